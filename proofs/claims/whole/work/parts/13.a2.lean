def sreps : List (String × Nat) := [("FusedUnit$Tape", 55), ("FusedUnit$UnitReader", 28), ("FusedUnit$Tape", 96), ("FusedUnit$Tape", 98), ("FusedUnit$Tape", 100), ("FusedUnit$Tape", 102), ("FusedUnit$Tape", 104), ("FusedUnit$Tape", 106), ("FusedUnit$Tape", 108), ("FusedUnit$Tape", 110), ("FusedUnit$Tape", 112), ("FusedUnit$Tape", 114), ("FusedUnit$Tape", 116), ("FusedUnit$Tape", 118), ("FusedUnit$Tape", 120), ("FusedUnit$Tape", 122), ("FusedUnit$Tape", 124), ("FusedUnit$LawReader", 78), ("FusedUnit$LawReader", 80), ("FusedUnit$LawReader", 82), ("FusedUnit$LawReader", 84)]
def stm (i : Nat) : Term := .string (sreps.getD i ("", 0)).1 (sreps.getD i ("", 0)).2
def stf (i : Nat) : Term := .field (stm i) "java/lang/String" "value" "[B"
def stw (i : Nat) : List Cond := [.exactly (stm i) "java/lang/String", .eq (.field (stm i) "java/lang/String" "coder" "B") (.int 0), .arrayOf (stf i) .byte, .eq (.length (stf i)) (.int (Int32.ofNat (slen.getD i 0)))] ++ (List.range (slen.getD i 0)).map (fun j => .eq (.elem (stf i) (.int (Int32.ofNat j))) (.int ((sbyt.getD i []).getD j 0)))
def gFl : List Cond := flatC (Jvm.Cond.and given_1 narrow_1)
set_option maxRecDepth 1000000 in
theorem stw_in : (List.range 21).all (fun i => (stw i).all (fun w => decide (w ∈ gFl))) = true := by decide +kernel
set_option maxRecDepth 1000000 in
theorem srf_in : srefs.all (fun q => decide (Cond.stringRef q.1 q.2.1 q.2.2.1 ∈ lw_tbl) && (decide (sreps.getD q.2.2.2 ("", 0) = (q.1, q.2.1)) || decide (Cond.eq (stm q.2.2.2) (.string q.1 q.2.1) ∈ gFl)) && decide (q.2.2.2 < 21)) = true := by decide +kernel
theorem sdis : (List.range 21).all (fun i => (List.range 21).all (fun j => decide (i = j) || decide (slen.getD i 0 ≠ slen.getD j 0) || (List.range (slen.getD i 0)).any (fun k => decide ((sbyt.getD i []).getD k 0 ≠ (sbyt.getD j []).getD k 0)))) = true := by decide +kernel
theorem slen_lt : ∀ i, i < 21 → slen.getD i 0 < 100 := by decide
section START
variable {s : State} {args : Array Value} {A : Nat → Prop}
theorem str_start (ht : ∀ w ∈ lw_tbl, w.before args s = true) (hg : ∀ w ∈ gFl, w.before args s = true) (hA : ∀ a : Nat, a < s.heap.size → ¬ A a) :
    ∃ adK adV : Nat → Nat, vk_S nSC slen sbyt adK adV A s s.heap ∧ ∀ q ∈ srefs, vk_R q.1 q.2.1 q.2.2.1 (adK q.2.2.2) s := by
  have hw : ∀ i, i < 21 → ∀ w ∈ stw i, w.before args s = true := fun i hi w h => by
    have h1 := List.all_eq_true.mp stw_in i (List.mem_range.mpr hi)
    exact hg w (of_decide_eq_true (List.all_eq_true.mp h1 w h))
  have h0 : ∀ i : Nat, ∃ q : Nat × Nat, i < 21 → (stm i).eval args s none [] s = some (.ref q.1) ∧ va_O "java/lang/String" q.1 A s s.heap ∧ va_OF "java/lang/String" "coder" "B" (.int 0) q.1 A s s.heap ∧ va_OF "java/lang/String" "value" "[B" (.ref q.2) q.1 A s s.heap ∧ va_T .byte q.2 (slen.getD i 0) (fun j => .int ((sbyt.getD i []).getD j 0)) A s s.heap := by
    intro i
    by_cases hi : i < 21
    · have w := hw i hi
      obtain ⟨k, v, h1, h2⟩ := vk_Sof (args := args) (s := s) (N := 1) (tm := fun _ => stm i) (len := [slen.getD i 0]) (byt := [sbyt.getD i []]) (A := A)
        (fun j hj => by
          have := slen_lt i hi
          have e : j = 0 := by omega
          subst e
          show slen.getD i 0 < 2 ^ 31
          omega)
        (fun j hj => w _ (by simp [stw])) (fun j hj => w _ (by simp [stw])) (fun j hj => w _ (by simp [stw, stf]))
        (fun j hj => by
          have e : j = 0 := by omega
          subst e
          exact w _ (by simp [stw, stf]))
        (fun j hj k hk => by
          have e : j = 0 := by omega
          subst e
          refine w _ (List.mem_append_right _ (List.mem_map.mpr ⟨k, List.mem_range.mpr hk, rfl⟩)))
        (fun j k hj hk hne => absurd (show j = k by omega) hne) hA
      obtain ⟨a1, a2, a3, a4⟩ := h1.1 0 (by omega)
      exact ⟨(k 0, v 0), fun _ => ⟨h2 0 (by omega), a1, a2, a3, a4⟩⟩
    · exact ⟨(0, 0), fun h => absurd h hi⟩
  obtain ⟨ad, had⟩ := Classical.axiomOfChoice h0
  refine ⟨fun i => (ad i).1, fun i => (ad i).2, ⟨fun i hi => (had i hi).2, fun i j hi hj e => ?_⟩, fun q hq => ?_⟩
  · have e : (ad i).1 = (ad j).1 := e
    obtain ⟨-, -, -, v1, t1⟩ := had i hi
    obtain ⟨-, -, -, v2, t2⟩ := had j hj
    obtain ⟨c1, k1, f1, g1, l1, p1, -, p3, -, p5, -⟩ := v1
    obtain ⟨c2, k2, f2, g2, l2, r1, -, r3, -, r5, -⟩ := v2
    rw [p1] at r1
    cases r1
    rw [← e, p3] at r3
    cases r3
    have e2 : (ad i).2 = (ad j).2 := by
      have h9 := Option.some.inj (p5.symm.trans r5)
      injection h9 with h9
    obtain ⟨x1, y1, -, -, -, z1, w1, -⟩ := t1
    obtain ⟨x2, y2, -, -, -, z2, w2, -⟩ := t2
    rw [← e2, y1] at y2
    cases y2
    have hl : slen.getD i 0 = slen.getD j 0 := by
      have h9 := z1.symm.trans z2
      have b1 := slen_lt i hi
      have b2 := slen_lt j hj
      rw [← ii_nat, ← ii_nat, ii_eq (by omega) (by omega) (by omega) (by omega)] at h9
      omega
    have h1 := List.all_eq_true.mp (List.all_eq_true.mp sdis i (List.mem_range.mpr hi)) j (List.mem_range.mpr hj)
    simp only [Bool.or_eq_true, decide_eq_true_eq] at h1
    rcases h1 with (h1 | h1) | h1
    · exact h1
    · exact absurd hl h1
    · obtain ⟨k, hk, hne⟩ := List.any_eq_true.mp h1
      have hk := List.mem_range.mp hk
      have hne := of_decide_eq_true hne
      have u1 := w1 k hk
      have u2 := w2 k (hl ▸ hk)
      rw [u1] at u2
      have u3 := Option.some.inj u2
      injection u3 with u3
      exact absurd u3 hne
  · have h1 := List.all_eq_true.mp srf_in q hq
    simp only [Bool.and_eq_true, Bool.or_eq_true, decide_eq_true_eq] at h1
    obtain ⟨⟨h1, h2⟩, h3⟩ := h1
    have hev := (had q.2.2.2 h3).1
    refine vk_R.of (ht _ h1) ?_
    rcases h2 with h2 | h2
    · unfold stm at hev
      rw [h2] at hev
      exact hev
    · exact va_eqR (hg _ h2) hev
theorem k_start (ht : ∀ w ∈ TB, w.before args s = true) (ho2 : va_AO RX2 s) (ho7 : va_AO RX7 s) : ∃ (D : va_G) (cy : Nat → ClassId), va_K D vwCl (tyl cy) s := by
  have h0 : ∀ k : Nat, ∃ d : ClassId × (Nat → Nat), ∀ q : vw_C, vwCl[k]? = some q → u_Kn s q.1 q.2.1 q.2.2 d.1 d.2 := by
    intro k
    match k with
    | 0 =>
      obtain ⟨cC, iS, h⟩ := u_known (C := RX0) (T := TX0) (N := 8) (n := 8) ht inTB_0 (ht _ qin_0)
      exact ⟨(cC, iS), fun q hq => by cases hq; exact h⟩
    | 1 =>
      obtain ⟨cC, iS, h⟩ := u_known (C := RX1) (T := TX1) (N := 12) (n := 12) ht inTB_1 (ht _ qin_1)
      exact ⟨(cC, iS), fun q hq => by cases hq; exact h⟩
    | 2 =>
      obtain ⟨cC, iS, h⟩ := u_known (C := RX2) (T := TX2) (N := 8) (n := 8) ht inTB_2 (ht _ qin_2)
      exact ⟨(cC, iS), fun q hq => by cases hq; exact h⟩
    | 3 =>
      obtain ⟨cC, iS, h⟩ := u_known (C := RX3) (T := TX3) (N := 2) (n := 2) ht inTB_3 (ht _ qin_3)
      exact ⟨(cC, iS), fun q hq => by cases hq; exact h⟩
    | 4 =>
      obtain ⟨cC, iS, h⟩ := u_known (C := RX4) (T := TX4) (N := 4) (n := 4) ht inTB_4 (ht _ qin_4)
      exact ⟨(cC, iS), fun q hq => by cases hq; exact h⟩
    | 5 =>
      obtain ⟨cC, iS, h⟩ := u_known (C := RX5) (T := TX5) (N := 2) (n := 2) ht inTB_5 (ht _ qin_5)
      exact ⟨(cC, iS), fun q hq => by cases hq; exact h⟩
    | 6 =>
      obtain ⟨cC, iS, h⟩ := u_known (C := RX6) (T := TX6) (N := 3) (n := 3) ht inTB_6 (ht _ qin_6)
      exact ⟨(cC, iS), fun q hq => by cases hq; exact h⟩
    | 7 =>
      obtain ⟨cC, iS, h⟩ := u_known (C := RX7) (T := TX7) (N := 4) (n := 4) ht inTB_7 (ht _ qin_7)
      exact ⟨(cC, iS), fun q hq => by cases hq; exact h⟩
    | 8 =>
      obtain ⟨cC, iS, h⟩ := u_known (C := RX8) (T := TX8) (N := 8) (n := 8) ht inTB_8 (ht _ qin_8)
      exact ⟨(cC, iS), fun q hq => by cases hq; exact h⟩
    | 9 =>
      obtain ⟨cC, iS, h⟩ := u_known (C := RX9) (T := TX9) (N := 7) (n := 7) ht inTB_9 (ht _ qin_9)
      exact ⟨(cC, iS), fun q hq => by cases hq; exact h⟩
    | 10 =>
      obtain ⟨cC, iS, h⟩ := u_known (C := RX10) (T := TX10) (N := 2) (n := 2) ht inTB_10 (ht _ qin_10)
      exact ⟨(cC, iS), fun q hq => by cases hq; exact h⟩
    | 11 =>
      obtain ⟨cC, iS, h⟩ := u_known (C := RX11) (T := TX11) (N := 17) (n := 17) ht inTB_11 (ht _ qin_11)
      exact ⟨(cC, iS), fun q hq => by cases hq; exact h⟩
    | 12 =>
      obtain ⟨cC, iS, h⟩ := u_known (C := RX12) (T := TX12) (N := 29) (n := 29) ht inTB_12 (ht _ qin_12)
      exact ⟨(cC, iS), fun q hq => by cases hq; exact h⟩
    | k + 13 => exact ⟨(0, fun _ => 0), fun q hq => by cases hq⟩
  obtain ⟨d, hd⟩ := Classical.axiomOfChoice h0
  have pr : ∀ ty : FieldType, (∀ C, ty ≠ .object C) → Cond.arrayClass ty ∈ TB → ∃ cA, ArrOfT s cA ty ∧ s.vm.findClass ("[" ++ ty.toString) = some cA := fun ty hne hm => by
    obtain ⟨cA, kA, comp, f1, f2, f3⟩ := Cond.arrayClass_spec (ht _ hm)
    exact ⟨cA, fun N z => ⟨(fun k h => by cases h), kA, f2, comp, f3⟩, f1⟩
  have rf : ∀ C : String, va_AO C s → ∃ cA, ArrOfT s cA (.object C) ∧ va_RA s cA (.object C) := fun C ho => by
    obtain ⟨comp, cA, kA, f4, -, f2, f3, f1⟩ := Cond.arrayOver_spec (args := #[]) (va_AO.use ho)
    exact ⟨cA, fun N z => ⟨(fun k h => by cases h), kA, f2, comp, f3⟩, kA, comp, f2, f3, f4, f1⟩
  obtain ⟨cC, aC, fC⟩ := pr .char (fun _ h => by cases h) qarr_C
  obtain ⟨cI, aI, fI⟩ := pr .int (fun _ h => by cases h) qarr_I
  obtain ⟨cJ, aJ, fJ⟩ := pr .long (fun _ h => by cases h) qarr_J
  obtain ⟨cZ, aZ, fZ⟩ := pr .boolean (fun _ h => by cases h) qarr_Z
  obtain ⟨cF, aF, fF⟩ := rf RX2 ho2
  obtain ⟨cS, aS, fS⟩ := rf RX7 ho7
  refine ⟨(fun k => (d k).1, fun k => (d k).2), fun k => match k with | 0 => cC | 1 => cI | 2 => cJ | 3 => cZ | 4 => cF | _ => cS, fun k q hq => hd k q hq, fun k q hq => ?_⟩
  match k, hq with
  | 0, hq => cases hq; exact ⟨aC, fC⟩
  | 1, hq => cases hq; exact ⟨aI, fI⟩
  | 2, hq => cases hq; exact ⟨aJ, fJ⟩
  | 3, hq => cases hq; exact ⟨aZ, fZ⟩
  | 4, hq => cases hq; exact ⟨aF, fF⟩
  | 5, hq => cases hq; exact ⟨aS, fS⟩
  | k + 6, hq => cases hq
end START
