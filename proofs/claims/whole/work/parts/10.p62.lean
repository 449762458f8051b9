section
section JMARK
variable {N N2 : Nat → Nat} {F : Nat} {S S2 S' S2' : HS} {x m : Nat} {A B : Nat → Nat} {b c nx n : Nat} {T : TT}
/- what laying a mark may change of the class -/
def MF (A : Nat → Nat) (S S' : HS) : Prop :=
  (∀ f p, ¬ (701 ≤ f ∧ f ≤ 703 ∧ ∃ j, j < 4 ∧ p = A (35 + j)) → gI S' f p = gI S f p) ∧ S'.2.2.1 = S.2.2.1 ∧ (∀ p, p ≠ A 19 → (∀ j, j < 4 → p ≠ A (95 + j)) → aI S' p = aI S p) ∧ S'.2.2.2.2 = S.2.2.2.2
def tMk (T : TT) (k : Nat) : TT := (tU T, tP T, tN T, tT T, tS T, tD T, tQ T, fun j => if j = k then some (tN T) else tM T j)
theorem RX.mf (h : RX N S x A b c nx T) (hF : MF A S S') {mk : Nat → Option STt} (hm : XMK S' A (tU T) mk) : RX N S' x A b c nx (tU T, tP T, tN T, tT T, tS T, tD T, tQ T, mk) := by
  obtain ⟨⟨a1, a2, a3, a4, a5⟩, c2, c3, c4, c5, c6, c7, c8⟩ := h
  have hA := a1
  have e : ∀ q, q ≠ 19 → ¬ (95 ≤ q ∧ q < 99) → aI S' (A q) = aI S (A q) := fun q hq hq2 => hF.2.2.1 _ (by rw [ne_eq, hA]; exact hq) (fun j hj => by rw [ne_eq, hA]; omega)
  have g : ∀ f p, ¬ (701 ≤ f ∧ f ≤ 703) → gI S' f p = gI S f p := fun f p hf => hF.1 f p (fun r => hf ⟨r.1, r.2.1⟩)
  have ts : ∀ s t, ¬ (35 ≤ s ∧ s < 39) → s ≠ 19 → s < 1000 → TS S A (tU T) s t → TS S' A (tU T) s t := fun s t hs _ _ ht => ht.congr (fun f f1 f2 => hF.1 f _ (fun r => by
    obtain ⟨_, _, j, j1, j2⟩ := r
    have := (hA _ _).mp j2
    omega)) (e _ (by omega) (by omega))
  have c4' := c4.1
  have c6' := c6.2.2.1
  refine ⟨⟨a1, a2, by rw [hF.2.1, hF.2.2.2]; exact a3, a4.mono (fun f p hf => g f p (by omega)) hF.2.1 hF.2.2.2, a5⟩, ts _ _ (by omega) (by omega) (by omega) c2, ⟨by rw [g 801 _ (by omega)]; exact c3.1, by rw [e 1 (by omega) (by omega)]; exact c3.2⟩, ⟨c4.1, by rw [gR_of hF.2.1]; exact c4.2.1, by rw [gR_of hF.2.1]; exact c4.2.2.1, by rw [g 501 _ (by omega)]; exact c4.2.2.2.1, fun i l hl => by rw [e (32 + 2 * c) (by omega) (by omega)]; exact c4.2.2.2.2 i l hl⟩, ⟨by rw [g 1115 _ (by omega)]; exact c5.1, fun i q hq => by rw [e 20 (by omega) (by omega), e 21 (by omega) (by omega)]; exact c5.2 i q hq⟩, ⟨by rw [g 402 _ (by omega)]; exact c6.1, by rw [g 403 _ (by omega)]; exact c6.2.1, c6.2.2.1, c6.2.2.2.1, c6.2.2.2.2.mono (fun j _ => ⟨fun t ht => ts _ _ (by omega) (by omega) (by omega) ht, by rw [e 15 (by omega) (by omega)]⟩)⟩, ?_, hm⟩
  obtain ⟨h1, h2, h3, h4, h5, h6⟩ := c7
  exact ⟨by rw [g 109 _ (by omega)]; exact h1, by rw [g 110 _ (by omega)]; exact h2, by rw [g 111 _ (by omega)]; exact h3, h4, h5.bk (fun j j1 j2 i _ => by rw [e j (by omega) (by omega)]), h6.mono (fun i _ => by rw [e 12 (by omega) (by omega)]) (fun _ _ _ q => q)⟩
theorem YST.move3 {W W' : Nat → Int32} {fr to : Nat} {U : UNt} {t : STt} (h : YST W fr U t) (hw : ∀ i, i < 10 → i ≠ 3 → W' (to + i) = W (fr + i)) : YST W' to U t := by
  have e0 := hw 0 (by omega) (by omega)
  rw [Nat.add_zero, Nat.add_zero] at e0
  refine ⟨by rw [e0]; exact h.1, by rw [hw 1 (by omega) (by omega)]; exact h.2.1, by rw [hw 2 (by omega) (by omega)]; exact h.2.2.1, fun r hr => ?_⟩
  rw [Nat.add_assoc, hw (4 + r) (by omega) (by omega), ← Nat.add_assoc]; exact h.2.2.2 r hr
theorem y_mark (hF : 3000 ≤ F) (hM : RY N2 S2 m B T) {k : Nat} (hk : k < 4) (w : Bool) {t : STt} (ht : w = true → tM T k = some t) :
    ∃ S2', s_X12_mark_J29 N2 F m (ii k) (b2 w) S2 = some (1, S2') ∧ RY N2 S2' m B (if w then (tU T, tP T, t, tT T, [], [], tQ T, tM T) else tMk T k) := by
  have hB := hM.1.1
  have hM0 := hM
  obtain ⟨a1, ⟨a2, a3⟩, ⟨q1, q2, q3⟩, ⟨v1, v2, v3⟩, a5, a6, _⟩ := hM
  obtain ⟨g1, g2⟩ := y_st a1
  have g3 : gR S2 1219 m = some (B 12) := a1.2.1.2.1.2.2.2.2.1
  have g4 : N2 (B 12) = 4 := a1.2.1.2.2.2.2.2.2.2.1
  have ik : inB (ii (k : Int)) (N2 (B 12)) = true := by rw [g4]; exact in_of (z := k) rfl (by omega) (by decide)
  have ck := cl_of (x := ii (k : Int)) (z := k) rfl (by omega)
  have b3 : inB (3 : Int32) (N2 (B 11)) = true := by rw [g2]; decide
  have b10 : inB (10 : Int32) (N2 (B 11)) = true := by rw [g2]; decide
  have i3 : ((3 : Int32).toNatClampNeg) = 3 := by decide
  have i10 : ((10 : Int32).toNatClampNeg) = 10 := by decide
  have n1 : vp_nar .boolean 1 = b2 true := rfl
  have e28 : (28 : Int32) * (1 + ii (k : Int)) = ii (28 * (1 + k) : Nat) := by rw [k1, ii_add, k28, ii_mul]; congr 1
  have e0 : ∀ j, aI (wI S2 (B 12) k (b2 true)) (B 11) j = aI S2 (B 11) j := fun j => by rw [aI_wI_o _ _ _ _ (by rw [ne_eq, hB]; decide)]
  unfold s_X12_mark_J29
  rw [g3, bd1_some, if_pos ik, bnd_def, ck, n1, gR_wI, g1, bd1_some, if_pos b3, bnd_def, i3, e0 3, a3]
  cases w with
  | false =>
    rw [if_pos (show b2 false = (0 : Int32) from rfl), show s_X12_mark_J58 N2 F m (ii k) (b2 false) (ii (tQ T).length) m 0 (wI S2 (B 12) k (b2 true)) = s_X12_mark_J72 N2 F m (b2 false) (ii (tQ T).length) m 0 (28 * (1 + ii k)) (wI S2 (B 12) k (b2 true)) from by unfold s_X12_mark_J58; exact if_pos (show b2 false = (0 : Int32) from rfl), e28]
    obtain ⟨S4, m1, m2, m3, m4⟩ := y_moves (F := F) (S := wI S2 (B 12) k (b2 true)) (m := m) (fr := 0) (to := 28 * (1 + k)) (by omega) (by rw [gR_wI]; exact g1) g2 (by omega) (by omega) (by omega)
    have m1' : s_X12_moves N2 F m 0 (ii (28 * (1 + k) : Nat)) 10 (wI S2 (B 12) k (b2 true)) = some S4 := m1
    have gg : gR S4 1217 m = some (B 11) := by rw [gR_of m2.2.2.1, gR_wI]; exact g1
    have w10 : aI (wI S4 (B 11) 3 (ii (tQ T).length)) (B 11) 10 = aI S4 (B 11) 10 := by rw [aI_wI_s]; exact if_neg (by decide)
    unfold s_X12_mark_J72
    rw [m1', bd1_some, gg, bd1_some, if_pos b3, bnd_def, i3, gR_wI, gg, bd1_some, if_pos (show b2 false = (0 : Int32) from rfl), bd1_some, if_pos b10, i10, w10]
    unfold s_X12_mark_J105
    rw [if_pos b10, bnd_def, i10, if_pos (show b2 false = (0 : Int32) from rfl)]
    unfold s_X12_mark_J119
    rw [bnd_def]
    refine ⟨_, rfl, ?_⟩
    rw [if_neg (by decide)]
    have hwf : WF m B S2 (uI (wI (wI S4 (B 11) 3 (ii (tQ T).length)) (B 11) 10 (aI S4 (B 11) 10)) 1218 m (gI (wI (wI S4 (B 11) 3 (ii (tQ T).length)) (B 11) 10 (aI S4 (B 11) 10)) 1218 m)) := (((((WF.refl m B S2).mk k (b2 true)).trans m2.wf).row 3 _).row 10 _).und _
    generalize hS5 : uI (wI (wI S4 (B 11) 3 (ii (tQ T).length)) (B 11) 10 (aI S4 (B 11) 10)) 1218 m (gI (wI (wI S4 (B 11) 3 (ii (tQ T).length)) (B 11) 10 (aI S4 (B 11) 10)) 1218 m) = S5 at hwf
    have eW : ∀ j, aI S5 (B 11) j = if j = 3 then ii (tQ T).length else if 28 * (1 + k) ≤ j ∧ j < 28 * (1 + k) + 10 then aI S2 (B 11) (j - 28 * (1 + k)) else aI S2 (B 11) j := by
      intro j
      rw [← hS5]
      show aI (wI (wI S4 (B 11) 3 (ii (tQ T).length)) (B 11) 10 (aI S4 (B 11) 10)) (B 11) j = _
      rw [aI_wI_s, aI_wI_s]; dsimp only
      by_cases w1 : j = 10
      · rw [if_pos w1, if_neg (by omega), m4, w1, if_neg (by omega), if_neg (by omega), e0]
      · rw [if_neg w1]
        by_cases w2 : j = 3
        · rw [if_pos w2, if_pos w2]
        · rw [if_neg w2, if_neg w2, m4]
          by_cases w3 : 28 * (1 + k) ≤ j ∧ j < 28 * (1 + k) + 10
          · rw [if_pos w3, if_pos w3, e0, Nat.zero_add]
          · rw [if_neg w3, if_neg w3, e0]
    have e12 : ∀ j, aI S5 (B 12) j = if j = k then b2 true else aI S2 (B 12) j := by
      intro j
      rw [← hS5]
      show aI (wI (wI S4 (B 11) 3 (ii (tQ T).length)) (B 11) 10 (aI S4 (B 11) 10)) (B 12) j = _
      rw [aI_wI_o _ _ _ _ (by rw [ne_eq, hB]; decide), aI_wI_o _ _ _ _ (by rw [ne_eq, hB]; decide), m2.2.2.2.1 (B 12) (by rw [ne_eq, hB]; decide) (by rw [ne_eq, hB]; decide) (by rw [ne_eq, hB]; decide), aI_wI_s]
    have eg : gI S5 1218 m = gI S2 1218 m := by
      rw [← hS5, gI_uI, if_pos ⟨rfl, rfl⟩, gI_wI, gI_wI, gI_of m3, gI_wI]
    refine hM0.wf hwf ⟨a2.congr (fun i _ i2 => ?_), by rw [eW, if_pos rfl]⟩ ⟨by rw [eW, if_neg (by omega), if_neg (by omega)]; exact q1, q2, fun i q hq => ?_⟩ ⟨by rw [eg]; exact v1, v2, v3.congr (fun i i1 _ => by rw [eW, if_neg (by omega), if_neg (by omega)])⟩ ?_
    · rw [eW]
      by_cases w2 : i = 3
      · rw [if_pos w2, w2, a3]
      · rw [if_neg w2, if_neg (by omega)]
    · have hi : i < (tS T).length := (List.getElem?_eq_some_iff.mp hq).1
      rw [eW, if_neg (by omega), if_neg (by omega), eW, if_neg (by omega), if_neg (by omega)]; exact q3 i q hq
    · intro j hj
      rw [e12]
      by_cases w2 : j = k
      · subst w2
        rw [if_pos rfl]
        refine ⟨by simp, fun t ht => ?_⟩
        simp at ht
        subst ht
        refine YST.move (fr := 0) a2 (fun i i1 => ?_)
        rw [eW, if_neg (by omega), if_pos (by omega), Nat.add_sub_cancel_left, Nat.zero_add]
      · rw [if_neg w2]
        simp only [if_neg w2]
        refine ⟨(a5 j hj).1, fun t ht => ((a5 j hj).2 t ht).congr (fun i i1 i2 => ?_)⟩
        rw [eW, if_neg (by omega), if_neg (by omega)]
  | true =>
    have hmk := ht rfl
    have nz : ¬ b2 true = (0 : Int32) := by decide
    rw [if_neg nz, show s_X12_mark_J58 N2 F m (ii k) (b2 true) (ii (tQ T).length) m (28 * (1 + ii k)) (wI S2 (B 12) k (b2 true)) = s_X12_mark_J72 N2 F m (b2 true) (ii (tQ T).length) m (28 * (1 + ii k)) 0 (wI S2 (B 12) k (b2 true)) from by unfold s_X12_mark_J58; exact if_neg nz, e28]
    obtain ⟨S4, m1, m2, m3, m4⟩ := y_moves (F := F) (S := wI S2 (B 12) k (b2 true)) (m := m) (fr := 28 * (1 + k)) (to := 0) (by omega) (by rw [gR_wI]; exact g1) g2 (by omega) (by omega) (by omega)
    have m1' : s_X12_moves N2 F m (ii (28 * (1 + k) : Nat)) 0 10 (wI S2 (B 12) k (b2 true)) = some S4 := m1
    have gg : gR S4 1217 m = some (B 11) := by rw [gR_of m2.2.2.1, gR_wI]; exact g1
    unfold s_X12_mark_J72
    rw [m1', bd1_some, gg, bd1_some, if_pos b3, bnd_def, i3, gR_wI, gg, bd1_some, if_neg nz]
    unfold s_X12_mark_J105
    rw [if_pos b10, bnd_def, i10, if_neg nz]
    unfold s_X12_mark_J119
    rw [bnd_def]
    refine ⟨_, rfl, ?_⟩
    rw [if_pos rfl]
    have hwf : WF m B S2 (uI (wI (wI S4 (B 11) 3 (ii (tQ T).length)) (B 11) 10 0) 1218 m 0) := (((((WF.refl m B S2).mk k (b2 true)).trans m2.wf).row 3 _).row 10 _).und _
    generalize hS5 : uI (wI (wI S4 (B 11) 3 (ii (tQ T).length)) (B 11) 10 0) 1218 m 0 = S5 at hwf
    have eW : ∀ j, aI S5 (B 11) j = if j = 10 then 0 else if j = 3 then ii (tQ T).length else if j < 10 then aI S2 (B 11) (28 * (1 + k) + j) else aI S2 (B 11) j := by
      intro j
      rw [← hS5]
      show aI (wI (wI S4 (B 11) 3 (ii (tQ T).length)) (B 11) 10 0) (B 11) j = _
      rw [aI_wI_s, aI_wI_s]; dsimp only
      by_cases w1 : j = 10
      · rw [if_pos w1, if_pos w1]
      · rw [if_neg w1, if_neg w1]
        by_cases w2 : j = 3
        · rw [if_pos w2, if_pos w2]
        · rw [if_neg w2, if_neg w2, m4]
          by_cases w3 : j < 10
          · rw [if_pos (by omega), if_pos w3, e0, Nat.sub_zero]
          · rw [if_neg (by omega), if_neg w3, e0]
    have e12 : ∀ j, aI S5 (B 12) j = if j = k then b2 true else aI S2 (B 12) j := by
      intro j
      rw [← hS5]
      show aI (wI (wI S4 (B 11) 3 (ii (tQ T).length)) (B 11) 10 0) (B 12) j = _
      rw [aI_wI_o _ _ _ _ (by rw [ne_eq, hB]; decide), aI_wI_o _ _ _ _ (by rw [ne_eq, hB]; decide), m2.2.2.2.1 (B 12) (by rw [ne_eq, hB]; decide) (by rw [ne_eq, hB]; decide) (by rw [ne_eq, hB]; decide), aI_wI_s]
    have eg : gI S5 1218 m = 0 := by rw [← hS5, gI_uI, if_pos ⟨rfl, rfl⟩]
    refine hM0.wf hwf ⟨?_, by rw [eW, if_neg (by omega), if_pos rfl]⟩ ⟨by rw [eW, if_pos rfl]; rfl, by simp, fun i q hq => by simp at hq⟩ ⟨by rw [eg]; rfl, by simp, trivial⟩ ?_
    · refine YST.move3 ((a5 k hk).2 t hmk) (fun i i1 i2 => ?_)
      rw [Nat.zero_add, eW, if_neg (by omega), if_neg i2, if_pos i1]
    · intro j hj
      rw [e12]
      refine ⟨?_, fun t ht => ((a5 j hj).2 t ht).congr (fun i i1 i2 => by rw [eW, if_neg (by omega), if_neg (by omega), if_neg (by omega)])⟩
      by_cases w2 : j = k
      · subst w2; rw [if_pos rfl, hmk]; rfl
      · rw [if_neg w2]; exact (a5 j hj).1
theorem j_mark (hF : 3000 ≤ F) (hX : RX N S x A b c nx T) (hM : RY N2 S2 m B T) (hT : TOK n T) (hnx : nx ≤ n) (p : Int32) (w : Bool) : JO N N2 x m A B b c n (s_X11_mark N F x p (b2 w) S) (s_X12_mark N2 F m p (b2 w) S2) := by
  obtain ⟨S1, hS1, hM1, y0⟩ := base0 hM 0
  obtain ⟨z, rfl, z1, z2⟩ := zI p
  have hA := hX.1.1
  have hB := hM1.1.1
  unfold s_X11_mark s_X12_mark
  rw [bnd_def, ← hS1, show s_X12_within (ii z) 0 3 S1 = b2 (decide (0 ≤ z ∧ z ≤ 3)) from y_within z 0 3 z1 z2 (by omega) (by omega) (by omega) (by omega)]
  have c0 : (ii z < (0 : Int32)) = (z < 0) := by rw [k0, ii_lt (by omega) (by omega) (by omega) (by omega)]
  have c4 : (ii z < (4 : Int32)) = (z < 4) := by rw [k4, ii_lt (by omega) (by omega) (by omega) (by omega)]
  simp only [b2_0, c0, c4, decide_eq_false_iff_not]
  by_cases hz : z < 0
  · rw [if_pos hz, if_pos (show ¬ (0 ≤ z ∧ z ≤ 3) by omega)]; exact jo_none hX hM1 hT hnx _
  rw [if_neg hz]
  by_cases hz4 : ¬ z < 4
  · rw [if_neg hz4, if_pos (show ¬ (0 ≤ z ∧ z ≤ 3) by omega)]; exact jo_none hX hM1 hT hnx _
  rw [if_pos (Decidable.not_not.mp hz4), if_neg (show ¬ ¬ (0 ≤ z ∧ z ≤ 3) by omega)]
  obtain ⟨k, rfl⟩ : ∃ k : Nat, z = k := ⟨z.toNat, by omega⟩
  have hk : k < 4 := by omega
  have e6 : gR S 1106 x = some (A 18) := hX.1.2.2.1.2.1.1
  have e7 : gR S 1107 x = some (A 19) := hX.1.2.2.1.2.1.2.1
  have e4 : gR S 1104 x = some (A 16) := (x_add hX).2.1
  have n18 : N (A 18) = 4 := hX.1.2.1.1.2.2.2.1
  have n19 : N (A 19) = 4 := hX.1.2.1.1.2.2.2.2.1
  have i18 : inB (ii (k : Int)) (N (A 18)) = true := by rw [n18]; exact in_of (z := k) rfl (by omega) (by decide)
  have i19 : inB (ii (k : Int)) (N (A 19)) = true := by rw [n19]; exact in_of (z := k) rfl (by omega) (by decide)
  have ck := cl_of (x := ii (k : Int)) (z := k) rfl (by omega)
  have eR : aR S (A 18) k = some (A (35 + k)) := hX.1.2.2.1.2.2.2.1 k hk
  have h7 := hX.1.2.2.1.2.2.2.2.2.1
  have isk : isSt (35 + k) = true := by unfold isSt; simp; omega
  have mk := hX.2.2.2.2.2.2.2 k hk
  have g3 : gR S1 1219 m = some (B 12) := hM1.1.2.1.2.1.2.2.2.2.1
  have g4 : N2 (B 12) = 4 := hM1.1.2.1.2.2.2.2.2.2.2.1
  have i12 : inB (ii (k : Int)) (N2 (B 12)) = true := by rw [g4]; exact in_of (z := k) rfl (by omega) (by decide)
  have mk2 := (hM1.2.2.2.2.1 k hk).1
  cases w with
  | false =>
    rw [if_pos rfl, if_pos rfl, e6, bd1_some, if_pos i18, ck, eR, bd1_some, e4, bd1_some]
    obtain ⟨S3, c1, c2, c3⟩ := x_copy (F := F) (s := 16) (d := 35 + k) (by omega) hA hX.1.2.1 h7 hX.2.1 (by decide) isk (by omega)
    obtain ⟨S4, l1, l2⟩ := y_mark (F := F) (t := tN T) hF hM1 hk false (fun q => by simp at q)
    rw [c1, bd1_some, gR_of c3.2.2.1, e7, bd1_some, if_pos i19, bnd_def, show vp_nar .boolean 1 = b2 true from rfl, l1]
    rw [if_neg (by decide)] at l2
    have hmf : MF A S (wI S3 (A 19) k (b2 true)) := by
      refine ⟨fun f p hp => c3.1 f p (fun r => hp ⟨r.2.1, r.2.2, k, hk, r.1⟩), c3.2.2.1, fun p p1 p2 => ?_, c3.2.2.2.2⟩
      rw [aI_wI_o _ _ _ _ p1]
      exact c3.2.2.2.1 p (by have := p2 k hk; rw [show 60 + (35 + k) = 95 + k by omega]; exact this)
    refine ⟨_, _, _, nx, tMk T k, rfl, rfl, hX.mf hmf ?_, l2, ?_, by omega⟩
    · intro j hj
      have ej : ∀ i, aI (wI S3 (A 19) k (b2 true)) (A 19) i = if i = k then b2 true else aI S (A 19) i := fun i => by rw [aI_wI_s]; show (if i = k then _ else _) = _; rw [c3.2.2.2.1 (A 19) (by rw [ne_eq, hA]; omega)]
      rw [ej]
      by_cases w2 : j = k
      · subst w2
        rw [if_pos rfl]
        simp only [if_pos]
        refine ⟨rfl, fun t ht => ?_⟩
        have : tN T = t := by simpa using ht
        subst this
        exact c2.congr (fun f _ _ => rfl) (aI_wI_o _ _ _ _ (by rw [ne_eq, hA]; omega))
      · rw [if_neg w2]
        simp only [if_neg w2]
        have mj := hX.2.2.2.2.2.2.2 j hj
        refine ⟨mj.1, fun t ht => ((mj.2 t ht).sf hA c3.sf (by omega)).congr (fun f _ _ => rfl) (aI_wI_o _ _ _ _ (by rw [ne_eq, hA]; omega))⟩
    · obtain ⟨t1, t2, t3, t4, t5, t6, t7, t8, t9, t10⟩ := hT
      refine ⟨t1, t2, t3, t4, t5, t6, t7, t8, Nat.le_succ_of_le t9, fun j t ht => ?_⟩
      have ht' : (if j = k then some (tN T) else tM T j) = some t := ht
      by_cases w2 : j = k
      · rw [if_pos w2] at ht'; have := Option.some.inj ht'; subst this; exact t2
      · rw [if_neg w2] at ht'; exact t10 j t ht'
  | true =>
    rw [if_neg tf, if_neg tf, e7, bd1_some, if_pos i19, ck, mk.1, g3, bd1_some, if_pos i12, mk2]
    simp only [b2_0]
    cases hm : tM T k with
    | none => rw [if_pos (by rfl), if_pos (by rfl)]; exact jo_none hX hM1 hT hnx _
    | some t =>
      rw [if_neg (by simp), if_neg (by simp), e4, bd1_some, e6, bd1_some, if_pos i18, eR, bd1_some]
      have ts := mk.2 t hm
      obtain ⟨S3, c1, c2, c3⟩ := x_copy (F := F) (s := 35 + k) (d := 16) (by omega) hA hX.1.2.1 h7 ts isk (by decide) (by omega)
      obtain ⟨S4, l1, l2⟩ := y_mark (F := F) (t := t) hF hM1 hk true (fun _ => hm)
      have e3 : gR S3 1103 x = some (A 13) := by rw [gR_of c3.2.2.1]; exact hX.1.2.2.1.1.2.2.2.2.1
      rw [c1, bd1_some, e3, bd1_some, bnd_def, bnd_def, l1]
      rw [if_pos rfl] at l2
      have hof : OF A S (uI (uI S3 403 (A 13) 0) 1115 x 0) := by
        refine ⟨fun f p p1 p2 p3 p4 => ?_, c3.2.2.1, fun p p1 p2 p3 p4 p5 p6 p7 => c3.2.2.2.1 p (fun r => p5 (by rw [r])), c3.2.2.2.2⟩
        rw [gI_uI, if_neg (by omega), gI_uI, if_neg (fun r => p2 ⟨r.2, by omega, by omega⟩)]
        exact c3.1 f p (fun r => p3 ⟨r.2.1, r.2.2, Or.inl r.1⟩)
      obtain ⟨x1, x2, x3, x4, x5⟩ := hX.2.2.2.2.2.1
      refine ⟨_, _, _, nx, (tU T, tP T, t, tT T, [], [], tQ T, tM T), rfl, rfl, hX.of hof (c2.congr (fun f f1 f2 => by rw [gI_uI, if_neg (by omega), gI_uI, if_neg (by omega)]) rfl) ⟨by rw [gI_uI, if_pos ⟨rfl, rfl⟩]; rfl, fun i q hq => by simp at hq⟩ ⟨?_, ?_, by simp, x4, trivial⟩, l2, ?_, by omega⟩
      · rw [gI_uI, if_neg (by omega), gI_uI, if_neg (by omega), c3.1 402 _ (by omega)]; exact x1
      · rw [gI_uI, if_neg (by omega), gI_uI, if_pos ⟨rfl, rfl⟩]; rfl
      · obtain ⟨t1, t2, t3, t4, t5, t6, t7, t8, t9, t10⟩ := hT
        exact ⟨t1, t10 k t hm, t3, t4, ⟨by show ([] : List (Nat × Bool)).length ≤ 8; simp, fun q hq => (by cases hq)⟩, fun q hq => (by cases hq), by show nby [] ≤ _; simp [nby], t8, Nat.le_succ_of_le t9, t10⟩
end JMARK
end
section
section JTRIAL
variable {N N2 : Nat → Nat} {F : Nat} {S0 S20 S S2 S' S2' : HS} {x m : Nat} {A B : Nat → Nat} {b c nx n : Nat} {T : TT} {t : STt}
/- both sides' state on trial -/
def TJ (x m : Nat) (A B : Nat → Nat) (U : UNt) (S0 S20 : HS) (t : STt) (S S2 : HS) : Prop := XE A S0 S ∧ TS S A U 17 t ∧ YE m B S20 S2 ∧ YST (aI S2 (B 11)) 588 U t ∧ SOK U t
theorem RY.yw (hM : RY N2 S20 m B T) (h : YE m B S20 S2) : YW N2 S2 m B (tU T) := hM.1.wf h.wf
theorem XW.xe {U : UNt} (h : XW N S0 x A b U) (hF : XE A S0 S) : XW N S x A b U := h.of hF.of
theorem t_begin (hF : 3000 ≤ F) (hX : RX N S x A b c nx T) (hM : RY N2 S2 m B T) (hT : TOK n T) : gR S 1105 x = some (A 17) ∧ gR S 1104 x = some (A 16) ∧ ∃ S' S2', s_X7_copy N F (A 17) (A 16) S = some S' ∧ s_X12_triesNow N2 F m S2 = some S2' ∧ TJ x m A B (tU T) S S2 (tN T) S' S2' := by
  have hA := hX.1.1
  have h7 := hX.1.2.2.1.2.2.2.2.2.1
  obtain ⟨S3, c1, c2, c3⟩ := x_copy (F := F) (s := 16) (d := 17) (by omega) hA hX.1.2.1 h7 hX.2.1 (by decide) (by decide) (by omega)
  obtain ⟨g1, g2⟩ := y_st hM.1
  obtain ⟨S4, m1, m2, m3, m4⟩ := y_moves (F := F) (S := S2) (m := m) (fr := 0) (to := 588) (by omega) g1 g2 (by omega) (by omega) (by omega)
  have m1' : s_X12_moves N2 F m 0 588 10 S2 = some S4 := m1
  refine ⟨hX.1.2.2.1.1.2.2.2.2.2.2.2.2, (x_add hX).2.1, S3, S4, c1, by unfold s_X12_triesNow; rw [m1', bd1_some], c3.sf.xe, c2, m2.ye (fun i hi => by rw [m4, if_neg (by omega)]), ?_, hT.2.1⟩
  exact YST.move (fr := 0) hM.2.1.1 (fun i hi => by rw [m4, if_pos (by omega), Nat.add_sub_cancel_left])
theorem t_fuse (hF : 3000 ≤ F) (hX : XW N S0 x A b (tU T)) (hM : YW N2 S20 m B (tU T)) (hn : vN (tU T) ≠ 0) (h : TJ x m A B (tU T) S0 S20 t S S2) (i p q r : Nat) (h7 : i < vR (tU T) ∧ p < vR (tU T) ∧ q < vR (tU T) ∧ r < vR (tU T)) :
    ∃ S' S2', s_X11_fuse N F x (A 17) (ii i) (ii p) (ii q) (ii r) S = some (ii (fusR (tU T) t p q r).2.1, S') ∧ s_X12_multiplies N2 F m 588 (ii i) (ii p) (ii q) (ii r) S2 = some S2' ∧ TJ x m A B (tU T) S0 S20 (fus (tU T) t i p q r) S' S2' ∧ gI S2' 1220 m = ii (fusR (tU T) t p q r).2.1 ∧ gJ S' 1116 x = gJ S 1116 x ∧ gJ S2' 1228 m = gJ S2 1228 m := by
  obtain ⟨h1, h2, h3, h4, h5⟩ := h
  obtain ⟨S5, f1, f2, f3, f4⟩ := x_fuse (F := F) (by omega) (hX.xe h1) h2 h5 (show isSt 17 = true by decide) hn i p q r h7
  obtain ⟨S6, m1, m2, m3, m4, m5, m6, m7⟩ := y_mult (F := F) (o := 588) hF (hM.wf h3.wf) (Or.inr rfl) h4 h5 hn i p q r h7
  have hU := hM.2.2.2.2
  exact ⟨S5, S6, f1, m1, ⟨h1.trans f3.xe, f2, h3.trans (m2.ye (fun j hj => m4 j (by omega))), m3, fus_ok hU h5 hn i p q r⟩, m6, f3.2.1 1116 x (by decide), by unfold gJ; rw [m2.2.1]⟩
theorem t_reg (hX : XW N S0 x A b (tU T)) (hM : YW N2 S20 m B (tU T)) (h : TJ x m A B (tU T) S0 S20 t S S2) {r : Nat} (hr : r < vR (tU T)) :
    gR S 1105 x = some (A 17) ∧ s_X7_read N (A 17) (ii r) S = some (ii (t.2.2.2 r)) ∧ gR S2 1217 m = some (B 11) ∧ inB (592 + ii (r : Int)) (N2 (B 11)) = true ∧ aI S2 (B 11) (592 + ii (r : Int)).toNatClampNeg = ii (t.2.2.2 r) := by
  obtain ⟨h1, h2, h3, h4, h5⟩ := h
  have hx := hX.xe h1
  have hm := hM.wf h3.wf
  have hr6 := hM.2.2.2.2.2.1
  obtain ⟨g1, g2⟩ := y_st hm
  have e : (592 : Int32) + ii (r : Int) = ii ((592 + r : Nat) : Int) := by rw [show (592 : Int32) = ii 592 from rfl, ii_add]; congr 1
  refine ⟨hx.2.2.1.1.2.2.2.2.2.2.2.2, x_read hx h2 (by decide) r (by omega), g1, by rw [e, g2]; exact in_of (z := 592 + r) rfl (by omega) (by decide), ?_⟩
  rw [e, cl_of (z := 592 + r) rfl (by omega)]
  have := h4.2.2.2 r (by omega)
  rw [← this, show 588 + 4 + r = 592 + r by omega]
theorem t_set_loop (hF : 3000 ≤ F) (hX : XW N S0 x A b (tU T)) (hM : YW N2 S20 m B (tU T)) (hn : vN (tU T) ≠ 0) (i p q r : Nat) (h7 : i < vR (tU T) ∧ p < vR (tU T) ∧ q < vR (tU T) ∧ r < vR (tU T)) : ∀ (k j M M2 : Nat) (t : STt) (S S2 : HS), j + k = 62 → k < M → k < M2 → TJ x m A B (tU T) S0 S20 t S S2 →
    ∃ v S' S2', s_X11_settles_L35 N F M x (ii i) (ii p) (ii q) (ii r) (ii j) S = some (v, S') ∧ s_X12_settles_L54 N2 F M2 m (ii i) (ii p) (ii q) (ii r) (ii j) S2 = some (v, S2') ∧ XE A S0 S' ∧ YE m B S20 S2' := by
  intro k
  induction k with
  | zero =>
    intro j M M2 t S S2 hj hM1 hM2 h
    obtain ⟨M, rfl⟩ : ∃ q, M = q + 1 := ⟨M - 1, by omega⟩
    obtain ⟨M2, rfl⟩ : ∃ q, M2 = q + 1 := ⟨M2 - 1, by omega⟩
    unfold s_X11_settles_L35 s_X12_settles_L54
    have : (60 : Int32) < ii (j : Int) := by rw [k60, ii_lt (by omega) (by omega) (by omega) (by omega)]; omega
    rw [if_pos this, if_pos this]
    exact ⟨_, _, _, rfl, rfl, h.1, h.2.2.1⟩
  | succ k ih =>
    intro j M M2 t S S2 hj hM1 hM2 h
    obtain ⟨M, rfl⟩ : ∃ q, M = q + 1 := ⟨M - 1, by omega⟩
    obtain ⟨M2, rfl⟩ : ∃ q, M2 = q + 1 := ⟨M2 - 1, by omega⟩
    unfold s_X11_settles_L35 s_X12_settles_L54
    by_cases w : (60 : Int32) < ii (j : Int)
    · rw [if_pos w, if_pos w]
      exact ⟨_, _, _, rfl, rfl, h.1, h.2.2.1⟩
    obtain ⟨S5, S6, f1, f2, f3, f4⟩ := t_fuse (F := F) hF hX hM hn h i p q r h7
    obtain ⟨a1, a2, a3, a4, a5⟩ := t_reg hX hM h h7.1
    obtain ⟨b1, b2', b3, b4, b5⟩ := t_reg hX hM f3 h7.1
    rw [if_neg w, if_neg w, a1, bd1_some, a2, bd1_some, bd1_some, f1, bd2_some, b1, bd1_some, b2', bd1_some, a3, bd1_some, if_pos a4, bnd_def, a5, bnd_def, f2, bd1_some, b3, bd1_some, if_pos a4, b5]
    by_cases w2 : ii ((fus (tU T) t i p q r).2.2.2 i : Nat) = ii (t.2.2.2 i)
    · rw [if_pos w2, if_pos w2]
      exact ⟨_, _, _, rfl, rfl, f3.1, f3.2.2.1⟩
    · rw [if_neg w2, if_neg w2, bnd_def, show Int32.ofInt 1 = ii 1 from rfl, ii_add]
      exact ih (j + 1) M M2 _ S5 S6 (by omega) (by omega) (by omega) f3
theorem j_settles (hF : 3000 ≤ F) (hX : RX N S x A b c nx T) (hM : RY N2 S2 m B T) (hT : TOK n T) (p0 p1 p2 p3 : Int32) : ∃ v S' S2', s_X11_settles N F x p0 p1 p2 p3 S = some (v, S') ∧ s_X12_settles N2 F m p0 p1 p2 p3 S2 = some (v, S2') ∧ XE A S S' ∧ YE m B S2 S2' := by
  obtain ⟨S1, hS1, hM1, y0⟩ := base0 hM 0
  obtain ⟨u1, u2⟩ := x_inUse hX.1 hX.2.1 hT.2.1
  obtain ⟨z0, rfl, c01, c02⟩ := zI p0
  obtain ⟨z1, rfl, c11, c12⟩ := zI p1
  obtain ⟨z2, rfl, c21, c22⟩ := zI p2
  obtain ⟨z3, rfl, c31, c32⟩ := zI p3
  have hfb := fI_b hT.2.1 hT.1
  unfold s_X11_settles s_X12_settles
  rw [bnd_def, ← hS1, y_used hM1.1 hM1.2.1.1, bd1_some]
  by_cases hn : vN (tU T) = 0
  · rw [u1 hn, bd1_some, mq_none, if_pos (show ii (fI (tU T) (tN T).1) < (0 : Int32) by unfold fI; rw [if_pos hn]; decide)]
    exact ⟨_, _, _, rfl, rfl, XE.refl _ _, y0⟩
  obtain ⟨o, o1, o2, o3⟩ := u2 hn
  have hfi : fI (tU T) (tN T).1 = ((tN T).1 : Int) := by unfold fI; rw [if_neg hn]
  rw [o1, bd1_some, mq_some, x_four hX.1 z0 z1 z2 z3 ⟨c01, c02⟩ ⟨c11, c12⟩ ⟨c21, c22⟩ ⟨c31, c32⟩, bd1_some, if_neg (show ¬ ii (fI (tU T) (tN T).1) < (0 : Int32) by rw [hfi, k0, ii_lt (by omega) (by omega) (by omega) (by omega)]; omega), y_four hM1 z0 z1 z2 z3 ⟨c01, c02⟩ ⟨c11, c12⟩ ⟨c21, c22⟩ ⟨c31, c32⟩]
  simp only [b2_0]
  cases hd : (decide (0 ≤ z0 ∧ z0 < vR (tU T)) && (decide (0 ≤ z1 ∧ z1 < vR (tU T)) && (decide (0 ≤ z2 ∧ z2 < vR (tU T)) && decide (0 ≤ z3 ∧ z3 < vR (tU T)))))
  · rw [if_pos rfl, if_pos rfl]; exact ⟨_, _, _, rfl, rfl, XE.refl _ _, y0⟩
  simp only [Bool.and_eq_true, decide_eq_true_eq] at hd
  obtain ⟨d0, d1, d2, d3⟩ := hd
  obtain ⟨i, rfl⟩ : ∃ r : Nat, z0 = r := ⟨z0.toNat, by omega⟩
  obtain ⟨p, rfl⟩ : ∃ r : Nat, z1 = r := ⟨z1.toNat, by omega⟩
  obtain ⟨q, rfl⟩ : ∃ r : Nat, z2 = r := ⟨z2.toNat, by omega⟩
  obtain ⟨r, rfl⟩ : ∃ r : Nat, z3 = r := ⟨z3.toNat, by omega⟩
  obtain ⟨e5, e4, S3, S4, b1, b2', b3⟩ := t_begin (F := F) hF hX hM1 hT
  rw [if_neg tf, if_neg tf, e5, bd1_some, e4, bd1_some, b1, bd1_some, b2', bd1_some]
  obtain ⟨v, S5, S6, r1, r2, r3, r4⟩ := t_set_loop (F := F) hF hX.1 hM1.1 hn i p q r ⟨by omega, by omega, by omega, by omega⟩ 62 0 F F (tN T) S3 S4 (by omega) (by omega) (by omega) b3
  exact ⟨v, S5, S6, r1, r2, r3, y0.trans r4⟩
end JTRIAL
end
section
section JDRAW
variable {N N2 : Nat → Nat} {F : Nat} {S0 S20 S S2 S' S2' : HS} {x m : Nat} {A B : Nat → Nat} {b c nx n : Nat} {T : TT} {t : STt}
theorem jrem {p q : Nat} (hp : p < 9223372036854775808) (hq : 0 < q) (hq2 : q < 9223372036854775808) : jj (p : Int) - jj (p : Int) / jj (q : Int) * jj (q : Int) = jj (p % q : Nat) := by
  rw [jj_div (by omega) (by omega) (by omega) (by omega), jj_mul, jj_sub]
  congr 1
  have := Nat.div_add_mod p q
  have e : ((p / q : Nat) : Int) * (q : Int) = ((q * (p / q) : Nat) : Int) := by rw [Nat.mul_comm]; push_cast; rfl
  rw [← Int.natCast_ediv, e]
  omega
def nxt (d : Nat) : Nat := (d * 1103515245 + 12345) % 2147483648
theorem t_draw (h : TJ x m A B (tU T) S0 S20 t S S2) {d k : Nat} (hd : d < 2147483648) (hk : 0 < k) (hk2 : k < 2147483648) (g1 : gJ S 1116 x = jj d) (g2 : gJ S2 1228 m = jj d) :
    s_X11_draw x (ii k) S = some (ii (nxt d / 65536 % k : Nat), uJ S 1116 x (jj (nxt d))) ∧ s_X12_draw m (ii k) S2 = some (ii (nxt d / 65536 % k : Nat), uJ S2 1228 m (jj (nxt d))) ∧ nxt d / 65536 % k < k ∧ nxt d < 2147483648 ∧ TJ x m A B (tU T) S0 S20 t (uJ S 1116 x (jj (nxt d))) (uJ S2 1228 m (jj (nxt d))) ∧ gJ (uJ S 1116 x (jj (nxt d))) 1116 x = jj (nxt d) ∧ gJ (uJ S2 1228 m (jj (nxt d))) 1228 m = jj (nxt d) := by
  have hn : nxt d < 2147483648 := Nat.mod_lt _ (by decide)
  have e1 : jj (d : Int) * 1103515245 + 12345 = jj (d * 1103515245 + 12345 : Nat) := by
    rw [show (1103515245 : Int64) = jj 1103515245 from rfl, show (12345 : Int64) = jj 12345 from rfl, jj_mul, jj_add]; congr 1
  have e2 : jj (d * 1103515245 + 12345 : Nat) &&& 2147483647 = jj (nxt d) := jj_mod (d * 1103515245 + 12345) 31
  have e3 : jj (d * 1103515245 + 12345 : Nat) - jj (d * 1103515245 + 12345 : Nat) / 2147483648 * 2147483648 = jj (nxt d) := jrem (p := d * 1103515245 + 12345) (q := 2147483648) (by omega) (by decide) (by decide)
  have e4 : ¬ (ii (k : Int)).toInt64 = 0 := by rw [ii_jj (by omega) (by omega), show (0 : Int64) = jj 0 from rfl, jj_eq (by omega) (by omega) (by omega) (by omega)]; omega
  have e5 : (jj (nxt d) / 65536 - jj (nxt d) / 65536 / (ii (k : Int)).toInt64 * (ii (k : Int)).toInt64).toInt32 = ii (nxt d / 65536 % k : Nat) := by
    rw [ii_jj (by omega) (by omega), show (65536 : Int64) = jj 65536 from rfl, jj_div (by omega) (by omega) (by omega) (by omega), show ((nxt d : Int) / 65536) = ((nxt d / 65536 : Nat) : Int) from rfl, jrem (by omega) hk (by omega), jj_ii]
  have ha : gJ (uJ S 1116 x (jj (nxt d))) 1116 x = jj (nxt d) := by rw [gJ_uJ, if_pos ⟨rfl, rfl⟩]
  have hb : gJ (uJ S2 1228 m (jj (nxt d))) 1228 m = jj (nxt d) := by rw [gJ_uJ, if_pos ⟨rfl, rfl⟩]
  refine ⟨?_, ?_, Nat.mod_lt _ hk, hn, h, ha, hb⟩
  · unfold s_X11_draw
    rw [bnd_def, g1, e1, e2, ha, if_pos (by rw [k0, ii_lt (by omega) (by omega) (by omega) (by omega)]; omega), if_pos e4, e5]
  · unfold s_X12_draw
    rw [bnd_def, g2, e1, e3, hb, if_pos e4, e5]
theorem t_mode (hA : ∀ i j, A i = A j ↔ i = j) (h : TJ x m A B (tU T) S0 S20 t S S2) {k : Nat} (hk : k < 6) : TJ x m A B (tU T) S0 S20 (t.1, k, t.2.2) (uI S 702 (A 17) (ii k)) (wI S2 (B 11) 589 (ii k)) := by
  obtain ⟨h1, h2, h3, h4, h5⟩ := h
  have eW : ∀ j, aI (wI S2 (B 11) 589 (ii k)) (B 11) j = if j = 589 then ii k else aI S2 (B 11) j := fun j => by rw [aI_wI_s]
  refine ⟨h1.trans ((SF.refl A 17 S).uI 702 _ (by omega)).xe, ?_, h3.trans (((VG.refl m B S2).row 589 (ii k)).ye (fun i hi => by rw [eW, if_neg (by omega)])), ?_, ⟨h5.1, hk, h5.2.2⟩⟩
  · obtain ⟨w0, w1, w2, w4⟩ := h2
    exact ⟨by rw [gI_uI, if_neg (by omega)]; exact w0, by rw [gI_uI, if_pos ⟨rfl, rfl⟩], by rw [gI_uI, if_neg (by omega)]; exact w2, w4⟩
  · obtain ⟨w0, w1, w2, w4⟩ := h4
    exact ⟨by rw [eW, if_neg (by omega)]; exact w0, by rw [eW, if_pos (by omega)], by rw [eW, if_neg (by omega)]; exact w2, fun j hj => by rw [eW, if_neg (by omega)]; exact w4 j hj⟩
theorem t_clear (hA : ∀ i j, A i = A j ↔ i = j) (h : TJ x m A B (tU T) S0 S20 t S S2) : TJ x m A B (tU T) S0 S20 (t.1, t.2.1, 0, t.2.2.2) (uI S 703 (A 17) 0) (wI S2 (B 11) 590 0) := by
  obtain ⟨h1, h2, h3, h4, h5⟩ := h
  have eW : ∀ j, aI (wI S2 (B 11) 590 0) (B 11) j = if j = 590 then 0 else aI S2 (B 11) j := fun j => by rw [aI_wI_s]
  refine ⟨h1.trans ((SF.refl A 17 S).uI 703 _ (by omega)).xe, ?_, h3.trans (((VG.refl m B S2).row 590 0).ye (fun i hi => by rw [eW, if_neg (by omega)])), ?_, ⟨h5.1, h5.2.1, by show 0 < 16; omega, h5.2.2.2⟩⟩
  · obtain ⟨w0, w1, w2, w4⟩ := h2
    exact ⟨by rw [gI_uI, if_neg (by omega)]; exact w0, by rw [gI_uI, if_neg (by omega)]; exact w1, by rw [gI_uI, if_pos ⟨rfl, rfl⟩]; rfl, w4⟩
  · obtain ⟨w0, w1, w2, w4⟩ := h4
    exact ⟨by rw [eW, if_neg (by omega)]; exact w0, by rw [eW, if_neg (by omega)]; exact w1, by rw [eW, if_pos (by omega)]; rfl, fun j hj => by rw [eW, if_neg (by omega)]; exact w4 j hj⟩
theorem t_nans_loop (hX : XW N S0 x A b (tU T)) (hM : YW N2 S20 m B (tU T)) (hn : vN (tU T) ≠ 0) (h : TJ x m A B (tU T) S0 S20 t S S2) {o : Nat} (hfm : FM S o (vK (tU T) t.1) (vE (tU T) t.1) (vF (tU T) t.1)) : ∀ (k j M M2 : Nat) (w : Int32), j + k = vR (tU T) → k < M → k < M2 →
    ∃ v, s_X11_nansOnTrial_L4 N F M x o w (ii j) S = some v ∧ s_X12_nans_L4 N2 F M2 m 588 w (ii j) S2 = some v := by
  have h0 := h
  obtain ⟨h1, h2, h3, h4, h5⟩ := h
  have hx := hX.xe h1
  have hm := hM.wf h3.wf
  have ht1 : t.1 < vN (tU T) := by rcases h5.1 with r | r; exact r; exact absurd r.1 hn
  obtain ⟨mu, fo⟩ := y_mu hm ht1
  have hr6 := hM.2.2.2.2.2.1
  have h4n := hM.2.2.2.2.1
  have e904 : gI S 904 (A (23 + 4 * b)) = ii (vR (tU T)) := hx.2.2.2.1.2.2.2.2.1
  have e1111 : gR S 1111 x = some (A (23 + 4 * b)) := hx.2.2.2.1.2.1
  have ergs := y_regs hm
  obtain ⟨g1, g2⟩ := y_st hm
  have i588 : inB ((588 : Int32) + 0) (N2 (B 11)) = true := by rw [g2]; decide
  have c588 : ((588 : Int32) + 0).toNatClampNeg = 588 := by decide
  have e588 : aI S2 (B 11) 588 = ii (t.1 : Int) := by rw [h4.1]; unfold fI; rw [if_neg hn]
  have e592 : (588 : Int32) + 4 = 592 := by decide
  intro k
  induction k with
  | zero =>
    intro j M M2 w hj hM1 hM2
    obtain ⟨M, rfl⟩ : ∃ q, M = q + 1 := ⟨M - 1, by omega⟩
    obtain ⟨M2, rfl⟩ : ∃ q, M2 = q + 1 := ⟨M2 - 1, by omega⟩
    unfold s_X11_nansOnTrial_L4 s_X12_nans_L4
    have hl : ii (vR (tU T) : Int) ≤ ii (j : Int) := by rw [ii_le (by omega) (by omega) (by omega) (by omega)]; omega
    rw [e1111, bd1_some, e904, if_pos hl, ergs, bd1_some, if_pos hl]
    exact ⟨_, rfl, rfl⟩
  | succ k ih =>
    intro j M M2 w hj hM1 hM2
    obtain ⟨M, rfl⟩ : ∃ q, M = q + 1 := ⟨M - 1, by omega⟩
    obtain ⟨M2, rfl⟩ : ∃ q, M2 = q + 1 := ⟨M2 - 1, by omega⟩
    unfold s_X11_nansOnTrial_L4 s_X12_nans_L4
    have hl : ¬ ii (vR (tU T) : Int) ≤ ii (j : Int) := by rw [ii_le (by omega) (by omega) (by omega) (by omega)]; omega
    obtain ⟨a1, a2, a3, a4, a5⟩ := t_reg hX hM h0 (show j < vR (tU T) by omega)
    have hb := h5.2.2.2 j (by omega)
    have q1 := x2_isNan (b := t.2.2.2 j) hfm fo
    have q2 := y_isNan (b := t.2.2.2 j) mu fo hb
    rw [e1111, bd1_some, e904, if_neg hl, a1, bd1_some, a2, bd1_some, q1, ergs, bd1_some, if_neg hl, a3, bd1_some, if_pos i588, bd1_some, e592, if_pos a4, a5, c588, e588, q2, bd1_some]
    simp only [b2_0]
    unfold s_X11_nansOnTrial_J33 s_X12_nans_J43
    have ej : ii (j : Int) + Int32.ofInt 1 = ii ((j + 1 : Nat) : Int) := by rw [show Int32.ofInt 1 = ii 1 from rfl, ii_add]; rfl
    cases hq : decide (nInf (vK (tU T) t.1) (vE (tU T) t.1) (vF (tU T) t.1) < nS (vE (tU T) t.1) (vF (tU T) t.1) (t.2.2.2 j))
    · rw [if_pos rfl, if_pos rfl, bnd_def, bnd_def, bnd_def, ej, Int32.add_zero]
      exact ih (j + 1) M M2 w (by omega) (by omega) (by omega)
    · rw [if_neg tf, if_neg tf, bnd_def, bnd_def, bnd_def, bnd_def, ej, show w + Int32.ofInt 1 = w + 1 from rfl]
      exact ih (j + 1) M M2 (w + 1) (by omega) (by omega) (by omega)
end JDRAW
end
section
section JPLANS
variable {N N2 : Nat → Nat} {F : Nat} {S0 S20 S S2 S' S2' : HS} {x m : Nat} {A B : Nat → Nat} {b c nx n : Nat} {T : TT} {t : STt}
/- how a question ends on both sides -/
def JE (m : Nat) (A B : Nat → Nat) (S S2 : HS) (X M : Option (Int32 × HS)) : Prop := ∃ v S' S2', X = some (v, S') ∧ M = some (v, S2') ∧ XE A S S' ∧ YE m B S2 S2'
theorem je_none {S1 : HS} (y0 : YE m B S2 S1) (v : Int32) : JE m A B S S2 (some (v, S)) (some (v, S1)) := ⟨v, S, S1, rfl, rfl, XE.refl _ _, y0⟩
theorem t_plan_end (hF : 3000 ≤ F) (hX : XW N S0 x A b (tU T)) (hM : YW N2 S20 m B (tU T)) (hn : vN (tU T) ≠ 0) (h : TJ x m A B (tU T) S0 S20 t S S2) {o : Nat} (hfm : FM S0 o (vK (tU T) t.1) (vE (tU T) t.1) (vF (tU T) t.1)) {z : Int} (hz : 0 ≤ z ∧ z ≤ 2) (w : Int32) :
    ∃ v, s_X11_plans_J181 N F x (ii z) o w S = some (v, S) ∧ s_X12_plans_J168 N2 F m (ii z) w S2 = some (v, S2) := by
  have h0 := h
  obtain ⟨h1, h2, h3, h4, h5⟩ := h
  have hx := hX.xe h1
  have hm := hM.wf h3.wf
  obtain ⟨g1, g2⟩ := y_st hm
  have e5 : gR S 1105 x = some (A 17) := hx.2.2.1.1.2.2.2.2.2.2.2.2
  have hr6 := hM.2.2.2.2.2.1
  have c0 : (ii z = (0 : Int32)) = (z = 0) := by rw [k0, ii_eq (by omega) (by omega) (by omega) (by omega)]
  have c1 : (ii z = (1 : Int32)) = (z = 1) := by rw [k1, ii_eq (by omega) (by omega) (by omega) (by omega)]
  have i590 : inB (590 : Int32) (N2 (B 11)) = true := by rw [g2]; decide
  have c590 : (590 : Int32).toNatClampNeg = 590 := by decide
  unfold s_X11_plans_J181 s_X12_plans_J168
  simp only [c0, c1]
  by_cases w0 : z = 0
  · rw [if_pos w0, if_pos w0, e5, bd1_some, g1, bd1_some, if_pos i590, c590, h4.2.2.1, h2.2.2.1]
    exact ⟨_, rfl, rfl⟩
  rw [if_neg w0, if_neg w0]
  by_cases w1 : z = 1
  · rw [if_pos w1, if_pos w1]
    obtain ⟨v, q1, q2⟩ := t_nans_loop (N := N) (F := F) hX hM hn h0 (hfm.of_g (fun f f1 f2 => h1.1 f o (by omega) (by omega))) (vR (tU T)) 0 F F 0 (by omega) (by omega) (by omega)
    have q1' : s_X11_nansOnTrial N F x o S = some v := q1
    have q2' : s_X12_nans N2 F m 588 S2 = some v := q2
    rw [q1', bd1_some, q2', bd1_some]
    exact ⟨_, rfl, rfl⟩
  · rw [if_neg w1, if_neg w1]; exact ⟨_, rfl, rfl⟩
theorem t_plan_loop (hF : 3000 ≤ F) (hX : XW N S0 x A b (tU T)) (hM : YW N2 S20 m B (tU T)) (hn : vN (tU T) ≠ 0) (hr : vR (tU T) ≠ 0) {f o : Nat} (hfm : FM S0 o (vK (tU T) f) (vE (tU T) f) (vF (tU T) f)) {z : Int} (hz : 0 ≤ z ∧ z ≤ 2) {g : Nat} (hg : g < 1000) : ∀ (k j M M2 : Nat) (w : Int32) (t : STt) (d : Nat) (S S2 : HS), j + k = g → k < M → k < M2 → t.1 = f → d < 2147483648 → gJ S 1116 x = jj d → gJ S2 1228 m = jj d → TJ x m A B (tU T) S0 S20 t S S2 →
    JE m A B S0 S20 (s_X11_plans_L79 N F (s_X11_plans_J181 N F) M x (ii g) (ii z) o w (ii j) S) (s_X12_plans_L67 N2 F (s_X12_plans_J168 N2 F) M2 m (ii g) (ii z) w (ii j) S2) := by
  have hA := hX.1
  have hr6 := hM.2.2.2.2.2.1
  intro k
  induction k with
  | zero =>
    intro j M M2 w t d S S2 hj hM1 hM2 hf hd g1 g2 h
    obtain ⟨M, rfl⟩ : ∃ q, M = q + 1 := ⟨M - 1, by omega⟩
    obtain ⟨M2, rfl⟩ : ∃ q, M2 = q + 1 := ⟨M2 - 1, by omega⟩
    unfold s_X11_plans_L79 s_X12_plans_L67
    have hl : ii (g : Int) ≤ ii (j : Int) := by rw [ii_le (by omega) (by omega) (by omega) (by omega)]; omega
    rw [if_pos hl, if_pos hl]
    subst hf
    obtain ⟨v, q1, q2⟩ := t_plan_end (F := F) hF hX hM hn h hfm hz w
    exact ⟨v, S, S2, q1, q2, h.1, h.2.2.1⟩
  | succ k ih =>
    intro j M M2 w t d S S2 hj hM1 hM2 hf hd g1 g2 h
    obtain ⟨M, rfl⟩ : ∃ q, M = q + 1 := ⟨M - 1, by omega⟩
    obtain ⟨M2, rfl⟩ : ∃ q, M2 = q + 1 := ⟨M2 - 1, by omega⟩
    unfold s_X11_plans_L79 s_X12_plans_L67
    have hl : ¬ ii (g : Int) ≤ ii (j : Int) := by rw [ii_le (by omega) (by omega) (by omega) (by omega)]; omega
    rw [if_neg hl, if_neg hl]
    have st : ∀ {S S2 : HS} {t : STt}, TJ x m A B (tU T) S0 S20 t S S2 → gR S 1111 x = some (A (23 + 4 * b)) ∧ gI S 904 (A (23 + 4 * b)) = ii (vR (tU T)) ∧ s_X12_regs N2 m S2 = some (ii (vR (tU T))) ∧ gR S 1105 x = some (A 17) ∧ gR S2 1217 m = some (B 11) ∧ N2 (B 11) = 616 := by
      intro S S2 t h
      have hx := hX.xe h.1
      have hm := hM.wf h.2.2.1.wf
      obtain ⟨s1, s2⟩ := y_st hm
      exact ⟨hx.2.2.2.1.2.1, hx.2.2.2.1.2.2.2.2.1, y_regs hm, hx.2.2.1.1.2.2.2.2.2.2.2.2, s1, s2⟩
    obtain ⟨a1, a2, a3, _, _, _⟩ := st h
    obtain ⟨p1, p2, p3, p4, p5, p6, p7⟩ := t_draw h hd (show 0 < vR (tU T) by omega) (by omega) g1 g2
    generalize nxt d / 65536 % vR (tU T) = i1 at *
    generalize nxt d = d1 at *
    generalize uJ S 1116 x (jj d1) = S1 at *
    generalize uJ S2 1228 m (jj d1) = Z1 at *
    obtain ⟨b1, b2', b3, _, _, _⟩ := st p5
    obtain ⟨q1, q2, q3, q4, q5, q6, q7⟩ := t_draw p5 p4 (show 0 < vR (tU T) by omega) (by omega) p6 p7
    generalize nxt d1 / 65536 % vR (tU T) = i2 at *
    generalize nxt d1 = d2 at *
    generalize uJ S1 1116 x (jj d2) = S3 at *
    generalize uJ Z1 1228 m (jj d2) = Z3 at *
    obtain ⟨c1, c2, c3, _, _, _⟩ := st q5
    obtain ⟨r1, r2, r3, r4, r5, r6, r7⟩ := t_draw q5 q4 (show 0 < vR (tU T) by omega) (by omega) q6 q7
    generalize nxt d2 / 65536 % vR (tU T) = i3 at *
    generalize nxt d2 = d3 at *
    generalize uJ S3 1116 x (jj d3) = S4 at *
    generalize uJ Z3 1228 m (jj d3) = Z4 at *
    obtain ⟨e1, e2, e3, _, _, _⟩ := st r5
    obtain ⟨s1, s2, s3, s4, s5, s6, s7⟩ := t_draw r5 r4 (show 0 < vR (tU T) by omega) (by omega) r6 r7
    generalize nxt d3 / 65536 % vR (tU T) = i4 at *
    generalize nxt d3 = d4 at *
    generalize uJ S4 1116 x (jj d4) = S5 at *
    generalize uJ Z4 1228 m (jj d4) = Z5 at *
    obtain ⟨_, _, _, f5, _, _⟩ := st s5
    obtain ⟨S6, Z6, t1, t2, t3, t4, t5, t6⟩ := t_fuse (F := F) hF hX hM hn s5 i1 i2 i3 i4 ⟨p3, q3, r3, s3⟩
    obtain ⟨_, _, _, u5, u6, u7⟩ := st t3
    obtain ⟨v1, v2, v3, v4, v5, v6, v7⟩ := t_draw t3 s4 (show 0 < 6 by omega) (by omega) (t5.trans s6) (t6.trans s7)
    have w1 := t_mode hA v5 v3
    have i589 : inB (589 : Int32) (N2 (B 11)) = true := by rw [u7]; decide
    have c589 : (589 : Int32).toNatClampNeg = 589 := by decide
    have ej : ii (j : Int) + Int32.ofInt 1 = ii ((j + 1 : Nat) : Int) := by rw [show Int32.ofInt 1 = ii 1 from rfl, ii_add]; rfl
    have v1' : s_X11_draw x 6 S6 = _ := v1
    have v2' : s_X12_draw m 6 Z6 = _ := v2
    rw [a1, bd1_some, a2, p1, bd2_some, b1, bd1_some, b2', q1, bd2_some, c1, bd1_some, c2, r1, bd2_some, e1, bd1_some, e2, s1, bd2_some, f5, bd1_some, t1, bd2_some, a3, bd1_some, p2, bd2_some, b3, bd1_some, q2, bd2_some, c3, bd1_some, r2, bd2_some, e3, bd1_some, s2, bd2_some, t2, bd1_some, t4]
    unfold s_X11_plans_J162 s_X12_plans_J145
    have hstep : ∀ w2 : Int32, JE m A B S0 S20 (bd1 (gR S6 1105 x) fun t33 => bd2 (s_X11_draw x 6 S6) fun r34 S35 => bnd (uI S35 702 t33 r34) fun S36 => bnd (ii (j : Int) + Int32.ofInt 1 : Int32) fun x37 => s_X11_plans_L79 N F (s_X11_plans_J181 N F) M x (ii g) (ii z) o w2 x37 S36)
        (bd1 (gR Z6 1217 m) fun t30 => bd2 (s_X12_draw m 6 Z6) fun r31 S32 => if inB (589 : Int32) (N2 t30) = true then bnd (wI S32 t30 ((589 : Int32).toNatClampNeg) r31) fun S34 => bnd (ii (j : Int) + Int32.ofInt 1 : Int32) fun x35 => s_X12_plans_L67 N2 F (s_X12_plans_J168 N2 F) M2 m (ii g) (ii z) w2 x35 S34 else none) := by
      intro w2
      rw [u5, bd1_some, v1', bd2_some, bnd_def, bnd_def, ej, u6, bd1_some, v2', bd2_some, if_pos i589, bnd_def, bnd_def, c589]
      exact ih (j + 1) M M2 w2 _ _ _ _ (by omega) (by omega) (by omega) (by exact hf) v4 v6 v7 w1
    by_cases q8 : ii ((fusR (tU T) t i2 i3 i4).2.1 : Int) &&& 8 = (0 : Int32)
    · rw [if_pos q8, if_pos q8, bnd_def, Int32.add_zero]
      exact hstep w
    · rw [if_neg q8, if_neg q8, bnd_def, bnd_def, show w + Int32.ofInt 1 = w + 1 from rfl]
      exact hstep (w + 1)
theorem j_plans (hF : 3000 ≤ F) (hX : RX N S x A b c nx T) (hM : RY N2 S2 m B T) (hT : TOK n T) (p0 p1 p2 : Int32) : JE m A B S S2 (s_X11_plans N F x p0 p1 p2 S) (s_X12_plans N2 F m p0 p1 p2 S2) := by
  obtain ⟨S1, hS1, hM1, y0⟩ := base0 hM 0
  obtain ⟨u1, u2⟩ := x_inUse hX.1 hX.2.1 hT.2.1
  obtain ⟨z0, rfl, c01, c02⟩ := zI p0
  obtain ⟨z1, rfl, c11, c12⟩ := zI p1
  obtain ⟨z2, rfl, c21, c22⟩ := zI p2
  have hfb := fI_b hT.2.1 hT.1
  have hr6 := hT.1.2.1
  have w0 : s_X12_within (ii z0) 0 9999 S1 = b2 (decide (0 ≤ z0 ∧ z0 ≤ 9999)) := y_within z0 0 9999 c01 c02 (by omega) (by omega) (by omega) (by omega)
  have w1 : s_X12_within (ii z1) 1 99 S1 = b2 (decide (1 ≤ z1 ∧ z1 ≤ 99)) := y_within z1 1 99 c11 c12 (by omega) (by omega) (by omega) (by omega)
  have w2 : s_X12_within (ii z2) 0 2 S1 = b2 (decide (0 ≤ z2 ∧ z2 ≤ 2)) := y_within z2 0 2 c21 c22 (by omega) (by omega) (by omega) (by omega)
  have l1 : (ii z0 < (0 : Int32)) = (z0 < 0) := by rw [k0, ii_lt (by omega) (by omega) (by omega) (by omega)]
  have l2 : (ii z0 ≤ (9999 : Int32)) = (z0 ≤ 9999) := by rw [show (9999 : Int32) = ii 9999 from rfl, ii_le (by omega) (by omega) (by omega) (by omega)]
  have l3 : (ii z1 < (1 : Int32)) = (z1 < 1) := by rw [k1, ii_lt (by omega) (by omega) (by omega) (by omega)]
  have l4 : ((99 : Int32) < ii z1) = (99 < z1) := by rw [show (99 : Int32) = ii 99 from rfl, ii_lt (by omega) (by omega) (by omega) (by omega)]
  have l5 : (ii z2 < (0 : Int32)) = (z2 < 0) := by rw [k0, ii_lt (by omega) (by omega) (by omega) (by omega)]
  have l6 : (ii z2 ≤ (2 : Int32)) = (z2 ≤ 2) := by rw [k2, ii_le (by omega) (by omega) (by omega) (by omega)]
  have l7 : (ii (vR (tU T) : Int) = (0 : Int32)) = (vR (tU T) = 0) := by rw [k0, ii_eq (by omega) (by omega) (by omega) (by omega)]; apply propext; omega
  have lf : (ii (fI (tU T) (tN T).1) < (0 : Int32)) = (vN (tU T) = 0) := by
    rw [k0, ii_lt (by omega) (by omega) (by omega) (by omega)]; apply propext; unfold fI; split <;> omega
  have e904 : gI S 904 (A (23 + 4 * b)) = ii (vR (tU T)) := hX.1.2.2.2.1.2.2.2.2.1
  have e1111 : gR S 1111 x = some (A (23 + 4 * b)) := hX.1.2.2.2.1.2.1
  unfold s_X11_plans s_X12_plans
  rw [bnd_def, ← hS1, w0, w1, w2, y_used hM1.1 hM1.2.1.1, bd1_some, y_regs hM1.1, bd1_some, e1111]
  simp only [b2_0, decide_eq_false_iff_not, lf, l7]
  by_cases hn : vN (tU T) = 0
  · rw [u1 hn, bd1_some, mq_none]
    repeat' split
    all_goals first | exact je_none y0 _ | (exfalso; omega)
  obtain ⟨o, o1, o2, o3⟩ := u2 hn
  rw [o1, bd1_some, mq_some, bd1_some, e904]
  simp only [l1, l2, l3, l4, l5, l6, l7]
  by_cases hall : ¬ (vR (tU T) ≠ 0 ∧ (0 ≤ z0 ∧ z0 ≤ 9999) ∧ (1 ≤ z1 ∧ z1 ≤ 99) ∧ (0 ≤ z2 ∧ z2 ≤ 2))
  · repeat' split
    all_goals first | exact je_none y0 _ | (exfalso; omega)
  have hall := Decidable.not_not.mp hall
  obtain ⟨a1, a2, a3, a4⟩ := hall
  obtain ⟨e5, e4, S3, S4, b1, b2', b3⟩ := t_begin (F := F) hF hX hM1 hT
  obtain ⟨d, rfl⟩ : ∃ d : Nat, z0 = d := ⟨z0.toNat, by omega⟩
  obtain ⟨g, rfl⟩ : ∃ g : Nat, z1 = g := ⟨z1.toNat, by omega⟩
  have ed : (ii (d : Int)).toInt64 = jj d := ii_jj (by omega) (by omega)
  have hl := t_plan_loop (F := F) hF hX.1 hM1.1 hn a1 (f := (tN T).1) (o := o) o2 a4 (g := g) (by omega) g 0 F F 0 (tN T) d (uJ S3 1116 x (jj d)) (uJ S4 1228 m (jj d)) (by omega) (by omega) (by omega) rfl (by omega) (by rw [gJ_uJ, if_pos ⟨rfl, rfl⟩]) (by rw [gJ_uJ, if_pos ⟨rfl, rfl⟩]) b3
  have hl' : JE m A B S S1 (s_X11_plans_L79 N F (s_X11_plans_J181 N F) F x (ii g) (ii z2) o 0 0 (uJ S3 1116 x (jj d))) (s_X12_plans_L67 N2 F (s_X12_plans_J168 N2 F) F m (ii g) (ii z2) 0 0 (uJ S4 1228 m (jj d))) := hl
  rw [if_neg a1, if_neg (show ¬ (d : Int) < 0 by omega), if_pos a2.2, if_neg (show ¬ (g : Int) < 1 by omega), if_neg (show ¬ 99 < (g : Int) by omega), if_neg (show ¬ z2 < 0 by omega), if_pos a4.2, e5, bd1_some, e4, bd1_some, b1, bd1_some, bnd_def, ed, if_neg (show ¬ ¬ (0 ≤ (d : Int) ∧ (d : Int) ≤ 9999) by omega), if_neg (show ¬ ¬ (1 ≤ (g : Int) ∧ (g : Int) ≤ 99) by omega), if_neg (show ¬ ¬ (0 ≤ z2 ∧ z2 ≤ 2) by omega), if_neg hn, if_neg a1, b2', bd1_some, bnd_def]
  obtain ⟨v, S5, S6, r1, r2, r3, r4⟩ := hl'
  exact ⟨v, S5, S6, r1, r2, r3, y0.trans r4⟩
end JPLANS
end
