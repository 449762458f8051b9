section
/- a new unit's things -/
def newT (V : UNt) : TT := (V, [], (0, 0, 0, fun _ => 0), [], [], [], [], fun _ => none)
theorem newT_ok {V : UNt} (hU : UOK V) (hN : NOK V) (n : Nat) : TOK n (newT V) := by
  refine ⟨hU, ⟨?_, Nat.zero_lt_succ 5, Nat.zero_lt_succ 15, fun r hr => Nat.two_pow_pos _⟩, ⟨Nat.zero_le 30, fun l hl => (by cases hl)⟩, ⟨Nat.zero_le 1000, fun l hl => (by cases hl), hN⟩, ⟨Nat.zero_le 8, fun l hl => (by cases hl)⟩, fun l hl => (by cases hl), Nat.le_refl _, fun l hl => (by cases hl), Nat.zero_le _, fun m t h => (by cases h)⟩
  by_cases w : vN V = 0
  · exact Or.inr ⟨w, rfl⟩
  · exact Or.inl (show 0 < vN V by omega)
section UEND
variable {N2 : Nat → Nat} {F : Nat} {S2 : HS} {m : Nat} {B : Nat → Nat} {V : UNt} {own : Bool} {kc : Nat}
/- the model takes the new unit over -/
theorem y_unitEnd (hF : 3000 ≤ F) (hB : ∀ i j, B i = B j ↔ i = j) (hL : YLAY N2 S2.2.2.1 m B) (hw : WR S2 B) (h8 : gI S2 1208 m = ii ((0 : Nat) : Int)) (h2 : gI S2 1202 m = ii ((0 : Nat) : Int)) (hY : UY S2 m B V own kc) (hU : UOK V) (hN : NOK V) (hkc : kc ≤ 1001) :
    ∃ S2', s_X12_unit_J52 N2 F m S2 = some (0, S2') ∧ RY N2 S2' m B (newT V) := by
  obtain ⟨⟨y1, y2, y3⟩, yf, ya, yb, yo⟩ := hY
  have hn4 := hU.1
  have hr6 := hU.2.1
  have r5 : gR S2 1210 m = some (B 5) := hL.1.2.2.2.2.2.1
  have n5 : N2 (B 5) = 30 := hL.2.2.1.2.2.2.2.2.1
  have r6 : gR S2 1211 m = some (B 6) := hL.1.2.2.2.2.2.2.1
  have n6 : N2 (B 6) = 2200 := hL.2.2.1.2.2.2.2.2.2.1
  have r7 : gR S2 1213 m = some (B 7) := hL.1.2.2.2.2.2.2.2
  have n7 : N2 (B 7) = 20 := hL.2.2.1.2.2.2.2.2.2.2
  obtain ⟨Sa, a1, a2, a3, a4, a5, a6, a7⟩ := y_cp66 (F := F) r5 n5 (s_X12_unit_J93 N2 F) 15 0 F S2 (by omega) (by omega) rfl rfl
  obtain ⟨Sb, b1, b2', b3, b4, b5, b6, b7⟩ := y_cp95 (F := F) r6 n6 hkc y3 (s_X12_unit_J125 N2 F) kc 0 F Sa (by omega) (by omega) a4 a2
  obtain ⟨Sc, c1, c2, c3, c4, c5, c6, c7⟩ := y_cp127 (F := F) r7 n7 (s_X12_unit_J154 N2 F) 10 0 F Sb (by omega) (by omega) (b4.trans a4) (b2'.trans a2)
  have a1' : s_X12_unit_L66 N2 F (s_X12_unit_J93 N2 F) F m 0 S2 = s_X12_unit_J93 N2 F m Sa := a1
  have b1' : s_X12_unit_L95 N2 F (s_X12_unit_J125 N2 F) F m 0 Sa = s_X12_unit_J125 N2 F m Sb := b1
  have c1' : s_X12_unit_L127 N2 F (s_X12_unit_J154 N2 F) F m 0 Sb = s_X12_unit_J154 N2 F m Sc := c1
  have ne : ∀ i j, i ≠ j → B i ≠ B j := fun i j h e => h ((hB i j).mp e)
  -- what stands in the rows now
  have q5 : ∀ o, aI Sc (B 5) o = if o < 15 then aI S2 (B 5) (15 + o) else aI S2 (B 5) o := by
    intro o
    have : aI Sc (B 5) = aI Sa (B 5) := by
      have h1 : aI Sc (B 5) = aI Sb (B 5) := by unfold aI; rw [c5.1]
      rw [h1, b6 _ (ne 5 6 (by decide))]
    rw [this, a7]
    by_cases z : o < 15
    · rw [if_pos (by omega), if_pos z]
    · rw [if_neg (by omega), if_neg z]
  have q6 : ∀ o, aI Sc (B 6) o = if o < kc then aI S2 (B 6) (1100 + o) else aI S2 (B 6) o := by
    intro o
    have h1 : aI Sc (B 6) = aI Sb (B 6) := by unfold aI; rw [c5.1]
    rw [h1, b7, a6 _ (ne 6 5 (by decide))]
    by_cases z : o < kc
    · rw [if_pos (by omega), if_pos z]
    · rw [if_neg (by omega), if_neg z]
  have q7 : ∀ o, aJ Sc (B 7) o = if o < 10 then aJ S2 (B 7) (10 + o) else aJ S2 (B 7) o := by
    intro o
    have h1 : aJ Sb (B 7) = aJ S2 (B 7) := by rw [aJ_of b5, aJ_of a5]
    rw [c7, h1]
    by_cases z : o < 10
    · rw [if_pos (by omega), if_pos z]
    · rw [if_neg (by omega), if_neg z]
  have hLc : YLAY N2 Sc.2.2.1 m B := by rw [c4, b4, a4]; exact hL
  obtain ⟨S2', d1, d2, d3, d4, d5, d6, d7, d8, d9, d10⟩ := y_begins (F := F) hF hB hLc (nf := vN V) hn4 (by rw [q5, if_pos (by omega)]; exact y1)
  have hI1 : Sc.1 = S2.1 := c2.trans (b2'.trans a2)
  have out : s_X12_unit_J52 N2 F m S2 = some (0, S2') := by
    unfold s_X12_unit_J52
    rw [h8, if_pos (show (ii ((0 : Nat) : Int) ≤ (0 : Int32)) by decide), a1']
    unfold s_X12_unit_J93
    rw [b1']
    unfold s_X12_unit_J125
    rw [c1']
    unfold s_X12_unit_J154
    rw [d1, bd1_some]
  have e5 : ∀ o, aI S2' (B 5) o = aI Sc (B 5) o := fun o => by rw [d7 _ (ne 5 8 (by decide)) (ne 5 11 (by decide)) (ne 5 12 (by decide))]
  have e6 : ∀ o, aI S2' (B 6) o = aI Sc (B 6) o := fun o => by rw [d7 _ (ne 6 8 (by decide)) (ne 6 11 (by decide)) (ne 6 12 (by decide))]
  have e7 : aJ S2' (B 7) = aJ Sc (B 7) := by rw [aJ_of d6]
  refine ⟨S2', out, ⟨hB, by rw [d5]; exact hLc, fun i v h => ?_, ⟨?_, ?_, ?_, fun f hf => ?_, fun f hf => ?_, fun r hr => ?_⟩, hU⟩, ⟨⟨?_, by rw [d8]; rfl, by rw [d8]; rfl, fun r hr => by rw [d8, if_neg (by omega), if_pos (by omega)]; rfl⟩, by rw [d8]; rfl⟩, ⟨by rw [d8]; rfl, Nat.zero_le 8, fun i q h => (by cases h)⟩, ⟨by rw [d3]; rfl, Nat.zero_le 16, trivial⟩, fun k hk => ⟨by rw [d9 k hk]; rfl, fun t h => (by cases h)⟩, trivial, ⟨?_, fun i q h => (by cases h)⟩, ⟨by rw [d10]; rfl, fun i q h => (by cases h)⟩⟩
  · have : aJ S2' (B 4) = aJ S2 (B 4) := by rw [aJ_of d6, c6 _ (ne 4 7 (by decide)), aJ_of b5, aJ_of a5]
    rw [this]; exact hw i v h
  · show aI S2' (B 5) 0 = ii (vN V)
    rw [e5, q5, if_pos (by omega)]; exact y1
  · show aI S2' (B 5) 1 = ii (vR V)
    rw [e5, q5, if_pos (by omega)]; exact y2
  · show LAW S2' (B 5) (B 6) (lawB (vL V))
    cases own with
    | true =>
      obtain ⟨yo1, cs, k1', k2', k3', k4', k5', k6'⟩ : aI S2 (B 5) 17 = ii 0 ∧ ∃ cs : List Int32, kc = cs.length + 1 ∧ cs.length ≤ 1000 ∧ (∀ (j : Nat) (c : Int32), cs[j]? = some c → aI S2 (B 6) (1100 + j) = c) ∧ aI S2 (B 6) (1100 + cs.length) = 0 ∧ cDp cs 0 = some 1 ∧ LWM cs (lawB (vL V)) := yo
      refine Or.inr ⟨by rw [e5, q5, if_pos (by omega)]; exact yo1, cs, by omega, fun j c hj => ?_, ?_, k5', k6'⟩
      · have hjl := (List.getElem?_eq_some_iff.mp hj).1
        rw [e6, q6, if_pos (by omega)]; exact k3' j c hj
      · rw [e6, q6, if_pos (by omega)]; exact k4'
    | false =>
      obtain ⟨yo1, yo2, yo3⟩ : aI S2 (B 5) 17 = ii (-1) ∧ kc = 0 ∧ vL V = 0 := yo
      refine Or.inl ⟨by rw [e5, q5, if_pos (by omega)]; exact yo1, fun m o g r => ?_⟩
      rw [yo3]; exact lawB0 m o g r
  · have hf' : f < vN V := hf
    obtain ⟨g1, g2, g3⟩ := yf f hf'
    show aI S2' (B 5) (3 + 3 * f) = ii (vK V f) ∧ aI S2' (B 5) (3 + 3 * f + 1) = ii (vE V f) ∧ aI S2' (B 5) (3 + 3 * f + 2) = ii (vF V f)
    rw [e5, e5, e5, q5, q5, q5, if_pos (by omega), if_pos (by omega), if_pos (by omega), ← g1, ← g2, ← g3]
    refine ⟨?_, ?_, ?_⟩ <;> (congr 1; omega)
  · have hf' : f < vN V := hf
    show aJ S2' (B 7) f = jj (nm37 (vA V f))
    rw [e7, q7, if_pos (by omega)]; exact ya f hf'
  · have hr' : r < vR V := hr
    show aJ S2' (B 7) (4 + r) = jj (nm37 (vB V r))
    rw [e7, q7, if_pos (by omega), ← yb r hr']; congr 1; omega
  · show aI S2' (B 11) 0 = ii (fI V 0)
    rw [d8, if_pos rfl]
    unfold fI
    by_cases w : vN V = 0
    · rw [if_pos w, if_pos w]; rfl
    · rw [if_neg w, if_neg w]; rfl
  · show gI S2' 1202 m = ii ((0 : Nat) : Int)
    rw [d2 1202 m (by omega)]
    have : gI Sc 1202 m = gI S2 1202 m := by unfold gI; rw [hI1]
    rw [this]; exact h2
/- the model keeps its unit where the new one has a fault -/
theorem RY.un {S2' : HS} {T : TT} (h : RY N2 S2 m B T) (hg : ∀ f p, ¬ (p = m ∧ (f = 1200 ∨ f = 1202 ∨ f = 1203 ∨ f = 1207 ∨ f = 1208 ∨ f = 1212)) → gI S2' f p = gI S2 f p) (hr : S2'.2.2.1 = S2.2.2.1) (ha : ∀ p, p ≠ B 1 → p ≠ B 2 → p ≠ B 5 → p ≠ B 6 → aI S2' p = aI S2 p) (h5 : ∀ o, o < 15 → aI S2' (B 5) o = aI S2 (B 5) o) (h6 : ∀ o, o < 1100 → aI S2' (B 6) o = aI S2 (B 6) o) (hj : ∀ p, p ≠ B 3 → p ≠ B 7 → aJ S2' p = aJ S2 p) (h7 : ∀ o, o < 10 → aJ S2' (B 7) o = aJ S2 (B 7) o) (h1 : YTP S2' m B []) : RY N2 S2' m B (tPl T (tP T) []) := by
  obtain ⟨⟨w1, w2, w3, ⟨v1, v2, v3, v4, v5, v6⟩, w5⟩, ⟨a2, a3⟩, ⟨s1, s2, s3⟩, ⟨u1, u2, u3⟩, a5, a6, ⟨t1, t2⟩, ⟨p1, p2⟩⟩ := h
  have hB := w1
  have hn4 := w5.1
  have hr6 := w5.2.1
  have e : ∀ q, q ≠ 1 → q ≠ 2 → q ≠ 5 → q ≠ 6 → aI S2' (B q) = aI S2 (B q) := fun q q1 q2 q3 q4 => ha _ (by rw [ne_eq, hB]; exact q1) (by rw [ne_eq, hB]; exact q2) (by rw [ne_eq, hB]; exact q3) (by rw [ne_eq, hB]; exact q4)
  have ej : ∀ q, q ≠ 3 → q ≠ 7 → aJ S2' (B q) = aJ S2 (B q) := fun q q1 q2 => hj _ (by rw [ne_eq, hB]; exact q1) (by rw [ne_eq, hB]; exact q2)
  refine ⟨⟨w1, by rw [hr]; exact w2, by rw [ej 4 (by decide) (by decide)]; exact w3, ⟨by rw [h5 _ (by omega)]; exact v1, by rw [h5 _ (by omega)]; exact v2, ?_, fun f hf => ?_, fun f hf => ?_, fun r hr => ?_⟩, w5⟩, ⟨by rw [e 11 (by decide) (by decide) (by decide) (by decide)]; exact a2, by rw [e 11 (by decide) (by decide) (by decide) (by decide)]; exact a3⟩, ⟨by rw [e 11 (by decide) (by decide) (by decide) (by decide)]; exact s1, s2, by rw [e 11 (by decide) (by decide) (by decide) (by decide)]; exact s3⟩, ⟨by rw [hg 1218 _ (by omega)]; exact u1, u2, by rw [e 11 (by decide) (by decide) (by decide) (by decide)]; exact u3⟩, by rw [e 11 (by decide) (by decide) (by decide) (by decide), e 12 (by decide) (by decide) (by decide) (by decide)]; exact a5, a6.congr (fun i _ => ⟨by rw [ej 13 (by decide) (by decide)], by rw [ej 14 (by decide) (by decide)]⟩), h1, ⟨by rw [e 8 (by decide) (by decide) (by decide) (by decide)]; exact p1, by rw [e 8 (by decide) (by decide) (by decide) (by decide)]; exact p2⟩⟩
  · rcases v3 with ⟨x1, x2⟩ | ⟨x1, cs, x2, x3, x4, x5, x6⟩
    · exact Or.inl ⟨by rw [h5 _ (by omega)]; exact x1, x2⟩
    · refine Or.inr ⟨by rw [h5 _ (by omega)]; exact x1, cs, x2, fun j c hj => ?_, by rw [h6 _ (by omega)]; exact x4, x5, x6⟩
      have hjl := (List.getElem?_eq_some_iff.mp hj).1
      rw [h6 _ (by omega)]; exact x3 j c hj
  · have hf' : f < vN (tU T) := hf
    rw [h5 _ (by omega), h5 _ (by omega), h5 _ (by omega)]; exact v4 f hf
  · have hf' : f < vN (tU T) := hf
    rw [h7 _ (by omega)]; exact v5 f hf
  · have hr' : r < vR (tU T) := hr
    rw [h7 _ (by omega)]; exact v6 r hr
end UEND
end
section
section XNN
variable {N N' : Nat → Nat} {S S' : HS} {x : Nat} {A : Nat → Nat}
theorem XN.n (h : XN N A) (hN : ∀ i, iuB i = true → N' (A i) = N (A i)) : XN N' A := by
  obtain ⟨⟨a1, a2, a3, a4, a5, a6, a7, a8⟩, c1, c2, c3, c4⟩ := h
  refine ⟨⟨by rw [hN 1 (by decide)]; exact a1, by rw [hN 14 (by decide)]; exact a2, by rw [hN 15 (by decide)]; exact a3, by rw [hN 18 (by decide)]; exact a4, by rw [hN 19 (by decide)]; exact a5, by rw [hN 20 (by decide)]; exact a6, by rw [hN 21 (by decide)]; exact a7, by rw [hN 22 (by decide)]; exact a8⟩, fun j hj => by rw [hN _ (iu_38 (by omega))]; exact c1 j hj, fun s hs => by rw [hN _ (iu_60 hs)]; exact c2 s hs, fun b hb => ?_, fun b hb => by rw [hN _ (iu_38 (by omega))]; exact c4 b hb⟩
  rw [hN _ (iu_38 (by omega)), hN _ (iu_38 (by omega)), hN _ (iu_38 (by omega))]; exact c3 b hb
theorem XLAY.n (h : XLAY S.2.2.1 S.2.2.2.2.2 x A) (ex : ∀ f, ¬ (1111 ≤ f ∧ f ≤ 1114) → gR S' f x = gR S f x) (ea : ∀ i f, iuB i = true → gR S' f (A i) = gR S f (A i)) (er : ∀ i, i ≤ 18 → aR S' (A i) = aR S (A i)) : XLAY S'.2.2.1 S'.2.2.2.2.2 x A := by
  have ex : ∀ f, ¬ (1111 ≤ f ∧ f ≤ 1114) → S'.2.2.1 f x = S.2.2.1 f x := ex
  have ea : ∀ i f, iuB i = true → S'.2.2.1 f (A i) = S.2.2.1 f (A i) := ea
  have er : ∀ i j, i ≤ 18 → S'.2.2.2.2.2 (A i) j = S.2.2.2.2.2 (A i) j := fun i j hi => congrFun (er i hi) j
  obtain ⟨⟨a1, a2, a3, a4, a5, a6, a7, a8, a9⟩, ⟨b1, b2', b3, b4, b5⟩, c1, c2, c3, c4, c5, c6⟩ := h
  refine ⟨⟨by rw [ex _ (by decide)]; exact a1, by rw [ea 0 _ (by decide)]; exact a2, by rw [ex _ (by decide)]; exact a3, by rw [ex _ (by decide)]; exact a4, by rw [ex _ (by decide)]; exact a5, by rw [ea 13 _ (by decide)]; exact a6, by rw [ea 13 _ (by decide)]; exact a7, by rw [ex _ (by decide)]; exact a8, by rw [ex _ (by decide)]; exact a9⟩, ⟨by rw [ex _ (by decide)]; exact b1, by rw [ex _ (by decide)]; exact b2', by rw [ex _ (by decide)]; exact b3, by rw [ex _ (by decide)]; exact b4, by rw [ex _ (by decide)]; exact b5⟩, fun j hj => by rw [ea 3 _ (by decide)]; exact c1 j hj, fun m hm => by rw [er 18 _ (by decide)]; exact c2 m hm, fun j hj => by rw [er 14 _ (by decide)]; exact c3 j hj, fun s hs => by rw [ea s _ (iu_st hs)]; exact c4 s hs, fun b hb => ?_, fun b hb => ?_⟩
  · rw [ea _ _ (iu_38 (by omega)), ea _ _ (iu_38 (by omega)), ea _ _ (iu_38 (by omega))]; exact c5 b hb
  · rw [ea _ _ (iu_38 (by omega))]; exact c6 b hb
end XNN
section JUNIT
variable {N2 : Nat → Nat} {F : Nat} {G : GS} {S S2 : HS} {x m : Nat} {A B : Nat → Nat} {b c nx n : Nat} {T : TT}
theorem j_unit1 (hF : 3000 ≤ F) (hX : RX G.2.2 S x A b c nx T) (hW : WT G S) (hx : x ∈ G.1) (hk : G.2.1 x = 11) (hM : RY N2 S2 m B T) (hT : TOK n T) (hnx : nx ≤ n) {q : Nat} (hq : q ∉ G.1) :
    ∃ v S2', s_X12_unit N2 F m S2 = some (v, S2') ∧ ∀ P : Int32 → GS → HS → Prop, (∀ G' S' b' c' nx' T', RX G'.2.2 S' x A b' c' nx' T' → RY N2 S2' m B T' → TOK (n + 1) T' → nx' ≤ n + 1 → P v G' S') →
      w_X10_readAll F q (pushG G q 10 0) (s_X10_init q (A 0) (A (23 + 4 * (1 - b))) (zap q (s_X9_empty (A (23 + 4 * (1 - b))) S))) (fun G8 S9 => bd1p (gR S9 1100 x) fun t11 => bnd (s_X8_empty t11 S9) fun S12 => bd1p (gR S12 1100 x) fun t13 => if (gI S12 807 t13) = (0 : Int32) then bd1p (gR S12 1111 x) fun t15 => bnd (uR S12 1112 x (some t15)) fun S16 => bnd (uR S16 1111 x (some (A (23 + 4 * (1 - b))))) fun S17 => bd1p (s_X11_begin G8.2.2 F x S17) fun S18 => P 0 G8 S18 else bd1p (gR S12 1100 x) fun t19 => P (gI S12 807 t19) G8 S12) := by
  have hin := hX.in hW hx hk
  have hfin := hX.fin hW hx hk
  have hA := hX.1.1
  have hB := hM.1.1
  have hb := hX.1.2.2.2.1.1
  have hc := hX.2.2.2.1.1
  have hlen := hT.2.2.2.1.1
  have hok := hT.2.2.2.1.2.1
  have hne : ∀ p, p ∈ G.1 → p ≠ q := fun p hp e => hq (e ▸ hp)
  obtain ⟨u, hu⟩ : ∃ u, u = A (23 + 4 * (1 - b)) := ⟨_, rfl⟩
  obtain ⟨us, hus⟩ : ∃ u, u = A (24 + 4 * (1 - b)) := ⟨_, rfl⟩
  obtain ⟨un, hun⟩ : ∃ u, u = A (25 + 4 * (1 - b)) := ⟨_, rfl⟩
  obtain ⟨ur, hur⟩ : ∃ u, u = A (26 + 4 * (1 - b)) := ⟨_, rfl⟩
  rw [← hu]
  have iu : u ∈ G.1 := by rw [hu]; exact hin _ (iu_38 (by omega))
  have ius : us ∈ G.1 := by rw [hus]; exact hin _ (iu_38 (by omega))
  have iun : un ∈ G.1 := by rw [hun]; exact hin _ (iu_38 (by omega))
  have iur : ur ∈ G.1 := by rw [hur]; exact hin _ (iu_38 (by omega))
  have i0 : A 0 ∈ G.1 := hin 0 (by decide)
  have i1 : A 1 ∈ G.1 := hin 1 (by decide)
  have hau : A 0 ≠ u := by rw [hu, ne_eq, hA]; omega
  have hnr : un ≠ ur := by rw [hun, hur, ne_eq, hA]; omega
  obtain ⟨S7, hS7⟩ : ∃ S7, S7 = s_X10_init q (A 0) u (zap q (s_X9_empty u S)) := ⟨_, rfl⟩
  rw [← hS7]
  have hE : s_X9_empty u S = uI (uI (uI (uI S 903 u 0) 904 u 0) 905 u 0) 906 u 0 := rfl
  have hS7' : S7 = uR (uR (zap q (s_X9_empty u S)) 1000 q (some (A 0))) 1001 q (some u) := hS7
  have gI7 : ∀ f p, p ∈ G.1 → ¬ (p = u ∧ 903 ≤ f ∧ f ≤ 906) → gI S7 f p = gI S f p := by
    intro f p hp h
    rw [hS7']; show gI (zap q (s_X9_empty u S)) f p = _
    rw [gI_zap, if_neg (hne p hp), hE, gI_uI, if_neg (fun r => h ⟨r.2, by omega⟩), gI_uI, if_neg (fun r => h ⟨r.2, by omega⟩), gI_uI, if_neg (fun r => h ⟨r.2, by omega⟩), gI_uI, if_neg (fun r => h ⟨r.2, by omega⟩)]
  have gz : gI S7 903 u = 0 ∧ gI S7 904 u = 0 ∧ gI S7 905 u = 0 ∧ gI S7 906 u = 0 := by
    have h : ∀ f, gI S7 f u = gI (s_X9_empty u S) f u := fun f => by rw [hS7']; show gI (zap q (s_X9_empty u S)) f u = _; rw [gI_zap, if_neg (hne u iu)]
    rw [h, h, h, h, hE]
    refine ⟨?_, ?_, ?_, ?_⟩
    · rw [gI_uI, if_neg (by omega), gI_uI, if_neg (by omega), gI_uI, if_neg (by omega), gI_uI, if_pos ⟨rfl, rfl⟩]
    · rw [gI_uI, if_neg (by omega), gI_uI, if_neg (by omega), gI_uI, if_pos ⟨rfl, rfl⟩]
    · rw [gI_uI, if_neg (by omega), gI_uI, if_pos ⟨rfl, rfl⟩]
    · rw [gI_uI, if_pos ⟨rfl, rfl⟩]
  have gR7 : ∀ f p, p ∈ G.1 → gR S7 f p = gR S f p := by
    intro f p hp
    rw [hS7', gR_uR, if_neg (fun r => hne p hp r.2), gR_uR, if_neg (fun r => hne p hp r.2), gR_zap, if_neg (hne p hp)]; rfl
  have q7 : gR S7 1000 q = some (A 0) ∧ gR S7 1001 q = some u := by
    rw [hS7']
    exact ⟨by rw [gR_uR, if_neg (by omega), gR_uR, if_pos ⟨rfl, rfl⟩], by rw [gR_uR, if_pos ⟨rfl, rfl⟩]⟩
  have ar7 : ∀ p, p ∈ G.1 → aI S7 p = aI S p ∧ aJ S7 p = aJ S p ∧ aR S7 p = aR S p := by
    intro p hp
    rw [hS7']
    refine ⟨?_, ?_, ?_⟩
    · show aI (zap q (s_X9_empty u S)) p = _; funext j; rw [aI_zap, if_neg (hne p hp)]; rfl
    · show aJ (zap q (s_X9_empty u S)) p = _; funext j; rw [aJ_zap, if_neg (hne p hp)]; rfl
    · show aR (zap q (s_X9_empty u S)) p = _; funext j; rw [aR_zap, if_neg (hne p hp)]; rfl
  have en : ∀ p, p ∈ G.1 → (pushG G q 10 0).2.2 p = G.2.2 p := fun p hp => pushG_o _ _ _ _ (hne p hp)
  -- the text
  have tx := x_text hX hT
  have tx7 : TPE (pushG G q 10 0).2.2 S7 (A 0) (A 1) (tT T) := by
    obtain ⟨t1, t2, t3, t4, t5, t6⟩ := tx
    exact ⟨by rw [gR7 _ _ i0]; exact t1, by rw [en _ i1]; exact t2, by rw [gI7 _ _ i0 (by omega)]; exact t3, t4, t5, by rw [(ar7 _ i1).1]; exact t6⟩
  obtain ⟨S9, s1, s2, s3⟩ := x_begin (F := F) hF tx7
  obtain ⟨z3, z4, z5, z6⟩ := gz
  have lay := hX.1.2.2.1.2.2.2.2.2.2.1 (1 - b) (by omega)
  have lyn := hX.1.2.1.2.2.2.1 (1 - b) (by omega)
  rw [← hu, ← hus, ← hun, ← hur] at lay
  rw [← hus, ← hun, ← hur] at lyn
  have hUX7 : UX (pushG G q 10 0) S7 q (A 0) u us un ur U0 false := by
    refine ⟨⟨q7.1, q7.2, ?_, ?_, ?_⟩, ⟨by rw [en _ ius]; exact lyn.1, by rw [en _ iun]; exact lyn.2.1, by rw [en _ iur]; exact lyn.2.2⟩, ⟨z3, z4, z5, z6⟩, fun f hf => absurd hf (by show ¬ f < 0; omega), fun f hf => absurd hf (by show ¬ f < 0; omega), fun f hf => absurd hf (by show ¬ f < 0; omega)⟩
    · rw [gR7 _ _ iu]; exact lay.1
    · rw [gR7 _ _ iu]; exact lay.2.1
    · rw [gR7 _ _ iu]; exact lay.2.2
  -- the model's tokens and rows
  have hL1 : YLAY N2 (uI S2 1200 m 0).2.2.1 m B := hM.1.2.1
  have hT1 : YTP (uI S2 1200 m 0) m B (tT T) := ⟨by rw [gI_uI, if_neg (by omega)]; exact hM.2.2.2.2.2.2.1.1, hM.2.2.2.2.2.2.1.2⟩
  obtain ⟨nn, S2c, c1, c2, c3, c4, c5, c6, c7, c8⟩ := y_cutAll (F := F) hF hB hL1 hT1 hlen hok
  have hL2 : YLAY N2 (uI S2c 1212 m 0).2.2.1 m B := by show YLAY N2 S2c.2.2.1 m B; rw [c6]; exact hL1
  obtain ⟨S4, d1, d2, d3, d4, d5, d6, d7⟩ := y_alw (F := F) (S := uI S2c 1212 m 0) hF (m := m) (u := B 5) hL2.1.2.2.2.2.2.1 hL2.2.2.1.2.2.2.2.2.1 (o := 15) (Or.inr rfl)
  have d1' : s_X12_standsAsAlways N2 F m 15 (uI S2c 1212 m 0) = some S4 := d1
  have nb : ∀ i j, i ≠ j → B i ≠ B j := fun i j h e => h ((hB i j).mp e)
  have hL4 : YLAY N2 S4.2.2.1 m B := by rw [d4]; exact hL2
  have g4 : ∀ f p, gI S4 f p = gI (uI S2c 1212 m 0) f p := fun f p => by unfold gI; rw [d2]
  have j4 : ∀ p, aJ S4 p = aJ S2c p := fun p => by rw [aJ_of d5]; rfl
  have a4 : ∀ p, p ≠ B 5 → aI S4 p = aI S2c p := fun p hp => by rw [d6 p hp]; rfl
  have hw4 : WR S4 B := fun i v h => by rw [j4, c8 _ (nb 4 3 (by decide))]; exact hM.1.2.2.1 i v h
  have hY4 : YRD S4 m B (tT T) nn 0 0 := by
    obtain ⟨h1, h2, h3, h4, h5, h6, h7, h8⟩ := c2
    refine ⟨h1, h2, fun k hk => ?_, h4, by rw [a4 _ (nb 1 5 (by decide))]; exact h5, by rw [a4 _ (nb 2 5 (by decide))]; exact h6, by rw [g4, gI_uI, if_neg (by omega)]; exact h7, by rw [g4, gI_uI, if_neg (by omega)]; exact h8⟩
    rw [a4 _ (nb 1 5 (by decide)), a4 _ (nb 2 5 (by decide)), j4]; exact h3 k hk
  have hJR : JR (pushG G q 10 0).2.2 N2 (A 0) (A 1) m B (tT T) nn S9 S4 0 0 := ⟨tx7.rb s2, ⟨0, s3, fun _ => rfl⟩, hL4, hw4, hY4, by omega⟩
  have hUY4 : UY S4 m B U0 false 0 := by
    refine ⟨⟨by rw [d7, if_neg (by omega), if_pos (by omega)]; rfl, by rw [d7, if_neg (by omega), if_pos (by omega)]; rfl, by rw [g4, gI_uI, if_pos ⟨rfl, rfl⟩]; rfl⟩, fun f hf => absurd hf (by show ¬ f < 0; omega), fun f hf => absurd hf (by show ¬ f < 0; omega), fun f hf => absurd hf (by show ¬ f < 0; omega), ?_⟩
    show aI S4 (B 5) 17 = ii (-1) ∧ 0 = 0 ∧ vL U0 = 0
    exact ⟨by rw [d7, if_pos (by omega)]; decide, rfl, rfl⟩
  have hnn : nn ≤ 1000 := by have := c2.1; omega
  have inq : ∀ p, p ∈ G.1 → p ∈ (pushG G q 10 0).1 := fun p hp => List.mem_append_left _ hp
  obtain ⟨S2e, l1, l2, ⟨Ge, Se, lex⟩, lwp⟩ := u_loop (N2 := N2) (F := F) hF hB hnr hau nn 0 1002 F (pushG G q 10 0) S9 S4 0 0 U0 false 0 (fun _ => by omega) (by omega) (by omega) (by omega) (fun _ => by omega) hJR (fun _ => ⟨hUX7.tok s2, hUY4, T0_ok.1, T0_ok.2.2.2.1.2.2, Nat.le_refl _⟩) (by have : gR S9 1000 q = gR S7 1000 q := (by unfold gR; rw [s2.2]); rw [this]; exact q7.1) ⟨pushG_s _ _ _ _, inq _ i0, inq _ iu, inq _ ius, inq _ iun, inq _ iur, inq _ i1⟩
  have hmod : s_X12_unit N2 F m S2 = s_X12_unit_J52 N2 F m S2e := by
    unfold s_X12_unit
    rw [bnd_def, c1, bd1_some, bnd_def, d1', bd1_some]
    exact l1 _
  -- the model's frame
  have mg : ∀ f p, ¬ (p = m ∧ (f = 1200 ∨ f = 1202 ∨ f = 1203 ∨ f = 1207 ∨ f = 1208 ∨ f = 1212)) → gI S2e f p = gI S2 f p := by
    intro f p h
    rw [l2.1 f p (by omega), g4, gI_uI, if_neg (by omega), c4 f p (by omega), gI_uI, if_neg (by omega)]
  have mr : S2e.2.2.1 = S2.2.2.1 := by rw [l2.2.2.1, d4]; show S2c.2.2.1 = _; rw [c6]; rfl
  have ma : ∀ p, p ≠ B 1 → p ≠ B 2 → p ≠ B 5 → p ≠ B 6 → aI S2e p = aI S2 p := fun p p1 p2 p5 p6 => by rw [l2.2.2.2.1 p p5 p6, a4 p p5, c7 p p1 p2]; rfl
  have m5 : ∀ o, o < 15 → aI S2e (B 5) o = aI S2 (B 5) o := fun o ho => by
    rw [l2.2.2.2.2.1 o ho, d7, if_neg (by omega), if_neg (by omega)]
    show aI S2c (B 5) o = _
    rw [c7 _ (nb 5 1 (by decide)) (nb 5 2 (by decide))]; rfl
  have m6 : ∀ o, o < 1100 → aI S2e (B 6) o = aI S2 (B 6) o := fun o ho => by
    rw [l2.2.2.2.2.2.1 o ho, a4 _ (nb 6 5 (by decide)), c7 _ (nb 6 1 (by decide)) (nb 6 2 (by decide))]; rfl
  have mj : ∀ p, p ≠ B 3 → p ≠ B 7 → aJ S2e p = aJ S2 p := fun p p3 p7 => by rw [l2.2.2.2.2.2.2.1 p p7, j4, c8 p p3]; rfl
  have m7 : ∀ o, o < 10 → aJ S2e (B 7) o = aJ S2 (B 7) o := fun o ho => by rw [l2.2.2.2.2.2.2.2.1 o ho, j4, c8 _ (nb 7 3 (by decide))]; rfl
  have mt : gI S2e 1202 m = ii ((0 : Nat) : Int) := by rw [l2.1 1202 m (by omega), g4, gI_uI, if_neg (by omega), c3]; rfl
  have hLe : YLAY N2 S2e.2.2.1 m B := by rw [mr]; exact hM.1.2.1
  have hwe : WR S2e B := fun i v h => by rw [mj _ (nb 4 3 (by decide)) (nb 4 7 (by decide))]; exact hM.1.2.2.1 i v h
  -- the class behind all lines
  have cls : ∀ G8 S9', CLF N2 q (A 0) u us un ur (A 1) m B (tT T) nn (pushG G q 10 0) S9 S2e G8 S9' → (∀ f p, p ∈ G.1 → ¬ (p = A 0 ∧ 802 ≤ f ∧ f ≤ 807) → ¬ (p = u ∧ 903 ≤ f ∧ f ≤ 906) → gI S9' f p = gI S f p) ∧ (∀ f p, p ∈ G.1 → gR S9' f p = gR S f p) ∧ (∀ p, p ∈ G.1 → aI S9' p = aI S p) ∧ (∀ p, p ∈ G.1 → p ≠ un → p ≠ ur → aJ S9' p = aJ S p) ∧ (∀ p, p ∈ G.1 → p ≠ us → aR S9' p = aR S p) ∧ (∀ p, p ∈ G.1 → G8.2.2 p = G.2.2 p) := by
    rintro G8 S9' ⟨k1', ⟨f1, f2, f3, f4, f5⟩, _⟩
    have e9 : S9.2.2 = S7.2.2 := s2.2
    refine ⟨fun f p hp h1 h2 => ?_, fun f p hp => ?_, fun p hp => ?_, fun p hp h1 h2 => ?_, fun p hp h1 => ?_, fun p hp => ((k1' p (inq p hp)).2).trans (en p hp)⟩
    · rw [f1 f p (inq p hp) h1 h2, s2.1 f p h1, gI7 f p hp h2]
    · rw [f2 f p (inq p hp), ← gR7 f p hp]; unfold gR; rw [e9]
    · rw [f3 p (inq p hp), ← (ar7 p hp).1]; unfold aI; rw [e9]
    · rw [f4 p (inq p hp) h1 h2, ← (ar7 p hp).2.1]; unfold aJ; rw [e9]
    · rw [f5 p (inq p hp) h1, ← (ar7 p hp).2.2]; unfold aR; rw [e9]
  obtain ⟨kx0, kxp, kxu⟩ := x_kinds hX hW hx hk
  have hlay := hX.lay hW hx hk
  have xne : ∀ i, iuB i = true → x ≠ A i := fun i hi e => (hlay i hi).2 (by rw [← e]; exact hk)
  have hxu : x ≠ u := by rw [hu]; exact xne _ (iu_38 (by omega))
  obtain ⟨_, _, ie, fe, Ve, owne, kce, je, uve⟩ := lex
  have hfe := je.2.2.2.2.2
  have hg8 := je.yf.1
  have readAll : ∀ P : GS → HS → Prop, w_X10_readAll_L9 F P 1002 q 0 (pushG G q 10 0) S9 → w_X10_readAll F q (pushG G q 10 0) S7 P := fun P hP => ⟨A 0, q7.1, S9, s1, hP⟩
  by_cases w : fe = 0
  · -- all is right
    subst w
    obtain ⟨uX, uY, uU, uN, uK⟩ := uve rfl
    have hie := je.2.2.2.2.1.2.1
    obtain ⟨S2f, o1, o2⟩ := y_unitEnd (F := F) hF hB hLe hwe hg8 mt uY uU uN (by omega)
    refine ⟨0, S2f, hmod.trans o1, fun P hP => readAll _ (lwp _ (fun G8 S9' hc8 => ?_))⟩
    obtain ⟨cI, cR, cA, cJ, cQ, cN⟩ := cls G8 S9' hc8
    obtain ⟨_, _, i8, f8, V, own, kc, j8, u8⟩ := hc8
    have hf8 := j8.2.2.2.2.2
    have f80 : f8 = 0 := by
      have e1 := j8.yf.1
      rw [hg8, ii_eq (by omega) (by omega) (by omega) (by omega)] at e1; omega
    subst f80
    obtain ⟨⟨⟨X1, X2, X3, X4, X5⟩, ⟨L1', L2', L3'⟩, ⟨C1, C2, C3, C4⟩, XF, XA, XB⟩, vY, vU, vN', vK'⟩ := u8 rfl
    have hi8 := j8.2.2.2.2.1.2.1
    obtain ⟨S2g, o3, o4⟩ := y_unitEnd (F := F) hF hB hLe hwe hg8 mt vY vU vN' (by omega)
    have hSg : S2f = S2g := by
      have := o1.symm.trans o3
      injection this with this; exact (Prod.mk.inj this).2
    subst hSg
    have g1100 : gR S9' 1100 x = some (A 0) := (cR 1100 x hx).trans hX.1.2.2.1.1.1
    have g1111 : gR S9' 1111 x = some (A (23 + 4 * b)) := (cR 1111 x hx).trans hX.1.2.2.2.1.2.1
    have h807 : gI S9' 807 (A 0) = 0 := xr_fault j8.2.1
    refine ⟨A 0, g1100, ?_⟩
    unfold s_X8_empty
    simp only [bnd_def]
    refine ⟨A 0, g1100, ?_⟩
    have g807 : gI (uI S9' 801 (A 0) 0) 807 (A 0) = 0 := by rw [gI_uI, if_neg (by omega)]; exact h807
    dsimp only
    rw [if_pos g807]
    refine ⟨A (23 + 4 * b), g1111, ?_⟩
    dsimp only
    obtain ⟨S17, hS17⟩ : ∃ S17, S17 = uR (uR (uI S9' 801 (A 0) 0) 1112 x (some (A (23 + 4 * b)))) 1111 x (some u) := ⟨_, rfl⟩
    rw [← hS17]
    have r17 : ∀ f p, ¬ (p = x ∧ (f = 1111 ∨ f = 1112)) → gR S17 f p = gR S9' f p := fun f p h => by
      rw [hS17, gR_uR, if_neg (fun r => h ⟨r.2, Or.inl r.1⟩), gR_uR, if_neg (fun r => h ⟨r.2, Or.inr r.1⟩)]; rfl
    have i17 : ∀ f p, ¬ (p = A 0 ∧ f = 801) → gI S17 f p = gI S9' f p := fun f p h => by
      rw [hS17]; show gI (uI S9' 801 (A 0) 0) f p = _
      rw [gI_uI, if_neg (fun r => h ⟨r.2, r.1⟩)]
    have a17 : ∀ p, aI S17 p = aI S9' p ∧ aJ S17 p = aJ S9' p ∧ aR S17 p = aR S9' p := fun p => by rw [hS17]; exact ⟨rfl, rfl, rfl⟩
    have hN8 : XN G8.2.2 A := hX.1.2.1.n (fun i hi => cN _ (hin i hi))
    have hL17 : XLAY S17.2.2.1 S17.2.2.2.2.2 x A := hX.1.2.2.1.n (fun f hf => by rw [r17 f x (by omega)]; exact cR f x hx) (fun i f hi => by rw [r17 f _ (fun r => xne i hi r.1.symm)]; exact cR f _ (hin i hi)) (fun i hi => by rw [(a17 _).2.2]; exact cQ _ (hin i (iu_38 (by omega))) (by rw [hus, ne_eq, hA]; omega))
    have hn4 := vU.1
    obtain ⟨S18, e1, e2, e3, e4, e5, e6, e7, e8, e9, e10, e11, e12, e13, e14, e15, e16, e17⟩ := x_begin_u (N := G8.2.2) (F := F) (S := S17) (x := x) (A := A) (u := u) (c := c) (nf := vN V) (L := ii (vL V)) hF hA hN8 hL17 (by rw [hS17, gR_uR, if_pos ⟨rfl, rfl⟩]) hn4 (by rw [i17 _ _ (by omega)]; exact C1) (by rw [i17 _ _ (by omega)]; exact C4) (by rw [r17 _ _ (by omega)]; exact (cR 1113 x hx).trans hX.2.2.2.1.2.1) hc
    refine ⟨S18, e1, ?_⟩
    refine hP G8 S18 (1 - b) c nx (newT V) ⟨⟨hA, hN8, ?_, ⟨by omega, ?_, ?_, ?_, ?_, e10, fun f hf => ?_, fun f hf => ?_, fun r hr => ?_⟩, vU⟩, ⟨?_, e7, e8, e9⟩, ⟨?_, fun i cc h => by cases h⟩, ⟨hc, ?_, ?_, e11, fun i l h => by cases h⟩, ⟨e16, fun i q h => by cases h⟩, ⟨?_, e15, Nat.zero_le 16, hX.2.2.2.2.2.1.2.2.2.1, trivial⟩, ⟨e12, e13, e14, Nat.zero_le 512, trivial, trivial⟩, fun k hk => ⟨e17 k hk, fun t h => by cases h⟩⟩ o4 (newT_ok vU vN' _) (by omega)
    · rw [e3, e4]; exact hL17
    · rw [gR_of e3, ← hu, hS17, gR_uR, if_pos ⟨rfl, rfl⟩]
    · have : 1 - (1 - b) = b := by omega
      rw [gR_of e3, this, hS17, gR_uR, if_neg (by omega), gR_uR, if_pos ⟨rfl, rfl⟩]
    · show gI S18 903 (A (23 + 4 * (1 - b))) = ii (vN V)
      rw [← hu, e2 903 u (by omega) (by omega) (by omega) (by omega) (by omega) (by omega), i17 _ _ (by omega)]; exact C1
    · show gI S18 904 (A (23 + 4 * (1 - b))) = ii (vR V)
      rw [← hu, e2 904 u (by omega) (by omega) (by omega) (by omega) (by omega) (by omega), i17 _ _ (by omega)]; exact C2
    · have hf' : f < vN V := hf
      obtain ⟨p, p1, p2, p3⟩ := XF f hf'
      refine ⟨p, ?_, p3.mono2 (fun g g1 g2 => ?_)⟩
      · rw [aR_of e4, (a17 _).2.2, ← hus]; exact p2
      · rw [e2 g p (by omega) (by omega) (by omega) (by omega) (by omega) (by omega), i17 _ _ (by omega)]
    · have hf' : f < vN V := hf
      show aJ S18 (A (25 + 4 * (1 - b))) f = jj (nm32 (vA V f))
      rw [aJ_of e4, (a17 _).2.1, ← hun]; exact XA f hf'
    · have hr' : r < vR V := hr
      show aJ S18 (A (26 + 4 * (1 - b))) r = jj (nm32 (vB V r))
      rw [aJ_of e4, (a17 _).2.1, ← hur]; exact XB r hr'
    · show gI S18 701 (A 16) = ii (fI V 0)
      rw [e6]
      unfold fI
      by_cases z : vN V = 0
      · rw [if_pos z, if_pos z]
      · rw [if_neg z, if_neg z]; rfl
    · show gI S18 801 (A 0) = ii ((0 : Nat) : Int)
      rw [e2 801 _ (by omega) (by omega) (by omega) (by omega) (by omega) (by omega), hS17]
      show gI (uI S9' 801 (A 0) 0) 801 (A 0) = _
      rw [gI_uI, if_pos ⟨rfl, rfl⟩]; rfl
    · rw [gR_of e3, r17 _ _ (by omega)]; exact (cR 1113 x hx).trans hX.2.2.2.1.2.1
    · rw [gR_of e3, r17 _ _ (by omega)]; exact (cR 1114 x hx).trans hX.2.2.2.1.2.2.1
    · rw [e2 402 _ (by omega) (by omega) (by omega) (by omega) (by omega) (by omega), i17 _ _ (by omega), cI 402 _ (hin 13 (by decide)) (by omega) (by omega)]
      exact hX.2.2.2.2.2.1.1
  · -- a fault
    have ry : RY N2 S2e m B (tPl T (tP T) []) := hM.un mg mr ma m5 m6 mj m7 ⟨mt, fun i c h => by cases h⟩
    have hout : s_X12_unit N2 F m S2 = some (ii fe, S2e) := by
      rw [hmod]
      unfold s_X12_unit_J52
      rw [hg8]
      simp only [(c_f0 je).2]
      rw [if_neg w]
    refine ⟨ii fe, S2e, hout, fun P hP => readAll _ (lwp _ (fun G8 S9' hc8 => ?_))⟩
    obtain ⟨cI, cR, cA, cJ, cQ, cN⟩ := cls G8 S9' hc8
    obtain ⟨_, _, i8, f8, V, own, kc, j8, _⟩ := hc8
    have hf8 := j8.2.2.2.2.2
    have f80 : f8 = fe := by
      have e1 := j8.yf.1
      rw [hg8, ii_eq (by omega) (by omega) (by omega) (by omega)] at e1; omega
    subst f80
    have g1100 : gR S9' 1100 x = some (A 0) := (cR 1100 x hx).trans hX.1.2.2.1.1.1
    have h807 : gI S9' 807 (A 0) = ii f8 := xr_fault j8.2.1
    refine ⟨A 0, g1100, ?_⟩
    unfold s_X8_empty
    simp only [bnd_def]
    refine ⟨A 0, g1100, ?_⟩
    have g807 : gI (uI S9' 801 (A 0) 0) 807 (A 0) = ii f8 := by rw [gI_uI, if_neg (by omega)]; exact h807
    simp only [g807, (c_f0 j8).1]
    rw [if_neg w]
    refine ⟨A 0, g1100, ?_⟩
    simp only [g807]
    refine hP G8 (uI S9' 801 (A 0) 0) b c nx (tPl T (tP T) []) ?_ ry (hT.pl hT.2.2.1.1 hT.2.2.1.2) (by omega)
    have sF : ∀ f p, f < vN (tU T) → aR S (A (24 + 4 * b)) f = some p → ∀ g, gI (uI S9' 801 (A 0) 0) g p = gI S g p := by
      intro f p _ hp g
      have ip := hfin f p hp
      have u' := hW.1 x hx 1111 _ (by rw [hk]) hX.1.2.2.2.1.2.1
      have r' := hW.1 _ u'.1 900 _ (by rw [u'.2]; rfl) (hX.1.2.2.1.2.2.2.2.2.2.1 b hb).1
      have kp : G.2.1 p = 2 := (hW.2.1 _ r'.1 f p (by rw [r'.2]; rfl) hp).2
      have n0 : p ≠ A 0 := fun e => by
        have h0 := hW.1 x hx 1100 _ (by rw [hk]) hX.1.2.2.1.1.1
        rw [← e, kp] at h0; exact absurd h0.2 (by decide)
      have n1 : p ≠ u := fun e => by
        have h0 := hW.1 x hx 1112 _ (by rw [hk]) hX.1.2.2.2.1.2.2.1
        rw [← hu, ← e, kp] at h0; exact absurd h0.2 (by decide)
      rw [gI_uI, if_neg (fun r => n0 r.2)]
      exact cI g p ip (fun r => n0 r.1) (fun r => n1 r.1)
    refine RX.pl (S' := uI S9' 801 (A 0) 0) (c' := c) (pl' := tP T) (tp' := []) hX (fun i f hi h1 h2 h3 => ?_) (fun f => ?_) (fun i f hi => cR f _ (hin i hi)) (fun f _ _ => cR f x hx) (fun i hi _ _ => cA _ (hin i hi)) (fun i hi h1 h2 => cJ _ (hin i hi) (by rw [hun, ne_eq, hA]; exact h1) (by rw [hur, ne_eq, hA]; exact h2)) (fun i hi h1 => cQ _ (hin i hi) (by rw [hus, ne_eq, hA]; exact h1)) (fun i hi => cN _ (hin i hi)) sF ⟨by rw [gI_uI, if_pos ⟨rfl, rfl⟩]; rfl, fun i c h => by cases h⟩ ⟨hc, (cR 1113 x hx).trans hX.2.2.2.1.2.1, (cR 1114 x hx).trans hX.2.2.2.1.2.2.1, ?_, fun i l hl => ?_⟩
    · rw [gI_uI, if_neg (fun r => h1 ⟨(hA _ _).mp r.2, by omega⟩)]
      exact cI f _ (hin i hi) (fun r => h1 ⟨(hA _ _).mp r.1, by omega⟩) (fun r => h3 ⟨r.2.1, r.2.2, by have e := r.1; rw [hu] at e; exact (hA _ _).mp e⟩)
    · rw [gI_uI, if_neg (fun r => kx0 r.2)]
      exact cI f x hx (fun r => kx0 r.1) (fun r => hxu r.1)
    · show gI (uI S9' 801 (A 0) 0) 501 (A (31 + 2 * c)) = _
      rw [gI_uI, if_neg (by omega), cI 501 _ (hin _ (iu_38 (by omega))) (by omega) (by omega)]
      exact hX.2.2.2.1.2.2.2.1
    · show XLN (aI S9' (A (32 + 2 * c))) (5 * i) l
      rw [cA _ (hin _ (iu_38 (by omega)))]
      exact hX.2.2.2.1.2.2.2.2 i l hl
theorem j_unit (hF : 3000 ≤ F) (hX : RX G.2.2 S x A b c nx T) (hW : WT G S) (hx : x ∈ G.1) (hk : G.2.1 x = 11) (hM : RY N2 S2 m B T) (hT : TOK n T) (hnx : nx ≤ n) : JW N2 x m A B n (w_X11_unit F x G S) (s_X12_unit N2 F m S2) := by
  obtain ⟨q0, hq0⟩ := fresh_ex G.1
  obtain ⟨v, S2', hm, _⟩ := j_unit1 (F := F) hF hX hW hx hk hM hT hnx hq0
  refine ⟨v, S2', hm, fun P hP => ?_⟩
  have hin := hX.in hW hx hk
  unfold w_X11_unit
  refine ⟨A (23 + 4 * (1 - b)), hX.1.2.2.2.1.2.2.1, ?_⟩
  simp only [bnd_def]
  intro q hq
  have hne : ∀ p, p ∈ G.1 → p ≠ q := fun p hp e => hq (e ▸ hp)
  refine ⟨A 0, ?_, ?_⟩
  · rw [gR_zap, if_neg (hne x hx)]; exact hX.1.2.2.1.1.1
  obtain ⟨v', S2'', hm', hwp⟩ := j_unit1 (F := F) hF hX hW hx hk hM hT hnx hq
  have e := hm.symm.trans hm'
  injection e with e
  have e1 : v = v' := (Prod.mk.inj e).1
  have e2 : S2' = S2'' := (Prod.mk.inj e).2
  subst e1; subst e2
  exact hwp P hP
end JUNIT
end
