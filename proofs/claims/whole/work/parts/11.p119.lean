section
/- a new unit's things -/
def newT (V : UNt) : TT := (V, [], (0, 0, 0, fun _ => 0), [], [], [], [], fun _ => none)
theorem newT_ok {V : UNt} (hU : UOK V) (hN : NOK V) (n : Nat) : TOK n (newT V) := by
  refine ⟨hU, ⟨?_, Nat.zero_lt_succ 5, Nat.zero_lt_succ 15, fun r hr => Nat.two_pow_pos _⟩, ⟨Nat.zero_le 30, fun l hl => (by cases hl)⟩, ⟨Nat.zero_le 1000, fun l hl => (by cases hl), hN⟩, ⟨Nat.zero_le 8, fun l hl => (by cases hl)⟩, fun l hl => (by cases hl), Nat.le_refl _, fun l hl => (by cases hl), Nat.zero_le _, fun m t h => (by cases h)⟩
  by_cases w : vN V = 0
  · exact Or.inr ⟨w, rfl⟩
  · exact Or.inl (show 0 < vN V by omega)
section UEND
variable {N2 : Nat → Nat} {F : Nat} {S2 : HS} {m : Nat} {B : Nat → Nat} {V : UNt} {own : Bool} {kc : Nat}
/- the model takes the new unit over -/
theorem y_unitEnd (hF : 3000 ≤ F) (hB : ∀ i j, B i = B j ↔ i = j) (hL : YLAY N2 S2.2.2.1 m B) (hw : WR S2 B) (h8 : gI S2 1208 m = ii ((0 : Nat) : Int)) (h2 : gI S2 1202 m = ii ((0 : Nat) : Int)) (hY : UY S2 m B V own kc) (hU : UOK V) (hN : NOK V) (hkc : kc ≤ 1001) :
    ∃ S2', s_X12_unit_J52 N2 F m S2 = some (0, S2') ∧ RY N2 S2' m B (newT V) := by
  obtain ⟨⟨y1, y2, y3⟩, yf, ya, yb, yo⟩ := hY
  have hn4 := hU.1
  have hr6 := hU.2.1
  have r5 : gR S2 1210 m = some (B 5) := hL.1.2.2.2.2.2.1
  have n5 : N2 (B 5) = 30 := hL.2.2.1.2.2.2.2.2.1
  have r6 : gR S2 1211 m = some (B 6) := hL.1.2.2.2.2.2.2.1
  have n6 : N2 (B 6) = 2200 := hL.2.2.1.2.2.2.2.2.2.1
  have r7 : gR S2 1213 m = some (B 7) := hL.1.2.2.2.2.2.2.2
  have n7 : N2 (B 7) = 20 := hL.2.2.1.2.2.2.2.2.2.2
  obtain ⟨Sa, a1, a2, a3, a4, a5, a6, a7⟩ := y_cp66 (F := F) r5 n5 (s_X12_unit_J93 N2 F) 15 0 F S2 (by omega) (by omega) rfl rfl
  obtain ⟨Sb, b1, b2', b3, b4, b5, b6, b7⟩ := y_cp95 (F := F) r6 n6 hkc y3 (s_X12_unit_J125 N2 F) kc 0 F Sa (by omega) (by omega) a4 a2
  obtain ⟨Sc, c1, c2, c3, c4, c5, c6, c7⟩ := y_cp127 (F := F) r7 n7 (s_X12_unit_J154 N2 F) 10 0 F Sb (by omega) (by omega) (b4.trans a4) (b2'.trans a2)
  have a1' : s_X12_unit_L66 N2 F (s_X12_unit_J93 N2 F) F m 0 S2 = s_X12_unit_J93 N2 F m Sa := a1
  have b1' : s_X12_unit_L95 N2 F (s_X12_unit_J125 N2 F) F m 0 Sa = s_X12_unit_J125 N2 F m Sb := b1
  have c1' : s_X12_unit_L127 N2 F (s_X12_unit_J154 N2 F) F m 0 Sb = s_X12_unit_J154 N2 F m Sc := c1
  have ne : ∀ i j, i ≠ j → B i ≠ B j := fun i j h e => h ((hB i j).mp e)
  -- what stands in the rows now
  have q5 : ∀ o, aI Sc (B 5) o = if o < 15 then aI S2 (B 5) (15 + o) else aI S2 (B 5) o := by
    intro o
    have : aI Sc (B 5) = aI Sa (B 5) := by
      have h1 : aI Sc (B 5) = aI Sb (B 5) := by unfold aI; rw [c5.1]
      rw [h1, b6 _ (ne 5 6 (by decide))]
    rw [this, a7]
    by_cases z : o < 15
    · rw [if_pos (by omega), if_pos z]
    · rw [if_neg (by omega), if_neg z]
  have q6 : ∀ o, aI Sc (B 6) o = if o < kc then aI S2 (B 6) (1100 + o) else aI S2 (B 6) o := by
    intro o
    have h1 : aI Sc (B 6) = aI Sb (B 6) := by unfold aI; rw [c5.1]
    rw [h1, b7, a6 _ (ne 6 5 (by decide))]
    by_cases z : o < kc
    · rw [if_pos (by omega), if_pos z]
    · rw [if_neg (by omega), if_neg z]
  have q7 : ∀ o, aJ Sc (B 7) o = if o < 10 then aJ S2 (B 7) (10 + o) else aJ S2 (B 7) o := by
    intro o
    have h1 : aJ Sb (B 7) = aJ S2 (B 7) := by rw [aJ_of b5, aJ_of a5]
    rw [c7, h1]
    by_cases z : o < 10
    · rw [if_pos (by omega), if_pos z]
    · rw [if_neg (by omega), if_neg z]
  have hLc : YLAY N2 Sc.2.2.1 m B := by rw [c4, b4, a4]; exact hL
  obtain ⟨S2', d1, d2, d3, d4, d5, d6, d7, d8, d9, d10⟩ := y_begins (F := F) hF hB hLc (nf := vN V) hn4 (by rw [q5, if_pos (by omega)]; exact y1)
  have hI1 : Sc.1 = S2.1 := c2.trans (b2'.trans a2)
  have out : s_X12_unit_J52 N2 F m S2 = some (0, S2') := by
    unfold s_X12_unit_J52
    rw [h8, if_pos (show (ii ((0 : Nat) : Int) ≤ (0 : Int32)) by decide), a1']
    unfold s_X12_unit_J93
    rw [b1']
    unfold s_X12_unit_J125
    rw [c1']
    unfold s_X12_unit_J154
    rw [d1, bd1_some]
  have e5 : ∀ o, aI S2' (B 5) o = aI Sc (B 5) o := fun o => by rw [d7 _ (ne 5 8 (by decide)) (ne 5 11 (by decide)) (ne 5 12 (by decide))]
  have e6 : ∀ o, aI S2' (B 6) o = aI Sc (B 6) o := fun o => by rw [d7 _ (ne 6 8 (by decide)) (ne 6 11 (by decide)) (ne 6 12 (by decide))]
  have e7 : aJ S2' (B 7) = aJ Sc (B 7) := by rw [aJ_of d6]
  refine ⟨S2', out, ⟨hB, by rw [d5]; exact hLc, fun i v h => ?_, ⟨?_, ?_, ?_, fun f hf => ?_, fun f hf => ?_, fun r hr => ?_⟩, hU⟩, ⟨⟨?_, by rw [d8]; rfl, by rw [d8]; rfl, fun r hr => by rw [d8, if_neg (by omega), if_pos (by omega)]; rfl⟩, by rw [d8]; rfl⟩, ⟨by rw [d8]; rfl, Nat.zero_le 8, fun i q h => (by cases h)⟩, ⟨by rw [d3]; rfl, Nat.zero_le 16, trivial⟩, fun k hk => ⟨by rw [d9 k hk]; rfl, fun t h => (by cases h)⟩, trivial, ⟨?_, fun i q h => (by cases h)⟩, ⟨by rw [d10]; rfl, fun i q h => (by cases h)⟩⟩
  · have : aJ S2' (B 4) = aJ S2 (B 4) := by rw [aJ_of d6, c6 _ (ne 4 7 (by decide)), aJ_of b5, aJ_of a5]
    rw [this]; exact hw i v h
  · show aI S2' (B 5) 0 = ii (vN V)
    rw [e5, q5, if_pos (by omega)]; exact y1
  · show aI S2' (B 5) 1 = ii (vR V)
    rw [e5, q5, if_pos (by omega)]; exact y2
  · show LAW S2' (B 5) (B 6) (lawB (vL V))
    cases own with
    | true =>
      obtain ⟨yo1, cs, k1', k2', k3', k4', k5', k6'⟩ : aI S2 (B 5) 17 = ii 0 ∧ ∃ cs : List Int32, kc = cs.length + 1 ∧ cs.length ≤ 1000 ∧ (∀ (j : Nat) (c : Int32), cs[j]? = some c → aI S2 (B 6) (1100 + j) = c) ∧ aI S2 (B 6) (1100 + cs.length) = 0 ∧ cDp cs 0 = some 1 ∧ LWM cs (lawB (vL V)) := yo
      refine Or.inr ⟨by rw [e5, q5, if_pos (by omega)]; exact yo1, cs, by omega, fun j c hj => ?_, ?_, k5', k6'⟩
      · have hjl := (List.getElem?_eq_some_iff.mp hj).1
        rw [e6, q6, if_pos (by omega)]; exact k3' j c hj
      · rw [e6, q6, if_pos (by omega)]; exact k4'
    | false =>
      obtain ⟨yo1, yo2, yo3⟩ : aI S2 (B 5) 17 = ii (-1) ∧ kc = 0 ∧ vL V = 0 := yo
      refine Or.inl ⟨by rw [e5, q5, if_pos (by omega)]; exact yo1, fun m o g r => ?_⟩
      rw [yo3]; exact lawB0 m o g r
  · have hf' : f < vN V := hf
    obtain ⟨g1, g2, g3⟩ := yf f hf'
    show aI S2' (B 5) (3 + 3 * f) = ii (vK V f) ∧ aI S2' (B 5) (3 + 3 * f + 1) = ii (vE V f) ∧ aI S2' (B 5) (3 + 3 * f + 2) = ii (vF V f)
    rw [e5, e5, e5, q5, q5, q5, if_pos (by omega), if_pos (by omega), if_pos (by omega), ← g1, ← g2, ← g3]
    refine ⟨?_, ?_, ?_⟩ <;> (congr 1; omega)
  · have hf' : f < vN V := hf
    show aJ S2' (B 7) f = jj (nm37 (vA V f))
    rw [e7, q7, if_pos (by omega)]; exact ya f hf'
  · have hr' : r < vR V := hr
    show aJ S2' (B 7) (4 + r) = jj (nm37 (vB V r))
    rw [e7, q7, if_pos (by omega), ← yb r hr']; congr 1; omega
  · show aI S2' (B 11) 0 = ii (fI V 0)
    rw [d8, if_pos rfl]
    unfold fI
    by_cases w : vN V = 0
    · rw [if_pos w, if_pos w]; rfl
    · rw [if_neg w, if_neg w]; rfl
  · show gI S2' 1202 m = ii ((0 : Nat) : Int)
    rw [d2 1202 m (by omega)]
    have : gI Sc 1202 m = gI S2 1202 m := by unfold gI; rw [hI1]
    rw [this]; exact h2
/- the model keeps its unit where the new one has a fault -/
theorem RY.un {S2' : HS} {T : TT} (h : RY N2 S2 m B T) (hg : ∀ f p, ¬ (p = m ∧ (f = 1200 ∨ f = 1202 ∨ f = 1203 ∨ f = 1207 ∨ f = 1208 ∨ f = 1212)) → gI S2' f p = gI S2 f p) (hr : S2'.2.2.1 = S2.2.2.1) (ha : ∀ p, p ≠ B 1 → p ≠ B 2 → p ≠ B 5 → p ≠ B 6 → aI S2' p = aI S2 p) (h5 : ∀ o, o < 15 → aI S2' (B 5) o = aI S2 (B 5) o) (h6 : ∀ o, o < 1100 → aI S2' (B 6) o = aI S2 (B 6) o) (hj : ∀ p, p ≠ B 3 → p ≠ B 7 → aJ S2' p = aJ S2 p) (h7 : ∀ o, o < 10 → aJ S2' (B 7) o = aJ S2 (B 7) o) (h1 : YTP S2' m B []) : RY N2 S2' m B (tPl T (tP T) []) := by
  obtain ⟨⟨w1, w2, w3, ⟨v1, v2, v3, v4, v5, v6⟩, w5⟩, ⟨a2, a3⟩, ⟨s1, s2, s3⟩, ⟨u1, u2, u3⟩, a5, a6, ⟨t1, t2⟩, ⟨p1, p2⟩⟩ := h
  have hB := w1
  have hn4 := w5.1
  have hr6 := w5.2.1
  have e : ∀ q, q ≠ 1 → q ≠ 2 → q ≠ 5 → q ≠ 6 → aI S2' (B q) = aI S2 (B q) := fun q q1 q2 q3 q4 => ha _ (by rw [ne_eq, hB]; exact q1) (by rw [ne_eq, hB]; exact q2) (by rw [ne_eq, hB]; exact q3) (by rw [ne_eq, hB]; exact q4)
  have ej : ∀ q, q ≠ 3 → q ≠ 7 → aJ S2' (B q) = aJ S2 (B q) := fun q q1 q2 => hj _ (by rw [ne_eq, hB]; exact q1) (by rw [ne_eq, hB]; exact q2)
  refine ⟨⟨w1, by rw [hr]; exact w2, by rw [ej 4 (by decide) (by decide)]; exact w3, ⟨by rw [h5 _ (by omega)]; exact v1, by rw [h5 _ (by omega)]; exact v2, ?_, fun f hf => ?_, fun f hf => ?_, fun r hr => ?_⟩, w5⟩, ⟨by rw [e 11 (by decide) (by decide) (by decide) (by decide)]; exact a2, by rw [e 11 (by decide) (by decide) (by decide) (by decide)]; exact a3⟩, ⟨by rw [e 11 (by decide) (by decide) (by decide) (by decide)]; exact s1, s2, by rw [e 11 (by decide) (by decide) (by decide) (by decide)]; exact s3⟩, ⟨by rw [hg 1218 _ (by omega)]; exact u1, u2, by rw [e 11 (by decide) (by decide) (by decide) (by decide)]; exact u3⟩, by rw [e 11 (by decide) (by decide) (by decide) (by decide), e 12 (by decide) (by decide) (by decide) (by decide)]; exact a5, a6.congr (fun i _ => ⟨by rw [ej 13 (by decide) (by decide)], by rw [ej 14 (by decide) (by decide)]⟩), h1, ⟨by rw [e 8 (by decide) (by decide) (by decide) (by decide)]; exact p1, by rw [e 8 (by decide) (by decide) (by decide) (by decide)]; exact p2⟩⟩
  · rcases v3 with ⟨x1, x2⟩ | ⟨x1, cs, x2, x3, x4, x5, x6⟩
    · exact Or.inl ⟨by rw [h5 _ (by omega)]; exact x1, x2⟩
    · refine Or.inr ⟨by rw [h5 _ (by omega)]; exact x1, cs, x2, fun j c hj => ?_, by rw [h6 _ (by omega)]; exact x4, x5, x6⟩
      have hjl := (List.getElem?_eq_some_iff.mp hj).1
      rw [h6 _ (by omega)]; exact x3 j c hj
  · have hf' : f < vN (tU T) := hf
    rw [h5 _ (by omega), h5 _ (by omega), h5 _ (by omega)]; exact v4 f hf
  · have hf' : f < vN (tU T) := hf
    rw [h7 _ (by omega)]; exact v5 f hf
  · have hr' : r < vR (tU T) := hr
    rw [h7 _ (by omega)]; exact v6 r hr
end UEND
end
