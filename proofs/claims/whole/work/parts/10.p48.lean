section
section J1
variable {N N2 : Nat → Nat} {F : Nat} {S S2 : HS} {x m : Nat} {A B : Nat → Nat} {b c nx n : Nat} {T : TT}
theorem base0 (hM : RY N2 S2 m B T) (v : Int32) : ∃ S1, S1 = uI S2 1200 m v ∧ RY N2 S1 m B T ∧ YE m B S2 S1 := ⟨_, rfl, hM.ye (YE.thr m B S2 v), YE.thr m B S2 v⟩
theorem base1 (hM : RY N2 S2 m B T) (hT : TOK n T) (hn : vN (tU T) ≠ 0) : (tN T).1 < vN (tU T) ∧ FO (vK (tU T) (tN T).1) (vE (tU T) (tN T).1) (vF (tU T) (tN T).1) ∧ MU N2 S2 m (B 5) (tN T).1 (vK (tU T) (tN T).1) (vE (tU T) (tN T).1) (vF (tU T) (tN T).1) ∧ s_X12_used N2 m S2 = some (ii (tN T).1) ∧ MR N2 S2 m (B 5) (B 9) (B 10) (B 6) (lawB (vL (tU T))) := by
  have ht := hT.2.1
  have h1 : (tN T).1 < vN (tU T) := by rcases ht.1 with r | r; exact r; exact absurd r.1 hn
  obtain ⟨mu, fo⟩ := y_mu hM.1 h1
  refine ⟨h1, fo, mu, ?_, y_ml hM.1⟩
  rw [y_used hM.1 hM.2.1.1]
  unfold fI; rw [if_neg hn]
theorem zI (p : Int32) : ∃ z : Int, p = ii z ∧ -2147483648 ≤ z ∧ z < 2147483648 := by
  have l1 := p.le_toInt
  have l2 := p.toInt_lt
  exact ⟨p.toInt, (ii_of p).symm, by omega, by omega⟩
theorem hld0 (hT : TOK n T) : hld (tU T) (tN T) 0 = decide (vN (tU T) ≠ 0) := by
  unfold hld
  apply decide_eq_decide.mpr
  have : 0 < tB (tU T) (tN T).1 := Nat.two_pow_pos _
  constructor
  · exact fun q => q.1
  · intro q
    refine ⟨q, by decide, ?_⟩
    show (0 : Int) < _
    omega
theorem hld_n {U : UNt} {t : STt} {v : Int32} (h : hld U t v = true) : vN U ≠ 0 := by unfold hld at h; exact (of_decide_eq_true h).1
theorem j_sort (hX : RX N S x A b c nx T) (hM : RY N2 S2 m B T) (hT : TOK n T) (p : Int32) : ∃ v S2', s_X11_sort N x p S = some v ∧ s_X12_sort N2 m p S2 = some (v, S2') ∧ YE m B S2 S2' := by
  have ht := hT.2.1
  obtain ⟨S1, hS1, hM1, y0⟩ := base0 hM 0
  obtain ⟨g1, g2⟩ := x_hold hX.1 hX.2.1 ht p
  unfold s_X11_sort s_X12_sort
  rw [bnd_def, ← hS1, y_used hM1.1 hM1.2.1.1, bd1_some, y_isBits hM1.1 ht, bd1_some]
  simp only [b2_0]
  cases hh : hld (tU T) (tN T) p
  · rw [g1 hh, bd1_some, mq_none, if_pos rfl]
    exact ⟨_, _, rfl, rfl, y0⟩
  · obtain ⟨q, q1, q2, q3⟩ := g2 hh
    obtain ⟨z, rfl, z2, z3, z4⟩ := hld_ex ht hh
    obtain ⟨b1, fo, mu, hu, hr⟩ := base1 hM1 hT z3
    rw [q1, bd1_some, mq_some, x2_classOf q2 q3, if_neg (by decide), bd1_some]
    rw [show fI (tU T) (tN T).1 = ((tN T).1 : Int) from if_neg z3, y_classOf mu fo z2, bd1_some]
    exact ⟨_, _, rfl, rfl, y0⟩
theorem j_above (hX : RX N S x A b c nx T) (hM : RY N2 S2 m B T) (hT : TOK n T) (p : Int32) : ∃ v S2', s_X11_above N x p S = some v ∧ s_X12_above N2 m p S2 = some (v, S2') ∧ YE m B S2 S2' := by
  have ht := hT.2.1
  obtain ⟨S1, hS1, hM1, y0⟩ := base0 hM 0
  obtain ⟨g1, g2⟩ := x_hold hX.1 hX.2.1 ht p
  unfold s_X11_above s_X12_above
  rw [bnd_def, ← hS1, y_used hM1.1 hM1.2.1.1, bd1_some, y_isBits hM1.1 ht, bd1_some]
  simp only [b2_0]
  cases hh : hld (tU T) (tN T) p
  · rw [g1 hh, bd1_some, mq_none, if_pos rfl]
    exact ⟨_, _, rfl, rfl, y0⟩
  · obtain ⟨q, q1, q2, q3⟩ := g2 hh
    obtain ⟨z, rfl, z2, z3, z4⟩ := hld_ex ht hh
    obtain ⟨b1, fo, mu, hu, hr⟩ := base1 hM1 hT z3
    rw [q1, bd1_some, mq_some, x2_next q2 q3 z2, if_neg (by decide), y_aboveOf hu mu fo z2, bd1_some]
    exact ⟨_, _, rfl, rfl, y0⟩
theorem j_below (hX : RX N S x A b c nx T) (hM : RY N2 S2 m B T) (hT : TOK n T) (p : Int32) : ∃ v S2', s_X11_below N x p S = some v ∧ s_X12_below N2 m p S2 = some (v, S2') ∧ YE m B S2 S2' := by
  have ht := hT.2.1
  obtain ⟨S1, hS1, hM1, y0⟩ := base0 hM 0
  obtain ⟨g1, g2⟩ := x_hold hX.1 hX.2.1 ht p
  unfold s_X11_below s_X12_below
  rw [bnd_def, ← hS1, y_used hM1.1 hM1.2.1.1, bd1_some, y_isBits hM1.1 ht, bd1_some]
  simp only [b2_0]
  cases hh : hld (tU T) (tN T) p
  · rw [g1 hh, bd1_some, mq_none, if_pos rfl]
    exact ⟨_, _, rfl, rfl, y0⟩
  · obtain ⟨q, q1, q2, q3⟩ := g2 hh
    obtain ⟨z, rfl, z2, z3, z4⟩ := hld_ex ht hh
    obtain ⟨b1, fo, mu, hu, hr⟩ := base1 hM1 hT z3
    have w1 := nNeg_lt fo z2
    have w2 := nNx_lt fo w1
    rw [q1, bd1_some, mq_some, x2_turned q2 q3 z2, x2_next q2 q3 w1, x2_turned q2 q3 w2, if_neg (by decide), bd1_some, bd1_some]
    rw [show fI (tU T) (tN T).1 = ((tN T).1 : Int) from if_neg z3]
    have e1 := y_negative (b := z) mu fo z2
    have e2 := y_negative (b := nNx (vK (tU T) (tN T).1) (vE (tU T) (tN T).1) (vF (tU T) (tN T).1) (nNeg (vK (tU T) (tN T).1) (vE (tU T) (tN T).1) (vF (tU T) (tN T).1) z)) mu fo w2
    rw [e1, bd1_some]
    show ∃ v S2', _ = some v ∧ bd1 (s_X12_aboveOf N2 m (ii (nNeg (vK (tU T) (tN T).1) (vE (tU T) (tN T).1) (vF (tU T) (tN T).1) z)) S1) _ = some (v, S2') ∧ _
    rw [y_aboveOf hu mu fo w1, bd1_some, e2, bd1_some]
    exact ⟨_, _, rfl, rfl, y0⟩
theorem nRk_b {k e fr b : Nat} (ho : FO k e fr) : -67108864 ≤ nRk e fr b ∧ nRk e fr b ≤ 67108864 := by
  have hs := sb_le ho
  have := @nS_lt e fr b
  unfold nRk; split <;> omega
theorem j_order (hX : RX N S x A b c nx T) (hM : RY N2 S2 m B T) (hT : TOK n T) (p r : Int32) : ∃ v S2', s_X11_order N x p r S = some v ∧ s_X12_order N2 m p r S2 = some (v, S2') ∧ YE m B S2 S2' := by
  have ht := hT.2.1
  obtain ⟨S1, hS1, hM1, y0⟩ := base0 hM 0
  obtain ⟨g1, g2⟩ := x_hold hX.1 hX.2.1 ht p
  unfold s_X11_order s_X12_order
  rw [bnd_def, ← hS1, y_areBits hM1.1 hM1.2.1.1 ht, bd1_some, hld0 hT]
  simp only [b2_0]
  cases hh : hld (tU T) (tN T) p
  · rw [g1 hh, bd1_some, mq_none, if_pos (by simp)]
    exact ⟨_, _, rfl, rfl, y0⟩
  obtain ⟨q, q1, q2, q3⟩ := g2 hh
  obtain ⟨z, rfl, z2, z3, z4⟩ := hld_ex ht hh
  obtain ⟨b1, fo, mu, hu, hr⟩ := base1 hM1 hT z3
  rw [q1, bd1_some, mq_some, x_holds q2 q3 z3]
  simp only [b2_0]
  cases hh2 : hld (tU T) (tN T) r
  · rw [if_pos rfl, if_pos (by simp)]
    exact ⟨_, _, rfl, rfl, y0⟩
  obtain ⟨z', rfl, z2', _, _⟩ := hld_ex ht hh2
  have r1 := nRk_b (b := z) fo
  have r2 := nRk_b (b := z') fo
  have hc : (true && true && decide (vN (tU T) ≠ 0)) = true := by simp [z3]
  have tf : ¬ (true = false) := by decide
  rw [hc, if_neg tf, if_neg tf, x2_isNan q2 q3, x2_isNan q2 q3, x2_rank q2 q3 z2, x2_rank q2 q3 z2', y_rankOf hu mu fo z2, bd1_some, y_rankOf hu mu fo z2', bd1_some, hu, bd1_some, y_isNan mu fo z2, bd1_some, bd1_some, y_isNan mu fo z2', bd1_some]
  simp only [b2_0, decide_eq_false_iff_not, bnd_def]
  by_cases n1 : nInf (vK (tU T) (tN T).1) (vE (tU T) (tN T).1) (vF (tU T) (tN T).1) < nS (vE (tU T) (tN T).1) (vF (tU T) (tN T).1) z
  · rw [if_neg (by simp [n1]), if_neg (by simp [n1])]
    exact ⟨_, _, rfl, rfl, y0⟩
  rw [if_pos n1, if_pos n1]
  by_cases n2 : nInf (vK (tU T) (tN T).1) (vE (tU T) (tN T).1) (vF (tU T) (tN T).1) < nS (vE (tU T) (tN T).1) (vF (tU T) (tN T).1) z'
  · rw [if_neg (by simp [n2]), if_neg (by simp [n2])]
    exact ⟨_, _, rfl, rfl, y0⟩
  rw [if_pos n2, if_pos n2]
  simp (disch := omega) only [ii_le]
  by_cases n3 : nRk (vE (tU T) (tN T).1) (vF (tU T) (tN T).1) z' ≤ nRk (vE (tU T) (tN T).1) (vF (tU T) (tN T).1) z
  · rw [if_pos n3, if_pos n3]
    by_cases n4 : nRk (vE (tU T) (tN T).1) (vF (tU T) (tN T).1) z ≤ nRk (vE (tU T) (tN T).1) (vF (tU T) (tN T).1) z'
    · rw [if_pos n4, if_pos n4]; exact ⟨_, _, rfl, rfl, y0⟩
    · rw [if_neg n4, if_neg n4]; exact ⟨_, _, rfl, rfl, y0⟩
  · rw [if_neg n3, if_neg n3]; exact ⟨_, _, rfl, rfl, y0⟩
theorem j_apart (hX : RX N S x A b c nx T) (hM : RY N2 S2 m B T) (hT : TOK n T) (p r : Int32) : ∃ v S2', s_X11_apart N x p r S = some v ∧ s_X12_apart N2 m p r S2 = some (v, S2') ∧ YE m B S2 S2' := by
  have ht := hT.2.1
  obtain ⟨S1, hS1, hM1, y0⟩ := base0 hM 0
  obtain ⟨g1, g2⟩ := x_hold hX.1 hX.2.1 ht p
  unfold s_X11_apart s_X12_apart
  rw [bnd_def, ← hS1, y_areBits hM1.1 hM1.2.1.1 ht, bd1_some, hld0 hT]
  simp only [b2_0]
  cases hh : hld (tU T) (tN T) p
  · rw [g1 hh, bd1_some, mq_none, if_pos (by simp)]
    exact ⟨_, _, rfl, rfl, y0⟩
  obtain ⟨q, q1, q2, q3⟩ := g2 hh
  obtain ⟨z, rfl, z2, z3, z4⟩ := hld_ex ht hh
  obtain ⟨b1, fo, mu, hu, hr⟩ := base1 hM1 hT z3
  rw [q1, bd1_some, mq_some, x_holds q2 q3 z3]
  simp only [b2_0]
  cases hh2 : hld (tU T) (tN T) r
  · rw [if_pos rfl, if_pos (by simp)]
    exact ⟨_, _, rfl, rfl, y0⟩
  obtain ⟨z', rfl, z2', _, _⟩ := hld_ex ht hh2
  have r1 := nRk_b (b := z) fo
  have r2 := nRk_b (b := z') fo
  have hc : (true && true && decide (vN (tU T) ≠ 0)) = true := by simp [z3]
  have tf : ¬ (true = false) := by decide
  rw [hc, if_neg tf, if_neg tf, x2_isNan q2 q3, x2_isNan q2 q3, x2_rank q2 q3 z2, x2_rank q2 q3 z2', hu, bd1_some, y_isNan mu fo z2, bd1_some, bd1_some, y_isNan mu fo z2', bd1_some, y_rankOf hu mu fo z2, bd1_some, y_rankOf hu mu fo z2', bd1_some]
  simp only [b2_0, decide_eq_false_iff_not, bnd_def]
  by_cases n1 : nInf (vK (tU T) (tN T).1) (vE (tU T) (tN T).1) (vF (tU T) (tN T).1) < nS (vE (tU T) (tN T).1) (vF (tU T) (tN T).1) z
  · rw [if_neg (by simp [n1]), if_neg (by simp [n1])]
    exact ⟨_, _, rfl, rfl, y0⟩
  rw [if_pos n1, if_pos n1]
  by_cases n2 : nInf (vK (tU T) (tN T).1) (vE (tU T) (tN T).1) (vF (tU T) (tN T).1) < nS (vE (tU T) (tN T).1) (vF (tU T) (tN T).1) z'
  · rw [if_neg (by simp [n2]), if_neg (by simp [n2])]
    exact ⟨_, _, rfl, rfl, y0⟩
  rw [if_pos n2, if_pos n2]
  simp (disch := omega) only [ii_le, ii_sub, ii_neg, k0]
  by_cases n3 : 0 ≤ nRk (vE (tU T) (tN T).1) (vF (tU T) (tN T).1) z - nRk (vE (tU T) (tN T).1) (vF (tU T) (tN T).1) z'
  · rw [if_pos n3, if_pos n3]; exact ⟨_, _, rfl, rfl, y0⟩
  · rw [if_neg n3, if_neg n3]; exact ⟨_, _, by rw [Int.zero_sub], rfl, y0⟩
theorem j_part (hX : RX N S x A b c nx T) (hM : RY N2 S2 m B T) (hT : TOK n T) (p r : Int32) : ∃ v S2', s_X11_part N x p r S = some v ∧ s_X12_part N2 m p r S2 = some (v, S2') ∧ YE m B S2 S2' := by
  have ht := hT.2.1
  obtain ⟨S1, hS1, hM1, y0⟩ := base0 hM 0
  obtain ⟨g1, g2⟩ := x_hold hX.1 hX.2.1 ht p
  unfold s_X11_part s_X12_part
  rw [bnd_def, ← hS1, y_used hM1.1 hM1.2.1.1, bd1_some, y_isBits hM1.1 ht, bd1_some]
  simp only [b2_0]
  cases hh : hld (tU T) (tN T) p
  · rw [g1 hh, bd1_some, mq_none, if_pos rfl]
    exact ⟨_, _, rfl, rfl, y0⟩
  obtain ⟨q, q1, q2, q3⟩ := g2 hh
  obtain ⟨z, rfl, z2, z3, z4⟩ := hld_ex ht hh
  obtain ⟨b1, fo, mu, hu, hr⟩ := base1 hM1 hT z3
  obtain ⟨y, rfl, y1, y2⟩ := zI r
  have hfr := fr_le fo
  have o5 := fo.2.2.2.2
  have ew : s_X12_within (ii y) 0 2 S1 = b2 (decide (0 ≤ y ∧ y ≤ 2)) := y_within y 0 2 y1 y2 (by omega) (by omega) (by omega) (by omega)
  have ef : fI (tU T) (tN T).1 = ((tN T).1 : Int) := if_neg z3
  have em : (1 : Int32) <<< (ii ((vF (tU T) (tN T).1 : Nat) : Int) &&& 31) - 1 = ii ((2 ^ (vF (tU T) (tN T).1) - 1 : Nat)) := by
    rw [one_shl (by omega), k1, ii_sub]; congr 1; omega
  rw [q1, bd1_some, mq_some, x2_isMinus q2 q3 z2, x2_exponent q2 q3, x2_fraction q2 q3, if_neg (show ¬ (true = false) by decide), ew, ef, bd1_some, bd1_some, bd1_some, y_isMinus mu fo z2, bd1_some, y_exponentOf mu fo z2, bd1_some, y_fracOf mu, bd1_some, em, ii_mod]
  simp only [b2_0, decide_eq_false_iff_not]
  have c0 : (ii y = (0 : Int32)) = (y = 0) := ii_eq (b := 0) y1 y2 (by omega) (by omega)
  have c1 : (ii y = (1 : Int32)) = (y = 1) := ii_eq (b := 1) y1 y2 (by omega) (by omega)
  have c2 : (ii y = (2 : Int32)) = (y = 2) := ii_eq (b := 2) y1 y2 (by omega) (by omega)
  simp only [c0, c1, c2]
  by_cases w1 : 0 ≤ y ∧ y ≤ 2
  · rw [if_neg (show ¬ ¬ (0 ≤ y ∧ y ≤ 2) from fun q => q w1)]
    have : y = 0 ∨ y = 1 ∨ y = 2 := by omega
    rcases this with w | w | w <;> subst w
    · cases nMi (vE (tU T) (tN T).1) (vF (tU T) (tN T).1) z <;> exact ⟨_, _, rfl, rfl, y0⟩
    · exact ⟨_, _, rfl, rfl, y0⟩
    · exact ⟨_, _, rfl, rfl, y0⟩
  · rw [if_pos w1, if_neg (show ¬ y = 0 by omega), if_neg (show ¬ y = 1 by omega), if_neg (show ¬ y = 2 by omega)]
    exact ⟨_, _, rfl, rfl, y0⟩
end J1
end
section
theorem AFr.sf0 {a : Nat} {fs : List Nat} {S S' : HS} (h : AFr a fs S S') : S'.2.2.1 = S.2.2.1 := by rw [h.2.2]
theorem km400 : (-400 : Int32) = ii (-400) := by decide
theorem k400 : (400 : Int32) = ii 400 := by decide
section J2
variable {N N2 : Nat → Nat} {F : Nat} {S S2 : HS} {x m : Nat} {A B : Nat → Nat} {b c nx n : Nat} {T : TT}
theorem y_mode (hM : RY N2 S2 m B T) : gR S2 1217 m = some (B 11) ∧ inB (1 : Int32) (N2 (B 11)) = true ∧ aI S2 (B 11) ((1 : Int32).toNatClampNeg) = ii (tN T).2.1 := by
  obtain ⟨h1, h2⟩ := y_st hM.1
  exact ⟨h1, by rw [h2]; decide, hM.2.1.1.2.1⟩
theorem x_add (hX : RX N S x A b c nx T) : gR S 1101 x = some (A 2) ∧ gR S 1104 x = some (A 16) ∧ gI S 702 (A 16) = ii (tN T).2.1 ∧ gI S 0 (A 2) = ii (vL (tU T)) ∧ vL (tU T) < 65536 ∧ gR S 1111 x = some (A (23 + 4 * b)) :=
  ⟨hX.1.2.2.1.1.2.2.1, hX.1.2.2.1.1.2.2.2.2.2.2.2.1, hX.2.1.2.1, hX.1.2.2.2.1.2.2.2.2.2.1, hX.1.2.2.2.2.2.2.1, hX.1.2.2.2.1.2.1⟩
theorem tf : ¬ (true = false) := by decide
theorem j_scale (hF : 3000 ≤ F) (hX : RX N S x A b c nx T) (hM : RY N2 S2 m B T) (hT : TOK n T) (p r : Int32) : ∃ v S' S2', s_X11_scale N F x p r S = some (v, S') ∧ s_X12_scale N2 F m p r S2 = some (v, S2') ∧ XE A S S' ∧ YE m B S2 S2' := by
  have ht := hT.2.1
  obtain ⟨S1, hS1, hM1, y0⟩ := base0 hM 0
  obtain ⟨g1, g2⟩ := x_hold hX.1 hX.2.1 ht p
  obtain ⟨a1, a2, a3, a4, a5, a6⟩ := x_add hX
  obtain ⟨m1, m2, m3⟩ := y_mode hM1
  unfold s_X11_scale s_X12_scale
  rw [bnd_def, ← hS1, y_used hM1.1 hM1.2.1.1, bd1_some, y_isBits hM1.1 ht, bd1_some]
  simp only [b2_0]
  cases hh : hld (tU T) (tN T) p
  · rw [g1 hh, bd1_some, mq_none, if_pos rfl]
    exact ⟨_, _, _, rfl, rfl, XE.refl _ _, y0⟩
  obtain ⟨q, q1, q2, q3⟩ := g2 hh
  obtain ⟨z, rfl, z2, z3, z4⟩ := hld_ex ht hh
  obtain ⟨b1, fo, mu, hu, hr⟩ := base1 hM1 hT z3
  obtain ⟨y, rfl, y1, y2⟩ := zI r
  have z2 : z < 2 ^ (vE (tU T) (tN T).1 + vF (tU T) (tN T).1 + 1) := z2
  have ef : fI (tU T) (tN T).1 = ((tN T).1 : Int) := if_neg z3
  have ew : s_X12_within (ii y) (-400) 400 S1 = b2 (decide (-400 ≤ y ∧ y ≤ 400)) := by rw [km400, k400]; exact y_within y (-400) 400 y1 y2 (by omega) (by omega) (by omega) (by omega)
  have c1 : (ii y < (-400 : Int32)) = (y < -400) := by rw [km400]; exact ii_lt (b := -400) y1 y2 (by omega) (by omega)
  have c2 : (ii y ≤ (400 : Int32)) = (y ≤ 400) := by rw [k400]; exact ii_le (b := 400) y1 y2 (by omega) (by omega)
  clear g1 g2
  generalize vK (tU T) (tN T).1 = k at *
  generalize vE (tU T) (tN T).1 = e at *
  generalize vF (tU T) (tN T).1 = fr at *
  have hw := nW_512 (b := z) fo
  have hp := nPl_le (b := z) fo
  rw [q1, bd1_some, mq_some, if_neg tf, ew, ef]
  simp only [c1, c2, b2_0, decide_eq_false_iff_not]
  by_cases w1 : -400 ≤ y ∧ y ≤ 400
  · rw [if_neg (show ¬ y < -400 by omega), if_pos w1.2, if_neg (show ¬ ¬ (-400 ≤ y ∧ y ≤ 400) from fun q => q w1), y_classOf mu fo z2, bd1_some, y_nanOf mu fo, bd1_some, x2_isNan q2 q3, x2_isInfinite q2 q3, x2_isNought q2 q3, x2_isMinus q2 q3 z2, x2_weight q2 q3, x2_place q2 q3, ii_jj (by omega) (by omega), ii_add, y_isMinus mu fo z2, bd1_some, y_wholeOf mu fo z2, bd1_some, y_placeOf mu fo z2, bd1_some, ii_add, m1, bd1_some, if_pos m2, m3, a1, bd1_some, a2, bd1_some, a3]
    simp only [b2_0, decide_eq_false_iff_not]
    have hcl := @nCl_le k e fr z
    have d4 := nCl_4 (b := z) fo
    have d3 := nCl_3 (b := z) fo
    have d0 := @nCl_0 k e fr z
    have hi := nInf_le fo
    unfold s_X12_scale_J67
    have e4 : (ii ((nCl k e fr z : Nat) : Int) = (4 : Int32)) = (nInf k e fr < nS e fr z) := by
      rw [k4, ii_eq (by omega) (by omega) (by omega) (by omega)]; apply propext; rw [← d4]; omega
    have e3 : (ii ((nCl k e fr z : Nat) : Int) = (3 : Int32)) = (nS e fr z = nInf k e fr) := by
      rw [k3, ii_eq (by omega) (by omega) (by omega) (by omega)]; apply propext; rw [← d3]; omega
    have e0 : (ii ((nCl k e fr z : Nat) : Int) = (0 : Int32)) = (nS e fr z = 0) := by
      rw [k0, ii_eq (by omega) (by omega) (by omega) (by omega)]; apply propext; rw [← d0]; omega
    simp only [e4, e3, e0]
    by_cases n1 : nInf k e fr < nS e fr z
    · rw [if_neg (by simp [n1]), if_pos n1, q2.2.2.2.2.2.2.2]
      exact ⟨_, _, _, rfl, rfl, XE.refl _ _, y0⟩
    rw [if_pos n1, if_neg n1]
    by_cases n2 : nS e fr z = nInf k e fr
    · rw [if_neg (by simp [n2]), if_pos n2]
      exact ⟨_, _, _, rfl, rfl, XE.refl _ _, y0⟩
    rw [if_pos n2, if_neg n2]
    by_cases n3 : nS e fr z = 0
    · rw [if_neg (by simp [n3]), if_pos n3]
      exact ⟨_, _, _, rfl, rfl, XE.refl _ _, y0⟩
    rw [if_pos n3, if_neg n3]
    obtain ⟨S3, r1, r2, r3⟩ := x0_round (F := F) (m := nMi e fr z) (n := nW e fr z) (pl := nPl e fr z + y) (by omega) q2 q3 a4 a5 ht.2.1 (nW_pos n3) (by omega) (by omega) (by omega)
    obtain ⟨S4, s1, s2, s3⟩ := y_rounds (F := F) (m := nMi e fr z) (n := nW e fr z) (pl := nPl e fr z + y) (by omega) hr mu fo ht.2.1 false (nW_pos n3) (by omega) (by omega) (by omega)
    rw [show b2 false = (0 : Int32) from rfl] at s1
    rw [r1, bd1_some, s1, bd2_some, gR_of r3.sf0, a1, bd1_some, r2.1]
    exact ⟨_, _, _, rfl, rfl, r3.xe, y0.trans (s2.ye hM1.1.1)⟩
  · rw [if_pos w1]
    by_cases w2 : y < -400
    · rw [if_pos w2]; exact ⟨_, _, _, rfl, rfl, XE.refl _ _, y0⟩
    · rw [if_neg w2, if_neg (show ¬ y ≤ 400 by omega)]; exact ⟨_, _, _, rfl, rfl, XE.refl _ _, y0⟩
theorem j_into (hF : 3000 ≤ F) (hX : RX N S x A b c nx T) (hM : RY N2 S2 m B T) (hT : TOK n T) (p r : Int32) : ∃ v S' S2', s_X11_into N F x p r S = some (v, S') ∧ s_X12_into N2 F m p r S2 = some (v, S2') ∧ XE A S S' ∧ YE m B S2 S2' := by
  have ht := hT.2.1
  obtain ⟨S1, hS1, hM1, y0⟩ := base0 hM 0
  obtain ⟨g1, g2⟩ := x_hold hX.1 hX.2.1 ht r
  obtain ⟨a1, a2, a3, a4, a5, a6⟩ := x_add hX
  obtain ⟨m1, m2, m3⟩ := y_mode hM1
  obtain ⟨y, rfl, y1, y2⟩ := zI p
  obtain ⟨f1, f2⟩ := x_formAt hX.1 y y1 y2
  unfold s_X11_into s_X12_into
  rw [bnd_def, ← hS1, y_isForm hM1.1 y y1 y2, bd1_some, y_used hM1.1 hM1.2.1.1, bd1_some, y_isBits hM1.1 ht, bd1_some, bd1_some]
  simp only [b2_0, decide_eq_false_iff_not]
  cases hh : hld (tU T) (tN T) r
  · rw [g1 hh, bd1_some, mq_none, a6, bd1_some]
    by_cases w : 0 ≤ y ∧ y < vN (tU T)
    · obtain ⟨o, o1, o2⟩ := f2 w
      rw [o1, bd1_some, mq_some, if_neg (fun q => q w), if_pos rfl]
      exact ⟨_, _, _, rfl, rfl, XE.refl _ _, y0⟩
    · rw [f1 w, bd1_some, mq_none, if_pos w]
      exact ⟨_, _, _, rfl, rfl, XE.refl _ _, y0⟩
  obtain ⟨q, q1, q2, q3⟩ := g2 hh
  obtain ⟨z, rfl, z2, z3, z4⟩ := hld_ex ht hh
  obtain ⟨b1, fo, mu, hu, hr⟩ := base1 hM1 hT z3
  have ef : fI (tU T) (tN T).1 = ((tN T).1 : Int) := if_neg z3
  rw [q1, bd1_some, mq_some, a6, bd1_some, if_neg tf, ef]
  by_cases w : 0 ≤ y ∧ y < vN (tU T)
  · obtain ⟨o, o1, o2⟩ := f2 w
    obtain ⟨g, rfl⟩ : ∃ g : Nat, y = g := ⟨y.toNat, by omega⟩
    have o3 : FM S o (vK (tU T) g) (vE (tU T) g) (vF (tU T) g) := by simpa using o2
    obtain ⟨mu2, fo2⟩ := y_mu (f := g) hM1.1 (by omega)
    rw [o1, bd1_some, mq_some, if_neg (fun q => q w), a1, bd1_some, a2, bd1_some, a3, m1, bd1_some, if_pos m2, m3]
    obtain ⟨S3, c1, c2, c3, c4⟩ := x_conv (F := F) (a := A 2) (by omega) q2 q3 o3 fo2 a4 a5 ht.2.1 z2
    obtain ⟨S4, s1, s2, s3⟩ := y_turns (F := F) (by omega) hr mu fo mu2 fo2 ht.2.1 z2
    rw [c1, bd1_some, s1, bd2_some, gR_of c2.sf0, a1, bd1_some, c3]
    exact ⟨_, _, _, rfl, rfl, c2.xe, y0.trans (s2.ye hM1.1.1)⟩
  · rw [f1 w, bd1_some, mq_none, if_pos w]
    exact ⟨_, _, _, rfl, rfl, XE.refl _ _, y0⟩
theorem j_of (hF : 3000 ≤ F) (hX : RX N S x A b c nx T) (hM : RY N2 S2 m B T) (hT : TOK n T) (p : Int32) : ∃ v S' S2', s_X11_of N F x p S = some (v, S') ∧ s_X12_of N2 F m p S2 = some (v, S2') ∧ XE A S S' ∧ YE m B S2 S2' := by
  have ht := hT.2.1
  obtain ⟨S1, hS1, hM1, y0⟩ := base0 hM 0
  obtain ⟨g1, g2⟩ := x_inUse hX.1 hX.2.1 ht
  obtain ⟨a1, a2, a3, a4, a5, a6⟩ := x_add hX
  obtain ⟨m1, m2, m3⟩ := y_mode hM1
  obtain ⟨y, rfl, y1, y2⟩ := zI p
  have fb := fI_b ht hX.1.2.2.2.2
  unfold s_X11_of s_X12_of
  rw [bnd_def, ← hS1, y_used hM1.1 hM1.2.1.1, bd1_some]
  by_cases hn : vN (tU T) = 0
  · have ef : fI (tU T) (tN T).1 = -1 := if_pos hn
    rw [g1 hn, bd1_some, mq_none, ef, if_neg (by decide)]
    exact ⟨_, _, _, rfl, rfl, XE.refl _ _, y0⟩
  obtain ⟨q, q1, q2, q3⟩ := g2 hn
  obtain ⟨b1, fo, mu, hu, hr⟩ := base1 hM1 hT hn
  have ef : fI (tU T) (tN T).1 = ((tN T).1 : Int) := if_neg hn
  have hl4 := hX.1.2.2.2.2.1
  have c0 : (ii y = (0 : Int32)) = (y = 0) := ii_eq (b := 0) y1 y2 (by omega) (by omega)
  have c1 : ((0 : Int32) ≤ ii y) = (0 ≤ y) := ii_le (a := 0) (by omega) (by omega) y1 y2
  rw [q1, bd1_some, mq_some, ef, if_pos (show (0 : Int32) ≤ ii ((tN T).1 : Int) by rw [k0, ii_le (by omega) (by omega) (by omega) (by omega)]; omega), bnd_def, bnd_def, bd1_some, ii_jj y1 y2, a1, bd1_some, a2, bd1_some, a3]
  unfold s_X11_of_J41 s_X11_of_J53 s_X12_of_J39 s_X12_of_J49
  simp only [c0, c1]
  simp only [m1, bd1_some, m2, if_true, m3]
  rw [q0, lg_c (by omega) (by omega) (by omega) (by omega), jj_neg]
  by_cases w0 : y = 0
  · rw [if_pos w0, if_pos w0]
    exact ⟨_, _, _, rfl, rfl, XE.refl _ _, y0⟩
  simp only [if_neg w0]
  have fin : ∀ (mm : Bool) (k : Nat), 0 < k → k ≤ 2147483648 → ∃ v S' S2', bd1 (s_X0_round F (A 2) q (ii (tN T).2.1) (b2 mm) (jj k) 0 S) (fun S10 => bd1 (gR S10 1101 x) fun t11 => some (gI S10 1 t11, S10)) = some (v, S') ∧ bd2 (s_X12_rounds N2 F m (ii (tN T).1) (b2 mm) (jj k) 0 0 (ii (tN T).2.1) S1) (fun r11 S12 => some (r11, S12)) = some (v, S2') ∧ XE A S S' ∧ YE m B S2 S2' := by
    intro mm k hk1 hk2
    obtain ⟨S3, r1, r2, r3⟩ := x0_round (F := F) (m := mm) (n := k) (pl := 0) (by omega) q2 q3 a4 a5 ht.2.1 hk1 (by omega) (by omega) (by omega)
    obtain ⟨S4, s1, s2, s3⟩ := y_rounds (F := F) (m := mm) (n := k) (pl := 0) (by omega) hr mu fo ht.2.1 false hk1 (by omega) (by omega) (by omega)
    rw [show b2 false = (0 : Int32) from rfl, show ii 0 = (0 : Int32) from rfl] at s1
    rw [show ii 0 = (0 : Int32) from rfl] at r1
    rw [r1, bd1_some, s1, bd2_some, gR_of r3.sf0, a1, bd1_some, r2.1]
    exact ⟨_, _, _, rfl, rfl, r3.xe, y0.trans (s2.ye hM1.1.1)⟩
  by_cases w1 : 0 ≤ y
  · obtain ⟨k, rfl⟩ : ∃ k : Nat, y = k := ⟨y.toNat, by omega⟩
    rw [if_pos w1, if_pos w1, if_pos w1, if_pos (show (0 : Int) < (k : Int) by omega), if_pos (by decide)]
    exact fin false k (by omega) (by omega)
  · obtain ⟨k, rfl⟩ : ∃ k : Nat, y = -(k : Int) := ⟨(-y).toNat, by omega⟩
    rw [if_neg w1, if_neg w1, if_neg w1, if_neg (show ¬ (0 : Int) < -(k : Int) by omega), if_neg (by decide), Int.neg_neg]
    exact fin true k (by omega) (by omega)
end J2
end
section
section J3
variable {N N2 : Nat → Nat} {F : Nat} {S S2 : HS} {x m : Nat} {A B : Nat → Nat} {b c nx n : Nat} {T : TT}
def sumT (T : TT) (mode p q r : Nat) : Nat × Nat × Int × Bool := sumF (vK (tU T) (tN T).1) (vE (tU T) (tN T).1) (vF (tU T) (tN T).1) (lawB (vL (tU T))) mode p q r
def hld3 (T : TT) (p q r : Int32) : Bool := hld (tU T) (tN T) p && hld (tU T) (tN T) q && hld (tU T) (tN T) r
theorem sumT_b (hT : TOK n T) (hn : vN (tU T) ≠ 0) (mode p q r : Nat) : (sumT T mode p q r).1 < tB (tU T) (tN T).1 ∧ (sumT T mode p q r).2.1 < 16 ∧ -1 ≤ (sumT T mode p q r).2.2.1 ∧ (sumT T mode p q r).2.2.1 ≤ 1 := by
  have h1 : (tN T).1 < vN (tU T) := by rcases hT.2.1.1 with r | r; exact r; exact absurd r.1 hn
  exact sumF_b (hT.1.2.2.2 _ h1)
theorem x_sumT (hF : 3000 ≤ F) (hX : RX N S x A b c nx T) (hT : TOK n T) {q : Nat} (q2 : FM S q (vK (tU T) (tN T).1) (vE (tU T) (tN T).1) (vF (tU T) (tN T).1)) (q3 : FO (vK (tU T) (tN T).1) (vE (tU T) (tN T).1) (vF (tU T) (tN T).1)) {mode u v w : Nat} (hm : mode < 6) (hu : u < tB (tU T) (tN T).1) (hv : v < tB (tU T) (tN T).1) (hw : w < tB (tU T) (tN T).1) :
    ∃ S', s_X0_add F (A 2) q (ii mode) (ii u) (ii v) (ii w) S = some S' ∧ XE A S S' ∧ XS S' (A 2) (sumT T mode u v w) ∧ FM S' q (vK (tU T) (tN T).1) (vE (tU T) (tN T).1) (vF (tU T) (tN T).1) := by
  obtain ⟨a1, a2, a3, a4, a5, a6⟩ := x_add hX
  obtain ⟨S1, s1, s2, s3⟩ := x_sum (F := F) (a := A 2) (by omega) q2 q3 a4 a5 hm hu hv hw
  exact ⟨S1, s1, s2.xe, s3, q2.mono s2⟩
theorem x_add3 (hF : 3000 ≤ F) (hX : RX N S x A b c nx T) (hT : TOK n T) (p q r : Int32) :
    (hld3 T p q r = false → ∀ md, s_X11_add N F x p q r md S = some (0, S)) ∧ (∀ mode u v w : Nat, mode < 6 → hld3 T (ii u) (ii v) (ii w) = true → u < tB (tU T) (tN T).1 → v < tB (tU T) (tN T).1 → w < tB (tU T) (tN T).1 → ∃ S', s_X11_add N F x (ii u) (ii v) (ii w) (ii mode) S = some (1, S') ∧ XE A S S' ∧ XS S' (A 2) (sumT T mode u v w)) := by
  have ht := hT.2.1
  obtain ⟨a1, a2, a3, a4, a5, a6⟩ := x_add hX
  constructor
  · intro h md
    obtain ⟨g1, g2⟩ := x_hold hX.1 hX.2.1 ht p
    unfold s_X11_add
    cases hh : hld (tU T) (tN T) p
    · rw [g1 hh, bd1_some, mq_none]
    · obtain ⟨o, o1, o2, o3⟩ := g2 hh
      have hn := hld_n hh
      rw [o1, bd1_some, mq_some, x_holds o2 o3 hn, x_holds o2 o3 hn]
      simp only [b2_0]
      cases hq : hld (tU T) (tN T) q
      · rw [if_pos rfl]
      · rw [if_neg tf]
        have : hld (tU T) (tN T) r = false := by unfold hld3 at h; rw [hh, hq] at h; simpa using h
        rw [if_pos this]
  · intro mode u v w hm h hu hv hw
    have h3 : hld (tU T) (tN T) (ii u) = true ∧ hld (tU T) (tN T) (ii v) = true ∧ hld (tU T) (tN T) (ii w) = true := by
      unfold hld3 at h; simp at h; exact ⟨h.1.1, h.1.2, h.2⟩
    obtain ⟨g1, g2⟩ := x_hold hX.1 hX.2.1 ht (ii u)
    obtain ⟨o, o1, o2, o3⟩ := g2 h3.1
    have hn := hld_n h3.1
    unfold s_X11_add
    rw [o1, bd1_some, mq_some, x_holds o2 o3 hn, x_holds o2 o3 hn, h3.2.1, h3.2.2, if_neg (by decide), if_neg (by decide), a1, bd1_some]
    obtain ⟨S1, s1, s2, s3, _⟩ := x_sumT hF hX hT o2 o3 hm hu hv hw
    rw [s1, bd1_some]
    exact ⟨S1, rfl, s2, s3⟩
theorem y_sum3 (hF : 3000 ≤ F) (hM : RY N2 S2 m B T) (hT : TOK n T) (hn : vN (tU T) ≠ 0) {mode u v w : Nat} (hm : mode < 6) (hu : u < tB (tU T) (tN T).1) (hv : v < tB (tU T) (tN T).1) (hw : w < tB (tU T) (tN T).1) :
    ∃ S', s_X12_sums_ N2 F m (ii (tN T).1) (ii u) (ii v) (ii w) (ii mode) S2 = some (ii (sumT T mode u v w).1, S') ∧ YE m B S2 S' ∧ YS S' m (vE (tU T) (tN T).1) (vF (tU T) (tN T).1) (sumT T mode u v w) := by
  obtain ⟨b1, fo, mu, hus, hr⟩ := base1 hM hT hn
  obtain ⟨S4, s1, s2, s3⟩ := y_sums (F := F) (by omega) hr mu fo hm hu hv hw
  exact ⟨S4, s1, s2.ye hM.1.1, s3⟩
theorem y_sumNow (hF : 3000 ≤ F) (hM : RY N2 S2 m B T) (hT : TOK n T) (hn : vN (tU T) ≠ 0) {u v w : Nat} (hu : u < tB (tU T) (tN T).1) (hv : v < tB (tU T) (tN T).1) (hw : w < tB (tU T) (tN T).1) :
    ∃ S', s_X12_sumNow N2 F m (ii u) (ii v) (ii w) S2 = some (ii (sumT T (tN T).2.1 u v w).1, S') ∧ YE m B S2 S' ∧ YS S' m (vE (tU T) (tN T).1) (vF (tU T) (tN T).1) (sumT T (tN T).2.1 u v w) := by
  obtain ⟨b1, fo, mu, hus, hr⟩ := base1 hM hT hn
  obtain ⟨m1, m2, m3⟩ := y_mode hM
  obtain ⟨S4, s1, s2, s3⟩ := y_sum3 hF hM hT hn hT.2.1.2.1 hu hv hw
  unfold s_X12_sumNow
  rw [hus, bd1_some, m1, bd1_some, if_pos m2, m3, s1, bd2_some]
  exact ⟨S4, rfl, s2, s3⟩
theorem x_isMode (z : Int) (h1 : -2147483648 ≤ z) (h2 : z < 2147483648) : s_X11_isMode (ii z) S = b2 (decide (0 ≤ z ∧ z < 6)) := by
  unfold s_X11_isMode
  simp (disch := omega) only [k0, k6, ii_lt, ii_le]
  by_cases q1 : z < 0
  · rw [if_pos q1, decide_eq_false (by omega)]; rfl
  · rw [if_neg q1]
    by_cases q2 : 6 ≤ z
    · rw [if_pos q2, decide_eq_false (by omega)]; rfl
    · rw [if_neg q2, decide_eq_true (by omega)]; rfl
theorem y_w5 (z : Int) (h1 : -2147483648 ≤ z) (h2 : z < 2147483648) : s_X12_within (ii z) 0 5 S2 = b2 (decide (0 ≤ z ∧ z < 6)) := by
  have := y_within (S := S2) z 0 5 h1 h2 (by omega) (by omega) (by omega) (by omega)
  rw [show ((0 : Int32)) = ii 0 from rfl, show (5 : Int32) = ii 5 from rfl, this]
  congr 1
  apply decide_eq_decide.mpr
  omega
theorem hld3_ex (hT : TOK n T) {p q r : Int32} (h : hld3 T p q r = true) : ∃ u v w : Nat, p = ii u ∧ q = ii v ∧ r = ii w ∧ u < tB (tU T) (tN T).1 ∧ v < tB (tU T) (tN T).1 ∧ w < tB (tU T) (tN T).1 ∧ vN (tU T) ≠ 0 := by
  have h3 : hld (tU T) (tN T) p = true ∧ hld (tU T) (tN T) q = true ∧ hld (tU T) (tN T) r = true := by
    unfold hld3 at h; simp at h; exact ⟨h.1.1, h.1.2, h.2⟩
  obtain ⟨u, u1, u2, u3, _⟩ := hld_ex hT.2.1 h3.1
  obtain ⟨v, v1, v2, _⟩ := hld_ex hT.2.1 h3.2.1
  obtain ⟨w, w1, w2, _⟩ := hld_ex hT.2.1 h3.2.2
  exact ⟨u, v, w, u1, v1, w1, u2, v2, w2, u3⟩
theorem and8 (v : Nat) : (ii (v : Int) &&& 8 = (0 : Int32)) = (v &&& 8 = 0) := by
  rw [show (8 : Int32) = ii (8 : Nat) from rfl, ii_and, k0]
  have : v &&& 8 ≤ 8 := Nat.and_le_right
  rw [ii_eq (by omega) (by omega) (by omega) (by omega)]
  apply propext; omega
theorem j_sum (hF : 3000 ≤ F) (hX : RX N S x A b c nx T) (hM : RY N2 S2 m B T) (hT : TOK n T) (p q r md : Int32) : ∃ v S' S2', s_X11_sum N F x p q r md S = some (v, S') ∧ s_X12_sum N2 F m p q r md S2 = some (v, S2') ∧ XE A S S' ∧ YE m B S2 S2' := by
  obtain ⟨S1, hS1, hM1, y0⟩ := base0 hM 0
  obtain ⟨a1, a2, a3, a4, a5, a6⟩ := x_add hX
  obtain ⟨g1, g2⟩ := x_add3 hF hX hT p q r
  obtain ⟨z, rfl, z1, z2⟩ := zI md
  unfold s_X11_sum s_X12_sum
  rw [bnd_def, ← hS1, y_areBits hM1.1 hM1.2.1.1 hT.2.1, bd1_some, x_isMode z z1 z2, y_w5 z z1 z2]
  simp only [b2_0, decide_eq_false_iff_not]
  rw [show (hld (tU T) (tN T) p && hld (tU T) (tN T) q && hld (tU T) (tN T) r) = hld3 T p q r from rfl]
  cases hh : hld3 T p q r
  · rw [g1 hh, bd2_some, if_pos rfl, if_pos rfl]
    by_cases w : 0 ≤ z ∧ z < 6
    · rw [if_neg (fun q => q w)]; exact ⟨_, _, _, rfl, rfl, XE.refl _ _, y0⟩
    · rw [if_pos w]; exact ⟨_, _, _, rfl, rfl, XE.refl _ _, y0⟩
  · obtain ⟨u, v, w, rfl, rfl, rfl, hu, hv, hw, hn⟩ := hld3_ex hT hh
    rw [if_neg tf]
    by_cases w0 : 0 ≤ z ∧ z < 6
    · obtain ⟨k, rfl⟩ : ∃ k : Nat, z = k := ⟨z.toNat, by omega⟩
      obtain ⟨S3, s1, s2, s3⟩ := g2 k u v w (by omega) hh hu hv hw
      obtain ⟨S4, t1, t2, t3⟩ := y_sum3 hF hM1 hT hn (show k < 6 by omega) hu hv hw
      obtain ⟨_, _, _, hus, _⟩ := base1 hM1 hT hn
      rw [if_neg (fun q => q w0), if_neg (fun q => q w0), s1, bd2_some, if_neg (by decide), gR_of s2.2.1, a1, bd1_some, s3.1, hus, bd1_some, t1, bd2_some]
      exact ⟨_, _, _, rfl, rfl, s2, y0.trans t2⟩
    · rw [if_pos w0, if_pos w0]; exact ⟨_, _, _, rfl, rfl, XE.refl _ _, y0⟩
theorem j_marks (hF : 3000 ≤ F) (hX : RX N S x A b c nx T) (hM : RY N2 S2 m B T) (hT : TOK n T) (p q r md : Int32) : ∃ v S' S2', s_X11_marks N F x p q r md S = some (v, S') ∧ s_X12_marks N2 F m p q r md S2 = some (v, S2') ∧ XE A S S' ∧ YE m B S2 S2' := by
  obtain ⟨S1, hS1, hM1, y0⟩ := base0 hM 0
  obtain ⟨a1, a2, a3, a4, a5, a6⟩ := x_add hX
  obtain ⟨g1, g2⟩ := x_add3 hF hX hT p q r
  obtain ⟨z, rfl, z1, z2⟩ := zI md
  unfold s_X11_marks s_X12_marks
  rw [bnd_def, ← hS1, y_areBits hM1.1 hM1.2.1.1 hT.2.1, bd1_some, x_isMode z z1 z2, y_w5 z z1 z2]
  simp only [b2_0, decide_eq_false_iff_not]
  rw [show (hld (tU T) (tN T) p && hld (tU T) (tN T) q && hld (tU T) (tN T) r) = hld3 T p q r from rfl]
  cases hh : hld3 T p q r
  · rw [g1 hh, bd2_some, if_pos rfl, if_pos rfl]
    by_cases w : 0 ≤ z ∧ z < 6
    · rw [if_neg (fun q => q w)]; exact ⟨_, _, _, rfl, rfl, XE.refl _ _, y0⟩
    · rw [if_pos w]; exact ⟨_, _, _, rfl, rfl, XE.refl _ _, y0⟩
  · obtain ⟨u, v, w, rfl, rfl, rfl, hu, hv, hw, hn⟩ := hld3_ex hT hh
    rw [if_neg tf]
    by_cases w0 : 0 ≤ z ∧ z < 6
    · obtain ⟨k, rfl⟩ : ∃ k : Nat, z = k := ⟨z.toNat, by omega⟩
      obtain ⟨S3, s1, s2, s3⟩ := g2 k u v w (by omega) hh hu hv hw
      obtain ⟨S4, t1, t2, t3⟩ := y_sum3 hF hM1 hT hn (show k < 6 by omega) hu hv hw
      obtain ⟨_, _, _, hus, _⟩ := base1 hM1 hT hn
      rw [if_neg (fun q => q w0), if_neg (fun q => q w0), s1, bd2_some, if_neg (by decide), gR_of s2.2.1, a1, bd1_some, s3.2.1, hus, bd1_some, t1, bd2_some, t3.1]
      exact ⟨_, _, _, rfl, rfl, s2, y0.trans t2⟩
    · rw [if_pos w0, if_pos w0]; exact ⟨_, _, _, rfl, rfl, XE.refl _ _, y0⟩
theorem j_exact (hF : 3000 ≤ F) (hX : RX N S x A b c nx T) (hM : RY N2 S2 m B T) (hT : TOK n T) (p q r : Int32) : ∃ v S' S2', s_X11_exact N F x p q r S = some (v, S') ∧ s_X12_exact N2 F m p q r S2 = some (v, S2') ∧ XE A S S' ∧ YE m B S2 S2' := by
  obtain ⟨S1, hS1, hM1, y0⟩ := base0 hM 0
  obtain ⟨a1, a2, a3, a4, a5, a6⟩ := x_add hX
  obtain ⟨g1, g2⟩ := x_add3 hF hX hT p q r
  unfold s_X11_exact s_X12_exact
  rw [bnd_def, ← hS1, y_areBits hM1.1 hM1.2.1.1 hT.2.1, bd1_some, a2, bd1_some, a3]
  simp only [b2_0]
  rw [show (hld (tU T) (tN T) p && hld (tU T) (tN T) q && hld (tU T) (tN T) r) = hld3 T p q r from rfl]
  cases hh : hld3 T p q r
  · rw [g1 hh, bd2_some, if_pos rfl, if_pos rfl]
    exact ⟨_, _, _, rfl, rfl, XE.refl _ _, y0⟩
  · obtain ⟨u, v, w, rfl, rfl, rfl, hu, hv, hw, hn⟩ := hld3_ex hT hh
    obtain ⟨S3, s1, s2, s3⟩ := g2 (tN T).2.1 u v w hT.2.1.2.1 hh hu hv hw
    obtain ⟨S4, t1, t2, t3⟩ := y_sumNow hF hM1 hT hn hu hv hw
    rw [if_neg tf, s1, bd2_some, if_neg (by decide), gR_of s2.2.1, a1, bd1_some, s3.2.1, t1, bd2_some, t3.1]
    simp only [and8]
    by_cases w : (sumT T (tN T).2.1 u v w).2.1 &&& 8 = 0
    · rw [if_pos w, if_pos w]; exact ⟨_, _, _, rfl, rfl, s2, y0.trans t2⟩
    · rw [if_neg w, if_neg w]; exact ⟨_, _, _, rfl, rfl, s2, y0.trans t2⟩
theorem y_half {S4 : HS} {e fr : Nat} {R : Nat × Nat × Int × Bool} (h : YS S4 m e fr R) (G : Int32 → Option (Int32 × HS)) : (if gI S4 1221 m = 0 then G 0 else if gI S4 1222 m = 0 then G 0 else if gI S4 1223 m = 0 then G 1 else G 0) = G (b2 R.2.2.2) := by
  obtain ⟨_, ⟨w1, w2, w3, h1, h2, h3, h4⟩, _⟩ := h
  rw [h1, h2, h3, ← h4]
  cases w1 <;> cases w2 <;> cases w3 <;> rfl
theorem j_half (hF : 3000 ≤ F) (hX : RX N S x A b c nx T) (hM : RY N2 S2 m B T) (hT : TOK n T) (p q r : Int32) : ∃ v S' S2', s_X11_half N F x p q r S = some (v, S') ∧ s_X12_half N2 F m p q r S2 = some (v, S2') ∧ XE A S S' ∧ YE m B S2 S2' := by
  obtain ⟨S1, hS1, hM1, y0⟩ := base0 hM 0
  obtain ⟨a1, a2, a3, a4, a5, a6⟩ := x_add hX
  obtain ⟨g1, g2⟩ := x_add3 hF hX hT p q r
  unfold s_X11_half s_X12_half s_X12_isHalf
  rw [bnd_def, ← hS1, y_areBits hM1.1 hM1.2.1.1 hT.2.1, bd1_some, a2, bd1_some, a3]
  simp only [b2_0]
  rw [show (hld (tU T) (tN T) p && hld (tU T) (tN T) q && hld (tU T) (tN T) r) = hld3 T p q r from rfl]
  cases hh : hld3 T p q r
  · rw [g1 hh, bd2_some, if_pos rfl, if_pos rfl]
    exact ⟨_, _, _, rfl, rfl, XE.refl _ _, y0⟩
  · obtain ⟨u, v, w, rfl, rfl, rfl, hu, hv, hw, hn⟩ := hld3_ex hT hh
    obtain ⟨S3, s1, s2, s3⟩ := g2 (tN T).2.1 u v w hT.2.1.2.1 hh hu hv hw
    obtain ⟨S4, t1, t2, t3⟩ := y_sumNow hF hM1 hT hn hu hv hw
    rw [if_neg tf, s1, bd2_some, if_neg (by decide), gR_of s2.2.1, a1, bd1_some, s3.2.2.2, t1, bd2_some, y_half t3 (fun w => some (w, S4)), bd2_some]
    cases (sumT T (tN T).2.1 u v w).2.2.2 <;> exact ⟨_, _, _, rfl, rfl, s2, y0.trans t2⟩
theorem hn_of {p q r : Int32} (h : hld3 T p q r = true) : vN (tU T) ≠ 0 := by
  unfold hld3 at h; simp at h; exact hld_n h.2
theorem j_side (hF : 3000 ≤ F) (hX : RX N S x A b c nx T) (hM : RY N2 S2 m B T) (hT : TOK n T) (p q r md : Int32) : ∃ v S' S2', s_X11_side N F x p q r md S = some (v, S') ∧ s_X12_side N2 F m p q r md S2 = some (v, S2') ∧ XE A S S' ∧ YE m B S2 S2' := by
  obtain ⟨S1, hS1, hM1, y0⟩ := base0 hM 0
  obtain ⟨a1, a2, a3, a4, a5, a6⟩ := x_add hX
  obtain ⟨g1, g2⟩ := x_add3 hF hX hT p q r
  obtain ⟨u1, u2⟩ := x_inUse hX.1 hX.2.1 hT.2.1
  obtain ⟨z, rfl, z1, z2⟩ := zI md
  unfold s_X11_side s_X12_side
  rw [bnd_def, ← hS1, y_areBits hM1.1 hM1.2.1.1 hT.2.1, bd1_some, x_isMode z z1 z2, y_w5 z z1 z2]
  simp only [b2_0, decide_eq_false_iff_not]
  rw [show (hld (tU T) (tN T) p && hld (tU T) (tN T) q && hld (tU T) (tN T) r) = hld3 T p q r from rfl]
  cases hh : hld3 T p q r
  · rw [if_pos (show false = false from rfl)]
    by_cases hn : vN (tU T) = 0
    · rw [u1 hn, bd1_some, mq_none]; exact ⟨_, _, _, rfl, rfl, XE.refl _ _, y0⟩
    · obtain ⟨o, o1, o2, o3⟩ := u2 hn
      rw [o1, bd1_some, mq_some, g1 hh, bd2_some, if_pos (show (0 : Int32) = 0 from rfl)]
      by_cases w : 0 ≤ z ∧ z < 6
      · rw [if_neg (fun q => q w)]; exact ⟨_, _, _, rfl, rfl, XE.refl _ _, y0⟩
      · rw [if_pos w]; exact ⟨_, _, _, rfl, rfl, XE.refl _ _, y0⟩
  · obtain ⟨u, v, w, rfl, rfl, rfl, hu, hv, hw, hn⟩ := hld3_ex hT hh
    obtain ⟨o, o1, o2, o3⟩ := u2 hn
    rw [if_neg tf, o1, bd1_some, mq_some]
    by_cases w0 : 0 ≤ z ∧ z < 6
    · obtain ⟨k, rfl⟩ : ∃ k : Nat, z = k := ⟨z.toNat, by omega⟩
      obtain ⟨S3, s1, s2, s3⟩ := g2 k u v w (by omega) hh hu hv hw
      obtain ⟨S4, t1, t2, t3⟩ := y_sum3 hF hM1 hT hn (show k < 6 by omega) hu hv hw
      obtain ⟨_, _, _, hus, _⟩ := base1 hM1 hT hn
      obtain ⟨_, fo, mu, hus4, _⟩ := base1 (hM1.ye t2) hT hn
      have sb := sumT_b hT hn k u v w
      have o4 : FM S3 o (vK (tU T) (tN T).1) (vE (tU T) (tN T).1) (vF (tU T) (tN T).1) := o2.mono2 (fun f f1 f2 => s2.1 f o (fun q => by omega) (fun q => by omega))
      rw [if_neg (fun q => q w0), if_neg (fun q => q w0), s1, bd2_some, if_neg (by decide), gR_of s2.2.1, a1, bd1_some, bd1_some, s3.1, hus, bd1_some, t1, bd2_some, hus4, bd1_some, y_isNan mu fo sb.1, bd1_some, bd1_some, y_isMinus mu fo sb.1, bd1_some, x2_isNan o4 o3, s3.2.2.1]
      obtain ⟨_, _, sd, d1, d2, d3, d4⟩ := t3
      rw [d1]
      simp only [b2_0, decide_eq_false_iff_not]
      by_cases w1 : nInf (vK (tU T) (tN T).1) (vE (tU T) (tN T).1) (vF (tU T) (tN T).1) < nS (vE (tU T) (tN T).1) (vF (tU T) (tN T).1) (sumT T k u v w).1
      · rw [if_neg (fun q => q w1), if_neg (fun q => q w1)]; exact ⟨_, _, _, rfl, rfl, s2, y0.trans t2⟩
      · rw [if_pos w1, if_pos w1, ii_neg]
        cases hmi : nMi (vE (tU T) (tN T).1) (vF (tU T) (tN T).1) (sumT T k u v w).1
        · rw [hmi, if_neg (by decide)] at d2
          rw [if_pos rfl, d2]; exact ⟨_, _, _, rfl, rfl, s2, y0.trans t2⟩
        · rw [hmi, if_pos rfl] at d2
          rw [if_neg tf, d2]; exact ⟨_, _, _, rfl, rfl, s2, y0.trans t2⟩
    · rw [if_pos w0, if_pos w0]; exact ⟨_, _, _, rfl, rfl, XE.refl _ _, y0⟩
theorem hldii (hT : TOK n T) {u : Nat} (hu : u < tB (tU T) (tN T).1) (hn : vN (tU T) ≠ 0) : hld (tU T) (tN T) (ii u) = true := by
  have h1 : (tN T).1 < vN (tU T) := by rcases hT.2.1.1 with r | r; exact r; exact absurd r.1 hn
  have hs := sb_le (hT.1.2.2.2 _ h1)
  have hp := pw1 (k := vK (tU T) (tN T).1) hu
  unfold hld
  rw [ii_t (by omega) (by omega)]
  exact decide_eq_true ⟨hn, by omega, by omega⟩
theorem j_remains (hF : 3000 ≤ F) (hX : RX N S x A b c nx T) (hM : RY N2 S2 m B T) (hT : TOK n T) (p q : Int32) : ∃ v S' S2', s_X11_remains N F x p q S = some (v, S') ∧ s_X12_remains N2 F m p q S2 = some (v, S2') ∧ XE A S S' ∧ YE m B S2 S2' := by
  obtain ⟨S1, hS1, hM1, y0⟩ := base0 hM 0
  obtain ⟨a1, a2, a3, a4, a5, a6⟩ := x_add hX
  obtain ⟨g1, g2⟩ := x_add3 hF hX hT p q 0
  obtain ⟨u1, u2⟩ := x_inUse hX.1 hX.2.1 hT.2.1
  unfold s_X11_remains s_X12_remains
  rw [bnd_def, ← hS1, y_areBits hM1.1 hM1.2.1.1 hT.2.1, bd1_some]
  simp only [b2_0]
  rw [show (hld (tU T) (tN T) p && hld (tU T) (tN T) q && hld (tU T) (tN T) 0) = hld3 T p q 0 from rfl]
  cases hh : hld3 T p q 0
  · rw [if_pos (show false = false from rfl)]
    by_cases hn : vN (tU T) = 0
    · rw [u1 hn, bd1_some, mq_none]; exact ⟨_, _, _, rfl, rfl, XE.refl _ _, y0⟩
    · obtain ⟨o, o1, o2, o3⟩ := u2 hn
      rw [o1, bd1_some, mq_some, a2, bd1_some, g1 hh, bd2_some, if_pos (show (0 : Int32) = 0 from rfl)]
      exact ⟨_, _, _, rfl, rfl, XE.refl _ _, y0⟩
  · obtain ⟨u, v, w, rfl, rfl, hw0, hu, hv, hw, hn⟩ := hld3_ex hT hh
    obtain ⟨o, o1, o2, o3⟩ := u2 hn
    have hz : (0 : Nat) < tB (tU T) (tN T).1 := Nat.two_pow_pos _
    obtain ⟨S3, s1, s2, s3⟩ := g2 (tN T).2.1 u v 0 hT.2.1.2.1 hh hu hv hz
    obtain ⟨S4, t1, t2, t3⟩ := y_sumNow hF hM1 hT hn hu hv hz
    obtain ⟨_, fo, _, hus, _⟩ := base1 hM1 hT hn
    obtain ⟨_, _, mu, _, _⟩ := base1 (hM1.ye t2) hT hn
    have sb := sumT_b hT hn (tN T).2.1 u v 0
    have o4 : FM S3 o (vK (tU T) (tN T).1) (vE (tU T) (tN T).1) (vF (tU T) (tN T).1) := o2.mono2 (fun f f1 f2 => s2.1 f o (fun q => by omega) (fun q => by omega))
    have wn := nNeg_lt fo sb.1
    have hX3 := hX.xe s2
    obtain ⟨c1, c2, c3, _⟩ := x_add hX3
    rw [show ii ((0 : Nat) : Int) = (0 : Int32) from rfl] at s1 t1
    rw [if_neg tf, o1, bd1_some, mq_some, a2, bd1_some, a3, s1, bd2_some, if_neg (by decide), c1, bd1_some, c2, bd1_some, bd1_some, c3, s3.1, x2_turned o4 o3 sb.1, hus, bd1_some, t1, bd2_some]
    obtain ⟨S5, r1, r2, r3, _⟩ := x_sumT hF hX3 hT o4 o3 hT.2.1.2.1 hu hv wn
    obtain ⟨S6, w1, w2, w3⟩ := y_sumNow hF (hM1.ye t2) hT hn hu hv wn
    rw [r1, bd1_some, gR_of r2.2.1, c1, bd1_some, r3.1]
    have en := y_negative (b := (sumT T (tN T).2.1 u v 0).1) mu fo sb.1
    rw [en, bd1_some]
    rw [show (ii (if nInf (vK (tU T) (tN T).1) (vE (tU T) (tN T).1) (vF (tU T) (tN T).1) < nS (vE (tU T) (tN T).1) (vF (tU T) (tN T).1) (sumT T (tN T).2.1 u v 0).1 then (sumT T (tN T).2.1 u v 0).1 else if nMi (vE (tU T) (tN T).1) (vF (tU T) (tN T).1) (sumT T (tN T).2.1 u v 0).1 = true then (sumT T (tN T).2.1 u v 0).1 - 2 ^ (vE (tU T) (tN T).1 + vF (tU T) (tN T).1) else (sumT T (tN T).2.1 u v 0).1 + 2 ^ (vE (tU T) (tN T).1 + vF (tU T) (tN T).1) : Nat)) = ii (nNeg (vK (tU T) (tN T).1) (vE (tU T) (tN T).1) (vF (tU T) (tN T).1) (sumT T (tN T).2.1 u v 0).1) from rfl, w1, bd2_some]
    exact ⟨_, _, _, rfl, rfl, s2.trans r2, (y0.trans t2).trans w2⟩
end J3
end
section
def cntP (P : Nat → Bool) : Nat → Nat
  | 0 => 0
  | c + 1 => cntP P c + (if P c = true then 1 else 0)
theorem cntP_le (P : Nat → Bool) : ∀ c, cntP P c ≤ c
  | 0 => Nat.le_refl _
  | c + 1 => by have := cntP_le P c; unfold cntP; split <;> omega
def smlT (T : TT) : Bool := decide (vE (tU T) (tN T).1 + vF (tU T) (tN T).1 ≤ 9)
section J4
variable {N N2 : Nat → Nat} {F : Nat} {S S2 : HS} {x m : Nat} {A B : Nat → Nat} {b c nx n : Nat} {T : TT}
theorem sml_b (h : smlT T = true) : tB (tU T) (tN T).1 ≤ 1024 := by
  unfold smlT at h
  have := of_decide_eq_true h
  exact pow_mono (show vE (tU T) (tN T).1 + vF (tU T) (tN T).1 + 1 ≤ 10 by omega)
theorem x_smallH (hX : RX N S x A b c nx T) (hT : TOK n T) (p q : Int32) : s_X11_isSmallHolding N x p q S = some (b2 (hld (tU T) (tN T) p && hld (tU T) (tN T) q && smlT T)) := by
  obtain ⟨g1, g2⟩ := x_hold hX.1 hX.2.1 hT.2.1 p
  unfold s_X11_isSmallHolding
  cases hh : hld (tU T) (tN T) p
  · rw [g1 hh, bd1_some, mq_none]; rfl
  · obtain ⟨o, o1, o2, o3⟩ := g2 hh
    rw [o1, bd1_some, mq_some, x_holds o2 o3 (hld_n hh), x2_isSmall o2 o3]
    rw [show decide (vE (tU T) (tN T).1 + vF (tU T) (tN T).1 ≤ 9) = smlT T from rfl]
    simp only [b2_0]
    cases hld (tU T) (tN T) q <;> cases smlT T <;> rfl
theorem y_small (hM : RY N2 S2 m B T) (hT : TOK n T) : s_X12_isSmall N2 m S2 = some (b2 (decide (vN (tU T) ≠ 0) && smlT T)) := by
  have ht := hT.2.1
  unfold s_X12_isSmall
  rw [y_used hM.1 hM.2.1.1, bd1_some]
  by_cases hn : vN (tU T) = 0
  · rw [show fI (tU T) (tN T).1 = -1 from if_pos hn, if_pos (by decide)]
    simp [hn]; rfl
  · obtain ⟨b1, fo, mu, hu, hr⟩ := base1 hM hT hn
    have h4 := hT.1.1
    have o3 := fo.2.2.1
    have o5 := fo.2.2.2.2
    rw [show fI (tU T) (tN T).1 = ((tN T).1 : Int) from if_neg hn, if_neg (by rw [k0, ii_lt (by omega) (by omega) (by omega) (by omega)]; omega), bd1_some, y_expOf mu, bd1_some, bd1_some, y_fracOf mu, bd1_some, ii_add]
    have c9 : ((9 : Int32) < ii ((vE (tU T) (tN T).1 : Int) + vF (tU T) (tN T).1)) = (9 < (vE (tU T) (tN T).1 : Int) + vF (tU T) (tN T).1) := ii_lt (a := 9) (by omega) (by omega) (by omega) (by omega)
    simp only [c9]
    unfold smlT
    by_cases q : vE (tU T) (tN T).1 + vF (tU T) (tN T).1 ≤ 9
    · rw [if_neg (by omega), decide_eq_true q, decide_eq_true hn]; rfl
    · rw [if_pos (by omega), decide_eq_false q, decide_eq_true hn]; rfl
theorem y_areSmall (hM : RY N2 S2 m B T) (hT : TOK n T) (p q : Int32) : s_X12_areSmall N2 m p q S2 = some (b2 (hld (tU T) (tN T) p && hld (tU T) (tN T) q && smlT T)) := by
  unfold s_X12_areSmall
  rw [y_small hM hT, bd1_some, y_areBits hM.1 hM.2.1.1 hT.2.1, bd1_some, hld0 hT]
  simp only [b2_0]
  by_cases hn : vN (tU T) = 0
  · rw [if_pos (by simp [hn])]
    have : hld (tU T) (tN T) p = false := by unfold hld; exact decide_eq_false (fun w => w.1 hn)
    rw [this]; rfl
  · rw [decide_eq_true hn]
    cases smlT T <;> cases hld (tU T) (tN T) p <;> cases hld (tU T) (tN T) q <;> rfl
theorem y_allBits (hM : RY N2 S2 m B T) (hT : TOK n T) (hn : vN (tU T) ≠ 0) : s_X12_allBits N2 m S2 = some (ii (tB (tU T) (tN T).1)) := by
  obtain ⟨b1, fo, mu, hu, hr⟩ := base1 hM hT hn
  unfold s_X12_allBits tB
  rw [hu, bd1_some, y_signOf mu fo, bd1_some, k2, ii_mul]
  congr 2
  rw [Nat.pow_succ, Nat.mul_comm]; rfl
theorem x_addW_loop (hF : 3000 ≤ F) (hT : TOK n T) (hs : smlT T = true) (hn : vN (tU T) ≠ 0) {q : Nat} (q3 : FO (vK (tU T) (tN T).1) (vE (tU T) (tN T).1) (vF (tU T) (tN T).1)) {u v : Nat} (hu : u < tB (tU T) (tN T).1) (hv : v < tB (tU T) (tN T).1) (tr fl : Int32) (P : Nat → Bool)
    (hP : ∀ (S' : HS) (cc : Nat), cc < 1024 → gR S' 1101 x = some (A 2) → XS S' (A 2) (sumT T (tN T).2.1 u v cc) → s_X11_lastSumHas x tr (ii cc) fl S' = some (b2 (P cc))) :
    ∀ (k cc M : Nat) (S : HS), cc + k = tB (tU T) (tN T).1 → k < M → RX N S x A b c nx T → FM S q (vK (tU T) (tN T).1) (vE (tU T) (tN T).1) (vF (tU T) (tN T).1) →
    ∃ S', s_X11_addendsWith_L28 N F M x (ii u) (ii v) tr fl q (ii (cntP P cc)) (ii cc) S = some (ii (cntP P (tB (tU T) (tN T).1)), S') ∧ XE A S S' := by
  have hb := sml_b hs
  intro k
  induction k with
  | zero =>
    intro cc M S hk hM hX q2
    obtain ⟨M', rfl⟩ : ∃ M', M = M' + 1 := ⟨M - 1, by omega⟩
    have e : cc = tB (tU T) (tN T).1 := by omega
    rw [s_X11_addendsWith_L28, x2_many q2, show (2 ^ (vE (tU T) (tN T).1 + vF (tU T) (tN T).1 + 1)) = tB (tU T) (tN T).1 from rfl, e, if_pos (by rw [ii_le (by omega) (by omega) (by omega) (by omega)]; omega)]
    exact ⟨S, rfl, XE.refl _ _⟩
  | succ k ih =>
    intro cc M S hk hM hX q2
    obtain ⟨M', rfl⟩ : ∃ M', M = M' + 1 := ⟨M - 1, by omega⟩
    obtain ⟨a1, a2, a3, a4, a5, a6⟩ := x_add hX
    obtain ⟨S1, s1, s2, s3, s4⟩ := x_sumT hF hX hT q2 q3 hT.2.1.2.1 hu hv (show cc < tB (tU T) (tN T).1 by omega)
    rw [s_X11_addendsWith_L28, x2_many q2, show (2 ^ (vE (tU T) (tN T).1 + vF (tU T) (tN T).1 + 1)) = tB (tU T) (tN T).1 from rfl, if_neg (by rw [ii_le (by omega) (by omega) (by omega) (by omega)]; omega), a1, bd1_some, a2, bd1_some, a3, s1, bd1_some, hP S1 cc (by omega) (by rw [gR_of s2.2.1]; exact a1) s3, bd1_some]
    obtain ⟨S', r1, r2⟩ := ih (cc + 1) M' S1 (by omega) (by omega) (hX.xe s2) s4
    refine ⟨S', ?_, s2.trans r2⟩
    unfold s_X11_addendsWith_J73
    simp only [b2_0, bnd_def, ofI, ii_add]
    have ec : cntP P (cc + 1) = cntP P cc + (if P cc = true then 1 else 0) := rfl
    cases hp : P cc
    · rw [if_pos rfl]
      rw [ec, hp] at r1
      exact r1
    · rw [if_neg tf]
      rw [ec, hp] at r1
      exact r1
theorem y_addW_loop (hF : 3000 ≤ F) (hT : TOK n T) (hs : smlT T = true) (hn : vN (tU T) ≠ 0) {u v : Nat} (hu : u < tB (tU T) (tN T).1) (hv : v < tB (tU T) (tN T).1) (tr fl : Int32) (P : Nat → Bool)
    (hP : ∀ (S4 : HS) (cc : Nat), cc < 1024 → YS S4 m (vE (tU T) (tN T).1) (vF (tU T) (tN T).1) (sumT T (tN T).2.1 u v cc) → ∀ G : Int32 → Option (Int32 × HS), (if tr = 0 then (if gI S4 1220 m &&& 8 = 0 then G 1 else G 0) else if tr = 1 then (if ii (sumT T (tN T).2.1 u v cc).1 = ii cc then G 1 else G 0) else if tr = 2 then (if gI S4 1221 m = 0 then G 0 else if gI S4 1222 m = 0 then G 0 else if gI S4 1223 m = 0 then G 1 else G 0) else if gI S4 1220 m &&& fl = fl then G 1 else G 0) = G (b2 (P cc))) :
    ∀ (k cc M : Nat) (S : HS), cc + k = tB (tU T) (tN T).1 → k < M → RY N2 S m B T →
    ∃ S', s_X12_addends_L6 N2 F M m (ii u) (ii v) tr fl (ii (cntP P cc)) (ii cc) S = some (ii (cntP P (tB (tU T) (tN T).1)), S') ∧ YE m B S S' := by
  have hb := sml_b hs
  intro k
  induction k with
  | zero =>
    intro cc M S hk hM hX
    obtain ⟨M', rfl⟩ : ∃ M', M = M' + 1 := ⟨M - 1, by omega⟩
    have e : cc = tB (tU T) (tN T).1 := by omega
    rw [s_X12_addends_L6, y_allBits hX hT hn, bd1_some, e, if_pos (by rw [ii_le (by omega) (by omega) (by omega) (by omega)]; omega)]
    exact ⟨S, rfl, YE.refl _ _ _⟩
  | succ k ih =>
    intro cc M S hk hM hX
    obtain ⟨M', rfl⟩ : ∃ M', M = M' + 1 := ⟨M - 1, by omega⟩
    obtain ⟨S1, s1, s2, s3⟩ := y_sumNow hF hX hT hn hu hv (show cc < tB (tU T) (tN T).1 by omega)
    rw [s_X12_addends_L6, y_allBits hX hT hn, bd1_some, if_neg (by rw [ii_le (by omega) (by omega) (by omega) (by omega)]; omega), s1, bd2_some]
    rw [hP S1 cc (by omega) s3 (fun w => s_X12_addends_J118 N2 F (s_X12_addends_L6 N2 F M') m (ii u) (ii v) tr fl (ii (cntP P cc)) (ii cc) w S1)]
    obtain ⟨S', r1, r2⟩ := ih (cc + 1) M' S1 (by omega) (by omega) (hX.ye s2)
    refine ⟨S', ?_, s2.trans r2⟩
    unfold s_X12_addends_J118 s_X12_addends_J132
    have ec : cntP P (cc + 1) = cntP P cc + (if P cc = true then 1 else 0) := rfl
    rw [k0, k1]
    simp only [bnd_def, ofI, ii_add]
    cases hp : P cc
    · rw [if_pos (show b2 false = ii 0 from rfl)]
      rw [ec, hp] at r1
      rw [Int.add_zero]
      exact r1
    · rw [if_neg (by decide)]
      rw [ec, hp] at r1
      exact r1
theorem x_addW (hF : 3000 ≤ F) (hX : RX N S x A b c nx T) (hT : TOK n T) (p q tr fl : Int32) :
    ((hld (tU T) (tN T) p && hld (tU T) (tN T) q && smlT T) = false → s_X11_addendsWith N F x p q tr fl S = some (-1, S)) ∧
    (∀ u v : Nat, p = ii u → q = ii v → u < tB (tU T) (tN T).1 → v < tB (tU T) (tN T).1 → (hld (tU T) (tN T) p && hld (tU T) (tN T) q && smlT T) = true → ∀ P : Nat → Bool, (∀ (S' : HS) (cc : Nat), cc < 1024 → gR S' 1101 x = some (A 2) → XS S' (A 2) (sumT T (tN T).2.1 u v cc) → s_X11_lastSumHas x tr (ii cc) fl S' = some (b2 (P cc))) → ∃ S', s_X11_addendsWith N F x p q tr fl S = some (ii (cntP P (tB (tU T) (tN T).1)), S') ∧ XE A S S') := by
  obtain ⟨u1, u2⟩ := x_inUse hX.1 hX.2.1 hT.2.1
  unfold s_X11_addendsWith
  constructor
  · intro h
    by_cases hn : vN (tU T) = 0
    · rw [u1 hn, bd1_some, mq_none]
    · obtain ⟨o, o1, o2, o3⟩ := u2 hn
      rw [o1, bd1_some, mq_some, x_smallH hX hT, bd1_some, h, if_pos (by decide)]
  · intro u v hpu hqv hu hv h P hP
    subst hpu hqv
    have h3 : hld (tU T) (tN T) (ii u) = true ∧ smlT T = true := by simp at h; exact ⟨h.1.1, h.2⟩
    obtain ⟨o, o1, o2, o3⟩ := u2 (hld_n h3.1)
    rw [o1, bd1_some, mq_some, x_smallH hX hT, bd1_some, h, if_neg (by decide)]
    exact x_addW_loop hF hT h3.2 (hld_n h3.1) o3 hu hv tr fl P hP (tB (tU T) (tN T).1) 0 F S (by omega) (by have := sml_b h3.2; omega) hX o2
theorem hld2_ex (hT : TOK n T) {p q : Int32} (h : (hld (tU T) (tN T) p && hld (tU T) (tN T) q && smlT T) = true) : ∃ u v : Nat, p = ii u ∧ q = ii v ∧ u < tB (tU T) (tN T).1 ∧ v < tB (tU T) (tN T).1 ∧ vN (tU T) ≠ 0 ∧ smlT T = true := by
  simp at h
  obtain ⟨u, u1, u2, u3, _⟩ := hld_ex hT.2.1 h.1.1
  obtain ⟨v, v1, v2, _⟩ := hld_ex hT.2.1 h.1.2
  exact ⟨u, v, u1, v1, u2, v2, u3, h.2⟩
theorem j_exacts (hF : 3000 ≤ F) (hX : RX N S x A b c nx T) (hM : RY N2 S2 m B T) (hT : TOK n T) (p q : Int32) : ∃ v S' S2', s_X11_exacts N F x p q S = some (v, S') ∧ s_X12_exacts N2 F m p q S2 = some (v, S2') ∧ XE A S S' ∧ YE m B S2 S2' := by
  obtain ⟨S1, hS1, hM1, y0⟩ := base0 hM 0
  obtain ⟨g1, g2⟩ := x_addW hF hX hT p q 0 0
  unfold s_X11_exacts s_X12_exacts s_X12_addends
  rw [bnd_def, ← hS1, y_areSmall hM1 hT, bd1_some]
  simp only [b2_0]
  cases hh : (hld (tU T) (tN T) p && hld (tU T) (tN T) q && smlT T)
  · rw [g1 hh, bd2_some, if_pos rfl]; exact ⟨_, _, _, rfl, rfl, XE.refl _ _, y0⟩
  · obtain ⟨u, v, rfl, rfl, hu, hv, hn, hs⟩ := hld2_ex hT hh
    have hb := sml_b hs
    obtain ⟨S3, s1, s2⟩ := g2 u v rfl rfl hu hv hh (fun cc => decide ((sumT T (tN T).2.1 u v cc).2.1 &&& 8 = 0)) (by
      intro S' cc hc ha h
      unfold s_X11_lastSumHas
      rw [if_pos rfl, ha, bd1_some, h.2.1]
      simp only [and8]
      split
      · rename_i w; simp [w]; rfl
      · rename_i w; simp [w]; rfl)
    obtain ⟨S4, t1, t2⟩ := y_addW_loop (m := m) (B := B) (N2 := N2) hF hT hs hn hu hv 0 0 (fun cc => decide ((sumT T (tN T).2.1 u v cc).2.1 &&& 8 = 0)) (by
      intro S4 cc hc h G
      rw [if_pos rfl, h.1]
      simp only [and8]
      split
      · rename_i w; simp [w]; rfl
      · rename_i w; simp [w]; rfl) (tB (tU T) (tN T).1) 0 F S1 (by omega) (by omega) hM1
    rw [s1, bd2_some, if_neg tf]
    rw [show s_X12_addends_L6 N2 F F m (ii u) (ii v) 0 0 0 0 S1 = s_X12_addends_L6 N2 F F m (ii u) (ii v) 0 0 (ii (cntP (fun cc => decide ((sumT T (tN T).2.1 u v cc).2.1 &&& 8 = 0)) 0)) (ii (0 : Nat)) S1 from rfl, t1, bd2_some]
    exact ⟨_, _, _, rfl, rfl, s2, y0.trans t2⟩
theorem j_swallows (hF : 3000 ≤ F) (hX : RX N S x A b c nx T) (hM : RY N2 S2 m B T) (hT : TOK n T) (p q : Int32) : ∃ v S' S2', s_X11_swallows N F x p q S = some (v, S') ∧ s_X12_swallows N2 F m p q S2 = some (v, S2') ∧ XE A S S' ∧ YE m B S2 S2' := by
  obtain ⟨S1, hS1, hM1, y0⟩ := base0 hM 0
  obtain ⟨g1, g2⟩ := x_addW hF hX hT p q 1 0
  unfold s_X11_swallows s_X12_swallows s_X12_addends
  rw [bnd_def, ← hS1, y_areSmall hM1 hT, bd1_some]
  simp only [b2_0]
  cases hh : (hld (tU T) (tN T) p && hld (tU T) (tN T) q && smlT T)
  · rw [g1 hh, bd2_some, if_pos rfl]; exact ⟨_, _, _, rfl, rfl, XE.refl _ _, y0⟩
  · obtain ⟨u, v, rfl, rfl, hu, hv, hn, hs⟩ := hld2_ex hT hh
    have hb := sml_b hs
    have he : ∀ cc, cc < 1024 → (ii ((sumT T (tN T).2.1 u v cc).1 : Int) = ii (cc : Int)) = ((sumT T (tN T).2.1 u v cc).1 = cc) := by
      intro cc hc
      have := (sumT_b hT hn (tN T).2.1 u v cc).1
      exact iie (by omega) (by omega)
    obtain ⟨S3, s1, s2⟩ := g2 u v rfl rfl hu hv hh (fun cc => decide ((sumT T (tN T).2.1 u v cc).1 = cc)) (by
      intro S' cc hc ha h
      unfold s_X11_lastSumHas
      rw [if_neg (by decide), if_pos rfl, ha, bd1_some, h.1]
      simp only [he cc hc]
      split
      · rename_i w; simp [w]; rfl
      · rename_i w; simp [w]; rfl)
    obtain ⟨S4, t1, t2⟩ := y_addW_loop (m := m) (B := B) (N2 := N2) hF hT hs hn hu hv 1 0 (fun cc => decide ((sumT T (tN T).2.1 u v cc).1 = cc)) (by
      intro S4 cc hc h G
      rw [if_neg (by decide), if_pos rfl]
      simp only [he cc hc]
      split
      · rename_i w; simp [w]; rfl
      · rename_i w; simp [w]; rfl) (tB (tU T) (tN T).1) 0 F S1 (by omega) (by omega) hM1
    rw [s1, bd2_some, if_neg tf]
    rw [show s_X12_addends_L6 N2 F F m (ii u) (ii v) 1 0 0 0 S1 = s_X12_addends_L6 N2 F F m (ii u) (ii v) 1 0 (ii (cntP (fun cc => decide ((sumT T (tN T).2.1 u v cc).1 = cc)) 0)) (ii (0 : Nat)) S1 from rfl, t1, bd2_some]
    exact ⟨_, _, _, rfl, rfl, s2, y0.trans t2⟩
theorem j_ties (hF : 3000 ≤ F) (hX : RX N S x A b c nx T) (hM : RY N2 S2 m B T) (hT : TOK n T) (p q : Int32) : ∃ v S' S2', s_X11_ties N F x p q S = some (v, S') ∧ s_X12_ties N2 F m p q S2 = some (v, S2') ∧ XE A S S' ∧ YE m B S2 S2' := by
  obtain ⟨S1, hS1, hM1, y0⟩ := base0 hM 0
  obtain ⟨g1, g2⟩ := x_addW hF hX hT p q 3 0
  unfold s_X11_ties s_X12_ties s_X12_addends
  rw [bnd_def, ← hS1, y_areSmall hM1 hT, bd1_some]
  simp only [b2_0]
  cases hh : (hld (tU T) (tN T) p && hld (tU T) (tN T) q && smlT T)
  · rw [g1 hh, bd2_some, if_pos rfl]; exact ⟨_, _, _, rfl, rfl, XE.refl _ _, y0⟩
  · obtain ⟨u, v, rfl, rfl, hu, hv, hn, hs⟩ := hld2_ex hT hh
    have hb := sml_b hs
    obtain ⟨S3, s1, s2⟩ := g2 u v rfl rfl hu hv hh (fun cc => (sumT T (tN T).2.1 u v cc).2.2.2) (by
      intro S' cc hc ha h
      unfold s_X11_lastSumHas
      rw [if_neg (by decide), if_neg (by decide), if_neg (by decide), ha, bd1_some, h.2.2.2])
    obtain ⟨S4, t1, t2⟩ := y_addW_loop (m := m) (B := B) (N2 := N2) hF hT hs hn hu hv 2 0 (fun cc => (sumT T (tN T).2.1 u v cc).2.2.2) (by
      intro S4 cc hc h G
      rw [if_neg (by decide), if_neg (by decide), if_pos rfl]
      exact y_half h G) (tB (tU T) (tN T).1) 0 F S1 (by omega) (by omega) hM1
    rw [s1, bd2_some, if_neg tf]
    rw [show s_X12_addends_L6 N2 F F m (ii u) (ii v) 2 0 0 0 S1 = s_X12_addends_L6 N2 F F m (ii u) (ii v) 2 0 (ii (cntP (fun cc => (sumT T (tN T).2.1 u v cc).2.2.2) 0)) (ii (0 : Nat)) S1 from rfl, t1, bd2_some]
    exact ⟨_, _, _, rfl, rfl, s2, y0.trans t2⟩
theorem j_raises (hF : 3000 ≤ F) (hX : RX N S x A b c nx T) (hM : RY N2 S2 m B T) (hT : TOK n T) (p q r : Int32) : ∃ v S' S2', s_X11_raises N F x p q r S = some (v, S') ∧ s_X12_raises N2 F m p q r S2 = some (v, S2') ∧ XE A S S' ∧ YE m B S2 S2' := by
  obtain ⟨S1, hS1, hM1, y0⟩ := base0 hM 0
  obtain ⟨g1, g2⟩ := x_addW hF hX hT p q 2 r
  obtain ⟨y, rfl, y1, y2⟩ := zI r
  have ew : s_X12_within (ii y) 1 15 S1 = b2 (decide (1 ≤ y ∧ y ≤ 15)) := y_within y 1 15 y1 y2 (by omega) (by omega) (by omega) (by omega)
  have c1 : (ii y < (1 : Int32)) = (y < 1) := ii_lt (b := 1) y1 y2 (by omega) (by omega)
  have c2 : (ii y ≤ (15 : Int32)) = (y ≤ 15) := ii_le (b := 15) y1 y2 (by omega) (by omega)
  unfold s_X11_raises s_X12_raises s_X12_addends
  rw [bnd_def, ← hS1, y_areSmall hM1 hT, bd1_some, ew]
  simp only [b2_0, c1, c2, decide_eq_false_iff_not]
  cases hh : (hld (tU T) (tN T) p && hld (tU T) (tN T) q && smlT T)
  · rw [g1 hh, bd2_some, if_pos (show false = false from rfl)]
    by_cases w1 : y < 1
    · rw [if_pos w1]; exact ⟨_, _, _, rfl, rfl, XE.refl _ _, y0⟩
    · rw [if_neg w1]
      by_cases w2 : y ≤ 15
      · rw [if_pos w2]; exact ⟨_, _, _, rfl, rfl, XE.refl _ _, y0⟩
      · rw [if_neg w2]; exact ⟨_, _, _, rfl, rfl, XE.refl _ _, y0⟩
  · obtain ⟨u, v, rfl, rfl, hu, hv, hn, hs⟩ := hld2_ex hT hh
    have hb := sml_b hs
    rw [if_neg tf]
    by_cases w1 : 1 ≤ y ∧ y ≤ 15
    · obtain ⟨f, rfl⟩ : ∃ f : Nat, y = f := ⟨y.toNat, by omega⟩
      have he : ∀ cc, (ii ((sumT T (tN T).2.1 u v cc).2.1 : Int) &&& ii (f : Int) = ii (f : Int)) = ((sumT T (tN T).2.1 u v cc).2.1 &&& f = f) := by
        intro cc
        rw [ii_and]
        have : (sumT T (tN T).2.1 u v cc).2.1 &&& f ≤ f := Nat.and_le_right
        exact iie (by omega) (by omega)
      obtain ⟨S3, s1, s2⟩ := g2 u v rfl rfl hu hv hh (fun cc => decide ((sumT T (tN T).2.1 u v cc).2.1 &&& f = f)) (by
        intro S' cc hc ha h
        unfold s_X11_lastSumHas
        rw [if_neg (by decide), if_neg (by decide), if_pos rfl, ha, bd1_some, h.2.1]
        simp only [he cc]
        split
        · rename_i w; simp [w]; rfl
        · rename_i w; simp [w]; rfl)
      obtain ⟨S4, t1, t2⟩ := y_addW_loop (m := m) (B := B) (N2 := N2) hF hT hs hn hu hv 3 (ii f) (fun cc => decide ((sumT T (tN T).2.1 u v cc).2.1 &&& f = f)) (by
        intro S4 cc hc h G
        rw [if_neg (by decide), if_neg (by decide), if_neg (by decide), h.1]
        simp only [he cc]
        split
        · rename_i w; simp [w]; rfl
        · rename_i w; simp [w]; rfl) (tB (tU T) (tN T).1) 0 F S1 (by omega) (by omega) hM1
      rw [if_neg (show ¬ ((f : Int) < 1) by omega), if_pos w1.2, if_neg (fun q => q w1), s1, bd2_some]
      rw [show s_X12_addends_L6 N2 F F m (ii u) (ii v) 3 (ii f) 0 0 S1 = s_X12_addends_L6 N2 F F m (ii u) (ii v) 3 (ii f) (ii (cntP (fun cc => decide ((sumT T (tN T).2.1 u v cc).2.1 &&& f = f)) 0)) (ii (0 : Nat)) S1 from rfl, t1, bd2_some]
      exact ⟨_, _, _, rfl, rfl, s2, y0.trans t2⟩
    · rw [if_pos w1]
      by_cases w2 : y < 1
      · rw [if_pos w2]; exact ⟨_, _, _, rfl, rfl, XE.refl _ _, y0⟩
      · rw [if_neg w2, if_neg (show ¬ y ≤ 15 by omega)]; exact ⟨_, _, _, rfl, rfl, XE.refl _ _, y0⟩
end J4
end
