section
section JJUDGE
variable {N N2 : Nat → Nat} {F : Nat} {S0 S20 S S2 S' S2' : HS} {x m : Nat} {A B : Nat → Nat} {b c nx n : Nat} {T : TT} {t : STt}
theorem t_turn (hF : 3000 ≤ F) (hX : XW N S0 x A b (tU T)) (hM : YW N2 S20 m B (tU T)) (h : TJ x m A B (tU T) S0 S20 t S S2) {g : Nat} (hg : g < vN (tU T)) :
    ∃ v S' S2', s_X11_turn N F x (A 17) (ii g) S = some (v, S') ∧ s_X12_uses N2 F m 588 (ii g) S2 = some (v, S2') ∧ TJ x m A B (tU T) S0 S20 (tur (tU T) t g) S' S2' := by
  obtain ⟨h1, h2, h3, h4, h5⟩ := h
  obtain ⟨S5, t1, t2, t3⟩ := x_turn (F := F) (by omega) (hX.xe h1) h2 h5 (show isSt 17 = true by decide) hg
  obtain ⟨S6, u1, u2, u3, u4, u5⟩ := y_uses (F := F) (o := 588) hF (hM.wf h3.wf) (Or.inr rfl) h4 h5 hg
  exact ⟨_, S5, S6, t1, u1, h1.trans t3.xe, t2, h3.trans (u2.ye (fun j hj => u4 j (by omega))), u3, tur_ok hM.2.2.2.2 h5 hg⟩
theorem x_word {p q : Nat} (h500 : gR S 500 p = some q) (hN : N q = 150) {i j : Nat} (hi : i < 30) (hj : j < 5) : s_X5_word N p (ii i) (ii j) S = some (aI S q (5 * i + j)) := by
  have e : ii (i : Int) * 5 + ii (j : Int) = ii ((5 * i + j : Nat) : Int) := by rw [k5, ii_mul, ii_add]; congr 1; omega
  unfold s_X5_word s_X5_word_J24
  rw [if_neg (by rw [k0, ii_lt (by omega) (by omega) (by omega) (by omega)]; omega), if_neg (by rw [show (30 : Int32) = ii 30 from rfl, ii_le (by omega) (by omega) (by omega) (by omega)]; omega), if_neg (by rw [k0, ii_lt (by omega) (by omega) (by omega) (by omega)]; omega), if_neg (by rw [k5, ii_le (by omega) (by omega) (by omega) (by omega)]; omega), if_neg (by decide), h500, bd1_some, e, if_pos (by rw [hN]; exact in_of (z := 5 * i + j) rfl (by omega) (by decide)), cl_of (z := 5 * i + j) rfl (by omega)]
theorem t_line (hF : 3000 ≤ F) (hX : RX N S0 x A b c nx T) (hM : RY N2 S20 m B T) (hT : TOK n T) (h : TJ x m A B (tU T) S0 S20 t S S2) {i : Nat} {l : LN} (hl : (tP T)[i]? = some l) :
    (l.1 = 0 ∧ vN (tU T) = 0 → s_X11_follow N F x (ii i) S = some (0, S)) ∧ (¬ (l.1 = 0 ∧ vN (tU T) = 0) → ∃ t' S' S2', s_X11_follow N F x (ii i) S = some (1, S') ∧ s_X12_doesLine N2 F m (ii (1 + 5 * i : Nat)) S2 = some S2' ∧ TJ x m A B (tU T) S0 S20 t' S' S2') := by
  have h0 := h
  have hA := hX.1.1
  have hx := hX.1.xe h.1
  have hm := hM.1.wf h.2.2.1.wf
  obtain ⟨hc, p1, p2, p3, p4⟩ := hX.2.2.2.1.of hA h.1.of
  have hlen := hT.2.2.1.1
  have hi : i < (tP T).length := (List.getElem?_eq_some_iff.mp hl).1
  have hlo := hT.2.2.1.2 l (List.mem_of_getElem? hl)
  have hxl := p4 i l hl
  have hyl0 := hM.2.2.2.2.2.2.2.2 i l hl
  have hyl : XLN (aI S2 (B 8)) (1 + 5 * i) l := by
    rw [show aI S2 (B 8) = aI S20 (B 8) from h.2.2.1.2.2.1 (B 8) (by rw [ne_eq, hM.1.1]; decide) (by rw [ne_eq, hM.1.1]; decide) (by rw [ne_eq, hM.1.1]; decide) (by rw [ne_eq, hM.1.1]; decide)]
    exact hyl0
  have h500 : gR S 500 (A (31 + 2 * c)) = some (A (32 + 2 * c)) := hx.2.2.1.2.2.2.2.2.2.2 c hc
  have hN : N (A (32 + 2 * c)) = 150 := hx.2.1.2.2.2.2 c hc
  have wd : ∀ j, j < 5 → s_X5_word N (A (31 + 2 * c)) (ii i) (ii (j : Nat)) S = some (aI S (A (32 + 2 * c)) (5 * i + j)) := fun j hj => x_word h500 hN (by omega) hj
  have e5 : gR S 1105 x = some (A 17) := hx.2.2.1.1.2.2.2.2.2.2.2.2
  have e1111 : gR S 1111 x = some (A (23 + 4 * b)) := hx.2.2.2.1.2.1
  obtain ⟨g1, g2⟩ := y_st hm
  have r8 : gR S2 1214 m = some (B 8) := hm.2.1.2.1.1
  have n8 : N2 (B 8) = 310 := hm.2.1.2.2.2.1
  have ad : ∀ k : Nat, ii ((1 + 5 * i : Nat) : Int) + ii (k : Int) = ii ((1 + 5 * i + k : Nat) : Int) := fun k => by rw [ii_add]; rfl
  have inn : ∀ k : Nat, k < 5 → inB (ii ((1 + 5 * i + k : Nat) : Int)) (N2 (B 8)) = true := fun k hk => by rw [n8]; exact in_of (z := 1 + 5 * i + k) rfl (by omega) (by decide)
  have cln : ∀ k : Nat, k < 5 → (ii ((1 + 5 * i + k : Nat) : Int)).toNatClampNeg = 1 + 5 * i + k := fun k hk => cl_of (z := 1 + 5 * i + k) rfl (by omega)
  have in0 : inB (ii ((1 + 5 * i : Nat) : Int)) (N2 (B 8)) = true := inn 0 (by omega)
  have cl0 : (ii ((1 + 5 * i : Nat) : Int)).toNatClampNeg = 1 + 5 * i := cln 0 (by omega)
  have a1 : ii ((1 + 5 * i : Nat) : Int) + 1 = ii ((1 + 5 * i + 1 : Nat) : Int) := ad 1
  have a2 : ii ((1 + 5 * i : Nat) : Int) + 2 = ii ((1 + 5 * i + 2 : Nat) : Int) := ad 2
  have a3 : ii ((1 + 5 * i : Nat) : Int) + 3 = ii ((1 + 5 * i + 3 : Nat) : Int) := ad 3
  have a4 : ii ((1 + 5 * i : Nat) : Int) + 4 = ii ((1 + 5 * i + 4 : Nat) : Int) := ad 4
  have kd := hlo.1
  have w0 : s_X5_word N (A (31 + 2 * c)) (ii i) 0 S = some (ii l.1) := by rw [show (0 : Int32) = ii (0 : Nat) from rfl, wd 0 (by omega), Nat.add_zero, hxl.1]
  have q : ∀ k : Nat, k < 4 → (ii (l.1 : Int) = ii (k : Int)) = (l.1 = k) := fun k hk => by rw [ii_eq (by omega) (by omega) (by omega) (by omega)]; apply propext; omega
  have q0 : (ii (l.1 : Int) = (0 : Int32)) = (l.1 = 0) := q 0 (by omega)
  have q1 : (ii (l.1 : Int) = (1 : Int32)) = (l.1 = 1) := q 1 (by omega)
  have q2 : (ii (l.1 : Int) = (2 : Int32)) = (l.1 = 2) := q 2 (by omega)
  unfold s_X11_follow s_X12_doesLine
  simp only [p1, bd1_some, w0, r8, if_pos in0, cl0, hyl.1, e1111, e5, g1, q0, q1, q2]
  obtain ⟨g3, g4⟩ := x_formOf hx h.2.1 h.2.2.2.2
  by_cases k0' : l.1 = 0
  · obtain ⟨x1, x2, x3, x4⟩ := hxl.2.1 k0'
    obtain ⟨y1, y2, y3, y4⟩ := hyl.2.1 k0'
    obtain ⟨b1, b2', b3, b4⟩ := hlo.2.1 k0'
    rw [if_pos k0', if_pos k0']
    refine ⟨fun hh => by rw [g3 hh.2, bd1_some, mq_none], fun hh => ?_⟩
    have hn : vN (tU T) ≠ 0 := fun r => hh ⟨k0', r⟩
    obtain ⟨o, o1, _, _⟩ := g4 hn
    obtain ⟨S5, S6, f1, f2, f3, _⟩ := t_fuse (F := F) hF hX.1 hM.1 hn h0 l.2.1 l.2.2.1 l.2.2.2.1 l.2.2.2.2 ⟨b1, b2', b3, b4⟩
    have v1 : s_X5_word N (A (31 + 2 * c)) (ii i) 1 S = some (ii l.2.1) := by rw [show (1 : Int32) = ii (1 : Nat) from rfl, wd 1 (by omega), x1]
    have v2 : s_X5_word N (A (31 + 2 * c)) (ii i) 2 S = some (ii l.2.2.1) := by rw [show (2 : Int32) = ii (2 : Nat) from rfl, wd 2 (by omega), x2]
    have v3 : s_X5_word N (A (31 + 2 * c)) (ii i) 3 S = some (ii l.2.2.2.1) := by rw [show (3 : Int32) = ii (3 : Nat) from rfl, wd 3 (by omega), x3]
    have v4 : s_X5_word N (A (31 + 2 * c)) (ii i) 4 S = some (ii l.2.2.2.2) := by rw [show (4 : Int32) = ii (4 : Nat) from rfl, wd 4 (by omega), x4]
    rw [o1, bd1_some, mq_some, v1, bd1_some, v2, bd1_some, v3, bd1_some, v4, bd1_some, f1, bd2_some]
    rw [a1, a2, a3, a4, if_pos (inn 1 (by omega)), if_pos (inn 2 (by omega)), if_pos (inn 3 (by omega)), if_pos (inn 4 (by omega)), cln 1 (by omega), cln 2 (by omega), cln 3 (by omega), cln 4 (by omega), y1, y2, y3, y4, f2, bd1_some]
    exact ⟨_, S5, S6, rfl, rfl, f3⟩
  rw [if_neg k0', if_neg k0']
  refine ⟨fun hh => absurd hh.1 k0', fun _ => ?_⟩
  by_cases k1' : l.1 = 1
  · have x1 := hxl.2.2 (Or.inl k1')
    have y1 := hyl.2.2 (Or.inl k1')
    have v1 : s_X5_word N (A (31 + 2 * c)) (ii i) 1 S = some (ii l.2.1) := by rw [show (1 : Int32) = ii (1 : Nat) from rfl, wd 1 (by omega), x1]
    have i589 : inB (589 : Int32) (N2 (B 11)) = true := by rw [g2]; decide
    have c589 : (589 : Int32).toNatClampNeg = 589 := by decide
    rw [if_pos k1', if_pos k1', v1, bd1_some, bnd_def, a1, if_pos (inn 1 (by omega)), if_pos i589, bnd_def, c589, cln 1 (by omega), y1]
    exact ⟨_, _, _, rfl, rfl, t_mode hA h0 (hlo.2.2.1 k1')⟩
  rw [if_neg k1', if_neg k1']
  by_cases k2' : l.1 = 2
  · have i590 : inB (590 : Int32) (N2 (B 11)) = true := by rw [g2]; decide
    have c590 : (590 : Int32).toNatClampNeg = 590 := by decide
    rw [if_pos k2', if_pos k2', bnd_def, if_pos i590, bnd_def, c590]
    exact ⟨_, _, _, rfl, rfl, t_clear hA h0⟩
  · have k3' : l.1 = 3 := by omega
    have x1 := hxl.2.2 (Or.inr k3')
    have y1 := hyl.2.2 (Or.inr k3')
    have v1 : s_X5_word N (A (31 + 2 * c)) (ii i) 1 S = some (ii l.2.1) := by rw [show (1 : Int32) = ii (1 : Nat) from rfl, wd 1 (by omega), x1]
    obtain ⟨v, S5, S6, f1, f2, f3⟩ := t_turn (F := F) hF hX.1 hM.1 h0 (hlo.2.2.2 k3')
    rw [if_neg k2', if_neg k2', v1, bd1_some, f1, bd2_some, a1, if_pos (inn 1 (by omega)), cln 1 (by omega), y1, f2, bd2_some]
    exact ⟨_, S5, S6, rfl, rfl, f3⟩
end JJUDGE
end
section
section JJUDGE2
variable {N N2 : Nat → Nat} {F : Nat} {S0 S20 S S2 S' S2' : HS} {x m : Nat} {A B : Nat → Nat} {b c nx n : Nat} {T : TT} {t : STt}
theorem t_judge_loop (hF : 3000 ≤ F) (hX : RX N S0 x A b c nx T) (hM : RY N2 S20 m B T) (hT : TOK n T) {z : Int} (hz : 0 ≤ z ∧ z ≤ 2) : ∀ (k i M M2 : Nat) (v2 v3 : Int32) (t : STt) (S S2 : HS), i + k = (tP T).length → k < M → k < M2 → (v2 = -1 ∨ ∃ a : Nat, a < 100 ∧ v2 = ii a) → TJ x m A B (tU T) S0 S20 t S S2 →
    JE m A B S0 S20 (s_X11_judged_L30 N F (s_X11_judged_J92 N F) M x (ii z) v2 v3 (ii i) S) (s_X12_judged_L28 N2 F (s_X12_judged_J142 N2 F) M2 m (ii z) v2 v3 (ii i) S2) := by
  have hA := hX.1.1
  have hB := hM.1.1
  have hlen := hT.2.2.1.1
  have gr : ∀ {S S2 : HS} {t : STt}, TJ x m A B (tU T) S0 S20 t S S2 → gR S 1113 x = some (A (31 + 2 * c)) ∧ gI S 501 (A (31 + 2 * c)) = ii (tP T).length ∧ gR S 1105 x = some (A 17) ∧ gI S 703 (A 17) = ii t.2.2.1 ∧ gR S2 1214 m = some (B 8) ∧ N2 (B 8) = 310 ∧ aI S2 (B 8) 0 = ii (tP T).length ∧ gR S2 1217 m = some (B 11) ∧ N2 (B 11) = 616 ∧ aI S2 (B 11) 590 = ii t.2.2.1 ∧ aI S2 (B 11) 588 = ii (fI (tU T) t.1) ∧ aI S2 (B 8) = aI S20 (B 8) := by
    intro S S2 t h
    have hx := hX.1.xe h.1
    have hm := hM.1.wf h.2.2.1.wf
    obtain ⟨s1, s2⟩ := y_st hm
    obtain ⟨hc, p1, p2, p3, p4⟩ := hX.2.2.2.1.of hA h.1.of
    have e8 : aI S2 (B 8) = aI S20 (B 8) := h.2.2.1.2.2.1 (B 8) (by rw [ne_eq, hB]; decide) (by rw [ne_eq, hB]; decide) (by rw [ne_eq, hB]; decide) (by rw [ne_eq, hB]; decide)
    exact ⟨p1, p3, hx.2.2.1.1.2.2.2.2.2.2.2.2, h.2.1.2.2.1, hm.2.1.2.1.1, hm.2.1.2.2.2.1, by rw [e8]; exact hM.2.2.2.2.2.2.2.1, s1, s2, h.2.2.2.1.2.2.1, h.2.2.2.1.1, e8⟩
  have c0 : (ii z = (0 : Int32)) = (z = 0) := by rw [k0, ii_eq (by omega) (by omega) (by omega) (by omega)]
  have c1 : (ii z = (1 : Int32)) = (z = 1) := by rw [k1, ii_eq (by omega) (by omega) (by omega) (by omega)]
  have cc0 : (0 : Int32).toNatClampNeg = 0 := by decide
  have cc588 : (588 : Int32).toNatClampNeg = 588 := by decide
  have cc590 : (590 : Int32).toNatClampNeg = 590 := by decide
  intro k
  induction k with
  | zero =>
    intro i M M2 v2 v3 t S S2 hi hM1 hM2 hv h
    obtain ⟨M, rfl⟩ : ∃ q, M = q + 1 := ⟨M - 1, by omega⟩
    obtain ⟨M2, rfl⟩ : ∃ q, M2 = q + 1 := ⟨M2 - 1, by omega⟩
    obtain ⟨a1, a2, a3, a4, a5, a6, a7, a8, a9, a10, a11, _⟩ := gr h
    have hl : ii ((tP T).length : Int) ≤ ii (i : Int) := by rw [ii_le (by omega) (by omega) (by omega) (by omega)]; omega
    have i0 : inB (0 : Int32) (N2 (B 8)) = true := by rw [a6]; decide
    have i590 : inB (590 : Int32) (N2 (B 11)) = true := by rw [a9]; decide
    unfold s_X11_judged_L30 s_X12_judged_L28
    rw [a1, bd1_some, a2, if_pos hl, a5, bd1_some, if_pos i0, cc0, a7, if_pos hl]
    unfold s_X11_judged_J92 s_X12_judged_J142
    simp only [c0, c1]
    by_cases w0 : z = 0
    · rw [if_pos w0, if_pos w0]; exact ⟨_, _, _, rfl, rfl, h.1, h.2.2.1⟩
    rw [if_neg w0, if_neg w0]
    by_cases w1 : z = 1
    · rw [if_pos w1, if_pos w1, a3, bd1_some, a8, bd1_some, if_pos i590, cc590, a4, a10]; exact ⟨_, _, _, rfl, rfl, h.1, h.2.2.1⟩
    · rw [if_neg w1, if_neg w1]; exact ⟨_, _, _, rfl, rfl, h.1, h.2.2.1⟩
  | succ k ih =>
    intro i M M2 v2 v3 t S S2 hi hM1 hM2 hv h
    obtain ⟨M, rfl⟩ : ∃ q, M = q + 1 := ⟨M - 1, by omega⟩
    obtain ⟨M2, rfl⟩ : ∃ q, M2 = q + 1 := ⟨M2 - 1, by omega⟩
    obtain ⟨a1, a2, a3, a4, a5, a6, a7, a8, a9, a10, a11, a12⟩ := gr h
    have hl : ¬ ii ((tP T).length : Int) ≤ ii (i : Int) := by rw [ii_le (by omega) (by omega) (by omega) (by omega)]; omega
    have i0 : inB (0 : Int32) (N2 (B 8)) = true := by rw [a6]; decide
    have i588 : inB (588 : Int32) (N2 (B 11)) = true := by rw [a9]; decide
    have i590 : inB (590 : Int32) (N2 (B 11)) = true := by rw [a9]; decide
    have hlt : i < (tP T).length := by omega
    have hlg : (tP T)[i]? = some (tP T)[i] := List.getElem?_eq_getElem hlt
    generalize (tP T)[i] = l at hlg
    have hlo := hT.2.2.1.2 l (List.mem_of_getElem? hlg)
    have kd := hlo.1
    have hyl0 := hM.2.2.2.2.2.2.2.2 i l hlg
    have ex : 1 + 5 * ii (i : Int) = ii ((1 + 5 * i : Nat) : Int) := by rw [k1, k5, ii_mul, ii_add]; rfl
    have ix : inB (ii ((1 + 5 * i : Nat) : Int)) (N2 (B 8)) = true := by rw [a6]; exact in_of (z := 1 + 5 * i) rfl (by omega) (by decide)
    have cx : (ii ((1 + 5 * i : Nat) : Int)).toNatClampNeg = 1 + 5 * i := cl_of (z := 1 + 5 * i) rfl (by omega)
    have y0 : aI S2 (B 8) (1 + 5 * i) = ii l.1 := by rw [a12]; exact hyl0.1
    have q0 : (ii (l.1 : Int) = (0 : Int32)) = (l.1 = 0) := by rw [k0, ii_eq (by omega) (by omega) (by omega) (by omega)]; apply propext; omega
    have hfb := fI_b h.2.2.2.2 hT.1
    have h4n := hT.1.1
    have lf : (ii (fI (tU T) t.1) < (0 : Int32)) = (vN (tU T) = 0) := by
      rw [k0, ii_lt (by omega) (by omega) (by omega) (by omega)]; apply propext; unfold fI; split <;> omega
    have ei : ii (i : Int) + Int32.ofInt 1 = ii ((i + 1 : Nat) : Int) := by rw [show Int32.ofInt 1 = ii 1 from rfl, ii_add]; rfl
    obtain ⟨ln1, ln2⟩ := t_line (F := F) hF hX hM hT h hlg
    unfold s_X11_judged_L30 s_X12_judged_L28
    rw [a1, bd1_some, a2, if_neg hl, a3, bd1_some, a4, bnd_def, a5, bd1_some, if_pos i0, cc0, a7, if_neg hl, bnd_def, ex, a8, bd1_some, if_pos i590, bnd_def, bd1_some, cc590, a10, if_pos ix, cx, y0]
    -- how a line ends
    have hstep : ∀ (u2 : Int32) (fl : Nat) (t' : STt) (S' S2' : HS), (u2 = -1 ∨ ∃ a : Nat, a < 100 ∧ u2 = ii a) → TJ x m A B (tU T) S0 S20 t' S' S2' →
        JE m A B S0 S20 (s_X11_judged_J68 N F (s_X11_judged_L30 N F (s_X11_judged_J92 N F) M) x (ii z) u2 v3 (ii i) (ii fl) S') (s_X12_judged_J112 N2 F (s_X12_judged_L28 N2 F (s_X12_judged_J142 N2 F) M2) m (ii z) u2 v3 (ii i) (ii fl) S2') := by
      intro u2 fl t' S' S2' hu h'
      obtain ⟨b1, b2', b3, b4, b5, b6, b7, b8, b9, b10, b11, _⟩ := gr h'
      unfold s_X11_judged_J68 s_X12_judged_J112
      rw [b3, bd1_some, b4, b8, bd1_some, if_pos i590, cc590, b10]
      unfold s_X11_judged_J86 s_X12_judged_J134
      by_cases w : ii (t'.2.2.1 : Int) &&& (ii (fl : Int) ^^^ (-1)) = (0 : Int32)
      · rw [if_pos w, if_pos w, bnd_def, bnd_def, bnd_def, ei, Int32.add_zero]
        exact ih (i + 1) M M2 u2 v3 t' S' S2' (by omega) (by omega) (by omega) hu h'
      · rw [if_neg w, if_neg w, bnd_def, bnd_def, bnd_def, bnd_def, ei, show v3 + Int32.ofInt 1 = v3 + 1 from rfl]
        exact ih (i + 1) M M2 u2 (v3 + 1) t' S' S2' (by omega) (by omega) (by omega) hu h'
    by_cases w : l.1 = 0 ∧ vN (tU T) = 0
    · rw [ln1 w, bd2_some, if_pos (show (0 : Int32) = 0 from rfl), if_pos (q0.mpr w.1), bd1_some, if_pos i588, cc588, a11, if_pos (lf.mpr w.2)]
      unfold s_X12_judged_J83
      rw [if_pos (show (0 : Int32) = 0 from rfl)]
      rcases hv with hv | ⟨a, ha, hv⟩
      · rw [if_pos hv, if_neg (show ¬ (0 : Int32) ≤ v2 by rw [hv]; decide)]
        unfold s_X12_judged_J100
        rw [if_pos (show (0 : Int32) = 0 from rfl)]
        exact hstep (ii i) t.2.2.1 t S S2 (Or.inr ⟨i, by omega, rfl⟩) h
      · rw [if_neg (show ¬ v2 = -1 by rw [hv, show (-1 : Int32) = ii (-1) from rfl, ii_eq (by omega) (by omega) (by omega) (by omega)]; omega), if_pos (show (0 : Int32) ≤ v2 by rw [hv, k0, ii_le (by omega) (by omega) (by omega) (by omega)]; omega)]
        unfold s_X12_judged_J99 s_X12_judged_J100
        rw [if_pos (show (0 : Int32) = 0 from rfl)]
        exact hstep v2 t.2.2.1 t S S2 (Or.inr ⟨a, ha, hv⟩) h
    · obtain ⟨t', S5, S6, f1, f2, f3⟩ := ln2 w
      have hfin := hstep v2 t.2.2.1 t' S5 S6 hv f3
      have hgo : s_X12_judged_J83 N2 F (s_X12_judged_L28 N2 F (s_X12_judged_J142 N2 F) M2) m (ii z) v2 v3 (ii i) (ii ((1 + 5 * i : Nat) : Int)) (ii t.2.2.1) 1 S2 = s_X12_judged_J112 N2 F (s_X12_judged_L28 N2 F (s_X12_judged_J142 N2 F) M2) m (ii z) v2 v3 (ii i) (ii t.2.2.1) S6 := by
        unfold s_X12_judged_J83
        rw [if_neg (by decide)]
        unfold s_X12_judged_J99 s_X12_judged_J100
        rw [if_neg (by decide), f2, bd1_some]
      rw [f1, bd2_some, if_neg (show ¬ (1 : Int32) = 0 by decide)]
      by_cases w0 : l.1 = 0
      · rw [if_pos (q0.mpr w0), bd1_some, if_pos i588, cc588, a11, if_neg (fun r => w ⟨w0, lf.mp r⟩), hgo]
        exact hfin
      · rw [if_neg (fun r => w0 (q0.mp r)), hgo]
        exact hfin
theorem j_judged (hF : 3000 ≤ F) (hX : RX N S x A b c nx T) (hM : RY N2 S2 m B T) (hT : TOK n T) (p0 : Int32) : JE m A B S S2 (s_X11_judged N F x p0 S) (s_X12_judged N2 F m p0 S2) := by
  obtain ⟨S1, hS1, hM1, y0⟩ := base0 hM 0
  obtain ⟨z, rfl, c1, c2⟩ := zI p0
  have w2 : s_X12_within (ii z) 0 2 S1 = b2 (decide (0 ≤ z ∧ z ≤ 2)) := y_within z 0 2 c1 c2 (by omega) (by omega) (by omega) (by omega)
  have l5 : (ii z < (0 : Int32)) = (z < 0) := by rw [k0, ii_lt (by omega) (by omega) (by omega) (by omega)]
  have l6 : (ii z ≤ (2 : Int32)) = (z ≤ 2) := by rw [k2, ii_le (by omega) (by omega) (by omega) (by omega)]
  unfold s_X11_judged s_X12_judged
  rw [bnd_def, ← hS1, w2]
  simp only [b2_0, decide_eq_false_iff_not, l5, l6]
  by_cases w : ¬ (0 ≤ z ∧ z ≤ 2)
  · repeat' split
    all_goals first | exact je_none y0 _ | (exfalso; omega)
  have w' := Decidable.not_not.mp w
  obtain ⟨e5, e4, S3, S4, b1, b2', b3⟩ := t_begin (F := F) hF hX hM1 hT
  have hlen := hT.2.2.1.1
  rw [if_neg (show ¬ z < 0 by omega), if_pos w'.2, if_neg w, e5, bd1_some, e4, bd1_some, b1, bd1_some, b2', bd1_some]
  obtain ⟨v, S5, S6, r1, r2, r3, r4⟩ := t_judge_loop (F := F) hF hX hM1 hT w' (tP T).length 0 F F (-1) 0 (tN T) S3 S4 (by omega) (by omega) (by omega) (Or.inl rfl) b3
  exact ⟨v, S5, S6, r1, r2, r3, y0.trans r4⟩
end JJUDGE2
end
section
section JSPREAD
variable {N N2 : Nat → Nat} {F : Nat} {S0 S20 S S2 S' S2' : HS} {x m : Nat} {A B : Nat → Nat} {b c nx n : Nat} {T : TT}
theorem x_add3t (hF : 3000 ≤ F) (hX : RX N S x A b c nx T) (hT : TOK n T) {mode u v w : Nat} (hm : mode < 6) (h : hld3 T (ii u) (ii v) (ii w) = true) (hu : u < tB (tU T) (tN T).1) (hv : v < tB (tU T) (tN T).1) (hw : w < tB (tU T) (tN T).1) : ∃ S', s_X11_add N F x (ii u) (ii v) (ii w) (ii mode) S = some (1, S') ∧ XE A S S' ∧ XS S' (A 2) (sumT T mode u v w) ∧ S'.2.2 = S.2.2 := by
  have ht := hT.2.1
  obtain ⟨a1, a2, a3, a4, a5, a6⟩ := x_add hX
  have h3 : hld (tU T) (tN T) (ii u) = true ∧ hld (tU T) (tN T) (ii v) = true ∧ hld (tU T) (tN T) (ii w) = true := by
    unfold hld3 at h; simp at h; exact ⟨h.1.1, h.1.2, h.2⟩
  obtain ⟨g1, g2⟩ := x_hold hX.1 hX.2.1 ht (ii u)
  obtain ⟨o, o1, o2, o3⟩ := g2 h3.1
  have hn := hld_n h3.1
  unfold s_X11_add
  rw [o1, bd1_some, mq_some, x_holds o2 o3 hn, x_holds o2 o3 hn, h3.2.1, h3.2.2, if_neg (by decide), if_neg (by decide), a1, bd1_some]
  obtain ⟨S1, s1, s2, s3⟩ := x_sum (F := F) (a := A 2) (by omega) o2 o3 a4 a5 hm hu hv hw
  rw [s1, bd1_some]
  exact ⟨S1, rfl, s2.xe, s3, s2.2.2⟩
theorem y_sum3t (hF : 3000 ≤ F) (hM : RY N2 S2 m B T) (hT : TOK n T) (hn : vN (tU T) ≠ 0) {mode u v w : Nat} (hm : mode < 6) (hu : u < tB (tU T) (tN T).1) (hv : v < tB (tU T) (tN T).1) (hw : w < tB (tU T) (tN T).1) :
    ∃ S', s_X12_sums_ N2 F m (ii (tN T).1) (ii u) (ii v) (ii w) (ii mode) S2 = some (ii (sumT T mode u v w).1, S') ∧ YE m B S2 S' ∧ aI S' (B 15) = aI S2 (B 15) := by
  obtain ⟨b1, fo, mu, hus, hr⟩ := base1 hM hT hn
  have hB := hM.1.1
  obtain ⟨S4, s1, s2, s3⟩ := y_sums (F := F) (by omega) hr mu fo hm hu hv hw
  exact ⟨S4, s1, s2.ye hB, s2.2.2.2.1 (B 15) (by rw [ne_eq, hB]; decide) (by rw [ne_eq, hB]; decide)⟩
theorem RY.ye2 (hM : RY N2 S20 m B T) (h : YE m B S20 S2) : RY N2 S2 m B T := hM.ye h
/- is it new among the told -/
theorem t_new (e1 : gR S 1110 x = some (A 22)) (n1 : N (A 22) = 6) (e2 : gR S2 1227 m = some (B 15)) (n2 : N2 (B 15) = 5) {i : Nat} (hi : i < 5) (ht : ∀ j, j ≤ i → aI S (A 22) j = aI S2 (B 15) j) (K : Nat → Int32 → Int32 → Int32 → Int32 → Int32 → Int32 → HS → Option (Int32 × HS)) (K2 : Nat → Int32 → Int32 → Int32 → Int32 → Int32 → Int32 → HS → Option (Int32 × HS)) (p0 p1 p2 v4 : Int32) : ∀ (k j M M2 : Nat) (w : Bool), j + k = i → k < M → k < M2 →
    ∃ w' : Bool, s_X11_spread_L46 N F K M x p0 p1 p2 v4 (ii i) (b2 w) (ii j) S = K x p0 p1 p2 v4 (ii i) (b2 w') S ∧ s_X12_spread_L55 N2 F K2 M2 m p0 p1 p2 v4 (ii i) (b2 w) (ii j) S2 = K2 m p0 p1 p2 v4 (ii i) (b2 w') S2 := by
  intro k
  induction k with
  | zero =>
    intro j M M2 w hj hM1 hM2
    obtain ⟨M, rfl⟩ : ∃ q, M = q + 1 := ⟨M - 1, by omega⟩
    obtain ⟨M2, rfl⟩ : ∃ q, M2 = q + 1 := ⟨M2 - 1, by omega⟩
    unfold s_X11_spread_L46 s_X12_spread_L55
    have hl : ii (i : Int) ≤ ii (j : Int) := by rw [ii_le (by omega) (by omega) (by omega) (by omega)]; omega
    rw [if_pos hl, if_pos hl]
    exact ⟨w, rfl, rfl⟩
  | succ k ih =>
    intro j M M2 w hj hM1 hM2
    obtain ⟨M, rfl⟩ : ∃ q, M = q + 1 := ⟨M - 1, by omega⟩
    obtain ⟨M2, rfl⟩ : ∃ q, M2 = q + 1 := ⟨M2 - 1, by omega⟩
    unfold s_X11_spread_L46 s_X12_spread_L55
    have hl : ¬ ii (i : Int) ≤ ii (j : Int) := by rw [ii_le (by omega) (by omega) (by omega) (by omega)]; omega
    have ej : ii (j : Int) + Int32.ofInt 1 = ii ((j + 1 : Nat) : Int) := by rw [show Int32.ofInt 1 = ii 1 from rfl, ii_add]; rfl
    have i1 : inB (ii (j : Int)) (N (A 22)) = true := by rw [n1]; exact in_of (z := j) rfl (by omega) (by decide)
    have i2 : inB (ii (i : Int)) (N (A 22)) = true := by rw [n1]; exact in_of (z := i) rfl (by omega) (by decide)
    have i3 : inB (ii (j : Int)) (N2 (B 15)) = true := by rw [n2]; exact in_of (z := j) rfl (by omega) (by decide)
    have i4 : inB (ii (i : Int)) (N2 (B 15)) = true := by rw [n2]; exact in_of (z := i) rfl (by omega) (by decide)
    have cj := cl_of (x := ii (j : Int)) (z := j) rfl (by omega)
    have ci := cl_of (x := ii (i : Int)) (z := i) rfl (by omega)
    rw [if_neg hl, if_neg hl]
    unfold s_X11_spread_J80 s_X12_spread_J89
    simp only [b2_0]
    cases w with
    | false => rw [if_pos rfl, if_pos rfl, bnd_def, bnd_def, ej]; exact ih (j + 1) M M2 false (by omega) (by omega) (by omega)
    | true =>
      rw [if_neg tf, if_neg tf, e1, bd1_some, if_pos i1, bd1_some, if_pos i2, e2, bd1_some, if_pos i3, bd1_some, if_pos i4, cj, ci, ht j (by omega), ht i (by omega)]
      by_cases q : aI S2 (B 15) j = aI S2 (B 15) i
      · rw [if_pos q, if_pos q, bnd_def, bnd_def, ej]; exact ih (j + 1) M M2 false (by omega) (by omega) (by omega)
      · rw [if_neg q, if_neg q, bnd_def, bnd_def, ej]; exact ih (j + 1) M M2 true (by omega) (by omega) (by omega)
theorem t_spread_loop (hF : 3000 ≤ F) (hX : RX N S0 x A b c nx T) (hM : RY N2 S20 m B T) (hT : TOK n T) (hn : vN (tU T) ≠ 0) {u v w : Nat} (hh : hld3 T (ii u) (ii v) (ii w) = true) (hu : u < tB (tU T) (tN T).1) (hv : v < tB (tU T) (tN T).1) (hw : w < tB (tU T) (tN T).1) : ∀ (k i M M2 : Nat) (v4 : Int32) (S S2 : HS), i + k = 5 → k < M → k < M2 → (∀ j, j < i → aI S (A 22) j = aI S2 (B 15) j) → XE A S0 S → YE m B S20 S2 →
    JE m A B S0 S20 (s_X11_spread_L6 N F M x (ii u) (ii v) (ii w) v4 (ii i) S) (s_X12_spread_L23 N2 F M2 m (ii u) (ii v) (ii w) v4 (ii i) S2) := by
  intro k
  induction k with
  | zero =>
    intro i M M2 v4 S S2 hi hM1 hM2 ht h1 h2
    obtain ⟨M, rfl⟩ : ∃ q, M = q + 1 := ⟨M - 1, by omega⟩
    obtain ⟨M2, rfl⟩ : ∃ q, M2 = q + 1 := ⟨M2 - 1, by omega⟩
    unfold s_X11_spread_L6 s_X12_spread_L23
    rw [if_pos (show (4 : Int32) < ii (i : Int) by rw [k4, ii_lt (by omega) (by omega) (by omega) (by omega)]; omega), if_pos (show (5 : Int32) ≤ ii (i : Int) by rw [k5, ii_le (by omega) (by omega) (by omega) (by omega)]; omega)]
    exact ⟨_, _, _, rfl, rfl, h1, h2⟩
  | succ k ih =>
    intro i M M2 v4 S S2 hi hM1 hM2 ht h1 h2
    obtain ⟨M, rfl⟩ : ∃ q, M = q + 1 := ⟨M - 1, by omega⟩
    obtain ⟨M2, rfl⟩ : ∃ q, M2 = q + 1 := ⟨M2 - 1, by omega⟩
    have hx := hX.xe h1
    have hm := hM.ye h2
    have hA := hx.1.1
    have hB := hm.1.1
    obtain ⟨S3, s1, s2, s3, s4⟩ := x_add3t (F := F) hF hx hT (show i < 6 by omega) hh hu hv hw
    obtain ⟨S4, t1, t2, t3⟩ := y_sum3t (F := F) hF hm hT hn (show i < 6 by omega) hu hv hw
    obtain ⟨_, _, _, hus, _⟩ := base1 hm hT hn
    have hx3 := hx.xe s2
    have hm4 := hm.ye t2
    have r1 : gR S3 1110 x = some (A 22) := hx3.1.2.2.1.2.1.2.2.2.2
    have r2 : gR S3 1101 x = some (A 2) := (x_add hx3).1
    have n1 : N (A 22) = 6 := hx.1.2.1.1.2.2.2.2.2.2.2
    have r3 : gR S2 1227 m = some (B 15) := hm.1.2.1.2.1.2.2.2.2.2.2.2
    have r4 : gR S4 1227 m = some (B 15) := hm4.1.2.1.2.1.2.2.2.2.2.2.2
    have n2 : N2 (B 15) = 5 := hm.1.2.1.2.2.2.2.2.2.2.2.2.2
    have i1 : inB (ii (i : Int)) (N (A 22)) = true := by rw [n1]; exact in_of (z := i) rfl (by omega) (by decide)
    have i2 : inB (ii (i : Int)) (N2 (B 15)) = true := by rw [n2]; exact in_of (z := i) rfl (by omega) (by decide)
    have ci := cl_of (x := ii (i : Int)) (z := i) rfl (by omega)
    have e1 : gI S3 1 (A 2) = ii (sumT T i u v w).1 := s3.1
    have ej : ii (i : Int) + Int32.ofInt 1 = ii ((i + 1 : Nat) : Int) := by rw [show Int32.ofInt 1 = ii 1 from rfl, ii_add]; rfl
    unfold s_X11_spread_L6 s_X12_spread_L23
    rw [if_neg (show ¬ (4 : Int32) < ii (i : Int) by rw [k4, ii_lt (by omega) (by omega) (by omega) (by omega)]; omega), if_neg (show ¬ (5 : Int32) ≤ ii (i : Int) by rw [k5, ii_le (by omega) (by omega) (by omega) (by omega)]; omega), s1, bd2_some, if_neg (show ¬ (1 : Int32) = 0 by decide), r1, bd1_some, r2, bd1_some, if_pos i1, bnd_def, ci, e1, r3, bd1_some, hus, bd1_some, t1, bd2_some, if_pos i2, bnd_def]
    generalize hS5 : wI S3 (A 22) i (ii (sumT T i u v w).1) = S5
    generalize hS6 : wI S4 (B 15) i (ii (sumT T i u v w).1) = S6
    have x5 : XE A S3 S5 := by rw [← hS5]; exact ⟨fun _ _ _ _ => rfl, rfl, fun p p1 _ => aI_wI_o _ _ _ _ p1, rfl⟩
    have y6 : YE m B S4 S6 := by
      rw [← hS6]
      exact ⟨fun _ _ _ _ => rfl, rfl, fun p _ _ _ p4 => aI_wI_o _ _ _ _ p4, fun j _ => by rw [aI_wI_o _ _ _ _ (by rw [ne_eq, hB]; decide)], rfl⟩
    have x05 := (h1.trans s2).trans x5
    have y06 := (h2.trans t2).trans y6
    have a22 : aI S3 (A 22) = aI S (A 22) := by unfold aI; rw [s4]
    have ht' : ∀ j, j ≤ i → aI S5 (A 22) j = aI S6 (B 15) j := by
      intro j hj
      rw [← hS5, ← hS6, aI_wI_s, aI_wI_s]; dsimp only
      by_cases q : j = i
      · rw [if_pos q, if_pos q]
      · rw [if_neg q, if_neg q, a22, t3]; exact ht j (by omega)
    have r5 : gR S5 1110 x = some (A 22) := (hX.xe x05).1.2.2.1.2.1.2.2.2.2
    have r6 : gR S6 1227 m = some (B 15) := (hM.ye y06).1.2.1.2.1.2.2.2.2.2.2.2
    obtain ⟨w', q1, q2⟩ := t_new (F := F) r5 n1 r6 n2 (show i < 5 by omega) ht' (s_X11_spread_J88 N F (s_X11_spread_L6 N F M)) (s_X12_spread_J97 N2 F (s_X12_spread_L23 N2 F M2)) (ii u) (ii v) (ii w) v4 i 0 F F true (by omega) (by omega) (by omega)
    have q1' : s_X11_spread_L46 N F (s_X11_spread_J88 N F (s_X11_spread_L6 N F M)) F x (ii u) (ii v) (ii w) v4 (ii i) 1 0 S5 = _ := q1
    have q2' : s_X12_spread_L55 N2 F (s_X12_spread_J97 N2 F (s_X12_spread_L23 N2 F M2)) F m (ii u) (ii v) (ii w) v4 (ii i) 1 0 S6 = _ := q2
    rw [q1', q2']
    unfold s_X11_spread_J88 s_X12_spread_J97 s_X11_spread_J100 s_X12_spread_J109
    simp only [b2_0]
    cases w' with
    | false =>
      rw [if_pos rfl, if_pos rfl, bnd_def, bnd_def, bnd_def, bnd_def, ej]
      exact ih (i + 1) M M2 _ S5 S6 (by omega) (by omega) (by omega) (fun j hj => ht' j (by omega)) x05 y06
    | true =>
      rw [if_neg tf, if_neg tf, bnd_def, bnd_def, bnd_def, bnd_def, ej]
      exact ih (i + 1) M M2 _ S5 S6 (by omega) (by omega) (by omega) (fun j hj => ht' j (by omega)) x05 y06
theorem j_spread (hF : 3000 ≤ F) (hX : RX N S x A b c nx T) (hM : RY N2 S2 m B T) (hT : TOK n T) (p q r : Int32) : JE m A B S S2 (s_X11_spread N F x p q r S) (s_X12_spread N2 F m p q r S2) := by
  obtain ⟨S1, hS1, hM1, y0⟩ := base0 hM 0
  obtain ⟨g1, _⟩ := x_add3 hF hX hT p q r
  unfold s_X11_spread s_X12_spread
  rw [bnd_def, ← hS1, y_areBits hM1.1 hM1.2.1.1 hT.2.1, bd1_some]
  simp only [b2_0]
  rw [show (hld (tU T) (tN T) p && hld (tU T) (tN T) q && hld (tU T) (tN T) r) = hld3 T p q r from rfl]
  cases hh : hld3 T p q r
  · obtain ⟨F, rfl⟩ : ∃ q, F = q + 1 := ⟨F - 1, by omega⟩
    unfold s_X11_spread_L6
    rw [if_neg (show ¬ (4 : Int32) < 0 by decide), g1 hh, bd2_some, if_pos (show (0 : Int32) = 0 from rfl), if_pos rfl]
    exact je_none y0 _
  · obtain ⟨u, v, w, rfl, rfl, rfl, hu, hv, hw, hn⟩ := hld3_ex hT hh
    rw [if_neg tf]
    obtain ⟨v', S5, S6, r1, r2, r3, r4⟩ := t_spread_loop (F := F) hF hX hM1 hT hn hh hu hv hw 5 0 F F 0 S S1 (by omega) (by omega) (by omega) (fun j hj => by omega) (XE.refl _ _) (YE.refl _ _ _)
    exact ⟨v', S5, S6, r1, r2, r3, y0.trans r4⟩
end JSPREAD
end
section
/- a byte, taken either way -/
theorem byte_eq (p : Int64) : ∀ k : Fin 57, (((p.toUInt64 >>> ((ii (k.val : Int)).toInt64.toUInt64 &&& Int64.toUInt64 63)).toInt64).toInt32 &&& 255 : Int32) = ((p >>> ((ii (k.val : Int)).toInt64 &&& 63)).toInt32 &&& 255 : Int32) := by
  intro k
  have hk : k.val < 57 := k.isLt
  have h1 := jj_msk ⟨k.val, by omega⟩
  have h2 : (((ii (k.val : Int)).toInt64.toUInt64 &&& Int64.toUInt64 63)).toBitVec % 64 = BitVec.ofNat 64 k.val := by
    have hm : ∀ k : Fin 64, (((ii (k.val : Int)).toInt64.toUInt64 &&& Int64.toUInt64 63)).toBitVec % 64 = BitVec.ofNat 64 k.val := by decide +kernel
    exact hm ⟨k.val, by omega⟩
  have h3 : (((ii (k.val : Int)).toInt64.toUInt64 &&& Int64.toUInt64 63)).toNat % 64 = k.val := by
    have hm : ∀ k : Fin 64, (((ii (k.val : Int)).toInt64.toUInt64 &&& Int64.toUInt64 63)).toNat % 64 = k.val := by decide +kernel
    exact hm ⟨k.val, by omega⟩
  apply Int32.toBitVec_inj.mp
  rw [Int32.toBitVec_and, Int32.toBitVec_and, Int64.toBitVec_toInt32, Int64.toBitVec_toInt32, Int64.toBitVec_shiftRight]
  rw [h1]
  apply BitVec.eq_of_getLsbD_eq
  intro i hi
  rw [BitVec.getLsbD_and, BitVec.getLsbD_and]
  by_cases h8 : i < 8
  · have kk : (BitVec.ofNat 64 k.val).toNat = k.val := by rw [BitVec.toNat_ofNat]; exact Nat.mod_eq_of_lt (by omega)
    have e1 : ((p.toUInt64 >>> ((ii (k.val : Int)).toInt64.toUInt64 &&& Int64.toUInt64 63)).toInt64).toBitVec.getLsbD i = p.toBitVec.getLsbD (k.val + i) := by
      show (p.toUInt64 >>> ((ii (k.val : Int)).toInt64.toUInt64 &&& Int64.toUInt64 63)).toBitVec.getLsbD i = _
      rw [UInt64.toBitVec_shiftRight, h2]
      show (p.toBitVec >>> (BitVec.ofNat 64 k.val).toNat).getLsbD i = _
      rw [BitVec.getLsbD_ushiftRight, kk]
    have e2 : (p.toBitVec.sshiftRight' (BitVec.ofNat 64 k.val)).getLsbD i = p.toBitVec.getLsbD (k.val + i) := by
      show (p.toBitVec.sshiftRight (BitVec.ofNat 64 k.val).toNat).getLsbD i = _
      rw [BitVec.getLsbD_sshiftRight, kk, if_pos (by omega)]
      simp; omega
    rw [BitVec.getLsbD_signExtend, BitVec.getLsbD_signExtend, if_pos (by omega), if_pos (by omega), e1, e2]
  · have : (255 : Int32).toBitVec.getLsbD i = false := by
      have : ∀ i : Fin 32, ¬ i.val < 8 → (255 : Int32).toBitVec.getLsbD i.val = false := by decide
      exact this ⟨i, hi⟩ h8
    rw [this, Bool.and_false, Bool.and_false]
theorem byte_ii (y : Int32) : ∃ b : Nat, b < 256 ∧ (y &&& 255 : Int32) = ii b := by
  refine ⟨(y &&& 255 : Int32).toBitVec.toNat, ?_, ?_⟩
  · rw [Int32.toBitVec_and, BitVec.toNat_and]
    exact Nat.lt_of_le_of_lt Nat.and_le_right (by decide)
  · apply Int32.toBitVec_inj.mp
    show _ = BitVec.ofInt 32 _
    apply BitVec.eq_of_toNat_eq
    simp
theorem chr_ii : ∀ b : Fin 256, vp_nar .char (((ii (b.val : Int)).toUInt32 % 65536).toInt32) = ii (b.val : Int) := by decide +kernel
section JFEED
variable {N N2 : Nat → Nat} {F : Nat} {S S2 S' S2' : HS} {x m : Nat} {A B : Nat → Nat} {b c nx n : Nat} {T : TT}
def tTp (T : TT) (tp : List Nat) : TT := (tU T, tP T, tN T, tp, tS T, tD T, tQ T, tM T)
theorem RX.tp (h : RX N S x A b c nx T) {tp : List Nat} (hg : ∀ f p, f ≠ 801 → gI S' f p = gI S f p) (hr : S'.2.2.1 = S.2.2.1) (ha : ∀ p, p ≠ A 1 → aI S' p = aI S p) (hj : S'.2.2.2.2 = S.2.2.2.2) (h1 : XTP S' A tp) : RX N S' x A b c nx (tTp T tp) := by
  obtain ⟨⟨a1, a2, a3, a4, a5⟩, c2, c3, c4, c5, c6, c7, c8⟩ := h
  have hA := a1
  have e : ∀ q, q ≠ 1 → aI S' (A q) = aI S (A q) := fun q hq => ha _ (by rw [ne_eq, hA]; exact hq)
  have ts : ∀ s t, s < 1000 → TS S A (tU T) s t → TS S' A (tU T) s t := fun s t _ ht => ht.congr (fun f f1 f2 => hg f _ (by omega)) (e _ (by omega))
  refine ⟨⟨a1, a2, by rw [hr, hj]; exact a3, a4.mono (fun f p hf => hg f p (by omega)) hr hj, a5⟩, ts _ _ (by omega) c2, h1, ⟨c4.1, by rw [gR_of hr]; exact c4.2.1, by rw [gR_of hr]; exact c4.2.2.1, by rw [hg 501 _ (by omega)]; exact c4.2.2.2.1, fun i l hl => by rw [e (32 + 2 * c) (by omega)]; exact c4.2.2.2.2 i l hl⟩, ⟨by rw [hg 1115 _ (by omega)]; exact c5.1, fun i q hq => by rw [e 20 (by omega), e 21 (by omega)]; exact c5.2 i q hq⟩, ⟨by rw [hg 402 _ (by omega)]; exact c6.1, by rw [hg 403 _ (by omega)]; exact c6.2.1, c6.2.2.1, c6.2.2.2.1, c6.2.2.2.2.mono (fun j _ => ⟨fun t ht => ts _ _ (by omega) ht, by rw [e 15 (by omega)]⟩)⟩, ?_, fun k hk => ⟨by rw [e 19 (by omega)]; exact (c8 k hk).1, fun t ht => ts _ _ (by omega) ((c8 k hk).2 t ht)⟩⟩
  obtain ⟨h1, h2, h3, h4, h5, h6⟩ := c7
  exact ⟨by rw [hg 109 _ (by omega)]; exact h1, by rw [hg 110 _ (by omega)]; exact h2, by rw [hg 111 _ (by omega)]; exact h3, h4, h5.bk (fun j j1 j2 i _ => by rw [e j (by omega)]), h6.mono (fun i _ => by rw [e 12 (by omega)]) (fun _ _ _ q => q)⟩
theorem RY.tp (h : RY N2 S2 m B T) {tp : List Nat} (hg : ∀ f p, f ≠ 1202 → gI S2' f p = gI S2 f p) (hr : S2'.2.2.1 = S2.2.2.1) (ha : ∀ p, p ≠ B 0 → aI S2' p = aI S2 p) (hj : S2'.2.2.2.2 = S2.2.2.2.2) (h1 : YTP S2' m B tp) : RY N2 S2' m B (tTp T tp) := by
  obtain ⟨a1, ⟨a2, a3⟩, ⟨s1, s2, s3⟩, ⟨u1, u2, u3⟩, a5, a6, ⟨t1, t2⟩, ⟨p1, p2⟩⟩ := h
  have hB := a1.1
  have e : ∀ q, q ≠ 0 → aI S2' (B q) = aI S2 (B q) := fun q q1 => ha _ (by rw [ne_eq, hB]; exact q1)
  have ej := aJ_of hj
  refine ⟨a1.congr hr (e 5 (by decide)) (e 6 (by decide)) (ej _) (ej _), ⟨by rw [e 11 (by decide)]; exact a2, by rw [e 11 (by decide)]; exact a3⟩, ⟨by rw [e 11 (by decide)]; exact s1, s2, by rw [e 11 (by decide)]; exact s3⟩, ⟨by rw [hg 1218 _ (by omega)]; exact u1, u2, by rw [e 11 (by decide)]; exact u3⟩, by rw [e 11 (by decide), e 12 (by decide)]; exact a5, a6.congr (fun i _ => ⟨by rw [ej], by rw [ej]⟩), h1, ⟨by rw [e 8 (by decide)]; exact p1, by rw [e 8 (by decide)]; exact p2⟩⟩
theorem tTp_self (T : TT) : tTp T (tT T) = T := rfl
theorem j_bytes_loop (p : Int64) : ∀ (k M M2 : Nat) (S S2 : HS) (T : TT), k ≤ 8 → k < M → k < M2 → RX N S x A b c nx T → RY N2 S2 m B T → TOK n T →
    ∃ S' S2' T', s_X8_takeBytes_L3 N F M (A 0) p (ii (8 * (k : Int) - 8)) S = some S' ∧ s_X12_lay_L3 N2 F M2 m p (ii (8 * (k : Int) - 8)) S2 = some S2' ∧ RX N S' x A b c nx T' ∧ RY N2 S2' m B T' ∧ TOK n T' := by
  intro k
  induction k with
  | zero =>
    intro M M2 S S2 T hk hM1 hM2 hX hM hT
    obtain ⟨M, rfl⟩ : ∃ q, M = q + 1 := ⟨M - 1, by omega⟩
    obtain ⟨M2, rfl⟩ : ∃ q, M2 = q + 1 := ⟨M2 - 1, by omega⟩
    unfold s_X8_takeBytes_L3 s_X12_lay_L3
    have : ii (8 * ((0 : Nat) : Int) - 8) < (0 : Int32) := by decide
    rw [if_pos this, if_pos this]
    exact ⟨_, _, _, rfl, rfl, hX, hM, hT⟩
  | succ k ih =>
    intro M M2 S S2 T hk hM1 hM2 hX hM hT
    obtain ⟨M, rfl⟩ : ∃ q, M = q + 1 := ⟨M - 1, by omega⟩
    obtain ⟨M2, rfl⟩ : ∃ q, M2 = q + 1 := ⟨M2 - 1, by omega⟩
    have hA := hX.1.1
    have hB := hM.1.1
    have e8 : (8 * ((k + 1 : Nat) : Int) - 8) = ((8 * k : Nat) : Int) := by omega
    have en : ii ((8 * k : Nat) : Int) + Int32.ofInt (-8) = ii (8 * (k : Int) - 8) := by rw [show Int32.ofInt (-8) = ii (-8) from rfl, ii_add]; congr 1
    rw [e8]
    unfold s_X8_takeBytes_L3 s_X12_lay_L3
    have hl : ¬ ii ((8 * k : Nat) : Int) < (0 : Int32) := by rw [k0, ii_lt (by omega) (by omega) (by omega) (by omega)]; omega
    rw [if_neg hl, if_neg hl, bnd_def, bnd_def, byte_eq p ⟨8 * k, by omega⟩]
    obtain ⟨v, hv, ev⟩ := byte_ii ((p >>> ((ii ((8 * k : Nat) : Int)).toInt64 &&& 63)).toInt32)
    rw [ev]
    have q10 : (ii (v : Int) = (10 : Int32)) = (v = 10) := by rw [k10, ii_eq (by omega) (by omega) (by omega) (by omega)]; apply propext; omega
    have q32 : (ii (v : Int) < (32 : Int32)) = (v < 32) := by rw [show (32 : Int32) = ii 32 from rfl, ii_lt (by omega) (by omega) (by omega) (by omega)]; apply propext; omega
    have q126 : ((126 : Int32) < ii (v : Int)) = (126 < v) := by rw [show (126 : Int32) = ii 126 from rfl, ii_lt (by omega) (by omega) (by omega) (by omega)]; apply propext; omega
    have skip : ∃ S' S2' T', s_X8_takeBytes_J89 N F (s_X8_takeBytes_L3 N F M) (A 0) p (ii ((8 * k : Nat) : Int)) S = some S' ∧ s_X12_lay_J69 N2 F (s_X12_lay_L3 N2 F M2) m p (ii ((8 * k : Nat) : Int)) S2 = some S2' ∧ RX N S' x A b c nx T' ∧ RY N2 S2' m B T' ∧ TOK n T' := by
      unfold s_X8_takeBytes_J89 s_X12_lay_J69
      rw [bnd_def, bnd_def, en]
      exact ih M M2 S S2 T (by omega) (by omega) (by omega) hX hM hT
    have goes : tpok v → ∃ S' S2' T', s_X8_takeBytes_J43 N F (s_X8_takeBytes_L3 N F M) (A 0) p (ii ((8 * k : Nat) : Int)) (ii v) 1 S = some S' ∧ s_X12_lay_J38 N2 F (s_X12_lay_L3 N2 F M2) m p (ii ((8 * k : Nat) : Int)) (ii v) S2 = some S2' ∧ RX N S' x A b c nx T' ∧ RY N2 S2' m B T' ∧ TOK n T' := by
      intro hok
      have hlen := hT.2.2.2.1.1
      have x1 := hX.2.2.1.1
      have y1 := hM.2.2.2.2.2.2.1.1
      unfold s_X8_takeBytes_J43 s_X12_lay_J38
      have q0 : ¬ ii ((tT T).length : Int) < (0 : Int32) := by rw [k0, ii_lt (by omega) (by omega) (by omega) (by omega)]; omega
      have q1 : ((1000 : Int32) ≤ ii ((tT T).length : Int)) = (1000 ≤ (tT T).length) := by rw [show (1000 : Int32) = ii 1000 from rfl, ii_le (by omega) (by omega) (by omega) (by omega)]; apply propext; omega
      rw [if_neg (show ¬ (1 : Int32) = 0 by decide), x1, if_neg q0, y1]
      simp only [q1]
      by_cases w : 1000 ≤ (tT T).length
      · rw [if_pos w, if_pos w]; exact skip
      rw [if_neg w, if_neg w]
      have r1 : gR S 800 (A 0) = some (A 1) := hX.1.2.2.1.1.2.1
      have n1 : N (A 1) = 1000 := hX.1.2.1.1.1
      have r2 : gR S2 1201 m = some (B 0) := hM.1.2.1.1.1
      have n2 : N2 (B 0) = 1000 := hM.1.2.1.2.2.1.1
      have i1 : inB (ii ((tT T).length : Int)) (N (A 1)) = true := by rw [n1]; exact in_of (z := (tT T).length) rfl (by omega) (by decide)
      have i2 : inB (ii ((tT T).length : Int)) (N2 (B 0)) = true := by rw [n2]; exact in_of (z := (tT T).length) rfl (by omega) (by decide)
      have cl := cl_of (x := ii ((tT T).length : Int)) (z := (tT T).length) rfl (by omega)
      have ad : ii ((tT T).length : Int) + 1 = ii ((tT T ++ [v]).length : Nat) := by rw [k1, ii_add]; congr 1; simp
      rw [r1, bd1_some, if_pos i1, bnd_def, cl, chr_ii ⟨v, hv⟩, bnd_def, gI_wI, x1, ad, r2, bd1_some, if_pos i2, bnd_def, bnd_def, gI_wI, y1, ad]
      unfold s_X8_takeBytes_J89 s_X12_lay_J69
      rw [bnd_def, bnd_def, en]
      have tpL : ∀ i cc, (tT T ++ [v])[i]? = some cc → (i = (tT T).length ∧ cc = v) ∨ (i ≠ (tT T).length ∧ (tT T)[i]? = some cc) := by
        intro i cc h
        by_cases q : i < (tT T).length
        · rw [List.getElem?_append_left q] at h; exact Or.inr ⟨by omega, h⟩
        · rw [List.getElem?_append_right (by omega)] at h
          by_cases q2 : i = (tT T).length
          · subst q2; rw [Nat.sub_self] at h; simp at h; exact Or.inl ⟨rfl, h.symm⟩
          · rw [List.getElem?_eq_none (by simp; omega)] at h; cases h
      refine ih M M2 _ _ (tTp T (tT T ++ [v])) (by omega) (by omega) (by omega) (hX.tp (fun f p hf => by rw [gI_uI, if_neg (fun r => hf r.1)]; rfl) rfl (fun p hp => aI_wI_o _ _ _ _ hp) rfl ⟨by rw [gI_uI, if_pos ⟨rfl, rfl⟩], fun i cc h => ?_⟩) (hM.tp (fun f p hf => by rw [gI_uI, if_neg (fun r => hf r.1)]; rfl) rfl (fun p hp => aI_wI_o _ _ _ _ hp) rfl ⟨by rw [gI_uI, if_pos ⟨rfl, rfl⟩], fun i cc h => ?_⟩) ?_
      · show aI (wI S (A 1) (tT T).length (ii v)) (A 1) i = _
        rw [aI_wI_s]; dsimp only
        rcases tpL i cc h with ⟨q, r⟩ | ⟨q, r⟩
        · rw [if_pos q, r]
        · rw [if_neg q]; exact hX.2.2.1.2 i cc r
      · show aI (wI S2 (B 0) (tT T).length (ii v)) (B 0) i = _
        rw [aI_wI_s]; dsimp only
        rcases tpL i cc h with ⟨q, r⟩ | ⟨q, r⟩
        · rw [if_pos q, r]
        · rw [if_neg q]; exact hM.2.2.2.2.2.2.1.2 i cc r
      · obtain ⟨t1, t2, t3, t4, t5⟩ := hT
        refine ⟨t1, t2, t3, ⟨by show (tT T ++ [v]).length ≤ 1000; simp; omega, fun cc h => ?_, t4.2.2⟩, t5⟩
        rcases List.mem_append.mp h with q | q
        · exact t4.2.1 cc q
        · have : cc = v := by simpa using q
          subst this; exact hok
    simp only [q10, q32, q126]
    have zero : s_X8_takeBytes_J43 N F (s_X8_takeBytes_L3 N F M) (A 0) p (ii ((8 * k : Nat) : Int)) (ii v) 0 S = s_X8_takeBytes_J89 N F (s_X8_takeBytes_L3 N F M) (A 0) p (ii ((8 * k : Nat) : Int)) S := by
      unfold s_X8_takeBytes_J43; exact if_pos rfl
    rw [zero]
    by_cases w1 : v = 10
    · rw [if_pos w1, if_pos w1]; exact goes (Or.inl w1)
    rw [if_neg w1, if_neg w1]
    by_cases w2 : v < 32
    · rw [if_pos w2, if_pos w2]; exact skip
    rw [if_neg w2, if_neg w2]
    by_cases w3 : 126 < v
    · rw [if_pos w3, if_pos w3]; exact skip
    · rw [if_neg w3, if_neg w3]; exact goes (Or.inr ⟨by omega, by omega⟩)
theorem j_bytes (hF : 3000 ≤ F) (hX : RX N S x A b c nx T) (hM : RY N2 S2 m B T) (hT : TOK n T) (p : Int64) : ∃ S' S2' T', s_X8_takeBytes N F (A 0) p S = some S' ∧ s_X12_lay N2 F m p S2 = some S2' ∧ RX N S' x A b c nx T' ∧ RY N2 S2' m B T' ∧ TOK n T' :=
  j_bytes_loop p 8 F F S S2 T (by omega) (by omega) (by omega) hX hM hT
theorem j_feed (hF : 3000 ≤ F) (hX : RX N S x A b c nx T) (hM : RY N2 S2 m B T) (hT : TOK n T) (hnx : nx ≤ n) (p q r : Int64) : JO N N2 x m A B b c n (s_X11_feed N F x p q r S) (s_X12_feed N2 F m p q r S2) := by
  obtain ⟨S1, hS1, hM1, y0⟩ := base0 hM 0
  obtain ⟨S3, Z3, T3, a1, a2, a3, a4, a5⟩ := j_bytes hF hX hM1 hT p
  obtain ⟨S4, Z4, T4, b1, b2', b3, b4, b5⟩ := j_bytes hF a3 a4 a5 q
  obtain ⟨S5, Z5, T5, c1, c2, c3, c4, c5⟩ := j_bytes hF b3 b4 b5 r
  have e0 : ∀ {S : HS} {T : TT}, RX N S x A b c nx T → gR S 1100 x = some (A 0) := fun h => h.1.2.2.1.1.1
  unfold s_X11_feed s_X12_feed
  rw [bnd_def, ← hS1, e0 hX, bd1_some, a1, bd1_some, e0 a3, bd1_some, b1, bd1_some, e0 b3, bd1_some, c1, bd1_some, e0 c3, bd1_some, c3.2.2.1.1, a2, bd1_some, b2', bd1_some, c2, bd1_some, c4.2.2.2.2.2.2.1.1]
  exact ⟨_, _, _, nx, T5, rfl, rfl, c3, c4, c5.up, by omega⟩
end JFEED
end
