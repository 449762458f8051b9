section
section TREGS
variable {N N2 : Nat → Nat} {F : Nat} {q a u fr fw r m lo lo2 : Nat} {B : Nat → Nat} {U : UNt} {tp : List Nat} {n : Nat}
/- four registers -/
theorem t_regs_loop (hF : 3000 ≤ F) {L : Nat} (hL : L < 30) (kx : Nat → HS → Option HS) (ky : Nat → Int32 → Int32 → HS → Option HS) : ∀ (d k M M2 : Nat) (S S2 : HS) (i f : Nat), k + d = 5 → d < M → d < M2 → JR N N2 a r m B tp n S S2 i f → PU N N2 S S2 q a u fr fw r m B U → gI S 501 fr = ii L →
    ∃ S' S2' i' f', s_X6_readLine_L62 N F kx M q (ii k) S = kx q S' ∧ s_X12_readPlan_L9 N2 F ky M2 m (ii (155 + 5 * L : Nat)) 0 (ii k) S2 = ky m (ii (155 + 5 * L : Nat)) 0 S2' ∧ PS N N2 q a u fr fw r m B U tp n (5 * L + k) (155 + 5 * L + k) S S2 i f S' S2' i' f' ∧
      (f' = 0 → ∀ j, k ≤ j → j < 5 → ∃ z : Nat, z < vR U ∧ aI S' fw (5 * L + j) = ii z ∧ aI S2' (B 8) (155 + 5 * L + j) = ii z) := by
  intro d
  induction d with
  | zero =>
    intro k M M2 S S2 i f hk hM hM2 h hU h5
    obtain ⟨M, rfl⟩ : ∃ w, M = w + 1 := ⟨M - 1, by omega⟩
    obtain ⟨M2, rfl⟩ : ∃ w, M2 = w + 1 := ⟨M2 - 1, by omega⟩
    have hk5 : k = 5 := by omega
    subst hk5
    unfold s_X6_readLine_L62 s_X12_readPlan_L9
    rw [if_pos (show (4 : Int32) < ii ((5 : Nat) : Int) by decide), if_pos (show (5 : Int32) ≤ ii ((5 : Nat) : Int) by decide)]
    exact ⟨S, S2, i, f, rfl, rfl, ⟨PFX.refl _ _ _ _, PFY.refl _ _ _ _, h, hU, rfl, Nat.le_refl _, fun _ => rfl⟩, fun _ j j1 j2 => by omega⟩
  | succ d ih =>
    intro k M M2 S S2 i f hk hM hM2 h hU h5
    obtain ⟨M, rfl⟩ : ∃ w, M = w + 1 := ⟨M - 1, by omega⟩
    obtain ⟨M2, rfl⟩ : ∃ w, M2 = w + 1 := ⟨M2 - 1, by omega⟩
    have hU0 := hU
    obtain ⟨⟨g1, g2, g3, g4, g5, g6, g7⟩, ⟨x1, x2⟩, ⟨y1, y2⟩, _, e1, e2⟩ := hU0
    obtain ⟨v, v', S1, S21, i1, f1, s1, s2, s3, s4⟩ := tk_reg (F := F) hF h g1 g2 x2 y2
    have s2' : s_X12_takeTold N2 F m 4 (ii (vR U)) S2 = some (v', S21) := s2
    have p1 := s3.ps hU (5 * L + k) (155 + 5 * L + k)
    obtain ⟨g1', g2', g3', g4', g5', g6', g7'⟩ := p1.2.2.2.1.1
    have h51 : gI S1 501 fr = ii L := p1.2.2.2.2.1.trans h5
    have hw := PS.wr (lo := 5 * L + k) (lo2 := 155 + 5 * L + k) (o := 5 * L + k) (o2 := 155 + 5 * L + k) p1.2.2.1 p1.2.2.2.1 v v' (Nat.le_refl _) (Nat.le_refl _)
    have p2' := p1.trans hw
    have hput : s_X5_put N fr (ii k) v S1 = some (wI S1 fw (5 * L + k) v) := x5_put g4' g5' h51 hL (by omega) v
    have r14 : gR S2 1214 m = some (B 8) := e2.2.1.1
    have n8 : N2 (B 8) = 310 := e2.2.2.2.1
    have ek : ii (k : Int) + Int32.ofInt 1 = ii ((k + 1 : Nat) : Int) := by rw [show Int32.ofInt 1 = ii 1 from rfl, ii_add]; rfl
    have eo : ii ((155 + 5 * L : Nat) : Int) + ii (k : Int) = ii ((155 + 5 * L + k : Nat) : Int) := by rw [ii_add]; rfl
    obtain ⟨S3, S23, i3, f3, t1, t2, t3, t4⟩ := ih (k + 1) M M2 (wI S1 fw (5 * L + k) v) (wI S21 (B 8) (155 + 5 * L + k) v') i1 f1 (by omega) (by omega) (by omega) p2'.2.2.1 p2'.2.2.2.1 h51
    unfold s_X6_readLine_L62 s_X12_readPlan_L9 s_X12_readPlan_J38
    rw [if_neg (by rw [k4, ii_lt (by omega) (by omega) (by omega) (by omega)]; omega), if_neg (by rw [show (5 : Int32) = ii 5 from rfl, ii_le (by omega) (by omega) (by omega) (by omega)]; omega), g3, bd1_some, s1, bd2_some, hput, bd1_some, bnd_def, ek, t1, r14, bd1_some, if_pos rfl, (hU.regs).1, bd1_some, s2', bd2_some, eo, if_pos (by rw [n8]; exact in_of (z := 155 + 5 * L + k) rfl (by omega) (by decide)), cl_of (z := 155 + 5 * L + k) rfl (by omega), bnd_def, bnd_def, t2]
    refine ⟨S3, S23, i3, f3, rfl, rfl, p2'.trans (t3.mono (by omega) (by omega)), fun q0 j j1 j2 => ?_⟩
    have hf1 : f1 = 0 := by
      by_cases w : f1 = 0
      · exact w
      · have := t3.2.2.2.2.2.2 w; omega
    by_cases w : j = k
    · subst w
      obtain ⟨ev, z, ez, hz⟩ := s4 hf1
      refine ⟨z, hz, ?_, ?_⟩
      · rw [t3.1.2.2.2.1 _ (by omega), aI_wI_s]
        show (if 5 * L + j = 5 * L + j then v else _) = _
        rw [if_pos rfl, ez]
      · rw [t3.2.1.2.2.2.2.1 _ (by omega), aI_wI_s]
        show (if 155 + 5 * L + j = 155 + 5 * L + j then v' else _) = _
        rw [if_pos rfl, ev, ez]
    · exact t4 q0 j (by omega) j2
/- the model lays noughts where no registers are told -/
theorem y_zero_loop {L : Nat} (hL : L < 30) {w : Int32} (hw : w ≠ 0) (ky : Nat → Int32 → Int32 → HS → Option HS) : ∀ (d k M2 : Nat) (S S2 : HS) (i f : Nat), k + d = 5 → d < M2 → 1 ≤ k → JR N N2 a r m B tp n S S2 i f → PU N N2 S S2 q a u fr fw r m B U →
    ∃ S2', s_X12_readPlan_L9 N2 F ky M2 m (ii (155 + 5 * L : Nat)) w (ii k) S2 = ky m (ii (155 + 5 * L : Nat)) w S2' ∧ PS N N2 q a u fr fw r m B U tp n (5 * L + k) (155 + 5 * L + k) S S2 i f S S2' i f := by
  intro d
  induction d with
  | zero =>
    intro k M2 S S2 i f hk hM2 hk1 h hU
    obtain ⟨M2, rfl⟩ : ∃ w, M2 = w + 1 := ⟨M2 - 1, by omega⟩
    have hk5 : k = 5 := by omega
    subst hk5
    unfold s_X12_readPlan_L9
    rw [if_pos (show (5 : Int32) ≤ ii ((5 : Nat) : Int) by decide)]
    exact ⟨S2, rfl, ⟨PFX.refl _ _ _ _, PFY.refl _ _ _ _, h, hU, rfl, Nat.le_refl _, fun _ => rfl⟩⟩
  | succ d ih =>
    intro k M2 S S2 i f hk hM2 hk1 h hU
    obtain ⟨M2, rfl⟩ : ∃ w, M2 = w + 1 := ⟨M2 - 1, by omega⟩
    have e2 := hU.2.2.2.2.2
    have hw2 := PS.wy (lo := 5 * L + k) (lo2 := 155 + 5 * L + k) (o2 := 155 + 5 * L + k) h hU 0 (Nat.le_refl _)
    have r14 : gR S2 1214 m = some (B 8) := e2.2.1.1
    have n8 : N2 (B 8) = 310 := e2.2.2.2.1
    have ek : ii (k : Int) + Int32.ofInt 1 = ii ((k + 1 : Nat) : Int) := by rw [show Int32.ofInt 1 = ii 1 from rfl, ii_add]; rfl
    have eo : ii ((155 + 5 * L : Nat) : Int) + ii (k : Int) = ii ((155 + 5 * L + k : Nat) : Int) := by rw [ii_add]; rfl
    obtain ⟨S23, t1, t2⟩ := ih (k + 1) M2 S (wI S2 (B 8) (155 + 5 * L + k) 0) i f (by omega) (by omega) (by omega) hw2.2.2.1 hw2.2.2.2.1
    unfold s_X12_readPlan_L9 s_X12_readPlan_J38
    rw [if_neg (by rw [show (5 : Int32) = ii 5 from rfl, ii_le (by omega) (by omega) (by omega) (by omega)]; omega), r14, bd1_some, if_neg hw, eo, if_pos (by rw [n8]; exact in_of (z := 155 + 5 * L + k) rfl (by omega) (by decide)), cl_of (z := 155 + 5 * L + k) rfl (by omega), bnd_def, bnd_def, ek, t1]
    exact ⟨S23, rfl, hw2.trans (t2.mono (by omega) (by omega))⟩
end TREGS
/- a line's frame: the plan's count changes too -/
def PFX1 (a fr fw lo : Nat) (S S' : HS) : Prop := (∀ f b, ¬ (b = a ∧ 802 ≤ f ∧ f ≤ 807) → ¬ (b = fr ∧ f = 501) → gI S' f b = gI S f b) ∧ S'.2.2.1 = S.2.2.1 ∧ (∀ p, p ≠ fw → aI S' p = aI S p) ∧ (∀ o, o < lo → aI S' fw o = aI S fw o) ∧ S'.2.2.2.2 = S.2.2.2.2
theorem PFX.one {a fw lo : Nat} {S S' : HS} (h : PFX a fw lo S S') (fr : Nat) : PFX1 a fr fw lo S S' := ⟨fun f b q _ => h.1 f b q, h.2⟩
theorem PFX1.trans {a fr fw lo : Nat} {S S' S'' : HS} (h1 : PFX1 a fr fw lo S S') (h2 : PFX1 a fr fw lo S' S'') : PFX1 a fr fw lo S S'' := ⟨fun f b q q2 => (h2.1 f b q q2).trans (h1.1 f b q q2), h2.2.1.trans h1.2.1, fun p q => (h2.2.2.1 p q).trans (h1.2.2.1 p q), fun o q => (h2.2.2.2.1 o q).trans (h1.2.2.2.1 o q), h2.2.2.2.2.trans h1.2.2.2.2⟩
theorem PFX1.mono {a fr fw lo lo' : Nat} {S S' : HS} (h : PFX1 a fr fw lo S S') (hl : lo' ≤ lo) : PFX1 a fr fw lo' S S' := ⟨h.1, h.2.1, h.2.2.1, fun o q => h.2.2.2.1 o (by omega), h.2.2.2.2⟩
section TLINE
variable {N N2 : Nat → Nat} {F : Nat} {S S2 : HS} {q a u fr fw r m : Nat} {B : Nat → Nat} {U : UNt} {tp : List Nat} {n i f : Nat}
def LR (N N2 : Nat → Nat) (q a u fr fw r m : Nat) (B : Nat → Nat) (U : UNt) (tp : List Nat) (n L : Nat) (S S2 : HS) (i : Nat) (S' S2' : HS) (i' f' L' : Nat) : Prop :=
  PFX1 a fr fw (5 * L) S S' ∧ PFY m (B 8) (155 + 5 * L) S2 S2' ∧ JR N N2 a r m B tp n S' S2' i' f' ∧ PU N N2 S' S2' q a u fr fw r m B U ∧ gI S' 501 fr = ii L' ∧ L' ≤ 30 ∧ L ≤ L' ∧
  (f' = 0 → i < i' ∧ L' = L + 1 ∧ ∃ l, LNok U l ∧ XLN (aI S' fw) (5 * L) l ∧ XLN (aI S2' (B 8)) (155 + 5 * L) l)
theorem y_sign_f (h : JR N N2 a r m B tp n S S2 i f) (w : f ≠ 0) (c : Int32) : ∃ S2', s_X12_takeSign N2 m c S2 = some S2' ∧ JS N N2 a r m B tp n S S2 i f S S2' i f := by
  obtain ⟨S4, y1, y2, y3, y4⟩ := y_wrong (k := 1) h.2.2.1 h.2.2.2.2.1 h.1.2.2.2.1 h.2.2.2.2.2
  have y1' : s_X12_wrong N2 m 1 S2 = some S4 := y1
  have yb : YBF m S2 S4 := ⟨fun g p q => y3 g p (fun r => q ⟨r.1, Or.inr r.2⟩), y4⟩
  rw [bl_f w] at y2
  unfold s_X12_takeSign s_X12_isSign
  rw [h.yf.1]
  simp only [(c_f0 h).1]
  rw [if_neg w, bd1_some, if_pos rfl, y1', bd1_some]
  exact ⟨S4, rfl, RDB.refl _ _, yb, h.mk2 (RDB.refl _ _) yb h.2.1 y2 h.2.2.2.2.2, Nat.le_refl _, fun _ => rfl⟩
theorem JR.cnt (h : JR N N2 a r m B tp n S S2 i f) (p : Nat) (v : Int32) : JR N N2 a r m B tp n (uI S 501 p v) S2 i f := by
  obtain ⟨⟨t1, t2, t3, t4, t5, t6⟩, ⟨j, ⟨h1, h2, h3, h4, h5, h6⟩, hj⟩, a3, a4, a5, a6⟩ := h
  exact ⟨⟨t1, t2, by rw [gI_uI, if_neg (by omega)]; exact t3, t4, t5, t6⟩, ⟨j, ⟨by rw [gI_uI, if_neg (by omega)]; exact h1, by rw [gI_uI, if_neg (by omega)]; exact h2, by rw [gI_uI, if_neg (by omega)]; exact h3, h4, fun w => by rw [gI_uI, if_neg (by omega)]; exact h5 w, by rw [gI_uI, if_neg (by omega)]; exact h6⟩, hj⟩, a3, a4, a5, a6⟩
theorem PU.cnt (h : PU N N2 S S2 q a u fr fw r m B U) (p : Nat) (v : Int32) : PU N N2 (uI S 501 p v) S2 q a u fr fw r m B U := by
  obtain ⟨a1, ⟨b1, b2'⟩, c1, d1, e1, e2⟩ := h
  exact ⟨a1, ⟨b1.px (by rw [gI_uI, if_neg (by omega)]) rfl rfl, b2'.px (by rw [gI_uI, if_neg (by omega)]) rfl rfl⟩, c1, d1, e1, e2⟩
/- the end of a line -/
theorem t_lineEnd (hF : 3000 ≤ F) {L : Nat} (hL : L < 30) {T T2 : HS} {i1 f1 : Nat} (hi : i < i1) (hP : PS N N2 q a u fr fw r m B U tp n (5 * L) (155 + 5 * L) S S2 i 0 T T2 i1 f1) (h5 : gI S 501 fr = ii L) (hl : f1 = 0 → ∃ l, LNok U l ∧ XLN (aI T fw) (5 * L) l ∧ XLN (aI T2 (B 8)) (155 + 5 * L) l) (k11 : Nat → Int32 → HS → Option (Int32 × HS)) :
    ∃ S' S2' i' f', s_X6_readLine_J130 N F q T = some S' ∧ s_X12_plan_J88 N2 F k11 m (ii (L + 1 : Nat)) T2 = k11 m (ii (L + 1 : Nat)) S2' ∧ LR N N2 q a u fr fw r m B U tp n L S S2 i S' S2' i' f' (L + 1) := by
  obtain ⟨a1, a2, a3, a4, a5, a6, a7⟩ := hP
  obtain ⟨S1, S21, i2, f2, s1, s2, s3⟩ := t_sign (F := F) hF a3 (c := 59) (by omega) (by omega)
  have s1' : s_X8_passSign N F a 59 T = some S1 := s1
  have s2' : s_X12_takeSign N2 m 59 T2 = some S21 := s2
  have p1 := s3.ps a4 (5 * L) (155 + 5 * L)
  have g5 : gI S1 501 fr = ii L := p1.2.2.2.2.1.trans (a5.trans h5)
  have eL : ii (L : Int) + 1 = ii ((L + 1 : Nat) : Int) := by rw [k1, ii_add]; rfl
  unfold s_X6_readLine_J130 s_X12_plan_J88
  rw [a4.1.1, bd1_some, s1', bd1_some, p1.2.2.2.1.1.2.2.1, bd1_some, bnd_def, g5, eL, s2', bd1_some]
  refine ⟨_, S21, i2, f2, rfl, rfl, ?_, ?_, p1.2.2.1.cnt _ _, p1.2.2.2.1.cnt _ _, by rw [gI_uI, if_pos ⟨rfl, rfl⟩], by omega, by omega, fun w => ?_⟩
  · refine ((a1.trans p1.1).one fr).trans ⟨fun f b _ q2 => by rw [gI_uI, if_neg (fun r => q2 ⟨r.2, r.1⟩)], rfl, fun _ _ => rfl, fun _ _ => rfl, rfl⟩
  · exact a2.trans p1.2.1
  · have hf1 : f1 = 0 := by
      by_cases z : f1 = 0
      · exact z
      · have := s3.2.2.2.2 z; omega
    obtain ⟨l, l1, l2, l3⟩ := hl hf1
    refine ⟨by have := s3.2.2.2.1; omega, rfl, l, l1, ?_, ?_⟩
    · have : aI (uI S1 501 fr (ii ((L + 1 : Nat) : Int))) fw = aI T fw := by show aI S1 fw = _; unfold aI; rw [s3.1.2]
      rw [this]; exact l2
    · have : aI S21 (B 8) = aI T2 (B 8) := by unfold aI; rw [s3.2.1.2]
      rw [this]; exact l3
end TLINE
end
section
section TLINE2
variable {N N2 : Nat → Nat} {F : Nat} {S S2 : HS} {q a u fr fw r m : Nat} {B : Nat → Nat} {U : UNt} {tp : List Nat} {n i f : Nat}
/- one line of a plan -/
theorem t_planLine (hF : 3000 ≤ F) (h : JR N N2 a r m B tp n S S2 i 0) (hi : i < n) (hU : PU N N2 S S2 q a u fr fw r m B U) {L : Nat} (hL : L ≤ 30) (h5 : gI S 501 fr = ii L) (kk : Nat → Int32 → HS → Option (Int32 × HS)) (M : Nat) :
    ∃ (S' S2' : HS) (i' f' L' : Nat), s_X6_readLine N F q S = some S' ∧ s_X12_plan_L11 N2 F kk (M + 1) m (ii L) S2 = s_X12_plan_L11 N2 F kk M m (ii L') S2' ∧ LR N N2 q a u fr fw r m B U tp n L S S2 i S' S2' i' f' L' := by
  obtain ⟨K, hK⟩ : ∃ K, K = s_X12_plan_L11 N2 F kk M := ⟨_, rfl⟩
  have hU0 := hU
  obtain ⟨⟨g1, g2, g3, g4, g5, g6, g7⟩, ⟨x1, x2⟩, ⟨y1, y2⟩, _, e1, e2⟩ := hU0
  obtain ⟨a1, a2, a3, a4, a5, ⟨a6, a7, a8⟩, a9, a10, a11, a12, a13⟩ := y_at h.2.2.1 h.2.2.2.2.1 h.1.2.2.2.1
  have hw0 : ¬ tWhat tp (pt tp i) = 0 := fun w => by have := a13.mp w; omega
  have hlw := x_lineWord hF h.x0 h.1.2.2.2.2.1 g1
  have hwh : s_X12_wordHere N2 F m 5 4 S2 = some (ii (wHr (tkW tp i) 5 4)) := y_wordHere (q := 5) (many := 4) hF h.2.2.1 h.2.2.2.1 h.2.2.2.2.1 h.1.2.2.2.1 (by omega)
  rw [← (ix4_w (tkW tp i)).1] at hwh
  have hb := ix4_b 4 (tkW tp i)
  have r14 : gR S2 1214 m = some (B 8) := e2.2.1.1
  have n8 : N2 (B 8) = 310 := e2.2.2.2.1
  -- a fault ahead of the line's word: both blame, the model's sign is no other fault
  have blame : ∀ kd : Nat, 1 ≤ kd → kd < 10 → ∃ S2', (bd1 (s_X12_wrong N2 m (ii kd) S2) fun S14 => s_X12_plan_J88 N2 F K m (ii L) S14) = K m (ii L) S2' ∧ LR N N2 q a u fr fw r m B U tp n L S S2 i (s_X8_blame a (ii kd) S) S2' i (bl 0 kd (tQ0 tp (pt tp i))) L := by
    intro kd k1' k2'
    obtain ⟨S4, z1, z2⟩ := j_wrong (k := kd) k2' h
    have hb1 : bl 0 kd (tQ0 tp (pt tp i)) ≠ 0 := by rw [bl_0]; omega
    obtain ⟨S5, z3, z4⟩ := y_sign_f z2.2.2.1 hb1 59
    have p1 := (z2.trans z4).ps hU (5 * L) (155 + 5 * L)
    unfold s_X12_plan_J88
    rw [z1, bd1_some, z3, bd1_some]
    exact ⟨S5, rfl, p1.1.one fr, p1.2.1, p1.2.2.1, p1.2.2.2.1, p1.2.2.2.2.1.trans h5, hL, Nat.le_refl _, fun w => absurd w hb1⟩
  rw [← hK]
  unfold s_X6_readLine s_X12_plan_L11
  rw [← hK]
  rw [hlw, bd1_some, g3, bd1_some, h5, a5, if_pos (show (ii ((0 : Nat) : Int) = (0 : Int32)) from rfl), a1, bd1_some, a4, if_pos a6, a9, a10, hwh, bd1_some]
  simp only [sO_0]
  rw [if_neg hw0]
  generalize hz : ix4 4 (tkW tp i) = z at *
  have c1 : (ii z = (-1 : Int32)) = (z = -1) := by rw [show (-1 : Int32) = ii (-1) by decide, ii_eq (by omega) (by omega) (by omega) (by omega)]
  have c2 : ((0 : Int32) ≤ ii z) = (0 ≤ z) := by rw [k0, ii_le (by omega) (by omega) (by omega) (by omega)]
  have c3 : (ii (L : Int) = (30 : Int32)) = (L = 30) := by rw [show (30 : Int32) = ii 30 from rfl, ii_eq (by omega) (by omega) (by omega) (by omega)]; apply propext; omega
  simp only [c1, c2, c3]
  by_cases qz : z = -1
  · obtain ⟨S5, b1, b2'⟩ := blame 1 (by omega) (by omega)
    have b1' : (bd1 (s_X12_wrong N2 m 1 S2) fun S14 => s_X12_plan_J88 N2 F K m (ii L) S14) = K m (ii L) S5 := b1
    rw [if_pos qz, if_neg (show ¬ 0 ≤ z by omega), g1, bd1_some, bnd_def, b1']
    exact ⟨_, S5, i, _, L, rfl, rfl, b2'⟩
  rw [if_neg qz, if_pos (show 0 ≤ z by omega)]
  by_cases q30 : L = 30
  · obtain ⟨S5, b1, b2'⟩ := blame 5 (by omega) (by omega)
    have b1' : (bd1 (s_X12_wrong N2 m 5 S2) fun S14 => s_X12_plan_J88 N2 F K m (ii L) S14) = K m (ii L) S5 := b1
    rw [if_pos q30, if_pos q30, g1, bd1_some, bnd_def, b1']
    exact ⟨_, S5, i, _, L, rfl, rfl, b2'⟩
  rw [if_neg q30, if_neg q30]
  have hL' : L < 30 := by omega
  obtain ⟨w, rfl⟩ : ∃ w : Nat, z = w := ⟨z.toNat, by omega⟩
  have hw4 : w < 4 := by omega
  obtain ⟨S1, s1, s2⟩ := j_next (F := F) hF h hi
  have p1 := s2.ps hU (5 * L) (155 + 5 * L)
  obtain ⟨g1', g2', g3', g4', g5', g6', g7'⟩ := p1.2.2.2.1.1
  have h51 : gI S1 501 fr = ii L := p1.2.2.2.2.1.trans h5
  have hput : s_X5_put N fr 0 (ii w) S1 = some (wI S1 fw (5 * L + 0) (ii w)) := x5_put (j := 0) g4' g5' h51 hL' (by omega) (ii w)
  have e0 : (155 : Int32) + 5 * ii (L : Int) = ii ((155 + 5 * L : Nat) : Int) := by rw [show (155 : Int32) = ii 155 from rfl, show (5 : Int32) = ii 5 from rfl, ii_mul, ii_add]; congr 1
  have hw2 := PS.wr (lo := 5 * L) (lo2 := 155 + 5 * L) (o := 5 * L + 0) (o2 := 155 + 5 * L) p1.2.2.1 p1.2.2.2.1 (ii w) (ii w) (by omega) (by omega)
  have p2' := p1.trans hw2
  have r14' : gR (uI S2 1207 m (ii (i : Int) + 1)) 1214 m = some (B 8) := r14
  have eL : ii (L : Int) + Int32.ofInt 1 = ii ((L + 1 : Nat) : Int) := by rw [show Int32.ofInt 1 = ii 1 from rfl, ii_add]; rfl
  rw [g1, bd1_some, s1, bd1_some, g3', bd1_some, hput, bd1_some, bnd_def]
  unfold s_X12_readPlan
  have in0 : inB (ii ((155 + 5 * L : Nat) : Int)) (N2 (B 8)) = true := by rw [n8]; exact in_of (z := 155 + 5 * L) rfl (by omega) (by decide)
  rw [r14', bd1_some, e0, if_pos in0, cl_of (z := 155 + 5 * L) rfl (by omega), bnd_def]
  obtain ⟨T, hT⟩ : ∃ T, T = wI S1 fw (5 * L + 0) (ii (w : Int)) := ⟨_, rfl⟩
  obtain ⟨T2, hT2⟩ : ∃ T, T = wI (uI S2 1207 m (ii (i : Int) + 1)) (B 8) (155 + 5 * L) (ii (w : Int)) := ⟨_, rfl⟩
  rw [← hT, ← hT2] at p2' hw2 ⊢
  have t0 : aI T fw (5 * L) = ii w := by rw [hT, aI_wI_s]; show (if 5 * L = 5 * L + 0 then ii (w : Int) else _) = _; rw [if_pos (by omega)]
  have t20 : aI T2 (B 8) (155 + 5 * L) = ii w := by rw [hT2, aI_wI_s]; show (if 155 + 5 * L = 155 + 5 * L then ii (w : Int) else _) = _; rw [if_pos rfl]
  have hT5 : gI T 501 fr = ii L := p2'.2.2.2.2.1.trans h5
  obtain ⟨G1, G2, G3, G4, G5, G6, G7⟩ := p2'.2.2.2.1.1
  have R14 : gR T2 1214 m = some (B 8) := p2'.2.2.2.1.2.2.2.2.2.2.1.1
  have eo1 : ii ((155 + 5 * L : Nat) : Int) + 1 = ii ((155 + 5 * L + 1 : Nat) : Int) := by rw [k1, ii_add]; rfl
  have in1 : inB (ii ((155 + 5 * L + 1 : Nat) : Int)) (N2 (B 8)) = true := by rw [n8]; exact in_of (z := 155 + 5 * L + 1) rfl (by omega) (by decide)
  have cl1 : (ii ((155 + 5 * L + 1 : Nat) : Int)).toNatClampNeg = 155 + 5 * L + 1 := cl_of (z := 155 + 5 * L + 1) rfl (by omega)
  have fin : ∀ (V V2 : HS) (i1 f1 : Nat), i < i1 → PS N N2 q a u fr fw r m B U tp n (5 * L) (155 + 5 * L) S S2 i 0 V V2 i1 f1 → (f1 = 0 → ∃ l, LNok U l ∧ XLN (aI V fw) (5 * L) l ∧ XLN (aI V2 (B 8)) (155 + 5 * L) l) →
      ∃ (S' S2' : HS) (i' f' L' : Nat), s_X6_readLine_J130 N F q V = some S' ∧ s_X12_plan_J88 N2 F K m (ii (L + 1 : Nat)) V2 = K m (ii L') S2' ∧ LR N N2 q a u fr fw r m B U tp n L S S2 i S' S2' i' f' L' := by
    intro V V2 i1 f1 hi1 hP hl
    obtain ⟨S', S2', i', f', r1, r2, r3⟩ := t_lineEnd (F := F) hF hL' hi1 hP h5 hl K
    exact ⟨S', S2', i', f', L + 1, r1, r2, r3⟩
  have cw : ∀ k : Nat, k < 4 → (ii (w : Int) = ii (k : Int)) = (w = k) := fun k hk => by rw [ii_eq (by omega) (by omega) (by omega) (by omega)]; apply propext; omega
  have cw0 : (ii (w : Int) = (0 : Int32)) = (w = 0) := cw 0 (by omega)
  have cw1 : (ii (w : Int) = (1 : Int32)) = (w = 1) := cw 1 (by omega)
  have cw3 : (ii (w : Int) = (3 : Int32)) = (w = 3) := cw 3 (by omega)
  simp only [cw0, cw1, cw3]
  by_cases q0 : w = 0
  · subst q0
    obtain ⟨V, V2, i1, f1, r1, r2, r3, r4⟩ := t_regs_loop (F := F) hF hL' (s_X6_readLine_J85 N F) (s_X12_readPlan_J45 N2 F) 4 1 F F T T2 (i + 1) 0 (by omega) (by omega) (by omega) p2'.2.2.1 p2'.2.2.2.1 hT5
    have r1' : s_X6_readLine_L62 N F (s_X6_readLine_J85 N F) F q 1 T = s_X6_readLine_J85 N F q V := r1
    have r2' : s_X12_readPlan_L9 N2 F (s_X12_readPlan_J45 N2 F) F m (ii ((155 + 5 * L : Nat) : Int)) (ii ((0 : Nat) : Int)) 1 T2 = s_X12_readPlan_J45 N2 F m (ii ((155 + 5 * L : Nat) : Int)) 0 V2 := r2
    rw [if_pos rfl, r1', r2']
    unfold s_X6_readLine_J85 s_X12_readPlan_J45
    rw [if_neg (show ¬ (0 : Int32) = 1 by decide), if_neg (show ¬ (0 : Int32) = 3 by decide), bd1_some, bnd_def, eL]
    refine fin V V2 i1 f1 (by have := r3.2.2.2.2.2.1; omega) (p2'.trans (r3.mono (by omega) (by omega))) (fun w0 => ?_)
    obtain ⟨z1, b1, c1', d1⟩ := r4 w0 1 (by omega) (by omega)
    obtain ⟨z2, b2', c2', d2⟩ := r4 w0 2 (by omega) (by omega)
    obtain ⟨z3, b3, c3', d3⟩ := r4 w0 3 (by omega) (by omega)
    obtain ⟨z4, b4, c4', d4⟩ := r4 w0 4 (by omega) (by omega)
    have E0 : aI V fw (5 * L) = ii ((0 : Nat) : Int) := by rw [r3.1.2.2.2.1 _ (by omega)]; exact t0
    have E20 : aI V2 (B 8) (155 + 5 * L) = ii ((0 : Nat) : Int) := by rw [r3.2.1.2.2.2.2.1 _ (by omega)]; exact t20
    exact ⟨(0, z1, z2, z3, z4), ⟨by show 0 < 4; omega, fun _ => ⟨b1, b2', b3, b4⟩, fun w1 => absurd w1 (by show ¬ 0 = 1; omega), fun w1 => absurd w1 (by show ¬ 0 = 3; omega)⟩, ⟨E0, fun _ => ⟨c1', c2', c3', c4'⟩, fun w1 => by rcases w1 with w1 | w1 <;> exact absurd w1 (by show ¬ 0 = _; omega)⟩, ⟨E20, fun _ => ⟨d1, d2, d3, d4⟩, fun w1 => by rcases w1 with w1 | w1 <;> exact absurd w1 (by show ¬ 0 = _; omega)⟩⟩
  rw [if_neg q0]
  have hnz : ii (w : Int) ≠ 0 := fun e => q0 (by rw [cw0] at e; exact e)
  obtain ⟨V2, r1, r2⟩ := y_zero_loop (N := N) (N2 := N2) (F := F) (q := q) (u := u) (fr := fr) (U := U) hL' hnz (s_X12_readPlan_J45 N2 F) 4 1 F T T2 (i + 1) 0 (by omega) (by omega) (by omega) p2'.2.2.1 p2'.2.2.2.1
  have r1' : s_X12_readPlan_L9 N2 F (s_X12_readPlan_J45 N2 F) F m (ii ((155 + 5 * L : Nat) : Int)) (ii (w : Int)) 1 T2 = s_X12_readPlan_J45 N2 F m (ii ((155 + 5 * L : Nat) : Int)) (ii (w : Int)) V2 := r1
  have E20 : aI V2 (B 8) (155 + 5 * L) = ii (w : Int) := by rw [r2.2.1.2.2.2.2.1 _ (by omega)]; exact t20
  have p3 := p2'.trans (r2.mono (lo' := 5 * L) (lo2' := 155 + 5 * L) (by omega) (by omega))
  have R14V : gR V2 1214 m = some (B 8) := p3.2.2.2.1.2.2.2.2.2.2.1.1
  rw [r1']
  unfold s_X12_readPlan_J45
  simp only [cw1, cw3]
  by_cases q1 : w = 1
  · subst q1
    obtain ⟨v, v', V3, V4, i3, f3, t1, t2, t3, t4⟩ := t_num (F := F) hF p3.2.2.1 (lo := 0) (hi := 5) (by omega) (by omega)
    have t1' : s_X8_passNumber N F a 0 5 T = some (v, V3) := t1
    have t2' : s_X12_takeNumber N2 m 0 5 V2 = some (v', V4) := t2
    have p4 := t3.ps p3.2.2.2.1 (5 * L + 1) (155 + 5 * L + 1)
    have h53 : gI V3 501 fr = ii L := p4.2.2.2.2.1.trans hT5
    have hput2 : s_X5_put N fr 1 v V3 = some (wI V3 fw (5 * L + 1) v) := x5_put (j := 1) p4.2.2.2.1.1.2.2.2.1 p4.2.2.2.1.1.2.2.2.2.1 h53 hL' (by omega) v
    have hw4' := PS.wr (lo := 5 * L + 1) (lo2 := 155 + 5 * L + 1) (o := 5 * L + 1) (o2 := 155 + 5 * L + 1) p4.2.2.1 p4.2.2.2.1 v v' (by omega) (by omega)
    have p5 := p4.trans hw4'
    rw [if_pos rfl, if_pos rfl, G3, bd1_some, G1, bd1_some, t1', bd2_some, hput2, bd1_some, R14V, bd1_some, t2', bd2_some, eo1, if_pos in1, cl1, bnd_def, bd1_some, bnd_def, eL]
    refine fin _ _ i3 f3 (by have := t3.2.2.2.1; omega) (p3.trans (p5.mono (by omega) (by omega))) (fun w0 => ?_)
    obtain ⟨ev, z, ez, z1, z2⟩ := t4 w0
    refine ⟨(1, z, 0, 0, 0), ⟨by show 1 < 4; omega, fun w1 => absurd w1 (by show ¬ 1 = 0; omega), fun _ => by show z < 6; omega, fun w1 => absurd w1 (by show ¬ 1 = 3; omega)⟩, ⟨?_, fun w1 => absurd w1 (by show ¬ 1 = 0; omega), fun _ => ?_⟩, ⟨?_, fun w1 => absurd w1 (by show ¬ 1 = 0; omega), fun _ => ?_⟩⟩
    · rw [p5.1.2.2.2.1 _ (by omega)]; exact t0
    · rw [aI_wI_s]; show (if 5 * L + 1 = 5 * L + 1 then v else _) = ii (z : Int); rw [if_pos rfl, ez]
    · rw [p5.2.1.2.2.2.2.1 _ (by omega)]; exact E20
    · rw [aI_wI_s]; show (if 155 + 5 * L + 1 = 155 + 5 * L + 1 then v' else _) = ii (z : Int); rw [if_pos rfl, ev, ez]
  rw [if_neg q1, if_neg q1]
  by_cases q3 : w = 3
  · subst q3
    have hU3 := p3.2.2.2.1
    obtain ⟨v, v', V3, V4, i3, f3, t1, t2, t3, t4⟩ := tk_form (F := F) hF p3.2.2.1 G1 G2 hU3.2.1.1 hU3.2.2.1.1
    have t2' : s_X12_takeTold N2 F m 0 (ii (vN U)) V2 = some (v', V4) := t2
    have p4 := t3.ps p3.2.2.2.1 (5 * L + 1) (155 + 5 * L + 1)
    have h53 : gI V3 501 fr = ii L := p4.2.2.2.2.1.trans hT5
    have hput2 : s_X5_put N fr 1 v V3 = some (wI V3 fw (5 * L + 1) v) := x5_put (j := 1) p4.2.2.2.1.1.2.2.2.1 p4.2.2.2.1.1.2.2.2.2.1 h53 hL' (by omega) v
    have hw4' := PS.wr (lo := 5 * L + 1) (lo2 := 155 + 5 * L + 1) (o := 5 * L + 1) (o2 := 155 + 5 * L + 1) p4.2.2.1 p4.2.2.2.1 v v' (by omega) (by omega)
    have p5 := p4.trans hw4'
    rw [if_pos rfl, if_pos rfl, G3, bd1_some, t1, bd2_some, hput2, bd1_some, R14V, bd1_some, hU3.regs.2, bd1_some, t2', bd2_some, eo1, if_pos in1, cl1, bnd_def, bd1_some, bnd_def, eL]
    refine fin _ _ i3 f3 (by have := t3.2.2.2.1; omega) (p3.trans (p5.mono (by omega) (by omega))) (fun w0 => ?_)
    obtain ⟨ev, z, ez, z1⟩ := t4 w0
    refine ⟨(3, z, 0, 0, 0), ⟨by show 3 < 4; omega, fun w1 => absurd w1 (by show ¬ 3 = 0; omega), fun w1 => absurd w1 (by show ¬ 3 = 1; omega), fun _ => z1⟩, ⟨?_, fun w1 => absurd w1 (by show ¬ 3 = 0; omega), fun _ => ?_⟩, ⟨?_, fun w1 => absurd w1 (by show ¬ 3 = 0; omega), fun _ => ?_⟩⟩
    · rw [p5.1.2.2.2.1 _ (by omega)]; exact t0
    · rw [aI_wI_s]; show (if 5 * L + 1 = 5 * L + 1 then v else _) = ii (z : Int); rw [if_pos rfl, ez]
    · rw [p5.2.1.2.2.2.2.1 _ (by omega)]; exact E20
    · rw [aI_wI_s]; show (if 155 + 5 * L + 1 = 155 + 5 * L + 1 then v' else _) = ii (z : Int); rw [if_pos rfl, ev, ez]
  · have q2 : w = 2 := by omega
    subst q2
    rw [if_neg q3, if_neg q3, bd1_some, bnd_def, eL]
    refine fin T V2 (i + 1) 0 (by omega) p3 (fun _ => ⟨(2, 0, 0, 0, 0), ⟨by show 2 < 4; omega, fun w1 => absurd w1 (by show ¬ 2 = 0; omega), fun w1 => absurd w1 (by show ¬ 2 = 1; omega), fun w1 => absurd w1 (by show ¬ 2 = 3; omega)⟩, ⟨t0, fun w1 => absurd w1 (by show ¬ 2 = 0; omega), fun w1 => by rcases w1 with w1 | w1 <;> exact absurd w1 (by show ¬ 2 = _; omega)⟩, ⟨E20, fun w1 => absurd w1 (by show ¬ 2 = 0; omega), fun w1 => by rcases w1 with w1 | w1 <;> exact absurd w1 (by show ¬ 2 = _; omega)⟩⟩)
end TLINE2
end
section
theorem XLN.congr {W W' : Nat → Int32} {o : Nat} {l : LN} (h : XLN W o l) (hw : ∀ k, o ≤ k → k < o + 5 → W' k = W k) : XLN W' o l := by
  unfold XLN at *
  rw [hw o (by omega) (by omega), hw (o + 1) (by omega) (by omega), hw (o + 2) (by omega) (by omega), hw (o + 3) (by omega) (by omega), hw (o + 4) (by omega) (by omega)]
  exact h
section PLOOP
variable {N N2 : Nat → Nat} {F : Nat} {q a u fr fw r m : Nat} {B : Nat → Nat} {U : UNt} {tp : List Nat} {n : Nat}
/- the lines read so far -/
def PLS (U : UNt) (S S2 : HS) (fw : Nat) (B : Nat → Nat) (pl : List LN) : Prop := ∀ (k : Nat) (l : LN), pl[k]? = some l → LNok U l ∧ XLN (aI S fw) (5 * k) l ∧ XLN (aI S2 (B 8)) (155 + 5 * k) l
theorem t_planLoop (hF : 3000 ≤ F) (kk : Nat → Int32 → HS → Option (Int32 × HS)) : ∀ (d j M M2 : Nat) (S S2 : HS) (i f : Nat) (pl : List LN), (f = 0 → n ≤ i + d) → d < M → d < M2 → j ≤ 1000 → (f = 0 → j ≤ i) → JR N N2 a r m B tp n S S2 i f → PU N N2 S S2 q a u fr fw r m B U → gI S 501 fr = ii pl.length → pl.length ≤ 30 → (f = 0 → PLS U S S2 fw B pl) →
    ∃ (S' S2' : HS) (i' f' : Nat) (pl' : List LN), s_X6_readAll_L9 N F M q (ii j) S = some S' ∧ s_X12_plan_L11 N2 F kk M2 m (ii pl.length) S2 = kk m (ii pl'.length) S2' ∧ PFX1 a fr fw 0 S S' ∧ PFY m (B 8) 155 S2 S2' ∧ JR N N2 a r m B tp n S' S2' i' f' ∧ PU N N2 S' S2' q a u fr fw r m B U ∧ gI S' 501 fr = ii pl'.length ∧ pl'.length ≤ 30 ∧ (f' = 0 → PLS U S' S2' fw B pl') := by
  intro d
  have stop : ∀ (j M M2 : Nat) (S S2 : HS) (i f : Nat) (pl : List LN), 0 < M → 0 < M2 → JR N N2 a r m B tp n S S2 i f → PU N N2 S S2 q a u fr fw r m B U → gI S 501 fr = ii pl.length → pl.length ≤ 30 → (f = 0 → PLS U S S2 fw B pl) → (f ≠ 0 ∨ tWhat tp (pt tp i) = 0) →
      ∃ (S' S2' : HS) (i' f' : Nat) (pl' : List LN), s_X6_readAll_L9 N F M q (ii j) S = some S' ∧ s_X12_plan_L11 N2 F kk M2 m (ii pl.length) S2 = kk m (ii pl'.length) S2' ∧ PFX1 a fr fw 0 S S' ∧ PFY m (B 8) 155 S2 S2' ∧ JR N N2 a r m B tp n S' S2' i' f' ∧ PU N N2 S' S2' q a u fr fw r m B U ∧ gI S' 501 fr = ii pl'.length ∧ pl'.length ≤ 30 ∧ (f' = 0 → PLS U S' S2' fw B pl') := by
    intro j M M2 S S2 i f pl hM hM2 h hU h5 hp hl hst
    obtain ⟨M, rfl⟩ : ∃ w, M = w + 1 := ⟨M - 1, by omega⟩
    obtain ⟨M2, rfl⟩ : ∃ w, M2 = w + 1 := ⟨M2 - 1, by omega⟩
    have hx : s_X8_goesOn a S = 0 := by
      unfold s_X8_goesOn
      rw [xr_fault h.2.1]
      simp only [(c_f0 h).1]
      by_cases w : f = 0
      · subst w
        rcases hst with w2 | w2
        · exact absurd rfl w2
        · rw [if_pos rfl, h.x0.2.2.1, w2, if_pos (show (ii ((0 : Nat) : Int) = (0 : Int32)) from rfl)]
      · rw [if_neg w]
    have hx2 : s_X6_readAll_L9 N F (M + 1) q (ii j) S = some S := by
      unfold s_X6_readAll_L9
      by_cases w : (1000 : Int32) < ii (j : Int)
      · rw [if_pos w]
      · rw [if_neg w, hU.1.1, bd1_some, hx, if_pos rfl]
    have hy : s_X12_plan_L11 N2 F kk (M2 + 1) m (ii pl.length) S2 = kk m (ii pl.length) S2 := by
      obtain ⟨a1, a2, a3, a4, a5, ⟨a6, a7, a8⟩, a9, a10, _⟩ := y_at h.2.2.1 h.2.2.2.2.1 h.1.2.2.2.1
      unfold s_X12_plan_L11
      rw [a5]
      simp only [(c_f0 h).1]
      by_cases w : f = 0
      · rcases hst with w2 | w2
        · exact absurd w w2
        · rw [if_pos w, a1, bd1_some, a4, if_pos a6, a9, a10]
          simp only [sO_0]
          rw [if_pos w2]
      · rw [if_neg w]
    exact ⟨S, S2, i, f, pl, hx2, hy, (PFX.refl a fw 0 S).one fr, PFY.refl _ _ _ _, h, hU, h5, hp, hl⟩
  induction d with
  | zero =>
    intro j M M2 S S2 i f pl hn hM hM2 hj hji h hU h5 hp hl
    refine stop j M M2 S S2 i f pl hM hM2 h hU h5 hp hl ?_
    by_cases w : f = 0
    · right
      have := hn w
      have := h.2.2.2.2.1.2.1
      exact h.end.mpr (by omega)
    · exact Or.inl w
  | succ d ih =>
    intro j M M2 S S2 i f pl hn hM hM2 hj hji h hU h5 hp hl
    by_cases w : f = 0
    · subst w
      by_cases w2 : tWhat tp (pt tp i) = 0
      · exact stop j M M2 S S2 i 0 pl (by omega) (by omega) h hU h5 hp hl (Or.inr w2)
      · obtain ⟨M, rfl⟩ : ∃ w, M = w + 1 := ⟨M - 1, by omega⟩
        obtain ⟨M2, rfl⟩ : ∃ w, M2 = w + 1 := ⟨M2 - 1, by omega⟩
        have hlt := h.lt w2
        have hn1 := h.2.2.2.2.1.1
        have hlen := h.1.2.2.2.1
        have hji0 := hji rfl
        obtain ⟨S1, S21, i1, f1, L1, s1, s2, s3⟩ := t_planLine (F := F) hF h hlt hU hp h5 kk M2
        obtain ⟨b1, b2', b3, b4, b5, b6, b7, b8⟩ := s3
        have hx : s_X8_goesOn a S ≠ 0 := by
          have hb := tWhat_b h.1.2.2.2.2.1 (pt tp i)
          have cw : (ii (tWhat tp (pt tp i) : Int) = (0 : Int32)) = (tWhat tp (pt tp i) = 0) := by rw [k0, ii_eq (by omega) (by omega) (by omega) (by omega)]; apply propext; omega
          unfold s_X8_goesOn
          rw [xr_fault h.2.1, if_pos (show (ii ((0 : Nat) : Int) = (0 : Int32)) from rfl), h.x0.2.2.1]
          simp only [cw]
          rw [if_neg w2]; decide
        have ej : ii (j : Int) + Int32.ofInt 1 = ii ((j + 1 : Nat) : Int) := by rw [show Int32.ofInt 1 = ii 1 from rfl, ii_add]; rfl
        have hx2 : s_X6_readAll_L9 N F (M + 1) q (ii j) S = s_X6_readAll_L9 N F M q (ii ((j + 1 : Nat) : Int)) S1 := by
          rw [s_X6_readAll_L9, if_neg (by rw [show (1000 : Int32) = ii 1000 from rfl, ii_lt (by omega) (by omega) (by omega) (by omega)]; omega), hU.1.1, bd1_some, if_neg hx, s1, bd1_some, bnd_def, ej]
        obtain ⟨pl1, hp1, hp2⟩ : ∃ pl1 : List LN, pl1.length = L1 ∧ (f1 = 0 → PLS U S1 S21 fw B pl1) := by
          by_cases z : f1 = 0
          · obtain ⟨c1, c2, l, c3, c4, c5⟩ := b8 z
            refine ⟨pl ++ [l], by simp [c2], fun _ k l' hk => ?_⟩
            by_cases kz : k < pl.length
            · rw [List.getElem?_append_left kz] at hk
              obtain ⟨e1, e2, e3⟩ := hl rfl k l' hk
              exact ⟨e1, e2.congr (fun o o1 o2 => b1.2.2.2.1 o (by omega)), e3.congr (fun o o1 o2 => b2'.2.2.2.2.1 o (by omega))⟩
            · have hk2 := (List.getElem?_eq_some_iff.mp hk).1
              simp at hk2
              have : k = pl.length := by omega
              subst this
              have e : l = l' := by simpa using hk
              subst e
              exact ⟨c3, c4, c5⟩
          · exact ⟨List.replicate L1 (2, 0, 0, 0, 0), List.length_replicate .., fun q => absurd q z⟩
        subst hp1
        obtain ⟨S3, S23, i3, f3, pl3, t1, t2, t3, t4, t5⟩ := ih (j + 1) M M2 S1 S21 i1 f1 pl1 (fun z => by have := (b8 z).1; have := hn rfl; omega) (by omega) (by omega) (by omega) (fun z => by have := (b8 z).1; omega) b3 b4 b5 b6 hp2
        exact ⟨S3, S23, i3, f3, pl3, by rw [hx2]; exact t1, by rw [s2]; exact t2, (b1.mono (Nat.zero_le _)).trans t3, (b2'.mono (by omega)).trans t4, t5⟩
    · exact stop j M M2 S S2 i f pl (by omega) (by omega) h hU h5 hp hl (Or.inl w)
end PLOOP
end
section
/- which places of the class's layout are used -/
def iuB (i : Nat) : Bool := decide (i ≤ 38) || (decide (40 ≤ i) && decide (i < 56)) || (decide (60 ≤ i) && isSt (i - 60))
theorem iu_38 {i : Nat} (h : i ≤ 38) : iuB i = true := by unfold iuB; rw [decide_eq_true h]; rfl
theorem iu_40 {j : Nat} (h : j < 16) : iuB (40 + j) = true := by unfold iuB; simp; omega
theorem iu_60 {s : Nat} (h : isSt s = true) : iuB (60 + s) = true := by
  unfold iuB
  rw [show 60 + s - 60 = s by omega, h]; simp
theorem iu_st {s : Nat} (h : isSt s = true) : iuB s = true := by
  unfold isSt at h; unfold iuB
  simp at h ⊢
  omega
def AQ (K : Nat → Prop) (N N' : Nat → Nat) (S S' : HS) : Prop := ∀ p, K p → (∀ f, gI S' f p = gI S f p) ∧ (∀ f, gR S' f p = gR S f p) ∧ aI S' p = aI S p ∧ aJ S' p = aJ S p ∧ aR S' p = aR S p ∧ N' p = N p
section RXAG
variable {K : Nat → Prop} {N N' : Nat → Nat} {S S' : HS} {x : Nat} {A : Nat → Nat} {b c nx : Nat} {T : TT} {U : UNt}
theorem XLAY.ag (h : XLAY S.2.2.1 S.2.2.2.2.2 x A) (hK : AQ K N N' S S') (hx : K x) (hA : ∀ i, iuB i = true → K (A i)) : XLAY S'.2.2.1 S'.2.2.2.2.2 x A := by
  have ex : ∀ f, S'.2.2.1 f x = S.2.2.1 f x := fun f => (hK x hx).2.1 f
  have ea : ∀ i f, iuB i = true → S'.2.2.1 f (A i) = S.2.2.1 f (A i) := fun i f hi => (hK _ (hA i hi)).2.1 f
  have er : ∀ i j, iuB i = true → S'.2.2.2.2.2 (A i) j = S.2.2.2.2.2 (A i) j := fun i j hi => congrFun (hK _ (hA i hi)).2.2.2.2.1 j
  obtain ⟨⟨a1, a2, a3, a4, a5, a6, a7, a8, a9⟩, ⟨b1, b2', b3, b4, b5⟩, c1, c2, c3, c4, c5, c6⟩ := h
  refine ⟨⟨by rw [ex]; exact a1, by rw [ea 0 _ (by decide)]; exact a2, by rw [ex]; exact a3, by rw [ex]; exact a4, by rw [ex]; exact a5, by rw [ea 13 _ (by decide)]; exact a6, by rw [ea 13 _ (by decide)]; exact a7, by rw [ex]; exact a8, by rw [ex]; exact a9⟩, ⟨by rw [ex]; exact b1, by rw [ex]; exact b2', by rw [ex]; exact b3, by rw [ex]; exact b4, by rw [ex]; exact b5⟩, fun j hj => by rw [ea 3 _ (by decide)]; exact c1 j hj, fun m hm => by rw [er 18 _ (by decide)]; exact c2 m hm, fun j hj => by rw [er 14 _ (by decide)]; exact c3 j hj, fun s hs => by rw [ea s _ (iu_st hs)]; exact c4 s hs, fun b hb => ?_, fun b hb => ?_⟩
  · rw [ea _ _ (iu_38 (by omega)), ea _ _ (iu_38 (by omega)), ea _ _ (iu_38 (by omega))]; exact c5 b hb
  · rw [ea _ _ (iu_38 (by omega))]; exact c6 b hb
theorem XN.ag (h : XN N A) (hK : AQ K N N' S S') (hA : ∀ i, iuB i = true → K (A i)) : XN N' A := by
  have en : ∀ i, iuB i = true → N' (A i) = N (A i) := fun i hi => (hK _ (hA i hi)).2.2.2.2.2
  obtain ⟨⟨a1, a2, a3, a4, a5, a6, a7, a8⟩, c1, c2, c3, c4⟩ := h
  refine ⟨⟨by rw [en 1 (by decide)]; exact a1, by rw [en 14 (by decide)]; exact a2, by rw [en 15 (by decide)]; exact a3, by rw [en 18 (by decide)]; exact a4, by rw [en 19 (by decide)]; exact a5, by rw [en 20 (by decide)]; exact a6, by rw [en 21 (by decide)]; exact a7, by rw [en 22 (by decide)]; exact a8⟩, fun j hj => by rw [en _ (iu_38 (by omega))]; exact c1 j hj, fun s hs => by rw [en _ (iu_60 hs)]; exact c2 s hs, fun b hb => ?_, fun b hb => by rw [en _ (iu_38 (by omega))]; exact c4 b hb⟩
  rw [en _ (iu_38 (by omega)), en _ (iu_38 (by omega)), en _ (iu_38 (by omega))]; exact c3 b hb
theorem XU.ag (h : XU S x A b U) (hK : AQ K N N' S S') (hx : K x) (hA : ∀ i, iuB i = true → K (A i)) (hf : ∀ f p, f < vN U → aR S (A (24 + 4 * b)) f = some p → K p) : XU S' x A b U := by
  obtain ⟨a1, a2, a3, a4, a5, a6, a7, a8, a9⟩ := h
  have eg : ∀ i f, iuB i = true → gI S' f (A i) = gI S f (A i) := fun i f hi => (hK _ (hA i hi)).1 f
  refine ⟨a1, by rw [(hK x hx).2.1]; exact a2, by rw [(hK x hx).2.1]; exact a3, by rw [eg _ _ (iu_38 (by omega))]; exact a4, by rw [eg _ _ (iu_38 (by omega))]; exact a5, by rw [eg _ _ (iu_38 (by omega))]; exact a6, fun f hf1 => ?_, fun f hf1 => ?_, fun r hr => ?_⟩
  · obtain ⟨p, p1, p2⟩ := a7 f hf1
    exact ⟨p, by rw [(hK _ (hA (24 + 4 * b) (iu_38 (by omega)))).2.2.2.2.1]; exact p1, p2.mono2 (fun g _ _ => (hK p (hf f p hf1 p1)).1 g)⟩
  · rw [(hK _ (hA (25 + 4 * b) (iu_38 (by omega)))).2.2.2.1]; exact a8 f hf1
  · rw [(hK _ (hA (26 + 4 * b) (iu_38 (by omega)))).2.2.2.1]; exact a9 r hr
theorem TS.ag {s : Nat} {t : STt} (h : TS S A U s t) (hK : AQ K N N' S S') (hA : ∀ i, iuB i = true → K (A i)) (hs : isSt s = true) : TS S' A U s t :=
  h.congr (fun f _ _ => (hK _ (hA s (iu_st hs))).1 f) (hK _ (hA (60 + s) (iu_60 hs))).2.2.1
theorem RX.ag (h : RX N S x A b c nx T) (hK : AQ K N N' S S') (hx : K x) (hA : ∀ i, iuB i = true → K (A i)) (hf : ∀ f p, f < vN (tU T) → aR S (A (24 + 4 * b)) f = some p → K p) : RX N' S' x A b c nx T := by
  obtain ⟨⟨w1, w2, w3, w4, w5⟩, a2, a3, a4, a5, a6, a7, a8⟩ := h
  have eg : ∀ i f, iuB i = true → gI S' f (A i) = gI S f (A i) := fun i f hi => (hK _ (hA i hi)).1 f
  have ei : ∀ i, iuB i = true → aI S' (A i) = aI S (A i) := fun i hi => (hK _ (hA i hi)).2.2.1
  have exi : ∀ f, gI S' f x = gI S f x := (hK x hx).1
  have exr : ∀ f, gR S' f x = gR S f x := (hK x hx).2.1
  refine ⟨⟨w1, w2.ag hK hA, w3.ag hK hx hA, w4.ag hK hx hA hf, w5⟩, a2.ag hK hA (by decide), ?_, ?_, ?_, ?_, ?_, ?_⟩
  · unfold XTP at *
    rw [eg 0 _ (by decide), ei 1 (by decide)]; exact a3
  · have hc := a4.1
    unfold XPL at *
    rw [exr, exr, eg _ _ (iu_38 (by omega)), ei _ (iu_38 (by omega))]; exact a4
  · unfold XSN at *
    rw [exi, ei 20 (by decide), ei 21 (by decide)]; exact a5
  · obtain ⟨h1, h2, h3, h4, h5⟩ := a6
    refine ⟨by rw [eg 13 _ (by decide)]; exact h1, by rw [eg 13 _ (by decide)]; exact h2, h3, h4, h5.mono (fun j _ => ?_)⟩
    have hm : (nx - 1 - j) % 16 < 16 := Nat.mod_lt _ (by decide)
    exact ⟨fun t ht => ht.ag hK hA (isSt40 _ hm), by rw [ei 15 (by decide)]⟩
  · obtain ⟨h1, h2, h3, h4, h5, h6⟩ := a7
    exact ⟨by rw [eg 3 _ (by decide)]; exact h1, by rw [eg 3 _ (by decide)]; exact h2, by rw [eg 3 _ (by decide)]; exact h3, h4, h5.bk (fun j j1 j2 i _ => by rw [ei j (iu_38 (by omega))]), h6.mono (fun i _ => by rw [ei 12 (by decide)]) (fun _ _ _ q => q)⟩
  · intro m hm
    obtain ⟨h1, h2⟩ := a8 m hm
    have : isSt (35 + m) = true := by
      have : m = 0 ∨ m = 1 ∨ m = 2 ∨ m = 3 := by omega
      rcases this with q | q | q | q <;> subst q <;> decide
    exact ⟨by rw [ei 19 (by decide)]; exact h1, fun t ht => (h2 t ht).ag hK hA this⟩
end RXAG
theorem rk_ne (f : Nat) : rk f ≠ 11 := by
  unfold rk
  split <;> decide
section XIN
variable {N : Nat → Nat} {G : GS} {S : HS} {x : Nat} {A : Nat → Nat} {b c nx : Nat} {T : TT} {U : UNt}
/- all of the class's layout lies in its world -/
theorem lay_in (hW : WT G S) (hx : x ∈ G.1) (hk : G.2.1 x = 11) (h : XLAY S.2.2.1 S.2.2.2.2.2 x A) (hb : b < 2) (h1 : gR S 1111 x = some (A (23 + 4 * b))) (h2 : gR S 1112 x = some (A (23 + 4 * (1 - b)))) (hc : c < 2) (h3 : gR S 1113 x = some (A (31 + 2 * c))) (h4 : gR S 1114 x = some (A (31 + 2 * (1 - c)))) : ∀ i, iuB i = true → A i ∈ G.1 ∧ G.2.1 (A i) ≠ 11 := by
  obtain ⟨⟨a1, a2, a3, a4, a5, a6, a7, a8, a9⟩, ⟨b1, b2', b3, b4, b5⟩, c1, c2, c3, c4, c5, c6⟩ := h
  have st : ∀ (p f t : Nat), p ∈ G.1 → f / 100 = G.2.1 p → S.2.2.1 f p = some t → t ∈ G.1 ∧ G.2.1 t = rk f := fun p f t hp hf ht => hW.1 p hp f t hf ht
  have nk : ∀ {t f : Nat}, (t ∈ G.1 ∧ G.2.1 t = rk f) → (t ∈ G.1 ∧ G.2.1 t ≠ 11) := fun {t f} h => ⟨h.1, by rw [h.2]; exact rk_ne f⟩
  have x0 := st x 1100 _ hx (by rw [hk]) a1
  have x1 := st _ 800 _ x0.1 (by rw [x0.2]; rfl) a2
  have x2 := st x 1101 _ hx (by rw [hk]) a3
  have x3 := st x 1102 _ hx (by rw [hk]) a4
  have x13 := st x 1103 _ hx (by rw [hk]) a5
  have x14 := st _ 400 _ x13.1 (by rw [x13.2]; rfl) a6
  have x15 := st _ 401 _ x13.1 (by rw [x13.2]; rfl) a7
  have x16 := st x 1104 _ hx (by rw [hk]) a8
  have x17 := st x 1105 _ hx (by rw [hk]) a9
  have x18 := st x 1106 _ hx (by rw [hk]) b1
  have x19 := st x 1107 _ hx (by rw [hk]) b2'
  have x20 := st x 1108 _ hx (by rw [hk]) b3
  have x21 := st x 1109 _ hx (by rw [hk]) b4
  have x22 := st x 1110 _ hx (by rw [hk]) b5
  have xb := st x 1111 _ hx (by rw [hk]) h1
  have xb1 := st x 1112 _ hx (by rw [hk]) h2
  have xc := st x 1113 _ hx (by rw [hk]) h3
  have xc1 := st x 1114 _ hx (by rw [hk]) h4
  have bk : ∀ j, j < 9 → A (4 + j) ∈ G.1 ∧ G.2.1 (A (4 + j)) ≠ 11 := fun j hj => nk (st _ (100 + j) _ x3.1 (by rw [x3.2]; show (100 + j) / 100 = 1; omega) (c1 j hj))
  have ld : ∀ m, m < 4 → A (35 + m) ∈ G.1 ∧ G.2.1 (A (35 + m)) = 7 := fun m hm => hW.2.2 _ x18.1 m _ (by rw [x18.2]; rfl) (c2 m hm)
  have rg : ∀ j, j < 16 → A (40 + j) ∈ G.1 ∧ G.2.1 (A (40 + j)) = 7 := fun j hj => hW.2.2 _ x14.1 j _ (by rw [x14.2]; rfl) (c3 j hj)
  have stt : ∀ s, isSt s = true → A s ∈ G.1 ∧ G.2.1 (A s) = 7 := by
    intro s hs
    unfold isSt at hs
    have : s = 16 ∨ s = 17 ∨ (35 ≤ s ∧ s < 39) ∨ (40 ≤ s ∧ s < 56) := by simp at hs; omega
    rcases this with q | q | q | q
    · subst q; exact x16
    · subst q; exact x17
    · have := ld (s - 35) (by omega); rw [show 35 + (s - 35) = s by omega] at this; exact this
    · have := rg (s - 40) (by omega); rw [show 40 + (s - 40) = s by omega] at this; exact this
  have un : ∀ d, d < 2 → A (23 + 4 * d) ∈ G.1 ∧ G.2.1 (A (23 + 4 * d)) = 9 := by
    intro d hd
    by_cases q : d = b
    · subst q; exact xb
    · have : 1 - b = d := by omega
      rw [this] at xb1; exact xb1
  have pn : ∀ d, d < 2 → A (31 + 2 * d) ∈ G.1 ∧ G.2.1 (A (31 + 2 * d)) = 5 := by
    intro d hd
    by_cases q : d = c
    · subst q; exact xc
    · have : 1 - c = d := by omega
      rw [this] at xc1; exact xc1
  have unr : ∀ d, d < 2 → (A (24 + 4 * d) ∈ G.1 ∧ G.2.1 (A (24 + 4 * d)) ≠ 11) ∧ (A (25 + 4 * d) ∈ G.1 ∧ G.2.1 (A (25 + 4 * d)) ≠ 11) ∧ (A (26 + 4 * d) ∈ G.1 ∧ G.2.1 (A (26 + 4 * d)) ≠ 11) := by
    intro d hd
    obtain ⟨u1, u2, u3⟩ := c5 d hd
    have := un d hd
    exact ⟨nk (st _ 900 _ this.1 (by rw [this.2]) u1), nk (st _ 901 _ this.1 (by rw [this.2]) u2), nk (st _ 902 _ this.1 (by rw [this.2]) u3)⟩
  have pnr : ∀ d, d < 2 → A (32 + 2 * d) ∈ G.1 ∧ G.2.1 (A (32 + 2 * d)) ≠ 11 := fun d hd => nk (st _ 500 _ (pn d hd).1 (by rw [(pn d hd).2]) (c6 d hd))
  intro i hi
  have hi' : i ≤ 38 ∨ (40 ≤ i ∧ i < 56) ∨ (60 ≤ i ∧ isSt (i - 60) = true) := by
    unfold iuB at hi
    rw [Bool.or_eq_true, Bool.or_eq_true, Bool.and_eq_true, Bool.and_eq_true, decide_eq_true_eq, decide_eq_true_eq, decide_eq_true_eq, decide_eq_true_eq] at hi
    rcases hi with (q | q) | q
    · exact Or.inl q
    · exact Or.inr (Or.inl q)
    · exact Or.inr (Or.inr q)
  rcases hi' with q | q | q
  · have : i = 0 ∨ i = 1 ∨ i = 2 ∨ i = 3 ∨ (4 ≤ i ∧ i ≤ 12) ∨ i = 13 ∨ i = 14 ∨ i = 15 ∨ i = 16 ∨ i = 17 ∨ i = 18 ∨ i = 19 ∨ i = 20 ∨ i = 21 ∨ i = 22 ∨ i = 23 ∨ i = 24 ∨ i = 25 ∨ i = 26 ∨ i = 27 ∨ i = 28 ∨ i = 29 ∨ i = 30 ∨ i = 31 ∨ i = 32 ∨ i = 33 ∨ i = 34 ∨ (35 ≤ i ∧ i ≤ 38) := by omega
    rcases this with r | r | r | r | r | r | r | r | r | r | r | r | r | r | r | r | r | r | r | r | r | r | r | r | r | r | r | r
    · subst r; exact nk x0
    · subst r; exact nk x1
    · subst r; exact nk x2
    · subst r; exact nk x3
    · have := bk (i - 4) (by omega); rw [show 4 + (i - 4) = i by omega] at this; exact this
    · subst r; exact nk x13
    · subst r; exact nk x14
    · subst r; exact nk x15
    · subst r; exact nk x16
    · subst r; exact nk x17
    · subst r; exact nk x18
    · subst r; exact nk x19
    · subst r; exact nk x20
    · subst r; exact nk x21
    · subst r; exact nk x22
    · subst r; exact ⟨(un 0 (by omega)).1, by rw [(un 0 (by omega)).2]; decide⟩
    · subst r; exact (unr 0 (by omega)).1
    · subst r; exact (unr 0 (by omega)).2.1
    · subst r; exact (unr 0 (by omega)).2.2
    · subst r; exact ⟨(un 1 (by omega)).1, by rw [(un 1 (by omega)).2]; decide⟩
    · subst r; exact (unr 1 (by omega)).1
    · subst r; exact (unr 1 (by omega)).2.1
    · subst r; exact (unr 1 (by omega)).2.2
    · subst r; exact ⟨(pn 0 (by omega)).1, by rw [(pn 0 (by omega)).2]; decide⟩
    · subst r; exact pnr 0 (by omega)
    · subst r; exact ⟨(pn 1 (by omega)).1, by rw [(pn 1 (by omega)).2]; decide⟩
    · subst r; exact pnr 1 (by omega)
    · have := ld (i - 35) (by omega); rw [show 35 + (i - 35) = i by omega] at this; exact ⟨this.1, by rw [this.2]; decide⟩
  · have := rg (i - 40) (by omega); rw [show 40 + (i - 40) = i by omega] at this; exact ⟨this.1, by rw [this.2]; decide⟩
  · have h7 := stt _ q.2
    have := nk (st _ 700 _ h7.1 (by rw [h7.2]) (c4 _ q.2))
    rw [show 60 + (i - 60) = i by omega] at this; exact this
theorem RX.lay (h : RX N S x A b c nx T) (hW : WT G S) (hx : x ∈ G.1) (hk : G.2.1 x = 11) : ∀ i, iuB i = true → A i ∈ G.1 ∧ G.2.1 (A i) ≠ 11 :=
  lay_in hW hx hk h.1.2.2.1 h.1.2.2.2.1.1 h.1.2.2.2.1.2.1 h.1.2.2.2.1.2.2.1 h.2.2.2.1.1 h.2.2.2.1.2.1 h.2.2.2.1.2.2.1
theorem RX.in (h : RX N S x A b c nx T) (hW : WT G S) (hx : x ∈ G.1) (hk : G.2.1 x = 11) : ∀ i, iuB i = true → A i ∈ G.1 := fun i hi => (h.lay hW hx hk i hi).1
theorem RX.fin (h : RX N S x A b c nx T) (hW : WT G S) (hx : x ∈ G.1) (hk : G.2.1 x = 11) : ∀ f p, aR S (A (24 + 4 * b)) f = some p → p ∈ G.1 := by
  intro f p hp
  have hb := h.1.2.2.2.1.1
  have u := hW.1 x hx 1111 _ (by rw [hk]) h.1.2.2.2.1.2.1
  have r := hW.1 _ u.1 900 _ (by rw [u.2]; rfl) (h.1.2.2.1.2.2.2.2.2.2.1 b hb).1
  exact (hW.2.1 _ r.1 f p (by rw [r.2]; rfl) hp).1
end XIN
end
