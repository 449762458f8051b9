section
def lastP (P : Nat → Bool) : Nat → Int
  | 0 => -1
  | c + 1 => if P c = true then (c : Int) else lastP P c
theorem lastP_b (P : Nat → Bool) : ∀ c, -1 ≤ lastP P c ∧ lastP P c < c
  | 0 => by unfold lastP; omega
  | c + 1 => by have := lastP_b P c; unfold lastP; split <;> omega
/- not NAN, and its rank -/
def nanT (T : TT) (v : Nat) : Bool := decide (nInf (vK (tU T) (tN T).1) (vE (tU T) (tN T).1) (vF (tU T) (tN T).1) < nS (vE (tU T) (tN T).1) (vF (tU T) (tN T).1) v)
def rkT (T : TT) (v : Nat) : Int := nRk (vE (tU T) (tN T).1) (vF (tU T) (tN T).1) v
def szT (T : TT) (v : Nat) : Nat := nS (vE (tU T) (tN T).1) (vF (tU T) (tN T).1) v
def negT (T : TT) (v : Nat) : Nat := nNeg (vK (tU T) (tN T).1) (vE (tU T) (tN T).1) (vF (tU T) (tN T).1) v
def topT (T : TT) : Nat := nTop (vK (tU T) (tN T).1) (vE (tU T) (tN T).1) (vF (tU T) (tN T).1)
def oneT (T : TT) : Nat := nOne (vE (tU T) (tN T).1) (vF (tU T) (tN T).1)
section J5
variable {N N2 : Nat → Nat} {F : Nat} {S S2 : HS} {x m : Nat} {A B : Nat → Nat} {b c nx n : Nat} {T : TT}
/- the model's small questions on a number -/
theorem y_q (hM : RY N2 S2 m B T) (hT : TOK n T) (hn : vN (tU T) ≠ 0) {v : Nat} (hv : v < tB (tU T) (tN T).1) :
    s_X12_isNan N2 m (ii (tN T).1) (ii v) S2 = some (b2 (nanT T v)) ∧ s_X12_rankOf N2 m (ii v) S2 = some (ii (rkT T v)) ∧ s_X12_sizeOf N2 m (ii (tN T).1) (ii v) S2 = some (ii (szT T v)) ∧ s_X12_negative N2 m (ii (tN T).1) (ii v) S2 = some (ii (negT T v)) ∧ s_X12_oneOf N2 m (ii (tN T).1) S2 = some (ii (oneT T)) := by
  obtain ⟨b1, fo, mu, hu, hr⟩ := base1 hM hT hn
  refine ⟨y_isNan mu fo hv, y_rankOf hu mu fo hv, y_sizeOf mu fo hv, y_negative mu fo hv, ?_⟩
  rw [y_oneOf mu fo, nOne_eq fo]; rfl
theorem negT_lt (hT : TOK n T) (hn : vN (tU T) ≠ 0) {v : Nat} (hv : v < tB (tU T) (tN T).1) : negT T v < tB (tU T) (tN T).1 := by
  have h1 : (tN T).1 < vN (tU T) := by rcases hT.2.1.1 with r | r; exact r; exact absurd r.1 hn
  exact nNeg_lt (hT.1.2.2.2 _ h1) hv
theorem oneT_lt (hT : TOK n T) (hn : vN (tU T) ≠ 0) : oneT T < tB (tU T) (tN T).1 := by
  have h1 : (tN T).1 < vN (tU T) := by rcases hT.2.1.1 with r | r; exact r; exact absurd r.1 hn
  exact nOne_lt (hT.1.2.2.2 _ h1)
theorem rkT_b (hT : TOK n T) (hn : vN (tU T) ≠ 0) (v : Nat) : -67108864 ≤ rkT T v ∧ rkT T v ≤ 67108864 := by
  have h1 : (tN T).1 < vN (tU T) := by rcases hT.2.1.1 with r | r; exact r; exact absurd r.1 hn
  exact nRk_b (hT.1.2.2.2 _ h1)
def rootP (T : TT) (v x : Nat) : Bool := !nanT T (sumT T (tN T).2.1 x x (negT T v)).1 && decide (rkT T (sumT T (tN T).2.1 x x (negT T v)).1 ≤ 0)
theorem x_root_loop (hF : 3000 ≤ F) (hT : TOK n T) (hs : smlT T = true) (hn : vN (tU T) ≠ 0) {q : Nat} (q3 : FO (vK (tU T) (tN T).1) (vE (tU T) (tN T).1) (vF (tU T) (tN T).1)) {v : Nat} (hv : v < tB (tU T) (tN T).1) :
    ∀ (i M : Nat) (S : HS), i ≤ tB (tU T) (tN T).1 → i < M → RX N S x A b c nx T → FM S q (vK (tU T) (tN T).1) (vE (tU T) (tN T).1) (vF (tU T) (tN T).1) →
    ∃ S', s_X11_root_L32 N F M x q (ii (negT T v)) (ii ((i : Int) - 1)) S = some (ii (lastP (rootP T v) i), S') ∧ XE A S S' := by
  have hb := sml_b hs
  intro i
  induction i with
  | zero =>
    intro M S hi hM hX q2
    obtain ⟨M', rfl⟩ : ∃ M', M = M' + 1 := ⟨M - 1, by omega⟩
    rw [s_X11_root_L32, if_pos (by rw [k0, ii_lt (by omega) (by omega) (by omega) (by omega)]; omega)]
    exact ⟨S, rfl, XE.refl _ _⟩
  | succ i ih =>
    intro M S hi hM hX q2
    obtain ⟨M', rfl⟩ : ∃ M', M = M' + 1 := ⟨M - 1, by omega⟩
    obtain ⟨a1, a2, a3, a4, a5, a6⟩ := x_add hX
    have hi2 : i < tB (tU T) (tN T).1 := by omega
    obtain ⟨S1, s1, s2, s3, s4⟩ := x_sumT hF hX hT q2 q3 hT.2.1.2.1 hi2 hi2 (negT_lt hT hn hv)
    have sb := sumT_b hT hn (tN T).2.1 i i (negT T v)
    have rb := rkT_b hT hn (sumT T (tN T).2.1 i i (negT T v)).1
    obtain ⟨S', r1, r2⟩ := ih M' S1 (by omega) (by omega) (hX.xe s2) s4
    have ei : (((i + 1 : Nat) : Int) - 1) = (i : Int) := by omega
    rw [ei, s_X11_root_L32, if_neg (by rw [k0, ii_lt (by omega) (by omega) (by omega) (by omega)]; omega), a1, bd1_some, a2, bd1_some, a3, s1, bd1_some, gR_of s2.2.1, a1, bd1_some, bd1_some, s3.1, x2_isNan s4 q3, x2_rank s4 q3 sb.1]
    unfold s_X11_root_J88
    rw [bnd_def, ofI, ii_add]
    rw [show decide (nInf (vK (tU T) (tN T).1) (vE (tU T) (tN T).1) (vF (tU T) (tN T).1) < nS (vE (tU T) (tN T).1) (vF (tU T) (tN T).1) (sumT T (tN T).2.1 i i (negT T v)).1) = nanT T (sumT T (tN T).2.1 i i (negT T v)).1 from rfl, show nRk (vE (tU T) (tN T).1) (vF (tU T) (tN T).1) (sumT T (tN T).2.1 i i (negT T v)).1 = rkT T (sumT T (tN T).2.1 i i (negT T v)).1 from rfl]
    have c0 : ((0 : Int32) < ii (rkT T (sumT T (tN T).2.1 i i (negT T v)).1)) = (0 < rkT T (sumT T (tN T).2.1 i i (negT T v)).1) := ii_lt (a := 0) (by omega) (by omega) (by omega) (by omega)
    simp only [b2_0, c0]
    have el : lastP (rootP T v) (i + 1) = if rootP T v i = true then (i : Int) else lastP (rootP T v) i := rfl
    have ep : rootP T v i = (!nanT T (sumT T (tN T).2.1 i i (negT T v)).1 && decide (rkT T (sumT T (tN T).2.1 i i (negT T v)).1 ≤ 0)) := rfl
    rw [el, ep]
    cases hnn : nanT T (sumT T (tN T).2.1 i i (negT T v)).1
    · rw [if_pos (show false = false from rfl)]
      by_cases w : 0 < rkT T (sumT T (tN T).2.1 i i (negT T v)).1
      · rw [if_pos w, if_neg (by simp; omega)]
        exact ⟨S', r1, s2.trans r2⟩
      · rw [if_neg w, if_pos (by simp; omega)]
        exact ⟨S1, rfl, s2⟩
    · rw [if_neg tf, if_neg (by simp)]
      exact ⟨S', r1, s2.trans r2⟩
theorem y_root_loop (hF : 3000 ≤ F) (hT : TOK n T) (hs : smlT T = true) (hn : vN (tU T) ≠ 0) {v top : Nat} (hv : v < tB (tU T) (tN T).1) (htop : top < tB (tU T) (tN T).1) :
    ∀ (k i M : Nat) (S : HS), i + k = top + 1 → k < M → RY N2 S m B T →
    ∃ S', s_X12_root_L60 N2 F M m (ii v) (ii (tN T).1) (ii top) (ii (lastP (rootP T v) i)) (ii i) S = some (ii (lastP (rootP T v) (top + 1)), S') ∧ YE m B S S' := by
  have hb := sml_b hs
  intro k
  induction k with
  | zero =>
    intro i M S hi hM hX
    obtain ⟨M', rfl⟩ : ∃ M', M = M' + 1 := ⟨M - 1, by omega⟩
    rw [s_X12_root_L60, if_pos (by rw [ii_lt (by omega) (by omega) (by omega) (by omega)]; omega)]
    exact ⟨S, by rw [show i = top + 1 by omega], YE.refl _ _ _⟩
  | succ k ih =>
    intro i M S hi hM hX
    obtain ⟨M', rfl⟩ : ∃ M', M = M' + 1 := ⟨M - 1, by omega⟩
    have hi2 : i < tB (tU T) (tN T).1 := by omega
    obtain ⟨_, _, _, yn, _⟩ := y_q hX hT hn hv
    obtain ⟨S1, s1, s2, s3⟩ := y_sumNow hF hX hT hn hi2 hi2 (negT_lt hT hn hv)
    have sb := sumT_b hT hn (tN T).2.1 i i (negT T v)
    have rb := rkT_b hT hn (sumT T (tN T).2.1 i i (negT T v)).1
    obtain ⟨z1, z2, _⟩ := y_q (hX.ye s2) hT hn sb.1
    obtain ⟨S', r1, r2⟩ := ih (i + 1) M' S1 (by omega) (by omega) (hX.ye s2)
    rw [s_X12_root_L60, if_neg (by rw [ii_lt (by omega) (by omega) (by omega) (by omega)]; omega), yn, bd1_some, s1, bd2_some, z1, bd1_some, z2, bd1_some]
    unfold s_X12_root_J106 s_X12_root_J108
    have c0 : ((0 : Int32) < ii (rkT T (sumT T (tN T).2.1 i i (negT T v)).1)) = (0 < rkT T (sumT T (tN T).2.1 i i (negT T v)).1) := ii_lt (a := 0) (by omega) (by omega) (by omega) (by omega)
    simp only [b2_0, c0, bnd_def, ofI, ii_add]
    have el : lastP (rootP T v) (i + 1) = if rootP T v i = true then (i : Int) else lastP (rootP T v) i := rfl
    have ep : rootP T v i = (!nanT T (sumT T (tN T).2.1 i i (negT T v)).1 && decide (rkT T (sumT T (tN T).2.1 i i (negT T v)).1 ≤ 0)) := rfl
    rw [el, ep] at r1
    refine ⟨S', ?_, s2.trans r2⟩
    cases hnn : nanT T (sumT T (tN T).2.1 i i (negT T v)).1
    · rw [hnn] at r1
      rw [if_pos (show false = false from rfl)]
      by_cases w : 0 < rkT T (sumT T (tN T).2.1 i i (negT T v)).1
      · rw [if_pos w]
        rw [if_neg (by simp; omega)] at r1
        exact r1
      · rw [if_neg w]
        rw [if_pos (by simp; omega)] at r1
        exact r1
    · rw [hnn] at r1
      rw [if_neg tf]
      rw [if_neg (by simp)] at r1
      exact r1
theorem j_root (hF : 3000 ≤ F) (hX : RX N S x A b c nx T) (hM : RY N2 S2 m B T) (hT : TOK n T) (p : Int32) : ∃ v S' S2', s_X11_root N F x p S = some (v, S') ∧ s_X12_root N2 F m p S2 = some (v, S2') ∧ XE A S S' ∧ YE m B S2 S2' := by
  obtain ⟨S1, hS1, hM1, y0⟩ := base0 hM 0
  obtain ⟨u1, u2⟩ := x_inUse hX.1 hX.2.1 hT.2.1
  unfold s_X11_root s_X12_root s_X12_root_J53
  rw [bnd_def, ← hS1, y_small hM1 hT, bd1_some]
  by_cases hn : vN (tU T) = 0
  · rw [u1 hn, bd1_some, mq_none, if_pos (by simp [hn]; rfl)]; exact ⟨_, _, _, rfl, rfl, XE.refl _ _, y0⟩
  obtain ⟨o, o1, o2, o3⟩ := u2 hn
  obtain ⟨_, fo, mu, hu, _⟩ := base1 hM1 hT hn
  have hk := fo.1
  rw [o1, bd1_some, mq_some, x_smallH hX hT, bd1_some, decide_eq_true hn, Bool.true_and, hu, bd1_some, ← show fI (tU T) (tN T).1 = ((tN T).1 : Int) from if_neg hn, y_isBits hM1.1 hT.2.1, bd1_some, bd1_some, show fI (tU T) (tN T).1 = ((tN T).1 : Int) from if_neg hn, y_kindOf mu, bd1_some, y_greatestOf mu fo, bd1_some]
  simp only [b2_0]
  cases hs : smlT T
  · rw [if_pos (by simp), if_pos rfl]; exact ⟨_, _, _, rfl, rfl, XE.refl _ _, y0⟩
  cases hh : hld (tU T) (tN T) p
  · rw [if_pos (by simp), if_neg tf, if_pos (show false = false from rfl)]; exact ⟨_, _, _, rfl, rfl, XE.refl _ _, y0⟩
  obtain ⟨v, rfl, hv, _, _⟩ := hld_ex hT.2.1 hh
  have hb := sml_b hs
  have ht := nTop_b fo
  have htt : topT T < tB (tU T) (tN T).1 := by
    unfold topT tB; rw [Nat.pow_succ]; omega
  rw [if_neg (by simp), if_neg tf, if_neg tf, bnd_def, bnd_def, x2_turned o2 o3 hv, x2_top o2 o3]
  obtain ⟨S3, s1, s2⟩ := x_root_loop hF hT hs hn o3 hv (topT T + 1) F S (by omega) (by omega) hX o2
  obtain ⟨S4, t1, t2⟩ := y_root_loop hF hT hs hn hv htt (topT T + 1) 0 F S1 (by omega) (by omega) hM1
  rw [show ((topT T + 1 : Nat) : Int) - 1 = (topT T : Int) by omega] at s1
  rw [show nNeg (vK (tU T) (tN T).1) (vE (tU T) (tN T).1) (vF (tU T) (tN T).1) v = negT T v from rfl, show nTop (vK (tU T) (tN T).1) (vE (tU T) (tN T).1) (vF (tU T) (tN T).1) = topT T from rfl, s1]
  have t1' : s_X12_root_L60 N2 F F m (ii v) (ii (tN T).1) (ii (topT T)) (-1) 0 S1 = some (ii (lastP (rootP T v) (topT T + 1)), S4) := t1
  have ek : (ii (vK (tU T) (tN T).1 : Int) = (3 : Int32)) = (vK (tU T) (tN T).1 = 3) := by rw [k3, ii_eq (by omega) (by omega) (by omega) (by omega)]; apply propext; omega
  simp only [ek]
  have et : topT T = nTop (vK (tU T) (tN T).1) (vE (tU T) (tN T).1) (vF (tU T) (tN T).1) := rfl
  unfold nTop at et
  by_cases h3 : vK (tU T) (tN T).1 = 3
  · rw [if_pos h3] at et
    rw [if_pos h3, ← et, t1']
    exact ⟨_, _, _, rfl, rfl, s2, y0.trans t2⟩
  · rw [if_neg h3] at et
    rw [if_neg h3, y_infOf mu fo h3, bd1_some, ← et, t1']
    exact ⟨_, _, _, rfl, rfl, s2, y0.trans t2⟩
/- the best x so far, and how near its sum is to 0 -/
def invP (T : TT) (v : Nat) : Nat → Int × Nat
  | 0 => (-1, tB (tU T) (tN T).1)
  | i + 1 => if (!nanT T (sumT T (tN T).2.1 i v (negT T (oneT T))).1 && decide (szT T (sumT T (tN T).2.1 i v (negT T (oneT T))).1 < (invP T v i).2)) = true then ((i : Int), szT T (sumT T (tN T).2.1 i v (negT T (oneT T))).1) else invP T v i
theorem szT_b (hT : TOK n T) (hn : vN (tU T) ≠ 0) (v : Nat) : szT T v < tB (tU T) (tN T).1 := by
  unfold szT tB
  have := @nS_lt (vE (tU T) (tN T).1) (vF (tU T) (tN T).1) v
  rw [Nat.pow_succ]; omega
theorem invP_b (hT : TOK n T) (hn : vN (tU T) ≠ 0) (v : Nat) : ∀ i, -1 ≤ (invP T v i).1 ∧ (invP T v i).1 < i ∧ (invP T v i).2 ≤ tB (tU T) (tN T).1 ∧ ((invP T v i).1 = -1 → (invP T v i).2 = tB (tU T) (tN T).1)
  | 0 => by unfold invP; simp
  | i + 1 => by
    have ih := invP_b hT hn v i
    have := szT_b hT hn (sumT T (tN T).2.1 i v (negT T (oneT T))).1
    unfold invP
    split
    · dsimp only; omega
    · omega
theorem x_inv_loop (hF : 3000 ≤ F) (hT : TOK n T) (hs : smlT T = true) (hn : vN (tU T) ≠ 0) {q : Nat} (q3 : FO (vK (tU T) (tN T).1) (vE (tU T) (tN T).1) (vF (tU T) (tN T).1)) {v : Nat} (hv : v < tB (tU T) (tN T).1) :
    ∀ (k i M : Nat) (S : HS), i + k = tB (tU T) (tN T).1 → k < M → RX N S x A b c nx T → FM S q (vK (tU T) (tN T).1) (vE (tU T) (tN T).1) (vF (tU T) (tN T).1) →
    ∃ S', s_X11_inverse_L41 N F M x (ii v) q (ii (negT T (oneT T))) (ii (invP T v i).1) (ii (invP T v i).2) (ii i) S = some (ii (invP T v (tB (tU T) (tN T).1)).1, S') ∧ XE A S S' := by
  have hb := sml_b hs
  intro k
  induction k with
  | zero =>
    intro i M S hi hM hX q2
    obtain ⟨M', rfl⟩ : ∃ M', M = M' + 1 := ⟨M - 1, by omega⟩
    have e : i = tB (tU T) (tN T).1 := by omega
    rw [s_X11_inverse_L41, x2_many q2, show (2 ^ (vE (tU T) (tN T).1 + vF (tU T) (tN T).1 + 1)) = tB (tU T) (tN T).1 from rfl, e, if_pos (by rw [ii_le (by omega) (by omega) (by omega) (by omega)]; omega)]
    exact ⟨S, rfl, XE.refl _ _⟩
  | succ k ih =>
    intro i M S hi hM hX q2
    obtain ⟨M', rfl⟩ : ∃ M', M = M' + 1 := ⟨M - 1, by omega⟩
    obtain ⟨a1, a2, a3, a4, a5, a6⟩ := x_add hX
    have hi2 : i < tB (tU T) (tN T).1 := by omega
    obtain ⟨S1, s1, s2, s3, s4⟩ := x_sumT hF hX hT q2 q3 hT.2.1.2.1 hi2 hv (negT_lt hT hn (oneT_lt hT hn))
    have sz := szT_b hT hn (sumT T (tN T).2.1 i v (negT T (oneT T))).1
    have ib := invP_b hT hn v i
    obtain ⟨S', r1, r2⟩ := ih (i + 1) M' S1 (by omega) (by omega) (hX.xe s2) s4
    rw [s_X11_inverse_L41, x2_many q2, show (2 ^ (vE (tU T) (tN T).1 + vF (tU T) (tN T).1 + 1)) = tB (tU T) (tN T).1 from rfl, if_neg (by rw [ii_le (by omega) (by omega) (by omega) (by omega)]; omega), a1, bd1_some, a2, bd1_some, a3, s1, bd1_some, gR_of s2.2.1, a1, bd1_some, bd1_some, bd1_some, s3.1, x2_isNan s4 q3, x2_size s4]
    unfold s_X11_inverse_J116
    rw [show decide (nInf (vK (tU T) (tN T).1) (vE (tU T) (tN T).1) (vF (tU T) (tN T).1) < nS (vE (tU T) (tN T).1) (vF (tU T) (tN T).1) (sumT T (tN T).2.1 i v (negT T (oneT T))).1) = nanT T (sumT T (tN T).2.1 i v (negT T (oneT T))).1 from rfl, show nS (vE (tU T) (tN T).1) (vF (tU T) (tN T).1) (sumT T (tN T).2.1 i v (negT T (oneT T))).1 = szT T (sumT T (tN T).2.1 i v (negT T (oneT T))).1 from rfl]
    have c0 : (ii ((invP T v i).2 : Int) ≤ ii (szT T (sumT T (tN T).2.1 i v (negT T (oneT T))).1 : Int)) = ((invP T v i).2 ≤ szT T (sumT T (tN T).2.1 i v (negT T (oneT T))).1) := by
      rw [ii_le (by omega) (by omega) (by omega) (by omega)]; apply propext; omega
    simp only [b2_0, c0, bnd_def, ofI, ii_add]
    refine ⟨S', ?_, s2.trans r2⟩
    have el : invP T v (i + 1) = if (!nanT T (sumT T (tN T).2.1 i v (negT T (oneT T))).1 && decide (szT T (sumT T (tN T).2.1 i v (negT T (oneT T))).1 < (invP T v i).2)) = true then ((i : Int), szT T (sumT T (tN T).2.1 i v (negT T (oneT T))).1) else invP T v i := rfl
    rw [el] at r1
    cases hnn : nanT T (sumT T (tN T).2.1 i v (negT T (oneT T))).1
    · rw [hnn] at r1
      rw [if_pos (show false = false from rfl)]
      by_cases w : (invP T v i).2 ≤ szT T (sumT T (tN T).2.1 i v (negT T (oneT T))).1
      · rw [if_pos w]
        rw [if_neg (by simp; omega)] at r1
        exact r1
      · rw [if_neg w]
        rw [if_pos (by simp; omega)] at r1
        exact r1
    · rw [hnn] at r1
      rw [if_neg tf]
      rw [if_neg (by simp)] at r1
      exact r1
theorem y_inv_loop (hF : 3000 ≤ F) (hT : TOK n T) (hs : smlT T = true) (hn : vN (tU T) ≠ 0) {v : Nat} (hv : v < tB (tU T) (tN T).1) :
    ∀ (k i M : Nat) (S : HS) (least : Nat), i + k = tB (tU T) (tN T).1 → k < M → RY N2 S m B T → (least = if (invP T v i).1 = -1 then 0 else (invP T v i).2) →
    ∃ S', s_X12_inverse_L39 N2 F M m (ii v) (ii (tN T).1) (ii (invP T v i).1) (ii least) (ii i) S = some (ii (invP T v (tB (tU T) (tN T).1)).1, S') ∧ YE m B S S' := by
  have hb := sml_b hs
  intro k
  induction k with
  | zero =>
    intro i M S least hi hM hX hl
    obtain ⟨M', rfl⟩ : ∃ M', M = M' + 1 := ⟨M - 1, by omega⟩
    have e : i = tB (tU T) (tN T).1 := by omega
    rw [s_X12_inverse_L39, y_allBits hX hT hn, bd1_some, e, if_pos (by rw [ii_le (by omega) (by omega) (by omega) (by omega)]; omega)]
    exact ⟨S, rfl, YE.refl _ _ _⟩
  | succ k ih =>
    intro i M S least hi hM hX hl
    obtain ⟨M', rfl⟩ : ∃ M', M = M' + 1 := ⟨M - 1, by omega⟩
    have hi2 : i < tB (tU T) (tN T).1 := by omega
    have ho := oneT_lt hT hn
    obtain ⟨_, _, _, _, yo⟩ := y_q hX hT hn hv
    obtain ⟨_, _, _, yn, _⟩ := y_q hX hT hn ho
    obtain ⟨S1, s1, s2, s3⟩ := y_sumNow hF hX hT hn hi2 hv (negT_lt hT hn ho)
    have sb := sumT_b hT hn (tN T).2.1 i v (negT T (oneT T))
    obtain ⟨z1, _, z3, _⟩ := y_q (hX.ye s2) hT hn sb.1
    have sz := szT_b hT hn (sumT T (tN T).2.1 i v (negT T (oneT T))).1
    have ib := invP_b hT hn v i
    have hlb : least ≤ tB (tU T) (tN T).1 := by rw [hl]; split <;> omega
    have el : invP T v (i + 1) = if (!nanT T (sumT T (tN T).2.1 i v (negT T (oneT T))).1 && decide (szT T (sumT T (tN T).2.1 i v (negT T (oneT T))).1 < (invP T v i).2)) = true then ((i : Int), szT T (sumT T (tN T).2.1 i v (negT T (oneT T))).1) else invP T v i := rfl
    rw [s_X12_inverse_L39, y_allBits hX hT hn, bd1_some, if_neg (by rw [ii_le (by omega) (by omega) (by omega) (by omega)]; omega), yo, bd1_some, yn, bd1_some, s1, bd2_some, z1, bd1_some, z3, bd1_some]
    unfold s_X12_inverse_J98 s_X12_inverse_J111 s_X12_inverse_J129
    rw [z3, bd1_some]
    have c0 : (ii (least : Int) ≤ ii (szT T (sumT T (tN T).2.1 i v (negT T (oneT T))).1 : Int)) = (least ≤ szT T (sumT T (tN T).2.1 i v (negT T (oneT T))).1) := by
      rw [ii_le (by omega) (by omega) (by omega) (by omega)]; apply propext; omega
    have c1 : (ii (invP T v i).1 < (0 : Int32)) = ((invP T v i).1 < 0) := ii_lt (b := 0) (by omega) (by omega) (by omega) (by omega)
    have n10 : ¬ ((1 : Int32) = 0) := by decide
    simp only [b2_0, c0, c1, bnd_def, ofI, ii_add, n10, if_true, if_false]
    have take : (invP T v (i + 1)) = ((i : Int), szT T (sumT T (tN T).2.1 i v (negT T (oneT T))).1) → ∃ S', s_X12_inverse_L39 N2 F M' m (ii v) (ii (tN T).1) (ii i) (ii (szT T (sumT T (tN T).2.1 i v (negT T (oneT T))).1)) (ii ((i : Int) + 1)) S1 = some (ii (invP T v (tB (tU T) (tN T).1)).1, S') ∧ YE m B S S' := by
      intro w
      obtain ⟨S', r1, r2⟩ := ih (i + 1) M' S1 (szT T (sumT T (tN T).2.1 i v (negT T (oneT T))).1) (by omega) (by omega) (hX.ye s2) (by rw [w]; dsimp only; rw [if_neg (by omega)])
      rw [w] at r1
      exact ⟨S', r1, s2.trans r2⟩
    have leave : (invP T v (i + 1)) = invP T v i → ∃ S', s_X12_inverse_L39 N2 F M' m (ii v) (ii (tN T).1) (ii (invP T v i).1) (ii least) (ii ((i : Int) + 1)) S1 = some (ii (invP T v (tB (tU T) (tN T).1)).1, S') ∧ YE m B S S' := by
      intro w
      obtain ⟨S', r1, r2⟩ := ih (i + 1) M' S1 least (by omega) (by omega) (hX.ye s2) (by rw [w]; exact hl)
      rw [w] at r1
      exact ⟨S', r1, s2.trans r2⟩
    cases hnn : nanT T (sumT T (tN T).2.1 i v (negT T (oneT T))).1
    · rw [if_pos (show false = false from rfl)]
      by_cases w : (invP T v i).1 < 0
      · rw [if_pos w]
        refine take ?_
        rw [el, hnn, if_pos]
        have := ib.2.2.2 (by omega)
        simp; omega
      · rw [if_neg w]
        rw [if_neg (by omega)] at hl
        by_cases w2 : least ≤ szT T (sumT T (tN T).2.1 i v (negT T (oneT T))).1
        · rw [if_pos w2]
          refine leave ?_
          rw [el, hnn, if_neg (by simp; omega)]
        · rw [if_neg w2]
          refine take ?_
          rw [el, hnn, if_pos (by simp; omega)]
    · rw [if_neg tf]
      refine leave ?_
      rw [el, hnn, if_neg (by simp)]
theorem j_inverse (hF : 3000 ≤ F) (hX : RX N S x A b c nx T) (hM : RY N2 S2 m B T) (hT : TOK n T) (p : Int32) : ∃ v S' S2', s_X11_inverse N F x p S = some (v, S') ∧ s_X12_inverse N2 F m p S2 = some (v, S2') ∧ XE A S S' ∧ YE m B S2 S2' := by
  obtain ⟨S1, hS1, hM1, y0⟩ := base0 hM 0
  obtain ⟨u1, u2⟩ := x_inUse hX.1 hX.2.1 hT.2.1
  unfold s_X11_inverse s_X12_inverse
  rw [bnd_def, ← hS1, y_small hM1 hT, bd1_some]
  by_cases hn : vN (tU T) = 0
  · rw [u1 hn, bd1_some, mq_none, if_pos (by simp [hn]; rfl)]; exact ⟨_, _, _, rfl, rfl, XE.refl _ _, y0⟩
  obtain ⟨o, o1, o2, o3⟩ := u2 hn
  obtain ⟨_, fo, mu, hu, _⟩ := base1 hM1 hT hn
  rw [o1, bd1_some, mq_some, x_smallH hX hT, bd1_some, decide_eq_true hn, Bool.true_and, hu, bd1_some, ← show fI (tU T) (tN T).1 = ((tN T).1 : Int) from if_neg hn, y_isBits hM1.1 hT.2.1, bd1_some, bd1_some, show fI (tU T) (tN T).1 = ((tN T).1 : Int) from if_neg hn]
  simp only [b2_0]
  cases hs : smlT T
  · rw [if_pos (by simp), if_pos rfl]; exact ⟨_, _, _, rfl, rfl, XE.refl _ _, y0⟩
  cases hh : hld (tU T) (tN T) p
  · rw [if_pos (by simp), if_neg tf, if_pos (show false = false from rfl)]; exact ⟨_, _, _, rfl, rfl, XE.refl _ _, y0⟩
  obtain ⟨v, rfl, hv, _, _⟩ := hld_ex hT.2.1 hh
  have hb := sml_b hs
  have ho := oneT_lt hT hn
  rw [if_neg (by simp), if_neg tf, if_neg tf, bnd_def, bnd_def, x2_one o2 o3, nOne_eq o3, x2_turned (b := nOne (vE (tU T) (tN T).1) (vF (tU T) (tN T).1)) o2 o3 ho, x2_many o2]
  obtain ⟨S3, s1, s2⟩ := x_inv_loop hF hT hs hn o3 hv (tB (tU T) (tN T).1) 0 F S (by omega) (by omega) hX o2
  obtain ⟨S4, t1, t2⟩ := y_inv_loop hF hT hs hn hv (tB (tU T) (tN T).1) 0 F S1 0 (by omega) (by omega) hM1 rfl
  have s1' : s_X11_inverse_L41 N F F x (ii v) o (ii (nNeg (vK (tU T) (tN T).1) (vE (tU T) (tN T).1) (vF (tU T) (tN T).1) (nOne (vE (tU T) (tN T).1) (vF (tU T) (tN T).1)))) (-1) (ii (2 ^ (vE (tU T) (tN T).1 + vF (tU T) (tN T).1 + 1) : Nat)) 0 S = some (ii (invP T v (tB (tU T) (tN T).1)).1, S3) := s1
  have t1' : s_X12_inverse_L39 N2 F F m (ii v) (ii (tN T).1) (-1) 0 0 S1 = some (ii (invP T v (tB (tU T) (tN T).1)).1, S4) := t1
  rw [s1', t1']
  exact ⟨_, _, _, rfl, rfl, s2, y0.trans t2⟩
end J5
end
section
section J6
variable {N N2 : Nat → Nat} {F : Nat} {S S2 : HS} {x m : Nat} {A B : Nat → Nat} {b c nx n : Nat} {T : TT}
theorem j_twice (hF : 3000 ≤ F) (hX : RX N S x A b c nx T) (hM : RY N2 S2 m B T) (hT : TOK n T) (p q r : Int32) : ∃ v S' S2', s_X11_twice N F x p q r S = some (v, S') ∧ s_X12_twice N2 F m p q r S2 = some (v, S2') ∧ XE A S S' ∧ YE m B S2 S2' := by
  obtain ⟨S1, hS1, hM1, y0⟩ := base0 hM 0
  obtain ⟨a1, a2, a3, a4, a5, a6⟩ := x_add hX
  obtain ⟨g1, g2⟩ := x_add3 hF hX hT p q r
  obtain ⟨u1, u2⟩ := x_inUse hX.1 hX.2.1 hT.2.1
  unfold s_X11_twice s_X12_twice
  rw [bnd_def, ← hS1, y_areBits hM1.1 hM1.2.1.1 hT.2.1, bd1_some]
  simp only [b2_0]
  rw [show (hld (tU T) (tN T) p && hld (tU T) (tN T) q && hld (tU T) (tN T) r) = hld3 T p q r from rfl]
  cases hh : hld3 T p q r
  · rw [if_pos (show false = false from rfl)]
    by_cases hn : vN (tU T) = 0
    · rw [u1 hn, bd1_some, mq_none]; exact ⟨_, _, _, rfl, rfl, XE.refl _ _, y0⟩
    · obtain ⟨o, o1, o2, o3⟩ := u2 hn
      rw [o1, bd1_some, mq_some, a2, bd1_some, g1 hh, bd2_some, if_pos (show (0 : Int32) = 0 from rfl)]
      exact ⟨_, _, _, rfl, rfl, XE.refl _ _, y0⟩
  · obtain ⟨u, v, w, rfl, rfl, rfl, hu, hv, hw, hn⟩ := hld3_ex hT hh
    obtain ⟨o, o1, o2, o3⟩ := u2 hn
    have hz : (0 : Nat) < tB (tU T) (tN T).1 := Nat.two_pow_pos _
    have ho := oneT_lt hT hn
    obtain ⟨S3, s1, s2, s3⟩ := g2 (tN T).2.1 u v w hT.2.1.2.1 hh hu hv hw
    have o4 : FM S3 o (vK (tU T) (tN T).1) (vE (tU T) (tN T).1) (vF (tU T) (tN T).1) := o2.mono2 (fun f f1 f2 => s2.1 f o (fun q => by omega) (fun q => by omega))
    have hX3 := hX.xe s2
    obtain ⟨c1, c2, c3, _⟩ := x_add hX3
    obtain ⟨S4, p1, p2, p3, p4⟩ := x_sumT hF hX3 hT o4 o3 hT.2.1.2.1 hu hv hz
    have sb := sumT_b hT hn (tN T).2.1 u v 0
    have hX4 := hX3.xe p2
    obtain ⟨d1, d2, d3, _⟩ := x_add hX4
    obtain ⟨S5, q1, q2, q3, q4⟩ := x_sumT hF hX4 hT p4 o3 hT.2.1.2.1 ho sb.1 hw
    have hX5 := hX4.xe q2
    obtain ⟨e1, _, _, _⟩ := x_add hX5
    obtain ⟨_, fo, mu, hus, _⟩ := base1 hM1 hT hn
    obtain ⟨_, _, _, _, yo⟩ := y_q hM1 hT hn hu
    obtain ⟨R1, r1, r2, r3⟩ := y_sumNow hF hM1 hT hn hu hv hz
    obtain ⟨R2, t1, t2, t3⟩ := y_sumNow hF (hM1.ye r2) hT hn ho sb.1 hw
    obtain ⟨R3, w1, w2, w3⟩ := y_sumNow hF ((hM1.ye r2).ye t2) hT hn hu hv hw
    rw [show ii ((0 : Nat) : Int) = (0 : Int32) from rfl] at p1 r1
    rw [if_neg tf, o1, bd1_some, mq_some, a2, bd1_some, a3, s1, bd2_some, if_neg (by decide), c1, bd1_some, bnd_def, bd1_some, c2, bd1_some, c3, p1, bd1_some, d1, bd1_some, d2, bd1_some, bd1_some, d3, x2_one p4 o3, nOne_eq o3, p3.1, show nOne (vE (tU T) (tN T).1) (vF (tU T) (tN T).1) = oneT T from rfl, q1, bd1_some, e1, bd1_some, q3.1, s3.1, hus, bd1_some, yo, bd1_some, r1, bd2_some, t1, bd2_some, w1, bd2_some]
    have sb2 := sumT_b hT hn (tN T).2.1 (oneT T) (sumT T (tN T).2.1 u v 0).1 w
    have sb3 := sumT_b hT hn (tN T).2.1 u v w
    split
    · exact ⟨_, _, _, rfl, rfl, (s2.trans p2).trans q2, ((y0.trans r2).trans t2).trans w2⟩
    · exact ⟨_, _, _, rfl, rfl, (s2.trans p2).trans q2, ((y0.trans r2).trans t2).trans w2⟩
/- what was seen -/
def fitQ (T : TT) (u : Nat) (q : Nat × Bool) : Bool := (!nanT T (sumT T (tN T).2.1 u u q.1).1 && decide (0 ≤ rkT T (sumT T (tN T).2.1 u u q.1).1)) == q.2
theorem x_fits_loop (hF : 3000 ≤ F) (hT : TOK n T) (hn : vN (tU T) ≠ 0) {q : Nat} (q3 : FO (vK (tU T) (tN T).1) (vE (tU T) (tN T).1) (vF (tU T) (tN T).1)) {u : Nat} (hu : u < tB (tU T) (tN T).1) :
    ∀ (l : List (Nat × Bool)) (i M : Nat) (S : HS), tS T = (tS T).take i ++ l → i + l.length = (tS T).length → l.length < M → RX N S x A b c nx T → FM S q (vK (tU T) (tN T).1) (vE (tU T) (tN T).1) (vF (tU T) (tN T).1) →
    ∃ S', s_X11_fitsSeen_L2 N F M x q (ii u) (ii i) S = some (b2 (l.all (fitQ T u)), S') ∧ XE A S S' ∧ FM S' q (vK (tU T) (tN T).1) (vE (tU T) (tN T).1) (vF (tU T) (tN T).1) := by
  have h8 := hT.2.2.2.2.1.1
  intro l
  induction l with
  | nil =>
    intro i M S hl hi hM hX q2
    obtain ⟨M', rfl⟩ : ∃ M', M = M' + 1 := ⟨M - 1, by simp at hM; omega⟩
    simp only [List.length_nil, Nat.add_zero] at hi
    rw [s_X11_fitsSeen_L2, hX.2.2.2.2.1.1, if_pos (by rw [ii_le (by omega) (by omega) (by omega) (by omega)]; omega)]
    exact ⟨S, rfl, XE.refl _ _, q2⟩
  | cons e l ih =>
    intro i M S hl hi hM hX q2
    obtain ⟨M', rfl⟩ : ∃ M', M = M' + 1 := ⟨M - 1, by simp at hM; omega⟩
    simp only [List.length_cons] at hi hM
    have hei : (tS T)[i]? = some e := by
      rw [hl, List.getElem?_append_right (by simp; omega)]
      simp
      rw [show i - min i (tS T).length = 0 by omega]; rfl
    obtain ⟨a1, a2, a3, a4, a5, a6⟩ := x_add hX
    obtain ⟨w1, w2⟩ := hX.2.2.2.2.1.2 i e hei
    have he := (hT.2.2.2.2.1.2 e (List.mem_of_getElem? hei)).1
    have n8 : N (A 20) = 8 := hX.1.2.1.1.2.2.2.2.2.1
    have n9 : N (A 21) = 8 := hX.1.2.1.1.2.2.2.2.2.2.1
    have e1 : gR S 1108 x = some (A 20) := hX.1.2.2.1.2.1.2.2.1
    have e2 : gR S 1109 x = some (A 21) := hX.1.2.2.1.2.1.2.2.2.1
    have hin : inB (ii (i : Int)) 8 = true := in_of (z := i) rfl (by omega) (by decide)
    have hcl : (ii (i : Int)).toNatClampNeg = i := cl_of (z := i) rfl (by omega)
    obtain ⟨S1, s1, s2, s3, s4⟩ := x_sumT hF hX hT q2 q3 hT.2.1.2.1 hu hu he
    have sb := sumT_b hT hn (tN T).2.1 u u e.1
    have rb := rkT_b hT hn (sumT T (tN T).2.1 u u e.1).1
    have hX1 := hX.xe s2
    have hA := hX.1.1
    have w2' : aI S1 (A 21) i = b2 e.2 := by
      rw [s2.2.2.1 (A 21) (by rw [ne_eq, hA]; decide) (by rw [ne_eq, hA]; decide)]; exact w2
    rw [s_X11_fitsSeen_L2, hX.2.2.2.2.1.1, if_neg (by rw [ii_le (by omega) (by omega) (by omega) (by omega)]; omega), if_neg (by rw [k8, ii_le (by omega) (by omega) (by omega) (by omega)]; omega), a1, bd1_some, a2, bd1_some, e1, bd1_some, n8, if_pos hin, hcl, w1, a3, s1, bd1_some, gR_of s2.2.1, a1, bd1_some, bd1_some, s3.1, x2_isNan s4 q3, x2_rank s4 q3 sb.1]
    rw [show decide (nInf (vK (tU T) (tN T).1) (vE (tU T) (tN T).1) (vF (tU T) (tN T).1) < nS (vE (tU T) (tN T).1) (vF (tU T) (tN T).1) (sumT T (tN T).2.1 u u e.1).1) = nanT T (sumT T (tN T).2.1 u u e.1).1 from rfl, show nRk (vE (tU T) (tN T).1) (vF (tU T) (tN T).1) (sumT T (tN T).2.1 u u e.1).1 = rkT T (sumT T (tN T).2.1 u u e.1).1 from rfl]
    unfold s_X11_fitsSeen_J72
    have c0 : (ii (rkT T (sumT T (tN T).2.1 u u e.1).1) < (0 : Int32)) = (rkT T (sumT T (tN T).2.1 u u e.1).1 < 0) := ii_lt (b := 0) (by omega) (by omega) (by omega) (by omega)
    simp only [gR_of s2.2.1, e2, bd1_some, n9, hin, if_true, hcl, w2', b2_0, c0, bnd_def, ofI]
    simp only [show (1 : Int32) = b2 true from rfl, show (0 : Int32) = b2 false from rfl, b2_eq]
    have hl2 : tS T = (tS T).take (i + 1) ++ l := by
      have hlt : i < (tS T).length := by omega
      rw [List.take_succ, hei]
      simp only [Option.toList_some, List.append_assoc, List.singleton_append]
      exact hl
    obtain ⟨S', r1, r2, r3⟩ := ih (i + 1) M' S1 hl2 (by omega) (by omega) hX1 s4
    have el : (e :: l).all (fitQ T u) = (fitQ T u e && l.all (fitQ T u)) := rfl
    have eq : fitQ T u e = ((!nanT T (sumT T (tN T).2.1 u u e.1).1 && decide (0 ≤ rkT T (sumT T (tN T).2.1 u u e.1).1)) == e.2) := rfl
    have go : ∀ (w : Bool), w = (!nanT T (sumT T (tN T).2.1 u u e.1).1 && decide (0 ≤ rkT T (sumT T (tN T).2.1 u u e.1).1)) → ∃ S', (if w = e.2 then s_X11_fitsSeen_L2 N F M' x q (ii u) (ii (i : Int) + ii 1) S1 else some (b2 false, S1)) = some (b2 ((e :: l).all (fitQ T u)), S') ∧ XE A S S' ∧ FM S' q (vK (tU T) (tN T).1) (vE (tU T) (tN T).1) (vF (tU T) (tN T).1) := by
      intro w hw
      rw [el, eq, ← hw]
      by_cases hwe : w = e.2
      · rw [if_pos hwe, ii_add, show ((i : Int) + 1) = ((i + 1 : Nat) : Int) from rfl, r1]
        refine ⟨S', ?_, s2.trans r2, r3⟩
        rw [hwe]; simp
      · rw [if_neg hwe]
        refine ⟨S1, ?_, s2, s4⟩
        have : (w == e.2) = false := by simpa using hwe
        rw [this]; rfl
    cases hnn : nanT T (sumT T (tN T).2.1 u u e.1).1
    · rw [if_pos (show false = false from rfl)]
      by_cases w : rkT T (sumT T (tN T).2.1 u u e.1).1 < 0
      · rw [if_pos w]; exact go false (by rw [hnn]; simp; omega)
      · rw [if_neg w]; exact go true (by rw [hnn]; simp; omega)
    · rw [if_neg tf]; exact go false (by rw [hnn]; rfl)
theorem y_seen_loop (hF : 3000 ≤ F) (hT : TOK n T) (hn : vN (tU T) ≠ 0) {u : Nat} (hu : u < tB (tU T) (tN T).1) :
    ∀ (l : List (Nat × Bool)) (i M : Nat) (w : Bool) (S : HS), tS T = (tS T).take i ++ l → i + l.length = (tS T).length → l.length < M → RY N2 S m B T →
    ∃ S', s_X12_isAsSeen_L4 N2 F M m (ii u) (b2 w) (ii i) S = some (b2 (w && l.all (fitQ T u)), S') ∧ YE m B S S' := by
  have h8 := hT.2.2.2.2.1.1
  intro l
  induction l with
  | nil =>
    intro i M w S hl hi hM hX
    obtain ⟨M', rfl⟩ : ∃ M', M = M' + 1 := ⟨M - 1, by simp at hM; omega⟩
    simp only [List.length_nil, Nat.add_zero] at hi
    obtain ⟨m1, m2⟩ := y_st hX.1
    have w10 : aI S (B 11) ((10 : Int32).toNatClampNeg) = ii (tS T).length := hX.2.2.1.1
    rw [s_X12_isAsSeen_L4, m1, bd1_some, m2, if_pos (by decide), w10, if_pos (by rw [ii_le (by omega) (by omega) (by omega) (by omega)]; omega), if_pos (b2_isZ w)]
    exact ⟨S, by simp, YE.refl _ _ _⟩
  | cons e l ih =>
    intro i M w S hl hi hM hX
    obtain ⟨M', rfl⟩ : ∃ M', M = M' + 1 := ⟨M - 1, by simp at hM; omega⟩
    simp only [List.length_cons] at hi hM
    have hei : (tS T)[i]? = some e := by
      rw [hl, List.getElem?_append_right (by simp; omega)]
      simp
      rw [show i - min i (tS T).length = 0 by omega]; rfl
    have hl2 : tS T = (tS T).take (i + 1) ++ l := by
      have hlt : i < (tS T).length := by omega
      rw [List.take_succ, hei]
      simp only [Option.toList_some, List.append_assoc, List.singleton_append]
      exact hl
    obtain ⟨m1, m2⟩ := y_st hX.1
    have w10 : aI S (B 11) ((10 : Int32).toNatClampNeg) = ii (tS T).length := hX.2.2.1.1
    obtain ⟨v1, v2⟩ := hX.2.2.1.2.2 i e hei
    have he := (hT.2.2.2.2.1.2 e (List.mem_of_getElem? hei)).1
    have ex : (11 : Int32) + 2 * ii i = ii (11 + 2 * i : Nat) := by
      rw [k11, k2, ii_mul, ii_add]; rfl
    obtain ⟨S1, s1, s2, s3⟩ := y_sumNow hF hX hT hn hu hu he
    have sb := sumT_b hT hn (tN T).2.1 u u e.1
    have rb := rkT_b hT hn (sumT T (tN T).2.1 u u e.1).1
    obtain ⟨z1, z2, _⟩ := y_q (hX.ye s2) hT hn sb.1
    obtain ⟨_, _, _, hus, _⟩ := base1 (hX.ye s2) hT hn
    have v2' : aI S1 (B 11) (11 + 2 * i + 1) = b2 e.2 := by rw [s2.2.2.2.1 _ (by omega)]; exact v2
    rw [s_X12_isAsSeen_L4, m1, bd1_some, m2, if_pos (by decide), w10, if_neg (by rw [ii_le (by omega) (by omega) (by omega) (by omega)]; omega), bnd_def, bd1_some, ex, m2, if_pos (in_of (z := 11 + 2 * i) rfl (by omega) (by decide)), cl_of (z := 11 + 2 * i) rfl (by omega), v1, s1, bd2_some, hus, bd1_some, z1, bd1_some, z2, bd1_some]
    unfold s_X12_isAsSeen_J69 s_X12_isAsSeen_J87 s_X12_isAsSeen_J95
    have ey : ii ((11 + 2 * i : Nat) : Int) + 1 = ii (11 + 2 * i + 1 : Nat) := by rw [k1, ii_add]; rfl
    have c0 : (ii (rkT T (sumT T (tN T).2.1 u u e.1).1) < (0 : Int32)) = (rkT T (sumT T (tN T).2.1 u u e.1).1 < 0) := ii_lt (b := 0) (by omega) (by omega) (by omega) (by omega)
    have n01 : ¬ ((0 : Int32) = 1) := by decide
    have n10 : ¬ ((1 : Int32) = 0) := by decide
    have hin := in_of (x := ii ((11 + 2 * i + 1 : Nat) : Int)) (z := 11 + 2 * i + 1) (n := 616) rfl (by omega) (by decide)
    have hcl := cl_of (x := ii ((11 + 2 * i + 1 : Nat) : Int)) (z := 11 + 2 * i + 1) rfl (by omega)
    simp only [gR_of s2.2.1, m1, bd1_some, m2, ey, hin, hcl, v2', if_true, b2_0, b2_1, c0, bnd_def, ofI, ii_add, n01, n10, if_false]
    have el : (e :: l).all (fitQ T u) = (fitQ T u e && l.all (fitQ T u)) := rfl
    have eq : fitQ T u e = ((!nanT T (sumT T (tN T).2.1 u u e.1).1 && decide (0 ≤ rkT T (sumT T (tN T).2.1 u u e.1).1)) == e.2) := rfl
    have go : ∀ (w' : Bool), w' = (w && fitQ T u e) → ∃ S', s_X12_isAsSeen_L4 N2 F M' m (ii u) (b2 w') (ii ((i : Int) + 1)) S1 = some (b2 (w && (e :: l).all (fitQ T u)), S') ∧ YE m B S S' := by
      intro w' hw
      obtain ⟨S', r1, r2⟩ := ih (i + 1) M' w' S1 hl2 (by omega) (by omega) (hX.ye s2)
      refine ⟨S', ?_, s2.trans r2⟩
      rw [show ((i : Int) + 1) = ((i + 1 : Nat) : Int) from rfl, r1, hw, el, Bool.and_assoc]
    cases w
    · rw [if_pos rfl]; exact go false rfl
    rw [if_neg tf]
    cases hnn : nanT T (sumT T (tN T).2.1 u u e.1).1
    · rw [if_pos (show false = false from rfl)]
      by_cases w : rkT T (sumT T (tN T).2.1 u u e.1).1 < 0
      · rw [if_pos w]
        have h0 : decide (0 ≤ rkT T (sumT T (tN T).2.1 u u e.1).1) = false := decide_eq_false (by omega)
        cases he2 : e.2
        · exact go true (by rw [eq, hnn, he2, h0]; rfl)
        · exact go false (by rw [eq, hnn, he2, h0]; rfl)
      · rw [if_neg w]
        have h0 : decide (0 ≤ rkT T (sumT T (tN T).2.1 u u e.1).1) = true := decide_eq_true (by omega)
        cases he2 : e.2
        · exact go false (by rw [eq, hnn, he2, h0]; rfl)
        · exact go true (by rw [eq, hnn, he2, h0]; rfl)
    · rw [if_neg tf]
      cases he2 : e.2
      · exact go true (by rw [eq, hnn, he2]; rfl)
      · exact go false (by rw [eq, hnn, he2]; rfl)
def fitP (T : TT) (u : Nat) : Bool := (tS T).all (fitQ T u)
theorem x_fits (hF : 3000 ≤ F) (hT : TOK n T) (hn : vN (tU T) ≠ 0) {q : Nat} (q3 : FO (vK (tU T) (tN T).1) (vE (tU T) (tN T).1) (vF (tU T) (tN T).1)) {u : Nat} (hu : u < tB (tU T) (tN T).1) (hX : RX N S x A b c nx T) (q2 : FM S q (vK (tU T) (tN T).1) (vE (tU T) (tN T).1) (vF (tU T) (tN T).1)) :
    ∃ S', s_X11_fitsSeen N F x q (ii u) S = some (b2 (fitP T u), S') ∧ XE A S S' ∧ FM S' q (vK (tU T) (tN T).1) (vE (tU T) (tN T).1) (vF (tU T) (tN T).1) := by
  have h8 := hT.2.2.2.2.1.1
  exact x_fits_loop hF hT hn q3 hu (tS T) 0 F S (by simp) (by omega) (by omega) hX q2
theorem y_seen (hF : 3000 ≤ F) (hT : TOK n T) (hn : vN (tU T) ≠ 0) {u : Nat} (hu : u < tB (tU T) (tN T).1) (hX : RY N2 S2 m B T) :
    ∃ S', s_X12_isAsSeen N2 F m (ii u) S2 = some (b2 (fitP T u), S') ∧ YE m B S2 S' := by
  have h8 := hT.2.2.2.2.1.1
  obtain ⟨S', r1, r2⟩ := y_seen_loop hF hT hn hu (tS T) 0 F true S2 (by simp) (by omega) (by omega) hX
  exact ⟨S', by rw [Bool.true_and] at r1; exact r1, r2⟩
theorem x_fit_loop (hF : 3000 ≤ F) (hT : TOK n T) (hs : smlT T = true) (hn : vN (tU T) ≠ 0) {q : Nat} (q3 : FO (vK (tU T) (tN T).1) (vE (tU T) (tN T).1) (vF (tU T) (tN T).1)) :
    ∀ (k i M : Nat) (S : HS), i + k = tB (tU T) (tN T).1 → k < M → RX N S x A b c nx T → FM S q (vK (tU T) (tN T).1) (vE (tU T) (tN T).1) (vF (tU T) (tN T).1) →
    ∃ S', s_X11_fit_L22 N F M x q (ii (cntP (fitP T) i)) (ii i) S = some (ii (cntP (fitP T) (tB (tU T) (tN T).1)), S') ∧ XE A S S' := by
  have hb := sml_b hs
  intro k
  induction k with
  | zero =>
    intro i M S hi hM hX q2
    obtain ⟨M', rfl⟩ : ∃ M', M = M' + 1 := ⟨M - 1, by omega⟩
    have e : i = tB (tU T) (tN T).1 := by omega
    rw [s_X11_fit_L22, x2_many q2, show (2 ^ (vE (tU T) (tN T).1 + vF (tU T) (tN T).1 + 1)) = tB (tU T) (tN T).1 from rfl, e, if_pos (by rw [ii_le (by omega) (by omega) (by omega) (by omega)]; omega)]
    exact ⟨S, rfl, XE.refl _ _⟩
  | succ k ih =>
    intro i M S hi hM hX q2
    obtain ⟨M', rfl⟩ : ∃ M', M = M' + 1 := ⟨M - 1, by omega⟩
    obtain ⟨S1, s1, s2, s3⟩ := x_fits hF hT hn q3 (show i < tB (tU T) (tN T).1 by omega) hX q2
    obtain ⟨S', r1, r2⟩ := ih (i + 1) M' S1 (by omega) (by omega) (hX.xe s2) s3
    rw [s_X11_fit_L22, x2_many q2, show (2 ^ (vE (tU T) (tN T).1 + vF (tU T) (tN T).1 + 1)) = tB (tU T) (tN T).1 from rfl, if_neg (by rw [ii_le (by omega) (by omega) (by omega) (by omega)]; omega), s1, bd2_some]
    unfold s_X11_fit_J42
    simp only [b2_0, bnd_def, ofI, ii_add]
    refine ⟨S', ?_, s2.trans r2⟩
    have ec : cntP (fitP T) (i + 1) = cntP (fitP T) i + (if fitP T i = true then 1 else 0) := rfl
    rw [ec] at r1
    cases hp : fitP T i
    · rw [hp] at r1; rw [if_pos rfl]; exact r1
    · rw [hp] at r1; rw [if_neg tf]; exact r1
theorem y_fit_loop (hF : 3000 ≤ F) (hT : TOK n T) (hs : smlT T = true) (hn : vN (tU T) ≠ 0) :
    ∀ (k i M : Nat) (S : HS), i + k = tB (tU T) (tN T).1 → k < M → RY N2 S m B T →
    ∃ S', s_X12_fit_L18 N2 F M m (ii (cntP (fitP T) i)) (ii i) S = some (ii (cntP (fitP T) (tB (tU T) (tN T).1)), S') ∧ YE m B S S' := by
  have hb := sml_b hs
  intro k
  induction k with
  | zero =>
    intro i M S hi hM hX
    obtain ⟨M', rfl⟩ : ∃ M', M = M' + 1 := ⟨M - 1, by omega⟩
    have e : i = tB (tU T) (tN T).1 := by omega
    rw [s_X12_fit_L18, y_allBits hX hT hn, bd1_some, e, if_pos (by rw [ii_le (by omega) (by omega) (by omega) (by omega)]; omega)]
    exact ⟨S, rfl, YE.refl _ _ _⟩
  | succ k ih =>
    intro i M S hi hM hX
    obtain ⟨M', rfl⟩ : ∃ M', M = M' + 1 := ⟨M - 1, by omega⟩
    obtain ⟨S1, s1, s2⟩ := y_seen hF hT hn (show i < tB (tU T) (tN T).1 by omega) hX
    obtain ⟨S', r1, r2⟩ := ih (i + 1) M' S1 (by omega) (by omega) (hX.ye s2)
    rw [s_X12_fit_L18, y_allBits hX hT hn, bd1_some, if_neg (by rw [ii_le (by omega) (by omega) (by omega) (by omega)]; omega), s1, bd2_some]
    unfold s_X12_fit_J40
    refine ⟨S', ?_, s2.trans r2⟩
    have ec : cntP (fitP T) (i + 1) = cntP (fitP T) i + (if fitP T i = true then 1 else 0) := rfl
    rw [ec] at r1
    rw [k0, k1]
    simp only [bnd_def, ofI, ii_add]
    cases hp : fitP T i
    · rw [hp] at r1; rw [if_pos (show b2 false = ii 0 from rfl), Int.add_zero]; exact r1
    · rw [hp] at r1; rw [if_neg (show ¬ b2 true = ii 0 by decide)]; exact r1
theorem j_fit (hF : 3000 ≤ F) (hX : RX N S x A b c nx T) (hM : RY N2 S2 m B T) (hT : TOK n T) : ∃ v S' S2', s_X11_fit N F x S = some (v, S') ∧ s_X12_fit N2 F m S2 = some (v, S2') ∧ XE A S S' ∧ YE m B S2 S2' := by
  obtain ⟨S1, hS1, hM1, y0⟩ := base0 hM 0
  obtain ⟨u1, u2⟩ := x_inUse hX.1 hX.2.1 hT.2.1
  unfold s_X11_fit s_X12_fit
  rw [bnd_def, ← hS1, y_small hM1 hT, bd1_some]
  by_cases hn : vN (tU T) = 0
  · rw [u1 hn, bd1_some, mq_none, if_pos (by simp [hn]; rfl)]; exact ⟨_, _, _, rfl, rfl, XE.refl _ _, y0⟩
  obtain ⟨o, o1, o2, o3⟩ := u2 hn
  rw [o1, bd1_some, mq_some, x2_isSmall o2 o3, decide_eq_true hn, Bool.true_and, show decide (vE (tU T) (tN T).1 + vF (tU T) (tN T).1 ≤ 9) = smlT T from rfl]
  simp only [b2_0]
  cases hs : smlT T
  · rw [if_pos rfl, if_pos rfl]; exact ⟨_, _, _, rfl, rfl, XE.refl _ _, y0⟩
  have hb := sml_b hs
  rw [if_neg tf, if_neg tf]
  obtain ⟨S3, s1, s2⟩ := x_fit_loop hF hT hs hn o3 (tB (tU T) (tN T).1) 0 F S (by omega) (by omega) hX o2
  obtain ⟨S4, t1, t2⟩ := y_fit_loop hF hT hs hn (tB (tU T) (tN T).1) 0 F S1 (by omega) (by omega) hM1
  exact ⟨_, _, _, s1, t1, s2, y0.trans t2⟩
/- the least that fits from here on -/
theorem j_least_loop (hF : 3000 ≤ F) (hT : TOK n T) (hs : smlT T = true) (hn : vN (tU T) ≠ 0) {q : Nat} (q3 : FO (vK (tU T) (tN T).1) (vE (tU T) (tN T).1) (vF (tU T) (tN T).1)) :
    ∀ (k i M M2 : Nat) (S S2 : HS), i + k = tB (tU T) (tN T).1 → k < M → k < M2 → RX N S x A b c nx T → FM S q (vK (tU T) (tN T).1) (vE (tU T) (tN T).1) (vF (tU T) (tN T).1) → RY N2 S2 m B T →
    ∃ v S' S2', s_X11_least_L20 N F M x q (ii i) S = some (v, S') ∧ s_X12_least_L7 N2 F M2 m (ii i) S2 = some (v, S2') ∧ XE A S S' ∧ YE m B S2 S2' := by
  have hb := sml_b hs
  intro k
  induction k with
  | zero =>
    intro i M M2 S S2 hi hM hM2 hX q2 hY
    obtain ⟨M', rfl⟩ : ∃ M', M = M' + 1 := ⟨M - 1, by omega⟩
    obtain ⟨M2', rfl⟩ : ∃ M2', M2 = M2' + 1 := ⟨M2 - 1, by omega⟩
    have e : i = tB (tU T) (tN T).1 := by omega
    rw [s_X11_least_L20, x2_many q2, show (2 ^ (vE (tU T) (tN T).1 + vF (tU T) (tN T).1 + 1)) = tB (tU T) (tN T).1 from rfl, e, if_pos (by rw [ii_le (by omega) (by omega) (by omega) (by omega)]; omega)]
    rw [s_X12_least_L7, y_small hY hT, bd1_some, hs, decide_eq_true hn, if_neg (show ¬ b2 (true && true) = 0 by decide), y_allBits hY hT hn, bd1_some, if_pos (by rw [ii_le (by omega) (by omega) (by omega) (by omega)]; omega)]
    exact ⟨_, _, _, rfl, rfl, XE.refl _ _, YE.refl _ _ _⟩
  | succ k ih =>
    intro i M M2 S S2 hi hM hM2 hX q2 hY
    obtain ⟨M', rfl⟩ : ∃ M', M = M' + 1 := ⟨M - 1, by omega⟩
    obtain ⟨M2', rfl⟩ : ∃ M2', M2 = M2' + 1 := ⟨M2 - 1, by omega⟩
    have hi2 : i < tB (tU T) (tN T).1 := by omega
    obtain ⟨S1, s1, s2, s3⟩ := x_fits hF hT hn q3 hi2 hX q2
    obtain ⟨S3, t1, t2⟩ := y_seen hF hT hn hi2 hY
    rw [s_X11_least_L20, x2_many q2, show (2 ^ (vE (tU T) (tN T).1 + vF (tU T) (tN T).1 + 1)) = tB (tU T) (tN T).1 from rfl, if_neg (by rw [ii_le (by omega) (by omega) (by omega) (by omega)]; omega), s1, bd2_some]
    rw [s_X12_least_L7, y_small hY hT, bd1_some, hs, decide_eq_true hn, if_neg (show ¬ b2 (true && true) = 0 by decide), y_allBits hY hT hn, bd1_some, if_neg (show ¬ (ii ((tB (tU T) (tN T).1 : Nat) : Int) ≤ ii (i : Int)) by rw [ii_le (by omega) (by omega) (by omega) (by omega)]; omega), t1, bd2_some]
    simp only [b2_0, bnd_def, ofI, ii_add]
    cases hp : fitP T i
    · rw [if_pos rfl, if_pos rfl]
      obtain ⟨v, S', S2', r1, r2, r3, r4⟩ := ih (i + 1) M' M2' S1 S3 (by omega) (by omega) (by omega) (hX.xe s2) s3 (hY.ye t2)
      exact ⟨v, S', S2', r1, r2, s2.trans r3, t2.trans r4⟩
    · rw [if_neg tf, if_neg tf]
      exact ⟨_, _, _, rfl, rfl, s2, t2⟩
theorem j_least (hF : 3000 ≤ F) (hX : RX N S x A b c nx T) (hM : RY N2 S2 m B T) (hT : TOK n T) : ∃ v S' S2', s_X11_least N F x S = some (v, S') ∧ s_X12_least N2 F m S2 = some (v, S2') ∧ XE A S S' ∧ YE m B S2 S2' := by
  obtain ⟨S1, hS1, hM1, y0⟩ := base0 hM 0
  obtain ⟨u1, u2⟩ := x_inUse hX.1 hX.2.1 hT.2.1
  unfold s_X11_least s_X12_least
  rw [bnd_def, ← hS1]
  obtain ⟨F', rfl⟩ : ∃ F', F = F' + 1 := ⟨F - 1, by omega⟩
  by_cases hn : vN (tU T) = 0
  · rw [u1 hn, bd1_some, mq_none, s_X12_least_L7, y_small hM1 hT, bd1_some, if_pos (by simp [hn]; rfl)]; exact ⟨_, _, _, rfl, rfl, XE.refl _ _, y0⟩
  obtain ⟨o, o1, o2, o3⟩ := u2 hn
  rw [o1, bd1_some, mq_some, x2_isSmall o2 o3, show decide (vE (tU T) (tN T).1 + vF (tU T) (tN T).1 ≤ 9) = smlT T from rfl]
  simp only [b2_0]
  cases hs : smlT T
  · rw [if_pos rfl, s_X12_least_L7, y_small hM1 hT, bd1_some, hs, if_pos (by simp; rfl)]; exact ⟨_, _, _, rfl, rfl, XE.refl _ _, y0⟩
  have hb := sml_b hs
  rw [if_neg tf]
  obtain ⟨v, S', S2', r1, r2, r3, r4⟩ := j_least_loop (N2 := N2) (m := m) (B := B) hF hT hs hn o3 (tB (tU T) (tN T).1) 0 (F' + 1) (F' + 1) S S1 (by omega) (by omega) (by omega) hX o2 hM1
  exact ⟨v, S', S2', r1, r2, r3, y0.trans r4⟩
end J6
end
section
def plyP (T : TT) (v : Nat) : Nat → Nat × Nat
  | 0 => ((tN T).2.2.2 (vR (tU T) - 1), 0)
  | k + 1 => ((sumT T (tN T).2.1 (plyP T v k).1 v ((tN T).2.2.2 (vR (tU T) - 2 - k))).1, (plyP T v k).2 ||| (sumT T (tN T).2.1 (plyP T v k).1 v ((tN T).2.2.2 (vR (tU T) - 2 - k))).2.1)
def totP (T : TT) : Nat → Nat
  | 0 => 0
  | k + 1 => (sumT T (tN T).2.1 (oneT T) ((tN T).2.2.2 k) (totP T k)).1
section J7
variable {N N2 : Nat → Nat} {F : Nat} {S S2 : HS} {x m : Nat} {A B : Nat → Nat} {b c nx n : Nat} {T : TT}
theorem y_reg (hM : RY N2 S2 m B T) {r : Nat} (hr : r < 6) : gR S2 1217 m = some (B 11) ∧ inB (ii ((4 + r : Nat) : Int)) (N2 (B 11)) = true ∧ aI S2 (B 11) (ii ((4 + r : Nat) : Int)).toNatClampNeg = ii ((tN T).2.2.2 r) := by
  obtain ⟨h1, h2⟩ := y_st hM.1
  refine ⟨h1, by rw [h2]; exact in_of (z := 4 + r) rfl (by omega) (by decide), ?_⟩
  rw [cl_of (z := 4 + r) rfl (by omega)]
  have := hM.2.1.1.2.2.2 r hr
  rw [show 0 + 4 + r = 4 + r by omega] at this
  exact this
theorem plyP_b (hT : TOK n T) (hn : vN (tU T) ≠ 0) (hr : vR (tU T) ≠ 0) (v : Nat) : ∀ k, (plyP T v k).1 < tB (tU T) (tN T).1 ∧ (plyP T v k).2 < 16
  | 0 => ⟨hT.2.1.2.2.2 _ (by omega), by show (0 : Nat) < 16; omega⟩
  | k + 1 => by
    have ih := plyP_b hT hn hr v k
    have sb := sumT_b hT hn (tN T).2.1 (plyP T v k).1 v ((tN T).2.2.2 (vR (tU T) - 2 - k))
    exact ⟨sb.1, or16 ih.2 sb.2.1⟩
theorem x_poly_loop (hF : 3000 ≤ F) (hT : TOK n T) (hn : vN (tU T) ≠ 0) (hr : vR (tU T) ≠ 0) {q : Nat} (q3 : FO (vK (tU T) (tN T).1) (vE (tU T) (tN T).1) (vF (tU T) (tN T).1)) {v : Nat} (hv : v < tB (tU T) (tN T).1) (w : Int32) (cont : Int32 → Int32 → Int32 → HS → Option (Int32 × HS)) :
    ∀ (j k M : Nat) (S : HS), k + j = vR (tU T) - 1 → j < M → RX N S x A b c nx T → FM S q (vK (tU T) (tN T).1) (vE (tU T) (tN T).1) (vF (tU T) (tN T).1) →
    ∃ S', s_X11_poly_L63 N F cont M x (ii v) w q (ii (plyP T v k).1) (ii (plyP T v k).2) (ii ((vR (tU T) : Int) - 2 - k)) S = cont w (ii (plyP T v (vR (tU T) - 1)).1) (ii (plyP T v (vR (tU T) - 1)).2) S' ∧ XE A S S' := by
  have hr6 := hT.1.2.1
  intro j
  induction j with
  | zero =>
    intro k M S hk hM hX q2
    obtain ⟨M', rfl⟩ : ∃ M', M = M' + 1 := ⟨M - 1, by omega⟩
    rw [s_X11_poly_L63, if_pos (by rw [k0, ii_lt (by omega) (by omega) (by omega) (by omega)]; omega)]
    exact ⟨S, by rw [show k = vR (tU T) - 1 by omega], XE.refl _ _⟩
  | succ j ih =>
    intro k M S hk hM hX q2
    obtain ⟨M', rfl⟩ : ∃ M', M = M' + 1 := ⟨M - 1, by omega⟩
    obtain ⟨a1, a2, a3, a4, a5, a6⟩ := x_add hX
    have pb := plyP_b hT hn hr v k
    have hrg := hT.2.1.2.2.2 (vR (tU T) - 2 - k) (by omega)
    obtain ⟨S1, s1, s2, s3, s4⟩ := x_sumT hF hX hT q2 q3 hT.2.1.2.1 pb.1 hv hrg
    obtain ⟨S', r1, r2⟩ := ih (k + 1) M' S1 (by omega) (by omega) (hX.xe s2) s4
    have ei : ii ((vR (tU T) : Int) - 2 - k) = ii ((vR (tU T) - 2 - k : Nat) : Int) := by congr 1; omega
    rw [ei, s_X11_poly_L63, if_neg (by rw [k0, ii_lt (by omega) (by omega) (by omega) (by omega)]; omega), a1, bd1_some, a2, bd1_some, bd1_some, x_read hX.1 hX.2.1 (by decide) _ (show vR (tU T) - 2 - k < 6 by omega), bd1_some, a3, s1, bd1_some, gR_of s2.2.1, a1, bd1_some, bnd_def, bd1_some, bnd_def, bnd_def, s3.1, s3.2.1, ii_or, ofI, ii_add]
    refine ⟨S', ?_, s2.trans r2⟩
    rw [show ((vR (tU T) - 2 - k : Nat) : Int) + -1 = (vR (tU T) : Int) - 2 - ((k + 1 : Nat) : Int) by omega]
    exact r1
theorem y_poly_loop (hF : 3000 ≤ F) (hT : TOK n T) (hn : vN (tU T) ≠ 0) (hr : vR (tU T) ≠ 0) {v : Nat} (hv : v < tB (tU T) (tN T).1) (w : Int32) (cont : Int32 → Int32 → Int32 → HS → Option (Int32 × HS)) :
    ∀ (j k M : Nat) (S : HS), k + j = vR (tU T) - 1 → j < M → RY N2 S m B T →
    ∃ S', s_X12_poly_L60 N2 F cont M m (ii v) w (ii (plyP T v k).1) (ii (plyP T v k).2) (ii ((vR (tU T) : Int) - 2 - k)) S = cont w (ii (plyP T v (vR (tU T) - 1)).1) (ii (plyP T v (vR (tU T) - 1)).2) S' ∧ YE m B S S' := by
  have hr6 := hT.1.2.1
  intro j
  induction j with
  | zero =>
    intro k M S hk hM hX
    obtain ⟨M', rfl⟩ : ∃ M', M = M' + 1 := ⟨M - 1, by omega⟩
    rw [s_X12_poly_L60, if_pos (by rw [k0, ii_lt (by omega) (by omega) (by omega) (by omega)]; omega)]
    exact ⟨S, by rw [show k = vR (tU T) - 1 by omega], YE.refl _ _ _⟩
  | succ j ih =>
    intro k M S hk hM hX
    obtain ⟨M', rfl⟩ : ∃ M', M = M' + 1 := ⟨M - 1, by omega⟩
    have pb := plyP_b hT hn hr v k
    have hrg := hT.2.1.2.2.2 (vR (tU T) - 2 - k) (by omega)
    obtain ⟨S1, s1, s2, s3⟩ := y_sumNow hF hX hT hn pb.1 hv hrg
    obtain ⟨S', r1, r2⟩ := ih (k + 1) M' S1 (by omega) (by omega) (hX.ye s2)
    obtain ⟨g1, g2, g3⟩ := y_reg hX (show vR (tU T) - 2 - k < 6 by omega)
    have ei : ii ((vR (tU T) : Int) - 2 - k) = ii ((vR (tU T) - 2 - k : Nat) : Int) := by congr 1; omega
    have e4 : (4 : Int32) + ii ((vR (tU T) - 2 - k : Nat) : Int) = ii ((4 + (vR (tU T) - 2 - k) : Nat) : Int) := by rw [k4, ii_add]; rfl
    rw [ei, s_X12_poly_L60, if_neg (by rw [k0, ii_lt (by omega) (by omega) (by omega) (by omega)]; omega), g1, bd1_some, e4, if_pos g2, g3, s1, bd2_some, bnd_def, bnd_def, s3.1, ii_or, ofI, ii_add]
    refine ⟨S', ?_, s2.trans r2⟩
    rw [show ((vR (tU T) - 2 - k : Nat) : Int) + -1 = (vR (tU T) : Int) - 2 - ((k + 1 : Nat) : Int) by omega]
    exact r1
theorem j_poly (hF : 3000 ≤ F) (hX : RX N S x A b c nx T) (hM : RY N2 S2 m B T) (hT : TOK n T) (p r : Int32) : ∃ v S' S2', s_X11_poly N F x p r S = some (v, S') ∧ s_X12_poly N2 F m p r S2 = some (v, S2') ∧ XE A S S' ∧ YE m B S2 S2' := by
  obtain ⟨S1, hS1, hM1, y0⟩ := base0 hM 0
  obtain ⟨a1, a2, a3, a4, a5, a6⟩ := x_add hX
  obtain ⟨g1, g2⟩ := x_hold hX.1 hX.2.1 hT.2.1 p
  obtain ⟨y, rfl, y1, y2⟩ := zI r
  have hr6 := hT.1.2.1
  have ew : s_X12_within (ii y) 0 1 S1 = b2 (decide (0 ≤ y ∧ y ≤ 1)) := y_within y 0 1 y1 y2 (by omega) (by omega) (by omega) (by omega)
  have e9 : gI S 904 (A (23 + 4 * b)) = ii (vR (tU T)) := hX.1.2.2.2.1.2.2.2.2.1
  have c1 : (ii y < (0 : Int32)) = (y < 0) := ii_lt (b := 0) y1 y2 (by omega) (by omega)
  have c2 : ((1 : Int32) < ii y) = (1 < y) := ii_lt (a := 1) (by omega) (by omega) y1 y2
  have c3 : (ii y = (0 : Int32)) = (y = 0) := ii_eq (b := 0) y1 y2 (by omega) (by omega)
  have c4 : (ii (vR (tU T) : Int) = (0 : Int32)) = (vR (tU T) = 0) := by rw [k0, ii_eq (by omega) (by omega) (by omega) (by omega)]; apply propext; omega
  unfold s_X11_poly s_X12_poly
  rw [bnd_def, ← hS1, y_used hM1.1 hM1.2.1.1, bd1_some, y_isBits hM1.1 hT.2.1, bd1_some, y_regs hM1.1, bd1_some, ew]
  simp only [b2_0, c1, c2, c4, decide_eq_false_iff_not]
  cases hh : hld (tU T) (tN T) p
  · rw [g1 hh, bd1_some, mq_none, if_pos (show false = false from rfl)]
    exact ⟨_, _, _, rfl, rfl, XE.refl _ _, y0⟩
  obtain ⟨o, o1, o2, o3⟩ := g2 hh
  obtain ⟨v, rfl, hv, hn, _⟩ := hld_ex hT.2.1 hh
  rw [o1, bd1_some, mq_some, if_neg tf, a6, bd1_some, e9]
  simp only [c4]
  by_cases hr : vR (tU T) = 0
  · rw [if_pos (show vR (tU T) = 0 from hr), if_pos (show vR (tU T) = 0 from hr)]
    by_cases w1 : y < 0
    · rw [if_pos w1]; exact ⟨_, _, _, rfl, rfl, XE.refl _ _, y0⟩
    · rw [if_neg w1]
      by_cases w2 : 1 < y
      · rw [if_pos w2]; exact ⟨_, _, _, rfl, rfl, XE.refl _ _, y0⟩
      · rw [if_neg w2]; exact ⟨_, _, _, rfl, rfl, XE.refl _ _, y0⟩
  rw [if_neg hr, if_neg hr]
  by_cases w : 0 ≤ y ∧ y ≤ 1
  · obtain ⟨m1, m2, m3⟩ := y_reg hM1 (show vR (tU T) - 1 < 6 by omega)
    have e1 : ii (vR (tU T) : Int) - 1 = ii ((vR (tU T) - 1 : Nat) : Int) := by rw [k1, ii_sub]; congr 1; omega
    have e2 : ii (vR (tU T) : Int) - 2 = ii ((vR (tU T) : Int) - 2 - (0 : Nat)) := by rw [k2, ii_sub]; congr 1; omega
    have e3 : (4 : Int32) + ii (vR (tU T) : Int) - 1 = ii ((4 + (vR (tU T) - 1) : Nat) : Int) := by rw [k4, k1, ii_add, ii_sub]; congr 1; omega
    rw [if_neg (show ¬ y < 0 by omega), if_neg (show ¬ 1 < y by omega), if_neg (fun q => q w), a2, bd1_some, bd1_some, e9, e1, x_read hX.1 hX.2.1 (by decide) _ (show vR (tU T) - 1 < 6 by omega), bd1_some, bd1_some, e9, bnd_def, e2, m1, bd1_some, bd1_some, e3, if_pos m2, m3, bnd_def, bd1_some, bnd_def, e2]
    obtain ⟨S3, s1, s2⟩ := x_poly_loop (x := x) hF hT hn hr o3 hv (ii y) (s_X11_poly_J122 N F) (vR (tU T) - 1) 0 F S (by omega) (by omega) hX o2
    obtain ⟨S4, t1, t2⟩ := y_poly_loop (m := m) hF hT hn hr hv (ii y) (s_X12_poly_J96 N2 F) (vR (tU T) - 1) 0 F S1 (by omega) (by omega) hM1
    have s1' : s_X11_poly_L63 N F (s_X11_poly_J122 N F) F x (ii v) (ii y) o (ii ((tN T).2.2.2 (vR (tU T) - 1))) 0 (ii ((vR (tU T) : Int) - 2 - (0 : Nat))) S = _ := s1
    have t1' : s_X12_poly_L60 N2 F (s_X12_poly_J96 N2 F) F m (ii v) (ii y) (ii ((tN T).2.2.2 (vR (tU T) - 1))) 0 (ii ((vR (tU T) : Int) - 2 - (0 : Nat))) S1 = _ := t1
    rw [s1', t1']
    unfold s_X11_poly_J122 s_X12_poly_J96
    simp only [c3]
    split
    · exact ⟨_, _, _, rfl, rfl, s2, y0.trans t2⟩
    · exact ⟨_, _, _, rfl, rfl, s2, y0.trans t2⟩
  · rw [if_pos w]
    by_cases w1 : y < 0
    · rw [if_pos w1]; exact ⟨_, _, _, rfl, rfl, XE.refl _ _, y0⟩
    · rw [if_neg w1, if_pos (show 1 < y by omega)]; exact ⟨_, _, _, rfl, rfl, XE.refl _ _, y0⟩
theorem totP_b (hT : TOK n T) (hn : vN (tU T) ≠ 0) : ∀ k, totP T k < tB (tU T) (tN T).1
  | 0 => Nat.two_pow_pos _
  | k + 1 => (sumT_b hT hn _ _ _ _).1
theorem x_total_loop (hF : 3000 ≤ F) (hT : TOK n T) (hn : vN (tU T) ≠ 0) {q : Nat} (q3 : FO (vK (tU T) (tN T).1) (vE (tU T) (tN T).1) (vF (tU T) (tN T).1)) :
    ∀ (j k M : Nat) (S : HS), k + j = vR (tU T) → j < M → RX N S x A b c nx T → FM S q (vK (tU T) (tN T).1) (vE (tU T) (tN T).1) (vF (tU T) (tN T).1) →
    ∃ S', s_X11_total_L15 N F M x q (ii (totP T k)) (ii k) S = some (ii (totP T (vR (tU T))), S') ∧ XE A S S' := by
  have hr6 := hT.1.2.1
  intro j
  induction j with
  | zero =>
    intro k M S hk hM hX q2
    obtain ⟨M', rfl⟩ : ∃ M', M = M' + 1 := ⟨M - 1, by omega⟩
    have e9 : gI S 904 (A (23 + 4 * b)) = ii (vR (tU T)) := hX.1.2.2.2.1.2.2.2.2.1
    rw [s_X11_total_L15, (x_add hX).2.2.2.2.2, bd1_some, e9, if_pos (by rw [ii_le (by omega) (by omega) (by omega) (by omega)]; omega)]
    exact ⟨S, by rw [show k = vR (tU T) by omega], XE.refl _ _⟩
  | succ j ih =>
    intro k M S hk hM hX q2
    obtain ⟨M', rfl⟩ : ∃ M', M = M' + 1 := ⟨M - 1, by omega⟩
    obtain ⟨a1, a2, a3, a4, a5, a6⟩ := x_add hX
    have e9 : gI S 904 (A (23 + 4 * b)) = ii (vR (tU T)) := hX.1.2.2.2.1.2.2.2.2.1
    have ho := oneT_lt hT hn
    have hrg := hT.2.1.2.2.2 k (by omega)
    obtain ⟨S1, s1, s2, s3, s4⟩ := x_sumT hF hX hT q2 q3 hT.2.1.2.1 ho hrg (totP_b hT hn k)
    obtain ⟨S', r1, r2⟩ := ih (k + 1) M' S1 (by omega) (by omega) (hX.xe s2) s4
    rw [s_X11_total_L15, a6, bd1_some, e9, if_neg (by rw [ii_le (by omega) (by omega) (by omega) (by omega)]; omega), a1, bd1_some, a2, bd1_some, bd1_some, x_read hX.1 hX.2.1 (by decide) _ (show k < 6 by omega), bd1_some, a3, x2_one q2 q3, nOne_eq q3, show nOne (vE (tU T) (tN T).1) (vF (tU T) (tN T).1) = oneT T from rfl, s1, bd1_some, gR_of s2.2.1, a1, bd1_some, bnd_def, bnd_def, s3.1, ofI, ii_add]
    exact ⟨S', r1, s2.trans r2⟩
theorem y_total_loop (hF : 3000 ≤ F) (hT : TOK n T) (hn : vN (tU T) ≠ 0) :
    ∀ (j k M : Nat) (S : HS), k + j = vR (tU T) → j < M → RY N2 S m B T →
    ∃ S', s_X12_total_L18 N2 F M m (ii (totP T k)) (ii k) S = some (ii (totP T (vR (tU T))), S') ∧ YE m B S S' := by
  have hr6 := hT.1.2.1
  intro j
  induction j with
  | zero =>
    intro k M S hk hM hX
    obtain ⟨M', rfl⟩ : ∃ M', M = M' + 1 := ⟨M - 1, by omega⟩
    rw [s_X12_total_L18, y_regs hX.1, bd1_some, if_pos (by rw [ii_le (by omega) (by omega) (by omega) (by omega)]; omega)]
    exact ⟨S, by rw [show k = vR (tU T) by omega], YE.refl _ _ _⟩
  | succ j ih =>
    intro k M S hk hM hX
    obtain ⟨M', rfl⟩ : ∃ M', M = M' + 1 := ⟨M - 1, by omega⟩
    have ho := oneT_lt hT hn
    have hrg := hT.2.1.2.2.2 k (by omega)
    obtain ⟨_, _, _, hus, _⟩ := base1 hX hT hn
    obtain ⟨_, _, _, _, yo⟩ := y_q hX hT hn ho
    obtain ⟨S1, s1, s2, s3⟩ := y_sumNow hF hX hT hn ho hrg (totP_b hT hn k)
    obtain ⟨S', r1, r2⟩ := ih (k + 1) M' S1 (by omega) (by omega) (hX.ye s2)
    obtain ⟨g1, g2, g3⟩ := y_reg hX (show k < 6 by omega)
    have e4 : (4 : Int32) + ii (k : Int) = ii ((4 + k : Nat) : Int) := by rw [k4, ii_add]; rfl
    rw [s_X12_total_L18, y_regs hX.1, bd1_some, if_neg (by rw [ii_le (by omega) (by omega) (by omega) (by omega)]; omega), hus, bd1_some, yo, bd1_some, g1, bd1_some, e4, if_pos g2, g3, s1, bd2_some, bnd_def, ofI, ii_add]
    exact ⟨S', r1, s2.trans r2⟩
theorem j_total (hF : 3000 ≤ F) (hX : RX N S x A b c nx T) (hM : RY N2 S2 m B T) (hT : TOK n T) : ∃ v S' S2', s_X11_total N F x S = some (v, S') ∧ s_X12_total N2 F m S2 = some (v, S2') ∧ XE A S S' ∧ YE m B S2 S2' := by
  obtain ⟨S1, hS1, hM1, y0⟩ := base0 hM 0
  obtain ⟨u1, u2⟩ := x_inUse hX.1 hX.2.1 hT.2.1
  have hr6 := hT.1.2.1
  have hl4 := hT.1.1
  unfold s_X11_total s_X12_total
  rw [bnd_def, ← hS1]
  by_cases hn : vN (tU T) = 0
  · rw [u1 hn, bd1_some, mq_none, y_used hM1.1 hM1.2.1.1, bd1_some, show fI (tU T) (tN T).1 = -1 from if_pos hn, if_neg (by decide)]; exact ⟨_, _, _, rfl, rfl, XE.refl _ _, y0⟩
  obtain ⟨o, o1, o2, o3⟩ := u2 hn
  obtain ⟨h1, _, _, hus, _⟩ := base1 hM1 hT hn
  rw [o1, bd1_some, mq_some, hus, bd1_some, if_pos (by rw [k0, ii_le (by omega) (by omega) (by omega) (by omega)]; omega)]
  obtain ⟨S3, s1, s2⟩ := x_total_loop hF hT hn o3 (vR (tU T)) 0 F S (by omega) (by omega) hX o2
  obtain ⟨S4, t1, t2⟩ := y_total_loop hF hT hn (vR (tU T)) 0 F S1 (by omega) (by omega) hM1
  exact ⟨_, _, _, s1, t1, s2, y0.trans t2⟩
end J7
end
