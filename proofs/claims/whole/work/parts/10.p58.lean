section
/- nothing changes but the model's facts, pile and state, and what a sum leaves -/
def VG (m : Nat) (B : Nat → Nat) (S S' : HS) : Prop :=
  (∀ f p, ¬ (p = m ∧ 1220 ≤ f ∧ f ≤ 1224) → gI S' f p = gI S f p) ∧ S'.2.1 = S.2.1 ∧ S'.2.2.1 = S.2.2.1 ∧ (∀ p, p ≠ B 9 → p ≠ B 10 → p ≠ B 11 → aI S' p = aI S p) ∧ S'.2.2.2.2 = S.2.2.2.2
theorem VG.refl (m : Nat) (B : Nat → Nat) (S : HS) : VG m B S S := ⟨fun _ _ _ => rfl, rfl, rfl, fun _ _ _ _ => rfl, rfl⟩
theorem VG.trans {m : Nat} {B : Nat → Nat} {S S1 S2 : HS} (h1 : VG m B S S1) (h2 : VG m B S1 S2) : VG m B S S2 :=
  ⟨fun f p a => (h2.1 f p a).trans (h1.1 f p a), h2.2.1.trans h1.2.1, h2.2.2.1.trans h1.2.2.1, fun p a b c => (h2.2.2.2.1 p a b c).trans (h1.2.2.2.1 p a b c), h2.2.2.2.2.trans h1.2.2.2.2⟩
theorem VG.row {m : Nat} {B : Nat → Nat} {S S1 : HS} (h : VG m B S S1) (i : Nat) (v : Int32) : VG m B S (wI S1 (B 11) i v) :=
  ⟨h.1, h.2.1, h.2.2.1, fun p a b c => (aI_wI_o S1 _ i v c).trans (h.2.2.2.1 p a b c), h.2.2.2.2⟩
theorem YF.vg {m : Nat} {B : Nat → Nat} {S S' : HS} (h : YF m (B 9) (B 10) S S') : VG m B S S' := ⟨h.1, h.2.1, h.2.2.1, fun p a b _ => h.2.2.2.1 p a b, h.2.2.2.2⟩
theorem VG.wf {m : Nat} {B : Nat → Nat} {S S' : HS} (h : VG m B S S') : WF m B S S' := ⟨fun f p _ _ c => h.1 f p c, h.2.2.1, fun p a b c _ _ => h.2.2.2.1 p a b c, h.2.2.2.2⟩
theorem VG.ye {m : Nat} {B : Nat → Nat} {S S' : HS} (h : VG m B S S') (hr : ∀ i, i < 588 → aI S' (B 11) i = aI S (B 11) i) : YE m B S S' :=
  ⟨fun f p _ b => h.1 f p b, h.2.2.1, fun p a b c _ => h.2.2.2.1 p a b c, hr, h.2.2.2.2⟩
theorem YW.vg {N : Nat → Nat} {S S' : HS} {m : Nat} {B : Nat → Nat} {U : UNt} (h : YW N S m B U) (hF : VG m B S S') : YW N S' m B U := h.wf hF.wf
section MROWS
variable {N : Nat → Nat} {F : Nat} {S : HS} {m : Nat} {B : Nat → Nat} {U : UNt} {t : STt}
theorem y_moves_loop (h1 : gR S 1217 m = some (B 11)) (h2 : N (B 11) = 616) {fr to : Nat} (hf : fr + 10 ≤ 616) (ht : to + 10 ≤ 616) (hd : fr + 10 ≤ to ∨ to + 10 ≤ fr) : ∀ (k j M : Nat) (S1 : HS), j + k = 10 → k < M → VG m B S S1 → S1.1 = S.1 → (∀ i, aI S1 (B 11) i = if to ≤ i ∧ i < to + j then aI S (B 11) (fr + (i - to)) else aI S (B 11) i) →
    ∃ S', s_X12_moves_L3 N F M m (ii fr) (ii to) (ii (10 : Nat)) (ii j) S1 = some S' ∧ VG m B S S' ∧ S'.1 = S.1 ∧ ∀ i, aI S' (B 11) i = if to ≤ i ∧ i < to + 10 then aI S (B 11) (fr + (i - to)) else aI S (B 11) i := by
  intro k
  induction k with
  | zero =>
    intro j M S1 hj hM hv hs hr
    obtain ⟨M', rfl⟩ : ∃ M', M = M' + 1 := ⟨M - 1, by omega⟩
    rw [s_X12_moves_L3, if_pos (by rw [ii_le (by omega) (by omega) (by omega) (by omega)]; omega)]
    have : j = 10 := by omega
    subst this
    exact ⟨S1, rfl, hv, hs, hr⟩
  | succ k ih =>
    intro j M S1 hj hM hv hs hr
    obtain ⟨M', rfl⟩ : ∃ M', M = M' + 1 := ⟨M - 1, by omega⟩
    have e1 : ii (fr : Int) + ii (j : Int) = ii (fr + j : Nat) := by rw [ii_add]; rfl
    have e2 : ii (to : Int) + ii (j : Int) = ii (to + j : Nat) := by rw [ii_add]; rfl
    rw [s_X12_moves_L3, if_neg (by rw [ii_le (by omega) (by omega) (by omega) (by omega)]; omega), gR_of hv.2.2.1, h1, bd1_some, bd1_some, e1, e2, h2, if_pos (in_of (z := fr + j) rfl (by omega) (by decide)), if_pos (in_of (z := to + j) rfl (by omega) (by decide)), cl_of (z := fr + j) rfl (by omega), cl_of (z := to + j) rfl (by omega), bnd_def, bnd_def, ofI, ii_add]
    refine ih (j + 1) M' _ (by omega) (by omega) (hv.row _ _) hs (fun i => ?_)
    rw [aI_wI_s]
    dsimp only
    by_cases q : i = to + j
    · rw [if_pos q, if_pos (by omega), hr, if_neg (by omega)]
      congr 1; omega
    · rw [if_neg q, hr]
      by_cases q2 : to ≤ i ∧ i < to + j
      · rw [if_pos q2, if_pos (by omega)]
      · rw [if_neg q2, if_neg (by omega)]
theorem y_moves (hF : 11 ≤ F) (h1 : gR S 1217 m = some (B 11)) (h2 : N (B 11) = 616) {fr to : Nat} (hf : fr + 10 ≤ 616) (ht : to + 10 ≤ 616) (hd : fr + 10 ≤ to ∨ to + 10 ≤ fr) :
    ∃ S', s_X12_moves N F m (ii fr) (ii to) 10 S = some S' ∧ VG m B S S' ∧ S'.1 = S.1 ∧ ∀ i, aI S' (B 11) i = if to ≤ i ∧ i < to + 10 then aI S (B 11) (fr + (i - to)) else aI S (B 11) i := by
  exact y_moves_loop (F := F) h1 h2 hf ht hd 10 0 F S (by omega) (by omega) (VG.refl _ _ _) rfl (fun i => by rw [if_neg (by omega)])
theorem YST.move {W W' : Nat → Int32} {fr to : Nat} (h : YST W fr U t) (hw : ∀ i, i < 10 → W' (to + i) = W (fr + i)) : YST W' to U t := by
  have e0 := hw 0 (by omega)
  rw [Nat.add_zero, Nat.add_zero] at e0
  refine ⟨by rw [e0]; exact h.1, by rw [hw 1 (by omega)]; exact h.2.1, by rw [hw 2 (by omega)]; exact h.2.2.1, fun r hr => ?_⟩
  rw [Nat.add_assoc, hw (4 + r) (by omega), ← Nat.add_assoc]; exact h.2.2.2 r hr
/- the shift of the sixteen kept states -/
theorem y_shift_loop (hF : 11 ≤ F) (h1 : gR S 1217 m = some (B 11)) (h2 : N (B 11) = 616) (cont : Nat → HS → Option HS) : ∀ (k j M : Nat) (S1 : HS), j + k = 16 → 1 ≤ j → k < M → VG m B S S1 → S1.1 = S.1 → (∀ q c, c < 10 → 5 ≤ q → q < 21 → aI S1 (B 11) (28 * q + c) = if q < 4 + j then aI S (B 11) (28 * (q + 1) + c) else aI S (B 11) (28 * q + c)) → (∀ i, i < 140 ∨ 588 ≤ i → aI S1 (B 11) i = aI S (B 11) i) →
    ∃ S', s_X12_keeps_L11 N F cont M m (ii j) S1 = cont m S' ∧ VG m B S S' ∧ S'.1 = S.1 ∧ (∀ q c, c < 10 → 5 ≤ q → q < 21 → aI S' (B 11) (28 * q + c) = if q < 20 then aI S (B 11) (28 * (q + 1) + c) else aI S (B 11) (28 * q + c)) ∧ ∀ i, i < 140 ∨ 588 ≤ i → aI S' (B 11) i = aI S (B 11) i := by
  intro k
  induction k with
  | zero =>
    intro j M S1 hj hj1 hM hv hs hr ho
    obtain ⟨M', rfl⟩ : ∃ M', M = M' + 1 := ⟨M - 1, by omega⟩
    rw [s_X12_keeps_L11, if_pos (by rw [k16, ii_le (by omega) (by omega) (by omega) (by omega)]; omega)]
    have : j = 16 := by omega
    subst this
    exact ⟨S1, rfl, hv, hs, hr, ho⟩
  | succ k ih =>
    intro j M S1 hj hj1 hM hv hs hr ho
    obtain ⟨M', rfl⟩ : ∃ M', M = M' + 1 := ⟨M - 1, by omega⟩
    have e1 : (28 : Int32) * (5 + ii (j : Int)) = ii (28 * (5 + j) : Nat) := by rw [k5, ii_add, k28, ii_mul]; congr 1
    have e2 : (28 : Int32) * (5 + ii (j : Int) - 1) = ii (28 * (5 + j - 1) : Nat) := by rw [k5, ii_add, k1, ii_sub, k28, ii_mul]; congr 1; omega
    rw [s_X12_keeps_L11, if_neg (by rw [k16, ii_le (by omega) (by omega) (by omega) (by omega)]; omega), e1, e2]
    obtain ⟨S3, m1, m2, m3, m4⟩ := y_moves (F := F) (S := S1) (fr := 28 * (5 + j)) (to := 28 * (5 + j - 1)) hF (by rw [gR_of hv.2.2.1]; exact h1) h2 (by omega) (by omega) (by omega)
    rw [m1, bd1_some, bnd_def, ofI, ii_add]
    refine ih (j + 1) M' S3 (by omega) (by omega) (by omega) (hv.trans m2) (m3.trans hs) (fun q c hc q1 q2 => ?_) (fun i hi => ?_)
    · rw [m4]
      by_cases w : q = 4 + j
      · subst w
        rw [if_pos (by omega), if_pos (by omega), show 28 * (5 + j) + (28 * (4 + j) + c - 28 * (5 + j - 1)) = 28 * (5 + j) + c by omega, hr (5 + j) c hc (by omega) (by omega), if_neg (by omega)]
        congr 1; omega
      · rw [if_neg (by omega), hr q c hc q1 q2]
        by_cases w2 : q < 4 + j
        · rw [if_pos w2, if_pos (by omega)]
        · rw [if_neg w2, if_neg (by omega)]
    · rw [m4, if_neg (by omega)]; exact ho i hi
theorem YUN.shift {W W' : Nat → Int32} (hw : ∀ q c, c < 10 → 5 ≤ q → q < 20 → W' (28 * q + c) = W (28 * (q + 1) + c)) : ∀ {und : List (STt × Bool)} {n : Nat}, und.length ≤ 16 → YUN W U n und → YUN W' U n und.dropLast
  | [], _, _, _ => trivial
  | [e], n, _, h => trivial
  | (t, w) :: d :: r, n, hl, h => by
    have ih := YUN.shift hw (und := d :: r) (n := n - (if w then 1 else 0)) (by simp at hl ⊢; omega) h.2.2
    simp only [List.dropLast_cons_cons]
    have el : (d :: r).dropLast.length = r.length := by simp
    simp only [List.length_cons] at hl
    refine ⟨?_, ?_, ih⟩
    · rw [el]
      refine YST.move (fr := 28 * (5 + (d :: r).length)) h.1 (fun i hi => ?_)
      rw [hw (5 + r.length) i hi (by omega) (by omega)]
      congr 1
    · rw [el, hw (5 + r.length) 3 (by omega) (by omega) (by omega)]
      have := h.2.1
      simp only [List.length_cons] at this
      rw [show 28 * (5 + r.length + 1) + 3 = 28 * (5 + (r.length + 1)) + 3 by omega]
      exact this
theorem take15 {und : List (STt × Bool)} (h : und.length = 16) : und.take 15 = und.dropLast := by rw [List.dropLast_eq_take, h]
theorem y_keeps (hF : 3000 ≤ F) (hB : ∀ i j, B i = B j ↔ i = j) (h1 : gR S 1217 m = some (B 11)) (h2 : N (B 11) = 616) {und : List (STt × Bool)} {n : Nat} (hu : gI S 1218 m = ii und.length) (hl : und.length ≤ 16) (hU : YUN (aI S (B 11)) U n und) (hs : YST (aI S (B 11)) 0 U t) (h3 : aI S (B 11) 3 = ii n) (w : Bool) :
    ∃ S', s_X12_keeps N F m S = some S' ∧ WF m B S S' ∧ gI S' 1218 m = ii ((t, w) :: und.take 15).length ∧ YUN (aI S' (B 11)) U (n + (if w then 1 else 0)) ((t, w) :: und.take 15) ∧ (∀ i, i < 140 ∨ 588 ≤ i → aI S' (B 11) i = aI S (B 11) i) ∧ aI S' (B 12) = aI S (B 12) := by
  have last : ∀ (S1 : HS) (r : List (STt × Bool)), gR S1 1217 m = some (B 11) → gI S1 1218 m = ii r.length → r.length ≤ 15 → YUN (aI S1 (B 11)) U n r → YST (aI S1 (B 11)) 0 U t → aI S1 (B 11) 3 = ii n →
      ∃ S', s_X12_keeps_J53 N F m S1 = some S' ∧ WF m B S1 S' ∧ gI S' 1218 m = ii ((t, w) :: r).length ∧ YUN (aI S' (B 11)) U (n + (if w then 1 else 0)) ((t, w) :: r) ∧ (∀ i, i < 140 ∨ 588 ≤ i → aI S' (B 11) i = aI S1 (B 11) i) ∧ aI S' (B 12) = aI S1 (B 12) := by
    intro S1 r g1 g2 g3 g4 g5 g6
    have e1 : (28 : Int32) * (5 + ii (r.length : Int)) = ii (28 * (5 + r.length) : Nat) := by rw [k5, ii_add, k28, ii_mul]; congr 1
    unfold s_X12_keeps_J53
    rw [g2, e1]
    obtain ⟨S3, m1, m2, m3, m4⟩ := y_moves (F := F) (S := S1) (fr := 0) (to := 28 * (5 + r.length)) (by omega) g1 h2 (by omega) (by omega) (by omega)
    have m1' : s_X12_moves N F m 0 (ii (28 * (5 + r.length) : Nat)) 10 S1 = some S3 := m1
    rw [m1', bd1_some, bnd_def, gI_of m3, g2, k1, ii_add]
    refine ⟨_, rfl, m2.wf.und _, by rw [gI_uI, if_pos ⟨rfl, rfl⟩]; simp, ⟨?_, ?_, ?_⟩, fun i hi => ?_, ?_⟩
    · refine YST.move (fr := 0) g5 (fun i hi => ?_)
      show aI S3 (B 11) _ = _
      rw [m4, if_pos (by omega)]; congr 1; omega
    · show aI S3 (B 11) _ = _
      rw [m4, if_pos (by omega), show 0 + (28 * (5 + r.length) + 3 - 28 * (5 + r.length)) = 3 by omega, g6]
      congr 2; omega
    · rw [show n + (if w = true then 1 else 0) - (if w = true then 1 else 0) = n by omega]
      refine g4.congr (fun i i1 i2 => ?_)
      show aI S3 (B 11) _ = _
      rw [m4, if_neg (by omega)]
    · show aI S3 (B 11) _ = _
      rw [m4, if_neg (by omega)]
    · show aI S3 (B 12) = _
      exact m2.2.2.2.1 _ (by rw [ne_eq, hB]; decide) (by rw [ne_eq, hB]; decide) (by rw [ne_eq, hB]; decide)
  unfold s_X12_keeps
  rw [hu]
  by_cases hlen : und.length = 16
  · rw [if_pos (by rw [hlen]; rfl), take15 hlen]
    obtain ⟨S1, s1, s2, s3, s4, s5⟩ := y_shift_loop (F := F) (S := S) (by omega) h1 h2 (s_X12_keeps_J43 N F) 15 1 F S (by omega) (by omega) (by omega) (VG.refl _ _ _) rfl (fun q c hc q1 q2 => by rw [if_neg (by omega)]) (fun _ _ => rfl)
    rw [show s_X12_keeps_L11 N F (s_X12_keeps_J43 N F) F m 1 S = s_X12_keeps_L11 N F (s_X12_keeps_J43 N F) F m (ii (1 : Nat)) S from rfl, s1]
    unfold s_X12_keeps_J43
    rw [bnd_def, gI_of s3, hu]
    have hdl : und.dropLast.length = 15 := by simp [hlen]
    have eu : ii (und.length : Int) - 1 = ii (und.dropLast.length : Nat) := by rw [hdl, hlen, k1, ii_sub]; rfl
    rw [eu]
    obtain ⟨S', l1, l2, l3, l4, l5, l6⟩ := last (uI S1 1218 m (ii und.dropLast.length)) und.dropLast (by rw [gR_uI, gR_of s2.2.2.1]; exact h1) (by rw [gI_uI, if_pos ⟨rfl, rfl⟩]) (by omega) (YUN.shift (W := aI S (B 11)) (fun q c hc q1 q2 => by
        show aI S1 (B 11) _ = _
        rw [s4 q c hc q1 (by omega), if_pos q2]) (by omega) hU) (hs.congr (fun i _ i2 => s5 i (by omega))) (by
        show aI S1 (B 11) 3 = _
        rw [s5 3 (by omega)]; exact h3)
    refine ⟨S', l1, (s2.wf.und _).trans l2, l3, l4, fun i hi => (l5 i hi).trans (s5 i hi), l6.trans ?_⟩
    show aI S1 (B 12) = _
    exact s2.2.2.2.1 _ (by rw [ne_eq, hB]; decide) (by rw [ne_eq, hB]; decide) (by rw [ne_eq, hB]; decide)
  · rw [if_neg (by rw [k16, ii_eq (by omega) (by omega) (by omega) (by omega)]; omega)]
    have e : und.take 15 = und := List.take_of_length_le (by omega)
    rw [e]
    exact last S und h1 hu (by omega) hU hs h3
/- a sum of registers into one, at the state o -/
theorem y_mult (hF : 3000 ≤ F) (h : YW N S m B U) {o : Nat} (ho : o = 0 ∨ o = 588) (hs : YST (aI S (B 11)) o U t) (ht : SOK U t) (hn : vN U ≠ 0) (i p q c : Nat) (h7 : i < vR U ∧ p < vR U ∧ q < vR U ∧ c < vR U) :
    ∃ S', s_X12_multiplies N F m (ii o) (ii i) (ii p) (ii q) (ii c) S = some S' ∧ VG m B S S' ∧ YST (aI S' (B 11)) o U (fus U t i p q c) ∧ (∀ j, j < o ∨ o + 10 ≤ j → aI S' (B 11) j = aI S (B 11) j) ∧ aI S' (B 11) (o + 3) = aI S (B 11) (o + 3) ∧ gI S' 1220 m = ii (fusR U t p q c).2.1 ∧ aI S' (B 11) (o + 4 + i) = ii (fusR U t p q c).1 := by
  have hr6 := h.2.2.2.2.2.1
  have hB := h.1
  have ht1 : t.1 < vN U := by rcases ht.1 with r | r; exact r; exact absurd r.1 hn
  obtain ⟨mu, fo⟩ := y_mu h ht1
  obtain ⟨s1, s2⟩ := y_st h
  obtain ⟨w0, w1, w2, w4⟩ := hs
  have rg : ∀ r : Nat, r < 6 → inB (ii (o : Int) + 4 + ii (r : Int)) 616 = true ∧ (ii (o : Int) + 4 + ii (r : Int)).toNatClampNeg = o + 4 + r := by
    intro r hr
    have e : ii (o : Int) + 4 + ii (r : Int) = ii (o + 4 + r : Nat) := by rw [k4, ii_add, ii_add]; rfl
    rw [e]
    exact ⟨in_of (z := o + 4 + r) rfl (by omega) (by decide), cl_of (z := o + 4 + r) rfl (by omega)⟩
  have e0 : ii (o : Int) + 0 = ii (o : Nat) := by rw [k0, ii_add, Int.add_zero]
  have e1 : ii (o : Int) + 1 = ii (o + 1 : Nat) := by rw [k1, ii_add]; rfl
  have e2 : ii (o : Int) + 2 = ii (o + 2 : Nat) := by rw [k2, ii_add]; rfl
  have i0 : inB (ii (o : Int)) 616 = true := in_of (z := o) rfl (by omega) (by decide)
  have c0 : (ii (o : Int)).toNatClampNeg = o := cl_of (z := o) rfl (by omega)
  have i1 : inB (ii ((o + 1 : Nat) : Int)) 616 = true := in_of (z := o + 1) rfl (by omega) (by decide)
  have c1 : (ii ((o + 1 : Nat) : Int)).toNatClampNeg = o + 1 := cl_of (z := o + 1) rfl (by omega)
  have i2 : inB (ii ((o + 2 : Nat) : Int)) 616 = true := in_of (z := o + 2) rfl (by omega) (by decide)
  have c2 : (ii ((o + 2 : Nat) : Int)).toNatClampNeg = o + 2 := cl_of (z := o + 2) rfl (by omega)
  obtain ⟨ri, ci⟩ := rg i (by omega)
  obtain ⟨rp, cp⟩ := rg p (by omega)
  obtain ⟨rq, cq⟩ := rg q (by omega)
  obtain ⟨rc, cc⟩ := rg c (by omega)
  have ef : fI U t.1 = (t.1 : Int) := if_neg hn
  obtain ⟨S4, t1, t2, t3⟩ := y_sums (F := F) (by omega) (y_ml h) mu fo ht.2.1 (ht.2.2.2 p h7.2.1) (ht.2.2.2 q h7.2.2.1) (ht.2.2.2 c h7.2.2.2)
  have r4 : aI S4 (B 11) = aI S (B 11) := t2.2.2.2.1 _ (by rw [ne_eq, hB]; decide) (by rw [ne_eq, hB]; decide)
  unfold s_X12_multiplies
  rw [s1, bd1_some, bd1_some, bd1_some, bd1_some, bd1_some, s2, e0, if_pos i0, if_pos rp, if_pos rq, if_pos rc, e1, if_pos i1, c0, cp, cq, cc, c1, w0, w4 p (by omega), w4 q (by omega), w4 c (by omega), w1, ef, t1, bd2_some, gR_of t2.2.2.1, s1, bd1_some, s2, if_pos ri, ci, bnd_def, gR_wI, gR_of t2.2.2.1, s1, bd1_some, s2, e2, if_pos i2, if_pos i2, bnd_def, c2, aI_wI, if_neg (by omega), r4, w2, gI_wI, t3.1, ii_or]
  have eW : ∀ j, aI (wI (wI S4 (B 11) (o + 4 + i) (ii (sumF (vK U t.1) (vE U t.1) (vF U t.1) (lawB (vL U)) t.2.1 (t.2.2.2 p) (t.2.2.2 q) (t.2.2.2 c)).1)) (B 11) (o + 2) (ii ((t.2.2.1 ||| (sumF (vK U t.1) (vE U t.1) (vF U t.1) (lawB (vL U)) t.2.1 (t.2.2.2 p) (t.2.2.2 q) (t.2.2.2 c)).2.1 : Nat)))) (B 11) j = if j = o + 2 then ii ((t.2.2.1 ||| (fusR U t p q c).2.1 : Nat)) else if j = o + 4 + i then ii (fusR U t p q c).1 else aI S (B 11) j := by
    intro j
    rw [aI_wI_s]; dsimp only
    rw [aI_wI_s]; dsimp only
    rw [r4]; rfl
  refine ⟨_, rfl, (t2.vg.row _ _).row _ _, ⟨?_, ?_, ?_, fun r hr => ?_⟩, fun j hj => ?_, ?_, t3.1, ?_⟩
  · rw [eW, if_neg (by omega), if_neg (by omega)]; exact w0
  · rw [eW, if_neg (by omega), if_neg (by omega)]; exact w1
  · rw [eW, if_pos rfl]; rfl
  · rw [eW, if_neg (by omega)]
    show _ = ii (if r = i then _ else _ : Nat)
    by_cases hri : r = i
    · rw [if_pos (by omega), if_pos hri]
    · rw [if_neg (by omega), if_neg hri]; exact w4 r hr
  · rw [eW, if_neg (by omega), if_neg (by omega)]
  · rw [eW, if_neg (by omega), if_neg (by omega)]
  · rw [eW, if_neg (by omega), if_pos rfl]
end MROWS
end
section
section USES
variable {N : Nat → Nat} {F : Nat} {S : HS} {m : Nat} {B : Nat → Nat} {U : UNt} {t : STt}
theorem y_uses_loop (hF : 3000 ≤ F) {o g : Nat} (ho : o = 0 ∨ o = 588) (ht : SOK U t) (hn : t.1 < vN U) (hg : g < vN U) (cont : Nat → Int32 → Int32 → Int32 → HS → Option (Int32 × HS)) : ∀ (k r M : Nat) (S1 : HS), r + k = vR U → k < M → YW N S1 m B U → VG m B S S1 → YST (aI S1 (B 11)) o U (t.1, t.2.1, t.2.2.1, turRg U t g r) → (∀ j, j < o ∨ o + 10 ≤ j → aI S1 (B 11) j = aI S (B 11) j) → aI S1 (B 11) (o + 3) = aI S (B 11) (o + 3) →
    ∃ S', s_X12_uses_L5 N F cont M m (ii o) (ii g) (ii (turFl U t g r)) (ii r) S1 = cont m (ii o) (ii g) (ii (turFl U t g (vR U))) S' ∧ YW N S' m B U ∧ VG m B S S' ∧ YST (aI S' (B 11)) o U (t.1, t.2.1, t.2.2.1, turRg U t g (vR U)) ∧ (∀ j, j < o ∨ o + 10 ≤ j → aI S' (B 11) j = aI S (B 11) j) ∧ aI S' (B 11) (o + 3) = aI S (B 11) (o + 3) := by
  intro k
  induction k with
  | zero =>
    intro r M S1 hr hM h hv hs ho1 ho3
    obtain ⟨M', rfl⟩ : ∃ M', M = M' + 1 := ⟨M - 1, by omega⟩
    have hr6 := h.2.2.2.2.2.1
    have : r = vR U := by omega
    subst this
    rw [s_X12_uses_L5, y_regs h, bd1_some, if_pos (by rw [ii_le (by omega) (by omega) (by omega) (by omega)]; omega)]
    exact ⟨S1, rfl, h, hv, hs, ho1, ho3⟩
  | succ k ih =>
    intro r M S1 hr hM h hv hs ho1 ho3
    obtain ⟨M', rfl⟩ : ∃ M', M = M' + 1 := ⟨M - 1, by omega⟩
    have hr6 := h.2.2.2.2.2.1
    have h4 := h.2.2.2.2.1
    have hB := h.1
    obtain ⟨mu, fo⟩ := y_mu h hn
    obtain ⟨mu2, fo2⟩ := y_mu h hg
    obtain ⟨s1, s2⟩ := y_st h
    obtain ⟨w0, w1, w2, w4⟩ := hs
    have ef : fI U t.1 = (t.1 : Int) := by unfold fI; rw [if_neg (by omega)]
    have e0 : ii (o : Int) + 0 = ii (o : Nat) := by rw [k0, ii_add, Int.add_zero]
    have e1 : ii (o : Int) + 1 = ii (o + 1 : Nat) := by rw [k1, ii_add]; rfl
    have e4 : ii (o : Int) + 4 + ii (r : Int) = ii (o + 4 + r : Nat) := by rw [k4, ii_add, ii_add]; rfl
    have i0 : inB (ii (o : Int)) 616 = true := in_of (z := o) rfl (by omega) (by decide)
    have c0 : (ii (o : Int)).toNatClampNeg = o := cl_of (z := o) rfl (by omega)
    have i1 : inB (ii ((o + 1 : Nat) : Int)) 616 = true := in_of (z := o + 1) rfl (by omega) (by decide)
    have c1 : (ii ((o + 1 : Nat) : Int)).toNatClampNeg = o + 1 := cl_of (z := o + 1) rfl (by omega)
    have i4 : inB (ii ((o + 4 + r : Nat) : Int)) 616 = true := in_of (z := o + 4 + r) rfl (by omega) (by decide)
    have c4 : (ii ((o + 4 + r : Nat) : Int)).toNatClampNeg = o + 4 + r := cl_of (z := o + 4 + r) rfl (by omega)
    have en : turRg U t g r r = t.2.2.2 r := if_neg (by omega)
    have w4r := w4 r (by omega)
    dsimp only at w0 w1 w4r
    rw [en] at w4r
    rw [ef] at w0
    obtain ⟨S4, t1, t2, t3⟩ := y_turns (F := F) (by omega) (y_ml h) mu fo mu2 fo2 ht.2.1 (ht.2.2.2 r (by omega))
    have r4 : aI S4 (B 11) = aI S1 (B 11) := t2.2.2.2.1 _ (by rw [ne_eq, hB]; decide) (by rw [ne_eq, hB]; decide)
    rw [s_X12_uses_L5, y_regs h, bd1_some, if_neg (show ¬ ii (vR U : Int) ≤ ii (r : Int) by rw [ii_le (by omega) (by omega) (by omega) (by omega)]; omega), s1, bd1_some, s2, e0, if_pos i0, c0, w0, if_neg (show ¬ ii (t.1 : Int) < 0 by rw [k0, ii_lt (by omega) (by omega) (by omega) (by omega)]; omega), bd1_some, bd1_some, s2, if_pos i0, bd1_some, s2, e4, if_pos i4, bd1_some, s2, e1, if_pos i1, w0, c4, w4r, c1, w1, t1, bd2_some, show (conF (vK U t.1) (vE U t.1) (vF U t.1) (vK U g) (vE U g) (vF U g) (lawB (vL U)) t.2.1 (t.2.2.2 r)).1 = (turC U t g r).1 from rfl, if_pos i4, bnd_def, bnd_def, bnd_def, gI_wI, t3, ii_or, ofI, ii_add]
    have eW : ∀ j, aI (wI S4 (B 11) (o + 4 + r) (ii (turC U t g r).1)) (B 11) j = if j = o + 4 + r then ii (turC U t g r).1 else aI S1 (B 11) j := by
      intro j
      rw [aI_wI_s]; dsimp only
      rw [r4]
    have hv2 := (hv.trans t2.vg).row (o + 4 + r) (ii (turC U t g r).1)
    have hg2 : VG m B S1 (wI S4 (B 11) (o + 4 + r) (ii (turC U t g r).1)) := t2.vg.row (o + 4 + r) (ii (turC U t g r).1)
    exact ih (r + 1) M' _ (by omega) (by omega) (h.vg hg2) hv2 ⟨by rw [eW, if_neg (by omega), ef]; exact w0, by rw [eW, if_neg (by omega)]; exact w1, by rw [eW, if_neg (by omega)]; exact w2, fun j hj => by
      rw [eW]
      show _ = ii (turRg U t g (r + 1) j)
      have ej := w4 j hj
      dsimp only at ej
      unfold turRg at ej ⊢
      by_cases q : j = r
      · subst q; rw [if_pos rfl, if_pos (by omega)]
      · rw [if_neg (by omega), ej]
        by_cases q2 : j < r
        · rw [if_pos q2, if_pos (by omega)]
        · rw [if_neg q2, if_neg (by omega)]⟩ (fun j hj => by rw [eW, if_neg (by omega)]; exact ho1 j hj) (by rw [eW, if_neg (by omega)]; exact ho3)
theorem y_uses (hF : 3000 ≤ F) (h : YW N S m B U) {o g : Nat} (ho : o = 0 ∨ o = 588) (hs : YST (aI S (B 11)) o U t) (ht : SOK U t) (hg : g < vN U) :
    ∃ S', s_X12_uses N F m (ii o) (ii g) S = some (ii (turFl U t g (vR U)), S') ∧ VG m B S S' ∧ YST (aI S' (B 11)) o U (tur U t g) ∧ (∀ j, j < o ∨ o + 10 ≤ j → aI S' (B 11) j = aI S (B 11) j) ∧ aI S' (B 11) (o + 3) = aI S (B 11) (o + 3) := by
  have hn : t.1 < vN U := by rcases ht.1 with r | r; exact r; omega
  have hr6 := h.2.2.2.2.2.1
  obtain ⟨S1, l1, l2, l3, l4, l5, l6⟩ := y_uses_loop (F := F) (S := S) (g := g) hF ho ht hn hg (s_X12_uses_J81 N F) (vR U) 0 F S (by omega) (by omega) h (VG.refl _ _ _) (by
    have : turRg U t g 0 = t.2.2.2 := by funext r; exact if_neg (by omega)
    rw [this]; exact hs) (fun _ _ => rfl) rfl
  unfold s_X12_uses
  rw [show s_X12_uses_L5 N F (s_X12_uses_J81 N F) F m (ii o) (ii g) 0 0 S = s_X12_uses_L5 N F (s_X12_uses_J81 N F) F m (ii o) (ii g) (ii (turFl U t g 0)) (ii (0 : Nat)) S from rfl, l1]
  unfold s_X12_uses_J81
  obtain ⟨s1, s2⟩ := y_st l2
  have e0 : ii (o : Int) + 0 = ii (o : Nat) := by rw [k0, ii_add, Int.add_zero]
  have e2 : ii (o : Int) + 2 = ii (o + 2 : Nat) := by rw [k2, ii_add]; rfl
  have i0 : inB (ii (o : Int)) 616 = true := in_of (z := o) rfl (by omega) (by decide)
  have c0 : (ii (o : Int)).toNatClampNeg = o := cl_of (z := o) rfl (by omega)
  have i2 : inB (ii ((o + 2 : Nat) : Int)) 616 = true := in_of (z := o + 2) rfl (by omega) (by decide)
  have c2 : (ii ((o + 2 : Nat) : Int)).toNatClampNeg = o + 2 := cl_of (z := o + 2) rfl (by omega)
  obtain ⟨w0, w1, w2, w4⟩ := l4
  dsimp only at w0 w1 w2 w4
  have w2' : aI (wI S1 (B 11) o (ii g)) (B 11) (o + 2) = ii t.2.2.1 := by rw [aI_wI, if_neg (by omega)]; exact w2
  rw [s1, bd1_some, s2, e0, if_pos i0, c0, bnd_def, gR_wI, s1, bd1_some, s2, e2, if_pos i2, if_pos i2, c2, bnd_def, w2', ii_or]
  have eW : ∀ j, aI (wI (wI S1 (B 11) o (ii g)) (B 11) (o + 2) (ii ((t.2.2.1 ||| turFl U t g (vR U) : Nat)))) (B 11) j = if j = o + 2 then ii ((t.2.2.1 ||| turFl U t g (vR U) : Nat)) else if j = o then ii g else aI S1 (B 11) j := by
    intro j
    rw [aI_wI_s]; dsimp only
    rw [aI_wI_s]
  refine ⟨_, rfl, (l3.row _ _).row _ _, ⟨?_, ?_, ?_, fun r hr => ?_⟩, fun j hj => ?_, ?_⟩
  · rw [eW, if_neg (by omega), if_pos rfl]
    show _ = ii (fI U g)
    unfold fI; rw [if_neg (by omega)]
  · rw [eW, if_neg (by omega), if_neg (by omega)]; exact w1
  · rw [eW, if_pos rfl]; rfl
  · rw [eW, if_neg (by omega), if_neg (by omega)]; exact w4 r hr
  · rw [eW, if_neg (by omega), if_neg (by omega)]; exact l5 j hj
  · rw [eW, if_neg (by omega), if_neg (by omega)]; exact l6
end USES
section JSTATE
variable {N N2 : Nat → Nat} {F : Nat} {S S2 S' S2' : HS} {x m : Nat} {A B : Nat → Nat} {b c nx n : Nat} {T : TT}
theorem RX.now (h : RX N S x A b c nx T) (hF : SF A 16 S S') {now : STt} (h1 : TS S' A (tU T) 16 now) : RX N S' x A b c nx (tSet T now (tS T) (tD T)) := by
  have hA := h.1.1
  refine h.of (hF.of (Or.inl rfl)) h1 ?_ ?_
  · have := h.2.2.2.2.1
    unfold XSN at *
    rw [hF.1 1115 _ (by omega) (by omega), hF.2.2.2.1 (A 20) (by rw [ne_eq, hA]; decide), hF.2.2.2.1 (A 21) (by rw [ne_eq, hA]; decide)]
    exact this
  · obtain ⟨x1, x2, x3, x4, x5⟩ := h.2.2.2.2.2.1
    refine ⟨by rw [hF.1 402 _ (by omega) (by omega)]; exact x1, by rw [hF.1 403 _ (by omega) (by omega)]; exact x2, x3, x4, x5.mono (fun j _ => ⟨fun t ht => ht.sf hA hF (by omega), by rw [hF.2.2.2.1 (A 15) (by rw [ne_eq, hA]; decide)]⟩)⟩
theorem RY.now (h : RY N2 S2 m B T) (hF : VG m B S2 S2') {now : STt} (h1 : YST (aI S2' (B 11)) 0 (tU T) now) (h2 : ∀ j, 10 ≤ j → aI S2' (B 11) j = aI S2 (B 11) j) (h3 : aI S2' (B 11) 3 = aI S2 (B 11) 3) : RY N2 S2' m B (tSet T now (tS T) (tD T)) := by
  have hB := h.1.1
  have hM := h
  obtain ⟨a1, ⟨a2, a3⟩, ⟨s1, s2, s3⟩, ⟨u1, u2, u3⟩, a5, _⟩ := h
  refine hM.wf hF.wf ⟨h1, by rw [h3]; exact a3⟩ ⟨by rw [h2 10 (by omega)]; exact s1, s2, fun i q hq => ?_⟩ ⟨by rw [hF.1 1218 _ (by omega)]; exact u1, u2, u3.congr (fun i i1 _ => h2 i (by omega))⟩ (fun k hk => ⟨?_, fun t ht => ((a5 k hk).2 t ht).congr (fun i i1 _ => h2 i (by omega))⟩)
  · rw [h2 _ (by omega), h2 _ (by omega)]; exact s3 i q hq
  · rw [hF.2.2.2.1 (B 12) (by rw [ne_eq, hB]; decide) (by rw [ne_eq, hB]; decide) (by rw [ne_eq, hB]; decide)]; exact (a5 k hk).1
theorem nby_take : ∀ (l : List (STt × Bool)) (k : Nat), nby (l.take k) ≤ nby l
  | [], k => by simp [nby]
  | (t, w) :: r, 0 => by simp [nby]
  | (t, w) :: r, k + 1 => by
    have := nby_take r k
    simp only [List.take_succ_cons, nby]
    omega
theorem TOK.now (hT : TOK n T) {now : STt} (h : SOK (tU T) now) (hs : now.1 = (tN T).1) : TOK (n + 1) (tSet T now (tS T) (tD T)) := by
  obtain ⟨t1, t2, t3, t4, t5, t6, t7, t8, t9, t10⟩ := hT
  refine ⟨t1, h, t3, t4, ⟨t5.1, fun q hq => ?_⟩, t6, t7, t8, Nat.le_succ_of_le t9, t10⟩
  show q.1 < tB (tU T) now.1 ∧ _
  rw [hs]
  exact t5.2 q hq
/- a kept state, on both sides -/
theorem x_keepT (hF : 3000 ≤ F) (hX : RX N S x A b c nx T) (hnx : nx ≤ 512) (w : Bool) : gR S 1103 x = some (A 13) ∧ gR S 1104 x = some (A 16) ∧ ∃ S', s_X4_keep N F (A 13) (A 16) (b2 w) S = some S' ∧ RX N S' x A b c (nx + 1) (tSet T (tN T) (tS T) ((tN T, w) :: (tD T).take 15)) := by
  have hA := hX.1.1
  obtain ⟨S1, k1, k2, k3⟩ := x_keep (F := F) (by omega) hX.1 hX.2.1 hX.2.2.2.2.2.1 (by omega) w
  refine ⟨hX.1.2.2.1.1.2.2.2.2.1, hX.1.2.2.1.1.2.2.2.2.2.2.2.1, S1, k1, ?_⟩
  refine hX.of k3.of (hX.2.1.congr (fun f f1 f2 => k3.1 f _ (fun r => by omega) (fun r => ?_)) (k3.2.2.2.1 _ (by rw [ne_eq, hA]; decide) (fun j hj => by rw [ne_eq, hA]; omega))) ?_ k2
  · obtain ⟨_, _, j, j1, j2⟩ := r
    have := (hA _ _).mp j2; omega
  · have := hX.2.2.2.2.1
    unfold XSN at *
    rw [k3.1 1115 _ (fun r => by omega) (fun r => by omega), k3.2.2.2.1 (A 20) (by rw [ne_eq, hA]; decide) (fun j hj => by rw [ne_eq, hA]; omega), k3.2.2.2.1 (A 21) (by rw [ne_eq, hA]; decide) (fun j hj => by rw [ne_eq, hA]; omega)]
    exact this
theorem y_keepT (hF : 3000 ≤ F) (hM : RY N2 S2 m B T) : ∃ S2', s_X12_keeps N2 F m S2 = some S2' ∧ RY N2 S2' m B (tSet T (tN T) (tS T) ((tN T, false) :: (tD T).take 15)) := by
  have hB := hM.1.1
  have hM0 := hM
  obtain ⟨s1, s2⟩ := y_st hM.1
  obtain ⟨a1, ⟨a2, a3⟩, ⟨q1, q2, q3⟩, ⟨u1, u2, u3⟩, a5, _⟩ := hM
  obtain ⟨S1, k1, k2, k3, k4, k5, k6⟩ := y_keeps (F := F) hF hB s1 s2 u1 u2 u3 a2 a3 false
  have h140 : ∀ i, i < 140 → aI S1 (B 11) i = aI S2 (B 11) i := fun i hi => k5 i (Or.inl hi)
  refine ⟨S1, k1, hM0.wf k2 ⟨a2.congr (fun i _ i2 => h140 i (by omega)), by rw [h140 3 (by omega)]; exact a3⟩ ⟨by rw [h140 10 (by omega)]; exact q1, q2, fun i q hq => ?_⟩ ⟨k3, by simp only [List.length_cons, List.length_take]; omega, k4⟩ (fun k hk => ⟨by rw [k6]; exact (a5 k hk).1, fun t ht => ((a5 k hk).2 t ht).congr (fun i _ i2 => h140 i (by omega))⟩)⟩
  have hi : i < (tS T).length := (List.getElem?_eq_some_iff.mp hq).1
  rw [h140 _ (by omega), h140 _ (by omega)]; exact q3 i q hq
theorem TOK.keep (hT : TOK n T) (w : Bool) (hw : w = false) : TOK n (tSet T (tN T) (tS T) ((tN T, w) :: (tD T).take 15)) := by
  obtain ⟨t1, t2, t3, t4, t5, t6, t7, t8, t9, t10⟩ := hT
  refine ⟨t1, t2, t3, t4, t5, fun q hq => ?_, ?_, t8, t9, t10⟩
  · rcases List.mem_cons.mp hq with h | h
    · subst h; exact t2
    · exact t6 q (List.mem_of_mem_take h)
  · show nby ((tN T, w) :: (tD T).take 15) ≤ (tQ T).length
    have := nby_take (tD T) 15
    simp only [nby, hw]
    simp; omega
/- how an operation ends on both sides -/
def JO (N N2 : Nat → Nat) (x m : Nat) (A B : Nat → Nat) (b c n : Nat) (X M : Option (Int32 × HS)) : Prop := ∃ v S' S2' nx' T', X = some (v, S') ∧ M = some (v, S2') ∧ RX N S' x A b c nx' T' ∧ RY N2 S2' m B T' ∧ TOK (n + 1) T' ∧ nx' ≤ n + 1
theorem TOK.up (hT : TOK n T) : TOK (n + 1) T := by
  obtain ⟨t1, t2, t3, t4, t5, t6, t7, t8, t9, t10⟩ := hT
  exact ⟨t1, t2, t3, t4, t5, t6, t7, t8, Nat.le_succ_of_le t9, t10⟩
theorem jo_none (hX : RX N S x A b c nx T) (hM : RY N2 S2 m B T) (hT : TOK n T) (hnx : nx ≤ n) (v : Int32) : JO N N2 x m A B b c n (some (v, S)) (some (v, S2)) := ⟨v, S, S2, nx, T, rfl, rfl, hX, hM, hT.up, by omega⟩
theorem j_set (hF : 3000 ≤ F) (hX : RX N S x A b c nx T) (hM : RY N2 S2 m B T) (hT : TOK n T) (hnx : nx ≤ n) (hn5 : n ≤ 512) (p q : Int32) : JO N N2 x m A B b c n (s_X11_set N F x p q S) (s_X12_set N2 F m p q S2) := by
  obtain ⟨S1, hS1, hM1, y0⟩ := base0 hM 0
  obtain ⟨u1, u2⟩ := x_inUse hX.1 hX.2.1 hT.2.1
  obtain ⟨z, rfl, z1, z2⟩ := zI p
  have hr6 := hT.1.2.1
  unfold s_X11_set s_X12_set
  rw [bnd_def, ← hS1, y_isReg hM1.1 z z1 z2, bd1_some, y_used hM1.1 hM1.2.1.1, bd1_some, y_isBits hM1.1 hT.2.1, bd1_some]
  simp only [b2_0, decide_eq_false_iff_not]
  by_cases hn : vN (tU T) = 0
  · have hh : hld (tU T) (tN T) q = false := by unfold hld; exact decide_eq_false (fun w => w.1 hn)
    rw [u1 hn, bd1_some, mq_none, hh, if_pos (show false = false from rfl)]
    split <;> exact jo_none hX hM1 hT hnx _
  obtain ⟨o, o1, o2, o3⟩ := u2 hn
  rw [o1, bd1_some, mq_some, x_isReg hX.1 z z1 z2, bd1_some, x_holds o2 o3 hn]
  simp only [b2_0, decide_eq_false_iff_not]
  by_cases w : 0 ≤ z ∧ z < vR (tU T)
  · rw [if_neg (show ¬ ¬ (0 ≤ z ∧ z < vR (tU T)) from fun q => q w), if_neg (show ¬ ¬ (0 ≤ z ∧ z < vR (tU T)) from fun q => q w)]
    cases hh : hld (tU T) (tN T) q
    · rw [if_pos rfl, if_pos rfl]; exact jo_none hX hM1 hT hnx _
    obtain ⟨v, rfl, hv, _, h1⟩ := hld_ex hT.2.1 hh
    obtain ⟨r, rfl⟩ : ∃ r : Nat, z = r := ⟨z.toNat, by omega⟩
    obtain ⟨k1', k2', S3, k3, k4'⟩ := x_keepT hF hX (show nx ≤ 512 by omega) false
    obtain ⟨S4, l1, l2⟩ := y_keepT hF hM1
    obtain ⟨_, a2, _⟩ := x_add k4'
    obtain ⟨g1, g2, g3⟩ := y_reg l2 (show r < 6 by omega)
    have e4 : (4 : Int32) + ii (r : Int) = ii ((4 + r : Nat) : Int) := by rw [k4, ii_add]; rfl
    have hcl := cl_of (x := ii ((4 + r : Nat) : Int)) (z := 4 + r) rfl (by omega)
    obtain ⟨S5, p1, p2, p3, p4⟩ := x_putN (v := v) k4'.1 k4'.2.1 (show isSt 16 = true by decide) r (show r < 6 by omega)
    have hrd := x_read k4'.1 k4'.2.1 (show isSt 16 = true by decide) r (show r < 6 by omega)
    rw [if_neg tf, if_neg tf, k1', bd1_some, k2', bd1_some, show (0 : Int32) = b2 false from rfl, k3, bd1_some, a2, bd1_some, hrd, bd1_some, bd1_some, p1, bd1_some, l1, bd1_some, g1, bd1_some, e4, if_pos g2, g3, bnd_def, bd1_some, if_pos g2, bnd_def, hcl]
    refine ⟨_, _, _, nx + 1, tSet T (fsetN (tN T) r v) (tS T) ((tN T, false) :: (tD T).take 15), rfl, rfl, k4'.now p3 p2, ?_, ?_, by omega⟩
    · refine l2.now ((VG.refl m B S4).row (4 + r) (ii v)) ?_ ?_ ?_
      · obtain ⟨w0, w1, w2, w4⟩ := l2.2.1.1
        have eW : ∀ j, aI (wI S4 (B 11) (4 + r) (ii v)) (B 11) j = if j = 4 + r then ii v else aI S4 (B 11) j := fun j => by rw [aI_wI_s]
        refine ⟨by rw [eW, if_neg (by omega)]; exact w0, by rw [eW, if_neg (by omega)]; exact w1, by rw [eW, if_neg (by omega)]; exact w2, fun j hj => ?_⟩
        rw [eW]
        show _ = ii (if j = r then v else (tN T).2.2.2 j : Nat)
        by_cases q : j = r
        · rw [if_pos (by omega), if_pos q]
        · rw [if_neg (by omega), if_neg q]; exact w4 j hj
      · intro j hj; rw [aI_wI, if_neg (by omega)]
      · rw [aI_wI, if_neg (by omega)]
    · refine (hT.keep false rfl).now ?_ rfl
      obtain ⟨s1, s2, s3, s4⟩ := hT.2.1
      refine ⟨s1, s2, s3, fun j hj => ?_⟩
      show (if j = r then v else (tN T).2.2.2 j) < tB (tU T) (tN T).1
      split
      · exact hv
      · exact s4 j hj
  · rw [if_pos w, if_pos w]; exact jo_none hX hM1 hT hnx _
end JSTATE
end
section
section JSTATE2
variable {N N2 : Nat → Nat} {F : Nat} {S S2 S' S2' : HS} {x m : Nat} {A B : Nat → Nat} {b c nx n : Nat} {T : TT}
theorem j_mode (hF : 3000 ≤ F) (hX : RX N S x A b c nx T) (hM : RY N2 S2 m B T) (hT : TOK n T) (hnx : nx ≤ n) (hn5 : n ≤ 512) (p : Int32) : JO N N2 x m A B b c n (s_X11_mode N F x p S) (s_X12_mode N2 F m p S2) := by
  obtain ⟨S1, hS1, hM1, y0⟩ := base0 hM 0
  obtain ⟨z, rfl, z1, z2⟩ := zI p
  unfold s_X11_mode s_X12_mode
  rw [bnd_def, ← hS1, x_isMode z z1 z2, y_w5 z z1 z2]
  simp only [b2_0, decide_eq_false_iff_not]
  by_cases w : 0 ≤ z ∧ z < 6
  · obtain ⟨k, rfl⟩ : ∃ k : Nat, z = k := ⟨z.toNat, by omega⟩
    rw [if_neg (show ¬ ¬ (0 ≤ (k : Int) ∧ (k : Int) < 6) from fun q => q w), if_neg (show ¬ ¬ (0 ≤ (k : Int) ∧ (k : Int) < 6) from fun q => q w)]
    obtain ⟨k1', k2', S3, k3, k4'⟩ := x_keepT hF hX (show nx ≤ 512 by omega) false
    obtain ⟨S4, l1, l2⟩ := y_keepT hF hM1
    obtain ⟨_, a2, a3, _⟩ := x_add k4'
    obtain ⟨m1, m2, m3⟩ := y_mode l2
    have i1 : ((1 : Int32).toNatClampNeg) = 1 := by decide
    rw [k1', bd1_some, k2', bd1_some, show (0 : Int32) = b2 false from rfl, k3, bd1_some, a2, bd1_some, bnd_def, bd1_some, bnd_def, a3, l1, bd1_some, m1, bd1_some, if_pos m2, bnd_def, bd1_some, if_pos m2, bnd_def, m3, i1]
    refine ⟨_, _, _, nx + 1, tSet T ((tN T).1, k, (tN T).2.2) (tS T) ((tN T, false) :: (tD T).take 15), rfl, rfl, k4'.now ((SF.refl A 16 S3).uI 702 _ (by omega)) ?_, ?_, ?_, by omega⟩
    · obtain ⟨w0, w1, w2, w4⟩ := k4'.2.1
      exact ⟨by rw [gI_uI, if_neg (by omega)]; exact w0, by rw [gI_uI, if_pos ⟨rfl, rfl⟩], by rw [gI_uI, if_neg (by omega)]; exact w2, w4⟩
    · obtain ⟨w0, w1, w2, w4⟩ := l2.2.1.1
      have eW : ∀ j, aI (wI S4 (B 11) 1 (ii k)) (B 11) j = if j = 1 then ii k else aI S4 (B 11) j := fun j => by rw [aI_wI_s]
      refine l2.now ((VG.refl m B S4).row 1 (ii k)) ⟨by rw [eW, if_neg (by omega)]; exact w0, by rw [eW, if_pos (by omega)], by rw [eW, if_neg (by omega)]; exact w2, fun j hj => by rw [eW, if_neg (by omega)]; exact w4 j hj⟩ (fun j hj => by rw [eW, if_neg (by omega)]) (by rw [eW, if_neg (by omega)])
    · refine (hT.keep false rfl).now ?_ rfl
      obtain ⟨s1, s2, s3, s4⟩ := hT.2.1
      exact ⟨s1, by show k < 6; omega, s3, s4⟩
  · rw [if_pos w, if_pos w]; exact jo_none hX hM1 hT hnx _
theorem j_clear (hF : 3000 ≤ F) (hX : RX N S x A b c nx T) (hM : RY N2 S2 m B T) (hT : TOK n T) (hnx : nx ≤ n) (hn5 : n ≤ 512) : JO N N2 x m A B b c n (s_X11_clear N F x S) (s_X12_clear N2 F m S2) := by
  obtain ⟨S1, hS1, hM1, y0⟩ := base0 hM 0
  unfold s_X11_clear s_X12_clear
  rw [bnd_def, ← hS1]
  obtain ⟨k1', k2', S3, k3, k4'⟩ := x_keepT hF hX (show nx ≤ 512 by omega) false
  obtain ⟨S4, l1, l2⟩ := y_keepT hF hM1
  obtain ⟨_, a2, a3, _⟩ := x_add k4'
  obtain ⟨m1, m2⟩ := y_st l2.1
  have i2 : ((2 : Int32).toNatClampNeg) = 2 := by decide
  have q2 : inB (2 : Int32) (N2 (B 11)) = true := by rw [m2]; decide
  have w2' : aI S4 (B 11) 2 = ii (tN T).2.2.1 := l2.2.1.1.2.2.1
  rw [k1', bd1_some, k2', bd1_some, show (0 : Int32) = b2 false from rfl, k3, bd1_some, a2, bd1_some, bnd_def, bd1_some, bnd_def, k4'.2.1.2.2.1, l1, bd1_some, m1, bd1_some, if_pos q2, bnd_def, bd1_some, if_pos q2, bnd_def, i2, w2']
  refine ⟨_, _, _, nx + 1, tSet T ((tN T).1, (tN T).2.1, 0, (tN T).2.2.2) (tS T) ((tN T, false) :: (tD T).take 15), rfl, rfl, k4'.now ((SF.refl A 16 S3).uI 703 _ (by omega)) ?_, ?_, ?_, by omega⟩
  · obtain ⟨w0, w1, w2, w4⟩ := k4'.2.1
    exact ⟨by rw [gI_uI, if_neg (by omega)]; exact w0, by rw [gI_uI, if_neg (by omega)]; exact w1, by rw [gI_uI, if_pos ⟨rfl, rfl⟩]; rfl, w4⟩
  · obtain ⟨w0, w1, w2, w4⟩ := l2.2.1.1
    have eW : ∀ j, aI (wI S4 (B 11) 2 (b2 false)) (B 11) j = if j = 2 then b2 false else aI S4 (B 11) j := fun j => by rw [aI_wI_s]
    refine l2.now ((VG.refl m B S4).row 2 (b2 false)) ⟨by rw [eW, if_neg (by omega)]; exact w0, by rw [eW, if_neg (by omega)]; exact w1, by rw [eW, if_pos (by omega)]; rfl, fun j hj => by rw [eW, if_neg (by omega)]; exact w4 j hj⟩ (fun j hj => by rw [eW, if_neg (by omega)]) (by rw [eW, if_neg (by omega)])
  · refine (hT.keep false rfl).now ?_ rfl
    obtain ⟨s1, s2, s3, s4⟩ := hT.2.1
    exact ⟨s1, s2, by show 0 < 16; omega, s4⟩
/- nothing is seen any more -/
theorem RX.noseen (h : RX N S x A b c nx T) : RX N (uI S 1115 x 0) x A b c nx (tSet T (tN T) [] (tD T)) := by
  refine h.of ((OF.refl A S).seen x 0) (h.2.1.congr (fun f f1 f2 => by rw [gI_uI, if_neg (by omega)]) rfl) ⟨by rw [gI_uI, if_pos ⟨rfl, rfl⟩]; rfl, fun i q hq => by simp at hq⟩ ?_
  obtain ⟨x1, x2, x3, x4, x5⟩ := h.2.2.2.2.2.1
  exact ⟨by rw [gI_uI, if_neg (by omega)]; exact x1, by rw [gI_uI, if_neg (by omega)]; exact x2, x3, x4, x5.mono (fun j _ => ⟨fun t ht => ht.congr (fun f f1 f2 => by rw [gI_uI, if_neg (by omega)]) rfl, rfl⟩)⟩
theorem RY.noseen (h : RY N2 S2 m B T) : RY N2 (wI S2 (B 11) 10 0) m B (tSet T (tN T) [] (tD T)) := by
  have hB := h.1.1
  have hM := h
  obtain ⟨a1, ⟨a2, a3⟩, ⟨s1, s2, s3⟩, ⟨u1, u2, u3⟩, a5, _⟩ := h
  have eW : ∀ j, aI (wI S2 (B 11) 10 0) (B 11) j = if j = 10 then 0 else aI S2 (B 11) j := fun j => by rw [aI_wI_s]
  exact hM.wf ((WF.refl m B S2).row 10 0) ⟨a2.congr (fun i _ i2 => by rw [eW, if_neg (by omega)]), by rw [eW, if_neg (by omega)]; exact a3⟩ ⟨by rw [eW, if_pos rfl]; rfl, by simp, fun i q hq => by simp at hq⟩ ⟨u1, u2, u3.congr (fun i i1 _ => by rw [eW, if_neg (by omega)])⟩ (fun k hk => ⟨by rw [aI_wI_o _ _ _ _ (by rw [ne_eq, hB]; decide)]; exact (a5 k hk).1, fun t ht => ((a5 k hk).2 t ht).congr (fun i i1 _ => by rw [eW, if_neg (by omega)])⟩)
theorem TOK.noseen (hT : TOK n T) : TOK n (tSet T (tN T) [] (tD T)) := by
  obtain ⟨t1, t2, t3, t4, t5, t6, t7, t8, t9, t10⟩ := hT
  exact ⟨t1, t2, t3, t4, ⟨by show ([] : List (Nat × Bool)).length ≤ 8; simp, fun q hq => by cases hq⟩, t6, t7, t8, t9, t10⟩
theorem TOK.now0 (hT : TOK n T) (he : tS T = []) {now : STt} (h : SOK (tU T) now) : TOK (n + 1) (tSet T now [] (tD T)) := by
  obtain ⟨t1, t2, t3, t4, t5, t6, t7, t8, t9, t10⟩ := hT
  exact ⟨t1, h, t3, t4, ⟨by show ([] : List (Nat × Bool)).length ≤ 8; simp, fun q hq => by cases hq⟩, t6, t7, t8, Nat.le_succ_of_le t9, t10⟩
theorem j_use (hF : 3000 ≤ F) (hX : RX N S x A b c nx T) (hM : RY N2 S2 m B T) (hT : TOK n T) (hnx : nx ≤ n) (hn5 : n ≤ 512) (p : Int32) : JO N N2 x m A B b c n (s_X11_use N F x p S) (s_X12_use N2 F m p S2) := by
  obtain ⟨S1, hS1, hM1, y0⟩ := base0 hM 0
  obtain ⟨z, rfl, z1, z2⟩ := zI p
  obtain ⟨_, _, _, _, _, a6⟩ := x_add hX
  obtain ⟨f1, f2⟩ := x_formAt hX.1 z z1 z2
  unfold s_X11_use s_X12_use
  rw [bnd_def, ← hS1, a6, bd1_some, y_isForm hM1.1 z z1 z2, bd1_some]
  simp only [b2_0, decide_eq_false_iff_not]
  by_cases w : 0 ≤ z ∧ z < vN (tU T)
  · obtain ⟨o, o1, _⟩ := f2 w
    obtain ⟨g, rfl⟩ : ∃ g : Nat, z = g := ⟨z.toNat, by omega⟩
    have hg : g < vN (tU T) := by omega
    rw [o1, bd1_some, mq_some, if_neg (show ¬ ¬ (0 ≤ (g : Int) ∧ (g : Int) < vN (tU T)) from fun q => q w)]
    obtain ⟨k1', k2', S3, k3, k4'⟩ := x_keepT hF hX (show nx ≤ 512 by omega) false
    obtain ⟨S4, l1, l2⟩ := y_keepT hF hM1
    have x5 := k4'.noseen
    have y5 := l2.noseen
    obtain ⟨_, a2, a3, _⟩ := x_add x5
    obtain ⟨m1, m2⟩ := y_st l2.1
    have i10 : ((10 : Int32).toNatClampNeg) = 10 := by decide
    have q10 : inB (10 : Int32) (N2 (B 11)) = true := by rw [m2]; decide
    obtain ⟨S5, t1, t2, t3⟩ := x_turn (F := F) (by omega) x5.1 x5.2.1 hT.2.1 (show isSt 16 = true by decide) hg
    obtain ⟨S6, u1, u2, u3, u4, u5⟩ := y_uses (F := F) (o := 0) hF y5.1 (Or.inl rfl) y5.2.1.1 hT.2.1 hg
    have t1' : s_X11_turn N F x (A 16) (ii g) (uI S3 1115 x 0) = some (ii (turFl (tU T) (tN T) g (vR (tU T))), S5) := t1
    have u1' : s_X12_uses N2 F m 0 (ii g) (wI S4 (B 11) 10 0) = some (ii (turFl (tU T) (tN T) g (vR (tU T))), S6) := u1
    rw [k1', bd1_some, k2', bd1_some, show s_X4_keep N F (A 13) (A 16) 0 S = some S3 from k3, bd1_some, bnd_def, a2, bd1_some, t1', bd2_some, l1, bd1_some, m1, bd1_some, if_pos q10, bnd_def, i10, u1', bd2_some]
    refine ⟨_, _, _, nx + 1, tSet T (tur (tU T) (tN T) g) [] ((tN T, false) :: (tD T).take 15), rfl, rfl, x5.now t3 t2, y5.now u2 u3 (fun j hj => u4 j (by omega)) u5, ?_, by omega⟩
    exact (hT.keep false rfl).noseen.now0 rfl (tur_ok hT.1 hT.2.1 hg)
  · rw [f1 w, bd1_some, mq_none, if_pos w]; exact jo_none hX hM1 hT hnx _
/- the book's last one is forgotten, in the relation -/
def tAsk (T : TT) (asks : List AK) : TT := (tU T, tP T, tN T, tT T, tS T, tD T, asks, tM T)
theorem RX.book (h : RX N S x A b c nx T) (hF : BF A S S') {asks : List AK} (hB : XBK S' A (tU T) asks) : RX N S' x A b c nx (tAsk T asks) := by
  obtain ⟨⟨a1, a2, a3, a4, a5⟩, c2, c3, c4, c5, c6, c7, c8⟩ := h
  have hA := a1
  have e : ∀ q, ¬ (4 ≤ q ∧ q ≤ 12) → aI S' (A q) = aI S (A q) := fun q hq => hF.2.2.2.1 _ (fun j j1 j2 r => hq (by have := (hA _ _).mp r; omega))
  have g : ∀ f p, ¬ (109 ≤ f ∧ f ≤ 111) → gI S' f p = gI S f p := fun f p hf => hF.1 f p (fun r => hf ⟨r.2.1, r.2.2⟩)
  have ts : ∀ s t, TS S A (tU T) s t → TS S' A (tU T) s t := fun s t ht => ht.congr (fun f f1 f2 => g f _ (by omega)) (e _ (by omega))
  refine ⟨⟨a1, a2, by rw [hF.2.2.1, hF.2.2.2.2]; exact a3, a4.mono (fun f p hf => g f p (by omega)) hF.2.2.1 hF.2.2.2.2, a5⟩, ts _ _ c2, ⟨by rw [g 801 _ (by omega)]; exact c3.1, by rw [e 1 (by omega)]; exact c3.2⟩, ⟨c4.1, by rw [gR_of hF.2.2.1]; exact c4.2.1, by rw [gR_of hF.2.2.1]; exact c4.2.2.1, by rw [g 501 _ (by omega)]; exact c4.2.2.2.1, ?_⟩, ⟨by rw [g 1115 _ (by omega)]; exact c5.1, ?_⟩, ⟨by rw [g 402 _ (by omega)]; exact c6.1, by rw [g 403 _ (by omega)]; exact c6.2.1, c6.2.2.1, c6.2.2.2.1, c6.2.2.2.2.mono (fun j _ => ⟨fun t ht => ts _ _ ht, by rw [e 15 (by omega)]⟩)⟩, hB, fun k hk => ⟨by rw [e 19 (by omega)]; exact (c8 k hk).1, fun t ht => ts _ _ ((c8 k hk).2 t ht)⟩⟩
  · have := c4.1
    intro i l hl; rw [e (32 + 2 * c) (by omega)]; exact c4.2.2.2.2 i l hl
  · intro i q hq; rw [e 20 (by omega), e 21 (by omega)]; exact c5.2 i q hq
theorem YUN.pop {W : Nat → Int32} {U : UNt} {k : Nat} {t : STt} {w : Bool} {r : List (STt × Bool)} (h : YUN W U k ((t, w) :: r)) : YUN W U (k - (if w then 1 else 0)) r := h.2.2
theorem RX.back (h : RX N S x A b c nx T) (hF : TF A S S') {t : STt} {r : List (STt × Bool)} {nx' : Nat} (h1 : TS S' A (tU T) 16 t) (h2 : XPA S' A (tU T) nx' r) : RX N S' x A b c nx' (tSet T t (tS T) r) := by
  have hA := h.1.1
  refine h.of hF.of h1 ?_ h2
  have := h.2.2.2.2.1
  unfold XSN at *
  rw [hF.1 1115 _ (by omega) (by omega), hF.2.2.2.1 (A 20) (by rw [ne_eq, hA]; decide), hF.2.2.2.1 (A 21) (by rw [ne_eq, hA]; decide)]
  exact this
theorem j_undo (hF : 3000 ≤ F) (hX : RX N S x A b c nx T) (hM : RY N2 S2 m B T) (hT : TOK n T) (hnx : nx ≤ n) (hn5 : n ≤ 512) : JO N N2 x m A B b c n (s_X11_undo N F x S) (s_X12_undo N2 F m S2) := by
  obtain ⟨S1, hS1, hM1, y0⟩ := base0 hM 0
  have e3 : gR S 1103 x = some (A 13) := hX.1.2.2.1.1.2.2.2.2.1
  have e4 : gR S 1104 x = some (A 16) := hX.1.2.2.1.1.2.2.2.2.2.2.2.1
  have g3 : gI S 403 (A 13) = ii (tD T).length := hX.2.2.2.2.2.1.2.1
  have u3 : gI S1 1218 m = ii (tD T).length := hM1.2.2.2.1.1
  have h16 := hM1.2.2.2.1.2.1
  unfold s_X11_undo s_X12_undo
  rw [bnd_def, ← hS1, e3, bd1_some, g3, u3]
  have c0 : (ii ((tD T).length : Int) = (0 : Int32)) = ((tD T).length = 0) := by rw [k0, ii_eq (by omega) (by omega) (by omega) (by omega)]; apply propext; omega
  simp only [c0]
  cases hD : tD T with
  | nil => rw [if_pos (by simp), if_pos (by simp)]; exact jo_none hX hM1 hT hnx _
  | cons e r =>
    obtain ⟨t, w⟩ := e
    have hX0 := hX
    have hP := hX.2.2.2.2.2.1
    rw [hD] at hP
    obtain ⟨S3, b1, b2', b3, b4⟩ := x_takeBack (F := F) (by omega) hX.1 hP
    have x3 := hX.back b4 b2' b3
    have hr16 : r.length < 16 := by rw [hD] at h16; simp at h16; omega
    rw [if_neg (by simp), if_neg (by simp), bd1_some, e4, bd1_some, b1, bd2_some]
    -- the model's side
    have hyun := hM1.2.2.2.1.2.2
    rw [hD] at hyun
    obtain ⟨m1, m2⟩ := y_st hM1.1
    have el : ii (((t, w) :: r).length : Int) - 1 = ii (r.length : Nat) := by rw [k1, ii_sub]; congr 1; simp
    have ge : gI (uI S1 1218 m (ii r.length)) 1218 m = ii r.length := by rw [gI_uI, if_pos ⟨rfl, rfl⟩]
    have e28 : (28 : Int32) * (5 + ii (r.length : Int)) = ii (28 * (5 + r.length) : Nat) := by rw [k5, ii_add, k28, ii_mul]; congr 1
    obtain ⟨S4, v1, v2, v3, v4⟩ := y_moves (F := F) (S := uI S1 1218 m (ii r.length)) (fr := 28 * (5 + r.length)) (to := 0) (by omega) (by rw [gR_uI]; exact m1) m2 (by omega) (by omega) (by omega)
    have v1' : s_X12_moves N2 F m (ii (28 * (5 + r.length) : Nat)) 0 10 (uI S1 1218 m (ii r.length)) = some S4 := v1
    have i10 : ((10 : Int32).toNatClampNeg) = 10 := by decide
    have q10 : inB (10 : Int32) (N2 (B 11)) = true := by rw [m2]; decide
    rw [el, bnd_def, ge, e28, v1', bd1_some, gR_of v2.2.2.1, gR_uI, m1, bd1_some, if_pos q10, bnd_def, i10]
    have hBj := hM1.1.1
    have hqn : (tQ T).length ≤ 512 := by have := hT.2.2.2.2.2.2.2.2.1; omega
    have hby := hT.2.2.2.2.2.2.1
    rw [hD] at hby
    have eW : ∀ j, aI (wI S4 (B 11) 10 0) (B 11) j = if j = 10 then 0 else if j < 10 then aI S1 (B 11) (28 * (5 + r.length) + j) else aI S1 (B 11) j := by
      intro j
      rw [aI_wI_s]; dsimp only
      by_cases q : j = 10
      · rw [if_pos q, if_pos q]
      · rw [if_neg q, if_neg q, v4]
        by_cases q2 : j < 10
        · rw [if_pos (by omega), if_pos q2, Nat.sub_zero]; rfl
        · rw [if_neg (by omega), if_neg q2]; rfl
    -- the asked list behind it
    have hask : ∀ asks : List AK, asks.length = (tQ T).length - (if w then 1 else 0) → YASK S1 B (tU T) asks → RY N2 (wI S4 (B 11) 10 0) m B (tAsk (tSet T t [] r) asks) := by
      intro asks hal hya
      have hM2 : RY N2 S1 m B (tAsk T asks) → RY N2 S1 m B (tAsk T asks) := id
      obtain ⟨a1, ⟨a2, a3⟩, ⟨s1, s2, s3⟩, _, a5, a6, ⟨p1, p2⟩, ⟨p3, p4⟩⟩ := hM1
      have hwf : WF m B S1 (wI S4 (B 11) 10 0) := (((WF.refl m B S1).und (ii r.length)).trans v2.wf).row 10 0
      have ea : ∀ q, q ≠ 9 → q ≠ 10 → q ≠ 11 → q ≠ 12 → q ≠ 15 → aI (wI S4 (B 11) 10 0) (B q) = aI S1 (B q) := fun q q1 q2 q3 q4 q5 => hwf.2.2.1 _ (by rw [ne_eq, hBj]; exact q1) (by rw [ne_eq, hBj]; exact q2) (by rw [ne_eq, hBj]; exact q3) (by rw [ne_eq, hBj]; exact q4) (by rw [ne_eq, hBj]; exact q5)
      refine ⟨a1.wf hwf, ⟨?_, ?_⟩, ⟨by rw [eW, if_pos rfl]; rfl, by show ([] : List (Nat × Bool)).length ≤ 8; simp, fun i q hq => by simp [tS, tAsk, tSet] at hq⟩, ⟨?_, by show r.length ≤ 16; omega, ?_⟩, fun k hk => ⟨?_, fun t2 ht2 => ((a5 k hk).2 t2 ht2).congr (fun i i1 _ => by rw [eW, if_neg (by omega), if_neg (by omega)])⟩, hya.congr (fun i _ => ⟨by rw [aJ_of hwf.2.2.2], by rw [aJ_of hwf.2.2.2]⟩), ⟨by rw [hwf.1 1202 _ (by omega) (by omega) (by omega)]; exact p1, by rw [ea 0 (by decide) (by decide) (by decide) (by decide) (by decide)]; exact p2⟩, ⟨by rw [ea 8 (by decide) (by decide) (by decide) (by decide) (by decide)]; exact p3, by rw [ea 8 (by decide) (by decide) (by decide) (by decide) (by decide)]; exact p4⟩⟩
      · refine YST.move (fr := 28 * (5 + r.length)) hyun.1 (fun i hi => ?_)
        rw [Nat.zero_add, eW, if_neg (by omega), if_pos hi]
      · rw [eW, if_neg (by omega), if_pos (by omega), hyun.2.1]
        show _ = ii (asks.length : Nat)
        rw [hal]
      · show gI (wI S4 (B 11) 10 0) 1218 m = ii r.length
        rw [gI_wI, gI_of v3]; exact ge
      · show YUN _ (tU T) asks.length r
        rw [hal]
        exact hyun.2.2.congr (fun i i1 _ => by rw [eW, if_neg (by omega), if_neg (by omega)])
      · show aI (wI S4 (B 11) 10 0) (B 12) k = b2 (tM T k).isSome
        have e12 : aI (wI S4 (B 11) 10 0) (B 12) = aI S1 (B 12) := by
          rw [aI_wI_o _ _ _ _ (by rw [ne_eq, hBj]; decide), v2.2.2.2.1 (B 12) (by rw [ne_eq, hBj]; decide) (by rw [ne_eq, hBj]; decide) (by rw [ne_eq, hBj]; decide)]; rfl
        rw [e12]; exact (a5 k hk).1
    have htok : ∀ asks : List AK, (∀ a, a ∈ asks → a ∈ tQ T) → asks.length = (tQ T).length - (if w then 1 else 0) → TOK (n + 1) (tAsk (tSet T t [] r) asks) := by
      intro asks hsub hal
      obtain ⟨t1, t2, t3, t4, t5, t6, t7, t8, t9, t10⟩ := hT
      rw [hD] at t6
      refine ⟨t1, t6 (t, w) (by simp), t3, t4, ⟨by show ([] : List (Nat × Bool)).length ≤ 8; simp, fun q hq => by cases hq⟩, fun q hq => t6 q (List.mem_cons_of_mem _ hq), ?_, fun d hd => t8 d (hsub d hd), by show asks.length ≤ n + 1; omega, t10⟩
      show nby r ≤ asks.length
      rw [hal]
      simp only [nby] at hby
      omega
    unfold s_X11_undo_J33
    simp only [b2_0]
    cases w with
    | false =>
      rw [if_pos rfl, bnd_def]
      exact ⟨_, _, _, nx - 1, tAsk (tSet T t [] r) (tQ T), rfl, rfl, x3.noseen, hask (tQ T) (by simp) hM1.2.2.2.2.2.1, htok (tQ T) (fun _ h => h) (by simp), by omega⟩
    | true =>
      rw [if_neg tf]
      have hq1 : 1 ≤ (tQ T).length := by simp only [nby] at hby; simp at hby; omega
      cases hQ : tQ T with
      | nil => rw [hQ] at hq1; simp at hq1
      | cons a asks =>
        have hbk := x3.2.2.2.2.2.2.1
        have hbk' : XBK S3 A (tU T) (a :: asks) := by rw [← hQ]; exact hbk
        obtain ⟨S5, f1, f2, f3⟩ := x_forget x3.1 hbk'
        have e2 : gR S3 1102 x = some (A 3) := x3.1.2.2.1.1.2.2.2.1
        rw [e2, bd1_some, f1, bd1_some, bnd_def]
        have x5 := x3.book f3 f2
        refine ⟨_, _, _, nx - 1, tAsk (tSet T t [] r) asks, rfl, rfl, x5.noseen, hask asks (by rw [hQ]; simp) ?_, htok asks (fun d hd => by rw [hQ]; exact List.mem_cons_of_mem _ hd) (by rw [hQ]; simp), by omega⟩
        have := hM1.2.2.2.2.2.1
        rw [hQ] at this
        exact this.2.2
end JSTATE2
end
section
section JFMA
variable {N N2 : Nat → Nat} {F : Nat} {S S2 S' S2' : HS} {x m : Nat} {A B : Nat → Nat} {b c nx n : Nat} {T : TT}
/- a sum: the relation with one asked more -/
def tFma (T : TT) (now : STt) (a : AK) : TT := (tU T, tP T, now, tT T, tS T, (tN T, true) :: (tD T).take 15, a :: tQ T, tM T)
theorem RY.gen (h : RY N2 S2 m B T) (h0 : ∀ f p, f ≠ 1200 → f ≠ 1218 → ¬ (p = m ∧ 1220 ≤ f ∧ f ≤ 1224) → gI S2' f p = gI S2 f p) (hr : S2'.2.2.1 = S2.2.2.1) (ha : ∀ p, p ≠ B 9 → p ≠ B 10 → p ≠ B 11 → p ≠ B 12 → p ≠ B 15 → aI S2' p = aI S2 p) (hj : ∀ p, p ≠ B 13 → p ≠ B 14 → aJ S2' p = aJ S2 p) {now : STt} {seen : List (Nat × Bool)} {und : List (STt × Bool)} {mk : Nat → Option STt} {asks : List AK}
    (h1 : YST (aI S2' (B 11)) 0 (tU T) now ∧ aI S2' (B 11) 3 = ii asks.length) (h2 : YSN (aI S2' (B 11)) seen) (h3 : gI S2' 1218 m = ii und.length ∧ und.length ≤ 16 ∧ YUN (aI S2' (B 11)) (tU T) asks.length und) (h4 : YMK (aI S2' (B 11)) (aI S2' (B 12)) (tU T) mk) (h5 : YASK S2' B (tU T) asks) :
    RY N2 S2' m B (tU T, tP T, now, tT T, seen, und, asks, mk) := by
  obtain ⟨a1, _, _, _, _, a6, ⟨t1, t2⟩, ⟨p1, p2⟩⟩ := h
  have hB := a1.1
  have e : ∀ q, q ≠ 9 → q ≠ 10 → q ≠ 11 → q ≠ 12 → q ≠ 15 → aI S2' (B q) = aI S2 (B q) := fun q q1 q2 q3 q4 q5 => ha _ (by rw [ne_eq, hB]; exact q1) (by rw [ne_eq, hB]; exact q2) (by rw [ne_eq, hB]; exact q3) (by rw [ne_eq, hB]; exact q4) (by rw [ne_eq, hB]; exact q5)
  have ej : ∀ q, q ≠ 13 → q ≠ 14 → aJ S2' (B q) = aJ S2 (B q) := fun q q1 q2 => hj _ (by rw [ne_eq, hB]; exact q1) (by rw [ne_eq, hB]; exact q2)
  exact ⟨a1.congr hr (e 5 (by decide) (by decide) (by decide) (by decide) (by decide)) (e 6 (by decide) (by decide) (by decide) (by decide) (by decide)) (ej 4 (by decide) (by decide)) (ej 7 (by decide) (by decide)), h1, h2, h3, h4, h5, ⟨by rw [h0 1202 _ (by omega) (by omega) (by omega)]; exact t1, by rw [e 0 (by decide) (by decide) (by decide) (by decide) (by decide)]; exact t2⟩, ⟨by rw [e 8 (by decide) (by decide) (by decide) (by decide) (by decide)]; exact p1, by rw [e 8 (by decide) (by decide) (by decide) (by decide) (by decide)]; exact p2⟩⟩
theorem rs_fus {U : UNt} {t : STt} {p q r : Nat} : rs U (t.1, t.2.1, mnN (t.2.2.2 p) (t.2.2.2 q), mxN (t.2.2.2 p) (t.2.2.2 q), t.2.2.2 r) = (fusR U t p q r).1 := by
  unfold rs fusR mnN mxN
  dsimp only
  by_cases w : t.2.2.2 q < t.2.2.2 p
  · rw [if_pos w, if_neg (by omega), sumF_comm]
  · rw [if_neg w]
    by_cases w2 : t.2.2.2 p < t.2.2.2 q
    · rw [if_pos w2]
    · rw [if_neg w2, show t.2.2.2 q = t.2.2.2 p by omega]
theorem FM.of_g {p k e fr : Nat} (h : FM S p k e fr) (hg : ∀ f, 200 ≤ f → f ≤ 207 → gI S' f p = gI S f p) : FM S' p k e fr := by
  unfold FM at *
  rw [hg 200 (by omega) (by omega), hg 201 (by omega) (by omega), hg 202 (by omega) (by omega), hg 203 (by omega) (by omega), hg 204 (by omega) (by omega), hg 205 (by omega) (by omega), hg 206 (by omega) (by omega), hg 207 (by omega) (by omega)]
  exact h
theorem x_keepG (hF : 3000 ≤ F) (hX : RX N S x A b c nx T) (hnx : nx ≤ 512) (w : Bool) : gR S 1103 x = some (A 13) ∧ gR S 1104 x = some (A 16) ∧ ∃ S', s_X4_keep N F (A 13) (A 16) (b2 w) S = some S' ∧ RX N S' x A b c (nx + 1) (tSet T (tN T) (tS T) ((tN T, w) :: (tD T).take 15)) ∧ ∀ f p, 200 ≤ f → f ≤ 207 → gI S' f p = gI S f p := by
  obtain ⟨S1, k1, k2, k3⟩ := x_keep (F := F) (by omega) hX.1 hX.2.1 hX.2.2.2.2.2.1 (by omega) w
  obtain ⟨q1, q2, S3, q3, q4⟩ := x_keepT hF hX hnx w
  have : S3 = S1 := by rw [k1] at q3; exact (Option.some.inj q3).symm
  subst this
  exact ⟨q1, q2, S3, q3, q4, fun f p f1 f2 => k3.1 f p (by omega) (by omega)⟩
theorem x_four {U : UNt} (h : XW N S x A b U) (z1 z2 z3 z4 : Int) (b1 : -2147483648 ≤ z1 ∧ z1 < 2147483648) (b2' : -2147483648 ≤ z2 ∧ z2 < 2147483648) (b3 : -2147483648 ≤ z3 ∧ z3 < 2147483648) (b4 : -2147483648 ≤ z4 ∧ z4 < 2147483648) : s_X11_areRegisters x (ii z1) (ii z2) (ii z3) (ii z4) S = some (b2 (decide (0 ≤ z1 ∧ z1 < vR U) && (decide (0 ≤ z2 ∧ z2 < vR U) && (decide (0 ≤ z3 ∧ z3 < vR U) && decide (0 ≤ z4 ∧ z4 < vR U))))) := by
  unfold s_X11_areRegisters
  rw [x_isReg h z1 b1.1 b1.2, bd1_some, x_isReg h z2 b2'.1 b2'.2, bd1_some, x_isReg h z3 b3.1 b3.2, bd1_some, x_isReg h z4 b4.1 b4.2, bd1_some]
  generalize decide (0 ≤ z1 ∧ z1 < vR U) = d1
  generalize decide (0 ≤ z2 ∧ z2 < vR U) = d2
  generalize decide (0 ≤ z3 ∧ z3 < vR U) = d3
  generalize decide (0 ≤ z4 ∧ z4 < vR U) = d4
  cases d1 <;> cases d2 <;> cases d3 <;> cases d4 <;> rfl
theorem y_four (hM : RY N2 S2 m B T) (z1 z2 z3 z4 : Int) (b1 : -2147483648 ≤ z1 ∧ z1 < 2147483648) (b2' : -2147483648 ≤ z2 ∧ z2 < 2147483648) (b3 : -2147483648 ≤ z3 ∧ z3 < 2147483648) (b4 : -2147483648 ≤ z4 ∧ z4 < 2147483648) (no go : Option (Int32 × HS)) :
    (bd1 (s_X12_isReg N2 m (ii z1) S2) fun r4 => if r4 = (0 : Int32) then no else bd1 (s_X12_isReg N2 m (ii z2) S2) fun r7 => if r7 = (0 : Int32) then no else bd1 (s_X12_isReg N2 m (ii z3) S2) fun r10 => if r10 = (0 : Int32) then no else bd1 (s_X12_isReg N2 m (ii z4) S2) fun r13 => if r13 = (0 : Int32) then no else go) = if (decide (0 ≤ z1 ∧ z1 < vR (tU T)) && (decide (0 ≤ z2 ∧ z2 < vR (tU T)) && (decide (0 ≤ z3 ∧ z3 < vR (tU T)) && decide (0 ≤ z4 ∧ z4 < vR (tU T))))) = false then no else go := by
  rw [y_isReg hM.1 z1 b1.1 b1.2, bd1_some, y_isReg hM.1 z2 b2'.1 b2'.2, bd1_some, y_isReg hM.1 z3 b3.1 b3.2, bd1_some, y_isReg hM.1 z4 b4.1 b4.2, bd1_some]
  simp only [b2_0]
  generalize decide (0 ≤ z1 ∧ z1 < vR (tU T)) = d1
  generalize decide (0 ≤ z2 ∧ z2 < vR (tU T)) = d2
  generalize decide (0 ≤ z3 ∧ z3 < vR (tU T)) = d3
  generalize decide (0 ≤ z4 ∧ z4 < vR (tU T)) = d4
  cases d1 <;> cases d2 <;> cases d3 <;> cases d4 <;> rfl
theorem gR_wJ2 (S : HS) (f a : Nat) (v : Int64) (g b : Nat) : gR (wJ S f a v) g b = gR S g b := rfl
theorem aI_wJ2 (S : HS) (f a : Nat) (v : Int64) (g : Nat) : aI (wJ S f a v) g = aI S g := rfl
theorem aJ_wJ_s (S : HS) (a i : Nat) (v : Int64) : aJ (wJ S a i v) a = fun j => if j = i then v else aJ S a j := by
  exact p2_row _ _ _ _
theorem aJ_wJ_o (S : HS) (a i : Nat) (v : Int64) {b : Nat} (h : b ≠ a) : aJ (wJ S a i v) b = aJ S b := by
  exact p2_rw _ _ _ _ h
theorem j_fma (hF : 3000 ≤ F) (hX : RX N S x A b c nx T) (hM : RY N2 S2 m B T) (hT : TOK n T) (hnx : nx ≤ n) (hn5 : n < 512) (p0 p1 p2 p3 : Int32) : JO N N2 x m A B b c n (s_X11_fma N F x p0 p1 p2 p3 S) (s_X12_fma N2 F m p0 p1 p2 p3 S2) := by
  obtain ⟨S1, hS1, hM1, y0⟩ := base0 hM 0
  obtain ⟨u1, u2⟩ := x_inUse hX.1 hX.2.1 hT.2.1
  obtain ⟨z0, rfl, c01, c02⟩ := zI p0
  obtain ⟨z1, rfl, c11, c12⟩ := zI p1
  obtain ⟨z2, rfl, c21, c22⟩ := zI p2
  obtain ⟨z3, rfl, c31, c32⟩ := zI p3
  have hr6 := hT.1.2.1
  have hfb := fI_b hT.2.1 hT.1
  unfold s_X11_fma s_X12_fma
  rw [bnd_def, ← hS1, y_used hM1.1 hM1.2.1.1, bd1_some]
  by_cases hn : vN (tU T) = 0
  · rw [u1 hn, bd1_some, mq_none, if_pos (show ii (fI (tU T) (tN T).1) < (0 : Int32) by unfold fI; rw [if_pos hn]; decide)]
    exact jo_none hX hM1 hT hnx _
  obtain ⟨o, o1, o2, o3⟩ := u2 hn
  have hfi : fI (tU T) (tN T).1 = ((tN T).1 : Int) := by unfold fI; rw [if_neg hn]
  have ht1 : (tN T).1 < vN (tU T) := by rcases hT.2.1.1 with r | r; exact r; exact absurd r.1 hn
  have h4 := hT.1.1
  rw [o1, bd1_some, mq_some, x_four hX.1 z0 z1 z2 z3 ⟨c01, c02⟩ ⟨c11, c12⟩ ⟨c21, c22⟩ ⟨c31, c32⟩, bd1_some, if_neg (show ¬ ii (fI (tU T) (tN T).1) < (0 : Int32) by rw [hfi, k0, ii_lt (by omega) (by omega) (by omega) (by omega)]; omega), y_four hM1 z0 z1 z2 z3 ⟨c01, c02⟩ ⟨c11, c12⟩ ⟨c21, c22⟩ ⟨c31, c32⟩]
  simp only [b2_0]
  cases hd : (decide (0 ≤ z0 ∧ z0 < vR (tU T)) && (decide (0 ≤ z1 ∧ z1 < vR (tU T)) && (decide (0 ≤ z2 ∧ z2 < vR (tU T)) && decide (0 ≤ z3 ∧ z3 < vR (tU T)))))
  · rw [if_pos rfl, if_pos rfl]; exact jo_none hX hM1 hT hnx _
  simp only [Bool.and_eq_true, decide_eq_true_eq] at hd
  obtain ⟨d0, d1, d2, d3⟩ := hd
  obtain ⟨i, rfl⟩ : ∃ r : Nat, z0 = r := ⟨z0.toNat, by omega⟩
  obtain ⟨p, rfl⟩ : ∃ r : Nat, z1 = r := ⟨z1.toNat, by omega⟩
  obtain ⟨q, rfl⟩ : ∃ r : Nat, z2 = r := ⟨z2.toNat, by omega⟩
  obtain ⟨r, rfl⟩ : ∃ r : Nat, z3 = r := ⟨z3.toNat, by omega⟩
  have hi : i < vR (tU T) := by omega
  have hp : p < vR (tU T) := by omega
  have hq : q < vR (tU T) := by omega
  have hr : r < vR (tU T) := by omega
  have h27 := tB_27 hT hn
  have bp := hT.2.1.2.2.2 p hp
  have bq := hT.2.1.2.2.2 q hq
  have br := hT.2.1.2.2.2 r hr
  have mb := mnx_b (show (tN T).2.2.2 p < 134217728 by omega) (show (tN T).2.2.2 q < 134217728 by omega)
  have hak : AKok ((tN T).1, (tN T).2.1, mnN ((tN T).2.2.2 p) ((tN T).2.2.2 q), mxN ((tN T).2.2.2 p) ((tN T).2.2.2 q), (tN T).2.2.2 r) := ⟨by show (tN T).1 < 4; omega, hT.2.1.2.1, mb.1, mb.2, by show (tN T).2.2.2 r < 134217728; omega⟩
  have hql := hT.2.2.2.2.2.2.2.2.1
  have hfo := hT.1.2.2.2 _ ht1
  have hsb := sumF_b (k := vK (tU T) (tN T).1) (L := lawB (vL (tU T))) (mode := (tN T).2.1) (x := (tN T).2.2.2 p) (y := (tN T).2.2.2 q) (c := (tN T).2.2.2 r) hfo
  -- the class
  obtain ⟨k1', k2', S3, k3, k4', k5⟩ := x_keepG hF hX (show nx ≤ 512 by omega) true
  have e4 := (x_add k4').2.1
  have r1 := x_read k4'.1 k4'.2.1 (show isSt 16 = true by decide) p (by omega)
  have r2 := x_read k4'.1 k4'.2.1 (show isSt 16 = true by decide) q (by omega)
  have r3 := x_read k4'.1 k4'.2.1 (show isSt 16 = true by decide) r (by omega)
  obtain ⟨S5, f1, f2, f3, f4⟩ := x_fuse (F := F) (by omega) k4'.1 k4'.2.1 hT.2.1 (show isSt 16 = true by decide) hn i p q r ⟨hi, hp, hq, hr⟩
  have R5 := k4'.now f3 f2
  have g1 := (x_add R5).1
  have g4 := (x_add R5).2.1
  have g2 : gR S5 1102 x = some (A 3) := R5.1.2.2.1.1.2.2.2.1
  have g701 : gI S5 701 (A 16) = ii ((tN T).1 : Int) := by rw [← hfi]; exact f2.1
  have g702 : gI S5 702 (A 16) = ii ((tN T).2.1 : Int) := f2.2.1
  have gI1 : gI S5 1 (A 2) = ii ((fusR (tU T) (tN T) p q r).1 : Int) := f4.1
  have hfm : FM S5 o (vK (tU T) (tN T).1) (vE (tU T) (tN T).1) (vF (tU T) (tN T).1) := (o2.of_g (fun f w1 w2 => k5 f o w1 w2)).of_g (fun f w1 w2 => f3.1 f o (by omega) (by omega))
  have hkey := x_resultKey (f := (tN T).1) (c := (fusR (tU T) (tN T) p q r).1) hfm o3 (by omega) hsb.1
  obtain ⟨S6, n1, n2, n3⟩ := x_note (F := F) (by omega) R5.1 R5.2.2.2.2.2.2.1 (show (tQ T).length < 512 by omega) hT.2.2.2.2.2.2.2.1 (show (tN T).2.2.2 p < 134217728 by omega) (show (tN T).2.2.2 q < 134217728 by omega) hak ht1
  have hrk : keyN (vK (tU T) (tN T).1) (vE (tU T) (tN T).1) (vF (tU T) (tN T).1) (tN T).1 (fusR (tU T) (tN T) p q r).1 = rkey (tU T) ((tN T).1, (tN T).2.1, mnN ((tN T).2.2.2 p) ((tN T).2.2.2 q), mxN ((tN T).2.2.2 p) ((tN T).2.2.2 q), (tN T).2.2.2 r) := by
    unfold rkey; rw [rs_fus]
  have f1' : s_X11_fuse N F x (A 16) (ii i) (ii p) (ii q) (ii r) S3 = some (ii (fusR (tU T) (tN T) p q r).2.1, S5) := f1
  have n1' : s_X1_note N F (A 3) (ii (tN T).1) (ii (tN T).2.1) (ii ((tN T).2.2.2 p)) (ii ((tN T).2.2.2 q)) (ii ((tN T).2.2.2 r)) (ii (rkey (tU T) ((tN T).1, (tN T).2.1, mnN ((tN T).2.2.2 p) ((tN T).2.2.2 q), mxN ((tN T).2.2.2 p) ((tN T).2.2.2 q), (tN T).2.2.2 r))) S5 = some S6 := n1
  have r1' : s_X7_read N (A 16) (ii p) S3 = some (ii ((tN T).2.2.2 p)) := r1
  have r2' : s_X7_read N (A 16) (ii q) S3 = some (ii ((tN T).2.2.2 q)) := r2
  have r3' : s_X7_read N (A 16) (ii r) S3 = some (ii ((tN T).2.2.2 r)) := r3
  have hXX : RX N S6 x A b c (nx + 1) (tFma T (fus (tU T) (tN T) i p q r) ((tN T).1, (tN T).2.1, mnN ((tN T).2.2.2 p) ((tN T).2.2.2 q), mxN ((tN T).2.2.2 p) ((tN T).2.2.2 q), (tN T).2.2.2 r)) := R5.book n3 n2
  rw [if_neg tf, if_neg tf, k1', bd1_some, k2', bd1_some, show s_X4_keep N F (A 13) (A 16) 1 S = some S3 from k3, bd1_some, e4, bd1_some, r1', bd1_some, bd1_some, r2', bd1_some, bd1_some, r3', bd1_some, bd1_some, f1', bd2_some, g2, bd1_some, g4, bd1_some, bd1_some, bd1_some, g1, bd1_some, g701, g702, gI1, hkey, hrk, n1', bd1_some]
  -- the model
  have hB := hM1.1.1
  have hM0 := hM1
  obtain ⟨s1, s2⟩ := y_st hM1.1
  obtain ⟨a1, ⟨a2, a3⟩, ⟨q1, q2, q3⟩, ⟨v1, v2, v3⟩, a5, a6, _⟩ := hM1
  obtain ⟨S7, l1, l2, l3, l4, l5, l6⟩ := y_keeps (F := F) hF hB s1 s2 v1 v2 v3 a2 a3 true
  have h140 : ∀ i, i < 140 → aI S7 (B 11) i = aI S1 (B 11) i := fun i hi => l5 i (Or.inl hi)
  have Y7 := a1.wf l2
  obtain ⟨y1, y2, y3, y4, y5, y6⟩ := y_f Y7
  have Y7s : YST (aI S7 (B 11)) 0 (tU T) (tN T) := a2.congr (fun i _ i2 => h140 i (by omega))
  have st3 : aI S7 (B 11) 3 = ii (tQ T).length := by rw [h140 3 (by omega)]; exact a3
  have hus := y_used Y7 Y7s
  rw [hfi] at hus
  have st1 : aI S7 (B 11) 1 = ii (tN T).2.1 := Y7s.2.1
  have rg : ∀ k, k < 6 → aI S7 (B 11) (4 + k) = ii ((tN T).2.2.2 k) := fun k hk => by have := Y7s.2.2.2 k hk; rw [Nat.zero_add] at this; exact this
  have i3 : ((3 : Int32).toNatClampNeg) = 3 := by decide
  have i1 : ((1 : Int32).toNatClampNeg) = 1 := by decide
  have b3 : inB (3 : Int32) (N2 (B 11)) = true := by rw [y6]; decide
  have b1 : inB (1 : Int32) (N2 (B 11)) = true := by rw [y6]; decide
  have e4' : ∀ k : Nat, (4 : Int32) + ii (k : Int) = ii ((4 + k : Nat) : Int) := fun k => by rw [k4, ii_add]; rfl
  have c4 : ∀ k : Nat, k < 6 → (ii ((4 + k : Nat) : Int)).toNatClampNeg = 4 + k := fun k hk => cl_of rfl (by omega)
  have b4 : ∀ k : Nat, k < 6 → inB (ii ((4 + k : Nat) : Int)) (N2 (B 11)) = true := fun k hk => by rw [y6]; exact in_of (z := 4 + k) rfl (by omega) (by decide)
  have cl := cl_of (x := ii (((tQ T).length : Nat) : Int)) (z := (tQ T).length) rfl (by omega)
  have bl13 : inB (ii (((tQ T).length : Nat) : Int)) (N2 (B 13)) = true := by rw [y3]; exact in_of (z := (tQ T).length) rfl (by omega) (by decide)
  have bl14 : inB (ii (((tQ T).length : Nat) : Int)) (N2 (B 14)) = true := by rw [y4]; exact in_of (z := (tQ T).length) rfl (by omega) (by decide)
  have hky := fun S => y_key (S := S) (f := (tN T).1) (md := (tN T).2.1) (p := (tN T).2.2.2 p) (q := (tN T).2.2.2 q) (by omega) hT.2.1.2.1 (by omega) (by omega) ((tN T).2.2.2 r)
  rw [l1, bd1_some, y5, bd1_some, if_pos b3, bnd_def, i3, st3, y1, bd1_some, hus, bd1_some, bd1_some, if_pos b1, bd1_some, e4' p, if_pos (b4 p (by omega)), bd1_some, e4' q, if_pos (b4 q (by omega)), if_pos bl13, bnd_def, cl, i1, c4 p (by omega), c4 q (by omega), st1, rg p (by omega), rg q (by omega), hky, gR_wJ2, gR_wJ2, y2, bd1_some, y5, bd1_some, e4' r, if_pos (b4 r (by omega)), if_pos bl14, bnd_def, c4 r (by omega)]
  rw [aI_wJ2, rg r (by omega), ii_jj (by omega) (by omega)]
  generalize hS9 : wJ (wJ S7 (B 13) (tQ T).length (jj (facK ((tN T).1, (tN T).2.1, mnN ((tN T).2.2.2 p) ((tN T).2.2.2 q), mxN ((tN T).2.2.2 p) ((tN T).2.2.2 q), (tN T).2.2.2 r)))) (B 14) (tQ T).length (jj ((tN T).2.2.2 r)) = S9
  have hj9 : ∀ p, p ≠ B 13 → p ≠ B 14 → aJ S9 p = aJ S7 p := fun p p1 p2 => by rw [← hS9, aJ_wJ_o _ _ _ _ p2, aJ_wJ_o _ _ _ _ p1]
  have ha9 : ∀ p, aI S9 p = aI S7 p := fun p => by rw [← hS9]; rfl
  have hg9 : S9.1 = S7.1 := by rw [← hS9]; rfl
  have hr9 : S9.2.2.1 = S7.2.2.1 := by rw [← hS9]; rfl
  have Y9 : YW N2 S9 m B (tU T) := Y7.congr hr9 (ha9 _) (ha9 _) (hj9 _ (by rw [ne_eq, hB]; decide) (by rw [ne_eq, hB]; decide)) (hj9 _ (by rw [ne_eq, hB]; decide) (by rw [ne_eq, hB]; decide))
  have w13 : ∀ j, aJ S9 (B 13) j = if j = (tQ T).length then jj (facK ((tN T).1, (tN T).2.1, mnN ((tN T).2.2.2 p) ((tN T).2.2.2 q), mxN ((tN T).2.2.2 p) ((tN T).2.2.2 q), (tN T).2.2.2 r)) else aJ S7 (B 13) j := fun j => by rw [← hS9, aJ_wJ_o _ _ _ _ (show B 13 ≠ B 14 by rw [ne_eq, hB]; decide), aJ_wJ_s]
  have w14 : ∀ j, aJ S9 (B 14) j = if j = (tQ T).length then jj ((tN T).2.2.2 r) else aJ S7 (B 14) j := fun j => by rw [← hS9, aJ_wJ_s, aJ_wJ_o _ _ _ _ (show B 14 ≠ B 13 by rw [ne_eq, hB]; decide)]
  obtain ⟨S10, m1, m2, m3, m4, m5, m6, m7⟩ := y_mult (F := F) (o := 0) hF Y9 (Or.inl rfl) (by rw [ha9]; exact Y7s) hT.2.1 hn i p q r ⟨hi, hp, hq, hr⟩
  have m1' : s_X12_multiplies N2 F m 0 (ii i) (ii p) (ii q) (ii r) S9 = some S10 := m1
  have Y10 := Y9.vg m2
  obtain ⟨y1', y2', _, _, y5', _⟩ := y_f Y10
  have m7' : aI S10 (B 11) (4 + i) = ii (fusR (tU T) (tN T) p q r).1 := by rw [Nat.zero_add] at m7; exact m7
  have hsf := hsb.1
  have h27' : (fusR (tU T) (tN T) p q r).1 < 134217728 := Nat.lt_of_lt_of_le hsf h27
  have hj10 : ∀ q, aJ S10 q = aJ S9 q := aJ_of m2.2.2.2.2
  have e10 : aJ S10 (B 14) (tQ T).length = jj ((tN T).2.2.2 r) := by rw [hj10, w14, if_pos rfl]
  have esum : jj ((tN T).2.2.2 r) + 134217728 * jj (fusR (tU T) (tN T) p q r).1 = jj ((tN T).2.2.2 r + 134217728 * (fusR (tU T) (tN T) p q r).1 : Nat) := by
    rw [show (134217728 : Int64) = jj 134217728 from rfl, jj_mul, jj_add]; congr 1
  rw [m1', bd1_some, y2', bd1_some, if_pos bl14, y5', bd1_some, e4' i, if_pos (b4 i (by omega)), if_pos bl14, bnd_def, c4 i (by omega), m7', e10, ii_jj (by omega) (by omega), esum, gR_wJ2, y5', bd1_some, if_pos b3, if_pos b3, bnd_def, aI_wJ2]
  have st3' : aI S10 (B 11) 3 = ii (tQ T).length := by have : aI S10 (B 11) (0 + 3) = aI S9 (B 11) (0 + 3) := m5; rw [Nat.zero_add] at this; rw [this, ha9]; exact st3
  have e20 : gI S10 1220 m = ii (fusR (tU T) (tN T) p q r).2.1 := m6
  rw [st3', k1, ii_add, gI_wI, gI_wJ, e20]
  generalize hS12 : wI (wJ S10 (B 14) (tQ T).length (jj ((tN T).2.2.2 r + 134217728 * (fusR (tU T) (tN T) p q r).1 : Nat))) (B 11) 3 (ii ((tQ T).length + 1)) = S12
  have ha12 : ∀ p, p ≠ B 11 → aI S12 p = aI S10 p := fun p p1 => by rw [← hS12, aI_wI_o _ _ _ _ p1, aI_wJ2]
  have hw12 : ∀ j, aI S12 (B 11) j = if j = 3 then ii ((tQ T).length + 1) else aI S10 (B 11) j := fun j => by rw [← hS12, aI_wI_s, aI_wJ2]
  have hj12 : ∀ p, p ≠ B 14 → aJ S12 p = aJ S10 p := fun p p1 => by rw [← hS12]; exact aJ_wJ_o S10 _ _ _ p1
  have hv12 : ∀ j, aJ S12 (B 14) j = if j = (tQ T).length then jj ((tN T).2.2.2 r + 134217728 * (fusR (tU T) (tN T) p q r).1 : Nat) else aJ S10 (B 14) j := fun j => by rw [← hS12]; exact congrFun (aJ_wJ_s S10 _ _ _) j
  have hg12 : S12.1 = S10.1 := by rw [← hS12]; rfl
  have hr12 : S12.2.2.1 = S10.2.2.1 := by rw [← hS12]; rfl
  have hup : ∀ j, 10 ≤ j → aI S12 (B 11) j = aI S7 (B 11) j := fun j hj => by rw [hw12, if_neg (by omega), m4 j (by omega), ha9]
  have hmm : RY N2 S12 m B (tFma T (fus (tU T) (tN T) i p q r) ((tN T).1, (tN T).2.1, mnN ((tN T).2.2.2 p) ((tN T).2.2.2 q), mxN ((tN T).2.2.2 p) ((tN T).2.2.2 q), (tN T).2.2.2 r)) := by
    refine hM0.gen (fun f p f1 f2 f3 => ?_) (by rw [hr12, m2.2.2.1, hr9, l2.2.1]) (fun p p1 p2 p3 p4 p5 => ?_) (fun p p1 p2 => ?_) ⟨?_, ?_⟩ ⟨?_, q2, fun k q hk => ?_⟩ ⟨?_, ?_, ?_⟩ (fun k hk => ⟨?_, fun t ht => ((a5 k hk).2 t ht).congr (fun i i1 i2 => by rw [hup i (by omega), h140 i (by omega)])⟩) ⟨?_, ?_, ?_⟩
    · rw [gI_of hg12, m2.1 f p f3, gI_of hg9, l2.1 f p f1 f2 f3]
    · rw [ha12 p p3, m2.2.2.2.1 p p1 p2 p3, ha9, l2.2.2.1 p p1 p2 p3 p4 p5]
    · rw [hj12 p p2, hj10, hj9 p p1 p2, aJ_of l2.2.2.2]
    · obtain ⟨w0, w1, w2, w4⟩ := m3
      exact ⟨by rw [hw12, if_neg (by omega)]; exact w0, by rw [hw12, if_neg (by omega)]; exact w1, by rw [hw12, if_neg (by omega)]; exact w2, fun j hj => by rw [hw12, if_neg (by omega)]; exact w4 j hj⟩
    · rw [hw12, if_pos rfl]; simp
    · rw [hup 10 (by omega), h140 10 (by omega)]; exact q1
    · have hi : k < (tS T).length := (List.getElem?_eq_some_iff.mp hk).1
      rw [hup _ (by omega), hup _ (by omega), h140 _ (by omega), h140 _ (by omega)]; exact q3 k q hk
    · rw [gI_of hg12, m2.1 1218 m (by omega), gI_of hg9]; exact l3
    · simp only [List.length_cons, List.length_take]; omega
    · exact YUN.congr l4 (fun j j1 _ => hup j (by omega))
    · rw [ha12 (B 12) (by rw [ne_eq, hB]; decide), m2.2.2.2.1 (B 12) (by rw [ne_eq, hB]; decide) (by rw [ne_eq, hB]; decide) (by rw [ne_eq, hB]; decide), ha9, l6]; exact (a5 k hk).1
    · rw [hj12 (B 13) (by rw [ne_eq, hB]; decide), hj10, w13, if_pos rfl]; rfl
    · rw [hv12, if_pos rfl, rs_fus]
    · refine a6.congr (fun j hj => ?_)
      have := aJ_of l2.2.2.2
      rw [hj12 (B 13) (by rw [ne_eq, hB]; decide), hj10, w13, if_neg (by omega), hv12, if_neg (by omega), hj10, w14, if_neg (by omega), this, this]
      exact ⟨rfl, rfl⟩
  refine ⟨_, _, _, nx + 1, _, rfl, rfl, hXX, hmm, ?_, by omega⟩
  obtain ⟨t1, t2, t3, t4, t5, t6, t7, t8, t9, t10⟩ := hT
  refine ⟨t1, fus_ok t1 t2 hn i p q r, t3, t4, t5, fun q hq => ?_, ?_, fun d hd => ?_, by show (tQ T).length + 1 ≤ n + 1; omega, t10⟩
  · rcases List.mem_cons.mp hq with h | h
    · subst h; exact t2
    · exact t6 q (List.mem_of_mem_take h)
  · show nby ((tN T, true) :: (tD T).take 15) ≤ (tQ T).length + 1
    have := nby_take (tD T) 15
    simp only [nby]
    simp; omega
  · rcases List.mem_cons.mp hd with h | h
    · subst h; exact ⟨hak, ht1⟩
    · exact t8 d h
end JFMA
end
