section
/- the unit as it is told: how many forms, kind, exponent bits, fraction bits, how many registers, law, names of forms and of registers -/
abbrev UNt : Type := Nat × (Nat → Nat) × (Nat → Nat) × (Nat → Nat) × Nat × Nat × (Nat → List Nat) × (Nat → List Nat)
def vN (U : UNt) : Nat := U.1
def vK (U : UNt) : Nat → Nat := U.2.1
def vE (U : UNt) : Nat → Nat := U.2.2.1
def vF (U : UNt) : Nat → Nat := U.2.2.2.1
def vR (U : UNt) : Nat := U.2.2.2.2.1
def vL (U : UNt) : Nat := U.2.2.2.2.2.1
def vA (U : UNt) : Nat → List Nat := U.2.2.2.2.2.2.1
def vB (U : UNt) : Nat → List Nat := U.2.2.2.2.2.2.2
/- a state: form, mode, flags, registers -/
abbrev STt : Type := Nat × Nat × Nat × (Nat → Nat)
def UOK (U : UNt) : Prop := vN U ≤ 4 ∧ vR U ≤ 6 ∧ vL U < 65536 ∧ ∀ f, f < vN U → FO (vK U f) (vE U f) (vF U f)
def tB (U : UNt) (f : Nat) : Nat := 2 ^ (vE U f + vF U f + 1)
def SOK (U : UNt) (t : STt) : Prop := (t.1 < vN U ∨ (vN U = 0 ∧ t.1 = 0)) ∧ t.2.1 < 6 ∧ t.2.2.1 < 16 ∧ ∀ r, r < vR U → t.2.2.2 r < tB U t.1
def fI (U : UNt) (f : Nat) : Int := if vN U = 0 then -1 else f
def isSt (s : Nat) : Bool := (s == 16) || (s == 17) || (decide (35 ≤ s) && decide (s < 39)) || (decide (40 ≤ s) && decide (s < 56))
/- where everything of the class lies: its references, its rows' lengths -/
def XLAY (R Q : Nat → Nat → Option Nat) (x : Nat) (A : Nat → Nat) : Prop :=
  (R 1100 x = some (A 0) ∧ R 800 (A 0) = some (A 1) ∧ R 1101 x = some (A 2) ∧ R 1102 x = some (A 3) ∧ R 1103 x = some (A 13) ∧ R 400 (A 13) = some (A 14) ∧ R 401 (A 13) = some (A 15) ∧ R 1104 x = some (A 16) ∧ R 1105 x = some (A 17)) ∧
  (R 1106 x = some (A 18) ∧ R 1107 x = some (A 19) ∧ R 1108 x = some (A 20) ∧ R 1109 x = some (A 21) ∧ R 1110 x = some (A 22)) ∧
  (∀ j, j < 9 → R (100 + j) (A 3) = some (A (4 + j))) ∧ (∀ m, m < 4 → Q (A 18) m = some (A (35 + m))) ∧ (∀ j, j < 16 → Q (A 14) j = some (A (40 + j))) ∧ (∀ s, isSt s = true → R 700 (A s) = some (A (60 + s))) ∧
  (∀ b, b < 2 → R 900 (A (23 + 4 * b)) = some (A (24 + 4 * b)) ∧ R 901 (A (23 + 4 * b)) = some (A (25 + 4 * b)) ∧ R 902 (A (23 + 4 * b)) = some (A (26 + 4 * b))) ∧ (∀ b, b < 2 → R 500 (A (31 + 2 * b)) = some (A (32 + 2 * b)))
def XN (N : Nat → Nat) (A : Nat → Nat) : Prop :=
  (N (A 1) = 1000 ∧ N (A 14) = 16 ∧ N (A 15) = 16 ∧ N (A 18) = 4 ∧ N (A 19) = 4 ∧ N (A 20) = 8 ∧ N (A 21) = 8 ∧ N (A 22) = 6) ∧
  (∀ j, j < 9 → N (A (4 + j)) = 512) ∧ (∀ s, isSt s = true → N (A (60 + s)) = 6) ∧ (∀ b, b < 2 → N (A (24 + 4 * b)) = 4 ∧ N (A (25 + 4 * b)) = 4 ∧ N (A (26 + 4 * b)) = 6) ∧ (∀ b, b < 2 → N (A (32 + 2 * b)) = 150)
def TS (S : HS) (A : Nat → Nat) (U : UNt) (s : Nat) (t : STt) : Prop := gI S 701 (A s) = ii (fI U t.1) ∧ gI S 702 (A s) = ii t.2.1 ∧ gI S 703 (A s) = ii t.2.2.1 ∧ ∀ r, r < 6 → aI S (A (60 + s)) r = ii (t.2.2.2 r)
def nm32 : List Nat → Nat := List.foldl (fun v c => v * 32 + c) 0
def XU (S : HS) (x : Nat) (A : Nat → Nat) (b : Nat) (U : UNt) : Prop :=
  b < 2 ∧ gR S 1111 x = some (A (23 + 4 * b)) ∧ gR S 1112 x = some (A (23 + 4 * (1 - b))) ∧ gI S 903 (A (23 + 4 * b)) = ii (vN U) ∧ gI S 904 (A (23 + 4 * b)) = ii (vR U) ∧ gI S 0 (A 2) = ii (vL U) ∧
  (∀ f, f < vN U → ∃ p, aR S (A (24 + 4 * b)) f = some p ∧ FM S p (vK U f) (vE U f) (vF U f)) ∧ (∀ f, f < vN U → aJ S (A (25 + 4 * b)) f = jj (nm32 (vA U f))) ∧ (∀ r, r < vR U → aJ S (A (26 + 4 * b)) r = jj (nm32 (vB U r)))
/- the class's ground: where things lie and what its unit is -/
def XW (N : Nat → Nat) (S : HS) (x : Nat) (A : Nat → Nat) (b : Nat) (U : UNt) : Prop := (∀ i j, A i = A j ↔ i = j) ∧ XN N A ∧ XLAY S.2.2.1 S.2.2.2.2.2 x A ∧ XU S x A b U ∧ UOK U
/- nothing changes but the adder's fields, the fields of the state s and its registers -/
def SF (A : Nat → Nat) (s : Nat) (S S' : HS) : Prop :=
  (∀ f b, ¬ (b = A 2 ∧ 1 ≤ f ∧ f ≤ 7) → ¬ (b = A s ∧ 701 ≤ f ∧ f ≤ 703) → gI S' f b = gI S f b) ∧ (∀ f b, f ≠ 5 → gJ S' f b = gJ S f b) ∧ S'.2.2.1 = S.2.2.1 ∧ (∀ b, b ≠ A (60 + s) → aI S' b = aI S b) ∧ S'.2.2.2.2 = S.2.2.2.2
theorem SF.refl (A : Nat → Nat) (s : Nat) (S : HS) : SF A s S S := ⟨fun _ _ _ _ => rfl, fun _ _ _ => rfl, rfl, fun _ _ => rfl, rfl⟩
theorem SF.trans {A : Nat → Nat} {s : Nat} {S S1 S2 : HS} (h1 : SF A s S S1) (h2 : SF A s S1 S2) : SF A s S S2 :=
  ⟨fun f b p q => (h2.1 f b p q).trans (h1.1 f b p q), fun f b p => (h2.2.1 f b p).trans (h1.2.1 f b p), h2.2.2.1.trans h1.2.2.1, fun b p => (h2.2.2.2.1 b p).trans (h1.2.2.2.1 b p), h2.2.2.2.2.trans h1.2.2.2.2⟩
theorem AFr.sf {A : Nat → Nat} {S S' : HS} (h : AFr (A 2) [1, 2, 3, 4, 6, 7] S S') (s : Nat) : SF A s S S' :=
  ⟨fun f b p _ => h.1 f b (fun q => p ⟨q.1, by have := q.2; simp at this; omega⟩), fun f b p => h.2.1 f b (fun q => p q.2), by rw [h.2.2], fun b _ => by unfold aI; rw [h.2.2], by rw [h.2.2]⟩
theorem SF.uI {A : Nat → Nat} {s : Nat} {S S1 : HS} (h1 : SF A s S S1) (f : Nat) (v : Int32) (hf : 701 ≤ f ∧ f ≤ 703) : SF A s S (uI S1 f (A s) v) :=
  ⟨fun g b p q => by rw [gI_uI, if_neg (show ¬ (g = f ∧ b = A s) from fun r => q ⟨r.2, r.1 ▸ hf⟩)]; exact h1.1 g b p q, h1.2.1, h1.2.2.1, h1.2.2.2.1, h1.2.2.2.2⟩
theorem SF.wI {A : Nat → Nat} {s : Nat} {S S1 : HS} (h1 : SF A s S S1) (i : Nat) (v : Int32) : SF A s S (wI S1 (A (60 + s)) i v) :=
  ⟨h1.1, h1.2.1, h1.2.2.1, fun b p => (aI_wI_o S1 _ i v p).trans (h1.2.2.2.1 b p), h1.2.2.2.2⟩
theorem aR_of {S S' : HS} (h : S'.2.2.2.2 = S.2.2.2.2) (b : Nat) : aR S' b = aR S b := by unfold aR; rw [h]
theorem aJ_of {S S' : HS} (h : S'.2.2.2.2 = S.2.2.2.2) (b : Nat) : aJ S' b = aJ S b := by unfold aJ; rw [h]
theorem FM.mono2 {S S' : HS} {p k e fr : Nat} (h : FM S p k e fr) (hg : ∀ f, 200 ≤ f → f ≤ 207 → gI S' f p = gI S f p) : FM S' p k e fr := by
  unfold FM at *
  rw [hg 200 (by omega) (by omega), hg 201 (by omega) (by omega), hg 202 (by omega) (by omega), hg 203 (by omega) (by omega), hg 204 (by omega) (by omega), hg 205 (by omega) (by omega), hg 206 (by omega) (by omega), hg 207 (by omega) (by omega)]
  exact h
theorem XU.mono {S S' : HS} {x : Nat} {A : Nat → Nat} {b : Nat} {U : UNt} (h : XU S x A b U) (h1 : ∀ f p, (f = 0 ∨ (200 ≤ f ∧ f ≤ 207) ∨ (903 ≤ f ∧ f ≤ 904)) → gI S' f p = gI S f p) (h2 : S'.2.2.1 = S.2.2.1) (h3 : S'.2.2.2.2 = S.2.2.2.2) : XU S' x A b U := by
  obtain ⟨a1, a2, a3, a4, a5, a6, a7, a8, a9⟩ := h
  refine ⟨a1, by rw [gR_of h2]; exact a2, by rw [gR_of h2]; exact a3, by rw [h1 903 _ (by omega)]; exact a4, by rw [h1 904 _ (by omega)]; exact a5, by rw [h1 0 _ (by omega)]; exact a6, fun f hf => ?_, by rw [aJ_of h3]; exact a8, by rw [aJ_of h3]; exact a9⟩
  obtain ⟨p, p1, p2⟩ := a7 f hf
  exact ⟨p, by rw [aR_of h3]; exact p1, p2.mono2 (fun f q1 q2 => h1 f p (by omega))⟩
theorem XW.sf {N : Nat → Nat} {S S' : HS} {x : Nat} {A : Nat → Nat} {b s : Nat} {U : UNt} (h : XW N S x A b U) (hF : SF A s S S') : XW N S' x A b U := by
  obtain ⟨h1, h2, h3, h4, h5⟩ := h
  refine ⟨h1, h2, by rw [hF.2.2.1, hF.2.2.2.2]; exact h3, h4.mono (fun f p q => ?_) hF.2.2.1 hF.2.2.2.2, h5⟩
  exact hF.1 f p (fun r => by omega) (fun r => by omega)
theorem TS.sf {S S' : HS} {A : Nat → Nat} {U : UNt} {s r : Nat} {t : STt} (h : TS S A U r t) (hA : ∀ i j, A i = A j ↔ i = j) (hF : SF A s S S') (hr : r ≠ s) : TS S' A U r t := by
  unfold TS at *
  have q : ∀ f, 701 ≤ f → gI S' f (A r) = gI S f (A r) := fun f hf => hF.1 f (A r) (fun w => by omega) (fun w => hr ((hA r s).mp w.1))
  rw [q 701 (by omega), q 702 (by omega), q 703 (by omega), hF.2.2.2.1 _ (fun w => hr (by have := (hA _ _).mp w; omega))]
  exact h
theorem half_congr {S S' : HS} {a : Nat} (h : ∀ f, 1 ≤ f ∧ f ≤ 7 → gI S' f a = gI S f a) : s_X0_isHalf a S' = s_X0_isHalf a S := by
  unfold s_X0_isHalf
  rw [h 4 (by omega), h 6 (by omega), h 7 (by omega)]
section XBASE
variable {N : Nat → Nat} {F : Nat} {S : HS} {x : Nat} {A : Nat → Nat} {b s : Nat} {U : UNt} {t : STt}
/- the form's number, if there are forms -/
theorem x_formAt (h : XW N S x A b U) (z : Int) (hz1 : -2147483648 ≤ z) (hz2 : z < 2147483648) :
    (¬ (0 ≤ z ∧ z < vN U) → s_X9_formAt N (A (23 + 4 * b)) (ii z) S = some none) ∧ (0 ≤ z ∧ z < vN U → ∃ p, s_X9_formAt N (A (23 + 4 * b)) (ii z) S = some (some p) ∧ FM S p (vK U z.toNat) (vE U z.toNat) (vF U z.toNat)) := by
  obtain ⟨h1, h2, h3, ⟨a1, a2, a3, a4, a5, a6, a7, a8, a9⟩, h5⟩ := h
  have hN := h5.1
  unfold s_X9_formAt
  rw [a4]
  simp (disch := omega) only [k0, k4, ii_lt, ii_le]
  constructor
  · intro hz
    by_cases q : z < 0
    · rw [if_pos q]
    · rw [if_neg q, if_pos (by omega)]
  · intro hz
    rw [if_neg (by omega), if_neg (by omega), if_neg (by omega)]
    have e1 : gR S 900 (A (23 + 4 * b)) = some (A (24 + 4 * b)) := (h3.2.2.2.2.2.2.1 b a1).1
    obtain ⟨p, p1, p2⟩ := a7 z.toNat (by omega)
    rw [e1, bd1_some, (h2.2.2.2.1 b a1).1, if_pos (by rw [ii_in hz1 hz2]; omega), ii_cl hz1 hz2, p1]
    exact ⟨p, rfl, p2⟩
theorem fI_b (ht : SOK U t) (hU : UOK U) : -2147483648 ≤ fI U t.1 ∧ fI U t.1 < 2147483648 := by
  have := hU.1
  have := ht.1
  unfold fI
  split <;> omega
theorem x_formOf (h : XW N S x A b U) (hs : TS S A U s t) (ht : SOK U t) :
    (vN U = 0 → s_X9_formAt N (A (23 + 4 * b)) (gI S 701 (A s)) S = some none) ∧ (vN U ≠ 0 → ∃ p, s_X9_formAt N (A (23 + 4 * b)) (gI S 701 (A s)) S = some (some p) ∧ FM S p (vK U t.1) (vE U t.1) (vF U t.1) ∧ FO (vK U t.1) (vE U t.1) (vF U t.1)) := by
  have hb := fI_b ht h.2.2.2.2
  have hx := x_formAt h (fI U t.1) hb.1 hb.2
  rw [hs.1]
  constructor
  · intro q
    refine hx.1 ?_
    unfold fI; rw [if_pos q]; omega
  · intro q
    have ht1 : t.1 < vN U := by rcases ht.1 with r | r; exact r; exact absurd r.1 q
    have e : fI U t.1 = (t.1 : Int) := if_neg q
    rw [e] at hx ⊢
    obtain ⟨p, p1, p2⟩ := hx.2 (by omega)
    exact ⟨p, p1, by simpa using p2, h.2.2.2.2.2.2.2 _ ht1⟩
theorem x_inUse (h : XW N S x A b U) (hs : TS S A U 16 t) (ht : SOK U t) :
    (vN U = 0 → s_X11_formInUse N x S = some none) ∧ (vN U ≠ 0 → ∃ p, s_X11_formInUse N x S = some (some p) ∧ FM S p (vK U t.1) (vE U t.1) (vF U t.1) ∧ FO (vK U t.1) (vE U t.1) (vF U t.1)) := by
  obtain ⟨g1, g2⟩ := x_formOf h hs ht
  have e1 : gR S 1111 x = some (A (23 + 4 * b)) := h.2.2.2.1.2.1
  have e2 : gR S 1104 x = some (A 16) := h.2.2.1.1.2.2.2.2.2.2.2.1
  unfold s_X11_formInUse
  rw [e1, bd1_some, e2, bd1_some]
  constructor
  · intro q; rw [g1 q]; rfl
  · intro q
    obtain ⟨p, p1, p2⟩ := g2 q
    rw [p1]; exact ⟨p, rfl, p2⟩
theorem x_holding (h : XW N S x A b U) (hs : TS S A U 16 t) (ht : SOK U t) (v : Int32) :
    (¬ (vN U ≠ 0 ∧ 0 ≤ v.toInt ∧ v.toInt < tB U t.1) → s_X11_formHolding N x v S = some none) ∧ (vN U ≠ 0 ∧ 0 ≤ v.toInt ∧ v.toInt < tB U t.1 → ∃ p, s_X11_formHolding N x v S = some (some p) ∧ FM S p (vK U t.1) (vE U t.1) (vF U t.1) ∧ FO (vK U t.1) (vE U t.1) (vF U t.1)) := by
  obtain ⟨g1, g2⟩ := x_inUse h hs ht
  unfold s_X11_formHolding
  by_cases q : vN U = 0
  · rw [g1 q]
    exact ⟨fun _ => rfl, fun r => absurd q r.1⟩
  · obtain ⟨p, p1, p2, p3⟩ := g2 q
    rw [p1, bd1_some]
    unfold mq
    dsimp only
    rw [x2_holds p2 p3]
    simp only [b2_0, decide_eq_false_iff_not]
    constructor
    · intro r
      rw [if_pos (fun w => r ⟨q, w.1, w.2⟩)]
    · intro r
      rw [if_neg (fun w => w ⟨r.2.1, r.2.2⟩)]
      exact ⟨p, rfl, p2, p3⟩
theorem x_isReg (h : XW N S x A b U) (z : Int) (hz1 : -2147483648 ≤ z) (hz2 : z < 2147483648) : s_X11_isRegister x (ii z) S = some (b2 (decide (0 ≤ z ∧ z < vR U))) := by
  obtain ⟨h1, h2, h3, ⟨a1, a2, a3, a4, a5, a6, a7, a8, a9⟩, h5⟩ := h
  have := h5.2.1
  unfold s_X11_isRegister
  rw [a2, bd1_some, a5]
  simp (disch := omega) only [k0, ii_lt, ii_le]
  by_cases q1 : z < 0
  · rw [if_pos q1, decide_eq_false (by omega)]; rfl
  · rw [if_neg q1]
    by_cases q2 : (vR U : Int) ≤ z
    · rw [if_pos q2, decide_eq_false (by omega)]; rfl
    · rw [if_neg q2, decide_eq_true (by omega)]; rfl
theorem x_read (h : XW N S x A b U) (hs : TS S A U s t) (hi : isSt s = true) (r : Nat) (hr : r < 6) : s_X7_read N (A s) (ii r) S = some (ii (t.2.2.2 r)) := by
  obtain ⟨h1, h2, h3, _, h5⟩ := h
  have e : gR S 700 (A s) = some (A (60 + s)) := h3.2.2.2.2.2.1 s hi
  unfold s_X7_read
  simp (disch := omega) only [k0, k6, ii_lt, ii_le]
  rw [if_neg (by omega), if_neg (by omega), e, bd1_some, h2.2.2.1 s hi, if_pos (in_of (z := r) rfl hr (by decide)), cl_of (z := r) rfl (by omega), hs.2.2.2 r hr]
def fsetN (t : STt) (r v : Nat) : STt := (t.1, t.2.1, t.2.2.1, fun j => if j = r then v else t.2.2.2 j)
theorem x_putN (h : XW N S x A b U) (hs : TS S A U s t) (hi : isSt s = true) (r v : Nat) (hr : r < 6) : ∃ S', s_X7_put N (A s) (ii r) (ii v) S = some S' ∧ TS S' A U s (fsetN t r v) ∧ SF A s S S' ∧ S'.1 = S.1 := by
  obtain ⟨h1, h2, h3, _, h5⟩ := h
  have e : gR S 700 (A s) = some (A (60 + s)) := h3.2.2.2.2.2.1 s hi
  unfold s_X7_put
  simp (disch := omega) only [k0, k6, ii_lt, ii_le]
  rw [if_neg (by omega), if_neg (by omega), e, bd1_some, h2.2.2.1 s hi, if_pos (in_of (z := r) rfl hr (by decide)), cl_of (z := r) rfl (by omega), bnd_def]
  refine ⟨_, rfl, ⟨hs.1, hs.2.1, hs.2.2.1, fun j hj => ?_⟩, (SF.refl A s S).wI r (ii v), rfl⟩
  rw [aI_wI_s]
  unfold fsetN
  dsimp only
  split
  · rfl
  · exact hs.2.2.2 j hj
/- an FMA on a state -/
def fusR (U : UNt) (t : STt) (x y c : Nat) : Nat × Nat × Int × Bool := sumF (vK U t.1) (vE U t.1) (vF U t.1) (lawB (vL U)) t.2.1 (t.2.2.2 x) (t.2.2.2 y) (t.2.2.2 c)
def fus (U : UNt) (t : STt) (i x y c : Nat) : STt := (t.1, t.2.1, t.2.2.1 ||| (fusR U t x y c).2.1, fun j => if j = i then (fusR U t x y c).1 else t.2.2.2 j)
theorem or16 {a b : Nat} (ha : a < 16) (hb : b < 16) : a ||| b < 16 := Nat.or_lt_two_pow (n := 4) ha hb
theorem fus_ok (hU : UOK U) (ht : SOK U t) (hn : vN U ≠ 0) (i x y c : Nat) : SOK U (fus U t i x y c) := by
  have ht1 : t.1 < vN U := by rcases ht.1 with r | r; exact r; exact absurd r.1 hn
  have hb := sumF_b (L := lawB (vL U)) (mode := t.2.1) (x := t.2.2.2 x) (y := t.2.2.2 y) (c := t.2.2.2 c) (hU.2.2.2 _ ht1)
  refine ⟨ht.1, ht.2.1, or16 ht.2.2.1 hb.2.1, fun r hr => ?_⟩
  show (if r = i then _ else t.2.2.2 r) < tB U t.1
  split
  · exact hb.1
  · exact ht.2.2.2 r hr
theorem x_fuse (hF : 7 ≤ F) (h : XW N S x A b U) (hs : TS S A U s t) (ht : SOK U t) (hi : isSt s = true) (hn : vN U ≠ 0) (i p q c : Nat) (h7 : i < vR U ∧ p < vR U ∧ q < vR U ∧ c < vR U) :
    ∃ S', s_X11_fuse N F x (A s) (ii i) (ii p) (ii q) (ii c) S = some (ii (fusR U t p q c).2.1, S') ∧ TS S' A U s (fus U t i p q c) ∧ SF A s S S' ∧ XS S' (A 2) (fusR U t p q c) := by
  obtain ⟨_, g2⟩ := x_formOf h hs ht
  obtain ⟨o, o1, o2, o3⟩ := g2 hn
  have hA := h.1
  have ht1 : t.1 < vN U := by rcases ht.1 with r | r; exact r; exact absurd r.1 hn
  have e1 : gR S 1111 x = some (A (23 + 4 * b)) := h.2.2.2.1.2.1
  have e2 : gR S 1101 x = some (A 2) := h.2.2.1.1.2.2.1
  have e3 : gI S 0 (A 2) = ii (vL U) := h.2.2.2.1.2.2.2.2.2.1
  have hlaw := h.2.2.2.2.2.2.1
  have hb := sumF_b (L := lawB (vL U)) (mode := t.2.1) (x := t.2.2.2 p) (y := t.2.2.2 q) (c := t.2.2.2 c) o3
  have hr6 := h.2.2.2.2.2.1
  have h6 : i < 6 ∧ p < 6 ∧ q < 6 ∧ c < 6 := by omega
  unfold s_X11_fuse
  rw [e1, bd1_some, o1, bd1_some]
  unfold mq
  dsimp only
  rw [e2, bd1_some, x_read h hs hi p h6.2.1, bd1_some, x_read h hs hi q h6.2.2.1, bd1_some, x_read h hs hi c h6.2.2.2, bd1_some, hs.2.1]
  obtain ⟨S1, s1, s2, s3⟩ := x_sum (a := A 2) hF o2 o3 e3 hlaw ht.2.1 (ht.2.2.2 p h7.2.1) (ht.2.2.2 q h7.2.2.1) (ht.2.2.2 c h7.2.2.2)
  have f1 := s2.sf s
  have hs1 : TS S1 A U s t := by
    unfold TS at *
    rw [s2.get 701 _ (by simp), s2.get 702 _ (by simp), s2.get 703 _ (by simp), show aI S1 = aI S from by unfold aI; rw [s2.2.2]]
    exact hs
  rw [s1, bd1_some, gR_of f1.2.2.1, e2, bd1_some, s3.1]
  obtain ⟨S2, p1, p2, p3, p4⟩ := x_putN (h.sf f1) hs1 hi i (fusR U t p q c).1 h6.1
  rw [show (sumF (vK U t.1) (vE U t.1) (vF U t.1) (lawB (vL U)) t.2.1 (t.2.2.2 p) (t.2.2.2 q) (t.2.2.2 c)).1 = (fusR U t p q c).1 from rfl, p1, bd1_some, gR_of p3.2.2.1, gR_of f1.2.2.1, e2, bd1_some, bnd_def, gR_uI, gR_of p3.2.2.1, gR_of f1.2.2.1, e2, bd1_some]
  have g2a : gI S2 2 (A 2) = ii (fusR U t p q c).2.1 := by rw [gI_of p4]; exact s3.2.1
  have g703 : gI S2 703 (A s) = ii t.2.2.1 := by rw [gI_of p4]; exact hs1.2.2.1
  rw [g2a, g703, ii_or]
  refine ⟨_, by rw [gI_uI, if_neg (by omega), g2a], ?_, (f1.trans p3).uI 703 _ (by omega), ?_⟩
  · refine ⟨?_, ?_, ?_, fun j hj => p2.2.2.2 j hj⟩
    · rw [gI_uI, if_neg (by omega)]; exact p2.1
    · rw [gI_uI, if_neg (by omega)]; exact p2.2.1
    · rw [gI_uI, if_pos ⟨rfl, rfl⟩]; rfl
  · refine ⟨?_, ?_, ?_, ?_⟩
    · rw [gI_uI, if_neg (by omega), gI_of p4]; exact s3.1
    · rw [gI_uI, if_neg (by omega), gI_of p4]; exact s3.2.1
    · rw [gI_uI, if_neg (by omega), gI_of p4]; exact s3.2.2.1
    · rw [half_congr (S := S1) (fun f hf => by rw [gI_uI, if_neg (by omega), gI_of p4])]
      exact s3.2.2.2
end XBASE
end
section
theorem TS.congr {S S' : HS} {A : Nat → Nat} {U : UNt} {s : Nat} {t : STt} (h : TS S A U s t) (h1 : ∀ f, 701 ≤ f → f ≤ 703 → gI S' f (A s) = gI S f (A s)) (h2 : aI S' (A (60 + s)) = aI S (A (60 + s))) : TS S' A U s t := by
  unfold TS at *
  rw [h1 701 (by omega) (by omega), h1 702 (by omega) (by omega), h1 703 (by omega) (by omega), h2]
  exact h
/- nothing changes but the fields of the state d and its registers -/
def CF (A : Nat → Nat) (d : Nat) (S S' : HS) : Prop :=
  (∀ f b, ¬ (b = A d ∧ 701 ≤ f ∧ f ≤ 703) → gI S' f b = gI S f b) ∧ S'.2.1 = S.2.1 ∧ S'.2.2.1 = S.2.2.1 ∧ (∀ b, b ≠ A (60 + d) → aI S' b = aI S b) ∧ S'.2.2.2.2 = S.2.2.2.2
theorem CF.refl (A : Nat → Nat) (s : Nat) (S : HS) : CF A s S S := ⟨fun _ _ _ => rfl, rfl, rfl, fun _ _ => rfl, rfl⟩
theorem CF.trans {A : Nat → Nat} {s : Nat} {S S1 S2 : HS} (h1 : CF A s S S1) (h2 : CF A s S1 S2) : CF A s S S2 :=
  ⟨fun f b p => (h2.1 f b p).trans (h1.1 f b p), h2.2.1.trans h1.2.1, h2.2.2.1.trans h1.2.2.1, fun b p => (h2.2.2.2.1 b p).trans (h1.2.2.2.1 b p), h2.2.2.2.2.trans h1.2.2.2.2⟩
theorem CF.uI {A : Nat → Nat} {s : Nat} {S S1 : HS} (h1 : CF A s S S1) (f : Nat) (v : Int32) (hf : 701 ≤ f ∧ f ≤ 703) : CF A s S (uI S1 f (A s) v) :=
  ⟨fun g b q => by rw [gI_uI, if_neg (show ¬ (g = f ∧ b = A s) from fun r => q ⟨r.2, r.1 ▸ hf⟩)]; exact h1.1 g b q, h1.2.1, h1.2.2.1, h1.2.2.2.1, h1.2.2.2.2⟩
theorem CF.wI {A : Nat → Nat} {s : Nat} {S S1 : HS} (h1 : CF A s S S1) (i : Nat) (v : Int32) : CF A s S (wI S1 (A (60 + s)) i v) :=
  ⟨h1.1, h1.2.1, h1.2.2.1, fun b p => (aI_wI_o S1 _ i v p).trans (h1.2.2.2.1 b p), h1.2.2.2.2⟩
theorem gJ_of {S S' : HS} (h : S'.2.1 = S.2.1) (f b : Nat) : gJ S' f b = gJ S f b := by unfold gJ; rw [h]
theorem CF.sf {A : Nat → Nat} {s : Nat} {S S' : HS} (h : CF A s S S') : SF A s S S' :=
  ⟨fun f b _ q => h.1 f b q, fun f b _ => gJ_of h.2.1 f b, h.2.2.1, h.2.2.2.1, h.2.2.2.2⟩
section COPY
variable {N : Nat → Nat} {F : Nat} {S : HS} {x : Nat} {A : Nat → Nat} {b s d : Nat} {U : UNt} {t : STt}
theorem x_copy_loop (hA : ∀ i j, A i = A j ↔ i = j) (hN : XN N A) (hi : isSt s = true) (hd : isSt d = true) (hsd : s ≠ d) (rg : Nat → Nat) : ∀ (k r M : Nat) (S : HS), r + k = 6 → k < M → (∀ q, isSt q = true → gR S 700 (A q) = some (A (60 + q))) → (∀ j, j < r → aI S (A (60 + d)) j = ii (rg j)) → (∀ j, j < 6 → aI S (A (60 + s)) j = ii (rg j)) →
    ∃ S', s_X7_copy_L26 N F M (A d) (A s) (ii r) S = some S' ∧ (∀ j, j < 6 → aI S' (A (60 + d)) j = ii (rg j)) ∧ CF A d S S' ∧ S'.1 = S.1 := by
  intro k
  induction k with
  | zero =>
    intro r M S hr hM h7 h1 h2
    obtain ⟨M', rfl⟩ : ∃ M', M = M' + 1 := ⟨M - 1, by omega⟩
    rw [s_X7_copy_L26, if_pos (by rw [k6, ii_le (by omega) (by omega) (by omega) (by omega)]; omega)]
    exact ⟨S, rfl, fun j hj => h1 j (by omega), CF.refl _ _ _, rfl⟩
  | succ k ih =>
    intro r M S hr hM h7 h1 h2
    obtain ⟨M', rfl⟩ : ∃ M', M = M' + 1 := ⟨M - 1, by omega⟩
    rw [s_X7_copy_L26, if_neg (by rw [k6, ii_le (by omega) (by omega) (by omega) (by omega)]; omega), h7 d hd, bd1_some, h7 s hi, bd1_some, hN.2.2.1 s hi, if_pos (in_of (z := r) rfl (by omega) (by decide)), hN.2.2.1 d hd, if_pos (in_of (z := r) rfl (by omega) (by decide)), cl_of (z := r) rfl (by omega), bnd_def, bnd_def, ofI, ii_add, h2 r (by omega)]
    have hne : A (60 + s) ≠ A (60 + d) := fun q => hsd (by have := (hA _ _).mp q; omega)
    obtain ⟨S', r1, r2, r3, r4⟩ := ih (r + 1) M' (wI S (A (60 + d)) r (ii (rg r))) (by omega) (by omega) h7 (by
      intro j hj
      rw [aI_wI_s]
      dsimp only
      split
      · rename_i q; rw [q]
      · exact h1 j (by omega)) (by
      intro j hj
      rw [aI_wI_o _ _ _ _ hne]
      exact h2 j hj)
    exact ⟨S', r1, r2, ((CF.refl A d S).wI r _).trans r3, r4⟩
theorem x_copy (hF : 7 ≤ F) (hA : ∀ i j, A i = A j ↔ i = j) (hN : XN N A) (h7 : ∀ q, isSt q = true → gR S 700 (A q) = some (A (60 + q))) (hs : TS S A U s t) (hi : isSt s = true) (hd : isSt d = true) (hsd : s ≠ d) :
    ∃ S', s_X7_copy N F (A d) (A s) S = some S' ∧ TS S' A U d t ∧ CF A d S S' := by
  have hne : A s ≠ A d := fun q => hsd ((hA _ _).mp q)
  unfold s_X7_copy
  rw [bnd_def, bnd_def, bnd_def]
  simp only [gI_uI, hne, and_false, if_false]
  rw [hs.1, hs.2.1, hs.2.2.1]
  obtain ⟨S', r1, r2, r3, r4⟩ := x_copy_loop (F := F) hA hN hi hd hsd t.2.2.2 6 0 F (uI (uI (uI S 701 (A d) (ii (fI U t.1))) 702 (A d) (ii t.2.1)) 703 (A d) (ii t.2.2.1)) (by omega) (by omega) h7 (fun j hj => by omega) (fun j hj => hs.2.2.2 j hj)
  refine ⟨S', r1, ⟨?_, ?_, ?_, r2⟩, ((((CF.refl A d S).uI 701 _ (by omega)).uI 702 _ (by omega)).uI 703 _ (by omega)).trans r3⟩
  · rw [gI_of r4]; simp [gI_uI]
  · rw [gI_of r4]; simp [gI_uI]
  · rw [gI_of r4]; simp [gI_uI]
/- a state taken into another form -/
def turC (U : UNt) (t : STt) (g r : Nat) : Nat × Nat := conF (vK U t.1) (vE U t.1) (vF U t.1) (vK U g) (vE U g) (vF U g) (lawB (vL U)) t.2.1 (t.2.2.2 r)
def turFl (U : UNt) (t : STt) (g : Nat) : Nat → Nat
  | 0 => 0
  | n + 1 => turFl U t g n ||| (turC U t g n).2
def turRg (U : UNt) (t : STt) (g n : Nat) : Nat → Nat := fun r => if r < n then (turC U t g r).1 else t.2.2.2 r
def tur (U : UNt) (t : STt) (g : Nat) : STt := (g, t.2.1, t.2.2.1 ||| turFl U t g (vR U), turRg U t g (vR U))
theorem turFl_b (hU : UOK U) {g : Nat} (hg : g < vN U) : ∀ n, turFl U t g n < 16
  | 0 => by unfold turFl; decide
  | n + 1 => or16 (turFl_b hU hg n) (conF_b (hU.2.2.2 g hg)).2
theorem tur_ok (hU : UOK U) (ht : SOK U t) {g : Nat} (hg : g < vN U) : SOK U (tur U t g) := by
  refine ⟨Or.inl hg, ht.2.1, or16 ht.2.2.1 (turFl_b hU hg _), fun r hr => ?_⟩
  show (if r < vR U then _ else _) < tB U g
  rw [if_pos hr]
  exact (conF_b (hU.2.2.2 g hg)).1
theorem x_turn_loop (hF : 7 ≤ F) {g : Nat} {p q : Nat} (hn : t.1 < vN U) (hg : g < vN U) (ht : SOK U t) (hi : isSt s = true) (cont : Nat → Int32 → Int32 → HS → Option (Int32 × HS)) : ∀ (k n M : Nat) (S : HS), n + k = vR U → k < M → XW N S x A b U → FM S p (vK U t.1) (vE U t.1) (vF U t.1) → FM S q (vK U g) (vE U g) (vF U g) → TS S A U s (t.1, t.2.1, t.2.2.1, turRg U t g n) →
    ∃ S', s_X11_turn_L39 N F cont M x (A s) (ii g) p q (ii (turFl U t g n)) (ii n) S = cont (A s) (ii g) (ii (turFl U t g (vR U))) S' ∧ TS S' A U s (t.1, t.2.1, t.2.2.1, turRg U t g (vR U)) ∧ SF A s S S' := by
  intro k
  induction k with
  | zero =>
    intro n M S hk hM h f1 f2 hs
    obtain ⟨M', rfl⟩ : ∃ M', M = M' + 1 := ⟨M - 1, by omega⟩
    have hn' : n = vR U := by omega
    subst hn'
    have e1 : gR S 1111 x = some (A (23 + 4 * b)) := h.2.2.2.1.2.1
    have e5 : gI S 904 (A (23 + 4 * b)) = ii (vR U) := h.2.2.2.1.2.2.2.2.1
    rw [s_X11_turn_L39, e1, bd1_some, e5, if_pos (by have := h.2.2.2.2.2.1; rw [ii_le (by omega) (by omega) (by omega) (by omega)]; omega)]
    exact ⟨S, rfl, hs, SF.refl _ _ _⟩
  | succ k ih =>
    intro n M S hk hM h f1 f2 hs
    obtain ⟨M', rfl⟩ : ∃ M', M = M' + 1 := ⟨M - 1, by omega⟩
    have hU := h.2.2.2.2
    have hr6 := hU.2.1
    have e1 : gR S 1111 x = some (A (23 + 4 * b)) := h.2.2.2.1.2.1
    have e2 : gR S 1101 x = some (A 2) := h.2.2.1.1.2.2.1
    have e3 : gI S 0 (A 2) = ii (vL U) := h.2.2.2.1.2.2.2.2.2.1
    have e5 : gI S 904 (A (23 + 4 * b)) = ii (vR U) := h.2.2.2.1.2.2.2.2.1
    have hlaw := hU.2.2.1
    rw [s_X11_turn_L39, e1, bd1_some, e5, if_neg (by rw [ii_le (by omega) (by omega) (by omega) (by omega)]; omega), e2, bd1_some, x_read h hs hi n (by omega), bd1_some, hs.2.1]
    dsimp only
    have en : turRg U t g n n = t.2.2.2 n := if_neg (by omega)
    rw [en]
    obtain ⟨S1, c1, c2, c3, c4⟩ := x_conv (a := A 2) hF f1 (hU.2.2.2 _ hn) f2 (hU.2.2.2 _ hg) e3 hlaw ht.2.1 (ht.2.2.2 n (by omega))
    have g1 := c2.sf (A := A) s
    have hs1 : TS S1 A U s (t.1, t.2.1, t.2.2.1, turRg U t g n) := hs.congr (fun f q1 q2 => c2.get f _ (by simp; omega)) (by unfold aI; rw [c2.2.2])
    rw [c1, bd1_some, gR_of g1.2.2.1, e2, bd1_some, c3]
    obtain ⟨S2, p1, p2, p3, p4⟩ := x_putN (h.sf g1) hs1 hi n (turC U t g n).1 (by omega)
    rw [show (conF (vK U t.1) (vE U t.1) (vF U t.1) (vK U g) (vE U g) (vF U g) (lawB (vL U)) t.2.1 (t.2.2.2 n)).1 = (turC U t g n).1 from rfl, p1, bd1_some, gR_of p3.2.2.1, gR_of g1.2.2.1, e2, bd1_some, gI_of p4, c4, bnd_def, bnd_def, ofI, ii_add, ii_or]
    have f3 : ∀ o k e fr, FM S o k e fr → FM S2 o k e fr := fun o k e fr w => w.mono2 (fun f q1 q2 => by rw [gI_of p4]; exact c2.get f o (by simp; omega))
    have er : fsetN (t.1, t.2.1, t.2.2.1, turRg U t g n) n (turC U t g n).1 = (t.1, t.2.1, t.2.2.1, turRg U t g (n + 1)) := by
      unfold fsetN turRg
      dsimp only
      congr 3
      funext j
      by_cases q : j = n
      · subst q; rw [if_pos rfl, if_pos (by omega)]
      · rw [if_neg q]
        by_cases q2 : j < n
        · rw [if_pos q2, if_pos (by omega)]
        · rw [if_neg q2, if_neg (by omega)]
    rw [er] at p2
    obtain ⟨S', r1, r2, r3⟩ := ih (n + 1) M' S2 (by omega) (by omega) ((h.sf g1).sf p3) (f3 _ _ _ _ f1) (f3 _ _ _ _ f2) p2
    exact ⟨S', r1, r2, (g1.trans p3).trans r3⟩
theorem x_turn (hF : 7 ≤ F) (h : XW N S x A b U) (hs : TS S A U s t) (ht : SOK U t) (hi : isSt s = true) {g : Nat} (hg : g < vN U) :
    ∃ S', s_X11_turn N F x (A s) (ii g) S = some (ii (turFl U t g (vR U)), S') ∧ TS S' A U s (tur U t g) ∧ SF A s S S' := by
  have hU := h.2.2.2.2
  have hn : t.1 < vN U := by rcases ht.1 with r | r; exact r; omega
  obtain ⟨_, g2⟩ := x_formOf h hs ht
  obtain ⟨p, p1, p2, p3⟩ := g2 (by omega)
  have hb4 := hU.1
  obtain ⟨q, q1, q2⟩ := (x_formAt h (g : Int) (by omega) (by omega)).2 (by omega)
  have e1 : gR S 1111 x = some (A (23 + 4 * b)) := h.2.2.2.1.2.1
  have hr6 := hU.2.1
  unfold s_X11_turn
  rw [e1, bd1_some, p1, bd1_some]
  unfold mq
  dsimp only
  rw [bd1_some, q1, bd1_some]
  dsimp only
  obtain ⟨S1, l1, l2, l3⟩ := x_turn_loop (F := F) (g := g) (p := p) (q := q) hF hn hg ht hi (s_X11_turn_J102 N F) (vR U) 0 F S (by omega) (by omega) h p2 (by simpa using q2) (by
    have : turRg U t g 0 = t.2.2.2 := by funext r; exact if_neg (by omega)
    rw [this]; exact hs)
  rw [show s_X11_turn_L39 N F (s_X11_turn_J102 N F) F x (A s) (ii g) p q 0 0 S = s_X11_turn_L39 N F (s_X11_turn_J102 N F) F x (A s) (ii g) p q (ii (turFl U t g 0)) (ii (0 : Nat)) S from rfl, l1]
  unfold s_X11_turn_J102
  rw [bnd_def, bnd_def]
  refine ⟨_, rfl, ⟨?_, ?_, ?_, fun j hj => ?_⟩, (l3.uI 701 _ (by omega)).uI 703 _ (by omega)⟩
  · rw [gI_uI, if_neg (by omega), gI_uI, if_pos ⟨rfl, rfl⟩]
    show _ = ii (fI U g)
    unfold fI; rw [if_neg (by omega)]
  · rw [gI_uI, if_neg (by omega), gI_uI, if_neg (by omega)]; exact l2.2.1
  · rw [gI_uI, if_pos ⟨rfl, rfl⟩, gI_uI, if_neg (by omega), l2.2.2.1, ii_or]; rfl
  · exact l2.2.2.2 j hj
end COPY
/- the ring of states ahead -/
def XUND (S : HS) (A : Nat → Nat) (U : UNt) : Nat → List (STt × Bool) → Prop
  | _, [] => True
  | nx, (t, w) :: r => 0 < nx ∧ TS S A U (40 + (nx - 1) % 16) t ∧ aI S (A 15) ((nx - 1) % 16) = b2 w ∧ XUND S A U (nx - 1) r
def XPA (S : HS) (A : Nat → Nat) (U : UNt) (nx : Nat) (und : List (STt × Bool)) : Prop := gI S 402 (A 13) = ii nx ∧ gI S 403 (A 13) = ii und.length ∧ und.length ≤ 16 ∧ nx < 100000 ∧ XUND S A U nx und
theorem XUND.mono {S S' : HS} {A : Nat → Nat} {U : UNt} : ∀ {und : List (STt × Bool)} {nx : Nat}, XUND S A U nx und → (∀ j, j < und.length → (∀ t, TS S A U (40 + (nx - 1 - j) % 16) t → TS S' A U (40 + (nx - 1 - j) % 16) t) ∧ aI S' (A 15) ((nx - 1 - j) % 16) = aI S (A 15) ((nx - 1 - j) % 16)) → XUND S' A U nx und
  | [], _, _, _ => trivial
  | (t, w) :: r, nx, h, hj => by
    obtain ⟨h1, h2, h3, h4⟩ := h
    have := hj 0 (by simp)
    rw [show nx - 1 - 0 = nx - 1 by omega] at this
    refine ⟨h1, this.1 t h2, by rw [this.2]; exact h3, h4.mono (fun j hl => ?_)⟩
    have := hj (j + 1) (by simp; omega)
    rw [show nx - 1 - (j + 1) = nx - 1 - 1 - j by omega] at this
    exact this
theorem XUND.take {S : HS} {A : Nat → Nat} {U : UNt} : ∀ {und : List (STt × Bool)} {nx : Nat} (k : Nat), XUND S A U nx und → XUND S A U nx (und.take k)
  | [], _, k, _ => by rw [List.take_nil]; trivial
  | (t, w) :: r, nx, 0, h => trivial
  | (t, w) :: r, nx, k + 1, h => ⟨h.1, h.2.1, h.2.2.1, h.2.2.2.take k⟩
/- nothing changes but the ring -/
def KF (A : Nat → Nat) (S S' : HS) : Prop :=
  (∀ f b, ¬ (b = A 13 ∧ 402 ≤ f ∧ f ≤ 403) → ¬ (701 ≤ f ∧ f ≤ 703 ∧ ∃ j, j < 16 ∧ b = A (40 + j)) → gI S' f b = gI S f b) ∧ S'.2.1 = S.2.1 ∧ S'.2.2.1 = S.2.2.1 ∧ (∀ b, b ≠ A 15 → (∀ j, j < 16 → b ≠ A (100 + j)) → aI S' b = aI S b) ∧ S'.2.2.2.2 = S.2.2.2.2
theorem nar_b (w : Bool) : vp_nar .boolean (b2 w) = b2 w := by cases w <;> rfl
theorem ring15 (n : Nat) : ii n &&& 15 = ii (n % 16 : Nat) := ii_mod n 4
section RING
variable {N : Nat → Nat} {F : Nat} {S : HS} {x : Nat} {A : Nat → Nat} {b : Nat} {U : UNt} {t : STt} {nx : Nat} {und : List (STt × Bool)}
theorem isSt40 (j : Nat) (h : j < 16) : isSt (40 + j) = true := by
  unfold isSt
  simp; omega
theorem x_keep (hF : 7 ≤ F) (h : XW N S x A b U) (hs : TS S A U 16 t) (hP : XPA S A U nx und) (hnx : nx + 1 < 100000) (w : Bool) :
    ∃ S', s_X4_keep N F (A 13) (A 16) (b2 w) S = some S' ∧ XPA S' A U (nx + 1) ((t, w) :: und.take 15) ∧ KF A S S' := by
  obtain ⟨p1, p2, p3, p4, p5⟩ := hP
  have hA := h.1
  have e1 : gR S 400 (A 13) = some (A 14) := h.2.2.1.1.2.2.2.2.2.1
  have e2 : gR S 401 (A 13) = some (A 15) := h.2.2.1.1.2.2.2.2.2.2.1
  have e3 : ∀ j, j < 16 → aR S (A 14) j = some (A (40 + j)) := h.2.2.1.2.2.2.2.1
  have n1 := h.2.1.1.2.1
  have n2 := h.2.1.1.2.2.1
  have hm : nx % 16 < 16 := Nat.mod_lt _ (by decide)
  unfold s_X4_keep
  rw [e1, bd1_some, p1, ring15, n1, if_pos (in_of (z := nx % 16) rfl hm (by decide)), cl_of (z := nx % 16) rfl (by omega), e3 _ hm, bd1_some]
  obtain ⟨S1, c1, c2, c3⟩ := x_copy (F := F) hF hA h.2.1 (fun q hq => h.2.2.1.2.2.2.2.2.1 q hq) hs (by decide) (isSt40 _ hm) (by omega)
  have g13 : ∀ f, 402 ≤ f → f ≤ 403 → gI S1 f (A 13) = gI S f (A 13) := fun f q1 q2 => c3.1 f _ (fun r => by omega)
  have d1 : aI S1 (A 15) = aI S (A 15) := c3.2.2.2.1 _ (fun q => by have := (hA _ _).mp q; omega)
  rw [c1, bd1_some, gR_of c3.2.2.1, e2, bd1_some, n2, g13 402 (by omega) (by omega), p1, ring15, if_pos (in_of (z := nx % 16) rfl hm (by decide)), cl_of (z := nx % 16) rfl (by omega), bnd_def, bnd_def, bnd_def, nar_b]
  simp only [gI_uI, gI_wI, Nat.reduceEqDiff, false_and, if_false]
  rw [g13 402 (by omega) (by omega), p1, g13 403 (by omega) (by omega), p2, k1, ii_add, ii_add, k16]
  have e9 : (if ii 16 < ii ((und.length : Int) + 1) then ii 16 else ii ((und.length : Int) + 1)) = ii (((t, w) :: und.take 15).length : Nat) := by
    simp only [List.length_cons, List.length_take]
    simp (disch := omega) only [ii_lt]
    split
    · congr 1; omega
    · congr 1; omega
  rw [e9]
  refine ⟨_, rfl, ⟨?_, ?_, ?_, by omega, ?_⟩, ?_⟩
  · rw [gI_uI, if_neg (by omega), gI_uI, if_pos ⟨rfl, rfl⟩]; rfl
  · rw [gI_uI, if_pos ⟨rfl, rfl⟩]
  · simp only [List.length_cons, List.length_take]; omega
  · refine ⟨by omega, ?_, ?_, ?_⟩
    · rw [show nx + 1 - 1 = nx by omega]
      refine c2.congr (fun f q1 q2 => by rw [gI_uI, if_neg (by omega), gI_uI, if_neg (by omega)]; rfl) ?_
      show aI (wI S1 (A 15) (nx % 16) (b2 w)) _ = _
      rw [aI_wI_o _ _ _ _ (fun q => by have := (hA _ _).mp q; omega)]
    · rw [show nx + 1 - 1 = nx by omega]
      show aI (wI S1 (A 15) (nx % 16) (b2 w)) (A 15) (nx % 16) = _
      rw [aI_wI_s]; simp
    · rw [show nx + 1 - 1 = nx by omega]
      refine (p5.take 15).mono (fun j hj => ?_)
      simp only [List.length_take] at hj
      have hx : nx ≥ und.length := by
        clear hj e9
        revert p5
        clear p1 p2 p3 p4 hnx hm c1 c2 c3 g13 d1
        induction und generalizing nx with
        | nil => intro _; simp
        | cons a r ih =>
          intro q
          have := ih q.2.2.2
          have := q.1
          simp; omega
      have hne : (nx - 1 - j) % 16 ≠ nx % 16 := by omega
      constructor
      · intro t2 h2
        refine (h2.sf hA c3.sf (by omega)).congr (fun f q1 q2 => by rw [gI_uI, if_neg (by omega), gI_uI, if_neg (by omega)]; rfl) ?_
        show aI (wI S1 (A 15) (nx % 16) (b2 w)) _ = _
        rw [aI_wI_o _ _ _ _ (fun q => by have := (hA _ _).mp q; omega)]
      · show aI (wI S1 (A 15) (nx % 16) (b2 w)) (A 15) _ = _
        rw [aI_wI_s]
        dsimp only
        rw [if_neg hne, d1]
  · refine ⟨fun f q h1 h2 => ?_, ?_, c3.2.2.1, fun q h1 h2 => ?_, c3.2.2.2.2⟩
    · rw [gI_uI, if_neg (fun r => h1 ⟨r.2, by omega⟩), gI_uI, if_neg (fun r => h1 ⟨r.2, by omega⟩), gI_wI]
      exact c3.1 f q (fun r => h2 ⟨r.2.1, r.2.2, _, hm, r.1⟩)
    · exact c3.2.1
    · show aI (wI S1 (A 15) (nx % 16) (b2 w)) q = _
      rw [aI_wI_o _ _ _ _ h1]
      exact c3.2.2.2.1 q (by have := h2 _ hm; rw [show 60 + (40 + nx % 16) = 100 + nx % 16 by omega]; exact this)
end RING
end
section
theorem XUND.len {S : HS} {A : Nat → Nat} {U : UNt} : ∀ {und : List (STt × Bool)} {nx : Nat}, XUND S A U nx und → und.length ≤ nx
  | [], _, _ => Nat.zero_le _
  | (t, w) :: r, nx, h => by
    have := XUND.len h.2.2.2
    have := h.1
    simp; omega
/- nothing changes but the ring's numbers and the state in use -/
def TF (A : Nat → Nat) (S S' : HS) : Prop :=
  (∀ f b, ¬ (b = A 13 ∧ 402 ≤ f ∧ f ≤ 403) → ¬ (b = A 16 ∧ 701 ≤ f ∧ f ≤ 703) → gI S' f b = gI S f b) ∧ S'.2.1 = S.2.1 ∧ S'.2.2.1 = S.2.2.1 ∧ (∀ b, b ≠ A 76 → aI S' b = aI S b) ∧ S'.2.2.2.2 = S.2.2.2.2
section TAKE
variable {N : Nat → Nat} {F : Nat} {S : HS} {x : Nat} {A : Nat → Nat} {b : Nat} {U : UNt} {t : STt} {nx : Nat} {w : Bool} {r : List (STt × Bool)}
theorem x_takeBack (hF : 7 ≤ F) (h : XW N S x A b U) (hP : XPA S A U nx ((t, w) :: r)) :
    ∃ S', s_X4_takeBack N F (A 13) (A 16) S = some (b2 w, S') ∧ TS S' A U 16 t ∧ XPA S' A U (nx - 1) r ∧ TF A S S' := by
  obtain ⟨p1, p2, p3, p4, p5, p6, p7, p8⟩ := hP
  have hlen := p8.len
  have hA := h.1
  have e1 : gR S 400 (A 13) = some (A 14) := h.2.2.1.1.2.2.2.2.2.1
  have e2 : gR S 401 (A 13) = some (A 15) := h.2.2.1.1.2.2.2.2.2.2.1
  have e3 : ∀ j, j < 16 → aR S (A 14) j = some (A (40 + j)) := h.2.2.1.2.2.2.2.1
  have n1 := h.2.1.1.2.1
  have n2 := h.2.1.1.2.2.1
  have hm : (nx - 1) % 16 < 16 := Nat.mod_lt _ (by decide)
  have ex : ii (nx : Int) - 1 = ii (nx - 1 : Nat) := by rw [k1, ii_sub]; congr 1; omega
  have el : ii (((t, w) :: r).length : Nat) - 1 = ii (r.length : Nat) := by rw [k1, ii_sub]; congr 1; simp
  unfold s_X4_takeBack
  rw [bnd_def, bnd_def, gR_uI, gR_uI, e1, bd1_some]
  simp only [gI_uI, Nat.reduceEqDiff, false_and, if_false, and_self, if_true, aR_uI]
  rw [p1, p2, ex, el, ring15, n1, if_pos (in_of (z := (nx - 1) % 16) rfl hm (by decide)), cl_of (z := (nx - 1) % 16) rfl (by omega), e3 _ hm, bd1_some]
  have hs2 : TS (uI (uI S 402 (A 13) (ii (nx - 1 : Nat))) 403 (A 13) (ii r.length)) A U (40 + (nx - 1) % 16) t := p6.congr (fun f q1 q2 => by rw [gI_uI, if_neg (by omega), gI_uI, if_neg (by omega)]) rfl
  obtain ⟨S1, c1, c2, c3⟩ := x_copy (S := uI (uI S 402 (A 13) (ii (nx - 1 : Nat))) 403 (A 13) (ii r.length)) (F := F) hF hA h.2.1 (fun q hq => h.2.2.1.2.2.2.2.2.1 q hq) hs2 (isSt40 _ hm) (show isSt 16 = true by decide) (by omega)
  have d1 : aI S1 (A 15) = aI S (A 15) := c3.2.2.2.1 _ (fun q => by have := (hA _ _).mp q; omega)
  have g1 : gI S1 402 (A 13) = ii (nx - 1 : Nat) := by rw [c3.1 402 _ (fun r => by omega)]; simp [gI_uI]
  have g2 : gI S1 403 (A 13) = ii (r.length : Nat) := by rw [c3.1 403 _ (fun r => by omega)]; simp [gI_uI]
  rw [c1, bd1_some, gR_of c3.2.2.1, gR_uI, gR_uI, e2, bd1_some, n2, g1, ring15, if_pos (in_of (z := (nx - 1) % 16) rfl hm (by decide)), cl_of (z := (nx - 1) % 16) rfl (by omega), d1, p7, if_pos (b2_isZ w)]
  refine ⟨S1, rfl, c2, ⟨g1, g2, by simp at p3; omega, by omega, p8.mono (fun j hj => ⟨fun t2 h2 => ?_, by rw [d1]⟩)⟩, ?_⟩
  · have hmm : (nx - 1 - 1 - j) % 16 < 16 := Nat.mod_lt _ (by decide)
    refine h2.congr (fun f q1 q2 => ?_) ?_
    · rw [c3.1 f _ (fun q => by have := (hA _ _).mp q.1; omega), gI_uI, if_neg (by omega), gI_uI, if_neg (by omega)]
    · rw [c3.2.2.2.1 _ (fun q => by have := (hA _ _).mp q; omega)]; rfl
  · refine ⟨fun f q h1 h2 => ?_, c3.2.1, c3.2.2.1, fun q h1 => c3.2.2.2.1 q h1, c3.2.2.2.2⟩
    rw [c3.1 f q h2, gI_uI, if_neg (fun r => h1 ⟨r.2, by omega⟩), gI_uI, if_neg (fun r => h1 ⟨r.2, by omega⟩)]
end TAKE
/- what was asked: form, mode, the less factor, the other, the addend -/
abbrev AK : Type := Nat × Nat × Nat × Nat × Nat
def AKok (a : AK) : Prop := a.1 < 4 ∧ a.2.1 < 6 ∧ a.2.2.1 < 134217728 ∧ a.2.2.2.1 < 134217728 ∧ a.2.2.2.2 < 134217728
def rs (U : UNt) (a : AK) : Nat := (sumF (vK U a.1) (vE U a.1) (vF U a.1) (lawB (vL U)) a.2.1 a.2.2.1 a.2.2.2.1 a.2.2.2.2).1
def keyN (k e fr f b : Nat) : Int := if nS e fr b = 0 then -1 else if nInf k e fr < nS e fr b then -2 else (f * 134217728 + b : Nat)
def rkey (U : UNt) (a : AK) : Int := keyN (vK U a.1) (vE U a.1) (vF U a.1) a.1 (rs U a)
def dD : List AK → List AK
  | [] => []
  | a :: r => if a ∈ dD r then dD r else a :: dD r
def isnew (U : UNt) (a : AK) (r : List AK) : Bool := !(r.any (fun o => decide (rkey U o = rkey U a)))
def bN (U : UNt) : List AK → Nat
  | [] => 0
  | a :: r => bN U r + (if isnew U a r = true then 1 else 0)
theorem dD_mem (a : AK) : ∀ l : List AK, a ∈ dD l ↔ a ∈ l
  | [] => by simp [dD]
  | b :: r => by
    have ih := dD_mem a r
    unfold dD
    by_cases h : b ∈ dD r
    · rw [if_pos h, ih, List.mem_cons]
      constructor
      · exact Or.inr
      · rintro (q | q)
        · subst q; exact ih.mp h
        · exact q
    · rw [if_neg h, List.mem_cons, List.mem_cons, ih]
theorem dD_len : ∀ l : List AK, (dD l).length ≤ l.length
  | [] => by simp [dD]
  | b :: r => by
    have ih := dD_len r
    unfold dD
    split
    · simp; omega
    · simp; omega
theorem dD_nodup : ∀ l : List AK, (dD l).Nodup
  | [] => by simp [dD]
  | b :: r => by
    have ih := dD_nodup r
    unfold dD
    split
    · exact ih
    · rename_i h
      exact List.nodup_cons.mpr ⟨h, ih⟩
theorem bN_le (U : UNt) : ∀ l : List AK, bN U l ≤ l.length
  | [] => by simp [bN]
  | b :: r => by
    have ih := bN_le U r
    unfold bN
    simp only [List.length_cons]
    split <;> omega
def EN (S : HS) (A : Nat → Nat) (i : Nat) (a : AK) : Prop := aI S (A 4) i = ii a.1 ∧ aI S (A 5) i = ii a.2.1 ∧ aI S (A 6) i = ii a.2.2.1 ∧ aI S (A 7) i = ii a.2.2.2.1 ∧ aI S (A 8) i = ii a.2.2.2.2
def XBD (S : HS) (A : Nat → Nat) (U : UNt) (cn : AK → Nat) : List AK → Prop
  | [] => True
  | a :: r => (EN S A r.length a ∧ AKok a ∧ aI S (A 9) r.length = ii (rkey U a) ∧ aI S (A 10) r.length = b2 (isnew U a r) ∧ aI S (A 11) r.length = ii (cn a)) ∧ XBD S A U cn r
def IX (D : List AK) (i : Nat) (a : AK) : Prop := i < D.length ∧ D[D.length - 1 - i]? = some a
theorem IX.push {D : List AK} {i : Nat} {a : AK} (b : AK) (h : IX D i a) : IX (b :: D) i a := by
  obtain ⟨h1, h2⟩ := h
  refine ⟨by simp; omega, ?_⟩
  rw [List.length_cons, show D.length + 1 - 1 - i = (D.length - 1 - i) + 1 by omega, List.getElem?_cons_succ]
  exact h2
theorem IX.top (D : List AK) (a : AK) : IX (a :: D) D.length a := by
  refine ⟨by simp, ?_⟩
  rw [List.length_cons, show D.length + 1 - 1 - D.length = 0 by omega]; rfl
theorem IX.mem {D : List AK} {i : Nat} {a : AK} (h : IX D i a) : a ∈ D := List.mem_of_getElem? h.2
theorem IX.of_mem {D : List AK} {a : AK} (h : a ∈ D) : ∃ i, IX D i a := by
  obtain ⟨j, hj, e⟩ := List.mem_iff_getElem.mp h
  refine ⟨D.length - 1 - j, by omega, ?_⟩
  rw [show D.length - 1 - (D.length - 1 - j) = j by omega, List.getElem?_eq_getElem hj, e]
theorem IX.inj {D : List AK} (hn : D.Nodup) {i j : Nat} {a : AK} (h1 : IX D i a) (h2 : IX D j a) : i = j := by
  have q1 := h1.1
  have q2 := h2.1
  have := (List.getElem?_inj (by omega) hn).mp (h1.2.trans h2.2.symm)
  omega
theorem IX.fn {D : List AK} {i : Nat} {a b : AK} (h1 : IX D i a) (h2 : IX D i b) : a = b := by
  have := h1.2.symm.trans h2.2
  injection this
theorem IX.ex {D : List AK} {i : Nat} (h : i < D.length) : ∃ a, IX D i a := ⟨D[D.length - 1 - i], h, List.getElem?_eq_getElem (by omega)⟩
theorem IX.pop {D : List AK} {i : Nat} {a b : AK} (h : IX (b :: D) i a) : (i = D.length ∧ a = b) ∨ IX D i a := by
  obtain ⟨h1, h2⟩ := h
  by_cases q : i = D.length
  · left
    subst q
    rw [List.length_cons, show D.length + 1 - 1 - D.length = 0 by omega] at h2
    exact ⟨rfl, by injection h2 with h2; exact h2.symm⟩
  · right
    rw [List.length_cons] at h1 h2
    rw [show D.length + 1 - 1 - i = (D.length - 1 - i) + 1 by omega, List.getElem?_cons_succ] at h2
    exact ⟨by omega, h2⟩
theorem XBD.get {S : HS} {A : Nat → Nat} {U : UNt} {cn : AK → Nat} : ∀ {D : List AK} {i : Nat} {a : AK}, XBD S A U cn D → IX D i a → EN S A i a ∧ AKok a ∧ aI S (A 9) i = ii (rkey U a) ∧ aI S (A 11) i = ii (cn a)
  | [], i, a, _, h => by have := h.1; simp at this
  | d :: r, i, a, hX, h => by
    rcases h.pop with ⟨q1, q2⟩ | q
    · subst q1 q2
      exact ⟨hX.1.1, hX.1.2.1, hX.1.2.2.1, hX.1.2.2.2.2⟩
    · exact XBD.get hX.2 q
theorem XBD.mono {S S' : HS} {A : Nat → Nat} {U : UNt} {cn cn' : AK → Nat} : ∀ {D : List AK}, XBD S A U cn D → (∀ i a, IX D i a → (∀ j, 4 ≤ j → j ≤ 10 → aI S' (A j) i = aI S (A j) i) ∧ (aI S (A 11) i = ii (cn a) → aI S' (A 11) i = ii (cn' a))) → XBD S' A U cn' D
  | [], _, _ => trivial
  | d :: r, hX, h => by
    obtain ⟨q1, q2⟩ := h r.length d (IX.top r d)
    obtain ⟨⟨⟨a1, a2, a3, a4, a5⟩, b1, b2, b3, b4⟩, c⟩ := hX
    refine ⟨⟨⟨?_, ?_, ?_, ?_, ?_⟩, b1, ?_, ?_, q2 b4⟩, c.mono (fun i a w => h i a (w.push d))⟩
    · rw [q1 4 (by omega) (by omega)]; exact a1
    · rw [q1 5 (by omega) (by omega)]; exact a2
    · rw [q1 6 (by omega) (by omega)]; exact a3
    · rw [q1 7 (by omega) (by omega)]; exact a4
    · rw [q1 8 (by omega) (by omega)]; exact a5
    · rw [q1 9 (by omega) (by omega)]; exact b2
    · rw [q1 10 (by omega) (by omega)]; exact b3
def XASK (S : HS) (A : Nat → Nat) (D : List AK) : List AK → Prop
  | [] => True
  | a :: r => (∃ i, IX D i a ∧ aI S (A 12) r.length = ii i) ∧ XASK S A D r
theorem XASK.mono {S S' : HS} {A : Nat → Nat} {D D' : List AK} : ∀ {l : List AK}, XASK S A D l → (∀ i, i < l.length → aI S' (A 12) i = aI S (A 12) i) → (∀ i a, a ∈ l → IX D i a → IX D' i a) → XASK S' A D' l
  | [], _, _, _ => trivial
  | a :: r, h, h1, h2 => by
    obtain ⟨⟨i, i1, i2⟩, h3⟩ := h
    exact ⟨⟨i, h2 i a (by simp) i1, by rw [h1 r.length (by simp)]; exact i2⟩, h3.mono (fun j hj => h1 j (by simp; omega)) (fun j o ho => h2 j o (by simp [ho]))⟩
def XBK (S : HS) (A : Nat → Nat) (U : UNt) (asks : List AK) : Prop := gI S 109 (A 3) = ii (dD asks).length ∧ gI S 110 (A 3) = ii asks.length ∧ gI S 111 (A 3) = ii (bN U (dD asks)) ∧ asks.length ≤ 512 ∧ XBD S A U (fun a => asks.count a) (dD asks) ∧ XASK S A (dD asks) asks
/- nothing changes but the book -/
def BF (A : Nat → Nat) (S S' : HS) : Prop :=
  (∀ f b, ¬ (b = A 3 ∧ 109 ≤ f ∧ f ≤ 111) → gI S' f b = gI S f b) ∧ S'.2.1 = S.2.1 ∧ S'.2.2.1 = S.2.2.1 ∧ (∀ b, (∀ j, 4 ≤ j → j ≤ 12 → b ≠ A j) → aI S' b = aI S b) ∧ S'.2.2.2.2 = S.2.2.2.2
theorem BF.refl (A : Nat → Nat) (S : HS) : BF A S S := ⟨fun _ _ _ => rfl, rfl, rfl, fun _ _ => rfl, rfl⟩
theorem BF.trans {A : Nat → Nat} {S S1 S2 : HS} (h1 : BF A S S1) (h2 : BF A S1 S2) : BF A S S2 :=
  ⟨fun f b p => (h2.1 f b p).trans (h1.1 f b p), h2.2.1.trans h1.2.1, h2.2.2.1.trans h1.2.2.1, fun b p => (h2.2.2.2.1 b p).trans (h1.2.2.2.1 b p), h2.2.2.2.2.trans h1.2.2.2.2⟩
theorem BF.uI {A : Nat → Nat} {S S1 : HS} (h1 : BF A S S1) (f : Nat) (v : Int32) (hf : 109 ≤ f ∧ f ≤ 111) : BF A S (uI S1 f (A 3) v) :=
  ⟨fun g b q => by rw [gI_uI, if_neg (show ¬ (g = f ∧ b = A 3) from fun r => q ⟨r.2, r.1 ▸ hf⟩)]; exact h1.1 g b q, h1.2.1, h1.2.2.1, h1.2.2.2.1, h1.2.2.2.2⟩
theorem BF.wI {A : Nat → Nat} {S S1 : HS} (h1 : BF A S S1) (j i : Nat) (v : Int32) (hj : 4 ≤ j ∧ j ≤ 12) : BF A S (wI S1 (A j) i v) :=
  ⟨h1.1, h1.2.1, h1.2.2.1, fun b p => (aI_wI_o S1 _ i v (p j hj.1 hj.2)).trans (h1.2.2.2.1 b p), h1.2.2.2.2⟩
section BOOK
variable {N : Nat → Nat} {F : Nat} {S : HS} {x : Nat} {A : Nat → Nat} {b : Nat} {U : UNt} {asks : List AK} {a : AK}
theorem bk_ref (h : XW N S x A b U) : (∀ j, j < 9 → gR S (100 + j) (A 3) = some (A (4 + j))) ∧ (∀ j, j < 9 → N (A (4 + j)) = 512) := ⟨h.2.2.1.2.2.1, h.2.1.2.1⟩
theorem iie {p q : Nat} (h1 : p < 134217729) (h2 : q < 134217729) : (ii (p : Int) = ii (q : Int)) = (p = q) := by
  rw [ii_eq (by omega) (by omega) (by omega) (by omega)]
  exact propext Int.ofNat_inj
theorem k512 : (512 : Int32) = ii 512 := rfl
theorem x_find_loop (h : XW N S x A b U) {cn : AK → Nat} {D : List AK} (hD : XBD S A U cn D) (hl : D.length ≤ 512) (h9 : gI S 109 (A 3) = ii D.length) (ha : AKok a) : ∀ (k i M : Nat), i + k = D.length → k < M → (∀ j, j < i → ¬ IX D j a) →
    ∃ z : Int, s_X1_find_L19 N F M (A 3) (ii a.1) (ii a.2.1) (ii a.2.2.2.2) (ii a.2.2.1) (ii a.2.2.2.1) (ii i) S = some (ii z) ∧ ((z = -1 ∧ a ∉ D) ∨ ∃ j : Nat, z = j ∧ IX D j a) := by
  obtain ⟨br, bn⟩ := bk_ref h
  intro k
  induction k with
  | zero =>
    intro i M hi hM hno
    obtain ⟨M', rfl⟩ : ∃ M', M = M' + 1 := ⟨M - 1, by omega⟩
    rw [s_X1_find_L19, h9, if_pos (by rw [ii_le (by omega) (by omega) (by omega) (by omega)]; omega)]
    refine ⟨-1, rfl, Or.inl ⟨rfl, fun hm => ?_⟩⟩
    obtain ⟨j, hj⟩ := IX.of_mem hm
    exact hno j (by have := hj.1; omega) hj
  | succ k ih =>
    intro i M hi hM hno
    obtain ⟨M', rfl⟩ : ∃ M', M = M' + 1 := ⟨M - 1, by omega⟩
    obtain ⟨d, hd⟩ := IX.ex (show i < D.length by omega)
    obtain ⟨⟨e1, e2, e3, e4, e5⟩, ok, _, _⟩ := hD.get hd
    obtain ⟨o1, o2, o3, o4, o5⟩ := ok
    obtain ⟨a1, a2, a3, a4, a5⟩ := ha
    rw [s_X1_find_L19, h9, if_neg (by rw [ii_le (by omega) (by omega) (by omega) (by omega)]; omega), if_neg (by rw [k512, ii_le (by omega) (by omega) (by omega) (by omega)]; omega)]
    have r0 : gR S 100 (A 3) = some (A 4) := br 0 (by omega)
    have r1 : gR S 101 (A 3) = some (A 5) := br 1 (by omega)
    have r2 : gR S 102 (A 3) = some (A 6) := br 2 (by omega)
    have r3 : gR S 103 (A 3) = some (A 7) := br 3 (by omega)
    have r4 : gR S 104 (A 3) = some (A 8) := br 4 (by omega)
    have b0 : N (A 4) = 512 := bn 0 (by omega)
    have b1 : N (A 5) = 512 := bn 1 (by omega)
    have b2' : N (A 6) = 512 := bn 2 (by omega)
    have b3 : N (A 7) = 512 := bn 3 (by omega)
    have b4 : N (A 8) = 512 := bn 4 (by omega)
    have hin : inB (ii (i : Int)) 512 = true := in_of (z := i) rfl (by omega) (by decide)
    have hcl : (ii (i : Int)).toNatClampNeg = i := cl_of (z := i) rfl (by omega)
    have next : ¬ IX D i a → ∃ z : Int, s_X1_find_J109 N F (s_X1_find_L19 N F M') (A 3) (ii a.1) (ii a.2.1) (ii a.2.2.2.2) (ii a.2.2.1) (ii a.2.2.2.1) (ii i) S = some (ii z) ∧ ((z = -1 ∧ a ∉ D) ∨ ∃ j : Nat, z = j ∧ IX D j a) := by
      intro hne
      unfold s_X1_find_J109
      rw [bnd_def, ofI, ii_add]
      exact ih (i + 1) M' (by omega) (by omega) (fun j hj => by
        by_cases q : j = i
        · subst q; exact hne
        · exact hno j (by omega))
    rw [r0, bd1_some, b0, if_pos hin, hcl, e1]
    simp only [iie (show d.1 < 134217729 by omega) (show a.1 < 134217729 by omega)]
    unfold s_X1_find_J63
    by_cases c1 : d.1 = a.1
    · rw [if_pos c1, r1, bd1_some, b1, if_pos hin, e2]
      simp only [iie (show d.2.1 < 134217729 by omega) (show a.2.1 < 134217729 by omega)]
      by_cases c2 : d.2.1 = a.2.1
      · rw [if_pos c2, if_neg (by decide), r4, bd1_some, b4, if_pos hin, hcl, e5]
        simp only [iie (show d.2.2.2.2 < 134217729 by omega) (show a.2.2.2.2 < 134217729 by omega)]
        by_cases c5 : d.2.2.2.2 = a.2.2.2.2
        · rw [if_pos c5, r2, bd1_some, b2', if_pos hin, e3]
          simp only [iie (show d.2.2.1 < 134217729 by omega) (show a.2.2.1 < 134217729 by omega)]
          by_cases c3 : d.2.2.1 = a.2.2.1
          · rw [if_pos c3, r3, bd1_some, b3, if_pos hin, e4]
            simp only [iie (show d.2.2.2.1 < 134217729 by omega) (show a.2.2.2.1 < 134217729 by omega)]
            by_cases c4 : d.2.2.2.1 = a.2.2.2.1
            · rw [if_pos c4]
              have : d = a := Prod.ext c1 (Prod.ext c2 (Prod.ext c3 (Prod.ext c4 c5)))
              exact ⟨i, rfl, Or.inr ⟨i, rfl, this ▸ hd⟩⟩
            · rw [if_neg c4]; exact next (fun q => c4 (by rw [hd.fn q]))
          · rw [if_neg c3]; exact next (fun q => c3 (by rw [hd.fn q]))
        · rw [if_neg c5]; exact next (fun q => c5 (by rw [hd.fn q]))
      · rw [if_neg c2, if_pos (by first | rfl | trivial)]; exact next (fun q => c2 (by rw [hd.fn q]))
    · rw [if_neg c1, if_pos (by first | rfl | trivial)]; exact next (fun q => c1 (by rw [hd.fn q]))
def mnN (p q : Nat) : Nat := if q < p then q else p
def mxN (p q : Nat) : Nat := if p < q then q else p
theorem mn_ii {p q : Nat} (h1 : p < 134217729) (h2 : q < 134217729) : (if ii (q : Int) < ii (p : Int) then ii (q : Int) else ii p) = ii (mnN p q) := by
  unfold mnN
  simp only [ii_lt (a := (q : Int)) (b := (p : Int)) (by omega) (by omega) (by omega) (by omega)]
  by_cases h : q < p
  · rw [if_pos (by omega), if_pos h]
  · rw [if_neg (by omega), if_neg h]
theorem mx_ii {p q : Nat} (h1 : p < 134217729) (h2 : q < 134217729) : (if ii (p : Int) < ii (q : Int) then ii (q : Int) else ii p) = ii (mxN p q) := by
  unfold mxN
  simp only [ii_lt (a := (p : Int)) (b := (q : Int)) (by omega) (by omega) (by omega) (by omega)]
  by_cases h : p < q
  · rw [if_pos (by omega), if_pos h]
  · rw [if_neg (by omega), if_neg h]
theorem x_find (hF : 513 ≤ F) (h : XW N S x A b U) (hB : XBK S A U asks) {f md p q c : Nat} (hp : p < 134217728) (hq : q < 134217728) (ha : AKok (f, md, mnN p q, mxN p q, c)) :
    ∃ z : Int, s_X1_find N F (A 3) (ii f) (ii md) (ii p) (ii q) (ii c) S = some (ii z) ∧ ((z = -1 ∧ (f, md, mnN p q, mxN p q, c) ∉ dD asks) ∨ ∃ j : Nat, z = j ∧ IX (dD asks) j (f, md, mnN p q, mxN p q, c)) := by
  have hl := dD_len asks
  unfold s_X1_find
  rw [mn_ii (by omega) (by omega), bnd_def, mx_ii (by omega) (by omega), bnd_def]
  exact x_find_loop (a := (f, md, mnN p q, mxN p q, c)) h hB.2.2.2.2.1 (by have := hB.2.2.2.1; omega) hB.1 ha (dD asks).length 0 F (by omega) (by have := hB.2.2.2.1; omega) (fun j hj => by omega)
end BOOK
end
section
section BOOK2
variable {N : Nat → Nat} {F : Nat} {S : HS} {x : Nat} {A : Nat → Nat} {b : Nat} {U : UNt} {asks : List AK} {a : AK}
theorem kN_lt {k e fr f c : Nat} (ho : FO k e fr) (hf : f < 4) (hc : c < 2 ^ (e + fr + 1)) : -2 ≤ keyN k e fr f c ∧ keyN k e fr f c < 1000000000 := by
  have hs := sb_le ho
  rw [Nat.pow_succ] at hc
  unfold keyN
  split
  · omega
  · split <;> omega
theorem x_resultKey {p k e fr f c : Nat} (hf : FM S p k e fr) (ho : FO k e fr) (h4 : f < 4) (hc : c < 2 ^ (e + fr + 1)) : s_X11_resultKey p (ii f) (ii c) S = ii (keyN k e fr f c) := by
  have hs := sb_le ho
  have hc2 : c < 2 ^ 27 := Nat.lt_of_lt_of_le hc (pow_mono (show e + fr + 1 ≤ 27 by have := ho.2.2.1; have := ho.2.2.2.2; omega))
  unfold s_X11_resultKey keyN
  rw [x2_isNought hf ho, x2_isNan hf ho]
  simp only [b2_0, decide_eq_false_iff_not]
  by_cases q1 : nS e fr c = 0
  · rw [if_neg (by simp [q1]), if_pos q1]; rfl
  · rw [if_pos q1, if_neg q1]
    by_cases q2 : nInf k e fr < nS e fr c
    · rw [if_neg (by simp [q2]), if_pos q2]; rfl
    · rw [if_pos q2, if_neg q2, show ((27 : Int32)) = ii (27 : Nat) from rfl, ii_shl _ (by decide), ← Int.natCast_mul, ii_or, or_dis hc2]
/- whether a key is new among those there -/
theorem x_noteKey_loop (h : XW N S x A b U) {cn : AK → Nat} {D : List AK} (hD : XBD S A U cn D) (hl : D.length ≤ 511) (hU : ∀ d, d ∈ D → -2 ≤ rkey U d ∧ rkey U d < 1000000000) (key : Int) (hk : -2 ≤ key ∧ key < 1000000000) (cont : Nat → Int32 → Int32 → Int32 → HS → Option HS) : ∀ (k i M : Nat) (w : Bool), i + k = D.length → k < M → (w = true ↔ ¬ ∃ j d, j < i ∧ IX D j d ∧ rkey U d = key) →
    s_X1_noteKey_L5 N F cont M (A 3) (ii D.length) (ii key) (b2 w) (ii i) S = cont (A 3) (ii D.length) (ii key) (b2 (!(D.any (fun o => decide (rkey U o = key))))) S := by
  have br : gR S 105 (A 3) = some (A 9) := (bk_ref h).1 5 (by omega)
  have bn : N (A 9) = 512 := (bk_ref h).2 5 (by omega)
  intro k
  induction k with
  | zero =>
    intro i M w hi hM hw
    obtain ⟨M', rfl⟩ : ∃ M', M = M' + 1 := ⟨M - 1, by omega⟩
    rw [s_X1_noteKey_L5, if_pos (by rw [ii_le (by omega) (by omega) (by omega) (by omega)]; omega)]
    have : w = !(D.any (fun o => decide (rkey U o = key))) := by
      rw [Bool.eq_iff_iff, hw, Bool.not_eq_true', ← Bool.not_eq_true, List.any_eq_true]
      apply not_congr
      constructor
      · rintro ⟨j, d, _, q, e⟩
        exact ⟨d, q.mem, by simpa using e⟩
      · rintro ⟨d, hd, e⟩
        obtain ⟨j, hj⟩ := IX.of_mem hd
        exact ⟨j, d, by have := hj.1; omega, hj, by simpa using e⟩
    rw [this]
  | succ k ih =>
    intro i M w hi hM hw
    obtain ⟨M', rfl⟩ : ∃ M', M = M' + 1 := ⟨M - 1, by omega⟩
    obtain ⟨d, hd⟩ := IX.ex (show i < D.length by omega)
    obtain ⟨_, ok, e9, _⟩ := hD.get hd
    have hdb := hU d hd.mem
    have hin : inB (ii (i : Int)) 512 = true := in_of (z := i) rfl (by omega) (by decide)
    have hcl : (ii (i : Int)).toNatClampNeg = i := cl_of (z := i) rfl (by omega)
    rw [s_X1_noteKey_L5, if_neg (by rw [ii_le (by omega) (by omega) (by omega) (by omega)]; omega), if_neg (by rw [k512, ii_le (by omega) (by omega) (by omega) (by omega)]; omega), br, bd1_some, bn, if_pos hin, hcl, e9]
    unfold s_X1_noteKey_J32
    simp only [ii_eq (a := rkey U d) (b := key) (by omega) (by omega) (by omega) (by omega)]
    rw [bnd_def, bnd_def, ofI, ii_add]
    by_cases q : rkey U d = key
    · rw [if_pos q]
      refine ih (i + 1) M' false (by omega) (by omega) ?_
      have : (∃ j d, j < i + 1 ∧ IX D j d ∧ rkey U d = key) := ⟨i, d, by omega, hd, q⟩
      exact ⟨fun h => by (cases h), fun h => absurd this h⟩
    · rw [if_neg q]
      refine ih (i + 1) M' w (by omega) (by omega) ?_
      rw [hw]
      apply not_congr
      constructor
      · rintro ⟨j, o, h1, h2, h3⟩; exact ⟨j, o, by omega, h2, h3⟩
      · rintro ⟨j, o, h1, h2, h3⟩
        refine ⟨j, o, ?_, h2, h3⟩
        by_cases w2 : j = i
        · subst w2; rw [hd.fn h2] at q; exact absurd h3 q
        · omega
theorem rkey_b (hU : UOK U) {d : AK} (hd : AKok d) (hf : d.1 < vN U) : -2 ≤ rkey U d ∧ rkey U d < 1000000000 := by
  unfold rkey
  exact kN_lt (hU.2.2.2 _ hf) hd.1 (sumF_b (hU.2.2.2 _ hf)).1
/- every sum that was asked is of a form of the unit -/
def ASKok (U : UNt) (asks : List AK) : Prop := ∀ d, d ∈ asks → AKok d ∧ d.1 < vN U
theorem XASK.push {S : HS} {A : Nat → Nat} {D : List AK} (d : AK) : ∀ {l : List AK}, XASK S A D l → XASK S A (d :: D) l
  | [], _ => trivial
  | _ :: _, h => by
    obtain ⟨⟨i, i1, i2⟩, h3⟩ := h
    exact ⟨⟨i, i1.push d, i2⟩, h3.push d⟩
/- the last steps of a note: how often, and where -/
theorem x_note_137 (h : XW N S x A b U) {D : List AK} {i : Nat} (hn : D.Nodup) (hi : IX D i a) (hl : asks.length < 512) (hi5 : i < 512) (h9 : gI S 109 (A 3) = ii D.length) (h10 : gI S 110 (A 3) = ii asks.length) (h11 : gI S 111 (A 3) = ii (bN U D)) (hX : XBD S A U (fun d => asks.count d) D) (hA : XASK S A D asks) (hD : dD (a :: asks) = D) :
    ∃ S', s_X1_note_J137 N F (A 3) (ii i) S = some S' ∧ XBK S' A U (a :: asks) ∧ BF A S S' := by
  have hj := h.1
  obtain ⟨br, bn⟩ := bk_ref h
  have r7 : gR S 107 (A 3) = some (A 11) := br 7 (by omega)
  have r8 : gR S 108 (A 3) = some (A 12) := br 8 (by omega)
  have b7 : N (A 11) = 512 := bn 7 (by omega)
  have b8 : N (A 12) = 512 := bn 8 (by omega)
  have hin : inB (ii (i : Int)) 512 = true := in_of (z := i) rfl (by omega) (by decide)
  have hcl : (ii (i : Int)).toNatClampNeg = i := cl_of (z := i) rfl (by omega)
  have hin2 : inB (ii (asks.length : Int)) 512 = true := in_of (z := asks.length) rfl (by omega) (by decide)
  have hcl2 : (ii (asks.length : Int)).toNatClampNeg = asks.length := cl_of (z := asks.length) rfl (by omega)
  obtain ⟨_, _, _, e11⟩ := hX.get hi
  unfold s_X1_note_J137
  rw [r7, bd1_some, b7, if_pos hin, if_pos hin, hcl, e11, bnd_def, gR_wI, r8, bd1_some, b8, gI_wI, h10, if_pos hin2, hcl2, bnd_def, bnd_def, gI_wI, gI_wI, h10, k1, ii_add, ii_add]
  refine ⟨_, rfl, ⟨?_, ?_, ?_, by simp; omega, ?_, ?_⟩, (((BF.refl A S).wI 11 i _ (by omega)).wI 12 asks.length _ (by omega)).uI 110 _ (by omega)⟩
  · rw [gI_uI, if_neg (by omega)]; rw [hD]; exact h9
  · rw [gI_uI, if_pos ⟨rfl, rfl⟩]; rfl
  · rw [gI_uI, if_neg (by omega), hD]; exact h11
  · rw [hD]
    refine hX.mono (fun j d hd => ⟨fun q q1 q2 => ?_, fun w => ?_⟩)
    · show aI (wI (wI S (A 11) i _) (A 12) asks.length _) (A q) j = _
      rw [aI_wI_o _ _ _ _ (fun r => by have := (hj _ _).mp r; omega), aI_wI_o _ _ _ _ (fun r => by have := (hj _ _).mp r; omega)]
    · show aI (wI (wI S (A 11) i _) (A 12) asks.length _) (A 11) j = _
      rw [aI_wI_o _ _ _ _ (fun r => by have := (hj _ _).mp r; omega), aI_wI_s]
      dsimp only
      rw [List.count_cons]
      by_cases q : j = i
      · subst q
        rw [if_pos rfl, hi.fn hd]; simp
      · rw [if_neg q, w]
        have : a ≠ d := fun w => q (by subst w; exact hd.inj hn hi)
        simp [this]
  · rw [hD]
    refine ⟨⟨i, hi, ?_⟩, hA.mono (fun j hj2 => ?_) (fun _ _ _ q => q)⟩
    · show aI (wI (wI S (A 11) i _) (A 12) asks.length _) (A 12) asks.length = _
      rw [aI_wI_s]; simp
    · show aI (wI (wI S (A 11) i _) (A 12) asks.length _) (A 12) j = _
      rw [aI_wI_s]
      dsimp only
      rw [if_neg (by omega), aI_wI_o _ _ _ _ (fun r => by have := (hj _ _).mp r; omega)]
theorem XBD.bk {S' : HS} {cn : AK → Nat} {D : List AK} (hX : XBD S A U cn D) (h : ∀ j, 4 ≤ j → j ≤ 11 → ∀ i, i < D.length → aI S' (A j) i = aI S (A j) i) : XBD S' A U cn D :=
  hX.mono (fun i d hd => ⟨fun j q1 q2 => h j q1 (by omega) i hd.1, fun w => by rw [h 11 (by omega) (by omega) i hd.1]; exact w⟩)
set_option maxHeartbeats 1000000 in
theorem x_note (hF : 513 ≤ F) (h : XW N S x A b U) (hB : XBK S A U asks) (hl : asks.length < 512) (hk : ASKok U asks) {f md p q c : Nat} (hp : p < 134217728) (hq : q < 134217728) (ha : AKok (f, md, mnN p q, mxN p q, c)) (hf : f < vN U) :
    ∃ S', s_X1_note N F (A 3) (ii f) (ii md) (ii p) (ii q) (ii c) (ii (rkey U (f, md, mnN p q, mxN p q, c))) S = some S' ∧ XBK S' A U ((f, md, mnN p q, mxN p q, c) :: asks) ∧ BF A S S' := by
  have hj := h.1
  have hU := h.2.2.2.2
  obtain ⟨z, z1, z2⟩ := x_find hF h hB hp hq ha
  have hdl := dD_len asks
  have hnd := dD_nodup asks
  have hB0 := hB
  obtain ⟨h9, h10, h11, h12, hX, hAs⟩ := hB
  unfold s_X1_note
  rw [h10, h9, if_neg (by rw [k512, ii_le (by omega) (by omega) (by omega) (by omega)]; omega), if_neg (by rw [k512, ii_le (by omega) (by omega) (by omega) (by omega)]; omega), if_neg (by rw [k0, ii_lt (by omega) (by omega) (by omega) (by omega)]; omega), if_pos (by rw [k0, ii_le (by omega) (by omega) (by omega) (by omega)]; omega), z1, bd1_some]
  generalize hak : (f, md, mnN p q, mxN p q, c) = a at *
  rcases z2 with ⟨zz, hno⟩ | ⟨i, zz, hi⟩
  · subst zz
    rw [if_pos (by decide)]
    obtain ⟨br, bn⟩ := bk_ref h
    have r0 : gR S 100 (A 3) = some (A 4) := br 0 (by omega)
    have r1 : gR S 101 (A 3) = some (A 5) := br 1 (by omega)
    have r2 : gR S 102 (A 3) = some (A 6) := br 2 (by omega)
    have r3 : gR S 103 (A 3) = some (A 7) := br 3 (by omega)
    have r4 : gR S 104 (A 3) = some (A 8) := br 4 (by omega)
    have r5 : gR S 105 (A 3) = some (A 9) := br 5 (by omega)
    have r6 : gR S 106 (A 3) = some (A 10) := br 6 (by omega)
    have r7 : gR S 107 (A 3) = some (A 11) := br 7 (by omega)
    have b0 : N (A 4) = 512 := bn 0 (by omega)
    have b1 : N (A 5) = 512 := bn 1 (by omega)
    have b2' : N (A 6) = 512 := bn 2 (by omega)
    have b3 : N (A 7) = 512 := bn 3 (by omega)
    have b4 : N (A 8) = 512 := bn 4 (by omega)
    have b5 : N (A 9) = 512 := bn 5 (by omega)
    have b6 : N (A 10) = 512 := bn 6 (by omega)
    have b7 : N (A 11) = 512 := bn 7 (by omega)
    generalize hDn : (dD asks) = D at *
    have hin : inB (ii (D.length : Int)) 512 = true := in_of (z := D.length) rfl (by omega) (by decide)
    have hcl : (ii (D.length : Int)).toNatClampNeg = D.length := cl_of (z := D.length) rfl (by omega)
    rw [bnd_def, r0, bd1_some, b0, if_pos hin, hcl, bnd_def, gR_wI, r1, bd1_some, b1, if_pos hin, bnd_def, gR_wI, gR_wI, r2, bd1_some, b2', if_pos hin, bnd_def, gR_wI, gR_wI, gR_wI, r3, bd1_some, b3, if_pos hin, bnd_def, gR_wI, gR_wI, gR_wI, gR_wI, r4, bd1_some, b4, if_pos hin, bnd_def, gR_wI, gR_wI, gR_wI, gR_wI, gR_wI, r7, bd1_some, b7, if_pos hin, bnd_def, mn_ii (by omega) (by omega), mx_ii (by omega) (by omega)]
    have y1 : BF A S (wI (wI (wI (wI (wI (wI S (A 4) D.length (ii f)) (A 5) D.length (ii md)) (A 6) D.length (ii (mnN p q))) (A 7) D.length (ii (mxN p q))) (A 8) D.length (ii c)) (A 11) D.length 0) := ((((((BF.refl A S).wI 4 D.length _ (by omega)).wI 5 D.length _ (by omega)).wI 6 D.length _ (by omega)).wI 7 D.length _ (by omega)).wI 8 D.length _ (by omega)).wI 11 D.length _ (by omega)
    have en1 : EN (wI (wI (wI (wI (wI (wI S (A 4) D.length (ii f)) (A 5) D.length (ii md)) (A 6) D.length (ii (mnN p q))) (A 7) D.length (ii (mxN p q))) (A 8) D.length (ii c)) (A 11) D.length 0) A D.length a ∧ aI (wI (wI (wI (wI (wI (wI S (A 4) D.length (ii f)) (A 5) D.length (ii md)) (A 6) D.length (ii (mnN p q))) (A 7) D.length (ii (mxN p q))) (A 8) D.length (ii c)) (A 11) D.length 0) (A 11) D.length = 0 := by
      subst hak
      unfold EN
      refine ⟨⟨?_, ?_, ?_, ?_, ?_⟩, ?_⟩ <;> simp [aI_wI, hj]
    have ot1 : ∀ j, 4 ≤ j → j ≤ 12 → ∀ i, i < D.length → aI (wI (wI (wI (wI (wI (wI S (A 4) D.length (ii f)) (A 5) D.length (ii md)) (A 6) D.length (ii (mnN p q))) (A 7) D.length (ii (mxN p q))) (A 8) D.length (ii c)) (A 11) D.length 0) (A j) i = aI S (A j) i := by
      intro j q1 q2 i hi
      have : i ≠ D.length := by omega
      unfold aI wI p2
      simp [this]
    have ot12 : ∀ i, aI (wI (wI (wI (wI (wI (wI S (A 4) D.length (ii f)) (A 5) D.length (ii md)) (A 6) D.length (ii (mnN p q))) (A 7) D.length (ii (mxN p q))) (A 8) D.length (ii c)) (A 11) D.length 0) (A 12) i = aI S (A 12) i := by
      intro i
      simp [aI_wI, hj]
    have gg1 : ∀ g b, gI (wI (wI (wI (wI (wI (wI S (A 4) D.length (ii f)) (A 5) D.length (ii md)) (A 6) D.length (ii (mnN p q))) (A 7) D.length (ii (mxN p q))) (A 8) D.length (ii c)) (A 11) D.length 0) g b = gI S g b := fun _ _ => rfl
    have gi1 : (wI (wI (wI (wI (wI (wI S (A 4) D.length (ii f)) (A 5) D.length (ii md)) (A 6) D.length (ii (mnN p q))) (A 7) D.length (ii (mxN p q))) (A 8) D.length (ii c)) (A 11) D.length 0).1 = S.1 := rfl
    generalize (wI (wI (wI (wI (wI (wI S (A 4) D.length (ii f)) (A 5) D.length (ii md)) (A 6) D.length (ii (mnN p q))) (A 7) D.length (ii (mxN p q))) (A 8) D.length (ii c)) (A 11) D.length 0) = S1 at *
    have h1 : XW N S1 x A b U := by
      obtain ⟨w1, w2, w3, w4, w5⟩ := h
      refine ⟨w1, w2, by rw [y1.2.2.1, y1.2.2.2.2]; exact w3, w4.mono (fun g p _ => gg1 g p) y1.2.2.1 y1.2.2.2.2, w5⟩
    have hX1 : XBD S1 A U (fun d => asks.count d) D := hX.bk (fun j q1 q2 i hi => ot1 j q1 (by omega) i hi)
    have hUb : ∀ d, d ∈ D → -2 ≤ rkey U d ∧ rkey U d < 1000000000 := by
      intro d hd
      rw [← hDn, dD_mem] at hd
      exact rkey_b hU (hk d hd).1 (hk d hd).2
    have hkb : -2 ≤ rkey U a ∧ rkey U a < 1000000000 := rkey_b hU ha (by rw [← hak]; exact hf)
    unfold s_X1_noteKey
    have e0 := x_noteKey_loop (F := F) h1 hX1 (by omega) hUb (rkey U a) hkb (s_X1_noteKey_J38 N F) D.length 0 F true (by omega) (by omega) (by simp)
    rw [show s_X1_noteKey_L5 N F (s_X1_noteKey_J38 N F) F (A 3) (ii D.length) (ii (rkey U a)) 1 0 S1 = s_X1_noteKey_L5 N F (s_X1_noteKey_J38 N F) F (A 3) (ii D.length) (ii (rkey U a)) (b2 true) (ii (0 : Nat)) S1 from rfl, e0]
    rw [show (!(D.any (fun o => decide (rkey U o = rkey U a)))) = isnew U a D from rfl]
    unfold s_X1_noteKey_J38
    rw [if_neg (by rw [k0, ii_lt (by omega) (by omega) (by omega) (by omega)]; omega), if_neg (by rw [k512, ii_le (by omega) (by omega) (by omega) (by omega)]; omega), gR_of y1.2.2.1, r5, bd1_some, b5, if_pos hin, hcl, bnd_def, gR_wI, gR_of y1.2.2.1, r6, bd1_some, b6, if_pos hin, bnd_def, nar_b]
    have y2 : BF A S1 (wI (wI S1 (A 9) D.length (ii (rkey U a))) (A 10) D.length (b2 (isnew U a D))) := ((BF.refl A S1).wI 9 D.length _ (by omega)).wI 10 D.length _ (by omega)
    have e9 : aI (wI (wI S1 (A 9) D.length (ii (rkey U a))) (A 10) D.length (b2 (isnew U a D))) (A 9) D.length = ii (rkey U a) := by simp [aI_wI, hj]
    have e10 : aI (wI (wI S1 (A 9) D.length (ii (rkey U a))) (A 10) D.length (b2 (isnew U a D))) (A 10) D.length = b2 (isnew U a D) := by simp [aI_wI]
    have ot2 : ∀ j i, (i ≠ D.length ∨ (j ≠ 9 ∧ j ≠ 10)) → aI (wI (wI S1 (A 9) D.length (ii (rkey U a))) (A 10) D.length (b2 (isnew U a D))) (A j) i = aI S1 (A j) i := by
      intro j i hji
      have q9 : ¬ (A j = A 9 ∧ i = D.length) := fun q => by have := (hj _ _).mp q.1; omega
      have q10 : ¬ (A j = A 10 ∧ i = D.length) := fun q => by have := (hj _ _).mp q.1; omega
      rw [aI_wI, if_neg q10, aI_wI, if_neg q9]
    have gg2 : ∀ g b, gI (wI (wI S1 (A 9) D.length (ii (rkey U a))) (A 10) D.length (b2 (isnew U a D))) g b = gI S1 g b := fun _ _ => rfl
    generalize (wI (wI S1 (A 9) D.length (ii (rkey U a))) (A 10) D.length (b2 (isnew U a D))) = S2 at *
    have key : ∃ S3, s_X1_noteKey_J63 N F (A 3) (b2 (isnew U a D)) S2 = some S3 ∧ gI S3 111 (A 3) = ii (bN U (a :: D)) ∧ gI S3 109 (A 3) = ii D.length ∧ gI S3 110 (A 3) = ii asks.length ∧ BF A S2 S3 ∧ S3.2.2.2.1 = S2.2.2.2.1 := by
      unfold s_X1_noteKey_J63
      have g11 : gI S2 111 (A 3) = ii (bN U D) := by rw [gg2, gg1]; exact h11
      have g9 : gI S2 109 (A 3) = ii D.length := by rw [gg2, gg1]; exact h9
      have g10 : gI S2 110 (A 3) = ii asks.length := by rw [gg2, gg1]; exact h10
      simp only [b2_0]
      cases hnw : isnew U a D
      · rw [if_pos rfl]
        refine ⟨S2, rfl, ?_, g9, g10, BF.refl _ _, rfl⟩
        rw [g11]; show _ = ii ((bN U D + (if isnew U a D = true then 1 else 0) : Nat)); rw [hnw]; rfl
      · rw [if_neg (by decide), bnd_def, g11, k1, ii_add]
        refine ⟨_, rfl, ?_, ?_, ?_, (BF.refl A S2).uI 111 _ (by omega), rfl⟩
        · rw [gI_uI, if_pos ⟨rfl, rfl⟩]; show _ = ii ((bN U D + (if isnew U a D = true then 1 else 0) : Nat)); rw [hnw]; rfl
        · rw [gI_uI, if_neg (by omega)]; exact g9
        · rw [gI_uI, if_neg (by omega)]; exact g10
    obtain ⟨S3, s1, s2, s3, s4, s5, s6⟩ := key
    rw [s1, bd1_some, bnd_def, s3, k1, ii_add]
    have ga : ∀ j, aI S3 j = aI S2 j := fun j => by unfold aI; rw [s6]
    have y4 := (((y1.trans y2).trans s5).uI 109 (ii ((D.length : Int) + 1)) (by omega))
    have h4 : XW N (uI S3 109 (A 3) (ii ((D.length : Int) + 1))) x A b U := by
      obtain ⟨w1, w2, w3, w4, w5⟩ := h
      exact ⟨w1, w2, by rw [y4.2.2.1, y4.2.2.2.2]; exact w3, w4.mono (fun g p hg => y4.1 g p (fun q => by omega)) y4.2.2.1 y4.2.2.2.2, w5⟩
    have hcn : asks.count a = 0 := List.count_eq_zero.mpr (fun q => hno ((hDn ▸ dD_mem a asks).mpr q))
    have hEN : XBD (uI S3 109 (A 3) (ii ((D.length : Int) + 1))) A U (fun d => asks.count d) (a :: D) := by
      refine ⟨⟨?_, ha, ?_, ?_, ?_⟩, ?_⟩
      · obtain ⟨⟨x1, x2, x3, x4, x5⟩, _⟩ := en1
        refine ⟨?_, ?_, ?_, ?_, ?_⟩
        · rw [aI_uI, ga, ot2 4 _ (by omega)]; exact x1
        · rw [aI_uI, ga, ot2 5 _ (by omega)]; exact x2
        · rw [aI_uI, ga, ot2 6 _ (by omega)]; exact x3
        · rw [aI_uI, ga, ot2 7 _ (by omega)]; exact x4
        · rw [aI_uI, ga, ot2 8 _ (by omega)]; exact x5
      · rw [aI_uI, ga]; exact e9
      · rw [aI_uI, ga]; exact e10
      · rw [aI_uI, ga, ot2 11 _ (by omega), en1.2]; show (0 : Int32) = ii (asks.count a : Nat); rw [hcn]; rfl
      · exact hX1.bk (fun j q1 q2 i hi => by rw [aI_uI, ga, ot2 j i (by omega)])
    have hAS : XASK (uI S3 109 (A 3) (ii ((D.length : Int) + 1))) A (a :: D) asks := (hAs.push a).mono (fun i hi => by rw [aI_uI, ga, ot2 12 i (by omega), ot12]) (fun _ _ _ q => q)
    obtain ⟨S', t1, t2, t3⟩ := x_note_137 (S := uI S3 109 (A 3) (ii ((D.length : Int) + 1))) (D := a :: D) (i := D.length) (a := a) h4 (List.nodup_cons.mpr ⟨hno, hnd⟩) (IX.top D a) hl (by omega) (by rw [gI_uI, if_pos ⟨rfl, rfl⟩]; rfl) (by rw [gI_uI, if_neg (by omega)]; exact s4) (by rw [gI_uI, if_neg (by omega)]; exact s2) hEN hAS (by show (if a ∈ dD asks then dD asks else a :: dD asks) = _; rw [hDn, if_neg hno])
    exact ⟨S', t1, t2, y4.trans t3⟩
  · subst zz
    have hil := hi.1
    rw [if_neg (by rw [show ((-1 : Int32)) = ii (-1) from rfl, ii_eq (by omega) (by omega) (by omega) (by omega)]; omega)]
    exact x_note_137 h hnd hi hl (by have := hi.1; omega) h9 h10 h11 hX hAs (by show (if a ∈ dD asks then dD asks else a :: dD asks) = dD asks; rw [if_pos hi.mem])
end BOOK2
end
section
section FORGET
variable {N : Nat → Nat} {F : Nat} {S : HS} {x : Nat} {A : Nat → Nat} {b : Nat} {U : UNt} {asks : List AK} {a : AK}
theorem IX.drop {D : List AK} {i : Nat} {a b : AK} (h : IX (b :: D) i a) (hne : a ≠ b) : IX D i a := by
  rcases h.pop with ⟨_, q⟩ | q
  · exact absurd q hne
  · exact q
theorem x_forget (h : XW N S x A b U) (hB : XBK S A U (a :: asks)) :
    ∃ S', s_X1_forgetLast N (A 3) S = some S' ∧ XBK S' A U asks ∧ BF A S S' := by
  have hj := h.1
  obtain ⟨br, bn⟩ := bk_ref h
  have r6 : gR S 106 (A 3) = some (A 10) := br 6 (by omega)
  have r7 : gR S 107 (A 3) = some (A 11) := br 7 (by omega)
  have r8 : gR S 108 (A 3) = some (A 12) := br 8 (by omega)
  have b6 : N (A 10) = 512 := bn 6 (by omega)
  have b7 : N (A 11) = 512 := bn 7 (by omega)
  have b8 : N (A 12) = 512 := bn 8 (by omega)
  have hnd := dD_nodup (a :: asks)
  have hdl := dD_len (a :: asks)
  obtain ⟨h9, h10, h11, h12, hX, ⟨i, hi, hi2⟩, hAs⟩ := hB
  have hil := hi.1
  simp only [List.length_cons] at h12 hdl h10
  have hin : inB (ii (i : Int)) 512 = true := in_of (z := i) rfl (by omega) (by decide)
  have hcl : (ii (i : Int)).toNatClampNeg = i := cl_of (z := i) rfl (by omega)
  have hin2 : inB (ii (asks.length : Int)) 512 = true := in_of (z := asks.length) rfl (by omega) (by decide)
  have hcl2 : (ii (asks.length : Int)).toNatClampNeg = asks.length := cl_of (z := asks.length) rfl (by omega)
  obtain ⟨_, hok, _, e11⟩ := hX.get hi
  have e10 : aI S (A 10) i = b2 (isnew U a (dD asks)) ∨ a ∈ dD asks := by
    by_cases q : a ∈ dD asks
    · exact Or.inr q
    · left
      have e : dD (a :: asks) = a :: dD asks := by show (if a ∈ dD asks then dD asks else a :: dD asks) = _; rw [if_neg q]
      rw [e] at hX hi hnd
      have : i = (dD asks).length := IX.inj hnd hi (IX.top _ _)
      rw [this]
      exact hX.1.2.2.2.1
  have hcnt : (a :: asks).count a = asks.count a + 1 := by simp
  unfold s_X1_forgetLast
  rw [h10, if_neg (by rw [k0, ii_le (by omega) (by omega) (by omega) (by omega)]; omega), if_pos (by rw [k512, ii_le (by omega) (by omega) (by omega) (by omega)]; omega), bnd_def, gR_uI, r8, bd1_some, b8]
  have e1 : ii ((asks.length + 1 : Nat) : Int) - 1 = ii (asks.length : Nat) := by rw [k1, ii_sub]; congr 1; omega
  have eg : gI (uI S 110 (A 3) (ii asks.length)) 110 (A 3) = ii asks.length := by rw [gI_uI, if_pos ⟨rfl, rfl⟩]
  rw [e1, eg, if_pos hin2, hcl2, bnd_def, aI_uI, hi2, if_neg (by rw [k0, ii_lt (by omega) (by omega) (by omega) (by omega)]; omega), if_pos (by rw [k512, ii_lt (by omega) (by omega) (by omega) (by omega)]; omega), gR_uI, r7, bd1_some, b7, if_pos hin, if_pos hin, hcl, bnd_def, aI_uI, e11, hcnt]
  have e2 : ii ((asks.count a + 1 : Nat) : Int) - 1 = ii (asks.count a : Nat) := by rw [k1, ii_sub]; congr 1; omega
  have o11 : aI (wI (uI S 110 (A 3) (ii asks.length)) (A 11) i (ii (asks.count a))) (A 11) i = ii (asks.count a) := by rw [aI_wI, if_pos ⟨rfl, rfl⟩]
  rw [e2, gR_wI, gR_uI, r7, bd1_some, b7, if_pos hin, o11]
  have hcb : asks.count a ≤ asks.length := List.count_le_length
  have y1 : BF A S (wI (uI S 110 (A 3) (ii asks.length)) (A 11) i (ii (asks.count a))) := ((BF.refl A S).uI 110 _ (by omega)).wI 11 i _ (by omega)
  have q9 : gI (wI (uI S 110 (A 3) (ii asks.length)) (A 11) i (ii (asks.count a))) 109 (A 3) = ii (dD (a :: asks)).length := by rw [gI_wI, gI_uI, if_neg (by omega)]; exact h9
  have q10 : gI (wI (uI S 110 (A 3) (ii asks.length)) (A 11) i (ii (asks.count a))) 110 (A 3) = ii asks.length := by rw [gI_wI, gI_uI, if_pos ⟨rfl, rfl⟩]
  have q11 : gI (wI (uI S 110 (A 3) (ii asks.length)) (A 11) i (ii (asks.count a))) 111 (A 3) = ii (bN U (dD (a :: asks))) := by rw [gI_wI, gI_uI, if_neg (by omega)]; exact h11
  have ot : ∀ j k, (j ≠ 11 ∨ k ≠ i) → aI (wI (uI S 110 (A 3) (ii asks.length)) (A 11) i (ii (asks.count a))) (A j) k = aI S (A j) k := by
    intro j k hjk
    rw [aI_wI, if_neg (fun q => by have := (hj _ _).mp q.1; omega)]; rfl
  generalize (wI (uI S 110 (A 3) (ii asks.length)) (A 11) i (ii (asks.count a))) = S1 at *
  have hXm : ∀ D, XBD S A U (fun d => (a :: asks).count d) D → (∀ k d, IX D k d → IX (dD (a :: asks)) k d) → XBD S1 A U (fun d => asks.count d) D := by
    intro D hD hsub
    refine hD.mono (fun k d hk => ⟨fun j j1 j2 => ot j k (Or.inl (by omega)), fun w => ?_⟩)
    by_cases q : k = i
    · subst q
      rw [o11, hi.fn (hsub k d hk)]
    · rw [ot 11 k (Or.inr q), w]
      have : a ≠ d := fun w => q (by subst w; exact (hsub k _ hk).inj hnd hi)
      rw [List.count_cons]; simp [this]
  by_cases hz : asks.count a = 0
  · have hna : a ∉ dD asks := by rw [dD_mem]; exact List.count_eq_zero.mp hz
    have e : dD (a :: asks) = a :: dD asks := by show (if a ∈ dD asks then dD asks else a :: dD asks) = _; rw [if_neg hna]
    rw [if_pos (by rw [hz]; rfl), bnd_def, gR_uI, gR_of y1.2.2.1, r6, bd1_some, b6, if_pos hin, aI_uI, ot 10 i (Or.inl (by omega)), e10.resolve_right hna, q9]
    rw [e] at hX hi q11 hAs hnd ⊢
    have e3 : ii (((a :: dD asks).length : Nat) : Int) - 1 = ii ((dD asks).length : Nat) := by rw [k1, ii_sub]; congr 1; simp
    rw [e3]
    simp only [b2_0]
    have hX' := hXm (dD asks) (by rw [e] at *; exact hX.2) (fun k d hk => by rw [e]; exact hk.push a)
    have hAs' : ∀ S2 : HS, aI S2 = aI S1 → XASK S2 A (dD asks) asks := by
      intro S2 hS2
      refine hAs.mono (fun k hk => by rw [hS2, ot 12 k (Or.inl (by omega))]) (fun k d hd hk => hk.drop (fun q => ?_))
      subst q
      exact List.count_eq_zero.mp hz hd
    have ebn : bN U (a :: dD asks) = bN U (dD asks) + (if isnew U a (dD asks) = true then 1 else 0) := rfl
    have hbl := bN_le U (dD asks)
    have hdl2 := dD_len asks
    cases hnw : isnew U a (dD asks)
    · rw [if_pos rfl]
      rw [ebn, hnw] at q11
      refine ⟨_, rfl, ⟨?_, ?_, ?_, by omega, hX'.mono (fun _ _ _ => ⟨fun _ _ _ => rfl, fun w => w⟩), hAs' _ rfl⟩, y1.uI 109 _ (by omega)⟩
      · rw [gI_uI, if_pos ⟨rfl, rfl⟩]
      · rw [gI_uI, if_neg (by omega)]; exact q10
      · rw [gI_uI, if_neg (by omega)]; exact q11
    · rw [if_neg (by decide), bnd_def, gI_uI, if_neg (by omega)]
      rw [ebn, hnw] at q11
      rw [q11, show ii ((bN U (dD asks) + (if (true = true) then 1 else 0) : Nat) : Int) - 1 = ii (bN U (dD asks) : Nat) by rw [k1, ii_sub]; congr 1; simp]
      refine ⟨_, rfl, ⟨?_, ?_, ?_, by omega, hX'.mono (fun _ _ _ => ⟨fun _ _ _ => rfl, fun w => w⟩), hAs' _ rfl⟩, (y1.uI 109 _ (by omega)).uI 111 _ (by omega)⟩
      · rw [gI_uI, if_neg (by omega), gI_uI, if_pos ⟨rfl, rfl⟩]
      · rw [gI_uI, if_neg (by omega), gI_uI, if_neg (by omega)]; exact q10
      · rw [gI_uI, if_pos ⟨rfl, rfl⟩]
  · have ha : a ∈ dD asks := by rw [dD_mem]; exact List.count_pos_iff.mp (by omega)
    have e : dD (a :: asks) = dD asks := by show (if a ∈ dD asks then dD asks else a :: dD asks) = _; rw [if_pos ha]
    rw [if_neg (by rw [k0, ii_eq (by omega) (by omega) (by omega) (by omega)]; omega)]
    rw [e] at q9 q11 hAs hX
    exact ⟨S1, rfl, ⟨q9, q10, q11, by omega, hXm _ hX (fun k d hk => by rw [e]; exact hk), hAs.mono (fun k hk => ot 12 k (Or.inl (by omega))) (fun _ _ _ q => q)⟩, y1⟩
theorem x_oftenAt (h : XW N S x A b U) (hB : XBK S A U asks) (z : Int) (hz1 : -2147483648 ≤ z) (hz2 : z < 2147483648) :
    (∀ d, 0 ≤ z → IX (dD asks) z.toNat d → s_X1_oftenAt N (A 3) (ii z) S = some (ii (asks.count d))) ∧ (¬ (0 ≤ z ∧ z < (dD asks).length) → s_X1_oftenAt N (A 3) (ii z) S = some (-1)) := by
  obtain ⟨br, bn⟩ := bk_ref h
  have r7 : gR S 107 (A 3) = some (A 11) := br 7 (by omega)
  have b7 : N (A 11) = 512 := bn 7 (by omega)
  obtain ⟨h9, h10, h11, h12, hX, hAs⟩ := hB
  have hdl := dD_len asks
  unfold s_X1_oftenAt
  rw [h9]
  constructor
  · intro d q1 hd
    have hil := hd.1
    rw [if_neg (by rw [k0, ii_lt (by omega) (by omega) (by omega) (by omega)]; omega), if_neg (by rw [ii_le (by omega) (by omega) (by omega) (by omega)]; omega), if_neg (by rw [k512, ii_le (by omega) (by omega) (by omega) (by omega)]; omega), r7, bd1_some, b7, if_pos (by rw [ii_in hz1 hz2]; omega), ii_cl hz1 hz2, (hX.get hd).2.2.2]
  · intro q
    by_cases q1 : z < 0
    · rw [if_pos (by rw [k0, ii_lt (by omega) (by omega) (by omega) (by omega)]; omega)]
    · rw [if_neg (by rw [k0, ii_lt (by omega) (by omega) (by omega) (by omega)]; omega), if_pos (by rw [ii_le (by omega) (by omega) (by omega) (by omega)]; omega)]
end FORGET
end
