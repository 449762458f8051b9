section
/- a line of a plan: its word and four numbers -/
abbrev LN : Type := Nat × Nat × Nat × Nat × Nat
abbrev TT : Type := UNt × List LN × STt × List Nat × List (Nat × Bool) × List (STt × Bool) × List AK × (Nat → Option STt)
def tU (T : TT) : UNt := T.1
def tP (T : TT) : List LN := T.2.1
def tN (T : TT) : STt := T.2.2.1
def tT (T : TT) : List Nat := T.2.2.2.1
def tS (T : TT) : List (Nat × Bool) := T.2.2.2.2.1
def tD (T : TT) : List (STt × Bool) := T.2.2.2.2.2.1
def tQ (T : TT) : List AK := T.2.2.2.2.2.2.1
def tM (T : TT) : Nat → Option STt := T.2.2.2.2.2.2.2
def LNok (U : UNt) (l : LN) : Prop := l.1 < 4 ∧ (l.1 = 0 → l.2.1 < vR U ∧ l.2.2.1 < vR U ∧ l.2.2.2.1 < vR U ∧ l.2.2.2.2 < vR U) ∧ (l.1 = 1 → l.2.1 < 6) ∧ (l.1 = 3 → l.2.1 < vN U)
def tpok (c : Nat) : Prop := c = 10 ∨ (32 ≤ c ∧ c ≤ 126)
/- names: up to 8 letters, each form's and each register's its own -/
def nmk (l : List Nat) : Prop := l.length ≤ 8 ∧ ∀ c, c ∈ l → 1 ≤ c ∧ c < 32
def NOK (U : UNt) : Prop := (∀ f, f < vN U → nmk (vA U f)) ∧ (∀ r, r < vR U → nmk (vB U r)) ∧ (∀ f g, f < vN U → g < vN U → vA U f = vA U g → f = g) ∧ (∀ r q, r < vR U → q < vR U → vB U r = vB U q → r = q)
/- which of what was kept were sums -/
def nby : List (STt × Bool) → Nat
  | [] => 0
  | (_, w) :: r => nby r + (if w then 1 else 0)
def TOK (n : Nat) (T : TT) : Prop := UOK (tU T) ∧ SOK (tU T) (tN T) ∧ ((tP T).length ≤ 30 ∧ ∀ l, l ∈ tP T → LNok (tU T) l) ∧ ((tT T).length ≤ 1000 ∧ (∀ c, c ∈ tT T → tpok c) ∧ NOK (tU T)) ∧ ((tS T).length ≤ 8 ∧ ∀ q, q ∈ tS T → q.1 < tB (tU T) (tN T).1 ∧ vN (tU T) ≠ 0) ∧ (∀ q, q ∈ tD T → SOK (tU T) q.1) ∧ nby (tD T) ≤ (tQ T).length ∧ ASKok (tU T) (tQ T) ∧ (tQ T).length ≤ n ∧ ∀ m t, tM T m = some t → SOK (tU T) t
def XTP (S : HS) (A : Nat → Nat) (tp : List Nat) : Prop := gI S 801 (A 0) = ii tp.length ∧ ∀ (i c : Nat), tp[i]? = some c → aI S (A 1) i = ii c
def XLN (W : Nat → Int32) (o : Nat) (l : LN) : Prop := W o = ii l.1 ∧ (l.1 = 0 → W (o + 1) = ii l.2.1 ∧ W (o + 2) = ii l.2.2.1 ∧ W (o + 3) = ii l.2.2.2.1 ∧ W (o + 4) = ii l.2.2.2.2) ∧ ((l.1 = 1 ∨ l.1 = 3) → W (o + 1) = ii l.2.1)
def XPL (S : HS) (x : Nat) (A : Nat → Nat) (c : Nat) (pl : List LN) : Prop := c < 2 ∧ gR S 1113 x = some (A (31 + 2 * c)) ∧ gR S 1114 x = some (A (31 + 2 * (1 - c))) ∧ gI S 501 (A (31 + 2 * c)) = ii pl.length ∧ ∀ i l, pl[i]? = some l → XLN (aI S (A (32 + 2 * c))) (5 * i) l
def XSN (S : HS) (x : Nat) (A : Nat → Nat) (seen : List (Nat × Bool)) : Prop := gI S 1115 x = ii seen.length ∧ ∀ i q, seen[i]? = some q → aI S (A 20) i = ii q.1 ∧ aI S (A 21) i = b2 q.2
def XMK (S : HS) (A : Nat → Nat) (U : UNt) (mk : Nat → Option STt) : Prop := ∀ m, m < 4 → aI S (A 19) m = b2 (mk m).isSome ∧ ∀ t, mk m = some t → TS S A U (35 + m) t
def RX (N : Nat → Nat) (S : HS) (x : Nat) (A : Nat → Nat) (b c nx : Nat) (T : TT) : Prop :=
  XW N S x A b (tU T) ∧ TS S A (tU T) 16 (tN T) ∧ XTP S A (tT T) ∧ XPL S x A c (tP T) ∧ XSN S x A (tS T) ∧ XPA S A (tU T) nx (tD T) ∧ XBK S A (tU T) (tQ T) ∧ XMK S A (tU T) (tM T)
/- what an operation on the state in use may change -/
def OF (A : Nat → Nat) (S S' : HS) : Prop :=
  (∀ f p, ¬ (p = A 2 ∧ 1 ≤ f ∧ f ≤ 7) → ¬ (p = A 13 ∧ 402 ≤ f ∧ f ≤ 403) → ¬ (701 ≤ f ∧ f ≤ 703 ∧ (p = A 16 ∨ p = A 17 ∨ ∃ j, j < 16 ∧ p = A (40 + j))) → f ≠ 1115 → gI S' f p = gI S f p) ∧ S'.2.2.1 = S.2.2.1 ∧
  (∀ p, p ≠ A 15 → p ≠ A 20 → p ≠ A 21 → p ≠ A 22 → p ≠ A 76 → p ≠ A 77 → (∀ j, j < 16 → p ≠ A (100 + j)) → aI S' p = aI S p) ∧ S'.2.2.2.2 = S.2.2.2.2
theorem OF.trans {A : Nat → Nat} {S S1 S2 : HS} (h1 : OF A S S1) (h2 : OF A S1 S2) : OF A S S2 :=
  ⟨fun f p q1 q2 q3 q4 => (h2.1 f p q1 q2 q3 q4).trans (h1.1 f p q1 q2 q3 q4), h2.2.1.trans h1.2.1, fun p a1 a2 a3 a4 a5 a6 a7 => (h2.2.2.1 p a1 a2 a3 a4 a5 a6 a7).trans (h1.2.2.1 p a1 a2 a3 a4 a5 a6 a7), h2.2.2.2.trans h1.2.2.2⟩
theorem OF.refl (A : Nat → Nat) (S : HS) : OF A S S := ⟨fun _ _ _ _ _ _ => rfl, rfl, fun _ _ _ _ _ _ _ _ => rfl, rfl⟩
theorem SF.of {A : Nat → Nat} {s : Nat} {S S' : HS} (h : SF A s S S') (hs : s = 16 ∨ s = 17) : OF A S S' := by
  refine ⟨fun f p q1 q2 q3 q4 => h.1 f p q1 (fun q => q3 ⟨q.2.1, q.2.2, ?_⟩), h.2.2.1, fun p a1 a2 a3 a4 a5 a6 a7 => h.2.2.2.1 p ?_, h.2.2.2.2⟩
  · rcases hs with r | r <;> subst r
    · exact Or.inl q.1
    · exact Or.inr (Or.inl q.1)
  · rcases hs with r | r <;> subst r <;> assumption
theorem KF.of {A : Nat → Nat} {S S' : HS} (h : KF A S S') : OF A S S' :=
  ⟨fun f p _ q2 q3 _ => h.1 f p q2 (fun q => q3 ⟨q.1, q.2.1, Or.inr (Or.inr q.2.2)⟩), h.2.2.1, fun p a1 _ _ _ _ _ a7 => h.2.2.2.1 p a1 a7, h.2.2.2.2⟩
theorem TF.of {A : Nat → Nat} {S S' : HS} (h : TF A S S') : OF A S S' :=
  ⟨fun f p _ q2 q3 _ => h.1 f p q2 (fun q => q3 ⟨q.2.1, q.2.2, Or.inl q.1⟩), h.2.2.1, fun p _ _ _ _ a5 _ _ => h.2.2.2.1 p a5, h.2.2.2.2⟩
theorem CF.of {A : Nat → Nat} {s : Nat} {S S' : HS} (h : CF A s S S') (hs : s = 16 ∨ s = 17) : OF A S S' := h.sf.of hs
theorem OF.seen {A : Nat → Nat} {S S1 : HS} (h : OF A S S1) (x : Nat) (v : Int32) : OF A S (uI S1 1115 x v) :=
  ⟨fun f p q1 q2 q3 q4 => by rw [gI_uI, if_neg (fun q => q4 q.1)]; exact h.1 f p q1 q2 q3 q4, h.2.1, h.2.2.1, h.2.2.2⟩
theorem XW.of {N : Nat → Nat} {S S' : HS} {x : Nat} {A : Nat → Nat} {b : Nat} {U : UNt} (h : XW N S x A b U) (hF : OF A S S') : XW N S' x A b U := by
  obtain ⟨h1, h2, h3, h4, h5⟩ := h
  refine ⟨h1, h2, by rw [hF.2.1, hF.2.2.2]; exact h3, h4.mono (fun f p q => ?_) hF.2.1 hF.2.2.2, h5⟩
  exact hF.1 f p (fun r => by omega) (fun r => by omega) (fun r => by omega) (by omega)
section RXOF
variable {N : Nat → Nat} {S S' : HS} {x : Nat} {A : Nat → Nat} {b c nx nx' : Nat} {T : TT}
theorem XTP.of {tp : List Nat} (h : XTP S A tp) (hA : ∀ i j, A i = A j ↔ i = j) (hF : OF A S S') : XTP S' A tp := by
  unfold XTP at *
  rw [hF.1 801 _ (fun r => by omega) (fun r => by omega) (fun r => by omega) (by omega)]
  rw [hF.2.2.1 (A 1) (by rw [ne_eq, hA]; decide) (by rw [ne_eq, hA]; decide) (by rw [ne_eq, hA]; decide) (by rw [ne_eq, hA]; decide) (by rw [ne_eq, hA]; decide) (by rw [ne_eq, hA]; decide) (fun j hj => by rw [ne_eq, hA]; omega)]
  exact h
theorem XPL.of {pl : List LN} (h : XPL S x A c pl) (hA : ∀ i j, A i = A j ↔ i = j) (hF : OF A S S') : XPL S' x A c pl := by
  have hc := h.1
  unfold XPL at *
  rw [hF.1 501 _ (fun r => by omega) (fun r => by omega) (fun r => by omega) (by omega), gR_of hF.2.1, gR_of hF.2.1]
  rw [hF.2.2.1 (A (32 + 2 * c)) (by rw [ne_eq, hA]; omega) (by rw [ne_eq, hA]; omega) (by rw [ne_eq, hA]; omega) (by rw [ne_eq, hA]; omega) (by rw [ne_eq, hA]; omega) (by rw [ne_eq, hA]; omega) (fun j hj => by rw [ne_eq, hA]; omega)]
  exact h
theorem XBK.of {U : UNt} {asks : List AK} (h : XBK S A U asks) (hA : ∀ i j, A i = A j ↔ i = j) (hF : OF A S S') : XBK S' A U asks := by
  obtain ⟨h1, h2, h3, h4, h5, h6⟩ := h
  have ea : ∀ q, 4 ≤ q → q ≤ 12 → aI S' (A q) = aI S (A q) := fun q q1 q2 => hF.2.2.1 (A q) (by rw [ne_eq, hA]; omega) (by rw [ne_eq, hA]; omega) (by rw [ne_eq, hA]; omega) (by rw [ne_eq, hA]; omega) (by rw [ne_eq, hA]; omega) (by rw [ne_eq, hA]; omega) (fun j hj => by rw [ne_eq, hA]; omega)
  have eg : ∀ f, 109 ≤ f → f ≤ 111 → gI S' f (A 3) = gI S f (A 3) := fun f f1 f2 => hF.1 f _ (fun r => by omega) (fun r => by omega) (fun r => by omega) (by omega)
  refine ⟨by rw [eg 109 (by omega) (by omega)]; exact h1, by rw [eg 110 (by omega) (by omega)]; exact h2, by rw [eg 111 (by omega) (by omega)]; exact h3, h4, h5.bk (fun j j1 j2 i _ => by rw [ea j j1 (by omega)]), h6.mono (fun i _ => by rw [ea 12 (by omega) (by omega)]) (fun _ _ _ q => q)⟩
theorem XMK.of {U : UNt} {mk : Nat → Option STt} (h : XMK S A U mk) (hA : ∀ i j, A i = A j ↔ i = j) (hF : OF A S S') : XMK S' A U mk := by
  intro m hm
  obtain ⟨h1, h2⟩ := h m hm
  have ea : ∀ q, q = 19 ∨ (95 ≤ q ∧ q < 99) → aI S' (A q) = aI S (A q) := fun q q1 => hF.2.2.1 (A q) (by rw [ne_eq, hA]; omega) (by rw [ne_eq, hA]; omega) (by rw [ne_eq, hA]; omega) (by rw [ne_eq, hA]; omega) (by rw [ne_eq, hA]; omega) (by rw [ne_eq, hA]; omega) (fun j hj => by rw [ne_eq, hA]; omega)
  refine ⟨by rw [ea 19 (Or.inl rfl)]; exact h1, fun t ht => (h2 t ht).congr (fun f f1 f2 => ?_) (ea _ (Or.inr (by omega)))⟩
  refine hF.1 f _ (fun r => by omega) (fun r => by omega) (fun r => ?_) (by omega)
  rcases r.2.2 with w | w | ⟨j, j1, w⟩
  · have := (hA _ _).mp w; omega
  · have := (hA _ _).mp w; omega
  · have := (hA _ _).mp w; omega
theorem RX.of (h : RX N S x A b c nx T) (hF : OF A S S') {now : STt} {seen : List (Nat × Bool)} {und : List (STt × Bool)} (h1 : TS S' A (tU T) 16 now) (h2 : XSN S' x A seen) (h3 : XPA S' A (tU T) nx' und) :
    RX N S' x A b c nx' (tU T, tP T, now, tT T, seen, und, tQ T, tM T) := by
  obtain ⟨a1, a2, a3, a4, a5, a6, a7, a8⟩ := h
  have hA := a1.1
  exact ⟨a1.of hF, h1, a3.of hA hF, a4.of hA hF, h2, h3, a7.of hA hF, a8.of hA hF⟩
/- what a question may change -/
def XE (A : Nat → Nat) (S S' : HS) : Prop :=
  (∀ f p, ¬ (p = A 2 ∧ 1 ≤ f ∧ f ≤ 7) → ¬ (p = A 17 ∧ 701 ≤ f ∧ f ≤ 703) → gI S' f p = gI S f p) ∧ S'.2.2.1 = S.2.2.1 ∧ (∀ p, p ≠ A 22 → p ≠ A 77 → aI S' p = aI S p) ∧ S'.2.2.2.2 = S.2.2.2.2
theorem XE.refl (A : Nat → Nat) (S : HS) : XE A S S := ⟨fun _ _ _ _ => rfl, rfl, fun _ _ _ => rfl, rfl⟩
theorem XE.trans {A : Nat → Nat} {S S1 S2 : HS} (h1 : XE A S S1) (h2 : XE A S1 S2) : XE A S S2 :=
  ⟨fun f p q1 q2 => (h2.1 f p q1 q2).trans (h1.1 f p q1 q2), h2.2.1.trans h1.2.1, fun p a1 a2 => (h2.2.2.1 p a1 a2).trans (h1.2.2.1 p a1 a2), h2.2.2.2.trans h1.2.2.2⟩
theorem SF.xe {A : Nat → Nat} {S S' : HS} (h : SF A 17 S S') : XE A S S' := ⟨h.1, h.2.2.1, fun p _ a2 => h.2.2.2.1 p a2, h.2.2.2.2⟩
theorem AFr.xe {A : Nat → Nat} {S S' : HS} (h : AFr (A 2) [1, 2, 3, 4, 6, 7] S S') : XE A S S' := (h.sf 17).xe
theorem XE.of {A : Nat → Nat} {S S' : HS} (h : XE A S S') : OF A S S' :=
  ⟨fun f p q1 _ q3 _ => h.1 f p q1 (fun q => q3 ⟨q.2.1, q.2.2, Or.inr (Or.inl q.1)⟩), h.2.1, fun p _ _ _ a4 _ a6 _ => h.2.2.1 p a4 a6, h.2.2.2⟩
theorem TS.xe {U : UNt} {s : Nat} {t : STt} (h : TS S A U s t) (hA : ∀ i j, A i = A j ↔ i = j) (hF : XE A S S') (hs : s ≠ 17) (hi : isSt s = true) : TS S' A U s t := by
  refine h.congr (fun f f1 f2 => hF.1 f _ (fun r => by omega) (fun r => hs ((hA _ _).mp r.1))) (hF.2.2.1 _ (by rw [ne_eq, hA]; omega) (by rw [ne_eq, hA]; omega))
theorem XPA.xe {U : UNt} {und : List (STt × Bool)} (h : XPA S A U nx und) (hA : ∀ i j, A i = A j ↔ i = j) (hF : XE A S S') : XPA S' A U nx und := by
  obtain ⟨h1, h2, h3, h4, h5⟩ := h
  refine ⟨by rw [hF.1 402 _ (fun r => by omega) (fun r => by omega)]; exact h1, by rw [hF.1 403 _ (fun r => by omega) (fun r => by omega)]; exact h2, h3, h4, h5.mono (fun j _ => ?_)⟩
  have hm : (nx - 1 - j) % 16 < 16 := Nat.mod_lt _ (by decide)
  exact ⟨fun t ht => ht.xe hA hF (by omega) (isSt40 _ hm), by rw [hF.2.2.1 (A 15) (by rw [ne_eq, hA]; decide) (by rw [ne_eq, hA]; decide)]⟩
theorem XSN.xe {seen : List (Nat × Bool)} (h : XSN S x A seen) (hA : ∀ i j, A i = A j ↔ i = j) (hF : XE A S S') : XSN S' x A seen := by
  unfold XSN at *
  rw [hF.1 1115 _ (fun r => by omega) (fun r => by omega), hF.2.2.1 (A 20) (by rw [ne_eq, hA]; decide) (by rw [ne_eq, hA]; decide), hF.2.2.1 (A 21) (by rw [ne_eq, hA]; decide) (by rw [ne_eq, hA]; decide)]
  exact h
theorem RX.xe (h : RX N S x A b c nx T) (hF : XE A S S') : RX N S' x A b c nx T := by
  have hA := h.1.1
  have := h.of (nx' := nx) hF.of (h.2.1.xe hA hF (by decide) (by decide)) (h.2.2.2.2.1.xe hA hF) (h.2.2.2.2.2.1.xe hA hF)
  exact this
end RXOF
end
section
/- the model's ground -/
def words37 : List Nat := [325132, 7749, 328600, 24834, 21400, 8696, 679177, 6237219, 29457, 30596128, 11882262, 26068, 43531911, 19741, 1891, 573, 24839932, 20687, 14184879, 919322]
def nm37 : List Nat → Nat := List.foldl (fun v c => 37 * v + c) 0
def YLAY (N : Nat → Nat) (R : Nat → Nat → Option Nat) (m : Nat) (B : Nat → Nat) : Prop :=
  (R 1201 m = some (B 0) ∧ R 1204 m = some (B 1) ∧ R 1205 m = some (B 2) ∧ R 1206 m = some (B 3) ∧ R 1209 m = some (B 4) ∧ R 1210 m = some (B 5) ∧ R 1211 m = some (B 6) ∧ R 1213 m = some (B 7)) ∧
  (R 1214 m = some (B 8) ∧ R 1215 m = some (B 9) ∧ R 1216 m = some (B 10) ∧ R 1217 m = some (B 11) ∧ R 1219 m = some (B 12) ∧ R 1225 m = some (B 13) ∧ R 1226 m = some (B 14) ∧ R 1227 m = some (B 15)) ∧
  (N (B 0) = 1000 ∧ N (B 1) = 1002 ∧ N (B 2) = 1002 ∧ N (B 3) = 1002 ∧ N (B 4) = 20 ∧ N (B 5) = 30 ∧ N (B 6) = 2200 ∧ N (B 7) = 20) ∧ (N (B 8) = 310 ∧ N (B 9) = 4 ∧ N (B 10) = 64 ∧ N (B 11) = 616 ∧ N (B 12) = 4 ∧ N (B 13) = 600 ∧ N (B 14) = 600 ∧ N (B 15) = 5)
def YU (S : HS) (B : Nat → Nat) (U : UNt) : Prop := aI S (B 5) 0 = ii (vN U) ∧ aI S (B 5) 1 = ii (vR U) ∧ LAW S (B 5) (B 6) (lawB (vL U)) ∧
  (∀ f, f < vN U → aI S (B 5) (3 + 3 * f) = ii (vK U f) ∧ aI S (B 5) (3 + 3 * f + 1) = ii (vE U f) ∧ aI S (B 5) (3 + 3 * f + 2) = ii (vF U f)) ∧ (∀ f, f < vN U → aJ S (B 7) f = jj (nm37 (vA U f))) ∧ (∀ r, r < vR U → aJ S (B 7) (4 + r) = jj (nm37 (vB U r)))
def YW (N : Nat → Nat) (S : HS) (m : Nat) (B : Nat → Nat) (U : UNt) : Prop := (∀ i j, B i = B j ↔ i = j) ∧ YLAY N S.2.2.1 m B ∧ (∀ (i v : Nat), words37[i]? = some v → aJ S (B 4) i = jj v) ∧ YU S B U ∧ UOK U
def YST (W : Nat → Int32) (o : Nat) (U : UNt) (t : STt) : Prop := W o = ii (fI U t.1) ∧ W (o + 1) = ii t.2.1 ∧ W (o + 2) = ii t.2.2.1 ∧ ∀ r, r < 6 → W (o + 4 + r) = ii (t.2.2.2 r)
def YSN (W : Nat → Int32) (seen : List (Nat × Bool)) : Prop := W 10 = ii seen.length ∧ seen.length ≤ 8 ∧ ∀ i q, seen[i]? = some q → W (11 + 2 * i) = ii q.1 ∧ W (11 + 2 * i + 1) = b2 q.2
def YUN (W : Nat → Int32) (U : UNt) : Nat → List (STt × Bool) → Prop
  | _, [] => True
  | n, (t, w) :: r => YST W (28 * (5 + r.length)) U t ∧ W (28 * (5 + r.length) + 3) = ii (n - (if w then 1 else 0) : Nat) ∧ YUN W U (n - (if w then 1 else 0)) r
def YMK (W : Nat → Int32) (Z : Nat → Int32) (U : UNt) (mk : Nat → Option STt) : Prop := ∀ m, m < 4 → Z m = b2 (mk m).isSome ∧ ∀ t, mk m = some t → YST W (28 * (1 + m)) U t
def YASK (S : HS) (B : Nat → Nat) (U : UNt) : List AK → Prop
  | [] => True
  | a :: r => aJ S (B 13) r.length = jj (a.1 + 4 * (a.2.1 + 8 * (a.2.2.1 + 134217728 * a.2.2.2.1)) : Nat) ∧ aJ S (B 14) r.length = jj (a.2.2.2.2 + 134217728 * rs U a : Nat) ∧ YASK S B U r
def YTP (S : HS) (m : Nat) (B : Nat → Nat) (tp : List Nat) : Prop := gI S 1202 m = ii tp.length ∧ ∀ (i c : Nat), tp[i]? = some c → aI S (B 0) i = ii c
def YPL (S : HS) (B : Nat → Nat) (pl : List LN) : Prop := aI S (B 8) 0 = ii pl.length ∧ ∀ i l, pl[i]? = some l → XLN (aI S (B 8)) (1 + 5 * i) l
def RY (N : Nat → Nat) (S : HS) (m : Nat) (B : Nat → Nat) (T : TT) : Prop :=
  YW N S m B (tU T) ∧ (YST (aI S (B 11)) 0 (tU T) (tN T) ∧ aI S (B 11) 3 = ii (tQ T).length) ∧ YSN (aI S (B 11)) (tS T) ∧ (gI S 1218 m = ii (tD T).length ∧ (tD T).length ≤ 16 ∧ YUN (aI S (B 11)) (tU T) (tQ T).length (tD T)) ∧ YMK (aI S (B 11)) (aI S (B 12)) (tU T) (tM T) ∧ YASK S B (tU T) (tQ T) ∧ YTP S m B (tT T) ∧ YPL S B (tP T)
/- what a question may change of the model -/
def YE (m : Nat) (B : Nat → Nat) (S S' : HS) : Prop :=
  (∀ f p, f ≠ 1200 → ¬ (p = m ∧ 1220 ≤ f ∧ f ≤ 1224) → gI S' f p = gI S f p) ∧ S'.2.2.1 = S.2.2.1 ∧ (∀ p, p ≠ B 9 → p ≠ B 10 → p ≠ B 11 → p ≠ B 15 → aI S' p = aI S p) ∧ (∀ i, i < 588 → aI S' (B 11) i = aI S (B 11) i) ∧ S'.2.2.2.2 = S.2.2.2.2
theorem YE.refl (m : Nat) (B : Nat → Nat) (S : HS) : YE m B S S := ⟨fun _ _ _ _ => rfl, rfl, fun _ _ _ _ _ => rfl, fun _ _ => rfl, rfl⟩
theorem YE.trans {m : Nat} {B : Nat → Nat} {S S1 S2 : HS} (h1 : YE m B S S1) (h2 : YE m B S1 S2) : YE m B S S2 :=
  ⟨fun f p a b => (h2.1 f p a b).trans (h1.1 f p a b), h2.2.1.trans h1.2.1, fun p a b c d => (h2.2.2.1 p a b c d).trans (h1.2.2.1 p a b c d), fun i hi => (h2.2.2.2.1 i hi).trans (h1.2.2.2.1 i hi), h2.2.2.2.2.trans h1.2.2.2.2⟩
theorem YE.thr (m : Nat) (B : Nat → Nat) (S : HS) (v : Int32) : YE m B S (uI S 1200 m v) := ⟨fun f p a _ => by rw [gI_uI, if_neg (fun q => a q.1)], rfl, fun _ _ _ _ _ => rfl, fun _ _ => rfl, rfl⟩
theorem YF.ye {m : Nat} {B : Nat → Nat} {S S' : HS} (h : YF m (B 9) (B 10) S S') (hB : ∀ i j, B i = B j ↔ i = j) : YE m B S S' :=
  ⟨fun f p _ b => h.1 f p b, h.2.2.1, fun p a b _ _ => h.2.2.2.1 p a b, fun i _ => by rw [h.2.2.2.1 (B 11) (by rw [ne_eq, hB]; decide) (by rw [ne_eq, hB]; decide)], h.2.2.2.2⟩
theorem YST.congr {W W' : Nat → Int32} {o : Nat} {U : UNt} {t : STt} (h : YST W o U t) (hw : ∀ i, o ≤ i → i < o + 10 → W' i = W i) : YST W' o U t := by
  unfold YST at *
  rw [hw o (by omega) (by omega), hw (o + 1) (by omega) (by omega), hw (o + 2) (by omega) (by omega)]
  exact ⟨h.1, h.2.1, h.2.2.1, fun r hr => by rw [hw _ (by omega) (by omega)]; exact h.2.2.2 r hr⟩
theorem YUN.congr {W W' : Nat → Int32} {U : UNt} : ∀ {und : List (STt × Bool)} {n : Nat}, YUN W U n und → (∀ i, 140 ≤ i → i < 140 + 28 * und.length → W' i = W i) → YUN W' U n und
  | [], _, _, _ => trivial
  | (t, w) :: r, n, h, hw => by
    simp only [List.length_cons] at hw
    refine ⟨h.1.congr (fun i h1 h2 => hw i (by omega) (by omega)), by rw [hw _ (by omega) (by omega)]; exact h.2.1, YUN.congr h.2.2 (fun i h1 h2 => hw i h1 (by omega))⟩
theorem LAW.congr {S S' : HS} {u co : Nat} {L : Bool → Bool → Bool → Bool → Bool} (h : LAW S u co L) (h1 : aI S' u = aI S u) (h2 : aI S' co = aI S co) : LAW S' u co L := by
  unfold LAW at *; rw [h1, h2]; exact h
theorem YW.congr {N : Nat → Nat} {S S' : HS} {m : Nat} {B : Nat → Nat} {U : UNt} (h : YW N S m B U) (h1 : S'.2.2.1 = S.2.2.1) (h2 : aI S' (B 5) = aI S (B 5)) (h3 : aI S' (B 6) = aI S (B 6)) (h4 : aJ S' (B 4) = aJ S (B 4)) (h5 : aJ S' (B 7) = aJ S (B 7)) : YW N S' m B U := by
  obtain ⟨a1, a2, a3, ⟨b1, b2', b3, b4, b5, b6⟩, a5⟩ := h
  exact ⟨a1, by rw [h1]; exact a2, by rw [h4]; exact a3, ⟨by rw [h2]; exact b1, by rw [h2]; exact b2', b3.congr h2 h3, by rw [h2]; exact b4, by rw [h5]; exact b5, by rw [h5]; exact b6⟩, a5⟩
theorem YASK.congr {S S' : HS} {B : Nat → Nat} {U : UNt} : ∀ {l : List AK}, YASK S B U l → (∀ i, i < l.length → aJ S' (B 13) i = aJ S (B 13) i ∧ aJ S' (B 14) i = aJ S (B 14) i) → YASK S' B U l
  | [], _, _ => trivial
  | a :: r, h, hw => by
    obtain ⟨q1, q2⟩ := hw r.length (by simp)
    exact ⟨by rw [q1]; exact h.1, by rw [q2]; exact h.2.1, YASK.congr h.2.2 (fun i hi => hw i (by simp; omega))⟩
section YBASE
variable {N : Nat → Nat} {F : Nat} {S S' : HS} {m : Nat} {B : Nat → Nat} {U : UNt} {T : TT} {t : STt}
theorem RY.ye (h : RY N S m B T) (hF : YE m B S S') : RY N S' m B T := by
  obtain ⟨a1, ⟨a2, a3⟩, ⟨s1, s3, s2⟩, ⟨u1, u2, u3⟩, a5, a6, ⟨t1, t2⟩, ⟨p1, p2⟩⟩ := h
  have hB := a1.1
  have e : ∀ q, q ≠ 9 → q ≠ 10 → q ≠ 11 → q ≠ 15 → aI S' (B q) = aI S (B q) := fun q q1 q2 q3 q4 => hF.2.2.1 _ (by rw [ne_eq, hB]; exact q1) (by rw [ne_eq, hB]; exact q2) (by rw [ne_eq, hB]; exact q3) (by rw [ne_eq, hB]; exact q4)
  have ej : ∀ q, aJ S' q = aJ S q := aJ_of hF.2.2.2.2
  have ew : ∀ i, i < 588 → aI S' (B 11) i = aI S (B 11) i := hF.2.2.2.1
  refine ⟨a1.congr hF.2.1 (e 5 (by decide) (by decide) (by decide) (by decide)) (e 6 (by decide) (by decide) (by decide) (by decide)) (ej _) (ej _), ⟨a2.congr (fun i _ h2 => ew i (by omega)), by rw [ew 3 (by omega)]; exact a3⟩, ⟨by rw [ew 10 (by omega)]; exact s1, s3, fun i q hq => ?_⟩, ⟨by rw [hF.1 1218 _ (by omega) (by omega)]; exact u1, u2, u3.congr (fun i _ h2 => ew i (by omega))⟩, fun k hk => ⟨by rw [e 12 (by decide) (by decide) (by decide) (by decide)]; exact (a5 k hk).1, fun t ht => ((a5 k hk).2 t ht).congr (fun i _ h2 => ew i (by omega))⟩, a6.congr (fun i _ => ⟨by rw [ej], by rw [ej]⟩), ⟨by rw [hF.1 1202 _ (by omega) (by omega)]; exact t1, by rw [e 0 (by decide) (by decide) (by decide) (by decide)]; exact t2⟩, ⟨by rw [e 8 (by decide) (by decide) (by decide) (by decide)]; exact p1, by rw [e 8 (by decide) (by decide) (by decide) (by decide)]; exact p2⟩⟩
  have hi : i < (tS T).length := (List.getElem?_eq_some_iff.mp hq).1
  rw [ew _ (by omega), ew _ (by omega)]; exact s2 i q hq
theorem y_ml (h : YW N S m B U) : MR N S m (B 5) (B 9) (B 10) (B 6) (lawB (vL U)) := by
  obtain ⟨a1, ⟨⟨c0, c1, c2, c3, c4, c5, c6, c7⟩, ⟨c8, c9, c10, c11, c12, c13, c14, c15⟩, ⟨n0, n1, n2, n3, n4, n5, n6, n7⟩, ⟨n8, n9, n10, n11, n12, n13, n14, n15⟩⟩, a3, a4, a5⟩ := h
  refine ⟨⟨c5, c9, c10, c6, n5, n9, n10, n6, ?_, ?_, ?_, ?_, ?_⟩, a4.2.2.1⟩ <;> (rw [ne_eq, a1]; decide)
theorem y_mu (h : YW N S m B U) {f : Nat} (hf : f < vN U) : MU N S m (B 5) f (vK U f) (vE U f) (vF U f) ∧ FO (vK U f) (vE U f) (vF U f) := by
  obtain ⟨a1, ⟨⟨c0, c1, c2, c3, c4, c5, c6, c7⟩, ⟨c8, c9, c10, c11, c12, c13, c14, c15⟩, ⟨n0, n1, n2, n3, n4, n5, n6, n7⟩, ⟨n8, n9, n10, n11, n12, n13, n14, n15⟩⟩, a3, a4, a5⟩ := h
  have := a5.1
  exact ⟨⟨c5, n5, by omega, a4.2.2.2.1 f hf⟩, a5.2.2.2 f hf⟩
theorem y_st (h : YW N S m B U) : gR S 1217 m = some (B 11) ∧ N (B 11) = 616 := ⟨h.2.1.2.1.2.2.2.1, h.2.1.2.2.2.2.2.2.1⟩
theorem y_used (h : YW N S m B U) (hs : YST (aI S (B 11)) 0 U t) : s_X12_used N m S = some (ii (fI U t.1)) := by
  obtain ⟨h1, h2⟩ := y_st h
  unfold s_X12_used
  rw [h1, bd1_some, h2, if_pos (by decide)]
  exact congrArg some hs.1
theorem y_regs (h : YW N S m B U) : s_X12_regs N m S = some (ii (vR U)) := by
  unfold s_X12_regs
  rw [show gR S 1210 m = some (B 5) from (y_ml h).1.1, bd1_some, (y_ml h).1.2.2.2.2.1, if_pos (by decide)]
  exact congrArg some h.2.2.2.1.2.1
theorem y_forms (h : YW N S m B U) : s_X12_forms N m S = some (ii (vN U)) := by
  unfold s_X12_forms
  rw [show gR S 1210 m = some (B 5) from (y_ml h).1.1, bd1_some, (y_ml h).1.2.2.2.2.1, if_pos (by decide)]
  exact congrArg some h.2.2.2.1.1
theorem y_isReg (h : YW N S m B U) (z : Int) (hz1 : -2147483648 ≤ z) (hz2 : z < 2147483648) : s_X12_isReg N m (ii z) S = some (b2 (decide (0 ≤ z ∧ z < vR U))) := by
  have := h.2.2.2.2.2.1
  unfold s_X12_isReg
  rw [y_regs h, bd1_some]
  simp (disch := omega) only [k0, ii_lt, ii_le]
  by_cases q1 : z < 0
  · rw [if_pos q1, decide_eq_false (by omega)]; rfl
  · rw [if_neg q1]
    by_cases q2 : (vR U : Int) ≤ z
    · rw [if_pos q2, decide_eq_false (by omega)]; rfl
    · rw [if_neg q2, decide_eq_true (by omega)]; rfl
theorem y_isForm (h : YW N S m B U) (z : Int) (hz1 : -2147483648 ≤ z) (hz2 : z < 2147483648) : s_X12_isForm N m (ii z) S = some (b2 (decide (0 ≤ z ∧ z < vN U))) := by
  have := h.2.2.2.2.1
  unfold s_X12_isForm
  rw [y_forms h, bd1_some]
  simp (disch := omega) only [k0, ii_lt, ii_le]
  by_cases q1 : z < 0
  · rw [if_pos q1, decide_eq_false (by omega)]; rfl
  · rw [if_neg q1]
    by_cases q2 : (vN U : Int) ≤ z
    · rw [if_pos q2, decide_eq_false (by omega)]; rfl
    · rw [if_neg q2, decide_eq_true (by omega)]; rfl
/- whether these are bits of the form in use -/
def hld (U : UNt) (t : STt) (v : Int32) : Bool := decide (vN U ≠ 0 ∧ 0 ≤ v.toInt ∧ v.toInt < tB U t.1)
theorem y_isBits (h : YW N S m B U) (ht : SOK U t) (v : Int32) : s_X12_isBits N m (ii (fI U t.1)) v S = some (b2 (hld U t v)) := by
  have hb := fI_b ht h.2.2.2.2
  have hv := ii_of v
  have l1 := v.le_toInt
  have l2 := v.toInt_lt
  unfold s_X12_isBits hld
  generalize v.toInt = z at *
  subst hv
  by_cases q : vN U = 0
  · have e : fI U t.1 = -1 := if_pos q
    rw [e, if_pos (by decide), decide_eq_false (fun w => w.1 q)]; rfl
  · have ht1 : t.1 < vN U := by rcases ht.1 with r | r; exact r; exact absurd r.1 q
    have e : fI U t.1 = (t.1 : Int) := if_neg q
    obtain ⟨mu, fo⟩ := y_mu h ht1
    have hs := sb_le fo
    rw [e] at hb ⊢
    have etb : tB U t.1 = 2 * 2 ^ (vE U t.1 + vF U t.1) := by unfold tB; rw [Nat.pow_succ, Nat.mul_comm]
    rw [etb]
    rw [if_neg (by rw [k0, ii_lt (by omega) (by omega) (by omega) (by omega)]; omega)]
    simp (disch := omega) only [k0, k2, ii_lt]
    by_cases q1 : z < 0
    · rw [if_pos q1, decide_eq_false (by omega)]; rfl
    · rw [if_neg q1, y_signOf mu fo, bd1_some]
      simp (disch := omega) only [k2, ii_mul, ii_le]
      by_cases q2 : 2 * ((2 ^ (vE U t.1 + vF U t.1) : Nat) : Int) ≤ z
      · rw [if_pos q2, decide_eq_false (by omega)]; rfl
      · rw [if_neg q2, decide_eq_true (by omega)]; rfl
theorem hld_ex {v : Int32} (ht : SOK U t) (h : hld U t v = true) : ∃ c : Nat, v = ii c ∧ c < tB U t.1 ∧ vN U ≠ 0 ∧ t.1 < vN U := by
  unfold hld at h
  rw [decide_eq_true_eq] at h
  obtain ⟨h1, h2, h3⟩ := h
  exact ⟨v.toInt.toNat, by rw [Int.toNat_of_nonneg h2, ii_of], by omega, h1, by rcases ht.1 with r | r; exact r; exact absurd r.1 h1⟩
theorem y_areBits (h : YW N S m B U) (hs : YST (aI S (B 11)) 0 U t) (ht : SOK U t) (p q r : Int32) : s_X12_areBits N m p q r S = some (b2 (hld U t p && hld U t q && hld U t r)) := by
  unfold s_X12_areBits
  rw [y_used h hs, bd1_some, y_isBits h ht, bd1_some, bd1_some, y_isBits h ht, bd1_some, bd1_some, y_isBits h ht, bd1_some]
  cases hld U t p <;> cases hld U t q <;> cases hld U t r <;> rfl
end YBASE
end
section
def nRk (e fr b : Nat) : Int := if nMi e fr b = true then -(nS e fr b : Int) else nS e fr b
def nNeg (k e fr b : Nat) : Nat := if nInf k e fr < nS e fr b then b else if nMi e fr b = true then b - 2 ^ (e + fr) else b + 2 ^ (e + fr)
def nTop (k e fr : Nat) : Nat := if k = 3 then nInf k e fr - 1 else nInf k e fr
def nNx (k e fr b : Nat) : Nat := if nInf k e fr < nS e fr b then b else if nS e fr b = 0 then 1 else if nMi e fr b = true then b - 1 else if b = nTop k e fr then b else b + 1
theorem xor_top {b i : Nat} (hb : b < 2 ^ (i + 1)) : b ^^^ 2 ^ i = if 2 ^ i ≤ b then b - 2 ^ i else b + 2 ^ i := by
  have hp := Nat.two_pow_pos i
  rw [Nat.pow_succ] at hb
  by_cases h : 2 ^ i ≤ b
  · rw [if_pos h]
    obtain ⟨r, rfl⟩ : ∃ r, b = 2 ^ i + r := ⟨b - 2 ^ i, by omega⟩
    have hr : r < 2 ^ i := by omega
    have e1 : 2 ^ i + r = 2 ^ i ^^^ r := by
      have := Nat.two_pow_add_eq_or_of_lt hr 1
      rw [Nat.mul_one] at this
      rw [this]
      apply Nat.eq_of_testBit_eq
      intro j
      rw [Nat.testBit_or, Nat.testBit_xor]
      by_cases q : j < i
      · rw [Nat.testBit_two_pow_of_ne (by omega)]; simp
      · have : r.testBit j = false := Nat.testBit_lt_two_pow (Nat.lt_of_lt_of_le hr (pow_mono (by omega)))
        rw [this]; simp
    rw [e1, Nat.xor_comm (2 ^ i) r, Nat.xor_assoc, Nat.xor_self, Nat.xor_zero, Nat.xor_comm, ← e1]; omega
  · rw [if_neg h]
    have hr : b < 2 ^ i := by omega
    have e1 : 2 ^ i + b = 2 ^ i ^^^ b := by
      have := Nat.two_pow_add_eq_or_of_lt hr 1
      rw [Nat.mul_one] at this
      rw [this]
      apply Nat.eq_of_testBit_eq
      intro j
      rw [Nat.testBit_or, Nat.testBit_xor]
      by_cases q : j < i
      · rw [Nat.testBit_two_pow_of_ne (by omega)]; simp
      · have : b.testBit j = false := Nat.testBit_lt_two_pow (Nat.lt_of_lt_of_le hr (pow_mono (by omega)))
        rw [this]; simp
    rw [Nat.xor_comm, ← e1]; omega
section NUM
variable {N : Nat → Nat} {S : HS} {p a u f k e fr b : Nat}
theorem pw1 {k e fr b : Nat} (hb : b < 2 ^ (e + fr + 1)) : b < 2 * 2 ^ (e + fr) := by rw [Nat.pow_succ] at hb; omega
theorem x2_rank (hf : FM S p k e fr) (ho : FO k e fr) (hb : b < 2 ^ (e + fr + 1)) : s_X2_rank p (ii b) S = ii (nRk e fr b) := by
  unfold s_X2_rank nRk
  rw [x2_isMinus hf ho hb, x2_size hf]
  simp only [b2_0]
  cases nMi e fr b
  · rfl
  · rw [if_neg (by decide), if_pos rfl, ii_neg]
theorem x2_turned (hf : FM S p k e fr) (ho : FO k e fr) (hb : b < 2 ^ (e + fr + 1)) : s_X2_turned p (ii b) S = ii (nNeg k e fr b) := by
  unfold s_X2_turned nNeg
  rw [x2_isNan hf ho, hf.2.2.2.2.1, ii_xor, xor_top hb]
  simp only [b2_0, decide_eq_false_iff_not]
  by_cases q : nInf k e fr < nS e fr b
  · rw [if_neg (by simp [q]), if_pos q]
  · rw [if_pos q, if_neg q]
    unfold nMi
    by_cases q2 : 2 ^ (e + fr) ≤ b
    · rw [if_pos q2, if_pos (by simp [q2])]
    · rw [if_neg q2, if_neg (by simp; omega)]
theorem x2_top (hf : FM S p k e fr) (ho : FO k e fr) : s_X2_top p S = ii (nTop k e fr) := by
  have hk := ho.1
  unfold s_X2_top nTop
  rw [hf.1, hf.2.2.2.2.2.2.1, hf.2.2.2.2.2.1]
  simp (disch := omega) only [k3, ii_eq]
  by_cases q : k = 3
  · rw [if_pos (by omega), if_pos q]
  · rw [if_neg (by omega), if_neg q]
theorem nTop_b (ho : FO k e fr) : nTop k e fr < 2 ^ (e + fr) ∧ 0 < nTop k e fr ∧ nTop k e fr ≤ nInf k e fr := by
  have hi := nInf_le ho
  unfold nTop
  by_cases q : k = 3
  · rw [if_pos q]; omega
  · rw [if_neg q]
    have := nInf_lt ho q
    have := fr_le ho
    omega
theorem x2_next (hf : FM S p k e fr) (ho : FO k e fr) (hb : b < 2 ^ (e + fr + 1)) : s_X2_next p (ii b) S = ii (nNx k e fr b) := by
  have hs := sb_le ho
  have hb2 := pw1 (k := k) hb
  have ht := nTop_b ho
  unfold s_X2_next nNx
  rw [x2_isNan hf ho, x2_isNought hf ho, x2_isMinus hf ho hb, x2_top hf ho, k1, ii_add, ii_sub]
  simp only [b2_0, decide_eq_false_iff_not]
  simp (disch := omega) only [ii_eq]
  by_cases q1 : nInf k e fr < nS e fr b
  · rw [if_neg (by simp [q1]), if_pos q1]
  · rw [if_pos q1, if_neg q1]
    by_cases q2 : nS e fr b = 0
    · rw [if_neg (by simp [q2]), if_pos q2]; rfl
    · rw [if_pos q2, if_neg q2]
      have hb0 : b ≠ 0 := by intro h; apply q2; subst h; unfold nS; simp
      cases nMi e fr b
      · simp only [if_true, if_false, Bool.false_eq_true]
        by_cases q3 : b = nTop k e fr
        · rw [if_pos (by omega), if_pos q3]
        · rw [if_neg (by omega), if_neg q3]; rfl
      · simp only [if_true, if_false, Bool.true_eq_false]; congr 1; omega
theorem nNx_lt (ho : FO k e fr) (hb : b < 2 ^ (e + fr + 1)) : nNx k e fr b < 2 ^ (e + fr + 1) := by
  have hs := sb_le ho
  have ht := nTop_b ho
  rw [Nat.pow_succ] at hb ⊢
  unfold nNx
  split
  · omega
  · split
    · omega
    · split
      · omega
      · rename_i q
        have : ¬ 2 ^ (e + fr) ≤ b := by unfold nMi at q; simpa using q
        split <;> omega
theorem nNeg_lt (ho : FO k e fr) (hb : b < 2 ^ (e + fr + 1)) : nNeg k e fr b < 2 ^ (e + fr + 1) := by
  have hs := sb_le ho
  rw [Nat.pow_succ] at hb ⊢
  unfold nNeg
  split
  · omega
  · split
    · omega
    · rename_i q
      have : ¬ 2 ^ (e + fr) ≤ b := by unfold nMi at q; simpa using q
      omega
theorem x2_one (hf : FM S p k e fr) (ho : FO k e fr) : s_X2_one p S = ii (nB e * (2 ^ fr : Nat)) := by
  have o5 := ho.2.2.2.2
  unfold s_X2_one
  rw [hf.2.2.2.1, hf.2.2.1, ii_shl _ (by omega)]
def nOne (e fr : Nat) : Nat := (nB e).toNat * 2 ^ fr
theorem nOne_eq (ho : FO k e fr) : nB e * ((2 ^ fr : Nat) : Int) = (nOne e fr : Int) := by
  have := nB_le ho
  unfold nOne
  rw [Int.natCast_mul, Int.toNat_of_nonneg (by omega)]
theorem nOne_lt (ho : FO k e fr) : nOne e fr < 2 ^ (e + fr + 1) := by
  have h1 : (nB e).toNat < 2 ^ e := by
    have := Nat.two_pow_pos (e - 1)
    have h2 : 2 ^ (e - 1) ≤ 2 ^ e := pow_mono (by omega)
    have h3 : nB e = ((2 ^ (e - 1) : Nat) : Int) - 1 := by unfold nB; simp
    rw [h3]
    generalize 2 ^ (e - 1) = P at *
    omega
  unfold nOne
  calc (nB e).toNat * 2 ^ fr < 2 ^ e * 2 ^ fr := Nat.mul_lt_mul_of_pos_right h1 (Nat.two_pow_pos fr)
    _ = 2 ^ (e + fr) := by rw [← Nat.pow_add]
    _ ≤ 2 ^ (e + fr + 1) := pow_mono (by omega)
theorem x2_classOf (hf : FM S p k e fr) (ho : FO k e fr) : s_X2_classOf p (ii b) S = ii (nCl k e fr b) := by
  have hx := nEx_256 (b := b) ho
  have hx0 : (nEx e fr b = 0) ↔ nS e fr b < 2 ^ fr := by
    have := fr_le ho
    unfold nEx; rw [Nat.div_eq_zero_iff]; omega
  have hi := nInf_fr ho
  unfold s_X2_classOf s_X2_isSubnormal nCl
  rw [x2_isNought hf ho, x2_isNan hf ho, x2_isInfinite hf ho, x2_exponent hf ho]
  simp only [b2_0, decide_eq_false_iff_not]
  simp (disch := omega) only [k0, ii_eq]
  by_cases q1 : nS e fr b = 0
  · rw [if_neg (by simp [q1]), if_pos q1]; rfl
  · rw [if_pos q1, if_neg q1]
    by_cases q2 : nS e fr b < 2 ^ fr
    · rw [if_pos q1, if_pos (show ((nEx e fr b : Nat) : Int) = 0 by omega), if_neg (by decide), if_pos q2]; rfl
    · rw [if_pos q1, if_neg (show ¬ ((nEx e fr b : Nat) : Int) = 0 by omega), if_pos rfl, if_neg q2]
      by_cases q3 : nInf k e fr < nS e fr b
      · rw [if_neg (by simp [q3]), if_neg (by omega), if_neg (by omega)]; rfl
      · rw [if_pos q3]
        by_cases q4 : nS e fr b = nInf k e fr
        · rw [if_neg (by simp [q4]), if_neg (by omega), if_pos q4]; rfl
        · rw [if_pos q4, if_pos (by omega)]; rfl
theorem x2_fraction (hf : FM S p k e fr) (ho : FO k e fr) : s_X2_fraction p (ii b) S = ii (b % 2 ^ fr : Nat) := by
  have hfr := fr_le ho
  have o5 := ho.2.2.2.2
  unfold s_X2_fraction
  rw [hf.2.2.1, ii_one_shl (by omega), show ii ((2 ^ fr : Nat) : Int) - 1 = ii ((2 ^ fr - 1 : Nat)) by rw [k1, ii_sub]; congr 1; omega, ii_mod]
theorem x2_isSmall (hf : FM S p k e fr) (ho : FO k e fr) : s_X2_isSmall p S = b2 (decide (e + fr ≤ 9)) := by
  obtain ⟨o1, o2, o3, o4, o5⟩ := ho
  unfold s_X2_isSmall
  rw [hf.2.1, hf.2.2.1, ii_add]
  simp (disch := omega) only [k9, ii_lt]
  by_cases q : e + fr ≤ 9
  · rw [if_neg (by omega), decide_eq_true q]; rfl
  · rw [if_pos (by omega), decide_eq_false q]; rfl
theorem x2_many (hf : FM S p k e fr) : s_X2_many p S = ii (2 ^ (e + fr + 1) : Nat) := by
  unfold s_X2_many
  rw [hf.2.2.2.2.1, k2, ii_mul]
  congr 1
  rw [Nat.pow_succ, Nat.mul_comm]; rfl
end NUM
section HOLD
variable {N N2 : Nat → Nat} {F : Nat} {S S2 : HS} {x m : Nat} {A B : Nat → Nat} {b c nx n : Nat} {T : TT} {U : UNt} {t : STt}
theorem x_hold (h : XW N S x A b U) (hs : TS S A U 16 t) (ht : SOK U t) (v : Int32) :
    (hld U t v = false → s_X11_formHolding N x v S = some none) ∧ (hld U t v = true → ∃ p, s_X11_formHolding N x v S = some (some p) ∧ FM S p (vK U t.1) (vE U t.1) (vF U t.1) ∧ FO (vK U t.1) (vE U t.1) (vF U t.1)) := by
  obtain ⟨g1, g2⟩ := x_holding h hs ht v
  unfold hld
  exact ⟨fun q => g1 (of_decide_eq_false q), fun q => g2 (of_decide_eq_true q)⟩
theorem x_holds {p : Nat} (hf : FM S p (vK U t.1) (vE U t.1) (vF U t.1)) (ho : FO (vK U t.1) (vE U t.1) (vF U t.1)) (hn : vN U ≠ 0) (v : Int32) : s_X2_holds p v S = b2 (hld U t v) := by
  rw [x2_holds hf ho]
  unfold hld tB
  congr 1
  apply decide_eq_decide.mpr
  exact ⟨fun q => ⟨hn, q.1, q.2⟩, fun q => ⟨q.2.1, q.2.2⟩⟩
theorem mq_none {β : Type} (a : β) (k : Nat → β) : mq none a k = a := rfl
theorem mq_some {β : Type} (t : Nat) (a : β) (k : Nat → β) : mq (some t) a k = k t := rfl
theorem y_rankOf {k e fr f b : Nat} (hu : s_X12_used N m S = some (ii f)) (mu : MU N S m (B 5) f k e fr) (fo : FO k e fr) (hb : b < 2 ^ (e + fr + 1)) : s_X12_rankOf N m (ii b) S = some (ii (nRk e fr b)) := by
  unfold s_X12_rankOf nRk
  rw [hu, bd1_some, y_sizeOf mu fo hb, bd1_some, bd1_some, y_isMinus mu fo hb, bd1_some]
  simp only [b2_0]
  cases nMi e fr b
  · rfl
  · rw [if_neg (by decide), if_pos rfl, ii_neg]
theorem y_within (p lo hi : Int) (h1 : -2147483648 ≤ p) (h2 : p < 2147483648) (h3 : -2147483648 ≤ lo) (h4 : lo < 2147483648) (h5 : -2147483648 ≤ hi) (h6 : hi < 2147483648) : s_X12_within (ii p) (ii lo) (ii hi) S = b2 (decide (lo ≤ p ∧ p ≤ hi)) := by
  unfold s_X12_within
  simp only [ii_lt h1 h2 h3 h4, ii_lt h5 h6 h1 h2]
  by_cases q1 : p < lo
  · rw [if_pos q1, decide_eq_false (by omega)]; rfl
  · rw [if_neg q1]
    by_cases q2 : hi < p
    · rw [if_pos q2, decide_eq_false (by omega)]; rfl
    · rw [if_neg q2, decide_eq_true (by omega)]; rfl
theorem y_aboveOf {k e fr f b : Nat} (hu : s_X12_used N m S = some (ii f)) (mu : MU N S m (B 5) f k e fr) (fo : FO k e fr) (hb : b < 2 ^ (e + fr + 1)) : s_X12_aboveOf N m (ii b) S = some (ii (nNx k e fr b)) := by
  have hs := sb_le fo
  have hb2 := pw1 (k := k) hb
  have ht := nTop_b fo
  have hk := fo.1
  have hcl := @nCl_le k e fr b
  have hc0 := @nCl_0 k e fr b
  unfold s_X12_aboveOf
  rw [hu, bd1_some, y_isNan mu fo hb, bd1_some, y_kindOf mu, bd1_some, y_greatestOf mu fo, bd1_some]
  simp only [b2_0, decide_eq_false_iff_not]
  unfold nNx
  by_cases q1 : nInf k e fr < nS e fr b
  · rw [if_neg (by simp [q1]), if_pos q1]
  rw [if_pos q1, if_neg q1]
  have j37 : ∃ G : Option Int32, s_X12_aboveOf_J37 N m (ii b) (ii f) (ii b) (ii (nTop k e fr)) S = G ∧ G = some (ii (if nS e fr b = 0 then 1 else if nMi e fr b = true then b - 1 else if b = nTop k e fr then b else b + 1 : Nat)) := by
    refine ⟨_, rfl, ?_⟩
    unfold s_X12_aboveOf_J37
    rw [y_classOf mu fo hb, bd1_some, y_isMinus mu fo hb, bd1_some]
    simp (disch := omega) only [k0, k1, ii_eq, ii_add, ii_sub]
    by_cases q2 : b = nTop k e fr
    · have n0 : ¬ nS e fr b = 0 := by
        unfold nS; rw [q2, Nat.mod_eq_of_lt ht.1]; omega
      have n1 : ¬ nMi e fr b = true := by unfold nMi; simp; omega
      rw [if_pos (by omega), if_neg n0, if_neg n1, if_pos q2]
    · rw [if_neg (by omega)]
      by_cases q3 : nS e fr b = 0
      · rw [if_pos (by omega), if_pos q3]; rfl
      · rw [if_neg (by omega), if_neg q3]
        have hb0 : b ≠ 0 := by intro h; apply q3; subst h; unfold nS; simp
        have : (b2 (nMi e fr b) = ii 0) = (nMi e fr b = false) := b2_0 _
        simp only [this]
        cases nMi e fr b
        · rw [if_pos rfl, if_neg (by decide), if_neg q2]; rfl
        · rw [if_neg (by decide), if_pos rfl]; congr 2; omega
  obtain ⟨G, g1, g2⟩ := j37
  simp (disch := omega) only [k3, ii_eq]
  unfold nTop at g1 g2
  by_cases q3 : k = 3
  · rw [if_pos (by omega)]
    rw [if_pos q3] at g1 g2
    rw [g1, g2]; unfold nTop; rw [if_pos q3]
  · rw [if_neg (by omega), y_infOf mu fo q3, bd1_some]
    rw [if_neg q3] at g1 g2
    rw [g1, g2]; unfold nTop; rw [if_neg q3]
end HOLD
end
