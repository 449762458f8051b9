section
section RXPL
variable {N N' N2 : Nat → Nat} {F : Nat} {S S' S2 S2' : HS} {x m : Nat} {A B : Nat → Nat} {b c nx : Nat} {T : TT}
def tPl (T : TT) (pl : List LN) (tp : List Nat) : TT := (tU T, pl, tN T, tp, tS T, tD T, tQ T, tM T)
/- the tape and the plans may change, all else of the class stays -/
theorem RX.pl (h : RX N S x A b c nx T) (hI : ∀ i f, iuB i = true → ¬ (i = 0 ∧ 801 ≤ f ∧ f ≤ 807) → f ≠ 501 → ¬ (903 ≤ f ∧ f ≤ 906 ∧ i = 23 + 4 * (1 - b)) → gI S' f (A i) = gI S f (A i)) (hI2 : ∀ f, gI S' f x = gI S f x)
    (hR : ∀ i f, iuB i = true → gR S' f (A i) = gR S f (A i)) (hR2 : ∀ f, f ≠ 1113 → f ≠ 1114 → gR S' f x = gR S f x) (hA : ∀ i, iuB i = true → i ≠ 32 → i ≠ 34 → aI S' (A i) = aI S (A i))
    (hJ : ∀ i, iuB i = true → i ≠ 25 + 4 * (1 - b) → i ≠ 26 + 4 * (1 - b) → aJ S' (A i) = aJ S (A i)) (hQ : ∀ i, iuB i = true → i ≠ 24 + 4 * (1 - b) → aR S' (A i) = aR S (A i)) (hN : ∀ i, iuB i = true → N' (A i) = N (A i))
    (hF : ∀ f p, f < vN (tU T) → aR S (A (24 + 4 * b)) f = some p → ∀ g, gI S' g p = gI S g p) {tp' : List Nat} (h3 : XTP S' A tp') {c' : Nat} {pl' : List LN} (h4 : XPL S' x A c' pl') : RX N' S' x A b c' nx (tPl T pl' tp') := by
  obtain ⟨⟨w1, w2, w3, w4, w5⟩, a2, a3, a4, a5, a6, a7, a8⟩ := h
  have ts : ∀ s t, isSt s = true → TS S A (tU T) s t → TS S' A (tU T) s t := fun s t hs ht => ht.congr (fun f f1 f2 => hI s f (iu_st hs) (by omega) (by omega) (by omega)) (hA _ (iu_60 hs) (by omega) (by omega))
  have st35 : ∀ m, m < 4 → isSt (35 + m) = true := by
    intro m hm
    have : m = 0 ∨ m = 1 ∨ m = 2 ∨ m = 3 := by omega
    rcases this with q | q | q | q <;> subst q <;> decide
  refine ⟨⟨w1, ?_, ?_, ?_, w5⟩, ts 16 _ (by decide) a2, h3, h4, ?_, ?_, ?_, ?_⟩
  · obtain ⟨⟨a1, a2, a3, a4, a5, a6, a7, a8⟩, c1, c2, c3, c4⟩ := w2
    refine ⟨⟨by rw [hN 1 (by decide)]; exact a1, by rw [hN 14 (by decide)]; exact a2, by rw [hN 15 (by decide)]; exact a3, by rw [hN 18 (by decide)]; exact a4, by rw [hN 19 (by decide)]; exact a5, by rw [hN 20 (by decide)]; exact a6, by rw [hN 21 (by decide)]; exact a7, by rw [hN 22 (by decide)]; exact a8⟩, fun j hj => by rw [hN _ (iu_38 (by omega))]; exact c1 j hj, fun s hs => by rw [hN _ (iu_60 hs)]; exact c2 s hs, fun b hb => ?_, fun b hb => by rw [hN _ (iu_38 (by omega))]; exact c4 b hb⟩
    rw [hN _ (iu_38 (by omega)), hN _ (iu_38 (by omega)), hN _ (iu_38 (by omega))]; exact c3 b hb
  · have ex : ∀ f, f ≠ 1113 → f ≠ 1114 → S'.2.2.1 f x = S.2.2.1 f x := hR2
    have ea : ∀ i f, iuB i = true → S'.2.2.1 f (A i) = S.2.2.1 f (A i) := hR
    have er : ∀ i j, iuB i = true → i ≤ 18 → S'.2.2.2.2.2 (A i) j = S.2.2.2.2.2 (A i) j := fun i j hi h18 => congrFun (hQ i hi (by omega)) j
    obtain ⟨⟨a1, a2, a3, a4, a5, a6, a7, a8, a9⟩, ⟨b1, b2', b3, b4, b5⟩, c1, c2, c3, c4, c5, c6⟩ := w3
    refine ⟨⟨by rw [ex _ (by decide) (by decide)]; exact a1, by rw [ea 0 _ (by decide)]; exact a2, by rw [ex _ (by decide) (by decide)]; exact a3, by rw [ex _ (by decide) (by decide)]; exact a4, by rw [ex _ (by decide) (by decide)]; exact a5, by rw [ea 13 _ (by decide)]; exact a6, by rw [ea 13 _ (by decide)]; exact a7, by rw [ex _ (by decide) (by decide)]; exact a8, by rw [ex _ (by decide) (by decide)]; exact a9⟩, ⟨by rw [ex _ (by decide) (by decide)]; exact b1, by rw [ex _ (by decide) (by decide)]; exact b2', by rw [ex _ (by decide) (by decide)]; exact b3, by rw [ex _ (by decide) (by decide)]; exact b4, by rw [ex _ (by decide) (by decide)]; exact b5⟩, fun j hj => by rw [ea 3 _ (by decide)]; exact c1 j hj, fun m hm => by rw [er 18 _ (by decide) (by decide)]; exact c2 m hm, fun j hj => by rw [er 14 _ (by decide) (by decide)]; exact c3 j hj, fun s hs => by rw [ea s _ (iu_st hs)]; exact c4 s hs, fun b hb => ?_, fun b hb => ?_⟩
    · rw [ea _ _ (iu_38 (by omega)), ea _ _ (iu_38 (by omega)), ea _ _ (iu_38 (by omega))]; exact c5 b hb
    · rw [ea _ _ (iu_38 (by omega))]; exact c6 b hb
  · obtain ⟨u1, u2, u3, u4, u5, u6, u7, u8, u9⟩ := w4
    refine ⟨u1, by rw [hR2 _ (by decide) (by decide)]; exact u2, by rw [hR2 _ (by decide) (by decide)]; exact u3, by rw [hI _ _ (iu_38 (by omega)) (by omega) (by omega) (by omega)]; exact u4, by rw [hI _ _ (iu_38 (by omega)) (by omega) (by omega) (by omega)]; exact u5, by rw [hI 2 _ (by decide) (by omega) (by omega) (by omega)]; exact u6, fun f hf1 => ?_, fun f hf1 => by rw [hJ _ (iu_38 (by omega)) (by omega) (by omega)]; exact u8 f hf1, fun r hr => by rw [hJ _ (iu_38 (by omega)) (by omega) (by omega)]; exact u9 r hr⟩
    obtain ⟨p, p1, p2⟩ := u7 f hf1
    exact ⟨p, by rw [hQ _ (iu_38 (by omega)) (by omega)]; exact p1, p2.mono2 (fun g _ _ => hF f p hf1 p1 g)⟩
  · unfold XSN at *
    rw [hI2, hA 20 (by decide) (by decide) (by decide), hA 21 (by decide) (by decide) (by decide)]; exact a5
  · obtain ⟨h1, h2, h3, h4, h5⟩ := a6
    refine ⟨by rw [hI 13 _ (by decide) (by omega) (by omega) (by omega)]; exact h1, by rw [hI 13 _ (by decide) (by omega) (by omega) (by omega)]; exact h2, h3, h4, h5.mono (fun j _ => ?_)⟩
    have hm : (nx - 1 - j) % 16 < 16 := Nat.mod_lt _ (by decide)
    exact ⟨fun t ht => ts _ _ (isSt40 _ hm) ht, by rw [hA 15 (by decide) (by decide) (by decide)]⟩
  · obtain ⟨h1, h2, h3, h4, h5, h6⟩ := a7
    exact ⟨by rw [hI 3 _ (by decide) (by omega) (by omega) (by omega)]; exact h1, by rw [hI 3 _ (by decide) (by omega) (by omega) (by omega)]; exact h2, by rw [hI 3 _ (by decide) (by omega) (by omega) (by omega)]; exact h3, h4, h5.bk (fun j j1 j2 i _ => by rw [hA j (iu_38 (by omega)) (by omega) (by omega)]), h6.mono (fun i _ => by rw [hA 12 (by decide) (by decide) (by decide)]) (fun _ _ _ q => q)⟩
  · intro m hm
    obtain ⟨h1, h2⟩ := a8 m hm
    exact ⟨by rw [hA 19 (by decide) (by decide) (by decide)]; exact h1, fun t ht => ts _ _ (st35 m hm) (h2 t ht)⟩
/- the same of the model -/
theorem RY.pl (h : RY N2 S2 m B T) (hg : ∀ f p, ¬ (p = m ∧ (f = 1200 ∨ f = 1202 ∨ f = 1203 ∨ f = 1207 ∨ f = 1208)) → gI S2' f p = gI S2 f p) (hr : S2'.2.2.1 = S2.2.2.1) (ha : ∀ p, p ≠ B 1 → p ≠ B 2 → p ≠ B 8 → aI S2' p = aI S2 p) (hj : ∀ p, p ≠ B 3 → aJ S2' p = aJ S2 p) {tp' : List Nat} {pl' : List LN} (h1 : YTP S2' m B tp') (h2 : YPL S2' B pl') : RY N2 S2' m B (tPl T pl' tp') := by
  obtain ⟨a1, ⟨a2, a3⟩, ⟨s1, s2, s3⟩, ⟨u1, u2, u3⟩, a5, a6, ⟨t1, t2⟩, ⟨p1, p2⟩⟩ := h
  have hB := a1.1
  have e : ∀ q, q ≠ 1 → q ≠ 2 → q ≠ 8 → aI S2' (B q) = aI S2 (B q) := fun q q1 q2 q3 => ha _ (by rw [ne_eq, hB]; exact q1) (by rw [ne_eq, hB]; exact q2) (by rw [ne_eq, hB]; exact q3)
  have ej : ∀ q, q ≠ 3 → aJ S2' (B q) = aJ S2 (B q) := fun q q1 => hj _ (by rw [ne_eq, hB]; exact q1)
  exact ⟨a1.congr hr (e 5 (by decide) (by decide) (by decide)) (e 6 (by decide) (by decide) (by decide)) (ej 4 (by decide)) (ej 7 (by decide)), ⟨by rw [e 11 (by decide) (by decide) (by decide)]; exact a2, by rw [e 11 (by decide) (by decide) (by decide)]; exact a3⟩, ⟨by rw [e 11 (by decide) (by decide) (by decide)]; exact s1, s2, by rw [e 11 (by decide) (by decide) (by decide)]; exact s3⟩, ⟨by rw [hg 1218 _ (by omega)]; exact u1, u2, by rw [e 11 (by decide) (by decide) (by decide)]; exact u3⟩, by rw [e 11 (by decide) (by decide) (by decide), e 12 (by decide) (by decide) (by decide)]; exact a5, a6.congr (fun i _ => ⟨by rw [ej 13 (by decide)], by rw [ej 14 (by decide)]⟩), h1, h2⟩
/- the lines are copied -/
theorem y_planCopy (r14 : ∀ S3 : HS, S3.2.2.1 = S2.2.2.1 → gR S3 1214 m = some (B 8)) (n8 : N2 (B 8) = 310) {L : Nat} (hL : L ≤ 30) : ∀ (d k M : Nat) (S : HS), k + d = 5 * L → d < M → S.2.2.1 = S2.2.2.1 →
    ∃ S', s_X12_plan_L118 N2 F M m (ii L) (ii k) S = some (0, S') ∧ S'.1 = S.1 ∧ S'.2.1 = S.2.1 ∧ S'.2.2.1 = S.2.2.1 ∧ S'.2.2.2.2 = S.2.2.2.2 ∧ (∀ p, p ≠ B 8 → aI S' p = aI S p) ∧ ∀ o, aI S' (B 8) o = if 1 + k ≤ o ∧ o < 1 + 5 * L then aI S (B 8) (154 + o) else aI S (B 8) o := by
  intro d
  induction d with
  | zero =>
    intro k M S hk hM hr
    obtain ⟨M, rfl⟩ : ∃ w, M = w + 1 := ⟨M - 1, by omega⟩
    have e5 : (5 : Int32) * ii (L : Int) = ii ((5 * L : Nat) : Int) := by rw [show (5 : Int32) = ii 5 from rfl, ii_mul]; congr 1
    unfold s_X12_plan_L118
    rw [e5, if_pos (by rw [ii_le (by omega) (by omega) (by omega) (by omega)]; omega)]
    exact ⟨S, rfl, rfl, rfl, rfl, rfl, fun _ _ => rfl, fun o => by rw [if_neg (by omega)]⟩
  | succ d ih =>
    intro k M S hk hM hr
    obtain ⟨M, rfl⟩ : ∃ w, M = w + 1 := ⟨M - 1, by omega⟩
    have e5 : (5 : Int32) * ii (L : Int) = ii ((5 * L : Nat) : Int) := by rw [show (5 : Int32) = ii 5 from rfl, ii_mul]; congr 1
    have e1 : (155 : Int32) + ii (k : Int) = ii ((155 + k : Nat) : Int) := by rw [show (155 : Int32) = ii 155 from rfl, ii_add]; congr 1
    have e2 : (1 : Int32) + ii (k : Int) = ii ((1 + k : Nat) : Int) := by rw [k1, ii_add]; congr 1
    have e3 : ii (k : Int) + Int32.ofInt 1 = ii ((k + 1 : Nat) : Int) := by rw [show Int32.ofInt 1 = ii 1 from rfl, ii_add]; rfl
    have i1 : inB (ii ((155 + k : Nat) : Int)) (N2 (B 8)) = true := by rw [n8]; exact in_of (z := 155 + k) rfl (by omega) (by decide)
    have i2 : inB (ii ((1 + k : Nat) : Int)) (N2 (B 8)) = true := by rw [n8]; exact in_of (z := 1 + k) rfl (by omega) (by decide)
    obtain ⟨S', s1, s2, s3, s4, s5, s6, s7⟩ := ih (k + 1) M (wI S (B 8) (1 + k) (aI S (B 8) (155 + k))) (by omega) (by omega) hr
    have hr14 := r14 S hr
    unfold s_X12_plan_L118
    rw [e5, if_neg (by rw [ii_le (by omega) (by omega) (by omega) (by omega)]; omega), hr14, bd1_some, bd1_some, e1, e2, if_pos i1, if_pos i2, cl_of (z := 155 + k) rfl (by omega), cl_of (z := 1 + k) rfl (by omega), bnd_def, bnd_def, e3]
    refine ⟨S', s1, s2, s3, s4, s5, fun p hp => by rw [s6 p hp, aI_wI_o _ _ _ _ hp], fun o => ?_⟩
    rw [s7 o, aI_wI_s]
    show (if 1 + (k + 1) ≤ o ∧ o < 1 + 5 * L then (if 154 + o = 1 + k then aI S (B 8) (155 + k) else aI S (B 8) (154 + o)) else (if o = 1 + k then aI S (B 8) (155 + k) else aI S (B 8) o)) = _
    by_cases q : 1 + (k + 1) ≤ o ∧ o < 1 + 5 * L
    · rw [if_pos q, if_neg (show ¬ 154 + o = 1 + k by omega), if_pos (by omega)]
    · rw [if_neg q]
      by_cases q2 : o = 1 + k
      · rw [if_pos q2, if_pos (by omega), q2]; congr 1; omega
      · rw [if_neg q2, if_neg (by omega)]
end RXPL
end
section
theorem fresh_ex (l : List Nat) : ∃ q, q ∉ l := by
  have : ∃ q, ∀ p, p ∈ l → p < q := by
    induction l with
    | nil => exact ⟨0, fun p h => by cases h⟩
    | cons a r ih =>
      obtain ⟨q, hq⟩ := ih
      refine ⟨max q (a + 1), fun p h => ?_⟩
      rcases List.mem_cons.mp h with e | e
      · subst e; omega
      · have := hq p e; omega
  obtain ⟨q, hq⟩ := this
  exact ⟨q, fun h => by have := hq q h; omega⟩
/- how an operation ends that makes objects -/
def JW (N2 : Nat → Nat) (x m : Nat) (A B : Nat → Nat) (n : Nat) (W : (Int32 → GS → HS → Prop) → Prop) (M : Option (Int32 × HS)) : Prop :=
  ∃ v S2', M = some (v, S2') ∧ ∀ P : Int32 → GS → HS → Prop, (∀ G' S' b' c' nx' T', RX G'.2.2 S' x A b' c' nx' T' → RY N2 S2' m B T' → TOK (n + 1) T' → nx' ≤ n + 1 → P v G' S') → W P
section JPLAN
variable {N2 : Nat → Nat} {F : Nat} {G : GS} {S S2 : HS} {x m : Nat} {A B : Nat → Nat} {b c nx n : Nat} {T : TT}
/- what the class's reader starts from -/
theorem x_text {N : Nat → Nat} (hX : RX N S x A b c nx T) (hT : TOK n T) : TPE N S (A 0) (A 1) (tT T) :=
  ⟨hX.1.2.2.1.1.2.1, hX.1.2.1.1.1, hX.2.2.1.1, hT.2.2.2.1.1, hT.2.2.2.1.2.1, hX.2.2.1.2⟩
theorem x_named {N : Nat → Nat} (hX : RX N S x A b c nx T) (hT : TOK n T) : NMX N S (A (23 + 4 * b)) 903 901 4 (vA (tU T)) (vN (tU T)) ∧ NMX N S (A (23 + 4 * b)) 904 902 6 (vB (tU T)) (vR (tU T)) := by
  obtain ⟨w1, w2, w3, ⟨u1, u2, u3, u4, u5, u6, u7, u8, u9⟩, w5⟩ := hX.1
  obtain ⟨n1, n2, n3, n4⟩ := hT.2.2.2.1.2.2
  obtain ⟨r1, r2, r3⟩ := w3.2.2.2.2.2.2.1 b u1
  obtain ⟨l1, l2, l3⟩ := w2.2.2.2.1 b u1
  exact ⟨⟨u4, w5.1, ⟨_, r2, l2, u8⟩, n1, n3⟩, ⟨u5, w5.2.1, ⟨_, r3, l3, u9⟩, n2, n4⟩⟩
theorem y_named (hM : RY N2 S2 m B T) (hT : TOK n T) : NMY S2 B (vA (tU T)) 0 (vN (tU T)) ∧ NMY S2 B (vB (tU T)) 4 (vR (tU T)) ∧ aI S2 (B 5) 0 = ii (vN (tU T)) ∧ aI S2 (B 5) 1 = ii (vR (tU T)) := by
  obtain ⟨w1, w2, w3, ⟨u1, u2, u3, u4, u5, u6⟩, w5⟩ := hM.1
  obtain ⟨n1, n2, n3, n4⟩ := hT.2.2.2.1.2.2
  have := w5.1
  have := w5.2.1
  exact ⟨⟨fun j hj => by rw [Nat.zero_add]; exact u5 j hj, n1, by omega⟩, ⟨fun j hj => u6 j hj, n2, by omega⟩, u1, u2⟩
theorem j_plan1 (hF : 3000 ≤ F) (hX : RX G.2.2 S x A b c nx T) (hW : WT G S) (hx : x ∈ G.1) (hk : G.2.1 x = 11) (hM : RY N2 S2 m B T) (hT : TOK n T) (hnx : nx ≤ n) {q : Nat} (hq : q ∉ G.1) {S8 : HS} (hS8 : S8 = s_X6_init q (A 0) (A (23 + 4 * b)) (A (31 + 2 * (1 - c))) (zap q (uI S 501 (A (31 + 2 * (1 - c))) 0))) :
    ∃ v S2', s_X12_plan N2 F m S2 = some (v, S2') ∧ ∃ (S9 : HS) (pl : List LN) (f : Nat), s_X6_readAll (pushG G q 6 0).2.2 F q S8 = some S9 ∧ RY N2 S2' m B (tPl T (if f = 0 then pl else tP T) []) ∧ pl.length ≤ 30 ∧ (f = 0 → ∀ l, l ∈ pl → LNok (tU T) l) ∧ v = ii f ∧ f < 100000 ∧ gI S9 807 (A 0) = ii f ∧
      (∀ f p, p ∈ G.1 → ¬ (p = A 0 ∧ 802 ≤ f ∧ f ≤ 807) → ¬ (p = A (31 + 2 * (1 - c)) ∧ f = 501) → gI S9 f p = gI S f p) ∧ (∀ f p, p ∈ G.1 → gR S9 f p = gR S f p) ∧ (∀ p, p ∈ G.1 → p ≠ A (32 + 2 * (1 - c)) → aI S9 p = aI S p) ∧ (∀ p, p ∈ G.1 → aJ S9 p = aJ S p ∧ aR S9 p = aR S p) ∧
      gI S9 501 (A (31 + 2 * (1 - c))) = ii pl.length ∧ (f = 0 → ∀ (k : Nat) (l : LN), pl[k]? = some l → XLN (aI S9 (A (32 + 2 * (1 - c)))) (5 * k) l) := by
  have hin := hX.in hW hx hk
  have hA := hX.1.1
  have hB := hM.1.1
  have hc := hX.2.2.2.1.1
  have hlen := hT.2.2.2.1.1
  have hok := hT.2.2.2.1.2.1
  have hne : ∀ p, p ∈ G.1 → p ≠ q := fun p hp e => hq (e ▸ hp)
  generalize hfr : A (31 + 2 * (1 - c)) = fr at *
  generalize hfw : A (32 + 2 * (1 - c)) = fw at *
  have ifr : fr ∈ G.1 := by rw [← hfr]; exact hin _ (iu_38 (by omega))
  have ifw : fw ∈ G.1 := by rw [← hfw]; exact hin _ (iu_38 (by omega))
  have i0 : A 0 ∈ G.1 := hin 0 (by decide)
  have i1 : A 1 ∈ G.1 := hin 1 (by decide)
  have eI : ∀ f p, p ∈ G.1 → ¬ (p = fr ∧ f = 501) → gI S8 f p = gI S f p := by
    intro f p hp h5
    rw [hS8]
    show gI (zap q (uI S 501 fr 0)) f p = _
    rw [gI_zap, if_neg (hne p hp), gI_uI, if_neg (fun r => h5 ⟨r.2, r.1⟩)]
  have eR : ∀ f p, p ∈ G.1 → gR S8 f p = gR S f p := by
    intro f p hp
    rw [hS8]
    unfold s_X6_init
    simp only [bnd_def]
    rw [gR_uR, if_neg (fun r => hne p hp r.2), gR_uR, if_neg (fun r => hne p hp r.2), gR_uR, if_neg (fun r => hne p hp r.2), gR_zap, if_neg (hne p hp)]; rfl
  have eA : ∀ p, p ∈ G.1 → aI S8 p = aI S p ∧ aJ S8 p = aJ S p ∧ aR S8 p = aR S p := by
    intro p hp
    rw [hS8]
    refine ⟨?_, ?_, ?_⟩
    · show aI (zap q (uI S 501 fr 0)) p = _
      funext j; rw [aI_zap, if_neg (hne p hp)]; rfl
    · show aJ (zap q (uI S 501 fr 0)) p = _
      funext j; rw [aJ_zap, if_neg (hne p hp)]; rfl
    · show aR (zap q (uI S 501 fr 0)) p = _
      funext j; rw [aR_zap, if_neg (hne p hp)]; rfl
  have eN : ∀ p, p ∈ G.1 → (pushG G q 6 0).2.2 p = G.2.2 p := fun p hp => pushG_o _ _ _ _ (hne p hp)
  have q6 : gR S8 600 q = some (A 0) ∧ gR S8 601 q = some (A (23 + 4 * b)) ∧ gR S8 602 q = some fr := by
    rw [hS8]
    unfold s_X6_init
    simp only [bnd_def]
    refine ⟨?_, ?_, ?_⟩
    · rw [gR_uR, if_neg (by omega), gR_uR, if_neg (by omega), gR_uR, if_pos ⟨rfl, rfl⟩]
    · rw [gR_uR, if_neg (by omega), gR_uR, if_pos ⟨rfl, rfl⟩]
    · rw [gR_uR, if_pos ⟨rfl, rfl⟩]
  have g5 : gI S8 501 fr = ii ((0 : Nat) : Int) := by
    rw [hS8]
    show gI (zap q (uI S 501 fr 0)) 501 fr = _
    rw [gI_zap, if_neg (hne fr ifr), gI_uI, if_pos ⟨rfl, rfl⟩]; rfl
  have f01 : A 0 ≠ fr := by rw [← hfr, ne_eq, hA]; omega
  -- the class's text and names
  have tx := x_text hX hT
  have tx8 : TPE (pushG G q 6 0).2.2 S8 (A 0) (A 1) (tT T) := by
    obtain ⟨t1, t2, t3, t4, t5, t6⟩ := tx
    exact ⟨by rw [eR _ _ i0]; exact t1, by rw [eN _ i1]; exact t2, by rw [eI _ _ i0 (fun r => f01 r.1)]; exact t3, t4, t5, by rw [(eA _ i1).1]; exact t6⟩
  have nmx : ∀ (fc fq mo k : Nat) (nm : Nat → List Nat), (fq = 901 ∨ fq = 902) → fc ≠ 501 → NMX G.2.2 S (A (23 + 4 * b)) fc fq mo nm k → NMX (pushG G q 6 0).2.2 S8 (A (23 + 4 * b)) fc fq mo nm k := by
    intro fc fq mo k nm hfq hfc h
    obtain ⟨h1, h2, ⟨ra, h3, h4, h5⟩, h6, h7⟩ := h
    have hb := hX.1.2.2.2.1.1
    have iu : A (23 + 4 * b) ∈ G.1 := hin _ (iu_38 (by omega))
    obtain ⟨r1, r2, r3⟩ := hX.1.2.2.1.2.2.2.2.2.2.1 b hb
    have ira : ra ∈ G.1 := by
      rcases hfq with e | e
      · subst e
        have : some ra = some (A (25 + 4 * b)) := h3.symm.trans r2
        injection this with this
        rw [this]; exact hin _ (iu_38 (by omega))
      · subst e
        have : some ra = some (A (26 + 4 * b)) := h3.symm.trans r3
        injection this with this
        rw [this]; exact hin _ (iu_38 (by omega))
    exact ⟨by rw [eI _ _ iu (fun r => hfc r.2)]; exact h1, h2, ⟨ra, by rw [eR _ _ iu]; exact h3, by rw [eN _ ira]; exact h4, by rw [(eA _ ira).2.1]; exact h5⟩, h6, h7⟩
  obtain ⟨nx1, nx2⟩ := x_named hX hT
  have nx1' := nmx 903 901 4 _ _ (Or.inl rfl) (by decide) nx1
  have nx2' := nmx 904 902 6 _ _ (Or.inr rfl) (by decide) nx2
  -- the model's tokens
  have hL1 : YLAY N2 (uI S2 1200 m 0).2.2.1 m B := hM.1.2.1
  have hT1 : YTP (uI S2 1200 m 0) m B (tT T) := ⟨by rw [gI_uI, if_neg (by omega)]; exact hM.2.2.2.2.2.2.1.1, hM.2.2.2.2.2.2.1.2⟩
  obtain ⟨nn, S2c, c1, c2, c3, c4, c5, c6, c7, c8⟩ := y_cutAll (F := F) hF hB hL1 hT1 hlen hok
  have cJ : ∀ k, k ≠ 3 → aJ S2c (B k) = aJ S2 (B k) := fun k hk => c8 _ (by rw [ne_eq, hB]; exact hk)
  have cI : ∀ k, k ≠ 1 → k ≠ 2 → aI S2c (B k) = aI S2 (B k) := fun k h1 h2 => c7 _ (by rw [ne_eq, hB]; exact h1) (by rw [ne_eq, hB]; exact h2)
  have hLc : YLAY N2 S2c.2.2.1 m B := by rw [c6]; exact hL1
  have hwc : WR S2c B := fun i v h => by rw [cJ 4 (by decide)]; exact hM.1.2.2.1 i v h
  obtain ⟨ny1, ny2, ny3, ny4⟩ := y_named hM hT
  -- begin
  obtain ⟨S9, s1, s2, s3⟩ := x_begin (F := F) hF tx8
  have hJR : JR (pushG G q 6 0).2.2 N2 (A 0) (A 1) m B (tT T) nn S9 S2c 0 0 := ⟨tx8.rb s2, ⟨0, s3, fun _ => rfl⟩, hLc, hwc, c2, by omega⟩
  have hw : gR S8 500 fr = some fw := by
    rw [eR _ _ ifr, ← hfr, ← hfw]
    exact hX.1.2.2.1.2.2.2.2.2.2.2 (1 - c) (by omega)
  have nw : (pushG G q 6 0).2.2 fw = 150 := by
    rw [eN _ ifw, ← hfw]
    exact hX.1.2.1.2.2.2.2 (1 - c) (by omega)
  have hPU8 : PU (pushG G q 6 0).2.2 N2 S8 S2c q (A 0) (A (23 + 4 * b)) fr fw (A 1) m B (tU T) :=
    ⟨⟨q6.1, q6.2.1, q6.2.2, hw, nw, by rw [← hfw, ne_eq, hA]; omega, fun e => f01 e.symm⟩, ⟨nx1', nx2'⟩, ⟨⟨by rw [cJ 7 (by decide)]; exact ny1.1, ny1.2⟩, ⟨by rw [cJ 7 (by decide)]; exact ny2.1, ny2.2⟩⟩, ⟨by rw [cI 5 (by decide) (by decide)]; exact ny3, by rw [cI 5 (by decide) (by decide)]; exact ny4⟩, hB, hLc⟩
  have p8 := s2.px fw 0
  have hPU := hPU8.mono p8 (PFY.refl m (B 8) 155 S2c)
  have g59 : gI S9 501 fr = ii ((0 : Nat) : Int) := by rw [s2.1 501 fr (by omega)]; exact g5
  obtain ⟨S10, S2d, i', f', pl, t1, t2, t3, t4, t5, t6, t7, t8, t9⟩ := t_planLoop (F := F) hF (s_X12_plan_J97 N2 F) nn 0 F F S9 S2c 0 0 [] (fun _ => by omega) (by have := c2.1; omega) (by have := c2.1; omega) (by omega) (fun _ => by omega) hJR hPU g59 (by show 0 ≤ 30; omega) (fun _ k l h => by cases h)
  have t1' : s_X6_readAll_L9 (pushG G q 6 0).2.2 F F q 0 S9 = some S10 := t1
  have t2' : s_X12_plan_L11 N2 F (s_X12_plan_J97 N2 F) F m 0 S2c = s_X12_plan_J97 N2 F m (ii pl.length) S2d := t2
  have hxr : s_X6_readAll (pushG G q 6 0).2.2 F q S8 = some S10 := by
    unfold s_X6_readAll
    rw [q6.1, bd1_some, s1, bd1_some, t1']
  have hfx : gI S10 807 (A 0) = ii f' := xr_fault t5.2.1
  have hfb := t5.2.2.2.2.2
  have hmod : s_X12_plan N2 F m S2 = s_X12_plan_J97 N2 F m (ii pl.length) S2d := by
    unfold s_X12_plan
    rw [bnd_def, c1, bd1_some, t2']
  have fI : ∀ f p, p ∈ G.1 → ¬ (p = A 0 ∧ 802 ≤ f ∧ f ≤ 807) → ¬ (p = fr ∧ f = 501) → gI S10 f p = gI S f p := by
    intro f p hp h1 h2
    rw [t3.1 f p h1 h2, s2.1 f p h1, eI f p hp h2]
  have e9 : S9.2.2 = S8.2.2 := s2.2
  have fR : ∀ f p, p ∈ G.1 → gR S10 f p = gR S f p := by
    intro f p hp
    rw [gR_of t3.2.1, ← eR f p hp]; unfold gR; rw [e9]
  have fA : ∀ p, p ∈ G.1 → p ≠ fw → aI S10 p = aI S p := by
    intro p hp hne'
    rw [t3.2.2.1 p hne', ← (eA p hp).1]; unfold aI; rw [e9]
  have fJ : ∀ p, p ∈ G.1 → aJ S10 p = aJ S p ∧ aR S10 p = aR S p := by
    intro p hp
    rw [aJ_of t3.2.2.2.2, aR_of t3.2.2.2.2, ← (eA p hp).2.1, ← (eA p hp).2.2]
    unfold aJ aR; rw [e9]; exact ⟨rfl, rfl⟩
  -- the model's end
  have mg : ∀ f p, ¬ (p = m ∧ (f = 1200 ∨ f = 1202 ∨ f = 1203 ∨ f = 1207 ∨ f = 1208)) → gI S2d f p = gI S2 f p := by
    intro f p h
    rw [t4.1 f p (by omega), c4 f p (by omega), gI_uI, if_neg (by omega)]
  have mr : S2d.2.2.1 = S2.2.2.1 := by rw [t4.2.2.1, c6]; rfl
  have ma : ∀ p, p ≠ B 1 → p ≠ B 2 → p ≠ B 8 → aI S2d p = aI S2 p := by
    intro p p1 p2 p8
    rw [t4.2.2.2.1 p p8, c7 p p1 p2]; rfl
  have mj : ∀ p, p ≠ B 3 → aJ S2d p = aJ S2 p := by
    intro p p3
    rw [aJ_of t4.2.2.2.2.2, c8 p p3]; rfl
  have mt : gI S2d 1202 m = ii (([] : List Nat).length : Int) := by rw [t4.1 1202 m (by omega), c3]; rfl
  have hy8 := t5.yf.1
  by_cases w : f' = 0
  · -- all lines are right
    have r14 : ∀ S3 : HS, S3.2.2.1 = S2d.2.2.1 → gR S3 1214 m = some (B 8) := fun S3 h3 => by rw [gR_of h3]; exact t6.2.2.2.2.2.2.1.1
    have n8 : N2 (B 8) = 310 := t6.2.2.2.2.2.2.2.2.1
    have cl0 : (0 : Int32).toNatClampNeg = 0 := by decide
    obtain ⟨S2e, u1, u2, u3, u4, u5, u6, u7⟩ := y_planCopy (F := F) (N2 := N2) r14 n8 t8 (5 * pl.length) 0 F (wI S2d (B 8) 0 (ii pl.length)) (by omega) (by omega) rfl
    have u1' : s_X12_plan_L118 N2 F F m (ii pl.length) 0 (wI S2d (B 8) 0 (ii pl.length)) = some (0, S2e) := u1
    have hout : s_X12_plan N2 F m S2 = some (0, S2e) := by
      rw [hmod]
      unfold s_X12_plan_J97
      rw [hy8, w, if_pos (show (ii ((0 : Nat) : Int) ≤ (0 : Int32)) by decide), r14 S2d rfl, bd1_some, if_pos (show inB (0 : Int32) (N2 (B 8)) = true by rw [n8]; decide), bnd_def, cl0, u1']
    have ypl : YPL S2e B pl := by
      refine ⟨?_, fun k l hk => ?_⟩
      · rw [u7 0, if_neg (by omega), aI_wI_s]; show (if 0 = 0 then ii (pl.length : Int) else _) = _; rw [if_pos rfl]
      · have hk2 := (List.getElem?_eq_some_iff.mp hk).1
        have hx := (t9 w k l hk).2.2
        unfold XLN at *
        have ee : ∀ j, j < 5 → aI S2e (B 8) (1 + 5 * k + j) = aI S2d (B 8) (155 + 5 * k + j) := by
          intro j hj
          rw [u7, if_pos (by omega), aI_wI_s]
          show (if 154 + (1 + 5 * k + j) = 0 then _ else aI S2d (B 8) (154 + (1 + 5 * k + j))) = _
          rw [if_neg (by omega), show 154 + (1 + 5 * k + j) = 155 + 5 * k + j by omega]
        have e0 : aI S2e (B 8) (1 + 5 * k) = aI S2d (B 8) (155 + 5 * k) := ee 0 (by omega)
        rw [e0, ee 1 (by omega), ee 2 (by omega), ee 3 (by omega), ee 4 (by omega)]; exact hx
    have ry : RY N2 S2e m B (tPl T pl []) := by
      refine hM.pl (fun f p h => ?_) ?_ (fun p p1 p2 p8 => ?_) (fun p p3 => ?_) ⟨?_, fun i c h => by cases h⟩ ypl
      · have : gI S2e f p = gI S2d f p := by unfold gI; rw [u2]; rfl
        rw [this]; exact mg f p h
      · rw [u4]; exact mr
      · rw [u6 p p8, aI_wI_o _ _ _ _ p8]; exact ma p p1 p2 p8
      · rw [aJ_of u5]; exact mj p p3
      · have : gI S2e 1202 m = gI S2d 1202 m := by unfold gI; rw [u2]; rfl
        rw [this]; exact mt
    refine ⟨0, S2e, hout, S10, pl, f', hxr, by rw [if_pos w]; exact ry, t8, fun _ l hl => ?_, by rw [w]; rfl, hfb, hfx, fI, fR, fA, fJ, t7, fun _ k l hk => (t9 w k l hk).2.1⟩
    obtain ⟨k, hk⟩ := List.mem_iff_getElem?.mp hl
    exact (t9 w k l hk).1
  · have hout : s_X12_plan N2 F m S2 = some (ii f', S2d) := by
      rw [hmod]
      unfold s_X12_plan_J97
      rw [hy8]
      simp only [(c_f0 t5).2]
      rw [if_neg w]
    have ry : RY N2 S2d m B (tPl T (tP T) []) := by
      refine hM.pl mg mr ma mj ⟨mt, fun i c h => by cases h⟩ ⟨?_, fun k l hk => ?_⟩
      · rw [t4.2.2.2.2.1 0 (by omega), cI 8 (by decide) (by decide)]; exact hM.2.2.2.2.2.2.2.1
      · have hk2 := (List.getElem?_eq_some_iff.mp hk).1
        have hp30 := hT.2.2.1.1
        refine (hM.2.2.2.2.2.2.2.2 k l hk).congr (fun o o1 o2 => ?_)
        rw [t4.2.2.2.2.1 o (by omega), cI 8 (by decide) (by decide)]
    exact ⟨ii f', S2d, hout, S10, pl, f', hxr, by rw [if_neg w]; exact ry, t8, fun q => absurd q w, rfl, hfb, hfx, fI, fR, fA, fJ, t7, fun q => absurd q w⟩
end JPLAN
end
section
section JPLAN2
variable {N2 : Nat → Nat} {F : Nat} {G : GS} {S S2 : HS} {x m : Nat} {A B : Nat → Nat} {b c nx n : Nat} {T : TT}
theorem TOK.pl (hT : TOK n T) {pl : List LN} (h1 : pl.length ≤ 30) (h2 : ∀ l, l ∈ pl → LNok (tU T) l) : TOK (n + 1) (tPl T pl []) := by
  obtain ⟨t1, t2, t3, t4, t5, t6, t7, t8, t9, t10⟩ := hT
  exact ⟨t1, t2, ⟨h1, h2⟩, ⟨by show 0 ≤ 1000; omega, (fun c hc => by cases hc), t4.2.2⟩, t5, t6, t7, t8, Nat.le_succ_of_le t9, t10⟩
theorem x_kinds {N : Nat → Nat} (hX : RX N S x A b c nx T) (hW : WT G S) (hx : x ∈ G.1) (hk : G.2.1 x = 11) : x ≠ A 0 ∧ (∀ d, d < 2 → x ≠ A (31 + 2 * d)) ∧ (∀ d, d < 2 → x ≠ A (23 + 4 * d)) := by
  have h0 := hW.1 x hx 1100 _ (by rw [hk]) hX.1.2.2.1.1.1
  have hb := hX.1.2.2.2.1.1
  have hc := hX.2.2.2.1.1
  have hp1 := hW.1 x hx 1113 _ (by rw [hk]) hX.2.2.2.1.2.1
  have hp2 := hW.1 x hx 1114 _ (by rw [hk]) hX.2.2.2.1.2.2.1
  have hu1 := hW.1 x hx 1111 _ (by rw [hk]) hX.1.2.2.2.1.2.1
  have hu2 := hW.1 x hx 1112 _ (by rw [hk]) hX.1.2.2.2.1.2.2.1
  have r0 : rk 1100 = 8 := rfl
  have r1 : rk 1113 = 5 := rfl
  have r2 : rk 1114 = 5 := rfl
  have r3 : rk 1111 = 9 := rfl
  have r4 : rk 1112 = 9 := rfl
  refine ⟨fun e => ?_, fun d hd e => ?_, fun d hd e => ?_⟩
  · rw [← e, hk, r0] at h0; exact absurd h0.2 (by decide)
  · by_cases w : d = c
    · subst w; rw [← e, hk, r1] at hp1; exact absurd hp1.2 (by decide)
    · have : 1 - c = d := by omega
      rw [this, ← e, hk, r2] at hp2; exact absurd hp2.2 (by decide)
  · by_cases w : d = b
    · subst w; rw [← e, hk, r3] at hu1; exact absurd hu1.2 (by decide)
    · have : 1 - b = d := by omega
      rw [this, ← e, hk, r4] at hu2; exact absurd hu2.2 (by decide)
theorem j_plan (hF : 3000 ≤ F) (hX : RX G.2.2 S x A b c nx T) (hW : WT G S) (hx : x ∈ G.1) (hk : G.2.1 x = 11) (hM : RY N2 S2 m B T) (hT : TOK n T) (hnx : nx ≤ n) : JW N2 x m A B n (w_X11_plan F x G S) (s_X12_plan N2 F m S2) := by
  obtain ⟨q0, hq0⟩ := fresh_ex G.1
  obtain ⟨v, S2', hm, _⟩ := j_plan1 (F := F) hF hX hW hx hk hM hT hnx hq0 rfl
  refine ⟨v, S2', hm, fun P hP => ?_⟩
  have hA := hX.1.1
  have hc := hX.2.2.2.1.1
  have hb := hX.1.2.2.2.1.1
  have hin := hX.in hW hx hk
  have hfin := hX.fin hW hx hk
  obtain ⟨kx0, kxp, kxu⟩ := x_kinds hX hW hx hk
  unfold w_X11_plan
  simp only [bnd_def]
  refine ⟨A (31 + 2 * (1 - c)), hX.2.2.2.1.2.2.1, ?_⟩
  intro q hq
  have hne : ∀ p, p ∈ G.1 → p ≠ q := fun p hp e => hq (e ▸ hp)
  have z1 : ∀ f, gR (zap q (uI S 501 (A (31 + 2 * (1 - c))) 0)) f x = gR S f x := fun f => by rw [gR_zap, if_neg (hne x hx)]; rfl
  refine ⟨A 0, (z1 1100).trans hX.1.2.2.1.1.1, A (23 + 4 * b), (z1 1111).trans hX.1.2.2.2.1.2.1, ?_⟩
  obtain ⟨v', S2'', hm', S9, pl, f, r1, ry, hpl, hln, hv, hf, h807, fI, fR, fA, fJ, f501, fW⟩ := j_plan1 (F := F) hF hX hW hx hk hM hT hnx hq rfl
  have e := hm.symm.trans hm'
  injection e with e
  have e1 : v = v' := (Prod.mk.inj e).1
  have e2 : S2' = S2'' := (Prod.mk.inj e).2
  subst e1; subst e2
  have i0 : A 0 ∈ G.1 := hin 0 (by decide)
  have g1100 : gR S9 1100 x = some (A 0) := (fR 1100 x hx).trans hX.1.2.2.1.1.1
  refine ⟨S9, r1, A 0, g1100, ?_⟩
  unfold s_X8_empty
  simp only [bnd_def]
  refine ⟨A 0, g1100, ?_⟩
  have g807 : gI (uI S9 801 (A 0) 0) 807 (A 0) = ii f := by rw [gI_uI, if_neg (by omega)]; exact h807
  have c0 : (ii (f : Int) = (0 : Int32)) = (f = 0) := by rw [k0, ii_eq (by omega) (by omega) (by omega) (by omega)]; apply propext; omega
  simp only [g807, c0]
  -- what stays of the class
  have sI : ∀ (i f : Nat), iuB i = true → ¬ (i = 0 ∧ 801 ≤ f ∧ f ≤ 807) → f ≠ 501 → gI (uI S9 801 (A 0) 0) f (A i) = gI S f (A i) := by
    intro i f hi h1 h2
    rw [gI_uI, if_neg (fun r => h1 ⟨(hA _ _).mp r.2, by omega⟩)]
    exact fI f _ (hin i hi) (fun r => h1 ⟨(hA _ _).mp r.1, by omega⟩) (fun r => h2 r.2)
  have sI2 : ∀ f, gI (uI S9 801 (A 0) 0) f x = gI S f x := by
    intro f
    rw [gI_uI, if_neg (fun r => kx0 r.2)]
    exact fI f x hx (fun r => kx0 r.1) (fun r => kxp (1 - c) (by omega) r.1)
  have sA : ∀ i, iuB i = true → i ≠ 32 + 2 * (1 - c) → aI S9 (A i) = aI S (A i) := fun i hi h1 => fA _ (hin i hi) (by rw [ne_eq, hA]; exact h1)
  have sF : ∀ f p, f < vN (tU T) → aR S (A (24 + 4 * b)) f = some p → ∀ g, gI (uI S9 801 (A 0) 0) g p = gI S g p := by
    intro f p _ hp g
    have ip := hfin f p hp
    -- a form is no tape and no plan
    have u := hW.1 x hx 1111 _ (by rw [hk]) hX.1.2.2.2.1.2.1
    have r := hW.1 _ u.1 900 _ (by rw [u.2]; rfl) (hX.1.2.2.1.2.2.2.2.2.2.1 b hb).1
    have kp : G.2.1 p = 2 := (hW.2.1 _ r.1 f p (by rw [r.2]; rfl) hp).2
    have n0 : p ≠ A 0 := fun e => by
      have h0 := hW.1 x hx 1100 _ (by rw [hk]) hX.1.2.2.1.1.1
      rw [← e, kp] at h0; exact absurd h0.2 (by decide)
    have n1 : p ≠ A (31 + 2 * (1 - c)) := fun e => by
      have h0 := hW.1 x hx 1114 _ (by rw [hk]) hX.2.2.2.1.2.2.1
      rw [← e, kp] at h0; exact absurd h0.2 (by decide)
    rw [gI_uI, if_neg (fun r => n0 r.2)]
    exact fI g p ip (fun r => n0 r.1) (fun r => n1 r.1)
  have eN : ∀ i, iuB i = true → (pushG G q 6 0).2.2 (A i) = G.2.2 (A i) := fun i hi => pushG_o _ _ _ _ (hne _ (hin i hi))
  have tp0 : XTP (uI S9 801 (A 0) 0) A [] := ⟨by rw [gI_uI, if_pos ⟨rfl, rfl⟩]; rfl, fun i c h => by cases h⟩
  by_cases w : f = 0
  · rw [if_pos w]
    have g1113 : gR (uI S9 801 (A 0) 0) 1113 x = some (A (31 + 2 * c)) := (fR 1113 x hx).trans hX.2.2.2.1.2.1
    refine ⟨A (31 + 2 * c), g1113, ?_⟩
    rw [if_pos w] at ry
    have hv0 : v = 0 := by rw [hv, w]; rfl
    have fin := hP (pushG G q 6 0) (uR (uR (uI S9 801 (A 0) 0) 1114 x (some (A (31 + 2 * c)))) 1113 x (some (A (31 + 2 * (1 - c))))) b (1 - c) nx (tPl T pl []) ?_ ry (hT.pl hpl (hln w)) (by omega)
    · rw [hv0] at fin; exact fin
    have hr : ∀ f p, ¬ (p = x ∧ (f = 1113 ∨ f = 1114)) → gR (uR (uR (uI S9 801 (A 0) 0) 1114 x (some (A (31 + 2 * c)))) 1113 x (some (A (31 + 2 * (1 - c))))) f p = gR S9 f p := by
      intro f p h
      rw [gR_uR, if_neg (fun r => h ⟨r.2, Or.inl r.1⟩), gR_uR, if_neg (fun r => h ⟨r.2, Or.inr r.1⟩)]; rfl
    refine RX.pl (S' := uR (uR (uI S9 801 (A 0) 0) 1114 x (some (A (31 + 2 * c)))) 1113 x (some (A (31 + 2 * (1 - c))))) (c' := 1 - c) (pl' := pl) (tp' := []) hX (fun i f hi h1 h2 _ => sI i f hi h1 h2) sI2 (fun i f hi => ?_) (fun f h1 h2 => ?_) (fun i hi h1 h2 => sA i hi (by omega)) (fun i hi _ _ => (fJ _ (hin i hi)).1) (fun i hi _ => (fJ _ (hin i hi)).2) eN sF tp0 ⟨by omega, ?_, ?_, ?_, ?_⟩
    · have ex : A i ≠ x := fun e => (hX.lay hW hx hk i hi).2 (by rw [e]; exact hk)
      rw [hr f _ (fun r => ex r.1)]; exact fR f _ (hin i hi)
    · rw [hr f x (fun r => by omega)]; exact fR f x hx
    · rw [gR_uR, if_pos ⟨rfl, rfl⟩]
    · rw [gR_uR, if_neg (by omega), gR_uR, if_pos ⟨rfl, rfl⟩]
      have : 1 - (1 - c) = c := by omega
      rw [this]
    · show gI (uI S9 801 (A 0) 0) 501 (A (31 + 2 * (1 - c))) = _
      rw [gI_uI, if_neg (by omega)]; exact f501
    · intro i l hl; exact fW w i l hl
  · rw [if_neg w]
    refine ⟨A 0, g1100, ?_⟩
    simp only [g807]
    rw [if_neg w] at ry
    have fin := hP (pushG G q 6 0) (uI S9 801 (A 0) 0) b c nx (tPl T (tP T) []) ?_ ry (hT.pl hT.2.2.1.1 hT.2.2.1.2) (by omega)
    · rw [hv] at fin; exact fin
    refine RX.pl (S' := uI S9 801 (A 0) 0) (c' := c) (pl' := tP T) (tp' := []) hX (fun i f hi h1 h2 _ => sI i f hi h1 h2) sI2 (fun i f hi => fR f _ (hin i hi)) (fun f _ _ => fR f x hx) (fun i hi h1 h2 => sA i hi (by omega)) (fun i hi _ _ => (fJ _ (hin i hi)).1) (fun i hi _ => (fJ _ (hin i hi)).2) eN sF tp0 ⟨hc, (fR 1113 x hx).trans hX.2.2.2.1.2.1, (fR 1114 x hx).trans hX.2.2.2.1.2.2.1, ?_, fun i l hl => ?_⟩
    · show gI (uI S9 801 (A 0) 0) 501 (A (31 + 2 * c)) = _
      rw [gI_uI, if_neg (by omega), fI 501 _ (hin _ (iu_38 (by omega))) (fun r => by omega) (fun r => by have := (hA _ _).mp r.1; omega)]
      exact hX.2.2.2.1.2.2.2.1
    · show XLN (aI S9 (A (32 + 2 * c))) (5 * i) l
      rw [sA _ (iu_38 (by omega)) (by omega)]
      exact hX.2.2.2.1.2.2.2.2 i l hl
end JPLAN2
end
