section
section RXPL
variable {N N' N2 : Nat → Nat} {F : Nat} {S S' S2 S2' : HS} {x m : Nat} {A B : Nat → Nat} {b c nx : Nat} {T : TT}
def tPl (T : TT) (pl : List LN) (tp : List Nat) : TT := (tU T, pl, tN T, tp, tS T, tD T, tQ T, tM T)
/- the tape and the plans may change, all else of the class stays -/
theorem RX.pl (h : RX N S x A b c nx T) (hI : ∀ i f, iuB i = true → ¬ (i = 0 ∧ 801 ≤ f ∧ f ≤ 807) → f ≠ 501 → gI S' f (A i) = gI S f (A i)) (hI2 : ∀ f, gI S' f x = gI S f x)
    (hR : ∀ i f, iuB i = true → gR S' f (A i) = gR S f (A i)) (hR2 : ∀ f, f ≠ 1113 → f ≠ 1114 → gR S' f x = gR S f x) (hA : ∀ i, iuB i = true → i ≠ 32 → i ≠ 34 → aI S' (A i) = aI S (A i))
    (hJ : ∀ i, iuB i = true → aJ S' (A i) = aJ S (A i)) (hQ : ∀ i, iuB i = true → aR S' (A i) = aR S (A i)) (hN : ∀ i, iuB i = true → N' (A i) = N (A i))
    (hF : ∀ f p, f < vN (tU T) → aR S (A (24 + 4 * b)) f = some p → ∀ g, gI S' g p = gI S g p) {tp' : List Nat} (h3 : XTP S' A tp') {c' : Nat} {pl' : List LN} (h4 : XPL S' x A c' pl') : RX N' S' x A b c' nx (tPl T pl' tp') := by
  obtain ⟨⟨w1, w2, w3, w4, w5⟩, a2, a3, a4, a5, a6, a7, a8⟩ := h
  have ts : ∀ s t, isSt s = true → TS S A (tU T) s t → TS S' A (tU T) s t := fun s t hs ht => ht.congr (fun f f1 f2 => hI s f (iu_st hs) (by omega) (by omega)) (hA _ (iu_60 hs) (by omega) (by omega))
  have st35 : ∀ m, m < 4 → isSt (35 + m) = true := by
    intro m hm
    have : m = 0 ∨ m = 1 ∨ m = 2 ∨ m = 3 := by omega
    rcases this with q | q | q | q <;> subst q <;> decide
  refine ⟨⟨w1, ?_, ?_, ?_, w5⟩, ts 16 _ (by decide) a2, h3, h4, ?_, ?_, ?_, ?_⟩
  · obtain ⟨⟨a1, a2, a3, a4, a5, a6, a7, a8⟩, c1, c2, c3, c4⟩ := w2
    refine ⟨⟨by rw [hN 1 (by decide)]; exact a1, by rw [hN 14 (by decide)]; exact a2, by rw [hN 15 (by decide)]; exact a3, by rw [hN 18 (by decide)]; exact a4, by rw [hN 19 (by decide)]; exact a5, by rw [hN 20 (by decide)]; exact a6, by rw [hN 21 (by decide)]; exact a7, by rw [hN 22 (by decide)]; exact a8⟩, fun j hj => by rw [hN _ (iu_38 (by omega))]; exact c1 j hj, fun s hs => by rw [hN _ (iu_60 hs)]; exact c2 s hs, fun b hb => ?_, fun b hb => by rw [hN _ (iu_38 (by omega))]; exact c4 b hb⟩
    rw [hN _ (iu_38 (by omega)), hN _ (iu_38 (by omega)), hN _ (iu_38 (by omega))]; exact c3 b hb
  · have ex : ∀ f, f ≠ 1113 → f ≠ 1114 → S'.2.2.1 f x = S.2.2.1 f x := hR2
    have ea : ∀ i f, iuB i = true → S'.2.2.1 f (A i) = S.2.2.1 f (A i) := hR
    have er : ∀ i j, iuB i = true → S'.2.2.2.2.2 (A i) j = S.2.2.2.2.2 (A i) j := fun i j hi => congrFun (hQ i hi) j
    obtain ⟨⟨a1, a2, a3, a4, a5, a6, a7, a8, a9⟩, ⟨b1, b2', b3, b4, b5⟩, c1, c2, c3, c4, c5, c6⟩ := w3
    refine ⟨⟨by rw [ex _ (by decide) (by decide)]; exact a1, by rw [ea 0 _ (by decide)]; exact a2, by rw [ex _ (by decide) (by decide)]; exact a3, by rw [ex _ (by decide) (by decide)]; exact a4, by rw [ex _ (by decide) (by decide)]; exact a5, by rw [ea 13 _ (by decide)]; exact a6, by rw [ea 13 _ (by decide)]; exact a7, by rw [ex _ (by decide) (by decide)]; exact a8, by rw [ex _ (by decide) (by decide)]; exact a9⟩, ⟨by rw [ex _ (by decide) (by decide)]; exact b1, by rw [ex _ (by decide) (by decide)]; exact b2', by rw [ex _ (by decide) (by decide)]; exact b3, by rw [ex _ (by decide) (by decide)]; exact b4, by rw [ex _ (by decide) (by decide)]; exact b5⟩, fun j hj => by rw [ea 3 _ (by decide)]; exact c1 j hj, fun m hm => by rw [er 18 _ (by decide)]; exact c2 m hm, fun j hj => by rw [er 14 _ (by decide)]; exact c3 j hj, fun s hs => by rw [ea s _ (iu_st hs)]; exact c4 s hs, fun b hb => ?_, fun b hb => ?_⟩
    · rw [ea _ _ (iu_38 (by omega)), ea _ _ (iu_38 (by omega)), ea _ _ (iu_38 (by omega))]; exact c5 b hb
    · rw [ea _ _ (iu_38 (by omega))]; exact c6 b hb
  · obtain ⟨u1, u2, u3, u4, u5, u6, u7, u8, u9⟩ := w4
    refine ⟨u1, by rw [hR2 _ (by decide) (by decide)]; exact u2, by rw [hR2 _ (by decide) (by decide)]; exact u3, by rw [hI _ _ (iu_38 (by omega)) (by omega) (by omega)]; exact u4, by rw [hI _ _ (iu_38 (by omega)) (by omega) (by omega)]; exact u5, by rw [hI 2 _ (by decide) (by omega) (by omega)]; exact u6, fun f hf1 => ?_, fun f hf1 => by rw [hJ _ (iu_38 (by omega))]; exact u8 f hf1, fun r hr => by rw [hJ _ (iu_38 (by omega))]; exact u9 r hr⟩
    obtain ⟨p, p1, p2⟩ := u7 f hf1
    exact ⟨p, by rw [hQ _ (iu_38 (by omega))]; exact p1, p2.mono2 (fun g _ _ => hF f p hf1 p1 g)⟩
  · unfold XSN at *
    rw [hI2, hA 20 (by decide) (by decide) (by decide), hA 21 (by decide) (by decide) (by decide)]; exact a5
  · obtain ⟨h1, h2, h3, h4, h5⟩ := a6
    refine ⟨by rw [hI 13 _ (by decide) (by omega) (by omega)]; exact h1, by rw [hI 13 _ (by decide) (by omega) (by omega)]; exact h2, h3, h4, h5.mono (fun j _ => ?_)⟩
    have hm : (nx - 1 - j) % 16 < 16 := Nat.mod_lt _ (by decide)
    exact ⟨fun t ht => ts _ _ (isSt40 _ hm) ht, by rw [hA 15 (by decide) (by decide) (by decide)]⟩
  · obtain ⟨h1, h2, h3, h4, h5, h6⟩ := a7
    exact ⟨by rw [hI 3 _ (by decide) (by omega) (by omega)]; exact h1, by rw [hI 3 _ (by decide) (by omega) (by omega)]; exact h2, by rw [hI 3 _ (by decide) (by omega) (by omega)]; exact h3, h4, h5.bk (fun j j1 j2 i _ => by rw [hA j (iu_38 (by omega)) (by omega) (by omega)]), h6.mono (fun i _ => by rw [hA 12 (by decide) (by decide) (by decide)]) (fun _ _ _ q => q)⟩
  · intro m hm
    obtain ⟨h1, h2⟩ := a8 m hm
    exact ⟨by rw [hA 19 (by decide) (by decide) (by decide)]; exact h1, fun t ht => ts _ _ (st35 m hm) (h2 t ht)⟩
/- the same of the model -/
theorem RY.pl (h : RY N2 S2 m B T) (hg : ∀ f p, ¬ (p = m ∧ (f = 1200 ∨ f = 1202 ∨ f = 1203 ∨ f = 1207 ∨ f = 1208)) → gI S2' f p = gI S2 f p) (hr : S2'.2.2.1 = S2.2.2.1) (ha : ∀ p, p ≠ B 1 → p ≠ B 2 → p ≠ B 8 → aI S2' p = aI S2 p) (hj : ∀ p, p ≠ B 3 → aJ S2' p = aJ S2 p) {tp' : List Nat} {pl' : List LN} (h1 : YTP S2' m B tp') (h2 : YPL S2' B pl') : RY N2 S2' m B (tPl T pl' tp') := by
  obtain ⟨a1, ⟨a2, a3⟩, ⟨s1, s2, s3⟩, ⟨u1, u2, u3⟩, a5, a6, ⟨t1, t2⟩, ⟨p1, p2⟩⟩ := h
  have hB := a1.1
  have e : ∀ q, q ≠ 1 → q ≠ 2 → q ≠ 8 → aI S2' (B q) = aI S2 (B q) := fun q q1 q2 q3 => ha _ (by rw [ne_eq, hB]; exact q1) (by rw [ne_eq, hB]; exact q2) (by rw [ne_eq, hB]; exact q3)
  have ej : ∀ q, q ≠ 3 → aJ S2' (B q) = aJ S2 (B q) := fun q q1 => hj _ (by rw [ne_eq, hB]; exact q1)
  exact ⟨a1.congr hr (e 5 (by decide) (by decide) (by decide)) (e 6 (by decide) (by decide) (by decide)) (ej 4 (by decide)) (ej 7 (by decide)), ⟨by rw [e 11 (by decide) (by decide) (by decide)]; exact a2, by rw [e 11 (by decide) (by decide) (by decide)]; exact a3⟩, ⟨by rw [e 11 (by decide) (by decide) (by decide)]; exact s1, s2, by rw [e 11 (by decide) (by decide) (by decide)]; exact s3⟩, ⟨by rw [hg 1218 _ (by omega)]; exact u1, u2, by rw [e 11 (by decide) (by decide) (by decide)]; exact u3⟩, by rw [e 11 (by decide) (by decide) (by decide), e 12 (by decide) (by decide) (by decide)]; exact a5, a6.congr (fun i _ => ⟨by rw [ej 13 (by decide)], by rw [ej 14 (by decide)]⟩), h1, h2⟩
/- the lines are copied -/
theorem y_planCopy (r14 : ∀ S3 : HS, S3.2.2.1 = S2.2.2.1 → gR S3 1214 m = some (B 8)) (n8 : N2 (B 8) = 310) {L : Nat} (hL : L ≤ 30) : ∀ (d k M : Nat) (S : HS), k + d = 5 * L → d < M → S.2.2.1 = S2.2.2.1 →
    ∃ S', s_X12_plan_L118 N2 F M m (ii L) (ii k) S = some (0, S') ∧ S'.1 = S.1 ∧ S'.2.1 = S.2.1 ∧ S'.2.2.1 = S.2.2.1 ∧ S'.2.2.2.2 = S.2.2.2.2 ∧ (∀ p, p ≠ B 8 → aI S' p = aI S p) ∧ ∀ o, aI S' (B 8) o = if 1 + k ≤ o ∧ o < 1 + 5 * L then aI S (B 8) (154 + o) else aI S (B 8) o := by
  intro d
  induction d with
  | zero =>
    intro k M S hk hM hr
    obtain ⟨M, rfl⟩ : ∃ w, M = w + 1 := ⟨M - 1, by omega⟩
    have e5 : (5 : Int32) * ii (L : Int) = ii ((5 * L : Nat) : Int) := by rw [show (5 : Int32) = ii 5 from rfl, ii_mul]; congr 1
    unfold s_X12_plan_L118
    rw [e5, if_pos (by rw [ii_le (by omega) (by omega) (by omega) (by omega)]; omega)]
    exact ⟨S, rfl, rfl, rfl, rfl, rfl, fun _ _ => rfl, fun o => by rw [if_neg (by omega)]⟩
  | succ d ih =>
    intro k M S hk hM hr
    obtain ⟨M, rfl⟩ : ∃ w, M = w + 1 := ⟨M - 1, by omega⟩
    have e5 : (5 : Int32) * ii (L : Int) = ii ((5 * L : Nat) : Int) := by rw [show (5 : Int32) = ii 5 from rfl, ii_mul]; congr 1
    have e1 : (155 : Int32) + ii (k : Int) = ii ((155 + k : Nat) : Int) := by rw [show (155 : Int32) = ii 155 from rfl, ii_add]; congr 1
    have e2 : (1 : Int32) + ii (k : Int) = ii ((1 + k : Nat) : Int) := by rw [k1, ii_add]; congr 1
    have e3 : ii (k : Int) + Int32.ofInt 1 = ii ((k + 1 : Nat) : Int) := by rw [show Int32.ofInt 1 = ii 1 from rfl, ii_add]; rfl
    have i1 : inB (ii ((155 + k : Nat) : Int)) (N2 (B 8)) = true := by rw [n8]; exact in_of (z := 155 + k) rfl (by omega) (by decide)
    have i2 : inB (ii ((1 + k : Nat) : Int)) (N2 (B 8)) = true := by rw [n8]; exact in_of (z := 1 + k) rfl (by omega) (by decide)
    obtain ⟨S', s1, s2, s3, s4, s5, s6, s7⟩ := ih (k + 1) M (wI S (B 8) (1 + k) (aI S (B 8) (155 + k))) (by omega) (by omega) hr
    have hr14 := r14 S hr
    unfold s_X12_plan_L118
    rw [e5, if_neg (by rw [ii_le (by omega) (by omega) (by omega) (by omega)]; omega), hr14, bd1_some, bd1_some, e1, e2, if_pos i1, if_pos i2, cl_of (z := 155 + k) rfl (by omega), cl_of (z := 1 + k) rfl (by omega), bnd_def, bnd_def, e3]
    refine ⟨S', s1, s2, s3, s4, s5, fun p hp => by rw [s6 p hp, aI_wI_o _ _ _ _ hp], fun o => ?_⟩
    rw [s7 o, aI_wI_s]
    show (if 1 + (k + 1) ≤ o ∧ o < 1 + 5 * L then (if 154 + o = 1 + k then aI S (B 8) (155 + k) else aI S (B 8) (154 + o)) else (if o = 1 + k then aI S (B 8) (155 + k) else aI S (B 8) o)) = _
    by_cases q : 1 + (k + 1) ≤ o ∧ o < 1 + 5 * L
    · rw [if_pos q, if_neg (show ¬ 154 + o = 1 + k by omega), if_pos (by omega)]
    · rw [if_neg q]
      by_cases q2 : o = 1 + k
      · rw [if_pos q2, if_pos (by omega), q2]; congr 1; omega
      · rw [if_neg q2, if_neg (by omega)]
end RXPL
end
