section
/- what stands behind all lines -/
def CLF (N2 : Nat → Nat) (q a u us un ur r m : Nat) (B : Nat → Nat) (tp : List Nat) (n : Nat) (G : GS) (S S2' : HS) (G' : GS) (S' : HS) : Prop :=
  (∀ p, p ∈ G.1 → p ∈ G'.1 ∧ G'.2.2 p = G.2.2 p) ∧ FRX (fun p => p ∈ G.1) a u us un ur S S' ∧ ∃ (i' f' : Nat) (V' : UNt) (own' : Bool) (kc' : Nat), JR G'.2.2 N2 a r m B tp n S' S2' i' f' ∧ (f' = 0 → UX G' S' q a u us un ur V' own' ∧ UY S2' m B V' own' kc' ∧ UOK V' ∧ NOK V' ∧ kc' ≤ i')
section ULOOP
variable {N2 : Nat → Nat} {F : Nat} {q a u us un ur r m : Nat} {B : Nat → Nat} {tp : List Nat} {n : Nat}
theorem u_loop (hF : 3000 ≤ F) (hB : ∀ i j, B i = B j ↔ i = j) (hnr : un ≠ ur) (hau : a ≠ u) : ∀ (d j M M2 : Nat) (G : GS) (S S2 : HS) (i f : Nat) (V : UNt) (own : Bool) (kc : Nat), (f = 0 → n ≤ i + d) → d < M → d < M2 → j ≤ 1000 → (f = 0 → j ≤ i) → JR G.2.2 N2 a r m B tp n S S2 i f → (f = 0 → UX G S q a u us un ur V own ∧ UY S2 m B V own kc ∧ UOK V ∧ NOK V ∧ kc ≤ i) → gR S 1000 q = some a → (q ∈ G.1 ∧ a ∈ G.1 ∧ u ∈ G.1 ∧ us ∈ G.1 ∧ un ∈ G.1 ∧ ur ∈ G.1 ∧ r ∈ G.1) →
    ∃ S2', (∀ kk : Nat → HS → Option (Int32 × HS), s_X12_unit_L20 N2 F kk M2 m S2 = kk m S2') ∧ FRY m B S2 S2' ∧ (∃ G' S', CLF N2 q a u us un ur r m B tp n G S S2' G' S') ∧ ∀ P : GS → HS → Prop, (∀ G' S', CLF N2 q a u us un ur r m B tp n G S S2' G' S' → P G' S') → w_X10_readAll_L9 F P M q (ii j) G S := by
  intro d
  have stop : ∀ (j M M2 : Nat) (G : GS) (S S2 : HS) (i f : Nat) (V : UNt) (own : Bool) (kc : Nat), 0 < M → 0 < M2 → JR G.2.2 N2 a r m B tp n S S2 i f → (f = 0 → UX G S q a u us un ur V own ∧ UY S2 m B V own kc ∧ UOK V ∧ NOK V ∧ kc ≤ i) → gR S 1000 q = some a → (f ≠ 0 ∨ tWhat tp (pt tp i) = 0) →
      ∃ S2', (∀ kk : Nat → HS → Option (Int32 × HS), s_X12_unit_L20 N2 F kk M2 m S2 = kk m S2') ∧ FRY m B S2 S2' ∧ (∃ G' S', CLF N2 q a u us un ur r m B tp n G S S2' G' S') ∧ ∀ P : GS → HS → Prop, (∀ G' S', CLF N2 q a u us un ur r m B tp n G S S2' G' S' → P G' S') → w_X10_readAll_L9 F P M q (ii j) G S := by
    intro j M M2 G S S2 i f V own kc hM hM2 h hU hq hst
    obtain ⟨M, rfl⟩ : ∃ w, M = w + 1 := ⟨M - 1, by omega⟩
    obtain ⟨M2, rfl⟩ : ∃ w, M2 = w + 1 := ⟨M2 - 1, by omega⟩
    have hx : s_X8_goesOn a S = 0 := by
      unfold s_X8_goesOn
      rw [xr_fault h.2.1]
      simp only [(c_f0 h).1]
      by_cases w : f = 0
      · subst w
        rcases hst with w2 | w2
        · exact absurd rfl w2
        · rw [if_pos rfl, h.x0.2.2.1, w2, if_pos (show (ii ((0 : Nat) : Int) = (0 : Int32)) from rfl)]
      · rw [if_neg w]
    have hc : CLF N2 q a u us un ur r m B tp n G S S2 G S := ⟨fun p hp => ⟨hp, rfl⟩, FRX.refl _ _ _ _ _ _ _, i, f, V, own, kc, h, hU⟩
    refine ⟨S2, fun kk => ?_, FRY.refl _ _ _, ⟨G, S, hc⟩, fun P hP => ?_⟩
    · obtain ⟨a1, a2, a3, a4, a5, ⟨a6, a7, a8⟩, a9, a10, _⟩ := y_at h.2.2.1 h.2.2.2.2.1 h.1.2.2.2.1
      unfold s_X12_unit_L20
      rw [a5]
      simp only [(c_f0 h).1]
      by_cases w : f = 0
      · rcases hst with w2 | w2
        · exact absurd w w2
        · rw [if_pos w, a1, bd1_some, a4, if_pos a6, a9, a10]
          simp only [sO_0]
          rw [if_pos w2]
      · rw [if_neg w]
    · unfold w_X10_readAll_L9
      by_cases w : (1000 : Int32) < ii (j : Int)
      · rw [if_pos w]; exact hP G S hc
      · rw [if_neg w]
        refine ⟨a, hq, ?_⟩
        dsimp only
        rw [if_pos hx]; exact hP G S hc
  induction d with
  | zero =>
    intro j M M2 G S S2 i f V own kc hn hM hM2 hj hji h hU hq hin
    refine stop j M M2 G S S2 i f V own kc hM hM2 h hU hq ?_
    by_cases w : f = 0
    · right
      have := hn w
      have := h.2.2.2.2.1.2.1
      exact h.end.mpr (by omega)
    · exact Or.inl w
  | succ d ih =>
    intro j M M2 G S S2 i f V own kc hn hM hM2 hj hji h hU hq hin
    by_cases w : f ≠ 0 ∨ tWhat tp (pt tp i) = 0
    · exact stop j M M2 G S S2 i f V own kc (by omega) (by omega) h hU hq w
    have w0 : f = 0 := by omega
    have w2 : tWhat tp (pt tp i) ≠ 0 := by omega
    subst w0
    obtain ⟨hX, hY, hUk, hNk, hkc⟩ := hU rfl
    have hlt := h.lt w2
    have hnb := h.2.2.2.2.1.1
    have hlen := h.1.2.2.2.1
    have hji0 := hji rfl
    obtain ⟨M, rfl⟩ : ∃ w, M = w + 1 := ⟨M - 1, by omega⟩
    obtain ⟨M2, rfl⟩ : ∃ w, M2 = w + 1 := ⟨M2 - 1, by omega⟩
    have hgo : s_X8_goesOn a S ≠ 0 := by
      have hb := tWhat_b h.1.2.2.2.2.1 (pt tp i)
      have cw : (ii (tWhat tp (pt tp i) : Int) = (0 : Int32)) = (tWhat tp (pt tp i) = 0) := by rw [k0, ii_eq (by omega) (by omega) (by omega) (by omega)]; apply propext; omega
      unfold s_X8_goesOn
      rw [xr_fault h.2.1, if_pos (show (ii ((0 : Nat) : Int) = (0 : Int32)) from rfl), h.x0.2.2.1]
      simp only [cw]
      rw [if_neg w2]; decide
    -- the class's words
    have h1 : s_X8_isWord F a 1 S = some (b2 (decide (tkW tp i = wds 1))) := x_isWord hF h.x0 h.1.2.2.2.2.1 (p := 0) (by omega)
    have h2 : s_X8_isWord F a 2 S = some (b2 (decide (tkW tp i = wds 2))) := x_isWord hF h.x0 h.1.2.2.2.2.1 (p := 1) (by omega)
    have h3 : s_X8_isWord F a 3 S = some (b2 (decide (tkW tp i = wds 3))) := x_isWord hF h.x0 h.1.2.2.2.2.1 (p := 2) (by omega)
    have hne12 : wds 2 ≠ wds 1 := by decide +kernel
    have hne13 : wds 3 ≠ wds 1 := by decide +kernel
    have hne23 : wds 3 ≠ wds 2 := by decide +kernel
    -- one line, whichever it is
    obtain ⟨S21, S2a, m1, m2, m3, hex, hline⟩ : ∃ S21 S2a, s_X12_readLine N2 F m S2 = some S21 ∧ s_X12_takeSign N2 m 59 S21 = some S2a ∧ FRY m B S2 S2a ∧ (∃ G' S', CLE N2 q a u us un ur r m B tp n G S S2a i G' S') ∧ ∀ P : GS → HS → Prop, (∀ G' S', CLE N2 q a u us un ur r m B tp n G S S2a i G' S' → w_X10_readAll_L9 F P M q (ii (j + 1 : Nat)) G' S') → w_X10_readAll_L9 F P (M + 1) q (ii j) G S := by
      have step : ∀ P : GS → HS → Prop, (bd1p (gR S 1000 q) fun t7 => bd1p (s_X8_isWord F t7 1 S) fun r8 => if r8 = (0 : Int32) then bd1p (gR S 1000 q) fun t11 => bd1p (s_X8_isWord F t11 2 S) fun r12 => if r12 = (0 : Int32) then bd1p (gR S 1000 q) fun t15 => bd1p (s_X8_isWord F t15 3 S) fun r16 => if r16 = (0 : Int32) then bd1p (gR S 1000 q) fun t19 => bnd (s_X8_blame t19 1 S) fun S20 => w_X10_readAll_J91 F P (w_X10_readAll_L9 F P M) q (ii j) G S20 else w_X10_readOwn F q G S (fun G22 S23 => w_X10_readAll_J91 F P (w_X10_readAll_L9 F P M) q (ii j) G22 S23) else bd1p (s_X10_readRegister G.2.2 F q S) fun S25 => w_X10_readAll_J91 F P (w_X10_readAll_L9 F P M) q (ii j) G S25 else w_X10_readForm F q G S (fun G26 S27 => w_X10_readAll_J91 F P (w_X10_readAll_L9 F P M) q (ii j) G26 S27)) → w_X10_readAll_L9 F P (M + 1) q (ii j) G S := by
        intro P hP
        unfold w_X10_readAll_L9
        rw [if_neg (j1000 hj)]
        refine ⟨a, hq, ?_⟩
        dsimp only
        rw [if_neg hgo]
        exact hP
      have j91 : ∀ (P : GS → HS → Prop) (G' : GS) (S' : HS), w_X10_readAll_L9 F P M q (ii (j + 1 : Nat)) G' S' → w_X10_readAll_J91 F P (w_X10_readAll_L9 F P M) q (ii j) G' S' := by
        intro P G' S' hP
        unfold w_X10_readAll_J91
        rw [bnd_def, j_inc]; exact hP
      by_cases q1 : tkW tp i = wds 1
      · obtain ⟨S21, S2a, e1, e2, e3, e4, e5⟩ := u_form (F := F) hF hB h hlt hX hY hUk hNk hkc hnr hin hau q1
        refine ⟨S21, S2a, e1, e2, e3, e4, fun P hP => step P ⟨a, hq, _, h1, ?_⟩⟩
        dsimp only
        rw [decide_eq_true q1, if_neg (show ¬ b2 true = (0 : Int32) by decide)]
        exact e5 _ (fun G' S' hc => j91 P G' S' (hP G' S' hc))
      by_cases q2 : tkW tp i = wds 2
      · obtain ⟨S21, S2a, S', e0, e1, e2, e3, e4⟩ := u_reg (F := F) hF hB h hlt hX hY hUk hNk hkc hnr q2
        refine ⟨S21, S2a, e1, e2, e3, ⟨G, S', e4⟩, fun P hP => step P ⟨a, hq, _, h1, ?_⟩⟩
        dsimp only
        rw [decide_eq_false q1, if_pos (show b2 false = (0 : Int32) by decide)]
        refine ⟨a, hq, _, h2, ?_⟩
        dsimp only
        rw [decide_eq_true q2, if_neg (show ¬ b2 true = (0 : Int32) by decide)]
        exact ⟨S', e0, j91 P G S' (hP G S' e4)⟩
      by_cases q3 : tkW tp i = wds 3
      · obtain ⟨S21, S2a, e1, e2, e3, e4, e5⟩ := u_own (F := F) hF hB h hlt hX hY hUk hNk hkc hin q3
        refine ⟨S21, S2a, e1, e2, e3, e4, fun P hP => step P ⟨a, hq, _, h1, ?_⟩⟩
        dsimp only
        rw [decide_eq_false q1, if_pos (show b2 false = (0 : Int32) by decide)]
        refine ⟨a, hq, _, h2, ?_⟩
        dsimp only
        rw [decide_eq_false q2, if_pos (show b2 false = (0 : Int32) by decide)]
        refine ⟨a, hq, _, h3, ?_⟩
        dsimp only
        rw [decide_eq_true q3, if_neg (show ¬ b2 true = (0 : Int32) by decide)]
        exact e5 _ (fun G' S' hc => j91 P G' S' (hP G' S' hc))
      · obtain ⟨y1, y2, y3⟩ := y_lineWords (f := 0) h
        obtain ⟨S9, z1, z2⟩ := j_wrong (k := 1) (by omega) h
        obtain ⟨d1, d2, d3, d4, d5⟩ := z2
        have z1' : s_X12_wrong N2 m 1 S2 = some S9 := z1
        have hb1 : bl 0 1 (tQ0 tp (pt tp i)) ≠ 0 := by rw [bl_0]; omega
        obtain ⟨S3, t1, t2, t3⟩ := u_fault d3 hb1
        have hc : CLE N2 q a u us un ur r m B tp n G S S3 i G (s_X8_blame a (ii (1 : Nat)) S) := CLE.fault V own kc d1 t3 hb1
        refine ⟨S9, S3, ?_, t1, (d2.trans t2).fy B, ⟨G, _, hc⟩, fun P hP => step P ⟨a, hq, _, h1, ?_⟩⟩
        · unfold s_X12_readLine
          rw [y1, bd1_some, decide_eq_false q1, if_pos (show b2 false = (0 : Int32) by decide), y2, bd1_some, decide_eq_false q2, if_pos (show b2 false = (0 : Int32) by decide), y3, bd1_some, decide_eq_false q3, if_pos (show b2 false = (0 : Int32) by decide), z1', bd1_some]
        · dsimp only
          rw [decide_eq_false q1, if_pos (show b2 false = (0 : Int32) by decide)]
          refine ⟨a, hq, _, h2, ?_⟩
          dsimp only
          rw [decide_eq_false q2, if_pos (show b2 false = (0 : Int32) by decide)]
          refine ⟨a, hq, _, h3, ?_⟩
          dsimp only
          rw [decide_eq_false q3, if_pos (show b2 false = (0 : Int32) by decide)]
          exact ⟨a, hq, j91 P G _ (hP G _ hc)⟩
    -- the model's loop
    have hmod : ∀ kk : Nat → HS → Option (Int32 × HS), s_X12_unit_L20 N2 F kk (M2 + 1) m S2 = s_X12_unit_L20 N2 F kk M2 m S2a := by
      intro kk
      obtain ⟨a1, a2, a3, a4, a5, ⟨a6, a7, a8⟩, a9, a10, _⟩ := y_at h.2.2.1 h.2.2.2.2.1 h.1.2.2.2.1
      rw [s_X12_unit_L20, a5, if_pos (show (ii ((0 : Nat) : Int) = (0 : Int32)) from rfl), a1, bd1_some, a4, if_pos a6, a9, a10]
      simp only [sO_0]
      rw [if_neg w2, m1, bd1_some, m2, bd1_some]
    -- what follows, from anything that stands behind the line
    have rest : ∀ G1 S1, CLE N2 q a u us un ur r m B tp n G S S2a i G1 S1 → ∃ S2', (∀ kk : Nat → HS → Option (Int32 × HS), s_X12_unit_L20 N2 F kk M2 m S2a = kk m S2') ∧ FRY m B S2a S2' ∧ (∃ G' S', CLF N2 q a u us un ur r m B tp n G S S2' G' S') ∧ ∀ P : GS → HS → Prop, (∀ G' S', CLF N2 q a u us un ur r m B tp n G S S2' G' S' → P G' S') → w_X10_readAll_L9 F P M q (ii (j + 1 : Nat)) G1 S1 := by
      intro G1 S1 hc
      obtain ⟨g1, g2, i1, f1, V1, own1, kc1, g3, g4⟩ := hc
      obtain ⟨n1, n2, n3, n4, n5, n6, n7⟩ := hin
      obtain ⟨S2', e1, e2, e3, e4⟩ := ih (j + 1) M M2 G1 S1 S2a i1 f1 V1 own1 kc1 (fun z => by have := (g4 z).1; have := hn rfl; omega) (by omega) (by omega) (by omega) (fun z => by have := (g4 z).1; omega) g3 (fun z => (g4 z).2) ((g2.2.1 1000 q n1).trans hq) ⟨(g1 q n1).1, (g1 a n2).1, (g1 u n3).1, (g1 us n4).1, (g1 un n5).1, (g1 ur n6).1, (g1 r n7).1⟩
      have conv : ∀ G' S', CLF N2 q a u us un ur r m B tp n G1 S1 S2' G' S' → CLF N2 q a u us un ur r m B tp n G S S2' G' S' := by
        rintro G' S' ⟨k1', k2', k3'⟩
        exact ⟨fun p hp => ⟨(k1' p (g1 p hp).1).1, (k1' p (g1 p hp).1).2.trans (g1 p hp).2⟩, g2.trans (k2'.mono (fun p hp => (g1 p hp).1)), k3'⟩
      obtain ⟨G', S', hc'⟩ := e3
      exact ⟨S2', e1, e2, ⟨G', S', conv G' S' hc'⟩, fun P hP => e4 P (fun G' S' hc => hP G' S' (conv G' S' hc))⟩
    obtain ⟨G1, S1, hc1⟩ := hex
    obtain ⟨S2', e1, e2, e3, _⟩ := rest G1 S1 hc1
    refine ⟨S2', fun kk => (hmod kk).trans (e1 kk), m3.trans e2, e3, fun P hP => hline P (fun G' S' hc => ?_)⟩
    obtain ⟨S2'', f1, f2, f3, f4⟩ := rest G' S' hc
    have hs := (e1 (fun _ S => some (0, S))).symm.trans (f1 (fun _ S => some (0, S)))
    have : S2' = S2'' := by injection hs with hs; exact (Prod.mk.inj hs).2
    subst this
    exact f4 P hP
end ULOOP
end
section
section UCOPY
variable {N2 : Nat → Nat} {F : Nat} {S0 : HS} {m : Nat} {B : Nat → Nat}
theorem y_cp66 (hr : gR S0 1210 m = some (B 5)) (hn : N2 (B 5) = 30) (kk : Nat → HS → Option (Int32 × HS)) : ∀ (d k M : Nat) (S : HS), k + d = 15 → d < M → S.2.2.1 = S0.2.2.1 → S.1 = S0.1 →
    ∃ S', s_X12_unit_L66 N2 F kk M m (ii k) S = kk m S' ∧ S'.1 = S.1 ∧ S'.2.1 = S.2.1 ∧ S'.2.2.1 = S.2.2.1 ∧ S'.2.2.2.2 = S.2.2.2.2 ∧ (∀ p, p ≠ B 5 → aI S' p = aI S p) ∧ ∀ o, aI S' (B 5) o = if k ≤ o ∧ o < 15 then aI S (B 5) (15 + o) else aI S (B 5) o := by
  intro d
  induction d with
  | zero =>
    intro k M S hk hM h2 h1
    obtain ⟨M, rfl⟩ : ∃ w, M = w + 1 := ⟨M - 1, by omega⟩
    unfold s_X12_unit_L66
    rw [if_pos (by rw [k15]; rw [ii_le (by omega) (by omega) (by omega) (by omega)]; omega)]
    exact ⟨S, rfl, rfl, rfl, rfl, rfl, fun _ _ => rfl, fun o => by rw [if_neg (by omega)]⟩
  | succ d ih =>
    intro k M S hk hM h2 h1
    obtain ⟨M, rfl⟩ : ∃ w, M = w + 1 := ⟨M - 1, by omega⟩
    have e1 : (15 : Int32) + ii (k : Int) = ii ((15 + k : Nat) : Int) := by rw [show (15 : Int32) = ii 15 from rfl, ii_add]; congr 1
    have i1 : inB (ii ((15 + k : Nat) : Int)) (N2 (B 5)) = true := by rw [hn]; exact in_of (z := 15 + k) rfl (by omega) (by decide)
    have i2 : inB (ii (k : Int)) (N2 (B 5)) = true := by rw [hn]; exact in_of (z := k) rfl (by omega) (by decide)
    have hrS : gR S 1210 m = some (B 5) := by rw [gR_of h2]; exact hr
    obtain ⟨S', s1, s2, s3, s4, s5, s6, s7⟩ := ih (k + 1) M (wI S (B 5) k (aI S (B 5) (15 + k))) (by omega) (by omega) h2 h1
    unfold s_X12_unit_L66
    rw [if_neg (by rw [k15]; rw [ii_le (by omega) (by omega) (by omega) (by omega)]; omega), hrS, bd1_some, bd1_some, e1, if_pos i1, if_pos i2, cl_of (z := 15 + k) rfl (by omega), cl_of (z := k) rfl (by omega), bnd_def, bnd_def, j_inc, s1]
    refine ⟨S', rfl, s2, s3, s4, s5, fun p hp => by rw [s6 p hp, aI_wI_o _ _ _ _ hp], fun o => ?_⟩
    rw [s7 o, aI_wI_s]
    show (if k + 1 ≤ o ∧ o < 15 then (if 15 + o = k then aI S (B 5) (15 + k) else aI S (B 5) (15 + o)) else (if o = k then aI S (B 5) (15 + k) else aI S (B 5) o)) = _
    by_cases q : k + 1 ≤ o ∧ o < 15
    · rw [if_pos q, if_neg (show ¬ 15 + o = k by omega), if_pos (by omega)]
    · rw [if_neg q]
      by_cases q2 : o = k
      · rw [if_pos q2, if_pos (by omega), q2]
      · rw [if_neg q2, if_neg (by omega)]
theorem y_cp95 (hr : gR S0 1211 m = some (B 6)) (hn : N2 (B 6) = 2200) {C : Nat} (hC : C ≤ 1001) (hg : gI S0 1212 m = ii C) (kk : Nat → HS → Option (Int32 × HS)) : ∀ (d k M : Nat) (S : HS), k + d = C → d < M → S.2.2.1 = S0.2.2.1 → S.1 = S0.1 →
    ∃ S', s_X12_unit_L95 N2 F kk M m (ii k) S = kk m S' ∧ S'.1 = S.1 ∧ S'.2.1 = S.2.1 ∧ S'.2.2.1 = S.2.2.1 ∧ S'.2.2.2.2 = S.2.2.2.2 ∧ (∀ p, p ≠ B 6 → aI S' p = aI S p) ∧ ∀ o, aI S' (B 6) o = if k ≤ o ∧ o < C then aI S (B 6) (1100 + o) else aI S (B 6) o := by
  intro d
  induction d with
  | zero =>
    intro k M S hk hM h2 h1
    obtain ⟨M, rfl⟩ : ∃ w, M = w + 1 := ⟨M - 1, by omega⟩
    unfold s_X12_unit_L95
    rw [show gI S 1212 m = ii C by rw [gI_of h1]; exact hg]
    rw [if_pos (by rw [ii_le (by omega) (by omega) (by omega) (by omega)]; omega)]
    exact ⟨S, rfl, rfl, rfl, rfl, rfl, fun _ _ => rfl, fun o => by rw [if_neg (by omega)]⟩
  | succ d ih =>
    intro k M S hk hM h2 h1
    obtain ⟨M, rfl⟩ : ∃ w, M = w + 1 := ⟨M - 1, by omega⟩
    have e1 : (1100 : Int32) + ii (k : Int) = ii ((1100 + k : Nat) : Int) := by rw [show (1100 : Int32) = ii 1100 from rfl, ii_add]; congr 1
    have i1 : inB (ii ((1100 + k : Nat) : Int)) (N2 (B 6)) = true := by rw [hn]; exact in_of (z := 1100 + k) rfl (by omega) (by decide)
    have i2 : inB (ii (k : Int)) (N2 (B 6)) = true := by rw [hn]; exact in_of (z := k) rfl (by omega) (by decide)
    have hrS : gR S 1211 m = some (B 6) := by rw [gR_of h2]; exact hr
    obtain ⟨S', s1, s2, s3, s4, s5, s6, s7⟩ := ih (k + 1) M (wI S (B 6) k (aI S (B 6) (1100 + k))) (by omega) (by omega) h2 h1
    unfold s_X12_unit_L95
    rw [show gI S 1212 m = ii C by rw [gI_of h1]; exact hg]
    rw [if_neg (by rw [ii_le (by omega) (by omega) (by omega) (by omega)]; omega), hrS, bd1_some, bd1_some, e1, if_pos i1, if_pos i2, cl_of (z := 1100 + k) rfl (by omega), cl_of (z := k) rfl (by omega), bnd_def, bnd_def, j_inc, s1]
    refine ⟨S', rfl, s2, s3, s4, s5, fun p hp => by rw [s6 p hp, aI_wI_o _ _ _ _ hp], fun o => ?_⟩
    rw [s7 o, aI_wI_s]
    show (if k + 1 ≤ o ∧ o < C then (if 1100 + o = k then aI S (B 6) (1100 + k) else aI S (B 6) (1100 + o)) else (if o = k then aI S (B 6) (1100 + k) else aI S (B 6) o)) = _
    by_cases q : k + 1 ≤ o ∧ o < C
    · rw [if_pos q, if_neg (show ¬ 1100 + o = k by omega), if_pos (by omega)]
    · rw [if_neg q]
      by_cases q2 : o = k
      · rw [if_pos q2, if_pos (by omega), q2]
      · rw [if_neg q2, if_neg (by omega)]
theorem y_cp127 (hr : gR S0 1213 m = some (B 7)) (hn : N2 (B 7) = 20) (kk : Nat → HS → Option (Int32 × HS)) : ∀ (d k M : Nat) (S : HS), k + d = 10 → d < M → S.2.2.1 = S0.2.2.1 → S.1 = S0.1 →
    ∃ S', s_X12_unit_L127 N2 F kk M m (ii k) S = kk m S' ∧ S'.1 = S.1 ∧ S'.2.1 = S.2.1 ∧ S'.2.2.1 = S.2.2.1 ∧ (S'.2.2.2.1 = S.2.2.2.1 ∧ S'.2.2.2.2.2 = S.2.2.2.2.2) ∧ (∀ p, p ≠ B 7 → aJ S' p = aJ S p) ∧ ∀ o, aJ S' (B 7) o = if k ≤ o ∧ o < 10 then aJ S (B 7) (10 + o) else aJ S (B 7) o := by
  intro d
  induction d with
  | zero =>
    intro k M S hk hM h2 h1
    obtain ⟨M, rfl⟩ : ∃ w, M = w + 1 := ⟨M - 1, by omega⟩
    unfold s_X12_unit_L127
    rw [if_pos (by rw [k10]; rw [ii_le (by omega) (by omega) (by omega) (by omega)]; omega)]
    exact ⟨S, rfl, rfl, rfl, rfl, ⟨rfl, rfl⟩, fun _ _ => rfl, fun o => by rw [if_neg (by omega)]⟩
  | succ d ih =>
    intro k M S hk hM h2 h1
    obtain ⟨M, rfl⟩ : ∃ w, M = w + 1 := ⟨M - 1, by omega⟩
    have e1 : (10 : Int32) + ii (k : Int) = ii ((10 + k : Nat) : Int) := by rw [show (10 : Int32) = ii 10 from rfl, ii_add]; congr 1
    have i1 : inB (ii ((10 + k : Nat) : Int)) (N2 (B 7)) = true := by rw [hn]; exact in_of (z := 10 + k) rfl (by omega) (by decide)
    have i2 : inB (ii (k : Int)) (N2 (B 7)) = true := by rw [hn]; exact in_of (z := k) rfl (by omega) (by decide)
    have hrS : gR S 1213 m = some (B 7) := by rw [gR_of h2]; exact hr
    obtain ⟨S', s1, s2, s3, s4, s5, s6, s7⟩ := ih (k + 1) M (wJ S (B 7) k (aJ S (B 7) (10 + k))) (by omega) (by omega) h2 h1
    unfold s_X12_unit_L127
    rw [if_neg (by rw [k10]; rw [ii_le (by omega) (by omega) (by omega) (by omega)]; omega), hrS, bd1_some, bd1_some, e1, if_pos i1, if_pos i2, cl_of (z := 10 + k) rfl (by omega), cl_of (z := k) rfl (by omega), bnd_def, bnd_def, j_inc, s1]
    refine ⟨S', rfl, s2, s3, s4, s5, fun p hp => by rw [s6 p hp, aJ_wJ_o _ _ _ _ hp], fun o => ?_⟩
    rw [s7 o, aJ_wJ_s]
    show (if k + 1 ≤ o ∧ o < 10 then (if 10 + o = k then aJ S (B 7) (10 + k) else aJ S (B 7) (10 + o)) else (if o = k then aJ S (B 7) (10 + k) else aJ S (B 7) o)) = _
    by_cases q : k + 1 ≤ o ∧ o < 10
    · rw [if_pos q, if_neg (show ¬ 10 + o = k by omega), if_pos (by omega)]
    · rw [if_neg q]
      by_cases q2 : o = k
      · rw [if_pos q2, if_pos (by omega), q2]
      · rw [if_neg q2, if_neg (by omega)]
end UCOPY
section XBEG
variable {N : Nat → Nat} {F : Nat} {S : HS} {x : Nat} {A : Nat → Nat}
theorem x_empty_loop {a ra : Nat} (hr : ∀ S1 : HS, S1.2.2.1 = S.2.2.1 → gR S1 700 a = some ra) (hn : N ra = 6) : ∀ (d k M : Nat) (S1 : HS), k + d = 6 → d < M → S1.2.2.1 = S.2.2.1 →
    ∃ S', s_X7_empty_L12 N F M a (ii k) S1 = some S' ∧ S'.1 = S1.1 ∧ S'.2.1 = S1.2.1 ∧ S'.2.2.1 = S1.2.2.1 ∧ S'.2.2.2.2 = S1.2.2.2.2 ∧ (∀ p, p ≠ ra → aI S' p = aI S1 p) ∧ ∀ o, aI S' ra o = if k ≤ o ∧ o < 6 then 0 else aI S1 ra o := by
  intro d
  induction d with
  | zero =>
    intro k M S1 hk hM h2
    obtain ⟨M, rfl⟩ : ∃ w, M = w + 1 := ⟨M - 1, by omega⟩
    unfold s_X7_empty_L12
    rw [if_pos (by rw [show (6 : Int32) = ii 6 from rfl, ii_le (by omega) (by omega) (by omega) (by omega)]; omega)]
    exact ⟨S1, rfl, rfl, rfl, rfl, rfl, fun _ _ => rfl, fun o => by rw [if_neg (by omega)]⟩
  | succ d ih =>
    intro k M S1 hk hM h2
    obtain ⟨M, rfl⟩ : ∃ w, M = w + 1 := ⟨M - 1, by omega⟩
    obtain ⟨S', s1, s2, s3, s4, s5, s6, s7⟩ := ih (k + 1) M (wI S1 ra k 0) (by omega) (by omega) h2
    unfold s_X7_empty_L12
    rw [if_neg (by rw [show (6 : Int32) = ii 6 from rfl, ii_le (by omega) (by omega) (by omega) (by omega)]; omega), hr S1 h2, bd1_some, if_pos (by rw [hn]; exact in_of (z := k) rfl (by omega) (by decide)), cl_of (z := k) rfl (by omega), bnd_def, bnd_def, j_inc, s1]
    refine ⟨S', rfl, s2, s3, s4, s5, fun p hp => by rw [s6 p hp, aI_wI_o _ _ _ _ hp], fun o => ?_⟩
    rw [s7 o, aI_wI_s]
    show (if k + 1 ≤ o ∧ o < 6 then 0 else (if o = k then 0 else aI S1 ra o)) = _
    by_cases q : k + 1 ≤ o ∧ o < 6
    · rw [if_pos q, if_pos (by omega)]
    · rw [if_neg q]
      by_cases q2 : o = k
      · rw [if_pos q2, if_pos (by omega)]
      · rw [if_neg q2, if_neg (by omega)]
theorem x_laid_loop {ra : Nat} (hr : ∀ S1 : HS, S1.2.2.1 = S.2.2.1 → gR S1 1107 x = some ra) (hn : N ra = 4) : ∀ (d k M : Nat) (S1 : HS), k + d = 4 → d < M → S1.2.2.1 = S.2.2.1 →
    ∃ S', s_X11_begin_L73 N F M x (ii k) S1 = some S' ∧ S'.1 = S1.1 ∧ S'.2.1 = S1.2.1 ∧ S'.2.2.1 = S1.2.2.1 ∧ S'.2.2.2.2 = S1.2.2.2.2 ∧ (∀ p, p ≠ ra → aI S' p = aI S1 p) ∧ ∀ o, aI S' ra o = if k ≤ o ∧ o < 4 then 0 else aI S1 ra o := by
  intro d
  induction d with
  | zero =>
    intro k M S1 hk hM h2
    obtain ⟨M, rfl⟩ : ∃ w, M = w + 1 := ⟨M - 1, by omega⟩
    unfold s_X11_begin_L73
    rw [if_pos (by rw [k4, ii_le (by omega) (by omega) (by omega) (by omega)]; omega)]
    exact ⟨S1, rfl, rfl, rfl, rfl, rfl, fun _ _ => rfl, fun o => by rw [if_neg (by omega)]⟩
  | succ d ih =>
    intro k M S1 hk hM h2
    obtain ⟨M, rfl⟩ : ∃ w, M = w + 1 := ⟨M - 1, by omega⟩
    obtain ⟨S', s1, s2, s3, s4, s5, s6, s7⟩ := ih (k + 1) M (wI S1 ra k 0) (by omega) (by omega) h2
    unfold s_X11_begin_L73
    rw [if_neg (by rw [k4, ii_le (by omega) (by omega) (by omega) (by omega)]; omega), hr S1 h2, bd1_some, if_pos (by rw [hn]; exact in_of (z := k) rfl (by omega) (by decide)), cl_of (z := k) rfl (by omega), show vp_nar .boolean 0 = 0 from rfl, bnd_def, bnd_def, j_inc, s1]
    refine ⟨S', rfl, s2, s3, s4, s5, fun p hp => by rw [s6 p hp, aI_wI_o _ _ _ _ hp], fun o => ?_⟩
    rw [s7 o, aI_wI_s]
    show (if k + 1 ≤ o ∧ o < 4 then 0 else (if o = k then 0 else aI S1 ra o)) = _
    by_cases q : k + 1 ≤ o ∧ o < 4
    · rw [if_pos q, if_pos (by omega)]
    · rw [if_neg q]
      by_cases q2 : o = k
      · rw [if_pos q2, if_pos (by omega)]
      · rw [if_neg q2, if_neg (by omega)]
theorem x_begin_u (hF : 3000 ≤ F) (hA : ∀ i j, A i = A j ↔ i = j) (hN : XN N A) (hL : XLAY S.2.2.1 S.2.2.2.2.2 x A) {u c nf : Nat} {L : Int32} (hu : gR S 1111 x = some u) (hn4 : nf ≤ 4) (hnf : gI S 903 u = ii nf) (hLw : gI S 906 u = L) (hc : gR S 1113 x = some (A (31 + 2 * c))) (hc2 : c < 2) :
    ∃ S', s_X11_begin N F x S = some S' ∧ (∀ f p, ¬ (p = A 16 ∧ 701 ≤ f ∧ f ≤ 703) → ¬ (p = A 2 ∧ f = 0) → ¬ (p = A (31 + 2 * c) ∧ f = 501) → ¬ (p = A 3 ∧ 109 ≤ f ∧ f ≤ 111) → ¬ (p = A 13 ∧ f = 403) → ¬ (p = x ∧ f = 1115) → gI S' f p = gI S f p) ∧ S'.2.2.1 = S.2.2.1 ∧ S'.2.2.2.2 = S.2.2.2.2 ∧ (∀ p, p ≠ A 76 → p ≠ A 19 → aI S' p = aI S p) ∧
      gI S' 701 (A 16) = ii (if nf = 0 then -1 else 0) ∧ gI S' 702 (A 16) = 0 ∧ gI S' 703 (A 16) = 0 ∧ (∀ r, r < 6 → aI S' (A 76) r = 0) ∧ gI S' 0 (A 2) = L ∧ gI S' 501 (A (31 + 2 * c)) = 0 ∧ gI S' 109 (A 3) = 0 ∧ gI S' 110 (A 3) = 0 ∧ gI S' 111 (A 3) = 0 ∧ gI S' 403 (A 13) = 0 ∧ gI S' 1115 x = 0 ∧ (∀ k, k < 4 → aI S' (A 19) k = 0) := by
  have g1104 : gR S 1104 x = some (A 16) := hL.1.2.2.2.2.2.2.2.1
  have g1101 : gR S 1101 x = some (A 2) := hL.1.2.2.1
  have g1102 : gR S 1102 x = some (A 3) := hL.1.2.2.2.1
  have g1103 : gR S 1103 x = some (A 13) := hL.1.2.2.2.2.1
  have g1107 : gR S 1107 x = some (A 19) := hL.2.1.2.1
  have g700 : gR S 700 (A 16) = some (A 76) := hL.2.2.2.2.2.1 16 (by decide)
  have n76 : N (A 76) = 6 := hN.2.2.1 16 (by decide)
  have n19 : N (A 19) = 4 := hN.1.2.2.2.2.1
  obtain ⟨S1, a1, a2, a3, a4, a5, a6, a7⟩ := x_empty_loop (N := N) (F := F) (S := S) (a := A 16) (ra := A 76) (fun S1 h => by rw [gR_of h]; exact g700) n76 6 0 F (uI (uI S 702 (A 16) 0) 703 (A 16) 0) (by omega) (by omega) rfl
  have a1' : s_X7_empty_L12 N F F (A 16) 0 (uI (uI S 702 (A 16) 0) 703 (A 16) 0) = some S1 := a1
  have hr1 : S1.2.2.1 = S.2.2.1 := a4
  have gI1 : ∀ f p, gI S1 f p = gI (uI (uI S 702 (A 16) 0) 703 (A 16) 0) f p := fun f p => by unfold gI; rw [a2]
  have u903 : gI S1 903 u = ii nf := by rw [gI1, gI_uI, if_neg (by omega), gI_uI, if_neg (by omega)]; exact hnf
  have u906 : gI S1 906 u = L := by rw [gI1, gI_uI, if_neg (by omega), gI_uI, if_neg (by omega)]; exact hLw
  obtain ⟨w1, hw1⟩ : ∃ w1 : Int32, w1 = ii (if nf = 0 then -1 else 0) := ⟨_, rfl⟩
  obtain ⟨S16, hS16⟩ : ∃ S16, S16 = uI (uI (uI (uI (uI (uI (uI (uI S1 701 (A 16) w1) 0 (A 2) L) 501 (A (31 + 2 * c)) 0) 109 (A 3) 0) 110 (A 3) 0) 111 (A 3) 0) 403 (A 13) 0) 1115 x 0 := ⟨_, rfl⟩
  obtain ⟨S2, b1, b2', b3, b4, b5, b6, b7⟩ := x_laid_loop (N := N) (F := F) (S := S) (x := x) (ra := A 19) (fun S1 h => by rw [gR_of h]; exact g1107) n19 4 0 F S16 (by omega) (by omega) (by rw [hS16]; exact hr1)
  have b1' : s_X11_begin_L73 N F F x 0 S16 = some S2 := b1
  have hJ : s_X11_begin_J26 N F x (A 16) w1 S1 = some S2 := by
    unfold s_X11_begin_J26 s_X1_empty
    simp only [bnd_def]
    have ru : ∀ (S3 : HS) (f' p' : Nat) (v : Int32) (g b : Nat), gR (uI S3 f' p' v) g b = gR S3 g b := fun _ _ _ _ _ _ => rfl
    simp only [ru]
    rw [gR_of hr1 1101 x, g1101, bd1_some, gR_of hr1 1111 x, hu, bd1_some, show gI (uI S1 701 (A 16) w1) 906 u = L by rw [gI_uI, if_neg (by omega)]; exact u906, gR_of hr1 1113 x, hc, bd1_some, gR_of hr1 1102 x, g1102, bd1_some, gR_of hr1 1103 x, g1103, bd1_some, ← hS16, b1']
  have hout : s_X11_begin N F x S = some S2 := by
    unfold s_X11_begin s_X7_empty
    simp only [bnd_def]
    rw [g1104, bd1_some, a1', bd1_some, gR_of hr1, g1104, bd1_some, gR_of hr1, hu, bd1_some, u903]
    have c0 : (ii (nf : Int) ≤ (0 : Int32)) = (nf = 0) := by rw [k0, ii_le (by omega) (by omega) (by omega) (by omega)]; apply propext; omega
    simp only [c0]
    by_cases w : nf = 0
    · rw [if_pos w]
      rw [if_pos w] at hw1
      have : w1 = -1 := by rw [hw1]; decide
      rw [← this]; exact hJ
    · rw [if_neg w]
      rw [if_neg w] at hw1
      have : w1 = 0 := by rw [hw1]; rfl
      rw [← this]; exact hJ
  have ne : ∀ i j, i ≠ j → A i ≠ A j := fun i j h e => h ((hA i j).mp e)
  have gI2 : ∀ f p, gI S2 f p = gI S16 f p := fun f p => by unfold gI; rw [b2']
  have aI16 : ∀ p, aI S16 p = aI S1 p := fun p => by rw [hS16]; rfl
  refine ⟨S2, hout, fun f p q1 q2 q3 q4 q5 q6 => ?_, by rw [b4, hS16]; exact hr1, by rw [b5, hS16]; exact a5, fun p p1 p2 => ?_, ?_, ?_, ?_, fun r hr => ?_, ?_, ?_, ?_, ?_, ?_, ?_, ?_, fun k hk => ?_⟩
  · rw [gI2, hS16, gI_uI, if_neg (fun r => q6 ⟨r.2, r.1⟩), gI_uI, if_neg (fun r => q5 ⟨r.2, r.1⟩), gI_uI, if_neg (fun r => q4 ⟨r.2, by omega⟩), gI_uI, if_neg (fun r => q4 ⟨r.2, by omega⟩), gI_uI, if_neg (fun r => q4 ⟨r.2, by omega⟩), gI_uI, if_neg (fun r => q3 ⟨r.2, r.1⟩), gI_uI, if_neg (fun r => q2 ⟨r.2, r.1⟩), gI_uI, if_neg (fun r => q1 ⟨r.2, by omega⟩), gI1, gI_uI, if_neg (fun r => q1 ⟨r.2, by omega⟩), gI_uI, if_neg (fun r => q1 ⟨r.2, by omega⟩)]
  · rw [b6 p p2, aI16, a6 p p1]; rfl
  · rw [gI2, hS16, gI_uI, if_neg (by omega), gI_uI, if_neg (by omega), gI_uI, if_neg (by omega), gI_uI, if_neg (by omega), gI_uI, if_neg (by omega), gI_uI, if_neg (by omega), gI_uI, if_neg (by omega), gI_uI, if_pos ⟨rfl, rfl⟩, hw1]
  · rw [gI2, hS16, gI_uI, if_neg (by omega), gI_uI, if_neg (by omega), gI_uI, if_neg (by omega), gI_uI, if_neg (by omega), gI_uI, if_neg (by omega), gI_uI, if_neg (by omega), gI_uI, if_neg (by omega), gI_uI, if_neg (by omega), gI1, gI_uI, if_neg (by omega), gI_uI, if_pos ⟨rfl, rfl⟩]
  · rw [gI2, hS16, gI_uI, if_neg (by omega), gI_uI, if_neg (by omega), gI_uI, if_neg (by omega), gI_uI, if_neg (by omega), gI_uI, if_neg (by omega), gI_uI, if_neg (by omega), gI_uI, if_neg (by omega), gI_uI, if_neg (by omega), gI1, gI_uI, if_pos ⟨rfl, rfl⟩]
  · rw [b6 _ (ne 76 19 (by decide)), aI16, a7, if_pos (by omega)]
  · rw [gI2, hS16, gI_uI, if_neg (by omega), gI_uI, if_neg (by omega), gI_uI, if_neg (by omega), gI_uI, if_neg (by omega), gI_uI, if_neg (by omega), gI_uI, if_neg (by omega), gI_uI, if_pos ⟨rfl, rfl⟩]
  · rw [gI2, hS16, gI_uI, if_neg (by omega), gI_uI, if_neg (by omega), gI_uI, if_neg (by omega), gI_uI, if_neg (by omega), gI_uI, if_neg (by omega), gI_uI, if_pos ⟨rfl, rfl⟩]
  · rw [gI2, hS16, gI_uI, if_neg (by omega), gI_uI, if_neg (by omega), gI_uI, if_neg (by omega), gI_uI, if_neg (by omega), gI_uI, if_pos ⟨rfl, rfl⟩]
  · rw [gI2, hS16, gI_uI, if_neg (by omega), gI_uI, if_neg (by omega), gI_uI, if_neg (by omega), gI_uI, if_pos ⟨rfl, rfl⟩]
  · rw [gI2, hS16, gI_uI, if_neg (by omega), gI_uI, if_neg (by omega), gI_uI, if_pos ⟨rfl, rfl⟩]
  · rw [gI2, hS16, gI_uI, if_neg (by omega), gI_uI, if_pos ⟨rfl, rfl⟩]
  · rw [gI2, hS16, gI_uI, if_pos ⟨rfl, rfl⟩]
  · rw [b7, if_pos (by omega)]
end XBEG
end
