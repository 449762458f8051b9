section
/- what stands behind all lines -/
def CLF (N2 : Nat → Nat) (q a u us un ur r m : Nat) (B : Nat → Nat) (tp : List Nat) (n : Nat) (G : GS) (S S2' : HS) (G' : GS) (S' : HS) : Prop :=
  (∀ p, p ∈ G.1 → p ∈ G'.1 ∧ G'.2.2 p = G.2.2 p) ∧ FRX (fun p => p ∈ G.1) a u us un ur S S' ∧ ∃ (i' f' : Nat) (V' : UNt) (own' : Bool) (kc' : Nat), JR G'.2.2 N2 a r m B tp n S' S2' i' f' ∧ (f' = 0 → UX G' S' q a u us un ur V' own' ∧ UY S2' m B V' own' kc' ∧ UOK V' ∧ NOK V' ∧ kc' ≤ i')
section ULOOP
variable {N2 : Nat → Nat} {F : Nat} {q a u us un ur r m : Nat} {B : Nat → Nat} {tp : List Nat} {n : Nat}
theorem u_loop (hF : 3000 ≤ F) (hB : ∀ i j, B i = B j ↔ i = j) (hnr : un ≠ ur) (hau : a ≠ u) : ∀ (d j M M2 : Nat) (G : GS) (S S2 : HS) (i f : Nat) (V : UNt) (own : Bool) (kc : Nat), (f = 0 → n ≤ i + d) → d < M → d < M2 → j ≤ 1000 → (f = 0 → j ≤ i) → JR G.2.2 N2 a r m B tp n S S2 i f → (f = 0 → UX G S q a u us un ur V own ∧ UY S2 m B V own kc ∧ UOK V ∧ NOK V ∧ kc ≤ i) → gR S 1000 q = some a → (q ∈ G.1 ∧ a ∈ G.1 ∧ u ∈ G.1 ∧ us ∈ G.1 ∧ un ∈ G.1 ∧ ur ∈ G.1 ∧ r ∈ G.1) →
    ∃ S2', (∀ kk : Nat → HS → Option (Int32 × HS), s_X12_unit_L20 N2 F kk M2 m S2 = kk m S2') ∧ FRY m B S2 S2' ∧ (∃ G' S', CLF N2 q a u us un ur r m B tp n G S S2' G' S') ∧ ∀ P : GS → HS → Prop, (∀ G' S', CLF N2 q a u us un ur r m B tp n G S S2' G' S' → P G' S') → w_X10_readAll_L9 F P M q (ii j) G S := by
  intro d
  have stop : ∀ (j M M2 : Nat) (G : GS) (S S2 : HS) (i f : Nat) (V : UNt) (own : Bool) (kc : Nat), 0 < M → 0 < M2 → JR G.2.2 N2 a r m B tp n S S2 i f → (f = 0 → UX G S q a u us un ur V own ∧ UY S2 m B V own kc ∧ UOK V ∧ NOK V ∧ kc ≤ i) → gR S 1000 q = some a → (f ≠ 0 ∨ tWhat tp (pt tp i) = 0) →
      ∃ S2', (∀ kk : Nat → HS → Option (Int32 × HS), s_X12_unit_L20 N2 F kk M2 m S2 = kk m S2') ∧ FRY m B S2 S2' ∧ (∃ G' S', CLF N2 q a u us un ur r m B tp n G S S2' G' S') ∧ ∀ P : GS → HS → Prop, (∀ G' S', CLF N2 q a u us un ur r m B tp n G S S2' G' S' → P G' S') → w_X10_readAll_L9 F P M q (ii j) G S := by
    intro j M M2 G S S2 i f V own kc hM hM2 h hU hq hst
    obtain ⟨M, rfl⟩ : ∃ w, M = w + 1 := ⟨M - 1, by omega⟩
    obtain ⟨M2, rfl⟩ : ∃ w, M2 = w + 1 := ⟨M2 - 1, by omega⟩
    have hx : s_X8_goesOn a S = 0 := by
      unfold s_X8_goesOn
      rw [xr_fault h.2.1]
      simp only [(c_f0 h).1]
      by_cases w : f = 0
      · subst w
        rcases hst with w2 | w2
        · exact absurd rfl w2
        · rw [if_pos rfl, h.x0.2.2.1, w2, if_pos (show (ii ((0 : Nat) : Int) = (0 : Int32)) from rfl)]
      · rw [if_neg w]
    have hc : CLF N2 q a u us un ur r m B tp n G S S2 G S := ⟨fun p hp => ⟨hp, rfl⟩, FRX.refl _ _ _ _ _ _ _, i, f, V, own, kc, h, hU⟩
    refine ⟨S2, fun kk => ?_, FRY.refl _ _ _, ⟨G, S, hc⟩, fun P hP => ?_⟩
    · obtain ⟨a1, a2, a3, a4, a5, ⟨a6, a7, a8⟩, a9, a10, _⟩ := y_at h.2.2.1 h.2.2.2.2.1 h.1.2.2.2.1
      unfold s_X12_unit_L20
      rw [a5]
      simp only [(c_f0 h).1]
      by_cases w : f = 0
      · rcases hst with w2 | w2
        · exact absurd w w2
        · rw [if_pos w, a1, bd1_some, a4, if_pos a6, a9, a10]
          simp only [sO_0]
          rw [if_pos w2]
      · rw [if_neg w]
    · unfold w_X10_readAll_L9
      by_cases w : (1000 : Int32) < ii (j : Int)
      · rw [if_pos w]; exact hP G S hc
      · rw [if_neg w]
        refine ⟨a, hq, ?_⟩
        dsimp only
        rw [if_pos hx]; exact hP G S hc
  induction d with
  | zero =>
    intro j M M2 G S S2 i f V own kc hn hM hM2 hj hji h hU hq hin
    refine stop j M M2 G S S2 i f V own kc hM hM2 h hU hq ?_
    by_cases w : f = 0
    · right
      have := hn w
      have := h.2.2.2.2.1.2.1
      exact h.end.mpr (by omega)
    · exact Or.inl w
  | succ d ih =>
    intro j M M2 G S S2 i f V own kc hn hM hM2 hj hji h hU hq hin
    by_cases w : f ≠ 0 ∨ tWhat tp (pt tp i) = 0
    · exact stop j M M2 G S S2 i f V own kc (by omega) (by omega) h hU hq w
    have w0 : f = 0 := by omega
    have w2 : tWhat tp (pt tp i) ≠ 0 := by omega
    subst w0
    obtain ⟨hX, hY, hUk, hNk, hkc⟩ := hU rfl
    have hlt := h.lt w2
    have hnb := h.2.2.2.2.1.1
    have hlen := h.1.2.2.2.1
    have hji0 := hji rfl
    obtain ⟨M, rfl⟩ : ∃ w, M = w + 1 := ⟨M - 1, by omega⟩
    obtain ⟨M2, rfl⟩ : ∃ w, M2 = w + 1 := ⟨M2 - 1, by omega⟩
    have hgo : s_X8_goesOn a S ≠ 0 := by
      have hb := tWhat_b h.1.2.2.2.2.1 (pt tp i)
      have cw : (ii (tWhat tp (pt tp i) : Int) = (0 : Int32)) = (tWhat tp (pt tp i) = 0) := by rw [k0, ii_eq (by omega) (by omega) (by omega) (by omega)]; apply propext; omega
      unfold s_X8_goesOn
      rw [xr_fault h.2.1, if_pos (show (ii ((0 : Nat) : Int) = (0 : Int32)) from rfl), h.x0.2.2.1]
      simp only [cw]
      rw [if_neg w2]; decide
    -- the class's words
    have h1 : s_X8_isWord F a 1 S = some (b2 (decide (tkW tp i = wds 1))) := x_isWord hF h.x0 h.1.2.2.2.2.1 (p := 0) (by omega)
    have h2 : s_X8_isWord F a 2 S = some (b2 (decide (tkW tp i = wds 2))) := x_isWord hF h.x0 h.1.2.2.2.2.1 (p := 1) (by omega)
    have h3 : s_X8_isWord F a 3 S = some (b2 (decide (tkW tp i = wds 3))) := x_isWord hF h.x0 h.1.2.2.2.2.1 (p := 2) (by omega)
    have hne12 : wds 2 ≠ wds 1 := by decide +kernel
    have hne13 : wds 3 ≠ wds 1 := by decide +kernel
    have hne23 : wds 3 ≠ wds 2 := by decide +kernel
    -- one line, whichever it is
    obtain ⟨S21, S2a, m1, m2, m3, hex, hline⟩ : ∃ S21 S2a, s_X12_readLine N2 F m S2 = some S21 ∧ s_X12_takeSign N2 m 59 S21 = some S2a ∧ FRY m B S2 S2a ∧ (∃ G' S', CLE N2 q a u us un ur r m B tp n G S S2a i G' S') ∧ ∀ P : GS → HS → Prop, (∀ G' S', CLE N2 q a u us un ur r m B tp n G S S2a i G' S' → w_X10_readAll_L9 F P M q (ii (j + 1 : Nat)) G' S') → w_X10_readAll_L9 F P (M + 1) q (ii j) G S := by
      have step : ∀ P : GS → HS → Prop, (bd1p (gR S 1000 q) fun t7 => bd1p (s_X8_isWord F t7 1 S) fun r8 => if r8 = (0 : Int32) then bd1p (gR S 1000 q) fun t11 => bd1p (s_X8_isWord F t11 2 S) fun r12 => if r12 = (0 : Int32) then bd1p (gR S 1000 q) fun t15 => bd1p (s_X8_isWord F t15 3 S) fun r16 => if r16 = (0 : Int32) then bd1p (gR S 1000 q) fun t19 => bnd (s_X8_blame t19 1 S) fun S20 => w_X10_readAll_J91 F P (w_X10_readAll_L9 F P M) q (ii j) G S20 else w_X10_readOwn F q G S (fun G22 S23 => w_X10_readAll_J91 F P (w_X10_readAll_L9 F P M) q (ii j) G22 S23) else bd1p (s_X10_readRegister G.2.2 F q S) fun S25 => w_X10_readAll_J91 F P (w_X10_readAll_L9 F P M) q (ii j) G S25 else w_X10_readForm F q G S (fun G26 S27 => w_X10_readAll_J91 F P (w_X10_readAll_L9 F P M) q (ii j) G26 S27)) → w_X10_readAll_L9 F P (M + 1) q (ii j) G S := by
        intro P hP
        unfold w_X10_readAll_L9
        rw [if_neg (j1000 hj)]
        refine ⟨a, hq, ?_⟩
        dsimp only
        rw [if_neg hgo]
        exact hP
      have j91 : ∀ (P : GS → HS → Prop) (G' : GS) (S' : HS), w_X10_readAll_L9 F P M q (ii (j + 1 : Nat)) G' S' → w_X10_readAll_J91 F P (w_X10_readAll_L9 F P M) q (ii j) G' S' := by
        intro P G' S' hP
        unfold w_X10_readAll_J91
        rw [bnd_def, j_inc]; exact hP
      by_cases q1 : tkW tp i = wds 1
      · obtain ⟨S21, S2a, e1, e2, e3, e4, e5⟩ := u_form (F := F) hF hB h hlt hX hY hUk hNk hkc hnr hin hau q1
        refine ⟨S21, S2a, e1, e2, e3, e4, fun P hP => step P ⟨a, hq, _, h1, ?_⟩⟩
        dsimp only
        rw [decide_eq_true q1, if_neg (show ¬ b2 true = (0 : Int32) by decide)]
        exact e5 _ (fun G' S' hc => j91 P G' S' (hP G' S' hc))
      by_cases q2 : tkW tp i = wds 2
      · obtain ⟨S21, S2a, S', e0, e1, e2, e3, e4⟩ := u_reg (F := F) hF hB h hlt hX hY hUk hNk hkc hnr q2
        refine ⟨S21, S2a, e1, e2, e3, ⟨G, S', e4⟩, fun P hP => step P ⟨a, hq, _, h1, ?_⟩⟩
        dsimp only
        rw [decide_eq_false q1, if_pos (show b2 false = (0 : Int32) by decide)]
        refine ⟨a, hq, _, h2, ?_⟩
        dsimp only
        rw [decide_eq_true q2, if_neg (show ¬ b2 true = (0 : Int32) by decide)]
        exact ⟨S', e0, j91 P G S' (hP G S' e4)⟩
      by_cases q3 : tkW tp i = wds 3
      · obtain ⟨S21, S2a, e1, e2, e3, e4, e5⟩ := u_own (F := F) hF hB h hlt hX hY hUk hNk hkc hin q3
        refine ⟨S21, S2a, e1, e2, e3, e4, fun P hP => step P ⟨a, hq, _, h1, ?_⟩⟩
        dsimp only
        rw [decide_eq_false q1, if_pos (show b2 false = (0 : Int32) by decide)]
        refine ⟨a, hq, _, h2, ?_⟩
        dsimp only
        rw [decide_eq_false q2, if_pos (show b2 false = (0 : Int32) by decide)]
        refine ⟨a, hq, _, h3, ?_⟩
        dsimp only
        rw [decide_eq_true q3, if_neg (show ¬ b2 true = (0 : Int32) by decide)]
        exact e5 _ (fun G' S' hc => j91 P G' S' (hP G' S' hc))
      · obtain ⟨y1, y2, y3⟩ := y_lineWords (f := 0) h
        obtain ⟨S9, z1, z2⟩ := j_wrong (k := 1) (by omega) h
        obtain ⟨d1, d2, d3, d4, d5⟩ := z2
        have z1' : s_X12_wrong N2 m 1 S2 = some S9 := z1
        have hb1 : bl 0 1 (tQ0 tp (pt tp i)) ≠ 0 := by rw [bl_0]; omega
        obtain ⟨S3, t1, t2, t3⟩ := u_fault d3 hb1
        have hc : CLE N2 q a u us un ur r m B tp n G S S3 i G (s_X8_blame a (ii (1 : Nat)) S) := CLE.fault V own kc d1 t3 hb1
        refine ⟨S9, S3, ?_, t1, (d2.trans t2).fy B, ⟨G, _, hc⟩, fun P hP => step P ⟨a, hq, _, h1, ?_⟩⟩
        · unfold s_X12_readLine
          rw [y1, bd1_some, decide_eq_false q1, if_pos (show b2 false = (0 : Int32) by decide), y2, bd1_some, decide_eq_false q2, if_pos (show b2 false = (0 : Int32) by decide), y3, bd1_some, decide_eq_false q3, if_pos (show b2 false = (0 : Int32) by decide), z1', bd1_some]
        · dsimp only
          rw [decide_eq_false q1, if_pos (show b2 false = (0 : Int32) by decide)]
          refine ⟨a, hq, _, h2, ?_⟩
          dsimp only
          rw [decide_eq_false q2, if_pos (show b2 false = (0 : Int32) by decide)]
          refine ⟨a, hq, _, h3, ?_⟩
          dsimp only
          rw [decide_eq_false q3, if_pos (show b2 false = (0 : Int32) by decide)]
          exact ⟨a, hq, j91 P G _ (hP G _ hc)⟩
    -- the model's loop
    have hmod : ∀ kk : Nat → HS → Option (Int32 × HS), s_X12_unit_L20 N2 F kk (M2 + 1) m S2 = s_X12_unit_L20 N2 F kk M2 m S2a := by
      intro kk
      obtain ⟨a1, a2, a3, a4, a5, ⟨a6, a7, a8⟩, a9, a10, _⟩ := y_at h.2.2.1 h.2.2.2.2.1 h.1.2.2.2.1
      rw [s_X12_unit_L20, a5, if_pos (show (ii ((0 : Nat) : Int) = (0 : Int32)) from rfl), a1, bd1_some, a4, if_pos a6, a9, a10]
      simp only [sO_0]
      rw [if_neg w2, m1, bd1_some, m2, bd1_some]
    -- what follows, from anything that stands behind the line
    have rest : ∀ G1 S1, CLE N2 q a u us un ur r m B tp n G S S2a i G1 S1 → ∃ S2', (∀ kk : Nat → HS → Option (Int32 × HS), s_X12_unit_L20 N2 F kk M2 m S2a = kk m S2') ∧ FRY m B S2a S2' ∧ (∃ G' S', CLF N2 q a u us un ur r m B tp n G S S2' G' S') ∧ ∀ P : GS → HS → Prop, (∀ G' S', CLF N2 q a u us un ur r m B tp n G S S2' G' S' → P G' S') → w_X10_readAll_L9 F P M q (ii (j + 1 : Nat)) G1 S1 := by
      intro G1 S1 hc
      obtain ⟨g1, g2, i1, f1, V1, own1, kc1, g3, g4⟩ := hc
      obtain ⟨n1, n2, n3, n4, n5, n6, n7⟩ := hin
      obtain ⟨S2', e1, e2, e3, e4⟩ := ih (j + 1) M M2 G1 S1 S2a i1 f1 V1 own1 kc1 (fun z => by have := (g4 z).1; have := hn rfl; omega) (by omega) (by omega) (by omega) (fun z => by have := (g4 z).1; omega) g3 (fun z => (g4 z).2) ((g2.2.1 1000 q n1).trans hq) ⟨(g1 q n1).1, (g1 a n2).1, (g1 u n3).1, (g1 us n4).1, (g1 un n5).1, (g1 ur n6).1, (g1 r n7).1⟩
      have conv : ∀ G' S', CLF N2 q a u us un ur r m B tp n G1 S1 S2' G' S' → CLF N2 q a u us un ur r m B tp n G S S2' G' S' := by
        rintro G' S' ⟨k1', k2', k3'⟩
        exact ⟨fun p hp => ⟨(k1' p (g1 p hp).1).1, (k1' p (g1 p hp).1).2.trans (g1 p hp).2⟩, g2.trans (k2'.mono (fun p hp => (g1 p hp).1)), k3'⟩
      obtain ⟨G', S', hc'⟩ := e3
      exact ⟨S2', e1, e2, ⟨G', S', conv G' S' hc'⟩, fun P hP => e4 P (fun G' S' hc => hP G' S' (conv G' S' hc))⟩
    obtain ⟨G1, S1, hc1⟩ := hex
    obtain ⟨S2', e1, e2, e3, _⟩ := rest G1 S1 hc1
    refine ⟨S2', fun kk => (hmod kk).trans (e1 kk), m3.trans e2, e3, fun P hP => hline P (fun G' S' hc => ?_)⟩
    obtain ⟨S2'', f1, f2, f3, f4⟩ := rest G' S' hc
    have hs := (e1 (fun _ S => some (0, S))).symm.trans (f1 (fun _ S => some (0, S)))
    have : S2' = S2'' := by injection hs with hs; exact (Prod.mk.inj hs).2
    subst this
    exact f4 P hP
end ULOOP
end
