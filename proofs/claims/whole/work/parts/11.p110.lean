section
/- a new form -/
def x2I (k e fr : Int32) : Int32 := if k = (3 : Int32) then (1 : Int32) <<< ((e + fr) &&& 31) else (((1 : Int32) <<< (e &&& 31)) - 1) <<< (fr &&& 31)
def x2N (k e fr : Int32) : Int32 := if k = (3 : Int32) then -1 else x2I k e fr ||| ((1 : Int32) <<< ((fr - 1) &&& 31))
theorem x2_num : ∀ k : Fin 4, ∀ e : Fin 9, ∀ fr : Fin 19, 2 ≤ e.val → 1 ≤ fr.val → ((1 : Int32) <<< ((ii (e.val : Nat) - 1) &&& 31)) - 1 = ii (nB e.val) ∧ (1 : Int32) <<< ((ii (e.val : Nat) + ii (fr.val : Nat)) &&& 31) = ii (2 ^ (e.val + fr.val) : Nat) ∧ x2I (ii (k.val : Nat)) (ii (e.val : Nat)) (ii (fr.val : Nat)) = ii (nInf k.val e.val fr.val) ∧ x2I (ii (k.val : Nat)) (ii (e.val : Nat)) (ii (fr.val : Nat)) - 1 = ii (nInf k.val e.val fr.val - 1 : Nat) ∧ x2N (ii (k.val : Nat)) (ii (e.val : Nat)) (ii (fr.val : Nat)) = ii (nNaN k.val e.val fr.val) := by decide +kernel
theorem x2_init (S : HS) (q : Nat) (k e fr : Int32) : (∀ f p, ¬ (p = q ∧ 200 ≤ f ∧ f ≤ 207) → gI (s_X2_init q k e fr S) f p = gI S f p) ∧ (s_X2_init q k e fr S).2 = S.2 ∧ gI (s_X2_init q k e fr S) 200 q = k ∧ gI (s_X2_init q k e fr S) 201 q = e ∧ gI (s_X2_init q k e fr S) 202 q = fr ∧ gI (s_X2_init q k e fr S) 203 q = ((1 : Int32) <<< ((e - 1) &&& 31)) - 1 ∧ gI (s_X2_init q k e fr S) 204 q = (1 : Int32) <<< ((e + fr) &&& 31) ∧ gI (s_X2_init q k e fr S) 205 q = x2I k e fr ∧ gI (s_X2_init q k e fr S) 206 q = x2I k e fr - 1 ∧ gI (s_X2_init q k e fr S) 207 q = x2N k e fr := by
  have key : ∀ (S5 : HS) (I : Int32), let S8 := uI (uI S5 205 q I) 206 q (I - 1); s_X2_init_J59 q k fr q I S5 = uI S8 207 q (if k = (3 : Int32) then -1 else I ||| ((1 : Int32) <<< ((fr - 1) &&& 31))) := by
    intro S5 I S8
    unfold s_X2_init_J59 s_X2_init_J92
    simp only [bnd_def]
    have e1 : gI (uI S5 205 q I) 205 q = I := by rw [gI_uI, if_pos ⟨rfl, rfl⟩]
    have e2 : gI (uI (uI S5 205 q I) 206 q (I - 1)) 205 q = I := by rw [gI_uI, if_neg (by omega)]; exact e1
    rw [e1, e2]
    by_cases w : k = (3 : Int32)
    · rw [if_pos w, if_pos w]
    · rw [if_neg w, if_neg w]
  have hS : s_X2_init q k e fr S = uI (uI (uI (uI (uI (uI (uI (uI S 200 q k) 201 q e) 202 q fr) 203 q (((1 : Int32) <<< ((e - 1) &&& 31)) - 1)) 204 q ((1 : Int32) <<< ((e + fr) &&& 31))) 205 q (x2I k e fr)) 206 q (x2I k e fr - 1)) 207 q (x2N k e fr) := by
    unfold s_X2_init
    simp only [bnd_def]
    have e4 : gI (uI (uI (uI (uI (uI S 200 q k) 201 q e) 202 q fr) 203 q (((1 : Int32) <<< ((e - 1) &&& 31)) - 1)) 204 q ((1 : Int32) <<< ((e + fr) &&& 31))) 204 q = (1 : Int32) <<< ((e + fr) &&& 31) := by rw [gI_uI, if_pos ⟨rfl, rfl⟩]
    rw [e4]
    by_cases w : k = (3 : Int32)
    · rw [if_pos w, key]
      have : x2I k e fr = (1 : Int32) <<< ((e + fr) &&& 31) := if_pos w
      unfold x2N
      rw [this]
    · rw [if_neg w, key]
      have : x2I k e fr = (((1 : Int32) <<< (e &&& 31)) - 1) <<< (fr &&& 31) := if_neg w
      unfold x2N
      rw [this]
  rw [hS]
  refine ⟨fun f p h => ?_, rfl, ?_, ?_, ?_, ?_, ?_, ?_, ?_, ?_⟩
  · rw [gI_uI, if_neg (by omega), gI_uI, if_neg (by omega), gI_uI, if_neg (by omega), gI_uI, if_neg (by omega), gI_uI, if_neg (by omega), gI_uI, if_neg (by omega), gI_uI, if_neg (by omega), gI_uI, if_neg (by omega)]
  · rw [gI_uI, if_neg (by omega), gI_uI, if_neg (by omega), gI_uI, if_neg (by omega), gI_uI, if_neg (by omega), gI_uI, if_neg (by omega), gI_uI, if_neg (by omega), gI_uI, if_neg (by omega), gI_uI, if_pos ⟨rfl, rfl⟩]
  · rw [gI_uI, if_neg (by omega), gI_uI, if_neg (by omega), gI_uI, if_neg (by omega), gI_uI, if_neg (by omega), gI_uI, if_neg (by omega), gI_uI, if_neg (by omega), gI_uI, if_pos ⟨rfl, rfl⟩]
  · rw [gI_uI, if_neg (by omega), gI_uI, if_neg (by omega), gI_uI, if_neg (by omega), gI_uI, if_neg (by omega), gI_uI, if_neg (by omega), gI_uI, if_pos ⟨rfl, rfl⟩]
  · rw [gI_uI, if_neg (by omega), gI_uI, if_neg (by omega), gI_uI, if_neg (by omega), gI_uI, if_neg (by omega), gI_uI, if_pos ⟨rfl, rfl⟩]
  · rw [gI_uI, if_neg (by omega), gI_uI, if_neg (by omega), gI_uI, if_neg (by omega), gI_uI, if_pos ⟨rfl, rfl⟩]
  · rw [gI_uI, if_neg (by omega), gI_uI, if_neg (by omega), gI_uI, if_pos ⟨rfl, rfl⟩]
  · rw [gI_uI, if_neg (by omega), gI_uI, if_pos ⟨rfl, rfl⟩]
  · rw [gI_uI, if_pos ⟨rfl, rfl⟩]
theorem x2_FM (S : HS) (q : Nat) {k e fr : Nat} (h : FO k e fr) : FM (s_X2_init q (ii k) (ii e) (ii fr) S) q k e fr := by
  obtain ⟨h1, h2, h3, h4, h5⟩ := h
  obtain ⟨a1, a2, b0, b1, b2', b3, b4, b5, b6, b7⟩ := x2_init S q (ii k) (ii e) (ii fr)
  obtain ⟨n1, n2, n3, n4, n5⟩ := x2_num ⟨k, by omega⟩ ⟨e, by omega⟩ ⟨fr, by omega⟩ h2 h4
  exact ⟨b0, b1, b2', b3.trans n1, b4.trans n2, b5.trans n3, b6.trans n4, b7.trans n5⟩
end
section
section UNAME
variable {N N2 : Nat → Nat} {F : Nat} {S S2 S' S2' : HS} {a r m u q : Nat} {B : Nat → Nat} {tp : List Nat} {n i f : Nat} {V : UNt}
theorem JR.wB (h : JR N N2 a r m B tp n S S2 i f) (hB : ∀ i j, B i = B j ↔ i = j) {k : Nat} (h1 : k ≠ 1) (h2 : k ≠ 2) (o : Nat) (v : Int32) : JR N N2 a r m B tp n S (wI S2 (B k) o v) i f := by
  obtain ⟨a1, a2, a3, a4, ⟨b1, b2', b3, b4, b5, b6, b7, b8⟩, a6⟩ := h
  have e1 : aI (wI S2 (B k) o v) (B 1) = aI S2 (B 1) := aI_wI_o _ _ _ _ (by rw [ne_eq, hB]; omega)
  have e2 : aI (wI S2 (B k) o v) (B 2) = aI S2 (B 2) := aI_wI_o _ _ _ _ (by rw [ne_eq, hB]; omega)
  refine ⟨a1, a2, a3, a4, ⟨b1, b2', fun k hk => ?_, b4, by rw [e1]; exact b5, by rw [e2]; exact b6, b7, b8⟩, a6⟩
  rw [e1, e2]; exact b3 k hk
theorem JR.wJB (h : JR N N2 a r m B tp n S S2 i f) (hB : ∀ i j, B i = B j ↔ i = j) (o : Nat) (v : Int64) : JR N N2 a r m B tp n S (wJ S2 (B 7) o v) i f := by
  obtain ⟨a1, a2, a3, a4, ⟨b1, b2', b3, b4, b5, b6, b7, b8⟩, a6⟩ := h
  have e3 : aJ (wJ S2 (B 7) o v) (B 3) = aJ S2 (B 3) := aJ_wJ_o _ _ _ _ (by rw [ne_eq, hB]; decide)
  have e4 : aJ (wJ S2 (B 7) o v) (B 4) = aJ S2 (B 4) := aJ_wJ_o _ _ _ _ (by rw [ne_eq, hB]; decide)
  refine ⟨a1, a2, a3, fun i v q => by rw [e4]; exact a4 i v q, ⟨b1, b2', fun k hk => ?_, b4, b5, b6, b7, b8⟩, a6⟩
  rw [e3]; exact b3 k hk
/- the kind of a form -/
theorem t_kind (hF : 3000 ≤ F) (h : JR N N2 a r m B tp n S S2 i f) (hq : gR S 1000 q = some a) :
    ∃ v v' S' S2' i' f', s_X10_passKind N F q S = some (v, S') ∧ s_X12_takeOne N2 F m 9 4 S2 = some (v', S2') ∧ JS N N2 a r m B tp n S S2 i f S' S2' i' f' ∧ (f' = 0 → v' = v ∧ ∃ z : Nat, v = ii z ∧ z < 4) := by
  have hr := xr_right h.2.1 h.2.2.2.2.2
  obtain ⟨g8, g7⟩ := h.yf
  have fin : ∀ (S4 S3 : HS) (f4 : Nat) (w : Int32), JS N N2 a r m B tp n S S2 i f S3 S4 i f4 → f4 ≠ 0 → ∃ S5, s_X12_takeOne_J34 N2 F m w S4 = some (0, S5) ∧ JS N N2 a r m B tp n S S2 i f S3 S5 i f4 := by
    intro S4 S3 f4 w h4 hf4
    have hs := y_stay h4.2.2.1
    obtain ⟨e8, e7⟩ := h4.2.2.1.yf
    have e8' : gI (uI S4 1207 m (ii (i : Int) + 0)) 1208 m = ii f4 := hs.2.2.1.yf.1
    unfold s_X12_takeOne_J34 s_X12_takeOne_J51
    rw [e8, e7, bnd_def, bnd_def, e8']
    simp only [(c_f0 h4.2.2.1).2]
    rw [if_neg hf4, if_neg hf4]
    exact ⟨_, rfl, h4.trans hs⟩
  obtain ⟨j, j1, j2⟩ := h.2.1
  have hkn := x_kindNamed hF j1 h.1.2.2.2.2.1
  unfold s_X10_passKind s_X10_passKind_J33
  rw [hq, bd1_some, hkn, bd1_some, bd1_some, hr]
  by_cases w : f = 0
  · subst w
    rw [j2 rfl]
    have hb := ix4_b 13 (tkW tp i)
    have hwh : s_X12_wordHere N2 F m 9 4 S2 = some (ii (wHr (tkW tp i) 9 4)) := y_wordHere (q := 9) (many := 4) hF h.2.2.1 h.2.2.2.1 h.2.2.2.2.1 h.1.2.2.2.1 (by omega)
    rw [← (ix4_w (tkW tp i)).2.1] at hwh
    unfold s_X12_takeOne s_X12_takeOne_J17
    rw [decide_eq_true rfl, if_neg (show ¬ b2 true = (0 : Int32) by decide), g8, if_pos (show (ii ((0 : Nat) : Int) ≤ (0 : Int32)) by decide), hwh]
    simp only [bd1_some]
    rw [if_pos (show (ii ((0 : Nat) : Int) = (0 : Int32)) from rfl)]
    have hlt0 : ix4 13 (tkW tp i) ≠ -1 → tWhat tp (pt tp i) ≠ 0 := by
      intro hz q0
      have hk : tkW tp i = [] := by
        by_cases w : tkW tp i = []
        · exact w
        · have := (tkW_ne tp i).mp w; omega
      rw [hk] at hz; exact hz (by decide +kernel)
    generalize ix4 13 (tkW tp i) = z at *
    have c1 : (ii z = (-1 : Int32)) = (z = -1) := by rw [show (-1 : Int32) = ii (-1) by decide, ii_eq (by omega) (by omega) (by omega) (by omega)]
    have c2 : ((0 : Int32) ≤ ii z) = (0 ≤ z) := by rw [k0, ii_le (by omega) (by omega) (by omega) (by omega)]
    simp only [c1, c2]
    by_cases qz : z = -1
    · obtain ⟨S4, y1, y2⟩ := j_wrong (k := 1) (by omega) h
      have y1' : s_X12_wrong N2 m 1 S2 = some S4 := y1
      have hb1 : bl 0 1 (tQ0 tp (pt tp i)) ≠ 0 := by rw [bl_0]; omega
      obtain ⟨S5, z1, z2⟩ := fin S4 _ _ (ii z) y2 hb1
      rw [if_pos qz, if_neg (show ¬ 0 ≤ z by omega), y1', bd1_some, z1, bnd_def]
      exact ⟨_, _, _, S5, i, _, rfl, rfl, z2, fun q => absurd q hb1⟩
    · obtain ⟨S', s1, s2⟩ := j_next (F := F) hF h (h.lt (hlt0 qz))
      have e8' : gI (uI S2 1207 m (ii (i : Int) + 1)) 1208 m = ii ((0 : Nat) : Int) := s2.2.2.1.yf.1
      unfold s_X12_takeOne_J34 s_X12_takeOne_J51
      rw [if_neg qz, if_pos (show 0 ≤ z by omega), s1, bd1_some, g8, if_pos (show (ii ((0 : Nat) : Int) ≤ (0 : Int32)) by decide), g7, bnd_def, e8', if_pos (show (ii ((0 : Nat) : Int) ≤ (0 : Int32)) by decide)]
      exact ⟨_, _, S', _, i + 1, 0, rfl, rfl, s2, fun _ => ⟨rfl, z.toNat, by rw [Int.toNat_of_nonneg (by omega)], by omega⟩⟩
  · obtain ⟨S4, y1, y2⟩ := j_wrong (k := 1) (by omega) h
    have eb : bl f 1 (tQ0 tp (pt tp i)) = f := bl_f w
    rw [eb] at y2
    have hx : JS N N2 a r m B tp n S S2 i f (s_X8_blame a (ii (1 : Nat)) S) S2 i f := ⟨y2.1, YBF.refl _ _, h.mk2 y2.1 (YBF.refl _ _) y2.2.2.1.2.1 h.2.2.2.2.1 h.2.2.2.2.2, Nat.le_refl _, fun _ => rfl⟩
    obtain ⟨S5, z1, z2⟩ := fin S2 _ _ (-1) hx w
    rw [decide_eq_false w, if_pos (show b2 false = (0 : Int32) by decide), bd1_some, bnd_def]
    unfold s_X12_takeOne s_X12_takeOne_J17
    rw [g8]
    simp only [(c_f0 h).1, (c_f0 h).2]
    rw [if_neg w, if_neg w, z1]
    exact ⟨_, _, _, S5, i, f, rfl, rfl, z2, fun q => absurd q w⟩
theorem y_read (hL : YLAY N2 S2.2.2.1 m B) {k : Nat} (hk : k < 15) : s_X12_read N2 m (ii k) S2 = some (aI S2 (B 5) (15 + k)) := by
  have r5 : gR S2 1210 m = some (B 5) := hL.1.2.2.2.2.2.1
  have n5 : N2 (B 5) = 30 := hL.2.2.1.2.2.2.2.2.1
  have e : (15 : Int32) + ii (k : Int) = ii ((15 + k : Nat) : Int) := by rw [k15, ii_add]; congr 1
  unfold s_X12_read
  rw [r5, bd1_some, e, if_pos (by rw [n5]; exact in_of (z := 15 + k) rfl (by omega) (by decide)), cl_of (z := 15 + k) rfl (by omega)]
/- a name's frame: the model's new names may change at one place -/
def NMF (m : Nat) (B : Nat → Nat) (o : Nat) (S S' : HS) : Prop := (∀ g p, ¬ (p = m ∧ (g = 1207 ∨ g = 1208)) → gI S' g p = gI S g p) ∧ S'.2.1 = S.2.1 ∧ S'.2.2.1 = S.2.2.1 ∧ S'.2.2.2.1 = S.2.2.2.1 ∧ (∀ p, p ≠ B 7 → aJ S' p = aJ S p) ∧ (∀ j, j ≠ o → aJ S' (B 7) j = aJ S (B 7) j) ∧ S'.2.2.2.2.2 = S.2.2.2.2.2
theorem YBF.nm (h : YBF m S S') (B : Nat → Nat) (o : Nat) : NMF m B o S S' := ⟨h.1, by rw [h.2], by rw [h.2], by rw [h.2], fun p _ => by unfold aJ; rw [h.2], fun j _ => by unfold aJ; rw [h.2], by rw [h.2]⟩
theorem NMF.trans {S'' : HS} {o : Nat} (h1 : NMF m B o S S') (h2 : NMF m B o S' S'') : NMF m B o S S'' := ⟨fun g p c => (h2.1 g p c).trans (h1.1 g p c), h2.2.1.trans h1.2.1, h2.2.2.1.trans h1.2.2.1, h2.2.2.2.1.trans h1.2.2.2.1, fun p c => (h2.2.2.2.2.1 p c).trans (h1.2.2.2.2.1 p c), fun j c => (h2.2.2.2.2.2.1 j c).trans (h1.2.2.2.2.2.1 j c), h2.2.2.2.2.2.2.trans h1.2.2.2.2.2.2⟩
/- a new name -/
theorem t_newName (hF : 3000 ≤ F) (h : JR N N2 a r m B tp n S S2 i 0) (hi : i < n) (hB : ∀ i j, B i = B j ↔ i = j) (hq : gR S 1000 q = some a) (hu : gR S 1001 q = some u) (hx1 : NMX N S u 903 901 4 (vA V) (vN V)) (hx2 : NMX N S u 904 902 6 (vB V) (vR V)) (hy1 : NMY S2 B (vA V) 10 (vN V)) (hy2 : NMY S2 B (vB V) 14 (vR V)) (hU : aI S2 (B 5) 15 = ii (vN V) ∧ aI S2 (B 5) 16 = ii (vR V)) {fr many most : Nat} (hfr : fr + many < 10) (hmm : many < most) (hmo : most < 10) :
    ∃ (S4 : HS) (v : Int64) (S6 S28 : HS) (i' f' : Nat), s_X8_advance N F a S = some S4 ∧ s_X10_passNewName N F q S4 = some (v, S6) ∧ s_X12_readName N2 F m (ii fr) (ii many) (ii most) S2 = some S28 ∧ RDB a S S6 ∧ NMF m B (10 + fr + many) S2 S28 ∧ JR N N2 a r m B tp n S6 S28 i' f' ∧ i < i' ∧
      (f' = 0 → ∃ W, nmk W ∧ v = jj (nm32 W) ∧ aJ S28 (B 7) (10 + fr + many) = jj (nm37 W) ∧ (∀ f, f < vN V → vA V f ≠ W) ∧ (∀ r, r < vR V → vB V r ≠ W)) := by
  obtain ⟨S4, s1, s2⟩ := j_next (F := F) hF h hi
  obtain ⟨b1, b2', b3, b4, b5⟩ := s2
  have hq4 : gR S4 1000 q = some a := by unfold gR; rw [b1.2]; exact hq
  have hu4 : gR S4 1001 q = some u := by unfold gR; rw [b1.2]; exact hu
  have hx1' : NMX N S4 u 903 901 4 (vA V) (vN V) := hx1.px (b1.1 _ _ (by omega)) (by rw [b1.2]) (by rw [b1.2])
  have hx2' : NMX N S4 u 904 902 6 (vB V) (vR V) := hx2.px (b1.1 _ _ (by omega)) (by rw [b1.2]) (by rw [b1.2])
  have cmn : ¬ ii (many : Int) = ii (most : Int) := by rw [ii_eq (by omega) (by omega) (by omega) (by omega)]; omega
  have hr4 := xr_right b3.2.1 b3.2.2.2.2.2
  have hxn := x_isName hF b3.x0 b3.1.2.2.2.2.1
  have hyn := y_isName hF b3.2.2.1 b3.2.2.2.1 b3.2.2.2.2.1 b3.1.2.2.2.1
  have hg7 : gI S2 1207 m = ii i := h.yf.2
  -- both blame behind the name's token
  have blame : ∀ kd : Nat, 1 ≤ kd → kd < 10 → ∃ S9, s_X12_wrong N2 m (ii kd) (uI S2 1207 m (ii i + 1)) = some S9 ∧ s_X12_readName_J69 N2 F m (ii fr) (ii many) S9 = some S9 ∧ RDB a S (s_X8_blame a (ii kd) S4) ∧ NMF m B (10 + fr + many) S2 S9 ∧ JR N N2 a r m B tp n (s_X8_blame a (ii kd) S4) S9 (i + 1) (bl 0 kd (tQ0 tp (pt tp (i + 1)))) ∧ bl 0 kd (tQ0 tp (pt tp (i + 1))) ≠ 0 := by
    intro kd k1' k2'
    obtain ⟨S9, y1, y2⟩ := j_wrong (k := kd) k2' b3
    obtain ⟨c1, c2, c3, c4, c5⟩ := y2
    have hb1 : bl 0 kd (tQ0 tp (pt tp (i + 1))) ≠ 0 := by rw [bl_0]; omega
    refine ⟨S9, y1, ?_, b1.trans c1, (b2'.nm B _).trans (c2.nm B _), c3, hb1⟩
    unfold s_X12_readName_J69
    rw [c3.yf.1]
    simp only [(c_f0 c3).1]
    rw [if_neg hb1]
  refine ⟨S4, ?_⟩
  unfold s_X10_passNewName s_X10_passNewName_J28 s_X12_readName
  rw [hq4, bd1_some, bnd_def, bd1_some, hr4, decide_eq_true rfl, if_neg (show ¬ b2 true = (0 : Int32) by decide), bd1_some, hxn, bd1_some, if_neg cmn, hg7, bnd_def, hyn]
  simp only [bd1_some]
  cases hb : nmB (tkW tp (i + 1))
  · obtain ⟨S9, z1, z2, z3, z4, z5, z6⟩ := blame 1 (by omega) (by omega)
    have z1' : s_X12_wrong N2 m 1 (uI S2 1207 m (ii i + 1)) = some S9 := z1
    rw [if_pos (show b2 false = (0 : Int32) by decide), if_pos (show b2 false = (0 : Int32) by decide), z1', bd1_some, z2, bnd_def]
    exact ⟨_, _, S9, i + 1, _, s1, rfl, rfl, z3, z4, z5, by omega, fun w => absurd w z6⟩
  · rw [if_neg (show ¬ b2 true = (0 : Int32) by decide), if_neg (show ¬ b2 true = (0 : Int32) by decide)]
    have hne : tkW tp (i + 1) ≠ [] := by
      intro e; rw [e] at hb; exact absurd hb (by decide)
    have h1 : tWhat tp (pt tp (i + 1)) = 1 := (tkW_ne tp _).mp hne
    have ek : tkW tp (i + 1) = wl tp (tQ0 tp (pt tp (i + 1))) (tW tp (pt tp (i + 1))) := if_pos h1
    have hv : gJ S4 805 a = jj (nm32 (tkW tp (i + 1))) := by rw [b3.x0.2.2.2.1 h1, ek]
    have hk := tkW_ok tp (i + 1)
    obtain ⟨v1, w1, w2⟩ := x_formNamed hF hx1' (gJ S4 805 a)
    obtain ⟨v2, w3, w4⟩ := x_registerNamed hF hx2' (gJ S4 805 a)
    have e1 := w2 _ hk hv
    have e2 := w4 _ hk hv
    have bA := nFd_b (vA V) (tkW tp (i + 1)) (vN V)
    have bB := nFd_b (vB V) (tkW tp (i + 1)) (vR V)
    have hn4 := hx1.2.1
    have hr6 := hx2.2.1
    have hy1' : NMY (uI S2 1207 m (ii i + 1)) B (vA V) 10 (vN V) := hy1
    have hy2' : NMY (uI S2 1207 m (ii i + 1)) B (vB V) 14 (vR V) := hy2
    have na1 : s_X12_nameAt N2 F m 10 (ii (vN V)) (uI S2 1207 m (ii i + 1)) = some (ii (nFd (vA V) (tkW tp (i + 1)) (vN V))) := y_nameAt hF b3.2.2.1 b3.2.2.2.2.1 b3.1.2.2.2.1 h1 hy1'
    have na2 : s_X12_nameAt N2 F m 14 (ii (vR V)) (uI S2 1207 m (ii i + 1)) = some (ii (nFd (vB V) (tkW tp (i + 1)) (vR V))) := y_nameAt hF b3.2.2.1 b3.2.2.2.2.1 b3.1.2.2.2.1 h1 hy2'
    have rd0 : s_X12_read N2 m 0 (uI S2 1207 m (ii i + 1)) = some (ii (vN V)) := by
      have := y_read (k := 0) b3.2.2.1 (by omega)
      rw [show aI (uI S2 1207 m (ii i + 1)) (B 5) (15 + 0) = ii (vN V) from hU.1] at this; exact this
    have rd1 : s_X12_read N2 m 1 (uI S2 1207 m (ii i + 1)) = some (ii (vR V)) := by
      have := y_read (k := 1) b3.2.2.1 (by omega)
      rw [show aI (uI S2 1207 m (ii i + 1)) (B 5) (15 + 1) = ii (vR V) from hU.2] at this; exact this
    have cA : (ii (nFd (vA V) (tkW tp (i + 1)) (vN V)) = (-1 : Int32)) = (nFd (vA V) (tkW tp (i + 1)) (vN V) = -1) := by rw [show (-1 : Int32) = ii (-1) by decide, ii_eq (by omega) (by omega) (by omega) (by omega)]
    have cB : (ii (nFd (vB V) (tkW tp (i + 1)) (vR V)) = (-1 : Int32)) = (nFd (vB V) (tkW tp (i + 1)) (vR V) = -1) := by rw [show (-1 : Int32) = ii (-1) by decide, ii_eq (by omega) (by omega) (by omega) (by omega)]
    have cA2 : ((0 : Int32) ≤ ii (nFd (vA V) (tkW tp (i + 1)) (vN V))) = (0 ≤ nFd (vA V) (tkW tp (i + 1)) (vN V)) := by rw [k0, ii_le (by omega) (by omega) (by omega) (by omega)]
    have cB2 : (ii (nFd (vB V) (tkW tp (i + 1)) (vR V)) < (0 : Int32)) = (nFd (vB V) (tkW tp (i + 1)) (vR V) < 0) := by rw [k0, ii_lt (by omega) (by omega) (by omega) (by omega)]
    obtain ⟨S9, z1, z2, z3, z4, z5, z6⟩ := blame 3 (by omega) (by omega)
    have z1' : s_X12_wrong N2 m 3 (uI S2 1207 m (ii i + 1)) = some S9 := z1
    unfold s_X9_isTold s_X12_readName_J64
    rw [hu4, bd1_some, w1, bd1_some, w3, bd1_some, rd0, bd1_some, na1, bd1_some, rd1, bd1_some, na2, bd1_some, z1', bd1_some, z2, e1, e2]
    simp only [cA, cB, cA2, cB2]
    by_cases qA : nFd (vA V) (tkW tp (i + 1)) (vN V) = -1
    · rw [if_pos qA, if_neg (show ¬ 0 ≤ nFd (vA V) (tkW tp (i + 1)) (vN V) by omega)]
      by_cases qB : nFd (vB V) (tkW tp (i + 1)) (vR V) = -1
      · have hlt := b3.lt (by omega)
        obtain ⟨S6, x1, x2⟩ := j_next (F := F) hF b3 hlt
        obtain ⟨c1, c2, c3, c4, c5⟩ := x2
        obtain ⟨g1, g2, g3, g4, g5, ⟨g6, g7, g8⟩, g9, g10, g11, g12, g13⟩ := y_at b3.2.2.1 b3.2.2.2.2.1 b3.1.2.2.2.1
        have hva : yVa tp (pt tp (i + 1)) = nm37 (tkW tp (i + 1)) := by unfold yVa; rw [if_pos h1, ek]
        have haj := g12 (by omega) (by omega)
        rw [hva] at haj
        have r7 : gR (uI S2 1207 m (ii i + 1)) 1213 m = some (B 7) := b3.2.2.1.1.2.2.2.2.2.2.2
        have n7 : N2 (B 7) = 20 := b3.2.2.1.2.2.1.2.2.2.2.2.2.2
        have eo : (10 : Int32) + ii (fr : Int) + ii (many : Int) = ii ((10 + fr + many : Nat) : Int) := by rw [k10, ii_add, ii_add]; congr 1
        have in7 : inB (ii ((10 + fr + many : Nat) : Int)) (N2 (B 7)) = true := by rw [n7]; exact in_of (z := 10 + fr + many) rfl (by omega) (by decide)
        have g4' : gI (wJ (uI S2 1207 m (ii i + 1)) (B 7) (10 + fr + many) (jj (nm37 (tkW tp (i + 1))))) 1207 m = ii ((i + 1 : Nat) : Int) := g4
        rw [if_pos qB, if_pos (show nFd (vB V) (tkW tp (i + 1)) (vR V) < 0 by omega), bd1_some, if_pos rfl, x1, bd1_some]
        unfold s_X12_readName_J69
        rw [g5, if_pos (show (ii ((0 : Nat) : Int) = (0 : Int32)) from rfl), r7, bd1_some, g3, bd1_some, g4, if_pos g8, eo, if_pos in7, cl_of (z := 10 + fr + many) rfl (by omega), g9, haj, bnd_def, g4', bnd_def]
        refine ⟨_, S6, _, i + 1 + 1, 0, s1, rfl, rfl, b1.trans c1, ⟨fun g p c => ?_, rfl, rfl, rfl, fun p hp => ?_, fun j hj => ?_, rfl⟩, ?_, by omega, fun _ => ⟨tkW tp (i + 1), hk, hv, ?_, fun f hf e => ?_, fun r hr e => ?_⟩⟩
        · rw [gI_uI, if_neg (fun r => c ⟨r.2, Or.inl r.1⟩)]
          show gI (uI S2 1207 m (ii i + 1)) g p = _
          rw [gI_uI, if_neg (fun r => c ⟨r.2, Or.inl r.1⟩)]
        · exact aJ_wJ_o (uI S2 1207 m (ii i + 1)) _ _ _ hp
        · show aJ (wJ (uI S2 1207 m (ii i + 1)) (B 7) (10 + fr + many) _) (B 7) j = _
          rw [aJ_wJ_s]; show (if j = 10 + fr + many then _ else aJ (uI S2 1207 m (ii i + 1)) (B 7) j) = _; rw [if_neg hj]; rfl
        · have := c3.wJB hB (10 + fr + many) (jj (nm37 (tkW tp (i + 1))))
          exact this
        · show aJ (wJ (uI S2 1207 m (ii i + 1)) (B 7) (10 + fr + many) _) (B 7) (10 + fr + many) = _
          rw [aJ_wJ_s]; show (if 10 + fr + many = 10 + fr + many then _ else _) = _; rw [if_pos rfl]
        · have := nFd_e (vA V) (tkW tp (i + 1)) (vN V) f hf e hx1.2.2.2.2; omega
        · have := nFd_e (vB V) (tkW tp (i + 1)) (vR V) r hr e hx2.2.2.2.2; omega
      · rw [if_neg qB, if_neg (show ¬ nFd (vB V) (tkW tp (i + 1)) (vR V) < 0 by omega), bd1_some, if_neg (show ¬ (1 : Int32) = 0 by decide), bnd_def]
        exact ⟨_, _, S9, i + 1, _, s1, rfl, rfl, z3, z4, z5, by omega, fun w => absurd w z6⟩
    · rw [if_neg qA, if_pos (show 0 ≤ nFd (vA V) (tkW tp (i + 1)) (vN V) by omega), bd1_some, if_neg (show ¬ (1 : Int32) = 0 by decide), bnd_def]
      exact ⟨_, _, S9, i + 1, _, s1, rfl, rfl, z3, z4, z5, by omega, fun w => absurd w z6⟩
end UNAME
end
section
/- a unit with one more form, one more register, a law -/
def addF (V : UNt) (k e fr : Nat) (W : List Nat) : UNt := (vN V + 1, fun f => if f = vN V then k else vK V f, fun f => if f = vN V then e else vE V f, fun f => if f = vN V then fr else vF V f, vR V, vL V, fun f => if f = vN V then W else vA V f, vB V)
def addR (V : UNt) (W : List Nat) : UNt := (vN V, vK V, vE V, vF V, vR V + 1, vL V, vA V, fun r => if r = vR V then W else vB V r)
def setL (V : UNt) (L : Nat) : UNt := (vN V, vK V, vE V, vF V, vR V, L, vA V, vB V)
/- the class's unit being read at u, its rows us un ur; the reader at q -/
def UX (G : GS) (S : HS) (q a u us un ur : Nat) (V : UNt) (own : Bool) : Prop :=
  (gR S 1000 q = some a ∧ gR S 1001 q = some u ∧ gR S 900 u = some us ∧ gR S 901 u = some un ∧ gR S 902 u = some ur) ∧ (G.2.2 us = 4 ∧ G.2.2 un = 4 ∧ G.2.2 ur = 6) ∧ (gI S 903 u = ii (vN V) ∧ gI S 904 u = ii (vR V) ∧ gI S 905 u = b2 own ∧ gI S 906 u = ii (vL V)) ∧
  (∀ f, f < vN V → ∃ p, p ∈ G.1 ∧ aR S us f = some p ∧ FM S p (vK V f) (vE V f) (vF V f)) ∧ (∀ f, f < vN V → aJ S un f = jj (nm32 (vA V f))) ∧ (∀ r, r < vR V → aJ S ur r = jj (nm32 (vB V r)))
/- the model's -/
def UY (S2 : HS) (m : Nat) (B : Nat → Nat) (V : UNt) (own : Bool) (kc : Nat) : Prop :=
  (aI S2 (B 5) 15 = ii (vN V) ∧ aI S2 (B 5) 16 = ii (vR V) ∧ gI S2 1212 m = ii kc) ∧ (∀ f, f < vN V → aI S2 (B 5) (18 + 3 * f) = ii (vK V f) ∧ aI S2 (B 5) (18 + 3 * f + 1) = ii (vE V f) ∧ aI S2 (B 5) (18 + 3 * f + 2) = ii (vF V f)) ∧ (∀ f, f < vN V → aJ S2 (B 7) (10 + f) = jj (nm37 (vA V f))) ∧ (∀ r, r < vR V → aJ S2 (B 7) (14 + r) = jj (nm37 (vB V r))) ∧
  (if own then aI S2 (B 5) 17 = ii 0 ∧ ∃ cs : List Int32, kc = cs.length + 1 ∧ cs.length ≤ 1000 ∧ (∀ (j : Nat) (c : Int32), cs[j]? = some c → aI S2 (B 6) (1100 + j) = c) ∧ aI S2 (B 6) (1100 + cs.length) = 0 ∧ cDp cs 0 = some 1 ∧ LWM cs (lawB (vL V)) else aI S2 (B 5) 17 = ii (-1) ∧ kc = 0 ∧ vL V = 0)
/- frames -/
def FRX (K : Nat → Prop) (a u us un ur : Nat) (S S' : HS) : Prop :=
  (∀ f p, K p → ¬ (p = a ∧ 802 ≤ f ∧ f ≤ 807) → ¬ (p = u ∧ 903 ≤ f ∧ f ≤ 906) → gI S' f p = gI S f p) ∧ (∀ f p, K p → gR S' f p = gR S f p) ∧ (∀ p, K p → aI S' p = aI S p) ∧ (∀ p, K p → p ≠ un → p ≠ ur → aJ S' p = aJ S p) ∧ (∀ p, K p → p ≠ us → aR S' p = aR S p)
def FRY (m : Nat) (B : Nat → Nat) (S S' : HS) : Prop :=
  (∀ g p, ¬ (p = m ∧ (g = 1207 ∨ g = 1208 ∨ g = 1212)) → gI S' g p = gI S g p) ∧ S'.2.1 = S.2.1 ∧ S'.2.2.1 = S.2.2.1 ∧ (∀ p, p ≠ B 5 → p ≠ B 6 → aI S' p = aI S p) ∧ (∀ o, o < 15 → aI S' (B 5) o = aI S (B 5) o) ∧ (∀ o, o < 1100 → aI S' (B 6) o = aI S (B 6) o) ∧ (∀ p, p ≠ B 7 → aJ S' p = aJ S p) ∧ (∀ o, o < 10 → aJ S' (B 7) o = aJ S (B 7) o) ∧ S'.2.2.2.2.2 = S.2.2.2.2.2
section UFR
variable {K : Nat → Prop} {a u us un ur m q : Nat} {B : Nat → Nat} {S S' S'' S2 S2' : HS} {G : GS} {V : UNt} {own : Bool} {kc : Nat}
theorem FRX.refl (K : Nat → Prop) (a u us un ur : Nat) (S : HS) : FRX K a u us un ur S S := ⟨fun _ _ _ _ _ => rfl, fun _ _ _ => rfl, fun _ _ => rfl, fun _ _ _ _ => rfl, fun _ _ _ => rfl⟩
theorem FRX.trans (h1 : FRX K a u us un ur S S') (h2 : FRX K a u us un ur S' S'') : FRX K a u us un ur S S'' :=
  ⟨fun f p k q1 q2 => (h2.1 f p k q1 q2).trans (h1.1 f p k q1 q2), fun f p k => (h2.2.1 f p k).trans (h1.2.1 f p k), fun p k => (h2.2.2.1 p k).trans (h1.2.2.1 p k), fun p k q1 q2 => (h2.2.2.2.1 p k q1 q2).trans (h1.2.2.2.1 p k q1 q2), fun p k q1 => (h2.2.2.2.2 p k q1).trans (h1.2.2.2.2 p k q1)⟩
theorem FRX.mono {K' : Nat → Prop} (h : FRX K a u us un ur S S') (hk : ∀ p, K' p → K p) : FRX K' a u us un ur S S' :=
  ⟨fun f p k => h.1 f p (hk p k), fun f p k => h.2.1 f p (hk p k), fun p k => h.2.2.1 p (hk p k), fun p k => h.2.2.2.1 p (hk p k), fun p k => h.2.2.2.2 p (hk p k)⟩
theorem RDB.fx (h : RDB a S S') (K : Nat → Prop) (u us un ur : Nat) : FRX K a u us un ur S S' :=
  ⟨fun f p _ q1 _ => h.1 f p q1, fun f p _ => by unfold gR; rw [h.2], fun p _ => by unfold aI; rw [h.2], fun p _ _ _ => by unfold aJ; rw [h.2], fun p _ _ => by unfold aR; rw [h.2]⟩
theorem FRY.refl (m : Nat) (B : Nat → Nat) (S : HS) : FRY m B S S := ⟨fun _ _ _ => rfl, rfl, rfl, fun _ _ _ => rfl, fun _ _ => rfl, fun _ _ => rfl, fun _ _ => rfl, fun _ _ => rfl, rfl⟩
theorem FRY.trans (h1 : FRY m B S S') (h2 : FRY m B S' S'') : FRY m B S S'' :=
  ⟨fun g p c => (h2.1 g p c).trans (h1.1 g p c), h2.2.1.trans h1.2.1, h2.2.2.1.trans h1.2.2.1, fun p c d => (h2.2.2.2.1 p c d).trans (h1.2.2.2.1 p c d), fun o c => (h2.2.2.2.2.1 o c).trans (h1.2.2.2.2.1 o c), fun o c => (h2.2.2.2.2.2.1 o c).trans (h1.2.2.2.2.2.1 o c), fun p c => (h2.2.2.2.2.2.2.1 p c).trans (h1.2.2.2.2.2.2.1 p c), fun o c => (h2.2.2.2.2.2.2.2.1 o c).trans (h1.2.2.2.2.2.2.2.1 o c), h2.2.2.2.2.2.2.2.2.trans h1.2.2.2.2.2.2.2.2⟩
theorem YBF.fy (h : YBF m S S') (B : Nat → Nat) : FRY m B S S' := ⟨fun g p c => h.1 g p (fun r => c ⟨r.1, by omega⟩), by rw [h.2], by rw [h.2], fun p _ _ => by unfold aI; rw [h.2], fun o _ => by unfold aI; rw [h.2], fun o _ => by unfold aI; rw [h.2], fun p _ => by unfold aJ; rw [h.2], fun o _ => by unfold aJ; rw [h.2], by rw [h.2]⟩
theorem NMF.fy {o : Nat} (h : NMF m B o S S') (ho : 10 ≤ o) : FRY m B S S' := ⟨fun g p c => h.1 g p (fun r => c ⟨r.1, by omega⟩), h.2.1, h.2.2.1, fun p _ _ => by unfold aI; rw [h.2.2.2.1], fun o _ => by unfold aI; rw [h.2.2.2.1], fun o _ => by unfold aI; rw [h.2.2.2.1], h.2.2.2.2.1, fun j hj => h.2.2.2.2.2.1 j (by omega), h.2.2.2.2.2.2⟩
theorem YXF.fy {lo : Nat} (h : YXF m (B 6) lo S S') (hl : 1100 ≤ lo) : FRY m B S S' := ⟨h.1, h.2.1, h.2.2.1, fun p _ p6 => h.2.2.2.1 p p6, fun o _ => by
    by_cases w : B 5 = B 6
    · rw [w]; exact h.2.2.2.2.1 o (by omega)
    · rw [h.2.2.2.1 _ w], fun o ho => h.2.2.2.2.1 o (by omega), fun p _ => by rw [aJ_of h.2.2.2.2.2], fun o _ => by rw [aJ_of h.2.2.2.2.2], by rw [h.2.2.2.2.2]⟩
theorem UX.tok (h : UX G S q a u us un ur V own) (hF : RDB a S S') : UX G S' q a u us un ur V own := by
  obtain ⟨⟨a1, a2, a3, a4, a5⟩, b, ⟨c1, c2, c3, c4⟩, d, e, f⟩ := h
  have hr : ∀ g p, gR S' g p = gR S g p := fun g p => by unfold gR; rw [hF.2]
  have hj : ∀ p, aJ S' p = aJ S p := fun p => by unfold aJ; rw [hF.2]
  have hq : ∀ p, aR S' p = aR S p := fun p => by unfold aR; rw [hF.2]
  refine ⟨⟨by rw [hr]; exact a1, by rw [hr]; exact a2, by rw [hr]; exact a3, by rw [hr]; exact a4, by rw [hr]; exact a5⟩, b, ⟨by rw [hF.1 _ _ (by omega)]; exact c1, by rw [hF.1 _ _ (by omega)]; exact c2, by rw [hF.1 _ _ (by omega)]; exact c3, by rw [hF.1 _ _ (by omega)]; exact c4⟩, fun g hg => ?_, by rw [hj]; exact e, by rw [hj]; exact f⟩
  obtain ⟨p, p1, p2, p3⟩ := d g hg
  exact ⟨p, p1, by rw [hq]; exact p2, p3.mono2 (fun f f1 f2 => hF.1 f p (by omega))⟩
theorem UY.tok (h : UY S2 m B V own kc) (hF : YBF m S2 S2') : UY S2' m B V own kc := by
  obtain ⟨⟨a1, a2, a3⟩, b, c, d, e⟩ := h
  have hi : ∀ p, aI S2' p = aI S2 p := fun p => by unfold aI; rw [hF.2]
  have hj : ∀ p, aJ S2' p = aJ S2 p := fun p => by unfold aJ; rw [hF.2]
  exact ⟨⟨by rw [hi]; exact a1, by rw [hi]; exact a2, by rw [hF.1 1212 m (by omega)]; exact a3⟩, by rw [hi]; exact b, by rw [hj]; exact c, by rw [hj]; exact d, by rw [hi, hi]; exact e⟩
theorem UX.nm {N : Nat → Nat} (h : UX G S q a u us un ur V own) (hN : NOK V) (hU : UOK V) (hn : N = G.2.2) : NMX N S u 903 901 4 (vA V) (vN V) ∧ NMX N S u 904 902 6 (vB V) (vR V) := by
  obtain ⟨⟨a1, a2, a3, a4, a5⟩, ⟨b1, b2', b3⟩, ⟨c1, c2, c3, c4⟩, d, e, f⟩ := h
  subst hn
  exact ⟨⟨c1, hU.1, ⟨un, a4, b2', e⟩, hN.1, hN.2.2.1⟩, ⟨c2, hU.2.1, ⟨ur, a5, b3, f⟩, hN.2.1, hN.2.2.2⟩⟩
theorem UY.nm (h : UY S2 m B V own kc) (hN : NOK V) (hU : UOK V) : NMY S2 B (vA V) 10 (vN V) ∧ NMY S2 B (vB V) 14 (vR V) := by
  obtain ⟨⟨a1, a2, a3⟩, b, c, d, e⟩ := h
  have := hU.1
  have := hU.2.1
  exact ⟨⟨c, hN.1, by omega⟩, ⟨d, hN.2.1, by omega⟩⟩
end UFR
/- what stands behind a line of a unit -/
def CLE (N2 : Nat → Nat) (q a u us un ur r m : Nat) (B : Nat → Nat) (tp : List Nat) (n : Nat) (G : GS) (S S2' : HS) (i : Nat) (G' : GS) (S' : HS) : Prop :=
  (∀ p, p ∈ G.1 → p ∈ G'.1 ∧ G'.2.2 p = G.2.2 p) ∧ FRX (fun p => p ∈ G.1) a u us un ur S S' ∧ ∃ (i' f' : Nat) (V' : UNt) (own' : Bool) (kc' : Nat), JR G'.2.2 N2 a r m B tp n S' S2' i' f' ∧ (f' = 0 → i < i' ∧ UX G' S' q a u us un ur V' own' ∧ UY S2' m B V' own' kc' ∧ UOK V' ∧ NOK V' ∧ kc' ≤ i')
end
section
theorem FRY.w5 (m : Nat) {B : Nat → Nat} (hB : ∀ i j, B i = B j ↔ i = j) (S : HS) {o : Nat} (ho : 15 ≤ o) (v : Int32) : FRY m B S (wI S (B 5) o v) := by
  refine ⟨fun _ _ _ => rfl, rfl, rfl, fun p p5 _ => aI_wI_o _ _ _ _ p5, fun j hj => ?_, fun j hj => ?_, fun _ _ => rfl, fun _ _ => rfl, rfl⟩
  · rw [aI_wI_s]; show (if j = o then v else aI S (B 5) j) = _; rw [if_neg (by omega)]
  · rw [aI_wI_o _ _ _ _ (by rw [ne_eq, hB]; decide)]
section UREG
variable {N2 : Nat → Nat} {F : Nat} {G : GS} {S S2 : HS} {q a u us un ur r m : Nat} {B : Nat → Nat} {tp : List Nat} {n i kc : Nat} {V : UNt} {own : Bool}
/- the model's word of a line -/
theorem y_lineWords {f : Nat} (h : JR G.2.2 N2 a r m B tp n S S2 i 0) : s_X12_isWord N2 m 0 S2 = some (b2 (decide (tkW tp i = wds 1))) ∧ s_X12_isWord N2 m 3 S2 = some (b2 (decide (tkW tp i = wds 2))) ∧ s_X12_isWord N2 m 4 S2 = some (b2 (decide (tkW tp i = wds 3))) := by
  have e0 : mds.getD 0 [] = wds 1 := by decide +kernel
  have e3 : mds.getD 3 [] = wds 2 := by decide +kernel
  have e4 : mds.getD 4 [] = wds 3 := by decide +kernel
  have w0 : s_X12_isWord N2 m 0 S2 = some (b2 (decide (tkW tp i = mds.getD 0 []))) := y_isWord (w := 0) h.2.2.1 h.2.2.2.1 h.2.2.2.2.1 h.1.2.2.2.1 (by omega)
  have w3 : s_X12_isWord N2 m 3 S2 = some (b2 (decide (tkW tp i = mds.getD 3 []))) := y_isWord (w := 3) h.2.2.1 h.2.2.2.1 h.2.2.2.2.1 h.1.2.2.2.1 (by omega)
  have w4 : s_X12_isWord N2 m 4 S2 = some (b2 (decide (tkW tp i = mds.getD 4 []))) := y_isWord (w := 4) h.2.2.1 h.2.2.2.1 h.2.2.2.2.1 h.1.2.2.2.1 (by omega)
  rw [e0] at w0
  rw [e3] at w3
  rw [e4] at w4
  exact ⟨w0, w3, w4⟩
/- a line whose fault stands ahead of the sign -/
theorem u_fault {f : Nat} (h : JR G.2.2 N2 a r m B tp n S S2 i f) (w : f ≠ 0) : ∃ S2', s_X12_takeSign N2 m 59 S2 = some S2' ∧ YBF m S2 S2' ∧ JR G.2.2 N2 a r m B tp n S S2' i f := by
  obtain ⟨S2', s1, s2⟩ := y_sign_f h w 59
  exact ⟨S2', s1, s2.2.1, s2.2.2.1⟩
theorem CLE.fault (V : UNt) (own : Bool) (kc : Nat) {S' S2' : HS} {i' f' : Nat} (h1 : RDB a S S') (h2 : JR G.2.2 N2 a r m B tp n S' S2' i' f') (h3 : f' ≠ 0) : CLE N2 q a u us un ur r m B tp n G S S2' i G S' :=
  ⟨fun p hp => ⟨hp, rfl⟩, h1.fx _ _ _ _ _, i', f', V, own, kc, h2, fun w => absurd w h3⟩
theorem UOK.moreR (h : UOK V) (hr : vR V < 6) (W : List Nat) : UOK (addR V W) := ⟨h.1, by show vR V + 1 ≤ 6; omega, h.2.2.1, h.2.2.2⟩
theorem NOK.moreR (h : NOK V) {W : List Nat} (hW : nmk W) (h2 : ∀ r, r < vR V → vB V r ≠ W) : NOK (addR V W) := by
  obtain ⟨n1, n2, n3, n4⟩ := h
  have e : ∀ r, vB (addR V W) r = if r = vR V then W else vB V r := fun r => rfl
  refine ⟨n1, fun r hr => ?_, n3, fun r s hr hs hrs => ?_⟩
  · rw [e]
    have hr' : r < vR V + 1 := hr
    by_cases w : r = vR V
    · rw [if_pos w]; exact hW
    · rw [if_neg w]; exact n2 r (by omega)
  · have hr' : r < vR V + 1 := hr
    have hs' : s < vR V + 1 := hs
    rw [e, e] at hrs
    by_cases w : r = vR V
    · by_cases w2 : s = vR V
      · omega
      · rw [if_pos w, if_neg w2] at hrs; exact absurd hrs.symm (h2 s (by omega))
    · by_cases w2 : s = vR V
      · rw [if_neg w, if_pos w2] at hrs; exact absurd hrs (h2 r (by omega))
      · rw [if_neg w, if_neg w2] at hrs; exact n4 r s (by omega) (by omega) hrs
theorem u_reg (hF : 3000 ≤ F) (hB : ∀ i j, B i = B j ↔ i = j) (h : JR G.2.2 N2 a r m B tp n S S2 i 0) (hi : i < n) (hX : UX G S q a u us un ur V own) (hY : UY S2 m B V own kc) (hU : UOK V) (hN : NOK V) (hkc : kc ≤ i) (hnr : un ≠ ur) (hw : tkW tp i = wds 2) :
    ∃ S21 S2' S', s_X10_readRegister G.2.2 F q S = some S' ∧ s_X12_readLine N2 F m S2 = some S21 ∧ s_X12_takeSign N2 m 59 S21 = some S2' ∧ FRY m B S2 S2' ∧ CLE N2 q a u us un ur r m B tp n G S S2' i G S' := by
  obtain ⟨w1, w2, w3⟩ := y_lineWords (f := 0) h
  have hne : wds 2 ≠ wds 1 := by decide +kernel
  rw [hw, decide_eq_false hne] at w1
  rw [hw, decide_eq_true rfl] at w2
  obtain ⟨⟨x1, x2, x3, x4, x5⟩, ⟨l1, l2, l3⟩, ⟨c1, c2, c3, c4⟩, xf, xa, xb⟩ := id hX
  obtain ⟨⟨y1, y2, y3⟩, yf, ya, yb, yo⟩ := id hY
  have r5 : gR S2 1210 m = some (B 5) := h.2.2.1.1.2.2.2.2.2.1
  have n5 : N2 (B 5) = 30 := h.2.2.1.2.2.1.2.2.2.2.2.1
  have hr6 := hU.2.1
  have rd1 : s_X12_read N2 m 1 S2 = some (ii (vR V)) := by
    have := y_read (k := 1) h.2.2.1 (by omega)
    rw [show aI S2 (B 5) (15 + 1) = ii (vR V) from y2] at this; exact this
  have in16 : inB (16 : Int32) (N2 (B 5)) = true := by rw [n5]; decide
  have cl16 : (16 : Int32).toNatClampNeg = 16 := by decide
  have in16' : (inB (16 : Int32) (N2 (B 5)) = true) = True := eq_true in16
  unfold s_X10_readRegister s_X12_readLine s_X12_readLine_J146
  rw [x2, bd1_some, c2, w1, bd1_some, if_pos (show b2 false = (0 : Int32) by decide), w2, bd1_some, if_neg (show ¬ b2 true = (0 : Int32) by decide), rd1, bd1_some]
  have c6 : (ii (vR V : Int) = (6 : Int32)) = (vR V = 6) := by rw [show (6 : Int32) = ii 6 from rfl, ii_eq (by omega) (by omega) (by omega) (by omega)]; apply propext; omega
  simp only [c6]
  by_cases q6 : vR V = 6
  · -- one too many
    obtain ⟨S9, z1, z2⟩ := j_wrong (k := 5) (by omega) h
    obtain ⟨d1, d2, d3, d4, d5⟩ := z2
    have z1' : s_X12_wrong N2 m 5 S2 = some S9 := z1
    have hb1 : bl 0 5 (tQ0 tp (pt tp i)) ≠ 0 := by rw [bl_0]; omega
    have r59 : gR S9 1210 m = some (B 5) := by unfold gR; rw [d2.2]; exact r5
    have g8 := d3.yf.1
    have hrn : s_X12_readName N2 F m 4 (ii (vR V)) 6 S2 = some S9 := by
      unfold s_X12_readName
      rw [if_pos (by rw [q6]; rfl), z1', bd1_some]
    have hw9 := d3.wB hB (k := 5) (by decide) (by decide) 16 (aI S9 (B 5) 16 + 0)
    obtain ⟨S3, t1, t2, t3⟩ := u_fault hw9 hb1
    have e0 : aI S9 (B 5) 16 + 0 = aI S9 (B 5) 16 := by
      have : aI S9 (B 5) 16 = ii (vR V) := by unfold aI; rw [d2.2]; exact y2
      rw [this, k0, ii_add, Int.add_zero]
    rw [if_pos q6, x1, bd1_some, bnd_def, hrn, bd1_some, r59, bd1_some]
    simp only [in16', if_true, cl16, g8, (c_f0 d3).2, bnd_def]
    rw [if_neg hb1]
    exact ⟨_, S3, _, rfl, rfl, t1, (d2.fy B).trans ((FRY.w5 m hB S9 (by decide) _).trans (t2.fy B)), CLE.fault V own kc d1 t3 hb1⟩
  · obtain ⟨nx1, nx2⟩ := hX.nm hN hU rfl
    obtain ⟨ny1, ny2⟩ := hY.nm hN hU
    obtain ⟨S4, v, S6, S28, i1, f1, s1, s2, s3, s4, s5, s6, s7, s8⟩ := t_newName (F := F) (fr := 4) (many := vR V) (most := 6) hF h hi hB x1 x2 nx1 nx2 ny1 ny2 ⟨y1, y2⟩ (by omega) (by omega) (by omega)
    have s3' : s_X12_readName N2 F m 4 (ii (vR V)) 6 S2 = some S28 := s3
    have r528 : gR S28 1210 m = some (B 5) := by rw [gR_of s5.2.2.1]; exact r5
    have e16 : aI S28 (B 5) 16 = ii (vR V) := by unfold aI; rw [s5.2.2.2.1]; exact y2
    have g8 := s6.yf.1
    have g1000 : gR S6 1000 q = some a := by unfold gR; rw [s4.2]; exact x1
    have g1001 : gR S6 1001 q = some u := by unfold gR; rw [s4.2]; exact x2
    rw [if_neg q6, x1, bd1_some, s1, bd1_some, s2, bd2_some, g1000, bd1_some, s3', bd1_some, r528, bd1_some]
    simp only [in16', if_true, cl16, g8, e16, (c_f0 s6).2, bnd_def]
    -- the model's count
    obtain ⟨cv, hcv⟩ : ∃ cv : Nat, cv = if f1 = 0 then vR V + 1 else vR V := ⟨_, rfl⟩
    have hmod : (if f1 = 0 then some (wI S28 (B 5) 16 (ii (vR V) + 1)) else some (wI S28 (B 5) 16 (ii (vR V) + 0))) = some (wI S28 (B 5) 16 (ii cv)) := by
      by_cases w : f1 = 0
      · rw [if_pos w, hcv, if_pos w, k1, ii_add]; rfl
      · rw [if_neg w, hcv, if_neg w, k0, ii_add, Int.add_zero]
    have hw28 := s6.wB hB (k := 5) (by decide) (by decide) 16 (ii cv)
    obtain ⟨S8, S3, i2, f2, t1, t2, t3⟩ := t_sign (F := F) hF hw28 (c := 59) (by omega) (by omega)
    have t1' : s_X8_passSign G.2.2 F a 59 S6 = some S8 := t1
    have t2' : s_X12_takeSign N2 m 59 (wI S28 (B 5) 16 (ii cv)) = some S3 := t2
    obtain ⟨d1, d2, d3, d4, d5⟩ := t3
    have hright := xr_right d3.2.1 d3.2.2.2.2.2
    have g1000' : gR S8 1000 q = some a := by unfold gR; rw [d1.2]; exact g1000
    have g1001' : gR S8 1001 q = some u := by unfold gR; rw [d1.2]; exact g1001
    have fy : FRY m B S2 S3 := (s5.fy (by omega)).trans ((FRY.w5 m hB S28 (by decide) _).trans (d2.fy B))
    rw [t1', bd1_some, g1000', bd1_some, hright]
    refine ⟨wI S28 (B 5) 16 (ii cv), S3, ?_⟩
    by_cases w2 : f2 = 0
    · have w1' : f1 = 0 := by
        by_cases z : f1 = 0
        · exact z
        · have := d5 z; omega
      obtain ⟨W, k1', k2', k3', k4', k5'⟩ := s8 w1'
      have hb2 := s4.trans d1
      have hX8 := hX.tok hb2
      obtain ⟨⟨X1, X2, X3, X4, X5⟩, _, ⟨C1, C2, C3, C4⟩, XF, XA, XB⟩ := hX8
      have e1 : ii (vR V : Int) + 1 = ii ((vR V + 1 : Nat) : Int) := by rw [k1, ii_add]; rfl
      have hcv' : cv = vR V + 1 := by rw [hcv, if_pos w1']
      rw [decide_eq_true w2, if_neg (show ¬ b2 true = (0 : Int32) by decide), g1001', bd1_some]
      unfold s_X9_tellRegister
      have gw : gI (wJ S8 ur (vR V) v) 904 u = ii (vR V) := C2
      rw [C2, if_neg (by rw [k0, ii_lt (by omega) (by omega) (by omega) (by omega)]; omega), if_neg (by rw [show (6 : Int32) = ii 6 from rfl, ii_le (by omega) (by omega) (by omega) (by omega)]; omega), X5, bd1_some, if_pos (show inB (ii (vR V : Int)) (G.2.2 ur) = true by rw [l3]; exact in_of (z := vR V) rfl (by omega) (by decide)), cl_of (z := vR V) rfl (by omega), bnd_def, gw, e1, bnd_def, bd1_some]
      have hJ : ∀ j, aJ (uI (wJ S8 ur (vR V) v) 904 u (ii ((vR V + 1 : Nat) : Int))) ur j = if j = vR V then v else aJ S8 ur j := by
        intro j
        show aJ (wJ S8 ur (vR V) v) ur j = _
        rw [aJ_wJ_s]
      refine ⟨_, rfl, ?_, t2', fy, fun p hp => ⟨hp, rfl⟩, ?_, i2, f2, addR V W, own, kc, ?_, fun _ => ⟨by omega, ?_, ?_, hU.moreR (by omega) W, hN.moreR k1' k5', by omega⟩⟩
      · rw [e1] at hmod; exact hmod
      · refine (hb2.fx _ u us un ur).trans ⟨fun f p _ q1 q2 => ?_, fun _ _ _ => rfl, fun _ _ => rfl, fun p _ p1 p2 => ?_, fun _ _ _ => rfl⟩
        · rw [gI_uI, if_neg (fun r => q2 ⟨r.2, by omega⟩)]; rfl
        · exact aJ_wJ_o S8 _ _ _ p2
      · obtain ⟨⟨T1, T2, T3, T4, T5, T6⟩, ⟨j, ⟨h1, h2, h3, h4, h5, h6⟩, hj⟩, a3, a4, a5, a6⟩ := d3
        exact ⟨⟨T1, T2, by rw [gI_uI, if_neg (by omega)]; exact T3, T4, T5, T6⟩, ⟨j, ⟨by rw [gI_uI, if_neg (by omega)]; exact h1, by rw [gI_uI, if_neg (by omega)]; exact h2, by rw [gI_uI, if_neg (by omega)]; exact h3, h4, fun w => by rw [gI_uI, if_neg (by omega)]; exact h5 w, by rw [gI_uI, if_neg (by omega)]; exact h6⟩, hj⟩, a3, a4, a5, a6⟩
      · refine ⟨⟨X1, X2, X3, X4, X5⟩, ⟨l1, l2, l3⟩, ⟨by rw [gI_uI, if_neg (by omega)]; exact C1, by rw [gI_uI, if_pos ⟨rfl, rfl⟩]; rfl, by rw [gI_uI, if_neg (by omega)]; exact C3, by rw [gI_uI, if_neg (by omega)]; exact C4⟩, fun f hf => ?_, fun f hf => ?_, fun s hs => ?_⟩
        · obtain ⟨p, p1, p2, p3⟩ := XF f hf
          exact ⟨p, p1, p2, p3.mono2 (fun g _ _ => by rw [gI_uI, if_neg (by omega)]; rfl)⟩
        · show aJ (wJ S8 ur (vR V) v) un f = _
          rw [aJ_wJ_o _ _ _ _ hnr]; exact XA f hf
        · have hs' : s < vR V + 1 := hs
          rw [hJ]
          show _ = jj (nm32 (if s = vR V then W else vB V s))
          by_cases z : s = vR V
          · rw [if_pos z, if_pos z]; exact k2'
          · rw [if_neg z, if_neg z]; exact XB s (by omega)
      · have hi3 : ∀ p, aI S3 p = aI (wI S28 (B 5) 16 (ii cv)) p := fun p => by unfold aI; rw [d2.2]
        have hj3 : ∀ p, aJ S3 p = aJ S28 p := fun p => by have : aJ S3 p = aJ (wI S28 (B 5) 16 (ii cv)) p := (by unfold aJ; rw [d2.2]); rw [this]; rfl
        have hB5 : ∀ o, aI S3 (B 5) o = if o = 16 then ii cv else aI S2 (B 5) o := by
          intro o
          rw [hi3, aI_wI_s]
          show (if o = 16 then ii (cv : Int) else aI S28 (B 5) o) = _
          by_cases z : o = 16
          · rw [if_pos z, if_pos z]
          · rw [if_neg z, if_neg z]; unfold aI; rw [s5.2.2.2.1]
        have hB6 : aI S3 (B 6) = aI S2 (B 6) := by rw [hi3, aI_wI_o _ _ _ _ (by rw [ne_eq, hB]; decide)]; unfold aI; rw [s5.2.2.2.1]
        refine ⟨⟨by rw [hB5, if_neg (by omega)]; exact y1, by rw [hB5, if_pos rfl, hcv']; rfl, ?_⟩, fun f hf => ?_, fun f hf => ?_, fun s hs => ?_, ?_⟩
        · rw [d2.1 1212 m (by omega)]; show gI S28 1212 m = _; rw [s5.1 1212 m (by omega)]; exact y3
        · rw [hB5, hB5, hB5, if_neg (by omega), if_neg (by omega), if_neg (by omega)]; exact yf f hf
        · have hf' : f < vN V := hf
          have := hU.1
          rw [hj3, s5.2.2.2.2.2.1 _ (by omega)]; exact ya f hf
        · have hs' : s < vR V + 1 := hs
          rw [hj3]
          show _ = jj (nm37 (if s = vR V then W else vB V s))
          by_cases z : s = vR V
          · rw [if_pos z, z]; exact k3'
          · rw [if_neg z, s5.2.2.2.2.2.1 _ (by omega)]; exact yb s (by omega)
        · have e17 : aI S3 (B 5) 17 = aI S2 (B 5) 17 := by rw [hB5, if_neg (by decide)]
          rw [e17, hB6]; exact yo
    · rw [decide_eq_false w2, if_pos (show b2 false = (0 : Int32) by decide)]
      exact ⟨_, rfl, hmod, t2', fy, CLE.fault V own kc (s4.trans d1) d3 w2⟩
end UREG
end
section
section UFORM
variable {N N2 : Nat → Nat} {F : Nat} {G : GS} {S S2 : HS} {q a u us un ur r m : Nat} {B : Nat → Nat} {tp : List Nat} {n i f kc : Nat} {V : UNt} {own : Bool}
/- what a form is told by, behind its name -/
theorem c_form (hF : 3000 ≤ F) (h : JR N N2 a r m B tp n S S2 i f) (hq : gR S 1000 q = some a) :
    ∃ (r7 : Int32) (S8 S10 : HS) (r12 : Int32) (S13 S15 : HS) (r17 : Int32) (S18 : HS) (r29 : Int32) (S30 : HS) (r31 : Int32) (S32 : HS) (r33 : Int32) (S34 : HS) (i5 f5 : Nat), s_X10_passKind N F q S = some (r7, S8) ∧ s_X8_passWord N F a 8 S8 = some S10 ∧ s_X8_passNumber N F a 2 8 S10 = some (r12, S13) ∧ s_X8_passWord N F a 9 S13 = some S15 ∧ s_X8_passNumber N F a 1 18 S15 = some (r17, S18) ∧
      s_X12_takeOne N2 F m 9 4 S2 = some (r29, S30) ∧ s_X12_takeAfter N2 m 1 2 8 S30 = some (r31, S32) ∧ s_X12_takeAfter N2 m 2 1 18 S32 = some (r33, S34) ∧ JS N N2 a r m B tp n S S2 i f S18 S34 i5 f5 ∧ RDB a S S8 ∧ RDB a S S10 ∧ RDB a S S13 ∧ RDB a S S15 ∧
      (f5 = 0 → ∃ k e fr : Nat, FO k e fr ∧ r7 = ii k ∧ r29 = ii k ∧ r12 = ii e ∧ r31 = ii e ∧ r17 = ii fr ∧ r33 = ii fr) := by
  obtain ⟨r7, r29, S8, S30, i1, f1, a1, a2, a3, a4⟩ := t_kind (F := F) hF h hq
  obtain ⟨S10, S31, i2, f2, b1, b2', b3⟩ := t_word (F := F) hF a3.2.2.1 (p := 7) (w := 1) (by omega) (by omega) (by decide +kernel)
  obtain ⟨r12, r31, S13, S32, i3, f3, c1, c2, c3, c4⟩ := t_num (F := F) hF b3.2.2.1 (lo := 2) (hi := 8) (by omega) (by omega)
  obtain ⟨S15, S33, i4, f4, d1, d2, d3⟩ := t_word (F := F) hF c3.2.2.1 (p := 8) (w := 2) (by omega) (by omega) (by decide +kernel)
  obtain ⟨r17, r33, S18, S34, i5, f5, e1, e2, e3, e4⟩ := t_num (F := F) hF d3.2.2.1 (lo := 1) (hi := 18) (by omega) (by omega)
  have b1' : s_X8_passWord N F a 8 S8 = some S10 := b1
  have b2'' : s_X12_takeWord N2 m 1 S30 = some S31 := b2'
  have c1' : s_X8_passNumber N F a 2 8 S10 = some (r12, S13) := c1
  have c2' : s_X12_takeNumber N2 m 2 8 S31 = some (r31, S32) := c2
  have d1' : s_X8_passWord N F a 9 S13 = some S15 := d1
  have d2' : s_X12_takeWord N2 m 2 S32 = some S33 := d2
  have e1' : s_X8_passNumber N F a 1 18 S15 = some (r17, S18) := e1
  have e2' : s_X12_takeNumber N2 m 1 18 S33 = some (r33, S34) := e2
  have j2 := a3.trans b3
  have j3 := j2.trans c3
  have j4 := j3.trans d3
  refine ⟨r7, S8, S10, r12, S13, S15, r17, S18, r29, S30, r31, S32, r33, S34, i5, f5, a1, b1', c1', d1', e1', a2, ?_, ?_, j4.trans e3, a3.1, j2.1, j3.1, j4.1, fun z5 => ?_⟩
  · unfold s_X12_takeAfter
    rw [b2'', bd1_some, c2', bd2_some]
  · unfold s_X12_takeAfter
    rw [d2', bd1_some, e2', bd2_some]
  · have z4 : f4 = 0 := by
      by_cases z : f4 = 0
      · exact z
      · have := e3.2.2.2.2 z; omega
    have z3 : f3 = 0 := by
      by_cases z : f3 = 0
      · exact z
      · have := d3.2.2.2.2 z; omega
    have z2 : f2 = 0 := by
      by_cases z : f2 = 0
      · exact z
      · have := c3.2.2.2.2 z; omega
    have z1 : f1 = 0 := by
      by_cases z : f1 = 0
      · exact z
      · have := b3.2.2.2.2 z; omega
    obtain ⟨ea, k, k1', k2'⟩ := a4 z1
    obtain ⟨ec, e, e1'', e2'', e3''⟩ := c4 z3
    obtain ⟨ee, fr, g1, g2, g3⟩ := e4 z5
    exact ⟨k, e, fr, ⟨by omega, e2'', e3'', g2, g3⟩, k1', ea.trans k1', e1'', ec.trans e1'', g1, ee.trans g1⟩
theorem UOK.moreF (h : UOK V) (hr : vN V < 4) {k e fr : Nat} (hf : FO k e fr) (W : List Nat) : UOK (addF V k e fr W) := by
  refine ⟨by show vN V + 1 ≤ 4; omega, h.2.1, h.2.2.1, fun g hg => ?_⟩
  have hg' : g < vN V + 1 := hg
  show FO (if g = vN V then k else vK V g) (if g = vN V then e else vE V g) (if g = vN V then fr else vF V g)
  by_cases w : g = vN V
  · rw [if_pos w, if_pos w, if_pos w]; exact hf
  · rw [if_neg w, if_neg w, if_neg w]; exact h.2.2.2 g (by omega)
theorem NOK.moreF (h : NOK V) {k e fr : Nat} {W : List Nat} (hW : nmk W) (h2 : ∀ r, r < vN V → vA V r ≠ W) : NOK (addF V k e fr W) := by
  obtain ⟨n1, n2, n3, n4⟩ := h
  have e' : ∀ r, vA (addF V k e fr W) r = if r = vN V then W else vA V r := fun r => rfl
  refine ⟨fun r hr => ?_, n2, fun r s hr hs hrs => ?_, n4⟩
  · rw [e']
    have hr' : r < vN V + 1 := hr
    by_cases w : r = vN V
    · rw [if_pos w]; exact hW
    · rw [if_neg w]; exact n1 r (by omega)
  · have hr' : r < vN V + 1 := hr
    have hs' : s < vN V + 1 := hs
    rw [e', e'] at hrs
    by_cases w : r = vN V
    · by_cases w2 : s = vN V
      · omega
      · rw [if_pos w, if_neg w2] at hrs; exact absurd hrs.symm (h2 s (by omega))
    · by_cases w2 : s = vN V
      · rw [if_neg w, if_pos w2] at hrs; exact absurd hrs (h2 r (by omega))
      · rw [if_neg w, if_neg w2] at hrs; exact n3 r s (by omega) (by omega) hrs
/- the model's rows of a form -/
theorem y_formRows (hB : ∀ i j, B i = B j ↔ i = j) (h : JR N N2 a r m B tp n S S2 i 0) {k : Nat} (hk : k < 4) (h15 : aI S2 (B 5) 15 = ii k) (z1 z2 z3 : Int32) :
    ∃ S3, (bnd (18 + (3 * ii k) : Int32) fun x36 => bd1 (gR S2 1210 m) fun t37 => if inB x36 (N2 t37) = true then bnd (wI S2 t37 (x36.toNatClampNeg) z1) fun S39 => bd1 (gR S39 1210 m) fun t40 => if inB (x36 + 1) (N2 t40) = true then bnd (wI S39 t40 ((x36 + 1).toNatClampNeg) z2) fun S42 => bd1 (gR S42 1210 m) fun t43 => if inB (x36 + 2) (N2 t43) = true then bnd (wI S42 t43 ((x36 + 2).toNatClampNeg) z3) fun S45 => bd1 (gR S45 1210 m) fun t46 => if inB (15 : Int32) (N2 t46) = true then if inB (15 : Int32) (N2 t46) = true then bnd (wI S45 t46 ((15 : Int32).toNatClampNeg) ((aI S45 t46 (15 : Int32).toNatClampNeg) + 1)) fun S49 => s_X12_readLine_J103 N2 F S49 else none else none else none else none else none) = some S3 ∧
      JR N N2 a r m B tp n S S3 i 0 ∧ FRY m B S2 S3 ∧ S3.1 = S2.1 ∧ S3.2.2.2.2 = S2.2.2.2.2 ∧ aI S3 (B 6) = aI S2 (B 6) ∧ (∀ o, aI S3 (B 5) o = if o = 15 then ii (k + 1 : Nat) else if o = 18 + 3 * k + 2 then z3 else if o = 18 + 3 * k + 1 then z2 else if o = 18 + 3 * k then z1 else aI S2 (B 5) o) := by
  have r5 : gR S2 1210 m = some (B 5) := h.2.2.1.1.2.2.2.2.2.1
  have n5 : N2 (B 5) = 30 := h.2.2.1.2.2.1.2.2.2.2.2.1
  have e0 : (18 : Int32) + 3 * ii (k : Int) = ii ((18 + 3 * k : Nat) : Int) := by rw [show (18 : Int32) = ii 18 from rfl, k3, ii_mul, ii_add]; congr 1
  have e1 : ii ((18 + 3 * k : Nat) : Int) + 1 = ii ((18 + 3 * k + 1 : Nat) : Int) := by rw [k1, ii_add]; rfl
  have e2 : ii ((18 + 3 * k : Nat) : Int) + 2 = ii ((18 + 3 * k + 2 : Nat) : Int) := by rw [k2, ii_add]; rfl
  have i0 : (inB (ii ((18 + 3 * k : Nat) : Int)) (N2 (B 5)) = true) = True := eq_true (by rw [n5]; exact in_of (z := 18 + 3 * k) rfl (by omega) (by decide))
  have i1 : (inB (ii ((18 + 3 * k + 1 : Nat) : Int)) (N2 (B 5)) = true) = True := eq_true (by rw [n5]; exact in_of (z := 18 + 3 * k + 1) rfl (by omega) (by decide))
  have i2 : (inB (ii ((18 + 3 * k + 2 : Nat) : Int)) (N2 (B 5)) = true) = True := eq_true (by rw [n5]; exact in_of (z := 18 + 3 * k + 2) rfl (by omega) (by decide))
  have i3 : (inB (15 : Int32) (N2 (B 5)) = true) = True := eq_true (by rw [n5]; decide)
  have l0 : (ii ((18 + 3 * k : Nat) : Int)).toNatClampNeg = 18 + 3 * k := cl_of (z := 18 + 3 * k) rfl (by omega)
  have l1 : (ii ((18 + 3 * k + 1 : Nat) : Int)).toNatClampNeg = 18 + 3 * k + 1 := cl_of (z := 18 + 3 * k + 1) rfl (by omega)
  have l2 : (ii ((18 + 3 * k + 2 : Nat) : Int)).toNatClampNeg = 18 + 3 * k + 2 := cl_of (z := 18 + 3 * k + 2) rfl (by omega)
  have l3 : (15 : Int32).toNatClampNeg = 15 := by decide
  have g1 : gR (wI S2 (B 5) (18 + 3 * k) z1) 1210 m = some (B 5) := r5
  have g2 : gR (wI (wI S2 (B 5) (18 + 3 * k) z1) (B 5) (18 + 3 * k + 1) z2) 1210 m = some (B 5) := r5
  have g3 : gR (wI (wI (wI S2 (B 5) (18 + 3 * k) z1) (B 5) (18 + 3 * k + 1) z2) (B 5) (18 + 3 * k + 2) z3) 1210 m = some (B 5) := r5
  have v15 : aI (wI (wI (wI S2 (B 5) (18 + 3 * k) z1) (B 5) (18 + 3 * k + 1) z2) (B 5) (18 + 3 * k + 2) z3) (B 5) 15 = ii k := by
    rw [aI_wI_s, aI_wI_s, aI_wI_s]
    show (if 15 = 18 + 3 * k + 2 then _ else (if 15 = 18 + 3 * k + 1 then _ else (if 15 = 18 + 3 * k then _ else aI S2 (B 5) 15))) = _
    rw [if_neg (by omega), if_neg (by omega), if_neg (by omega)]; exact h15
  have ek : ii (k : Int) + 1 = ii ((k + 1 : Nat) : Int) := by rw [k1, ii_add]; rfl
  unfold s_X12_readLine_J103
  simp only [bnd_def, e0, r5, bd1_some, i0, if_true, l0, g1, e1, i1, l1, g2, e2, i2, l2, g3, i3, l3, v15, ek]
  refine ⟨_, rfl, (((h.wB hB (k := 5) (by decide) (by decide) _ _).wB hB (k := 5) (by decide) (by decide) _ _).wB hB (k := 5) (by decide) (by decide) _ _).wB hB (k := 5) (by decide) (by decide) _ _, (FRY.w5 m hB _ (by omega) _).trans ((FRY.w5 m hB _ (by omega) _).trans ((FRY.w5 m hB _ (by omega) _).trans (FRY.w5 m hB _ (by omega) _))), rfl, rfl, ?_, fun o => ?_⟩
  · rw [aI_wI_o _ _ _ _ (by rw [ne_eq, hB]; decide), aI_wI_o _ _ _ _ (by rw [ne_eq, hB]; decide), aI_wI_o _ _ _ _ (by rw [ne_eq, hB]; decide), aI_wI_o _ _ _ _ (by rw [ne_eq, hB]; decide)]
  · rw [aI_wI_s, aI_wI_s, aI_wI_s, aI_wI_s]
end UFORM
end
section
section UFORM2
variable {N2 : Nat → Nat} {F : Nat} {G : GS} {S S2 : HS} {q a u us un ur r m : Nat} {B : Nat → Nat} {tp : List Nat} {n i kc : Nat} {V : UNt} {own : Bool}
theorem u_form (hF : 3000 ≤ F) (hB : ∀ i j, B i = B j ↔ i = j) (h : JR G.2.2 N2 a r m B tp n S S2 i 0) (hi : i < n) (hX : UX G S q a u us un ur V own) (hY : UY S2 m B V own kc) (hU : UOK V) (hN : NOK V) (hkc : kc ≤ i) (hnr : un ≠ ur) (hin : q ∈ G.1 ∧ a ∈ G.1 ∧ u ∈ G.1 ∧ us ∈ G.1 ∧ un ∈ G.1 ∧ ur ∈ G.1 ∧ r ∈ G.1) (hau : a ≠ u) (hw : tkW tp i = wds 1) :
    ∃ S21 S2', s_X12_readLine N2 F m S2 = some S21 ∧ s_X12_takeSign N2 m 59 S21 = some S2' ∧ FRY m B S2 S2' ∧ (∃ G' S', CLE N2 q a u us un ur r m B tp n G S S2' i G' S') ∧ ∀ P : GS → HS → Prop, (∀ G' S', CLE N2 q a u us un ur r m B tp n G S S2' i G' S' → P G' S') → w_X10_readForm F q G S P := by
  obtain ⟨w1, w2, w3⟩ := y_lineWords (f := 0) h
  rw [hw, decide_eq_true rfl] at w1
  obtain ⟨iq, ia, iu, ius, iun, iur, ir⟩ := hin
  obtain ⟨⟨x1, x2, x3, x4, x5⟩, ⟨l1, l2, l3⟩, ⟨c1, c2, c3, c4⟩, xf, xa, xb⟩ := id hX
  obtain ⟨⟨y1, y2, y3⟩, yf, ya, yb, yo⟩ := id hY
  have hn4 := hU.1
  have rd0 : s_X12_read N2 m 0 S2 = some (ii (vN V)) := by
    have := y_read (k := 0) h.2.2.1 (by omega)
    rw [show aI S2 (B 5) (15 + 0) = ii (vN V) from y1] at this; exact this
  have c64 : (ii (vN V : Int) = (4 : Int32)) = (vN V = 4) := by rw [k4, ii_eq (by omega) (by omega) (by omega) (by omega)]; apply propext; omega
  unfold s_X12_readLine
  rw [w1, bd1_some, if_neg (show ¬ b2 true = (0 : Int32) by decide), rd0, bd1_some]
  by_cases q4 : vN V = 4
  · -- one too many
    obtain ⟨S9, z1, z2⟩ := j_wrong (k := 5) (by omega) h
    obtain ⟨d1, d2, d3, d4, d5⟩ := z2
    have z1' : s_X12_wrong N2 m 5 S2 = some S9 := z1
    have hb1 : bl 0 5 (tQ0 tp (pt tp i)) ≠ 0 := by rw [bl_0]; omega
    have hrn : s_X12_readName N2 F m 0 (ii (vN V)) 4 S2 = some S9 := by
      unfold s_X12_readName
      rw [if_pos (by rw [q4]; rfl), z1', bd1_some]
    have g1000 : gR (s_X8_blame a (ii (5 : Nat)) S) 1000 q = some a := by unfold gR; rw [d1.2]; exact x1
    obtain ⟨r7, S8, S10, r12, S13, S15, r17, S18, r29, S30, r31, S32, r33, S34, i5, f5, b1, b2', b3, b4, b5, b6, b7, b8, b9, _⟩ := c_form (F := F) hF d3 g1000
    have hf5 := b9.2.2.2.2 hb1
    have hf5n : f5 ≠ 0 := by rw [hf5]; exact hb1
    have hj34 : JR G.2.2 N2 a r m B tp n (s_X8_blame a (ii (5 : Nat)) S) S34 i5 f5 := by
      obtain ⟨e1, e2, e3, e4, e5⟩ := b9
      obtain ⟨j, j1, j2⟩ := d3.2.1
      exact ⟨d3.1, ⟨j, by rw [hf5]; exact j1, fun z => absurd z hf5n⟩, e3.2.2.1, e3.2.2.2.1, e3.2.2.2.2.1, e3.2.2.2.2.2⟩
    obtain ⟨S3, t1, t2, t3⟩ := u_fault hj34 hf5n
    have hcle : CLE N2 q a u us un ur r m B tp n G S S3 i G (s_X8_blame a (ii (5 : Nat)) S) := CLE.fault V own kc d1 t3 hf5n
    have g8 := b9.2.2.1.yf.1
    refine ⟨S34, S3, ?_, t1, ((d2.trans b9.2.1).trans t2).fy B, ⟨G, _, hcle⟩, fun P hP => ?_⟩
    · rw [hrn, bd1_some, b6, bd2_some, b7, bd2_some, b8, bd2_some, g8]
      simp only [(c_f0 b9.2.2.1).1]
      rw [if_neg hf5n]; rfl
    · unfold w_X10_readForm
      refine ⟨u, x2, ?_⟩
      simp only [c1, c64]
      rw [if_pos q4]
      refine ⟨a, x1, ?_⟩
      exact hP G _ hcle
  · obtain ⟨nx1, nx2⟩ := hX.nm hN hU rfl
    obtain ⟨ny1, ny2⟩ := hY.nm hN hU
    obtain ⟨S4, v, S6, S28, i1, f1, s1, s2, s3, s4, s5, s6, s7, s8⟩ := t_newName (F := F) (fr := 0) (many := vN V) (most := 4) hF h hi hB x1 x2 nx1 nx2 ny1 ny2 ⟨y1, y2⟩ (by omega) (by omega) (by omega)
    have s3' : s_X12_readName N2 F m 0 (ii (vN V)) 4 S2 = some S28 := s3
    have g1000 : gR S6 1000 q = some a := by unfold gR; rw [s4.2]; exact x1
    obtain ⟨r7, S8, S10, r12, S13, S15, r17, S18, r29, S30, r31, S32, r33, S34, i5, f5, b1, b2', b3, b4, b5, b6, b7, b8, b9, h8, h10, h13, h15, bv⟩ := c_form (F := F) hF s6 g1000
    obtain ⟨e1, e2, e3, e4, e5⟩ := b9
    have g8 := e3.yf.1
    have a15 : aI S34 (B 5) 15 = ii (vN V) := by
      have : aI S34 (B 5) = aI S2 (B 5) := by unfold aI; rw [e2.2, s5.2.2.2.1]
      rw [this]; exact y1
    -- the model's rows, if all is right
    obtain ⟨S49, m1, m2, m3, m4⟩ : ∃ S49, (if f5 = 0 then (bnd (18 + (3 * ii (vN V)) : Int32) fun x36 => bd1 (gR S34 1210 m) fun t37 => if inB x36 (N2 t37) = true then bnd (wI S34 t37 (x36.toNatClampNeg) r29) fun S39 => bd1 (gR S39 1210 m) fun t40 => if inB (x36 + 1) (N2 t40) = true then bnd (wI S39 t40 ((x36 + 1).toNatClampNeg) r31) fun S42 => bd1 (gR S42 1210 m) fun t43 => if inB (x36 + 2) (N2 t43) = true then bnd (wI S42 t43 ((x36 + 2).toNatClampNeg) r33) fun S45 => bd1 (gR S45 1210 m) fun t46 => if inB (15 : Int32) (N2 t46) = true then if inB (15 : Int32) (N2 t46) = true then bnd (wI S45 t46 ((15 : Int32).toNatClampNeg) ((aI S45 t46 (15 : Int32).toNatClampNeg) + 1)) fun S49 => s_X12_readLine_J103 N2 F S49 else none else none else none else none else none) else s_X12_readLine_J103 N2 F S34) = some S49 ∧
        JR G.2.2 N2 a r m B tp n S18 S49 i5 f5 ∧ FRY m B S34 S49 ∧ (f5 = 0 → S49.1 = S34.1 ∧ S49.2.2.2.2 = S34.2.2.2.2 ∧ aI S49 (B 6) = aI S34 (B 6) ∧ ∀ o, aI S49 (B 5) o = if o = 15 then ii (vN V + 1 : Nat) else if o = 18 + 3 * vN V + 2 then r33 else if o = 18 + 3 * vN V + 1 then r31 else if o = 18 + 3 * vN V then r29 else aI S34 (B 5) o) := by
      by_cases w : f5 = 0
      · subst w
        obtain ⟨S3, u1, u2, u3, u4, u5, u6, u7⟩ := y_formRows (F := F) hB e3 (k := vN V) (by omega) a15 r29 r31 r33
        exact ⟨S3, by rw [if_pos rfl]; exact u1, u2, u3, fun _ => ⟨u4, u5, u6, u7⟩⟩
      · exact ⟨S34, by rw [if_neg w]; rfl, e3, FRY.refl _ _ _, fun z => absurd z w⟩
    obtain ⟨S20, S3, i6, f6, t1, t2, t3⟩ := t_sign (F := F) hF m2 (c := 59) (by omega) (by omega)
    have t1' : s_X8_passSign G.2.2 F a 59 S18 = some S20 := t1
    have t2' : s_X12_takeSign N2 m 59 S49 = some S3 := t2
    obtain ⟨d1, d2, d3, d4, d5⟩ := t3
    have fy : FRY m B S2 S3 := ((s5.fy (by omega)).trans (e2.fy B)).trans (m3.trans (d2.fy B))
    have b20 : RDB a S S20 := (s4.trans e1).trans d1
    have hr : ∀ S', RDB a S S' → gR S' 1000 q = some a ∧ gR S' 1001 q = some u := fun S' hS => ⟨by unfold gR; rw [hS.2]; exact x1, by unfold gR; rw [hS.2]; exact x2⟩
    have b4' : RDB a S S4 := by
      have := j_next (F := F) hF h hi
      obtain ⟨S4', z1, z2⟩ := this
      rw [s1] at z1
      have : S4 = S4' := by injection z1
      rw [this]; exact z2.1
    have hright := xr_right d3.2.1 d3.2.2.2.2.2
    -- what the class does behind the tokens
    have tail : ∀ P : GS → HS → Prop, (if (s_X8_isRight a S20) = (0 : Int32) then P G S20 else bd1p (gR S20 1001 q) fun t24 => ∀ q25 : Nat, q25 ∉ G.1 → bnd (pushG G q25 2 0) fun G26 => bnd (zap q25 S20) fun S27 => bnd (s_X2_init q25 r7 r12 r17 S27) fun S28 => bd1p (s_X9_tellForm G26.2.2 t24 v q25 S28) fun S29 => P G26 S29) → w_X10_readForm F q G S P := by
      intro P hP
      unfold w_X10_readForm
      refine ⟨u, x2, ?_⟩
      simp only [c1, c64]
      rw [if_neg q4]
      refine ⟨a, x1, S4, s1, v, S6, s2, r7, S8, b1, a, (hr S8 (s4.trans h8)).1, S10, b2', a, (hr S10 (s4.trans h10)).1, r12, S13, b3, a, (hr S13 (s4.trans h13)).1, S15, b4, a, (hr S15 (s4.trans h15)).1, r17, S18, b5, a, (hr S18 (s4.trans e1)).1, S20, t1', a, (hr S20 b20).1, ?_⟩
      exact hP
    refine ⟨S49, S3, ?_, t2', fy, ?_⟩
    · rw [s3', bd1_some, b6, bd2_some, b7, bd2_some, b8, bd2_some, g8]
      simp only [(c_f0 e3).1]
      exact m1
    by_cases w6 : f6 = 0
    · have z5 : f5 = 0 := by
        by_cases z : f5 = 0
        · exact z
        · have := d5 z; omega
      have z1 : f1 = 0 := by
        by_cases z : f1 = 0
        · exact z
        · have := e5 z; omega
      obtain ⟨k, e, fr, ho, v7, v29, v12, v31, v17, v33⟩ := bv z5
      obtain ⟨W, k1', k2', k3', k4', k5'⟩ := s8 z1
      obtain ⟨n1, n2, n3, n4⟩ := m4 z5
      have hX20 := hX.tok b20
      obtain ⟨⟨X1, X2, X3, X4, X5⟩, _, ⟨C1, C2, C3, C4⟩, XF, XA, XB⟩ := hX20
      -- every new address gives what is wanted
      have key : ∀ q25, q25 ∉ G.1 → ∃ S29, s_X9_tellForm (pushG G q25 2 0).2.2 u v q25 (s_X2_init q25 r7 r12 r17 (zap q25 S20)) = some S29 ∧ CLE N2 q a u us un ur r m B tp n G S S3 i (pushG G q25 2 0) S29 := by
        intro q25 hq25
        have hne : ∀ p, p ∈ G.1 → p ≠ q25 := fun p hp e => hq25 (e ▸ hp)
        have en : ∀ p, p ∈ G.1 → (pushG G q25 2 0).2.2 p = G.2.2 p := fun p hp => pushG_o _ _ _ _ (hne p hp)
        obtain ⟨ST, hST⟩ : ∃ ST, ST = s_X2_init q25 r7 r12 r17 (zap q25 S20) := ⟨_, rfl⟩
        obtain ⟨ix1, ix2, _⟩ := x2_init (zap q25 S20) q25 r7 r12 r17
        rw [← hST] at ix1 ix2
        have hfm : FM ST q25 k e fr := by rw [hST, v7, v12, v17]; exact x2_FM _ _ ho
        have gi : ∀ g p, p ∈ G.1 → gI ST g p = gI S20 g p := fun g p hp => by rw [ix1 g p (fun r => hne p hp r.1), gI_zap, if_neg (hne p hp)]
        have gj : ∀ g p, p ∈ G.1 → gJ ST g p = gJ S20 g p := fun g p hp => by
          have : gJ ST g p = gJ (zap q25 S20) g p := by unfold gJ; rw [ix2]
          rw [this, gJ_zap, if_neg (hne p hp)]
        have gr : ∀ g p, p ∈ G.1 → gR ST g p = gR S20 g p := fun g p hp => by
          have : gR ST g p = gR (zap q25 S20) g p := by unfold gR; rw [ix2]
          rw [this, gR_zap, if_neg (hne p hp)]
        have ai : ∀ p, p ∈ G.1 → aI ST p = aI S20 p := fun p hp => by
          have : aI ST p = aI (zap q25 S20) p := by unfold aI; rw [ix2]
          rw [this]; funext j; rw [aI_zap, if_neg (hne p hp)]
        have aj : ∀ p, p ∈ G.1 → aJ ST p = aJ S20 p := fun p hp => by
          have : aJ ST p = aJ (zap q25 S20) p := by unfold aJ; rw [ix2]
          rw [this]; funext j; rw [aJ_zap, if_neg (hne p hp)]
        have ar : ∀ p, p ∈ G.1 → aR ST p = aR S20 p := fun p hp => by
          have : aR ST p = aR (zap q25 S20) p := by unfold aR; rw [ix2]
          rw [this]; funext j; rw [aR_zap, if_neg (hne p hp)]
        have g903 : gI ST 903 u = ii (vN V) := (gi 903 u iu).trans C1
        have g901 : gR ST 901 u = some un := (gr 901 u iu).trans X4
        have g900 : gR ST 900 u = some us := (gr 900 u iu).trans X3
        have i1 : inB (ii (vN V : Int)) ((pushG G q25 2 0).2.2 un) = true := by rw [en un iun, l2]; exact in_of (z := vN V) rfl (by omega) (by decide)
        have i2 : inB (ii (vN V : Int)) ((pushG G q25 2 0).2.2 us) = true := by rw [en us ius, l1]; exact in_of (z := vN V) rfl (by omega) (by decide)
        have ek : ii (vN V : Int) + 1 = ii ((vN V + 1 : Nat) : Int) := by rw [k1, ii_add]; rfl
        have g900' : gR (wJ ST un (vN V) v) 900 u = some us := g900
        have g903' : gI (wJ ST un (vN V) v) 903 u = ii (vN V) := g903
        have g903'' : gI (wR (wJ ST un (vN V) v) us (vN V) (some q25)) 903 u = ii (vN V) := g903
        obtain ⟨S29, hS29⟩ : ∃ S29, S29 = uI (wR (wJ ST un (vN V) v) us (vN V) (some q25)) 903 u (ii ((vN V + 1 : Nat) : Int)) := ⟨_, rfl⟩
        have htell : s_X9_tellForm (pushG G q25 2 0).2.2 u v q25 ST = some S29 := by
          unfold s_X9_tellForm
          rw [g903, if_neg (by rw [k0, ii_lt (by omega) (by omega) (by omega) (by omega)]; omega), if_neg (by rw [k4, ii_le (by omega) (by omega) (by omega) (by omega)]; omega), g901, bd1_some, if_pos i1, cl_of (z := vN V) rfl (by omega), bnd_def, g900', bd1_some, g903', if_pos i2, cl_of (z := vN V) rfl (by omega), bnd_def, g903'', ek, bnd_def, hS29]
        have fI : ∀ g p, ¬ (p = u ∧ g = 903) → gI S29 g p = gI ST g p := fun g p h => by rw [hS29, gI_uI, if_neg (fun r => h ⟨r.2, r.1⟩)]; rfl
        have fR : ∀ g p, gR S29 g p = gR ST g p := fun g p => by rw [hS29]; rfl
        have fA : ∀ p, aI S29 p = aI ST p := fun p => by rw [hS29]; rfl
        have fJ : ∀ p j, aJ S29 p j = if p = un then (if j = vN V then v else aJ ST un j) else aJ ST p j := by
          intro p j
          have : aJ S29 p j = aJ (wJ ST un (vN V) v) p j := by rw [hS29]; rfl
          rw [this]
          by_cases w : p = un
          · rw [if_pos w, w, aJ_wJ_s]
          · rw [if_neg w, aJ_wJ_o _ _ _ _ w]
        have fQ : ∀ p j, aR S29 p j = if j = vN V ∧ p = us then some q25 else aR ST p j := by
          intro p j
          rw [hS29]
          show p2 ST.2.2.2.2.2 us (vN V) (some q25) p j = _
          unfold p2
          by_cases w : p = us ∧ j = vN V
          · rw [if_pos w, if_pos ⟨w.2, w.1⟩]
          · rw [if_neg w, if_neg (fun r => w ⟨r.2, r.1⟩)]; rfl
        refine ⟨S29, by rw [← hST]; exact htell, fun p hp => ⟨List.mem_append_left _ hp, en p hp⟩, ?_, i6, f6, addF V k e fr W, own, kc, ?_, fun _ => ⟨by omega, ?_, ?_, hU.moreF (by omega) ho W, hN.moreF k1' k4', by omega⟩⟩
        · refine (b20.fx _ u us un ur).trans ⟨fun g p hp q1 q2 => ?_, fun g p hp => (fR g p).trans (gr g p hp), fun p hp => (fA p).trans (ai p hp), fun p hp p1 p2 => ?_, fun p hp p1 => ?_⟩
          · rw [fI g p (fun r => q2 ⟨r.1, by omega⟩)]; exact gi g p hp
          · funext j; rw [fJ, if_neg p1, aj p hp]
          · funext j; rw [fQ, if_neg (fun r => p1 r.2), ar p hp]
        · obtain ⟨⟨T1, T2, T3, T4, T5, T6⟩, ⟨j, ⟨h1, h2, h3, h4, h5, h6⟩, hj⟩, a3, a4, a5, a6⟩ := d3
          have ga : ∀ g, g ≠ 903 → gI S29 g a = gI S20 g a := fun g hg => (fI g a (fun r => hg r.2)).trans (gi g a ia)
          refine ⟨⟨by rw [fR, gr _ _ ia]; exact T1, by rw [en r ir]; exact T2, by rw [ga _ (by omega)]; exact T3, T4, T5, by rw [fA, ai _ ir]; exact T6⟩, ⟨j, ⟨by rw [ga _ (by omega)]; exact h1, by rw [ga _ (by omega)]; exact h2, by rw [ga _ (by omega)]; exact h3, fun w => ?_, fun w => by rw [ga _ (by omega)]; exact h5 w, by rw [ga _ (by omega)]; exact h6⟩, hj⟩, a3, a4, a5, a6⟩
          have : gJ S29 805 a = gJ ST 805 a := by rw [hS29]; rfl
          rw [this, gj _ _ ia]; exact h4 w
        · refine ⟨⟨by rw [fR, gr _ _ iq]; exact X1, by rw [fR, gr _ _ iq]; exact X2, by rw [fR]; exact g900, by rw [fR]; exact g901, by rw [fR, gr _ _ iu]; exact X5⟩, ⟨by rw [en _ ius]; exact l1, by rw [en _ iun]; exact l2, by rw [en _ iur]; exact l3⟩, ⟨?_, by rw [fI _ _ (by omega), gi _ _ iu]; exact C2, by rw [fI _ _ (by omega), gi _ _ iu]; exact C3, by rw [fI _ _ (by omega), gi _ _ iu]; exact C4⟩, fun g hg => ?_, fun g hg => ?_, fun s hs => ?_⟩
          · rw [hS29, gI_uI, if_pos ⟨rfl, rfl⟩]; rfl
          · have hg' : g < vN V + 1 := hg
            show ∃ p, p ∈ (pushG G q25 2 0).1 ∧ aR S29 us g = some p ∧ FM S29 p (if g = vN V then k else vK V g) (if g = vN V then e else vE V g) (if g = vN V then fr else vF V g)
            by_cases z : g = vN V
            · rw [if_pos z, if_pos z, if_pos z]
              refine ⟨q25, pushG_s _ _ _ _, by rw [fQ, if_pos ⟨z, rfl⟩], hfm.mono2 (fun g' _ _ => fI g' _ (by omega))⟩
            · rw [if_neg z, if_neg z, if_neg z]
              obtain ⟨p, p1, p2, p3⟩ := XF g (by omega)
              exact ⟨p, List.mem_append_left _ p1, by rw [fQ, if_neg (fun r => z r.1), ar _ ius]; exact p2, p3.mono2 (fun g' _ _ => (fI g' p (by omega)).trans (gi g' p p1))⟩
          · have hg' : g < vN V + 1 := hg
            rw [fJ, if_pos rfl]
            show _ = jj (nm32 (if g = vN V then W else vA V g))
            by_cases z : g = vN V
            · rw [if_pos z, if_pos z]; exact k2'
            · rw [if_neg z, if_neg z, aj _ iun]; exact XA g (by omega)
          · rw [fJ, if_neg (fun e => hnr e.symm), aj _ iur]; exact XB s hs
        · have hi3 : ∀ p, aI S3 p = aI S49 p := fun p => by unfold aI; rw [d2.2]
          have hj3 : ∀ p, aJ S3 p = aJ S28 p := fun p => by
            have h1 : aJ S3 p = aJ S49 p := by unfold aJ; rw [d2.2]
            have h2 : aJ S34 p = aJ S28 p := by unfold aJ; rw [e2.2]
            rw [h1, aJ_of n2, h2]
          have h34 : ∀ p, aI S34 p = aI S2 p := fun p => by unfold aI; rw [e2.2, s5.2.2.2.1]
          have hB5 : ∀ o, aI S3 (B 5) o = if o = 15 then ii (vN V + 1 : Nat) else if o = 18 + 3 * vN V + 2 then r33 else if o = 18 + 3 * vN V + 1 then r31 else if o = 18 + 3 * vN V then r29 else aI S2 (B 5) o := by
            intro o; rw [hi3, n4 o, h34]
          have hB6 : aI S3 (B 6) = aI S2 (B 6) := by rw [hi3, n3, h34]
          have old : ∀ o, o ≠ 15 → ¬ (18 + 3 * vN V ≤ o ∧ o ≤ 18 + 3 * vN V + 2) → aI S3 (B 5) o = aI S2 (B 5) o := by
            intro o o1 o2
            rw [hB5, if_neg o1, if_neg (by omega), if_neg (by omega), if_neg (by omega)]
          refine ⟨⟨by rw [hB5, if_pos rfl]; rfl, by rw [old 16 (by omega) (by omega)]; exact y2, ?_⟩, fun g hg => ?_, fun g hg => ?_, fun s hs => ?_, ?_⟩
          · have g1 : gI S49 1212 m = gI S34 1212 m := by unfold gI; rw [n1]
            rw [d2.1 1212 m (by omega), g1, e2.1 1212 m (by omega), s5.1 1212 m (by omega)]; exact y3
          · have hg' : g < vN V + 1 := hg
            show aI S3 (B 5) (18 + 3 * g) = ii (if g = vN V then k else vK V g : Nat) ∧ aI S3 (B 5) (18 + 3 * g + 1) = ii (if g = vN V then e else vE V g : Nat) ∧ aI S3 (B 5) (18 + 3 * g + 2) = ii (if g = vN V then fr else vF V g : Nat)
            by_cases z : g = vN V
            · subst z
              rw [if_pos rfl, if_pos rfl, if_pos rfl, hB5, hB5, hB5, if_neg (by omega), if_neg (by omega), if_neg (by omega), if_pos rfl, if_neg (by omega), if_neg (by omega), if_pos rfl, if_neg (by omega), if_pos rfl]
              exact ⟨v29, v31, v33⟩
            · rw [if_neg z, if_neg z, if_neg z, old _ (by omega) (by omega), old _ (by omega) (by omega), old _ (by omega) (by omega)]
              exact yf g (by omega)
          · have hg' : g < vN V + 1 := hg
            rw [hj3]
            show _ = jj (nm37 (if g = vN V then W else vA V g))
            by_cases z : g = vN V
            · rw [if_pos z, z]; exact k3'
            · rw [if_neg z, s5.2.2.2.2.2.1 _ (by omega)]; exact ya g (by omega)
          · have hs' : s < vR V := hs
            rw [hj3, s5.2.2.2.2.2.1 _ (by omega)]; exact yb s hs'
          · have e17 : aI S3 (B 5) 17 = aI S2 (B 5) 17 := old 17 (by omega) (by omega)
            rw [e17, hB6]; exact yo
      refine ⟨?_, fun P hP => tail P ?_⟩
      · obtain ⟨q25, hq25⟩ := fresh_ex G.1
        obtain ⟨S29, z1, z2⟩ := key q25 hq25
        exact ⟨_, S29, z2⟩
      · rw [hright, decide_eq_true w6, if_neg (show ¬ b2 true = (0 : Int32) by decide)]
        refine ⟨u, (hr S20 b20).2, ?_⟩
        intro q25 hq25
        simp only [bnd_def]
        obtain ⟨S29, z1, z2⟩ := key q25 hq25
        exact ⟨S29, z1, hP _ _ z2⟩
    · have hcle : CLE N2 q a u us un ur r m B tp n G S S3 i G S20 := CLE.fault V own kc b20 d3 w6
      refine ⟨⟨G, S20, hcle⟩, fun P hP => tail P ?_⟩
      rw [hright, decide_eq_false w6, if_pos (show b2 false = (0 : Int32) by decide)]
      exact hP _ _ hcle
end UFORM2
end
section
section UOWN
variable {N2 : Nat → Nat} {F : Nat} {G : GS} {S S2 : HS} {q a u us un ur r m : Nat} {B : Nat → Nat} {tp : List Nat} {n i kc : Nat} {V : UNt} {own : Bool}
theorem u_own (hF : 3000 ≤ F) (hB : ∀ i j, B i = B j ↔ i = j) (h : JR G.2.2 N2 a r m B tp n S S2 i 0) (hi : i < n) (hX : UX G S q a u us un ur V own) (hY : UY S2 m B V own kc) (hU : UOK V) (hN : NOK V) (hkc : kc ≤ i) (hin : q ∈ G.1 ∧ a ∈ G.1 ∧ u ∈ G.1 ∧ us ∈ G.1 ∧ un ∈ G.1 ∧ ur ∈ G.1 ∧ r ∈ G.1) (hw : tkW tp i = wds 3) :
    ∃ S21 S2', s_X12_readLine N2 F m S2 = some S21 ∧ s_X12_takeSign N2 m 59 S21 = some S2' ∧ FRY m B S2 S2' ∧ (∃ G' S', CLE N2 q a u us un ur r m B tp n G S S2' i G' S') ∧ ∀ P : GS → HS → Prop, (∀ G' S', CLE N2 q a u us un ur r m B tp n G S S2' i G' S' → P G' S') → w_X10_readOwn F q G S P := by
  obtain ⟨w1, w2, w3⟩ := y_lineWords (f := 0) h
  rw [hw, decide_eq_false (show wds 3 ≠ wds 1 by decide +kernel)] at w1
  rw [hw, decide_eq_false (show wds 3 ≠ wds 2 by decide +kernel)] at w2
  rw [hw, decide_eq_true rfl] at w3
  obtain ⟨iq, ia, iu, ius, iun, iur, ir⟩ := hin
  obtain ⟨⟨x1, x2, x3, x4, x5⟩, ⟨l1, l2, l3⟩, ⟨c1, c2, c3, c4⟩, xf, xa, xb⟩ := id hX
  obtain ⟨⟨y1, y2, y3⟩, yf, ya, yb, yo⟩ := id hY
  have r5 : gR S2 1210 m = some (B 5) := h.2.2.1.1.2.2.2.2.2.1
  have n5 : N2 (B 5) = 30 := h.2.2.1.2.2.1.2.2.2.2.2.1
  have i17 : inB (17 : Int32) (N2 (B 5)) = true := by rw [n5]; decide
  have l17 : (17 : Int32).toNatClampNeg = 17 := by decide
  unfold s_X12_readLine
  rw [w1, bd1_some, if_pos (show b2 false = (0 : Int32) by decide), w2, bd1_some, if_pos (show b2 false = (0 : Int32) by decide), w3, bd1_some, if_neg (show ¬ b2 true = (0 : Int32) by decide)]
  have rd2 : s_X12_read N2 m 2 S2 = some (aI S2 (B 5) 17) := y_read (k := 2) h.2.2.1 (by omega)
  rw [rd2, bd1_some]
  cases own with
  | true =>
    have yo' : aI S2 (B 5) 17 = ii 0 := yo.1
    obtain ⟨S9, z1, z2⟩ := j_wrong (k := 3) (by omega) h
    obtain ⟨d1, d2, d3, d4, d5⟩ := z2
    have z1' : s_X12_wrong N2 m 3 S2 = some S9 := z1
    have hb1 : bl 0 3 (tQ0 tp (pt tp i)) ≠ 0 := by rw [bl_0]; omega
    obtain ⟨S3, t1, t2, t3⟩ := u_fault d3 hb1
    have hcle : CLE N2 q a u us un ur r m B tp n G S S3 i G (s_X8_blame a (ii (3 : Nat)) S) := CLE.fault V true kc d1 t3 hb1
    rw [yo', if_neg (show ¬ ii 0 < (0 : Int32) by decide), z1', bd1_some]
    refine ⟨S9, S3, rfl, t1, (d2.trans t2).fy B, ⟨G, _, hcle⟩, fun P hP => ?_⟩
    unfold w_X10_readOwn
    refine ⟨u, x2, ?_⟩
    simp only [c3]
    rw [if_neg (show ¬ b2 true = (0 : Int32) by decide)]
    refine ⟨a, x1, ?_⟩
    exact hP G _ hcle
  | false =>
    obtain ⟨yo1, yo2, yo3⟩ : aI S2 (B 5) 17 = ii (-1) ∧ kc = 0 ∧ vL V = 0 := yo
    subst yo2
    obtain ⟨S4, s1, s2⟩ := j_next (F := F) hF h hi
    obtain ⟨b1, b2', b3, b4, b5⟩ := s2
    -- the model: the code begins
    have hm1 : MC N2 m B tp n (wI (uI S2 1207 m (ii i + 1)) (B 5) 17 (gI (uI S2 1207 m (ii i + 1)) 1212 m)) (i + 1) 0 0 := by
      have := b3.wB hB (k := 5) (by decide) (by decide) 17 (gI (uI S2 1207 m (ii i + 1)) 1212 m)
      obtain ⟨e1, e2, e3, e4, e5, e6⟩ := this
      refine ⟨hB, e3, e4, e5, e6, ?_, e1.2.2.2.1, e1.2.2.2.2.1⟩
      show gI (uI S2 1207 m (ii i + 1)) 1212 m = _
      rw [gI_uI, if_neg (by omega)]; exact y3
    have g12 : gI (uI S2 1207 m (ii i + 1)) 1212 m = ii ((0 : Nat) : Int) := by rw [gI_uI, if_neg (by omega)]; exact y3
    obtain ⟨S15, hS15⟩ : ∃ S15, S15 = wI (uI S2 1207 m (ii i + 1)) (B 5) 17 (gI (uI S2 1207 m (ii i + 1)) 1212 m) := ⟨_, rfl⟩
    rw [← hS15] at hm1
    -- a first new address, for what the model does
    obtain ⟨q0, hq0⟩ := fresh_ex G.1
    have law : ∀ lr, lr ≠ a → _ := fun lr hlr => j_law (N := (pushG G lr 3 0).2.2) (a := a) (r := r) (lr := lr) (F := F) hF hlr hm1 (by omega)
    have hq0a : q0 ≠ a := fun e => hq0 (e ▸ ia)
    obtain ⟨S16, i', f', cs, p1, p2', p3, p4, p5, p6, _⟩ := law q0 hq0a
    have hnb := p3.nb
    rw [Nat.zero_add] at p3
    obtain ⟨S17, q1, q2, q3, q4⟩ := y_emit (o := 0) (z := 0) p3 (by omega) (by omega) (by omega)
    have q1' : s_X12_emit N2 m 0 0 S16 = some S17 := q1
    have hg7 : gI S2 1207 m = ii i := h.yf.2
    have fy15 : FRY m B S2 S15 := by rw [hS15]; exact (b2'.fy B).trans (FRY.w5 m hB _ (by omega) _)
    have fy17 : FRY m B S2 S17 := (fy15.trans (p2'.fy (by omega))).trans (q2.fy (by omega))
    rw [yo1, if_pos (show ii (-1) < (0 : Int32) by decide), hg7, bnd_def, show gR (uI S2 1207 m (ii i + 1)) 1210 m = some (B 5) from r5, bd1_some, if_pos i17, l17, bnd_def, ← hS15, p1, bd1_some, q1', bd1_some]
    -- the class, at any new address
    have cls : ∀ q8, q8 ∉ G.1 → ∃ (L : Int32) (S14 : HS), s_X3_readLaw (pushG G q8 3 0).2.2 F q8 (s_X3_init q8 a (zap q8 (uI S4 905 u 1))) = some (L, S14) ∧ (∀ g p, p ∈ G.1 → ¬ (p = a ∧ 802 ≤ g ∧ g ≤ 807) → ¬ (p = u ∧ g = 905) → gI S14 g p = gI S g p) ∧ gI S14 905 u = 1 ∧ (∀ g p, p ∈ G.1 → gR S14 g p = gR S g p) ∧ (∀ p, p ∈ G.1 → aI S14 p = aI S p ∧ aJ S14 p = aJ S p ∧ aR S14 p = aR S p) ∧ JR (pushG G q8 3 0).2.2 N2 a r m B tp n S14 S17 i' f' ∧ (f' = 0 → ∃ Ln : Nat, L = ii Ln ∧ Ln < 65536 ∧ LWM cs (lawB Ln)) := by
      intro q8 hq8
      have hne : ∀ p, p ∈ G.1 → p ≠ q8 := fun p hp e => hq8 (e ▸ hp)
      have en : ∀ p, p ∈ G.1 → (pushG G q8 3 0).2.2 p = G.2.2 p := fun p hp => pushG_o _ _ _ _ (hne p hp)
      have hq8a : q8 ≠ a := fun e => hq8 (e ▸ ia)
      obtain ⟨SI, hSI⟩ : ∃ SI, SI = s_X3_init q8 a (zap q8 (uI S4 905 u 1)) := ⟨_, rfl⟩
      have hSI' : SI = uR (zap q8 (uI S4 905 u 1)) 300 q8 (some a) := by rw [hSI]; rfl
      have gi : ∀ g p, p ∈ G.1 → ¬ (p = u ∧ g = 905) → gI SI g p = gI S4 g p := fun g p hp hn => by
        rw [hSI']; show gI (zap q8 (uI S4 905 u 1)) g p = _
        rw [gI_zap, if_neg (hne p hp), gI_uI, if_neg (fun r => hn ⟨r.2, r.1⟩)]
      have g905 : gI SI 905 u = 1 := by
        rw [hSI']; show gI (zap q8 (uI S4 905 u 1)) 905 u = _
        rw [gI_zap, if_neg (hne u iu), gI_uI, if_pos ⟨rfl, rfl⟩]
      have gj : ∀ g p, p ∈ G.1 → gJ SI g p = gJ S4 g p := fun g p hp => by
        rw [hSI']; show gJ (zap q8 (uI S4 905 u 1)) g p = _
        rw [gJ_zap, if_neg (hne p hp)]; rfl
      have gr : ∀ g p, p ∈ G.1 → gR SI g p = gR S4 g p := fun g p hp => by
        rw [hSI', gR_uR, if_neg (fun r => hne p hp r.2), gR_zap, if_neg (hne p hp)]; rfl
      have arr : ∀ p, p ∈ G.1 → aI SI p = aI S4 p ∧ aJ SI p = aJ S4 p ∧ aR SI p = aR S4 p := fun p hp => by
        rw [hSI']
        refine ⟨?_, ?_, ?_⟩
        · show aI (zap q8 (uI S4 905 u 1)) p = _; funext j; rw [aI_zap, if_neg (hne p hp)]; rfl
        · show aJ (zap q8 (uI S4 905 u 1)) p = _; funext j; rw [aJ_zap, if_neg (hne p hp)]; rfl
        · show aR (zap q8 (uI S4 905 u 1)) p = _; funext j; rw [aR_zap, if_neg (hne p hp)]; rfl
      have g300 : gR SI 300 q8 = some a := by rw [hSI', gR_uR, if_pos ⟨rfl, rfl⟩]
      have g301 : gI SI 301 q8 = ii ((0 : Nat) : Int) := by
        rw [hSI']; show gI (zap q8 (uI S4 905 u 1)) 301 q8 = _
        rw [gI_zap, if_pos rfl]; rfl
      have hxc : XC (pushG G q8 3 0).2.2 a r q8 tp SI 0 (i + 1) 0 := by
        obtain ⟨⟨T1, T2, T3, T4, T5, T6⟩, ⟨j, ⟨h1, h2, h3, h4, h5, h6⟩, hj⟩, _⟩ := b3
        have ga : ∀ g, g ≠ 905 → gI SI g a = gI S4 g a := fun g hg => gi g a ia (fun r => hg r.2)
        exact ⟨⟨by rw [gr _ _ ia]; exact T1, by rw [en r ir]; exact T2, by rw [ga _ (by omega)]; exact T3, T4, T5, by rw [(arr _ ir).1]; exact T6⟩, ⟨j, ⟨by rw [ga _ (by omega)]; exact h1, by rw [ga _ (by omega)]; exact h2, by rw [ga _ (by omega)]; exact h3, fun w => by rw [gj _ _ ia]; exact h4 w, fun w => by rw [ga _ (by omega)]; exact h5 w, by rw [ga _ (by omega)]; exact h6⟩, hj⟩, g300, g301, by omega⟩
      obtain ⟨S16', i2, f2, cs2, r1, r2, r3, r4, r5', r6, r7⟩ := law q8 hq8a
      have hSe : S16' = S16 := by rw [p1] at r1; injection r1 with r1; exact r1.symm
      subst hSe
      have hnb2 := r3.nb
      have hfb := p3.2.2.2.2.1
      have hfb2 := r3.2.2.2.2.1
      have hie : i2 = i' := by
        have e1 := r3.yf.2
        rw [p3.yf.2, ii_eq (by omega) (by omega) (by omega) (by omega)] at e1; omega
      have hfe : f2 = f' := by
        have e1 := r3.yf.1
        rw [p3.yf.1, ii_eq (by omega) (by omega) (by omega) (by omega)] at e1; omega
      subst hie; subst hfe
      have hce : cs2 = cs := by
        have hl : cs2.length = cs.length := by
          have e1 := r3.2.2.2.2.2.1
          rw [p3.2.2.2.2.2.1, ii_eq (by omega) (by omega) (by omega) (by omega)] at e1; omega
        apply List.ext_getElem? 
        intro j
        by_cases w : j < cs.length
        · rw [List.getElem?_eq_getElem w, List.getElem?_eq_getElem (by omega)]
          have a1 := p5 j _ (List.getElem?_eq_getElem w)
          have a2 := r5' j _ (List.getElem?_eq_getElem (show j < cs2.length by omega))
          rw [← a1, ← a2]
        · rw [List.getElem?_eq_none (by omega), List.getElem?_eq_none (by omega)]
      subst hce
      obtain ⟨L, S14, t1, t2, t3, t4, t5⟩ := r7 SI 0 hxc
      have e14 : S14.2.2 = SI.2.2 := t2.2
      refine ⟨ii L, S14, by rw [← hSI]; exact t1, fun g p hp h1 h2 => ?_, ?_, fun g p hp => ?_, fun p hp => ?_, ⟨t3, t4, q3.2.1, q3.2.2.1, q3.2.2.2.1, q3.2.2.2.2.1⟩, fun w => ⟨L, rfl, (t5 w).1, (t5 w).2⟩⟩
      · rw [t2.1 g p h1 (fun r => hne p hp r.1), gi g p hp h2, b1.1 g p h1]
      · rw [t2.1 905 u (by omega) (by omega)]; exact g905
      · have : gR S14 g p = gR SI g p := by unfold gR; rw [e14]
        rw [this, gr g p hp]; unfold gR; rw [b1.2]
      · obtain ⟨a1, a2, a3⟩ := arr p hp
        have k1' : aI S14 p = aI SI p := by unfold aI; rw [e14]
        have k2' : aJ S14 p = aJ SI p := by unfold aJ; rw [e14]
        have k3' : aR S14 p = aR SI p := by unfold aR; rw [e14]
        rw [k1', k2', k3', a1, a2, a3]
        refine ⟨?_, ?_, ?_⟩
        · unfold aI; rw [b1.2]
        · unfold aJ; rw [b1.2]
        · unfold aR; rw [b1.2]
    -- the sign behind it
    obtain ⟨L0, T14, u1, u2, u3, u4, u5, u6, u7⟩ := cls q0 hq0
    have sgnX : ∀ q8, q8 ∉ G.1 → ∀ (L : Int32) (S14 : HS), JR (pushG G q8 3 0).2.2 N2 a r m B tp n S14 S17 i' f' → JR (pushG G q8 3 0).2.2 N2 a r m B tp n (uI S14 906 u L) S17 i' f' := by
      intro q8 hq8 L S14 hj
      obtain ⟨⟨T1, T2, T3, T4, T5, T6⟩, ⟨j, ⟨h1, h2, h3, h4, h5, h6⟩, hj⟩, e3, e4, e5, e6⟩ := hj
      exact ⟨⟨T1, T2, by rw [gI_uI, if_neg (by omega)]; exact T3, T4, T5, T6⟩, ⟨j, ⟨by rw [gI_uI, if_neg (by omega)]; exact h1, by rw [gI_uI, if_neg (by omega)]; exact h2, by rw [gI_uI, if_neg (by omega)]; exact h3, h4, fun w => by rw [gI_uI, if_neg (by omega)]; exact h5 w, by rw [gI_uI, if_neg (by omega)]; exact h6⟩, hj⟩, e3, e4, e5, e6⟩
    obtain ⟨V17, S3, i3, f3, v1, v2, v3⟩ := t_sign (F := F) hF (sgnX q0 hq0 L0 T14 u6) (c := 59) (by omega) (by omega)
    have v2' : s_X12_takeSign N2 m 59 S17 = some S3 := v2
    have b3y := v3.2.1
    have key : ∀ q8, q8 ∉ G.1 → ∃ (L : Int32) (S14 : HS) (SE : HS), s_X3_readLaw (pushG G q8 3 0).2.2 F q8 (s_X3_init q8 a (zap q8 (uI S4 905 u 1))) = some (L, S14) ∧ gR S14 1000 q = some a ∧ s_X8_passSign (pushG G q8 3 0).2.2 F a 59 (uI S14 906 u L) = some SE ∧ CLE N2 q a u us un ur r m B tp n G S S3 i (pushG G q8 3 0) SE := by
      intro q8 hq8
      have hne : ∀ p, p ∈ G.1 → p ≠ q8 := fun p hp e => hq8 (e ▸ hp)
      have en : ∀ p, p ∈ G.1 → (pushG G q8 3 0).2.2 p = G.2.2 p := fun p hp => pushG_o _ _ _ _ (hne p hp)
      obtain ⟨L, S14, g1, g2, g3, g4, g5, g6, g7⟩ := cls q8 hq8
      obtain ⟨SE, S3', i4, f4, o1, o2, o3⟩ := t_sign (F := F) hF (sgnX q8 hq8 L S14 g6) (c := 59) (by omega) (by omega)
      have o1' : s_X8_passSign (pushG G q8 3 0).2.2 F a 59 (uI S14 906 u L) = some SE := o1
      have hSe : S3' = S3 := by rw [v2] at o2; injection o2 with o2; exact o2.symm
      subst hSe
      obtain ⟨d1, d2, d3, d4, d5⟩ := o3
      have fI : ∀ g p, p ∈ G.1 → ¬ (p = a ∧ 802 ≤ g ∧ g ≤ 807) → ¬ (p = u ∧ (g = 905 ∨ g = 906)) → gI SE g p = gI S g p := fun g p hp h1 h2 => by
        rw [d1.1 g p h1, gI_uI, if_neg (fun r => h2 ⟨r.2, Or.inr r.1⟩)]; exact g2 g p hp h1 (fun r => h2 ⟨r.1, Or.inl r.2⟩)
      have fR : ∀ g p, p ∈ G.1 → gR SE g p = gR S g p := fun g p hp => by
        have : gR SE g p = gR S14 g p := by unfold gR; rw [d1.2]; rfl
        rw [this]; exact g4 g p hp
      have fA : ∀ p, p ∈ G.1 → aI SE p = aI S p ∧ aJ SE p = aJ S p ∧ aR SE p = aR S p := fun p hp => by
        obtain ⟨a1, a2, a3⟩ := g5 p hp
        have k1' : aI SE p = aI S14 p := by unfold aI; rw [d1.2]; rfl
        have k2' : aJ SE p = aJ S14 p := by unfold aJ; rw [d1.2]; rfl
        have k3' : aR SE p = aR S14 p := by unfold aR; rw [d1.2]; rfl
        rw [k1', k2', k3']; exact ⟨a1, a2, a3⟩
      refine ⟨L, S14, SE, g1, (g4 1000 q iq).trans x1, o1', fun p hp => ⟨List.mem_append_left _ hp, en p hp⟩, ⟨fun g p hp h1 h2 => fI g p hp h1 (fun r => h2 ⟨r.1, by omega⟩), fR, fun p hp => (fA p hp).1, fun p hp _ _ => (fA p hp).2.1, fun p hp _ => (fA p hp).2.2⟩, i4, f4, setL V L.toInt.toNat, true, cs.length + 1, d3, fun z4 => ?_⟩
      have z' : f' = 0 := by
        by_cases z : f' = 0
        · exact z
        · have := d5 z; omega
      obtain ⟨Ln, e1, e2, e3⟩ := g7 z'
      have hLn : L.toInt.toNat = Ln := by rw [e1, ii_t (by omega) (by omega)]; rfl
      rw [hLn]
      refine ⟨by omega, ⟨⟨by rw [fR _ _ iq]; exact x1, by rw [fR _ _ iq]; exact x2, by rw [fR _ _ iu]; exact x3, by rw [fR _ _ iu]; exact x4, by rw [fR _ _ iu]; exact x5⟩, ⟨by rw [en _ ius]; exact l1, by rw [en _ iun]; exact l2, by rw [en _ iur]; exact l3⟩, ⟨by rw [fI _ _ iu (by omega) (by omega)]; exact c1, by rw [fI _ _ iu (by omega) (by omega)]; exact c2, ?_, ?_⟩, fun g hg => ?_, by rw [(fA _ iun).2.1]; exact xa, by rw [(fA _ iur).2.1]; exact xb⟩, ?_, ⟨hU.1, hU.2.1, e2, hU.2.2.2⟩, hN, by omega⟩
      · rw [d1.1 905 u (by omega), gI_uI, if_neg (by omega), g3]; rfl
      · rw [d1.1 906 u (by omega), gI_uI, if_pos ⟨rfl, rfl⟩, e1]; rfl
      · obtain ⟨p, p1', p2'', p3'⟩ := xf g hg
        exact ⟨p, List.mem_append_left _ p1', by rw [(fA _ ius).2.2]; exact p2'', p3'.mono2 (fun g' _ _ => fI g' p p1' (by omega) (by omega))⟩
      · have hI3 : ∀ p, aI S3' p = aI S17 p := fun p => by unfold aI; rw [d2.2]
        have hJ3 : ∀ p, aJ S3' p = aJ S2 p := fun p => by
          have h1 : aJ S3' p = aJ S17 p := by unfold aJ; rw [d2.2]
          rw [h1, aJ_of q2.2.2.2.2.2, aJ_of p2'.2.2.2.2.2, hS15]; rfl
        have hB5 : ∀ o, aI S3' (B 5) o = if o = 17 then ii ((0 : Nat) : Int) else aI S2 (B 5) o := by
          intro o
          rw [hI3, q2.2.2.2.1 _ (by rw [ne_eq, hB]; decide), p2'.2.2.2.1 _ (by rw [ne_eq, hB]; decide), hS15, aI_wI_s]
          show (if o = 17 then gI (uI S2 1207 m (ii i + 1)) 1212 m else aI S2 (B 5) o) = _
          rw [g12]
        refine ⟨⟨by rw [hB5, if_neg (by omega)]; exact y1, by rw [hB5, if_neg (by omega)]; exact y2, ?_⟩, fun g hg => ?_, by rw [hJ3]; exact ya, by rw [hJ3]; exact yb, ?_⟩
        · rw [d2.1 1212 m (by omega)]; exact q3.2.2.2.2.2.1
        · rw [hB5, hB5, hB5, if_neg (by omega), if_neg (by omega), if_neg (by omega)]; exact yf g hg
        · have e17 : aI S3' (B 5) 17 = ii ((0 : Nat) : Int) := by rw [hB5, if_pos rfl]
          refine ⟨e17, cs, rfl, by omega, fun j c hj => ?_, ?_, p6 z', e3⟩
          · have hjl := (List.getElem?_eq_some_iff.mp hj).1
            rw [hI3, q2.2.2.2.2.1 _ (by omega)]
            have := p5 j c hj
            rw [← this]
          · rw [hI3, q4]; rfl
    refine ⟨S17, S3, rfl, v2', fy17.trans (b3y.fy B), ?_, fun P hP => ?_⟩
    · obtain ⟨L, S14, SE, _, _, _, hc⟩ := key q0 hq0
      exact ⟨_, SE, hc⟩
    · unfold w_X10_readOwn
      refine ⟨u, x2, ?_⟩
      simp only [c3]
      rw [if_pos (show b2 false = (0 : Int32) by decide)]
      have h4R : ∀ g p, gR S4 g p = gR S g p := fun g p => by unfold gR; rw [b1.2]
      refine ⟨a, x1, S4, s1, u, (h4R 1001 q).trans x2, ?_⟩
      simp only [bnd_def]
      refine ⟨u, (h4R 1001 q).trans x2, ?_⟩
      intro q8 hq8
      have hqn : q ≠ q8 := fun e => hq8 (e ▸ iq)
      obtain ⟨L, S14, SE, z1, z2, z3, hc⟩ := key q8 hq8
      refine ⟨a, ?_, L, S14, z1, a, z2, SE, z3, hP _ _ hc⟩
      rw [gR_zap, if_neg hqn]; exact (h4R 1000 q).trans x1
end UOWN
end
