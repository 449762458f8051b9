section
/- reading an expression: what the model changes from its code's place lo on -/
def YXF (m co lo : Nat) (S S' : HS) : Prop := (∀ g p, ¬ (p = m ∧ (g = 1207 ∨ g = 1208 ∨ g = 1212)) → gI S' g p = gI S g p) ∧ S'.2.1 = S.2.1 ∧ S'.2.2.1 = S.2.2.1 ∧ (∀ p, p ≠ co → aI S' p = aI S p) ∧ (∀ o, o < lo → aI S' co o = aI S co o) ∧ S'.2.2.2.2 = S.2.2.2.2
section YXFR
variable {m co lo lo' : Nat} {S S' S'' : HS}
theorem YXF.refl (m co lo : Nat) (S : HS) : YXF m co lo S S := ⟨fun _ _ _ => rfl, rfl, rfl, fun _ _ => rfl, fun _ _ => rfl, rfl⟩
theorem YXF.trans (h1 : YXF m co lo S S') (h2 : YXF m co lo S' S'') : YXF m co lo S S'' := ⟨fun f b q => (h2.1 f b q).trans (h1.1 f b q), h2.2.1.trans h1.2.1, h2.2.2.1.trans h1.2.2.1, fun p q => (h2.2.2.2.1 p q).trans (h1.2.2.2.1 p q), fun o q => (h2.2.2.2.2.1 o q).trans (h1.2.2.2.2.1 o q), h2.2.2.2.2.2.trans h1.2.2.2.2.2⟩
theorem YXF.mono (h : YXF m co lo S S') (hl : lo' ≤ lo) : YXF m co lo' S S' := ⟨h.1, h.2.1, h.2.2.1, h.2.2.2.1, fun o q => h.2.2.2.2.1 o (by omega), h.2.2.2.2.2⟩
theorem YBF.yx (h : YBF m S S') (co lo : Nat) : YXF m co lo S S' := ⟨fun g p q => h.1 g p (fun r => q ⟨r.1, by omega⟩), by rw [h.2], by rw [h.2], fun p _ => by unfold aI; rw [h.2], fun o _ => by unfold aI; rw [h.2], by rw [h.2]⟩
end YXFR
/- the text, the model's reader at token i with the fault f, k0 codes so far -/
def MC (N2 : Nat → Nat) (m : Nat) (B : Nat → Nat) (tp : List Nat) (n : Nat) (S2 : HS) (i f k0 : Nat) : Prop :=
  (∀ i j, B i = B j ↔ i = j) ∧ YLAY N2 S2.2.2.1 m B ∧ WR S2 B ∧ YRD S2 m B tp n i f ∧ f < 100000 ∧ gI S2 1212 m = ii k0 ∧ tp.length ≤ 1000 ∧ (∀ c, c ∈ tp → tpok c)
/- the class's law reader lr with the facts k -/
def XC (N : Nat → Nat) (a r lr : Nat) (tp : List Nat) (S : HS) (k i f : Nat) : Prop := TPE N S a r tp ∧ XR S a tp i f ∧ gR S 300 lr = some a ∧ gI S 301 lr = ii k ∧ f < 100000
/- the facts of a case -/
def fck (k : Nat) : Nat → Int32 := fcs (k.testBit 0) (k.testBit 1) (k.testBit 2) (k.testBit 3)
theorem fck_bit : ∀ (k : Fin 16) (j : Fin 4), (ii (k.val : Nat) >>> (ii (j.val : Nat) &&& 31)) &&& 1 = fck k.val j.val := by decide +kernel
section MCS
variable {N N2 : Nat → Nat} {F : Nat} {S S' S2 S2' : HS} {a r lr m : Nat} {B : Nat → Nat} {tp : List Nat} {n i f k0 k i' f' : Nat}
theorem MC.mv (h : MC N2 m B tp n S2 i f k0) (h1 : YBF m S2 S2') (h2 : YRD S2' m B tp n i' f') (h3 : f' < 100000) : MC N2 m B tp n S2' i' f' k0 := by
  obtain ⟨a1, a2, a3, a4, a5, a6, a7, a8⟩ := h
  have e : aJ S2' (B 4) = aJ S2 (B 4) := by unfold aJ; rw [h1.2]
  exact ⟨a1, by rw [h1.2]; exact a2, fun i v q => by rw [e]; exact a3 i v q, h2, h3, by rw [h1.1 1212 m (by omega)]; exact a6, a7, a8⟩
theorem XC.mv (h : XC N a r lr tp S k i f) (h1 : RDB a S S') (h2 : XR S' a tp i' f') (h3 : f' < 100000) : XC N a r lr tp S' k i' f' := by
  obtain ⟨a1, a2, a3, a4, a5⟩ := h
  exact ⟨a1.rb h1, h2, by unfold gR; rw [h1.2]; exact a3, by rw [h1.1 301 lr (by omega)]; exact a4, h3⟩
theorem XC.x0 (h : XC N a r lr tp S k i 0) : XRD S a tp i 0 := by
  obtain ⟨j, j1, j2⟩ := h.2.1
  rw [← j2 rfl]; exact j1
theorem MC.c0 (h : MC N2 m B tp n S2 i f k0) : (ii (f : Int) = (0 : Int32)) = (f = 0) ∧ (ii (f : Int) ≤ (0 : Int32)) = (f = 0) := by
  have := h.2.2.2.2.1
  refine ⟨?_, ?_⟩
  · rw [show (0 : Int32) = ii 0 from rfl, ii_eq (by omega) (by omega) (by omega) (by omega)]; apply propext; omega
  · rw [show (0 : Int32) = ii 0 from rfl, ii_le (by omega) (by omega) (by omega) (by omega)]; apply propext; omega
theorem MC.yf (h : MC N2 m B tp n S2 i f k0) : gI S2 1208 m = ii f ∧ gI S2 1207 m = ii i := ⟨h.2.2.2.1.2.2.2.2.2.2.2, h.2.2.2.1.2.2.2.2.2.2.1⟩
theorem MC.nb (h : MC N2 m B tp n S2 i f k0) : i ≤ n ∧ n ≤ 1000 := ⟨h.2.2.2.1.2.1, by have := h.2.2.2.1.1; have := h.2.2.2.2.2.2.1; omega⟩
theorem MC.lt (h : MC N2 m B tp n S2 i f k0) (hw : tWhat tp (pt tp i) ≠ 0) : i < n := by
  have h1 := (y_at h.2.1 h.2.2.2.1 h.2.2.2.2.2.2.1).2.2.2.2.2.2.2.2.2.2
  have h2 := h.2.2.2.1.2.1
  have : i ≠ n := fun q => hw (h1.mpr q)
  omega
/- the model goes on, or stays -/
theorem MC.next (h : MC N2 m B tp n S2 i 0 k0) (hi : i < n) : MC N2 m B tp n (uI S2 1207 m (ii i + 1)) (i + 1) 0 k0 ∧ YBF m S2 (uI S2 1207 m (ii i + 1)) := by
  obtain ⟨n1, n2⟩ := y_next h.2.2.2.1 hi
  exact ⟨h.mv n2 n1 (by omega), n2⟩
theorem MC.stay (h : MC N2 m B tp n S2 i f k0) : MC N2 m B tp n (uI S2 1207 m (ii i + 0)) i f k0 ∧ YBF m S2 (uI S2 1207 m (ii i + 0)) := by
  have hY := h.2.2.2.1
  obtain ⟨h1, h2, h3, h4, h5, h6, h7, h8⟩ := hY
  have e0 : ii (i : Int) + 0 = ii (i : Int) := by rw [show (0 : Int32) = ii 0 from rfl, ii_add, Int.add_zero]
  have yb : YBF m S2 (uI S2 1207 m (ii i + 0)) := ⟨fun g p q => by rw [gI_uI, if_neg (fun r => q ⟨r.2, Or.inl r.1⟩)], rfl⟩
  exact ⟨h.mv yb ⟨h1, h2, h3, h4, h5, h6, by rw [gI_uI, if_pos ⟨rfl, rfl⟩]; exact e0, by rw [gI_uI, if_neg (by omega)]; exact h8⟩ h.2.2.2.2.1, yb⟩
theorem MC.wrong (h : MC N2 m B tp n S2 i f k0) {kd : Nat} (hk : kd < 10) : ∃ S2', s_X12_wrong N2 m (ii kd) S2 = some S2' ∧ YBF m S2 S2' ∧ MC N2 m B tp n S2' i (bl f kd (tQ0 tp (pt tp i))) k0 := by
  have hlen := h.2.2.2.2.2.2.1
  have hq := tQ0_le tp (pt_le tp i)
  obtain ⟨S4, y1, y2, y3, y4⟩ := y_wrong (k := kd) h.2.1 h.2.2.2.1 hlen h.2.2.2.2.1
  have yb : YBF m S2 S4 := ⟨fun g p q => y3 g p (fun r => q ⟨r.1, Or.inr r.2⟩), y4⟩
  have hb := h.2.2.2.2.1
  exact ⟨S4, y1, yb, h.mv yb y2 (by unfold bl; split <;> omega)⟩
/- the class goes on, or blames -/
theorem XC.next (hF : 3000 ≤ F) (h : XC N a r lr tp S k i 0) : ∃ S', s_X8_advance N F a S = some S' ∧ RDB a S S' ∧ XC N a r lr tp S' k (i + 1) 0 := by
  obtain ⟨S3, s1, s2, s3⟩ := x_next (F := F) hF h.1 h.x0
  exact ⟨S3, s1, s2, h.mv s2 ⟨i + 1, s3, fun _ => rfl⟩ (by omega)⟩
theorem XC.blame (h : XC N a r lr tp S k i f) {kd : Nat} (hk : kd < 10) : RDB a S (s_X8_blame a (ii kd) S) ∧ XC N a r lr tp (s_X8_blame a (ii kd) S) k i (bl f kd (tQ0 tp (pt tp i))) := by
  have hlen := h.1.2.2.2.1
  have hq := tQ0_le tp (pt_le tp i)
  obtain ⟨x1, x2⟩ := xr_blame (k := kd) h.2.1 h.2.2.2.2
  have hb := h.2.2.2.2
  exact ⟨x1, h.mv x1 x2 (by unfold bl; split <;> omega)⟩
theorem XC.right (h : XC N a r lr tp S k i f) : s_X8_isRight a S = b2 (decide (f = 0)) := xr_right h.2.1 h.2.2.2.2
/- the class's sign -/
theorem XC.sign (h : XC N a r lr tp S k i 0) {c : Nat} (hc : c < 127) : (gI S 802 a = ii (c : Int)) = (tWhat tp (pt tp i) = c) := by
  have hb := tWhat_b h.1.2.2.2.2.1 (pt tp i)
  rw [h.x0.2.2.1, ii_eq (by omega) (by omega) (by omega) (by omega)]; apply propext; omega
/- the model's sign -/
theorem MC.sign (h : MC N2 m B tp n S2 i 0 k0) {c : Nat} (hc : 40 ≤ c) (hc2 : c < 127) : s_X12_isSign N2 m (ii c) S2 = some (b2 (decide (tWhat tp (pt tp i) = c))) := by
  obtain ⟨a1, a2, a3, a4, a5, ⟨a6, a7, a8⟩, a9, a10, a11, a12, a13⟩ := y_at h.2.1 h.2.2.2.1 h.2.2.2.2.2.2.1
  have hw127 := tWhat_b h.2.2.2.2.2.2.2 (pt tp i)
  have hso : sO tp (pt tp i) < 5 := by unfold sO ySo; split; omega; split; omega; split; omega; split <;> omega
  have c3 : (ii (sO tp (pt tp i) : Int) = (3 : Int32)) = (sO tp (pt tp i) = 3) := by rw [k3, ii_eq (by omega) (by omega) (by omega) (by omega)]; apply propext; omega
  unfold s_X12_isSign
  rw [a5, if_pos (show (ii ((0 : Nat) : Int) = (0 : Int32)) from rfl), a1, bd1_some, a4, if_pos a6, a9, a10]
  simp only [c3]
  by_cases w3 : sO tp (pt tp i) = 3
  · have hne : tWhat tp (pt tp i) ≠ 0 ∧ tWhat tp (pt tp i) ≠ 1 ∧ tWhat tp (pt tp i) ≠ 2 ∧ tWhat tp (pt tp i) ≠ 3 := by
      unfold sO ySo at w3
      split at w3
      · omega
      · split at w3
        · omega
        · split at w3
          · omega
          · split at w3 <;> omega
    have hva : yVa tp (pt tp i) = tWhat tp (pt tp i) := by unfold yVa; rw [if_neg hne.2.1, if_neg hne.2.2.1, ← tWhat_s (by omega)]
    rw [if_pos w3, a3, bd1_some, if_pos a8, a12 hne.1 hne.2.2.2, hva, ii_jj (by omega) (by omega)]
    have cc : (lg_cmp (jj (tWhat tp (pt tp i) : Int)) (jj (c : Int)) = 0) = (tWhat tp (pt tp i) = c) := cmp0 (by omega) (by omega)
    simp only [cc]
    by_cases w : tWhat tp (pt tp i) = c
    · rw [if_pos w, decide_eq_true w]; rfl
    · rw [if_neg w, decide_eq_false w]; rfl
  · have hne : tWhat tp (pt tp i) ≠ c := by
      intro e
      apply w3
      unfold sO ySo
      rw [if_neg (by omega), if_neg (by omega), if_neg (by omega), if_neg (by omega)]
    rw [if_neg w3, decide_eq_false hne]; rfl
theorem MC.sign_f (h : MC N2 m B tp n S2 i f k0) (hf : f ≠ 0) (c : Int32) : s_X12_isSign N2 m c S2 = some 0 := by
  unfold s_X12_isSign
  rw [h.yf.1]
  simp only [h.c0.1]
  rw [if_neg hf]
/- the model takes a sign if it is there -/
theorem MC.has (h : MC N2 m B tp n S2 i f k0) {c : Nat} (hc : 40 ≤ c) (hc2 : c < 127) : ∃ S2', s_X12_hasSign N2 m (ii c) S2 = some (b2 (decide (f = 0 ∧ tWhat tp (pt tp i) = c)), S2') ∧ YBF m S2 S2' ∧ MC N2 m B tp n S2' (if f = 0 ∧ tWhat tp (pt tp i) = c then i + 1 else i) f k0 := by
  unfold s_X12_hasSign s_X12_hasSign_J20
  rw [h.yf.2]
  by_cases w0 : f = 0
  · subst w0
    rw [h.sign hc hc2, bd1_some]
    by_cases w : tWhat tp (pt tp i) = c
    · obtain ⟨z1, z2⟩ := h.next (h.lt (by omega))
      rw [decide_eq_true w, if_neg (show ¬ b2 true = (0 : Int32) by decide), bnd_def, if_pos (show isZ (b2 true) = true by decide), decide_eq_true (show 0 = 0 ∧ tWhat tp (pt tp i) = c from ⟨rfl, w⟩), if_pos (show 0 = 0 ∧ tWhat tp (pt tp i) = c from ⟨rfl, w⟩)]
      exact ⟨_, rfl, z2, z1⟩
    · obtain ⟨z1, z2⟩ := h.stay
      rw [decide_eq_false w, if_pos (show b2 false = (0 : Int32) by decide), bnd_def, if_pos (show isZ (b2 false) = true by decide), decide_eq_false (show ¬ (0 = 0 ∧ tWhat tp (pt tp i) = c) from fun r => w r.2), if_neg (show ¬ (0 = 0 ∧ tWhat tp (pt tp i) = c) from fun r => w r.2)]
      exact ⟨_, rfl, z2, z1⟩
  · obtain ⟨z1, z2⟩ := h.stay
    rw [h.sign_f w0, bd1_some, if_pos rfl, bnd_def, if_pos (show isZ (0 : Int32) = true by decide), decide_eq_false (show ¬ (f = 0 ∧ tWhat tp (pt tp i) = c) from fun r => w0 r.1), if_neg (show ¬ (f = 0 ∧ tWhat tp (pt tp i) = c) from fun r => w0 r.1)]
    exact ⟨_, rfl, z2, z1⟩
theorem MC.word (h : MC N2 m B tp n S2 i 0 k0) {w : Nat} (hw : w < 20) : s_X12_isWord N2 m (ii w) S2 = some (b2 (decide (tkW tp i = mds.getD w []))) := y_isWord h.2.1 h.2.2.1 h.2.2.2.1 h.2.2.2.2.2.2.1 hw
theorem XC.word (hF : 3000 ≤ F) (h : XC N a r lr tp S k i 0) {p : Nat} (hp : p < 20) : s_X8_isWord F a (p + 1) S = some (b2 (decide (tkW tp i = wds (p + 1)))) := x_isWord hF h.x0 h.1.2.2.2.2.1 hp
/- a code is laid -/
theorem y_emit (h : MC N2 m B tp n S2 i f k0) (hk : k0 ≤ 1000) {o z : Nat} (ho : o < 16) (hz : z < 10000) : ∃ S2', s_X12_emit N2 m (ii o) (ii z) S2 = some S2' ∧ YXF m (B 6) (1100 + k0) S2 S2' ∧ MC N2 m B tp n S2' i f (k0 + 1) ∧ aI S2' (B 6) (1100 + k0) = ii (o + 16 * z : Nat) := by
  obtain ⟨a1, a2, a3, ⟨h1, h2, h3, h4, h5, h6, h7, h8⟩, a5, a6, a7, a8⟩ := h
  have r6 : gR S2 1211 m = some (B 6) := a2.1.2.2.2.2.2.2.1
  have n6 : N2 (B 6) = 2200 := a2.2.2.1.2.2.2.2.2.2.1
  have e1 : (1100 : Int32) + ii (k0 : Int) = ii ((1100 + k0 : Nat) : Int) := by rw [show (1100 : Int32) = ii 1100 from rfl, ii_add]; congr 1
  have e2 : ii (o : Int) + 16 * ii (z : Int) = ii ((o + 16 * z : Nat) : Int) := by rw [k16, ii_mul, ii_add]; congr 1
  have e3 : ii (k0 : Int) + 1 = ii ((k0 + 1 : Nat) : Int) := by rw [k1, ii_add]; rfl
  unfold s_X12_emit
  rw [r6, bd1_some, a6, e1, if_pos (by rw [n6]; exact in_of (z := 1100 + k0) rfl (by omega) (by decide)), cl_of (z := 1100 + k0) rfl (by omega), bnd_def, bnd_def, e2]
  have g12 : gI (wI S2 (B 6) (1100 + k0) (ii ((o + 16 * z : Nat) : Int))) 1212 m = ii k0 := a6
  rw [g12, e3]
  have b1 : aI (wI S2 (B 6) (1100 + k0) (ii ((o + 16 * z : Nat) : Int))) (B 1) = aI S2 (B 1) := aI_wI_o _ _ _ _ (by rw [ne_eq, a1]; decide)
  have b2' : aI (wI S2 (B 6) (1100 + k0) (ii ((o + 16 * z : Nat) : Int))) (B 2) = aI S2 (B 2) := aI_wI_o _ _ _ _ (by rw [ne_eq, a1]; decide)
  refine ⟨_, rfl, ⟨fun g p q => ?_, rfl, rfl, fun p hp => ?_, fun o' ho' => ?_, rfl⟩, ⟨a1, a2, a3, ⟨h1, h2, fun k hk => ?_, h4, ?_, ?_, ?_, ?_⟩, a5, by rw [gI_uI, if_pos ⟨rfl, rfl⟩], a7, a8⟩, ?_⟩
  · rw [gI_uI, if_neg (fun r => q ⟨r.2, by omega⟩)]; rfl
  · exact aI_wI_o S2 _ _ _ hp
  · show aI (wI S2 (B 6) (1100 + k0) _) (B 6) o' = _
    rw [aI_wI_s]; show (if o' = 1100 + k0 then _ else aI S2 (B 6) o') = _; rw [if_neg (by omega)]
  · show tQ0 tp (pt tp k) < tp.length ∧ aI (wI S2 (B 6) (1100 + k0) _) (B 1) k = _ ∧ aI (wI S2 (B 6) (1100 + k0) _) (B 2) k = _ ∧ _
    rw [b1, b2']; exact h3 k hk
  · show aI (wI S2 (B 6) (1100 + k0) _) (B 1) n = 0
    rw [b1]; exact h5
  · show aI (wI S2 (B 6) (1100 + k0) _) (B 2) n = _
    rw [b2']; exact h6
  · rw [gI_uI, if_neg (by omega)]; exact h7
  · rw [gI_uI, if_neg (by omega)]; exact h8
  · show aI (wI S2 (B 6) (1100 + k0) _) (B 6) (1100 + k0) = _
    rw [aI_wI_s]; show (if 1100 + k0 = 1100 + k0 then _ else _) = _; rw [if_pos rfl]
end MCS
end
section
/- an expression on both sides: X the class's reading, Y the model's; piles up to D -/
def ESP (N N2 : Nat → Nat) (a r lr m : Nat) (B : Nat → Nat) (tp : List Nat) (n : Nat) (X : HS → Option (Int32 × HS)) (Y : HS → Option HS) (D : Nat) : Prop :=
  ∀ (S2 : HS) (i f k0 : Nat), MC N2 m B tp n S2 i f k0 → k0 ≤ i → ∃ (S2' : HS) (i' f' : Nat) (cs : List Int32), Y S2 = some S2' ∧ YXF m (B 6) (1100 + k0) S2 S2' ∧ MC N2 m B tp n S2' i' f' (k0 + cs.length) ∧ cs.length + i ≤ i' ∧ (f ≠ 0 → f' = f) ∧
    (∀ (j : Nat) (c : Int32), cs[j]? = some c → aI S2' (B 6) (1100 + k0 + j) = c) ∧ (f' = 0 → i < i' ∧ ∀ d, d ≤ D → cDp cs d = some (d + 1)) ∧
    ∀ (S : HS) (k : Nat), k < 16 → XC N a r lr tp S k i f → ∃ v S', X S = some (v, S') ∧ RDB a S S' ∧ XC N a r lr tp S' k i' f' ∧ (f' = 0 → ∀ st, cRun (fck k) cs st = v :: st)
/- an operation's code is laid behind its second operand -/
theorem cDp_op {o : Nat} (ho : 4 ≤ o) (ho2 : o < 16) (d : Nat) (hd : 2 ≤ d) : cDp [ii o] d = some (d - 1) := by
  have h : ∀ o : Fin 16, 4 ≤ o.val → cOp (ii (o.val : Nat)) ≠ 0 ∧ cOp (ii (o.val : Nat)) ≠ 1 ∧ cOp (ii (o.val : Nat)) ≠ 2 ∧ cOp (ii (o.val : Nat)) ≠ 3 := by decide +kernel
  obtain ⟨h0, h1, h2, h3⟩ := h ⟨o, ho2⟩ ho
  rw [cDp, if_neg h0, if_neg h1, if_neg h2, if_neg h3, if_pos hd]; rfl
theorem cRun_op {o : Nat} (ho : 4 ≤ o) (ho2 : o < 16) (fc : Nat → Int32) (x y : Int32) (st : List Int32) : cRun fc [ii o] (y :: x :: st) = cWk (ii o) x y :: st := by
  have h : ∀ o : Fin 16, 4 ≤ o.val → cOp (ii (o.val : Nat)) ≠ 1 ∧ cOp (ii (o.val : Nat)) ≠ 2 ∧ cOp (ii (o.val : Nat)) ≠ 3 ∧ cOp (ii (o.val : Nat)) = ii (o.val : Nat) := by decide +kernel
  obtain ⟨h1, h2, h3, h4⟩ := h ⟨o, ho2⟩ ho
  show cStep fc (ii o) (y :: x :: st) = _
  unfold cStep
  rw [if_neg h1, if_neg h2, if_neg h3, h4]
section ELOOP
variable {N N2 : Nat → Nat} {F : Nat} {a r lr m : Nat} {B : Nat → Nat} {tp : List Nat} {n : Nat}
/- a chain of operations -/
theorem e_loop {Xop : HS → Option (Int32 × HS)} {Yop : HS → Option HS} {D : Nat} (hop : ESP N N2 a r lr m B tp n Xop Yop (D + 1)) {LX : Nat → Int32 → Int32 → HS → Option (Int32 × HS)} {LY : Nat → HS → Option HS} (ops : Nat → Nat) (hops : ∀ i, ops i ≠ 0 → 4 ≤ ops i ∧ ops i < 16)
    (stopY : ∀ M S2 i f k0, MC N2 m B tp n S2 i f k0 → (f ≠ 0 ∨ ops i = 0) → ∃ S2', LY (M + 1) S2 = some S2' ∧ YBF m S2 S2' ∧ MC N2 m B tp n S2' i f k0)
    (stopX : ∀ M S k i f v (j : Nat), XC N a r lr tp S k i f → (f ≠ 0 ∨ ops i = 0) → j ≤ 1000 → LX (M + 1) v (ii j) S = some (v, S))
    (goY : ∀ M S2 i k0, MC N2 m B tp n S2 i 0 k0 → ops i ≠ 0 → i < n ∧ ∃ S2a, YBF m S2 S2a ∧ MC N2 m B tp n S2a (i + 1) 0 k0 ∧ LY (M + 1) S2 = bd1 (Yop S2a) fun S3 => bd1 (s_X12_emit N2 m (ii (ops i)) 0 S3) fun S4 => LY M S4)
    (goX : ∀ M S k i v (j : Nat), XC N a r lr tp S k i 0 → ops i ≠ 0 → j ≤ 1000 → ∃ S1, RDB a S S1 ∧ XC N a r lr tp S1 k (i + 1) 0 ∧ LX (M + 1) v (ii j) S = bd2 (Xop S1) fun w S3 => LX M (cWk (ii (ops i)) v w) (ii (j + 1 : Nat)) S3) :
    ∀ (d M M2 : Nat) (S2 : HS) (i f k0 : Nat), (f = 0 → n ≤ i + d) → d < M → d < M2 → MC N2 m B tp n S2 i f k0 → k0 ≤ i → ∃ (S2' : HS) (i' f' : Nat) (cs : List Int32), LY M2 S2 = some S2' ∧ YXF m (B 6) (1100 + k0) S2 S2' ∧ MC N2 m B tp n S2' i' f' (k0 + cs.length) ∧ cs.length + i ≤ i' ∧ (f ≠ 0 → f' = f) ∧
      (∀ (j : Nat) (c : Int32), cs[j]? = some c → aI S2' (B 6) (1100 + k0 + j) = c) ∧ (f' = 0 → ∀ d, d ≤ D → cDp cs (d + 1) = some (d + 1)) ∧
      ∀ (S : HS) (k : Nat) (v : Int32) (j : Nat), k < 16 → j ≤ i → XC N a r lr tp S k i f → ∃ v' S', LX M v (ii j) S = some (v', S') ∧ RDB a S S' ∧ XC N a r lr tp S' k i' f' ∧ (f' = 0 → ∀ st, cRun (fck k) cs (v :: st) = v' :: st) := by
  intro d
  have stop : ∀ (M M2 : Nat) (S2 : HS) (i f k0 : Nat), 0 < M → 0 < M2 → MC N2 m B tp n S2 i f k0 → (f ≠ 0 ∨ ops i = 0) → ∃ (S2' : HS) (i' f' : Nat) (cs : List Int32), LY M2 S2 = some S2' ∧ YXF m (B 6) (1100 + k0) S2 S2' ∧ MC N2 m B tp n S2' i' f' (k0 + cs.length) ∧ cs.length + i ≤ i' ∧ (f ≠ 0 → f' = f) ∧
      (∀ (j : Nat) (c : Int32), cs[j]? = some c → aI S2' (B 6) (1100 + k0 + j) = c) ∧ (f' = 0 → ∀ d, d ≤ D → cDp cs (d + 1) = some (d + 1)) ∧
      ∀ (S : HS) (k : Nat) (v : Int32) (j : Nat), k < 16 → j ≤ i → XC N a r lr tp S k i f → ∃ v' S', LX M v (ii j) S = some (v', S') ∧ RDB a S S' ∧ XC N a r lr tp S' k i' f' ∧ (f' = 0 → ∀ st, cRun (fck k) cs (v :: st) = v' :: st) := by
    intro M M2 S2 i f k0 hM hM2 h hs
    obtain ⟨M, rfl⟩ : ∃ w, M = w + 1 := ⟨M - 1, by omega⟩
    obtain ⟨M2, rfl⟩ : ∃ w, M2 = w + 1 := ⟨M2 - 1, by omega⟩
    obtain ⟨S2', s1, s2, s3⟩ := stopY M2 S2 i f k0 h hs
    have hnb := h.nb
    exact ⟨S2', i, f, [], s1, s2.yx _ _, s3, by simp, fun _ => rfl, fun j c q => by simp at q, fun _ d _ => rfl, fun S k v j hk hj hx => ⟨v, S, stopX M S k i f v j hx hs (by omega), RDB.refl _ _, hx, fun _ st => rfl⟩⟩
  induction d with
  | zero =>
    intro M M2 S2 i f k0 hn hM hM2 h hk0
    refine stop M M2 S2 i f k0 hM hM2 h ?_
    by_cases w : f = 0
    · by_cases w2 : ops i = 0
      · exact Or.inr w2
      · subst w
        have := (goY 0 S2 i k0 h w2).1
        have := hn rfl
        omega
    · exact Or.inl w
  | succ d ih =>
    intro M M2 S2 i f k0 hn hM hM2 h hk0
    by_cases w : f ≠ 0 ∨ ops i = 0
    · exact stop M M2 S2 i f k0 (by omega) (by omega) h w
    · have w0 : f = 0 := by omega
      have w1 : ops i ≠ 0 := by omega
      subst w0
      obtain ⟨M, rfl⟩ : ∃ w, M = w + 1 := ⟨M - 1, by omega⟩
      obtain ⟨M2, rfl⟩ : ∃ w, M2 = w + 1 := ⟨M2 - 1, by omega⟩
      obtain ⟨hlt, S2a, y1, y2, y3⟩ := goY M2 S2 i k0 h w1
      obtain ⟨S3, i3, f3, cs1, p1, p2', p3, p4, p5, p6, p7, p8⟩ := hop S2a (i + 1) 0 k0 y2 (by omega)
      have hnb := p3.nb
      obtain ⟨ho1, ho2⟩ := hops i w1
      obtain ⟨S4, e1, e2, e3, e4⟩ := y_emit (o := ops i) (z := 0) p3 (by omega) ho2 (by omega)
      have e1' : s_X12_emit N2 m (ii (ops i)) 0 S3 = some S4 := e1
      have e4' : aI S4 (B 6) (1100 + (k0 + cs1.length)) = ii (ops i) := by rw [e4]; congr 1
      obtain ⟨S5, i5, f5, cs2, q1, q2, q3, q4, q5, q6, q7, q8⟩ := ih M M2 S4 i3 f3 (k0 + cs1.length + 1) (fun z => by have := hn rfl; have := (p7 z).1; omega) (by omega) (by omega) e3 (by omega)
      refine ⟨S5, i5, f5, cs1 ++ (ii (ops i) :: cs2), by rw [y3, p1, bd1_some, e1', bd1_some, q1], ?_, ?_, ?_, fun z => absurd rfl z, fun j c hj => ?_, fun z d' hd' => ?_, fun S k v j hk hj hx => ?_⟩
      · exact ((y1.yx (B 6) (1100 + k0)).trans p2').trans ((e2.mono (by omega)).trans (q2.mono (by omega)))
      · have : k0 + (cs1 ++ ii (ops i) :: cs2).length = k0 + cs1.length + 1 + cs2.length := by simp; omega
        rw [this]; exact q3
      · simp; omega
      · by_cases z1 : j < cs1.length
        · rw [List.getElem?_append_left z1] at hj
          rw [q2.2.2.2.2.1 _ (by omega), e2.2.2.2.2.1 _ (by omega)]
          exact p6 j c hj
        · rw [List.getElem?_append_right (by omega)] at hj
          by_cases z2 : j = cs1.length
          · subst z2
            rw [Nat.sub_self] at hj
            have : ii (ops i : Int) = c := by simpa using hj
            rw [q2.2.2.2.2.1 _ (by omega), ← this, ← e4']; congr 1; omega
          · obtain ⟨u, hu⟩ : ∃ u, j = cs1.length + 1 + u := ⟨j - cs1.length - 1, by omega⟩
            subst hu
            rw [show cs1.length + 1 + u - cs1.length = u + 1 by omega, List.getElem?_cons_succ] at hj
            have := q6 u c hj
            rw [← this]; congr 1; omega
      · have hf3 : f3 = 0 := by
          by_cases z3 : f3 = 0
          · exact z3
          · have := q5 z3; omega
        have h1 := (p7 hf3).2 (d' + 1) (by omega)
        rw [cDp_app cs1 _ _ _ h1]
        have : ii (ops i : Int) :: cs2 = [ii (ops i : Int)] ++ cs2 := rfl
        rw [this, cDp_app _ _ _ _ (cDp_op ho1 ho2 (d' + 1 + 1) (by omega))]
        have := q7 z d' hd'
        rw [show d' + 1 + 1 - 1 = d' + 1 by omega]; exact this
      · obtain ⟨S1, x1, x2, x3⟩ := goX M S k i v j hx w1 (by omega)
        obtain ⟨vr, S1', x4, x5, x6, x7⟩ := p8 S1 k hk x2
        obtain ⟨v', S', x8, x9, x10, x11⟩ := q8 S1' k (cWk (ii (ops i)) v vr) (j + 1) hk (by omega) x6
        refine ⟨v', S', by rw [x3, x4, bd2_some]; exact x8, x1.trans (x5.trans x9), x10, fun z st => ?_⟩
        have hf3 : f3 = 0 := by
          by_cases z3 : f3 = 0
          · exact z3
          · have := q5 z3; omega
        rw [cRun_app, x7 hf3 (v :: st)]
        have : ii (ops i : Int) :: cs2 = [ii (ops i : Int)] ++ cs2 := rfl
        rw [this, cRun_app, cRun_op ho1 ho2]
        exact x11 z st
end ELOOP
end
section
section ECHAIN
variable {N N2 : Nat → Nat} {F : Nat} {a r lr m : Nat} {B : Nat → Nat} {tp : List Nat} {n : Nat}
/- an operand and what follows it -/
theorem e_chain (hF : 3000 ≤ F) {Xop : HS → Option (Int32 × HS)} {Yop : HS → Option HS} {D : Nat} (hop : ESP N N2 a r lr m B tp n Xop Yop (D + 1)) {LX : Nat → Int32 → Int32 → HS → Option (Int32 × HS)} {LY : Nat → HS → Option HS} (ops : Nat → Nat) (hops : ∀ i, ops i ≠ 0 → 4 ≤ ops i ∧ ops i < 16)
    (stopY : ∀ M S2 i f k0, MC N2 m B tp n S2 i f k0 → (f ≠ 0 ∨ ops i = 0) → ∃ S2', LY (M + 1) S2 = some S2' ∧ YBF m S2 S2' ∧ MC N2 m B tp n S2' i f k0)
    (stopX : ∀ M S k i f v (j : Nat), XC N a r lr tp S k i f → (f ≠ 0 ∨ ops i = 0) → j ≤ 1000 → LX (M + 1) v (ii j) S = some (v, S))
    (goY : ∀ M S2 i k0, MC N2 m B tp n S2 i 0 k0 → ops i ≠ 0 → i < n ∧ ∃ S2a, YBF m S2 S2a ∧ MC N2 m B tp n S2a (i + 1) 0 k0 ∧ LY (M + 1) S2 = bd1 (Yop S2a) fun S3 => bd1 (s_X12_emit N2 m (ii (ops i)) 0 S3) fun S4 => LY M S4)
    (goX : ∀ M S k i v (j : Nat), XC N a r lr tp S k i 0 → ops i ≠ 0 → j ≤ 1000 → ∃ S1, RDB a S S1 ∧ XC N a r lr tp S1 k (i + 1) 0 ∧ LX (M + 1) v (ii j) S = bd2 (Xop S1) fun w S3 => LX M (cWk (ii (ops i)) v w) (ii (j + 1 : Nat)) S3) :
    ESP N N2 a r lr m B tp n (fun S => bd2 (Xop S) fun v S' => LX F v 0 S') (fun S2 => bd1 (Yop S2) fun S3 => LY F S3) D := by
  intro S2 i f k0 h hk0
  have hnb := h.nb
  obtain ⟨S3, i3, f3, cs1, p1, p2', p3, p4, p5, p6, p7, p8⟩ := hop S2 i f k0 h hk0
  have hnb3 := p3.nb
  obtain ⟨S5, i5, f5, cs2, q1, q2, q3, q4, q5, q6, q7, q8⟩ := e_loop hop ops hops stopY stopX goY goX n F F S3 i3 f3 (k0 + cs1.length) (fun _ => by omega) (by omega) (by omega) p3 (by omega)
  have z0 : f5 = 0 → f3 = 0 := fun z => by
    by_cases z3 : f3 = 0
    · exact z3
    · have := q5 z3; omega
  refine ⟨S5, i5, f5, cs1 ++ cs2, by show (bd1 (Yop S2) fun S3 => LY F S3) = _; rw [p1, bd1_some, q1], p2'.trans (q2.mono (by omega)), by rw [List.length_append, ← Nat.add_assoc]; exact q3, by rw [List.length_append]; omega, fun z => by have := p5 z; rw [q5 (by omega), this], fun j c hj => ?_, fun z => ⟨?_, fun d hd => ?_⟩, fun S k hk hx => ?_⟩
  · by_cases z1 : j < cs1.length
    · rw [List.getElem?_append_left z1] at hj
      rw [q2.2.2.2.2.1 _ (by omega)]
      exact p6 j c hj
    · rw [List.getElem?_append_right (by omega)] at hj
      have := q6 _ c hj
      rw [← this]; congr 1; omega
  · have := (p7 (z0 z)).1; omega
  · rw [cDp_app cs1 _ _ _ ((p7 (z0 z)).2 d (by omega))]
    exact q7 z d hd
  · obtain ⟨v, S', x1, x2, x3, x4⟩ := p8 S k hk hx
    obtain ⟨v', S'', x5, x6, x7, x8⟩ := q8 S' k v 0 hk (by omega) x3
    refine ⟨v', S'', by show (bd2 (Xop S) fun v S' => LX F v 0 S') = _; rw [x1, bd2_some]; exact x5, x2.trans x6, x7, fun z st => ?_⟩
    rw [cRun_app, x4 (z0 z) st]
    exact x8 z st
theorem cWk4 (v w : Int32) : cWk (ii (4 : Nat)) v w = v + w := by unfold cWk s_X12_worked; rw [if_pos (by decide)]
theorem cWk5 (v w : Int32) : cWk (ii (5 : Nat)) v w = v - w := by unfold cWk s_X12_worked; rw [if_neg (by decide), if_pos (by decide)]
theorem cWk6 (v w : Int32) : cWk (ii (6 : Nat)) v w = v * w := by unfold cWk s_X12_worked; rw [if_neg (by decide), if_neg (by decide), if_pos (by decide)]
theorem cWk7 (v w : Int32) : cWk (ii (7 : Nat)) v w = if w ≤ v then 0 else 1 := by unfold cWk s_X12_worked; rw [if_neg (by decide), if_neg (by decide), if_neg (by decide), if_pos (by decide)]
theorem cWk8 (v w : Int32) : cWk (ii (8 : Nat)) v w = if v = w then 1 else 0 := by unfold cWk s_X12_worked; rw [if_neg (by decide), if_neg (by decide), if_neg (by decide), if_neg (by decide), if_pos (by decide)]
theorem cWk9 (v w : Int32) : cWk (ii (9 : Nat)) v w = if v = 0 then 0 else if w = 0 then 0 else 1 := by unfold cWk s_X12_worked; rw [if_neg (by decide), if_neg (by decide), if_neg (by decide), if_neg (by decide), if_neg (by decide), if_pos (by decide)]
theorem cWk10 (v w : Int32) : cWk (ii (10 : Nat)) v w = if v = 0 then (if w = 0 then 0 else 1) else 1 := by unfold cWk s_X12_worked; rw [if_neg (by decide), if_neg (by decide), if_neg (by decide), if_neg (by decide), if_neg (by decide), if_neg (by decide)]
variable {rx : Nat → Int32 → HS → Option (Int32 × HS)} {ry : Nat → Int32 → HS → Option HS} {e D : Nat}
/- the class's loops end -/
theorem j1000 {j : Nat} (hj : j ≤ 1000) : ¬ (1000 : Int32) < ii (j : Int) := by rw [show (1000 : Int32) = ii 1000 from rfl, ii_lt (by omega) (by omega) (by omega) (by omega)]; omega
theorem j_inc (j : Nat) : ii (j : Int) + Int32.ofInt 1 = ii ((j + 1 : Nat) : Int) := by rw [show Int32.ofInt 1 = ii 1 from rfl, ii_add]; rfl
theorem e_product (hF : 3000 ≤ F) (hp : ESP N N2 a r lr m B tp n (fun S => rx lr (ii e) S) (fun S2 => ry m (ii e) S2) (D + 1)) :
    ESP N N2 a r lr m B tp n (fun S => s_X3_readProduct N F rx lr (ii e) S) (fun S2 => s_X12_products N2 F ry m (ii e) S2) D := by
  refine e_chain (LX := fun M v j S => s_X3_readProduct_L8 N F rx M lr (ii e) v j S) (LY := fun M S2 => s_X12_products_L5 N2 F ry M m (ii e) S2) hF hp (fun i => if tWhat tp (pt tp i) = 42 then 6 else 0) (fun i hi => ?_) (fun M S2 i f k0 h hs => ?_) (fun M S k i f v j hx hs hj => ?_) (fun M S2 i k0 h hs => ?_) (fun M S k i v j hx hs hj => ?_)
  · skip
    by_cases w : tWhat tp (pt tp i) = 42
    · rw [if_pos w]; omega
    · rw [if_neg w] at hi; exact absurd rfl hi
  · skip
    have hno : ¬ (f = 0 ∧ tWhat tp (pt tp i) = 42) := by
      rintro ⟨q1, q2⟩
      rw [if_pos q2] at hs
      omega
    obtain ⟨S2', y1, y2, y3⟩ := h.has (c := 42) (by omega) (by omega)
    have y1' : s_X12_hasSign N2 m 42 S2 = some (b2 (decide (f = 0 ∧ tWhat tp (pt tp i) = 42)), S2') := y1
    rw [if_neg hno] at y3
    unfold s_X12_products_L5
    rw [y1', bd2_some, decide_eq_false hno, if_pos (show b2 false = (0 : Int32) by decide)]
    exact ⟨S2', rfl, y2, y3⟩
  · skip
    unfold s_X3_readProduct_L8
    rw [if_neg (j1000 hj), hx.2.2.1, bd1_some, hx.right]
    by_cases w : f = 0
    · subst w
      have hs2 : tWhat tp (pt tp i) ≠ 42 := by
        intro q
        rw [if_pos q] at hs; omega
      have c42 : (gI S 802 a = (42 : Int32)) = (tWhat tp (pt tp i) = 42) := hx.sign (c := 42) (by omega)
      rw [decide_eq_true rfl, if_neg (show ¬ b2 true = (0 : Int32) by decide), bd1_some]
      simp only [c42]
      rw [if_neg hs2]
    · rw [decide_eq_false w, if_pos (show b2 false = (0 : Int32) by decide)]
  · skip
    have hw : tWhat tp (pt tp i) = 42 := by
      by_cases w : tWhat tp (pt tp i) = 42
      · exact w
      · rw [if_neg w] at hs; exact absurd rfl hs
    obtain ⟨S2', y1, y2, y3⟩ := h.has (c := 42) (by omega) (by omega)
    have y1' : s_X12_hasSign N2 m 42 S2 = some (b2 (decide (0 = 0 ∧ tWhat tp (pt tp i) = 42)), S2') := y1
    rw [if_pos ⟨rfl, hw⟩] at y3
    refine ⟨h.lt (by omega), S2', y2, y3, ?_⟩
    rw [if_pos hw]
    rw [s_X12_products_L5, y1', bd2_some, decide_eq_true (show 0 = 0 ∧ tWhat tp (pt tp i) = 42 from ⟨rfl, hw⟩), if_neg (show ¬ b2 true = (0 : Int32) by decide)]
    rfl
  · skip
    have hw : tWhat tp (pt tp i) = 42 := by
      by_cases w : tWhat tp (pt tp i) = 42
      · exact w
      · rw [if_neg w] at hs; exact absurd rfl hs
    obtain ⟨S1, s1, s2, s3⟩ := hx.next hF
    have c42 : (gI S 802 a = (42 : Int32)) = (tWhat tp (pt tp i) = 42) := hx.sign (c := 42) (by omega)
    refine ⟨S1, s2, s3, ?_⟩
    rw [if_pos hw]
    rw [s_X3_readProduct_L8, if_neg (j1000 hj), hx.2.2.1, bd1_some, hx.right, decide_eq_true rfl, if_neg (show ¬ b2 true = (0 : Int32) by decide), bd1_some]
    simp only [c42]
    rw [if_pos hw, bd1_some, s1, bd1_some]
    simp only [bnd_def, j_inc, cWk6]
theorem e_sum (hF : 3000 ≤ F) (hp : ESP N N2 a r lr m B tp n (fun S => s_X3_readProduct N F rx lr (ii e) S) (fun S2 => s_X12_products N2 F ry m (ii e) S2) (D + 1)) :
    ESP N N2 a r lr m B tp n (fun S => s_X3_readSum N F rx lr (ii e) S) (fun S2 => s_X12_sums N2 F ry m (ii e) S2) D := by
  refine e_chain (LX := fun M v j S => s_X3_readSum_L8 N F rx (s_X3_readSum_J61 N F rx) M lr (ii e) v j S) (LY := fun M S2 => s_X12_sums_L5 N2 F ry M m (ii e) S2) hF hp (fun i => if tWhat tp (pt tp i) = 43 then 4 else if tWhat tp (pt tp i) = 45 then 5 else 0) (fun i hi => ?_) (fun M S2 i f k0 h hs => ?_) (fun M S k i f v j hx hs hj => ?_) (fun M S2 i k0 h hs => ?_) (fun M S k i v j hx hs hj => ?_)
  · skip
    split at hi
    · rename_i w; rw [if_pos w]; omega
    · rename_i w
      split at hi
      · rename_i w2; rw [if_neg w, if_pos w2]; omega
      · exact absurd rfl hi
  · skip
    unfold s_X12_sums_L5
    by_cases w : f = 0
    · subst w
      have w43 : tWhat tp (pt tp i) ≠ 43 := by intro q; rw [if_pos q] at hs; omega
      have w45 : tWhat tp (pt tp i) ≠ 45 := by intro q; rw [if_neg w43, if_pos q] at hs; omega
      have y1 : s_X12_isSign N2 m 43 S2 = some (b2 (decide (tWhat tp (pt tp i) = 43))) := h.sign (c := 43) (by omega) (by omega)
      have y2 : s_X12_isSign N2 m 45 S2 = some (b2 (decide (tWhat tp (pt tp i) = 45))) := h.sign (c := 45) (by omega) (by omega)
      rw [y1, bd1_some, decide_eq_false w43, if_pos (show b2 false = (0 : Int32) by decide), y2, bd1_some, decide_eq_false w45, if_pos (show b2 false = (0 : Int32) by decide)]
      exact ⟨S2, rfl, YBF.refl _ _, h⟩
    · rw [h.sign_f w, bd1_some, if_pos rfl, h.sign_f w, bd1_some, if_pos rfl]
      exact ⟨S2, rfl, YBF.refl _ _, h⟩
  · skip
    unfold s_X3_readSum_L8 s_X3_readSum_J42 s_X3_readSum_J61
    rw [if_neg (j1000 hj), hx.2.2.1, bd1_some, hx.right]
    by_cases w : f = 0
    · subst w
      have w43 : tWhat tp (pt tp i) ≠ 43 := by intro q; rw [if_pos q] at hs; omega
      have w45 : tWhat tp (pt tp i) ≠ 45 := by intro q; rw [if_neg w43, if_pos q] at hs; omega
      have c43 : (gI S 802 a = (43 : Int32)) = (tWhat tp (pt tp i) = 43) := hx.sign (c := 43) (by omega)
      have c45 : (gI S 802 a = (45 : Int32)) = (tWhat tp (pt tp i) = 45) := hx.sign (c := 45) (by omega)
      rw [decide_eq_true rfl, if_neg (show ¬ b2 true = (0 : Int32) by decide), bd1_some]
      simp only [bd1_some, c43, c45, w43, w45, if_true, if_false]
    · rw [decide_eq_false w, if_pos (show b2 false = (0 : Int32) by decide)]
  · skip
    have w0 : tWhat tp (pt tp i) = 43 ∨ tWhat tp (pt tp i) = 45 := by
      by_cases w : tWhat tp (pt tp i) = 43
      · exact Or.inl w
      · by_cases w2 : tWhat tp (pt tp i) = 45
        · exact Or.inr w2
        · rw [if_neg w, if_neg w2] at hs; exact absurd rfl hs
    have hlt := h.lt (show tWhat tp (pt tp i) ≠ 0 by omega)
    obtain ⟨z1, z2⟩ := h.next hlt
    have y1 : s_X12_isSign N2 m 43 S2 = some (b2 (decide (tWhat tp (pt tp i) = 43))) := h.sign (c := 43) (by omega) (by omega)
    have y2 : s_X12_isSign N2 m 45 S2 = some (b2 (decide (tWhat tp (pt tp i) = 45))) := h.sign (c := 45) (by omega) (by omega)
    refine ⟨hlt, _, z2, z1, ?_⟩
    rw [s_X12_sums_L5]
    unfold s_X12_sums_J23 s_X12_sums_J55
    rw [y1, bd1_some, bd1_some, bnd_def, h.yf.2]
    rcases w0 with w | w
    · rw [decide_eq_true w, if_neg (show ¬ b2 true = (0 : Int32) by decide), if_pos w]
      simp only [show ¬ b2 true = (0 : Int32) by decide, if_false]
      rfl
    · rw [decide_eq_false (show ¬ tWhat tp (pt tp i) = 43 by omega), if_pos (show b2 false = (0 : Int32) by decide), y2, bd1_some, decide_eq_true w, if_neg (show ¬ b2 true = (0 : Int32) by decide), if_neg (show ¬ tWhat tp (pt tp i) = 43 by omega), if_pos w]
      simp only [show b2 false = (0 : Int32) by decide, if_true]
      rfl
  · skip
    have w0 : tWhat tp (pt tp i) = 43 ∨ tWhat tp (pt tp i) = 45 := by
      by_cases w : tWhat tp (pt tp i) = 43
      · exact Or.inl w
      · by_cases w2 : tWhat tp (pt tp i) = 45
        · exact Or.inr w2
        · rw [if_neg w, if_neg w2] at hs; exact absurd rfl hs
    obtain ⟨S1, s1, s2, s3⟩ := hx.next hF
    have c43 : (gI S 802 a = (43 : Int32)) = (tWhat tp (pt tp i) = 43) := hx.sign (c := 43) (by omega)
    have c45 : (gI S 802 a = (45 : Int32)) = (tWhat tp (pt tp i) = 45) := hx.sign (c := 45) (by omega)
    refine ⟨S1, s2, s3, ?_⟩
    rw [s_X3_readSum_L8, if_neg (j1000 hj), hx.2.2.1, bd1_some, hx.right, decide_eq_true rfl, if_neg (show ¬ b2 true = (0 : Int32) by decide), bd1_some]
    unfold s_X3_readSum_J42 s_X3_readSum_J64 s_X3_readSum_J94
    rw [hx.2.2.1, bd1_some, bd1_some, s1, bd1_some, bd1_some]
    simp only [c43, c45]
    rcases w0 with w | w
    · rw [if_pos w, if_neg (show ¬ (1 : Int32) = 0 by decide), if_pos w]
      simp only [show ¬ (1 : Int32) = 0 by decide, if_false, bnd_def, j_inc, cWk4]
    · have e43 : (tWhat tp (pt tp i) = 43) = False := eq_false (by omega)
      have e45 : (tWhat tp (pt tp i) = 45) = True := eq_true w
      simp only [e43, e45, if_true, if_false, bd1_some, s1, bnd_def, j_inc, cWk5]
theorem e_either (hF : 3000 ≤ F) (hp : ESP N N2 a r lr m B tp n (fun S => s_X3_readTest N F rx lr (ii e) S) (fun S2 => s_X12_test N2 F ry m (ii e) S2) (D + 1)) :
    ESP N N2 a r lr m B tp n (fun S => s_X3_readEither N F rx lr (ii e) S) (fun S2 => s_X12_allOf N2 F ry m (ii e) S2) D := by
  have hwa : mds.getD 14 [] = wds 11 := by decide +kernel
  have hwo : mds.getD 15 [] = wds 12 := by decide +kernel
  have hne : wds 12 ≠ wds 11 := by decide +kernel
  have w1 : ∀ i, tkW tp i = wds 11 ∨ tkW tp i = wds 12 → tWhat tp (pt tp i) ≠ 0 := by
    intro i h
    have : tkW tp i ≠ [] := by rcases h with h | h <;> (rw [h]; decide +kernel)
    have := (tkW_ne tp i).mp this
    omega
  refine e_chain (LX := fun M v j S => s_X3_readEither_L8 N F rx (s_X3_readEither_J53 N F rx) M lr (ii e) v j S) (LY := fun M S2 => s_X12_allOf_L5 N2 F ry M m (ii e) S2) hF hp (fun i => if tkW tp i = wds 11 then 9 else if tkW tp i = wds 12 then 10 else 0) (fun i hi => ?_) (fun M S2 i f k0 h hs => ?_) (fun M S k i f v j hx hs hj => ?_) (fun M S2 i k0 h hs => ?_) (fun M S k i v j hx hs hj => ?_)
  · skip
    split at hi
    · rename_i w; rw [if_pos w]; omega
    · rename_i w
      split at hi
      · rename_i w2; rw [if_neg w, if_pos w2]; omega
      · exact absurd rfl hi
  · skip
    unfold s_X12_allOf_L5
    by_cases w : f = 0
    · subst w
      have w11 : tkW tp i ≠ wds 11 := by intro q; rw [if_pos q] at hs; omega
      have w12 : tkW tp i ≠ wds 12 := by intro q; rw [if_neg w11, if_pos q] at hs; omega
      have y1 : s_X12_isWord N2 m 14 S2 = some (b2 (decide (tkW tp i = mds.getD 14 []))) := h.word (w := 14) (by omega)
      have y2 : s_X12_isWord N2 m 15 S2 = some (b2 (decide (tkW tp i = mds.getD 15 []))) := h.word (w := 15) (by omega)
      rw [hwa, decide_eq_false w11] at y1
      rw [hwo, decide_eq_false w12] at y2
      rw [y1, bd1_some, if_pos (show b2 false = (0 : Int32) by decide), y2, bd1_some, if_pos (show b2 false = (0 : Int32) by decide)]
      exact ⟨S2, rfl, YBF.refl _ _, h⟩
    · have y1 := y_isWord_f (N2 := N2) h.2.2.2.1 h.2.2.2.2.1 w 14
      have y2 := y_isWord_f (N2 := N2) h.2.2.2.1 h.2.2.2.2.1 w 15
      rw [y1, bd1_some, if_pos rfl, y2, bd1_some, if_pos rfl]
      exact ⟨S2, rfl, YBF.refl _ _, h⟩
  · skip
    unfold s_X3_readEither_L8 s_X3_readEither_J53
    rw [if_neg (j1000 hj), hx.2.2.1, bd1_some, hx.right]
    by_cases w : f = 0
    · subst w
      have w11 : tkW tp i ≠ wds 11 := by intro q; rw [if_pos q] at hs; omega
      have w12 : tkW tp i ≠ wds 12 := by intro q; rw [if_neg w11, if_pos q] at hs; omega
      have y1 : s_X8_isWord F a 11 S = some (b2 (decide (tkW tp i = wds 11))) := hx.word hF (p := 10) (by omega)
      have y2 : s_X8_isWord F a 12 S = some (b2 (decide (tkW tp i = wds 12))) := hx.word hF (p := 11) (by omega)
      rw [decide_eq_false w11] at y1
      rw [decide_eq_false w12] at y2
      rw [decide_eq_true rfl, if_neg (show ¬ b2 true = (0 : Int32) by decide), bd1_some, y1, bd1_some, if_pos (show b2 false = (0 : Int32) by decide), bd1_some, y2, bd1_some, if_pos (show b2 false = (0 : Int32) by decide)]
    · rw [decide_eq_false w, if_pos (show b2 false = (0 : Int32) by decide)]
  · skip
    have w0 : tkW tp i = wds 11 ∨ tkW tp i = wds 12 := by
      by_cases w : tkW tp i = wds 11
      · exact Or.inl w
      · by_cases w2 : tkW tp i = wds 12
        · exact Or.inr w2
        · rw [if_neg w, if_neg w2] at hs; exact absurd rfl hs
    have hlt := h.lt (w1 i w0)
    obtain ⟨z1, z2⟩ := h.next hlt
    have y1 : s_X12_isWord N2 m 14 S2 = some (b2 (decide (tkW tp i = mds.getD 14 []))) := h.word (w := 14) (by omega)
    have y2 : s_X12_isWord N2 m 15 S2 = some (b2 (decide (tkW tp i = mds.getD 15 []))) := h.word (w := 15) (by omega)
    rw [hwa] at y1
    rw [hwo] at y2
    refine ⟨hlt, _, z2, z1, ?_⟩
    rw [s_X12_allOf_L5]
    unfold s_X12_allOf_J23 s_X12_allOf_J57
    rw [y1, bd1_some, bd1_some, bnd_def, h.yf.2]
    by_cases w : tkW tp i = wds 11
    · rw [decide_eq_true w, if_neg (show ¬ b2 true = (0 : Int32) by decide), if_pos w]
      simp only [show ¬ b2 true = (0 : Int32) by decide, if_false]
      rfl
    · have w2 : tkW tp i = wds 12 := by rcases w0 with q | q; exact absurd q w; exact q
      rw [decide_eq_false w, if_pos (show b2 false = (0 : Int32) by decide), y2, bd1_some, decide_eq_true w2, if_neg (show ¬ b2 true = (0 : Int32) by decide), if_neg w, if_pos w2]
      simp only [show b2 false = (0 : Int32) by decide, if_true]
      rfl
  · skip
    have w0 : tkW tp i = wds 11 ∨ tkW tp i = wds 12 := by
      by_cases w : tkW tp i = wds 11
      · exact Or.inl w
      · by_cases w2 : tkW tp i = wds 12
        · exact Or.inr w2
        · rw [if_neg w, if_neg w2] at hs; exact absurd rfl hs
    obtain ⟨S1, s1, s2, s3⟩ := hx.next hF
    have y1 : s_X8_isWord F a 11 S = some (b2 (decide (tkW tp i = wds 11))) := hx.word hF (p := 10) (by omega)
    have y2 : s_X8_isWord F a 12 S = some (b2 (decide (tkW tp i = wds 12))) := hx.word hF (p := 11) (by omega)
    refine ⟨S1, s2, s3, ?_⟩
    rw [s_X3_readEither_L8, if_neg (j1000 hj), hx.2.2.1, bd1_some, hx.right, decide_eq_true rfl, if_neg (show ¬ b2 true = (0 : Int32) by decide), bd1_some, y1, bd1_some]
    unfold s_X3_readEither_J56 s_X3_readEither_J106 s_X3_asFact
    rw [hx.2.2.1, bd1_some, bd1_some, s1, bd1_some, y2, bd1_some]
    by_cases w : tkW tp i = wds 11
    · rw [decide_eq_true w, if_neg (show ¬ b2 true = (0 : Int32) by decide), if_pos w]
      congr 1
      funext w' S3
      have h10 : ((1 : Int32) = 0) = False := eq_false (by decide)
      rw [if_neg (show ¬ b2 true = (0 : Int32) by decide), cWk9]
      by_cases q1 : v = 0
      · simp only [bnd_def, j_inc, q1, if_true]
      · by_cases q2 : w' = 0
        · simp only [bnd_def, j_inc, q1, q2, if_true, if_false]
        · simp only [bnd_def, j_inc, q1, q2, h10, if_false]
    · have w2 : tkW tp i = wds 12 := by rcases w0 with q | q; exact absurd q w; exact q
      rw [decide_eq_false w, if_pos (show b2 false = (0 : Int32) by decide), decide_eq_true w2, if_neg (show ¬ b2 true = (0 : Int32) by decide), if_neg w, if_pos w2]
      congr 1
      funext w' S3
      have h10 : ((1 : Int32) = 0) = False := eq_false (by decide)
      rw [if_pos (show b2 false = (0 : Int32) by decide), cWk10]
      by_cases q1 : v = 0
      · by_cases q2 : w' = 0
        · simp only [bnd_def, j_inc, q1, q2, if_true]
        · simp only [bnd_def, j_inc, q1, q2, h10, if_true, if_false]
      · simp only [bnd_def, j_inc, q1, h10, if_false]
end ECHAIN
end
section
section ETEST
variable {N N2 : Nat → Nat} {F : Nat} {a r lr m : Nat} {B : Nat → Nat} {tp : List Nat} {n : Nat} {rx : Nat → Int32 → HS → Option (Int32 × HS)} {ry : Nat → Int32 → HS → Option HS} {e D : Nat}
theorem e_test (hF : 3000 ≤ F) (hp : ESP N N2 a r lr m B tp n (fun S => s_X3_readSum N F rx lr (ii e) S) (fun S2 => s_X12_sums N2 F ry m (ii e) S2) (D + 1)) :
    ESP N N2 a r lr m B tp n (fun S => s_X3_readTest N F rx lr (ii e) S) (fun S2 => s_X12_test N2 F ry m (ii e) S2) D := by
  intro S2 i f k0 h hk0
  have hnb := h.nb
  obtain ⟨S3, i3, f3, cs1, p1, p2', p3, p4, p5, p6, p7, p8⟩ := hp S2 i f k0 h hk0
  have p1 : s_X12_sums N2 F ry m (ii e) S2 = some S3 := p1
  have hnb3 := p3.nb
  by_cases w0 : f3 = 0 ∧ (tWhat tp (pt tp i3) = 60 ∨ tWhat tp (pt tp i3) = 61)
  · obtain ⟨z0, w0⟩ := w0
    subst z0
    -- the operation
    obtain ⟨o, ho, hoY⟩ : ∃ o : Nat, (o = 7 ∨ o = 8) ∧ ∃ S5, YBF m S3 S5 ∧ MC N2 m B tp n S5 (i3 + 1) 0 (k0 + cs1.length) ∧ (bd1 (s_X12_isSign N2 m 60 S3) fun r2 => bd2 (s_X12_hasSign N2 m 60 S3) fun r4 S5 => if r4 = (0 : Int32) then bd2 (s_X12_hasSign N2 m 61 S5) fun r11 S12 => if r11 = (0 : Int32) then some S12 else bd1 (s_X12_sums N2 F ry m (ii e) S12) fun S8 => if r2 = (0 : Int32) then bd1 (s_X12_emit N2 m 8 0 S8) fun S10 => some S10 else bd1 (s_X12_emit N2 m 7 0 S8) fun S10 => some S10 else bd1 (s_X12_sums N2 F ry m (ii e) S5) fun S8 => if r2 = (0 : Int32) then bd1 (s_X12_emit N2 m 8 0 S8) fun S10 => some S10 else bd1 (s_X12_emit N2 m 7 0 S8) fun S10 => some S10) = (bd1 (s_X12_sums N2 F ry m (ii e) S5) fun S8 => bd1 (s_X12_emit N2 m (ii o) 0 S8) fun S10 => some S10) ∧
        ∀ (S : HS) (k : Nat), XC N a r lr tp S k i3 0 → ∃ S1, RDB a S S1 ∧ XC N a r lr tp S1 k (i3 + 1) 0 ∧ ∀ v, (bd1 (gR S 300 lr) fun t3 => if (s_X8_isRight t3 S) = (0 : Int32) then some (v, S) else bd1 (gR S 300 lr) fun t6 => if (gI S 802 t6) = (60 : Int32) then s_X3_readTest_J42 N F rx lr (ii e) v S else bd1 (gR S 300 lr) fun t17 => if (gI S 802 t17) = (61 : Int32) then s_X3_readTest_J42 N F rx lr (ii e) v S else some (v, S)) = (bd2 (s_X3_readSum N F rx lr (ii e) S1) fun w S' => some (cWk (ii o) v w, S')) := by
      have y60 : s_X12_isSign N2 m 60 S3 = some (b2 (decide (tWhat tp (pt tp i3) = 60))) := p3.sign (c := 60) (by omega) (by omega)
      obtain ⟨S5, h1, h2, h3⟩ := p3.has (c := 60) (by omega) (by omega)
      have h1' : s_X12_hasSign N2 m 60 S3 = some (b2 (decide (0 = 0 ∧ tWhat tp (pt tp i3) = 60)), S5) := h1
      have xx : ∀ (S : HS) (k : Nat), XC N a r lr tp S k i3 0 → (gI S 802 a = (60 : Int32)) = (tWhat tp (pt tp i3) = 60) ∧ (gI S 802 a = (61 : Int32)) = (tWhat tp (pt tp i3) = 61) := fun S k hx => ⟨hx.sign (c := 60) (by omega), hx.sign (c := 61) (by omega)⟩
      by_cases w : tWhat tp (pt tp i3) = 60
      · have hd : decide (0 = 0 ∧ tWhat tp (pt tp i3) = 60) = true := decide_eq_true ⟨rfl, w⟩
        rw [if_pos ⟨rfl, w⟩] at h3
        refine ⟨7, Or.inl rfl, S5, h2, h3, ?_, fun S k hx => ?_⟩
        · rw [y60, bd1_some, h1', bd2_some, hd, decide_eq_true w, if_neg (show ¬ b2 true = (0 : Int32) by decide)]
          simp only [show ¬ b2 true = (0 : Int32) by decide, if_false]
          rfl
        · obtain ⟨S1, s1, s2, s3⟩ := hx.next hF
          refine ⟨S1, s2, s3, fun v => ?_⟩
          obtain ⟨c60, c61⟩ := xx S k hx
          have e60 : (tWhat tp (pt tp i3) = 60) = True := eq_true w
          have h10 : ((1 : Int32) = 0) = False := eq_false (by decide)
          rw [hx.2.2.1, bd1_some, hx.right, decide_eq_true rfl, if_neg (show ¬ b2 true = (0 : Int32) by decide), bd1_some]
          simp only [c60, e60, if_true]
          unfold s_X3_readTest_J42 s_X3_readTest_J59 s_X3_readTest_J103 s_X3_asFact
          simp only [hx.2.2.1, bd1_some, s1, c60, e60, if_true, h10, if_false]
          congr 1
          funext w' S'
          rw [cWk7]
          by_cases q : w' ≤ v
          · rw [if_pos q, if_pos q]
          · rw [if_neg q, if_neg q]
      · have w61 : tWhat tp (pt tp i3) = 61 := by rcases w0 with q | q; exact absurd q w; exact q
        have hd : decide (0 = 0 ∧ tWhat tp (pt tp i3) = 60) = false := decide_eq_false (fun q => w q.2)
        rw [if_neg (fun q => w q.2)] at h3
        obtain ⟨S6, g1, g2, g3⟩ := h3.has (c := 61) (by omega) (by omega)
        have g1' : s_X12_hasSign N2 m 61 S5 = some (b2 (decide (0 = 0 ∧ tWhat tp (pt tp i3) = 61)), S6) := g1
        have hd2 : decide (0 = 0 ∧ tWhat tp (pt tp i3) = 61) = true := decide_eq_true ⟨rfl, w61⟩
        rw [if_pos ⟨rfl, w61⟩] at g3
        refine ⟨8, Or.inr rfl, S6, h2.trans g2, g3, ?_, fun S k hx => ?_⟩
        · rw [y60, bd1_some, h1', bd2_some, hd, decide_eq_false w, if_pos (show b2 false = (0 : Int32) by decide), g1', bd2_some, hd2, if_neg (show ¬ b2 true = (0 : Int32) by decide)]
          simp only [show b2 false = (0 : Int32) by decide, if_true]
          rfl
        · obtain ⟨S1, s1, s2, s3⟩ := hx.next hF
          refine ⟨S1, s2, s3, fun v => ?_⟩
          obtain ⟨c60, c61⟩ := xx S k hx
          have e60 : (tWhat tp (pt tp i3) = 60) = False := eq_false w
          have e61 : (tWhat tp (pt tp i3) = 61) = True := eq_true w61
          have h10 : ((1 : Int32) = 0) = False := eq_false (by decide)
          rw [hx.2.2.1, bd1_some, hx.right, decide_eq_true rfl, if_neg (show ¬ b2 true = (0 : Int32) by decide), bd1_some]
          simp only [c60, e60, c61, e61, bd1_some, if_true, if_false]
          unfold s_X3_readTest_J42 s_X3_readTest_J59 s_X3_readTest_J103 s_X3_asFact
          simp only [hx.2.2.1, bd1_some, s1, c60, e60, if_true, h10, if_false]
          congr 1
          funext w' S'
          rw [cWk8]
          by_cases q : v = w'
          · rw [if_pos q, if_pos q]
          · rw [if_neg q, if_neg q]
    obtain ⟨S5, y1, y2, y3, hX⟩ := hoY
    have ho4 : 4 ≤ o ∧ o < 16 := by omega
    obtain ⟨S8, i8, f8, cs2, q1, q2, q3, q4, q5, q6, q7, q8⟩ := hp S5 (i3 + 1) 0 (k0 + cs1.length) y2 (by omega)
    have q1 : s_X12_sums N2 F ry m (ii e) S5 = some S8 := q1
    have hnb8 := q3.nb
    obtain ⟨S9, e1, e2, e3, e4⟩ := y_emit (o := o) (z := 0) q3 (by omega) ho4.2 (by omega)
    have e1' : s_X12_emit N2 m (ii o) 0 S8 = some S9 := e1
    have e4' : aI S9 (B 6) (1100 + (k0 + cs1.length + cs2.length)) = ii o := by rw [e4]; congr 1
    refine ⟨S9, i8, f8, cs1 ++ (cs2 ++ [ii o]), by show s_X12_test N2 F ry m (ii e) S2 = _; unfold s_X12_test s_X12_test_J30 s_X12_test_J47; rw [p1, bd1_some, y3, q1, bd1_some, e1', bd1_some], ?_, ?_, ?_, ?_, fun j c hj => ?_, fun z => ⟨by have := (q7 z).1; omega, fun d hd => ?_⟩, fun S k hk hx => ?_⟩
    · exact p2'.trans ((y1.yx (B 6) (1100 + k0)).trans ((q2.mono (by omega)).trans (e2.mono (by omega))))
    · have : k0 + (cs1 ++ (cs2 ++ [ii (o : Int)])).length = k0 + cs1.length + cs2.length + 1 := by simp; omega
      rw [this]; exact e3
    · simp; omega
    · intro z
      have := p5 z
      exact absurd this.symm z
    · by_cases z1 : j < cs1.length
      · rw [List.getElem?_append_left z1] at hj
        rw [e2.2.2.2.2.1 _ (by omega), q2.2.2.2.2.1 _ (by omega), (y1.yx (B 6) (1100 + k0 + j + 1)).2.2.2.2.1 _ (by omega)]
        exact p6 j c hj
      · rw [List.getElem?_append_right (by omega)] at hj
        by_cases z2 : j - cs1.length < cs2.length
        · rw [List.getElem?_append_left z2] at hj
          rw [e2.2.2.2.2.1 _ (by omega)]
          have := q6 _ c hj
          rw [← this]; congr 1; omega
        · rw [List.getElem?_append_right (by omega)] at hj
          by_cases z3 : j - cs1.length - cs2.length = 0
          · rw [z3] at hj
            have : ii (o : Int) = c := by simpa using hj
            rw [← this, ← e4']; congr 1; omega
          · obtain ⟨u, hu⟩ : ∃ u, j - cs1.length - cs2.length = u + 1 := ⟨j - cs1.length - cs2.length - 1, by omega⟩
            rw [hu] at hj
            simp at hj
    · rw [cDp_app cs1 _ _ _ ((p7 rfl).2 d (by omega)), cDp_app cs2 _ _ _ ((q7 z).2 (d + 1) (by omega)), cDp_op ho4.1 ho4.2 _ (by omega)]; rfl
    · obtain ⟨v, S', x1, x2, x3, x4⟩ := p8 S k hk hx
      have x1 : s_X3_readSum N F rx lr (ii e) S = some (v, S') := x1
      obtain ⟨S1, x5, x6, x7⟩ := hX S' k x3
      obtain ⟨v2, S'', x8, x9, x10, x11⟩ := q8 S1 k hk x6
      have x8 : s_X3_readSum N F rx lr (ii e) S1 = some (v2, S'') := x8
      refine ⟨cWk (ii o) v v2, S'', ?_, x2.trans (x5.trans x9), x10, fun z st => ?_⟩
      · show s_X3_readTest N F rx lr (ii e) S = _
        unfold s_X3_readTest
        rw [x1, bd2_some, x7 v, x8, bd2_some]
      · rw [cRun_app, x4 rfl st, cRun_app, x11 z (v :: st), cRun_op ho4.1 ho4.2]
  · -- no operation
    obtain ⟨S5, h1, h2, h3⟩ := p3.has (c := 60) (by omega) (by omega)
    have hd : decide (f3 = 0 ∧ tWhat tp (pt tp i3) = 60) = false := decide_eq_false (fun q => w0 ⟨q.1, Or.inl q.2⟩)
    have hd2 : decide (f3 = 0 ∧ tWhat tp (pt tp i3) = 61) = false := decide_eq_false (fun q => w0 ⟨q.1, Or.inr q.2⟩)
    rw [if_neg (fun q => w0 ⟨q.1, Or.inl q.2⟩)] at h3
    obtain ⟨S6, g1, g2, g3⟩ := h3.has (c := 61) (by omega) (by omega)
    rw [if_neg (fun q => w0 ⟨q.1, Or.inr q.2⟩)] at g3
    rw [hd] at h1
    rw [hd2] at g1
    have h1' : s_X12_hasSign N2 m 60 S3 = some (b2 false, S5) := h1
    have g1' : s_X12_hasSign N2 m 61 S5 = some (b2 false, S6) := g1
    obtain ⟨r2, hr2⟩ : ∃ r2, s_X12_isSign N2 m 60 S3 = some r2 := by
      by_cases w : f3 = 0
      · subst w; exact ⟨_, p3.sign (c := 60) (by omega) (by omega)⟩
      · exact ⟨_, p3.sign_f w 60⟩
    have hnbs := (h2.trans g2).yx (B 6)
    refine ⟨S6, i3, f3, cs1, ?_, p2'.trans (hnbs (1100 + k0)), g3, p4, p5, fun j c hj => ?_, fun z => ⟨(p7 z).1, fun d hd => (p7 z).2 d (by omega)⟩, fun S k hk hx => ?_⟩
    · show s_X12_test N2 F ry m (ii e) S2 = _
      unfold s_X12_test s_X12_test_J30 s_X12_test_J47
      rw [p1, bd1_some, hr2, bd1_some, h1', bd2_some, if_pos (show b2 false = (0 : Int32) by decide), g1', bd2_some, if_pos (show b2 false = (0 : Int32) by decide)]
    · rw [(hnbs (1100 + k0 + j + 1)).2.2.2.2.1 _ (by omega)]; exact p6 j c hj
    · obtain ⟨v, S', x1, x2, x3, x4⟩ := p8 S k hk hx
      have x1 : s_X3_readSum N F rx lr (ii e) S = some (v, S') := x1
      refine ⟨v, S', ?_, x2, x3, x4⟩
      show s_X3_readTest N F rx lr (ii e) S = _
      unfold s_X3_readTest
      rw [x1, bd2_some, x3.2.2.1, bd1_some, x3.right]
      by_cases w : f3 = 0
      · subst w
        have c60 : (gI S' 802 a = (60 : Int32)) = (tWhat tp (pt tp i3) = 60) := x3.sign (c := 60) (by omega)
        have c61 : (gI S' 802 a = (61 : Int32)) = (tWhat tp (pt tp i3) = 61) := x3.sign (c := 61) (by omega)
        have e60 : (tWhat tp (pt tp i3) = 60) = False := eq_false (fun q => w0 ⟨rfl, Or.inl q⟩)
        have e61 : (tWhat tp (pt tp i3) = 61) = False := eq_false (fun q => w0 ⟨rfl, Or.inr q⟩)
        rw [decide_eq_true rfl, if_neg (show ¬ b2 true = (0 : Int32) by decide), bd1_some]
        simp only [c60, e60, c61, e61, bd1_some, if_false]
      · rw [decide_eq_false w, if_pos (show b2 false = (0 : Int32) by decide)]
end ETEST
end
section
theorem num_b {tp : List Nat} {p : Nat} (hp : p ≤ tp.length) (w2 : tWhat tp p = 2) : dv tp (tQ0 tp p) (tD0 tp p) < 10000 := by
  have hq := tQ0_le tp hp
  have hd4 : tD0 tp p ≤ 4 := by
    unfold tWhat at w2
    split at w2
    · omega
    · split at w2
      · split at w2 <;> omega
      · split at w2
        · split at w2 <;> omega
        · split at w2
          · rename_i q1 q2 q3 q4; rw [w2] at q4; exact absurd q4 (by decide)
          · omega
  have hrd := run_le isDg (tp.drop (tQ0 tp p))
  rw [List.length_drop] at hrd
  have hdb := dv_b (tp := tp) (q := tQ0 tp p) (tD0 tp p) (Nat.le_refl _) (by unfold tD0; omega)
  exact Nat.lt_of_lt_of_le hdb (pw10 ⟨tD0 tp p, by omega⟩)
theorem cd_div {o z : Nat} (ho : o < 16) (hz : z < 10000) : ii ((o + 16 * z : Nat) : Int) / 16 = ii (z : Nat) := by
  rw [k16, ii_div (by omega) (by omega) (by omega) (by omega)]; congr 1; omega
theorem cd_op {o z : Nat} (ho : o < 16) (hz : z < 10000) : cOp (ii ((o + 16 * z : Nat) : Int)) = ii (o : Nat) := by
  unfold cOp
  rw [cd_div ho hz, k16, ii_mul, ii_sub]; congr 1; omega
theorem cDp_num {z : Nat} (hz : z < 10000) {d : Nat} (hd : d < 64) : cDp [ii ((1 + 16 * z : Nat) : Int)] d = some (d + 1) := by
  rw [cDp, cd_op (by omega) hz, if_neg (by decide), if_pos (by decide), if_pos hd]; rfl
theorem cRun_num {z : Nat} (hz : z < 10000) (fc : Nat → Int32) (st : List Int32) : cRun fc [ii ((1 + 16 * z : Nat) : Int)] st = ii (z : Nat) :: st := by
  show cStep fc _ st = _
  unfold cStep
  rw [cd_op (by omega) hz, if_pos (by decide), cd_div (by omega) hz]
theorem cDp_fact {z : Nat} (hz : z < 4) {d : Nat} (hd : d < 64) : cDp [ii ((2 + 16 * z : Nat) : Int)] d = some (d + 1) := by
  rw [cDp, cd_op (by omega) (by omega), if_neg (by decide), if_neg (by decide), if_pos (by decide), cd_div (by omega) (by omega), ii_t (by omega) (by omega), if_pos (by omega)]; rfl
theorem cRun_fact {z : Nat} (hz : z < 4) (fc : Nat → Int32) (st : List Int32) : cRun fc [ii ((2 + 16 * z : Nat) : Int)] st = fc z :: st := by
  show cStep fc _ st = _
  unfold cStep
  rw [cd_op (by omega) (by omega), if_neg (by decide), if_pos (by decide), cd_div (by omega) (by omega), ii_t (by omega) (by omega)]; rfl
theorem cDp_not {d : Nat} (hd : 1 ≤ d) : cDp [ii (3 : Nat)] d = some d := by
  rw [cDp, if_neg (by decide), if_neg (by decide), if_neg (by decide), if_pos (by decide), if_pos hd]; rfl
theorem cRun_not (fc : Nat → Int32) (x : Int32) (st : List Int32) : cRun fc [ii (3 : Nat)] (x :: st) = (if x = 0 then 1 else 0) :: st := by
  show cStep fc (ii (3 : Nat)) (x :: st) = _
  unfold cStep
  rw [if_neg (by decide), if_neg (by decide), if_pos (by decide)]
section EPART
variable {N N2 : Nat → Nat} {F : Nat} {a r lr m : Nat} {B : Nat → Nat} {tp : List Nat} {n : Nat} {rx : Nat → Int32 → HS → Option (Int32 × HS)} {ry : Nat → Int32 → HS → Option HS} {e : Nat}
variable {S S2 : HS} {i f k0 k : Nat}
theorem MC.hasW (h : MC N2 m B tp n S2 i f k0) {w : Nat} (hw : w < 20) : ∃ S2', s_X12_hasWord N2 m (ii w) S2 = some (b2 (decide (f = 0 ∧ tkW tp i = mds.getD w [])), S2') ∧ YBF m S2 S2' ∧ MC N2 m B tp n S2' (if f = 0 ∧ tkW tp i = mds.getD w [] then i + 1 else i) f k0 := by
  unfold s_X12_hasWord s_X12_hasWord_J20
  rw [h.yf.2]
  by_cases w0 : f = 0
  · subst w0
    rw [h.word hw, bd1_some]
    by_cases q : tkW tp i = mds.getD w []
    · have h1 : tWhat tp (pt tp i) = 1 := (tkW_ne tp i).mp (by rw [q]; exact (mds_ok ⟨w, hw⟩).2)
      obtain ⟨z1, z2⟩ := h.next (h.lt (by omega))
      rw [decide_eq_true q, if_neg (show ¬ b2 true = (0 : Int32) by decide), bnd_def, if_pos (show isZ (b2 true) = true by decide), decide_eq_true (show 0 = 0 ∧ tkW tp i = mds.getD w [] from ⟨rfl, q⟩), if_pos (show 0 = 0 ∧ tkW tp i = mds.getD w [] from ⟨rfl, q⟩)]
      exact ⟨_, rfl, z2, z1⟩
    · obtain ⟨z1, z2⟩ := h.stay
      rw [decide_eq_false q, if_pos (show b2 false = (0 : Int32) by decide), bnd_def, if_pos (show isZ (b2 false) = true by decide), decide_eq_false (show ¬ (0 = 0 ∧ tkW tp i = mds.getD w []) from fun r => q r.2), if_neg (show ¬ (0 = 0 ∧ tkW tp i = mds.getD w []) from fun r => q r.2)]
      exact ⟨_, rfl, z2, z1⟩
  · obtain ⟨z1, z2⟩ := h.stay
    rw [y_isWord_f h.2.2.2.1 h.2.2.2.2.1 w0, bd1_some, if_pos rfl, bnd_def, if_pos (show isZ (0 : Int32) = true by decide), decide_eq_false (show ¬ (f = 0 ∧ tkW tp i = mds.getD w []) from fun r => w0 r.1), if_neg (show ¬ (f = 0 ∧ tkW tp i = mds.getD w []) from fun r => w0 r.1)]
    exact ⟨_, rfl, z2, z1⟩
theorem XC.nextf (hF : 3000 ≤ F) (h : XC N a r lr tp S k i f) (hf : f ≠ 0) : ∃ S', s_X8_advance N F a S = some S' ∧ RDB a S S' ∧ XC N a r lr tp S' k i f := by
  obtain ⟨j, j1, j2⟩ := h.2.1
  obtain ⟨S3, s1, s2, s3⟩ := x_next (F := F) hF h.1 j1
  exact ⟨S3, s1, s2, h.mv s2 ⟨j + 1, s3, fun q => absurd q hf⟩ h.2.2.2.2⟩
/- whether the token begins a part -/
abbrev isP (tp : List Nat) (i : Nat) : Prop := ix4 17 (tkW tp i) ≠ -1 ∨ tWhat tp (pt tp i) = 2 ∨ tWhat tp (pt tp i) = 40 ∨ tkW tp i = wds 10
theorem isP_0 {tp : List Nat} {i : Nat} (h : isP tp i) : tWhat tp (pt tp i) ≠ 0 := by
  intro q
  have hk : tkW tp i = [] := by
    by_cases w : tkW tp i = []
    · exact w
    · have := (tkW_ne tp i).mp w; omega
  rcases h with h | h | h | h
  · rw [hk] at h; exact absurd (show ix4 17 [] = -1 by decide +kernel) h
  · omega
  · omega
  · rw [hk] at h; exact absurd h.symm (by decide +kernel)
theorem x_partHead (hF : 3000 ≤ F) (h : XC N a r lr tp S k i f) : ∃ r1 r3, s_X3_factNamed F lr S = some r1 ∧ s_X8_isWord F a 10 S = some r3 ∧ (f = 0 → r1 = ii (ix4 17 (tkW tp i)) ∧ r3 = b2 (decide (tkW tp i = wds 10))) := by
  obtain ⟨j, j1, j2⟩ := h.2.1
  refine ⟨_, _, x_factNamed hF j1 h.1.2.2.2.2.1 h.2.2.1, x_isWord hF j1 h.1.2.2.2.2.1 (p := 9) (by omega), fun q => ?_⟩
  rw [j2 q]; exact ⟨rfl, rfl⟩
theorem x_partBody (hF : 3000 ≤ F) (h : XC N a r lr tp S k i 0) : s_X3_readPart_body N F rx lr (ii e) S = if isP tp i then s_X3_readPart_J67 N F rx lr (ii e) (ii (ix4 17 (tkW tp i))) (b2 (decide (tkW tp i = wds 10))) S else s_X3_readPart_J57 N F rx lr S := by
  obtain ⟨r1, r3, h1, h2, h3⟩ := x_partHead hF h
  obtain ⟨rfl, rfl⟩ := h3 rfl
  have hb := ix4_b 17 (tkW tp i)
  have c2 : (gI S 802 a = (2 : Int32)) = (tWhat tp (pt tp i) = 2) := h.sign (c := 2) (by omega)
  have c40 : (gI S 802 a = (40 : Int32)) = (tWhat tp (pt tp i) = 40) := h.sign (c := 40) (by omega)
  have cm : (ii (ix4 17 (tkW tp i)) = (-1 : Int32)) = (ix4 17 (tkW tp i) = -1) := by rw [show (-1 : Int32) = ii (-1) by decide, ii_eq (by omega) (by omega) (by omega) (by omega)]
  unfold s_X3_readPart_body
  rw [h1, bd1_some, h.2.2.1, bd1_some, h2, bd1_some, bd1_some, h.right, decide_eq_true rfl, if_neg (show ¬ b2 true = (0 : Int32) by decide)]
  simp only [bd1_some, cm, c2, c40, b2_0]
  by_cases w1 : tkW tp i = wds 10
  · rw [decide_eq_true w1, if_neg (show ¬ true = false by decide), if_pos (show isP tp i from Or.inr (Or.inr (Or.inr w1)))]
  · rw [decide_eq_false w1, if_pos rfl]
    by_cases w2 : ix4 17 (tkW tp i) = -1
    · rw [if_pos w2]
      by_cases w3 : tWhat tp (pt tp i) = 2
      · rw [if_pos w3, if_pos (show isP tp i from Or.inr (Or.inl w3))]
      · rw [if_neg w3]
        by_cases w4 : tWhat tp (pt tp i) = 40
        · rw [if_pos w4, if_pos (show isP tp i from Or.inr (Or.inr (Or.inl w4)))]
        · rw [if_neg w4, if_neg (show ¬ isP tp i from fun q => by rcases q with q | q | q | q; exact q w2; exact w3 q; exact w4 q; exact w1 q)]
    · rw [if_neg w2, if_pos (show isP tp i from Or.inl w2)]
theorem y_partBody (hF : 3000 ≤ F) (h : MC N2 m B tp n S2 i 0 k0) (he : e ≤ 5) : ∃ w0 : Int32, (w0 = if tWhat tp (pt tp i) = 2 then 1 else 0) ∧ s_X12_takePart_body N2 F ry m (ii e) S2 = if isP tp i then (if e = 5 then bd1 (s_X12_wrong N2 m 5 S2) fun S3 => s_X12_takePart_J79 N2 F ry m (ii e) w0 (ii (ix4 17 (tkW tp i))) S3 else s_X12_takePart_J79 N2 F ry m (ii e) w0 (ii (ix4 17 (tkW tp i))) S2) else bd1 (s_X12_wrong N2 m 1 S2) fun S3 => s_X12_takePart_J79 N2 F ry m (ii e) w0 (ii (ix4 17 (tkW tp i))) S3 := by
  obtain ⟨a1, a2, a3, a4, a5, ⟨a6, a7, a8⟩, a9, a10, a11, a12, a13⟩ := y_at h.2.1 h.2.2.2.1 h.2.2.2.2.2.2.1
  have hb := ix4_b 17 (tkW tp i)
  have hwh : s_X12_wordHere N2 F m 16 4 S2 = some (ii (wHr (tkW tp i) 16 4)) := y_wordHere (q := 16) (many := 4) hF h.2.1 h.2.2.1 h.2.2.2.1 h.2.2.2.2.2.2.1 (by omega)
  rw [← (ix4_w (tkW tp i)).2.2] at hwh
  have y40 : s_X12_isSign N2 m 40 S2 = some (b2 (decide (tWhat tp (pt tp i) = 40))) := h.sign (c := 40) (by omega) (by omega)
  have y13 : s_X12_isWord N2 m 13 S2 = some (b2 (decide (tkW tp i = mds.getD 13 []))) := h.word (w := 13) (by omega)
  rw [show mds.getD 13 [] = wds 10 by decide +kernel] at y13
  have c5 : (ii (e : Int) = (5 : Int32)) = (e = 5) := by rw [show (5 : Int32) = ii 5 from rfl, ii_eq (by omega) (by omega) (by omega) (by omega)]; apply propext; omega
  have cp : ((0 : Int32) ≤ ii (ix4 17 (tkW tp i))) = (ix4 17 (tkW tp i) ≠ -1) := by rw [show (0 : Int32) = ii 0 from rfl, ii_le (by omega) (by omega) (by omega) (by omega)]; apply propext; omega
  have key : ∀ w0 : Int32, (w0 = if tWhat tp (pt tp i) = 2 then 1 else 0) → s_X12_takePart_J26 N2 F ry m (ii e) w0 S2 = if isP tp i then (if e = 5 then bd1 (s_X12_wrong N2 m 5 S2) fun S3 => s_X12_takePart_J79 N2 F ry m (ii e) w0 (ii (ix4 17 (tkW tp i))) S3 else s_X12_takePart_J79 N2 F ry m (ii e) w0 (ii (ix4 17 (tkW tp i))) S2) else bd1 (s_X12_wrong N2 m 1 S2) fun S3 => s_X12_takePart_J79 N2 F ry m (ii e) w0 (ii (ix4 17 (tkW tp i))) S3 := by
    intro w0 hw0
    unfold s_X12_takePart_J26 s_X12_takePart_J69
    rw [hwh, bd1_some, y40, bd1_some, y13, bd1_some]
    simp only [cp, c5, b2_0]
    by_cases w2 : ix4 17 (tkW tp i) = -1
    · rw [if_neg (fun q => q w2)]
      by_cases w3 : tWhat tp (pt tp i) = 2
      · rw [if_pos w3] at hw0
        rw [hw0, if_neg (show ¬ (1 : Int32) = 0 by decide), if_pos (show isP tp i from Or.inr (Or.inl w3))]
      · rw [if_neg w3] at hw0
        rw [hw0, if_pos rfl]
        by_cases w4 : tWhat tp (pt tp i) = 40
        · rw [decide_eq_true w4, if_neg (show ¬ true = false by decide), if_pos (show isP tp i from Or.inr (Or.inr (Or.inl w4)))]
        · rw [decide_eq_false w4, if_pos rfl]
          by_cases w1 : tkW tp i = wds 10
          · rw [decide_eq_true w1, if_neg (show ¬ true = false by decide), if_pos (show isP tp i from Or.inr (Or.inr (Or.inr w1)))]
          · rw [decide_eq_false w1, if_pos rfl, if_neg (show ¬ isP tp i from fun q => by rcases q with q | q | q | q; exact q w2; exact w3 q; exact w4 q; exact w1 q)]
    · rw [if_pos w2, if_pos (show isP tp i from Or.inl w2)]
  unfold s_X12_takePart_body
  rw [a5, if_pos (show (ii ((0 : Nat) : Int) ≤ (0 : Int32)) by decide), a1, bd1_some, a4, if_pos a6, a9, a10]
  simp only [sO_2]
  by_cases w3 : tWhat tp (pt tp i) = 2
  · refine ⟨1, (if_pos w3).symm, ?_⟩
    rw [if_pos w3]; exact key 1 (if_pos w3).symm
  · refine ⟨0, (if_neg w3).symm, ?_⟩
    rw [if_neg w3]; exact key 0 (if_neg w3).symm
end EPART
end
section
section EPART2
variable {N N2 : Nat → Nat} {F : Nat} {a r lr m : Nat} {B : Nat → Nat} {tp : List Nat} {n : Nat} {rx : Nat → Int32 → HS → Option (Int32 × HS)} {ry : Nat → Int32 → HS → Option HS} {e : Nat}
theorem j79_f {S2 : HS} {i f k0 : Nat} (h : MC N2 m B tp n S2 i f k0) (hf : f ≠ 0) (v w z : Int32) : s_X12_takePart_J79 N2 F ry m v w z S2 = some S2 := by
  unfold s_X12_takePart_J79
  rw [h.yf.1]
  simp only [h.c0.2]
  rw [if_neg hf]
theorem e_part_body (hF : 3000 ≤ F) (he : e ≤ 5) (hnext : e < 5 → ESP N N2 a r lr m B tp n (fun S => rx lr (ii (e + 1 : Nat)) S) (fun S2 => ry m (ii (e + 1 : Nat)) S2) (4 * e + 8)) :
    ESP N N2 a r lr m B tp n (fun S => s_X3_readPart_body N F rx lr (ii e) S) (fun S2 => s_X12_takePart_body N2 F ry m (ii e) S2) (4 * e + 4) := by
  intro S2 i f k0 h hk0
  have hnb := h.nb
  by_cases w : f = 0
  case neg =>
    refine ⟨S2, i, f, [], ?_, YXF.refl _ _ _ _, h, by simp, fun _ => rfl, fun j c q => by simp at q, fun q => absurd q w, fun S k hk hx => ?_⟩
    · show s_X12_takePart_body N2 F ry m (ii e) S2 = _
      unfold s_X12_takePart_body
      rw [h.yf.1]
      simp only [h.c0.2]
      rw [if_neg w]
    · obtain ⟨r1, r3, h1, h2, _⟩ := x_partHead hF hx
      obtain ⟨b1, b2'⟩ := hx.blame (kd := 1) (by omega)
      rw [bl_f w] at b2'
      refine ⟨0, s_X8_blame a (ii (1 : Nat)) S, ?_, b1, b2', fun q => absurd q w⟩
      show s_X3_readPart_body N F rx lr (ii e) S = _
      unfold s_X3_readPart_body s_X3_readPart_J57
      rw [h1, bd1_some, hx.2.2.1, bd1_some, h2, bd1_some, bd1_some, hx.right, decide_eq_false w, if_pos (show b2 false = (0 : Int32) by decide), bd1_some, bnd_def]
      rfl
  subst w
  obtain ⟨w0, hw0, hy⟩ := y_partBody (F := F) (ry := ry) hF h he
  -- both blame, nothing is read
  have blame : ∀ kd : Nat, 1 ≤ kd → kd < 10 → (∀ S3 : HS, s_X12_wrong N2 m (ii kd) S2 = some S3 → MC N2 m B tp n S3 i (bl 0 kd (tQ0 tp (pt tp i))) k0 → s_X12_takePart_body N2 F ry m (ii e) S2 = some S3) → (∀ (S : HS) (k : Nat), XC N a r lr tp S k i 0 → s_X3_readPart_body N F rx lr (ii e) S = some (0, s_X8_blame a (ii kd) S)) →
      ∃ (S2' : HS) (i' f' : Nat) (cs : List Int32), s_X12_takePart_body N2 F ry m (ii e) S2 = some S2' ∧ YXF m (B 6) (1100 + k0) S2 S2' ∧ MC N2 m B tp n S2' i' f' (k0 + cs.length) ∧ cs.length + i ≤ i' ∧ ((0 : Nat) ≠ 0 → f' = 0) ∧ (∀ (j : Nat) (c : Int32), cs[j]? = some c → aI S2' (B 6) (1100 + k0 + j) = c) ∧ (f' = 0 → i < i' ∧ ∀ d, d ≤ 4 * e + 4 → cDp cs d = some (d + 1)) ∧
        ∀ (S : HS) (k : Nat), k < 16 → XC N a r lr tp S k i 0 → ∃ v S', s_X3_readPart_body N F rx lr (ii e) S = some (v, S') ∧ RDB a S S' ∧ XC N a r lr tp S' k i' f' ∧ (f' = 0 → ∀ st, cRun (fck k) cs st = v :: st) := by
    intro kd k1' k2' hY hX
    obtain ⟨S3, z1, z2, z3⟩ := h.wrong (kd := kd) k2'
    have hb1 : bl 0 kd (tQ0 tp (pt tp i)) ≠ 0 := by rw [bl_0]; omega
    refine ⟨S3, i, _, [], hY S3 z1 z3, z2.yx _ _, z3, by simp, fun q => absurd rfl q, fun j c q => by simp at q, fun q => absurd q hb1, fun S k hk hx => ?_⟩
    obtain ⟨b1, b2'⟩ := hx.blame (kd := kd) k2'
    exact ⟨0, _, hX S k hx, b1, b2', fun q => absurd q hb1⟩
  by_cases hp : isP tp i
  case neg =>
    refine blame 1 (by omega) (by omega) (fun S3 z1 z3 => ?_) (fun S k hx => ?_)
    · have z1' : s_X12_wrong N2 m 1 S2 = some S3 := z1
      rw [hy, if_neg hp, z1', bd1_some, j79_f z3 (by rw [bl_0]; omega)]
    · rw [x_partBody hF hx, if_neg hp]
      unfold s_X3_readPart_J57
      rw [hx.2.2.1, bd1_some, bnd_def]; rfl
  have c5 : (ii (e : Int) < (5 : Int32)) = (e < 5) := by rw [show (5 : Int32) = ii 5 from rfl, ii_lt (by omega) (by omega) (by omega) (by omega)]; apply propext; omega
  by_cases he5 : e = 5
  · refine blame 5 (by omega) (by omega) (fun S3 z1 z3 => ?_) (fun S k hx => ?_)
    · have z1' : s_X12_wrong N2 m 5 S2 = some S3 := z1
      rw [hy, if_pos hp, if_pos he5, z1', bd1_some, j79_f z3 (by rw [bl_0]; omega)]
    · rw [x_partBody hF hx, if_pos hp]
      unfold s_X3_readPart_J67
      simp only [c5]
      rw [if_neg (by omega), hx.2.2.1, bd1_some, bnd_def]; rfl
  have he4 : e < 5 := by omega
  have hnx := hnext he4
  have hlt := h.lt (isP_0 hp)
  have e1 : ii (e : Int) + 1 = ii ((e + 1 : Nat) : Int) := by rw [show (1 : Int32) = ii 1 from rfl, ii_add]; rfl
  rw [if_pos hp, if_neg he5] at hy
  have hw10 : mds.getD 13 [] = wds 10 := by decide +kernel
  obtain ⟨S10, a1, a2, a3⟩ := h.hasW (w := 13) (by omega)
  rw [hw10] at a1 a3
  have a1' : s_X12_hasWord N2 m 13 S2 = some (b2 (decide (0 = 0 ∧ tkW tp i = wds 10)), S10) := a1
  have hy0 : gI S2 1208 m = ii ((0 : Nat) : Int) := h.yf.1
  -- the class's step past the token
  have hx67 : ∀ (S : HS) (k : Nat), XC N a r lr tp S k i 0 → ∃ S1, s_X8_advance N F a S = some S1 ∧ RDB a S S1 ∧ XC N a r lr tp S1 k (i + 1) 0 ∧ s_X3_readPart_body N F rx lr (ii e) S = (if b2 (decide (tkW tp i = wds 10)) = (0 : Int32) then if gI S 802 a = (40 : Int32) then bd2 (s_X3_readEither N F rx lr (ii (e + 1 : Nat)) S1) fun r21 S22 => bd1 (gR S22 300 lr) fun t23 => if (gI S22 802 t23) = (41 : Int32) then bd1 (gR S22 300 lr) fun t27 => bd1 (s_X8_advance N F t27 S22) fun S28 => some (r21, S28) else bd1 (gR S22 300 lr) fun t25 => bnd (s_X8_blame t25 1 S22) fun S26 => some (r21, S26) else if gI S 802 a = (2 : Int32) then some (gI S 806 a, S1) else some (((gI S1 301 lr) >>> (ii (ix4 17 (tkW tp i)) &&& 31)) &&& 1, S1) else bd2 (rx lr (ii (e + 1 : Nat)) S1) fun r29 S30 => if r29 = (0 : Int32) then s_X3_readPart_J126 N F rx 1 S30 else s_X3_readPart_J126 N F rx 0 S30) := by
    intro S k hx
    obtain ⟨S1, s1, s2, s3⟩ := hx.next hF
    refine ⟨S1, s1, s2, s3, ?_⟩
    rw [x_partBody hF hx, if_pos hp]
    unfold s_X3_readPart_J67
    simp only [c5]
    rw [if_pos he4, hx.2.2.1, bd1_some, bnd_def, bd1_some, bnd_def, bd1_some, s1, bd1_some, e1]
  by_cases w1 : tkW tp i = wds 10
  · -- not
    rw [if_pos ⟨rfl, w1⟩] at a3
    have hd : decide (0 = 0 ∧ tkW tp i = wds 10) = true := decide_eq_true ⟨rfl, w1⟩
    obtain ⟨S3, i3, f3, cs1, p1, p2', p3, p4, p5, p6, p7, p8⟩ := hnx S10 (i + 1) 0 k0 a3 (by omega)
    have p1 : ry m (ii (e + 1 : Nat)) S10 = some S3 := p1
    have hnb3 := p3.nb
    obtain ⟨S4, q1, q2, q3, q4⟩ := y_emit (o := 3) (z := 0) p3 (by omega) (by omega) (by omega)
    have q1' : s_X12_emit N2 m 3 0 S3 = some S4 := q1
    have q4' : aI S4 (B 6) (1100 + (k0 + cs1.length)) = ii (3 : Nat) := by rw [q4]
    refine ⟨S4, i3, f3, cs1 ++ [ii (3 : Nat)], ?_, (a2.yx (B 6) (1100 + k0)).trans (p2'.trans (q2.mono (by omega))), ?_, by simp; omega, fun z => absurd rfl z, fun j c hj => ?_, fun z => ⟨by have := (p7 z).1; omega, fun d hd' => ?_⟩, fun S k hk hx => ?_⟩
    · show s_X12_takePart_body N2 F ry m (ii e) S2 = _
      rw [hy]
      unfold s_X12_takePart_J79
      rw [hy0, if_pos (show (ii ((0 : Nat) : Int) ≤ (0 : Int32)) by decide), a1', bd2_some, hd, if_neg (show ¬ b2 true = (0 : Int32) by decide), e1, p1, bd1_some, q1', bd1_some]
    · have : k0 + (cs1 ++ [ii ((3 : Nat) : Int)]).length = k0 + cs1.length + 1 := by simp; omega
      rw [this]; exact q3
    · by_cases z1 : j < cs1.length
      · rw [List.getElem?_append_left z1] at hj
        rw [q2.2.2.2.2.1 _ (by omega)]
        exact p6 j c hj
      · rw [List.getElem?_append_right (by omega)] at hj
        by_cases z3 : j - cs1.length = 0
        · rw [z3] at hj
          have : ii ((3 : Nat) : Int) = c := by simpa using hj
          rw [← this, ← q4']; congr 1; omega
        · obtain ⟨u, hu⟩ : ∃ u, j - cs1.length = u + 1 := ⟨j - cs1.length - 1, by omega⟩
          rw [hu] at hj
          simp at hj
    · rw [cDp_app cs1 _ _ _ ((p7 z).2 d (by omega)), cDp_not (by omega)]
    · obtain ⟨S1, x1, x2, x3, x4⟩ := hx67 S k hx
      obtain ⟨v, S', x5, x6, x7, x8⟩ := p8 S1 k hk x3
      have x5 : rx lr (ii (e + 1 : Nat)) S1 = some (v, S') := x5
      refine ⟨if v = 0 then 1 else 0, S', ?_, x2.trans x6, x7, fun z st => ?_⟩
      · show s_X3_readPart_body N F rx lr (ii e) S = _
        rw [x4, decide_eq_true w1, if_neg (show ¬ b2 true = (0 : Int32) by decide), x5, bd2_some]
        unfold s_X3_readPart_J126 s_X3_asFact
        by_cases q : v = 0
        · rw [if_pos q, if_pos q, if_neg (show ¬ (1 : Int32) = 0 by decide)]
        · rw [if_neg q, if_neg q, if_pos rfl]
      · rw [cRun_app, x8 z st, cRun_not]
  have hd : decide (0 = 0 ∧ tkW tp i = wds 10) = false := decide_eq_false (fun q => w1 q.2)
  rw [if_neg (fun q => w1 q.2)] at a3
  obtain ⟨S14, b1, b2', b3⟩ := a3.has (c := 40) (by omega) (by omega)
  have b1' : s_X12_hasSign N2 m 40 S10 = some (b2 (decide (0 = 0 ∧ tWhat tp (pt tp i) = 40)), S14) := b1
  by_cases w2 : tWhat tp (pt tp i) = 40
  · -- in brackets
    rw [if_pos ⟨rfl, w2⟩] at b3
    have hd2 : decide (0 = 0 ∧ tWhat tp (pt tp i) = 40) = true := decide_eq_true ⟨rfl, w2⟩
    have hei := e_either hF (e_test hF (e_sum hF (e_product hF (D := 4 * e + 7) hnx)))
    obtain ⟨S3, i3, f3, cs1, p1, p2', p3, p4, p5, p6, p7, p8⟩ := hei S14 (i + 1) 0 k0 b3 (by omega)
    have p1 : s_X12_allOf N2 F ry m (ii (e + 1 : Nat)) S14 = some S3 := p1
    -- the closing bracket
    obtain ⟨S4, i4, f4, t1, t2, t3, t4, t5, t6⟩ : ∃ (S4 : HS) (i4 f4 : Nat), s_X12_takeSign N2 m 41 S3 = some S4 ∧ YBF m S3 S4 ∧ MC N2 m B tp n S4 i4 f4 (k0 + cs1.length) ∧ i3 ≤ i4 ∧ (f4 = 0 → f3 = 0) ∧ ∀ (S : HS) (k : Nat), XC N a r lr tp S k i3 f3 → ∃ S', RDB a S S' ∧ XC N a r lr tp S' k i4 f4 ∧ ∀ v : Int32, (bd1 (gR S 300 lr) fun t23 => if (gI S 802 t23) = (41 : Int32) then bd1 (gR S 300 lr) fun t27 => bd1 (s_X8_advance N F t27 S) fun S28 => some (v, S28) else bd1 (gR S 300 lr) fun t25 => bnd (s_X8_blame t25 1 S) fun S26 => some (v, S26)) = some (v, S') := by
      obtain ⟨S4, z1, z2, z3⟩ := p3.wrong (kd := 1) (by omega)
      have z1' : s_X12_wrong N2 m 1 S3 = some S4 := z1
      by_cases q0 : f3 = 0
      · subst q0
        have y41 : s_X12_isSign N2 m 41 S3 = some (b2 (decide (tWhat tp (pt tp i3) = 41))) := p3.sign (c := 41) (by omega) (by omega)
        by_cases q1 : tWhat tp (pt tp i3) = 41
        · obtain ⟨n1, n2⟩ := p3.next (p3.lt (by omega))
          refine ⟨_, i3 + 1, 0, ?_, n2, n1, by omega, fun _ => rfl, fun S k hx => ?_⟩
          · unfold s_X12_takeSign
            rw [y41, bd1_some, decide_eq_true q1, if_neg (show ¬ b2 true = (0 : Int32) by decide), bnd_def, p3.yf.2]
          · obtain ⟨S1, s1, s2, s3⟩ := hx.next hF
            have c41 : (gI S 802 a = (41 : Int32)) = (tWhat tp (pt tp i3) = 41) := hx.sign (c := 41) (by omega)
            refine ⟨S1, s2, s3, fun v => ?_⟩
            rw [hx.2.2.1, bd1_some, bd1_some, s1, bd1_some]
            simp only [c41]
            rw [if_pos q1]
        · refine ⟨S4, i3, _, ?_, z2, z3, Nat.le_refl _, fun _ => rfl, fun S k hx => ?_⟩
          · unfold s_X12_takeSign
            rw [y41, bd1_some, decide_eq_false q1, if_pos (show b2 false = (0 : Int32) by decide), z1', bd1_some]
          · obtain ⟨b1, b2'⟩ := hx.blame (kd := 1) (by omega)
            have c41 : (gI S 802 a = (41 : Int32)) = (tWhat tp (pt tp i3) = 41) := hx.sign (c := 41) (by omega)
            refine ⟨_, b1, b2', fun v => ?_⟩
            rw [hx.2.2.1, bd1_some, bd1_some, bd1_some, bnd_def]
            simp only [c41]
            rw [if_neg q1]; rfl
      · rw [bl_f q0] at z3
        refine ⟨S4, i3, f3, ?_, z2, z3, Nat.le_refl _, fun q => q, fun S k hx => ?_⟩
        · unfold s_X12_takeSign
          rw [p3.sign_f q0, bd1_some, if_pos rfl, z1', bd1_some]
        · by_cases c41 : gI S 802 a = (41 : Int32)
          · obtain ⟨S1, s1, s2, s3⟩ := hx.nextf hF q0
            refine ⟨S1, s2, s3, fun v => ?_⟩
            rw [hx.2.2.1, bd1_some, if_pos c41, bd1_some, s1, bd1_some]
          · obtain ⟨b1, b2'⟩ := hx.blame (kd := 1) (by omega)
            rw [bl_f q0] at b2'
            refine ⟨_, b1, b2', fun v => ?_⟩
            rw [hx.2.2.1, bd1_some, if_neg c41, bd1_some, bnd_def]; rfl
    refine ⟨S4, i4, f4, cs1, ?_, ((a2.trans b2').yx (B 6) (1100 + k0)).trans (p2'.trans (t2.yx (B 6) (1100 + k0))), t3, by omega, fun z => absurd rfl z, fun j c hj => ?_, fun z => ⟨by have := (p7 (t5 z)).1; omega, fun d hd' => (p7 (t5 z)).2 d (by omega)⟩, fun S k hk hx => ?_⟩
    · show s_X12_takePart_body N2 F ry m (ii e) S2 = _
      rw [hy]
      unfold s_X12_takePart_J79
      rw [hy0, if_pos (show (ii ((0 : Nat) : Int) ≤ (0 : Int32)) by decide), a1', bd2_some, hd, if_pos (show b2 false = (0 : Int32) by decide), b1', bd2_some, hd2, if_neg (show ¬ b2 true = (0 : Int32) by decide), e1, p1, bd1_some, t1, bd1_some]
    · rw [(t2.yx (B 6) (1100 + k0 + j + 1)).2.2.2.2.1 _ (by omega)]; exact p6 j c hj
    · obtain ⟨S1, x1, x2, x3, x4⟩ := hx67 S k hx
      obtain ⟨v, S', x5, x6, x7, x8⟩ := p8 S1 k hk x3
      have x5 : s_X3_readEither N F rx lr (ii (e + 1 : Nat)) S1 = some (v, S') := x5
      obtain ⟨S'', u1, u2, u3⟩ := t6 S' k x7
      have c40 : (gI S 802 a = (40 : Int32)) = (tWhat tp (pt tp i) = 40) := hx.sign (c := 40) (by omega)
      refine ⟨v, S'', ?_, x2.trans (x6.trans u1), u2, fun z st => x8 (t5 z) st⟩
      show s_X3_readPart_body N F rx lr (ii e) S = _
      rw [x4, decide_eq_false w1, if_pos (show b2 false = (0 : Int32) by decide), if_pos (by rw [c40]; exact w2), x5, bd2_some]
      exact u3 v
  · -- a number or a fact
    rw [if_neg (fun q => w2 q.2)] at b3
    have hd2 : decide (0 = 0 ∧ tWhat tp (pt tp i) = 40) = false := decide_eq_false (fun q => w2 q.2)
    have fin : ∀ (o z : Nat), o < 16 → z < 10000 → (∀ d, d < 64 → cDp [ii ((o + 16 * z : Nat) : Int)] d = some (d + 1)) → s_X12_takePart_J79 N2 F ry m (ii e) w0 (ii (ix4 17 (tkW tp i))) S2 = s_X12_takePart_J165 N2 F ry m m (ii o) (ii z) S14 → (∀ (S : HS) (k : Nat), k < 16 → XC N a r lr tp S k i 0 → ∃ v S1, RDB a S S1 ∧ XC N a r lr tp S1 k (i + 1) 0 ∧ s_X3_readPart_body N F rx lr (ii e) S = some (v, S1) ∧ ∀ st, cRun (fck k) [ii ((o + 16 * z : Nat) : Int)] st = v :: st) →
        ∃ (S2' : HS) (i' f' : Nat) (cs : List Int32), s_X12_takePart_body N2 F ry m (ii e) S2 = some S2' ∧ YXF m (B 6) (1100 + k0) S2 S2' ∧ MC N2 m B tp n S2' i' f' (k0 + cs.length) ∧ cs.length + i ≤ i' ∧ ((0 : Nat) ≠ 0 → f' = 0) ∧ (∀ (j : Nat) (c : Int32), cs[j]? = some c → aI S2' (B 6) (1100 + k0 + j) = c) ∧ (f' = 0 → i < i' ∧ ∀ d, d ≤ 4 * e + 4 → cDp cs d = some (d + 1)) ∧
          ∀ (S : HS) (k : Nat), k < 16 → XC N a r lr tp S k i 0 → ∃ v S', s_X3_readPart_body N F rx lr (ii e) S = some (v, S') ∧ RDB a S S' ∧ XC N a r lr tp S' k i' f' ∧ (f' = 0 → ∀ st, cRun (fck k) cs st = v :: st) := by
      intro o z ho hz hdp hY hX
      obtain ⟨S4, q1, q2, q3, q4⟩ := y_emit (o := o) (z := z) b3 (by omega) ho hz
      obtain ⟨n1, n2⟩ := q3.next hlt
      refine ⟨uI S4 1207 m (ii i + 1), i + 1, 0, [ii ((o + 16 * z : Nat) : Int)], ?_, ((a2.trans b2').yx (B 6) (1100 + k0)).trans (q2.trans (n2.yx (B 6) (1100 + k0))), n1, by simp; omega, fun q => absurd rfl q, fun j c hj => ?_, fun _ => ⟨by omega, fun d hd' => hdp d (by omega)⟩, fun S k hk hx => ?_⟩
      · rw [hy, hY]
        unfold s_X12_takePart_J165
        rw [q1, bd1_some, bnd_def, q3.yf.2]
      · by_cases z3 : j = 0
        · subst z3
          have : ii ((o + 16 * z : Nat) : Int) = c := by simpa using hj
          rw [← this, ← q4]; rfl
        · obtain ⟨u, hu⟩ : ∃ u, j = u + 1 := ⟨j - 1, by omega⟩
          rw [hu] at hj
          simp at hj
      · obtain ⟨v, S1, x1, x2, x3, x4⟩ := hX S k hk hx
        exact ⟨v, S1, x3, x1, x2, fun _ st => x4 st⟩
    by_cases w3 : tWhat tp (pt tp i) = 2
    · have hz := num_b (pt_le tp i) w3
      have hva : yVa tp (pt tp i) = dv tp (tQ0 tp (pt tp i)) (tD0 tp (pt tp i)) := by unfold yVa; rw [w3, if_neg (by decide), if_pos rfl]
      obtain ⟨g1, g2, g3, g4, g5, ⟨g6, g7, g8⟩, g9, g10, g11, g12, g13⟩ := y_at b3.2.1 b3.2.2.2.1 b3.2.2.2.2.2.2.1
      have haj := g12 (by omega) (by omega)
      rw [hva] at haj
      refine fin 1 _ (by omega) hz (fun d hd' => cDp_num hz hd') ?_ (fun S k hk hx => ?_)
      · unfold s_X12_takePart_J79 s_X12_takePart_J147
        rw [hy0, if_pos (show (ii ((0 : Nat) : Int) ≤ (0 : Int32)) by decide), a1', bd2_some, hd, if_pos (show b2 false = (0 : Int32) by decide), b1', bd2_some, hd2, if_pos (show b2 false = (0 : Int32) by decide), hw0, if_pos w3, if_neg (show ¬ (1 : Int32) = 0 by decide), if_neg (show ¬ (1 : Int32) = 0 by decide), g3, bd1_some, g4, if_pos g8, g9, haj, jj_ii]
        rfl
      · obtain ⟨S1, x1, x2, x3, x4⟩ := hx67 S k hx
        have c40 : (gI S 802 a = (40 : Int32)) = (tWhat tp (pt tp i) = 40) := hx.sign (c := 40) (by omega)
        have c2 : (gI S 802 a = (2 : Int32)) = (tWhat tp (pt tp i) = 2) := hx.sign (c := 2) (by omega)
        refine ⟨_, S1, x2, x3, ?_, fun st => cRun_num hz _ st⟩
        rw [x4, decide_eq_false w1, if_pos (show b2 false = (0 : Int32) by decide), if_neg (by rw [c40]; exact w2), if_pos (by rw [c2]; exact w3), hx.x0.2.2.2.2.1 w3]
    · have hz0 : ix4 17 (tkW tp i) ≠ -1 := by
        rcases hp with q | q | q | q
        · exact q
        · exact absurd q w3
        · exact absurd q w2
        · exact absurd q w1
      have hb := ix4_b 17 (tkW tp i)
      obtain ⟨z, hz⟩ : ∃ z : Nat, ix4 17 (tkW tp i) = z := ⟨(ix4 17 (tkW tp i)).toNat, by omega⟩
      have hz4 : z < 4 := by omega
      refine fin 2 z (by omega) (by omega) (fun d hd' => cDp_fact hz4 hd') ?_ (fun S k hk hx => ?_)
      · unfold s_X12_takePart_J79 s_X12_takePart_J147
        rw [hy0, if_pos (show (ii ((0 : Nat) : Int) ≤ (0 : Int32)) by decide), a1', bd2_some, hd, if_pos (show b2 false = (0 : Int32) by decide), b1', bd2_some, hd2, if_pos (show b2 false = (0 : Int32) by decide), hw0, if_neg w3, if_pos rfl, if_pos rfl, hz]
        rfl
      · obtain ⟨S1, x1, x2, x3, x4⟩ := hx67 S k hx
        have c40 : (gI S 802 a = (40 : Int32)) = (tWhat tp (pt tp i) = 40) := hx.sign (c := 40) (by omega)
        have c2 : (gI S 802 a = (2 : Int32)) = (tWhat tp (pt tp i) = 2) := hx.sign (c := 2) (by omega)
        refine ⟨_, S1, x2, x3, ?_, fun st => cRun_fact hz4 _ st⟩
        rw [x4, decide_eq_false w1, if_pos (show b2 false = (0 : Int32) by decide), if_neg (by rw [c40]; exact w2), if_neg (by rw [c2]; exact w3), x3.2.2.2.1, hz, fck_bit ⟨k, hk⟩ ⟨z, hz4⟩]
theorem e_part (hF : 3000 ≤ F) : ∀ (g e K K2 : Nat), e + g = 5 → g < K → g < K2 → ESP N N2 a r lr m B tp n (fun S => s_X3_readPart N F K lr (ii e) S) (fun S2 => s_X12_takePart N2 F K2 m (ii e) S2) (4 * e + 4) := by
  intro g
  induction g with
  | zero =>
    intro e K K2 he hK hK2
    obtain ⟨K, rfl⟩ : ∃ w, K = w + 1 := ⟨K - 1, by omega⟩
    obtain ⟨K2, rfl⟩ : ∃ w, K2 = w + 1 := ⟨K2 - 1, by omega⟩
    exact e_part_body (rx := s_X3_readPart N F K) (ry := s_X12_takePart N2 F K2) hF (by omega) (fun q => by omega)
  | succ g ih =>
    intro e K K2 he hK hK2
    obtain ⟨K, rfl⟩ : ∃ w, K = w + 1 := ⟨K - 1, by omega⟩
    obtain ⟨K2, rfl⟩ : ∃ w, K2 = w + 1 := ⟨K2 - 1, by omega⟩
    refine e_part_body (rx := s_X3_readPart N F K) (ry := s_X12_takePart N2 F K2) hF (by omega) (fun q => ?_)
    have := ih (e + 1) K K2 (by omega) (by omega) (by omega)
    rw [show 4 * (e + 1) + 4 = 4 * e + 8 by omega] at this
    exact this
/- the whole expression -/
theorem e_law (hF : 3000 ≤ F) : ESP N N2 a r lr m B tp n (fun S => s_X3_readEither N F (s_X3_readPart N F 12) lr 0 S) (fun S2 => s_X12_allOf N2 F (s_X12_takePart N2 F 12) m 0 S2) 0 :=
  e_either (e := 0) hF (e_test hF (e_sum hF (e_product hF (D := 3) (e_part hF 5 0 12 12 (by omega) (by omega) (by omega)))))
end EPART2
end
section
theorem tQ0_idem (tp : List Nat) (q : Nat) : tQ0 tp (tQ0 tp q) = tQ0 tp q := by
  have h : run isWs (tp.drop (tQ0 tp q)) = 0 := by
    rw [run_at]
    by_cases w : tQ0 tp q < tp.length
    · have := run_end isWs tp q w
      rw [if_neg (fun r => by rw [show tQ0 tp q = q + run isWs (tp.drop q) from rfl, this] at r; exact absurd r.2 (by decide))]
    · rw [if_neg (fun r => w r.1)]
  unfold tQ0 at h ⊢
  rw [h]; omega
theorem tok_idem (tp : List Nat) (q : Nat) : tWhat tp (tQ0 tp q) = tWhat tp q ∧ tEnd tp (tQ0 tp q) = tEnd tp q ∧ tW tp (tQ0 tp q) = tW tp q ∧ tD0 tp (tQ0 tp q) = tD0 tp q := by
  have h := tQ0_idem tp q
  unfold tWhat tEnd tW tD0 tC
  rw [h]; exact ⟨rfl, rfl, rfl, rfl⟩
/- a law's bits -/
def lawOf (p : Nat → Bool) : Nat → Nat
  | 0 => 0
  | n + 1 => lawOf p n ||| (if p n then 2 ^ n else 0)
theorem lawOf_bit (p : Nat → Bool) : ∀ n k, (lawOf p n).testBit k = (decide (k < n) && p k)
  | 0, k => by show (0 : Nat).testBit k = _; simp
  | n + 1, k => by
    show (lawOf p n ||| (if p n then 2 ^ n else 0)).testBit k = _
    rw [Nat.testBit_or, lawOf_bit p n k]
    by_cases w : p n = true
    · rw [if_pos w, Nat.testBit_two_pow]
      by_cases q : n = k
      · subst q; rw [w]; simp
      · rw [decide_eq_false q]
        by_cases q2 : k < n
        · rw [decide_eq_true q2, decide_eq_true (show k < n + 1 by omega)]; simp
        · rw [decide_eq_false q2, decide_eq_false (show ¬ k < n + 1 by omega)]; simp
    · rw [if_neg w, Nat.zero_testBit, Bool.or_false]
      by_cases q : n = k
      · subst q
        have : p n = false := by cases h : p n; rfl; exact absurd h w
        rw [this]; simp
      · by_cases q2 : k < n
        · rw [decide_eq_true q2, decide_eq_true (show k < n + 1 by omega)]
        · rw [decide_eq_false q2, decide_eq_false (show ¬ k < n + 1 by omega)]
theorem lawOf_lt (p : Nat → Bool) (n : Nat) : lawOf p n < 2 ^ n := by
  apply Nat.lt_pow_two_of_testBit
  intro i hi
  rw [lawOf_bit, decide_eq_false (by omega)]; rfl
theorem law_or {p : Nat → Bool} {k : Nat} (hk : k < 16) : ii (lawOf p k : Nat) ||| ((1 : Int32) <<< (ii k &&& 31)) = ii ((lawOf p k ||| 2 ^ k : Nat) : Int) := by
  have h1 := lawOf_lt p k
  have h2 : (2 : Nat) ^ k ≤ 2 ^ 15 := Nat.pow_le_pow_right (by decide) (by omega)
  have h3 : (2 : Nat) ^ 15 = 32768 := by decide
  have e : (1 : Int32) <<< (ii (k : Int) &&& 31) = ii ((2 ^ k : Nat) : Int) := by
    rw [show (1 : Int32) = ii 1 from rfl, ii_shl 1 (by omega), Int.one_mul]
  rw [e]
  apply Int32.toBitVec_inj.mp
  rw [Int32.toBitVec_or, ii_nat, ii_nat, ii_nat]
  show BitVec.ofNat 32 _ ||| BitVec.ofNat 32 _ = BitVec.ofNat 32 _
  apply BitVec.eq_of_toNat_eq
  have h4 : lawOf p k ||| 2 ^ k < 2 ^ (k + 1) := Nat.or_lt_two_pow (by rw [Nat.pow_succ]; omega) (by rw [Nat.pow_succ]; omega)
  have h5 : (2 : Nat) ^ (k + 1) ≤ 2 ^ 16 := Nat.pow_le_pow_right (by decide) (by omega)
  have h6 : (2 : Nat) ^ 16 = 65536 := by decide
  rw [BitVec.toNat_or, BitVec.toNat_ofNat, BitVec.toNat_ofNat, BitVec.toNat_ofNat, Nat.mod_eq_of_lt (by omega), Nat.mod_eq_of_lt (by omega), Nat.mod_eq_of_lt (by omega)]
theorem fck_idx : ∀ m o g r : Bool, fck (m.toNat + 2 * o.toNat + 4 * g.toNat + 8 * r.toNat) = fcs m o g r := by
  intro m o g r
  unfold fck
  cases m <;> cases o <;> cases g <;> cases r <;> rfl
/- whether the case k says so -/
def caseOf (cs : List Int32) (k : Nat) : Bool := !decide ((cRun (fck k) cs []).reverse.headD 0 = 0)
theorem law_LWM (cs : List Int32) : LWM cs (lawB (lawOf (caseOf cs) 16)) := by
  intro m o g r
  unfold lawB
  have h : m.toNat + 2 * o.toNat + 4 * g.toNat + 8 * r.toNat < 16 := by cases m <;> cases o <;> cases g <;> cases r <;> decide
  rw [lawOf_bit, decide_eq_true h, Bool.true_and]
  unfold caseOf
  rw [fck_idx]
section RLAW
variable {N N2 : Nat → Nat} {F : Nat} {a r lr m : Nat} {B : Nat → Nat} {tp : List Nat} {n : Nat} {S S' S2 : HS} {i f k0 k : Nat}
/- what reading a law changes of the class -/
def RDL (a lr : Nat) (S S' : HS) : Prop := (∀ f b, ¬ (b = a ∧ 802 ≤ f ∧ f ≤ 807) → ¬ (b = lr ∧ f = 301) → gI S' f b = gI S f b) ∧ S'.2.2 = S.2.2
theorem RDL.refl (a lr : Nat) (S : HS) : RDL a lr S S := ⟨fun _ _ _ _ => rfl, rfl⟩
theorem RDL.trans {S'' : HS} (h1 : RDL a lr S S') (h2 : RDL a lr S' S'') : RDL a lr S S'' := ⟨fun f b q q2 => (h2.1 f b q q2).trans (h1.1 f b q q2), h2.2.trans h1.2⟩
theorem RDB.rl (h : RDB a S S') (lr : Nat) : RDL a lr S S' := ⟨fun f b q _ => h.1 f b q, h.2⟩
/- the law's 16 readings, the model's one -/
theorem j_law (hF : 3000 ≤ F) (hlr : lr ≠ a) (h : MC N2 m B tp n S2 i 0 k0) (hk0 : k0 ≤ i) :
    ∃ (S2' : HS) (i' f' : Nat) (cs : List Int32), s_X12_allOf N2 F (s_X12_takePart N2 F 12) m 0 S2 = some S2' ∧ YXF m (B 6) (1100 + k0) S2 S2' ∧ MC N2 m B tp n S2' i' f' (k0 + cs.length) ∧ cs.length + i ≤ i' ∧ (∀ (j : Nat) (c : Int32), cs[j]? = some c → aI S2' (B 6) (1100 + k0 + j) = c) ∧ (f' = 0 → cDp cs 0 = some 1) ∧
      ∀ (S : HS) (k : Nat), XC N a r lr tp S k i 0 → ∃ (L : Nat) (S' : HS), s_X3_readLaw N F lr S = some (ii L, S') ∧ RDL a lr S S' ∧ TPE N S' a r tp ∧ XR S' a tp i' f' ∧ (f' = 0 → L < 65536 ∧ LWM cs (lawB L)) := by
  obtain ⟨S2', i', f', cs, p1, p2', p3, p4, p5, p6, p7, p8⟩ := e_law (N := N) (r := r) (lr := lr) (a := a) (F := F) hF S2 i 0 k0 h hk0
  have p1 : s_X12_allOf N2 F (s_X12_takePart N2 F 12) m 0 S2 = some S2' := p1
  refine ⟨S2', i', f', cs, p1, p2', p3, p4, p6, fun z => (p7 z).2 0 (Nat.le_refl _), fun S k hx => ?_⟩
  have hlen := hx.1.2.2.2.1
  have hle := pt_le tp i
  have hq := tQ0_le tp hle
  obtain ⟨t1, t2, t3, t4⟩ := tok_idem tp (pt tp i)
  -- one reading, from anywhere
  have pass : ∀ (S : HS) (k : Nat), k < 16 → TPE N S a r tp → gR S 300 lr = some a → gI S 807 a = ii ((0 : Nat) : Int) → ∃ v S', (bd1 (s_X8_readFrom N F a (ii (tQ0 tp (pt tp i))) (uI S 301 lr (ii k))) fun S9 => s_X3_readEither N F (s_X3_readPart N F 12) lr 0 S9) = some (v, S') ∧ RDL a lr S S' ∧ TPE N S' a r tp ∧ gR S' 300 lr = some a ∧ XR S' a tp i' f' ∧ (f' = 0 → ∀ st, cRun (fck k) cs st = v :: st) := by
    intro S k hk hT hR h807
    have hT1 : TPE N (uI S 301 lr (ii k)) a r tp := by
      obtain ⟨a1, a2, a3, a4, a5, a6⟩ := hT
      exact ⟨a1, a2, by rw [gI_uI, if_neg (by omega)]; exact a3, a4, a5, a6⟩
    have hT2 : TPE N (uI (uI S 301 lr (ii k)) 804 a (ii (tQ0 tp (pt tp i)))) a r tp := hT1.rd ((RDF.refl a _).uI 804 _ (by omega))
    obtain ⟨S3, s1, s2, s3, s4, s5, s6, s7⟩ := x_advance (F := F) hF hT2 hq (by rw [gI_uI, if_pos ⟨rfl, rfl⟩])
    rw [tQ0_idem] at s3 s6 s7
    rw [t2] at s4
    rw [t1] at s5 s6 s7
    rw [t3] at s6
    rw [t4] at s7
    have hX3 : XC N a r lr tp S3 k i 0 := by
      refine ⟨hT2.rd s2, ⟨i, ⟨s3, s4, s5, s6, s7, ?_⟩, fun _ => rfl⟩, ?_, ?_, by omega⟩
      · rw [s2.1 807 a (by omega), gI_uI, if_neg (by omega), gI_uI, if_neg (by omega)]; exact h807
      · unfold gR; rw [s2.2]; exact hR
      · rw [s2.1 301 lr (by omega), gI_uI, if_neg (by omega), gI_uI, if_pos ⟨rfl, rfl⟩]
    obtain ⟨v, S', x1, x2, x3, x4⟩ := p8 S3 k hk hX3
    have x1 : s_X3_readEither N F (s_X3_readPart N F 12) lr 0 S3 = some (v, S') := x1
    refine ⟨v, S', ?_, ?_, x3.1, x3.2.2.1, x3.2.1, x4⟩
    · unfold s_X8_readFrom
      rw [bnd_def, s1, bd1_some, bd1_some, x1]
    · refine ⟨fun g b q q2 => ?_, by rw [x2.2, s2.2]; rfl⟩
      rw [x2.1 g b q, s2.1 g b (by omega), gI_uI, if_neg (by omega), gI_uI, if_neg (by omega)]
  -- the readings behind the first
  have loop : ∀ (d j M : Nat) (S : HS), j + d = 16 → d < M → TPE N S a r tp → gR S 300 lr = some a → XR S a tp i' f' → f' = 0 → ∃ S', s_X3_readLaw_L12 N F M lr (ii (tQ0 tp (pt tp i))) (ii (lawOf (caseOf cs) j)) (ii j) S = some (ii (lawOf (caseOf cs) 16), S') ∧ RDL a lr S S' ∧ TPE N S' a r tp ∧ XR S' a tp i' f' := by
    intro d
    induction d with
    | zero =>
      intro j M S hj hM hT hR hX hf
      obtain ⟨M, rfl⟩ : ∃ w, M = w + 1 := ⟨M - 1, by omega⟩
      have : j = 16 := by omega
      subst this
      unfold s_X3_readLaw_L12
      rw [if_pos (show (16 : Int32) ≤ ii ((16 : Nat) : Int) by decide)]
      exact ⟨S, rfl, RDL.refl _ _ _, hT, hX⟩
    | succ d ih =>
      intro j M S hj hM hT hR hX hf
      obtain ⟨M, rfl⟩ : ∃ w, M = w + 1 := ⟨M - 1, by omega⟩
      have h807 : gI S 807 a = ii ((0 : Nat) : Int) := by rw [xr_fault hX, hf]
      obtain ⟨v, S1, y1, y2, y3, y4, y5, y6⟩ := pass S j (by omega) hT hR h807
      obtain ⟨S', z1, z2, z3, z4⟩ := ih (j + 1) M S1 (by omega) (by omega) y3 y4 y5 hf
      have hv := y6 hf []
      have hc : caseOf cs j = !decide (v = 0) := by unfold caseOf; rw [hv]; rfl
      have hright : s_X8_isRight a S = 1 := by unfold s_X8_isRight; rw [h807, if_pos (show (ii ((0 : Nat) : Int) = (0 : Int32)) from rfl)]
      have hR1 : gR (uI S 301 lr (ii j)) 300 lr = some a := hR
      refine ⟨S', ?_, y2.trans z2, z3, z4⟩
      have key : (bd1 (s_X8_readFrom N F a (ii (tQ0 tp (pt tp i))) (uI S 301 lr (ii j))) fun S9 => bd2 (s_X3_readEither N F (s_X3_readPart N F 12) lr 0 S9) fun r10 S11 => if r10 = (0 : Int32) then s_X3_readLaw_J55 N F (s_X3_readLaw_L12 N F M) lr (ii (tQ0 tp (pt tp i))) (ii (lawOf (caseOf cs) j)) (ii j) S11 else bnd (ii (lawOf (caseOf cs) j) ||| ((1 : Int32) <<< (ii j &&& 31)) : Int32) fun x14 => s_X3_readLaw_J55 N F (s_X3_readLaw_L12 N F M) lr (ii (tQ0 tp (pt tp i))) x14 (ii j) S11) = some (ii (lawOf (caseOf cs) 16), S') := by
        cases hrf : s_X8_readFrom N F a (ii (tQ0 tp (pt tp i))) (uI S 301 lr (ii j)) with
        | none => rw [hrf] at y1; cases y1
        | some S9 =>
          rw [hrf, bd1_some] at y1
          rw [bd1_some, y1, bd2_some]
          unfold s_X3_readLaw_J55
          rw [bnd_def, bnd_def, bnd_def, j_inc, law_or (show j < 16 by omega)]
          by_cases w : v = 0
          · rw [if_pos w]
            have : lawOf (caseOf cs) (j + 1) = lawOf (caseOf cs) j := by
              show lawOf (caseOf cs) j ||| (if caseOf cs j then 2 ^ j else 0) = _
              rw [hc, decide_eq_true w]; simp
            rw [← this]; exact z1
          · rw [if_neg w]
            have : lawOf (caseOf cs) (j + 1) = lawOf (caseOf cs) j ||| 2 ^ j := by
              show lawOf (caseOf cs) j ||| (if caseOf cs j then 2 ^ j else 0) = _
              rw [hc, decide_eq_false w]; rfl
            rw [← this]; exact z1
      unfold s_X3_readLaw_L12
      rw [if_neg (by rw [k16, ii_le (by omega) (by omega) (by omega) (by omega)]; omega), hR, bd1_some, hright, if_neg (show ¬ (1 : Int32) = 0 by decide), bnd_def, hR1, bd1_some]
      exact key
  -- the first reading
  have h807 : gI S 807 a = ii ((0 : Nat) : Int) := xr_fault hx.2.1
  have g803 : gI S 803 a = ii (tQ0 tp (pt tp i)) := hx.x0.1
  by_cases w : f' = 0
  · have hF1 : F = (F - 1) + 1 := by omega
    have hXi : ∃ S', s_X3_readLaw_L12 N F F lr (ii (tQ0 tp (pt tp i))) 0 0 S = some (ii (lawOf (caseOf cs) 16), S') ∧ RDL a lr S S' ∧ TPE N S' a r tp ∧ XR S' a tp i' f' := by
      obtain ⟨v, S1, y1, y2, y3, y4, y5, y6⟩ := pass S 0 (by omega) hx.1 hx.2.2.1 h807
      have y1 : (bd1 (s_X8_readFrom N F a (ii (tQ0 tp (pt tp i))) (uI S 301 lr 0)) fun S9 => s_X3_readEither N F (s_X3_readPart N F 12) lr 0 S9) = some (v, S1) := y1
      obtain ⟨S', z1, z2, z3, z4⟩ := loop 15 1 (F - 1) S1 (by omega) (by omega) y3 y4 y5 w
      have hv := y6 w []
      have hc : caseOf cs 0 = !decide (v = 0) := by unfold caseOf; rw [hv]; rfl
      have hright : s_X8_isRight a S = 1 := by unfold s_X8_isRight; rw [h807, if_pos (show (ii ((0 : Nat) : Int) = (0 : Int32)) from rfl)]
      have hR1 : gR (uI S 301 lr 0) 300 lr = some a := hx.2.2.1
      refine ⟨S', ?_, y2.trans z2, z3, z4⟩
      rw [hF1]
      unfold s_X3_readLaw_L12
      rw [← hF1, if_neg (by decide), hx.2.2.1, bd1_some, hright, if_neg (show ¬ (1 : Int32) = 0 by decide), bnd_def, hR1, bd1_some]
      cases hrf : s_X8_readFrom N F a (ii (tQ0 tp (pt tp i))) (uI S 301 lr 0) with
      | none => rw [hrf] at y1; cases y1
      | some S9 =>
        rw [hrf, bd1_some] at y1
        rw [bd1_some, y1, bd2_some]
        unfold s_X3_readLaw_J55
        rw [bnd_def, bnd_def, bnd_def]
        have e1 : (0 : Int32) + Int32.ofInt 1 = ii ((1 : Nat) : Int) := by decide
        have e2 : (0 : Int32) ||| ((1 : Int32) <<< ((0 : Int32) &&& 31)) = ii ((1 : Nat) : Int) := by decide
        rw [e1, e2]
        by_cases w2 : v = 0
        · rw [if_pos w2]
          have : lawOf (caseOf cs) 1 = 0 := by
            show 0 ||| (if caseOf cs 0 then 2 ^ 0 else 0) = _
            rw [hc, decide_eq_true w2]; rfl
          rw [this] at z1; exact z1
        · rw [if_neg w2]
          have : lawOf (caseOf cs) 1 = 1 := by
            show 0 ||| (if caseOf cs 0 then 2 ^ 0 else 0) = _
            rw [hc, decide_eq_false w2]; rfl
          rw [this] at z1; exact z1
    obtain ⟨S', z1, z2, z3, z4⟩ := hXi
    refine ⟨lawOf (caseOf cs) 16, S', ?_, z2, z3, z4, fun _ => ⟨Nat.lt_of_lt_of_le (lawOf_lt _ 16) (by decide), law_LWM cs⟩⟩
    unfold s_X3_readLaw
    rw [hx.2.2.1, bd1_some, bnd_def, g803, z1]
  · obtain ⟨v, S1, y1, y2, y3, y4, y5, y6⟩ := pass S 0 (by omega) hx.1 hx.2.2.1 h807
    have y1 : (bd1 (s_X8_readFrom N F a (ii (tQ0 tp (pt tp i))) (uI S 301 lr 0)) fun S9 => s_X3_readEither N F (s_X3_readPart N F 12) lr 0 S9) = some (v, S1) := y1
    have hright : s_X8_isRight a S = 1 := by unfold s_X8_isRight; rw [h807, if_pos (show (ii ((0 : Nat) : Int) = (0 : Int32)) from rfl)]
    have hR1 : gR (uI S 301 lr 0) 300 lr = some a := hx.2.2.1
    have hright1 : s_X8_isRight a S1 = 0 := by
      have hfb := p3.2.2.2.2.1
      rw [xr_right y5 hfb, decide_eq_false w]; rfl
    obtain ⟨M, hM⟩ : ∃ w, F = w + 1 + 1 := ⟨F - 2, by omega⟩
    have stop : ∀ (L : Int32), s_X3_readLaw_L12 N F (M + 1) lr (ii (tQ0 tp (pt tp i))) L (ii ((1 : Nat) : Int)) S1 = some (L, S1) := by
      intro L
      unfold s_X3_readLaw_L12
      rw [if_neg (by decide), y4, bd1_some, hright1, if_pos rfl]
    have hout : ∃ L : Nat, s_X3_readLaw_L12 N F F lr (ii (tQ0 tp (pt tp i))) 0 0 S = some (ii L, S1) := by
      have : s_X3_readLaw_L12 N F F lr (ii (tQ0 tp (pt tp i))) 0 0 S = s_X3_readLaw_L12 N F (M + 1 + 1) lr (ii (tQ0 tp (pt tp i))) 0 0 S := by
        congr 1
      rw [this]
      rw [s_X3_readLaw_L12, if_neg (by decide), hx.2.2.1, bd1_some, hright, if_neg (show ¬ (1 : Int32) = 0 by decide), bnd_def, hR1, bd1_some]
      cases hrf : s_X8_readFrom N F a (ii (tQ0 tp (pt tp i))) (uI S 301 lr 0) with
      | none => rw [hrf] at y1; cases y1
      | some S9 =>
        rw [hrf, bd1_some] at y1
        rw [bd1_some, y1, bd2_some]
        unfold s_X3_readLaw_J55
        rw [bnd_def, bnd_def, bnd_def]
        have e1 : (0 : Int32) + Int32.ofInt 1 = ii ((1 : Nat) : Int) := by decide
        have e2 : (0 : Int32) ||| ((1 : Int32) <<< ((0 : Int32) &&& 31)) = ii ((1 : Nat) : Int) := by decide
        rw [e1, e2]
        by_cases w2 : v = 0
        · rw [if_pos w2]; exact ⟨0, stop 0⟩
        · rw [if_neg w2]; exact ⟨1, stop _⟩
    obtain ⟨L, hL⟩ := hout
    refine ⟨L, S1, ?_, y2, y3, y5, fun q => absurd q w⟩
    unfold s_X3_readLaw
    rw [hx.2.2.1, bd1_some, bnd_def, g803, hL]
end RLAW
end
