/-- the two sides agree, n calls behind them -/
def SIM (N N2 : Nat → Nat) (S S2 : HS) (x m : Nat) (A B : Nat → Nat) (n : Nat) : Prop := ∃ b c nx T, RX N S x A b c nx T ∧ RY N2 S2 m B T ∧ TOK n T ∧ nx ≤ n
section QQQ
variable {N N2 : Nat → Nat} {S S2 : HS} {x m : Nat} {A B : Nat → Nat} {n : Nat}
theorem q_feed (hn : n < 512) (h : SIM N N2 S S2 x m A B n) (p q r : Int64) : ∃ v S' S2', s_X11_feed N 3000 x p q r S = some (v, S') ∧ s_X12_feed N2 3000 m p q r S2 = some (v, S2') ∧ SIM N N2 S' S2' x m A B (n + 1) := by
  obtain ⟨b, c, nx, T, hX, hM, hT, hnx⟩ := h
  obtain ⟨v, S', S2', nx', T', e1, e2, xe, y, t', z⟩ := j_feed (Nat.le_refl 3000) hX hM hT hnx p q r
  exact ⟨v, S', S2', e1, e2, b, c, nx', T', xe, y, t', z⟩
theorem q_unit {G : GS} (hn : n < 512) (h : SIM G.2.2 N2 S S2 x m A B n) (hW : WT G S) (hx : x ∈ G.1) (hk : G.2.1 x = 11) : ∃ v S2', s_X12_unit N2 3000 m S2 = some (v, S2') ∧ ∀ P : Int32 → GS → HS → Prop, (∀ G' S', SIM G'.2.2 N2 S' S2' x m A B (n + 1) → P v G' S') → w_X11_unit 3000 x G S P := by
  obtain ⟨b, c, nx, T, hX, hM, hT, hnx⟩ := h
  obtain ⟨v, S2', e, k⟩ := j_unit (Nat.le_refl 3000) hX hW hx hk hM hT hnx 
  exact ⟨v, S2', e, fun P hP => k P (fun G' S' b' c' nx' T' h1 h2 h3 h4 => hP G' S' ⟨b', c', nx', T', h1, h2, h3, h4⟩)⟩
theorem q_plan {G : GS} (hn : n < 512) (h : SIM G.2.2 N2 S S2 x m A B n) (hW : WT G S) (hx : x ∈ G.1) (hk : G.2.1 x = 11) : ∃ v S2', s_X12_plan N2 3000 m S2 = some (v, S2') ∧ ∀ P : Int32 → GS → HS → Prop, (∀ G' S', SIM G'.2.2 N2 S' S2' x m A B (n + 1) → P v G' S') → w_X11_plan 3000 x G S P := by
  obtain ⟨b, c, nx, T, hX, hM, hT, hnx⟩ := h
  obtain ⟨v, S2', e, k⟩ := j_plan (Nat.le_refl 3000) hX hW hx hk hM hT hnx 
  exact ⟨v, S2', e, fun P hP => k P (fun G' S' b' c' nx' T' h1 h2 h3 h4 => hP G' S' ⟨b', c', nx', T', h1, h2, h3, h4⟩)⟩
theorem q_form (hn : n < 512) (h : SIM N N2 S S2 x m A B n) (p r : Int32) : ∃ v S2', s_X11_form N x p r S = some v ∧ s_X12_form N2 m p r S2 = some (v, S2') ∧ SIM N N2 S S2' x m A B (n + 1) := by
  obtain ⟨b, c, nx, T, hX, hM, hT, hnx⟩ := h
  obtain ⟨v, S2', e1, e2, y⟩ := j_form hX hM hT p r
  exact ⟨v, S2', e1, e2, b, c, nx, T, hX, hM.ye y, hT.up, Nat.le_succ_of_le hnx⟩
theorem q_reg (hn : n < 512) (h : SIM N N2 S S2 x m A B n) (p : Int32) : ∃ v S2', s_X11_reg N x p S = some v ∧ s_X12_reg N2 m p S2 = some (v, S2') ∧ SIM N N2 S S2' x m A B (n + 1) := by
  obtain ⟨b, c, nx, T, hX, hM, hT, hnx⟩ := h
  obtain ⟨v, S2', e1, e2, y⟩ := j_reg hX hM hT p
  exact ⟨v, S2', e1, e2, b, c, nx, T, hX, hM.ye y, hT.up, Nat.le_succ_of_le hnx⟩
theorem q_set (hn : n < 512) (h : SIM N N2 S S2 x m A B n) (p q : Int32) : ∃ v S' S2', s_X11_set N 3000 x p q S = some (v, S') ∧ s_X12_set N2 3000 m p q S2 = some (v, S2') ∧ SIM N N2 S' S2' x m A B (n + 1) := by
  obtain ⟨b, c, nx, T, hX, hM, hT, hnx⟩ := h
  obtain ⟨v, S', S2', nx', T', e1, e2, xe, y, t', z⟩ := j_set (Nat.le_refl 3000) hX hM hT hnx (Nat.le_of_lt hn) p q
  exact ⟨v, S', S2', e1, e2, b, c, nx', T', xe, y, t', z⟩
theorem q_fma (hn : n < 512) (h : SIM N N2 S S2 x m A B n) (p0 p1 p2 p3 : Int32) : ∃ v S' S2', s_X11_fma N 3000 x p0 p1 p2 p3 S = some (v, S') ∧ s_X12_fma N2 3000 m p0 p1 p2 p3 S2 = some (v, S2') ∧ SIM N N2 S' S2' x m A B (n + 1) := by
  obtain ⟨b, c, nx, T, hX, hM, hT, hnx⟩ := h
  obtain ⟨v, S', S2', nx', T', e1, e2, xe, y, t', z⟩ := j_fma (Nat.le_refl 3000) hX hM hT hnx hn p0 p1 p2 p3
  exact ⟨v, S', S2', e1, e2, b, c, nx', T', xe, y, t', z⟩
theorem q_mode (hn : n < 512) (h : SIM N N2 S S2 x m A B n) (p : Int32) : ∃ v S' S2', s_X11_mode N 3000 x p S = some (v, S') ∧ s_X12_mode N2 3000 m p S2 = some (v, S2') ∧ SIM N N2 S' S2' x m A B (n + 1) := by
  obtain ⟨b, c, nx, T, hX, hM, hT, hnx⟩ := h
  obtain ⟨v, S', S2', nx', T', e1, e2, xe, y, t', z⟩ := j_mode (Nat.le_refl 3000) hX hM hT hnx (Nat.le_of_lt hn) p
  exact ⟨v, S', S2', e1, e2, b, c, nx', T', xe, y, t', z⟩
theorem q_clear (hn : n < 512) (h : SIM N N2 S S2 x m A B n)  : ∃ v S' S2', s_X11_clear N 3000 x S = some (v, S') ∧ s_X12_clear N2 3000 m S2 = some (v, S2') ∧ SIM N N2 S' S2' x m A B (n + 1) := by
  obtain ⟨b, c, nx, T, hX, hM, hT, hnx⟩ := h
  obtain ⟨v, S', S2', nx', T', e1, e2, xe, y, t', z⟩ := j_clear (Nat.le_refl 3000) hX hM hT hnx (Nat.le_of_lt hn) 
  exact ⟨v, S', S2', e1, e2, b, c, nx', T', xe, y, t', z⟩
theorem q_use (hn : n < 512) (h : SIM N N2 S S2 x m A B n) (p : Int32) : ∃ v S' S2', s_X11_use N 3000 x p S = some (v, S') ∧ s_X12_use N2 3000 m p S2 = some (v, S2') ∧ SIM N N2 S' S2' x m A B (n + 1) := by
  obtain ⟨b, c, nx, T, hX, hM, hT, hnx⟩ := h
  obtain ⟨v, S', S2', nx', T', e1, e2, xe, y, t', z⟩ := j_use (Nat.le_refl 3000) hX hM hT hnx (Nat.le_of_lt hn) p
  exact ⟨v, S', S2', e1, e2, b, c, nx', T', xe, y, t', z⟩
theorem q_undo (hn : n < 512) (h : SIM N N2 S S2 x m A B n)  : ∃ v S' S2', s_X11_undo N 3000 x S = some (v, S') ∧ s_X12_undo N2 3000 m S2 = some (v, S2') ∧ SIM N N2 S' S2' x m A B (n + 1) := by
  obtain ⟨b, c, nx, T, hX, hM, hT, hnx⟩ := h
  obtain ⟨v, S', S2', nx', T', e1, e2, xe, y, t', z⟩ := j_undo (Nat.le_refl 3000) hX hM hT hnx (Nat.le_of_lt hn) 
  exact ⟨v, S', S2', e1, e2, b, c, nx', T', xe, y, t', z⟩
theorem q_judged (hn : n < 512) (h : SIM N N2 S S2 x m A B n) (p0 : Int32) : ∃ v S' S2', s_X11_judged N 3000 x p0 S = some (v, S') ∧ s_X12_judged N2 3000 m p0 S2 = some (v, S2') ∧ SIM N N2 S' S2' x m A B (n + 1) := by
  obtain ⟨b, c, nx, T, hX, hM, hT, hnx⟩ := h
  obtain ⟨v, S', S2', e1, e2, xe, y⟩ := j_judged (Nat.le_refl 3000) hX hM hT p0
  exact ⟨v, S', S2', e1, e2, b, c, nx, T, hX.xe xe, hM.ye y, hT.up, Nat.le_succ_of_le hnx⟩
theorem q_sort (hn : n < 512) (h : SIM N N2 S S2 x m A B n) (p : Int32) : ∃ v S2', s_X11_sort N x p S = some v ∧ s_X12_sort N2 m p S2 = some (v, S2') ∧ SIM N N2 S S2' x m A B (n + 1) := by
  obtain ⟨b, c, nx, T, hX, hM, hT, hnx⟩ := h
  obtain ⟨v, S2', e1, e2, y⟩ := j_sort hX hM hT p
  exact ⟨v, S2', e1, e2, b, c, nx, T, hX, hM.ye y, hT.up, Nat.le_succ_of_le hnx⟩
theorem q_order (hn : n < 512) (h : SIM N N2 S S2 x m A B n) (p r : Int32) : ∃ v S2', s_X11_order N x p r S = some v ∧ s_X12_order N2 m p r S2 = some (v, S2') ∧ SIM N N2 S S2' x m A B (n + 1) := by
  obtain ⟨b, c, nx, T, hX, hM, hT, hnx⟩ := h
  obtain ⟨v, S2', e1, e2, y⟩ := j_order hX hM hT p r
  exact ⟨v, S2', e1, e2, b, c, nx, T, hX, hM.ye y, hT.up, Nat.le_succ_of_le hnx⟩
theorem q_above (hn : n < 512) (h : SIM N N2 S S2 x m A B n) (p : Int32) : ∃ v S2', s_X11_above N x p S = some v ∧ s_X12_above N2 m p S2 = some (v, S2') ∧ SIM N N2 S S2' x m A B (n + 1) := by
  obtain ⟨b, c, nx, T, hX, hM, hT, hnx⟩ := h
  obtain ⟨v, S2', e1, e2, y⟩ := j_above hX hM hT p
  exact ⟨v, S2', e1, e2, b, c, nx, T, hX, hM.ye y, hT.up, Nat.le_succ_of_le hnx⟩
theorem q_below (hn : n < 512) (h : SIM N N2 S S2 x m A B n) (p : Int32) : ∃ v S2', s_X11_below N x p S = some v ∧ s_X12_below N2 m p S2 = some (v, S2') ∧ SIM N N2 S S2' x m A B (n + 1) := by
  obtain ⟨b, c, nx, T, hX, hM, hT, hnx⟩ := h
  obtain ⟨v, S2', e1, e2, y⟩ := j_below hX hM hT p
  exact ⟨v, S2', e1, e2, b, c, nx, T, hX, hM.ye y, hT.up, Nat.le_succ_of_le hnx⟩
theorem q_sum (hn : n < 512) (h : SIM N N2 S S2 x m A B n) (p q r md : Int32) : ∃ v S' S2', s_X11_sum N 3000 x p q r md S = some (v, S') ∧ s_X12_sum N2 3000 m p q r md S2 = some (v, S2') ∧ SIM N N2 S' S2' x m A B (n + 1) := by
  obtain ⟨b, c, nx, T, hX, hM, hT, hnx⟩ := h
  obtain ⟨v, S', S2', e1, e2, xe, y⟩ := j_sum (Nat.le_refl 3000) hX hM hT p q r md
  exact ⟨v, S', S2', e1, e2, b, c, nx, T, hX.xe xe, hM.ye y, hT.up, Nat.le_succ_of_le hnx⟩
theorem q_marks (hn : n < 512) (h : SIM N N2 S S2 x m A B n) (p q r md : Int32) : ∃ v S' S2', s_X11_marks N 3000 x p q r md S = some (v, S') ∧ s_X12_marks N2 3000 m p q r md S2 = some (v, S2') ∧ SIM N N2 S' S2' x m A B (n + 1) := by
  obtain ⟨b, c, nx, T, hX, hM, hT, hnx⟩ := h
  obtain ⟨v, S', S2', e1, e2, xe, y⟩ := j_marks (Nat.le_refl 3000) hX hM hT p q r md
  exact ⟨v, S', S2', e1, e2, b, c, nx, T, hX.xe xe, hM.ye y, hT.up, Nat.le_succ_of_le hnx⟩
theorem q_exact (hn : n < 512) (h : SIM N N2 S S2 x m A B n) (p q r : Int32) : ∃ v S' S2', s_X11_exact N 3000 x p q r S = some (v, S') ∧ s_X12_exact N2 3000 m p q r S2 = some (v, S2') ∧ SIM N N2 S' S2' x m A B (n + 1) := by
  obtain ⟨b, c, nx, T, hX, hM, hT, hnx⟩ := h
  obtain ⟨v, S', S2', e1, e2, xe, y⟩ := j_exact (Nat.le_refl 3000) hX hM hT p q r
  exact ⟨v, S', S2', e1, e2, b, c, nx, T, hX.xe xe, hM.ye y, hT.up, Nat.le_succ_of_le hnx⟩
theorem q_spread (hn : n < 512) (h : SIM N N2 S S2 x m A B n) (p q r : Int32) : ∃ v S' S2', s_X11_spread N 3000 x p q r S = some (v, S') ∧ s_X12_spread N2 3000 m p q r S2 = some (v, S2') ∧ SIM N N2 S' S2' x m A B (n + 1) := by
  obtain ⟨b, c, nx, T, hX, hM, hT, hnx⟩ := h
  obtain ⟨v, S', S2', e1, e2, xe, y⟩ := j_spread (Nat.le_refl 3000) hX hM hT p q r
  exact ⟨v, S', S2', e1, e2, b, c, nx, T, hX.xe xe, hM.ye y, hT.up, Nat.le_succ_of_le hnx⟩
theorem q_twice (hn : n < 512) (h : SIM N N2 S S2 x m A B n) (p q r : Int32) : ∃ v S' S2', s_X11_twice N 3000 x p q r S = some (v, S') ∧ s_X12_twice N2 3000 m p q r S2 = some (v, S2') ∧ SIM N N2 S' S2' x m A B (n + 1) := by
  obtain ⟨b, c, nx, T, hX, hM, hT, hnx⟩ := h
  obtain ⟨v, S', S2', e1, e2, xe, y⟩ := j_twice (Nat.le_refl 3000) hX hM hT p q r
  exact ⟨v, S', S2', e1, e2, b, c, nx, T, hX.xe xe, hM.ye y, hT.up, Nat.le_succ_of_le hnx⟩
theorem q_remains (hn : n < 512) (h : SIM N N2 S S2 x m A B n) (p q : Int32) : ∃ v S' S2', s_X11_remains N 3000 x p q S = some (v, S') ∧ s_X12_remains N2 3000 m p q S2 = some (v, S2') ∧ SIM N N2 S' S2' x m A B (n + 1) := by
  obtain ⟨b, c, nx, T, hX, hM, hT, hnx⟩ := h
  obtain ⟨v, S', S2', e1, e2, xe, y⟩ := j_remains (Nat.le_refl 3000) hX hM hT p q
  exact ⟨v, S', S2', e1, e2, b, c, nx, T, hX.xe xe, hM.ye y, hT.up, Nat.le_succ_of_le hnx⟩
theorem q_half (hn : n < 512) (h : SIM N N2 S S2 x m A B n) (p q r : Int32) : ∃ v S' S2', s_X11_half N 3000 x p q r S = some (v, S') ∧ s_X12_half N2 3000 m p q r S2 = some (v, S2') ∧ SIM N N2 S' S2' x m A B (n + 1) := by
  obtain ⟨b, c, nx, T, hX, hM, hT, hnx⟩ := h
  obtain ⟨v, S', S2', e1, e2, xe, y⟩ := j_half (Nat.le_refl 3000) hX hM hT p q r
  exact ⟨v, S', S2', e1, e2, b, c, nx, T, hX.xe xe, hM.ye y, hT.up, Nat.le_succ_of_le hnx⟩
theorem q_part (hn : n < 512) (h : SIM N N2 S S2 x m A B n) (p r : Int32) : ∃ v S2', s_X11_part N x p r S = some v ∧ s_X12_part N2 m p r S2 = some (v, S2') ∧ SIM N N2 S S2' x m A B (n + 1) := by
  obtain ⟨b, c, nx, T, hX, hM, hT, hnx⟩ := h
  obtain ⟨v, S2', e1, e2, y⟩ := j_part hX hM hT p r
  exact ⟨v, S2', e1, e2, b, c, nx, T, hX, hM.ye y, hT.up, Nat.le_succ_of_le hnx⟩
theorem q_join (hn : n < 512) (h : SIM N N2 S S2 x m A B n) (p q r : Int32) : ∃ v S2', s_X11_join N x p q r S = some v ∧ s_X12_join N2 m p q r S2 = some (v, S2') ∧ SIM N N2 S S2' x m A B (n + 1) := by
  obtain ⟨b, c, nx, T, hX, hM, hT, hnx⟩ := h
  obtain ⟨v, S2', e1, e2, y⟩ := j_join hX hM hT p q r
  exact ⟨v, S2', e1, e2, b, c, nx, T, hX, hM.ye y, hT.up, Nat.le_succ_of_le hnx⟩
theorem q_scale (hn : n < 512) (h : SIM N N2 S S2 x m A B n) (p r : Int32) : ∃ v S' S2', s_X11_scale N 3000 x p r S = some (v, S') ∧ s_X12_scale N2 3000 m p r S2 = some (v, S2') ∧ SIM N N2 S' S2' x m A B (n + 1) := by
  obtain ⟨b, c, nx, T, hX, hM, hT, hnx⟩ := h
  obtain ⟨v, S', S2', e1, e2, xe, y⟩ := j_scale (Nat.le_refl 3000) hX hM hT p r
  exact ⟨v, S', S2', e1, e2, b, c, nx, T, hX.xe xe, hM.ye y, hT.up, Nat.le_succ_of_le hnx⟩
theorem q_side (hn : n < 512) (h : SIM N N2 S S2 x m A B n) (p q r md : Int32) : ∃ v S' S2', s_X11_side N 3000 x p q r md S = some (v, S') ∧ s_X12_side N2 3000 m p q r md S2 = some (v, S2') ∧ SIM N N2 S' S2' x m A B (n + 1) := by
  obtain ⟨b, c, nx, T, hX, hM, hT, hnx⟩ := h
  obtain ⟨v, S', S2', e1, e2, xe, y⟩ := j_side (Nat.le_refl 3000) hX hM hT p q r md
  exact ⟨v, S', S2', e1, e2, b, c, nx, T, hX.xe xe, hM.ye y, hT.up, Nat.le_succ_of_le hnx⟩
theorem q_apart (hn : n < 512) (h : SIM N N2 S S2 x m A B n) (p r : Int32) : ∃ v S2', s_X11_apart N x p r S = some v ∧ s_X12_apart N2 m p r S2 = some (v, S2') ∧ SIM N N2 S S2' x m A B (n + 1) := by
  obtain ⟨b, c, nx, T, hX, hM, hT, hnx⟩ := h
  obtain ⟨v, S2', e1, e2, y⟩ := j_apart hX hM hT p r
  exact ⟨v, S2', e1, e2, b, c, nx, T, hX, hM.ye y, hT.up, Nat.le_succ_of_le hnx⟩
theorem q_poly (hn : n < 512) (h : SIM N N2 S S2 x m A B n) (p r : Int32) : ∃ v S' S2', s_X11_poly N 3000 x p r S = some (v, S') ∧ s_X12_poly N2 3000 m p r S2 = some (v, S2') ∧ SIM N N2 S' S2' x m A B (n + 1) := by
  obtain ⟨b, c, nx, T, hX, hM, hT, hnx⟩ := h
  obtain ⟨v, S', S2', e1, e2, xe, y⟩ := j_poly (Nat.le_refl 3000) hX hM hT p r
  exact ⟨v, S', S2', e1, e2, b, c, nx, T, hX.xe xe, hM.ye y, hT.up, Nat.le_succ_of_le hnx⟩
theorem q_total (hn : n < 512) (h : SIM N N2 S S2 x m A B n)  : ∃ v S' S2', s_X11_total N 3000 x S = some (v, S') ∧ s_X12_total N2 3000 m S2 = some (v, S2') ∧ SIM N N2 S' S2' x m A B (n + 1) := by
  obtain ⟨b, c, nx, T, hX, hM, hT, hnx⟩ := h
  obtain ⟨v, S', S2', e1, e2, xe, y⟩ := j_total (Nat.le_refl 3000) hX hM hT 
  exact ⟨v, S', S2', e1, e2, b, c, nx, T, hX.xe xe, hM.ye y, hT.up, Nat.le_succ_of_le hnx⟩
theorem q_settles (hn : n < 512) (h : SIM N N2 S S2 x m A B n) (p0 p1 p2 p3 : Int32) : ∃ v S' S2', s_X11_settles N 3000 x p0 p1 p2 p3 S = some (v, S') ∧ s_X12_settles N2 3000 m p0 p1 p2 p3 S2 = some (v, S2') ∧ SIM N N2 S' S2' x m A B (n + 1) := by
  obtain ⟨b, c, nx, T, hX, hM, hT, hnx⟩ := h
  obtain ⟨v, S', S2', e1, e2, xe, y⟩ := j_settles (Nat.le_refl 3000) hX hM hT p0 p1 p2 p3
  exact ⟨v, S', S2', e1, e2, b, c, nx, T, hX.xe xe, hM.ye y, hT.up, Nat.le_succ_of_le hnx⟩
theorem q_gap (hn : n < 512) (h : SIM N N2 S S2 x m A B n) (p q r : Int32) : ∃ o S2', g_X11_gap N x p q r S = some o ∧ s_X12_gap N2 m p q r S2 = some (o.getD 0, S2') ∧ gI S2' 1200 m = b2 (!o.isSome) ∧ SIM N N2 S S2' x m A B (n + 1) := by
  obtain ⟨b, c, nx, T, hX, hM, hT, hnx⟩ := h
  obtain ⟨v, S2', e1, e2, e3, y⟩ := j_gap hX hM hT p q r
  exact ⟨v, S2', e1, e2, e3, b, c, nx, T, hX, hM.ye y, hT.up, Nat.le_succ_of_le hnx⟩
theorem q_leads (hn : n < 512) (h : SIM N N2 S S2 x m A B n) (p q : Int64) : ∃ v S2', s_X11_leads 3000 x p q S = some v ∧ s_X12_leads 3000 m p q S2 = some (v, S2') ∧ SIM N N2 S S2' x m A B (n + 1) := by
  obtain ⟨b, c, nx, T, hX, hM, hT, hnx⟩ := h
  obtain ⟨v, S2', e1, e2, y⟩ := j_leads (Nat.le_refl 3000) hM p q
  exact ⟨v, S2', e1, e2, b, c, nx, T, hX, hM.ye y, hT.up, Nat.le_succ_of_le hnx⟩
theorem q_off (hn : n < 512) (h : SIM N N2 S S2 x m A B n) (p q : Int64) : ∃ v S2', s_X11_off 3000 x p q S = some v ∧ s_X12_off 3000 m p q S2 = some (v, S2') ∧ SIM N N2 S S2' x m A B (n + 1) := by
  obtain ⟨b, c, nx, T, hX, hM, hT, hnx⟩ := h
  obtain ⟨v, S2', e1, e2, y⟩ := j_off (Nat.le_refl 3000) hM p q
  exact ⟨v, S2', e1, e2, b, c, nx, T, hX, hM.ye y, hT.up, Nat.le_succ_of_le hnx⟩
theorem q_whole (hn : n < 512) (h : SIM N N2 S S2 x m A B n) (p : Int32) : ∃ o S' S2', g_X11_whole N 3000 x p S = some (o, S') ∧ s_X12_whole N2 3000 m p S2 = some (o.getD 0, S2') ∧ gI S2' 1200 m = b2 (!o.isSome) ∧ SIM N N2 S' S2' x m A B (n + 1) := by
  obtain ⟨b, c, nx, T, hX, hM, hT, hnx⟩ := h
  obtain ⟨v, S', S2', e1, e2, e3, xe, y⟩ := j_whole (Nat.le_refl 3000) hX hM hT p
  exact ⟨v, S', S2', e1, e2, e3, b, c, nx, T, hX.xe xe, hM.ye y, hT.up, Nat.le_succ_of_le hnx⟩
theorem q_of (hn : n < 512) (h : SIM N N2 S S2 x m A B n) (p : Int32) : ∃ v S' S2', s_X11_of N 3000 x p S = some (v, S') ∧ s_X12_of N2 3000 m p S2 = some (v, S2') ∧ SIM N N2 S' S2' x m A B (n + 1) := by
  obtain ⟨b, c, nx, T, hX, hM, hT, hnx⟩ := h
  obtain ⟨v, S', S2', e1, e2, xe, y⟩ := j_of (Nat.le_refl 3000) hX hM hT p
  exact ⟨v, S', S2', e1, e2, b, c, nx, T, hX.xe xe, hM.ye y, hT.up, Nat.le_succ_of_le hnx⟩
theorem q_into (hn : n < 512) (h : SIM N N2 S S2 x m A B n) (p r : Int32) : ∃ v S' S2', s_X11_into N 3000 x p r S = some (v, S') ∧ s_X12_into N2 3000 m p r S2 = some (v, S2') ∧ SIM N N2 S' S2' x m A B (n + 1) := by
  obtain ⟨b, c, nx, T, hX, hM, hT, hnx⟩ := h
  obtain ⟨v, S', S2', e1, e2, xe, y⟩ := j_into (Nat.le_refl 3000) hX hM hT p r
  exact ⟨v, S', S2', e1, e2, b, c, nx, T, hX.xe xe, hM.ye y, hT.up, Nat.le_succ_of_le hnx⟩
theorem q_exacts (hn : n < 512) (h : SIM N N2 S S2 x m A B n) (p q : Int32) : ∃ v S' S2', s_X11_exacts N 3000 x p q S = some (v, S') ∧ s_X12_exacts N2 3000 m p q S2 = some (v, S2') ∧ SIM N N2 S' S2' x m A B (n + 1) := by
  obtain ⟨b, c, nx, T, hX, hM, hT, hnx⟩ := h
  obtain ⟨v, S', S2', e1, e2, xe, y⟩ := j_exacts (Nat.le_refl 3000) hX hM hT p q
  exact ⟨v, S', S2', e1, e2, b, c, nx, T, hX.xe xe, hM.ye y, hT.up, Nat.le_succ_of_le hnx⟩
theorem q_swallows (hn : n < 512) (h : SIM N N2 S S2 x m A B n) (p q : Int32) : ∃ v S' S2', s_X11_swallows N 3000 x p q S = some (v, S') ∧ s_X12_swallows N2 3000 m p q S2 = some (v, S2') ∧ SIM N N2 S' S2' x m A B (n + 1) := by
  obtain ⟨b, c, nx, T, hX, hM, hT, hnx⟩ := h
  obtain ⟨v, S', S2', e1, e2, xe, y⟩ := j_swallows (Nat.le_refl 3000) hX hM hT p q
  exact ⟨v, S', S2', e1, e2, b, c, nx, T, hX.xe xe, hM.ye y, hT.up, Nat.le_succ_of_le hnx⟩
theorem q_raises (hn : n < 512) (h : SIM N N2 S S2 x m A B n) (p q r : Int32) : ∃ v S' S2', s_X11_raises N 3000 x p q r S = some (v, S') ∧ s_X12_raises N2 3000 m p q r S2 = some (v, S2') ∧ SIM N N2 S' S2' x m A B (n + 1) := by
  obtain ⟨b, c, nx, T, hX, hM, hT, hnx⟩ := h
  obtain ⟨v, S', S2', e1, e2, xe, y⟩ := j_raises (Nat.le_refl 3000) hX hM hT p q r
  exact ⟨v, S', S2', e1, e2, b, c, nx, T, hX.xe xe, hM.ye y, hT.up, Nat.le_succ_of_le hnx⟩
theorem q_ties (hn : n < 512) (h : SIM N N2 S S2 x m A B n) (p q : Int32) : ∃ v S' S2', s_X11_ties N 3000 x p q S = some (v, S') ∧ s_X12_ties N2 3000 m p q S2 = some (v, S2') ∧ SIM N N2 S' S2' x m A B (n + 1) := by
  obtain ⟨b, c, nx, T, hX, hM, hT, hnx⟩ := h
  obtain ⟨v, S', S2', e1, e2, xe, y⟩ := j_ties (Nat.le_refl 3000) hX hM hT p q
  exact ⟨v, S', S2', e1, e2, b, c, nx, T, hX.xe xe, hM.ye y, hT.up, Nat.le_succ_of_le hnx⟩
theorem q_root (hn : n < 512) (h : SIM N N2 S S2 x m A B n) (p : Int32) : ∃ v S' S2', s_X11_root N 3000 x p S = some (v, S') ∧ s_X12_root N2 3000 m p S2 = some (v, S2') ∧ SIM N N2 S' S2' x m A B (n + 1) := by
  obtain ⟨b, c, nx, T, hX, hM, hT, hnx⟩ := h
  obtain ⟨v, S', S2', e1, e2, xe, y⟩ := j_root (Nat.le_refl 3000) hX hM hT p
  exact ⟨v, S', S2', e1, e2, b, c, nx, T, hX.xe xe, hM.ye y, hT.up, Nat.le_succ_of_le hnx⟩
theorem q_inverse (hn : n < 512) (h : SIM N N2 S S2 x m A B n) (p : Int32) : ∃ v S' S2', s_X11_inverse N 3000 x p S = some (v, S') ∧ s_X12_inverse N2 3000 m p S2 = some (v, S2') ∧ SIM N N2 S' S2' x m A B (n + 1) := by
  obtain ⟨b, c, nx, T, hX, hM, hT, hnx⟩ := h
  obtain ⟨v, S', S2', e1, e2, xe, y⟩ := j_inverse (Nat.le_refl 3000) hX hM hT p
  exact ⟨v, S', S2', e1, e2, b, c, nx, T, hX.xe xe, hM.ye y, hT.up, Nat.le_succ_of_le hnx⟩
theorem q_asked (hn : n < 512) (h : SIM N N2 S S2 x m A B n)  : ∃ v S2', s_X11_asked x S = some v ∧ s_X12_asked N2 3000 m S2 = some (v, S2') ∧ SIM N N2 S S2' x m A B (n + 1) := by
  obtain ⟨b, c, nx, T, hX, hM, hT, hnx⟩ := h
  obtain ⟨v, S2', e1, e2, y⟩ := j_asked (Nat.le_refl 3000) hX hM hT (Nat.le_of_lt hn) 
  exact ⟨v, S2', e1, e2, b, c, nx, T, hX, hM.ye y, hT.up, Nat.le_succ_of_le hnx⟩
theorem q_often (hn : n < 512) (h : SIM N N2 S S2 x m A B n) (p : Int32) : ∃ v S2', s_X11_often N x p S = some v ∧ s_X12_often N2 3000 m p S2 = some (v, S2') ∧ SIM N N2 S S2' x m A B (n + 1) := by
  obtain ⟨b, c, nx, T, hX, hM, hT, hnx⟩ := h
  obtain ⟨v, S2', e1, e2, y⟩ := j_often (Nat.le_refl 3000) hX hM hT (Nat.le_of_lt hn) p
  exact ⟨v, S2', e1, e2, b, c, nx, T, hX, hM.ye y, hT.up, Nat.le_succ_of_le hnx⟩
theorem q_times (hn : n < 512) (h : SIM N N2 S S2 x m A B n) (p q r md : Int32) : ∃ v S2', s_X11_times N 3000 x p q r md S = some v ∧ s_X12_times N2 3000 m p q r md S2 = some (v, S2') ∧ SIM N N2 S S2' x m A B (n + 1) := by
  obtain ⟨b, c, nx, T, hX, hM, hT, hnx⟩ := h
  obtain ⟨v, S2', e1, e2, y⟩ := j_times (Nat.le_refl 3000) hX hM hT (Nat.le_of_lt hn) p q r md
  exact ⟨v, S2', e1, e2, b, c, nx, T, hX, hM.ye y, hT.up, Nat.le_succ_of_le hnx⟩
theorem q_results (hn : n < 512) (h : SIM N N2 S S2 x m A B n)  : ∃ v S2', s_X11_results x S = some v ∧ s_X12_results N2 3000 m S2 = some (v, S2') ∧ SIM N N2 S S2' x m A B (n + 1) := by
  obtain ⟨b, c, nx, T, hX, hM, hT, hnx⟩ := h
  obtain ⟨v, S2', e1, e2, y⟩ := j_results (Nat.le_refl 3000) hX hM hT (Nat.le_of_lt hn) 
  exact ⟨v, S2', e1, e2, b, c, nx, T, hX, hM.ye y, hT.up, Nat.le_succ_of_le hnx⟩
theorem q_see (hn : n < 512) (h : SIM N N2 S S2 x m A B n) (p : Int32) (w : Bool) : ∃ v S' S2', s_X11_see N x p (b2 w) S = some (v, S') ∧ s_X12_see N2 m p (b2 w) S2 = some (v, S2') ∧ SIM N N2 S' S2' x m A B (n + 1) := by
  obtain ⟨b, c, nx, T, hX, hM, hT, hnx⟩ := h
  obtain ⟨v, S', S2', T', e1, e2, xe, y, t'⟩ := j_see hX hM hT p w
  exact ⟨v, S', S2', e1, e2, b, c, nx, T', xe, y, t', Nat.le_succ_of_le hnx⟩
theorem q_fit (hn : n < 512) (h : SIM N N2 S S2 x m A B n)  : ∃ v S' S2', s_X11_fit N 3000 x S = some (v, S') ∧ s_X12_fit N2 3000 m S2 = some (v, S2') ∧ SIM N N2 S' S2' x m A B (n + 1) := by
  obtain ⟨b, c, nx, T, hX, hM, hT, hnx⟩ := h
  obtain ⟨v, S', S2', e1, e2, xe, y⟩ := j_fit (Nat.le_refl 3000) hX hM hT 
  exact ⟨v, S', S2', e1, e2, b, c, nx, T, hX.xe xe, hM.ye y, hT.up, Nat.le_succ_of_le hnx⟩
theorem q_least (hn : n < 512) (h : SIM N N2 S S2 x m A B n)  : ∃ v S' S2', s_X11_least N 3000 x S = some (v, S') ∧ s_X12_least N2 3000 m S2 = some (v, S2') ∧ SIM N N2 S' S2' x m A B (n + 1) := by
  obtain ⟨b, c, nx, T, hX, hM, hT, hnx⟩ := h
  obtain ⟨v, S', S2', e1, e2, xe, y⟩ := j_least (Nat.le_refl 3000) hX hM hT 
  exact ⟨v, S', S2', e1, e2, b, c, nx, T, hX.xe xe, hM.ye y, hT.up, Nat.le_succ_of_le hnx⟩
theorem q_plans (hn : n < 512) (h : SIM N N2 S S2 x m A B n) (p0 p1 p2 : Int32) : ∃ v S' S2', s_X11_plans N 3000 x p0 p1 p2 S = some (v, S') ∧ s_X12_plans N2 3000 m p0 p1 p2 S2 = some (v, S2') ∧ SIM N N2 S' S2' x m A B (n + 1) := by
  obtain ⟨b, c, nx, T, hX, hM, hT, hnx⟩ := h
  obtain ⟨v, S', S2', e1, e2, xe, y⟩ := j_plans (Nat.le_refl 3000) hX hM hT p0 p1 p2
  exact ⟨v, S', S2', e1, e2, b, c, nx, T, hX.xe xe, hM.ye y, hT.up, Nat.le_succ_of_le hnx⟩
theorem q_mark (hn : n < 512) (h : SIM N N2 S S2 x m A B n) (p : Int32) (w : Bool) : ∃ v S' S2', s_X11_mark N 3000 x p (b2 w) S = some (v, S') ∧ s_X12_mark N2 3000 m p (b2 w) S2 = some (v, S2') ∧ SIM N N2 S' S2' x m A B (n + 1) := by
  obtain ⟨b, c, nx, T, hX, hM, hT, hnx⟩ := h
  obtain ⟨v, S', S2', nx', T', e1, e2, xe, y, t', z⟩ := j_mark (Nat.le_refl 3000) hX hM hT hnx p w
  exact ⟨v, S', S2', e1, e2, b, c, nx', T', xe, y, t', z⟩
theorem q_count (hn : n < 512) (h : SIM N N2 S S2 x m A B n) (p : Int32) : ∃ v S2', s_X11_count x p S = some v ∧ s_X12_count N2 m p S2 = some (v, S2') ∧ SIM N N2 S S2' x m A B (n + 1) := by
  obtain ⟨b, c, nx, T, hX, hM, hT, hnx⟩ := h
  obtain ⟨v, S2', e1, e2, y⟩ := j_count hX hM hT p
  exact ⟨v, S2', e1, e2, b, c, nx, T, hX, hM.ye y, hT.up, Nat.le_succ_of_le hnx⟩
end QQQ
