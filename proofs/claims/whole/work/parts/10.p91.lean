section
/- the words of the class's pool and of the model, as letters -/
def wds (p : Nat) : List Nat := (sbyt.getD p []).map (fun b => (b.toInt - 96).toNat)
def mds : List (List Nat) := [[6, 15, 18, 13], [5, 24, 16], [6, 18, 1, 3], [18, 5, 7], [15, 23, 14], [6, 13, 1], [13, 15, 4, 5], [3, 12, 5, 1, 18], [21, 19, 5], [16, 12, 1, 9, 14], [6, 12, 21, 19, 8], [19, 1, 20], [23, 8, 15, 12, 5], [14, 15, 20], [1, 14, 4], [15, 18], [13, 9, 14, 21, 19], [15, 4, 4], [7, 21, 1, 18, 4], [18, 5, 19, 20]]
/- the token's letters, none if it is no word -/
def tkW (tp : List Nat) (i : Nat) : List Nat := if tWhat tp (pt tp i) = 1 then wl tp (tQ0 tp (pt tp i)) (tW tp (pt tp i)) else []
theorem wds_len : ∀ p : Fin 21, sLen p.val = ii ((wds p.val).length : Nat) := by decide +kernel
theorem wds_ok : ∀ p : Fin 20, (wds (p.val + 1)).length ≤ 8 ∧ wds (p.val + 1) ≠ [] ∧ ∀ c, c ∈ wds (p.val + 1) → 1 ≤ c ∧ c < 32 := by decide +kernel
theorem wds_chr : ∀ p : Fin 20, ∀ j : Fin 8, j.val < (wds (p.val + 1)).length → sChr (p.val + 1) (ii (j.val : Nat)) = some (ii ((96 + (wds (p.val + 1)).getD j.val 0 : Nat) : Int)) := by decide +kernel
theorem mds_w : ∀ w : Fin 20, words37[w.val]? = some (nm37 (mds.getD w.val [])) := by decide +kernel
theorem mds_ok : ∀ w : Fin 20, ((mds.getD w.val []).length ≤ 8 ∧ ∀ c, c ∈ mds.getD w.val [] → 1 ≤ c ∧ c < 32) ∧ mds.getD w.val [] ≠ [] := by decide +kernel
theorem take_run (p : Nat → Bool) : ∀ (l : List Nat) (c : Nat), c ∈ l.take (run p l) → p c = true
  | [], c, h => by simp at h
  | d :: r, c, h => by
    by_cases w : p d = true
    · have e : run p (d :: r) = run p r + 1 := if_pos w
      rw [e, List.take_succ_cons] at h
      rcases List.mem_cons.mp h with q | q
      · subst q; exact w
      · exact take_run p r c q
    · have e : run p (d :: r) = 0 := if_neg w
      rw [e] at h
      simp at h
theorem wl_ok (tp : List Nat) (q : Nat) : ∀ c, c ∈ wl tp q (run isLt (tp.drop q)) → 1 ≤ c ∧ c < 32 := by
  intro c hc
  unfold wl at hc
  obtain ⟨d, d1, d2⟩ := List.mem_map.mp hc
  have h : 97 ≤ d ∧ d ≤ 122 := of_decide_eq_true (take_run isLt _ d d1)
  omega
theorem wl_len (tp : List Nat) (q : Nat) : (wl tp q (run isLt (tp.drop q))).length = run isLt (tp.drop q) := by
  unfold wl
  rw [List.length_map, List.length_take]
  exact Nat.min_eq_left (run_le _ _)
theorem tWhat_1 {tp : List Nat} {p : Nat} (h : tWhat tp p = 1) : tQ0 tp p < tp.length ∧ tW tp p ≤ 8 ∧ 1 ≤ tW tp p := by
  unfold tWhat at h
  split at h
  · omega
  · rename_i w0
    split at h
    · rename_i w1
      split at h
      · omega
      · refine ⟨by omega, by omega, ?_⟩
        unfold tW
        rw [run_at, if_pos ⟨by omega, w1⟩]
        omega
    · split at h
      · split at h <;> omega
      · split at h
        · rename_i w3; rw [h] at w3; exact absurd w3 (by decide)
        · omega
theorem tWhat_b {tp : List Nat} (hok : ∀ c, c ∈ tp → tpok c) (p : Nat) : tWhat tp p < 127 := by
  unfold tWhat
  have h2 : tC tp p < 127 := chT_b hok (tQ0 tp p)
  split
  · omega
  · split
    · split <;> omega
    · split
      · split <;> omega
      · split <;> omega
theorem tkW_ok (tp : List Nat) (i : Nat) : nmk (tkW tp i) := by
  unfold tkW
  by_cases w : tWhat tp (pt tp i) = 1
  · rw [if_pos w]
    refine ⟨?_, wl_ok tp _⟩
    have := (tWhat_1 w).2.1
    show (wl tp (tQ0 tp (pt tp i)) (run isLt (tp.drop (tQ0 tp (pt tp i))))).length ≤ 8
    rw [wl_len]; exact this
  · rw [if_neg w]; exact ⟨by decide, fun c h => by cases h⟩
theorem tkW_ne (tp : List Nat) (i : Nat) : tkW tp i ≠ [] ↔ tWhat tp (pt tp i) = 1 := by
  unfold tkW
  constructor
  · intro h
    by_cases w : tWhat tp (pt tp i) = 1
    · exact w
    · rw [if_neg w] at h; exact absurd rfl h
  · intro w h
    rw [if_pos w] at h
    have h2 : (wl tp (tQ0 tp (pt tp i)) (run isLt (tp.drop (tQ0 tp (pt tp i))))).length = tW tp (pt tp i) := wl_len tp _
    have h3 : (wl tp (tQ0 tp (pt tp i)) (run isLt (tp.drop (tQ0 tp (pt tp i))))) = [] := h
    rw [h3] at h2
    have := (tWhat_1 w).2.2
    simp at h2
    omega
theorem nmr_lt {b : Nat} : ∀ (l : List Nat), (∀ c, c ∈ l → c < b) → nmr b l < b ^ l.length
  | [], _ => by show 0 < 1; omega
  | c :: r, h => by
    have h1 := nmr_lt r (fun x hx => h x (List.mem_cons_of_mem _ hx))
    have h2 := h c (List.mem_cons_self ..)
    show nmr b r * b + c < b ^ (r.length + 1)
    rw [Nat.pow_succ]
    have h3 : (nmr b r + 1) * b ≤ b ^ r.length * b := Nat.mul_le_mul_right b h1
    rw [Nat.add_mul, Nat.one_mul] at h3
    omega
theorem nm32_b {l : List Nat} (h : nmk l) : nm32 l < 1099511627776 := by
  rw [nm32_r]
  have h1 := nmr_lt (b := 32) l.reverse (fun c hc => (h.2 c (List.mem_reverse.mp hc)).2)
  rw [List.length_reverse] at h1
  have h2 : (32 : Nat) ^ l.length ≤ 32 ^ 8 := Nat.pow_le_pow_right (by decide) h.1
  have h3 : (32 : Nat) ^ 8 = 1099511627776 := by decide
  rw [h3] at h2
  exact Nat.lt_of_lt_of_le h1 h2
theorem nm37_b {l : List Nat} (h : nmk l) : nm37 l < 3512479453921 := by
  rw [nm37_r]
  have h1 := nmr_lt (b := 37) l.reverse (fun c hc => by have := (h.2 c (List.mem_reverse.mp hc)).2; omega)
  rw [List.length_reverse] at h1
  have h2 : (37 : Nat) ^ l.length ≤ 37 ^ 8 := Nat.pow_le_pow_right (by decide) h.1
  have h3 : (37 : Nat) ^ 8 = 3512479453921 := by decide
  rw [h3] at h2
  exact Nat.lt_of_lt_of_le h1 h2
theorem cw32 {l l' : List Nat} (h : nmk l) (h' : nmk l') : (lg_cmp (jj (nm32 l)) (jj (nm32 l')) = 0) = (l = l') := by
  have h1 := nm32_b h
  have h2 := nm32_b h'
  rw [cmp0 (by omega) (by omega)]
  exact propext (word_eq h.2 h'.2).1
theorem cw37 {l l' : List Nat} (h : nmk l) (h' : nmk l') : (lg_cmp (jj (nm37 l)) (jj (nm37 l')) = 0) = (l = l') := by
  have h1 := nm37_b h
  have h2 := nm37_b h'
  rw [cmp0 (by omega) (by omega)]
  exact propext (word_eq h.2 h'.2).2
theorem nmk_take {l : List Nat} (h : nmk l) (j : Nat) : nmk (l.take j) := ⟨by rw [List.length_take]; have := h.1; omega, fun c hc => h.2 c (List.mem_of_mem_take hc)⟩
section XISW
variable {F a : Nat} {S : HS} {tp : List Nat} {i f : Nat}
theorem x_isWord_loop (k : Nat → Int64 → HS → Option Int32) {p : Nat} (hp : p < 20) : ∀ (d j M : Nat), j + d = (wds (p + 1)).length → d < M → s_X8_isWord_L5 F k M a (p + 1) (jj (nm32 ((wds (p + 1)).take j))) (ii j) S = k a (jj (nm32 (wds (p + 1)))) S := by
  obtain ⟨w1, w2, w3⟩ := wds_ok ⟨p, hp⟩
  have w1 : (wds (p + 1)).length ≤ 8 := w1
  have hl : sLen (p + 1) = ii ((wds (p + 1)).length : Nat) := wds_len ⟨p + 1, by omega⟩
  intro d
  induction d with
  | zero =>
    intro j M hj hM
    obtain ⟨M, rfl⟩ : ∃ w, M = w + 1 := ⟨M - 1, by omega⟩
    unfold s_X8_isWord_L5
    rw [hl, if_pos (by rw [ii_le (by omega) (by omega) (by omega) (by omega)]; omega), List.take_of_length_le (by omega)]
  | succ d ih =>
    intro j M hj hM
    obtain ⟨M, rfl⟩ : ∃ w, M = w + 1 := ⟨M - 1, by omega⟩
    have hjl : j < (wds (p + 1)).length := by omega
    have hc : sChr (p + 1) (ii (j : Int)) = some (ii ((96 + (wds (p + 1)).getD j 0 : Nat) : Int)) := wds_chr ⟨p, hp⟩ ⟨j, by omega⟩ hjl
    have hg : (wds (p + 1)).getD j 0 = (wds (p + 1))[j] := by rw [List.getD_eq_getElem?_getD, List.getElem?_eq_getElem hjl]; rfl
    have hm : 1 ≤ (wds (p + 1))[j] ∧ (wds (p + 1))[j] < 32 := w3 _ (List.getElem_mem hjl)
    rw [hg] at hc
    have et : nm32 ((wds (p + 1)).take (j + 1)) = nm32 ((wds (p + 1)).take j) * 32 + (wds (p + 1))[j] := by
      unfold nm32
      rw [List.take_succ, List.getElem?_eq_getElem hjl, List.foldl_append]; rfl
    have hv : nm32 ((wds (p + 1)).take j) < 2 ^ 40 := Nat.lt_of_lt_of_le (nm32_b (nmk_take ⟨w1, w3⟩ j)) (by decide)
    generalize (wds (p + 1))[j] = z at *
    have e1 : (ii ((96 + z : Nat) : Int) - 97 + 1).toInt64 = jj (z : Nat) := by
      rw [show (97 : Int32) = ii 97 from rfl, k1, ii_sub, ii_add, ii_jj (by omega) (by omega)]; congr 1; omega
    have e2 : ii (j : Int) + Int32.ofInt 1 = ii ((j + 1 : Nat) : Int) := by rw [show Int32.ofInt 1 = ii 1 from rfl, ii_add]; rfl
    unfold s_X8_isWord_L5
    rw [hl, if_neg (by rw [ii_le (by omega) (by omega) (by omega) (by omega)]; omega), hc, bd1_some, bnd_def, bnd_def, e1, e2, shl5 hv hm.2, ← et]
    exact ih (j + 1) M (by omega) (by omega)
theorem x_isWord (hF : 3000 ≤ F) (hX : XRD S a tp i f) (hok : ∀ c, c ∈ tp → tpok c) {p : Nat} (hp : p < 20) : s_X8_isWord F a (p + 1) S = some (b2 (decide (tkW tp i = wds (p + 1)))) := by
  obtain ⟨w1, w2, w3⟩ := wds_ok ⟨p, hp⟩
  have w1 : (wds (p + 1)).length ≤ 8 := w1
  have h := x_isWord_loop (F := F) (a := a) (S := S) (s_X8_isWord_J37 F) hp (wds (p + 1)).length 0 F (by omega) (by omega)
  rw [List.take_zero] at h
  have h0 : s_X8_isWord_L5 F (s_X8_isWord_J37 F) F a (p + 1) 0 0 S = s_X8_isWord_J37 F a (jj (nm32 (wds (p + 1)))) S := h
  have hb := tWhat_b hok (pt tp i)
  have c1 : (ii (tWhat tp (pt tp i) : Int) = (1 : Int32)) = (tWhat tp (pt tp i) = 1) := by rw [k1, ii_eq (by omega) (by omega) (by omega) (by omega)]; apply propext; omega
  unfold s_X8_isWord
  rw [h0]
  unfold s_X8_isWord_J37
  rw [hX.2.2.1]
  simp only [c1]
  by_cases w : tWhat tp (pt tp i) = 1
  · have ek : tkW tp i = wl tp (tQ0 tp (pt tp i)) (tW tp (pt tp i)) := if_pos w
    have hk := tkW_ok tp i
    rw [if_pos w, hX.2.2.2.1 w, ← ek]
    simp only [cw32 hk (⟨w1, w3⟩ : nmk (wds (p + 1)))]
    by_cases q : tkW tp i = wds (p + 1)
    · rw [if_pos q, decide_eq_true q]; rfl
    · rw [if_neg q, decide_eq_false q]; rfl
  · have ek : tkW tp i = [] := if_neg w
    rw [if_neg w, ek, decide_eq_false (fun q => w2 q.symm)]; rfl
end XISW
end
section
section YISW
variable {N2 : Nat → Nat} {F m : Nat} {S2 : HS} {B : Nat → Nat} {tp : List Nat} {n i f : Nat}
theorem sO_1 {tp : List Nat} {p : Nat} : (ii (sO tp p : Int) = (1 : Int32)) = (tWhat tp p = 1) := by
  have h : sO tp p < 5 := by unfold sO ySo; split; omega; split; omega; split; omega; split <;> omega
  rw [k1, ii_eq (by omega) (by omega) (by omega) (by omega)]
  apply propext
  unfold sO ySo at *
  constructor
  · intro q; split at q; omega; split at q; assumption; split at q; omega; split at q <;> omega
  · intro q; rw [q]; decide
theorem sO_0 {tp : List Nat} {p : Nat} : (ii (sO tp p : Int) = (0 : Int32)) = (tWhat tp p = 0) := by
  have h : sO tp p < 5 := by unfold sO ySo; split; omega; split; omega; split; omega; split <;> omega
  rw [k0, ii_eq (by omega) (by omega) (by omega) (by omega)]
  apply propext
  unfold sO ySo at *
  constructor
  · intro q; split at q; assumption; split at q; omega; split at q; omega; split at q <;> omega
  · intro q; rw [q]; decide
/- the model's words lie in its row -/
def WR (S : HS) (B : Nat → Nat) : Prop := ∀ (i v : Nat), words37[i]? = some v → aJ S (B 4) i = jj v
theorem y_isWord_f (hY : YRD S2 m B tp n i f) (hf : f < 100000) (h0 : f ≠ 0) (w : Int32) : s_X12_isWord N2 m w S2 = some 0 := by
  have c0 : (ii (f : Int) = (0 : Int32)) = (f = 0) := by rw [k0, ii_eq (by omega) (by omega) (by omega) (by omega)]; apply propext; omega
  unfold s_X12_isWord
  rw [hY.2.2.2.2.2.2.2]
  simp only [c0]
  rw [if_neg h0]
theorem y_isWord (hL : YLAY N2 S2.2.2.1 m B) (hw : WR S2 B) (hY : YRD S2 m B tp n i 0) (hlen : tp.length ≤ 1000) {w : Nat} (hw20 : w < 20) : s_X12_isWord N2 m (ii w) S2 = some (b2 (decide (tkW tp i = mds.getD w []))) := by
  obtain ⟨a1, a2, a3, a4, a5, ⟨a6, a7, a8⟩, a9, a10, a11, a12, a13⟩ := y_at hL hY hlen
  have r4 : gR S2 1209 m = some (B 4) := hL.1.2.2.2.2.1
  have n4 : N2 (B 4) = 20 := hL.2.2.1.2.2.2.2.1
  have hm := mds_ok ⟨w, hw20⟩
  have hmw : words37[w]? = some (nm37 (mds.getD w [])) := mds_w ⟨w, hw20⟩
  unfold s_X12_isWord
  rw [a5, if_pos (show (ii ((0 : Nat) : Int) = (0 : Int32)) from rfl), a1, bd1_some, a4, if_pos a6, a9, a10]
  simp only [sO_1]
  by_cases q1 : tWhat tp (pt tp i) = 1
  · have ek : tkW tp i = wl tp (tQ0 tp (pt tp i)) (tW tp (pt tp i)) := if_pos q1
    have ev : yVa tp (pt tp i) = nm37 (tkW tp i) := by unfold yVa; rw [if_pos q1, ek]
    rw [if_pos q1, a3, bd1_some, if_pos a8, r4, bd1_some, if_pos (by rw [n4]; exact in_of (z := w) rfl (by omega) (by decide)), cl_of (z := w) rfl (by omega), a12 (by omega) (by omega), hw w _ hmw, ev]
    simp only [cw37 (tkW_ok tp i) hm.1]
    by_cases q : tkW tp i = mds.getD w []
    · rw [if_pos q, decide_eq_true q]; rfl
    · rw [if_neg q, decide_eq_false q]; rfl
  · have ek : tkW tp i = [] := if_neg q1
    rw [if_neg q1, ek, decide_eq_false (fun q => hm.2 q.symm)]; rfl
/- which one of the words from here on, the last one that is it -/
def wHr (w : List Nat) (q : Nat) : Nat → Int
  | 0 => -1
  | k + 1 => if w = mds.getD (q + k) [] then (k : Int) else wHr w q k
theorem wHr_b (w : List Nat) (q : Nat) : ∀ k, -1 ≤ wHr w q k ∧ wHr w q k < k
  | 0 => ⟨Int.le_refl _, by show (-1 : Int) < 0; decide⟩
  | k + 1 => by
    have := wHr_b w q k
    show -1 ≤ (if w = mds.getD (q + k) [] then (k : Int) else wHr w q k) ∧ (if w = mds.getD (q + k) [] then (k : Int) else wHr w q k) < ((k + 1 : Nat) : Int)
    split <;> omega
theorem wHr_n (w : List Nat) (q : Nat) : ∀ k, (∀ j, j < k → w ≠ mds.getD (q + j) []) → wHr w q k = -1
  | 0, _ => rfl
  | k + 1, h => by
    show (if w = mds.getD (q + k) [] then (k : Int) else wHr w q k) = -1
    rw [if_neg (h k (by omega))]
    exact wHr_n w q k (fun j hj => h j (by omega))
theorem y_wordHere (hF : 3000 ≤ F) (hL : YLAY N2 S2.2.2.1 m B) (hw : WR S2 B) (hY : YRD S2 m B tp n i 0) (hlen : tp.length ≤ 1000) {q many : Nat} (hq : q + many ≤ 20) : s_X12_wordHere N2 F m (ii q) (ii many) S2 = some (ii (wHr (tkW tp i) q many)) := by
  have loop : ∀ (d k M : Nat), k + d = many → d < M → s_X12_wordHere_L5 N2 F M m (ii q) (ii many) (ii (wHr (tkW tp i) q k)) (ii k) S2 = some (ii (wHr (tkW tp i) q many)) := by
    intro d
    induction d with
    | zero =>
      intro k M hk hM
      obtain ⟨M, rfl⟩ : ∃ w, M = w + 1 := ⟨M - 1, by omega⟩
      have : k = many := by omega
      subst this
      unfold s_X12_wordHere_L5
      rw [if_pos (by rw [ii_le (by omega) (by omega) (by omega) (by omega)]; omega)]
    | succ d ih =>
      intro k M hk hM
      obtain ⟨M, rfl⟩ : ∃ w, M = w + 1 := ⟨M - 1, by omega⟩
      have e1 : ii (q : Int) + ii (k : Int) = ii ((q + k : Nat) : Int) := by rw [ii_add]; rfl
      have e2 : ii (k : Int) + Int32.ofInt 1 = ii ((k + 1 : Nat) : Int) := by rw [show Int32.ofInt 1 = ii 1 from rfl, ii_add]; rfl
      have h1 := ih (k + 1) M (by omega) (by omega)
      have e3 : wHr (tkW tp i) q (k + 1) = if tkW tp i = mds.getD (q + k) [] then (k : Int) else wHr (tkW tp i) q k := rfl
      unfold s_X12_wordHere_L5 s_X12_wordHere_J28
      rw [if_neg (by rw [ii_le (by omega) (by omega) (by omega) (by omega)]; omega), e1, y_isWord hL hw hY hlen (by omega), bd1_some, bnd_def, bnd_def, e2]
      simp only [b2_0]
      by_cases w : tkW tp i = mds.getD (q + k) []
      · rw [if_pos w] at e3
        rw [if_neg (by rw [decide_eq_true w]; decide), ← e3]; exact h1
      · rw [if_neg w] at e3
        rw [if_pos (decide_eq_false w), ← e3]; exact h1
  exact loop many 0 F (by omega) (by omega)
/- whether letters make a name -/
def nmB (w : List Nat) : Bool := decide (w ≠ []) && decide (wHr w 0 16 < 0)
theorem y_isName (hF : 3000 ≤ F) (hL : YLAY N2 S2.2.2.1 m B) (hw : WR S2 B) (hY : YRD S2 m B tp n i 0) (hlen : tp.length ≤ 1000) : s_X12_isName N2 F m S2 = some (b2 (nmB (tkW tp i))) := by
  obtain ⟨a1, a2, a3, a4, a5, ⟨a6, a7, a8⟩, a9, a10, a11, a12, a13⟩ := y_at hL hY hlen
  have hwh : s_X12_wordHere N2 F m 0 16 S2 = some (ii (wHr (tkW tp i) 0 16)) := y_wordHere (q := 0) (many := 16) hF hL hw hY hlen (by omega)
  have hb := wHr_b (tkW tp i) 0 16
  unfold s_X12_isName nmB
  rw [a5, if_pos (show (ii ((0 : Nat) : Int) = (0 : Int32)) from rfl), a1, bd1_some, a4, if_pos a6, a9, a10, hwh, bd1_some]
  simp only [sO_1]
  by_cases q1 : tWhat tp (pt tp i) = 1
  · rw [if_pos q1, decide_eq_true ((tkW_ne tp i).mpr q1)]
    generalize wHr (tkW tp i) 0 16 = z at *
    have c : ((0 : Int32) ≤ ii z) = (0 ≤ z) := by rw [k0, ii_le (by omega) (by omega) (by omega) (by omega)]
    simp only [c]
    by_cases q2 : 0 ≤ z
    · rw [if_pos q2, decide_eq_false (show ¬ z < 0 by omega)]; rfl
    · rw [if_neg q2, decide_eq_true (show z < 0 by omega)]; rfl
  · rw [if_neg q1, decide_eq_false (fun q => q1 ((tkW_ne tp i).mp q))]; rfl
end YISW
section XNAME
variable {F a : Nat} {S : HS} {tp : List Nat} {i f : Nat}
def pmW : List Nat := [1, 8, 9, 2, 3, 4, 5, 6, 7, 13, 14, 15, 16, 10, 11, 12, 17, 18, 19, 20]
theorem mds_wds : ∀ j : Fin 20, mds.getD j.val [] = wds (pmW.getD j.val 0) ∧ 1 ≤ pmW.getD j.val 0 ∧ pmW.getD j.val 0 ≤ 20 ∧ (j.val < 16 → pmW.getD j.val 0 ≤ 16) := by decide +kernel
theorem nmB_wds : ∀ p : Fin 16, nmB (wds (p.val + 1)) = false := by decide +kernel
theorem x_isName (hF : 3000 ≤ F) (hX : XRD S a tp i f) (hok : ∀ c, c ∈ tp → tpok c) : s_X8_isName F a S = some (b2 (nmB (tkW tp i))) := by
  have h1 : s_X8_isWord F a 1 S = some (b2 (decide (tkW tp i = wds 1))) := x_isWord hF hX hok (p := 0) (by omega)
  have h2 : s_X8_isWord F a 2 S = some (b2 (decide (tkW tp i = wds 2))) := x_isWord hF hX hok (p := 1) (by omega)
  have h3 : s_X8_isWord F a 3 S = some (b2 (decide (tkW tp i = wds 3))) := x_isWord hF hX hok (p := 2) (by omega)
  have h4 : s_X8_isWord F a 4 S = some (b2 (decide (tkW tp i = wds 4))) := x_isWord hF hX hok (p := 3) (by omega)
  have h5 : s_X8_isWord F a 5 S = some (b2 (decide (tkW tp i = wds 5))) := x_isWord hF hX hok (p := 4) (by omega)
  have h6 : s_X8_isWord F a 6 S = some (b2 (decide (tkW tp i = wds 6))) := x_isWord hF hX hok (p := 5) (by omega)
  have h7 : s_X8_isWord F a 7 S = some (b2 (decide (tkW tp i = wds 7))) := x_isWord hF hX hok (p := 6) (by omega)
  have h8 : s_X8_isWord F a 8 S = some (b2 (decide (tkW tp i = wds 8))) := x_isWord hF hX hok (p := 7) (by omega)
  have h9 : s_X8_isWord F a 9 S = some (b2 (decide (tkW tp i = wds 9))) := x_isWord hF hX hok (p := 8) (by omega)
  have h10 : s_X8_isWord F a 10 S = some (b2 (decide (tkW tp i = wds 10))) := x_isWord hF hX hok (p := 9) (by omega)
  have h11 : s_X8_isWord F a 11 S = some (b2 (decide (tkW tp i = wds 11))) := x_isWord hF hX hok (p := 10) (by omega)
  have h12 : s_X8_isWord F a 12 S = some (b2 (decide (tkW tp i = wds 12))) := x_isWord hF hX hok (p := 11) (by omega)
  have h13 : s_X8_isWord F a 13 S = some (b2 (decide (tkW tp i = wds 13))) := x_isWord hF hX hok (p := 12) (by omega)
  have h14 : s_X8_isWord F a 14 S = some (b2 (decide (tkW tp i = wds 14))) := x_isWord hF hX hok (p := 13) (by omega)
  have h15 : s_X8_isWord F a 15 S = some (b2 (decide (tkW tp i = wds 15))) := x_isWord hF hX hok (p := 14) (by omega)
  have h16 : s_X8_isWord F a 16 S = some (b2 (decide (tkW tp i = wds 16))) := x_isWord hF hX hok (p := 15) (by omega)
  have hb := tWhat_b hok (pt tp i)
  have hne := tkW_ne tp i
  have c1 : (ii (tWhat tp (pt tp i) : Int) = (1 : Int32)) = (tkW tp i ≠ []) := by rw [k1, ii_eq (by omega) (by omega) (by omega) (by omega)]; apply propext; rw [hne]; omega
  unfold s_X8_isName s_X8_isWordOfLines s_X8_isWordWithin s_X8_kindNamed
  rw [hX.2.2.1]
  simp only [c1, h1, h2, h3, h8, h9, h10, h11, h12, h13, h14, h15, h16, bd1_some, b2_0]
  unfold s_X8_isWordOfLines_J32
  simp only [h4, h5, h6, h7, bd1_some, b2_0]
  generalize tkW tp i = W at *
  clear h1 h2 h3 h4 h5 h6 h7 h8 h9 h10 h11 h12 h13 h14 h15 h16 hne c1
  by_cases q1 : W = wds 1
  · subst q1; decide +kernel
  by_cases q2 : W = wds 2
  · subst q2; decide +kernel
  by_cases q3 : W = wds 3
  · subst q3; decide +kernel
  by_cases q4 : W = wds 4
  · subst q4; decide +kernel
  by_cases q5 : W = wds 5
  · subst q5; decide +kernel
  by_cases q6 : W = wds 6
  · subst q6; decide +kernel
  by_cases q7 : W = wds 7
  · subst q7; decide +kernel
  by_cases q8 : W = wds 8
  · subst q8; decide +kernel
  by_cases q9 : W = wds 9
  · subst q9; decide +kernel
  by_cases q10 : W = wds 10
  · subst q10; decide +kernel
  by_cases q11 : W = wds 11
  · subst q11; decide +kernel
  by_cases q12 : W = wds 12
  · subst q12; decide +kernel
  by_cases q13 : W = wds 13
  · subst q13; decide +kernel
  by_cases q14 : W = wds 14
  · subst q14; decide +kernel
  by_cases q15 : W = wds 15
  · subst q15; decide +kernel
  by_cases q16 : W = wds 16
  · subst q16; decide +kernel
  have hall : ∀ p, 1 ≤ p → p ≤ 16 → W ≠ wds p := by
    intro p p1 p2
    have : p = 1 ∨ p = 2 ∨ p = 3 ∨ p = 4 ∨ p = 5 ∨ p = 6 ∨ p = 7 ∨ p = 8 ∨ p = 9 ∨ p = 10 ∨ p = 11 ∨ p = 12 ∨ p = 13 ∨ p = 14 ∨ p = 15 ∨ p = 16 := by omega
    rcases this with r | r | r | r | r | r | r | r | r | r | r | r | r | r | r | r <;> subst r <;> assumption
  have hz : wHr W 0 16 = -1 := wHr_n W 0 16 (fun j hj => by
    obtain ⟨z1, z2, z3, z4⟩ := mds_wds ⟨j, by omega⟩
    rw [Nat.zero_add]
    have z1 : mds.getD j [] = wds (pmW.getD j 0) := z1
    rw [z1]; exact hall _ z2 (z4 hj))
  unfold nmB
  rw [hz, decide_eq_true (show (-1 : Int) < 0 by decide), Bool.and_true]
  simp only [decide_eq_false q1, decide_eq_false q2, decide_eq_false q3, decide_eq_false q4, decide_eq_false q5, decide_eq_false q6, decide_eq_false q7, decide_eq_false q8, decide_eq_false q9, decide_eq_false q10, decide_eq_false q11, decide_eq_false q12, decide_eq_false q13, decide_eq_false q14, decide_eq_false q15, decide_eq_false q16, if_true, eq_self, bd1_some]
  by_cases q : W = []
  · rw [if_neg (fun r => r q), decide_eq_false (fun r => r q)]; rfl
  · rw [if_pos q, decide_eq_true (show W ≠ [] from q)]; rfl
/- which one of four words from here on -/
def ix4 (p : Nat) (w : List Nat) : Int := if w = wds p then 0 else if w = wds (p + 1) then 1 else if w = wds (p + 2) then 2 else if w = wds (p + 3) then 3 else -1
theorem ix4_b (p : Nat) (w : List Nat) : -1 ≤ ix4 p w ∧ ix4 p w < 4 := by
  unfold ix4
  split; omega; split; omega; split; omega; split <;> omega
theorem ix4_w (w : List Nat) : ix4 4 w = wHr w 5 4 ∧ ix4 13 w = wHr w 9 4 ∧ ix4 17 w = wHr w 16 4 := by
  have go : ∀ p q : Nat, (∀ j : Fin 4, mds.getD (q + j.val) [] = wds (p + j.val)) → (∀ j : Fin 4, wHr (wds (p + j.val)) q 4 = (j.val : Int)) → ix4 p w = wHr w q 4 := by
    intro p q h1 h2
    unfold ix4
    by_cases q0 : w = wds p
    · rw [if_pos q0, q0]; exact (h2 0).symm
    by_cases q1 : w = wds (p + 1)
    · rw [if_neg q0, if_pos q1, q1]; exact (h2 1).symm
    by_cases q2 : w = wds (p + 2)
    · rw [if_neg q0, if_neg q1, if_pos q2, q2]; exact (h2 2).symm
    by_cases q3 : w = wds (p + 3)
    · rw [if_neg q0, if_neg q1, if_neg q2, if_pos q3, q3]; exact (h2 3).symm
    rw [if_neg q0, if_neg q1, if_neg q2, if_neg q3, wHr_n w q 4 (fun j hj => ?_)]
    have : j = 0 ∨ j = 1 ∨ j = 2 ∨ j = 3 := by omega
    rcases this with r | r | r | r <;> subst r
    · exact fun e => q0 (e.trans (h1 0))
    · exact fun e => q1 (e.trans (h1 1))
    · exact fun e => q2 (e.trans (h1 2))
    · exact fun e => q3 (e.trans (h1 3))
  exact ⟨go 4 5 (by decide +kernel) (by decide +kernel), go 13 9 (by decide +kernel) (by decide +kernel), go 17 16 (by decide +kernel) (by decide +kernel)⟩
theorem x_ix4 (W : List Nat) (p : Nat) : (if decide (W = wds p) = false then (if decide (W = wds (p + 1)) = false then (if decide (W = wds (p + 2)) = false then (if decide (W = wds (p + 3)) = false then some (-1 : Int32) else some 3) else some 2) else some 1) else some 0) = some (ii (ix4 p W)) := by
  unfold ix4
  by_cases q0 : W = wds p
  · rw [decide_eq_true q0, if_pos q0]; rfl
  by_cases q1 : W = wds (p + 1)
  · rw [decide_eq_false q0, decide_eq_true q1, if_neg q0, if_pos q1]; rfl
  by_cases q2 : W = wds (p + 2)
  · rw [decide_eq_false q0, decide_eq_false q1, decide_eq_true q2, if_neg q0, if_neg q1, if_pos q2]; rfl
  by_cases q3 : W = wds (p + 3)
  · rw [decide_eq_false q0, decide_eq_false q1, decide_eq_false q2, decide_eq_true q3, if_neg q0, if_neg q1, if_neg q2, if_pos q3]; rfl
  rw [decide_eq_false q0, decide_eq_false q1, decide_eq_false q2, decide_eq_false q3, if_neg q0, if_neg q1, if_neg q2, if_neg q3]; rfl
theorem x_kindNamed (hF : 3000 ≤ F) (hX : XRD S a tp i f) (hok : ∀ c, c ∈ tp → tpok c) : s_X8_kindNamed F a S = some (ii (ix4 13 (tkW tp i))) := by
  have h13 : s_X8_isWord F a 13 S = some (b2 (decide (tkW tp i = wds 13))) := x_isWord hF hX hok (p := 12) (by omega)
  have h14 : s_X8_isWord F a 14 S = some (b2 (decide (tkW tp i = wds 14))) := x_isWord hF hX hok (p := 13) (by omega)
  have h15 : s_X8_isWord F a 15 S = some (b2 (decide (tkW tp i = wds 15))) := x_isWord hF hX hok (p := 14) (by omega)
  have h16 : s_X8_isWord F a 16 S = some (b2 (decide (tkW tp i = wds 16))) := x_isWord hF hX hok (p := 15) (by omega)
  unfold s_X8_kindNamed
  simp only [h13, h14, h15, h16, bd1_some, b2_0]
  exact x_ix4 _ 13
theorem x_lineWord (hF : 3000 ≤ F) (hX : XRD S a tp i f) (hok : ∀ c, c ∈ tp → tpok c) {q : Nat} (hq : gR S 600 q = some a) : s_X6_lineWord F q S = some (ii (ix4 4 (tkW tp i))) := by
  have h4 : s_X8_isWord F a 4 S = some (b2 (decide (tkW tp i = wds 4))) := x_isWord hF hX hok (p := 3) (by omega)
  have h5 : s_X8_isWord F a 5 S = some (b2 (decide (tkW tp i = wds 5))) := x_isWord hF hX hok (p := 4) (by omega)
  have h6 : s_X8_isWord F a 6 S = some (b2 (decide (tkW tp i = wds 6))) := x_isWord hF hX hok (p := 5) (by omega)
  have h7 : s_X8_isWord F a 7 S = some (b2 (decide (tkW tp i = wds 7))) := x_isWord hF hX hok (p := 6) (by omega)
  unfold s_X6_lineWord
  simp only [hq, h4, h5, h6, h7, bd1_some, b2_0]
  exact x_ix4 _ 4
theorem x_factNamed (hF : 3000 ≤ F) (hX : XRD S a tp i f) (hok : ∀ c, c ∈ tp → tpok c) {q : Nat} (hq : gR S 300 q = some a) : s_X3_factNamed F q S = some (ii (ix4 17 (tkW tp i))) := by
  have h4 : s_X8_isWord F a 17 S = some (b2 (decide (tkW tp i = wds 17))) := x_isWord hF hX hok (p := 16) (by omega)
  have h5 : s_X8_isWord F a 18 S = some (b2 (decide (tkW tp i = wds 18))) := x_isWord hF hX hok (p := 17) (by omega)
  have h6 : s_X8_isWord F a 19 S = some (b2 (decide (tkW tp i = wds 19))) := x_isWord hF hX hok (p := 18) (by omega)
  have h7 : s_X8_isWord F a 20 S = some (b2 (decide (tkW tp i = wds 20))) := x_isWord hF hX hok (p := 19) (by omega)
  unfold s_X3_factNamed
  simp only [hq, h4, h5, h6, h7, bd1_some, b2_0]
  exact x_ix4 _ 17
end XNAME
end
section
/- the class's reader stands at token i; behind a fault it may stand elsewhere -/
def XR (S : HS) (a : Nat) (tp : List Nat) (i f : Nat) : Prop := ∃ j, XRD S a tp j f ∧ (f = 0 → j = i)
/- both readers -/
def JR (N N2 : Nat → Nat) (a r m : Nat) (B : Nat → Nat) (tp : List Nat) (n : Nat) (S S2 : HS) (i f : Nat) : Prop :=
  TPE N S a r tp ∧ XR S a tp i f ∧ YLAY N2 S2.2.2.1 m B ∧ WR S2 B ∧ YRD S2 m B tp n i f ∧ f < 100000
def JS (N N2 : Nat → Nat) (a r m : Nat) (B : Nat → Nat) (tp : List Nat) (n : Nat) (S S2 : HS) (i f : Nat) (S' S2' : HS) (i' f' : Nat) : Prop :=
  RDB a S S' ∧ YBF m S2 S2' ∧ JR N N2 a r m B tp n S' S2' i' f' ∧ i ≤ i' ∧ (f ≠ 0 → f' = f)
theorem bl_f {f k p : Nat} (h : f ≠ 0) : bl f k p = f := by unfold bl; rw [if_neg h]
theorem bl_0 {k p : Nat} : bl 0 k p = k + 16 * p := by unfold bl; rw [if_pos rfl]
section JRS
variable {N N2 : Nat → Nat} {F : Nat} {S S2 S' S2' S'' S2'' : HS} {a r m : Nat} {B : Nat → Nat} {tp : List Nat} {n i f i' f' i'' f'' : Nat}
theorem JR.mk2 (h : JR N N2 a r m B tp n S S2 i f) (h1 : RDB a S S') (h2 : YBF m S2 S2') (h3 : XR S' a tp i' f') (h4 : YRD S2' m B tp n i' f') (h5 : f' < 100000) : JR N N2 a r m B tp n S' S2' i' f' := by
  obtain ⟨a1, a2, a3, a4, a5, a6⟩ := h
  exact ⟨a1.rb h1, h3, by rw [h2.2]; exact a3, fun i v q => by have e : aJ S2' (B 4) = aJ S2 (B 4) := (by unfold aJ; rw [h2.2]); rw [e]; exact a4 i v q, h4, h5⟩
theorem JS.trans (h1 : JS N N2 a r m B tp n S S2 i f S' S2' i' f') (h2 : JS N N2 a r m B tp n S' S2' i' f' S'' S2'' i'' f'') : JS N N2 a r m B tp n S S2 i f S'' S2'' i'' f'' := by
  obtain ⟨a1, a2, a3, a4, a5⟩ := h1
  obtain ⟨b1, b2', b3, b4, b5⟩ := h2
  exact ⟨a1.trans b1, a2.trans b2', b3, Nat.le_trans a4 b4, fun q => by have := a5 q; rw [b5 (by omega), this]⟩
theorem JR.refl (h : JR N N2 a r m B tp n S S2 i f) : JS N N2 a r m B tp n S S2 i f S S2 i f := ⟨RDB.refl _ _, YBF.refl _ _, h, Nat.le_refl _, fun _ => rfl⟩
theorem JR.x0 (h : JR N N2 a r m B tp n S S2 i 0) : XRD S a tp i 0 := by
  obtain ⟨j, j1, j2⟩ := h.2.1
  rw [← j2 rfl]; exact j1
theorem xr_fault (h : XR S a tp i f) : gI S 807 a = ii f := by
  obtain ⟨j, j1, _⟩ := h
  exact j1.2.2.2.2.2
theorem xr_right (h : XR S a tp i f) (hf : f < 100000) : s_X8_isRight a S = b2 (decide (f = 0)) := by
  have c0 : (ii (f : Int) = (0 : Int32)) = (f = 0) := by rw [k0, ii_eq (by omega) (by omega) (by omega) (by omega)]; apply propext; omega
  unfold s_X8_isRight
  rw [xr_fault h]
  simp only [c0]
  by_cases w : f = 0
  · rw [if_pos w, decide_eq_true w]; rfl
  · rw [if_neg w, decide_eq_false w]; rfl
theorem xr_blame {k : Nat} (h : XR S a tp i f) (hf : f < 100000) : RDB a S (s_X8_blame a (ii k) S) ∧ XR (s_X8_blame a (ii k) S) a tp i (bl f k (tQ0 tp (pt tp i))) := by
  obtain ⟨j, j1, j2⟩ := h
  obtain ⟨x1, x2⟩ := x_blame (k := k) j1 hf
  refine ⟨x1, j, ?_, fun q => ?_⟩
  · by_cases w : f = 0
    · rw [← j2 w]; exact x2
    · rw [bl_f w] at x2 ⊢; exact x2
  · by_cases w : f = 0
    · exact j2 w
    · rw [bl_f w] at q; exact absurd q w
/- both blame -/
theorem j_wrong {k : Nat} (hk : k < 10) (h : JR N N2 a r m B tp n S S2 i f) : ∃ S2', s_X12_wrong N2 m (ii k) S2 = some S2' ∧ JS N N2 a r m B tp n S S2 i f (s_X8_blame a (ii k) S) S2' i (bl f k (tQ0 tp (pt tp i))) := by
  obtain ⟨a1, a2, a3, a4, a5, a6⟩ := h
  have hlen := a1.2.2.2.1
  have hq := tQ0_le tp (pt_le tp i)
  obtain ⟨x1, x2⟩ := xr_blame (k := k) a2 a6
  obtain ⟨S4, y1, y2, y3, y4⟩ := y_wrong (k := k) a3 a5 hlen a6
  have yb : YBF m S2 S4 := ⟨fun g p q => y3 g p (fun r => q ⟨r.1, Or.inr r.2⟩), y4⟩
  have hb : bl f k (tQ0 tp (pt tp i)) < 100000 := by unfold bl; split <;> omega
  exact ⟨S4, y1, x1, yb, JR.mk2 ⟨a1, a2, a3, a4, a5, a6⟩ x1 yb x2 y2 hb, Nat.le_refl _, fun q => bl_f q⟩
/- both go on, where no fault is and no end -/
theorem j_next (hF : 3000 ≤ F) (h : JR N N2 a r m B tp n S S2 i 0) (hi : i < n) : ∃ S', s_X8_advance N F a S = some S' ∧ JS N N2 a r m B tp n S S2 i 0 S' (uI S2 1207 m (ii i + 1)) (i + 1) 0 := by
  obtain ⟨S3, s1, s2, s3⟩ := x_next (F := F) hF h.1 h.x0
  obtain ⟨n1, n2⟩ := y_next h.2.2.2.2.1 hi
  exact ⟨S3, s1, s2, n2, h.mk2 s2 n2 ⟨i + 1, s3, fun _ => rfl⟩ n1 (by omega), by omega, fun q => absurd rfl q⟩
/- the model stays where it is -/
theorem y_stay (h : JR N N2 a r m B tp n S S2 i f) : JS N N2 a r m B tp n S S2 i f S (uI S2 1207 m (ii i + 0)) i f := by
  have hY := h.2.2.2.2.1
  obtain ⟨h1, h2, h3, h4, h5, h6, h7, h8⟩ := hY
  have e0 : ii (i : Int) + 0 = ii (i : Int) := by rw [k0, ii_add, Int.add_zero]
  have yb : YBF m S2 (uI S2 1207 m (ii i + 0)) := ⟨fun g p q => by rw [gI_uI, if_neg (fun r => q ⟨r.2, Or.inl r.1⟩)], rfl⟩
  exact ⟨RDB.refl _ _, yb, h.mk2 (RDB.refl _ _) yb h.2.1 ⟨h1, h2, h3, h4, h5, h6, by rw [gI_uI, if_pos ⟨rfl, rfl⟩]; exact e0, by rw [gI_uI, if_neg (by omega)]; exact h8⟩ h.2.2.2.2.2, Nat.le_refl _, fun _ => rfl⟩
theorem JR.lt (h : JR N N2 a r m B tp n S S2 i f) (hw : tWhat tp (pt tp i) ≠ 0) : i < n := by
  have h1 := (y_at h.2.2.1 h.2.2.2.2.1 h.1.2.2.2.1).2.2.2.2.2.2.2.2.2.2
  have h2 := h.2.2.2.2.1.2.1
  have : i ≠ n := fun q => hw (h1.mpr q)
  omega
theorem JR.end (h : JR N N2 a r m B tp n S S2 i f) : tWhat tp (pt tp i) = 0 ↔ i = n := (y_at h.2.2.1 h.2.2.2.2.1 h.1.2.2.2.1).2.2.2.2.2.2.2.2.2.2
theorem c_f0 (h : JR N N2 a r m B tp n S S2 i f) : (ii (f : Int) = (0 : Int32)) = (f = 0) ∧ (ii (f : Int) ≤ (0 : Int32)) = (f = 0) := by
  have := h.2.2.2.2.2
  refine ⟨?_, ?_⟩
  · rw [k0, ii_eq (by omega) (by omega) (by omega) (by omega)]; apply propext; omega
  · rw [k0, ii_le (by omega) (by omega) (by omega) (by omega)]; apply propext; omega
theorem JR.yf (h : JR N N2 a r m B tp n S S2 i f) : gI S2 1208 m = ii f ∧ gI S2 1207 m = ii i := ⟨h.2.2.2.2.1.2.2.2.2.2.2.2, h.2.2.2.2.1.2.2.2.2.2.2.1⟩
/- a sign -/
theorem t_sign (hF : 3000 ≤ F) (h : JR N N2 a r m B tp n S S2 i f) {c : Nat} (hc : 40 ≤ c) (hc2 : c < 127) : ∃ S' S2' i' f', s_X8_passSign N F a (ii c) S = some S' ∧ s_X12_takeSign N2 m (ii c) S2 = some S2' ∧ JS N N2 a r m B tp n S S2 i f S' S2' i' f' := by
  by_cases w : f = 0
  · subst w
    obtain ⟨S', S2', i', f', s1, s2, s3, s4, s5, s6, s7, s8, hi⟩ := j_sign (F := F) hF h.1 h.x0 h.2.2.1 h.2.2.2.2.1 (by omega) hc hc2
    exact ⟨S', S2', i', f', s1, s2, s3, s4, h.mk2 s3 s4 ⟨i', s5, fun _ => rfl⟩ s6 s7, hi, fun q => absurd rfl q⟩
  · have hr := xr_right h.2.1 h.2.2.2.2.2
    obtain ⟨S4, y1, y2⟩ := j_wrong (k := 1) (by omega) h
    have y1' : s_X12_wrong N2 m 1 S2 = some S4 := y1
    rw [decide_eq_false w] at hr
    unfold s_X8_passSign s_X8_passSign_J22 s_X12_takeSign s_X12_isSign
    rw [hr, if_pos (show b2 false = (0 : Int32) by decide), bnd_def, h.yf.1]
    simp only [(c_f0 h).1]
    rw [if_neg w, bd1_some, if_pos rfl, y1', bd1_some]
    exact ⟨_, S4, i, _, rfl, rfl, y2⟩
/- a word -/
theorem t_word (hF : 3000 ≤ F) (h : JR N N2 a r m B tp n S S2 i f) {p w : Nat} (hp : p < 20) (hw : w < 20) (he : mds.getD w [] = wds (p + 1)) : ∃ S' S2' i' f', s_X8_passWord N F a (p + 1) S = some S' ∧ s_X12_takeWord N2 m (ii w) S2 = some S2' ∧ JS N N2 a r m B tp n S S2 i f S' S2' i' f' := by
  have hr := xr_right h.2.1 h.2.2.2.2.2
  obtain ⟨g8, g7⟩ := h.yf
  unfold s_X8_passWord s_X8_passWord_J22 s_X12_takeWord s_X12_hasWord s_X12_hasWord_J20
  rw [hr, g7]
  by_cases q0 : f = 0
  · subst q0
    rw [decide_eq_true rfl, if_neg (show ¬ b2 true = (0 : Int32) by decide), x_isWord hF h.x0 h.1.2.2.2.2.1 hp, y_isWord h.2.2.1 h.2.2.2.1 h.2.2.2.2.1 h.1.2.2.2.1 hw, bd1_some, bd1_some, he]
    by_cases q1 : tkW tp i = wds (p + 1)
    · have h1 : tWhat tp (pt tp i) = 1 := (tkW_ne tp i).mp (by rw [q1]; exact (wds_ok ⟨p, hp⟩).2.1)
      obtain ⟨S', s1, s2⟩ := j_next (F := F) hF h (h.lt (by omega))
      rw [decide_eq_true q1, if_neg (show ¬ b2 true = (0 : Int32) by decide), if_neg (show ¬ b2 true = (0 : Int32) by decide), s1, bd1_some, bnd_def, if_pos (show isZ (b2 true) = true by decide), bd2_some, if_neg (show ¬ b2 true = (0 : Int32) by decide)]
      exact ⟨S', _, i + 1, 0, rfl, rfl, s2⟩
    · have hs := y_stay h
      obtain ⟨S4, y1, y2⟩ := j_wrong (k := 1) (by omega) hs.2.2.1
      have y1' : s_X12_wrong N2 m 1 (uI S2 1207 m (ii (i : Int) + 0)) = some S4 := y1
      rw [decide_eq_false q1, if_pos (show b2 false = (0 : Int32) by decide), if_pos (show b2 false = (0 : Int32) by decide), bnd_def, bnd_def, if_pos (show isZ (b2 false) = true by decide), bd2_some, if_pos (show b2 false = (0 : Int32) by decide), y1', bd1_some]
      exact ⟨_, S4, i, _, rfl, rfl, hs.trans y2⟩
  · have hs := y_stay h
    obtain ⟨S4, y1, y2⟩ := j_wrong (k := 1) (by omega) hs.2.2.1
    have y1' : s_X12_wrong N2 m 1 (uI S2 1207 m (ii (i : Int) + 0)) = some S4 := y1
    rw [decide_eq_false q0, if_pos (show b2 false = (0 : Int32) by decide), bnd_def, y_isWord_f h.2.2.2.2.1 h.2.2.2.2.2 q0, bd1_some, if_pos rfl, bnd_def, if_pos (show isZ (0 : Int32) = true by decide), bd2_some, if_pos rfl, y1', bd1_some]
    exact ⟨_, S4, i, _, rfl, rfl, hs.trans y2⟩
/- a number; the values agree where no fault is left -/
theorem t_num (hF : 3000 ≤ F) (h : JR N N2 a r m B tp n S S2 i f) {lo hi : Nat} (hlo : lo ≤ 10000) (hhi : hi ≤ 10000) :
    ∃ v v' S' S2' i' f', s_X8_passNumber N F a (ii lo) (ii hi) S = some (v, S') ∧ s_X12_takeNumber N2 m (ii lo) (ii hi) S2 = some (v', S2') ∧ JS N N2 a r m B tp n S S2 i f S' S2' i' f' ∧ (f' = 0 → v' = v ∧ ∃ z : Nat, v = ii z ∧ lo ≤ z ∧ z ≤ hi) := by
  by_cases w : f = 0
  · subst w
    obtain ⟨v, v', S', S2', i', f', s1, s2, s3, s4, s5, s6, s7, s8, s9, hi'⟩ := j_num (F := F) hF h.1 h.x0 h.2.2.1 h.2.2.2.2.1 (by omega) hlo hhi
    exact ⟨v, v', S', S2', i', f', s1, s2, ⟨s3, s4, h.mk2 s3 s4 ⟨i', s5, fun _ => rfl⟩ s6 s7, hi', fun q => absurd rfl q⟩, s9⟩
  · have hr := xr_right h.2.1 h.2.2.2.2.2
    obtain ⟨S4, y1, y2⟩ := j_wrong (k := 1) (by omega) h
    have eb : bl f 1 (tQ0 tp (pt tp i)) = f := bl_f w
    rw [eb] at y2
    have hx : JS N N2 a r m B tp n S S2 i f (s_X8_blame a (ii (1 : Nat)) S) S2 i f := ⟨y2.1, YBF.refl _ _, h.mk2 y2.1 (YBF.refl _ _) y2.2.2.1.2.1 h.2.2.2.2.1 h.2.2.2.2.2, Nat.le_refl _, fun _ => rfl⟩
    rw [decide_eq_false w] at hr
    unfold s_X8_passNumber s_X8_passNumber_J15 s_X12_takeNumber s_X12_takeNumber_J28 s_X12_takeNumber_J70
    rw [hr, if_pos (show b2 false = (0 : Int32) by decide), bnd_def, h.yf.1]
    simp only [(c_f0 h).1, (c_f0 h).2]
    rw [if_neg w, if_neg w, if_neg w]
    exact ⟨_, _, _, S2, i, f, rfl, rfl, hx, fun q => absurd q w⟩
end JRS
end
section
/- which one of the names it is, the last one -/
def nFd (nm : Nat → List Nat) (W : List Nat) : Nat → Int
  | 0 => -1
  | k + 1 => if nm k = W then (k : Int) else nFd nm W k
theorem nFd_b (nm : Nat → List Nat) (W : List Nat) : ∀ k, -1 ≤ nFd nm W k ∧ nFd nm W k < k
  | 0 => ⟨Int.le_refl _, by show (-1 : Int) < 0; decide⟩
  | k + 1 => by
    have := nFd_b nm W k
    show -1 ≤ (if nm k = W then (k : Int) else nFd nm W k) ∧ (if nm k = W then (k : Int) else nFd nm W k) < ((k + 1 : Nat) : Int)
    split <;> omega
theorem nFd_n (nm : Nat → List Nat) (W : List Nat) : ∀ k, (∀ j, j < k → nm j ≠ W) → nFd nm W k = -1
  | 0, _ => rfl
  | k + 1, h => by
    show (if nm k = W then (k : Int) else nFd nm W k) = -1
    rw [if_neg (h k (by omega))]
    exact nFd_n nm W k (fun j hj => h j (by omega))
theorem nFd_e (nm : Nat → List Nat) (W : List Nat) : ∀ k j, j < k → nm j = W → (∀ f g, f < k → g < k → nm f = nm g → f = g) → nFd nm W k = j
  | 0, j, h, _, _ => by omega
  | k + 1, j, h, h1, h2 => by
    show (if nm k = W then (k : Int) else nFd nm W k) = j
    by_cases q : nm k = W
    · rw [if_pos q, h2 k j (by omega) h (q.trans h1.symm)]
    · have : j ≠ k := fun r => q (by rw [← r]; exact h1)
      rw [if_neg q]
      exact nFd_e nm W k j (by omega) h1 (fun f g f1 g1 => h2 f g (by omega) (by omega))
/- names of the class's unit at u: so many, in the row ra -/
def NMX (N : Nat → Nat) (S : HS) (u fc fr most : Nat) (nm : Nat → List Nat) (k : Nat) : Prop :=
  gI S fc u = ii k ∧ k ≤ most ∧ (∃ ra, gR S fr u = some ra ∧ N ra = most ∧ ∀ j, j < k → aJ S ra j = jj (nm32 (nm j))) ∧ (∀ j, j < k → nmk (nm j)) ∧ (∀ f g, f < k → g < k → nm f = nm g → f = g)
section NAMED
variable {N : Nat → Nat} {F u : Nat} {S : HS} {nm : Nat → List Nat} {k : Nat}
theorem x_formNamed (hF : 3000 ≤ F) (h : NMX N S u 903 901 4 nm k) (z : Int64) : ∃ v, s_X9_formNamed N F u z S = some v ∧ ∀ W, nmk W → z = jj (nm32 W) → v = ii (nFd nm W k) := by
  obtain ⟨h1, h2, ⟨ra, h3, h4, h5⟩, h6, h7⟩ := h
  have loop : ∀ (d j M : Nat), j + d = k → d < M → (∀ W, nmk W → z = jj (nm32 W) → ∀ q, q < j → nm q ≠ W) → ∃ v, s_X9_formNamed_L2 N F M u z (ii j) S = some v ∧ ∀ W, nmk W → z = jj (nm32 W) → v = ii (nFd nm W k) := by
    intro d
    induction d with
    | zero =>
      intro j M hj hM hn
      obtain ⟨M, rfl⟩ : ∃ w, M = w + 1 := ⟨M - 1, by omega⟩
      unfold s_X9_formNamed_L2
      rw [h1, if_pos (by rw [ii_le (by omega) (by omega) (by omega) (by omega)]; omega)]
      refine ⟨_, rfl, fun W w1 w2 => ?_⟩
      rw [nFd_n nm W k (fun q hq => hn W w1 w2 q (by omega))]; rfl
    | succ d ih =>
      intro j M hj hM hn
      obtain ⟨M, rfl⟩ : ∃ w, M = w + 1 := ⟨M - 1, by omega⟩
      have e2 : ii (j : Int) + Int32.ofInt 1 = ii ((j + 1 : Nat) : Int) := by rw [show Int32.ofInt 1 = ii 1 from rfl, ii_add]; rfl
      unfold s_X9_formNamed_L2
      rw [h1, if_neg (by rw [ii_le (by omega) (by omega) (by omega) (by omega)]; omega), if_neg (by rw [show (4 : Int32) = ii 4 from rfl, ii_le (by omega) (by omega) (by omega) (by omega)]; omega), h3, bd1_some, if_pos (by rw [h4]; exact in_of (z := j) rfl (by omega) (by decide)), cl_of (z := j) rfl (by omega), h5 j (by omega), bnd_def, e2]
      by_cases q : lg_cmp (jj (nm32 (nm j))) z = 0
      · rw [if_pos q]
        refine ⟨_, rfl, fun W w1 w2 => ?_⟩
        rw [w2, cw32 (h6 j (by omega)) w1] at q
        rw [nFd_e nm W k j (by omega) q h7]
      · rw [if_neg q]
        refine ih (j + 1) M (by omega) (by omega) (fun W w1 w2 p hp => ?_)
        by_cases e : p = j
        · subst e
          rw [w2, cw32 (h6 p (by omega)) w1] at q
          exact q
        · exact hn W w1 w2 p (by omega)
  exact loop k 0 F (by omega) (by omega) (fun W _ _ q hq => by omega)
theorem x_registerNamed (hF : 3000 ≤ F) (h : NMX N S u 904 902 6 nm k) (z : Int64) : ∃ v, s_X9_registerNamed N F u z S = some v ∧ ∀ W, nmk W → z = jj (nm32 W) → v = ii (nFd nm W k) := by
  obtain ⟨h1, h2, ⟨ra, h3, h4, h5⟩, h6, h7⟩ := h
  have loop : ∀ (d j M : Nat), j + d = k → d < M → (∀ W, nmk W → z = jj (nm32 W) → ∀ q, q < j → nm q ≠ W) → ∃ v, s_X9_registerNamed_L2 N F M u z (ii j) S = some v ∧ ∀ W, nmk W → z = jj (nm32 W) → v = ii (nFd nm W k) := by
    intro d
    induction d with
    | zero =>
      intro j M hj hM hn
      obtain ⟨M, rfl⟩ : ∃ w, M = w + 1 := ⟨M - 1, by omega⟩
      unfold s_X9_registerNamed_L2
      rw [h1, if_pos (by rw [ii_le (by omega) (by omega) (by omega) (by omega)]; omega)]
      refine ⟨_, rfl, fun W w1 w2 => ?_⟩
      rw [nFd_n nm W k (fun q hq => hn W w1 w2 q (by omega))]; rfl
    | succ d ih =>
      intro j M hj hM hn
      obtain ⟨M, rfl⟩ : ∃ w, M = w + 1 := ⟨M - 1, by omega⟩
      have e2 : ii (j : Int) + Int32.ofInt 1 = ii ((j + 1 : Nat) : Int) := by rw [show Int32.ofInt 1 = ii 1 from rfl, ii_add]; rfl
      unfold s_X9_registerNamed_L2
      rw [h1, if_neg (by rw [ii_le (by omega) (by omega) (by omega) (by omega)]; omega), if_neg (by rw [show (6 : Int32) = ii 6 from rfl, ii_le (by omega) (by omega) (by omega) (by omega)]; omega), h3, bd1_some, if_pos (by rw [h4]; exact in_of (z := j) rfl (by omega) (by decide)), cl_of (z := j) rfl (by omega), h5 j (by omega), bnd_def, e2]
      by_cases q : lg_cmp (jj (nm32 (nm j))) z = 0
      · rw [if_pos q]
        refine ⟨_, rfl, fun W w1 w2 => ?_⟩
        rw [w2, cw32 (h6 j (by omega)) w1] at q
        rw [nFd_e nm W k j (by omega) q h7]
      · rw [if_neg q]
        refine ih (j + 1) M (by omega) (by omega) (fun W w1 w2 p hp => ?_)
        by_cases e : p = j
        · subst e
          rw [w2, cw32 (h6 p (by omega)) w1] at q
          exact q
        · exact hn W w1 w2 p (by omega)
  exact loop k 0 F (by omega) (by omega) (fun W _ _ q hq => by omega)
end NAMED
section YNAME
variable {N2 : Nat → Nat} {F m : Nat} {S2 : HS} {B : Nat → Nat} {tp : List Nat} {n i : Nat} {nm : Nat → List Nat} {k q : Nat}
/- names of the model from place q of its row on -/
def NMY (S2 : HS) (B : Nat → Nat) (nm : Nat → List Nat) (q k : Nat) : Prop := (∀ j, j < k → aJ S2 (B 7) (q + j) = jj (nm37 (nm j))) ∧ (∀ j, j < k → nmk (nm j)) ∧ q + k ≤ 20
theorem y_nameAt (hF : 3000 ≤ F) (hL : YLAY N2 S2.2.2.1 m B) (hY : YRD S2 m B tp n i 0) (hlen : tp.length ≤ 1000) (h1 : tWhat tp (pt tp i) = 1) (h : NMY S2 B nm q k) : s_X12_nameAt N2 F m (ii q) (ii k) S2 = some (ii (nFd nm (tkW tp i) k)) := by
  obtain ⟨a1, a2, a3, a4, a5, ⟨a6, a7, a8⟩, a9, a10, a11, a12, a13⟩ := y_at hL hY hlen
  obtain ⟨n1, n2, n3⟩ := h
  have r7 : gR S2 1213 m = some (B 7) := hL.1.2.2.2.2.2.2.2
  have n7 : N2 (B 7) = 20 := hL.2.2.1.2.2.2.2.2.2.2
  have ek : tkW tp i = wl tp (tQ0 tp (pt tp i)) (tW tp (pt tp i)) := if_pos h1
  have ev : yVa tp (pt tp i) = nm37 (tkW tp i) := by unfold yVa; rw [if_pos h1, ek]
  have haj := a12 (by omega) (by omega)
  rw [ev] at haj
  have loop : ∀ (d j M : Nat), j + d = k → d < M → s_X12_nameAt_L5 N2 F M m (ii q) (ii k) (ii (nFd nm (tkW tp i) j)) (ii j) S2 = some (ii (nFd nm (tkW tp i) k)) := by
    intro d
    induction d with
    | zero =>
      intro j M hj hM
      obtain ⟨M, rfl⟩ : ∃ w, M = w + 1 := ⟨M - 1, by omega⟩
      have : j = k := by omega
      subst this
      unfold s_X12_nameAt_L5
      rw [if_pos (by rw [ii_le (by omega) (by omega) (by omega) (by omega)]; omega)]
    | succ d ih =>
      intro j M hj hM
      obtain ⟨M, rfl⟩ : ∃ w, M = w + 1 := ⟨M - 1, by omega⟩
      have e1 : ii (q : Int) + ii (j : Int) = ii ((q + j : Nat) : Int) := by rw [ii_add]; rfl
      have e2 : ii (j : Int) + Int32.ofInt 1 = ii ((j + 1 : Nat) : Int) := by rw [show Int32.ofInt 1 = ii 1 from rfl, ii_add]; rfl
      have h2 := ih (j + 1) M (by omega) (by omega)
      have e3 : nFd nm (tkW tp i) (j + 1) = if nm j = tkW tp i then (j : Int) else nFd nm (tkW tp i) j := rfl
      unfold s_X12_nameAt_L5 s_X12_nameAt_J39
      rw [if_neg (by rw [ii_le (by omega) (by omega) (by omega) (by omega)]; omega), e1, r7, bd1_some, if_pos (by rw [n7]; exact in_of (z := q + j) rfl (by omega) (by decide)), a3, bd1_some, a4, if_pos a8, cl_of (z := q + j) rfl (by omega), a9, haj, n1 j (by omega), bnd_def, bnd_def, e2]
      simp only [cw37 (n2 j (by omega)) (tkW_ok tp i)]
      by_cases w : nm j = tkW tp i
      · rw [if_pos w] at e3 ⊢
        rw [← e3]; exact h2
      · rw [if_neg w] at e3 ⊢
        rw [← e3]; exact h2
  exact loop k 0 F (by omega) (by omega)
end YNAME
section TTOLD
variable {N N2 : Nat → Nat} {F : Nat} {S S2 : HS} {a r m u q : Nat} {B : Nat → Nat} {tp : List Nat} {n i f : Nat} {nm : Nat → List Nat} {k p : Nat}
/- a known name; the values agree where no fault is left -/
theorem tk_known (hF : 3000 ≤ F) (h : JR N N2 a r m B tp n S S2 i f) (hq : gR S 600 q = some a) (hk : k ≤ 6) (hN : NMY S2 B nm p k) {v : Int32} (hv : f = 0 → tWhat tp (pt tp i) = 1 → v = ii (nFd nm (tkW tp i) k)) :
    ∃ v' S' S2' i' f', s_X6_passKnown N F q v S = some (v, S') ∧ s_X12_takeTold N2 F m (ii p) (ii k) S2 = some (v', S2') ∧ JS N N2 a r m B tp n S S2 i f S' S2' i' f' ∧ (f' = 0 → v' = v ∧ ∃ z : Nat, v = ii z ∧ z < k) := by
  have hr := xr_right h.2.1 h.2.2.2.2.2
  obtain ⟨g8, g7⟩ := h.yf
  -- what the model does once a fault is told
  have fin : ∀ (S4 S3 : HS) (f4 : Nat) (w : Int32), JS N N2 a r m B tp n S S2 i f S3 S4 i f4 → f4 ≠ 0 → ∃ S5, s_X12_takeTold_J53 N2 F m w S4 = some (0, S5) ∧ JS N N2 a r m B tp n S S2 i f S3 S5 i f4 := by
    intro S4 S3 f4 w h4 hf4
    have hs := y_stay h4.2.2.1
    obtain ⟨e8, e7⟩ := h4.2.2.1.yf
    have e8' : gI (uI S4 1207 m (ii (i : Int) + 0)) 1208 m = ii f4 := hs.2.2.1.yf.1
    unfold s_X12_takeTold_J53 s_X12_takeTold_J70
    rw [e8, e7, bnd_def, bnd_def, e8']
    simp only [(c_f0 h4.2.2.1).2]
    rw [if_neg hf4, if_neg hf4]
    exact ⟨_, rfl, h4.trans hs⟩
  unfold s_X6_passKnown s_X6_passKnown_J20
  rw [hq, bd1_some, hr, bd1_some, bnd_def, bd1_some]
  by_cases w : f = 0
  · subst w
    rw [decide_eq_true rfl, if_neg (show ¬ b2 true = (0 : Int32) by decide), x_isName hF h.x0 h.1.2.2.2.2.1, bd1_some, bd1_some, bd1_some, bnd_def]
    unfold s_X12_takeTold
    rw [g8, if_pos (show (ii ((0 : Nat) : Int) = (0 : Int32)) from rfl), y_isName hF h.2.2.1 h.2.2.2.1 h.2.2.2.2.1 h.1.2.2.2.1, bd1_some]
    cases hb : nmB (tkW tp i)
    · obtain ⟨S4, y1, y2⟩ := j_wrong (k := 1) (by omega) h
      have y1' : s_X12_wrong N2 m 1 S2 = some S4 := y1
      have hb1 : bl 0 1 (tQ0 tp (pt tp i)) ≠ 0 := by rw [bl_0]; omega
      have e8 := y2.2.2.1.yf.1
      obtain ⟨S5, z1, z2⟩ := fin S4 _ _ (-1) y2 hb1
      rw [if_pos (show b2 false = (0 : Int32) by decide), if_pos (show b2 false = (0 : Int32) by decide), y1', bd1_some]
      unfold s_X12_takeTold_J19 s_X12_takeTold_J36
      rw [e8]
      simp only [(c_f0 y2.2.2.1).1, (c_f0 y2.2.2.1).2]
      rw [if_neg hb1, if_neg hb1, z1]
      exact ⟨_, _, S5, i, _, rfl, rfl, z2, fun q => absurd q hb1⟩
    · rw [if_neg (show ¬ b2 true = (0 : Int32) by decide), if_neg (show ¬ b2 true = (0 : Int32) by decide)]
      have hne : tkW tp i ≠ [] := by
        intro e; rw [e] at hb; exact absurd hb (by decide)
      have h1 : tWhat tp (pt tp i) = 1 := (tkW_ne tp i).mp hne
      have ev := hv rfl h1
      have hna := y_nameAt hF h.2.2.1 h.2.2.2.2.1 h.1.2.2.2.1 h1 hN
      have hb2 := nFd_b nm (tkW tp i) k
      unfold s_X12_takeTold_J19 s_X12_takeTold_J36
      rw [g8, if_pos (show (ii ((0 : Nat) : Int) ≤ (0 : Int32)) by decide), hna, bd1_some, if_pos (show (ii ((0 : Nat) : Int) = (0 : Int32)) from rfl), ev]
      generalize nFd nm (tkW tp i) k = z at *
      have c1 : (ii z = (-1 : Int32)) = (z = -1) := by rw [show (-1 : Int32) = ii (-1) by decide, ii_eq (by omega) (by omega) (by omega) (by omega)]
      have c2 : ((0 : Int32) ≤ ii z) = (0 ≤ z) := by rw [k0, ii_le (by omega) (by omega) (by omega) (by omega)]
      simp only [c1, c2]
      by_cases qz : z = -1
      · obtain ⟨S4, y1, y2⟩ := j_wrong (k := 2) (by omega) h
        have y1' : s_X12_wrong N2 m 2 S2 = some S4 := y1
        have hb1 : bl 0 2 (tQ0 tp (pt tp i)) ≠ 0 := by rw [bl_0]; omega
        obtain ⟨S5, z1, z2⟩ := fin S4 _ _ (ii z) y2 hb1
        rw [if_pos qz, if_neg (show ¬ 0 ≤ z by omega), y1', bd1_some, z1]
        exact ⟨_, _, S5, i, _, rfl, rfl, z2, fun q => absurd q hb1⟩
      · obtain ⟨S', s1, s2⟩ := j_next (F := F) hF h (h.lt (by omega))
        have e8' : gI (uI S2 1207 m (ii (i : Int) + 1)) 1208 m = ii ((0 : Nat) : Int) := s2.2.2.1.yf.1
        unfold s_X12_takeTold_J53 s_X12_takeTold_J70
        rw [if_neg qz, if_pos (show 0 ≤ z by omega), s1, bd1_some, g8, if_pos (show (ii ((0 : Nat) : Int) ≤ (0 : Int32)) by decide), g7, bnd_def, e8', if_pos (show (ii ((0 : Nat) : Int) ≤ (0 : Int32)) by decide)]
        exact ⟨_, S', _, i + 1, 0, rfl, rfl, s2, fun _ => ⟨rfl, z.toNat, by rw [Int.toNat_of_nonneg (by omega)], by omega⟩⟩
  · obtain ⟨S4, y1, y2⟩ := j_wrong (k := 1) (by omega) h
    have eb : bl f 1 (tQ0 tp (pt tp i)) = f := bl_f w
    rw [eb] at y2
    have hx : JS N N2 a r m B tp n S S2 i f (s_X8_blame a (ii (1 : Nat)) S) S2 i f := ⟨y2.1, YBF.refl _ _, h.mk2 y2.1 (YBF.refl _ _) y2.2.2.1.2.1 h.2.2.2.2.1 h.2.2.2.2.2, Nat.le_refl _, fun _ => rfl⟩
    obtain ⟨S5, z1, z2⟩ := fin S2 _ _ (-1) hx w
    rw [decide_eq_false w, if_pos (show b2 false = (0 : Int32) by decide)]
    unfold s_X12_takeTold s_X12_takeTold_J19 s_X12_takeTold_J36
    rw [g8]
    simp only [(c_f0 h).1, (c_f0 h).2]
    rw [if_neg w, if_neg w, if_neg w, z1]
    exact ⟨_, _, S5, i, f, rfl, rfl, z2, fun q => absurd q w⟩
theorem tk_form (hF : 3000 ≤ F) (h : JR N N2 a r m B tp n S S2 i f) (hq : gR S 600 q = some a) (hu : gR S 601 q = some u) (hX : NMX N S u 903 901 4 nm k) (hN : NMY S2 B nm p k) :
    ∃ v v' S' S2' i' f', s_X6_passForm N F q S = some (v, S') ∧ s_X12_takeTold N2 F m (ii p) (ii k) S2 = some (v', S2') ∧ JS N N2 a r m B tp n S S2 i f S' S2' i' f' ∧ (f' = 0 → v' = v ∧ ∃ z : Nat, v = ii z ∧ z < k) := by
  obtain ⟨v, v1, v2⟩ := x_formNamed hF hX (gJ S 805 a)
  have hk := hX.2.1
  have hv : f = 0 → tWhat tp (pt tp i) = 1 → v = ii (nFd nm (tkW tp i) k) := by
    intro q0 q1
    subst q0
    have ek : tkW tp i = wl tp (tQ0 tp (pt tp i)) (tW tp (pt tp i)) := if_pos q1
    exact v2 _ (tkW_ok tp i) (by rw [h.x0.2.2.2.1 q1, ek])
  obtain ⟨v', S', S2', i', f', s1, s2, s3, s4⟩ := tk_known (v := v) hF h hq (by omega) hN hv
  unfold s_X6_passForm
  rw [hu, bd1_some, hq, bd1_some, v1, bd1_some, s1, bd2_some]
  exact ⟨v, v', S', S2', i', f', rfl, s2, s3, s4⟩
theorem tk_reg (hF : 3000 ≤ F) (h : JR N N2 a r m B tp n S S2 i f) (hq : gR S 600 q = some a) (hu : gR S 601 q = some u) (hX : NMX N S u 904 902 6 nm k) (hN : NMY S2 B nm p k) :
    ∃ v v' S' S2' i' f', s_X6_passRegister N F q S = some (v, S') ∧ s_X12_takeTold N2 F m (ii p) (ii k) S2 = some (v', S2') ∧ JS N N2 a r m B tp n S S2 i f S' S2' i' f' ∧ (f' = 0 → v' = v ∧ ∃ z : Nat, v = ii z ∧ z < k) := by
  obtain ⟨v, v1, v2⟩ := x_registerNamed hF hX (gJ S 805 a)
  have hk := hX.2.1
  have hv : f = 0 → tWhat tp (pt tp i) = 1 → v = ii (nFd nm (tkW tp i) k) := by
    intro q0 q1
    subst q0
    have ek : tkW tp i = wl tp (tQ0 tp (pt tp i)) (tW tp (pt tp i)) := if_pos q1
    exact v2 _ (tkW_ok tp i) (by rw [h.x0.2.2.2.1 q1, ek])
  obtain ⟨v', S', S2', i', f', s1, s2, s3, s4⟩ := tk_known (v := v) hF h hq (by omega) hN hv
  unfold s_X6_passRegister
  rw [hu, bd1_some, hq, bd1_some, v1, bd1_some, s1, bd2_some]
  exact ⟨v, v', S', S2', i', f', rfl, s2, s3, s4⟩
end TTOLD
end
section
/- frames of reading a plan: of the class the words of one plan from lo on, of the model its lines from lo on -/
def PFX (a fw lo : Nat) (S S' : HS) : Prop := (∀ f b, ¬ (b = a ∧ 802 ≤ f ∧ f ≤ 807) → gI S' f b = gI S f b) ∧ S'.2.2.1 = S.2.2.1 ∧ (∀ p, p ≠ fw → aI S' p = aI S p) ∧ (∀ o, o < lo → aI S' fw o = aI S fw o) ∧ S'.2.2.2.2 = S.2.2.2.2
def PFY (m w8 lo : Nat) (S S' : HS) : Prop := (∀ g p, ¬ (p = m ∧ (g = 1207 ∨ g = 1208)) → gI S' g p = gI S g p) ∧ S'.2.1 = S.2.1 ∧ S'.2.2.1 = S.2.2.1 ∧ (∀ p, p ≠ w8 → aI S' p = aI S p) ∧ (∀ o, o < lo → aI S' w8 o = aI S w8 o) ∧ S'.2.2.2.2 = S.2.2.2.2
section PFRAME
variable {a fw lo lo' m w8 : Nat} {S S' S'' : HS}
theorem PFX.refl (a fw lo : Nat) (S : HS) : PFX a fw lo S S := ⟨fun _ _ _ => rfl, rfl, fun _ _ => rfl, fun _ _ => rfl, rfl⟩
theorem PFY.refl (m w8 lo : Nat) (S : HS) : PFY m w8 lo S S := ⟨fun _ _ _ => rfl, rfl, rfl, fun _ _ => rfl, fun _ _ => rfl, rfl⟩
theorem PFX.trans (h1 : PFX a fw lo S S') (h2 : PFX a fw lo S' S'') : PFX a fw lo S S'' := ⟨fun f b q => (h2.1 f b q).trans (h1.1 f b q), h2.2.1.trans h1.2.1, fun p q => (h2.2.2.1 p q).trans (h1.2.2.1 p q), fun o q => (h2.2.2.2.1 o q).trans (h1.2.2.2.1 o q), h2.2.2.2.2.trans h1.2.2.2.2⟩
theorem PFY.trans (h1 : PFY m w8 lo S S') (h2 : PFY m w8 lo S' S'') : PFY m w8 lo S S'' := ⟨fun f b q => (h2.1 f b q).trans (h1.1 f b q), h2.2.1.trans h1.2.1, h2.2.2.1.trans h1.2.2.1, fun p q => (h2.2.2.2.1 p q).trans (h1.2.2.2.1 p q), fun o q => (h2.2.2.2.2.1 o q).trans (h1.2.2.2.2.1 o q), h2.2.2.2.2.2.trans h1.2.2.2.2.2⟩
theorem PFX.mono (h : PFX a fw lo S S') (hl : lo' ≤ lo) : PFX a fw lo' S S' := ⟨h.1, h.2.1, h.2.2.1, fun o q => h.2.2.2.1 o (by omega), h.2.2.2.2⟩
theorem PFY.mono (h : PFY m w8 lo S S') (hl : lo' ≤ lo) : PFY m w8 lo' S S' := ⟨h.1, h.2.1, h.2.2.1, h.2.2.2.1, fun o q => h.2.2.2.2.1 o (by omega), h.2.2.2.2.2⟩
theorem RDB.px (h : RDB a S S') (fw lo : Nat) : PFX a fw lo S S' := ⟨h.1, by rw [h.2], fun p _ => by unfold aI; rw [h.2], fun o _ => by unfold aI; rw [h.2], by rw [h.2]⟩
theorem YBF.py (h : YBF m S S') (w8 lo : Nat) : PFY m w8 lo S S' := ⟨h.1, by rw [h.2], by rw [h.2], fun p _ => by unfold aI; rw [h.2], fun o _ => by unfold aI; rw [h.2], by rw [h.2]⟩
theorem PFX.wI (o : Nat) (v : Int32) (hl : lo ≤ o) (S : HS) (a fw : Nat) : PFX a fw lo S (wI S fw o v) := ⟨fun _ _ _ => rfl, rfl, fun p q => aI_wI_o _ _ _ _ q, fun j q => by rw [aI_wI_s]; show (if j = o then v else aI S fw j) = _; rw [if_neg (by omega)], rfl⟩
theorem PFY.wI (o : Nat) (v : Int32) (hl : lo ≤ o) (S : HS) (m w8 : Nat) : PFY m w8 lo S (wI S w8 o v) := ⟨fun _ _ _ => rfl, rfl, rfl, fun p q => aI_wI_o _ _ _ _ q, fun j q => by rw [aI_wI_s]; show (if j = o then v else aI S w8 j) = _; rw [if_neg (by omega)], rfl⟩
end PFRAME
/- what stands while a plan is read -/
def PU (N N2 : Nat → Nat) (S S2 : HS) (q a u fr fw r m : Nat) (B : Nat → Nat) (U : UNt) : Prop :=
  (gR S 600 q = some a ∧ gR S 601 q = some u ∧ gR S 602 q = some fr ∧ gR S 500 fr = some fw ∧ N fw = 150 ∧ r ≠ fw ∧ fr ≠ a) ∧ (NMX N S u 903 901 4 (vA U) (vN U) ∧ NMX N S u 904 902 6 (vB U) (vR U)) ∧ (NMY S2 B (vA U) 0 (vN U) ∧ NMY S2 B (vB U) 4 (vR U)) ∧
  (aI S2 (B 5) 0 = ii (vN U) ∧ aI S2 (B 5) 1 = ii (vR U)) ∧ (∀ i j, B i = B j ↔ i = j) ∧ YLAY N2 S2.2.2.1 m B
section PUS
variable {N N2 : Nat → Nat} {F : Nat} {S S2 S' S2' : HS} {q a u fr fw r m lo lo2 : Nat} {B : Nat → Nat} {U : UNt} {tp : List Nat} {n i f : Nat}
theorem NMX.px {fc fq mo k : Nat} {nm : Nat → List Nat} (h : NMX N S u fc fq mo nm k) (hg : gI S' fc u = gI S fc u) (hr : S'.2.2.1 = S.2.2.1) (hj : S'.2.2.2.2 = S.2.2.2.2) : NMX N S' u fc fq mo nm k := by
  obtain ⟨h1, h2, ⟨ra, h3, h4, h5⟩, h6, h7⟩ := h
  exact ⟨by rw [hg]; exact h1, h2, ⟨ra, by rw [gR_of hr]; exact h3, h4, by rw [aJ_of hj]; exact h5⟩, h6, h7⟩
theorem PU.mono (h : PU N N2 S S2 q a u fr fw r m B U) (h1 : PFX a fw lo S S') (h2 : PFY m (B 8) lo2 S2 S2') : PU N N2 S' S2' q a u fr fw r m B U := by
  obtain ⟨⟨a1, a2, a3, a4, a5, a6, a7⟩, ⟨b1, b2'⟩, ⟨c1, c2⟩, ⟨d1, d2⟩, e1, e2⟩ := h
  have hg : ∀ f b, 900 ≤ f → gI S' f b = gI S f b := fun f b hf => h1.1 f b (by omega)
  refine ⟨⟨by rw [gR_of h1.2.1]; exact a1, by rw [gR_of h1.2.1]; exact a2, by rw [gR_of h1.2.1]; exact a3, by rw [gR_of h1.2.1]; exact a4, a5, a6, a7⟩, ⟨b1.px (hg _ _ (by decide)) h1.2.1 h1.2.2.2.2, b2'.px (hg _ _ (by decide)) h1.2.1 h1.2.2.2.2⟩, ⟨⟨by rw [aJ_of h2.2.2.2.2.2]; exact c1.1, c1.2⟩, ⟨by rw [aJ_of h2.2.2.2.2.2]; exact c2.1, c2.2⟩⟩, ?_, e1, by rw [h2.2.2.1]; exact e2⟩
  rw [h2.2.2.2.1 (B 5) (by rw [ne_eq, e1]; decide)]
  exact ⟨d1, d2⟩
/- the tokens stay where words are laid -/
theorem JR.wx (h : JR N N2 a r m B tp n S S2 i f) (hr : r ≠ fw) (o : Nat) (v : Int32) : JR N N2 a r m B tp n (wI S fw o v) S2 i f := by
  obtain ⟨⟨t1, t2, t3, t4, t5, t6⟩, a2, a3, a4, a5, a6⟩ := h
  exact ⟨⟨t1, t2, t3, t4, t5, fun j c hc => by rw [aI_wI_o _ _ _ _ hr]; exact t6 j c hc⟩, a2, a3, a4, a5, a6⟩
theorem JR.wy (h : JR N N2 a r m B tp n S S2 i f) (hB : ∀ i j, B i = B j ↔ i = j) (o : Nat) (v : Int32) : JR N N2 a r m B tp n S (wI S2 (B 8) o v) i f := by
  obtain ⟨a1, a2, a3, a4, ⟨h1, h2, h3, h4, h5, h6, h7, h8⟩, a6⟩ := h
  have e1 : aI (wI S2 (B 8) o v) (B 1) = aI S2 (B 1) := aI_wI_o _ _ _ _ (by rw [ne_eq, hB]; decide)
  have e2 : aI (wI S2 (B 8) o v) (B 2) = aI S2 (B 2) := aI_wI_o _ _ _ _ (by rw [ne_eq, hB]; decide)
  refine ⟨a1, a2, a3, a4, ⟨h1, h2, fun k hk => ?_, h4, by rw [e1]; exact h5, by rw [e2]; exact h6, h7, h8⟩, a6⟩
  rw [e1, e2]; exact h3 k hk
theorem x5_put (h1 : gR S 500 fr = some fw) (h2 : N fw = 150) {L j : Nat} (h3 : gI S 501 fr = ii L) (hL : L < 30) (hj : j < 5) (v : Int32) : s_X5_put N fr (ii j) v S = some (wI S fw (5 * L + j) v) := by
  have e : ii (L : Int) * 5 + ii (j : Int) = ii ((5 * L + j : Nat) : Int) := by rw [show (5 : Int32) = ii 5 from rfl, ii_mul, ii_add]; congr 1; omega
  unfold s_X5_put
  rw [h3, if_neg (by rw [k0, ii_lt (by omega) (by omega) (by omega) (by omega)]; omega), if_neg (by rw [show (30 : Int32) = ii 30 from rfl, ii_le (by omega) (by omega) (by omega) (by omega)]; omega), if_neg (by rw [k0, ii_lt (by omega) (by omega) (by omega) (by omega)]; omega), if_neg (by rw [show (5 : Int32) = ii 5 from rfl, ii_le (by omega) (by omega) (by omega) (by omega)]; omega), h1, bd1_some, e, if_pos (by rw [h2]; exact in_of (z := 5 * L + j) rfl (by omega) (by decide)), cl_of (z := 5 * L + j) rfl (by omega), bnd_def]
theorem PU.regs (h : PU N N2 S S2 q a u fr fw r m B U) : s_X12_regs N2 m S2 = some (ii (vR U)) ∧ s_X12_forms N2 m S2 = some (ii (vN U)) := by
  obtain ⟨_, _, _, ⟨d1, d2⟩, e1, e2⟩ := h
  have r5 : gR S2 1210 m = some (B 5) := e2.1.2.2.2.2.2.1
  have n5 : N2 (B 5) = 30 := e2.2.2.1.2.2.2.2.2.1
  unfold s_X12_regs s_X12_forms
  rw [r5, bd1_some, n5, if_pos (by decide), bd1_some, n5, if_pos (by decide)]
  exact ⟨congrArg some d2, congrArg some d1⟩
/- a step of both while a plan is read -/
def PS (N N2 : Nat → Nat) (q a u fr fw r m : Nat) (B : Nat → Nat) (U : UNt) (tp : List Nat) (n lo lo2 : Nat) (S S2 : HS) (i f : Nat) (S' S2' : HS) (i' f' : Nat) : Prop :=
  PFX a fw lo S S' ∧ PFY m (B 8) lo2 S2 S2' ∧ JR N N2 a r m B tp n S' S2' i' f' ∧ PU N N2 S' S2' q a u fr fw r m B U ∧ gI S' 501 fr = gI S 501 fr ∧ i ≤ i' ∧ (f ≠ 0 → f' = f)
theorem JS.ps {i' f' : Nat} (h : JS N N2 a r m B tp n S S2 i f S' S2' i' f') (hU : PU N N2 S S2 q a u fr fw r m B U) (lo lo2 : Nat) : PS N N2 q a u fr fw r m B U tp n lo lo2 S S2 i f S' S2' i' f' := by
  obtain ⟨h1, h2, h3, h4, h5⟩ := h
  exact ⟨h1.px fw lo, h2.py (B 8) lo2, h3, hU.mono (h1.px fw lo) (h2.py (B 8) lo2), h1.1 501 fr (by omega), h4, h5⟩
theorem PS.trans {S'' S2'' : HS} {i' f' i'' f'' : Nat} (h1 : PS N N2 q a u fr fw r m B U tp n lo lo2 S S2 i f S' S2' i' f') (h2 : PS N N2 q a u fr fw r m B U tp n lo lo2 S' S2' i' f' S'' S2'' i'' f'') : PS N N2 q a u fr fw r m B U tp n lo lo2 S S2 i f S'' S2'' i'' f'' := by
  obtain ⟨a1, a2, a3, a4, a5, a6, a7⟩ := h1
  obtain ⟨b1, b2', b3, b4, b5, b6, b7⟩ := h2
  exact ⟨a1.trans b1, a2.trans b2', b3, b4, b5.trans a5, Nat.le_trans a6 b6, fun w => by have := a7 w; rw [b7 (by omega), this]⟩
theorem PS.mono {i' f' lo' lo2' : Nat} (h : PS N N2 q a u fr fw r m B U tp n lo lo2 S S2 i f S' S2' i' f') (h1 : lo' ≤ lo) (h2 : lo2' ≤ lo2) : PS N N2 q a u fr fw r m B U tp n lo' lo2' S S2 i f S' S2' i' f' := by
  obtain ⟨a1, a2, a3, a4, a5, a6, a7⟩ := h
  exact ⟨a1.mono h1, a2.mono h2, a3, a4, a5, a6, a7⟩
/- both write a word -/
theorem PS.wr (h : JR N N2 a r m B tp n S S2 i f) (hU : PU N N2 S S2 q a u fr fw r m B U) {o o2 : Nat} (v v2 : Int32) (hl : lo ≤ o) (hl2 : lo2 ≤ o2) : PS N N2 q a u fr fw r m B U tp n lo lo2 S S2 i f (wI S fw o v) (wI S2 (B 8) o2 v2) i f := by
  have p1 := PFX.wI o v hl S a fw
  have p2' := PFY.wI o2 v2 hl2 S2 m (B 8)
  exact ⟨p1, p2', (h.wx hU.1.2.2.2.2.2.1 o v).wy hU.2.2.2.2.1 o2 v2, hU.mono p1 p2', rfl, Nat.le_refl _, fun _ => rfl⟩
theorem PS.wy (h : JR N N2 a r m B tp n S S2 i f) (hU : PU N N2 S S2 q a u fr fw r m B U) {o2 : Nat} (v2 : Int32) (hl2 : lo2 ≤ o2) : PS N N2 q a u fr fw r m B U tp n lo lo2 S S2 i f S (wI S2 (B 8) o2 v2) i f := by
  have p2' := PFY.wI o2 v2 hl2 S2 m (B 8)
  exact ⟨PFX.refl _ _ _ _, p2', h.wy hU.2.2.2.2.1 o2 v2, hU.mono (PFX.refl a fw lo S) p2', rfl, Nat.le_refl _, fun _ => rfl⟩
end PUS
end
