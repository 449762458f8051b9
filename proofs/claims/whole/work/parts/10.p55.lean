section
def facK (a : AK) : Nat := a.1 + 4 * (a.2.1 + 8 * (a.2.2.1 + 134217728 * a.2.2.2.1))
theorem facK_b {a : AK} (h : AKok a) : facK a < 1000000000000000000 := by
  obtain ⟨h1, h2, h3, h4, h5⟩ := h
  unfold facK; omega
theorem facK_inj {a d : AK} (ha : AKok a) (hd : AKok d) : (facK a = facK d ∧ a.2.2.2.2 = d.2.2.2.2) ↔ a = d := by
  obtain ⟨h1, h2, h3, h4, h5⟩ := ha
  obtain ⟨g1, g2, g3, g4, g5⟩ := hd
  constructor
  · rintro ⟨e1, e2⟩
    unfold facK at e1
    exact Prod.ext (by omega) (Prod.ext (by omega) (Prod.ext (by omega) (Prod.ext (by omega) e2)))
  · rintro rfl; exact ⟨rfl, rfl⟩
def sfx (L : List AK) (k : Nat) : List AK := L.drop (L.length - k)
theorem sfx_0 (L : List AK) : sfx L 0 = [] := by unfold sfx; simp
theorem sfx_all (L : List AK) : sfx L L.length = L := by unfold sfx; simp
theorem sfx_s {L : List AK} {k : Nat} {a : AK} (h : IX L k a) : sfx L (k + 1) = a :: sfx L k := by
  obtain ⟨h1, h2⟩ := h
  unfold sfx
  rw [show L.length - k = (L.length - (k + 1)) + 1 by omega]
  have hl : L.length - (k + 1) < L.length := by omega
  rw [List.drop_eq_getElem_cons hl]
  congr 1
  rw [show L.length - 1 - k = L.length - (k + 1) by omega, List.getElem?_eq_getElem hl] at h2
  injection h2
theorem sfx_mem {L : List AK} {k : Nat} {a : AK} (hk : k ≤ L.length) : a ∈ sfx L k ↔ ∃ j, j < k ∧ IX L j a := by
  unfold sfx
  constructor
  · intro h
    obtain ⟨i, hi, e⟩ := List.mem_iff_getElem.mp h
    rw [List.length_drop] at hi
    rw [List.getElem_drop] at e
    refine ⟨k - 1 - i, by omega, by omega, ?_⟩
    rw [show L.length - 1 - (k - 1 - i) = L.length - k + i by omega, List.getElem?_eq_getElem (by omega), e]
  · rintro ⟨j, hj, h1, h2⟩
    rw [List.getElem?_eq_some_iff] at h2
    obtain ⟨h3, h4⟩ := h2
    refine List.mem_iff_getElem.mpr ⟨k - 1 - j, by rw [List.length_drop]; omega, ?_⟩
    rw [List.getElem_drop, ← h4]
    congr 1; omega
theorem dD_s {a : AK} {r : List AK} : dD (a :: r) = if a ∈ r then dD r else a :: dD r := by
  show (if a ∈ dD r then dD r else a :: dD r) = _
  simp only [dD_mem]
section ASKS
variable {N N2 : Nat → Nat} {F : Nat} {S S2 : HS} {x m : Nat} {A B : Nat → Nat} {b c nx n : Nat} {T : TT}
theorem YASK.get {U : UNt} : ∀ {L : List AK} {i : Nat} {a : AK}, YASK S B U L → IX L i a → aJ S (B 13) i = jj (facK a) ∧ aJ S (B 14) i = jj (a.2.2.2.2 + 134217728 * rs U a : Nat)
  | [], i, a, _, h => by have := h.1; simp at this
  | d :: r, i, a, hX, h => by
    rcases h.pop with ⟨q1, q2⟩ | q
    · subst q1 q2; exact ⟨hX.1, hX.2.1⟩
    · exact YASK.get hX.2.2 q
theorem y_f {U : UNt} (h : YW N2 S2 m B U) : gR S2 1225 m = some (B 13) ∧ gR S2 1226 m = some (B 14) ∧ N2 (B 13) = 600 ∧ N2 (B 14) = 600 ∧ gR S2 1217 m = some (B 11) ∧ N2 (B 11) = 616 :=
  ⟨h.2.1.2.1.2.2.2.2.2.1, h.2.1.2.1.2.2.2.2.2.2.1, h.2.1.2.2.2.2.2.2.2.2.1, h.2.1.2.2.2.2.2.2.2.2.2.1, h.2.1.2.1.2.2.2.1, h.2.1.2.2.2.2.2.2.1⟩
theorem jmod {p : Nat} (hp : p < 9223372036854775808) : jj (p : Int) - jj (p : Int) / 134217728 * 134217728 = jj (p % 134217728 : Nat) := by
  rw [show (134217728 : Int64) = jj 134217728 from rfl, jj_div (by omega) (by omega) (by omega) (by omega), jj_mul, jj_sub]
  congr 1; omega
theorem rs_b (hT : TOK n T) {a : AK} (ha : a ∈ tQ T) : rs (tU T) a < 134217728 ∧ AKok a ∧ a.1 < vN (tU T) := by
  obtain ⟨h1, h2⟩ := hT.2.2.2.2.2.2.2.1 a ha
  refine ⟨?_, h1, h2⟩
  have fo := hT.1.2.2.2 _ h2
  have := (sumF_b (L := lawB (vL (tU T))) (mode := a.2.1) (x := a.2.2.1) (y := a.2.2.2.1) (c := a.2.2.2.2) fo).1
  have hs := sb_le fo
  have := pw1 (k := vK (tU T) a.1) this
  unfold rs; omega
theorem cmp0 {p q : Nat} (hp : p < 9223372036854775808) (hq : q < 9223372036854775808) : (lg_cmp (jj p) (jj q) = 0) = (p = q) := by
  rw [lg_c (by omega) (by omega) (by omega) (by omega)]
  apply propext
  constructor
  · intro h
    by_cases h1 : (q : Int) < p
    · rw [if_pos h1] at h; cases h
    · rw [if_neg h1] at h
      by_cases h2 : (p : Int) = q
      · omega
      · rw [if_neg h2] at h; cases h
  · rintro rfl; rw [if_neg (by omega), if_pos rfl]
theorem addm {a : AK} {U : UNt} (h : AKok a) : (a.2.2.2.2 + 134217728 * rs U a) % 134217728 = a.2.2.2.2 := by
  have := h.2.2.2.2; omega
theorem y_isFirst_loop (hM : RY N2 S2 m B T) (hT : TOK n T) (hn : n ≤ 512) {i : Nat} {a : AK} (hi : IX (tQ T) i a) : ∀ (k j M : Nat) (w : Bool), j + k = i → k < M → (w = true ↔ ¬ ∃ q, q < j ∧ IX (tQ T) q a) →
    s_X12_isFirst_L4 N2 F M m (ii i) (b2 w) (ii j) S2 = some (b2 (!decide (a ∈ sfx (tQ T) i))) := by
  have hq := hT.2.2.2.2.2.2.2.2.1
  have hil := hi.1
  obtain ⟨f1, f2, f3, f4, f5, f6⟩ := y_f hM.1
  have ha := rs_b hT hi.mem
  obtain ⟨e1, e2⟩ := hM.2.2.2.2.2.1.get hi
  have hini : inB (ii (i : Int)) 600 = true := in_of (z := i) rfl (by omega) (by decide)
  have hcli : (ii (i : Int)).toNatClampNeg = i := cl_of (z := i) rfl (by omega)
  intro k
  induction k with
  | zero =>
    intro j M w hj hM' hw
    obtain ⟨M', rfl⟩ : ∃ M', M = M' + 1 := ⟨M - 1, by omega⟩
    rw [s_X12_isFirst_L4, if_pos (by rw [ii_le (by omega) (by omega) (by omega) (by omega)]; omega), if_pos (b2_isZ w)]
    congr 2
    rw [Bool.eq_iff_iff, hw, Bool.not_eq_true', decide_eq_false_iff_not, sfx_mem (by omega), show j = i by omega]
  | succ k ih =>
    intro j M w hj hM' hw
    obtain ⟨M', rfl⟩ : ∃ M', M = M' + 1 := ⟨M - 1, by omega⟩
    obtain ⟨d, hd⟩ := IX.ex (show j < (tQ T).length by omega)
    have hdb := rs_b hT hd.mem
    obtain ⟨d1, d2⟩ := hM.2.2.2.2.2.1.get hd
    have hinj : inB (ii (j : Int)) 600 = true := in_of (z := j) rfl (by omega) (by decide)
    have hclj : (ii (j : Int)).toNatClampNeg = j := cl_of (z := j) rfl (by omega)
    rw [s_X12_isFirst_L4, if_neg (by rw [ii_le (by omega) (by omega) (by omega) (by omega)]; omega)]
    unfold s_X12_isFirst_J58
    have ka := facK_b ha.2.1
    have kd := facK_b hdb.2.1
    have a5 := ha.2.1.2.2.2.2
    have d5 := hdb.2.1.2.2.2.2
    simp only [f1, f2, bd1_some, f3, f4, hini, hinj, if_true, hcli, hclj, e1, e2, d1, d2, cmp0 (show facK d < 9223372036854775808 by omega) (show facK a < 9223372036854775808 by omega), jmod (show d.2.2.2.2 + 134217728 * rs (tU T) d < 9223372036854775808 by omega), jmod (show a.2.2.2.2 + 134217728 * rs (tU T) a < 9223372036854775808 by omega), addm ha.2.1, addm hdb.2.1, cmp0 (show d.2.2.2.2 < 9223372036854775808 by omega) (show a.2.2.2.2 < 9223372036854775808 by omega), b2_0, bnd_def, ofI, ii_add]
    have step : ∀ w' : Bool, (w' = true ↔ ¬ ∃ q, q < j + 1 ∧ IX (tQ T) q a) → s_X12_isFirst_L4 N2 F M' m (ii i) (b2 w') (ii ((j : Int) + 1)) S2 = some (b2 (!decide (a ∈ sfx (tQ T) i))) := fun w' hw' => ih (j + 1) M' w' (by omega) (by omega) hw'
    have same : d = a → s_X12_isFirst_L4 N2 F M' m (ii i) (b2 false) (ii ((j : Int) + 1)) S2 = some (b2 (!decide (a ∈ sfx (tQ T) i))) := by
      intro e
      exact step false ⟨fun h => (by cases h), fun h => absurd ⟨j, by omega, e ▸ hd⟩ h⟩
    cases w
    · rw [if_pos rfl]
      refine step false ⟨fun h => (by cases h), fun h => ?_⟩
      exfalso
      obtain ⟨q, q1, q2⟩ : ∃ q, q < j ∧ IX (tQ T) q a := Classical.byContradiction (fun h2 => by have := hw.mpr h2; cases this)
      exact h ⟨q, by omega, q2⟩
    · rw [if_neg tf]
      have hno := hw.mp rfl
      have diff : d ≠ a → s_X12_isFirst_L4 N2 F M' m (ii i) (b2 true) (ii ((j : Int) + 1)) S2 = some (b2 (!decide (a ∈ sfx (tQ T) i))) := by
        intro e
        refine step true ⟨fun _ => ?_, fun _ => rfl⟩
        rintro ⟨q, q1, q2⟩
        by_cases hqj : q = j
        · subst hqj; exact e (hd.fn q2)
        · exact hno ⟨q, by omega, q2⟩
      by_cases w1 : facK d = facK a
      · rw [if_pos w1]
        by_cases w2 : d.2.2.2.2 = a.2.2.2.2
        · rw [if_pos w2]; exact same ((facK_inj hdb.2.1 ha.2.1).mp ⟨w1, w2⟩)
        · rw [if_neg w2]; exact diff (fun e => w2 (by rw [e]))
      · rw [if_neg w1]; exact diff (fun e => w1 (by rw [e]))
theorem y_isFirst (hF : 3000 ≤ F) (hM : RY N2 S2 m B T) (hT : TOK n T) (hn : n ≤ 512) {i : Nat} {a : AK} (hi : IX (tQ T) i a) : s_X12_isFirst N2 F m (ii i) S2 = some (b2 (!decide (a ∈ sfx (tQ T) i))) := by
  have hq := hT.2.2.2.2.2.2.2.2.1
  have hil := hi.1
  exact y_isFirst_loop hM hT hn hi i 0 F true (by omega) (by omega) ⟨fun _ => by rintro ⟨q, q1, _⟩; omega, fun _ => rfl⟩
theorem y_cnt3 (hM : RY N2 S2 m B T) : aI S2 (B 11) ((3 : Int32).toNatClampNeg) = ii (tQ T).length := hM.2.1.2
theorem y_asked_loop (hF : 3000 ≤ F) (hM : RY N2 S2 m B T) (hT : TOK n T) (hn : n ≤ 512) : ∀ (k i M : Nat), i + k = (tQ T).length → k < M →
    s_X12_asked_L9 N2 F M m (ii (dD (sfx (tQ T) i)).length) (ii i) S2 = some (ii (dD (tQ T)).length, S2) := by
  have hq := hT.2.2.2.2.2.2.2.2.1
  obtain ⟨f1, f2, f3, f4, f5, f6⟩ := y_f hM.1
  intro k
  induction k with
  | zero =>
    intro i M hi hM'
    obtain ⟨M', rfl⟩ : ∃ M', M = M' + 1 := ⟨M - 1, by omega⟩
    rw [s_X12_asked_L9, f5, bd1_some, f6, if_pos (by decide), y_cnt3 hM, if_pos (by rw [ii_le (by omega) (by omega) (by omega) (by omega)]; omega), show i = (tQ T).length by omega, sfx_all]
  | succ k ih =>
    intro i M hi hM'
    obtain ⟨M', rfl⟩ : ∃ M', M = M' + 1 := ⟨M - 1, by omega⟩
    obtain ⟨a, ha⟩ := IX.ex (show i < (tQ T).length by omega)
    have r := ih (i + 1) M' (by omega) (by omega)
    rw [sfx_s ha, dD_s] at r
    rw [s_X12_asked_L9, f5, bd1_some, f6, if_pos (by decide), y_cnt3 hM, if_neg (by rw [ii_le (by omega) (by omega) (by omega) (by omega)]; omega), y_isFirst hF hM hT hn ha, bd1_some]
    unfold s_X12_asked_J33
    rw [k0, k1]
    simp only [bnd_def, ofI, ii_add]
    by_cases w : a ∈ sfx (tQ T) i
    · rw [if_pos w] at r
      rw [decide_eq_true w, if_pos (show b2 (!true) = ii 0 from rfl), Int.add_zero]; exact r
    · rw [if_neg w] at r
      rw [decide_eq_false w, if_neg (show ¬ b2 (!false) = ii 0 by decide)]; exact r
theorem j_asked (hF : 3000 ≤ F) (hX : RX N S x A b c nx T) (hM : RY N2 S2 m B T) (hT : TOK n T) (hn : n ≤ 512) : ∃ v S2', s_X11_asked x S = some v ∧ s_X12_asked N2 F m S2 = some (v, S2') ∧ YE m B S2 S2' := by
  have hq := hT.2.2.2.2.2.2.2.2.1
  obtain ⟨S1, hS1, hM1, y0⟩ := base0 hM 0
  have e1 : gR S 1102 x = some (A 3) := hX.1.2.2.1.1.2.2.2.1
  unfold s_X11_asked s_X12_asked
  rw [bnd_def, ← hS1, e1, bd1_some, hX.2.2.2.2.2.2.1.1]
  have := y_asked_loop hF hM1 hT hn (tQ T).length 0 F (by omega) (by omega)
  rw [sfx_0] at this
  exact ⟨_, _, rfl, this, y0⟩
theorem y_timesOf_loop (hM : RY N2 S2 m B T) (hT : TOK n T) (hn : n ≤ 512) {a : AK} (ha : AKok a) : ∀ (k i M : Nat), i + k = (tQ T).length → k < M →
    s_X12_timesOf_L6 N2 F M m (jj (facK a)) (jj a.2.2.2.2) (ii ((sfx (tQ T) i).count a)) (ii i) S2 = some (ii ((tQ T).count a)) := by
  have hq := hT.2.2.2.2.2.2.2.2.1
  obtain ⟨f1, f2, f3, f4, f5, f6⟩ := y_f hM.1
  intro k
  induction k with
  | zero =>
    intro i M hi hM'
    obtain ⟨M', rfl⟩ : ∃ M', M = M' + 1 := ⟨M - 1, by omega⟩
    rw [s_X12_timesOf_L6, f5, bd1_some, f6, if_pos (by decide), y_cnt3 hM, if_pos (by rw [ii_le (by omega) (by omega) (by omega) (by omega)]; omega), show i = (tQ T).length by omega, sfx_all]
  | succ k ih =>
    intro i M hi hM'
    obtain ⟨M', rfl⟩ : ∃ M', M = M' + 1 := ⟨M - 1, by omega⟩
    obtain ⟨d, hd⟩ := IX.ex (show i < (tQ T).length by omega)
    have hdb := rs_b hT hd.mem
    obtain ⟨d1, d2⟩ := hM.2.2.2.2.2.1.get hd
    have r := ih (i + 1) M' (by omega) (by omega)
    rw [sfx_s hd, List.count_cons] at r
    have hinj : inB (ii (i : Int)) 600 = true := in_of (z := i) rfl (by omega) (by decide)
    have hclj : (ii (i : Int)).toNatClampNeg = i := cl_of (z := i) rfl (by omega)
    have ka := facK_b ha
    have kd := facK_b hdb.2.1
    have a5 := ha.2.2.2.2
    have d5 := hdb.2.1.2.2.2.2
    rw [s_X12_timesOf_L6, f5, bd1_some, f6, if_pos (by decide), y_cnt3 hM, if_neg (by rw [ii_le (by omega) (by omega) (by omega) (by omega)]; omega)]
    unfold s_X12_timesOf_J52
    simp only [f1, f2, bd1_some, f3, f4, hinj, if_true, hclj, d1, d2, cmp0 (show facK d < 9223372036854775808 by omega) (show facK a < 9223372036854775808 by omega), jmod (show d.2.2.2.2 + 134217728 * rs (tU T) d < 9223372036854775808 by omega), addm hdb.2.1, cmp0 (show d.2.2.2.2 < 9223372036854775808 by omega) (show a.2.2.2.2 < 9223372036854775808 by omega)]
    rw [k0, k1]
    simp only [bnd_def, ofI, ii_add]
    by_cases e : d = a
    · have e' := (facK_inj hdb.2.1 ha).mpr e
      rw [if_pos e'.1, if_pos e'.2]
      rw [if_pos (by simpa using e)] at r
      exact r
    · rw [if_neg (by simpa using e)] at r
      rw [Int.add_zero]
      by_cases w1 : facK d = facK a
      · rw [if_pos w1, if_neg (fun w2 => e ((facK_inj hdb.2.1 ha).mp ⟨w1, w2⟩))]; exact r
      · rw [if_neg w1]; exact r
theorem y_timesOf (hF : 3000 ≤ F) (hM : RY N2 S2 m B T) (hT : TOK n T) (hn : n ≤ 512) {a : AK} (ha : AKok a) : s_X12_timesOf N2 F m (jj (facK a)) (jj a.2.2.2.2) S2 = some (ii ((tQ T).count a)) := by
  have hq := hT.2.2.2.2.2.2.2.2.1
  have := y_timesOf_loop (F := F) hM hT hn ha (tQ T).length 0 F (by omega) (by omega)
  rw [sfx_0] at this
  exact this
theorem y_often_loop (hF : 3000 ≤ F) (hM : RY N2 S2 m B T) (hT : TOK n T) (hn : n ≤ 512) (z : Int) (hz1 : -2147483648 ≤ z) (hz2 : z < 2147483648) : ∀ (k i M : Nat), i + k = (tQ T).length → k < M → ¬ (0 ≤ z ∧ z < (dD (sfx (tQ T) i)).length) →
    (∀ d, 0 ≤ z → IX (dD (tQ T)) z.toNat d → s_X12_often_L9 N2 F (s_X12_often_J32 N2 F) M m (ii z) (ii (dD (sfx (tQ T) i)).length) (ii i) S2 = some (ii ((tQ T).count d), S2)) ∧ (¬ (0 ≤ z ∧ z < (dD (tQ T)).length) → s_X12_often_L9 N2 F (s_X12_often_J32 N2 F) M m (ii z) (ii (dD (sfx (tQ T) i)).length) (ii i) S2 = some (-1, S2)) := by
  have hq := hT.2.2.2.2.2.2.2.2.1
  obtain ⟨f1, f2, f3, f4, f5, f6⟩ := y_f hM.1
  intro k
  induction k with
  | zero =>
    intro i M hi hM' hz
    obtain ⟨M', rfl⟩ : ∃ M', M = M' + 1 := ⟨M - 1, by omega⟩
    rw [show i = (tQ T).length by omega, sfx_all] at hz ⊢
    rw [s_X12_often_L9, f5, bd1_some, f6, if_pos (by decide), y_cnt3 hM, if_pos (by rw [ii_le (by omega) (by omega) (by omega) (by omega)]; omega)]
    exact ⟨fun d h0 hd => absurd ⟨h0, by have := hd.1; omega⟩ hz, fun _ => rfl⟩
  | succ k ih =>
    intro i M hi hM' hz
    obtain ⟨M', rfl⟩ : ∃ M', M = M' + 1 := ⟨M - 1, by omega⟩
    obtain ⟨a, ha⟩ := IX.ex (show i < (tQ T).length by omega)
    have hab := rs_b hT ha.mem
    obtain ⟨d1, d2⟩ := hM.2.2.2.2.2.1.get ha
    have r := ih (i + 1) M' (by omega) (by omega)
    rw [sfx_s ha, dD_s] at r
    have hdl : (dD (sfx (tQ T) i)).length ≤ i := by
      have := dD_len (sfx (tQ T) i)
      have h2 : (sfx (tQ T) i).length = i := by unfold sfx; rw [List.length_drop]; omega
      omega
    have hinj : inB (ii (i : Int)) 600 = true := in_of (z := i) rfl (by omega) (by decide)
    have hclj : (ii (i : Int)).toNatClampNeg = i := cl_of (z := i) rfl (by omega)
    have a5 := hab.2.1.2.2.2.2
    rw [s_X12_often_L9, f5, bd1_some, f6, if_pos (by decide), y_cnt3 hM, if_neg (by rw [ii_le (by omega) (by omega) (by omega) (by omega)]; omega), y_isFirst hF hM hT hn ha, bd1_some]
    unfold s_X12_often_J56
    by_cases w : a ∈ sfx (tQ T) i
    · rw [if_pos w] at r
      rw [decide_eq_true w, if_pos (show b2 (!true) = 0 from rfl), bnd_def, ofI, ii_add]
      exact r hz
    · rw [if_neg w] at r
      rw [decide_eq_false w, if_neg (show ¬ b2 (!false) = 0 by decide)]
      have c0 : (ii ((dD (sfx (tQ T) i)).length : Int) = ii z) = (((dD (sfx (tQ T) i)).length : Int) = z) := ii_eq (by omega) (by omega) hz1 hz2
      simp only [c0]
      by_cases w2 : ((dD (sfx (tQ T) i)).length : Int) = z
      · rw [if_pos w2]
        unfold s_X12_often_J32
        rw [f1, bd1_some, f3, if_pos hinj, f2, bd1_some, f4, if_pos hinj, hclj, d1, d2, jmod (show a.2.2.2.2 + 134217728 * rs (tU T) a < 9223372036854775808 by omega), addm hab.2.1, y_timesOf hF hM hT hn hab.2.1, bd1_some]
        -- the entry of a in the whole list
        have hix : IX (dD (tQ T)) z.toNat a := by
          have h0 : IX (dD (sfx (tQ T) (i + 1))) z.toNat a := by
            rw [sfx_s ha, dD_s, if_neg w, show z.toNat = (dD (sfx (tQ T) i)).length by omega]
            exact IX.top _ _
          have grow : ∀ q j, j + q = (tQ T).length → IX (dD (sfx (tQ T) j)) z.toNat a → IX (dD (tQ T)) z.toNat a := by
            intro q
            induction q with
            | zero => intro j hj h; rw [show j = (tQ T).length by omega, sfx_all] at h; exact h
            | succ q ihq =>
              intro j hj h
              obtain ⟨e, he⟩ := IX.ex (show j < (tQ T).length by omega)
              refine ihq (j + 1) (by omega) ?_
              rw [sfx_s he, dD_s]
              split
              · exact h
              · exact h.push e
          exact grow _ (i + 1) (show i + 1 + ((tQ T).length - (i + 1)) = _ by omega) h0
        constructor
        · intro d _ hd
          rw [hix.fn hd]
        · intro hno
          exact absurd ⟨by omega, by have := hix.1; omega⟩ hno
      · rw [if_neg w2, bnd_def, bnd_def, ofI, ii_add, ii_add]
        have r' := r (by simp only [List.length_cons]; omega)
        simp only [List.length_cons] at r'
        exact r'
theorem j_often (hF : 3000 ≤ F) (hX : RX N S x A b c nx T) (hM : RY N2 S2 m B T) (hT : TOK n T) (hn : n ≤ 512) (p : Int32) : ∃ v S2', s_X11_often N x p S = some v ∧ s_X12_often N2 F m p S2 = some (v, S2') ∧ YE m B S2 S2' := by
  have hq := hT.2.2.2.2.2.2.2.2.1
  obtain ⟨S1, hS1, hM1, y0⟩ := base0 hM 0
  obtain ⟨z, rfl, z1, z2⟩ := zI p
  have e1 : gR S 1102 x = some (A 3) := hX.1.2.2.1.1.2.2.2.1
  obtain ⟨g1, g2⟩ := x_oftenAt hX.1 hX.2.2.2.2.2.2.1 z z1 z2
  obtain ⟨t1, t2⟩ := y_often_loop hF hM1 hT hn z z1 z2 (tQ T).length 0 F (by omega) (by omega) (by rw [sfx_0]; simp [dD])
  rw [sfx_0] at t1 t2
  unfold s_X11_often s_X12_often
  rw [bnd_def, ← hS1, e1, bd1_some]
  by_cases w : 0 ≤ z ∧ z < (dD (tQ T)).length
  · obtain ⟨d, hd⟩ := IX.ex (show z.toNat < (dD (tQ T)).length by omega)
    rw [g1 d w.1 hd, bd1_some]
    exact ⟨_, _, rfl, t1 d w.1 hd, y0⟩
  · rw [g2 w, bd1_some]
    exact ⟨_, _, rfl, t2 w, y0⟩
end ASKS
end
section
/- what an operation may change of the model's state -/
def WF (m : Nat) (B : Nat → Nat) (S S' : HS) : Prop :=
  (∀ f p, f ≠ 1200 → f ≠ 1218 → ¬ (p = m ∧ 1220 ≤ f ∧ f ≤ 1224) → gI S' f p = gI S f p) ∧ S'.2.2.1 = S.2.2.1 ∧ (∀ p, p ≠ B 9 → p ≠ B 10 → p ≠ B 11 → p ≠ B 12 → p ≠ B 15 → aI S' p = aI S p) ∧ S'.2.2.2.2 = S.2.2.2.2
theorem WF.refl (m : Nat) (B : Nat → Nat) (S : HS) : WF m B S S := ⟨fun _ _ _ _ _ => rfl, rfl, fun _ _ _ _ _ _ => rfl, rfl⟩
theorem WF.trans {m : Nat} {B : Nat → Nat} {S S1 S2 : HS} (h1 : WF m B S S1) (h2 : WF m B S1 S2) : WF m B S S2 :=
  ⟨fun f p a b c => (h2.1 f p a b c).trans (h1.1 f p a b c), h2.2.1.trans h1.2.1, fun p a b c d e => (h2.2.2.1 p a b c d e).trans (h1.2.2.1 p a b c d e), h2.2.2.2.trans h1.2.2.2⟩
theorem YE.wf {m : Nat} {B : Nat → Nat} {S S' : HS} (h : YE m B S S') : WF m B S S' :=
  ⟨fun f p a _ c => h.1 f p a c, h.2.1, fun p a b c _ e => h.2.2.1 p a b c e, h.2.2.2.2⟩
theorem WF.row {m : Nat} {B : Nat → Nat} {S S1 : HS} (h : WF m B S S1) (i : Nat) (v : Int32) : WF m B S (wI S1 (B 11) i v) :=
  ⟨h.1, h.2.1, fun p a b c d e => (aI_wI_o S1 _ i v c).trans (h.2.2.1 p a b c d e), h.2.2.2⟩
theorem WF.mk {m : Nat} {B : Nat → Nat} {S S1 : HS} (h : WF m B S S1) (i : Nat) (v : Int32) : WF m B S (wI S1 (B 12) i v) :=
  ⟨h.1, h.2.1, fun p a b c d e => (aI_wI_o S1 _ i v d).trans (h.2.2.1 p a b c d e), h.2.2.2⟩
theorem WF.und {m : Nat} {B : Nat → Nat} {S S1 : HS} (h : WF m B S S1) (v : Int32) : WF m B S (uI S1 1218 m v) :=
  ⟨fun f p a b c => by rw [gI_uI, if_neg (fun q => b q.1)]; exact h.1 f p a b c, h.2.1, h.2.2.1, h.2.2.2⟩
theorem YW.wf {N : Nat → Nat} {S S' : HS} {m : Nat} {B : Nat → Nat} {U : UNt} (h : YW N S m B U) (hF : WF m B S S') : YW N S' m B U := by
  have hB := h.1
  have e : ∀ q, q ≠ 9 → q ≠ 10 → q ≠ 11 → q ≠ 12 → q ≠ 15 → aI S' (B q) = aI S (B q) := fun q q1 q2 q3 q4 q5 => hF.2.2.1 _ (by rw [ne_eq, hB]; exact q1) (by rw [ne_eq, hB]; exact q2) (by rw [ne_eq, hB]; exact q3) (by rw [ne_eq, hB]; exact q4) (by rw [ne_eq, hB]; exact q5)
  exact h.congr hF.2.1 (e 5 (by decide) (by decide) (by decide) (by decide) (by decide)) (e 6 (by decide) (by decide) (by decide) (by decide) (by decide)) (aJ_of hF.2.2.2 _) (aJ_of hF.2.2.2 _)
theorem RY.wf {N : Nat → Nat} {S S' : HS} {m : Nat} {B : Nat → Nat} {T : TT} (h : RY N S m B T) (hF : WF m B S S') {now : STt} {seen : List (Nat × Bool)} {und : List (STt × Bool)} {mk : Nat → Option STt}
    (h1 : YST (aI S' (B 11)) 0 (tU T) now ∧ aI S' (B 11) 3 = ii (tQ T).length) (h2 : YSN (aI S' (B 11)) seen) (h3 : gI S' 1218 m = ii und.length ∧ und.length ≤ 16 ∧ YUN (aI S' (B 11)) (tU T) (tQ T).length und) (h4 : YMK (aI S' (B 11)) (aI S' (B 12)) (tU T) mk) :
    RY N S' m B (tU T, tP T, now, tT T, seen, und, tQ T, mk) := by
  obtain ⟨a1, _, _, _, _, a6, ⟨t1, t2⟩, ⟨p1, p2⟩⟩ := h
  have hB := a1.1
  have e : ∀ q, q ≠ 9 → q ≠ 10 → q ≠ 11 → q ≠ 12 → q ≠ 15 → aI S' (B q) = aI S (B q) := fun q q1 q2 q3 q4 q5 => hF.2.2.1 _ (by rw [ne_eq, hB]; exact q1) (by rw [ne_eq, hB]; exact q2) (by rw [ne_eq, hB]; exact q3) (by rw [ne_eq, hB]; exact q4) (by rw [ne_eq, hB]; exact q5)
  have ej : ∀ q, aJ S' q = aJ S q := aJ_of hF.2.2.2
  exact ⟨a1.wf hF, h1, h2, h3, h4, a6.congr (fun i _ => ⟨by rw [ej], by rw [ej]⟩), ⟨by rw [hF.1 1202 _ (by omega) (by omega) (by omega)]; exact t1, by rw [e 0 (by decide) (by decide) (by decide) (by decide) (by decide)]; exact t2⟩, ⟨by rw [e 8 (by decide) (by decide) (by decide) (by decide) (by decide)]; exact p1, by rw [e 8 (by decide) (by decide) (by decide) (by decide) (by decide)]; exact p2⟩⟩
def zkey (U : UNt) (a : AK) : Int := if nS (vE U a.1) (vF U a.1) (rs U a) = 0 then -1 else if nInf (vK U a.1) (vE U a.1) (vF U a.1) < nS (vE U a.1) (vF U a.1) (rs U a) then -2 else (4 * rs U a + a.1 : Nat)
section J8
variable {N N2 : Nat → Nat} {F : Nat} {S S2 : HS} {x m : Nat} {A B : Nat → Nat} {b c nx n : Nat} {T : TT}
theorem y_key {f md p q : Nat} (hf : f < 4) (hm : md < 6) (hp : p < 134217728) (hq : q < 134217728) (r : Nat) : s_X12_keyOf (ii f) (ii md) (ii p) (ii q) S = jj (facK (f, md, mnN p q, mxN p q, r)) := by
  unfold s_X12_keyOf s_X12_keyOf_J10 s_X12_keyOf_J22 facK mnN mxN
  have c0 : (ii (q : Int) ≤ ii (p : Int)) = (q ≤ p) := by rw [ii_le (by omega) (by omega) (by omega) (by omega)]; apply propext; omega
  simp only [c0]
  rw [show (4 : Int64) = jj 4 from rfl, show (8 : Int64) = jj 8 from rfl, show (134217728 : Int64) = jj 134217728 from rfl]
  by_cases h : q ≤ p
  · rw [if_pos h, if_pos h, ii_jj (by omega) (by omega), ii_jj (by omega) (by omega), ii_jj (by omega) (by omega), ii_jj (by omega) (by omega), jj_mul, jj_add, jj_mul, jj_add, jj_mul, jj_add]
    congr 1
    by_cases h2 : q < p
    · rw [if_pos h2, if_neg (by omega)]; omega
    · rw [if_neg h2, if_neg (by omega)]; omega
  · rw [if_neg h, if_neg h, ii_jj (by omega) (by omega), ii_jj (by omega) (by omega), ii_jj (by omega) (by omega), ii_jj (by omega) (by omega), jj_mul, jj_add, jj_mul, jj_add, jj_mul, jj_add]
    congr 1
    rw [if_neg (by omega), if_pos (by omega)]; omega
theorem mnx_b {p q : Nat} (hp : p < 134217728) (hq : q < 134217728) : mnN p q < 134217728 ∧ mxN p q < 134217728 := by
  unfold mnN mxN; constructor <;> split <;> omega
theorem tB_27 (hT : TOK n T) (hn : vN (tU T) ≠ 0) : tB (tU T) (tN T).1 ≤ 134217728 := by
  have h1 : (tN T).1 < vN (tU T) := by rcases hT.2.1.1 with r | r; exact r; exact absurd r.1 hn
  have hs := sb_le (hT.1.2.2.2 _ h1)
  unfold tB; rw [Nat.pow_succ]; omega
theorem j_times (hF : 3000 ≤ F) (hX : RX N S x A b c nx T) (hM : RY N2 S2 m B T) (hT : TOK n T) (hn5 : n ≤ 512) (p q r md : Int32) : ∃ v S2', s_X11_times N F x p q r md S = some v ∧ s_X12_times N2 F m p q r md S2 = some (v, S2') ∧ YE m B S2 S2' := by
  obtain ⟨S1, hS1, hM1, y0⟩ := base0 hM 0
  obtain ⟨g1, g2⟩ := x_hold hX.1 hX.2.1 hT.2.1 p
  obtain ⟨z, rfl, z1, z2⟩ := zI md
  unfold s_X11_times s_X12_times
  rw [bnd_def, ← hS1, y_areBits hM1.1 hM1.2.1.1 hT.2.1, bd1_some, y_w5 z z1 z2, x_isMode z z1 z2]
  simp only [b2_0, decide_eq_false_iff_not]
  cases hh : hld (tU T) (tN T) p
  · rw [g1 hh, bd1_some, mq_none, if_pos (by simp)]; exact ⟨_, _, rfl, rfl, y0⟩
  obtain ⟨o, o1, o2, o3⟩ := g2 hh
  have hn := hld_n hh
  rw [o1, bd1_some, mq_some, x_holds o2 o3 hn, x_holds o2 o3 hn]
  simp only [b2_0]
  cases hq : hld (tU T) (tN T) q
  · rw [if_pos rfl, if_pos (by simp)]; exact ⟨_, _, rfl, rfl, y0⟩
  cases hr : hld (tU T) (tN T) r
  · rw [if_neg tf, if_pos rfl, if_pos (by simp)]; exact ⟨_, _, rfl, rfl, y0⟩
  rw [if_neg tf, if_neg tf, if_neg (show ¬ ((true && true && true) = false) by decide)]
  by_cases w : 0 ≤ z ∧ z < 6
  · obtain ⟨k, rfl⟩ : ∃ k : Nat, z = k := ⟨z.toNat, by omega⟩
    obtain ⟨u, rfl, hu, _, h1⟩ := hld_ex hT.2.1 hh
    obtain ⟨v, rfl, hv, _, _⟩ := hld_ex hT.2.1 hq
    obtain ⟨y, rfl, hy, _, _⟩ := hld_ex hT.2.1 hr
    have h27 := tB_27 hT hn
    have h4 := hT.1.1
    obtain ⟨_, fo, mu, hus, _⟩ := base1 hM1 hT hn
    have mb := mnx_b (show u < 134217728 by omega) (show v < 134217728 by omega)
    have hak : AKok ((tN T).1, k, mnN u v, mxN u v, y) := ⟨by show (tN T).1 < 4; omega, by show k < 6; omega, mb.1, mb.2, by show y < 134217728; omega⟩
    have e1 : gR S 1102 x = some (A 3) := hX.1.2.2.1.1.2.2.2.1
    obtain ⟨_, a2, _⟩ := x_add hX
    have e7 : gI S 701 (A 16) = ii ((tN T).1 : Int) := by rw [hX.2.1.1]; unfold fI; rw [if_neg hn]
    obtain ⟨zz, f1, f2⟩ := x_find (F := F) (f := (tN T).1) (md := k) (p := u) (q := v) (c := y) (by omega) hX.1 hX.2.2.2.2.2.2.1 (by omega) (by omega) hak
    rw [if_neg (fun q => q w), if_neg (fun q => q w), e1, bd1_some, a2, bd1_some, e7, f1, bd1_some, bd1_some, hus, bd1_some, y_key (by omega) (by omega) (by omega) (by omega) y, ii_jj (by omega) (by omega)]
    have ht := y_timesOf hF hM1 hT hn5 hak
    rw [show s_X12_timesOf N2 F m (jj (facK ((tN T).1, k, mnN u v, mxN u v, y))) (jj (y : Int)) S1 = some (ii ((tQ T).count ((tN T).1, k, mnN u v, mxN u v, y))) from ht, bd1_some]
    have hdl := dD_len (tQ T)
    have hql := hT.2.2.2.2.2.2.2.2.1
    rcases f2 with ⟨q1, q2⟩ | ⟨j, q1, q2⟩
    · subst q1
      rw [if_pos (show ii (-1) = (-1 : Int32) from rfl)]
      rw [dD_mem] at q2
      rw [List.count_eq_zero.mpr q2]
      exact ⟨_, _, rfl, rfl, y0⟩
    · have hjl := q2.1
      subst q1
      rw [if_neg (by rw [show ((-1 : Int32)) = ii (-1) from rfl, ii_eq (by omega) (by omega) (by omega) (by omega)]; omega)]
      obtain ⟨o1, _⟩ := x_oftenAt hX.1 hX.2.2.2.2.2.2.1 (j : Int) (by omega) (by omega)
      rw [o1 _ (by omega) (by simpa using q2), bd1_some]
      exact ⟨_, _, rfl, rfl, y0⟩
  · rw [if_pos w, if_pos w]; exact ⟨_, _, rfl, rfl, y0⟩
/- results -/
theorem y_resultOf (hM : RY N2 S2 m B T) (hT : TOK n T) (hn5 : n ≤ 512) {i : Nat} {a : AK} (hi : IX (tQ T) i a) : ∃ z : Int, s_X12_resultOf N2 m (ii i) S2 = some (ii z) ∧ -2 ≤ z ∧ z < 1000000000 ∧ z = zkey (tU T) a := by
  have hq := hT.2.2.2.2.2.2.2.2.1
  have hil := hi.1
  obtain ⟨f1, f2, f3, f4, f5, f6⟩ := y_f hM.1
  have ha := rs_b hT hi.mem
  obtain ⟨mu, fo⟩ := y_mu hM.1 ha.2.2
  obtain ⟨e1, e2⟩ := hM.2.2.2.2.2.1.get hi
  have hini : inB (ii (i : Int)) 600 = true := in_of (z := i) rfl (by omega) (by decide)
  have hcli : (ii (i : Int)).toNatClampNeg = i := cl_of (z := i) rfl (by omega)
  have ka := facK_b ha.2.1
  have a1 := ha.2.1.1
  have a5 := ha.2.1.2.2.2.2
  have hrb : rs (tU T) a < 2 ^ (vE (tU T) a.1 + vF (tU T) a.1 + 1) := (sumF_b fo).1
  have hcl := @nCl_le (vK (tU T) a.1) (vE (tU T) a.1) (vF (tU T) a.1) (rs (tU T) a)
  have c4 := nCl_4 (b := rs (tU T) a) fo
  have c0 := @nCl_0 (vK (tU T) a.1) (vE (tU T) a.1) (vF (tU T) a.1) (rs (tU T) a)
  refine ⟨zkey (tU T) a, ?_, ?_, ?_, rfl⟩
  · unfold s_X12_resultOf
    rw [f1, bd1_some, f3, if_pos hini, hcli, e1, bnd_def, f2, bd1_some, f4, if_pos hini, e2, bnd_def]
    rw [show (4 : Int64) = jj 4 from rfl, jj_div (by omega) (by omega) (by omega) (by omega), jj_mul, jj_sub, jj_ii, show (134217728 : Int64) = jj 134217728 from rfl, jj_div (by omega) (by omega) (by omega) (by omega), jj_ii]
    rw [show (facK a : Int) - (facK a : Int) / 4 * 4 = (a.1 : Int) by unfold facK; omega, show ((a.2.2.2.2 + 134217728 * rs (tU T) a : Nat) : Int) / 134217728 = (rs (tU T) a : Int) by omega]
    rw [y_classOf mu fo hrb, bd1_some]
    have w0 : (ii ((nCl (vK (tU T) a.1) (vE (tU T) a.1) (vF (tU T) a.1) (rs (tU T) a) : Nat) : Int) = (0 : Int32)) = (nS (vE (tU T) a.1) (vF (tU T) a.1) (rs (tU T) a) = 0) := by
      rw [k0, ii_eq (by omega) (by omega) (by omega) (by omega)]; apply propext; rw [← c0]; omega
    have w4 : (ii ((nCl (vK (tU T) a.1) (vE (tU T) a.1) (vF (tU T) a.1) (rs (tU T) a) : Nat) : Int) = (4 : Int32)) = (nInf (vK (tU T) a.1) (vE (tU T) a.1) (vF (tU T) a.1) < nS (vE (tU T) a.1) (vF (tU T) a.1) (rs (tU T) a)) := by
      rw [k4, ii_eq (by omega) (by omega) (by omega) (by omega)]; apply propext; rw [← c4]; omega
    simp only [w0, w4]
    unfold zkey
    by_cases q1 : nS (vE (tU T) a.1) (vF (tU T) a.1) (rs (tU T) a) = 0
    · rw [if_pos q1, if_pos q1]; rfl
    · rw [if_neg q1, if_neg q1]
      by_cases q2 : nInf (vK (tU T) a.1) (vE (tU T) a.1) (vF (tU T) a.1) < nS (vE (tU T) a.1) (vF (tU T) a.1) (rs (tU T) a)
      · rw [if_pos q2, if_pos q2]; rfl
      · rw [if_neg q2, if_neg q2, k4, ii_mul, ii_add]; rfl
  · unfold zkey
    split
    · omega
    · split <;> omega
  · unfold zkey
    split
    · omega
    · split
      · omega
      · have := ha.1; omega
theorem zk_rk {U : UNt} {a d : AK} (h1 : rs U a < 134217728 ∧ a.1 < 4) (h2 : rs U d < 134217728 ∧ d.1 < 4) : zkey U a = zkey U d ↔ rkey U a = rkey U d := by
  unfold zkey rkey keyN
  by_cases q1 : nS (vE U a.1) (vF U a.1) (rs U a) = 0 <;> by_cases q2 : nInf (vK U a.1) (vE U a.1) (vF U a.1) < nS (vE U a.1) (vF U a.1) (rs U a) <;> by_cases q3 : nS (vE U d.1) (vF U d.1) (rs U d) = 0 <;> by_cases q4 : nInf (vK U d.1) (vE U d.1) (vF U d.1) < nS (vE U d.1) (vF U d.1) (rs U d) <;> simp only [q1, q2, q3, q4, if_true, if_false] <;> omega
theorem y_res_inner (hM : RY N2 S2 m B T) (hT : TOK n T) (hn5 : n ≤ 512) {i : Nat} {a : AK} (hi : IX (tQ T) i a) (v1 : Int32) (cont : Nat → Int32 → Int32 → Int32 → HS → Option (Int32 × HS)) : ∀ (k j M : Nat) (w : Bool), j + k = i → k < M → (w = true ↔ ¬ ∃ q d, q < j ∧ IX (tQ T) q d ∧ rkey (tU T) d = rkey (tU T) a) →
    s_X12_results_L24 N2 F cont M m v1 (ii i) (b2 w) (ii j) S2 = cont m v1 (ii i) (b2 (isnew (tU T) a (sfx (tQ T) i))) S2 := by
  have hq := hT.2.2.2.2.2.2.2.2.1
  have hil := hi.1
  have ha := rs_b hT hi.mem
  obtain ⟨za, za1, za2, za3, za4⟩ := y_resultOf hM hT hn5 hi
  have hfin : ∀ w : Bool, (w = true ↔ ¬ ∃ q d, q < i ∧ IX (tQ T) q d ∧ rkey (tU T) d = rkey (tU T) a) → w = isnew (tU T) a (sfx (tQ T) i) := by
    intro w hw
    unfold isnew
    rw [Bool.eq_iff_iff, hw, Bool.not_eq_true', ← Bool.not_eq_true, List.any_eq_true]
    apply not_congr
    constructor
    · rintro ⟨q, d, q1, q2, q3⟩
      exact ⟨d, (sfx_mem (by omega)).mpr ⟨q, q1, q2⟩, by simpa using q3⟩
    · rintro ⟨d, q1, q2⟩
      obtain ⟨q, q3, q4⟩ := (sfx_mem (by omega)).mp q1
      exact ⟨q, d, q3, q4, by simpa using q2⟩
  intro k
  induction k with
  | zero =>
    intro j M w hj hM' hw
    obtain ⟨M', rfl⟩ : ∃ M', M = M' + 1 := ⟨M - 1, by omega⟩
    rw [s_X12_results_L24, if_pos (by rw [ii_le (by omega) (by omega) (by omega) (by omega)]; omega)]
    rw [show j = i by omega] at hw
    rw [hfin w hw]
  | succ k ih =>
    intro j M w hj hM' hw
    obtain ⟨M', rfl⟩ : ∃ M', M = M' + 1 := ⟨M - 1, by omega⟩
    rw [s_X12_results_L24, if_neg (by rw [ii_le (by omega) (by omega) (by omega) (by omega)]; omega)]
    simp only [b2_0]
    cases w
    · rw [if_pos rfl]
      obtain ⟨q, d, q1, q2, q3⟩ : ∃ q d, q < j ∧ IX (tQ T) q d ∧ rkey (tU T) d = rkey (tU T) a := Classical.byContradiction (fun h2 => by have := hw.mpr h2; cases this)
      rw [hfin false ⟨fun h => (by cases h), fun h => absurd ⟨q, d, by omega, q2, q3⟩ h⟩]
    · rw [if_neg tf]
      obtain ⟨d, hd⟩ := IX.ex (show j < (tQ T).length by omega)
      have hdb := rs_b hT hd.mem
      obtain ⟨zd, zd1, zd2, zd3, zd4⟩ := y_resultOf hM hT hn5 hd
      have hzk : zd = za ↔ rkey (tU T) d = rkey (tU T) a := by
        rw [zd4, za4]
        exact zk_rk ⟨hdb.1, hdb.2.1.1⟩ ⟨ha.1, ha.2.1.1⟩
      rw [zd1, bd1_some, za1, bd1_some]
      unfold s_X12_results_J53
      rw [bnd_def, bnd_def, ofI, ii_add]
      have c0 : (ii zd = ii za) = (zd = za) := ii_eq (by omega) (by omega) (by omega) (by omega)
      simp only [c0]
      have hno := hw.mp rfl
      by_cases w1 : zd = za
      · rw [if_pos w1]
        exact ih (j + 1) M' false (by omega) (by omega) ⟨fun h => (by cases h), fun h => absurd ⟨j, d, by omega, hd, hzk.mp w1⟩ h⟩
      · rw [if_neg w1]
        refine ih (j + 1) M' true (by omega) (by omega) ⟨fun _ => ?_, fun _ => rfl⟩
        rintro ⟨q, e, q1, q2, q3⟩
        by_cases hqj : q = j
        · subst hqj; rw [← hd.fn q2] at q3; exact w1 (hzk.mpr q3)
        · exact hno ⟨q, e, by omega, q2, q3⟩
theorem y_res_loop (hF : 3000 ≤ F) (hM : RY N2 S2 m B T) (hT : TOK n T) (hn5 : n ≤ 512) : ∀ (k i M : Nat), i + k = (tQ T).length → k < M →
    s_X12_results_L9 N2 F M m (ii (bN (tU T) (dD (sfx (tQ T) i)))) (ii i) S2 = some (ii (bN (tU T) (dD (tQ T))), S2) := by
  have hq := hT.2.2.2.2.2.2.2.2.1
  obtain ⟨f1, f2, f3, f4, f5, f6⟩ := y_f hM.1
  intro k
  induction k with
  | zero =>
    intro i M hi hM'
    obtain ⟨M', rfl⟩ : ∃ M', M = M' + 1 := ⟨M - 1, by omega⟩
    rw [s_X12_results_L9, f5, bd1_some, f6, if_pos (by decide), y_cnt3 hM, if_pos (by rw [ii_le (by omega) (by omega) (by omega) (by omega)]; omega), show i = (tQ T).length by omega, sfx_all]
  | succ k ih =>
    intro i M hi hM'
    obtain ⟨M', rfl⟩ : ∃ M', M = M' + 1 := ⟨M - 1, by omega⟩
    obtain ⟨a, ha⟩ := IX.ex (show i < (tQ T).length by omega)
    have r := ih (i + 1) M' (by omega) (by omega)
    rw [sfx_s ha, dD_s] at r
    rw [s_X12_results_L9, f5, bd1_some, f6, if_pos (by decide), y_cnt3 hM, if_neg (by rw [ii_le (by omega) (by omega) (by omega) (by omega)]; omega)]
    have e := y_res_inner (F := F) hM hT hn5 ha (ii (bN (tU T) (dD (sfx (tQ T) i)))) (s_X12_results_J60 N2 F (s_X12_results_L9 N2 F M')) i 0 F true (by omega) (by omega) ⟨fun _ => by rintro ⟨q, _, q1, _⟩; omega, fun _ => rfl⟩
    rw [show s_X12_results_L24 N2 F (s_X12_results_J60 N2 F (s_X12_results_L9 N2 F M')) F m (ii (bN (tU T) (dD (sfx (tQ T) i)))) (ii i) 1 0 S2 = s_X12_results_L24 N2 F (s_X12_results_J60 N2 F (s_X12_results_L9 N2 F M')) F m (ii (bN (tU T) (dD (sfx (tQ T) i)))) (ii i) (b2 true) (ii (0 : Nat)) S2 from rfl, e]
    unfold s_X12_results_J60 s_X12_results_J70
    rw [k0, k1]
    simp only [bnd_def, ofI, ii_add]
    by_cases w : a ∈ sfx (tQ T) i
    · rw [if_pos w] at r
      have : isnew (tU T) a (sfx (tQ T) i) = false := by
        unfold isnew
        rw [Bool.not_eq_false', List.any_eq_true]
        exact ⟨a, w, by simp⟩
      rw [this, if_pos (show b2 false = ii 0 from rfl), Int.add_zero]; exact r
    · rw [if_neg w] at r
      have hsame : isnew (tU T) a (sfx (tQ T) i) = isnew (tU T) a (dD (sfx (tQ T) i)) := by
        unfold isnew
        congr 1
        rw [Bool.eq_iff_iff, List.any_eq_true, List.any_eq_true]
        simp only [dD_mem]
      have eb : bN (tU T) (a :: dD (sfx (tQ T) i)) = bN (tU T) (dD (sfx (tQ T) i)) + (if isnew (tU T) a (dD (sfx (tQ T) i)) = true then 1 else 0) := rfl
      rw [eb, ← hsame] at r
      cases hw : isnew (tU T) a (sfx (tQ T) i)
      · rw [hw] at r; rw [if_pos (show b2 false = ii 0 from rfl), Int.add_zero]; exact r
      · rw [hw] at r; rw [if_neg (show ¬ b2 true = ii 0 by decide)]; exact r
theorem j_results (hF : 3000 ≤ F) (hX : RX N S x A b c nx T) (hM : RY N2 S2 m B T) (hT : TOK n T) (hn5 : n ≤ 512) : ∃ v S2', s_X11_results x S = some v ∧ s_X12_results N2 F m S2 = some (v, S2') ∧ YE m B S2 S2' := by
  have hq := hT.2.2.2.2.2.2.2.2.1
  obtain ⟨S1, hS1, hM1, y0⟩ := base0 hM 0
  have e1 : gR S 1102 x = some (A 3) := hX.1.2.2.1.1.2.2.2.1
  unfold s_X11_results s_X12_results
  rw [bnd_def, ← hS1, e1, bd1_some, hX.2.2.2.2.2.2.1.2.2.1]
  have := y_res_loop hF hM1 hT hn5 (tQ T).length 0 F (by omega) (by omega)
  rw [sfx_0] at this
  exact ⟨_, _, rfl, this, y0⟩
end J8
end
section
theorem aI_uI0 (S : HS) (f a : Nat) (v : Int32) : aI (uI S f a v) = aI S := rfl
section J9
variable {N N2 : Nat → Nat} {F : Nat} {S S2 : HS} {x m : Nat} {A B : Nat → Nat} {b c nx n : Nat} {T : TT}
theorem j_reg (hX : RX N S x A b c nx T) (hM : RY N2 S2 m B T) (hT : TOK n T) (p : Int32) : ∃ v S2', s_X11_reg N x p S = some v ∧ s_X12_reg N2 m p S2 = some (v, S2') ∧ YE m B S2 S2' := by
  obtain ⟨S1, hS1, hM1, y0⟩ := base0 hM 0
  obtain ⟨u1, u2⟩ := x_inUse hX.1 hX.2.1 hT.2.1
  obtain ⟨z, rfl, z1, z2⟩ := zI p
  obtain ⟨a1, a2, a3, a4, a5, a6⟩ := x_add hX
  have hr6 := hT.1.2.1
  have h4 := hT.1.1
  unfold s_X11_reg s_X12_reg
  rw [bnd_def, ← hS1]
  by_cases hn : vN (tU T) = 0
  · rw [u1 hn, bd1_some, mq_none, y_used hM1.1 hM1.2.1.1, bd1_some, show fI (tU T) (tN T).1 = -1 from if_pos hn, if_pos (by decide)]; exact ⟨_, _, rfl, rfl, y0⟩
  obtain ⟨o, o1, o2, o3⟩ := u2 hn
  obtain ⟨h1, _, _, hus, _⟩ := base1 hM1 hT hn
  rw [o1, bd1_some, mq_some, x_isReg hX.1 z z1 z2, bd1_some, hus, bd1_some, if_neg (show ¬ ii ((tN T).1 : Int) < 0 by rw [k0, ii_lt (by omega) (by omega) (by omega) (by omega)]; omega), y_isReg hM1.1 z z1 z2, bd1_some]
  simp only [b2_0, decide_eq_false_iff_not]
  by_cases w : 0 ≤ z ∧ z < vR (tU T)
  · obtain ⟨r, rfl⟩ : ∃ r : Nat, z = r := ⟨z.toNat, by omega⟩
    obtain ⟨g1, g2, g3⟩ := y_reg hM1 (show r < 6 by omega)
    have e4 : (4 : Int32) + ii (r : Int) = ii ((4 + r : Nat) : Int) := by rw [k4, ii_add]; rfl
    rw [if_neg (fun q => q w), if_neg (fun q => q w), a2, bd1_some, x_read hX.1 hX.2.1 (by decide) r (by omega), bd1_some, g1, bd1_some, e4, if_pos g2, g3]
    exact ⟨_, _, rfl, rfl, y0⟩
  · rw [if_pos w, if_pos w]; exact ⟨_, _, rfl, rfl, y0⟩
theorem j_form (hX : RX N S x A b c nx T) (hM : RY N2 S2 m B T) (hT : TOK n T) (p r : Int32) : ∃ v S2', s_X11_form N x p r S = some v ∧ s_X12_form N2 m p r S2 = some (v, S2') ∧ YE m B S2 S2' := by
  obtain ⟨S1, hS1, hM1, y0⟩ := base0 hM 0
  obtain ⟨z, rfl, z1, z2⟩ := zI p
  obtain ⟨a1, a2, a3, a4, a5, a6⟩ := x_add hX
  obtain ⟨f1, f2⟩ := x_formAt hX.1 z z1 z2
  unfold s_X11_form s_X12_form
  rw [bnd_def, ← hS1, a6, bd1_some, y_isForm hM1.1 z z1 z2, bd1_some]
  simp only [b2_0, decide_eq_false_iff_not]
  by_cases w : 0 ≤ z ∧ z < vN (tU T)
  · obtain ⟨o, o1, o2⟩ := f2 w
    obtain ⟨g, rfl⟩ : ∃ g : Nat, z = g := ⟨z.toNat, by omega⟩
    have o3 : FM S o (vK (tU T) g) (vE (tU T) g) (vF (tU T) g) := by simpa using o2
    obtain ⟨mu, fo⟩ := y_mu (f := g) hM1.1 (by omega)
    rw [o1, bd1_some, mq_some, if_neg (show ¬ ¬ (0 ≤ (g : Int) ∧ (g : Int) < vN (tU T)) from fun q => q w), y_kindOf mu, bd1_some, y_expOf mu, bd1_some, y_fracOf mu, bd1_some, y_biasOf mu fo, bd1_some, y_greatestOf mu fo, bd1_some, y_nanOf mu fo, bd1_some]
    obtain ⟨q0, q1, q2, q3, q4, q5, q6, q7⟩ := o3
    rw [q0, q1, q2, q3, q6, q7]
    split
    · exact ⟨_, _, rfl, rfl, y0⟩
    · split
      · exact ⟨_, _, rfl, rfl, y0⟩
      · split
        · exact ⟨_, _, rfl, rfl, y0⟩
        · split
          · exact ⟨_, _, rfl, rfl, y0⟩
          · split
            · exact ⟨_, _, rfl, rfl, y0⟩
            · split
              · exact ⟨_, _, rfl, rfl, y0⟩
              · exact ⟨_, _, rfl, rfl, y0⟩
  · rw [f1 w, bd1_some, mq_none, if_pos w]; exact ⟨_, _, rfl, rfl, y0⟩
theorem j_count (hX : RX N S x A b c nx T) (hM : RY N2 S2 m B T) (hT : TOK n T) (p : Int32) : ∃ v S2', s_X11_count x p S = some v ∧ s_X12_count N2 m p S2 = some (v, S2') ∧ YE m B S2 S2' := by
  obtain ⟨S1, hS1, hM1, y0⟩ := base0 hM 0
  obtain ⟨a1, a2, a3, a4, a5, a6⟩ := x_add hX
  obtain ⟨m1, m2⟩ := y_st hM1.1
  unfold s_X11_count s_X12_count
  rw [bnd_def, ← hS1]
  have e0 : gI S 903 (A (23 + 4 * b)) = ii (vN (tU T)) := hX.1.2.2.2.1.2.2.2.1
  have e1 : gI S 904 (A (23 + 4 * b)) = ii (vR (tU T)) := hX.1.2.2.2.1.2.2.2.2.1
  have p1 : gR S 1113 x = some (A (31 + 2 * c)) := hX.2.2.2.1.2.1
  have p2 : gI S 501 (A (31 + 2 * c)) = ii (tP T).length := hX.2.2.2.1.2.2.2.1
  have q1 : gR S 1103 x = some (A 13) := hX.1.2.2.1.1.2.2.2.2.1
  have q2 : gR S 1100 x = some (A 0) := hX.1.2.2.1.1.1
  have l1 : gR S1 1214 m = some (B 8) := hM1.1.2.1.2.1.1
  have l2 : N2 (B 8) = 310 := hM1.1.2.1.2.2.2.1
  have l3 : aI S1 (B 8) ((0 : Int32).toNatClampNeg) = ii (tP T).length := hM1.2.2.2.2.2.2.2.1
  have w1 : aI S1 (B 11) ((1 : Int32).toNatClampNeg) = ii (tN T).2.1 := hM1.2.1.1.2.1
  have w2 : aI S1 (B 11) ((2 : Int32).toNatClampNeg) = ii (tN T).2.2.1 := hM1.2.1.1.2.2.1
  have w10 : aI S1 (B 11) ((10 : Int32).toNatClampNeg) = ii (tS T).length := hM1.2.2.1.1
  rw [a6, bd1_some, bd1_some, e0, e1, y_forms hM1.1, bd1_some, y_regs hM1.1, bd1_some, a2, bd1_some, bd1_some, bd1_some, hX.2.1.1, a3, hX.2.1.2.2.1, y_used hM1.1 hM1.2.1.1, bd1_some, m1, bd1_some, bd1_some, bd1_some, m2, if_pos (show inB (1 : Int32) 616 = true by decide), if_pos (show inB (2 : Int32) 616 = true by decide), if_pos (show inB (10 : Int32) 616 = true by decide), w1, w2, w10, p1, bd1_some, p2, l1, bd1_some, l2, if_pos (show inB (0 : Int32) 310 = true by decide), l3, hX.2.2.2.2.1.1, q1, bd1_some, hX.2.2.2.2.2.1.2.1, hM1.2.2.2.1.1, q2, bd1_some, hX.2.2.1.1, hM1.2.2.2.2.2.2.1.1]
  by_cases h0 : p = 0
  · rw [if_pos h0, if_pos h0]; exact ⟨_, _, rfl, rfl, y0⟩
  rw [if_neg h0, if_neg h0]
  by_cases h1 : p = 1
  · rw [if_pos h1, if_pos h1]; exact ⟨_, _, rfl, rfl, y0⟩
  rw [if_neg h1, if_neg h1]
  by_cases h2 : p = 2
  · rw [if_pos h2, if_pos h2]; exact ⟨_, _, rfl, rfl, y0⟩
  rw [if_neg h2, if_neg h2]
  by_cases h3 : p = 3
  · rw [if_pos h3, if_pos h3]; exact ⟨_, _, rfl, rfl, y0⟩
  rw [if_neg h3, if_neg h3]
  by_cases h4 : p = 4
  · rw [if_pos h4, if_pos h4]; exact ⟨_, _, rfl, rfl, y0⟩
  rw [if_neg h4, if_neg h4]
  by_cases h5 : p = 5
  · rw [if_pos h5, if_pos h5]; exact ⟨_, _, rfl, rfl, y0⟩
  rw [if_neg h5, if_neg h5]
  by_cases h6 : p = 6
  · rw [if_pos h6, if_pos h6]; exact ⟨_, _, rfl, rfl, y0⟩
  rw [if_neg h6, if_neg h6]
  by_cases h7 : p = 7
  · rw [if_pos h7, if_pos h7]; exact ⟨_, _, rfl, rfl, y0⟩
  rw [if_neg h7, if_neg h7]
  by_cases h8 : p = 8
  · rw [if_pos h8, if_pos h8]; exact ⟨_, _, rfl, rfl, y0⟩
  rw [if_neg h8, if_neg h8]
  exact ⟨_, _, rfl, rfl, y0⟩
theorem j_join (hX : RX N S x A b c nx T) (hM : RY N2 S2 m B T) (hT : TOK n T) (p q r : Int32) : ∃ v S2', s_X11_join N x p q r S = some v ∧ s_X12_join N2 m p q r S2 = some (v, S2') ∧ YE m B S2 S2' := by
  obtain ⟨S1, hS1, hM1, y0⟩ := base0 hM 0
  obtain ⟨u1, u2⟩ := x_inUse hX.1 hX.2.1 hT.2.1
  obtain ⟨zp, rfl, p1, p2⟩ := zI p
  obtain ⟨zq, rfl, q1, q2⟩ := zI q
  obtain ⟨zr, rfl, r1, r2⟩ := zI r
  have h4 := hT.1.1
  unfold s_X11_join s_X12_join s_X11_join_J68
  rw [bnd_def, ← hS1]
  by_cases hn : vN (tU T) = 0
  · rw [u1 hn, bd1_some, mq_none, y_used hM1.1 hM1.2.1.1, bd1_some, show fI (tU T) (tN T).1 = -1 from if_pos hn, if_pos (by decide)]; exact ⟨_, _, rfl, rfl, y0⟩
  obtain ⟨o, o1, o2, o3⟩ := u2 hn
  obtain ⟨h1, fo, mu, hus, _⟩ := base1 hM1 hT hn
  have he : 4 ≤ 2 ^ (vE (tU T) (tN T).1) := Nat.pow_le_pow_right (n := 2) (by decide) fo.2.1
  have he2 : 2 ^ (vE (tU T) (tN T).1) ≤ 256 := Nat.pow_le_pow_right (n := 2) (by decide) fo.2.2.1
  have hf := fr_le fo
  have hs := sb_le fo
  have o3e := fo.2.2.1
  have o5 := fo.2.2.2.2
  have ewp : s_X12_within (ii zp) 0 1 S1 = b2 (decide (0 ≤ zp ∧ zp ≤ 1)) := y_within zp 0 1 p1 p2 (by omega) (by omega) (by omega) (by omega)
  have ewq : s_X12_within (ii zq) 0 (ii (2 ^ (vE (tU T) (tN T).1) - 1 : Nat)) S1 = b2 (decide (0 ≤ zq ∧ zq ≤ (2 ^ (vE (tU T) (tN T).1) - 1 : Nat))) := y_within zq 0 _ q1 q2 (by omega) (by omega) (by omega) (by omega)
  have em : (1 : Int32) <<< (ii ((vF (tU T) (tN T).1 : Nat) : Int) &&& 31) - 1 = ii ((2 ^ (vF (tU T) (tN T).1) - 1 : Nat)) := by
    rw [one_shl (by omega), k1, ii_sub]; congr 1; omega
  have ewr : s_X12_within (ii zr) 0 (ii (2 ^ (vF (tU T) (tN T).1) - 1 : Nat)) S1 = b2 (decide (0 ≤ zr ∧ zr ≤ (2 ^ (vF (tU T) (tN T).1) - 1 : Nat))) := y_within zr 0 _ r1 r2 (by omega) (by omega) (by omega) (by omega)
  obtain ⟨f0, f1, f2, f3, f4, _⟩ := o2
  have cp0 : (ii zp < (0 : Int32)) = (zp < 0) := ii_lt (b := 0) p1 p2 (by omega) (by omega)
  have cp1 : ((1 : Int32) < ii zp) = (1 < zp) := ii_lt (a := 1) (by omega) (by omega) p1 p2
  have cp2 : (ii zp = (1 : Int32)) = (zp = 1) := ii_eq (b := 1) p1 p2 (by omega) (by omega)
  have cq0 : (ii zq < (0 : Int32)) = (zq < 0) := ii_lt (b := 0) q1 q2 (by omega) (by omega)
  have cq1 : (ii zq < ii ((2 ^ (vE (tU T) (tN T).1) : Nat) : Int)) = (zq < (2 ^ (vE (tU T) (tN T).1) : Nat)) := ii_lt q1 q2 (by omega) (by omega)
  have cr0 : (ii zr < (0 : Int32)) = (zr < 0) := ii_lt (b := 0) r1 r2 (by omega) (by omega)
  have cr1 : (ii zr < ii ((2 ^ (vF (tU T) (tN T).1) : Nat) : Int)) = (zr < (2 ^ (vF (tU T) (tN T).1) : Nat)) := ii_lt r1 r2 (by omega) (by omega)
  rw [o1, bd1_some, mq_some, hus, bd1_some, if_neg (show ¬ ii ((tN T).1 : Int) < 0 by rw [k0, ii_lt (by omega) (by omega) (by omega) (by omega)]; omega), ewp, y_topOf mu fo, bd1_some, ewq, y_fracOf mu, bd1_some, em, ewr, y_signOf mu fo, bd1_some, bd1_some, f1, f2, f4, one_shl (by omega), one_shl (by omega)]
  simp only [cp0, cp1, cp2, cq0, cq1, cr0, cr1, b2_0, decide_eq_false_iff_not]
  generalize vE (tU T) (tN T).1 = e at *
  generalize vF (tU T) (tN T).1 = fr at *
  by_cases wp : 0 ≤ zp ∧ zp ≤ 1
  · rw [if_neg (show ¬ zp < 0 by omega), if_neg (show ¬ 1 < zp by omega), if_neg (show ¬ ¬ (0 ≤ zp ∧ zp ≤ 1) from fun q => q wp)]
    by_cases wq : 0 ≤ zq ∧ zq ≤ (2 ^ e - 1 : Nat)
    · rw [if_neg (show ¬ zq < 0 by omega), if_pos (show zq < (2 ^ e : Nat) by omega), if_neg (show ¬ ¬ (0 ≤ zq ∧ zq ≤ ((2 ^ e - 1 : Nat) : Int)) from fun q => q wq)]
      by_cases wr : 0 ≤ zr ∧ zr ≤ (2 ^ fr - 1 : Nat)
      · rw [if_neg (show ¬ zr < 0 by omega), if_pos (show zr < (2 ^ fr : Nat) by omega), if_neg (show ¬ ¬ (0 ≤ zr ∧ zr ≤ ((2 ^ fr - 1 : Nat) : Int)) from fun q => q wr)]
        obtain ⟨ex, rfl⟩ : ∃ ex : Nat, zq = ex := ⟨zq.toNat, by omega⟩
        obtain ⟨fx, rfl⟩ : ∃ fx : Nat, zr = fx := ⟨zr.toNat, by omega⟩
        have hfx : fx < 2 ^ fr := by omega
        have hex : ex * 2 ^ fr < 2 ^ (e + fr) := by rw [pw_split]; exact Nat.mul_lt_mul_of_pos_right (by omega) (Nat.two_pow_pos _)
        have e1 : ii (ex : Int) <<< (ii (fr : Int) &&& 31) = ii (ex * 2 ^ fr : Nat) := by rw [ii_shl _ (by omega), Int.natCast_mul]
        rw [e1]
        by_cases w1 : zp = 1
        · subst w1
          rw [if_pos rfl, ii_or, ii_or, ii_mul, ii_add, ii_add]
          refine ⟨_, _, rfl, ?_, y0⟩
          congr 3
          have a1 : 2 ^ (e + fr) ||| ex * 2 ^ fr = 2 ^ (e + fr) + ex * 2 ^ fr := by
            have := or_dis (b := 1) hex
            rw [Nat.one_mul] at this; exact this
          have a2 : 2 ^ (e + fr) + ex * 2 ^ fr = (2 ^ e + ex) * 2 ^ fr := by rw [Nat.add_mul, pw_split]
          rw [a1, a2, or_dis hfx, ← a2]
          omega
        · have : zp = 0 := by omega
          subst this
          rw [if_neg (by omega), show ((0 : Int32)) = ii (0 : Nat) from rfl, ii_or, ii_or, Nat.zero_or, or_dis hfx, ii_mul, ii_add, ii_add]
          refine ⟨_, _, rfl, ?_, y0⟩
          congr 3
          omega
      · rw [if_pos wr]
        by_cases w1 : zr < 0
        · rw [if_pos w1]; exact ⟨_, _, rfl, rfl, y0⟩
        · rw [if_neg w1, if_neg (show ¬ zr < (2 ^ fr : Nat) by omega)]; exact ⟨_, _, rfl, rfl, y0⟩
    · rw [if_pos wq]
      by_cases w1 : zq < 0
      · rw [if_pos w1]; exact ⟨_, _, rfl, rfl, y0⟩
      · rw [if_neg w1, if_neg (show ¬ zq < (2 ^ e : Nat) by omega)]; exact ⟨_, _, rfl, rfl, y0⟩
  · rw [if_pos wp]
    by_cases w1 : zp < 0
    · rw [if_pos w1]; exact ⟨_, _, rfl, rfl, y0⟩
    · rw [if_neg w1, if_pos (show 1 < zp by omega)]; exact ⟨_, _, rfl, rfl, y0⟩
def tSet (T : TT) (now : STt) (seen : List (Nat × Bool)) (und : List (STt × Bool)) : TT := (tU T, tP T, now, tT T, seen, und, tQ T, tM T)
theorem j_see (hX : RX N S x A b c nx T) (hM : RY N2 S2 m B T) (hT : TOK n T) (p : Int32) (w : Bool) : ∃ v S' S2' T', s_X11_see N x p (b2 w) S = some (v, S') ∧ s_X12_see N2 m p (b2 w) S2 = some (v, S2') ∧ RX N S' x A b c nx T' ∧ RY N2 S2' m B T' ∧ TOK (n + 1) T' := by
  obtain ⟨S1, hS1, hM1, y0⟩ := base0 hM 0
  obtain ⟨g1, g2⟩ := x_hold hX.1 hX.2.1 hT.2.1 p
  obtain ⟨m1, m2⟩ := y_st hM1.1
  have h8 := hT.2.2.2.2.1.1
  have hT1 : TOK (n + 1) T := by
    obtain ⟨t1, t2, t3, t4, t5, t6, t7, t8, t9, t10⟩ := hT
    exact ⟨t1, t2, t3, t4, t5, t6, t7, t8, by omega, t10⟩
  unfold s_X11_see s_X12_see
  rw [bnd_def, ← hS1, y_small hM1 hT, bd1_some, y_used hM1.1 hM1.2.1.1, bd1_some, y_isBits hM1.1 hT.2.1, bd1_some]
  simp only [b2_0]
  cases hh : hld (tU T) (tN T) p
  · rw [g1 hh, bd1_some, mq_none]
    by_cases w1 : (decide (vN (tU T) ≠ 0) && smlT T) = false
    · rw [if_pos w1]; exact ⟨_, _, _, T, rfl, rfl, hX, hM1, hT1⟩
    · rw [if_neg w1, if_pos rfl]; exact ⟨_, _, _, T, rfl, rfl, hX, hM1, hT1⟩
  obtain ⟨o, o1, o2, o3⟩ := g2 hh
  have hn := hld_n hh
  obtain ⟨u, rfl, hu, _, _⟩ := hld_ex hT.2.1 hh
  rw [o1, bd1_some, mq_some, x2_isSmall o2 o3, show decide (vE (tU T) (tN T).1 + vF (tU T) (tN T).1 ≤ 9) = smlT T from rfl, decide_eq_true hn, Bool.true_and]
  simp only [b2_0]
  cases hs : smlT T
  · rw [if_pos rfl, if_pos rfl]; exact ⟨_, _, _, T, rfl, rfl, hX, hM1, hT1⟩
  have w10 : aI S1 (B 11) ((10 : Int32).toNatClampNeg) = ii (tS T).length := hM1.2.2.1.1
  have i10 : ((10 : Int32).toNatClampNeg) = 10 := by decide
  rw [i10] at w10
  have e15 : gI S 1115 x = ii (tS T).length := hX.2.2.2.2.1.1
  have hA := hX.1.1
  have hB := hM1.1.1
  rw [if_neg tf, if_neg tf, if_neg tf, e15, if_neg (by rw [k0, ii_lt (by omega) (by omega) (by omega) (by omega)]; omega), m1, bd1_some, m2, if_pos (show inB (10 : Int32) 616 = true by decide), i10, w10]
  have c8 : (ii ((tS T).length : Int) < (8 : Int32)) = ((tS T).length < 8) := by rw [k8, ii_lt (by omega) (by omega) (by omega) (by omega)]; apply propext; omega
  have d8 : (ii ((tS T).length : Int) = (8 : Int32)) = ((tS T).length = 8) := by rw [k8, ii_eq (by omega) (by omega) (by omega) (by omega)]; apply propext; omega
  simp only [c8, d8]
  by_cases hl : (tS T).length < 8
  · have n8 : N (A 20) = 8 := hX.1.2.1.1.2.2.2.2.2.1
    have n9 : N (A 21) = 8 := hX.1.2.1.1.2.2.2.2.2.2.1
    have e1 : gR S 1108 x = some (A 20) := hX.1.2.2.1.2.1.2.2.1
    have e2 : gR S 1109 x = some (A 21) := hX.1.2.2.1.2.1.2.2.2.1
    generalize hk : (tS T).length = k at *
    have hin : inB (ii (k : Int)) 8 = true := in_of (z := k) rfl (by omega) (by decide)
    have hcl : (ii (k : Int)).toNatClampNeg = k := cl_of (z := k) rfl (by omega)
    have ex : (11 : Int32) + 2 * ii k = ii (11 + 2 * k : Nat) := by rw [k11, k2, ii_mul, ii_add]; rfl
    have ey : ii ((11 + 2 * k : Nat) : Int) + 1 = ii (11 + 2 * k + 1 : Nat) := by rw [k1, ii_add]; rfl
    have hin1 := in_of (x := ii ((11 + 2 * k : Nat) : Int)) (z := 11 + 2 * k) (n := 616) rfl (by omega) (by decide)
    have hcl1 := cl_of (x := ii ((11 + 2 * k : Nat) : Int)) (z := 11 + 2 * k) rfl (by omega)
    have hin2 := in_of (x := ii ((11 + 2 * k + 1 : Nat) : Int)) (z := 11 + 2 * k + 1) (n := 616) rfl (by omega) (by decide)
    have hcl2 := cl_of (x := ii ((11 + 2 * k + 1 : Nat) : Int)) (z := 11 + 2 * k + 1) rfl (by omega)
    rw [if_pos hl, if_neg (show ¬ k = 8 by omega), e1, bd1_some, n8, if_pos hin, hcl, bnd_def, gR_wI, e2, bd1_some, gI_wI, e15, n9, if_pos hin, hcl, bnd_def, gI_wI, gI_wI, e15, bnd_def, nar_b]
    rw [bd1_some, m2, if_pos (show inB (10 : Int32) 616 = true by decide), w10, ex, bnd_def, bd1_some, m2, if_pos hin1, hcl1, bnd_def, gR_wI, m1, bd1_some, ey]
    have e74 : ∀ (G : Int32 → Option (Int32 × HS)), (if w = false then G 0 else G 1) = G (b2 w) := by intro G; cases w <;> rfl
    rw [e74 (fun y => s_X12_see_J74 N2 m (B 11) (ii ((11 + 2 * k + 1 : Nat) : Int)) y (wI S1 (B 11) (11 + 2 * k) (ii u)))]
    unfold s_X12_see_J74
    rw [m2, if_pos hin2, hcl2, bnd_def, gR_wI, gR_wI, m1, bd1_some, m2, if_pos (show inB (10 : Int32) 616 = true by decide), if_pos (show inB (10 : Int32) 616 = true by decide), bnd_def, i10]
    have e10 : aI (wI (wI S1 (B 11) (11 + 2 * k) (ii u)) (B 11) (11 + 2 * k + 1) (b2 w)) (B 11) 10 = ii k := by
      rw [aI_wI, if_neg (by omega), aI_wI, if_neg (by omega)]; exact w10
    rw [e10, k1, ii_add]
    refine ⟨_, _, _, tSet T (tN T) (tS T ++ [(u, w)]) (tD T), rfl, rfl, ?_, ?_, ?_⟩
    · refine RX.of (nx' := nx) (T := T) hX (S' := uI (wI (wI S (A 20) k (ii u)) (A 21) k (b2 w)) 1115 x (ii ((k : Int) + 1))) ?_ ?_ ?_ ?_
      · refine ⟨fun f p _ _ _ q4 => by rw [gI_uI, if_neg (fun q => q4 q.1)]; rfl, rfl, fun p _ b1 b2 _ _ _ _ => ?_, rfl⟩
        rw [aI_uI0, aI_wI_o _ _ _ _ b2, aI_wI_o _ _ _ _ b1]
      · exact hX.2.1.congr (fun f f1 f2 => by rw [gI_uI, if_neg (by omega)]; rfl) (by rw [aI_uI0, aI_wI_o _ _ _ _ (by rw [ne_eq, hA]; decide), aI_wI_o _ _ _ _ (by rw [ne_eq, hA]; decide)])
      · refine ⟨by rw [gI_uI, if_pos ⟨rfl, rfl⟩]; simp [hk], fun i q hq => ?_⟩
        rw [List.getElem?_append] at hq
        rw [aI_uI0]
        have h21 : A 20 ≠ A 21 := by rw [ne_eq, hA]; decide
        split at hq
        · rename_i hi
          obtain ⟨s1, s2⟩ := hX.2.2.2.2.1.2 i q hq
          rw [aI_wI_o _ _ _ _ h21, aI_wI, if_neg (by omega), aI_wI, if_neg (by omega), aI_wI_o _ _ _ _ h21.symm]
          exact ⟨s1, s2⟩
        · rename_i hi
          have hi2 : i = k := by
            have := (List.getElem?_eq_some_iff.mp hq).1
            simp at this; omega
          subst hi2
          rw [hk, Nat.sub_self] at hq
          have : q = (u, w) := by simpa using hq.symm
          subst this
          rw [aI_wI_o _ _ _ _ h21, aI_wI, if_pos ⟨rfl, rfl⟩, aI_wI, if_pos ⟨rfl, rfl⟩]
          exact ⟨rfl, rfl⟩
      · obtain ⟨x1, x2, x3, x4, x5⟩ := hX.2.2.2.2.2.1
        refine ⟨by rw [gI_uI, if_neg (by omega)]; exact x1, by rw [gI_uI, if_neg (by omega)]; exact x2, x3, x4, x5.mono (fun j _ => ⟨fun t ht => ht.congr (fun f f1 f2 => by rw [gI_uI, if_neg (by omega)]; rfl) ?_, ?_⟩)⟩
        · rw [aI_uI0, aI_wI_o _ _ _ _ (by rw [ne_eq, hA]; omega), aI_wI_o _ _ _ _ (by rw [ne_eq, hA]; omega)]
        · rw [aI_uI0, aI_wI_o _ _ _ _ (by rw [ne_eq, hA]; decide), aI_wI_o _ _ _ _ (by rw [ne_eq, hA]; decide)]
    · have eW : ∀ i, aI (wI (wI (wI S1 (B 11) (11 + 2 * k) (ii u)) (B 11) (11 + 2 * k + 1) (b2 w)) (B 11) 10 (ii ((k : Int) + 1))) (B 11) i = if i = 10 then ii ((k : Int) + 1) else if i = 11 + 2 * k + 1 then b2 w else if i = 11 + 2 * k then ii u else aI S1 (B 11) i := by
        intro i
        rw [aI_wI_s]; dsimp only
        rw [aI_wI_s]; dsimp only
        rw [aI_wI_s]
      have hM2 := hM1
      obtain ⟨r1, ⟨r2, r3⟩, ⟨r4, r5, r6⟩, ⟨r7, r8, r9⟩, r10, _⟩ := hM1
      refine RY.wf (T := T) hM2 (((WF.refl m B S1).row _ _).row _ _ |>.row _ _) ⟨r2.congr (fun i h1 h2 => ?_), ?_⟩ ⟨?_, ?_, ?_⟩ ⟨r7, r8, r9.congr (fun i h1 h2 => ?_)⟩ (fun j hj => ⟨?_, fun t ht => ((r10 j hj).2 t ht).congr (fun i h1 h2 => ?_)⟩)
      · rw [eW, if_neg (by omega), if_neg (by omega), if_neg (by omega)]
      · rw [eW, if_neg (by omega), if_neg (by omega), if_neg (by omega)]; exact r3
      · rw [eW, if_pos rfl]; simp [hk]
      · simp [hk]; omega
      · intro i q hq
        rw [List.getElem?_append] at hq
        split at hq
        · rename_i hi
          obtain ⟨s1, s2⟩ := r6 i q hq
          rw [eW, eW, if_neg (by omega), if_neg (by omega), if_neg (by omega), if_neg (by omega), if_neg (by omega), if_neg (by omega)]
          exact ⟨s1, s2⟩
        · rename_i hi
          have hi2 : i = k := by
            have := (List.getElem?_eq_some_iff.mp hq).1
            simp at this; omega
          subst hi2
          rw [hk, Nat.sub_self] at hq
          have : q = (u, w) := by simpa using hq.symm
          subst this
          rw [eW, eW, if_neg (by omega), if_neg (by omega), if_pos rfl, if_neg (by omega), if_pos rfl]
          exact ⟨rfl, rfl⟩
      · rw [eW, if_neg (by omega), if_neg (by omega), if_neg (by omega)]
      · rw [aI_wI_o _ _ _ _ (by rw [ne_eq, hB]; decide), aI_wI_o _ _ _ _ (by rw [ne_eq, hB]; decide), aI_wI_o _ _ _ _ (by rw [ne_eq, hB]; decide)]; exact (r10 j hj).1
      · rw [eW, if_neg (by omega), if_neg (by omega), if_neg (by omega)]
    · obtain ⟨t1, t2, t3, t4, t5, t6, t7, t8, t9, t10⟩ := hT1
      refine ⟨t1, t2, t3, t4, ⟨by show (tS T ++ [(u, w)]).length ≤ 8; simp [hk]; omega, fun q hq => ?_⟩, t6, t7, t8, t9, t10⟩
      rcases List.mem_append.mp hq with h | h
      · exact t5.2 q h
      · have : q = (u, w) := by simpa using h
        subst this; exact ⟨hu, hn⟩
  · rw [if_neg hl, if_pos (show (tS T).length = 8 by omega)]; exact ⟨_, _, _, T, rfl, rfl, hX, hM1, hT1⟩
end J9
end
