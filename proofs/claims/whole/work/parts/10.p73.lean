section
/- finitely many addresses, made a function of all numbers -/
def bigL (l : List Nat) : Nat := l.foldr (fun a b => a + b + 1) 0
theorem bigL_mem : ∀ {l : List Nat} {q : Nat}, q ∈ l → q < bigL l
  | a :: r, q, h => by
    have e : bigL (a :: r) = a + bigL r + 1 := rfl
    rcases List.mem_cons.mp h with h | h
    · subst h; omega
    · have := bigL_mem h; omega
def ofL (l : List Nat) (i : Nat) : Nat := (l[i]?).getD (bigL l + i)
theorem ofL_inj {l : List Nat} (h : l.Nodup) : ∀ i j, ofL l i = ofL l j ↔ i = j := by
  intro i j
  refine ⟨fun e => ?_, fun e => by rw [e]⟩
  unfold ofL at e
  by_cases hi : i < l.length
  · have ei : l[i]? = some l[i] := List.getElem?_eq_getElem hi
    have mi : l[i] < bigL l := bigL_mem (List.getElem_mem hi)
    by_cases hj : j < l.length
    · have ej : l[j]? = some l[j] := List.getElem?_eq_getElem hj
      rw [ei, ej] at e
      have hp := List.pairwise_iff_getElem.mp h
      rcases Nat.lt_trichotomy i j with q | q | q
      · exact absurd e (hp i j hi hj q)
      · exact q
      · exact absurd e.symm (hp j i hj hi q)
    · rw [ei, List.getElem?_eq_none (by omega)] at e
      simp at e; omega
  · by_cases hj : j < l.length
    · have ej : l[j]? = some l[j] := List.getElem?_eq_getElem hj
      have mj : l[j] < bigL l := bigL_mem (List.getElem_mem hj)
      rw [ej, List.getElem?_eq_none (by omega)] at e
      simp at e; omega
    · rw [List.getElem?_eq_none (by omega), List.getElem?_eq_none (by omega)] at e
      simp at e; omega
def U0 : UNt := (0, fun _ => 0, fun _ => 0, fun _ => 0, 0, 0, fun _ => [], fun _ => [])
def T0 : TT := (U0, [], (0, 0, 0, fun _ => 0), [], [], [], [], fun _ => none)
theorem T0_ok : TOK 0 T0 := by
  refine ⟨⟨by decide, by decide, by decide, fun f hf => absurd hf (by show ¬ f < 0; omega)⟩, ⟨Or.inr ⟨rfl, rfl⟩, by decide, by decide, fun r hr => absurd hr (by show ¬ r < 0; omega)⟩, ⟨by decide, fun l hl => (by cases hl)⟩, ⟨by decide, fun l hl => (by cases hl), ⟨fun f hf => absurd hf (by show ¬ f < 0; omega), fun f hf => absurd hf (by show ¬ f < 0; omega), fun f g hf => absurd hf (by show ¬ f < 0; omega), fun f g hf => absurd hf (by show ¬ f < 0; omega)⟩⟩, ⟨by decide, fun l hl => (by cases hl)⟩, fun l hl => (by cases hl), Nat.le_refl _, fun l hl => (by cases hl), Nat.le_refl _, fun m t h => (by cases h)⟩
theorem lawB0 (m o g r : Bool) : lawB 0 m o g r = false := by unfold lawB; simp
/- the start, from a heap with the arrays laid -/
theorem y_start1 {N : Nat → Nat} {F : Nat} {S : HS} {m : Nat} {B : Nat → Nat} (hF : 3000 ≤ F) (hB : ∀ i j, B i = B j ↔ i = j) (hL : YLAY N S.2.2.1 m B) (hw : ∀ (i v : Nat), words37[i]? = some v → aJ S (B 4) i = jj v) (h0 : gI S 1202 m = 0) :
    ∃ S1 S2, s_X12_standsAsAlways N F m 0 S = some S1 ∧ s_X12_begins N F m S1 = some S2 ∧ RY N S2 m B T0 ∧ (∀ f p, f ≠ 1218 → gI S2 f p = gI S f p) ∧ S2.2.2.1 = S.2.2.1 ∧ S2.2.2.2.2 = S.2.2.2.2 ∧ (∀ p, p ≠ B 5 → p ≠ B 8 → p ≠ B 11 → p ≠ B 12 → aI S2 p = aI S p) := by
  have r10 : gR S 1210 m = some (B 5) := hL.1.2.2.2.2.2.1
  have n5 : N (B 5) = 30 := hL.2.2.1.2.2.2.2.2.1
  obtain ⟨S1, a1, a2, a3, a4, a5, a6, a7⟩ := y_alw (F := F) hF r10 n5 (Or.inl rfl) (S := S)
  have hL1 : YLAY N S1.2.2.1 m B := by rw [a4]; exact hL
  obtain ⟨S2, b1, b2', b3, b4, b5, b6, b7, b8, b9, b10⟩ := y_begins (F := F) hF hB hL1 (nf := 0) (by omega) (by rw [a7]; rfl)
  have e5 : aI S2 (B 5) = aI S1 (B 5) := b7 _ (by rw [ne_eq, hB]; decide) (by rw [ne_eq, hB]; decide) (by rw [ne_eq, hB]; decide)
  refine ⟨S1, S2, a1, b1, ⟨⟨hB, by rw [b5]; exact hL1, fun i v h => by rw [aJ_of b6, aJ_of a5]; exact hw i v h, ⟨by rw [e5, a7]; rfl, by rw [e5, a7]; rfl, Or.inl ⟨by rw [e5, a7]; rfl, fun m o g r => lawB0 m o g r⟩, fun f hf => absurd hf (by show ¬ f < 0; omega), fun f hf => absurd hf (by show ¬ f < 0; omega), fun f hf => absurd hf (by show ¬ f < 0; omega)⟩, T0_ok.1⟩, ⟨⟨by rw [b8]; rfl, by rw [b8]; rfl, by rw [b8]; rfl, fun r hr => by rw [b8, if_neg (by omega), if_pos (by omega)]; rfl⟩, by rw [b8]; rfl⟩, ⟨by rw [b8]; rfl, by decide, fun i q h => (by cases h)⟩, ⟨by rw [b3]; rfl, by decide, trivial⟩, fun k hk => ⟨by rw [b9 k hk]; rfl, fun t h => (by cases h)⟩, trivial, ⟨by rw [b2' 1202 m (by omega), gI_of a2]; exact h0, fun i q h => (by cases h)⟩, ⟨by rw [b10]; rfl, fun i q h => (by cases h)⟩⟩, fun f p hf => by rw [b2' f p hf, gI_of a2], by rw [b5, a4], by rw [b6, a5], fun p p5 p8 p11 p12 => by rw [b7 p p8 p11 p12, a6 p p5]⟩
end
section
theorem pushG_n (G : GS) (q k n : Nat) : (pushG G q k n).2.2 q = n := by simp [pushG, va_up]
theorem pushG_o (G : GS) (q k n : Nat) {p : Nat} (h : ¬ p = q) : (pushG G q k n).2.2 p = G.2.2 p := by simp [pushG, va_up, h]
theorem pushG_m (G : GS) (q k n : Nat) {p : Nat} (h : p ∈ G.1) : p ∈ (pushG G q k n).1 := List.mem_append_left _ h
theorem pushG_s (G : GS) (q k n : Nat) : q ∈ (pushG G q k n).1 := List.mem_append_right _ (List.mem_singleton.mpr rfl)
theorem y_start {F m : Nat} {G : GS} {S : HS} (hF : 3000 ≤ F) (hm : m ∈ G.1) (hz : gI S 1202 m = 0) : w_X12_init F m G S (fun G' S' => ∃ B, RY G'.2.2 S' m B T0) := by
  unfold w_X12_init
  simp only [bnd_def, pushG_n]
  have i0 : inB (0 : Int32) 20 = true := by decide
  have i1 : inB (1 : Int32) 20 = true := by decide
  have i2 : inB (2 : Int32) 20 = true := by decide
  have i3 : inB (3 : Int32) 20 = true := by decide
  have i4 : inB (4 : Int32) 20 = true := by decide
  have i5 : inB (5 : Int32) 20 = true := by decide
  have i6 : inB (6 : Int32) 20 = true := by decide
  have i7 : inB (7 : Int32) 20 = true := by decide
  have i8 : inB (8 : Int32) 20 = true := by decide
  have i9 : inB (9 : Int32) 20 = true := by decide
  have i10 : inB (10 : Int32) 20 = true := by decide
  have i11 : inB (11 : Int32) 20 = true := by decide
  have i12 : inB (12 : Int32) 20 = true := by decide
  have i13 : inB (13 : Int32) 20 = true := by decide
  have i14 : inB (14 : Int32) 20 = true := by decide
  have i15 : inB (15 : Int32) 20 = true := by decide
  have i16 : inB (16 : Int32) 20 = true := by decide
  have i17 : inB (17 : Int32) 20 = true := by decide
  have i18 : inB (18 : Int32) 20 = true := by decide
  have i19 : inB (19 : Int32) 20 = true := by decide
  simp only [i0, i1, i2, i3, i4, i5, i6, i7, i8, i9, i10, i11, i12, i13, i14, i15, i16, i17, i18, i19, if_true]
  intro q1 h1
  have m1 : ¬ m = q1 := fun r => h1 (r ▸ hm)
  have hm := pushG_m _ q1 14 1000 hm
  have g1 := pushG_s G q1 14 1000
  generalize hG1 : pushG G q1 14 1000 = G1 at *
  have n1 : G1.2.2 q1 = 1000 := by rw [← hG1]; exact pushG_n _ _ _ _
  intro q5 h5
  have m5 : ¬ m = q5 := fun r => h5 (r ▸ hm)
  have d1_5 : ¬ q1 = q5 := fun r => h5 (r ▸ g1)
  have hm := pushG_m _ q5 14 1002 hm
  have g1 := pushG_m _ q5 14 1002 g1
  have g5 := pushG_s G1 q5 14 1002
  generalize hG2 : pushG G1 q5 14 1002 = G2 at *
  have n5 : G2.2.2 q5 = 1002 := by rw [← hG2]; exact pushG_n _ _ _ _
  have n1 : G2.2.2 q1 = 1000 := by rw [← hG2, pushG_o _ _ _ _ d1_5]; exact n1
  intro q9 h9
  have m9 : ¬ m = q9 := fun r => h9 (r ▸ hm)
  have d1_9 : ¬ q1 = q9 := fun r => h9 (r ▸ g1)
  have d5_9 : ¬ q5 = q9 := fun r => h9 (r ▸ g5)
  have hm := pushG_m _ q9 14 1002 hm
  have g1 := pushG_m _ q9 14 1002 g1
  have g5 := pushG_m _ q9 14 1002 g5
  have g9 := pushG_s G2 q9 14 1002
  generalize hG3 : pushG G2 q9 14 1002 = G3 at *
  have n9 : G3.2.2 q9 = 1002 := by rw [← hG3]; exact pushG_n _ _ _ _
  have n1 : G3.2.2 q1 = 1000 := by rw [← hG3, pushG_o _ _ _ _ d1_9]; exact n1
  have n5 : G3.2.2 q5 = 1002 := by rw [← hG3, pushG_o _ _ _ _ d5_9]; exact n5
  intro q13 h13
  have m13 : ¬ m = q13 := fun r => h13 (r ▸ hm)
  have d1_13 : ¬ q1 = q13 := fun r => h13 (r ▸ g1)
  have d5_13 : ¬ q5 = q13 := fun r => h13 (r ▸ g5)
  have d9_13 : ¬ q9 = q13 := fun r => h13 (r ▸ g9)
  have hm := pushG_m _ q13 15 1002 hm
  have g1 := pushG_m _ q13 15 1002 g1
  have g5 := pushG_m _ q13 15 1002 g5
  have g9 := pushG_m _ q13 15 1002 g9
  have g13 := pushG_s G3 q13 15 1002
  generalize hG4 : pushG G3 q13 15 1002 = G4 at *
  have n13 : G4.2.2 q13 = 1002 := by rw [← hG4]; exact pushG_n _ _ _ _
  have n1 : G4.2.2 q1 = 1000 := by rw [← hG4, pushG_o _ _ _ _ d1_13]; exact n1
  have n5 : G4.2.2 q5 = 1002 := by rw [← hG4, pushG_o _ _ _ _ d5_13]; exact n5
  have n9 : G4.2.2 q9 = 1002 := by rw [← hG4, pushG_o _ _ _ _ d9_13]; exact n9
  intro q17 h17
  have m17 : ¬ m = q17 := fun r => h17 (r ▸ hm)
  have d1_17 : ¬ q1 = q17 := fun r => h17 (r ▸ g1)
  have d5_17 : ¬ q5 = q17 := fun r => h17 (r ▸ g5)
  have d9_17 : ¬ q9 = q17 := fun r => h17 (r ▸ g9)
  have d13_17 : ¬ q13 = q17 := fun r => h17 (r ▸ g13)
  have hm := pushG_m _ q17 15 20 hm
  have g1 := pushG_m _ q17 15 20 g1
  have g5 := pushG_m _ q17 15 20 g5
  have g9 := pushG_m _ q17 15 20 g9
  have g13 := pushG_m _ q17 15 20 g13
  have g17 := pushG_s G4 q17 15 20
  generalize hG5 : pushG G4 q17 15 20 = G5 at *
  have n17 : G5.2.2 q17 = 20 := by rw [← hG5]; exact pushG_n _ _ _ _
  have n1 : G5.2.2 q1 = 1000 := by rw [← hG5, pushG_o _ _ _ _ d1_17]; exact n1
  have n5 : G5.2.2 q5 = 1002 := by rw [← hG5, pushG_o _ _ _ _ d5_17]; exact n5
  have n9 : G5.2.2 q9 = 1002 := by rw [← hG5, pushG_o _ _ _ _ d9_17]; exact n9
  have n13 : G5.2.2 q13 = 1002 := by rw [← hG5, pushG_o _ _ _ _ d13_17]; exact n13
  intro q61 h61
  have m61 : ¬ m = q61 := fun r => h61 (r ▸ hm)
  have d1_61 : ¬ q1 = q61 := fun r => h61 (r ▸ g1)
  have d5_61 : ¬ q5 = q61 := fun r => h61 (r ▸ g5)
  have d9_61 : ¬ q9 = q61 := fun r => h61 (r ▸ g9)
  have d13_61 : ¬ q13 = q61 := fun r => h61 (r ▸ g13)
  have d17_61 : ¬ q17 = q61 := fun r => h61 (r ▸ g17)
  have hm := pushG_m _ q61 14 30 hm
  have g1 := pushG_m _ q61 14 30 g1
  have g5 := pushG_m _ q61 14 30 g5
  have g9 := pushG_m _ q61 14 30 g9
  have g13 := pushG_m _ q61 14 30 g13
  have g17 := pushG_m _ q61 14 30 g17
  have g61 := pushG_s G5 q61 14 30
  generalize hG6 : pushG G5 q61 14 30 = G6 at *
  have n61 : G6.2.2 q61 = 30 := by rw [← hG6]; exact pushG_n _ _ _ _
  have n1 : G6.2.2 q1 = 1000 := by rw [← hG6, pushG_o _ _ _ _ d1_61]; exact n1
  have n5 : G6.2.2 q5 = 1002 := by rw [← hG6, pushG_o _ _ _ _ d5_61]; exact n5
  have n9 : G6.2.2 q9 = 1002 := by rw [← hG6, pushG_o _ _ _ _ d9_61]; exact n9
  have n13 : G6.2.2 q13 = 1002 := by rw [← hG6, pushG_o _ _ _ _ d13_61]; exact n13
  have n17 : G6.2.2 q17 = 20 := by rw [← hG6, pushG_o _ _ _ _ d17_61]; exact n17
  intro q65 h65
  have m65 : ¬ m = q65 := fun r => h65 (r ▸ hm)
  have d1_65 : ¬ q1 = q65 := fun r => h65 (r ▸ g1)
  have d5_65 : ¬ q5 = q65 := fun r => h65 (r ▸ g5)
  have d9_65 : ¬ q9 = q65 := fun r => h65 (r ▸ g9)
  have d13_65 : ¬ q13 = q65 := fun r => h65 (r ▸ g13)
  have d17_65 : ¬ q17 = q65 := fun r => h65 (r ▸ g17)
  have d61_65 : ¬ q61 = q65 := fun r => h65 (r ▸ g61)
  have hm := pushG_m _ q65 14 2200 hm
  have g1 := pushG_m _ q65 14 2200 g1
  have g5 := pushG_m _ q65 14 2200 g5
  have g9 := pushG_m _ q65 14 2200 g9
  have g13 := pushG_m _ q65 14 2200 g13
  have g17 := pushG_m _ q65 14 2200 g17
  have g61 := pushG_m _ q65 14 2200 g61
  have g65 := pushG_s G6 q65 14 2200
  generalize hG7 : pushG G6 q65 14 2200 = G7 at *
  have n65 : G7.2.2 q65 = 2200 := by rw [← hG7]; exact pushG_n _ _ _ _
  have n1 : G7.2.2 q1 = 1000 := by rw [← hG7, pushG_o _ _ _ _ d1_65]; exact n1
  have n5 : G7.2.2 q5 = 1002 := by rw [← hG7, pushG_o _ _ _ _ d5_65]; exact n5
  have n9 : G7.2.2 q9 = 1002 := by rw [← hG7, pushG_o _ _ _ _ d9_65]; exact n9
  have n13 : G7.2.2 q13 = 1002 := by rw [← hG7, pushG_o _ _ _ _ d13_65]; exact n13
  have n17 : G7.2.2 q17 = 20 := by rw [← hG7, pushG_o _ _ _ _ d17_65]; exact n17
  have n61 : G7.2.2 q61 = 30 := by rw [← hG7, pushG_o _ _ _ _ d61_65]; exact n61
  intro q69 h69
  have m69 : ¬ m = q69 := fun r => h69 (r ▸ hm)
  have d1_69 : ¬ q1 = q69 := fun r => h69 (r ▸ g1)
  have d5_69 : ¬ q5 = q69 := fun r => h69 (r ▸ g5)
  have d9_69 : ¬ q9 = q69 := fun r => h69 (r ▸ g9)
  have d13_69 : ¬ q13 = q69 := fun r => h69 (r ▸ g13)
  have d17_69 : ¬ q17 = q69 := fun r => h69 (r ▸ g17)
  have d61_69 : ¬ q61 = q69 := fun r => h69 (r ▸ g61)
  have d65_69 : ¬ q65 = q69 := fun r => h69 (r ▸ g65)
  have hm := pushG_m _ q69 15 20 hm
  have g1 := pushG_m _ q69 15 20 g1
  have g5 := pushG_m _ q69 15 20 g5
  have g9 := pushG_m _ q69 15 20 g9
  have g13 := pushG_m _ q69 15 20 g13
  have g17 := pushG_m _ q69 15 20 g17
  have g61 := pushG_m _ q69 15 20 g61
  have g65 := pushG_m _ q69 15 20 g65
  have g69 := pushG_s G7 q69 15 20
  generalize hG8 : pushG G7 q69 15 20 = G8 at *
  have n69 : G8.2.2 q69 = 20 := by rw [← hG8]; exact pushG_n _ _ _ _
  have n1 : G8.2.2 q1 = 1000 := by rw [← hG8, pushG_o _ _ _ _ d1_69]; exact n1
  have n5 : G8.2.2 q5 = 1002 := by rw [← hG8, pushG_o _ _ _ _ d5_69]; exact n5
  have n9 : G8.2.2 q9 = 1002 := by rw [← hG8, pushG_o _ _ _ _ d9_69]; exact n9
  have n13 : G8.2.2 q13 = 1002 := by rw [← hG8, pushG_o _ _ _ _ d13_69]; exact n13
  have n17 : G8.2.2 q17 = 20 := by rw [← hG8, pushG_o _ _ _ _ d17_69]; exact n17
  have n61 : G8.2.2 q61 = 30 := by rw [← hG8, pushG_o _ _ _ _ d61_69]; exact n61
  have n65 : G8.2.2 q65 = 2200 := by rw [← hG8, pushG_o _ _ _ _ d65_69]; exact n65
  intro q73 h73
  have m73 : ¬ m = q73 := fun r => h73 (r ▸ hm)
  have d1_73 : ¬ q1 = q73 := fun r => h73 (r ▸ g1)
  have d5_73 : ¬ q5 = q73 := fun r => h73 (r ▸ g5)
  have d9_73 : ¬ q9 = q73 := fun r => h73 (r ▸ g9)
  have d13_73 : ¬ q13 = q73 := fun r => h73 (r ▸ g13)
  have d17_73 : ¬ q17 = q73 := fun r => h73 (r ▸ g17)
  have d61_73 : ¬ q61 = q73 := fun r => h73 (r ▸ g61)
  have d65_73 : ¬ q65 = q73 := fun r => h73 (r ▸ g65)
  have d69_73 : ¬ q69 = q73 := fun r => h73 (r ▸ g69)
  have hm := pushG_m _ q73 14 310 hm
  have g1 := pushG_m _ q73 14 310 g1
  have g5 := pushG_m _ q73 14 310 g5
  have g9 := pushG_m _ q73 14 310 g9
  have g13 := pushG_m _ q73 14 310 g13
  have g17 := pushG_m _ q73 14 310 g17
  have g61 := pushG_m _ q73 14 310 g61
  have g65 := pushG_m _ q73 14 310 g65
  have g69 := pushG_m _ q73 14 310 g69
  have g73 := pushG_s G8 q73 14 310
  generalize hG9 : pushG G8 q73 14 310 = G9 at *
  have n73 : G9.2.2 q73 = 310 := by rw [← hG9]; exact pushG_n _ _ _ _
  have n1 : G9.2.2 q1 = 1000 := by rw [← hG9, pushG_o _ _ _ _ d1_73]; exact n1
  have n5 : G9.2.2 q5 = 1002 := by rw [← hG9, pushG_o _ _ _ _ d5_73]; exact n5
  have n9 : G9.2.2 q9 = 1002 := by rw [← hG9, pushG_o _ _ _ _ d9_73]; exact n9
  have n13 : G9.2.2 q13 = 1002 := by rw [← hG9, pushG_o _ _ _ _ d13_73]; exact n13
  have n17 : G9.2.2 q17 = 20 := by rw [← hG9, pushG_o _ _ _ _ d17_73]; exact n17
  have n61 : G9.2.2 q61 = 30 := by rw [← hG9, pushG_o _ _ _ _ d61_73]; exact n61
  have n65 : G9.2.2 q65 = 2200 := by rw [← hG9, pushG_o _ _ _ _ d65_73]; exact n65
  have n69 : G9.2.2 q69 = 20 := by rw [← hG9, pushG_o _ _ _ _ d69_73]; exact n69
  intro q77 h77
  have m77 : ¬ m = q77 := fun r => h77 (r ▸ hm)
  have d1_77 : ¬ q1 = q77 := fun r => h77 (r ▸ g1)
  have d5_77 : ¬ q5 = q77 := fun r => h77 (r ▸ g5)
  have d9_77 : ¬ q9 = q77 := fun r => h77 (r ▸ g9)
  have d13_77 : ¬ q13 = q77 := fun r => h77 (r ▸ g13)
  have d17_77 : ¬ q17 = q77 := fun r => h77 (r ▸ g17)
  have d61_77 : ¬ q61 = q77 := fun r => h77 (r ▸ g61)
  have d65_77 : ¬ q65 = q77 := fun r => h77 (r ▸ g65)
  have d69_77 : ¬ q69 = q77 := fun r => h77 (r ▸ g69)
  have d73_77 : ¬ q73 = q77 := fun r => h77 (r ▸ g73)
  have hm := pushG_m _ q77 14 4 hm
  have g1 := pushG_m _ q77 14 4 g1
  have g5 := pushG_m _ q77 14 4 g5
  have g9 := pushG_m _ q77 14 4 g9
  have g13 := pushG_m _ q77 14 4 g13
  have g17 := pushG_m _ q77 14 4 g17
  have g61 := pushG_m _ q77 14 4 g61
  have g65 := pushG_m _ q77 14 4 g65
  have g69 := pushG_m _ q77 14 4 g69
  have g73 := pushG_m _ q77 14 4 g73
  have g77 := pushG_s G9 q77 14 4
  generalize hG10 : pushG G9 q77 14 4 = G10 at *
  have n77 : G10.2.2 q77 = 4 := by rw [← hG10]; exact pushG_n _ _ _ _
  have n1 : G10.2.2 q1 = 1000 := by rw [← hG10, pushG_o _ _ _ _ d1_77]; exact n1
  have n5 : G10.2.2 q5 = 1002 := by rw [← hG10, pushG_o _ _ _ _ d5_77]; exact n5
  have n9 : G10.2.2 q9 = 1002 := by rw [← hG10, pushG_o _ _ _ _ d9_77]; exact n9
  have n13 : G10.2.2 q13 = 1002 := by rw [← hG10, pushG_o _ _ _ _ d13_77]; exact n13
  have n17 : G10.2.2 q17 = 20 := by rw [← hG10, pushG_o _ _ _ _ d17_77]; exact n17
  have n61 : G10.2.2 q61 = 30 := by rw [← hG10, pushG_o _ _ _ _ d61_77]; exact n61
  have n65 : G10.2.2 q65 = 2200 := by rw [← hG10, pushG_o _ _ _ _ d65_77]; exact n65
  have n69 : G10.2.2 q69 = 20 := by rw [← hG10, pushG_o _ _ _ _ d69_77]; exact n69
  have n73 : G10.2.2 q73 = 310 := by rw [← hG10, pushG_o _ _ _ _ d73_77]; exact n73
  intro q81 h81
  have m81 : ¬ m = q81 := fun r => h81 (r ▸ hm)
  have d1_81 : ¬ q1 = q81 := fun r => h81 (r ▸ g1)
  have d5_81 : ¬ q5 = q81 := fun r => h81 (r ▸ g5)
  have d9_81 : ¬ q9 = q81 := fun r => h81 (r ▸ g9)
  have d13_81 : ¬ q13 = q81 := fun r => h81 (r ▸ g13)
  have d17_81 : ¬ q17 = q81 := fun r => h81 (r ▸ g17)
  have d61_81 : ¬ q61 = q81 := fun r => h81 (r ▸ g61)
  have d65_81 : ¬ q65 = q81 := fun r => h81 (r ▸ g65)
  have d69_81 : ¬ q69 = q81 := fun r => h81 (r ▸ g69)
  have d73_81 : ¬ q73 = q81 := fun r => h81 (r ▸ g73)
  have d77_81 : ¬ q77 = q81 := fun r => h81 (r ▸ g77)
  have hm := pushG_m _ q81 14 64 hm
  have g1 := pushG_m _ q81 14 64 g1
  have g5 := pushG_m _ q81 14 64 g5
  have g9 := pushG_m _ q81 14 64 g9
  have g13 := pushG_m _ q81 14 64 g13
  have g17 := pushG_m _ q81 14 64 g17
  have g61 := pushG_m _ q81 14 64 g61
  have g65 := pushG_m _ q81 14 64 g65
  have g69 := pushG_m _ q81 14 64 g69
  have g73 := pushG_m _ q81 14 64 g73
  have g77 := pushG_m _ q81 14 64 g77
  have g81 := pushG_s G10 q81 14 64
  generalize hG11 : pushG G10 q81 14 64 = G11 at *
  have n81 : G11.2.2 q81 = 64 := by rw [← hG11]; exact pushG_n _ _ _ _
  have n1 : G11.2.2 q1 = 1000 := by rw [← hG11, pushG_o _ _ _ _ d1_81]; exact n1
  have n5 : G11.2.2 q5 = 1002 := by rw [← hG11, pushG_o _ _ _ _ d5_81]; exact n5
  have n9 : G11.2.2 q9 = 1002 := by rw [← hG11, pushG_o _ _ _ _ d9_81]; exact n9
  have n13 : G11.2.2 q13 = 1002 := by rw [← hG11, pushG_o _ _ _ _ d13_81]; exact n13
  have n17 : G11.2.2 q17 = 20 := by rw [← hG11, pushG_o _ _ _ _ d17_81]; exact n17
  have n61 : G11.2.2 q61 = 30 := by rw [← hG11, pushG_o _ _ _ _ d61_81]; exact n61
  have n65 : G11.2.2 q65 = 2200 := by rw [← hG11, pushG_o _ _ _ _ d65_81]; exact n65
  have n69 : G11.2.2 q69 = 20 := by rw [← hG11, pushG_o _ _ _ _ d69_81]; exact n69
  have n73 : G11.2.2 q73 = 310 := by rw [← hG11, pushG_o _ _ _ _ d73_81]; exact n73
  have n77 : G11.2.2 q77 = 4 := by rw [← hG11, pushG_o _ _ _ _ d77_81]; exact n77
  intro q85 h85
  have m85 : ¬ m = q85 := fun r => h85 (r ▸ hm)
  have d1_85 : ¬ q1 = q85 := fun r => h85 (r ▸ g1)
  have d5_85 : ¬ q5 = q85 := fun r => h85 (r ▸ g5)
  have d9_85 : ¬ q9 = q85 := fun r => h85 (r ▸ g9)
  have d13_85 : ¬ q13 = q85 := fun r => h85 (r ▸ g13)
  have d17_85 : ¬ q17 = q85 := fun r => h85 (r ▸ g17)
  have d61_85 : ¬ q61 = q85 := fun r => h85 (r ▸ g61)
  have d65_85 : ¬ q65 = q85 := fun r => h85 (r ▸ g65)
  have d69_85 : ¬ q69 = q85 := fun r => h85 (r ▸ g69)
  have d73_85 : ¬ q73 = q85 := fun r => h85 (r ▸ g73)
  have d77_85 : ¬ q77 = q85 := fun r => h85 (r ▸ g77)
  have d81_85 : ¬ q81 = q85 := fun r => h85 (r ▸ g81)
  have hm := pushG_m _ q85 14 616 hm
  have g1 := pushG_m _ q85 14 616 g1
  have g5 := pushG_m _ q85 14 616 g5
  have g9 := pushG_m _ q85 14 616 g9
  have g13 := pushG_m _ q85 14 616 g13
  have g17 := pushG_m _ q85 14 616 g17
  have g61 := pushG_m _ q85 14 616 g61
  have g65 := pushG_m _ q85 14 616 g65
  have g69 := pushG_m _ q85 14 616 g69
  have g73 := pushG_m _ q85 14 616 g73
  have g77 := pushG_m _ q85 14 616 g77
  have g81 := pushG_m _ q85 14 616 g81
  have g85 := pushG_s G11 q85 14 616
  generalize hG12 : pushG G11 q85 14 616 = G12 at *
  have n85 : G12.2.2 q85 = 616 := by rw [← hG12]; exact pushG_n _ _ _ _
  have n1 : G12.2.2 q1 = 1000 := by rw [← hG12, pushG_o _ _ _ _ d1_85]; exact n1
  have n5 : G12.2.2 q5 = 1002 := by rw [← hG12, pushG_o _ _ _ _ d5_85]; exact n5
  have n9 : G12.2.2 q9 = 1002 := by rw [← hG12, pushG_o _ _ _ _ d9_85]; exact n9
  have n13 : G12.2.2 q13 = 1002 := by rw [← hG12, pushG_o _ _ _ _ d13_85]; exact n13
  have n17 : G12.2.2 q17 = 20 := by rw [← hG12, pushG_o _ _ _ _ d17_85]; exact n17
  have n61 : G12.2.2 q61 = 30 := by rw [← hG12, pushG_o _ _ _ _ d61_85]; exact n61
  have n65 : G12.2.2 q65 = 2200 := by rw [← hG12, pushG_o _ _ _ _ d65_85]; exact n65
  have n69 : G12.2.2 q69 = 20 := by rw [← hG12, pushG_o _ _ _ _ d69_85]; exact n69
  have n73 : G12.2.2 q73 = 310 := by rw [← hG12, pushG_o _ _ _ _ d73_85]; exact n73
  have n77 : G12.2.2 q77 = 4 := by rw [← hG12, pushG_o _ _ _ _ d77_85]; exact n77
  have n81 : G12.2.2 q81 = 64 := by rw [← hG12, pushG_o _ _ _ _ d81_85]; exact n81
  intro q89 h89
  have m89 : ¬ m = q89 := fun r => h89 (r ▸ hm)
  have d1_89 : ¬ q1 = q89 := fun r => h89 (r ▸ g1)
  have d5_89 : ¬ q5 = q89 := fun r => h89 (r ▸ g5)
  have d9_89 : ¬ q9 = q89 := fun r => h89 (r ▸ g9)
  have d13_89 : ¬ q13 = q89 := fun r => h89 (r ▸ g13)
  have d17_89 : ¬ q17 = q89 := fun r => h89 (r ▸ g17)
  have d61_89 : ¬ q61 = q89 := fun r => h89 (r ▸ g61)
  have d65_89 : ¬ q65 = q89 := fun r => h89 (r ▸ g65)
  have d69_89 : ¬ q69 = q89 := fun r => h89 (r ▸ g69)
  have d73_89 : ¬ q73 = q89 := fun r => h89 (r ▸ g73)
  have d77_89 : ¬ q77 = q89 := fun r => h89 (r ▸ g77)
  have d81_89 : ¬ q81 = q89 := fun r => h89 (r ▸ g81)
  have d85_89 : ¬ q85 = q89 := fun r => h89 (r ▸ g85)
  have hm := pushG_m _ q89 16 4 hm
  have g1 := pushG_m _ q89 16 4 g1
  have g5 := pushG_m _ q89 16 4 g5
  have g9 := pushG_m _ q89 16 4 g9
  have g13 := pushG_m _ q89 16 4 g13
  have g17 := pushG_m _ q89 16 4 g17
  have g61 := pushG_m _ q89 16 4 g61
  have g65 := pushG_m _ q89 16 4 g65
  have g69 := pushG_m _ q89 16 4 g69
  have g73 := pushG_m _ q89 16 4 g73
  have g77 := pushG_m _ q89 16 4 g77
  have g81 := pushG_m _ q89 16 4 g81
  have g85 := pushG_m _ q89 16 4 g85
  have g89 := pushG_s G12 q89 16 4
  generalize hG13 : pushG G12 q89 16 4 = G13 at *
  have n89 : G13.2.2 q89 = 4 := by rw [← hG13]; exact pushG_n _ _ _ _
  have n1 : G13.2.2 q1 = 1000 := by rw [← hG13, pushG_o _ _ _ _ d1_89]; exact n1
  have n5 : G13.2.2 q5 = 1002 := by rw [← hG13, pushG_o _ _ _ _ d5_89]; exact n5
  have n9 : G13.2.2 q9 = 1002 := by rw [← hG13, pushG_o _ _ _ _ d9_89]; exact n9
  have n13 : G13.2.2 q13 = 1002 := by rw [← hG13, pushG_o _ _ _ _ d13_89]; exact n13
  have n17 : G13.2.2 q17 = 20 := by rw [← hG13, pushG_o _ _ _ _ d17_89]; exact n17
  have n61 : G13.2.2 q61 = 30 := by rw [← hG13, pushG_o _ _ _ _ d61_89]; exact n61
  have n65 : G13.2.2 q65 = 2200 := by rw [← hG13, pushG_o _ _ _ _ d65_89]; exact n65
  have n69 : G13.2.2 q69 = 20 := by rw [← hG13, pushG_o _ _ _ _ d69_89]; exact n69
  have n73 : G13.2.2 q73 = 310 := by rw [← hG13, pushG_o _ _ _ _ d73_89]; exact n73
  have n77 : G13.2.2 q77 = 4 := by rw [← hG13, pushG_o _ _ _ _ d77_89]; exact n77
  have n81 : G13.2.2 q81 = 64 := by rw [← hG13, pushG_o _ _ _ _ d81_89]; exact n81
  have n85 : G13.2.2 q85 = 616 := by rw [← hG13, pushG_o _ _ _ _ d85_89]; exact n85
  intro q93 h93
  have m93 : ¬ m = q93 := fun r => h93 (r ▸ hm)
  have d1_93 : ¬ q1 = q93 := fun r => h93 (r ▸ g1)
  have d5_93 : ¬ q5 = q93 := fun r => h93 (r ▸ g5)
  have d9_93 : ¬ q9 = q93 := fun r => h93 (r ▸ g9)
  have d13_93 : ¬ q13 = q93 := fun r => h93 (r ▸ g13)
  have d17_93 : ¬ q17 = q93 := fun r => h93 (r ▸ g17)
  have d61_93 : ¬ q61 = q93 := fun r => h93 (r ▸ g61)
  have d65_93 : ¬ q65 = q93 := fun r => h93 (r ▸ g65)
  have d69_93 : ¬ q69 = q93 := fun r => h93 (r ▸ g69)
  have d73_93 : ¬ q73 = q93 := fun r => h93 (r ▸ g73)
  have d77_93 : ¬ q77 = q93 := fun r => h93 (r ▸ g77)
  have d81_93 : ¬ q81 = q93 := fun r => h93 (r ▸ g81)
  have d85_93 : ¬ q85 = q93 := fun r => h93 (r ▸ g85)
  have d89_93 : ¬ q89 = q93 := fun r => h93 (r ▸ g89)
  have hm := pushG_m _ q93 15 600 hm
  have g1 := pushG_m _ q93 15 600 g1
  have g5 := pushG_m _ q93 15 600 g5
  have g9 := pushG_m _ q93 15 600 g9
  have g13 := pushG_m _ q93 15 600 g13
  have g17 := pushG_m _ q93 15 600 g17
  have g61 := pushG_m _ q93 15 600 g61
  have g65 := pushG_m _ q93 15 600 g65
  have g69 := pushG_m _ q93 15 600 g69
  have g73 := pushG_m _ q93 15 600 g73
  have g77 := pushG_m _ q93 15 600 g77
  have g81 := pushG_m _ q93 15 600 g81
  have g85 := pushG_m _ q93 15 600 g85
  have g89 := pushG_m _ q93 15 600 g89
  have g93 := pushG_s G13 q93 15 600
  generalize hG14 : pushG G13 q93 15 600 = G14 at *
  have n93 : G14.2.2 q93 = 600 := by rw [← hG14]; exact pushG_n _ _ _ _
  have n1 : G14.2.2 q1 = 1000 := by rw [← hG14, pushG_o _ _ _ _ d1_93]; exact n1
  have n5 : G14.2.2 q5 = 1002 := by rw [← hG14, pushG_o _ _ _ _ d5_93]; exact n5
  have n9 : G14.2.2 q9 = 1002 := by rw [← hG14, pushG_o _ _ _ _ d9_93]; exact n9
  have n13 : G14.2.2 q13 = 1002 := by rw [← hG14, pushG_o _ _ _ _ d13_93]; exact n13
  have n17 : G14.2.2 q17 = 20 := by rw [← hG14, pushG_o _ _ _ _ d17_93]; exact n17
  have n61 : G14.2.2 q61 = 30 := by rw [← hG14, pushG_o _ _ _ _ d61_93]; exact n61
  have n65 : G14.2.2 q65 = 2200 := by rw [← hG14, pushG_o _ _ _ _ d65_93]; exact n65
  have n69 : G14.2.2 q69 = 20 := by rw [← hG14, pushG_o _ _ _ _ d69_93]; exact n69
  have n73 : G14.2.2 q73 = 310 := by rw [← hG14, pushG_o _ _ _ _ d73_93]; exact n73
  have n77 : G14.2.2 q77 = 4 := by rw [← hG14, pushG_o _ _ _ _ d77_93]; exact n77
  have n81 : G14.2.2 q81 = 64 := by rw [← hG14, pushG_o _ _ _ _ d81_93]; exact n81
  have n85 : G14.2.2 q85 = 616 := by rw [← hG14, pushG_o _ _ _ _ d85_93]; exact n85
  have n89 : G14.2.2 q89 = 4 := by rw [← hG14, pushG_o _ _ _ _ d89_93]; exact n89
  intro q97 h97
  have m97 : ¬ m = q97 := fun r => h97 (r ▸ hm)
  have d1_97 : ¬ q1 = q97 := fun r => h97 (r ▸ g1)
  have d5_97 : ¬ q5 = q97 := fun r => h97 (r ▸ g5)
  have d9_97 : ¬ q9 = q97 := fun r => h97 (r ▸ g9)
  have d13_97 : ¬ q13 = q97 := fun r => h97 (r ▸ g13)
  have d17_97 : ¬ q17 = q97 := fun r => h97 (r ▸ g17)
  have d61_97 : ¬ q61 = q97 := fun r => h97 (r ▸ g61)
  have d65_97 : ¬ q65 = q97 := fun r => h97 (r ▸ g65)
  have d69_97 : ¬ q69 = q97 := fun r => h97 (r ▸ g69)
  have d73_97 : ¬ q73 = q97 := fun r => h97 (r ▸ g73)
  have d77_97 : ¬ q77 = q97 := fun r => h97 (r ▸ g77)
  have d81_97 : ¬ q81 = q97 := fun r => h97 (r ▸ g81)
  have d85_97 : ¬ q85 = q97 := fun r => h97 (r ▸ g85)
  have d89_97 : ¬ q89 = q97 := fun r => h97 (r ▸ g89)
  have d93_97 : ¬ q93 = q97 := fun r => h97 (r ▸ g93)
  have hm := pushG_m _ q97 15 600 hm
  have g1 := pushG_m _ q97 15 600 g1
  have g5 := pushG_m _ q97 15 600 g5
  have g9 := pushG_m _ q97 15 600 g9
  have g13 := pushG_m _ q97 15 600 g13
  have g17 := pushG_m _ q97 15 600 g17
  have g61 := pushG_m _ q97 15 600 g61
  have g65 := pushG_m _ q97 15 600 g65
  have g69 := pushG_m _ q97 15 600 g69
  have g73 := pushG_m _ q97 15 600 g73
  have g77 := pushG_m _ q97 15 600 g77
  have g81 := pushG_m _ q97 15 600 g81
  have g85 := pushG_m _ q97 15 600 g85
  have g89 := pushG_m _ q97 15 600 g89
  have g93 := pushG_m _ q97 15 600 g93
  have g97 := pushG_s G14 q97 15 600
  generalize hG15 : pushG G14 q97 15 600 = G15 at *
  have n97 : G15.2.2 q97 = 600 := by rw [← hG15]; exact pushG_n _ _ _ _
  have n1 : G15.2.2 q1 = 1000 := by rw [← hG15, pushG_o _ _ _ _ d1_97]; exact n1
  have n5 : G15.2.2 q5 = 1002 := by rw [← hG15, pushG_o _ _ _ _ d5_97]; exact n5
  have n9 : G15.2.2 q9 = 1002 := by rw [← hG15, pushG_o _ _ _ _ d9_97]; exact n9
  have n13 : G15.2.2 q13 = 1002 := by rw [← hG15, pushG_o _ _ _ _ d13_97]; exact n13
  have n17 : G15.2.2 q17 = 20 := by rw [← hG15, pushG_o _ _ _ _ d17_97]; exact n17
  have n61 : G15.2.2 q61 = 30 := by rw [← hG15, pushG_o _ _ _ _ d61_97]; exact n61
  have n65 : G15.2.2 q65 = 2200 := by rw [← hG15, pushG_o _ _ _ _ d65_97]; exact n65
  have n69 : G15.2.2 q69 = 20 := by rw [← hG15, pushG_o _ _ _ _ d69_97]; exact n69
  have n73 : G15.2.2 q73 = 310 := by rw [← hG15, pushG_o _ _ _ _ d73_97]; exact n73
  have n77 : G15.2.2 q77 = 4 := by rw [← hG15, pushG_o _ _ _ _ d77_97]; exact n77
  have n81 : G15.2.2 q81 = 64 := by rw [← hG15, pushG_o _ _ _ _ d81_97]; exact n81
  have n85 : G15.2.2 q85 = 616 := by rw [← hG15, pushG_o _ _ _ _ d85_97]; exact n85
  have n89 : G15.2.2 q89 = 4 := by rw [← hG15, pushG_o _ _ _ _ d89_97]; exact n89
  have n93 : G15.2.2 q93 = 600 := by rw [← hG15, pushG_o _ _ _ _ d93_97]; exact n93
  intro q101 h101
  have m101 : ¬ m = q101 := fun r => h101 (r ▸ hm)
  have d1_101 : ¬ q1 = q101 := fun r => h101 (r ▸ g1)
  have d5_101 : ¬ q5 = q101 := fun r => h101 (r ▸ g5)
  have d9_101 : ¬ q9 = q101 := fun r => h101 (r ▸ g9)
  have d13_101 : ¬ q13 = q101 := fun r => h101 (r ▸ g13)
  have d17_101 : ¬ q17 = q101 := fun r => h101 (r ▸ g17)
  have d61_101 : ¬ q61 = q101 := fun r => h101 (r ▸ g61)
  have d65_101 : ¬ q65 = q101 := fun r => h101 (r ▸ g65)
  have d69_101 : ¬ q69 = q101 := fun r => h101 (r ▸ g69)
  have d73_101 : ¬ q73 = q101 := fun r => h101 (r ▸ g73)
  have d77_101 : ¬ q77 = q101 := fun r => h101 (r ▸ g77)
  have d81_101 : ¬ q81 = q101 := fun r => h101 (r ▸ g81)
  have d85_101 : ¬ q85 = q101 := fun r => h101 (r ▸ g85)
  have d89_101 : ¬ q89 = q101 := fun r => h101 (r ▸ g89)
  have d93_101 : ¬ q93 = q101 := fun r => h101 (r ▸ g93)
  have d97_101 : ¬ q97 = q101 := fun r => h101 (r ▸ g97)
  have hm := pushG_m _ q101 14 5 hm
  have g1 := pushG_m _ q101 14 5 g1
  have g5 := pushG_m _ q101 14 5 g5
  have g9 := pushG_m _ q101 14 5 g9
  have g13 := pushG_m _ q101 14 5 g13
  have g17 := pushG_m _ q101 14 5 g17
  have g61 := pushG_m _ q101 14 5 g61
  have g65 := pushG_m _ q101 14 5 g65
  have g69 := pushG_m _ q101 14 5 g69
  have g73 := pushG_m _ q101 14 5 g73
  have g77 := pushG_m _ q101 14 5 g77
  have g81 := pushG_m _ q101 14 5 g81
  have g85 := pushG_m _ q101 14 5 g85
  have g89 := pushG_m _ q101 14 5 g89
  have g93 := pushG_m _ q101 14 5 g93
  have g97 := pushG_m _ q101 14 5 g97
  have g101 := pushG_s G15 q101 14 5
  generalize hG16 : pushG G15 q101 14 5 = G16 at *
  have n101 : G16.2.2 q101 = 5 := by rw [← hG16]; exact pushG_n _ _ _ _
  have n1 : G16.2.2 q1 = 1000 := by rw [← hG16, pushG_o _ _ _ _ d1_101]; exact n1
  have n5 : G16.2.2 q5 = 1002 := by rw [← hG16, pushG_o _ _ _ _ d5_101]; exact n5
  have n9 : G16.2.2 q9 = 1002 := by rw [← hG16, pushG_o _ _ _ _ d9_101]; exact n9
  have n13 : G16.2.2 q13 = 1002 := by rw [← hG16, pushG_o _ _ _ _ d13_101]; exact n13
  have n17 : G16.2.2 q17 = 20 := by rw [← hG16, pushG_o _ _ _ _ d17_101]; exact n17
  have n61 : G16.2.2 q61 = 30 := by rw [← hG16, pushG_o _ _ _ _ d61_101]; exact n61
  have n65 : G16.2.2 q65 = 2200 := by rw [← hG16, pushG_o _ _ _ _ d65_101]; exact n65
  have n69 : G16.2.2 q69 = 20 := by rw [← hG16, pushG_o _ _ _ _ d69_101]; exact n69
  have n73 : G16.2.2 q73 = 310 := by rw [← hG16, pushG_o _ _ _ _ d73_101]; exact n73
  have n77 : G16.2.2 q77 = 4 := by rw [← hG16, pushG_o _ _ _ _ d77_101]; exact n77
  have n81 : G16.2.2 q81 = 64 := by rw [← hG16, pushG_o _ _ _ _ d81_101]; exact n81
  have n85 : G16.2.2 q85 = 616 := by rw [← hG16, pushG_o _ _ _ _ d85_101]; exact n85
  have n89 : G16.2.2 q89 = 4 := by rw [← hG16, pushG_o _ _ _ _ d89_101]; exact n89
  have n93 : G16.2.2 q93 = 600 := by rw [← hG16, pushG_o _ _ _ _ d93_101]; exact n93
  have n97 : G16.2.2 q97 = 600 := by rw [← hG16, pushG_o _ _ _ _ d97_101]; exact n97
  have nd : ([q1, q5, q9, q13, q17, q61, q65, q69, q73, q77, q81, q85, q89, q93, q97, q101] : List Nat).Nodup := by
    simp [d1_5, d1_9, d5_9, d1_13, d5_13, d9_13, d1_17, d5_17, d9_17, d13_17, d1_61, d5_61, d9_61, d13_61, d17_61, d1_65, d5_65, d9_65, d13_65, d17_65, d61_65, d1_69, d5_69, d9_69, d13_69, d17_69, d61_69, d65_69, d1_73, d5_73, d9_73, d13_73, d17_73, d61_73, d65_73, d69_73, d1_77, d5_77, d9_77, d13_77, d17_77, d61_77, d65_77, d69_77, d73_77, d1_81, d5_81, d9_81, d13_81, d17_81, d61_81, d65_81, d69_81, d73_81, d77_81, d1_85, d5_85, d9_85, d13_85, d17_85, d61_85, d65_85, d69_85, d73_85, d77_85, d81_85, d1_89, d5_89, d9_89, d13_89, d17_89, d61_89, d65_89, d69_89, d73_89, d77_89, d81_89, d85_89, d1_93, d5_93, d9_93, d13_93, d17_93, d61_93, d65_93, d69_93, d73_93, d77_93, d81_93, d85_93, d89_93, d1_97, d5_97, d9_97, d13_97, d17_97, d61_97, d65_97, d69_97, d73_97, d77_97, d81_97, d85_97, d89_97, d93_97, d1_101, d5_101, d9_101, d13_101, d17_101, d61_101, d65_101, d69_101, d73_101, d77_101, d81_101, d85_101, d89_101, d93_101, d97_101]
  have hB := ofL_inj nd
  have B0 : ofL [q1, q5, q9, q13, q17, q61, q65, q69, q73, q77, q81, q85, q89, q93, q97, q101] 0 = q1 := rfl
  have B1 : ofL [q1, q5, q9, q13, q17, q61, q65, q69, q73, q77, q81, q85, q89, q93, q97, q101] 1 = q5 := rfl
  have B2 : ofL [q1, q5, q9, q13, q17, q61, q65, q69, q73, q77, q81, q85, q89, q93, q97, q101] 2 = q9 := rfl
  have B3 : ofL [q1, q5, q9, q13, q17, q61, q65, q69, q73, q77, q81, q85, q89, q93, q97, q101] 3 = q13 := rfl
  have B4 : ofL [q1, q5, q9, q13, q17, q61, q65, q69, q73, q77, q81, q85, q89, q93, q97, q101] 4 = q17 := rfl
  have B5 : ofL [q1, q5, q9, q13, q17, q61, q65, q69, q73, q77, q81, q85, q89, q93, q97, q101] 5 = q61 := rfl
  have B6 : ofL [q1, q5, q9, q13, q17, q61, q65, q69, q73, q77, q81, q85, q89, q93, q97, q101] 6 = q65 := rfl
  have B7 : ofL [q1, q5, q9, q13, q17, q61, q65, q69, q73, q77, q81, q85, q89, q93, q97, q101] 7 = q69 := rfl
  have B8 : ofL [q1, q5, q9, q13, q17, q61, q65, q69, q73, q77, q81, q85, q89, q93, q97, q101] 8 = q73 := rfl
  have B9 : ofL [q1, q5, q9, q13, q17, q61, q65, q69, q73, q77, q81, q85, q89, q93, q97, q101] 9 = q77 := rfl
  have B10 : ofL [q1, q5, q9, q13, q17, q61, q65, q69, q73, q77, q81, q85, q89, q93, q97, q101] 10 = q81 := rfl
  have B11 : ofL [q1, q5, q9, q13, q17, q61, q65, q69, q73, q77, q81, q85, q89, q93, q97, q101] 11 = q85 := rfl
  have B12 : ofL [q1, q5, q9, q13, q17, q61, q65, q69, q73, q77, q81, q85, q89, q93, q97, q101] 12 = q89 := rfl
  have B13 : ofL [q1, q5, q9, q13, q17, q61, q65, q69, q73, q77, q81, q85, q89, q93, q97, q101] 13 = q93 := rfl
  have B14 : ofL [q1, q5, q9, q13, q17, q61, q65, q69, q73, q77, q81, q85, q89, q93, q97, q101] 14 = q97 := rfl
  have B15 : ofL [q1, q5, q9, q13, q17, q61, q65, q69, q73, q77, q81, q85, q89, q93, q97, q101] 15 = q101 := rfl
  generalize ofL [q1, q5, q9, q13, q17, q61, q65, q69, q73, q77, q81, q85, q89, q93, q97, q101] = B at *
  generalize hS : uR (zap q101 _) 1227 m (some q101) = S9
  have r1 : gR S9 1201 m = some q1 := by rw [← hS]; simp [gR_uR, gR_zap, gR_wJ, m1, m5, m9, m13, m17, m61, m65, m69, m73, m77, m81, m85, m89, m93, m97, m101]
  have r5 : gR S9 1204 m = some q5 := by rw [← hS]; simp [gR_uR, gR_zap, gR_wJ, m1, m5, m9, m13, m17, m61, m65, m69, m73, m77, m81, m85, m89, m93, m97, m101]
  have r9 : gR S9 1205 m = some q9 := by rw [← hS]; simp [gR_uR, gR_zap, gR_wJ, m1, m5, m9, m13, m17, m61, m65, m69, m73, m77, m81, m85, m89, m93, m97, m101]
  have r13 : gR S9 1206 m = some q13 := by rw [← hS]; simp [gR_uR, gR_zap, gR_wJ, m1, m5, m9, m13, m17, m61, m65, m69, m73, m77, m81, m85, m89, m93, m97, m101]
  have r17 : gR S9 1209 m = some q17 := by rw [← hS]; simp [gR_uR, gR_zap, gR_wJ, m1, m5, m9, m13, m17, m61, m65, m69, m73, m77, m81, m85, m89, m93, m97, m101]
  have r61 : gR S9 1210 m = some q61 := by rw [← hS]; simp [gR_uR, gR_zap, gR_wJ, m1, m5, m9, m13, m17, m61, m65, m69, m73, m77, m81, m85, m89, m93, m97, m101]
  have r65 : gR S9 1211 m = some q65 := by rw [← hS]; simp [gR_uR, gR_zap, gR_wJ, m1, m5, m9, m13, m17, m61, m65, m69, m73, m77, m81, m85, m89, m93, m97, m101]
  have r69 : gR S9 1213 m = some q69 := by rw [← hS]; simp [gR_uR, gR_zap, gR_wJ, m1, m5, m9, m13, m17, m61, m65, m69, m73, m77, m81, m85, m89, m93, m97, m101]
  have r73 : gR S9 1214 m = some q73 := by rw [← hS]; simp [gR_uR, gR_zap, gR_wJ, m1, m5, m9, m13, m17, m61, m65, m69, m73, m77, m81, m85, m89, m93, m97, m101]
  have r77 : gR S9 1215 m = some q77 := by rw [← hS]; simp [gR_uR, gR_zap, gR_wJ, m1, m5, m9, m13, m17, m61, m65, m69, m73, m77, m81, m85, m89, m93, m97, m101]
  have r81 : gR S9 1216 m = some q81 := by rw [← hS]; simp [gR_uR, gR_zap, gR_wJ, m1, m5, m9, m13, m17, m61, m65, m69, m73, m77, m81, m85, m89, m93, m97, m101]
  have r85 : gR S9 1217 m = some q85 := by rw [← hS]; simp [gR_uR, gR_zap, gR_wJ, m1, m5, m9, m13, m17, m61, m65, m69, m73, m77, m81, m85, m89, m93, m97, m101]
  have r89 : gR S9 1219 m = some q89 := by rw [← hS]; simp [gR_uR, gR_zap, gR_wJ, m1, m5, m9, m13, m17, m61, m65, m69, m73, m77, m81, m85, m89, m93, m97, m101]
  have r93 : gR S9 1225 m = some q93 := by rw [← hS]; simp [gR_uR, gR_zap, gR_wJ, m1, m5, m9, m13, m17, m61, m65, m69, m73, m77, m81, m85, m89, m93, m97, m101]
  have r97 : gR S9 1226 m = some q97 := by rw [← hS]; simp [gR_uR, gR_zap, gR_wJ, m1, m5, m9, m13, m17, m61, m65, m69, m73, m77, m81, m85, m89, m93, m97, m101]
  have r101 : gR S9 1227 m = some q101 := by rw [← hS]; simp [gR_uR, gR_zap, gR_wJ, m1, m5, m9, m13, m17, m61, m65, m69, m73, m77, m81, m85, m89, m93, m97, m101]
  have e0 : gI S9 1202 m = 0 := by rw [← hS]; simp [gI_uR, gI_zap, gI_wJ, m1, m5, m9, m13, m17, m61, m65, m69, m73, m77, m81, m85, m89, m93, m97, m101]; exact hz
  have hw : ∀ (i v : Nat), words37[i]? = some v → aJ S9 (B 4) i = jj v := by
    intro i v h
    have hi : i < 20 := (List.getElem?_eq_some_iff.mp h).1
    rw [B4, ← hS]
    simp only [aJ_uR, aJ_zap, aJ_wJ, d17_61, d17_65, d17_69, d17_73, d17_77, d17_81, d17_85, d17_89, d17_93, d17_97, d17_101, if_false, and_true]
    have : i = 0 ∨ i = 1 ∨ i = 2 ∨ i = 3 ∨ i = 4 ∨ i = 5 ∨ i = 6 ∨ i = 7 ∨ i = 8 ∨ i = 9 ∨ i = 10 ∨ i = 11 ∨ i = 12 ∨ i = 13 ∨ i = 14 ∨ i = 15 ∨ i = 16 ∨ i = 17 ∨ i = 18 ∨ i = 19 := by omega
    rcases this with r | r | r | r | r | r | r | r | r | r | r | r | r | r | r | r | r | r | r | r <;> subst r <;> (have hv := Option.some.inj h; subst hv; rfl)
  have hL : YLAY G16.2.2 S9.2.2.1 m B := ⟨⟨by rw [B0]; exact r1, by rw [B1]; exact r5, by rw [B2]; exact r9, by rw [B3]; exact r13, by rw [B4]; exact r17, by rw [B5]; exact r61, by rw [B6]; exact r65, by rw [B7]; exact r69⟩, ⟨by rw [B8]; exact r73, by rw [B9]; exact r77, by rw [B10]; exact r81, by rw [B11]; exact r85, by rw [B12]; exact r89, by rw [B13]; exact r93, by rw [B14]; exact r97, by rw [B15]; exact r101⟩, ⟨by rw [B0]; exact n1, by rw [B1]; exact n5, by rw [B2]; exact n9, by rw [B3]; exact n13, by rw [B4]; exact n17, by rw [B5]; exact n61, by rw [B6]; exact n65, by rw [B7]; exact n69⟩, by rw [B8]; exact n73, by rw [B9]; exact n77, by rw [B10]; exact n81, by rw [B11]; exact n85, by rw [B12]; exact n89, by rw [B13]; exact n93, by rw [B14]; exact n97, by rw [B15]; exact n101⟩
  obtain ⟨S1, S2, a1, a2, a3, _⟩ := y_start1 (F := F) hF hB hL hw e0
  exact ⟨S1, a1, S2, a2, B, a3⟩
end
section
/- what is laid: index, address and the exact view of each object -/
abbrev View : Type := (Nat → Int32) × (Nat → Option Nat) × (Nat → Int32) × (Nat → Int64) × (Nat → Option Nat) × Nat
def vw (G : GS) (S : HS) (p : Nat) : View := (fun f => gI S f p, fun f => gR S f p, aI S p, aJ S p, aR S p, G.2.2 p)
abbrev Ent : Type := Nat × Nat × View
def vz (n : Nat) : View := (fun _ => 0, fun _ => none, fun _ => 0, fun _ => 0, fun _ => none, n)
def vR1 (v : View) (f : Nat) (q : Option Nat) : View := (v.1, fun j => if j = f then q else v.2.1 j, v.2.2)
def vI1 (v : View) (f : Nat) (q : Int32) : View := (fun j => if j = f then q else v.1 j, v.2)
def vA1 (v : View) (i : Nat) (q : Option Nat) : View := (v.1, v.2.1, v.2.2.1, v.2.2.2.1, fun j => if j = i then q else v.2.2.2.2.1 j, v.2.2.2.2.2)
def HAS (l : List Ent) (G : GS) (S : HS) : Prop := (l.map (fun e => e.2.1)).Nodup ∧ ∀ e, e ∈ l → e.2.1 ∈ G.1 ∧ vw G S e.2.1 = e.2.2
theorem vw_new (G : GS) (S : HS) (q k n : Nat) : vw (pushG G q k n) (zap q S) q = vz n := by
  unfold vw vz
  rw [pushG_n]
  have e1 : (fun f => gI (zap q S) f q) = fun _ => 0 := by funext f; rw [gI_zap, if_pos rfl]
  have e2 : (fun f => gR (zap q S) f q) = fun _ => none := by funext f; rw [gR_zap, if_pos rfl]
  have e3 : aI (zap q S) q = fun _ => 0 := by funext f; rw [aI_zap, if_pos rfl]
  have e4 : aJ (zap q S) q = fun _ => 0 := by funext f; rw [aJ_zap, if_pos rfl]
  have e5 : aR (zap q S) q = fun _ => none := by funext f; rw [aR_zap, if_pos rfl]
  rw [e1, e2, e3, e4, e5]
theorem vw_old (G : GS) (S : HS) (q k n : Nat) {p : Nat} (h : ¬ p = q) : vw (pushG G q k n) (zap q S) p = vw G S p := by
  unfold vw
  rw [pushG_o _ _ _ _ h]
  have e1 : (fun f => gI (zap q S) f p) = fun f => gI S f p := by funext f; rw [gI_zap, if_neg h]
  have e2 : (fun f => gR (zap q S) f p) = fun f => gR S f p := by funext f; rw [gR_zap, if_neg h]
  have e3 : aI (zap q S) p = aI S p := by funext f; rw [aI_zap, if_neg h]
  have e4 : aJ (zap q S) p = aJ S p := by funext f; rw [aJ_zap, if_neg h]
  have e5 : aR (zap q S) p = aR S p := by funext f; rw [aR_zap, if_neg h]
  rw [e1, e2, e3, e4, e5]
theorem HAS.fresh {l : List Ent} {G : GS} {S : HS} (h : HAS l G S) {q : Nat} (hq : q ∉ G.1) : ∀ e, e ∈ l → ¬ e.2.1 = q := fun e he r => hq (r ▸ (h.2 e he).1)
theorem HAS.new {l : List Ent} {G : GS} {S : HS} (h : HAS l G S) {q : Nat} (hq : q ∉ G.1) (i k n : Nat) : HAS ((i, q, vz n) :: l) (pushG G q k n) (zap q S) := by
  refine ⟨?_, fun e he => ?_⟩
  · rw [List.map_cons, List.nodup_cons]
    refine ⟨fun r => ?_, h.1⟩
    obtain ⟨e, e1, e2⟩ := List.mem_map.mp r
    exact h.fresh hq e e1 e2
  · rcases List.mem_cons.mp he with r | r
    · subst r; exact ⟨pushG_s _ _ _ _, vw_new _ _ _ _ _⟩
    · exact ⟨pushG_m _ _ _ _ (h.2 e r).1, by rw [vw_old _ _ _ _ _ (h.fresh hq e r)]; exact (h.2 e r).2⟩
/- one of them changes, and comes to the head -/
theorem HAS.upd {l1 l2 : List Ent} {i a : Nat} {v v' : View} {G : GS} {S S' : HS} (h : HAS (l1 ++ (i, a, v) :: l2) G S) (h1 : vw G S a = v → vw G S' a = v') (h2 : ∀ p, ¬ p = a → vw G S' p = vw G S p) : HAS ((i, a, v') :: (l1 ++ l2)) G S' := by
  have hp : (l1 ++ (i, a, v) :: l2).Perm ((i, a, v) :: (l1 ++ l2)) := List.perm_middle
  have hn : (((i, a, v) :: (l1 ++ l2)).map (fun e => e.2.1)).Nodup := (hp.map _).nodup_iff.mp h.1
  have hm : ∀ e, e ∈ (i, a, v) :: (l1 ++ l2) → e.2.1 ∈ G.1 ∧ vw G S e.2.1 = e.2.2 := fun e he => h.2 e (hp.mem_iff.mpr he)
  rw [List.map_cons, List.nodup_cons] at hn
  refine ⟨by rw [List.map_cons, List.nodup_cons]; exact hn, fun e he => ?_⟩
  rcases List.mem_cons.mp he with r | r
  · subst r
    have := hm (i, a, v) (List.mem_cons_self ..)
    exact ⟨this.1, h1 this.2⟩
  · have := hm e (List.mem_cons_of_mem _ r)
    refine ⟨this.1, by rw [h2 _ (fun q => hn.1 (List.mem_map.mpr ⟨e, r, q⟩))]; exact this.2⟩
theorem vw_uR (G : GS) (S : HS) (f a : Nat) (q : Option Nat) : vw G (uR S f a q) a = vR1 (vw G S a) f q := by
  unfold vw vR1
  have e2 : (fun g => gR (uR S f a q) g a) = fun j => if j = f then q else gR S j a := by funext g; rw [gR_uR]; simp
  rw [e2]; rfl
theorem vw_uR_o (G : GS) (S : HS) (f a : Nat) (q : Option Nat) {p : Nat} (h : ¬ p = a) : vw G (uR S f a q) p = vw G S p := by
  unfold vw
  have e2 : (fun g => gR (uR S f a q) g p) = fun j => gR S j p := by funext g; rw [gR_uR, if_neg (fun r => h r.2)]
  rw [e2]; rfl
theorem vw_uI (G : GS) (S : HS) (f a : Nat) (q : Int32) : vw G (uI S f a q) a = vI1 (vw G S a) f q := by
  unfold vw vI1
  have e2 : (fun g => gI (uI S f a q) g a) = fun j => if j = f then q else gI S j a := by funext g; rw [gI_uI]; simp
  rw [e2]; rfl
theorem vw_uI_o (G : GS) (S : HS) (f a : Nat) (q : Int32) {p : Nat} (h : ¬ p = a) : vw G (uI S f a q) p = vw G S p := by
  unfold vw
  have e2 : (fun g => gI (uI S f a q) g p) = fun j => gI S j p := by funext g; rw [gI_uI, if_neg (fun r => h r.2)]
  rw [e2]; rfl
theorem vw_wR (G : GS) (S : HS) (i a : Nat) (q : Option Nat) : vw G (wR S a i q) a = vA1 (vw G S a) i q := by
  unfold vw vA1
  have e2 : aR (wR S a i q) a = fun j => if j = i then q else aR S a j := p2_row _ _ _ _
  rw [e2]; rfl
theorem vw_wR_o (G : GS) (S : HS) (i a : Nat) (q : Option Nat) {p : Nat} (h : ¬ p = a) : vw G (wR S a i q) p = vw G S p := by
  unfold vw
  have e2 : aR (wR S a i q) p = aR S p := p2_rw _ _ _ _ h
  rw [e2]; rfl
theorem HAS.pR (l1 : List Ent) {l2 : List Ent} {i a : Nat} {v : View} {G : GS} {S : HS} (h : HAS (l1 ++ (i, a, v) :: l2) G S) (f : Nat) (q : Option Nat) : HAS ((i, a, vR1 v f q) :: (l1 ++ l2)) G (uR S f a q) :=
  h.upd (fun e => by rw [vw_uR, e]) (fun p hp => vw_uR_o _ _ _ _ _ hp)
theorem HAS.pI (l1 : List Ent) {l2 : List Ent} {i a : Nat} {v : View} {G : GS} {S : HS} (h : HAS (l1 ++ (i, a, v) :: l2) G S) (f : Nat) (q : Int32) : HAS ((i, a, vI1 v f q) :: (l1 ++ l2)) G (uI S f a q) :=
  h.upd (fun e => by rw [vw_uI, e]) (fun p hp => vw_uI_o _ _ _ _ _ hp)
theorem HAS.pW (l1 : List Ent) {l2 : List Ent} {i a : Nat} {v : View} {G : GS} {S : HS} (h : HAS (l1 ++ (i, a, v) :: l2) G S) (j : Nat) (q : Option Nat) : HAS ((i, a, vA1 v j q) :: (l1 ++ l2)) G (wR S a j q) :=
  h.upd (fun e => by rw [vw_wR, e]) (fun p hp => vw_wR_o _ _ _ _ _ hp)
theorem HAS.pG {l : List Ent} {G : GS} {S : HS} (h : HAS l G S) {i a : Nat} {v : View} (he : (i, a, v) ∈ l) (f : Nat) : gR S f a = v.2.1 f := by
  have := (h.2 _ he).2
  exact congrFun (congrArg (fun w : View => w.2.1) this) f
/- a new state object -/
def vst (r : Nat) : View := vI1 (vI1 (vR1 (vz 0) 700 (some r)) 701 (-1)) 702 0
theorem new_state {l : List Ent} {G : GS} {S : HS} (h : HAS l G S) (i j : Nat) {P : GS → HS → Prop} {q : Nat} (hq : q ∉ G.1) (hP : ∀ r G' S', HAS ((i, q, vst r) :: (j, r, vz 6) :: l) G' S' → P G' S') : w_X7_init q (pushG G q 7 0) (zap q S) P := by
  unfold w_X7_init
  simp only [bnd_def]
  intro r hr
  have h1 := (h.new hq i 7 0).new hr j 14 6
  have h2 := HAS.pR [(j, r, vz 6)] h1 700 (some r)
  have h3 := HAS.pI [] h2 701 (-1)
  have h4 := HAS.pI [] h3 702 0
  exact hP r _ _ h4
end
section
def vrow (n : Nat) (f : Nat → Option Nat) : View := (fun _ => 0, fun _ => none, fun _ => 0, fun _ => 0, f, n)
def idxs (base : Nat) : Nat → List Nat
  | 0 => []
  | j + 1 => (base + j) :: (60 + (base + j)) :: idxs base j
def LD (base : Nat) (f : Nat → Option Nat) (sl : List Ent) (j : Nat) : Prop := sl.map (fun e => e.1) = idxs base j ∧ ∀ i, i < j → ∃ q r, (base + i, q, vst r) ∈ sl ∧ (60 + (base + i), r, vz 6) ∈ sl ∧ f i = some q
theorem LD.step {base : Nat} {f : Nat → Option Nat} {sl : List Ent} {j : Nat} (h : LD base f sl j) (q r : Nat) : LD base (fun i => if i = j then some q else f i) ((base + j, q, vst r) :: (60 + (base + j), r, vz 6) :: sl) (j + 1) := by
  refine ⟨by simp only [List.map_cons]; rw [h.1]; rfl, fun i hi => ?_⟩
  by_cases w : i = j
  · subst w
    exact ⟨q, r, List.mem_cons_self .., List.mem_cons_of_mem _ (List.mem_cons_self ..), if_pos rfl⟩
  · obtain ⟨q', r', h1, h2, h3⟩ := h.2 i (by omega)
    exact ⟨q', r', List.mem_cons_of_mem _ (List.mem_cons_of_mem _ h1), List.mem_cons_of_mem _ (List.mem_cons_of_mem _ h2), (if_neg w).trans h3⟩
theorem past_loop {P : GS → HS → Prop} {pa t : Nat} {vpa : View} (hv : vpa.2.1 400 = some t) : ∀ (k j M : Nat) (G : GS) (S : HS) (l sl : List Ent) (f : Nat → Option Nat), j + k = 16 → k < M → (13, pa, vpa) ∈ l → HAS ((14, t, vrow 16 f) :: (sl ++ l)) G S → LD 40 f sl j → (∀ G' S' f' sl', HAS ((14, t, vrow 16 f') :: (sl' ++ l)) G' S' → LD 40 f' sl' 16 → P G' S') → w_X4_init_L23 P M pa (ii j) G S := by
  intro k
  induction k with
  | zero =>
    intro j M G S l sl f hj hM he h hd hP
    obtain ⟨M, rfl⟩ : ∃ q, M = q + 1 := ⟨M - 1, by omega⟩
    unfold w_X4_init_L23
    rw [if_pos (by rw [k16, ii_le (by omega) (by omega) (by omega) (by omega)]; omega)]
    have : j = 16 := by omega
    subst this
    exact hP G S f sl h hd
  | succ k ih =>
    intro j M G S l sl f hj hM he h hd hP
    obtain ⟨M, rfl⟩ : ∃ q, M = q + 1 := ⟨M - 1, by omega⟩
    unfold w_X4_init_L23
    rw [if_neg (by rw [k16, ii_le (by omega) (by omega) (by omega) (by omega)]; omega)]
    refine ⟨t, ?_, ?_⟩
    · rw [h.pG (List.mem_cons_of_mem _ (List.mem_append_right _ he)) 400]; exact hv
    intro q hq
    simp only [bnd_def]
    refine new_state h (40 + j) (60 + (40 + j)) hq (fun r G' S' h' => ?_)
    have hN : G'.2.2 t = 16 := congrArg (fun w : View => w.2.2.2.2.2) (h'.2 (14, t, vrow 16 f) (by simp)).2
    rw [if_pos (by rw [hN]; exact in_of (z := j) rfl (by omega) (by decide)), cl_of (x := ii (j : Int)) (z := j) rfl (by omega), show ii (j : Int) + Int32.ofInt 1 = ii ((j + 1 : Nat) : Int) by rw [show Int32.ofInt 1 = ii 1 from rfl, ii_add]; rfl]
    have h2 := HAS.pW [(40 + j, q, vst r), (60 + (40 + j), r, vz 6)] h' j (some q)
    exact ih (j + 1) M G' _ l ((40 + j, q, vst r) :: (60 + (40 + j), r, vz 6) :: sl) _ (by omega) (by omega) he h2 (hd.step q r) hP
theorem laid_loop {P : GS → HS → Prop} {x t : Nat} {vx : View} (hv : vx.2.1 1106 = some t) : ∀ (k j M : Nat) (G : GS) (S : HS) (l sl : List Ent) (f : Nat → Option Nat), j + k = 4 → k < M → (200, x, vx) ∈ l → HAS ((18, t, vrow 4 f) :: (sl ++ l)) G S → LD 35 f sl j → (∀ G' S' f' sl', HAS ((18, t, vrow 4 f') :: (sl' ++ l)) G' S' → LD 35 f' sl' 4 → P G' S') → w_X11_init_L155 P M x (ii j) G S := by
  intro k
  induction k with
  | zero =>
    intro j M G S l sl f hj hM he h hd hP
    obtain ⟨M, rfl⟩ : ∃ q, M = q + 1 := ⟨M - 1, by omega⟩
    unfold w_X11_init_L155
    rw [if_pos (by rw [k4, ii_le (by omega) (by omega) (by omega) (by omega)]; omega)]
    have : j = 4 := by omega
    subst this
    exact hP G S f sl h hd
  | succ k ih =>
    intro j M G S l sl f hj hM he h hd hP
    obtain ⟨M, rfl⟩ : ∃ q, M = q + 1 := ⟨M - 1, by omega⟩
    unfold w_X11_init_L155
    rw [if_neg (by rw [k4, ii_le (by omega) (by omega) (by omega) (by omega)]; omega)]
    refine ⟨t, ?_, ?_⟩
    · rw [h.pG (List.mem_cons_of_mem _ (List.mem_append_right _ he)) 1106]; exact hv
    intro q hq
    simp only [bnd_def]
    refine new_state h (35 + j) (60 + (35 + j)) hq (fun r G' S' h' => ?_)
    have hN : G'.2.2 t = 4 := congrArg (fun w : View => w.2.2.2.2.2) (h'.2 (18, t, vrow 4 f) (by simp)).2
    rw [if_pos (by rw [hN]; exact in_of (z := j) rfl (by omega) (by decide)), cl_of (x := ii (j : Int)) (z := j) rfl (by omega), show ii (j : Int) + Int32.ofInt 1 = ii ((j + 1 : Nat) : Int) by rw [show Int32.ofInt 1 = ii 1 from rfl, ii_add]; rfl]
    have h2 := HAS.pW [(35 + j, q, vst r), (60 + (35 + j), r, vz 6)] h' j (some q)
    exact ih (j + 1) M G' _ l ((35 + j, q, vst r) :: (60 + (35 + j), r, vz 6) :: sl) _ (by omega) (by omega) he h2 (hd.step q r) hP
/- the objects with rows -/
theorem new_rows1 {l : List Ent} {G : GS} {S : HS} {a : Nat} {v : View} {i : Nat} (h : HAS ((i, a, v) :: l) G S) {q : Nat} (hq : q ∉ G.1) (f j k n : Nat) : HAS ((i, a, vR1 v f (some q)) :: (j, q, vz n) :: l) (pushG G q k n) (uR (zap q S) f a (some q)) :=
  HAS.pR [(j, q, vz n)] (h.new hq j k n) f (some q)
/- the addresses of a list -/
def ofE (l : List Ent) (i : Nat) : Nat := match l.find? (fun e => e.1 == i) with
  | some e => e.2.1
  | none => bigL (l.map (fun e => e.2.1)) + i
theorem ofE_mem {l : List Ent} (hn : (l.map (fun e => e.1)).Nodup) {i q : Nat} {v : View} (h : (i, q, v) ∈ l) : ofE l i = q := by
  unfold ofE
  have : l.find? (fun e => e.1 == i) = some (i, q, v) := by
    induction l with
    | nil => cases h
    | cons a r ih =>
      rw [List.map_cons, List.nodup_cons] at hn
      rcases List.mem_cons.mp h with e | e
      · subst e; simp
      · have hne : ¬ a.1 = i := fun w => hn.1 (List.mem_map.mpr ⟨_, e, w.symm⟩)
        rw [List.find?_cons_of_neg (by simpa using hne)]
        exact ih hn.2 e
  rw [this]
theorem ofE_inj {l : List Ent} (ha : (l.map (fun e => e.2.1)).Nodup) : ∀ i j, ofE l i = ofE l j ↔ i = j := by
  intro i j
  refine ⟨fun e => ?_, fun e => by rw [e]⟩
  unfold ofE at e
  cases hi : l.find? (fun e => e.1 == i) with
  | none =>
    cases hj : l.find? (fun e => e.1 == j) with
    | none => rw [hi, hj] at e; dsimp only at e; omega
    | some b =>
      rw [hi, hj] at e; dsimp only at e
      have := bigL_mem (l := l.map (fun e => e.2.1)) (q := b.2.1) (List.mem_map.mpr ⟨b, List.mem_of_find?_eq_some hj, rfl⟩)
      omega
  | some a =>
    have ma := List.mem_of_find?_eq_some hi
    have pa := List.find?_some hi
    cases hj : l.find? (fun e => e.1 == j) with
    | none =>
      rw [hi, hj] at e; dsimp only at e
      have := bigL_mem (l := l.map (fun e => e.2.1)) (q := a.2.1) (List.mem_map.mpr ⟨a, ma, rfl⟩)
      omega
    | some b =>
      rw [hi, hj] at e; dsimp only at e
      have mb := List.mem_of_find?_eq_some hj
      have pb := List.find?_some hj
      have hab : a = b := by
        have hp := List.pairwise_iff_getElem.mp ha
        obtain ⟨s, hs, e1⟩ := List.getElem_of_mem ma
        obtain ⟨t, ht, e2⟩ := List.getElem_of_mem mb
        rcases Nat.lt_trichotomy s t with q | q | q
        · exact (hp s t (by simpa using hs) (by simpa using ht) q (by simp [e1, e2, e])).elim
        · subst q; rw [← e1, ← e2]
        · exact (hp t s (by simpa using ht) (by simpa using hs) q (by simp [e1, e2, e])).elim
      subst hab
      simp at pa pb
      omega
end
section
theorem HAS.at {l : List Ent} {G : GS} {S : HS} (h : HAS l G S) (hn : (l.map (fun e => e.1)).Nodup) {i q : Nat} {v : View} (he : (i, q, v) ∈ l) : ofE l i = q ∧ (∀ f, gI S f (ofE l i) = v.1 f) ∧ (∀ f, gR S f (ofE l i) = v.2.1 f) ∧ aI S (ofE l i) = v.2.2.1 ∧ aR S (ofE l i) = v.2.2.2.2.1 ∧ G.2.2 (ofE l i) = v.2.2.2.2.2 := by
  have e := ofE_mem hn he
  rw [e]
  have hv := (h.2 _ he).2
  exact ⟨rfl, fun f => congrFun (congrArg (fun w : View => w.1) hv) f, fun f => congrFun (congrArg (fun w : View => w.2.1) hv) f, congrArg (fun w : View => w.2.2.1) hv, congrArg (fun w : View => w.2.2.2.2.1) hv, congrArg (fun w : View => w.2.2.2.2.2) hv⟩
theorem HAS.front (l1 : List Ent) {l2 : List Ent} {e : Ent} {G : GS} {S : HS} (h : HAS (l1 ++ e :: l2) G S) : HAS (e :: (l1 ++ l2)) G S :=
  HAS.upd (v := e.2.2) (v' := e.2.2) (i := e.1) (a := e.2.1) h (fun r => r) (fun _ _ => rfl)
theorem x_start {x : Nat} {G : GS} {S : HS} (hx : x ∈ G.1) (hz : vw G S x = vz 0) {P : GS → HS → Prop} (hP : ∀ G' S', (∃ A, RX G'.2.2 S' x A 0 0 0 T0) → P G' S') : w_X11_init x G S P := by
  have h : HAS [(200, x, vz 0)] G S := ⟨by simp, fun e he => by rw [List.mem_singleton.mp he]; exact ⟨hx, hz⟩⟩
  unfold w_X11_init
  intro q0 f0
  simp only [bnd_def]
  replace h := h.new f0 0 8 0
  unfold w_X8_init
  intro q1 f1
  simp only [bnd_def]
  replace h := new_rows1 h f1 800 1 13 1000
  replace h := HAS.pR [_, _] h 1100 (some q0)
  intro q2 f2
  unfold s_X0_init
  replace h := new_rows1 h f2 1101 2 0 0
  intro q3 f3
  replace h := h.new f3 3 1 0
  unfold w_X1_init
  simp only [bnd_def]
  intro q4 f4
  replace h := new_rows1 h f4 100 4 14 512
  intro q5 f5
  replace h := new_rows1 h f5 101 5 14 512
  intro q6 f6
  replace h := new_rows1 h f6 102 6 14 512
  intro q7 f7
  replace h := new_rows1 h f7 103 7 14 512
  intro q8 f8
  replace h := new_rows1 h f8 104 8 14 512
  intro q9 f9
  replace h := new_rows1 h f9 105 9 14 512
  intro q10 f10
  replace h := new_rows1 h f10 106 10 16 512
  intro q11 f11
  replace h := new_rows1 h f11 107 11 14 512
  intro q12 f12
  replace h := new_rows1 h f12 108 12 14 512
  replace h := HAS.pR [_, _, _, _, _, _, _, _, _, _] h 1102 (some q3)
  intro q13 f13
  replace h := h.new f13 13 4 0
  unfold w_X4_init
  simp only [bnd_def]
  intro q14 f14
  replace h := new_rows1 h f14 400 14 18 16
  intro q15 f15
  replace h := new_rows1 h f15 401 15 16 16
  replace h := HAS.front [_, _] h
  refine past_loop (vpa := vR1 (vR1 (vz 0) 400 (some q14)) 401 (some q15)) rfl 16 0 17 _ _ _ [] (fun _ => none) (by omega) (by omega) (List.mem_cons_self ..) h ⟨rfl, fun i hi => by omega⟩ (fun G1 S1 g1 sl h hd1 => ?_)
  replace h := HAS.pR (_ :: (sl ++ [_, _])) (by simpa [List.append_assoc] using h) 1103 (some q13)

  intro q30 f30
  refine new_state h 16 76 f30 (fun r30 G30 S30 h => ?_)
  replace h := HAS.pR [_, _] h 1104 (some q30)
  intro q31 f31
  refine new_state h 17 77 f31 (fun r31 G31 S31 h => ?_)
  replace h := HAS.pR [_, _] h 1105 (some q31)
  intro q32 f32
  replace h := new_rows1 h f32 1106 18 18 4
  intro q33 f33
  replace h := new_rows1 h f33 1107 19 16 4
  intro q34 f34
  replace h := new_rows1 h f34 1108 20 14 8
  intro q35 f35
  replace h := new_rows1 h f35 1109 21 16 8
  intro q36 f36
  replace h := new_rows1 h f36 1110 22 14 6
  intro q40 f40
  replace h := h.new f40 23 9 0
  unfold w_X9_init
  simp only [bnd_def]
  intro q41 f41
  replace h := new_rows1 h f41 900 24 17 4
  intro q42 f42
  replace h := new_rows1 h f42 901 25 15 4
  intro q43 f43
  replace h := new_rows1 h f43 902 26 15 6
  replace h := HAS.pR [_, _, _, _] h 1111 (some q40)
  intro q44 f44
  replace h := h.new f44 27 9 0
  skip
  skip
  intro q45 f45
  replace h := new_rows1 h f45 900 28 17 4
  intro q46 f46
  replace h := new_rows1 h f46 901 29 15 4
  intro q47 f47
  replace h := new_rows1 h f47 902 30 15 6
  replace h := HAS.pR [_, _, _, _] h 1112 (some q44)
  intro q50 f50
  replace h := h.new f50 31 5 0
  unfold w_X5_init
  simp only [bnd_def]
  intro q51 f51
  replace h := new_rows1 h f51 500 32 14 150
  replace h := HAS.pR [_, _] h 1113 (some q50)
  intro q52 f52
  replace h := h.new f52 33 5 0
  skip
  skip
  intro q53 f53
  replace h := new_rows1 h f53 500 34 14 150
  replace h := HAS.pR [_, _] h 1114 (some q52)
  replace h := HAS.front [_, _, _, _, _, _, _, _, _, _, _, _, _, _, _, _, _] h
  refine laid_loop (vx := vR1 (vR1 (vR1 (vR1 (vR1 (vR1 (vR1 (vR1 (vR1 (vR1 (vR1 (vR1 (vR1 (vR1 (vR1 (vz 0) 1100 (some q0)) 1101 (some q2)) 1102 (some q3)) 1103 (some q13)) 1104 (some q30)) 1105 (some q31)) 1106 (some q32)) 1107 (some q33)) 1108 (some q34)) 1109 (some q35)) 1110 (some q36)) 1111 (some q40)) 1112 (some q44)) 1113 (some q50)) 1114 (some q52)) rfl 4 0 5 _ _ _ [] (fun _ => none) (by omega) (by omega) (List.mem_cons_self ..) h ⟨rfl, fun i hi => by omega⟩ (fun G3 S3 g3 sl3 h hd3 => ?_)
  clear hx hz
  generalize hl : (_ :: _ : List Ent) = l at h
  have hn : (l.map (fun e => e.1)).Nodup := by
    rw [← hl]
    simp only [List.map_cons, List.map_append, List.append_eq, List.map_nil, hd1.1, hd3.1]
    decide +kernel
  have inl1 : ∀ e, e ∈ sl → e ∈ l := fun e he => by rw [← hl]; simp only [List.mem_cons, List.mem_append, List.append_eq]; simp [he]
  have inl3 : ∀ e, e ∈ sl3 → e ∈ l := fun e he => by rw [← hl]; simp only [List.mem_cons, List.mem_append, List.append_eq]; simp [he]
  have m200 : ((200, x, vR1 (vR1 (vR1 (vR1 (vR1 (vR1 (vR1 (vR1 (vR1 (vR1 (vR1 (vR1 (vR1 (vR1 (vR1 (vz 0) 1100 (some q0)) 1101 (some q2)) 1102 (some q3)) 1103 (some q13)) 1104 (some q30)) 1105 (some q31)) 1106 (some q32)) 1107 (some q33)) 1108 (some q34)) 1109 (some q35)) 1110 (some q36)) 1111 (some q40)) 1112 (some q44)) 1113 (some q50)) 1114 (some q52)) : Ent) ∈ l := by rw [← hl]; simp only [List.mem_cons, List.mem_append, List.append_eq]; simp
  obtain ⟨a200, b200, c200, d200, e200, n200⟩ := HAS.at h hn m200
  have m0 : ((0, q0, vR1 (vz 0) 800 (some q1)) : Ent) ∈ l := by rw [← hl]; simp only [List.mem_cons, List.mem_append, List.append_eq]; simp
  obtain ⟨a0, b0, c0, d0, e0, n0⟩ := HAS.at h hn m0
  have m1 : ((1, q1, vz 1000) : Ent) ∈ l := by rw [← hl]; simp only [List.mem_cons, List.mem_append, List.append_eq]; simp
  obtain ⟨a1, b1, c1, d1, e1, n1⟩ := HAS.at h hn m1
  have m2 : ((2, q2, vz 0) : Ent) ∈ l := by rw [← hl]; simp only [List.mem_cons, List.mem_append, List.append_eq]; simp
  obtain ⟨a2, b2, c2, d2, e2, n2⟩ := HAS.at h hn m2
  have m3 : ((3, q3, vR1 (vR1 (vR1 (vR1 (vR1 (vR1 (vR1 (vR1 (vR1 (vz 0) 100 (some q4)) 101 (some q5)) 102 (some q6)) 103 (some q7)) 104 (some q8)) 105 (some q9)) 106 (some q10)) 107 (some q11)) 108 (some q12)) : Ent) ∈ l := by rw [← hl]; simp only [List.mem_cons, List.mem_append, List.append_eq]; simp
  obtain ⟨a3, b3, c3, d3, e3, n3⟩ := HAS.at h hn m3
  have m4 : ((4, q4, vz 512) : Ent) ∈ l := by rw [← hl]; simp only [List.mem_cons, List.mem_append, List.append_eq]; simp
  obtain ⟨a4, b4, c4, d4, e4, n4⟩ := HAS.at h hn m4
  have m5 : ((5, q5, vz 512) : Ent) ∈ l := by rw [← hl]; simp only [List.mem_cons, List.mem_append, List.append_eq]; simp
  obtain ⟨a5, b5, c5, d5, e5, n5⟩ := HAS.at h hn m5
  have m6 : ((6, q6, vz 512) : Ent) ∈ l := by rw [← hl]; simp only [List.mem_cons, List.mem_append, List.append_eq]; simp
  obtain ⟨a6, b6, c6, d6, e6, n6⟩ := HAS.at h hn m6
  have m7 : ((7, q7, vz 512) : Ent) ∈ l := by rw [← hl]; simp only [List.mem_cons, List.mem_append, List.append_eq]; simp
  obtain ⟨a7, b7, c7, d7, e7, n7⟩ := HAS.at h hn m7
  have m8 : ((8, q8, vz 512) : Ent) ∈ l := by rw [← hl]; simp only [List.mem_cons, List.mem_append, List.append_eq]; simp
  obtain ⟨a8, b8, c8, d8, e8, n8⟩ := HAS.at h hn m8
  have m9 : ((9, q9, vz 512) : Ent) ∈ l := by rw [← hl]; simp only [List.mem_cons, List.mem_append, List.append_eq]; simp
  obtain ⟨a9, b9, c9, d9, e9, n9⟩ := HAS.at h hn m9
  have m10 : ((10, q10, vz 512) : Ent) ∈ l := by rw [← hl]; simp only [List.mem_cons, List.mem_append, List.append_eq]; simp
  obtain ⟨a10, b10, c10, d10, e10, n10⟩ := HAS.at h hn m10
  have m11 : ((11, q11, vz 512) : Ent) ∈ l := by rw [← hl]; simp only [List.mem_cons, List.mem_append, List.append_eq]; simp
  obtain ⟨a11, b11, c11, d11, e11, n11⟩ := HAS.at h hn m11
  have m12 : ((12, q12, vz 512) : Ent) ∈ l := by rw [← hl]; simp only [List.mem_cons, List.mem_append, List.append_eq]; simp
  obtain ⟨a12, b12, c12, d12, e12, n12⟩ := HAS.at h hn m12
  have m13 : ((13, q13, vR1 (vR1 (vz 0) 400 (some q14)) 401 (some q15)) : Ent) ∈ l := by rw [← hl]; simp only [List.mem_cons, List.mem_append, List.append_eq]; simp
  obtain ⟨a13, b13, c13, d13, e13, n13⟩ := HAS.at h hn m13
  have m14 : ((14, q14, vrow 16 g1) : Ent) ∈ l := by rw [← hl]; simp only [List.mem_cons, List.mem_append, List.append_eq]; simp
  obtain ⟨a14, b14, c14, d14, e14, n14⟩ := HAS.at h hn m14
  have m15 : ((15, q15, vz 16) : Ent) ∈ l := by rw [← hl]; simp only [List.mem_cons, List.mem_append, List.append_eq]; simp
  obtain ⟨a15, b15, c15, d15, e15, n15⟩ := HAS.at h hn m15
  have m16 : ((16, q30, vst r30) : Ent) ∈ l := by rw [← hl]; simp only [List.mem_cons, List.mem_append, List.append_eq]; simp
  obtain ⟨a16, b16, c16, d16, e16, n16⟩ := HAS.at h hn m16
  have m76 : ((76, r30, vz 6) : Ent) ∈ l := by rw [← hl]; simp only [List.mem_cons, List.mem_append, List.append_eq]; simp
  obtain ⟨a76, b76, c76, d76, e76, n76⟩ := HAS.at h hn m76
  have m17 : ((17, q31, vst r31) : Ent) ∈ l := by rw [← hl]; simp only [List.mem_cons, List.mem_append, List.append_eq]; simp
  obtain ⟨a17, b17, c17, d17, e17, n17⟩ := HAS.at h hn m17
  have m77 : ((77, r31, vz 6) : Ent) ∈ l := by rw [← hl]; simp only [List.mem_cons, List.mem_append, List.append_eq]; simp
  obtain ⟨a77, b77, c77, d77, e77, n77⟩ := HAS.at h hn m77
  have m18 : ((18, q32, vrow 4 g3) : Ent) ∈ l := by rw [← hl]; simp only [List.mem_cons, List.mem_append, List.append_eq]; simp
  obtain ⟨a18, b18, c18, d18, e18, n18⟩ := HAS.at h hn m18
  have m19 : ((19, q33, vz 4) : Ent) ∈ l := by rw [← hl]; simp only [List.mem_cons, List.mem_append, List.append_eq]; simp
  obtain ⟨a19, b19, c19, d19, e19, n19⟩ := HAS.at h hn m19
  have m20 : ((20, q34, vz 8) : Ent) ∈ l := by rw [← hl]; simp only [List.mem_cons, List.mem_append, List.append_eq]; simp
  obtain ⟨a20, b20, c20, d20, e20, n20⟩ := HAS.at h hn m20
  have m21 : ((21, q35, vz 8) : Ent) ∈ l := by rw [← hl]; simp only [List.mem_cons, List.mem_append, List.append_eq]; simp
  obtain ⟨a21, b21, c21, d21, e21, n21⟩ := HAS.at h hn m21
  have m22 : ((22, q36, vz 6) : Ent) ∈ l := by rw [← hl]; simp only [List.mem_cons, List.mem_append, List.append_eq]; simp
  obtain ⟨a22, b22, c22, d22, e22, n22⟩ := HAS.at h hn m22
  have m23 : ((23, q40, vR1 (vR1 (vR1 (vz 0) 900 (some q41)) 901 (some q42)) 902 (some q43)) : Ent) ∈ l := by rw [← hl]; simp only [List.mem_cons, List.mem_append, List.append_eq]; simp
  obtain ⟨a23, b23, c23, d23, e23, n23⟩ := HAS.at h hn m23
  have m24 : ((24, q41, vz 4) : Ent) ∈ l := by rw [← hl]; simp only [List.mem_cons, List.mem_append, List.append_eq]; simp
  obtain ⟨a24, b24, c24, d24, e24, n24⟩ := HAS.at h hn m24
  have m25 : ((25, q42, vz 4) : Ent) ∈ l := by rw [← hl]; simp only [List.mem_cons, List.mem_append, List.append_eq]; simp
  obtain ⟨a25, b25, c25, d25, e25, n25⟩ := HAS.at h hn m25
  have m26 : ((26, q43, vz 6) : Ent) ∈ l := by rw [← hl]; simp only [List.mem_cons, List.mem_append, List.append_eq]; simp
  obtain ⟨a26, b26, c26, d26, e26, n26⟩ := HAS.at h hn m26
  have m27 : ((27, q44, vR1 (vR1 (vR1 (vz 0) 900 (some q45)) 901 (some q46)) 902 (some q47)) : Ent) ∈ l := by rw [← hl]; simp only [List.mem_cons, List.mem_append, List.append_eq]; simp
  obtain ⟨a27, b27, c27, d27, e27, n27⟩ := HAS.at h hn m27
  have m28 : ((28, q45, vz 4) : Ent) ∈ l := by rw [← hl]; simp only [List.mem_cons, List.mem_append, List.append_eq]; simp
  obtain ⟨a28, b28, c28, d28, e28, n28⟩ := HAS.at h hn m28
  have m29 : ((29, q46, vz 4) : Ent) ∈ l := by rw [← hl]; simp only [List.mem_cons, List.mem_append, List.append_eq]; simp
  obtain ⟨a29, b29, c29, d29, e29, n29⟩ := HAS.at h hn m29
  have m30 : ((30, q47, vz 6) : Ent) ∈ l := by rw [← hl]; simp only [List.mem_cons, List.mem_append, List.append_eq]; simp
  obtain ⟨a30, b30, c30, d30, e30, n30⟩ := HAS.at h hn m30
  have m31 : ((31, q50, vR1 (vz 0) 500 (some q51)) : Ent) ∈ l := by rw [← hl]; simp only [List.mem_cons, List.mem_append, List.append_eq]; simp
  obtain ⟨a31, b31, c31, d31, e31, n31⟩ := HAS.at h hn m31
  have m32 : ((32, q51, vz 150) : Ent) ∈ l := by rw [← hl]; simp only [List.mem_cons, List.mem_append, List.append_eq]; simp
  obtain ⟨a32, b32, c32, d32, e32, n32⟩ := HAS.at h hn m32
  have m33 : ((33, q52, vR1 (vz 0) 500 (some q53)) : Ent) ∈ l := by rw [← hl]; simp only [List.mem_cons, List.mem_append, List.append_eq]; simp
  obtain ⟨a33, b33, c33, d33, e33, n33⟩ := HAS.at h hn m33
  have m34 : ((34, q53, vz 150) : Ent) ∈ l := by rw [← hl]; simp only [List.mem_cons, List.mem_append, List.append_eq]; simp
  obtain ⟨a34, b34, c34, d34, e34, n34⟩ := HAS.at h hn m34
  clear hl
  have st : ∀ s, isSt s = true → ∃ q r, (s, q, vst r) ∈ l ∧ (60 + s, r, vz 6) ∈ l := by
    intro s hs
    unfold isSt at hs
    simp at hs
    rcases hs with ((hs | hs) | hs) | hs
    · subst hs; exact ⟨q30, r30, m16, m76⟩
    · subst hs; exact ⟨q31, r31, m17, m77⟩
    · obtain ⟨q, r, h1, h2, _⟩ := hd3.2 (s - 35) (by omega)
      rw [show 35 + (s - 35) = s by omega] at h1 h2
      exact ⟨q, r, inl3 _ h1, inl3 _ h2⟩
    · obtain ⟨q, r, h1, h2, _⟩ := hd1.2 (s - 40) (by omega)
      rw [show 40 + (s - 40) = s by omega] at h1 h2
      exact ⟨q, r, inl1 _ h1, inl1 _ h2⟩
  have hA := ofE_inj h.1
  have rx := c200
  have ix := b200
  rw [a200] at rx ix
  have XNh : XN G3.2.2 (ofE l) := by
    refine ⟨⟨n1, n14, n15, n18, n19, n20, n21, n22⟩, fun j hj => ?_, fun s hs => ?_, fun b hb => ?_, fun b hb => ?_⟩
    · have : j = 0 ∨ j = 1 ∨ j = 2 ∨ j = 3 ∨ j = 4 ∨ j = 5 ∨ j = 6 ∨ j = 7 ∨ j = 8 := by omega
      rcases this with r | r | r | r | r | r | r | r | r <;> subst r
      · exact n4
      · exact n5
      · exact n6
      · exact n7
      · exact n8
      · exact n9
      · exact n10
      · exact n11
      · exact n12
    · obtain ⟨q, r, h1, h2⟩ := st s hs; exact (HAS.at h hn h2).2.2.2.2.2
    · rcases (show b = 0 ∨ b = 1 by omega) with r | r <;> subst r
      · exact ⟨n24, n25, n26⟩
      · exact ⟨n28, n29, n30⟩
    · rcases (show b = 0 ∨ b = 1 by omega) with r | r <;> subst r
      · exact n32
      · exact n34
  have XLh : XLAY S3.2.2.1 S3.2.2.2.2.2 x (ofE l) := by
    refine ⟨⟨(rx 1100).trans (by rw [a0]; rfl), (c0 800).trans (by rw [a1]; rfl), (rx 1101).trans (by rw [a2]; rfl), (rx 1102).trans (by rw [a3]; rfl), (rx 1103).trans (by rw [a13]; rfl), (c13 400).trans (by rw [a14]; rfl), (c13 401).trans (by rw [a15]; rfl), (rx 1104).trans (by rw [a16]; rfl), (rx 1105).trans (by rw [a17]; rfl)⟩, ⟨(rx 1106).trans (by rw [a18]; rfl), (rx 1107).trans (by rw [a19]; rfl), (rx 1108).trans (by rw [a20]; rfl), (rx 1109).trans (by rw [a21]; rfl), (rx 1110).trans (by rw [a22]; rfl)⟩, fun j hj => ?_, fun k hk => ?_, fun j hj => ?_, fun s hs => ?_, fun b hb => ?_, fun b hb => ?_⟩
    · have : j = 0 ∨ j = 1 ∨ j = 2 ∨ j = 3 ∨ j = 4 ∨ j = 5 ∨ j = 6 ∨ j = 7 ∨ j = 8 := by omega
      rcases this with r | r | r | r | r | r | r | r | r <;> subst r
      · exact (c3 100).trans (by rw [a4]; rfl)
      · exact (c3 101).trans (by rw [a5]; rfl)
      · exact (c3 102).trans (by rw [a6]; rfl)
      · exact (c3 103).trans (by rw [a7]; rfl)
      · exact (c3 104).trans (by rw [a8]; rfl)
      · exact (c3 105).trans (by rw [a9]; rfl)
      · exact (c3 106).trans (by rw [a10]; rfl)
      · exact (c3 107).trans (by rw [a11]; rfl)
      · exact (c3 108).trans (by rw [a12]; rfl)
    · obtain ⟨q, r, h1, h2, h3⟩ := hd3.2 k hk
      exact (congrFun e18 k).trans (by rw [(HAS.at h hn (inl3 _ h1)).1]; exact h3)
    · obtain ⟨q, r, h1, h2, h3⟩ := hd1.2 j hj
      exact (congrFun e14 j).trans (by rw [(HAS.at h hn (inl1 _ h1)).1]; exact h3)
    · obtain ⟨q, r, h1, h2⟩ := st s hs
      exact ((HAS.at h hn h1).2.2.1 700).trans (by rw [(HAS.at h hn h2).1]; rfl)
    · rcases (show b = 0 ∨ b = 1 by omega) with r | r <;> subst r
      · exact ⟨(c23 900).trans (by rw [a24]; rfl), (c23 901).trans (by rw [a25]; rfl), (c23 902).trans (by rw [a26]; rfl)⟩
      · exact ⟨(c27 900).trans (by rw [a28]; rfl), (c27 901).trans (by rw [a29]; rfl), (c27 902).trans (by rw [a30]; rfl)⟩
    · rcases (show b = 0 ∨ b = 1 by omega) with r | r <;> subst r
      · exact (c31 500).trans (by rw [a32]; rfl)
      · exact (c33 500).trans (by rw [a34]; rfl)
  refine hP G3 S3 ⟨ofE l, ⟨hA, XNh, XLh, ⟨by omega, (rx 1111).trans (by rw [a23]; rfl), (rx 1112).trans (by rw [a27]; rfl), b23 903, b23 904, b2 0, fun f hf => absurd hf (by show ¬ f < 0; omega), fun f hf => absurd hf (by show ¬ f < 0; omega), fun f hf => absurd hf (by show ¬ f < 0; omega)⟩, T0_ok.1⟩, ⟨b16 701, b16 702, b16 703, fun r hr => congrFun d76 r⟩, ⟨b0 801, fun i cc hc => (by cases hc)⟩, ⟨by omega, (rx 1113).trans (by rw [a31]; rfl), (rx 1114).trans (by rw [a33]; rfl), b31 501, fun i ll hc => (by cases hc)⟩, ⟨ix 1115, fun i q hq => (by cases hq)⟩, ⟨b13 402, b13 403, by decide, by decide, trivial⟩, ⟨b3 109, b3 110, b3 111, by decide, trivial, trivial⟩, fun k hk => ⟨congrFun d19 k, fun t ht => (by cases ht)⟩⟩
end
