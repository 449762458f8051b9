def flds : Nat → List (Nat × Nat) := fun c => match c with
  | 0 => [(0, 0), (0, 1), (0, 2), (0, 3), (0, 4), (1, 5), (0, 6), (0, 7)]
  | 1 => [(2, 100), (2, 101), (2, 102), (2, 103), (2, 104), (2, 105), (2, 106), (2, 107), (2, 108), (0, 109), (0, 110), (0, 111)]
  | 2 => [(0, 200), (0, 201), (0, 202), (0, 203), (0, 204), (0, 205), (0, 206), (0, 207)]
  | 3 => [(2, 300), (0, 301)]
  | 4 => [(2, 400), (2, 401), (0, 402), (0, 403)]
  | 5 => [(2, 500), (0, 501)]
  | 6 => [(2, 600), (2, 601), (2, 602)]
  | 7 => [(2, 700), (0, 701), (0, 702), (0, 703)]
  | 8 => [(2, 800), (0, 801), (0, 802), (0, 803), (0, 804), (1, 805), (0, 806), (0, 807)]
  | 9 => [(2, 900), (2, 901), (2, 902), (0, 903), (0, 904), (0, 905), (0, 906)]
  | 10 => [(2, 1000), (2, 1001)]
  | 11 => [(2, 1100), (2, 1101), (2, 1102), (2, 1103), (2, 1104), (2, 1105), (2, 1106), (2, 1107), (2, 1108), (2, 1109), (2, 1110), (2, 1111), (2, 1112), (2, 1113), (2, 1114), (0, 1115), (1, 1116)]
  | 12 => [(0, 1200), (2, 1201), (0, 1202), (0, 1203), (2, 1204), (2, 1205), (2, 1206), (0, 1207), (0, 1208), (2, 1209), (2, 1210), (2, 1211), (0, 1212), (2, 1213), (2, 1214), (2, 1215), (2, 1216), (2, 1217), (0, 1218), (2, 1219), (0, 1220), (0, 1221), (0, 1222), (0, 1223), (0, 1224), (2, 1225), (2, 1226), (2, 1227), (1, 1228)]
  | _ => []
theorem flds_code : ∀ c, c < 13 → ∀ j, j < (flds c).length → ((flds c).getD j (9, 9)).2 = 100 * c + j := by decide +kernel
def rk : Nat → Nat := fun f => match f with
  | 100 => 14
  | 101 => 14
  | 102 => 14
  | 103 => 14
  | 104 => 14
  | 105 => 14
  | 106 => 16
  | 107 => 14
  | 108 => 14
  | 300 => 8
  | 400 => 18
  | 401 => 16
  | 500 => 14
  | 600 => 8
  | 601 => 9
  | 602 => 5
  | 700 => 14
  | 800 => 13
  | 900 => 17
  | 901 => 15
  | 902 => 15
  | 1000 => 8
  | 1001 => 9
  | 1100 => 8
  | 1101 => 0
  | 1102 => 1
  | 1103 => 4
  | 1104 => 7
  | 1105 => 7
  | 1106 => 18
  | 1107 => 16
  | 1108 => 14
  | 1109 => 16
  | 1110 => 14
  | 1111 => 9
  | 1112 => 9
  | 1113 => 5
  | 1114 => 5
  | 1201 => 14
  | 1204 => 14
  | 1205 => 14
  | 1206 => 15
  | 1209 => 15
  | 1210 => 14
  | 1211 => 14
  | 1213 => 15
  | 1214 => 14
  | 1215 => 14
  | 1216 => 14
  | 1217 => 14
  | 1219 => 16
  | 1225 => 15
  | 1226 => 15
  | 1227 => 14
  | _ => 99
abbrev HS : Type := (Nat → Nat → Int32) × (Nat → Nat → Int64) × (Nat → Nat → Option Nat) × (Nat → Nat → Int32) × (Nat → Nat → Int64) × (Nat → Nat → Option Nat)
def gI (S : HS) (f a : Nat) : Int32 := S.1 f a
def gJ (S : HS) (f a : Nat) : Int64 := S.2.1 f a
def gR (S : HS) (f a : Nat) : Option Nat := S.2.2.1 f a
def aI (S : HS) (a : Nat) : Nat → Int32 := S.2.2.2.1 a
def aJ (S : HS) (a : Nat) : Nat → Int64 := S.2.2.2.2.1 a
def aR (S : HS) (a : Nat) : Nat → Option Nat := S.2.2.2.2.2 a
def p2 {α : Type} (f : Nat → Nat → α) (k a : Nat) (v : α) : Nat → Nat → α := fun j b => if j = k ∧ b = a then v else f j b
def p1 {α : Type} (f : Nat → α) (k : Nat) (v : α) : Nat → α := fun j => if j = k then v else f j
def uI (S : HS) (f a : Nat) (v : Int32) : HS := (p2 S.1 f a v, S.2)
def uJ (S : HS) (f a : Nat) (v : Int64) : HS := (S.1, p2 S.2.1 f a v, S.2.2)
def uR (S : HS) (f a : Nat) (v : Option Nat) : HS := (S.1, S.2.1, p2 S.2.2.1 f a v, S.2.2.2)
def wI (S : HS) (a : Nat) (i : Nat) (v : Int32) : HS := (S.1, S.2.1, S.2.2.1, p2 S.2.2.2.1 a i v, S.2.2.2.2)
def wJ (S : HS) (a : Nat) (i : Nat) (v : Int64) : HS := (S.1, S.2.1, S.2.2.1, S.2.2.2.1, p2 S.2.2.2.2.1 a i v, S.2.2.2.2.2)
def wR (S : HS) (a : Nat) (i : Nat) (v : Option Nat) : HS := (S.1, S.2.1, S.2.2.1, S.2.2.2.1, S.2.2.2.2.1, p2 S.2.2.2.2.2 a i v)
/-- the addresses, the kind of each, the length of each that is an array -/
abbrev GS : Type := List Nat × (Nat → Nat) × (Nat → Nat)
/-- classes, arrays' classes, strings -/
abbrev EV : Type := va_G × (Nat → ClassId) × (Nat → Nat) × (Nat → Nat)
def fval (S : HS) (a : Nat) (q : Nat × Nat) : Value := match q.1 with
  | 0 => .int (gI S q.2 a)
  | 1 => .long (gJ S q.2 a)
  | _ => va_rf (gR S q.2 a)
def cellf (cy : Nat → ClassId) (G : GS) (S : HS) (a : Nat) : va_E :=
  if G.2.1 a < 13 then .inr (G.2.1 a, (flds (G.2.1 a)).map (fval S a))
  else if G.2.1 a = 13 then .inl (cy 0, G.2.2 a, .inl (aI S a))
  else if G.2.1 a = 14 then .inl (cy 1, G.2.2 a, .inl (aI S a))
  else if G.2.1 a = 15 then .inl (cy 2, G.2.2 a, .inr (.inl (aJ S a)))
  else if G.2.1 a = 16 then .inl (cy 3, G.2.2 a, .inl (aI S a))
  else if G.2.1 a = 17 then .inl (cy 4, G.2.2 a, .inr (.inr (.inr (.inr (aR S a)))))
  else .inl (cy 5, G.2.2 a, .inr (.inr (.inr (.inr (aR S a)))))
def mkW (cy : Nat → ClassId) (G : GS) (S : HS) : va_W := va_pl G.1 (cellf cy G S)
def tyl (cy : Nat → ClassId) : List (ClassId × FieldType) := [(cy 0, .char), (cy 1, .int), (cy 2, .long), (cy 3, .boolean), (cy 4, .object RX2), (cy 5, .object RX7)]
def HP (V : EV) (G : GS) (S : HS) (H : Heap) : Prop := va_P V.1 vwCl (mkW V.2.1 G S) H
def AG (G : GS) (sz : Nat) : Nat → Prop := fun q => q ∈ G.1 ∨ sz ≤ q
/-- references are of their fields' classes -/
def WT (G : GS) (S : HS) : Prop := (∀ a, a ∈ G.1 → ∀ f t, f / 100 = G.2.1 a → gR S f a = some t → t ∈ G.1 ∧ G.2.1 t = rk f) ∧
  (∀ a, a ∈ G.1 → ∀ i t, G.2.1 a = 17 → aR S a i = some t → t ∈ G.1 ∧ G.2.1 t = 2) ∧ (∀ a, a ∈ G.1 → ∀ i t, G.2.1 a = 18 → aR S a i = some t → t ∈ G.1 ∧ G.2.1 t = 7)
theorem mk_get {cy : Nat → ClassId} {G : GS} {S : HS} {a : Nat} (h : a ∈ G.1) : ∃ k : Nat, (mkW cy G S)[k]? = some (a, cellf cy G S a) := by
  obtain ⟨k, hk⟩ := va_pl_get (X := []) (f := cellf cy G S) h
  exact ⟨k, hk⟩
theorem mk_D {cy : Nat → ClassId} {G : GS} {S : HS} {A : Nat → Prop} (hN : G.1.Nodup) (hA : ∀ a ∈ G.1, A a) : va_D A (mkW cy G S) := by
  refine ⟨fun i j p q hi hj hpq => ?_, fun k q hq => ?_⟩
  · unfold mkW va_pl at hi hj
    rw [List.getElem?_map] at hi hj
    cases hgi : G.1[i]? with
    | none => rw [hgi] at hi; cases hi
    | some x =>
      cases hgj : G.1[j]? with
      | none => rw [hgj] at hj; cases hj
      | some y =>
        rw [hgi] at hi; rw [hgj] at hj
        cases hi; cases hj
        have hxy : x = y := hpq
        subst hxy
        have hil := (List.getElem?_eq_some_iff.mp hgi).1
        exact (List.getElem?_inj hil hN).mp (hgi.trans hgj.symm)
  · unfold mkW va_pl at hq
    rw [List.getElem?_map] at hq
    cases hgk : G.1[k]? with
    | none => rw [hgk] at hq; cases hq
    | some x =>
      rw [hgk] at hq
      cases hq
      exact hA x (List.mem_of_getElem? hgk)
theorem mk_set {cy : Nat → ClassId} {G : GS} {S S1 : HS} {a k : Nat} {e : va_E} (hN : G.1.Nodup) (ha : a ∈ G.1) (hk : (mkW cy G S)[k]? = some (a, cellf cy G S a)) (h1 : cellf cy G S1 a = e) (h2 : ∀ b, b ≠ a → cellf cy G S1 b = cellf cy G S b) : (mkW cy G S).set k (a, e) = mkW cy G S1 := by
  have h := va_pl_set (X := []) (f := cellf cy G S) (e := e) (mk_D (cy := cy) (S := S) (A := fun _ => True) hN (fun _ _ => trivial)) ha hk
  refine h.trans (va_pl_congr (fun b => ?_))
  by_cases hb : b = a
  · subst hb
    rw [h1]; simp [va_up]
  · rw [h2 b hb]; simp [va_up, hb]
theorem cell_obj {cy : Nat → ClassId} {G : GS} {S : HS} {a ci : Nat} (h : G.2.1 a = ci) (hci : ci < 13) : cellf cy G S a = .inr (ci, (flds ci).map (fval S a)) := by
  subst h
  simp only [cellf, if_pos hci]
theorem cell_C {cy : Nat → ClassId} {G : GS} {S : HS} {a : Nat} (h : G.2.1 a = 13) : cellf cy G S a = .inl (cy 0, G.2.2 a, .inl (aI S a)) := by simp [cellf, h]
theorem cell_I {cy : Nat → ClassId} {G : GS} {S : HS} {a : Nat} (h : G.2.1 a = 14) : cellf cy G S a = .inl (cy 1, G.2.2 a, .inl (aI S a)) := by simp [cellf, h]
theorem cell_J {cy : Nat → ClassId} {G : GS} {S : HS} {a : Nat} (h : G.2.1 a = 15) : cellf cy G S a = .inl (cy 2, G.2.2 a, .inr (.inl (aJ S a))) := by simp [cellf, h]
theorem cell_Z {cy : Nat → ClassId} {G : GS} {S : HS} {a : Nat} (h : G.2.1 a = 16) : cellf cy G S a = .inl (cy 3, G.2.2 a, .inl (aI S a)) := by simp [cellf, h]
theorem cell_F {cy : Nat → ClassId} {G : GS} {S : HS} {a : Nat} (h : G.2.1 a = 17) : cellf cy G S a = .inl (cy 4, G.2.2 a, .inr (.inr (.inr (.inr (aR S a))))) := by simp [cellf, h]
theorem cell_S {cy : Nat → ClassId} {G : GS} {S : HS} {a : Nat} (h : G.2.1 a = 18) : cellf cy G S a = .inl (cy 5, G.2.2 a, .inr (.inr (.inr (.inr (aR S a))))) := by simp [cellf, h]
theorem p2_s {α : Type} (f : Nat → Nat → α) (k a : Nat) (v : α) : p2 f k a v k a = v := by simp [p2]
theorem p2_k {α : Type} (f : Nat → Nat → α) (k a : Nat) (v : α) {j : Nat} (b : Nat) (h : j ≠ k) : p2 f k a v j b = f j b := by simp [p2, h]
theorem p2_a {α : Type} (f : Nat → Nat → α) (k a : Nat) (v : α) (j : Nat) {b : Nat} (h : b ≠ a) : p2 f k a v j b = f j b := by simp [p2, h]
theorem p2_row {α : Type} (f : Nat → Nat → α) (a i : Nat) (v : α) : p2 f a i v a = fun j => if j = i then v else f a j := by funext j; simp [p2]
theorem p2_rw {α : Type} (f : Nat → Nat → α) (a i : Nat) (v : α) {b : Nat} (h : b ≠ a) : p2 f a i v b = f b := by funext j; simp [p2, h]
-- what a setter leaves as it was
theorem gI_uI (S : HS) (f a : Nat) (v : Int32) (g b : Nat) : gI (uI S f a v) g b = if g = f ∧ b = a then v else gI S g b := rfl
theorem gI_uJ (S : HS) (f a : Nat) (v : Int64) (g b : Nat) : gI (uJ S f a v) g b = gI S g b := rfl
theorem gI_uR (S : HS) (f a : Nat) (v : Option Nat) (g b : Nat) : gI (uR S f a v) g b = gI S g b := rfl
theorem gI_wI (S : HS) (f a : Nat) (v : Int32) (g b : Nat) : gI (wI S f a v) g b = gI S g b := rfl
theorem gI_wJ (S : HS) (f a : Nat) (v : Int64) (g b : Nat) : gI (wJ S f a v) g b = gI S g b := rfl
theorem gI_wR (S : HS) (f a : Nat) (v : Option Nat) (g b : Nat) : gI (wR S f a v) g b = gI S g b := rfl
theorem gJ_uI (S : HS) (f a : Nat) (v : Int32) (g b : Nat) : gJ (uI S f a v) g b = gJ S g b := rfl
theorem gJ_uJ (S : HS) (f a : Nat) (v : Int64) (g b : Nat) : gJ (uJ S f a v) g b = if g = f ∧ b = a then v else gJ S g b := rfl
theorem gJ_uR (S : HS) (f a : Nat) (v : Option Nat) (g b : Nat) : gJ (uR S f a v) g b = gJ S g b := rfl
theorem gJ_wI (S : HS) (f a : Nat) (v : Int32) (g b : Nat) : gJ (wI S f a v) g b = gJ S g b := rfl
theorem gJ_wJ (S : HS) (f a : Nat) (v : Int64) (g b : Nat) : gJ (wJ S f a v) g b = gJ S g b := rfl
theorem gJ_wR (S : HS) (f a : Nat) (v : Option Nat) (g b : Nat) : gJ (wR S f a v) g b = gJ S g b := rfl
theorem gR_uI (S : HS) (f a : Nat) (v : Int32) (g b : Nat) : gR (uI S f a v) g b = gR S g b := rfl
theorem gR_uJ (S : HS) (f a : Nat) (v : Int64) (g b : Nat) : gR (uJ S f a v) g b = gR S g b := rfl
theorem gR_uR (S : HS) (f a : Nat) (v : Option Nat) (g b : Nat) : gR (uR S f a v) g b = if g = f ∧ b = a then v else gR S g b := rfl
theorem gR_wI (S : HS) (f a : Nat) (v : Int32) (g b : Nat) : gR (wI S f a v) g b = gR S g b := rfl
theorem gR_wJ (S : HS) (f a : Nat) (v : Int64) (g b : Nat) : gR (wJ S f a v) g b = gR S g b := rfl
theorem gR_wR (S : HS) (f a : Nat) (v : Option Nat) (g b : Nat) : gR (wR S f a v) g b = gR S g b := rfl
theorem aI_uI (S : HS) (f a : Nat) (v : Int32) (g b : Nat) : aI (uI S f a v) g b = aI S g b := rfl
theorem aI_uJ (S : HS) (f a : Nat) (v : Int64) (g b : Nat) : aI (uJ S f a v) g b = aI S g b := rfl
theorem aI_uR (S : HS) (f a : Nat) (v : Option Nat) (g b : Nat) : aI (uR S f a v) g b = aI S g b := rfl
theorem aI_wI (S : HS) (f a : Nat) (v : Int32) (g b : Nat) : aI (wI S f a v) g b = if g = f ∧ b = a then v else aI S g b := rfl
theorem aI_wJ (S : HS) (f a : Nat) (v : Int64) (g b : Nat) : aI (wJ S f a v) g b = aI S g b := rfl
theorem aI_wR (S : HS) (f a : Nat) (v : Option Nat) (g b : Nat) : aI (wR S f a v) g b = aI S g b := rfl
theorem aJ_uI (S : HS) (f a : Nat) (v : Int32) (g b : Nat) : aJ (uI S f a v) g b = aJ S g b := rfl
theorem aJ_uJ (S : HS) (f a : Nat) (v : Int64) (g b : Nat) : aJ (uJ S f a v) g b = aJ S g b := rfl
theorem aJ_uR (S : HS) (f a : Nat) (v : Option Nat) (g b : Nat) : aJ (uR S f a v) g b = aJ S g b := rfl
theorem aJ_wI (S : HS) (f a : Nat) (v : Int32) (g b : Nat) : aJ (wI S f a v) g b = aJ S g b := rfl
theorem aJ_wJ (S : HS) (f a : Nat) (v : Int64) (g b : Nat) : aJ (wJ S f a v) g b = if g = f ∧ b = a then v else aJ S g b := rfl
theorem aJ_wR (S : HS) (f a : Nat) (v : Option Nat) (g b : Nat) : aJ (wR S f a v) g b = aJ S g b := rfl
theorem aR_uI (S : HS) (f a : Nat) (v : Int32) (g b : Nat) : aR (uI S f a v) g b = aR S g b := rfl
theorem aR_uJ (S : HS) (f a : Nat) (v : Int64) (g b : Nat) : aR (uJ S f a v) g b = aR S g b := rfl
theorem aR_uR (S : HS) (f a : Nat) (v : Option Nat) (g b : Nat) : aR (uR S f a v) g b = aR S g b := rfl
theorem aR_wI (S : HS) (f a : Nat) (v : Int32) (g b : Nat) : aR (wI S f a v) g b = aR S g b := rfl
theorem aR_wJ (S : HS) (f a : Nat) (v : Int64) (g b : Nat) : aR (wJ S f a v) g b = aR S g b := rfl
theorem aR_wR (S : HS) (f a : Nat) (v : Option Nat) (g b : Nat) : aR (wR S f a v) g b = if g = f ∧ b = a then v else aR S g b := rfl
theorem wt_uI {G : GS} {S : HS} {f a : Nat} {v : Int32} (h : WT G S) : WT G (uI S f a v) := h
theorem wt_uJ {G : GS} {S : HS} {f a : Nat} {v : Int64} (h : WT G S) : WT G (uJ S f a v) := h
theorem wt_wI {G : GS} {S : HS} {f a : Nat} {v : Int32} (h : WT G S) : WT G (wI S f a v) := h
theorem wt_wJ {G : GS} {S : HS} {f a : Nat} {v : Int64} (h : WT G S) : WT G (wJ S f a v) := h
theorem wt_uR {G : GS} {S : HS} {f a t : Nat} (h : WT G S) (ht : t ∈ G.1 ∧ G.2.1 t = rk f) : WT G (uR S f a (some t)) := by
  refine ⟨fun b hb g u hg hu => ?_, h.2.1, h.2.2⟩
  rw [gR_uR] at hu
  by_cases hc : g = f ∧ b = a
  · rw [if_pos hc] at hu
    cases hu
    rw [hc.1]; exact ht
  · rw [if_neg hc] at hu
    exact h.1 b hb g u hg hu
theorem wt_wRF {G : GS} {S : HS} {i a t : Nat} (h : WT G S) (hka : G.2.1 a = 17) (ht : t ∈ G.1 ∧ G.2.1 t = 2) : WT G (wR S a i (some t)) := by
  refine ⟨h.1, fun b hb j u hk hu => ?_, fun b hb j u hk hu => ?_⟩
  · rw [aR_wR] at hu
    by_cases hc : b = a ∧ j = i
    · rw [if_pos hc] at hu; cases hu; exact ht
    · rw [if_neg hc] at hu; exact h.2.1 b hb j u hk hu
  · rw [aR_wR] at hu
    by_cases hc : b = a ∧ j = i
    · rw [hc.1, hka] at hk; cases hk
    · rw [if_neg hc] at hu; exact h.2.2 b hb j u hk hu
theorem wt_wRS {G : GS} {S : HS} {i a t : Nat} (h : WT G S) (hka : G.2.1 a = 18) (ht : t ∈ G.1 ∧ G.2.1 t = 7) : WT G (wR S a i (some t)) := by
  refine ⟨h.1, fun b hb j u hk hu => ?_, fun b hb j u hk hu => ?_⟩
  · rw [aR_wR] at hu
    by_cases hc : b = a ∧ j = i
    · rw [hc.1, hka] at hk; cases hk
    · rw [if_neg hc] at hu; exact h.2.1 b hb j u hk hu
  · rw [aR_wR] at hu
    by_cases hc : b = a ∧ j = i
    · rw [if_pos hc] at hu; cases hu; exact ht
    · rw [if_neg hc] at hu; exact h.2.2 b hb j u hk hu
theorem fset {fs : List (Nat × Nat)} {k t f : Nat} {g g' : Nat × Nat → Value} {v : Value} (hk : fs[k]? = some (t, f)) (hu : ∀ (j : Nat) (q : Nat × Nat), fs[j]? = some q → q.2 = f → j = k) (hv : g' (t, f) = v) (hne : ∀ q : Nat × Nat, q.2 ≠ f → g' q = g q) : fs.map g' = (fs.map g).set k v := by
  apply List.ext_getElem?
  intro j
  rw [List.getElem?_set, List.getElem?_map, List.getElem?_map, List.length_map]
  have hkl := (List.getElem?_eq_some_iff.mp hk).1
  by_cases hj : k = j
  · subst hj
    rw [if_pos rfl, if_pos hkl, hk]
    simp [hv]
  · rw [if_neg hj]
    cases hq : fs[j]? with
    | none => rfl
    | some q =>
      simp only [Option.map_some]
      rw [hne q (fun h => hj (hu j q hq h).symm)]
theorem fval_uI {S : HS} {f a b : Nat} {v : Int32} {q : Nat × Nat} (h : q.2 ≠ f ∨ b ≠ a) : fval (uI S f a v) b q = fval S b q := by
  obtain ⟨t, g⟩ := q
  have e : gI (uI S f a v) g b = gI S g b := by
    rw [gI_uI, if_neg]; rintro ⟨rfl, rfl⟩; simp at h
  unfold fval; split
  · rw [e]
  · rw [gJ_uI]
  · rw [gR_uI]
theorem fval_uJ {S : HS} {f a b : Nat} {v : Int64} {q : Nat × Nat} (h : q.2 ≠ f ∨ b ≠ a) : fval (uJ S f a v) b q = fval S b q := by
  obtain ⟨t, g⟩ := q
  have e : gJ (uJ S f a v) g b = gJ S g b := by
    rw [gJ_uJ, if_neg]; rintro ⟨rfl, rfl⟩; simp at h
  unfold fval; split
  · rw [gI_uJ]
  · rw [e]
  · rw [gR_uJ]
theorem fval_uR {S : HS} {f a b : Nat} {v : Option Nat} {q : Nat × Nat} (h : q.2 ≠ f ∨ b ≠ a) : fval (uR S f a v) b q = fval S b q := by
  obtain ⟨t, g⟩ := q
  have e : gR (uR S f a v) g b = gR S g b := by
    rw [gR_uR, if_neg]; rintro ⟨rfl, rfl⟩; simp at h
  unfold fval; split
  · rw [gI_uR]
  · rw [gJ_uR]
  · rw [e]
theorem cell_kept {cy : Nat → ClassId} {G : GS} {S S1 : HS} {b : Nat} (h1 : ∀ q, fval S1 b q = fval S b q) (h2 : aI S1 b = aI S b) (h3 : aJ S1 b = aJ S b) (h4 : aR S1 b = aR S b) : cellf cy G S1 b = cellf cy G S b := by
  unfold cellf
  rw [h2, h3, h4, show fval S1 b = fval S b from funext h1]
theorem fld_u {ci k t f : Nat} (hci : ci < 13) (hf : (flds ci)[k]? = some (t, f)) : ∀ (j : Nat) (q : Nat × Nat), (flds ci)[j]? = some q → q.2 = f → j = k := by
  intro j q hq e
  have h1 := flds_code ci hci j (List.getElem?_eq_some_iff.mp hq).1
  have h2 := flds_code ci hci k (List.getElem?_eq_some_iff.mp hf).1
  rw [List.getD_eq_getElem?_getD, hq] at h1
  rw [List.getD_eq_getElem?_getD, hf] at h2
  simp at h1 h2
  omega
def nSC : Nat := 21
def slen : List Nat := [8, 4, 3, 3, 3, 4, 5, 3, 3, 4, 3, 3, 2, 5, 5, 3, 5, 5, 3, 5, 4]
def sbyt : List (List Int32) := [[40, 41, 60, 61, 43, 45, 42, 59], [102, 111, 114, 109], [114, 101, 103], [111, 119, 110], [102, 109, 97], [109, 111, 100, 101], [99, 108, 101, 97, 114], [117, 115, 101], [101, 120, 112], [102, 114, 97, 99], [110, 111, 116], [97, 110, 100], [111, 114], [112, 108, 97, 105, 110], [102, 108, 117, 115, 104], [115, 97, 116], [119, 104, 111, 108, 101], [109, 105, 110, 117, 115], [111, 100, 100], [103, 117, 97, 114, 100], [114, 101, 115, 116]]
def srefs : List (String × Nat × String × Nat) := [("FusedUnit$Tape", 55, "()<=+-*;", 0), ("FusedUnit$UnitReader", 28, "form", 1), ("FusedUnit$Tape", 90, "form", 1), ("FusedUnit$Tape", 96, "reg", 2), ("FusedUnit$Tape", 98, "own", 3), ("FusedUnit$Tape", 100, "fma", 4), ("FusedUnit$Tape", 102, "mode", 5), ("FusedUnit$Tape", 104, "clear", 6), ("FusedUnit$Tape", 106, "use", 7), ("FusedUnit$Tape", 108, "exp", 8), ("FusedUnit$Tape", 110, "frac", 9), ("FusedUnit$Tape", 112, "not", 10), ("FusedUnit$Tape", 114, "and", 11), ("FusedUnit$Tape", 116, "or", 12), ("FusedUnit$Tape", 118, "plain", 13), ("FusedUnit$Tape", 120, "flush", 14), ("FusedUnit$Tape", 122, "sat", 15), ("FusedUnit$Tape", 124, "whole", 16), ("FusedUnit$UnitReader", 68, "exp", 8), ("FusedUnit$UnitReader", 78, "frac", 9), ("FusedUnit$UnitReader", 37, "reg", 2), ("FusedUnit$UnitReader", 42, "own", 3), ("FusedUnit$LawReader", 78, "minus", 17), ("FusedUnit$LawReader", 80, "odd", 18), ("FusedUnit$LawReader", 82, "guard", 19), ("FusedUnit$LawReader", 84, "rest", 20), ("FusedUnit$LawReader", 70, "not", 10), ("FusedUnit$LawReader", 39, "and", 11), ("FusedUnit$LawReader", 45, "or", 12), ("FusedUnit$PlanReader", 70, "fma", 4), ("FusedUnit$PlanReader", 76, "mode", 5), ("FusedUnit$PlanReader", 78, "clear", 6), ("FusedUnit$PlanReader", 80, "use", 7)]
/-- the String constants: what they hold, and which entry of which class is which; and the statics that the JDK's methods read -/
def STR (V : EV) (A : Nat → Prop) (U : State) (H : Heap) : Prop := (vk_S nSC slen sbyt V.2.2.1 V.2.2.2 A U H ∧ ∀ q ∈ srefs, vk_R q.1 q.2.1 q.2.2.1 (V.2.2.1 q.2.2.2) U) ∧ va_Z "java/lang/String" "COMPACT_STRINGS" "Z" (.int 1) A U H ∧ va_Zq "jdk/internal/util/Preconditions" "SIOOBE_FORMATTER" "Ljava/util/function/BiFunction;" A U H ∧ vx_Zq Bundle.tN "UNASSIGNED_STACK" Bundle.steD A U H ∧ vx_Zq Bundle.tN "SUPPRESSED_SENTINEL" Bundle.listD A U H
theorem str_moved {V : EV} {A : Nat → Prop} {u U : State} {H : Heap} (hvm : u.vm.Alike U.vm) (hr : ∀ q ∈ srefs, vk_R q.1 q.2.1 q.2.2.1 (V.2.2.1 q.2.2.2) U) (h : STR V A u H) : STR V A U H :=
  ⟨⟨vk_S.moved hvm h.1.1, hr⟩, va_Z.moved hvm h.2.1, va_Zq.moved hvm h.2.2.1, vx_Zq.moved hvm h.2.2.2.1, vx_Zq.moved hvm h.2.2.2.2⟩
theorem str_kept {V : EV} {A B : Nat → Prop} {U : State} {H H1 : Heap} (h : STR V A U H) (hq : ∀ a : Nat, a < H.size → ¬ A a → H1[a]? = H[a]?) (hAB : ∀ q, B q → A q) : STR V B U H1 :=
  ⟨⟨(h.1.1.kept hq).narrow hAB, h.1.2⟩, (h.2.1.kept hq).narrow hAB, (h.2.2.1.kept hq).narrow hAB, (h.2.2.2.1.kept hq).narrow hAB, (h.2.2.2.2.kept hq).narrow hAB⟩
def isDC : Cond → Bool
  | .castable .. => true
  | .declares .. => true
  | _ => false
def DB : List Cond := lw_tbl.filter isDC
theorem db_mem {w : Cond} (h : w ∈ lw_tbl) (g : isDC w = true) : w ∈ DB := List.mem_filter.mpr ⟨h, g⟩
def DW (U : State) : Prop := ∀ w ∈ DB, va_Nw w U
theorem dw_warm {s U : State} (hW : s.WarmedH U.vm) (h : DW s) : DW U := by
  intro w hw
  have hn := (List.mem_filter.mp hw).2
  cases w <;> first | exact va_Nw.warmC hW (h _ hw) | exact va_Nw.warmD hW (h _ hw) | exact Bool.noConfusion hn
theorem dw_same {u U : State} (e : u.vm = U.vm) (h : DW u) : DW U := by
  intro w hw
  have hn := (List.mem_filter.mp hw).2
  cases w <;> first | exact va_Nw.same rfl e (h _ hw) | exact Bool.noConfusion hn
theorem dw_of {args : Array Value} {s : State} (h : ∀ w ∈ lw_tbl, w.before args s = true) : DW s := by
  intro w hw
  have hn := (List.mem_filter.mp hw).2
  have h1 := h w (List.mem_filter.mp hw).1
  cases w <;> first | exact va_Nw.of rfl h1 | exact Bool.noConfusion hn
/-- what a callee gets by its start, not by its words -/
def NX (U : State) : Prop := NW U ∧ va_AO RX2 U ∧ va_AO RX7 U ∧ DW U
theorem nx_warm {s U : State} (hW : s.WarmedH U.vm) (h : NX s) : NX U := ⟨nw_warm hW h.1, va_AO.moved hW.alike h.2.1, va_AO.moved hW.alike h.2.2.1, dw_warm hW h.2.2.2⟩
theorem nx_same {u U : State} (e : u.vm = U.vm) (h : NX u) : NX U := ⟨nw_same e h.1, va_AO.moved (e ▸ Vm.Alike.refl u.vm) h.2.1, va_AO.moved (e ▸ Vm.Alike.refl u.vm) h.2.2.1, dw_same e h.2.2.2⟩
/-- what holds all through a method -/
def CX (p : Program) (s : State) (m : MethodId) (args : Array Value) (meth : Method) (c : Code) (own : String) (cc : ByteArray) (nL : Nat) (ret : Option FieldType) (V : EV) (G : GS) : Prop :=
  p.tables.exec = Jvm.exec ∧ c.code = cc ∧ meth.sig.returnType = ret ∧ c.maxLocals = nL ∧ s.vm.findClass own = some m.cls ∧ (∀ w ∈ TB, w.before args s = true) ∧ va_K V.1 vwCl (tyl V.2.1) s ∧ meth.locks = false ∧ STR V (AG G s.heap.size) s s.heap ∧ G.1.Nodup ∧ NX s
def PRE (V : EV) (G : GS) (S : HS) (sz : Nat) (av : List Value) : Array Value → State → Prop :=
  va_Pc av (fun U => U.heap.size = sz ∧ va_P V.1 vwCl (mkW V.2.1 G S) U.heap ∧ va_K V.1 vwCl (tyl V.2.1) U ∧ STR V (AG G sz) U U.heap ∧ NX U)
def PST (V : EV) (G : GS) (S : HS) (t : State) : Prop := va_P V.1 vwCl (mkW V.2.1 G S) t.heap ∧ WT G S
abbrev QI (V : EV) (G : GS) (S : HS) (r : Int32) (sz : Nat) : Array Value → State → Outcome → State → Prop := va_Qi (fun r' (_ : Unit) => r' = r) (fun _ t => PST V G S t) (AG G sz)
abbrev QJ (V : EV) (G : GS) (S : HS) (r : Int64) (sz : Nat) : Array Value → State → Outcome → State → Prop := va_Ql (fun r' (_ : Unit) => r' = r) (fun _ t => PST V G S t) (AG G sz)
abbrev QV (V : EV) (G : GS) (S : HS) (sz : Nat) : Array Value → State → Outcome → State → Prop := va_Qv (fun (_ : Unit) => True) (fun _ t => PST V G S t) (AG G sz)
abbrev QQ (V : EV) (G : GS) (S : HS) (r : Option Nat) (sz : Nat) : Array Value → State → Outcome → State → Prop := va_Qq (fun r' (_ : Unit) => r' = r) (fun _ t => PST V G S t) (AG G sz)
abbrev RM (fr lo : Nat) : Room := { frames := fr, cells := 0, slots := 0, locals := lo }
/-- a method's contract: it answers r and leaves S1 -/
def MetI (l : Launch) (y : MethodName) (cc : ByteArray) (nL : Nat) (ty : FieldType) (fr lo : Nat) (V : EV) (G : GS) (S : HS) (av : List Value) (r : Int32) (S1 : HS) : Prop :=
  ∀ sz, Met l y (.code y cc nL (some ty) :: TB) (RM fr lo) (PRE V G S sz av) (QI V G S1 r sz) 0 0 (AG G sz)
def MetJ (l : Launch) (y : MethodName) (cc : ByteArray) (nL : Nat) (fr lo : Nat) (V : EV) (G : GS) (S : HS) (av : List Value) (r : Int64) (S1 : HS) : Prop :=
  ∀ sz, Met l y (.code y cc nL (some .long) :: TB) (RM fr lo) (PRE V G S sz av) (QJ V G S1 r sz) 0 0 (AG G sz)
def MetV (l : Launch) (y : MethodName) (cc : ByteArray) (nL : Nat) (fr lo : Nat) (V : EV) (G : GS) (S : HS) (av : List Value) (S1 : HS) : Prop :=
  ∀ sz, Met l y (.code y cc nL none :: TB) (RM fr lo) (PRE V G S sz av) (QV V G S1 sz) 0 0 (AG G sz)
def MetQ (l : Launch) (y : MethodName) (cc : ByteArray) (nL : Nat) (ty : FieldType) (fr lo : Nat) (V : EV) (G : GS) (S : HS) (av : List Value) (r : Option Nat) (S1 : HS) : Prop :=
  ∀ sz, Met l y (.code y cc nL (some ty) :: TB) (RM fr lo) (PRE V G S sz av) (QQ V G S1 r sz) 0 0 (AG G sz)
theorem pre_blind {V : EV} {G : GS} {S : HS} {sz : Nat} {av : List Value} : FrameBlind (PRE V G S sz av) := by
  intro a U g mk q
  obtain ⟨q0, q1, qP, qK, qS⟩ := q
  exact ⟨q0, q1, qP, va_K.moved (u := U) (U := U.calling g mk a) (Vm.Alike.refl U.vm) qK, str_moved (u := U) (U := U.calling g mk a) (Vm.Alike.refl U.vm) (fun x hx => vk_R.same (u := U) (U := U.calling g mk a) rfl (qS.1.1.2 x hx)) qS.1, nx_same (u := U) (U := U.calling g mk a) rfl qS.2⟩
-- conditions, names, steps that may fail
theorem if_t {c : Prop} [Decidable c] {α : Type} {a b x : α} (h : c) (hf : (if c then a else b) = x) : a = x := by rw [if_pos h] at hf; exact hf
theorem if_f {c : Prop} [Decidable c] {α : Type} {a b x : α} (h : ¬ c) (hf : (if c then a else b) = x) : b = x := by rw [if_neg h] at hf; exact hf
theorem if_s {c : Prop} [Decidable c] {α : Type} {a : Option α} {x : α} (hf : (if c then a else none) = some x) : c ∧ a = some x := by
  by_cases h : c
  · rw [if_pos h] at hf; exact ⟨h, hf⟩
  · rw [if_neg h] at hf; cases hf
def bnd {α β : Type} (a : α) (k : α → β) : β := k a
theorem bnd_e {α β : Type} {a : α} {k : α → β} {x : β} (h : bnd a k = x) : ∃ y, y = a ∧ k y = x := ⟨a, rfl, h⟩
def bd1 {α β : Type} (o : Option α) (k : α → Option β) : Option β := match o with
  | none => none
  | some a => k a
theorem bd1_e {α β : Type} {o : Option α} {k : α → Option β} {x : β} (h : bd1 o k = some x) : ∃ y, o = some y ∧ k y = some x := by
  cases o with
  | none => cases h
  | some a => exact ⟨a, rfl, h⟩
def bd2 {α β : Type} (o : Option (α × HS)) (k : α → HS → Option β) : Option β := match o with
  | none => none
  | some q => k q.1 q.2
theorem bd2_e {α β : Type} {o : Option (α × HS)} {k : α → HS → Option β} {x : β} (h : bd2 o k = some x) : ∃ y S, o = some (y, S) ∧ k y S = some x := by
  cases o with
  | none => cases h
  | some q => exact ⟨q.1, q.2, rfl, h⟩
def bn2 {α β : Type} (o : α × HS) (k : α → HS → β) : β := k o.1 o.2
theorem bn2_e {α β : Type} {o : α × HS} {k : α → HS → β} {x : β} (h : bn2 o k = x) : ∃ y S, o = (y, S) ∧ k y S = x := ⟨o.1, o.2, rfl, h⟩
def nb (x : Int32) : Prop := x = 0 ∨ x = 1
def inB (i : Int32) (n : Nat) : Bool := decide (0 ≤ i.toInt ∧ i.toInt < n)
theorem inB_in {i : Int32} {n : Nat} (h : inB i n = true) : vp_in i n := vp_in_iff.mpr (of_decide_eq_true h)
def isZ (x : Int32) : Bool := decide (x = 0 ∨ x = 1)
def isC (x : Int32) : Bool := decide ((x.toUInt32 % 65536).toInt32 = x)
theorem isZ_n {x : Int32} (h : isZ x = true) : narrow .boolean (.int x) = .int x ∧ fits .boolean (.int x) = true := by
  rcases of_decide_eq_true h with rfl | rfl <;> exact ⟨by decide +kernel, by decide +kernel⟩
theorem isC_n {x : Int32} (h : isC x = true) : narrow .char (.int x) = .int x ∧ fits .char (.int x) = true := by
  have e := of_decide_eq_true h
  rw [← e]
  exact ⟨pk_nc x, pk_fc x⟩
theorem wt_r {G : GS} {S : HS} {a f t ka : Nat} (h : WT G S) (ha : a ∈ G.1) (hk : G.2.1 a = ka) (hf : f / 100 = ka) (ht : gR S f a = some t) : t ∈ G.1 ∧ G.2.1 t = rk f := h.1 a ha f t (by rw [hk]; exact hf) ht
section ROWS
variable {p : Program} {l : Launch} {e : Env} {R : Room} {s : State} {m : MethodId} {args : Array Value} {below : List Frame} {meth : Method} {c : Code} {H : Heap} {locs : List Loc} {cells slots : Nat} {Q : State → Prop}
variable {own : String} {cc : ByteArray} {nL : Nat} {ret : Option FieldType} {V : EV} {G : GS} {S S1 : HS} {pc : Nat} {ls : Array Slot} {rest : List Value} {a ci k f N idx : Nat} {RC ref : String} {T : u_T}
theorem nm_i {x y : Int32} (h : y = x) (kk : W p l e R s m args below meth c H locs cells slots Q (F0 m pc ls (.int y :: rest))) : W p l e R s m args below meth c H locs cells slots Q (F0 m pc ls (.int x :: rest)) := h ▸ kk
theorem nm_l {x y : Int64} (h : y = x) (kk : W p l e R s m args below meth c H locs cells slots Q (F0 m pc ls (.long y :: rest))) : W p l e R s m args below meth c H locs cells slots Q (F0 m pc ls (.long x :: rest)) := h ▸ kk
theorem x_link (hts : ∀ w ∈ TB, w.before args s = true) {w : Cond} (h : w ∈ TB) : w.before args s = true := hts w h
theorem x_get (C : CX p s m args meth c own cc nL ret V G) (hP : HP V G S H) (ha : a ∈ G.1) (hk : G.2.1 a = ci) (hci : ci < 13) (hc : vwCl[ci]? = some (RC, T, N)) (hin : ∀ w ∈ u_ws RC T N, w ∈ TB) {t : Nat} (hf : (flds ci)[k]? = some (t, f)) (hkN : k < N) (hlink : LK own idx ref (T k).2.1 (T k).2.2.1) (href : ref = (T k).1) (hdg : decode cc pc = .ok (.getfield idx, 3))
    (kk : W p l e R s m args below meth c H locs cells slots Q (F0 m (pc + 3) ls (fval S a (t, f) :: rest))) : W p l e R s m args below meth c H locs cells slots Q (F0 m pc ls (.ref a :: rest)) := by
  obtain ⟨hx, hb, -, -, hown, hts, hK, -, -, -, hnw⟩ := C
  obtain ⟨q0, hq⟩ := mk_get (cy := V.2.1) (S := S) ha
  subst href
  have he := hq.trans (congrArg (fun z => some (a, z)) (cell_obj (cy := V.2.1) (S := S) hk hci))
  have hv : ((flds ci).map (fval S a))[k]? = some (fval S a (t, f)) := by rw [List.getElem?_map, hf]; rfl
  rcases hlink with hl | ⟨host, hl⟩
  · exact va_get hx hb hts hin hown hK hP q0 he hc k hkN (hts _ hl) (fun _ h => h) hv hdg kk
  · exact va_getN hx hb hts hin hown hK hP q0 he hc k hkN (va_Nw.use rfl (hnw.1 _ hl)) (fun _ h => h) hv hdg kk
theorem x_put (C : CX p s m args meth c own cc nL ret V G) (hP : HP V G S H) (hS : va_S (AG G s.heap.size) s.heap H locs) (ha : a ∈ G.1) (hk : G.2.1 a = ci) (hci : ci < 13) (hc : vwCl[ci]? = some (RC, T, N)) (hin : ∀ w ∈ u_ws RC T N, w ∈ TB) (ty0 : Nat → FieldType) (hty : ∀ k, k < N → parseFieldDescriptor (T k).2.2.1 = some (ty0 k)) (hnm : ∀ a, a < N → ∀ b, b < N → a ≠ b → (T a).2.1 ≠ (T b).2.1) {t : Nat} (hf : (flds ci)[k]? = some (t, f)) (hkN : k < N) (hlink : LK own idx ref (T k).2.1 (T k).2.2.1) (href : ref = (T k).1)
    (hfin : (T k).2.2.2 = false ∨ ((T k).2.2.2 = true ∧ meth.name = "<init>" ∧ (T k).1 = own ∧ Cond.fieldLink own idx ref (T k).2.1 (T k).2.2.1 ∈ TB)) {ty : FieldType} {v : Value} (hd : parseFieldDescriptor (T k).2.2.1 = some ty) (hn : narrow ty v = v ∧ fits ty v = true) (hlen : N = (flds ci).length)
    (hv : fval S1 a (t, f) = v) (hu : ∀ b (q : Nat × Nat), q.2 ≠ f ∨ b ≠ a → fval S1 b q = fval S b q) (hrow : aI S1 = aI S ∧ aJ S1 = aJ S ∧ aR S1 = aR S)
    (hdg : decode cc pc = .ok (.putfield idx, 3)) (kk : ∀ (H1 : Heap) (locs1 : List Loc), HP V G S1 H1 → va_S (AG G s.heap.size) s.heap H1 locs1 → W p l e R s m args below meth c H1 locs1 cells slots Q (F0 m (pc + 3) ls rest)) : W p l e R s m args below meth c H locs cells slots Q (F0 m pc ls (v :: .ref a :: rest)) := by
  obtain ⟨hx, hb, -, -, hown, hts, hK, -, -, hN, hnw⟩ := C
  obtain ⟨q0, hq⟩ := mk_get (cy := V.2.1) (S := S) ha
  subst href
  have he := hq.trans (congrArg (fun z => some (a, z)) (cell_obj (cy := V.2.1) (S := S) hk hci))
  have hl : k < ((flds ci).map (fval S a)).length := by rw [List.length_map, ← hlen]; exact hkN
  have hD : va_D (AG G s.heap.size) (mkW V.2.1 G S) := mk_D hN (fun x hx => Or.inl hx)
  have hset : (mkW V.2.1 G S).set q0 (a, .inr (ci, ((flds ci).map (fval S a)).set k v)) = mkW V.2.1 G S1 :=
    mk_set hN ha hq (by rw [cell_obj hk hci, fset hf (fld_u hci hf) hv (fun q hq => hu a q (Or.inl hq))]) (fun b hb => cell_kept (fun q => hu b q (Or.inr hb)) (by rw [hrow.1]) (by rw [hrow.2.1]) (by rw [hrow.2.2]))
  have go : ∀ (H1 : Heap) (locs1 : List Loc), va_P V.1 vwCl ((mkW V.2.1 G S).set q0 (a, .inr (ci, ((flds ci).map (fval S a)).set k v))) H1 → va_D (AG G s.heap.size) ((mkW V.2.1 G S).set q0 (a, .inr (ci, ((flds ci).map (fval S a)).set k v))) → va_S (AG G s.heap.size) s.heap H1 locs1 → W p l e R s m args below meth c H1 locs1 cells slots Q (F0 m (pc + 3) ls rest) := by
    intro H1 locs1 hP1 _ hS1
    rw [hset] at hP1
    exact kk H1 locs1 hP1 hS1
  rcases hfin with hfin | ⟨hfin, hin2, hdecl, hlf⟩
  · rcases hlink with hlk | ⟨host, hlk⟩
    · exact va_put hx hb hts hin ty0 hty hnm hown hK hP hD hS q0 he hc k hkN (hts _ hlk) (fun _ h => h) hfin hd hn.1 hn.2 hl hdg go
    · exact va_putN hx hb hts hin ty0 hty hnm hown hK hP hD hS q0 he hc k hkN (va_Nw.use rfl (hnw.1 _ hlk)) (fun _ h => h) hfin hd hn.1 hn.2 hl hdg go
  · exact va_putF hx hb hts hin ty0 hty hnm hown hK hP hD hS q0 he hc k hkN (hts _ hlf) (fun _ h => h) hfin hin2 hdecl hd hn.1 hn.2 hl hdg go
-- arrays
theorem x_iald (C : CX p s m args meth c own cc nL ret V G) (hP : HP V G S H) (ha : a ∈ G.1) (hk : G.2.1 a = 14) {i : Int32} (hin : inB i (G.2.2 a) = true) (hdg : decode cc pc = .ok (.iaload, 1))
    (kk : W p l e R s m args below meth c H locs cells slots Q (F0 m (pc + 1) ls (.int (aI S a i.toNatClampNeg) :: rest))) : W p l e R s m args below meth c H locs cells slots Q (F0 m pc ls (.int i :: .ref a :: rest)) := by
  obtain ⟨hx, hb, -, -, hown, hts, hK, -, -, -, hnw⟩ := C
  obtain ⟨q0, hq⟩ := mk_get (cy := V.2.1) (S := S) ha
  exact va_iald hx hb hK hP q0 1 (hq.trans (congrArg (fun z => some (a, z)) (cell_I hk))) rfl (inB_in hin) hdg kk
theorem x_lald (C : CX p s m args meth c own cc nL ret V G) (hP : HP V G S H) (ha : a ∈ G.1) (hk : G.2.1 a = 15) {i : Int32} (hin : inB i (G.2.2 a) = true) (hdg : decode cc pc = .ok (.laload, 1))
    (kk : W p l e R s m args below meth c H locs cells slots Q (F0 m (pc + 1) ls (.long (aJ S a i.toNatClampNeg) :: rest))) : W p l e R s m args below meth c H locs cells slots Q (F0 m pc ls (.int i :: .ref a :: rest)) := by
  obtain ⟨hx, hb, -, -, hown, hts, hK, -, -, -, hnw⟩ := C
  obtain ⟨q0, hq⟩ := mk_get (cy := V.2.1) (S := S) ha
  exact va_lald hx hb hK hP q0 2 (hq.trans (congrArg (fun z => some (a, z)) (cell_J hk))) rfl (inB_in hin) hdg kk
theorem x_zald (C : CX p s m args meth c own cc nL ret V G) (hP : HP V G S H) (ha : a ∈ G.1) (hk : G.2.1 a = 16) {i : Int32} (hin : inB i (G.2.2 a) = true) (hdg : decode cc pc = .ok (.baload, 1))
    (kk : W p l e R s m args below meth c H locs cells slots Q (F0 m (pc + 1) ls (.int (aI S a i.toNatClampNeg) :: rest))) : W p l e R s m args below meth c H locs cells slots Q (F0 m pc ls (.int i :: .ref a :: rest)) := by
  obtain ⟨hx, hb, -, -, hown, hts, hK, -, -, -, hnw⟩ := C
  obtain ⟨q0, hq⟩ := mk_get (cy := V.2.1) (S := S) ha
  exact va_zald hx hb hK hP q0 3 (hq.trans (congrArg (fun z => some (a, z)) (cell_Z hk))) rfl (inB_in hin) hdg kk
theorem x_cald (C : CX p s m args meth c own cc nL ret V G) (hP : HP V G S H) (ha : a ∈ G.1) (hk : G.2.1 a = 13) {i : Int32} (hin : inB i (G.2.2 a) = true) (hdg : decode cc pc = .ok (.caload, 1))
    (kk : W p l e R s m args below meth c H locs cells slots Q (F0 m (pc + 1) ls (.int (aI S a i.toNatClampNeg) :: rest))) : W p l e R s m args below meth c H locs cells slots Q (F0 m pc ls (.int i :: .ref a :: rest)) := by
  obtain ⟨hx, hb, -, -, hown, hts, hK, -, -, -, hnw⟩ := C
  obtain ⟨q0, hq⟩ := mk_get (cy := V.2.1) (S := S) ha
  exact va_cald hx hb hK hP q0 0 (hq.trans (congrArg (fun z => some (a, z)) (cell_C hk))) rfl (inB_in hin) hdg kk
theorem x_Fald (C : CX p s m args meth c own cc nL ret V G) (hP : HP V G S H) (ha : a ∈ G.1) (hk : G.2.1 a = 17) {i : Int32} (hin : inB i (G.2.2 a) = true) (hdg : decode cc pc = .ok (.aaload, 1))
    (kk : W p l e R s m args below meth c H locs cells slots Q (F0 m (pc + 1) ls (va_rf (aR S a i.toNatClampNeg) :: rest))) : W p l e R s m args below meth c H locs cells slots Q (F0 m pc ls (.int i :: .ref a :: rest)) := by
  obtain ⟨hx, hb, -, -, hown, hts, hK, -, -, -, hnw⟩ := C
  obtain ⟨q0, hq⟩ := mk_get (cy := V.2.1) (S := S) ha
  exact va_aldq hx hb hK hP q0 4 (hq.trans (congrArg (fun z => some (a, z)) (cell_F hk))) rfl (inB_in hin) hdg kk
theorem x_Sald (C : CX p s m args meth c own cc nL ret V G) (hP : HP V G S H) (ha : a ∈ G.1) (hk : G.2.1 a = 18) {i : Int32} (hin : inB i (G.2.2 a) = true) (hdg : decode cc pc = .ok (.aaload, 1))
    (kk : W p l e R s m args below meth c H locs cells slots Q (F0 m (pc + 1) ls (va_rf (aR S a i.toNatClampNeg) :: rest))) : W p l e R s m args below meth c H locs cells slots Q (F0 m pc ls (.int i :: .ref a :: rest)) := by
  obtain ⟨hx, hb, -, -, hown, hts, hK, -, -, -, hnw⟩ := C
  obtain ⟨q0, hq⟩ := mk_get (cy := V.2.1) (S := S) ha
  exact va_aldq hx hb hK hP q0 5 (hq.trans (congrArg (fun z => some (a, z)) (cell_S (by rw [hk])))) rfl (inB_in hin) hdg kk
theorem cell_wI {cy : Nat → ClassId} {i : Nat} {v : Int32} {b : Nat} (h : b ≠ a) : cellf cy G (wI S a i v) b = cellf cy G S b :=
  cell_kept (fun q => by unfold fval; rw [gI_wI, gJ_wI, gR_wI]) (p2_rw _ _ _ _ h) rfl rfl
theorem cell_wJ {cy : Nat → ClassId} {i : Nat} {v : Int64} {b : Nat} (h : b ≠ a) : cellf cy G (wJ S a i v) b = cellf cy G S b :=
  cell_kept (fun q => by unfold fval; rw [gI_wJ, gJ_wJ, gR_wJ]) rfl (p2_rw _ _ _ _ h) rfl
theorem cell_wR {cy : Nat → ClassId} {i : Nat} {v : Option Nat} {b : Nat} (h : b ≠ a) : cellf cy G (wR S a i v) b = cellf cy G S b :=
  cell_kept (fun q => by unfold fval; rw [gI_wR, gJ_wR, gR_wR]) rfl rfl (p2_rw _ _ _ _ h)
theorem aI_row {i : Nat} {v : Int32} : aI (wI S a i v) a = upd (aI S a) i v := by
  show p2 _ a i v a = _
  rw [p2_row]; funext j; simp [upd, aI]
theorem aJ_row {i : Nat} {v : Int64} : aJ (wJ S a i v) a = vp_updL (aJ S a) i v := by
  show p2 _ a i v a = _
  rw [p2_row]; funext j; simp [vp_updL, aJ]
theorem aR_row {i : Nat} {v : Option Nat} : aR (wR S a i v) a = va_up (aR S a) i v := by
  show p2 _ a i v a = _
  rw [p2_row]; funext j; simp [va_up, aR]
theorem x_iast (C : CX p s m args meth c own cc nL ret V G) (hP : HP V G S H) (hS : va_S (AG G s.heap.size) s.heap H locs) (ha : a ∈ G.1) (hk : G.2.1 a = 14) {i x : Int32} (hin : inB i (G.2.2 a) = true) (h1 : S1 = wI S a i.toNatClampNeg x) (hdg : decode cc pc = .ok (.iastore, 1))
    (kk : ∀ (H1 : Heap) (locs1 : List Loc), HP V G S1 H1 → va_S (AG G s.heap.size) s.heap H1 locs1 → W p l e R s m args below meth c H1 locs1 cells slots Q (F0 m (pc + 1) ls rest)) : W p l e R s m args below meth c H locs cells slots Q (F0 m pc ls (.int x :: .int i :: .ref a :: rest)) := by
  subst h1
  obtain ⟨hx, hb, -, -, hown, hts, hK, -, -, hN, hnw⟩ := C
  obtain ⟨q0, hq⟩ := mk_get (cy := V.2.1) (S := S) ha
  refine va_iast hx hb hK hP (mk_D hN (fun x hx => Or.inl hx)) hS q0 1 (hq.trans (congrArg (fun z => some (a, z)) (cell_I hk))) rfl (inB_in hin) hdg (fun H1 locs1 hP1 _ hS1 => ?_)
  rw [mk_set hN ha hq (by rw [cell_I hk, aI_row]) (fun b hb => cell_wI hb)] at hP1
  exact kk H1 locs1 hP1 hS1
theorem x_zast (C : CX p s m args meth c own cc nL ret V G) (hP : HP V G S H) (hS : va_S (AG G s.heap.size) s.heap H locs) (ha : a ∈ G.1) (hk : G.2.1 a = 16) {i x : Int32} (hin : inB i (G.2.2 a) = true) (h1 : S1 = wI S a i.toNatClampNeg (vp_nar .boolean x)) (hdg : decode cc pc = .ok (.bastore, 1))
    (kk : ∀ (H1 : Heap) (locs1 : List Loc), HP V G S1 H1 → va_S (AG G s.heap.size) s.heap H1 locs1 → W p l e R s m args below meth c H1 locs1 cells slots Q (F0 m (pc + 1) ls rest)) : W p l e R s m args below meth c H locs cells slots Q (F0 m pc ls (.int x :: .int i :: .ref a :: rest)) := by
  subst h1
  obtain ⟨hx, hb, -, -, hown, hts, hK, -, -, hN, hnw⟩ := C
  obtain ⟨q0, hq⟩ := mk_get (cy := V.2.1) (S := S) ha
  refine va_zast hx hb hK hP (mk_D hN (fun x hx => Or.inl hx)) hS q0 3 (hq.trans (congrArg (fun z => some (a, z)) (cell_Z hk))) rfl (inB_in hin) hdg (fun H1 locs1 hP1 _ hS1 => ?_)
  rw [mk_set hN ha hq (by rw [cell_Z hk, aI_row]) (fun b hb => cell_wI hb)] at hP1
  exact kk H1 locs1 hP1 hS1
theorem x_cast (C : CX p s m args meth c own cc nL ret V G) (hP : HP V G S H) (hS : va_S (AG G s.heap.size) s.heap H locs) (ha : a ∈ G.1) (hk : G.2.1 a = 13) {i x : Int32} (hin : inB i (G.2.2 a) = true) (h1 : S1 = wI S a i.toNatClampNeg (vp_nar .char x)) (hdg : decode cc pc = .ok (.castore, 1))
    (kk : ∀ (H1 : Heap) (locs1 : List Loc), HP V G S1 H1 → va_S (AG G s.heap.size) s.heap H1 locs1 → W p l e R s m args below meth c H1 locs1 cells slots Q (F0 m (pc + 1) ls rest)) : W p l e R s m args below meth c H locs cells slots Q (F0 m pc ls (.int x :: .int i :: .ref a :: rest)) := by
  subst h1
  obtain ⟨hx, hb, -, -, hown, hts, hK, -, -, hN, hnw⟩ := C
  obtain ⟨q0, hq⟩ := mk_get (cy := V.2.1) (S := S) ha
  refine va_cast hx hb hK hP (mk_D hN (fun x hx => Or.inl hx)) hS q0 0 (hq.trans (congrArg (fun z => some (a, z)) (cell_C hk))) rfl (inB_in hin) hdg (fun H1 locs1 hP1 _ hS1 => ?_)
  rw [mk_set hN ha hq (by rw [cell_C hk, aI_row]) (fun b hb => cell_wI hb)] at hP1
  exact kk H1 locs1 hP1 hS1
theorem x_last (C : CX p s m args meth c own cc nL ret V G) (hP : HP V G S H) (hS : va_S (AG G s.heap.size) s.heap H locs) (ha : a ∈ G.1) (hk : G.2.1 a = 15) {i : Int32} {x : Int64} (hin : inB i (G.2.2 a) = true) (h1 : S1 = wJ S a i.toNatClampNeg x) (hdg : decode cc pc = .ok (.lastore, 1))
    (kk : ∀ (H1 : Heap) (locs1 : List Loc), HP V G S1 H1 → va_S (AG G s.heap.size) s.heap H1 locs1 → W p l e R s m args below meth c H1 locs1 cells slots Q (F0 m (pc + 1) ls rest)) : W p l e R s m args below meth c H locs cells slots Q (F0 m pc ls (.long x :: .int i :: .ref a :: rest)) := by
  subst h1
  obtain ⟨hx, hb, -, -, hown, hts, hK, -, -, hN, hnw⟩ := C
  obtain ⟨q0, hq⟩ := mk_get (cy := V.2.1) (S := S) ha
  refine va_last hx hb hK hP (mk_D hN (fun x hx => Or.inl hx)) hS q0 2 (hq.trans (congrArg (fun z => some (a, z)) (cell_J hk))) rfl (inB_in hin) hdg (fun H1 locs1 hP1 _ hS1 => ?_)
  rw [mk_set hN ha hq (by rw [cell_J hk, aJ_row]) (fun b hb => cell_wJ hb)] at hP1
  exact kk H1 locs1 hP1 hS1
theorem x_Fast (C : CX p s m args meth c own cc nL ret V G) (hP : HP V G S H) (hS : va_S (AG G s.heap.size) s.heap H locs) (ha : a ∈ G.1) (hk : G.2.1 a = 17) {i : Int32} {x : Nat} (hxL : x ∈ G.1) (hxK : G.2.1 x = 2) (hin : inB i (G.2.2 a) = true) (h1 : S1 = wR S a i.toNatClampNeg (some x)) (hdg : decode cc pc = .ok (.aastore, 1))
    (kk : ∀ (H1 : Heap) (locs1 : List Loc), HP V G S1 H1 → va_S (AG G s.heap.size) s.heap H1 locs1 → W p l e R s m args below meth c H1 locs1 cells slots Q (F0 m (pc + 1) ls rest)) : W p l e R s m args below meth c H locs cells slots Q (F0 m pc ls (.ref x :: .int i :: .ref a :: rest)) := by
  subst h1
  obtain ⟨hx, hb, -, -, hown, hts, hK, -, -, hN, hnw⟩ := C
  obtain ⟨q0, hq⟩ := mk_get (cy := V.2.1) (S := S) ha
  obtain ⟨q1, hq1⟩ := mk_get (cy := V.2.1) (S := S) hxL
  refine va_astq (r := (RX2, TX2, 8)) hx hb hK hP (mk_D hN (fun x hx => Or.inl hx)) hS q0 4 q1 2 (hq.trans (congrArg (fun z => some (a, z)) (cell_F hk))) rfl (hq1.trans (congrArg (fun z => some (x, z)) (cell_obj hxK (by decide)))) rfl (inB_in hin) hdg (fun H1 locs1 hP1 _ hS1 => ?_)
  rw [mk_set hN ha hq (by rw [cell_F hk, aR_row]) (fun b hb => cell_wR hb)] at hP1
  exact kk H1 locs1 hP1 hS1
theorem x_Sast (C : CX p s m args meth c own cc nL ret V G) (hP : HP V G S H) (hS : va_S (AG G s.heap.size) s.heap H locs) (ha : a ∈ G.1) (hk : G.2.1 a = 18) {i : Int32} {x : Nat} (hxL : x ∈ G.1) (hxK : G.2.1 x = 7) (hin : inB i (G.2.2 a) = true) (h1 : S1 = wR S a i.toNatClampNeg (some x)) (hdg : decode cc pc = .ok (.aastore, 1))
    (kk : ∀ (H1 : Heap) (locs1 : List Loc), HP V G S1 H1 → va_S (AG G s.heap.size) s.heap H1 locs1 → W p l e R s m args below meth c H1 locs1 cells slots Q (F0 m (pc + 1) ls rest)) : W p l e R s m args below meth c H locs cells slots Q (F0 m pc ls (.ref x :: .int i :: .ref a :: rest)) := by
  subst h1
  obtain ⟨hx, hb, -, -, hown, hts, hK, -, -, hN, hnw⟩ := C
  obtain ⟨q0, hq⟩ := mk_get (cy := V.2.1) (S := S) ha
  obtain ⟨q1, hq1⟩ := mk_get (cy := V.2.1) (S := S) hxL
  refine va_astq (r := (RX7, TX7, 4)) hx hb hK hP (mk_D hN (fun x hx => Or.inl hx)) hS q0 5 q1 7 (hq.trans (congrArg (fun z => some (a, z)) (cell_S hk))) rfl (hq1.trans (congrArg (fun z => some (x, z)) (cell_obj hxK (by decide)))) rfl (inB_in hin) hdg (fun H1 locs1 hP1 _ hS1 => ?_)
  rw [mk_set hN ha hq (by rw [cell_S hk, aR_row]) (fun b hb => cell_wR hb)] at hP1
  exact kk H1 locs1 hP1 hS1
-- returns
theorem x_reti (C : CX p s m args meth c own cc nL (some .int) V G) (hP : HP V G S H) (hS : va_S (AG G s.heap.size) s.heap H locs) (hW : WT G S) {v : Int32} (hdg : decode cc pc = .ok (.ireturn, 1)) : W p l e R s m args below meth c H locs cells slots (MQ below (QI V G S v s.heap.size) args s cells slots (AG G s.heap.size)) (F0 m pc ls [.int v]) :=
  W.iret C.1 C.2.1 C.2.2.1 (fun t ht hw => ⟨⟨v, (), rfl, rfl, by rw [ht]; exact hP, hW⟩, hS.F ht⟩) hS.2.2 hdg C.2.2.2.2.2.2.2.1
theorem x_retz {ty : FieldType} (C : CX p s m args meth c own cc nL (some ty) V G) (hP : HP V G S H) (hS : va_S (AG G s.heap.size) s.heap H locs) (hW : WT G S) {v : Int32} (hn : narrow ty (.int v) = .int v) (hdg : decode cc pc = .ok (.ireturn, 1)) : W p l e R s m args below meth c H locs cells slots (MQ below (QI V G S v s.heap.size) args s cells slots (AG G s.heap.size)) (F0 m pc ls [.int v]) :=
  W.zret C.1 C.2.1 C.2.2.1 hn (fun t ht hw => ⟨⟨v, (), rfl, rfl, by rw [ht]; exact hP, hW⟩, hS.F ht⟩) hS.2.2 hdg C.2.2.2.2.2.2.2.1
theorem x_retl (C : CX p s m args meth c own cc nL (some .long) V G) (hP : HP V G S H) (hS : va_S (AG G s.heap.size) s.heap H locs) (hW : WT G S) {v : Int64} (hdg : decode cc pc = .ok (.lreturn, 1)) : W p l e R s m args below meth c H locs cells slots (MQ below (QJ V G S v s.heap.size) args s cells slots (AG G s.heap.size)) (F0 m pc ls [.long v]) :=
  W.lret C.1 C.2.1 C.2.2.1 (fun t ht hw => ⟨⟨v, (), rfl, rfl, by rw [ht]; exact hP, hW⟩, hS.F ht⟩) hS.2.2 hdg C.2.2.2.2.2.2.2.1
theorem x_retv (C : CX p s m args meth c own cc nL none V G) (hP : HP V G S H) (hS : va_S (AG G s.heap.size) s.heap H locs) (hW : WT G S) (hdg : decode cc pc = .ok (.return_, 1)) : W p l e R s m args below meth c H locs cells slots (MQ below (QV V G S s.heap.size) args s cells slots (AG G s.heap.size)) (F0 m pc ls []) :=
  W.vret C.1 C.2.1 C.2.2.1 (fun t ht hw => ⟨⟨(), rfl, trivial, by rw [ht]; exact hP, hW⟩, hS.F ht⟩) hS.2.2 hdg C.2.2.2.2.2.2.2.1
theorem x_retq {n : String} (C : CX p s m args meth c own cc nL (some (.object n)) V G) (hP : HP V G S H) (hS : va_S (AG G s.heap.size) s.heap H locs) (hW : WT G S) {v : Option Nat} {w : Value} (hw : w = va_rf v) (hdg : decode cc pc = .ok (.areturn, 1)) : W p l e R s m args below meth c H locs cells slots (MQ below (QQ V G S v s.heap.size) args s cells slots (AG G s.heap.size)) (F0 m pc ls [w]) := by
  subst hw
  exact W.aret C.1 C.2.1 C.2.2.1 (Or.inl ⟨n, rfl⟩) (by cases v <;> simp [va_rf]) (fun t ht hw => ⟨⟨v, (), rfl, rfl, by rw [ht]; exact hP, hW⟩, hS.F ht⟩) hS.2.2 hdg C.2.2.2.2.2.2.2.1
-- calls
theorem ag_in {H : Heap} (hS : va_S (AG G s.heap.size) s.heap H locs) : ∀ q, AG G H.size q → AG G s.heap.size q := fun q h => h.elim Or.inl (fun h => Or.inr (Nat.le_trans hS.1 h))
theorem x_pre (C : CX p s m args meth c own cc nL ret V G) (hP : HP V G S H) (hS : va_S (AG G s.heap.size) s.heap H locs) (av : List Value) : ∀ U : State, U.heap = H → s.WarmedH U.vm → PRE V G S H.size av av.toArray U := by
  intro U hU hW
  obtain ⟨-, -, -, -, -, -, hK, -, hT, -, hnw⟩ := C
  refine ⟨rfl, by rw [hU], by rw [hU]; exact hP, va_K.moved hW.alike hK, ?_, nx_warm hW hnw⟩
  rw [hU]
  exact str_moved hW.alike (fun q hq => vk_R.warm hW (hT.1.2 q hq)) (str_kept hT hS.2.1 (ag_in hS))
theorem good_c {y : MethodName} {cc : ByteArray} {nL : Nat} {ret : Option FieldType} {n : Nat} (k : KM y cc nL ret n) : GoodIn TB (.code y cc nL ret :: TB) := fun w hw => by
  rcases List.mem_cons.mp hw with rfl | h
  · exact tb_all _ k.1
  · exact tb_all _ h
variable {y : MethodName} {bytes : ByteArray} {maxL n fr lo : Nat} {rty : Option FieldType} {As st : List Value}
theorem x_callB (C : CX p s m args meth c own cc nL ret V G) (hk : KM y bytes maxL rty n) (hl : Cond.methodLink own idx y ∈ TB) (hR : fr + 1 ≤ R.frames ∧ 8 + (maxL + 11) + lo ≤ R.locals) : CallB R s args own idx y bytes maxL rty (.code y bytes maxL rty :: TB) (RM fr lo) 0 0 n :=
  callB_of n C.2.2.2.2.2.1 (good_c hk) rfl rfl rfl (C.2.2.2.2.2.1 _ hk.2.1) (C.2.2.2.2.2.1 _ hl) hk.2.2 hR
theorem x_callN {host : String} (C : CX p s m args meth c own cc nL ret V G) (hk : KM y bytes maxL rty n) (hl : Cond.methodLinkNest own idx y host ∈ NB) (hR : fr + 1 ≤ R.frames ∧ 8 + (maxL + 11) + lo ≤ R.locals) : va_CN R s args own idx y host bytes maxL rty (.code y bytes maxL rty :: TB) (RM fr lo) 0 0 n :=
  va_cnB n C.2.2.2.2.2.1 (good_c hk) rfl rfl rfl (C.2.2.2.2.2.2.2.2.2.2.1 _ hl) (C.2.2.2.2.2.1 _ hk.2.1) hk.2.2 hR
theorem x_runV {Qc : Array Value → State → Outcome → State → Prop} {free : Addr → Prop} (C : CX p s m args meth c own cc nL ret V G) (hP : HP V G S H) (hS : va_S (AG G s.heap.size) s.heap H locs) (hM : Met l y (.code y bytes maxL rty :: TB) (RM fr lo) (PRE V G S H.size (.ref a :: As)) Qc 0 0 free) (ha : a ∈ G.1) (hka : G.2.1 a = ci) (hci : ci < 13) (hc : vwCl[ci]? = some (RC, T, N)) (hcy : y.cls = RC) (hk : KM y bytes maxL rty n) (hi : Cond.instanceMethod y ∈ TB ∧ Cond.selects RC y y ∈ TB) (hl : LKM own idx y) (hR : fr + 1 ≤ R.frames ∧ 8 + (maxL + 11) + lo ≤ R.locals) (hn : As.length = n) (hsize : ls.size = nL) (hst : st = As.reverse ++ .ref a :: rest) (hrest : (rest.map fun v => v.category).sum ≤ 8) (hf : cells ≤ R.cells ∧ slots ≤ R.slots) (hdg : decode cc pc = .ok (.invokevirtual idx, 3)) :
    va_Run p l e R s m args below meth c H locs cells slots 0 0 (F0 m pc ls st) rest (Qc (Value.ref a :: As).toArray) free := by
  obtain ⟨q0, hq⟩ := mk_get (cy := V.2.1) (S := S) ha
  have hfix : CallFix p m c cc nL s args TB own := ⟨C.1, C.2.1, C.2.2.2.1, C.2.2.2.2.1, C.2.2.2.2.2.1⟩
  have hrecv := va_recv C.2.2.2.2.2.2.1 hP hc (hq.trans (congrArg (fun z => some (a, z)) (cell_obj (cy := V.2.1) (S := S) hka hci)))
  have hpre : PreV s H RC a (PRE V G S H.size (.ref a :: As)) As := ⟨pre_blind, hrecv, x_pre C hP hS (.ref a :: As)⟩
  have hs2 : Cond.selects RC y y ∈ TB := hi.2
  rcases hl with hl | ⟨host, hl⟩
  · exact va_runV hfix hM ⟨x_callB C hk hl hR, C.2.2.2.2.2.1 _ hi.1, C.2.2.2.2.2.1 _ hs2⟩ hpre rfl hn hsize hst (lv_room hrest) hdg hf
  · exact va_runVN hfix hM ⟨x_callN C hk hl hR, C.2.2.2.2.2.1 _ hi.1, C.2.2.2.2.2.1 _ hs2⟩ hpre rfl hn hsize hst (lv_room hrest) hdg hf
theorem x_runS {Qc : Array Value → State → Outcome → State → Prop} {free : Addr → Prop} (C : CX p s m args meth c own cc nL ret V G) (hP : HP V G S H) (hS : va_S (AG G s.heap.size) s.heap H locs) (hM : Met l y (.code y bytes maxL rty :: TB) (RM fr lo) (PRE V G S H.size As) Qc 0 0 free) (hk : KM y bytes maxL rty n) (hi : Cond.static y ∈ TB) (hl : LKM own idx y) (hR : fr + 1 ≤ R.frames ∧ 8 + (maxL + 11) + lo ≤ R.locals) (hn : As.length = n) (hsize : ls.size = nL) (hst : st = As.reverse ++ rest) (hrest : (rest.map fun v => v.category).sum ≤ 8) (hf : cells ≤ R.cells ∧ slots ≤ R.slots) (hdg : decode cc pc = .ok (.invokestatic idx, 3)) :
    va_Run p l e R s m args below meth c H locs cells slots 0 0 (F0 m pc ls st) rest (Qc As.toArray) free := by
  have hfix : CallFix p m c cc nL s args TB own := ⟨C.1, C.2.1, C.2.2.2.1, C.2.2.2.2.1, C.2.2.2.2.2.1⟩
  have hpre : PreS s H (PRE V G S H.size As) As := ⟨pre_blind, x_pre C hP hS As⟩
  rcases hl with hl | ⟨host, hl⟩
  · exact va_runS hfix hM ⟨x_callB C hk hl hR, C.2.2.2.2.2.1 _ hi⟩ hpre rfl hn hsize hst (lv_room hrest) hdg hf
  · exact va_runSN hfix hM ⟨x_callN C hk hl hR, C.2.2.2.2.2.1 _ hi, trivial⟩ hpre rfl hn hsize hst (lv_room hrest) hdg hf
theorem x_aft_i {r : Int32} {av : Array Value} (hr : va_Run p l e R s m args below meth c H locs cells slots 0 0 (F0 m pc ls st) rest (QI V G S1 r H.size av) (AG G H.size)) (hS : va_S (AG G s.heap.size) s.heap H locs)
    (kk : ∀ (H1 : Heap) (locs1 : List Loc), HP V G S1 H1 → va_S (AG G s.heap.size) s.heap H1 locs1 → WT G S1 → W p l e R s m args below meth c H1 locs1 cells slots Q (F0 m (pc + 3) ls (.int r :: rest))) : W p l e R s m args below meth c H locs cells slots Q (F0 m pc ls st) :=
  va_calli hr hS (fun q _ h => ag_in hS q h) (fun q h => ag_in hS q h) (fun r' u t H1 locs1 ht _ hp hB _ _ hS1 => by subst hp; exact kk H1 locs1 (by rw [← ht]; exact hB.1) hS1 hB.2)
theorem x_aft_l {r : Int64} {av : Array Value} (hr : va_Run p l e R s m args below meth c H locs cells slots 0 0 (F0 m pc ls st) rest (QJ V G S1 r H.size av) (AG G H.size)) (hS : va_S (AG G s.heap.size) s.heap H locs)
    (kk : ∀ (H1 : Heap) (locs1 : List Loc), HP V G S1 H1 → va_S (AG G s.heap.size) s.heap H1 locs1 → WT G S1 → W p l e R s m args below meth c H1 locs1 cells slots Q (F0 m (pc + 3) ls (.long r :: rest))) : W p l e R s m args below meth c H locs cells slots Q (F0 m pc ls st) :=
  va_calll hr hS (fun q _ h => ag_in hS q h) (fun q h => ag_in hS q h) (fun r' u t H1 locs1 ht _ hp hB _ _ hS1 => by subst hp; exact kk H1 locs1 (by rw [← ht]; exact hB.1) hS1 hB.2)
theorem x_aft_v {av : Array Value} (hr : va_Run p l e R s m args below meth c H locs cells slots 0 0 (F0 m pc ls st) rest (QV V G S1 H.size av) (AG G H.size)) (hS : va_S (AG G s.heap.size) s.heap H locs)
    (kk : ∀ (H1 : Heap) (locs1 : List Loc), HP V G S1 H1 → va_S (AG G s.heap.size) s.heap H1 locs1 → WT G S1 → W p l e R s m args below meth c H1 locs1 cells slots Q (F0 m (pc + 3) ls rest)) : W p l e R s m args below meth c H locs cells slots Q (F0 m pc ls st) :=
  va_callv hr hS (fun q _ h => ag_in hS q h) (fun q h => ag_in hS q h) (fun u t H1 locs1 ht _ _ hB _ _ hS1 => kk H1 locs1 (by rw [← ht]; exact hB.1) hS1 hB.2)
theorem x_aft_q {r : Option Nat} {av : Array Value} (hr : va_Run p l e R s m args below meth c H locs cells slots 0 0 (F0 m pc ls st) rest (QQ V G S1 r H.size av) (AG G H.size)) (hS : va_S (AG G s.heap.size) s.heap H locs)
    (kk : ∀ (H1 : Heap) (locs1 : List Loc), HP V G S1 H1 → va_S (AG G s.heap.size) s.heap H1 locs1 → WT G S1 → W p l e R s m args below meth c H1 locs1 cells slots Q (F0 m (pc + 3) ls (va_rf r :: rest))) : W p l e R s m args below meth c H locs cells slots Q (F0 m pc ls st) :=
  va_callq hr hS (fun q _ h => ag_in hS q h) (fun q h => ag_in hS q h) (fun r' u t H1 locs1 ht _ hp hB _ _ hS1 => by subst hp; exact kk H1 locs1 (by rw [← ht]; exact hB.1) hS1 hB.2)
end ROWS
/-- a method's entry -/
theorem x_in {l : Launch} {y : MethodName} {cc : ByteArray} {nL : Nat} {ret : Option FieldType} {rm : Room} {V : EV} {G : GS} {S : HS} {sz : Nat} {av : List Value} {Qc : Array Value → State → Outcome → State → Prop} {mc ms : Nat} {free : Addr → Prop} (own : String) (hown : y.cls = own) (hy : plainName y.cls = true) (hN : G.1.Nodup) (hlen : (lg_sl av).length ≤ nL)
    (kk : ∀ (p : Program) (e : Env) (s : State) (m : MethodId) (args : Array Value) (below : List Frame) (meth : Method) (c : Code) (ls : Array Slot), s.heap.size = sz → args = av.toArray → meth.name = y.name → CX p s m args meth c own cc nL ret V G → HP V G S s.heap → va_S (AG G s.heap.size) s.heap s.heap [] → lv_has ls nL (lv_args 0 av) → W p l e rm s m args below meth c s.heap [] 0 0 (MQ below Qc args s mc ms free) (F0 m 0 ls [])) :
    Met l y (.code y cc nL ret :: TB) rm (PRE V G S sz av) Qc mc ms free := by
  refine Met.ofW (cc := cc) (maxL := nL) (ret := ret) hy rfl ?_
  intro p e s m args below meth c s₁ B hml hv
  obtain ⟨rfl, hsz, hP, hK, hT, hnw⟩ := hv
  have hts := atoms_spec (ws := .code y cc nL ret :: TB) B.pre
  have ho : s.vm.findClass own = some m.cls := hown ▸ findClass_of_methodNamed B.named
  subst hsz
  have hl := lv_entry av hlen
  rw [lg_entry_eq]
  exact kk p e s m _ below meth c _ rfl rfl (name_of_methodNamed B.named B.method).1 ⟨B.exec, B.bytes, B.returns, hml, ho, fun w hw => hts w (List.mem_cons_of_mem _ hw), hK, B.notSynchronized, hT, hN, hnw⟩ hP va_S.rf hl
