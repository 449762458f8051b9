section
/- a new form -/
def x2I (k e fr : Int32) : Int32 := if k = (3 : Int32) then (1 : Int32) <<< ((e + fr) &&& 31) else (((1 : Int32) <<< (e &&& 31)) - 1) <<< (fr &&& 31)
def x2N (k e fr : Int32) : Int32 := if k = (3 : Int32) then -1 else x2I k e fr ||| ((1 : Int32) <<< ((fr - 1) &&& 31))
theorem x2_num : ∀ k : Fin 4, ∀ e : Fin 9, ∀ fr : Fin 19, 2 ≤ e.val → 1 ≤ fr.val → ((1 : Int32) <<< ((ii (e.val : Nat) - 1) &&& 31)) - 1 = ii (nB e.val) ∧ (1 : Int32) <<< ((ii (e.val : Nat) + ii (fr.val : Nat)) &&& 31) = ii (2 ^ (e.val + fr.val) : Nat) ∧ x2I (ii (k.val : Nat)) (ii (e.val : Nat)) (ii (fr.val : Nat)) = ii (nInf k.val e.val fr.val) ∧ x2I (ii (k.val : Nat)) (ii (e.val : Nat)) (ii (fr.val : Nat)) - 1 = ii (nInf k.val e.val fr.val - 1 : Nat) ∧ x2N (ii (k.val : Nat)) (ii (e.val : Nat)) (ii (fr.val : Nat)) = ii (nNaN k.val e.val fr.val) := by decide +kernel
theorem x2_init (S : HS) (q : Nat) (k e fr : Int32) : (∀ f p, ¬ (p = q ∧ 200 ≤ f ∧ f ≤ 207) → gI (s_X2_init q k e fr S) f p = gI S f p) ∧ (s_X2_init q k e fr S).2 = S.2 ∧ gI (s_X2_init q k e fr S) 200 q = k ∧ gI (s_X2_init q k e fr S) 201 q = e ∧ gI (s_X2_init q k e fr S) 202 q = fr ∧ gI (s_X2_init q k e fr S) 203 q = ((1 : Int32) <<< ((e - 1) &&& 31)) - 1 ∧ gI (s_X2_init q k e fr S) 204 q = (1 : Int32) <<< ((e + fr) &&& 31) ∧ gI (s_X2_init q k e fr S) 205 q = x2I k e fr ∧ gI (s_X2_init q k e fr S) 206 q = x2I k e fr - 1 ∧ gI (s_X2_init q k e fr S) 207 q = x2N k e fr := by
  have key : ∀ (S5 : HS) (I : Int32), let S8 := uI (uI S5 205 q I) 206 q (I - 1); s_X2_init_J59 q k fr q I S5 = uI S8 207 q (if k = (3 : Int32) then -1 else I ||| ((1 : Int32) <<< ((fr - 1) &&& 31))) := by
    intro S5 I S8
    unfold s_X2_init_J59 s_X2_init_J92
    simp only [bnd_def]
    have e1 : gI (uI S5 205 q I) 205 q = I := by rw [gI_uI, if_pos ⟨rfl, rfl⟩]
    have e2 : gI (uI (uI S5 205 q I) 206 q (I - 1)) 205 q = I := by rw [gI_uI, if_neg (by omega)]; exact e1
    rw [e1, e2]
    by_cases w : k = (3 : Int32)
    · rw [if_pos w, if_pos w]
    · rw [if_neg w, if_neg w]
  have hS : s_X2_init q k e fr S = uI (uI (uI (uI (uI (uI (uI (uI S 200 q k) 201 q e) 202 q fr) 203 q (((1 : Int32) <<< ((e - 1) &&& 31)) - 1)) 204 q ((1 : Int32) <<< ((e + fr) &&& 31))) 205 q (x2I k e fr)) 206 q (x2I k e fr - 1)) 207 q (x2N k e fr) := by
    unfold s_X2_init
    simp only [bnd_def]
    have e4 : gI (uI (uI (uI (uI (uI S 200 q k) 201 q e) 202 q fr) 203 q (((1 : Int32) <<< ((e - 1) &&& 31)) - 1)) 204 q ((1 : Int32) <<< ((e + fr) &&& 31))) 204 q = (1 : Int32) <<< ((e + fr) &&& 31) := by rw [gI_uI, if_pos ⟨rfl, rfl⟩]
    rw [e4]
    by_cases w : k = (3 : Int32)
    · rw [if_pos w, key]
      have : x2I k e fr = (1 : Int32) <<< ((e + fr) &&& 31) := if_pos w
      unfold x2N
      rw [this]
    · rw [if_neg w, key]
      have : x2I k e fr = (((1 : Int32) <<< (e &&& 31)) - 1) <<< (fr &&& 31) := if_neg w
      unfold x2N
      rw [this]
  rw [hS]
  refine ⟨fun f p h => ?_, rfl, ?_, ?_, ?_, ?_, ?_, ?_, ?_, ?_⟩
  · rw [gI_uI, if_neg (by omega), gI_uI, if_neg (by omega), gI_uI, if_neg (by omega), gI_uI, if_neg (by omega), gI_uI, if_neg (by omega), gI_uI, if_neg (by omega), gI_uI, if_neg (by omega), gI_uI, if_neg (by omega)]
  · rw [gI_uI, if_neg (by omega), gI_uI, if_neg (by omega), gI_uI, if_neg (by omega), gI_uI, if_neg (by omega), gI_uI, if_neg (by omega), gI_uI, if_neg (by omega), gI_uI, if_neg (by omega), gI_uI, if_pos ⟨rfl, rfl⟩]
  · rw [gI_uI, if_neg (by omega), gI_uI, if_neg (by omega), gI_uI, if_neg (by omega), gI_uI, if_neg (by omega), gI_uI, if_neg (by omega), gI_uI, if_neg (by omega), gI_uI, if_pos ⟨rfl, rfl⟩]
  · rw [gI_uI, if_neg (by omega), gI_uI, if_neg (by omega), gI_uI, if_neg (by omega), gI_uI, if_neg (by omega), gI_uI, if_neg (by omega), gI_uI, if_pos ⟨rfl, rfl⟩]
  · rw [gI_uI, if_neg (by omega), gI_uI, if_neg (by omega), gI_uI, if_neg (by omega), gI_uI, if_neg (by omega), gI_uI, if_pos ⟨rfl, rfl⟩]
  · rw [gI_uI, if_neg (by omega), gI_uI, if_neg (by omega), gI_uI, if_neg (by omega), gI_uI, if_pos ⟨rfl, rfl⟩]
  · rw [gI_uI, if_neg (by omega), gI_uI, if_neg (by omega), gI_uI, if_pos ⟨rfl, rfl⟩]
  · rw [gI_uI, if_neg (by omega), gI_uI, if_pos ⟨rfl, rfl⟩]
  · rw [gI_uI, if_pos ⟨rfl, rfl⟩]
theorem x2_FM (S : HS) (q : Nat) {k e fr : Nat} (h : FO k e fr) : FM (s_X2_init q (ii k) (ii e) (ii fr) S) q k e fr := by
  obtain ⟨h1, h2, h3, h4, h5⟩ := h
  obtain ⟨a1, a2, b0, b1, b2', b3, b4, b5, b6, b7⟩ := x2_init S q (ii k) (ii e) (ii fr)
  obtain ⟨n1, n2, n3, n4, n5⟩ := x2_num ⟨k, by omega⟩ ⟨e, by omega⟩ ⟨fr, by omega⟩ h2 h4
  exact ⟨b0, b1, b2', b3.trans n1, b4.trans n2, b5.trans n3, b6.trans n4, b7.trans n5⟩
end
