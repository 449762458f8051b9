section
/- what the model holds after it has rounded -/
def YR (S' : HS) (a : Nat) (R : Nat × Nat × Int × Bool × Bool) : Prop := gI S' 1220 a = ii R.2.1 ∧ gI S' 1221 a = 1 ∧ gI S' 1222 a = b2 R.2.2.2.1 ∧ gI S' 1223 a = b2 R.2.2.2.2 ∧ gI S' 1224 a = ii R.2.2.1
theorem ifb (w : Bool) {α : Type} (G : Int32 → α) : (if b2 w = 0 then G 0 else G 1) = G (b2 w) := by cases w <;> rfl
theorem ifb2 (g r : Bool) {α : Type} (G : Int32 → α) : (if b2 g = 0 then (if b2 r = 0 then G 0 else G 1) else G 1) = G (b2 (g || r)) := by cases g <;> cases r <;> rfl
section ROUNDS2
variable {N : Nat → Nat} {F a u fa pi co f k e fr mode : Nat} {S : HS} {L : Bool → Bool → Bool → Bool → Bool} {m : Bool}
theorem y_J210 (hF : 1010 ≤ F) (hM : MR N S a u fa pi co L) (h : MU N S a u f k e fr) (ho : FO k e fr) (hm : mode < 6) (tiny more g r : Bool) {kept told : Nat} {la : Int} (hK : kept < 2 ^ (fr + 1)) (hl1 : 1 - nB e - fr ≤ la) (hl2 : la ≤ 1500) (hlow : kept < 2 ^ fr → la = 1 - nB e - fr) (htl : tiny = true → la = 1 - nB e - fr ∧ kept < 2 ^ fr)
    (ht : told = (la - (1 - nB e - fr)).toNat * 2 ^ fr + kept + (if more then 1 else 0)) (g21 : gI S 1221 a = 1) (g22 : gI S 1222 a = b2 g) (g23 : gI S 1223 a = b2 r) (g20 : gI S 1220 a = ii (if (g || r) = true then (if tiny = true then 12 else 8) else 0 : Nat)) (g24 : gI S 1224 a = ii (if (g || r) = true then (if more = true then 1 else -1) else 0)) :
    ∃ S', s_X12_rounds_J210 N F a (ii f) (b2 m) (ii mode) (ii fr) (b2 tiny) (ii la) (jj (kept + (if more then 1 else 0) : Nat)) (ii (nSg e fr m)) S = some (ii (rEnd k e fr L mode m tiny more told g r).1, S') ∧ YF a fa pi S S' ∧ YR S' a (rEnd k e fr L mode m tiny more told g r) := by
  have hk := ho.1
  have hfr := fr_le ho
  have hi := nInf_fr ho
  have h40 : ∃ S', s_X12_rounds_J240 N F a (ii f) (b2 m) (ii mode) (ii fr) (ii la) (jj (kept + (if more then 1 else 0) : Nat)) (ii (nSg e fr m)) S = some (ii (if nInf k e fr ≤ told then nSg e fr m + (if nSat k L mode m = true then nInf k e fr - 1 else nInf k e fr) else nSg e fr m + told : Nat), S') ∧ YF a fa pi S S' ∧ (nInf k e fr ≤ told → gI S' 1220 a = 10 ∧ gI S' 1224 a = ii (if nSat k L mode m = true then -1 else 1)) ∧ (¬ nInf k e fr ≤ told → S' = S) ∧ ∀ g, 1221 ≤ g → g ≤ 1223 → gI S' g a = gI S g a := by
    refine y_J240 hF hM h ho hm (by split <;> omega) hl1 (by omega) ?_ (by rw [ht]; omega)
    intro q
    exact hlow (by omega)
  have fin : ¬ (tiny = true ∧ k = 1) → ∃ S', s_X12_rounds_J240 N F a (ii f) (b2 m) (ii mode) (ii fr) (ii la) (jj (kept + (if more then 1 else 0) : Nat)) (ii (nSg e fr m)) S = some (ii (rEnd k e fr L mode m tiny more told g r).1, S') ∧ YF a fa pi S S' ∧ YR S' a (rEnd k e fr L mode m tiny more told g r) := by
    intro hnf
    obtain ⟨S', r1, r2, r3, r4, r5⟩ := h40
    refine ⟨S', ?_, r2, ?_⟩
    · rw [r1]
      unfold rEnd
      by_cases hov : nInf k e fr ≤ told
      · simp only [if_pos hov]
        unfold nSat
        split <;> rfl
      · simp only [if_neg hov, if_neg hnf]
        split <;> rfl
    · unfold YR rEnd
      rw [r5 1221 (by omega) (by omega), r5 1222 (by omega) (by omega), r5 1223 (by omega) (by omega), g21, g22, g23]
      by_cases hov : nInf k e fr ≤ told
      · obtain ⟨q1, q2⟩ := r3 hov
        rw [q1, q2]
        simp only [if_pos hov]
        unfold nSat
        split
        · exact ⟨by first | rfl | trivial, by first | rfl | trivial, by first | rfl | trivial, by first | rfl | trivial, by first | rfl | trivial⟩
        · exact ⟨by first | rfl | trivial, by first | rfl | trivial, by first | rfl | trivial, by first | rfl | trivial, by first | rfl | trivial⟩
      · rw [r4 hov, g20, g24]
        simp only [if_neg hov, if_neg hnf]
        by_cases hgr : (g || r) = true
        · simp only [if_pos hgr]; exact ⟨trivial, trivial, trivial, trivial, trivial⟩
        · simp only [if_neg hgr]; exact ⟨trivial, trivial, trivial, trivial, trivial⟩
  unfold s_X12_rounds_J210
  simp only [b2_0]
  by_cases hty : tiny = false
  · rw [if_pos hty]
    exact fin (by simp [hty])
  · rw [if_neg hty, y_kindOf h, bd1_some]
    simp (disch := omega) only [k1, ii_eq]
    rw [Bool.not_eq_false] at hty
    by_cases hk1 : k = 1
    · rw [if_pos (by omega), bnd_def, bnd_def]
      obtain ⟨q1, q2⟩ := htl hty
      have hov : ¬ nInf k e fr ≤ told := by
        rw [ht, q1]
        simp
        split <;> omega
      refine ⟨_, by rw [show rEnd k e fr L mode m tiny more told g r = (nSg e fr m, 12, -1, g, r) by unfold rEnd; rw [if_neg hov, if_pos ⟨hty, hk1⟩]], ((YF.refl a fa pi S).uI 1220 _ (by omega)).uI 1224 _ (by omega), ?_⟩
      rw [show rEnd k e fr L mode m tiny more told g r = (nSg e fr m, 12, -1, g, r) by unfold rEnd; rw [if_neg hov, if_pos ⟨hty, hk1⟩]]
      exact ⟨by simp [gI_uI]; rfl, by simp [gI_uI]; exact g21, by simp [gI_uI]; exact g22, by simp [gI_uI]; exact g23, by simp [gI_uI]; rfl⟩
    · rw [if_neg (by omega)]
      exact fin (fun q => hk1 q.2)
theorem y_rounds (hF : 1010 ≤ F) (hM : MR N S a u fa pi co L) (h : MU N S a u f k e fr) (ho : FO k e fr) (hm : mode < 6) {n : Nat} {pl : Int} (w : Bool) (hn0 : 0 < n) (hn : n < 4611686018427387904) (hp1 : -1000 ≤ pl) (hp2 : pl ≤ 1000) :
    ∃ S', s_X12_rounds N F a (ii f) (b2 m) (jj n) (ii pl) (b2 w) (ii mode) S = some (ii (rndN k e fr L mode m n pl w).1, S') ∧ YF a fa pi S S' ∧ YR S' a (rndN k e fr L mode m n pl w) := by
  have hlog : n.log2 ≤ 61 := by have := (Nat.log2_lt (n := n) (k := 62) (by omega)).mpr (by omega); omega
  have hbl : nBl n = n.log2 + 1 := by unfold nBl; rw [if_neg (by omega)]
  have hB := nB_le ho
  have hfr := fr_le ho
  have hfo := ho.2.2.2
  have hla := nLast_ge e fr (n.log2 + pl)
  have hla2 : nLast e fr (n.log2 + pl) ≤ 1200 ∧ 1 - nB e - fr ≤ nLast e fr (n.log2 + pl) := by
    unfold nLast
    split <;> omega
  have hb := hM.1
  obtain ⟨b1, b2', b3, b4, b5, b6, b7, b8, b9, b10, b11, b12, b13⟩ := hb
  unfold s_X12_rounds
  rw [y_fracOf h, bd1_some, y_biasOf h ho, bd1_some, bnd_def, y_len (by omega) hn, bd1_some, bnd_def, bd1_some, hbl, k1, ii_sub, ii_sub, ii_sub, ii_add]
  have e1 : ((n.log2 + 1 : Nat) : Int) - 1 + pl = n.log2 + pl := by omega
  rw [e1]
  have e3 : ∀ (G : Int32 → Option (Int32 × HS)), (if ii (1 - nB e) ≤ ii (n.log2 + pl) then G 0 else G (ii 1)) = G (b2 (decide ((n.log2 : Int) + pl < 1 - nB e))) := by
    intro G
    simp only [ii_le (a := 1 - nB e) (b := (n.log2 : Int) + pl) (by omega) (by omega) (by omega) (by omega)]
    by_cases h : (n.log2 : Int) + pl < 1 - nB e
    · rw [if_neg (by omega), decide_eq_true h]; rfl
    · rw [if_pos (by omega), decide_eq_false h]; rfl
  rw [e3 (fun x => s_X12_rounds_J47 N F a (ii f) (b2 m) (jj n) (ii pl) (b2 w) (ii mode) (ii fr) (ii (1 - nB e - fr)) (ii (n.log2 + pl)) x S)]
  unfold s_X12_rounds_J47
  rw [ii_sub]
  have e4 : ∀ (G : Int32 → Option (Int32 × HS)), (if ii ((n.log2 : Int) + pl - fr) ≤ ii (1 - nB e - fr) then G (ii (1 - nB e - fr)) else G (ii ((n.log2 : Int) + pl - fr))) = G (ii (nLast e fr (n.log2 + pl))) := by
    intro G
    simp only [ii_le (a := (n.log2 : Int) + pl - fr) (b := 1 - nB e - fr) (by omega) (by omega) (by omega) (by omega)]
    unfold nLast
    by_cases h : (n.log2 : Int) + pl - fr ≤ 1 - nB e - fr
    · rw [if_pos h]
      by_cases h2 : (n.log2 : Int) + pl - fr < 1 - nB e - fr
      · rw [if_pos h2]
      · rw [if_neg h2]; congr 2; omega
    · rw [if_neg h, if_neg (by omega)]
  rw [e4 (fun x => s_X12_rounds_J69 N F a (ii f) (b2 m) (jj n) (ii pl) (b2 w) (ii mode) (ii fr) (b2 (decide ((n.log2 : Int) + pl < 1 - nB e))) x S)]
  unfold s_X12_rounds_J69
  rw [ii_sub]
  obtain ⟨S6, c1, c6, c7, cA⟩ := @y_cuts S a fa pi n (nLast e fr (n.log2 + pl) - pl) w hn (by omega) (by omega)
  rw [c1, bd2_some, c6, c7]
  have hk : (rCut n (nLast e fr (n.log2 + pl) - pl) w).1 < 2 ^ (fr + 1) := by
    have : (rCut n (nLast e fr (n.log2 + pl) - pl) w).1 = (rCut n (nLast e fr (n.log2 + pl) - pl) false).1 := by
      unfold rCut; split <;> rfl
    rw [this]; exact kept_lt hn0 (by omega)
  have hk2 : (rCut n (nLast e fr (n.log2 + pl) - pl) w).1 < 2 ^ fr → nLast e fr (n.log2 + pl) = 1 - nB e - fr := by
    intro q
    by_cases hq : (n.log2 : Int) + pl - fr < 1 - nB e - fr
    · unfold nLast; rw [if_pos hq]
    · exfalso
      have : nLast e fr (n.log2 + pl) = (n.log2 : Int) + pl - fr := by unfold nLast; rw [if_neg hq]
      have := kept_ge (fr := fr) (d := nLast e fr (n.log2 + pl) - pl) (b := w) hn0 (by omega)
      omega
  have hk3 : (n.log2 : Int) + pl < 1 - nB e → nLast e fr (n.log2 + pl) = 1 - nB e - fr ∧ (rCut n (nLast e fr (n.log2 + pl) - pl) w).1 < 2 ^ fr := by
    intro q
    have hl : nLast e fr (n.log2 + pl) = 1 - nB e - fr := by unfold nLast; rw [if_pos (by omega)]
    refine ⟨hl, ?_⟩
    rw [hl]
    have h2 : n < 2 ^ (n.log2 + 1) := Nat.lt_log2_self
    unfold rCut
    by_cases hd : 1 - nB e - fr - pl ≤ 0
    · rw [if_pos hd]
      show n * 2 ^ (-(1 - nB e - fr - pl)).toNat < 2 ^ fr
      calc n * 2 ^ (-(1 - nB e - fr - pl)).toNat < 2 ^ (n.log2 + 1) * 2 ^ (-(1 - nB e - fr - pl)).toNat := Nat.mul_lt_mul_of_pos_right h2 (Nat.two_pow_pos _)
        _ = 2 ^ (n.log2 + 1 + (-(1 - nB e - fr - pl)).toNat) := by rw [← Nat.pow_add]
        _ ≤ 2 ^ fr := pow_mono (by omega)
    · rw [if_neg hd]
      show n / 2 ^ (1 - nB e - fr - pl).toNat < 2 ^ fr
      rw [Nat.div_lt_iff_lt_mul (Nat.two_pow_pos _), ← Nat.pow_add]
      exact Nat.lt_of_lt_of_le h2 (pow_mono (by omega))
  unfold rndN
  rw [rFin_eq]
  have hM6 := hM.mono cA
  have h6 := h.mono cA b9 b10
  generalize hc : rCut n (nLast e fr (n.log2 + pl) - pl) w = c at *
  obtain ⟨kept, g, r⟩ := c
  dsimp only at *
  have hkept : kept < 524288 := Nat.lt_of_lt_of_le hk (Nat.le_trans (pow_mono (show fr + 1 ≤ 19 by omega)) (by decide))
  rw [ifb2 g r (fun x => s_X12_rounds_J104 N F a (ii f) (b2 m) (ii mode) (ii fr) (b2 (decide ((n.log2 : Int) + pl < 1 - nB e))) (ii (nLast e fr (n.log2 + pl))) (jj kept) x S6)]
  unfold s_X12_rounds_J104
  have e5 : ∀ (G : Int32 → Option (Int32 × HS)), (if lg_cmp (jj kept &&& 1) 1 = 0 then G 1 else G 0) = G (b2 (decide (kept % 2 = 1))) := by
    intro G
    rw [show (1 : Int64) = jj (1 : Nat) from rfl, jj_and, Nat.and_one_is_mod]
    have hm2 : kept % 2 < 2 := Nat.mod_lt _ (by decide)
    generalize kept % 2 = q at *
    rw [lg_c (by omega) (by omega) (by omega) (by omega)]
    have : q = 0 ∨ q = 1 := by omega
    rcases this with h | h <;> subst h <;> rfl
  rw [e5 (fun x => s_X12_rounds_J124 N F a (ii f) (b2 m) (ii mode) (ii fr) (b2 (decide ((n.log2 : Int) + pl < 1 - nB e))) (ii (nLast e fr (n.log2 + pl))) (jj kept) (b2 (g || r)) a (ii mode) (b2 m) x S6)]
  unfold s_X12_rounds_J124
  obtain ⟨S7, u1, u2, u3⟩ := y_isUp hF hM6 hm m (decide (kept % 2 = 1)) g r c6 c7
  rw [u1, bd2_some]
  have hM7 := hM6.mono u2
  have h7 := h6.mono u2 b9 b10
  have d6 : gI S7 1222 a = b2 g := by rw [gI_of u3]; exact c6
  have d7 : gI S7 1223 a = b2 r := by rw [gI_of u3]; exact c7
  generalize hmo : gUp L mode m (decide (kept % 2 = 1)) g r = more at *
  have e6 : ∀ (G : Int64 → Option (Int32 × HS)), (if b2 more = 0 then G 0 else G 1) = G (jj (if more then 1 else 0 : Nat)) := by
    intro G; cases more <;> rfl
  rw [e6 (fun x => s_X12_rounds_J141 N F a (ii f) (b2 m) (ii mode) (ii fr) (b2 (decide ((n.log2 : Int) + pl < 1 - nB e))) (ii (nLast e fr (n.log2 + pl))) (b2 (g || r)) (b2 more) (jj kept) x S7)]
  unfold s_X12_rounds_J141
  rw [jj_add, bnd_def, bnd_def, ← Int.natCast_add]
  generalize htd : decide ((n.log2 : Int) + pl < 1 - nB e) = tiny at *
  generalize hlast : nLast e fr (n.log2 + pl) = la at *
  have e7 : ∀ (G : Int32 → Option (Int32 × HS)), (if b2 (g || r) = 0 then G 0 else if b2 tiny = 0 then G 8 else G 12) = G (ii (if (g || r) = true then (if tiny = true then 12 else 8) else 0 : Nat)) := by
    intro G; cases g <;> cases r <;> cases tiny <;> rfl
  rw [e7 (fun x => s_X12_rounds_J171 N F a (ii f) (b2 m) (ii mode) (ii fr) (b2 tiny) (ii la) (jj (kept + (if more then 1 else 0) : Nat)) (b2 (g || r)) (b2 more) a x (uI S7 1221 a 1))]
  unfold s_X12_rounds_J171
  rw [bnd_def]
  have e8 : ∀ (G : Int32 → Option (Int32 × HS)), (if b2 (g || r) = 0 then G 0 else if b2 more = 0 then G (-1) else G 1) = G (ii (if (g || r) = true then (if more = true then 1 else -1) else 0)) := by
    intro G; cases g <;> cases r <;> cases more <;> rfl
  rw [e8 (fun x => s_X12_rounds_J194 N F a (ii f) (b2 m) (ii mode) (ii fr) (b2 tiny) (ii la) (jj (kept + (if more then 1 else 0) : Nat)) a x (uI (uI S7 1221 a 1) 1220 a (ii (if (g || r) = true then (if tiny = true then 12 else 8) else 0 : Nat))))]
  unfold s_X12_rounds_J194
  rw [bnd_def]
  have y9 : YF a fa pi S7 (uI (uI (uI S7 1221 a 1) 1220 a (ii (if (g || r) = true then (if tiny = true then 12 else 8) else 0 : Nat))) 1224 a (ii (if (g || r) = true then (if more = true then 1 else -1) else 0))) := (((YF.refl a fa pi S7).uI 1221 _ (by omega)).uI 1220 _ (by omega)).uI 1224 _ (by omega)
  have g21 : gI (uI (uI (uI S7 1221 a 1) 1220 a (ii (if (g || r) = true then (if tiny = true then 12 else 8) else 0 : Nat))) 1224 a (ii (if (g || r) = true then (if more = true then 1 else -1) else 0))) 1221 a = 1 := by simp [gI_uI]
  have g22 : gI (uI (uI (uI S7 1221 a 1) 1220 a (ii (if (g || r) = true then (if tiny = true then 12 else 8) else 0 : Nat))) 1224 a (ii (if (g || r) = true then (if more = true then 1 else -1) else 0))) 1222 a = b2 g := by simp [gI_uI]; exact d6
  have g23 : gI (uI (uI (uI S7 1221 a 1) 1220 a (ii (if (g || r) = true then (if tiny = true then 12 else 8) else 0 : Nat))) 1224 a (ii (if (g || r) = true then (if more = true then 1 else -1) else 0))) 1223 a = b2 r := by simp [gI_uI]; exact d7
  have g20 : gI (uI (uI (uI S7 1221 a 1) 1220 a (ii (if (g || r) = true then (if tiny = true then 12 else 8) else 0 : Nat))) 1224 a (ii (if (g || r) = true then (if more = true then 1 else -1) else 0))) 1220 a = ii (if (g || r) = true then (if tiny = true then 12 else 8) else 0 : Nat) := by simp [gI_uI]
  have g24 : gI (uI (uI (uI S7 1221 a 1) 1220 a (ii (if (g || r) = true then (if tiny = true then 12 else 8) else 0 : Nat))) 1224 a (ii (if (g || r) = true then (if more = true then 1 else -1) else 0))) 1224 a = ii (if (g || r) = true then (if more = true then 1 else -1) else 0) := by simp [gI_uI]
  generalize (uI (uI (uI S7 1221 a 1) 1220 a (ii (if (g || r) = true then (if tiny = true then 12 else 8) else 0 : Nat))) 1224 a (ii (if (g || r) = true then (if more = true then 1 else -1) else 0))) = S9 at *
  have h9 := h7.mono y9 b9 b10
  rw [y_signOf h9 ho, bd1_some]
  have e9 : ∀ (G : Int32 → Option (Int32 × HS)), (if b2 m = 0 then G 0 else G (ii (2 ^ (e + fr) : Nat))) = G (ii (nSg e fr m)) := by
    intro G; cases m <;> rfl
  rw [e9 (fun x => s_X12_rounds_J210 N F a (ii f) (b2 m) (ii mode) (ii fr) (b2 tiny) (ii la) (jj (kept + (if more then 1 else 0) : Nat)) x S9)]
  obtain ⟨S', r1, r2, r3⟩ := y_J210 (told := (la - (1 - nB e - fr)).toNat * 2 ^ fr + kept + (if more then 1 else 0)) hF (hM7.mono y9) h9 ho hm tiny more g r hk (by omega) (by omega) hk2 (by intro q; subst htd; exact hk3 (of_decide_eq_true q)) rfl g21 g22 g23 g20 g24
  exact ⟨S', r1, ((cA.trans u2).trans y9).trans r2, r3⟩
end ROUNDS2
end
section
/- what the model holds when nothing was rounded -/
def YT (S' : HS) (a : Nat) (fl : Int32) : Prop := gI S' 1220 a = fl ∧ gI S' 1221 a = 0 ∧ gI S' 1222 a = 0 ∧ gI S' 1223 a = 0 ∧ gI S' 1224 a = 0
theorem y_tells {S : HS} {a : Nat} (fa pi : Nat) (b fl : Int32) : ∃ S', s_X12_tells a b fl S = (b, S') ∧ YF a fa pi S S' ∧ YT S' a fl := by
  unfold s_X12_tells
  refine ⟨_, rfl, (((((YF.refl a fa pi S).uI 1220 _ (by omega)).uI 1221 _ (by omega)).uI 1222 _ (by omega)).uI 1223 _ (by omega)).uI 1224 _ (by omega), ?_⟩
  exact ⟨by simp [gI_uI], by simp [gI_uI], by simp [gI_uI], by simp [gI_uI], by simp [gI_uI]⟩
theorem bn2_eq {α β : Type} {o : α × HS} {x : α} {S : HS} (h : o = (x, S)) (k : α → HS → β) : bn2 o k = k x S := by subst h; rfl
section ADDS
variable {N : Nat → Nat} {F a u fa pi co f k e fr mode : Nat} {S : HS} {L : Bool → Bool → Bool → Bool → Bool}
/- the sum of two as the model leaves it: the exact sum rounded, or told if it is nought -/
def YSUM (S' : HS) (a k e fr : Nat) (L : Bool → Bool → Bool → Bool → Bool) (mode : Nat) (Z : Int) (P : Int) (v : Int32) : Prop :=
  (Z = 0 → v = ii (nSg e fr (decide (mode = 2))) ∧ YT S' a 0) ∧ (Z ≠ 0 → v = ii (rndN k e fr L mode (decide (Z < 0)) Z.natAbs P false).1 ∧ YR S' a (rndN k e fr L mode (decide (Z < 0)) Z.natAbs P false))
theorem y_J119 (hF : 1010 ≤ F) (hM : MR N S a u fa pi co L) (h : MU N S a u f k e fr) (ho : FO k e fr) (hm : mode < 6) (rp : Nat → Int32 → Int32 → Int64 → Int32 → Int32 → Int64 → Int32 → Int32 → HS → Option (Int32 × HS)) (A C : Nat) (pa pc : Int) (ma mc : Bool) (hA : 0 < A) (hC : 0 < C) (hA2 : A < 2 ^ 38) (hC2 : C < 2 ^ 38) (hp : pc ≤ pa) (hp1 : -400 ≤ pc) (hp2 : pa ≤ 600) (sh cut : Nat) (hsh : sh = if (pa - pc).toNat < 60 - A.log2 then (pa - pc).toNat else 60 - A.log2) (hcut : cut = (pa - pc).toNat - sh) :
    ∃ S' v, s_X12_adds_J119 N F rp a (ii f) (b2 ma) (ii pa) (b2 mc) (ii mode) (ii sh) (jj (A * 2 ^ sh : Nat)) (jj (C / 2 ^ cut : Nat)) (b2 (decide (C % 2 ^ cut ≠ 0))) S = some (v, S') ∧ YF a fa pi S S' ∧ YSUM S' a k e fr L mode (sN A pa ma C pc mc) (sQ pa pc) v := by
  have hb := hM.1
  obtain ⟨b1, b2', b3, b4, b5, b6, b7, b8, b9, b10, b11, b12, b13⟩ := hb
  obtain ⟨m1, m2, m3⟩ := mod_sum k e fr L mode ho.2.2.2.2 A pa ma C pc mc hA hC hA2 hC2 hp sh cut hsh hcut
  have hCd : C / 2 ^ cut ≤ C := Nat.div_le_self _ _
  have hsh60 : sh ≤ 60 := by split at hsh <;> omega
  unfold s_X12_adds_J119
  simp only [b2_eq]
  by_cases hmm : ma = mc
  · rw [if_pos hmm, jj_add, ii_sub, ← Int.natCast_add]
    obtain ⟨m21, m22, m23⟩ := m2 hmm
    have hpos : 0 < A * 2 ^ sh + C / 2 ^ cut := Nat.add_pos_left (Nat.mul_pos hA (Nat.two_pow_pos _)) _
    obtain ⟨S', r1, r2, r3⟩ := y_rounds (m := ma) (n := A * 2 ^ sh + C / 2 ^ cut) (pl := pa - sh) hF hM h ho hm (decide (C % 2 ^ cut ≠ 0)) hpos (by omega) (by omega) (by omega)
    rw [r1, bd2_some]
    have hma : decide (sN A pa ma C pc mc < 0) = ma := by
      cases ma
      · exact decide_eq_false (fun q => by have := m21.mp q; cases this)
      · exact decide_eq_true (m21.mpr rfl)
    refine ⟨S', _, rfl, r2, fun q => absurd q m22, fun _ => ?_⟩
    rw [hma, ← m23 ma]
    exact ⟨rfl, r3⟩
  · rw [if_neg hmm, jj_sub]
    have m3' := m3 hmm _ rfl
    have e1 : ∀ (G : Int64 → Option (Int32 × HS)), (if b2 (decide (C % 2 ^ cut ≠ 0)) = 0 then G 0 else G 1) = G (jj (if C % 2 ^ cut ≠ 0 then 1 else 0)) := by
      intro G
      by_cases q : C % 2 ^ cut ≠ 0
      · rw [decide_eq_true q, if_pos q]; rfl
      · rw [decide_eq_false q, if_neg q]; rfl
    rw [e1 (fun x => s_X12_adds_J163 N F rp a (ii f) (b2 ma) (ii pa) (b2 mc) (ii mode) (ii sh) (b2 (decide (C % 2 ^ cut ≠ 0))) (jj (((A * 2 ^ sh : Nat) : Int) - (C / 2 ^ cut : Nat))) x S)]
    unfold s_X12_adds_J163
    rw [jj_sub, bnd_def]
    have hbd : ((if C % 2 ^ cut ≠ 0 then 1 else 0 : Int)) ≤ 1 ∧ 0 ≤ (if C % 2 ^ cut ≠ 0 then 1 else 0 : Int) := by split <;> omega
    obtain ⟨z1, z2⟩ := m3'
    generalize hleft : ((A * 2 ^ sh : Nat) : Int) - (C / 2 ^ cut : Nat) - (if C % 2 ^ cut ≠ 0 then 1 else 0) = left at *
    have h00 : (0 : Int) ≤ ((C / 2 ^ cut : Nat) : Int) := Int.natCast_nonneg _
    have hlb : -2305843009213693955 < left ∧ left < 2305843009213693955 := by omega
    rw [q0, lg_c (by omega) (by omega) (by omega) (by omega)]
    have c0 : ((if (0 : Int) < left then (1 : Int32) else if left = 0 then 0 else -1) = 0) = (left = 0) := by
      by_cases q : left = 0
      · subst q; simp
      · by_cases q2 : 0 < left
        · rw [if_pos q2]; simp [q]
        · rw [if_neg q2, if_neg q]; simp [q]
    have rest : sN A pa ma C pc mc ≠ 0 → ∃ S' v, s_X12_adds_J199 N F rp a (ii f) (b2 ma) (ii pa) (b2 mc) (ii mode) (ii sh) (b2 (decide (C % 2 ^ cut ≠ 0))) (jj left) S = some (v, S') ∧ YF a fa pi S S' ∧ YSUM S' a k e fr L mode (sN A pa ma C pc mc) (sQ pa pc) v := by
      intro hz
      obtain ⟨w1, w2, w3⟩ := z2 hz
      unfold s_X12_adds_J199 s_X12_adds_J211 s_X12_adds_J226 s_X12_adds_J239
      rw [q0, lg_c (by omega) (by omega) (by omega) (by omega)]
      have hfin : ∀ (mm : Bool) (x : Int), x = left.natAbs → mm = decide (sN A pa ma C pc mc < 0) → ∃ S' v, bd2 (s_X12_rounds N F a (ii f) (b2 mm) (jj x) (ii pa - ii sh) (b2 (decide (C % 2 ^ cut ≠ 0))) (ii mode) S) (fun r17 S18 => some (r17, S18)) = some (v, S') ∧ YF a fa pi S S' ∧ YSUM S' a k e fr L mode (sN A pa ma C pc mc) (sQ pa pc) v := by
        intro mm x hx hmm2
        subst hx
        rw [ii_sub]
        obtain ⟨S', r1, r2, r3⟩ := y_rounds (m := mm) (n := left.natAbs) (pl := pa - sh) hF hM h ho hm (decide (C % 2 ^ cut ≠ 0)) (by omega) (by omega) (by omega) (by omega)
        rw [r1, bd2_some]
        refine ⟨S', _, rfl, r2, fun q => absurd q hz, fun _ => ?_⟩
        rw [← hmm2, ← w3 mm]
        exact ⟨rfl, r3⟩
      by_cases hl : left < 0
      · rw [if_neg (show ¬ (0 : Int) < left by omega), if_neg (show ¬ left = 0 by omega), if_neg (by decide), if_neg (by decide), if_neg (by decide), jj_neg]
        refine hfin mc _ (by omega) ?_
        rw [if_pos hl] at w1
        cases mc
        · exact (decide_eq_false (fun q => by have := w1.mp q; cases this)).symm
        · exact (decide_eq_true (w1.mpr rfl)).symm
      · rw [if_pos (show (0 : Int) < left by omega), if_pos (by decide), if_pos rfl, if_pos rfl]
        refine hfin ma _ (by omega) ?_
        rw [if_neg hl] at w1
        cases ma
        · exact (decide_eq_false (fun q => by have := w1.mp q; cases this)).symm
        · exact (decide_eq_true (w1.mpr rfl)).symm
    by_cases hl0 : left = 0
    · rw [if_pos (c0.mpr hl0)]
      simp only [b2_0]
      by_cases hr0 : C % 2 ^ cut = 0
      · have hz : sN A pa ma C pc mc = 0 := z1.mp ⟨hl0, hr0⟩
        rw [if_pos (show decide (C % 2 ^ cut ≠ 0) = false by simp [hr0])]
        have tl : ∀ v : Int32, v = ii (nSg e fr (decide (mode = 2))) → ∃ S' v', s_X12_adds_J194 N F rp a v S = some (v', S') ∧ YF a fa pi S S' ∧ YSUM S' a k e fr L mode (sN A pa ma C pc mc) (sQ pa pc) v' := by
          intro v hv
          unfold s_X12_adds_J194
          obtain ⟨S', t1, t2, t3⟩ := @y_tells S a fa pi v 0
          rw [bn2_eq t1]
          exact ⟨S', _, rfl, t2, fun _ => ⟨hv, t3⟩, fun q => absurd hz q⟩
        simp (disch := omega) only [k2, ii_eq]
        by_cases h2 : mode = 2
        · rw [if_pos (by omega), y_signOf h ho, bd1_some]
          exact tl _ (by rw [decide_eq_true h2]; rfl)
        · rw [if_neg (by omega)]
          exact tl _ (by rw [decide_eq_false h2]; rfl)
      · rw [if_neg (show ¬ decide (C % 2 ^ cut ≠ 0) = false by simp [hr0])]
        exact rest (fun q => hr0 (z1.mpr q).2)
    · rw [if_neg (fun q => hl0 (c0.mp q))]
      exact rest (fun q => hl0 (z1.mpr q).1)
theorem y_adds1 (hF : 1010 ≤ F) (hM : MR N S a u fa pi co L) (h : MU N S a u f k e fr) (ho : FO k e fr) (hm : mode < 6) (rp : Nat → Int32 → Int32 → Int64 → Int32 → Int32 → Int64 → Int32 → Int32 → HS → Option (Int32 × HS)) (A C : Nat) (pa pc : Int) (ma mc : Bool) (hA : 0 < A) (hC : 0 < C) (hA2 : A < 2 ^ 38) (hC2 : C < 2 ^ 38) (hp : pc ≤ pa) (hp1 : -400 ≤ pc) (hp2 : pa ≤ 600) :
    ∃ S' v, s_X12_adds_body N F rp a (ii f) (b2 ma) (jj A) (ii pa) (b2 mc) (jj C) (ii pc) (ii mode) S = some (v, S') ∧ YF a fa pi S S' ∧ YSUM S' a k e fr L mode (sN A pa ma C pc mc) (sQ pa pc) v := by
  have lA : A.log2 ≤ 37 := by have := (Nat.log2_lt (n := A) (k := 38) (by omega)).mpr hA2; omega
  have hbl : nBl A = A.log2 + 1 := by unfold nBl; rw [if_neg (by omega)]
  unfold s_X12_adds_body
  rw [if_pos (by rw [ii_le (by omega) (by omega) (by omega) (by omega)]; exact hp), ii_sub, bnd_def, y_len (by omega) (by omega), bd1_some, hbl, k61, ii_sub, bnd_def]
  obtain ⟨sh, hsh⟩ : ∃ sh : Nat, sh = if (pa - pc).toNat < 60 - A.log2 then (pa - pc).toNat else 60 - A.log2 := ⟨_, rfl⟩
  have hsh60 : sh ≤ 60 := by split at hsh <;> omega
  have hshle : sh ≤ (pa - pc).toNat := by split at hsh <;> omega
  have e1 : ∀ (G : Int32 → Option (Int32 × HS)), (if ii (61 - ((A.log2 + 1 : Nat) : Int)) ≤ ii (pa - pc) then G (ii (61 - ((A.log2 + 1 : Nat) : Int))) else G (ii (pa - pc))) = G (ii sh) := by
    intro G
    simp only [ii_le (a := 61 - ((A.log2 + 1 : Nat) : Int)) (b := pa - pc) (by omega) (by omega) (by omega) (by omega)]
    by_cases q : (pa - pc).toNat < 60 - A.log2
    · rw [if_pos q] at hsh
      rw [if_neg (by omega)]; congr 2; omega
    · rw [if_neg q] at hsh
      rw [if_pos (by omega)]; congr 2; omega
  rw [e1 (fun x => s_X12_adds_J55 N F rp a (ii f) (b2 ma) (jj A) (ii pa) (b2 mc) (jj C) (ii mode) (ii (pa - pc)) x S)]
  obtain ⟨cut, hcut⟩ : ∃ cut : Nat, cut = (pa - pc).toNat - sh := ⟨_, rfl⟩
  unfold s_X12_adds_J55
  have ec : ii (pa - pc) - ii sh = ii cut := by rw [ii_sub]; congr 1; omega
  rw [jj_shl _ (by omega), bnd_def, ec, bnd_def, ← Int.natCast_mul]
  have key := y_J119 hF hM h ho hm rp A C pa pc ma mc hA hC hA2 hC2 hp hp1 hp2 sh cut hsh hcut
  have h86 : ∀ x : Int64, x = jj (C / 2 ^ cut : Nat) → s_X12_adds_J86 N F rp a (ii f) (b2 ma) (ii pa) (b2 mc) (jj C) (ii mode) (ii sh) (jj (A * 2 ^ sh : Nat)) (ii cut) x S = s_X12_adds_J119 N F rp a (ii f) (b2 ma) (ii pa) (b2 mc) (ii mode) (ii sh) (jj (A * 2 ^ sh : Nat)) (jj (C / 2 ^ cut : Nat)) (b2 (decide (C % 2 ^ cut ≠ 0))) S := by
    intro x hx
    subst hx
    unfold s_X12_adds_J86
    simp (disch := omega) only [k62, ii_lt]
    by_cases q : (cut : Int) ≤ 0
    · rw [if_pos (show ii (cut : Int) ≤ 0 by rw [k0, ii_le (by omega) (by omega) (by omega) (by omega)]; exact q)]
      have : cut = 0 := by omega
      subst this
      simp [Nat.mod_one]; rfl
    · rw [if_neg (show ¬ ii (cut : Int) ≤ 0 by rw [k0, ii_le (by omega) (by omega) (by omega) (by omega)]; exact q)]
      by_cases q2 : (62 : Int) < cut
      · rw [if_pos q2]
        have : C % 2 ^ cut = C := Nat.mod_eq_of_lt (Nat.lt_trans hC2 (Nat.pow_lt_pow_right (by decide) (by omega)))
        rw [this, decide_eq_true (show C ≠ 0 by omega)]; rfl
      · rw [if_neg q2]
        have hP := Nat.two_pow_pos cut
        have e3 : jj C &&& ((1 : Int64) <<< ((ii cut).toInt64 &&& 63) - 1) = jj (C % 2 ^ cut : Nat) := by
          rw [show (1 : Int64) = jj 1 from rfl, jj_shl 1 (by omega), jj_sub, Int.one_mul, show (((2 ^ cut : Nat) : Int) - 1) = ((2 ^ cut - 1 : Nat) : Int) by omega, jj_mod]
        have hlt : C % 2 ^ cut ≤ C := Nat.mod_le _ _
        rw [e3, q0, lg_c (by omega) (by omega) (by omega) (by omega)]
        by_cases q3 : C % 2 ^ cut = 0
        · rw [if_neg (show ¬ (0 : Int) < ((C % 2 ^ cut : Nat) : Int) by omega), if_pos (show ((C % 2 ^ cut : Nat) : Int) = 0 by omega), if_pos rfl]
          rw [show decide (C % 2 ^ cut ≠ 0) = false by simp [q3]]; rfl
        · rw [if_pos (show (0 : Int) < ((C % 2 ^ cut : Nat) : Int) by omega), if_neg (by decide)]
          rw [show decide (C % 2 ^ cut ≠ 0) = true by simp [q3]]; rfl
  simp (disch := omega) only [k62, ii_le]
  by_cases q : (cut : Int) ≤ 62
  · rw [if_pos q, jj_shr (by omega) (by omega) (by omega), ← Int.natCast_ediv, h86 _ rfl]
    exact key
  · rw [if_neg q, h86]
    · exact key
    · have : C / 2 ^ cut = 0 := Nat.div_eq_of_lt (Nat.lt_trans hC2 (Nat.pow_lt_pow_right (by decide) (by omega)))
      rw [this]; rfl
theorem y_adds (hF : 1010 ≤ F) (hM : MR N S a u fa pi co L) (h : MU N S a u f k e fr) (ho : FO k e fr) (hm : mode < 6) (A C : Nat) (pa pc : Int) (ma mc : Bool) (hA : 0 < A) (hC : 0 < C) (hA2 : A < 2 ^ 38) (hC2 : C < 2 ^ 38) (hp1 : -400 ≤ pc) (hp2 : pa ≤ 600) (hp3 : -400 ≤ pa) (hp4 : pc ≤ 600) :
    ∃ S' v, s_X12_adds N F 3 a (ii f) (b2 ma) (jj A) (ii pa) (b2 mc) (jj C) (ii pc) (ii mode) S = some (v, S') ∧ YF a fa pi S S' ∧ YSUM S' a k e fr L mode (sN A pa ma C pc mc) (sQ pa pc) v := by
  rw [s_X12_adds]
  by_cases hp : pc ≤ pa
  · exact y_adds1 hF hM h ho hm _ A C pa pc ma mc hA hC hA2 hC2 hp hp1 hp2
  · unfold s_X12_adds_body
    rw [if_neg (by rw [ii_le (by omega) (by omega) (by omega) (by omega)]; exact hp), s_X12_adds]
    obtain ⟨S', v, r1, r2, r3⟩ := y_adds1 hF hM h ho hm (s_X12_adds N F 1) C A pc pa mc ma hC hA hC2 hA2 (by omega) (by omega) (by omega)
    rw [r1, bd2_some, sN_comm, sQ_comm]
    exact ⟨S', v, rfl, r2, r3⟩
end ADDS
end
section
/- what the SUM is: bits, flags, side, half -/
def ofR (e fr : Nat) (m : Bool) (R : Nat × Nat × Int × Bool × Bool) : Nat × Nat × Int × Bool := (R.1, R.2.1, (if m then -R.2.2.1 else R.2.2.1), R.2.2.2.1 && !R.2.2.2.2)
def nNa (k e fr : Nat) : Nat := (nNaN k e fr).toNat
def sumF (k e fr : Nat) (L : Bool → Bool → Bool → Bool → Bool) (mode x y c : Nat) : Nat × Nat × Int × Bool :=
  if nInf k e fr < nS e fr x ∨ nInf k e fr < nS e fr y ∨ nInf k e fr < nS e fr c then (nNa k e fr, 0, 0, false)
  else if nS e fr x = nInf k e fr ∨ nS e fr y = nInf k e fr then
    (if (nAd k e fr x = 0 ∨ nAd k e fr y = 0) ∨ (nS e fr c = nInf k e fr ∧ nMi e fr c ≠ xor (nMi e fr x) (nMi e fr y)) then (nNa k e fr, 1, 0, false) else (nSg e fr (xor (nMi e fr x) (nMi e fr y)) + nInf k e fr, 0, 0, false))
  else if nS e fr c = nInf k e fr then (nSg e fr (nMi e fr c) + nInf k e fr, 0, 0, false)
  else if nAd k e fr x = 0 ∨ nAd k e fr y = 0 then
    (if nAd k e fr c = 0 then (nSg e fr (if xor (nMi e fr x) (nMi e fr y) = nMi e fr c then xor (nMi e fr x) (nMi e fr y) else decide (mode = 2)), 0, 0, false)
    else ofR e fr (nMi e fr c) (rndN k e fr L mode (nMi e fr c) (nAd k e fr c) (nPl e fr c) false))
  else
    (if nAd k e fr c = 0 then ofR e fr (xor (nMi e fr x) (nMi e fr y)) (rndN k e fr L mode (xor (nMi e fr x) (nMi e fr y)) (nAd k e fr x * nAd k e fr y) (nPl e fr x + nPl e fr y) false)
    else
      if sN (nAd k e fr x * nAd k e fr y) (nPl e fr x + nPl e fr y) (xor (nMi e fr x) (nMi e fr y)) (nAd k e fr c) (nPl e fr c) (nMi e fr c) = 0 then (nSg e fr (decide (mode = 2)), 0, 0, false)
      else ofR e fr (decide (sN (nAd k e fr x * nAd k e fr y) (nPl e fr x + nPl e fr y) (xor (nMi e fr x) (nMi e fr y)) (nAd k e fr c) (nPl e fr c) (nMi e fr c) < 0)) (rndN k e fr L mode (decide (sN (nAd k e fr x * nAd k e fr y) (nPl e fr x + nPl e fr y) (xor (nMi e fr x) (nMi e fr y)) (nAd k e fr c) (nPl e fr c) (nMi e fr c) < 0)) (sN (nAd k e fr x * nAd k e fr y) (nPl e fr x + nPl e fr y) (xor (nMi e fr x) (nMi e fr y)) (nAd k e fr c) (nPl e fr c) (nMi e fr c)).natAbs (sQ (nPl e fr x + nPl e fr y) (nPl e fr c)) false))
theorem sumF_comm (k e fr : Nat) (L : Bool → Bool → Bool → Bool → Bool) (mode x y c : Nat) : sumF k e fr L mode x y c = sumF k e fr L mode y x c := by
  unfold sumF
  rw [Bool.xor_comm (nMi e fr x), Nat.mul_comm (nAd k e fr x), Int.add_comm (nPl e fr x)]
  simp only [or_comm (a := nS e fr x = nInf k e fr), or_comm (a := nAd k e fr x = 0), or_left_comm (a := nInf k e fr < nS e fr x)]
/- what the adder shows of a sum -/
def XS (S' : HS) (a : Nat) (R : Nat × Nat × Int × Bool) : Prop := gI S' 1 a = ii R.1 ∧ gI S' 2 a = ii R.2.1 ∧ gI S' 3 a = ii R.2.2.1 ∧ s_X0_isHalf a S' = b2 R.2.2.2
theorem AT.xs {S' : HS} {a b f : Nat} (h : AT S' a (ii b) (ii f)) : XS S' a (b, f, 0, false) := by
  obtain ⟨h1, h2, h3, h4⟩ := h
  refine ⟨h1, h2, h3, ?_⟩
  unfold s_X0_isHalf
  rw [h4, if_pos rfl]; rfl
theorem AR.xs {S' : HS} {a e fr : Nat} {m : Bool} {R : Nat × Nat × Int × Bool × Bool} (h : AR S' a m R) : XS S' a (ofR e fr m R) := by
  obtain ⟨h1, h2, h3, h4, h5, h6⟩ := h
  refine ⟨h1, h2, h3, ?_⟩
  unfold s_X0_isHalf ofR
  rw [h4, h5, h6]
  cases R.2.2.2.1 <;> cases R.2.2.2.2 <;> rfl
theorem nNa_eq {k e fr : Nat} (hk : k ≠ 3) : nNaN k e fr = (nNa k e fr : Int) := by
  unfold nNa nNaN
  rw [if_neg hk]; rfl
theorem bits_split {e fr b : Nat} (hb : b < 2 ^ (e + fr + 1)) : b = nSg e fr (nMi e fr b) + nS e fr b := by
  rw [Nat.pow_succ] at hb
  unfold nSg nMi nS
  by_cases q : 2 ^ (e + fr) ≤ b
  · rw [decide_eq_true q, if_pos rfl, Nat.mod_eq_sub_mod q, Nat.mod_eq_of_lt (by omega)]; omega
  · rw [decide_eq_false q, Nat.mod_eq_of_lt (by omega)]; simp
theorem k3_nan {k e fr b : Nat} (h : nInf k e fr < nS e fr b ∨ nS e fr b = nInf k e fr) : k ≠ 3 := by
  intro h3
  have := @nS_lt e fr b
  have hi : nInf k e fr = 2 ^ (e + fr) := if_pos h3
  omega
theorem sumr_xs {S' : HS} {a k e fr law mode x y c : Nat} (hc : c < 2 ^ (e + fr + 1)) (h : SUMR S' a k e fr law mode x y c) : XS S' a (sumF k e fr (lawB law) mode x y c) := by
  unfold SUMR at h
  unfold sumF
  by_cases h1 : nInf k e fr < nS e fr x ∨ nInf k e fr < nS e fr y ∨ nInf k e fr < nS e fr c
  · rw [if_pos h1] at h
    rw [if_pos h1]
    have hk : k ≠ 3 := by rcases h1 with q | q | q <;> exact k3_nan (Or.inl q)
    rw [nNa_eq hk] at h
    exact h.xs
  rw [if_neg h1] at h
  rw [if_neg h1]
  by_cases h2 : nS e fr x = nInf k e fr ∨ nS e fr y = nInf k e fr
  · rw [if_pos h2] at h
    rw [if_pos h2]
    have hk : k ≠ 3 := by rcases h2 with q | q <;> exact k3_nan (Or.inr q)
    by_cases h3 : (nAd k e fr x = 0 ∨ nAd k e fr y = 0) ∨ (nS e fr c = nInf k e fr ∧ nMi e fr c ≠ xor (nMi e fr x) (nMi e fr y))
    · rw [if_pos h3] at h
      rw [if_pos h3]
      rw [nNa_eq hk] at h
      exact AT.xs (f := 1) h
    · rw [if_neg h3] at h
      rw [if_neg h3]
      exact h.xs
  rw [if_neg h2] at h
  rw [if_neg h2]
  by_cases h3 : nS e fr c = nInf k e fr
  · rw [if_pos h3] at h
    rw [if_pos h3, ← h3, ← bits_split hc]
    exact h.xs
  rw [if_neg h3] at h
  rw [if_neg h3]
  by_cases h4 : nAd k e fr x = 0 ∨ nAd k e fr y = 0
  · rw [if_pos h4] at h
    rw [if_pos h4]
    by_cases h5 : nAd k e fr c = 0
    · rw [if_pos h5]; exact (h.1 h5).xs
    · rw [if_neg h5]; exact (h.2 h5).xs
  rw [if_neg h4] at h
  rw [if_neg h4]
  by_cases h5 : nAd k e fr c = 0
  · rw [if_pos h5]; exact (h.1 h5).xs
  rw [if_neg h5]
  obtain ⟨g1, g2⟩ := h.2 h5 _ rfl
  by_cases h6 : sN (nAd k e fr x * nAd k e fr y) (nPl e fr x + nPl e fr y) (xor (nMi e fr x) (nMi e fr y)) (nAd k e fr c) (nPl e fr c) (nMi e fr c) = 0
  · rw [if_pos h6]; exact (g1 h6).xs
  · rw [if_neg h6]; exact (g2 h6).xs
theorem x_sum {F : Nat} {S : HS} {a p k e fr law mode x y c : Nat} (hF : 7 ≤ F) (hf : FM S p k e fr) (ho : FO k e fr) (hl : gI S 0 a = ii law) (hlaw : law < 65536) (hm : mode < 6) (hx : x < 2 ^ (e + fr + 1)) (hy : y < 2 ^ (e + fr + 1)) (hc : c < 2 ^ (e + fr + 1)) :
    ∃ S', s_X0_add F a p (ii mode) (ii x) (ii y) (ii c) S = some S' ∧ AFr a [1, 2, 3, 4, 6, 7] S S' ∧ XS S' a (sumF k e fr (lawB law) mode x y c) := by
  obtain ⟨S', h1, h2, h3⟩ := x0_add (law := law) hF hf ho hl hlaw hm hx hy hc
  exact ⟨S', h1, h2, sumr_xs hc h3⟩
/- bounds -/
theorem rEnd_b {k e fr mode told : Nat} {L : Bool → Bool → Bool → Bool → Bool} {m tiny more g r : Bool} (ho : FO k e fr) : (rEnd k e fr L mode m tiny more told g r).1 < 2 ^ (e + fr + 1) ∧ (rEnd k e fr L mode m tiny more told g r).2.1 < 16 ∧ nMi e fr (rEnd k e fr L mode m tiny more told g r).1 = m ∧ (¬ nInf k e fr < nS e fr (rEnd k e fr L mode m tiny more told g r).1) ∧ -1 ≤ (rEnd k e fr L mode m tiny more told g r).2.2.1 ∧ (rEnd k e fr L mode m tiny more told g r).2.2.1 ≤ 1 := by
  have hi := nInf_le ho
  have hs := sb_le ho
  have aux : ∀ z, z ≤ nInf k e fr → (k = 3 → z < nInf k e fr) → nSg e fr m + z < 2 ^ (e + fr + 1) ∧ nMi e fr (nSg e fr m + z) = m ∧ ¬ nInf k e fr < nS e fr (nSg e fr m + z) := by
    intro z hz hz3
    have hz2 : z < 2 ^ (e + fr) := by
      by_cases q : k = 3
      · have := hz3 q; omega
      · have := nInf_lt ho q
        have := Nat.two_pow_pos fr
        omega
    rw [Nat.pow_succ]
    unfold nSg nMi nS
    cases m
    · simp only [Bool.false_eq_true, if_false, Nat.zero_add]
      rw [Nat.mod_eq_of_lt hz2]
      exact ⟨by omega, decide_eq_false (by omega), by omega⟩
    · simp only [if_true]
      rw [Nat.add_mod_left, Nat.mod_eq_of_lt hz2]
      exact ⟨by omega, decide_eq_true (by omega), by omega⟩
  unfold rEnd
  split
  · split
    · obtain ⟨q1, q2, q3⟩ := aux (nInf k e fr - 1) (by omega) (by omega)
      exact ⟨q1, by dsimp only; decide, q2, q3, by dsimp only; decide, by dsimp only; decide⟩
    · rename_i q
      have h3 : k ≠ 3 := by intro h3; apply q; simp [h3]
      obtain ⟨q1, q2, q3⟩ := aux (nInf k e fr) (by omega) (fun q => absurd q h3)
      exact ⟨q1, by dsimp only; decide, q2, q3, by dsimp only; decide, by dsimp only; decide⟩
  · split
    · obtain ⟨q1, q2, q3⟩ := aux 0 (by omega) (by omega)
      exact ⟨q1, by dsimp only; decide, q2, q3, by dsimp only; decide, by dsimp only; decide⟩
    · obtain ⟨q1, q2, q3⟩ := aux told (by omega) (by omega)
      split
      · exact ⟨q1, by dsimp only; split <;> decide, q2, q3, by dsimp only; split <;> decide, by dsimp only; split <;> decide⟩
      · exact ⟨q1, by dsimp only; decide, q2, q3, by dsimp only; decide, by dsimp only; decide⟩
theorem rnd_b {k e fr mode n : Nat} {L : Bool → Bool → Bool → Bool → Bool} {m w : Bool} {pl : Int} (ho : FO k e fr) : (rndN k e fr L mode m n pl w).1 < 2 ^ (e + fr + 1) ∧ (rndN k e fr L mode m n pl w).2.1 < 16 ∧ nMi e fr (rndN k e fr L mode m n pl w).1 = m ∧ (¬ nInf k e fr < nS e fr (rndN k e fr L mode m n pl w).1) ∧ -1 ≤ (rndN k e fr L mode m n pl w).2.2.1 ∧ (rndN k e fr L mode m n pl w).2.2.1 ≤ 1 := by
  unfold rndN; rw [rFin_eq]; exact rEnd_b ho
theorem nNa_b {k e fr : Nat} (ho : FO k e fr) (hk : k ≠ 3) : nNa k e fr < 2 ^ (e + fr) ∧ nInf k e fr < nNa k e fr := by
  have h1 := nInf_lt ho hk
  have h2 : 2 ^ (fr - 1) < 2 ^ fr := Nat.pow_lt_pow_right (by decide) (by have := ho.2.2.2.1; omega)
  have h3 := Nat.two_pow_pos (fr - 1)
  unfold nNa nNaN
  rw [if_neg hk]
  omega
theorem sg_b {k e fr : Nat} (ho : FO k e fr) (m : Bool) : nSg e fr m < 2 ^ (e + fr + 1) ∧ (k ≠ 3 → nSg e fr m + nInf k e fr < 2 ^ (e + fr + 1)) := by
  have hs := sb_le ho
  rw [Nat.pow_succ]
  unfold nSg
  constructor
  · split <;> omega
  · intro hk
    have := nInf_lt ho hk
    have := Nat.two_pow_pos fr
    split <;> omega
theorem sumF_b {k e fr mode x y c : Nat} {L : Bool → Bool → Bool → Bool → Bool} (ho : FO k e fr) : (sumF k e fr L mode x y c).1 < 2 ^ (e + fr + 1) ∧ (sumF k e fr L mode x y c).2.1 < 16 ∧ -1 ≤ (sumF k e fr L mode x y c).2.2.1 ∧ (sumF k e fr L mode x y c).2.2.1 ≤ 1 := by
  have hs := sb_le ho
  have hofR : ∀ m n pl, (ofR e fr m (rndN k e fr L mode m n pl false)).1 < 2 ^ (e + fr + 1) ∧ (ofR e fr m (rndN k e fr L mode m n pl false)).2.1 < 16 ∧ -1 ≤ (ofR e fr m (rndN k e fr L mode m n pl false)).2.2.1 ∧ (ofR e fr m (rndN k e fr L mode m n pl false)).2.2.1 ≤ 1 := by
    intro m n pl
    obtain ⟨a1, a2, a3, a4, a5, a6⟩ := rnd_b (L := L) (mode := mode) (m := m) (n := n) (pl := pl) (w := false) ho
    unfold ofR
    refine ⟨a1, a2, ?_, ?_⟩
    · dsimp only; split <;> omega
    · dsimp only; split <;> omega
  have hp : 2 ^ (e + fr + 1) = 2 * 2 ^ (e + fr) := by rw [Nat.pow_succ, Nat.mul_comm]
  unfold sumF
  split
  · rename_i h1
    have hk : k ≠ 3 := by rcases h1 with q | q | q <;> exact k3_nan (Or.inl q)
    have := nNa_b ho hk
    exact ⟨by dsimp only; omega, by dsimp only; decide, by dsimp only; decide, by dsimp only; decide⟩
  · split
    · rename_i h1
      have hk : k ≠ 3 := by rcases h1 with q | q <;> exact k3_nan (Or.inr q)
      have := nNa_b ho hk
      split
      · exact ⟨by dsimp only; omega, by dsimp only; decide, by dsimp only; decide, by dsimp only; decide⟩
      · exact ⟨(sg_b ho _).2 hk, by dsimp only; decide, by dsimp only; decide, by dsimp only; decide⟩
    · split
      · rename_i h1
        exact ⟨(sg_b ho _).2 (k3_nan (Or.inr h1)), by dsimp only; decide, by dsimp only; decide, by dsimp only; decide⟩
      · split
        · split
          · exact ⟨(sg_b ho _).1, by dsimp only; decide, by dsimp only; decide, by dsimp only; decide⟩
          · exact hofR _ _ _
        · split
          · exact hofR _ _ _
          · split
            · exact ⟨(sg_b ho _).1, by dsimp only; decide, by dsimp only; decide, by dsimp only; decide⟩
            · exact hofR _ _ _
end
section
def YS (S' : HS) (a e fr : Nat) (R : Nat × Nat × Int × Bool) : Prop := gI S' 1220 a = ii R.2.1 ∧ (∃ w1 w2 w3 : Bool, gI S' 1221 a = b2 w1 ∧ gI S' 1222 a = b2 w2 ∧ gI S' 1223 a = b2 w3 ∧ (w1 && w2 && !w3) = R.2.2.2) ∧ ∃ sd : Int, gI S' 1224 a = ii sd ∧ (if nMi e fr R.1 = true then -sd else sd) = R.2.2.1 ∧ -1 ≤ sd ∧ sd ≤ 1
theorem YT.ys {S' : HS} {a e fr b fl : Nat} (h : YT S' a (ii fl)) : YS S' a e fr (b, fl, 0, false) := by
  obtain ⟨h1, h2, h3, h4, h5⟩ := h
  refine ⟨h1, ⟨false, false, false, h2, h3, h4, rfl⟩, 0, h5, ?_, by decide, by decide⟩
  split <;> rfl
theorem YR.ys {S' : HS} {a k e fr mode n : Nat} {m w : Bool} {pl : Int} {L : Bool → Bool → Bool → Bool → Bool} (ho : FO k e fr) (h : YR S' a (rndN k e fr L mode m n pl w)) : YS S' a e fr (ofR e fr m (rndN k e fr L mode m n pl w)) := by
  obtain ⟨h1, h2, h3, h4, h5⟩ := h
  obtain ⟨a1, a2, a3, a4, a5, a6⟩ := rnd_b (L := L) (mode := mode) (m := m) (n := n) (pl := pl) (w := w) ho
  refine ⟨h1, ⟨true, _, _, h2, h3, h4, ?_⟩, _, h5, ?_, a5, a6⟩
  · unfold ofR; simp
  · unfold ofR; dsimp only; rw [a3]
section SUMS_
variable {N : Nat → Nat} {F a u fa pi co f k e fr mode x y c : Nat} {S : HS} {L : Bool → Bool → Bool → Bool → Bool}
theorem kSc4 (ho : FO k e fr) (b : Nat) : (ii (nSc k e fr b : Int) = (4 : Int32)) = (nInf k e fr < nS e fr b) := by
  have := @nSc_le k e fr b
  rw [k4, ii_eq (by omega) (by omega) (by omega) (by omega)]
  apply propext
  rw [← nSc_4 ho]; omega
theorem kSc3 (ho : FO k e fr) (b : Nat) : (ii (nSc k e fr b : Int) = (3 : Int32)) = (nS e fr b = nInf k e fr) := by
  have := @nSc_le k e fr b
  rw [k3, ii_eq (by omega) (by omega) (by omega) (by omega)]
  apply propext
  rw [← nSc_3 ho]; omega
theorem kSc0 (ho : FO k e fr) (b : Nat) : (ii (nSc k e fr b : Int) = (0 : Int32)) = (nAd k e fr b = 0) := by
  have := @nSc_le k e fr b
  rw [k0, ii_eq (by omega) (by omega) (by omega) (by omega)]
  apply propext
  rw [← nSc_0 ho]; omega
theorem y_tellS (b fl : Nat) (R : Nat × Nat × Int × Bool) (hR : R = (b, fl, 0, false)) (v : Int32) (hv : v = ii b) (w : Int32) (hw : w = ii fl) : ∃ S', bn2 (s_X12_tells a v w S) (fun r21 S22 => some (r21, S22)) = some (ii R.1, S') ∧ YF a fa pi S S' ∧ YS S' a e fr R := by
  obtain ⟨S', t1, t2, t3⟩ := @y_tells S a fa pi v w
  rw [bn2_eq t1, hR, hv]
  exact ⟨S', rfl, t2, YT.ys (by rw [hw] at t3; exact t3)⟩
theorem y_J192 (h : MU N S a u f k e fr) (ho : FO k e fr) (m : Bool) (R : Nat × Nat × Int × Bool) (hR : R = (nSg e fr m + nInf k e fr, 0, 0, false)) (w : Int32) (hw : w = ii (nSg e fr m)) : ∃ S', s_X12_sums__J192 N F a (ii (nInf k e fr)) w S = some (ii R.1, S') ∧ YF a fa pi S S' ∧ YS S' a e fr R := by
  unfold s_X12_sums__J192
  exact y_tellS (nSg e fr m + nInf k e fr) 0 R hR _ (by rw [hw, ii_add]; congr 1; omega) _ rfl
theorem y_inf (h : MU N S a u f k e fr) (ho : FO k e fr) (m : Bool) (R : Nat × Nat × Int × Bool) (hR : R = (nSg e fr m + nInf k e fr, 0, 0, false)) : ∃ S', (if b2 m = 0 then s_X12_sums__J192 N F a (ii (nInf k e fr)) 0 S else s_X12_sums__J183 N F a (ii f) a (ii (nInf k e fr)) S) = some (ii R.1, S') ∧ YF a fa pi S S' ∧ YS S' a e fr R := by
  unfold s_X12_sums__J183
  simp only [b2_0]
  cases m
  · rw [if_pos rfl]; exact y_J192 h ho false R hR 0 rfl
  · rw [if_neg (by decide), y_signOf h ho, bd1_some]; exact y_J192 h ho true R hR _ rfl
theorem y_sums (hF : 1010 ≤ F) (hM : MR N S a u fa pi co L) (h : MU N S a u f k e fr) (ho : FO k e fr) (hm : mode < 6) (hx : x < 2 ^ (e + fr + 1)) (hy : y < 2 ^ (e + fr + 1)) (hc : c < 2 ^ (e + fr + 1)) :
    ∃ S', s_X12_sums_ N F a (ii f) (ii x) (ii y) (ii c) (ii mode) S = some (ii (sumF k e fr L mode x y c).1, S') ∧ YF a fa pi S S' ∧ YS S' a e fr (sumF k e fr L mode x y c) := by
  unfold s_X12_sums_
  rw [y_sumClass h ho hx, bd1_some, y_sumClass h ho hy, bd1_some, y_sumClass h ho hc, bd1_some, y_isMinus h ho hx, bd1_some, y_isMinus h ho hy, bd1_some]
  have e0 : ∀ (G : Int32 → Option (Int32 × HS)), (if b2 (nMi e fr x) = b2 (nMi e fr y) then G 0 else G 1) = G (b2 (xor (nMi e fr x) (nMi e fr y))) := by
    intro G; cases nMi e fr x <;> cases nMi e fr y <;> rfl
  rw [e0 (fun w => s_X12_sums__J45 N F a (ii f) (ii x) (ii y) (ii c) (ii mode) (ii (nSc k e fr x)) (ii (nSc k e fr y)) (ii (nSc k e fr c)) w S)]
  unfold s_X12_sums__J45
  rw [y_isMinus h ho hc, bd1_some]
  simp only [kSc4 ho, kSc3 ho]
  unfold sumF
  by_cases h1 : nInf k e fr < nS e fr x ∨ nInf k e fr < nS e fr y ∨ nInf k e fr < nS e fr c
  · simp only [if_pos h1]
    have hk : k ≠ 3 := by rcases h1 with q | q | q <;> exact k3_nan (Or.inl q)
    have nan : ∃ S', s_X12_sums__J74 N F a (ii f) S = some (ii (nNa k e fr), S') ∧ YF a fa pi S S' ∧ YS S' a e fr (nNa k e fr, 0, 0, false) := by
      unfold s_X12_sums__J74
      rw [y_nanOf h ho, bd1_some]
      exact y_tellS (nNa k e fr) 0 _ rfl _ (by rw [nNa_eq hk]) _ rfl
    by_cases a1 : nInf k e fr < nS e fr x
    · rw [if_pos a1]; exact nan
    · rw [if_neg a1]
      by_cases a2 : nInf k e fr < nS e fr y
      · rw [if_pos a2]; exact nan
      · rw [if_neg a2, if_pos (by rcases h1 with q | q | q; exact absurd q a1; exact absurd q a2; exact q)]; exact nan
  simp only [if_neg h1]
  rw [if_neg (fun q => h1 (Or.inl q)), if_neg (fun q => h1 (Or.inr (Or.inl q))), if_neg (fun q => h1 (Or.inr (Or.inr q)))]
  by_cases h2 : nS e fr x = nInf k e fr ∨ nS e fr y = nInf k e fr
  · have hk : k ≠ 3 := by rcases h2 with q | q <;> exact k3_nan (Or.inr q)
    have e2 : ∀ (G1 G2 : Option (Int32 × HS)), (if nS e fr x = nInf k e fr then G1 else if nS e fr y = nInf k e fr then G1 else G2) = G1 := by
      intro G1 G2
      by_cases q : nS e fr x = nInf k e fr
      · rw [if_pos q]
      · rw [if_neg q, if_pos (h2.resolve_left q)]
    rw [e2]
    simp only [if_pos h2]
    unfold s_X12_sums__J102
    rw [if_neg (by decide)]
    simp only [kSc0 ho]
    have nan : ∀ R : Nat × Nat × Int × Bool, R = (nNa k e fr, 1, 0, false) → ∃ S', s_X12_sums__J137 N F a (ii f) S = some (ii R.1, S') ∧ YF a fa pi S S' ∧ YS S' a e fr R := by
      intro R hR
      unfold s_X12_sums__J137
      rw [y_nanOf h ho, bd1_some]
      exact y_tellS (nNa k e fr) 1 _ hR _ (by rw [nNa_eq hk]) _ rfl
    by_cases h3 : nAd k e fr x = 0 ∨ nAd k e fr y = 0
    · have e3 : ∀ (G1 G2 : Option (Int32 × HS)), (if nAd k e fr x = 0 then G1 else if nAd k e fr y = 0 then G1 else G2) = G1 := by
        intro G1 G2
        by_cases q : nAd k e fr x = 0
        · rw [if_pos q]
        · rw [if_neg q, if_pos (h3.resolve_left q)]
      rw [e3]
      simp only [if_pos (show (nAd k e fr x = 0 ∨ nAd k e fr y = 0) ∨ (nS e fr c = nInf k e fr ∧ nMi e fr c ≠ xor (nMi e fr x) (nMi e fr y)) from Or.inl h3)]
      exact nan _ rfl
    rw [if_neg (fun q => h3 (Or.inl q)), if_neg (fun q => h3 (Or.inr q))]
    have inf : ∀ R : Nat × Nat × Int × Bool, R = (nSg e fr (xor (nMi e fr x) (nMi e fr y)) + nInf k e fr, 0, 0, false) → ∃ S', s_X12_sums__J148 N F a (ii f) (ii x) (ii y) (ii c) (ii mode) (ii (nSc k e fr x)) (ii (nSc k e fr y)) (ii (nSc k e fr c)) (b2 (xor (nMi e fr x) (nMi e fr y))) (b2 (nMi e fr c)) 1 S = some (ii R.1, S') ∧ YF a fa pi S S' ∧ YS S' a e fr R := by
      intro R hR
      unfold s_X12_sums__J148 s_X12_sums__J159
      rw [if_neg (by decide), y_infOf h ho hk, bd1_some, if_neg (by decide)]
      exact y_inf h ho _ R hR
    unfold s_X12_sums__J119
    rw [if_neg (by decide)]
    simp only [kSc3 ho, b2_eq]
    by_cases h4 : nS e fr c = nInf k e fr
    · rw [if_pos h4]
      by_cases h5 : xor (nMi e fr x) (nMi e fr y) = nMi e fr c
      · rw [if_pos h5]
        simp only [if_neg (show ¬ ((nAd k e fr x = 0 ∨ nAd k e fr y = 0) ∨ (nS e fr c = nInf k e fr ∧ nMi e fr c ≠ xor (nMi e fr x) (nMi e fr y))) from fun q => q.elim h3 (fun q => q.2 h5.symm))]
        exact inf _ rfl
      · rw [if_neg h5]
        simp only [if_pos (show (nAd k e fr x = 0 ∨ nAd k e fr y = 0) ∨ (nS e fr c = nInf k e fr ∧ nMi e fr c ≠ xor (nMi e fr x) (nMi e fr y)) from Or.inr ⟨h4, fun q => h5 q.symm⟩)]
        exact nan _ rfl
    · rw [if_neg h4]
      simp only [if_neg (show ¬ ((nAd k e fr x = 0 ∨ nAd k e fr y = 0) ∨ (nS e fr c = nInf k e fr ∧ nMi e fr c ≠ xor (nMi e fr x) (nMi e fr y))) from fun q => q.elim h3 (fun q => h4 q.1))]
      exact inf _ rfl
  simp only [if_neg h2]
  rw [if_neg (fun q => h2 (Or.inl q)), if_neg (fun q => h2 (Or.inr q))]
  unfold s_X12_sums__J102 s_X12_sums__J119 s_X12_sums__J148
  rw [if_pos rfl, if_pos rfl, if_pos rfl]
  simp only [kSc3 ho, kSc0 ho]
  by_cases h3 : nS e fr c = nInf k e fr
  · rw [if_pos h3]
    simp only [if_pos h3]
    unfold s_X12_sums__J159
    rw [y_infOf h ho (k3_nan (Or.inr h3)), bd1_some, if_pos rfl]
    exact y_inf h ho _ _ rfl
  rw [if_neg h3]
  simp only [if_neg h3]
  have w1 := nW_512 (b := x) ho
  have w2 := nW_512 (b := y) ho
  have w3 := nW_512 (b := c) ho
  have p1 := nPl_le (b := x) ho
  have p2 := nPl_le (b := y) ho
  have p3 := nPl_le (b := c) ho
  by_cases h4 : nAd k e fr x = 0 ∨ nAd k e fr y = 0
  · have e3 : ∀ (G1 G2 : Option (Int32 × HS)), (if nAd k e fr x = 0 then G1 else if nAd k e fr y = 0 then G1 else G2) = G1 := by
      intro G1 G2
      by_cases q : nAd k e fr x = 0
      · rw [if_pos q]
      · rw [if_neg q, if_pos (h4.resolve_left q)]
    rw [e3]
    simp only [if_pos h4]
    unfold s_X12_sums__J213
    rw [if_neg (by decide)]
    simp only [kSc0 ho, b2_eq]
    by_cases h5 : nAd k e fr c = 0
    · rw [if_pos h5]
      simp only [if_pos h5]
      have tl : ∀ w : Bool, ∀ R : Nat × Nat × Int × Bool, R = (nSg e fr w, 0, 0, false) → ∃ S', s_X12_sums__J248 N F a (ii f) (b2 w) S = some (ii R.1, S') ∧ YF a fa pi S S' ∧ YS S' a e fr R := by
        intro w R hR
        unfold s_X12_sums__J248 s_X12_sums__J265
        simp only [b2_0]
        cases w
        · rw [if_pos rfl]; exact y_tellS (nSg e fr false) 0 _ hR _ rfl _ rfl
        · rw [if_neg (by decide), y_signOf h ho, bd1_some]; exact y_tellS (nSg e fr true) 0 _ hR _ rfl _ rfl
      by_cases h6 : xor (nMi e fr x) (nMi e fr y) = nMi e fr c
      · rw [if_pos h6]
        simp only [if_pos h6]
        exact tl _ _ rfl
      · rw [if_neg h6]
        simp only [if_neg h6]
        simp (disch := omega) only [k2, ii_eq]
        by_cases h7 : mode = 2
        · rw [if_pos (by omega), decide_eq_true h7]; exact tl true _ rfl
        · rw [if_neg (by omega), decide_eq_false h7]; exact tl false _ rfl
    · rw [if_neg h5]
      simp only [if_neg h5]
      unfold s_X12_sums__J270
      rw [if_neg (by decide), y_wholeOf h ho hc, bd1_some, y_placeOf h ho hc, bd1_some]
      obtain ⟨S', r1, r2, r3⟩ := y_rounds (m := nMi e fr c) (n := nW e fr c) (pl := nPl e fr c) hF hM h ho hm false (by have := nAd_W h5; omega) (by omega) (by omega) (by omega)
      rw [show b2 false = (0 : Int32) from rfl] at r1
      rw [r1, bd2_some, nAd_W h5]
      exact ⟨S', rfl, r2, r3.ys ho⟩
  simp only [if_neg h4]
  rw [if_neg (fun q => h4 (Or.inl q)), if_neg (fun q => h4 (Or.inr q))]
  have hx0 : nAd k e fr x ≠ 0 := fun q => h4 (Or.inl q)
  have hy0 : nAd k e fr y ≠ 0 := fun q => h4 (Or.inr q)
  have ex := nAd_W hx0
  have ey := nAd_W hy0
  have hprod : nW e fr x * nW e fr y < 2 ^ 38 := Nat.lt_of_le_of_lt (Nat.mul_le_mul (show nW e fr x ≤ 524287 by omega) (show nW e fr y ≤ 524287 by omega)) (by decide)
  have hprod0 : 0 < nW e fr x * nW e fr y := Nat.mul_pos (by omega) (by omega)
  unfold s_X12_sums__J213 s_X12_sums__J270
  rw [if_pos rfl, if_pos rfl, y_wholeOf h ho hx, bd1_some, y_wholeOf h ho hy, bd1_some, jj_mul, bnd_def, y_placeOf h ho hx, bd1_some, y_placeOf h ho hy, bd1_some, ii_add, bnd_def, ← Int.natCast_mul]
  simp only [kSc0 ho]
  by_cases h5 : nAd k e fr c = 0
  · rw [if_pos h5]
    simp only [if_pos h5]
    obtain ⟨S', r1, r2, r3⟩ := y_rounds (m := xor (nMi e fr x) (nMi e fr y)) (n := nW e fr x * nW e fr y) (pl := nPl e fr x + nPl e fr y) hF hM h ho hm false hprod0 (by omega) (by omega) (by omega)
    rw [show b2 false = (0 : Int32) from rfl] at r1
    rw [r1, bd2_some, ex, ey]
    exact ⟨S', rfl, r2, r3.ys ho⟩
  · rw [if_neg h5]
    simp only [if_neg h5]
    have ec := nAd_W h5
    rw [y_wholeOf h ho hc, bd1_some, y_placeOf h ho hc, bd1_some]
    obtain ⟨S', v, r1, r2, r3, r4⟩ := y_adds hF hM h ho hm (nW e fr x * nW e fr y) (nW e fr c) (nPl e fr x + nPl e fr y) (nPl e fr c) (xor (nMi e fr x) (nMi e fr y)) (nMi e fr c) hprod0 (by omega) hprod (by omega) (by omega) (by omega) (by omega) (by omega)
    rw [r1, bd2_some, ex, ey, ec]
    generalize sN (nW e fr x * nW e fr y) (nPl e fr x + nPl e fr y) (xor (nMi e fr x) (nMi e fr y)) (nW e fr c) (nPl e fr c) (nMi e fr c) = Z at *
    by_cases h6 : Z = 0
    · simp only [if_pos h6]
      obtain ⟨t1, t2⟩ := r3 h6
      exact ⟨S', by rw [t1], r2, t2.ys (fl := 0)⟩
    · simp only [if_neg h6]
      obtain ⟨t1, t2⟩ := r4 h6
      exact ⟨S', by rw [t1]; rfl, r2, t2.ys ho⟩
end SUMS_
end
section
/- what bits of one form are in another one: bits and flags -/
def conF (k1 e1 f1 k e fr : Nat) (L : Bool → Bool → Bool → Bool → Bool) (mode b : Nat) : Nat × Nat :=
  if nInf k1 e1 f1 < nS e1 f1 b then (if k = 3 then (0, 1) else (nNa k e fr, 0))
  else if nS e1 f1 b = nInf k1 e1 f1 then (if k = 3 then (nSg e fr (nMi e1 f1 b) + (nInf k e fr - 1), 1) else (nSg e fr (nMi e1 f1 b) + nInf k e fr, 0))
  else if nS e1 f1 b = 0 then (nSg e fr (nMi e1 f1 b), 0)
  else ((rndN k e fr L mode (nMi e1 f1 b) (nW e1 f1 b) (nPl e1 f1 b) false).1, (rndN k e fr L mode (nMi e1 f1 b) (nW e1 f1 b) (nPl e1 f1 b) false).2.1)
theorem x_conv {F : Nat} {S : HS} {a p1 p2 k1 e1 f1 k e fr law mode b : Nat} (hF : 7 ≤ F) (hf1 : FM S p1 k1 e1 f1) (ho1 : FO k1 e1 f1) (hf : FM S p2 k e fr) (ho : FO k e fr) (hl : gI S 0 a = ii law) (hlaw : law < 65536) (hm : mode < 6) (hb : b < 2 ^ (e1 + f1 + 1)) :
    ∃ S', s_X0_convert F a p1 p2 (ii mode) (ii b) S = some S' ∧ AFr a [1, 2, 3, 4, 6, 7] S S' ∧ gI S' 1 a = ii (conF k1 e1 f1 k e fr (lawB law) mode b).1 ∧ gI S' 2 a = ii (conF k1 e1 f1 k e fr (lawB law) mode b).2 := by
  obtain ⟨S', h1, h2, h3⟩ := x0_convert (law := law) hF hf1 ho1 hf ho hl hlaw hm hb
  refine ⟨S', h1, h2, ?_⟩
  unfold CONR at h3
  unfold conF
  by_cases c1 : nInf k1 e1 f1 < nS e1 f1 b
  · rw [if_pos c1] at h3
    simp only [if_pos c1]
    by_cases hk : k = 3
    · rw [if_pos hk] at h3
      simp only [if_pos hk]
      exact ⟨h3.1, h3.2.1⟩
    · rw [if_neg hk] at h3
      simp only [if_neg hk]
      rw [nNa_eq hk] at h3
      exact ⟨h3.1, h3.2.1⟩
  rw [if_neg c1] at h3
  simp only [if_neg c1]
  by_cases c2 : nS e1 f1 b = nInf k1 e1 f1
  · rw [if_pos c2] at h3
    simp only [if_pos c2]
    by_cases hk : k = 3
    · rw [if_pos hk] at h3
      simp only [if_pos hk]
      exact ⟨h3.1, h3.2.1⟩
    · rw [if_neg hk] at h3
      simp only [if_neg hk]
      exact ⟨h3.1, h3.2.1⟩
  rw [if_neg c2] at h3
  simp only [if_neg c2]
  by_cases c3 : nS e1 f1 b = 0
  · rw [if_pos c3] at h3
    simp only [if_pos c3]
    exact ⟨h3.1, h3.2.1⟩
  · rw [if_neg c3] at h3
    simp only [if_neg c3]
    exact ⟨h3.1, h3.2.1⟩
theorem conF_b {k1 e1 f1 k e fr mode b : Nat} {L : Bool → Bool → Bool → Bool → Bool} (ho : FO k e fr) : (conF k1 e1 f1 k e fr L mode b).1 < 2 ^ (e + fr + 1) ∧ (conF k1 e1 f1 k e fr L mode b).2 < 16 := by
  have hs := sb_le ho
  have hi := nInf_le ho
  have hp : 2 ^ (e + fr + 1) = 2 * 2 ^ (e + fr) := by rw [Nat.pow_succ, Nat.mul_comm]
  unfold conF
  split
  · split
    · exact ⟨by dsimp only; omega, by dsimp only; omega⟩
    · rename_i hk
      have := nNa_b ho hk
      exact ⟨by dsimp only; omega, by dsimp only; omega⟩
  · split
    · split
      · refine ⟨?_, by dsimp only; omega⟩
        dsimp only; unfold nSg; split <;> omega
      · rename_i hk
        exact ⟨(sg_b ho _).2 hk, by dsimp only; omega⟩
    · split
      · exact ⟨(sg_b ho _).1, by dsimp only; omega⟩
      · have := rnd_b (L := L) (mode := mode) (m := nMi e1 f1 b) (n := nW e1 f1 b) (pl := nPl e1 f1 b) (w := false) ho
        exact ⟨this.1, this.2.1⟩
section TURNS
variable {N : Nat → Nat} {F a u fa pi co f k e fr mode g k1 e1 f1 b : Nat} {S : HS} {L : Bool → Bool → Bool → Bool → Bool}
theorem y_turns (hF : 1010 ≤ F) (hM : MR N S a u fa pi co L) (h1 : MU N S a u g k1 e1 f1) (ho1 : FO k1 e1 f1) (h : MU N S a u f k e fr) (ho : FO k e fr) (hm : mode < 6) (hb : b < 2 ^ (e1 + f1 + 1)) :
    ∃ S', s_X12_turns N F a (ii g) (ii f) (ii b) (ii mode) S = some (ii (conF k1 e1 f1 k e fr L mode b).1, S') ∧ YF a fa pi S S' ∧ gI S' 1220 a = ii (conF k1 e1 f1 k e fr L mode b).2 := by
  have w1 := nW_512 (b := b) ho1
  have p1 := nPl_le (b := b) ho1
  unfold s_X12_turns
  rw [y_isMinus h1 ho1 hb, bd1_some, y_signOf h ho, bd1_some]
  have e0 : ∀ (G : Int32 → Option (Int32 × HS)), (if b2 (nMi e1 f1 b) = 0 then G 0 else G (ii (2 ^ (e + fr) : Nat))) = G (ii (nSg e fr (nMi e1 f1 b))) := by
    intro G; cases nMi e1 f1 b <;> rfl
  rw [e0 (fun w => s_X12_turns_J18 N F a (ii g) (ii f) (ii b) (ii mode) w S)]
  unfold s_X12_turns_J18
  rw [y_classOf h1 ho1 hb, bd1_some, y_kindOf h, bd1_some, bd1_some]
  have hcl := @nCl_le k1 e1 f1 b
  have hk4 := ho.1
  have ek : (ii (k : Int) = (3 : Int32)) = (k = 3) := by rw [k3, ii_eq (by omega) (by omega) (by omega) (by omega)]; apply propext; omega
  have tl : ∀ (b' fl : Nat) (v w : Int32), v = ii b' → w = ii fl → ∃ S', bn2 (s_X12_tells a v w S) (fun r21 S22 => some (r21, S22)) = some (ii (b' : Nat), S') ∧ YF a fa pi S S' ∧ gI S' 1220 a = ii fl := by
    intro b' fl v w hv hw
    obtain ⟨S', t1, t2, t3⟩ := @y_tells S a fa pi v w
    rw [bn2_eq t1, hv]
    exact ⟨S', rfl, t2, by rw [t3.1, hw]⟩
  have rd : nS e1 f1 b ≠ 0 → ¬ nInf k1 e1 f1 < nS e1 f1 b → nS e1 f1 b ≠ nInf k1 e1 f1 → ∃ S', s_X12_turns_J136 N F a (ii g) (ii f) (ii b) (ii mode) S = some (ii (conF k1 e1 f1 k e fr L mode b).1, S') ∧ YF a fa pi S S' ∧ gI S' 1220 a = ii (conF k1 e1 f1 k e fr L mode b).2 := by
    intro q1 q2 q3
    unfold s_X12_turns_J136
    rw [y_isMinus h1 ho1 hb, bd1_some, y_wholeOf h1 ho1 hb, bd1_some, y_placeOf h1 ho1 hb, bd1_some]
    obtain ⟨S', r1, r2, r3⟩ := y_rounds (m := nMi e1 f1 b) (n := nW e1 f1 b) (pl := nPl e1 f1 b) hF hM h ho hm false (nW_pos q1) (by omega) (by omega) (by omega)
    rw [show b2 false = (0 : Int32) from rfl] at r1
    rw [r1, bd2_some]
    unfold conF
    rw [if_neg q2, if_neg q3, if_neg q1]
    exact ⟨S', rfl, r2, r3.1⟩
  have c4 := nCl_4 (b := b) ho1
  have c3 := nCl_3 (b := b) ho1
  have c0 := @nCl_0 k1 e1 f1 b
  have : nCl k1 e1 f1 b = 0 ∨ nCl k1 e1 f1 b = 1 ∨ nCl k1 e1 f1 b = 2 ∨ nCl k1 e1 f1 b = 3 ∨ nCl k1 e1 f1 b = 4 := by omega
  have hi1 := nInf_le ho1
  rcases this with q | q | q | q | q <;> rw [q] at c4 c3 c0 ⊢
  · have z := c0.mp rfl
    rw [if_pos (by decide)]
    have ec : conF k1 e1 f1 k e fr L mode b = (nSg e fr (nMi e1 f1 b), 0) := by
      unfold conF
      rw [if_neg (by omega), if_neg (by omega), if_pos z]
    rw [ec]
    exact tl _ _ _ _ rfl rfl
  · rw [if_neg (by decide), if_pos (by decide)]
    exact rd (by omega) (by omega) (by omega)
  · rw [if_neg (by decide), if_neg (by decide), if_pos (by decide)]
    exact rd (by omega) (by omega) (by omega)
  · rw [if_neg (by decide), if_neg (by decide), if_neg (by decide), if_pos (by decide)]
    have z := c3.mp rfl
    simp only [ek]
    by_cases hk : k = 3
    · rw [if_pos hk, y_greatestOf h ho, bd1_some]
      have ec : conF k1 e1 f1 k e fr L mode b = (nSg e fr (nMi e1 f1 b) + (nInf k e fr - 1), 1) := by
        unfold conF
        rw [if_neg (by omega), if_pos z, if_pos hk]
      rw [ec]
      exact tl _ 1 _ _ (by rw [ii_add, ← Int.natCast_add]) rfl
    · rw [if_neg hk, y_infOf h ho hk, bd1_some]
      have ec : conF k1 e1 f1 k e fr L mode b = (nSg e fr (nMi e1 f1 b) + nInf k e fr, 0) := by
        unfold conF
        rw [if_neg (by omega), if_pos z, if_neg hk]
      rw [ec]
      exact tl _ 0 _ _ (by rw [ii_add, ← Int.natCast_add]) rfl
  · rw [if_neg (by decide), if_neg (by decide), if_neg (by decide), if_neg (by decide), if_pos (by decide)]
    have z := c4.mp rfl
    simp only [ek]
    by_cases hk : k = 3
    · rw [if_pos hk]
      have ec : conF k1 e1 f1 k e fr L mode b = (0, 1) := by
        unfold conF
        rw [if_pos z, if_pos hk]
      rw [ec]
      exact tl 0 1 _ _ rfl rfl
    · rw [if_neg hk, y_nanOf h ho, bd1_some]
      have ec : conF k1 e1 f1 k e fr L mode b = (nNa k e fr, 0) := by
        unfold conF
        rw [if_pos z, if_neg hk]
      rw [ec]
      exact tl _ 0 _ _ (by rw [nNa_eq hk]) rfl
end TURNS
end
