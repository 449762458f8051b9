section
theorem kept_lt {n fr : Nat} {d : Int} (hn : 0 < n) (hd : (n.log2 : Int) - fr ≤ d) : (rCut n d false).1 < 2 ^ (fr + 1) := by
  have h2 : n < 2 ^ (n.log2 + 1) := Nat.lt_log2_self
  unfold rCut
  by_cases h : d ≤ 0
  · rw [if_pos h]
    show n * 2 ^ (-d).toNat < 2 ^ (fr + 1)
    calc n * 2 ^ (-d).toNat < 2 ^ (n.log2 + 1) * 2 ^ (-d).toNat := Nat.mul_lt_mul_of_pos_right h2 (Nat.two_pow_pos _)
      _ = 2 ^ (n.log2 + 1 + (-d).toNat) := by rw [← Nat.pow_add]
      _ ≤ 2 ^ (fr + 1) := pow_mono (by omega)
  · rw [if_neg h]
    show n / 2 ^ d.toNat < 2 ^ (fr + 1)
    rw [Nat.div_lt_iff_lt_mul (Nat.two_pow_pos _), ← Nat.pow_add]
    exact Nat.lt_of_lt_of_le h2 (pow_mono (by omega))
/- what the adder holds after it has rounded -/
def AR (S' : HS) (a : Nat) (m : Bool) (R : Nat × Nat × Int × Bool × Bool) : Prop := gI S' 1 a = ii R.1 ∧ gI S' 2 a = ii R.2.1 ∧ gI S' 3 a = ii (if m then -R.2.2.1 else R.2.2.1) ∧ gI S' 4 a = 1 ∧ gI S' 6 a = b2 R.2.2.2.1 ∧ gI S' 7 a = b2 R.2.2.2.2
theorem x0_settle {S : HS} {a : Nat} (w1 w2 : Int32) (m : Bool) (f : Int) : ∃ S', s_X0_settle a w1 w2 (b2 m) (ii f) S = S' ∧ gI S' 1 a = w1 ∧ gI S' 2 a = w2 ∧ gI S' 3 a = ii (if m then -f else f) ∧ gI S' 4 a = gI S 4 a ∧ gI S' 6 a = gI S 6 a ∧ gI S' 7 a = gI S 7 a ∧ AFr a [1, 2, 3, 4, 6, 7] S S' := by
  refine ⟨_, rfl, ?_⟩
  unfold s_X0_settle s_X0_settle_J23 bnd
  cases m
  · simp only [b2_0, if_true]
    exact ⟨by simp [gI_uI], by simp [gI_uI], by simp [gI_uI], by simp [gI_uI], by simp [gI_uI], by simp [gI_uI], (((AFr.refl a _ S).uI 1 _ (by simp)).uI 2 _ (by simp)).uI 3 _ (by simp)⟩
  · simp only [b2_0, Bool.true_eq_false, if_false, if_true]
    exact ⟨by simp [gI_uI], by simp [gI_uI], by simp [gI_uI, ii_neg], by simp [gI_uI], by simp [gI_uI], by simp [gI_uI], (((AFr.refl a _ S).uI 1 _ (by simp)).uI 2 _ (by simp)).uI 3 _ (by simp)⟩
theorem FM.mono {S S' : HS} {a p k e fr : Nat} (h : FM S p k e fr) (hA : AFr a [1, 2, 3, 4, 6, 7] S S') : FM S' p k e fr := by
  have q : ∀ f, 100 ≤ f → gI S' f p = gI S f p := fun f hf => hA.1 f p (by rintro ⟨-, h2⟩; simp at h2; omega)
  unfold FM at *
  rw [q 200 (by decide), q 201 (by decide), q 202 (by decide), q 203 (by decide), q 204 (by decide), q 205 (by decide), q 206 (by decide), q 207 (by decide)]
  exact h
def rEnd (k e fr : Nat) (L : Bool → Bool → Bool → Bool → Bool) (mode : Nat) (m tiny more : Bool) (told : Nat) (g r : Bool) : Nat × Nat × Int × Bool × Bool :=
  if nInf k e fr ≤ told then
    (if (decide (k = 2 ∨ k = 3) || !gUp L mode m true true true) = true then (nSg e fr m + (nInf k e fr - 1), 10, -1, g, r) else (nSg e fr m + nInf k e fr, 10, 1, g, r))
  else if tiny = true ∧ k = 1 then (nSg e fr m, 12, -1, g, r)
  else if (g || r) = true then (nSg e fr m + told, (if tiny = true then 12 else 8), (if more = true then 1 else -1), g, r)
  else (nSg e fr m + told, 0, 0, g, r)
section ROUND
variable {F : Nat} {S : HS} {a p k e fr law mode : Nat} {m tiny more g r : Bool} {told : Nat}
theorem x_nor (hf : FM S p k e fr) (ht : told < 2 ^ (e + fr)) : s_X2_noughtOf p (b2 m) S ||| (jj told).toInt32 = ii (nSg e fr m + told : Nat) := by
  rw [x2_noughtOf hf, jj_ii, ← sg_or e fr told m ht]
  cases m
  · simp only [nSg, if_true, Bool.false_eq_true, if_false]
    rw [ii_or, Nat.zero_or]
  · simp only [nSg, if_true, Bool.true_eq_false, if_false]
    rw [ii_or, ii_or, Nat.or_comm]
theorem x_J243 (hf : FM S p k e fr) (ht : told < 2 ^ (e + fr)) (h4 : gI S 4 a = 1) (h6 : gI S 6 a = b2 g) (h7 : gI S 7 a = b2 r) :
    ∃ S', s_X0_round_J243 F a p (b2 m) (b2 tiny) (b2 more) (jj told) S = some S' ∧ AR S' a m (if (g || r) = true then (nSg e fr m + told, (if tiny = true then 12 else 8), (if more = true then 1 else -1), g, r) else (nSg e fr m + told, 0, 0, g, r)) ∧ AFr a [1, 2, 3, 4, 6, 7] S S' := by
  unfold s_X0_round_J243 s_X0_round_J257 s_X0_round_J269 s_X0_round_J294 bnd
  rw [h6, h7, x_nor hf ht]
  simp only [b2_0]
  have key : ∀ (w2 : Nat) (x : Int32) (_ : x = ii w2) (f : Int) (y : Int32) (_ : y = ii f), ∃ S', some (s_X0_settle a (ii (nSg e fr m + told : Nat)) x (b2 m) y S) = some S' ∧ AR S' a m (nSg e fr m + told, w2, f, g, r) ∧ AFr a [1, 2, 3, 4, 6, 7] S S' := by
    intro w2 x hx f y hy
    subst hx hy
    obtain ⟨S', e1, q1, q2, q3, q4, q6, q7, qA⟩ := @x0_settle S a (ii (nSg e fr m + told : Nat)) (ii w2) m f
    exact ⟨S', by rw [e1], ⟨q1, q2, q3, by rw [q4, h4], by rw [q6, h6], by rw [q7, h7]⟩, qA⟩
  generalize nSg e fr m + told = B at *
  cases g <;> cases r <;> cases tiny <;> cases more <;> simp only [if_true, if_false, Bool.false_eq_true, Bool.true_eq_false, Bool.or_false, Bool.or_true, Bool.or_self, Bool.true_or, Bool.false_or]
  · exact key 0 0 (by decide) 0 0 (by decide)
  · exact key 0 0 (by decide) 0 0 (by decide)
  · exact key 0 0 (by decide) 0 0 (by decide)
  · exact key 0 0 (by decide) 0 0 (by decide)
  · exact key 8 8 (by decide) (-1) (-1) (by decide)
  · exact key 8 8 (by decide) 1 1 (by decide)
  · exact key 12 12 (by decide) (-1) (-1) (by decide)
  · exact key 12 12 (by decide) 1 1 (by decide)
  · exact key 8 8 (by decide) (-1) (-1) (by decide)
  · exact key 8 8 (by decide) 1 1 (by decide)
  · exact key 12 12 (by decide) (-1) (-1) (by decide)
  · exact key 12 12 (by decide) 1 1 (by decide)
  · exact key 8 8 (by decide) (-1) (-1) (by decide)
  · exact key 8 8 (by decide) 1 1 (by decide)
  · exact key 12 12 (by decide) (-1) (-1) (by decide)
  · exact key 12 12 (by decide) 1 1 (by decide)
theorem x_J170 (hf : FM S p k e fr) (ho : FO k e fr) (h4 : gI S 4 a = 1) (h6 : gI S 6 a = b2 g) (h7 : gI S 7 a = b2 r) (w : Bool) (hw : w = true → k ≠ 3) :
    ∃ S', s_X0_round_J170 F a p (b2 m) (b2 w) S = some S' ∧ AR S' a m (if w = true then (nSg e fr m + nInf k e fr, 10, 1, g, r) else (nSg e fr m + (nInf k e fr - 1), 10, -1, g, r)) ∧ AFr a [1, 2, 3, 4, 6, 7] S S' := by
  unfold s_X0_round_J170 s_X0_round_J190 s_X0_round_J208 bnd
  have key : ∀ (x : Nat) (f : Int), ∃ S', some (s_X0_settle a (ii x) 10 (b2 m) (ii f) S) = some S' ∧ AR S' a m (x, 10, f, g, r) ∧ AFr a [1, 2, 3, 4, 6, 7] S S' := by
    intro x f
    obtain ⟨S', e1, q1, q2, q3, q4, q6, q7, qA⟩ := @x0_settle S a (ii x) 10 m f
    exact ⟨S', by rw [e1], ⟨q1, q2, q3, by rw [q4, h4], by rw [q6, h6], by rw [q7, h7]⟩, qA⟩
  simp only [b2_0]
  cases w
  · rw [if_pos rfl, if_pos rfl, x2_greatestOf hf ho]
    exact key _ (-1)
  · rw [if_neg (by decide), if_neg (by decide), x2_infinityOf hf ho (hw rfl)]
    exact key _ 1
theorem x_J131 (hf : FM S p k e fr) (ho : FO k e fr) (hl : gI S 0 a = ii law) (hlaw : law < 65536) (hm : mode < 6) (h4 : gI S 4 a = 1) (h6 : gI S 6 a = b2 g) (h7 : gI S 7 a = b2 r) {T : Nat} (hT : T < 4611686018427387904) :
    ∃ S', s_X0_round_J131 F a p (ii mode) (b2 m) (b2 tiny) (b2 more) (jj T) (b2 more) S = some S' ∧ AR S' a m (rEnd k e fr (lawB law) mode m tiny more (T + (if more then 1 else 0)) g r) ∧ AFr a [1, 2, 3, 4, 6, 7] S S' := by
  have hs := sb_le ho
  have hi := nInf_le ho
  have em : (b2 more).toInt64 = jj (if more then 1 else 0 : Nat) := by cases more <;> rfl
  unfold s_X0_round_J131 bnd
  rw [em, jj_add, hf.2.2.2.2.2.2.1, ii_jj (by omega) (by omega), hf.1]
  rw [show ((T : Int) + ((if more then 1 else 0 : Nat) : Nat)) = ((T + (if more then 1 else 0) : Nat) : Int) by omega]
  have hto : T + (if more then 1 else 0) < 4611686018427387905 := by split <;> omega
  generalize T + (if more then 1 else 0) = told at *
  dsimp only
  rw [lg_c (by omega) (by omega) (by omega) (by omega)]
  unfold rEnd
  by_cases hov : nInf k e fr ≤ told
  · rw [if_pos (show ((nInf k e fr - 1 : Nat) : Int) < (told : Int) by omega), if_neg (by decide), if_pos hov, x2_saturates hf ho]
    simp only [b2_0]
    by_cases hk : k = 2 ∨ k = 3
    · rw [if_neg (by simp [hk]), if_pos (by simp [hk])]
      exact x_J170 hf ho h4 h6 h7 false (fun q => by cases q)
    · rw [if_pos (by simp [hk])]
      have hg := x0_goesUp (S := S) (a := a) hl hlaw hm m true true true
      rw [show (b2 true) = 1 from rfl] at hg
      rw [hg]
      unfold bd1
      dsimp only
      cases hgu : gUp (lawB law) mode m true true true
      · rw [if_pos (by decide), if_pos (by simp)]
        exact x_J170 hf ho h4 h6 h7 false (fun q => by cases q)
      · rw [if_neg (by decide), if_neg (by simp [hk])]
        exact x_J170 hf ho h4 h6 h7 true (fun _ => by omega)
  · have ht : told < 2 ^ (e + fr) := by omega
    rw [if_neg hov]
    have hle : ((if ((nInf k e fr - 1 : Nat) : Int) < (told : Int) then (1 : Int32) else if (told : Int) = ((nInf k e fr - 1 : Nat) : Int) then 0 else -1) ≤ 0) := by
      rw [if_neg (by omega)]
      split <;> decide
    rw [if_pos hle]
    simp only [b2_0]
    have kk : ((ii (k : Int) : Int32) = 1) = (k = 1) := by
      have := ho.1
      rw [show (1 : Int32) = ii 1 from rfl, ii_eq (by omega) (by omega) (by omega) (by omega)]
      exact propext ⟨fun q => by omega, fun q => by omega⟩
    simp only [kk]
    cases tiny
    · rw [if_pos rfl, if_neg (by simp)]
      exact x_J243 (tiny := false) hf ht h4 h6 h7
    · rw [if_neg (by decide)]
      by_cases hk1 : k = 1
      · rw [if_pos hk1, if_pos ⟨rfl, hk1⟩, x2_noughtOf hf]
        obtain ⟨S', e1, q1, q2, q3, q4, q6, q7, qA⟩ := @x0_settle S a (ii (nSg e fr m)) 12 m (-1)
        exact ⟨S', by rw [show (-1 : Int32) = ii (-1) from rfl, e1], ⟨q1, q2, q3, by rw [q4, h4], by rw [q6, h6], by rw [q7, h7]⟩, qA⟩
      · rw [if_neg hk1, if_neg (by simp [hk1])]
        exact x_J243 (tiny := true) hf ht h4 h6 h7
end ROUND
end
section
theorem rFin_eq (k e fr : Nat) (L : Bool → Bool → Bool → Bool → Bool) (mode : Nat) (m : Bool) (hi : Int) (c : Nat × Bool × Bool) :
    rFin k e fr L mode m hi c = rEnd k e fr L mode m (decide (hi < 1 - nB e)) (gUp L mode m (decide (c.1 % 2 = 1)) c.2.1 c.2.2) ((nLast e fr hi - (1 - nB e - fr)).toNat * 2 ^ fr + c.1 + (if gUp L mode m (decide (c.1 % 2 = 1)) c.2.1 c.2.2 then 1 else 0)) c.2.1 c.2.2 := by
  unfold rFin rEnd
  simp only [decide_eq_true_eq]
theorem bd1_some {α β : Type} (x : α) (k : α → Option β) : bd1 (some x) k = k x := rfl
theorem bnd_def {α β : Type} (x : α) (k : α → β) : bnd x k = k x := rfl
theorem AFr.get {a : Nat} {fs : List Nat} {S S' : HS} (h : AFr a fs S S') (f b : Nat) (hf : f ∉ fs) : gI S' f b = gI S f b := h.1 f b (fun q => hf q.2)
set_option maxRecDepth 100000 in
theorem x0_round {F : Nat} {S : HS} {a p k e fr law mode n : Nat} {m : Bool} {pl : Int} (hF : 7 ≤ F) (hf : FM S p k e fr) (ho : FO k e fr) (hl : gI S 0 a = ii law) (hlaw : law < 65536) (hm : mode < 6)
    (hn0 : 0 < n) (hn : n < 2305843009213693952) (hp1 : -1000 ≤ pl) (hp2 : pl ≤ 1000) :
    ∃ S', s_X0_round F a p (ii mode) (b2 m) (jj n) (ii pl) S = some S' ∧ AR S' a m (rndN k e fr (lawB law) mode m n pl false) ∧ AFr a [1, 2, 3, 4, 6, 7] S S' := by
  have hlog : n.log2 ≤ 60 := by have := (Nat.log2_lt (n := n) (k := 61) (by omega)).mpr (by omega); omega
  have hbl : nBl n = n.log2 + 1 := by unfold nBl; rw [if_neg (by omega)]
  have hB := nB_le ho
  have hfr := fr_le ho
  have hla := nLast_ge e fr (n.log2 + pl)
  have hla2 : nLast e fr (n.log2 + pl) ≤ 1200 ∧ 1 - nB e - fr ≤ nLast e fr (n.log2 + pl) := by
    unfold nLast
    have := ho.2.2.2
    split <;> omega
  have hfo := ho.2.2.2
  unfold s_X0_round
  rw [x_bl hF (by omega), hbl, bd1_some, bnd_def, bnd_def, bnd_def]
  have e1 : ii ((n.log2 + 1 : Nat) : Int) - 1 + ii pl = ii (n.log2 + pl) := by
    rw [show (1 : Int32) = ii 1 from rfl, ii_sub, ii_add]; congr 1; omega
  rw [e1, hf.2.2.2.1, hf.2.2.1, show (1 : Int32) = ii 1 from rfl, ii_sub, ii_sub, ii_sub]
  have e2 : (if ii (n.log2 + pl - fr) < ii (1 - nB e - fr) then ii (1 - nB e - fr) else ii (n.log2 + pl - fr)) = ii (nLast e fr (n.log2 + pl)) := by
    simp only [ii_lt (a := (n.log2 : Int) + pl - fr) (b := 1 - nB e - fr) (by omega) (by omega) (by omega) (by omega)]
    unfold nLast
    by_cases h : (n.log2 : Int) + pl - fr < 1 - nB e - fr
    · rw [if_pos h, if_pos h]
    · rw [if_neg h, if_neg h]
  rw [e2]
  have e3 : ∀ (G : Int32 → Option HS), (if ii (1 - nB e) ≤ ii (n.log2 + pl) then G 0 else G (ii 1)) = G (b2 (decide ((n.log2 : Int) + pl < 1 - nB e))) := by
    intro G
    simp only [ii_le (a := 1 - nB e) (b := (n.log2 : Int) + pl) (by omega) (by omega) (by omega) (by omega)]
    by_cases h : (n.log2 : Int) + pl < 1 - nB e
    · rw [if_neg (by omega), decide_eq_true h]; rfl
    · rw [if_pos (by omega), decide_eq_false h]; rfl
  rw [e3 (fun w => s_X0_round_J55 F a p (ii mode) (b2 m) (jj n) (ii pl) (ii (1 - nB e - fr)) (ii (nLast e fr (n.log2 + pl))) w S)]
  unfold s_X0_round_J55
  rw [ii_sub]
  obtain ⟨S6, c1, c5, c6, c7, cA⟩ := @x0_cut S a n (nLast e fr (n.log2 + pl) - pl) hn0 (by omega) (by omega) (by omega)
  rw [c1, bd1_some, bnd_def]
  have hk : (rCut n (nLast e fr (n.log2 + pl) - pl) false).1 < 2 ^ (fr + 1) := kept_lt hn0 (by omega)
  unfold rndN
  rw [rFin_eq]
  generalize hc : rCut n (nLast e fr (n.log2 + pl) - pl) false = c at *
  obtain ⟨kept, g, r⟩ := c
  dsimp only at *
  have hkept : kept < 524288 := Nat.lt_of_lt_of_le hk (Nat.le_trans (pow_mono (show fr + 1 ≤ 19 by omega)) (by decide))
  have hA7 : AFr a [1, 2, 3, 4, 6, 7] S (uI S6 4 a 1) := (cA.trans (hs := [1, 2, 3, 4, 6, 7]) (AFr.refl a [] S6) (by simp) (by simp)).uI 4 1 (by simp)
  have g5 : gJ (uI S6 4 a 1) 5 a = jj kept := by rw [gJ_uI]; exact c5
  have g6 : gI (uI S6 4 a 1) 6 a = b2 g := by rw [gI_uI, if_neg (by simp)]; exact c6
  have g7 : gI (uI S6 4 a 1) 7 a = b2 r := by rw [gI_uI, if_neg (by simp)]; exact c7
  have g4 : gI (uI S6 4 a 1) 4 a = 1 := by rw [gI_uI, if_pos (by simp)]
  have g0 : gI (uI S6 4 a 1) 0 a = ii law := by rw [hA7.get 0 a (by simp)]; exact hl
  have f7 : FM (uI S6 4 a 1) p k e fr := hf.mono hA7
  generalize uI S6 4 a 1 = S7 at *
  have e4 : ∀ (G : Int32 → Option HS), (if lg_cmp (gJ S7 5 a &&& 1) 1 = 0 then G 1 else G 0) = G (b2 (decide (kept % 2 = 1))) := by
    intro G
    rw [g5, show (1 : Int64) = jj (1 : Nat) from rfl, jj_and, Nat.and_one_is_mod]
    have hm2 : kept % 2 < 2 := Nat.mod_lt _ (by decide)
    generalize kept % 2 = q at *
    rw [lg_c (by omega) (by omega) (by omega) (by omega)]
    have : q = 0 ∨ q = 1 := by omega
    rcases this with h | h <;> subst h <;> rfl
  rw [e4 (fun w => s_X0_round_J92 F a p (ii mode) (b2 m) (ii (1 - nB e - fr)) (ii (nLast e fr (n.log2 + pl))) (b2 (decide ((n.log2 : Int) + pl < 1 - nB e))) a (ii mode) (b2 m) w S7)]
  unfold s_X0_round_J92
  rw [g6, g7, x0_goesUp g0 hlaw hm, g5, f7.2.2.1, ii_sub, ii_jj (by omega) (by omega), jj_shl _ (by omega), jj_add, bd1_some]
  generalize hmo : gUp (lawB law) mode m (decide (kept % 2 = 1)) g r = more at *
  have e5 : ∀ (G : Int32 → Option HS), (if b2 more = 0 then G 0 else G 1) = G (b2 more) := by
    intro G; cases more <;> rfl
  rw [e5 (fun w => s_X0_round_J131 F a p (ii mode) (b2 m) (b2 (decide ((n.log2 : Int) + pl < 1 - nB e))) (b2 more) (jj ((nLast e fr (n.log2 + pl) - (1 - nB e - fr)) * (2 ^ fr : Nat) + kept)) w S7)]
  have e6 : (nLast e fr (n.log2 + pl) - (1 - nB e - fr)) * ((2 ^ fr : Nat) : Int) + kept = (((nLast e fr (n.log2 + pl) - (1 - nB e - fr)).toNat * 2 ^ fr + kept : Nat) : Int) := by
    rw [Int.natCast_add, Int.natCast_mul, Int.toNat_of_nonneg (by omega)]
  rw [e6]
  have hT : (nLast e fr (n.log2 + pl) - (1 - nB e - fr)).toNat * 2 ^ fr + kept < 4611686018427387904 := by
    have : (nLast e fr (n.log2 + pl) - (1 - nB e - fr)).toNat * 2 ^ fr ≤ 2000 * 262144 := Nat.mul_le_mul (by omega) hfr.2
    omega
  obtain ⟨S', r1, r2, r3⟩ := x_J131 (F := F) (tiny := decide ((n.log2 : Int) + pl < 1 - nB e)) (more := more) (m := m) f7 ho g0 hlaw hm g4 g6 g7 hT
  exact ⟨S', r1, r2, hA7.trans r3 (fun _ h => h) (fun _ h => h)⟩
end
section
theorem x0_shifted {S : HS} {Y : Nat} {d : Int} (hY : Y < 9223372036854775808) (h1 : -100000 < d) (h2 : d < 100000) : s_X0_shifted (jj Y) (ii d) S = jj (shY Y d.toNat) := by
  unfold s_X0_shifted
  by_cases h : d ≤ 0
  · rw [if_neg (by rw [show (0 : Int32) = ii 0 from rfl, ii_lt (by omega) (by omega) (by omega) (by omega)]; omega), show d.toNat = 0 by omega, shY_0]
  · rw [if_pos (by rw [show (0 : Int32) = ii 0 from rfl, ii_lt (by omega) (by omega) (by omega) (by omega)]; omega)]
    obtain ⟨m, rfl⟩ : ∃ m : Nat, d = m := ⟨d.toNat, by omega⟩
    rw [show ((m : Nat) : Int).toNat = m by omega]
    unfold shY
    by_cases h60 : 60 ≤ m
    · rw [if_neg (by rw [show (60 : Int32) = ii 60 from rfl, ii_lt (by omega) (by omega) (by omega) (by omega)]; omega), if_pos h60]; rfl
    · rw [if_pos (by rw [show (60 : Int32) = ii 60 from rfl, ii_lt (by omega) (by omega) (by omega) (by omega)]; omega), if_neg h60, ju_shr hY (by omega)]
/- what the adder holds when it was told a result that is not rounded -/
def AT (S' : HS) (a : Nat) (b f : Int32) : Prop := gI S' 1 a = b ∧ gI S' 2 a = f ∧ gI S' 3 a = 0 ∧ gI S' 4 a = 0
theorem x0_tell {S : HS} {a : Nat} (b f : Int32) : AT (s_X0_tell a b f S) a b f ∧ AFr a [1, 2, 3, 4, 6, 7] S (s_X0_tell a b f S) := by
  unfold s_X0_tell bnd
  exact ⟨⟨by simp [gI_uI], by simp [gI_uI], by simp [gI_uI], by simp [gI_uI]⟩, ((((AFr.refl a _ S).uI 1 _ (by simp)).uI 2 _ (by simp)).uI 3 _ (by simp)).uI 4 _ (by simp)⟩
end
section
theorem nW_pos {e fr b : Nat} (h : nS e fr b ≠ 0) : 0 < nW e fr b := by
  have := Nat.two_pow_pos fr
  unfold nW
  split <;> omega
theorem nAd_lt {k e fr b : Nat} (ho : FO k e fr) : nAd k e fr b < 524288 := by
  have hw := nW_lt (b := b) ho
  have : nW e fr b < 524288 := Nat.lt_of_lt_of_le hw (Nat.le_trans (pow_mono (show fr + 1 ≤ 19 by have := ho.2.2.2.2; omega)) (by decide))
  unfold nAd
  split <;> omega
theorem log2_37 {A : Nat} (hA : 0 < A) (h : A < 274877906944) : A.log2 ≤ 37 := by
  have := (Nat.log2_lt (n := A) (k := 38) (by omega)).mpr (by omega)
  omega
theorem jj_sg (m : Bool) (x : Nat) : (if m = false then jj x else -(jj x)) = jj (sgnN m x) := by
  cases m
  · rfl
  · rw [if_neg (by decide), jj_neg]; rfl
theorem shY_le {A s d : Nat} (h : A * 2 ^ s < 2 ^ 60) : shY (A * 2 ^ s) d < 1152921504606846976 := by
  have : A * 2 ^ s < 1152921504606846976 := h
  unfold shY
  split
  · omega
  · exact Nat.lt_of_le_of_lt (Nat.div_le_self _ _) this
theorem sgn_b {m : Bool} {x : Nat} (h : x < 1152921504606846976) : -1152921504606846976 < sgnN m x ∧ sgnN m x < 1152921504606846976 := by
  unfold sgnN
  split <;> omega
theorem x_J119 {F : Nat} {S : HS} {a p k e fr law mode : Nat} {v6 v10 v12 X Y Z P : Int} (hF : 7 ≤ F) (hf : FM S p k e fr) (ho : FO k e fr) (hl : gI S 0 a = ii law) (hlaw : law < 65536) (hm : mode < 6)
    (hZ : Z = X + Y) (hZ1 : -2305843009213693952 < Z) (hZ2 : Z < 2305843009213693952) (h12 : -100000 < v12 ∧ v12 < 100000) (hP : P = v6 - v10 + (if -v12 < 0 then 0 else -v12)) (hP1 : -1000 ≤ P) (hP2 : P ≤ 1000) :
    ∃ S', s_X0_addToProduct_J119 F a p (ii mode) (ii v6) (ii v10) (ii v12) (jj X) (jj Y) S = some S' ∧ AFr a [1, 2, 3, 4, 6, 7] S S' ∧ (Z = 0 → AT S' a (ii (nSg e fr (decide (mode = 2)))) 0) ∧ (Z ≠ 0 → AR S' a (decide (Z < 0)) (rndN k e fr (lawB law) mode (decide (Z < 0)) Z.natAbs P false)) := by
  have eP : ii v6 - ii v10 + (if -ii v12 < (0 : Int32) then 0 else -ii v12) = ii P := by
    rw [ii_sub, ii_neg]
    simp only [show (0 : Int32) = ii 0 from rfl, ii_lt (a := -v12) (b := 0) (by omega) (by omega) (by omega) (by omega)]
    by_cases h : -v12 < 0
    · rw [if_pos h, ii_add, hP, if_pos h]
    · rw [if_neg h, ii_add, hP, if_neg h]
  unfold s_X0_addToProduct_J119
  rw [bnd_def, jj_add, ← hZ, show (0 : Int64) = jj 0 from rfl, lg_c (by omega) (by omega) (by omega) (by omega)]
  by_cases h0 : Z = 0
  · subst h0
    rw [if_pos (by decide)]
    have hmm : ((ii (mode : Int) : Int32) = 2) = (mode = 2) := by
      rw [show (2 : Int32) = ii 2 from rfl, ii_eq (by omega) (by omega) (by omega) (by omega)]
      exact propext ⟨fun q => by omega, fun q => by omega⟩
    simp only [hmm]
    have key : ∀ w : Bool, ∃ S', s_X0_addToProduct_J141 F a p (b2 w) S = some S' ∧ AFr a [1, 2, 3, 4, 6, 7] S S' ∧ AT S' a (ii (nSg e fr w)) 0 := by
      intro w
      unfold s_X0_addToProduct_J141
      rw [bnd_def, x2_noughtOf hf]
      exact ⟨_, rfl, (x0_tell _ _).2, (x0_tell _ _).1⟩
    by_cases h2 : mode = 2
    · obtain ⟨S', q1, q2, q3⟩ := key true
      rw [if_pos h2, decide_eq_true h2]
      exact ⟨S', q1, q2, fun _ => q3, fun h => absurd rfl h⟩
    · obtain ⟨S', q1, q2, q3⟩ := key false
      rw [if_neg h2, decide_eq_false h2]
      exact ⟨S', q1, q2, fun _ => q3, fun h => absurd rfl h⟩
  · have c0 : ¬ ((if (0 : Int) < Z then (1 : Int32) else if Z = 0 then 0 else -1) = 0) := by
      by_cases hp : 0 < Z
      · rw [if_pos hp]; decide
      · rw [if_neg hp, if_neg h0]; decide
    rw [if_neg c0]
    have key : ∀ w : Bool, w = decide (Z < 0) → ∃ S', s_X0_addToProduct_J166 F (ii v6) (ii v10) (ii v12) (jj Z) a p (ii mode) (b2 w) S = some S' ∧ AFr a [1, 2, 3, 4, 6, 7] S S' ∧ AR S' a (decide (Z < 0)) (rndN k e fr (lawB law) mode (decide (Z < 0)) Z.natAbs P false) := by
      intro w hw
      unfold s_X0_addToProduct_J166 s_X0_addToProduct_J181
      rw [show (0 : Int64) = jj 0 from rfl, lg_c (by omega) (by omega) (by omega) (by omega), eP, jj_neg]
      obtain ⟨S', r1, r2, r3⟩ := @x0_round F S a p k e fr law mode Z.natAbs w P hF hf ho hl hlaw hm (by omega) (by omega) hP1 hP2
      rw [hw] at r2
      by_cases hp : 0 < Z
      · rw [if_pos hp, if_pos (by decide), show jj Z = jj (Z.natAbs : Int) by congr 1; omega, r1, bd1_some]
        exact ⟨S', rfl, r3, r2⟩
      · rw [if_neg hp, if_neg h0, if_neg (by decide), show jj (-Z) = jj (Z.natAbs : Int) by congr 1; omega, r1, bd1_some]
        exact ⟨S', rfl, r3, r2⟩
    by_cases hp : 0 < Z
    · rw [if_pos hp, if_pos (by decide)]
      obtain ⟨S', q1, q2, q3⟩ := key false (by rw [decide_eq_false (by omega)])
      exact ⟨S', q1, q2, fun h => absurd h h0, fun _ => q3⟩
    · rw [if_neg hp, if_neg h0, if_neg (by decide)]
      obtain ⟨S', q1, q2, q3⟩ := key true (by rw [decide_eq_true (by omega)])
      exact ⟨S', q1, q2, fun h => absurd h h0, fun _ => q3⟩
end
section
theorem x0_addToProduct {F : Nat} {S : HS} {a p k e fr law mode A b : Nat} {m : Bool} {pa : Int} (hF : 7 ≤ F) (hf : FM S p k e fr) (ho : FO k e fr) (hl : gI S 0 a = ii law) (hlaw : law < 65536) (hm : mode < 6)
    (hA : 0 < A) (hA2 : A < 274877906944) (hp1 : -400 ≤ pa) (hp2 : pa ≤ 600) (hb : b < 2 ^ (e + fr + 1)) :
    ∃ S', s_X0_addToProduct F a p (ii mode) (b2 m) (jj A) (ii pa) (ii b) S = some S' ∧ AFr a [1, 2, 3, 4, 6, 7] S S' ∧
      (nAd k e fr b = 0 → AR S' a m (rndN k e fr (lawB law) mode m A pa false)) ∧
      (nAd k e fr b ≠ 0 → ∀ N : Int, N = sN A pa m (nAd k e fr b) (nPl e fr b) (nMi e fr b) → (N = 0 → AT S' a (ii (nSg e fr (decide (mode = 2)))) 0) ∧ (N ≠ 0 → AR S' a (decide (N < 0)) (rndN k e fr (lawB law) mode (decide (N < 0)) N.natAbs (sQ pa (nPl e fr b)) false))) := by
  have hC := nAd_lt (b := b) ho
  have hpl := nPl_le (b := b) ho
  unfold s_X0_addToProduct
  rw [bnd_def, x2_addend hf ho, ii_jj (by omega) (by omega), show (0 : Int64) = jj 0 from rfl, lg_c (by omega) (by omega) (by omega) (by omega), x2_place hf ho]
  generalize nAd k e fr b = C at *
  generalize nPl e fr b = pc at *
  by_cases hc : C = 0
  · subst hc
    rw [if_pos (by decide)]
    obtain ⟨S', r1, r2, r3⟩ := @x0_round F S a p k e fr law mode A m pa hF hf ho hl hlaw hm hA (by omega) (by omega) (by omega)
    rw [r1, bd1_some]
    exact ⟨S', rfl, r3, fun _ => r2, fun h => absurd rfl h⟩
  · rw [if_neg (by rw [if_pos (by omega)]; decide)]
    have lA := log2_37 hA hA2
    have lC := log2_37 (A := C) (by omega) (by omega)
    have lC18 : C.log2 ≤ 18 := by
      have := (Nat.log2_lt (n := C) (k := 19) (by omega)).mpr (by omega)
      omega
    obtain ⟨s, hs⟩ : ∃ s, s = 59 - A.log2 := ⟨_, rfl⟩
    obtain ⟨sC, hsC⟩ : ∃ s, s = 59 - C.log2 := ⟨_, rfl⟩
    obtain ⟨a1, a2⟩ := norm_lo hA (by omega) hs
    obtain ⟨c1, c2⟩ := norm_lo (A := C) (by omega) (by omega) hsC
    have a2' : A * 2 ^ s < 1152921504606846976 := a2
    have c2' : C * 2 ^ sC < 1152921504606846976 := c2
    have eA : nBl A = A.log2 + 1 := by unfold nBl; rw [if_neg (by omega)]
    have eC : nBl C = C.log2 + 1 := by unfold nBl; rw [if_neg hc]
    rw [x_bl hF (by omega), bd1_some, bnd_def, x_bl hF (by omega), bd1_some, bnd_def, bnd_def, bnd_def, bnd_def, eA, eC]
    rw [show (60 : Int32) - ii ((A.log2 + 1 : Nat) : Int) = ii s by rw [show (60 : Int32) = ii 60 from rfl, ii_sub]; congr 1; omega]
    rw [show (60 : Int32) - ii ((C.log2 + 1 : Nat) : Int) = ii sC by rw [show (60 : Int32) = ii 60 from rfl, ii_sub]; congr 1; omega]
    rw [ii_sub, ii_sub, ii_sub, ii_neg, jj_shl _ (by omega), jj_shl _ (by omega), ← Int.natCast_mul, ← Int.natCast_mul, x0_shifted (by omega) (by omega) (by omega), x0_shifted (by omega) (by omega) (by omega)]
    rw [show (-(pa - (s : Int) - (pc - sC))).toNat = (pc - sC - (pa - s)).toNat by congr 1; omega]
    have w := cls_sum k e fr (lawB law) mode ho.2.2.2.2 A pa m C pc (nMi e fr b) hA (by omega) hA2 (by omega) s sC hs hsC (pa - s) (pc - sC) _ rfl rfl rfl _ rfl
    have b1 := sgn_b (m := m) (shY_le (d := (pc - sC - (pa - s)).toNat) a2)
    have b2' := sgn_b (m := nMi e fr b) (shY_le (d := (pa - s - (pc - sC)).toNat) c2)
    unfold s_X0_addToProduct_J102
    rw [x2_isMinus hf ho hb]
    simp only [b2_0]
    have e1 : ∀ (w : Bool) (x : Nat) (G : Int64 → Option HS), (if w = false then G (jj x) else G (-(jj x))) = G (jj (sgnN w x)) := by
      intro w x G
      cases w
      · rfl
      · rw [if_neg (by decide), jj_neg]; rfl
    simp only [e1 (nMi e fr b) (shY (C * 2 ^ sC) (pa - s - (pc - sC)).toNat) (fun y => s_X0_addToProduct_J119 F a p (ii mode) (ii pa) (ii s) (ii (pa - s - (pc - sC))) (jj (shY (A * 2 ^ s) (pc - sC - (pa - s)).toNat)) y S), e1 (nMi e fr b) (shY (C * 2 ^ sC) (pa - s - (pc - sC)).toNat) (fun y => s_X0_addToProduct_J119 F a p (ii mode) (ii pa) (ii s) (ii (pa - s - (pc - sC))) (-(jj (shY (A * 2 ^ s) (pc - sC - (pa - s)).toNat))) y S)]
    rw [e1 m (shY (A * 2 ^ s) (pc - sC - (pa - s)).toNat) (fun x => s_X0_addToProduct_J119 F a p (ii mode) (ii pa) (ii s) (ii (pa - s - (pc - sC))) x (jj (sgnN (nMi e fr b) (shY (C * 2 ^ sC) (pa - s - (pc - sC)).toNat))) S)]
    generalize sgnN m (shY (A * 2 ^ s) (pc - sC - (pa - s)).toNat) = X at *
    generalize sgnN (nMi e fr b) (shY (C * 2 ^ sC) (pa - s - (pc - sC)).toNat) = Y at *
    obtain ⟨S', j1, j2, j3, j4⟩ := @x_J119 F S a p k e fr law mode pa s (pa - s - (pc - sC)) X Y (X + Y) (if pa - s ≤ pc - sC then pc - sC else pa - s) hF hf ho hl hlaw hm rfl (by omega) (by omega) (by omega) (by split <;> split <;> omega) (by split <;> omega) (by split <;> omega)
    refine ⟨S', j1, j2, fun h => absurd h hc, fun _ N hN => ?_⟩
    subst hN
    refine ⟨fun h => j3 (w.1.mpr h), fun h => ?_⟩
    have hz : X + Y ≠ 0 := fun q => h (w.1.mp q)
    have := j4 hz
    rw [w.2.2 hz, decide_eq_decide.mpr w.2.1] at this
    exact this
end
section
theorem x0_addToNought {F : Nat} {S : HS} {a p k e fr law mode b : Nat} {m : Bool} (hF : 7 ≤ F) (hf : FM S p k e fr) (ho : FO k e fr) (hl : gI S 0 a = ii law) (hlaw : law < 65536) (hm : mode < 6) (hb : b < 2 ^ (e + fr + 1)) :
    ∃ S', s_X0_addToNought F a p (ii mode) (b2 m) (ii b) S = some S' ∧ AFr a [1, 2, 3, 4, 6, 7] S S' ∧
      (nAd k e fr b = 0 → AT S' a (ii (nSg e fr (if m = nMi e fr b then m else decide (mode = 2)))) 0) ∧
      (nAd k e fr b ≠ 0 → AR S' a (nMi e fr b) (rndN k e fr (lawB law) mode (nMi e fr b) (nAd k e fr b) (nPl e fr b) false)) := by
  have hC := nAd_lt (b := b) ho
  have hpl := nPl_le (b := b) ho
  unfold s_X0_addToNought
  rw [bnd_def, x2_isMinus hf ho hb, x2_addend hf ho, x2_place hf ho, ii_jj (by omega) (by omega)]
  generalize nAd k e fr b = C at *
  generalize nPl e fr b = pc at *
  generalize nMi e fr b = w at *
  have kC : (ii (C : Int) = (0 : Int32)) = (C = 0) := by
    rw [show (0 : Int32) = ii 0 from rfl, ii_eq (by omega) (by omega) (by omega) (by omega)]
    exact propext ⟨fun q => by omega, fun q => by omega⟩
  have hmm : ((ii (mode : Int) : Int32) = 2) = (mode = 2) := by
    rw [show (2 : Int32) = ii 2 from rfl, ii_eq (by omega) (by omega) (by omega) (by omega)]
    exact propext ⟨fun q => by omega, fun q => by omega⟩
  have key : ∀ w : Bool, ∃ S', s_X0_addToNought_J63 F a p (b2 w) S = some S' ∧ AFr a [1, 2, 3, 4, 6, 7] S S' ∧ AT S' a (ii (nSg e fr w)) 0 := by
    intro w
    unfold s_X0_addToNought_J63
    rw [bnd_def, x2_noughtOf hf]
    exact ⟨_, rfl, (x0_tell _ _).2, (x0_tell _ _).1⟩
  simp only [kC, hmm, b2_eq]
  by_cases hc : C = 0
  · rw [if_pos hc]
    by_cases h1 : m = w
    · rw [if_pos h1, if_pos h1]
      obtain ⟨S', q1, q2, q3⟩ := key m
      exact ⟨S', q1, q2, fun _ => q3, fun h => absurd hc h⟩
    · rw [if_neg h1, if_neg h1]
      by_cases h2 : mode = 2
      · rw [if_pos h2, decide_eq_true h2]
        obtain ⟨S', q1, q2, q3⟩ := key true
        exact ⟨S', q1, q2, fun _ => q3, fun h => absurd hc h⟩
      · rw [if_neg h2, decide_eq_false h2]
        obtain ⟨S', q1, q2, q3⟩ := key false
        exact ⟨S', q1, q2, fun _ => q3, fun h => absurd hc h⟩
  · rw [if_neg hc]
    obtain ⟨S', r1, r2, r3⟩ := @x0_round F S a p k e fr law mode C w pc hF hf ho hl hlaw hm (by omega) (by omega) (by omega) (by omega)
    rw [r1, bd1_some]
    exact ⟨S', rfl, r3, fun h => absurd h hc, fun _ => r2⟩
end
section
theorem kAd {k e fr b : Nat} (ho : FO k e fr) : (ii (nAd k e fr b : Int) = (0 : Int32)) = (nAd k e fr b = 0) := by
  have hC := nAd_lt (b := b) ho
  generalize nAd k e fr b = C at *
  rw [show (0 : Int32) = ii 0 from rfl, ii_eq (by omega) (by omega) (by omega) (by omega)]
  exact propext ⟨fun q => by omega, fun q => by omega⟩
theorem x0_addToInfinite {S : HS} {a p k e fr x y c : Nat} (hf : FM S p k e fr) (ho : FO k e fr) (hk : k ≠ 3) (hx : x < 2 ^ (e + fr + 1)) (hy : y < 2 ^ (e + fr + 1)) (hc : c < 2 ^ (e + fr + 1)) :
    ∃ S', s_X0_addToInfinite a p (ii x) (ii y) (ii c) S = S' ∧ AFr a [1, 2, 3, 4, 6, 7] S S' ∧
      (if (nAd k e fr x = 0 ∨ nAd k e fr y = 0) ∨ (nS e fr c = nInf k e fr ∧ nMi e fr c ≠ xor (nMi e fr x) (nMi e fr y)) then AT S' a (ii (nNaN k e fr)) 1 else AT S' a (ii (nSg e fr (xor (nMi e fr x) (nMi e fr y)) + nInf k e fr : Nat)) 0) := by
  refine ⟨_, rfl, ?_⟩
  have t1 := @x0_tell S a (ii (nNaN k e fr)) 1
  have t2 := fun w => @x0_tell S a (ii (nSg e fr w + nInf k e fr : Nat)) 0
  have hi := fun w => x2_infinityOf hf ho hk w
  unfold s_X0_addToInfinite s_X0_addToInfinite_J18 s_X0_addToInfinite_J41 s_X0_addToInfinite_J68 s_X0_addToInfinite_J80
  rw [x2_isMinus hf ho hx, x2_isMinus hf ho hy, x2_isMinus hf ho hc, x2_addend hf ho, x2_addend hf ho, x2_isInfinite hf ho, hf.2.2.2.2.2.2.2]
  simp only [kAd ho, b2_0, b2_eq, bnd_def]
  have z0 : (0 : Int32) = b2 false := rfl
  have z1 : (1 : Int32) = b2 true := rfl
  have hi0 : s_X2_infinityOf p 0 S = ii (nSg e fr false + nInf k e fr : Nat) := hi false
  have hi1 : s_X2_infinityOf p 1 S = ii (nSg e fr true + nInf k e fr : Nat) := hi true
  have u1 : AFr a [1, 2, 3, 4, 6, 7] S (s_X0_tell a (ii (nNaN k e fr)) 1 S) ∧ AT (s_X0_tell a (ii (nNaN k e fr)) 1 S) a (ii (nNaN k e fr)) 1 := ⟨t1.2, t1.1⟩
  have u2 : ∀ w, AFr a [1, 2, 3, 4, 6, 7] S (s_X0_tell a (ii (nSg e fr w + nInf k e fr : Nat)) 0 S) ∧ AT (s_X0_tell a (ii (nSg e fr w + nInf k e fr : Nat)) 0 S) a (ii (nSg e fr w + nInf k e fr : Nat)) 0 := fun w => ⟨(t2 w).2, (t2 w).1⟩
  rw [hi0, hi1] at *
  have n10 : ¬ ((1 : Int32) = 0) := by decide
  have b2t : b2 true = 1 := rfl
  have b2f : b2 false = 0 := rfl
  generalize nMi e fr x = mx at *
  generalize nMi e fr y = my at *
  generalize nMi e fr c = mc at *
  by_cases h1 : nAd k e fr x = 0 <;> by_cases h2 : nAd k e fr y = 0 <;> by_cases h3 : nS e fr c = nInf k e fr <;> cases mx <;> cases my <;> cases mc <;> simp only [h1, h2, h3, if_true, if_false, decide_true, decide_false, n10, b2t, b2f, Bool.false_eq_true, Bool.true_eq_false, Bool.xor_false, Bool.xor_true, Bool.not_false, Bool.not_true, true_or, or_true, or_self, false_or, or_false, ne_eq, not_true_eq_false, not_false_eq_true, and_true, and_false, true_and, false_and, hi0, hi1, show ((0 : Int32) = 1) = False from by simp, reduceCtorEq] <;> first | exact u1 | exact u2 false | exact u2 true
end
section
/- what the adder holds after the SUM of x, y and c -/
def SUMR (S' : HS) (a k e fr law mode x y c : Nat) : Prop :=
  if nInf k e fr < nS e fr x ∨ nInf k e fr < nS e fr y ∨ nInf k e fr < nS e fr c then AT S' a (ii (nNaN k e fr)) 0
  else if nS e fr x = nInf k e fr ∨ nS e fr y = nInf k e fr then
    (if (nAd k e fr x = 0 ∨ nAd k e fr y = 0) ∨ (nS e fr c = nInf k e fr ∧ nMi e fr c ≠ xor (nMi e fr x) (nMi e fr y)) then AT S' a (ii (nNaN k e fr)) 1 else AT S' a (ii (nSg e fr (xor (nMi e fr x) (nMi e fr y)) + nInf k e fr : Nat)) 0)
  else if nS e fr c = nInf k e fr then AT S' a (ii c) 0
  else if nAd k e fr x = 0 ∨ nAd k e fr y = 0 then
    (nAd k e fr c = 0 → AT S' a (ii (nSg e fr (if xor (nMi e fr x) (nMi e fr y) = nMi e fr c then xor (nMi e fr x) (nMi e fr y) else decide (mode = 2)))) 0) ∧
    (nAd k e fr c ≠ 0 → AR S' a (nMi e fr c) (rndN k e fr (lawB law) mode (nMi e fr c) (nAd k e fr c) (nPl e fr c) false))
  else
    (nAd k e fr c = 0 → AR S' a (xor (nMi e fr x) (nMi e fr y)) (rndN k e fr (lawB law) mode (xor (nMi e fr x) (nMi e fr y)) (nAd k e fr x * nAd k e fr y) (nPl e fr x + nPl e fr y) false)) ∧
    (nAd k e fr c ≠ 0 → ∀ N : Int, N = sN (nAd k e fr x * nAd k e fr y) (nPl e fr x + nPl e fr y) (xor (nMi e fr x) (nMi e fr y)) (nAd k e fr c) (nPl e fr c) (nMi e fr c) →
      (N = 0 → AT S' a (ii (nSg e fr (decide (mode = 2)))) 0) ∧ (N ≠ 0 → AR S' a (decide (N < 0)) (rndN k e fr (lawB law) mode (decide (N < 0)) N.natAbs (sQ (nPl e fr x + nPl e fr y) (nPl e fr c)) false)))
theorem x0_add {F : Nat} {S : HS} {a p k e fr law mode x y c : Nat} (hF : 7 ≤ F) (hf : FM S p k e fr) (ho : FO k e fr) (hl : gI S 0 a = ii law) (hlaw : law < 65536) (hm : mode < 6) (hx : x < 2 ^ (e + fr + 1)) (hy : y < 2 ^ (e + fr + 1)) (hc : c < 2 ^ (e + fr + 1)) :
    ∃ S', s_X0_add F a p (ii mode) (ii x) (ii y) (ii c) S = some S' ∧ AFr a [1, 2, 3, 4, 6, 7] S S' ∧ SUMR S' a k e fr law mode x y c := by
  have e0 : s_X0_add F a p (ii mode) (ii x) (ii y) (ii c) S = s_X0_add_J19 F a p (ii mode) (ii x) (ii y) (ii c) (b2 (xor (nMi e fr x) (nMi e fr y))) S := by
    unfold s_X0_add
    rw [x2_isMinus hf ho hx, x2_isMinus hf ho hy]
    simp only [b2_eq]
    cases nMi e fr x <;> cases nMi e fr y <;> rfl
  rw [e0]
  unfold s_X0_add_J19 SUMR
  rw [x2_isNan hf ho, x2_isNan hf ho, x2_isNan hf ho, x2_isInfinite hf ho, x2_isInfinite hf ho, x2_isInfinite hf ho, x2_addend hf ho, x2_addend hf ho]
  simp only [kAd ho, b2_0, decide_eq_false_iff_not]
  have kk : ∀ b, nS e fr b = nInf k e fr → k ≠ 3 := by
    intro b hb h3
    have := @nS_lt e fr b
    rw [hb, nInf, if_pos h3] at this
    omega
  have nan : ∃ S', s_X0_add_J47 F a p S = some S' ∧ AFr a [1, 2, 3, 4, 6, 7] S S' ∧ AT S' a (ii (nNaN k e fr)) 0 := by
    unfold s_X0_add_J47
    rw [bnd_def, hf.2.2.2.2.2.2.2]
    exact ⟨_, rfl, (x0_tell _ _).2, (x0_tell _ _).1⟩
  by_cases n1 : nInf k e fr < nS e fr x
  · rw [if_neg (by simp [n1])]; simp only [if_pos (show nInf k e fr < nS e fr x ∨ nInf k e fr < nS e fr y ∨ nInf k e fr < nS e fr c from Or.inl n1)]; exact nan
  · rw [if_pos n1]
    by_cases n2 : nInf k e fr < nS e fr y
    · rw [if_neg (by simp [n2])]; simp only [if_pos (show nInf k e fr < nS e fr x ∨ nInf k e fr < nS e fr y ∨ nInf k e fr < nS e fr c from Or.inr (Or.inl n2))]; exact nan
    · rw [if_pos n2]
      by_cases n3 : nInf k e fr < nS e fr c
      · rw [if_neg (by simp [n3])]; simp only [if_pos (show nInf k e fr < nS e fr x ∨ nInf k e fr < nS e fr y ∨ nInf k e fr < nS e fr c from Or.inr (Or.inr n3))]; exact nan
      · rw [if_pos n3]; simp only [if_neg (show ¬ (nInf k e fr < nS e fr x ∨ nInf k e fr < nS e fr y ∨ nInf k e fr < nS e fr c) from fun q => q.elim n1 (fun q => q.elim n2 n3))]
        have inf : k ≠ 3 → ∃ S', s_X0_add_J76 F a p (ii x) (ii y) (ii c) S = some S' ∧ AFr a [1, 2, 3, 4, 6, 7] S S' ∧ (if (nAd k e fr x = 0 ∨ nAd k e fr y = 0) ∨ (nS e fr c = nInf k e fr ∧ nMi e fr c ≠ xor (nMi e fr x) (nMi e fr y)) then AT S' a (ii (nNaN k e fr)) 1 else AT S' a (ii (nSg e fr (xor (nMi e fr x) (nMi e fr y)) + nInf k e fr : Nat)) 0) := by
          intro hk
          obtain ⟨S', i1, i2, i3⟩ := x0_addToInfinite hf ho hk hx hy hc (a := a)
          unfold s_X0_add_J76
          rw [bnd_def, i1]
          exact ⟨S', rfl, i2, i3⟩
        by_cases i1 : nS e fr x = nInf k e fr
        · rw [if_neg (by simp [i1])]; simp only [if_pos (show nS e fr x = nInf k e fr ∨ nS e fr y = nInf k e fr from Or.inl i1)]; exact inf (kk x i1)
        · rw [if_pos i1]
          by_cases i2 : nS e fr y = nInf k e fr
          · rw [if_neg (by simp [i2])]; simp only [if_pos (show nS e fr x = nInf k e fr ∨ nS e fr y = nInf k e fr from Or.inr i2)]; exact inf (kk y i2)
          · rw [if_pos i2]; simp only [if_neg (show ¬ (nS e fr x = nInf k e fr ∨ nS e fr y = nInf k e fr) from fun q => q.elim i1 i2)]
            by_cases i3 : nS e fr c = nInf k e fr
            · rw [if_neg (by simp [i3]), bnd_def]; simp only [if_pos i3]
              exact ⟨_, rfl, (x0_tell _ _).2, (x0_tell _ _).1⟩
            · rw [if_pos i3]; simp only [if_neg i3]
              have nou : ∃ S', s_X0_add_J125 F a p (ii mode) (ii c) (b2 (xor (nMi e fr x) (nMi e fr y))) S = some S' ∧ AFr a [1, 2, 3, 4, 6, 7] S S' ∧
                  ((nAd k e fr c = 0 → AT S' a (ii (nSg e fr (if xor (nMi e fr x) (nMi e fr y) = nMi e fr c then xor (nMi e fr x) (nMi e fr y) else decide (mode = 2)))) 0) ∧
                  (nAd k e fr c ≠ 0 → AR S' a (nMi e fr c) (rndN k e fr (lawB law) mode (nMi e fr c) (nAd k e fr c) (nPl e fr c) false))) := by
                obtain ⟨S', j1, j2, j3⟩ := x0_addToNought (m := xor (nMi e fr x) (nMi e fr y)) hF hf ho hl hlaw hm hc
                unfold s_X0_add_J125
                rw [j1, bd1_some]
                exact ⟨S', rfl, j2, j3⟩
              by_cases a1 : nAd k e fr x = 0
              · rw [if_pos a1]; simp only [if_pos (show nAd k e fr x = 0 ∨ nAd k e fr y = 0 from Or.inl a1)]; exact nou
              · rw [if_neg a1]
                by_cases a2 : nAd k e fr y = 0
                · rw [if_pos a2]; simp only [if_pos (show nAd k e fr x = 0 ∨ nAd k e fr y = 0 from Or.inr a2)]; exact nou
                · rw [if_neg a2]; simp only [if_neg (show ¬ (nAd k e fr x = 0 ∨ nAd k e fr y = 0) from fun q => q.elim a1 a2)]
                  have l1 := nAd_lt (b := x) ho
                  have l2 := nAd_lt (b := y) ho
                  have p1 := nPl_le (b := x) ho
                  have p2 := nPl_le (b := y) ho
                  rw [bnd_def, x2_place hf ho, x2_place hf ho, ii_add, ii_jj (by omega) (by omega), ii_jj (by omega) (by omega), jj_mul, ← Int.natCast_mul]
                  obtain ⟨S', j1, j2, j3⟩ := x0_addToProduct (A := nAd k e fr x * nAd k e fr y) (pa := nPl e fr x + nPl e fr y) (m := xor (nMi e fr x) (nMi e fr y)) hF hf ho hl hlaw hm (Nat.mul_pos (by omega) (by omega)) (Nat.lt_of_le_of_lt (Nat.mul_le_mul (show nAd k e fr x ≤ 524287 by omega) (show nAd k e fr y ≤ 524287 by omega)) (by decide)) (by omega) (by omega) hc
                  rw [j1, bd1_some]
                  exact ⟨S', rfl, j2, j3⟩
end
section
/- what the adder holds after bits of one form are taken into another one -/
def CONR (S' : HS) (a k1 e1 f1 k e fr law mode b : Nat) : Prop :=
  if nInf k1 e1 f1 < nS e1 f1 b then (if k = 3 then AT S' a 0 1 else AT S' a (ii (nNaN k e fr)) 0)
  else if nS e1 f1 b = nInf k1 e1 f1 then (if k = 3 then AT S' a (ii (nSg e fr (nMi e1 f1 b) + (nInf k e fr - 1) : Nat)) 1 else AT S' a (ii (nSg e fr (nMi e1 f1 b) + nInf k e fr : Nat)) 0)
  else if nS e1 f1 b = 0 then AT S' a (ii (nSg e fr (nMi e1 f1 b))) 0
  else AR S' a (nMi e1 f1 b) (rndN k e fr (lawB law) mode (nMi e1 f1 b) (nW e1 f1 b) (nPl e1 f1 b) false)
theorem nW_512 {k e fr b : Nat} (ho : FO k e fr) : nW e fr b < 524288 :=
  Nat.lt_of_lt_of_le (nW_lt ho) (Nat.le_trans (pow_mono (show fr + 1 ≤ 19 by have := ho.2.2.2.2; omega)) (by decide))
theorem x0_convert {F : Nat} {S : HS} {a p1 p2 k1 e1 f1 k e fr law mode b : Nat} (hF : 7 ≤ F) (hf1 : FM S p1 k1 e1 f1) (ho1 : FO k1 e1 f1) (hf : FM S p2 k e fr) (ho : FO k e fr) (hl : gI S 0 a = ii law) (hlaw : law < 65536) (hm : mode < 6) (hb : b < 2 ^ (e1 + f1 + 1)) :
    ∃ S', s_X0_convert F a p1 p2 (ii mode) (ii b) S = some S' ∧ AFr a [1, 2, 3, 4, 6, 7] S S' ∧ CONR S' a k1 e1 f1 k e fr law mode b := by
  have kk : ((ii (k : Int) : Int32) = 3) = (k = 3) := by
    have := ho.1
    rw [show (3 : Int32) = ii 3 from rfl, ii_eq (by omega) (by omega) (by omega) (by omega)]
    exact propext ⟨fun q => by omega, fun q => by omega⟩
  have hw := nW_512 (b := b) ho1
  have hp := nPl_le (b := b) ho1
  have e0 : s_X0_convert F a p1 p2 (ii mode) (ii b) S = s_X0_convert_J21 F a p1 p2 (ii mode) (ii b) (b2 (nMi e1 f1 b)) (b2 (decide (k = 3))) S := by
    unfold s_X0_convert
    rw [bnd_def, x2_isMinus hf1 ho1 hb, hf.1]
    simp only [kk]
    by_cases h : k = 3
    · rw [if_pos h, decide_eq_true h]; rfl
    · rw [if_neg h, decide_eq_false h]; rfl
  rw [e0]
  unfold s_X0_convert_J21 CONR
  rw [x2_isNan hf1 ho1, x2_isInfinite hf1 ho1, x2_isNought hf1 ho1, x2_weight hf1 ho1, x2_place hf1 ho1, ii_jj (by omega) (by omega), x2_noughtOf hf, x2_greatestOf hf ho, hf.2.2.2.2.2.2.2]
  simp only [b2_0, decide_eq_false_iff_not]
  by_cases h1 : nInf k1 e1 f1 < nS e1 f1 b
  · rw [if_neg (by simp [h1])]; simp only [if_pos h1]
    unfold s_X0_convert_J46 s_X0_convert_J56
    by_cases h : k = 3
    · rw [if_neg (by simp [h])]; simp only [if_pos h, decide_eq_true h]
      exact ⟨_, rfl, (x0_tell _ _).2, (x0_tell _ _).1⟩
    · rw [if_pos h]; simp only [if_neg h, decide_eq_false h]
      exact ⟨_, rfl, (x0_tell _ _).2, (x0_tell _ _).1⟩
  · rw [if_pos h1]; simp only [if_neg h1]
    by_cases h2 : nS e1 f1 b = nInf k1 e1 f1
    · rw [if_neg (by simp [h2])]; simp only [if_pos h2]
      unfold s_X0_convert_J92 s_X0_convert_J102
      by_cases h : k = 3
      · rw [if_neg (by simp [h])]; simp only [if_pos h, decide_eq_true h]
        exact ⟨_, rfl, (x0_tell _ _).2, (x0_tell _ _).1⟩
      · rw [if_pos h, x2_infinityOf hf ho h]; simp only [if_neg h, decide_eq_false h]
        exact ⟨_, rfl, (x0_tell _ _).2, (x0_tell _ _).1⟩
    · rw [if_pos h2]; simp only [if_neg h2]
      by_cases h3 : nS e1 f1 b = 0
      · rw [if_neg (by simp [h3]), bnd_def]; simp only [if_pos h3]
        exact ⟨_, rfl, (x0_tell _ _).2, (x0_tell _ _).1⟩
      · rw [if_pos h3]; simp only [if_neg h3]
        obtain ⟨S', r1, r2, r3⟩ := @x0_round F S a p2 k e fr law mode (nW e1 f1 b) (nMi e1 f1 b) (nPl e1 f1 b) hF hf ho hl hlaw hm (nW_pos h3) (by omega) (by omega) (by omega)
        rw [r1, bd1_some]
        exact ⟨S', rfl, r3, r2⟩
end
section
/- the whole ones of size times 2 to the power of place -/
def nWh (L : Bool → Bool → Bool → Bool → Bool) (mode : Nat) (m : Bool) (n : Nat) (pl : Int) : Nat :=
  (rCut n (-pl) false).1 + (if gUp L mode m (decide ((rCut n (-pl) false).1 % 2 = 1)) (rCut n (-pl) false).2.1 (rCut n (-pl) false).2.2 then 1 else 0)
theorem rCut_bd {n : Nat} {pl : Int} (h : (nBl n : Int) + pl ≤ 40) (h0 : 0 < n) : (rCut n (-pl) false).1 < 2 ^ 41 := by
  have h2 : n < 2 ^ (n.log2 + 1) := Nat.lt_log2_self
  have hb : nBl n = n.log2 + 1 := by unfold nBl; rw [if_neg (by omega)]
  unfold rCut
  by_cases hd : -pl ≤ 0
  · rw [if_pos hd]
    show n * 2 ^ (- -pl).toNat < 2 ^ 41
    calc n * 2 ^ (- -pl).toNat < 2 ^ (n.log2 + 1) * 2 ^ (- -pl).toNat := Nat.mul_lt_mul_of_pos_right h2 (Nat.two_pow_pos _)
      _ = 2 ^ (n.log2 + 1 + (- -pl).toNat) := by rw [← Nat.pow_add]
      _ ≤ 2 ^ 41 := pow_mono (by omega)
  · rw [if_neg hd]
    show n / 2 ^ (-pl).toNat < 2 ^ 41
    rw [Nat.div_lt_iff_lt_mul (Nat.two_pow_pos _), ← Nat.pow_add]
    exact Nat.lt_of_lt_of_le h2 (pow_mono (by omega))
theorem x0_wholes {F : Nat} {S : HS} {a law mode n : Nat} {m : Bool} {pl : Int} (hF : 7 ≤ F) (hl : gI S 0 a = ii law) (hlaw : law < 65536) (hm : mode < 6) (h0 : 0 < n) (hn : n < 524288) (hp1 : -400 ≤ pl) (hp2 : pl ≤ 600) :
    ∃ S', s_X0_wholes F a (ii mode) (b2 m) (jj n) (ii pl) S = some (jj (if 40 < (nBl n : Int) + pl then 1099511627776 else (nWh (lawB law) mode m n pl : Nat)), S') ∧ AFr a [1, 2, 3, 4, 6, 7] S S' := by
  have hlog : n.log2 ≤ 18 := by
    have := (Nat.log2_lt (n := n) (k := 19) (by omega)).mpr (by omega)
    omega
  have hb : nBl n = n.log2 + 1 := by unfold nBl; rw [if_neg (by omega)]
  unfold s_X0_wholes
  rw [x_bl hF (by omega), bd1_some, ii_add]
  by_cases h : 40 < (nBl n : Int) + pl
  · rw [if_neg (by rw [show (40 : Int32) = ii 40 from rfl, ii_le (by omega) (by omega) (by omega) (by omega)]; omega), if_pos h]
    exact ⟨S, rfl, AFr.refl _ _ _⟩
  · rw [if_pos (by rw [show (40 : Int32) = ii 40 from rfl, ii_le (by omega) (by omega) (by omega) (by omega)]; omega), if_neg h, ii_neg]
    have hr := rCut_bd (by omega) h0 (n := n) (pl := pl)
    obtain ⟨S6, c1, c5, c6, c7, cA⟩ := @x0_cut S a n (-pl) h0 (by omega) (by omega) (by omega)
    rw [c1, bd1_some]
    unfold nWh
    generalize rCut n (-pl) false = c at *
    obtain ⟨kept, g, r⟩ := c
    dsimp only at *
    have hA7 : AFr a [1, 2, 3, 4, 6, 7] S S6 := cA.trans (hs := [1, 2, 3, 4, 6, 7]) (AFr.refl a [] S6) (by simp) (by simp)
    have g0 : gI S6 0 a = ii law := by rw [hA7.get 0 a (by simp)]; exact hl
    have e4 : ∀ (G : Int32 → Option (Int64 × HS)), (if lg_cmp (gJ S6 5 a &&& 1) 1 = 0 then G 1 else G 0) = G (b2 (decide (kept % 2 = 1))) := by
      intro G
      rw [c5, show (1 : Int64) = jj (1 : Nat) from rfl, jj_and, Nat.and_one_is_mod]
      have hm2 : kept % 2 < 2 := Nat.mod_lt _ (by decide)
      generalize kept % 2 = q at *
      rw [lg_c (by omega) (by omega) (by omega) (by omega)]
      have : q = 0 ∨ q = 1 := by omega
      rcases this with h | h <;> subst h <;> rfl
    rw [e4 (fun w => s_X0_wholes_J47 F a (gJ S6 5 a) a (ii mode) (b2 m) w S6)]
    unfold s_X0_wholes_J47
    rw [c6, c7, x0_goesUp g0 hlaw hm, bd1_some, c5]
    refine ⟨S6, ?_, hA7⟩
    cases gUp (lawB law) mode m (decide (kept % 2 = 1)) g r
    · rw [if_pos (by decide), show ((0 : Int32).toInt64) = jj 0 from rfl, jj_add]; simp
    · rw [if_neg (by decide), show ((1 : Int32).toInt64) = jj 1 from rfl, jj_add]; simp
end
