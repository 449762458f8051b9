section
/- the bits of a long -/
def Wb (p : Int64) (i : Nat) : Bool := p.toBitVec.getLsbD i
def Wz (p : Int64) (z : Int) : Bool := decide (0 ≤ z) && Wb p z.toNat
theorem W_hi (p : Int64) {i : Nat} (h : 64 ≤ i) : Wb p i = false := BitVec.getLsbD_of_ge _ _ h
theorem W_nat (p : Int64) (i : Nat) : Wb p i = p.toBitVec.toNat.testBit i := rfl
theorem W_and (a b : Int64) (i : Nat) : Wb (a &&& b) i = (Wb a i && Wb b i) := by unfold Wb; rw [Int64.toBitVec_and, BitVec.getLsbD_and]
theorem W_or (a b : Int64) (i : Nat) : Wb (a ||| b) i = (Wb a i || Wb b i) := by unfold Wb; rw [Int64.toBitVec_or, BitVec.getLsbD_or]
theorem W_xor (a b : Int64) (i : Nat) : Wb (a ^^^ b) i = (Wb a i ^^ Wb b i) := by unfold Wb; rw [Int64.toBitVec_xor, BitVec.getLsbD_xor]
theorem W_m1 {i : Nat} (h : i < 64) : Wb (-1) i = true := by
  have : ∀ i : Fin 64, Wb (-1) i.val = true := by decide +kernel
  exact this ⟨i, h⟩
theorem W_not (a : Int64) {i : Nat} (h : i < 64) : Wb (a ^^^ (-1)) i = !Wb a i := by rw [W_xor, W_m1 h]; simp
theorem W_1 {i : Nat} : Wb 1 i = decide (i = 0) := by
  by_cases h : i < 64
  · have : ∀ i : Fin 64, Wb 1 i.val = decide (i.val = 0) := by decide +kernel
    exact this ⟨i, h⟩
  · rw [W_hi _ (by omega)]; symm; exact decide_eq_false (by omega)
theorem W_shl (a : Int64) {i : Nat} (h : i < 64) : Wb (a <<< ((1 : Int32).toInt64 &&& 63)) i = (decide (0 < i) && Wb a (i - 1)) := by
  unfold Wb
  rw [Int64.toBitVec_shiftLeft, show ((1 : Int32).toInt64 &&& 63).toBitVec.smod 64 = BitVec.ofNat 64 1 from jj_msk ⟨1, by decide⟩]
  show (a.toBitVec <<< (BitVec.ofNat 64 1).toNat).getLsbD i = _
  rw [show (BitVec.ofNat 64 1).toNat = 1 from rfl, BitVec.getLsbD_shiftLeft]
  by_cases q : i = 0
  · subst q; simp
  · simp [h, show ¬ i < 1 by omega, show 0 < i by omega]
theorem W_ush (a : Int64) {i : Nat} : Wb ((a.toUInt64 >>> ((1 : Int32).toInt64.toUInt64 &&& Int64.toUInt64 63)).toInt64) i = Wb a (i + 1) := by
  have h2 : (((1 : Int32).toInt64.toUInt64 &&& Int64.toUInt64 63)).toBitVec % 64 = BitVec.ofNat 64 1 := by decide +kernel
  show (a.toUInt64 >>> ((1 : Int32).toInt64.toUInt64 &&& Int64.toUInt64 63)).toBitVec.getLsbD i = _
  rw [UInt64.toBitVec_shiftRight, h2]
  show (a.toBitVec >>> (BitVec.ofNat 64 1).toNat).getLsbD i = _
  rw [BitVec.getLsbD_ushiftRight, show (BitVec.ofNat 64 1).toNat = 1 from rfl, Nat.add_comm]; rfl
theorem W_one (y : Int64) : (lg_cmp (y &&& 1) 1 = (0 : Int32)) = (Wb y 0 = true) := by
  have e : (y &&& 1) = if Wb y 0 then 1 else 0 := by
    apply Int64.toBitVec_inj.mp
    apply BitVec.eq_of_getLsbD_eq
    intro i hi
    show Wb (y &&& 1) i = Wb (if Wb y 0 then 1 else 0) i
    rw [W_and, W_1]
    by_cases q : i = 0
    · subst q
      cases hy : Wb y 0
      · rfl
      · rw [if_pos rfl]; rfl
    · rw [decide_eq_false q, Bool.and_false]
      split
      · rw [W_1, decide_eq_false q]
      · show _ = (0 : Int64).toBitVec.getLsbD i
        simp
  rw [e]
  cases Wb y 0 <;> decide
theorem bitOf_W (p : Int64) {z : Int} (h1 : -100 ≤ z) (h2 : z < 100) (S : HS) : s_X12_bitOf p (ii z) S = b2 (Wz p z) := by
  unfold s_X12_bitOf
  have c0 : (ii z < (0 : Int32)) = (z < 0) := by rw [k0, ii_lt (by omega) (by omega) (by omega) (by omega)]
  have c64 : ((64 : Int32) ≤ ii z) = (64 ≤ z) := by rw [k64, ii_le (by omega) (by omega) (by omega) (by omega)]
  simp only [c0, c64]
  unfold Wz
  by_cases q : z < 0
  · rw [if_pos q, decide_eq_false (show ¬ 0 ≤ z by omega)]; rfl
  rw [if_neg q, decide_eq_true (show 0 ≤ z by omega), Bool.true_and]
  by_cases q2 : 64 ≤ z
  · rw [if_pos q2, W_hi _ (by omega)]; rfl
  rw [if_neg q2]
  obtain ⟨k, rfl⟩ : ∃ k : Nat, z = k := ⟨z.toNat, by omega⟩
  simp only [W_one]
  have e : Wb (p >>> ((ii (k : Int)).toInt64 &&& 63)) 0 = Wb p k := by
    unfold Wb
    rw [Int64.toBitVec_shiftRight, show ((ii (k : Int)).toInt64 &&& 63).toBitVec.smod 64 = BitVec.ofNat 64 k from jj_msk ⟨k, by omega⟩]
    show (p.toBitVec.sshiftRight (BitVec.ofNat 64 k).toNat).getLsbD 0 = _
    rw [BitVec.getLsbD_sshiftRight, BitVec.toNat_ofNat, Nat.mod_eq_of_lt (by omega), if_pos (by omega)]
    simp
  rw [e, Int.toNat_natCast]
  cases Wb p k <;> rfl
theorem tb_hi {u i : Nat} (h : nBl u ≤ i) : u.testBit i = false := by
  unfold nBl at h
  by_cases q : u = 0
  · subst q; simp
  · rw [if_neg q] at h
    exact Nat.testBit_lt_two_pow (Nat.lt_of_lt_of_le Nat.lt_log2_self (Nat.pow_le_pow_right (by decide) h))
theorem tb_top {u : Nat} (h : 0 < nBl u) : u.testBit (nBl u - 1) = true := by
  unfold nBl at *
  by_cases q : u = 0
  · rw [if_pos q] at h; omega
  · rw [if_neg q, Nat.add_sub_cancel]
    exact Nat.testBit_log2 q
theorem x_blA {F : Nat} {S : HS} (hF : 10 ≤ F) (p : Int64) : s_X11_bitLength F p S = some (ii (nBl p.toBitVec.toNat)) := by
  by_cases h : p.toBitVec.toNat < 9223372036854775808
  · have : p = jj (p.toBitVec.toNat : Nat) := by
      apply Int64.toBitVec_inj.mp
      rw [jj_nat]
      show p.toBitVec = BitVec.ofNat 64 _
      simp
    conv => lhs; rw [this]
    exact x_bl (by omega) h
  · have hu : p.toBitVec.toNat < 2 ^ 64 := p.toBitVec.isLt
    generalize hg : p.toBitVec.toNat = u at *
    have e : (p.toUInt64 >>> ((32 : Int32).toInt64.toUInt64 &&& Int64.toUInt64 63)).toInt64 = jj (u / 2 ^ 32 : Nat) := by
      apply Int64.toBitVec_inj.mp
      apply BitVec.eq_of_toNat_eq
      show (p.toUInt64 >>> ((32 : Int32).toInt64.toUInt64 &&& Int64.toUInt64 63)).toNat = _
      rw [UInt64.toNat_shiftRight, show (((32 : Int32).toInt64.toUInt64 &&& Int64.toUInt64 63)).toNat % 64 = 32 by decide +kernel, show p.toUInt64.toNat = u from hg, jj_nat, Nat.shiftRight_eq_div_pow]
      have : u / 2 ^ 32 ≤ u := Nat.div_le_self _ _
      show _ = (Int64.ofNat (u / 2 ^ 32)).toBitVec.toNat
      have h32 : u / 2 ^ 32 < 2 ^ 32 := by omega
      generalize u / 2 ^ 32 = q at *
      simp
      omega
    obtain ⟨N, rfl⟩ : ∃ N, F = N + 4 + 2 + 1 := ⟨F - 7, by omega⟩
    unfold s_X11_bitLength
    rw [s_X11_bitLength_L8, e, if_neg (by decide), if_neg (by
      rw [show (0 : Int64) = jj (0 : Nat) from rfl, cmp0 (by omega) (by decide)]; omega), bnd_def, bnd_def]
    unfold s_X11_bitLength_J32
    rw [bnd_def, show (0 : Int32) + 32 = ii (32 : Nat) from rfl, show (32 : Int32) >>> ((1 : Int32) &&& 31) = ii (2 ^ 4 : Nat) by decide]
    rw [bl_loop (F := N + 4 + 2 + 1) (S := S) 4 N 32 (u / 2 ^ 32) (by omega) (by omega) (by omega) (by omega) (by omega), nBl_shift (n := u) (s := 32) (by omega), Nat.add_comm]
/- the foretold lead's bits, as the class puts them -/
def fE (p q : Int64) : Int64 :=
  let x1 := p ^^^ q
  let x2 := p &&& q
  let x3 := (p ||| q) ^^^ (-1)
  let x4 := (x1.toUInt64 >>> ((1 : Int32).toInt64.toUInt64 &&& Int64.toUInt64 63)).toInt64
  let x5 := (x3 <<< ((1 : Int32).toInt64 &&& 63)) ||| 1
  let x6 := x2 <<< ((1 : Int32).toInt64 &&& 63)
  let x7 := (x2 &&& (x5 ^^^ (-1))) ||| (x3 &&& (x6 ^^^ (-1)))
  let x8 := (x3 &&& (x5 ^^^ (-1))) ||| (x2 &&& (x6 ^^^ (-1)))
  (x4 &&& x7) ||| ((x4 ^^^ (-1)) &&& x8)
theorem x_foretold {F : Nat} {S : HS} (hF : 10 ≤ F) (p q : Int64) : s_X11_foretold F p q S = some (ii (64 - (nBl (fE p q).toBitVec.toNat : Int))) := by
  show bd1 (s_X11_bitLength F (fE p q) S) (fun r => some (64 - r)) = _
  rw [x_blA hF (fE p q), bd1_some, k64, ii_sub]
theorem fE_bit (p q : Int64) {i : Nat} (hi : i < 64) (S : HS) : s_X12_isForetold p q (ii i) S = b2 (Wb (fE p q) i) := by
  unfold s_X12_isForetold
  have a1 : ii (i : Int) + 1 = ii ((i : Int) + 1) := by rw [k1, ii_add]
  have a2 : ii (i : Int) - 1 = ii ((i : Int) - 1) := by rw [k1, ii_sub]
  rw [a1]
  simp only [bnd_def]
  unfold s_X12_isForetold_J38
  simp only [bnd_def]
  rw [a2, bitOf_W _ (by omega) (by omega), bitOf_W _ (by omega) (by omega), bitOf_W _ (by omega) (by omega), bitOf_W _ (by omega) (by omega), bitOf_W _ (by omega) (by omega)]
  have z1 : Wz (p ^^^ q) ((i : Int) + 1) = Wb (p ^^^ q) (i + 1) := by unfold Wz; rw [decide_eq_true (by omega), Bool.true_and]; rfl
  have z2 : Wz (p &&& q) (i : Int) = Wb (p &&& q) i := by unfold Wz; rw [decide_eq_true (by omega), Bool.true_and]; rfl
  have z3 : Wz (p ||| q) (i : Int) = Wb (p ||| q) i := by unfold Wz; rw [decide_eq_true (by omega), Bool.true_and]; rfl
  have z4 : ∀ r : Int64, Wz r ((i : Int) - 1) = (decide (0 < i) && Wb r (i - 1)) := by
    intro r; unfold Wz
    by_cases h : 0 < i
    · rw [decide_eq_true (show 0 ≤ (i : Int) - 1 by omega), decide_eq_true h, show ((i : Int) - 1).toNat = i - 1 by omega]
    · rw [decide_eq_false (show ¬ 0 ≤ (i : Int) - 1 by omega), decide_eq_false h]; rfl
  rw [z1, z2, z3, z4, z4]
  unfold fE
  simp only [W_or, W_and, W_not _ hi, W_ush, W_shl _ hi, W_xor, W_1]
  have h1 : 0 < i → Wb (-1) (i - 1) = true := fun _ => W_m1 (by omega)
  have e0 : decide (i = 0) = !decide (0 < i) := by by_cases h : i = 0 <;> simp [h]; omega
  rw [e0]
  by_cases h : 0 < i
  · rw [h1 h, decide_eq_true h]
    generalize Wb p (i + 1) = b1
    generalize Wb q (i + 1) = b2'
    generalize Wb p i = b3
    generalize Wb q i = b4
    generalize Wb p (i - 1) = b5
    generalize Wb q (i - 1) = b6
    cases b1 <;> cases b2' <;> cases b3 <;> cases b4 <;> cases b5 <;> cases b6 <;> rfl
  · rw [decide_eq_false h]
    generalize Wb p (i + 1) = b1
    generalize Wb q (i + 1) = b2'
    generalize Wb p i = b3
    generalize Wb q i = b4
    generalize Wb p (i - 1) = b5
    generalize Wb q (i - 1) = b6
    generalize Wb (-1) (i - 1) = b7
    cases b1 <;> cases b2' <;> cases b3 <;> cases b4 <;> cases b5 <;> cases b6 <;> cases b7 <;> rfl
theorem nBl64 (p : Int64) : nBl p.toBitVec.toNat ≤ 64 := by
  unfold nBl
  split
  · omega
  · have : p.toBitVec.toNat < 2 ^ 64 := p.toBitVec.isLt
    have := Nat.log2_lt (by assumption) |>.mpr this
    omega
theorem y_leads_loop {F : Nat} {S : HS} (p q : Int64) : ∀ (k j M : Nat), j + k = 65 → k < M → j ≤ 64 - nBl (fE p q).toBitVec.toNat →
    s_X12_leadsOf_L3 F M p q (ii j) S = some (ii (64 - (nBl (fE p q).toBitVec.toNat : Int))) := by
  have hL := nBl64 (fE p q)
  have hhi := fun i => tb_hi (u := (fE p q).toBitVec.toNat) (i := i)
  have htop := tb_top (u := (fE p q).toBitVec.toNat)
  generalize nBl (fE p q).toBitVec.toNat = L at *
  intro k
  induction k with
  | zero => intro j M h1 h2 h3; omega
  | succ k ih =>
    intro j M h1 h2 h3
    obtain ⟨M, rfl⟩ : ∃ q, M = q + 1 := ⟨M - 1, by omega⟩
    unfold s_X12_leadsOf_L3
    by_cases w : j = 64
    · rw [if_pos (by rw [k64, ii_le (by omega) (by omega) (by omega) (by omega)]; omega)]
      congr 2; omega
    · have e : (63 : Int32) - ii (j : Int) = ii ((63 - j : Nat) : Int) := by rw [k63, ii_sub]; congr 1; omega
      rw [if_neg (by rw [k64, ii_le (by omega) (by omega) (by omega) (by omega)]; omega), e, fE_bit p q (by omega)]
      simp only [b2_0]
      by_cases w2 : j = 64 - L
      · have : Wb (fE p q) (63 - j) = true := by rw [W_nat, show 63 - j = L - 1 by omega]; exact htop (by omega)
        rw [this, if_neg tf]
        congr 2; omega
      · have : Wb (fE p q) (63 - j) = false := by rw [W_nat]; exact hhi _ (by omega)
        rw [this, if_pos rfl, bnd_def, show ii (j : Int) + Int32.ofInt 1 = ii ((j + 1 : Nat) : Int) by rw [show Int32.ofInt 1 = ii 1 from rfl, ii_add]; rfl]
        exact ih (j + 1) M (by omega) (by omega) (by omega)
theorem y_leadsOf {F : Nat} {S : HS} (hF : 3000 ≤ F) (p q : Int64) : s_X12_leadsOf F p q S = some (ii (64 - (nBl (fE p q).toBitVec.toNat : Int))) :=
  y_leads_loop (F := F) (S := S) p q 65 0 F (by omega) (by omega) (by omega)
theorem y_off_loop {F : Nat} {S : HS} (p q s d : Int64) (hd : ∀ i, i < 64 → Wb d i = (Wb s i ^^ Wb s 63)) (cont : Int64 → Int64 → Int32 → HS → Option (Int32 × HS)) : ∀ (k j M : Nat), j + k = 65 → k < M → 1 ≤ j → j ≤ 64 - nBl d.toBitVec.toNat →
    s_X12_off_L13 F cont M p q s (ii j) S = cont p q (ii (64 - (nBl d.toBitVec.toNat : Int))) S := by
  have hL := nBl64 d
  have hhi := fun i => tb_hi (u := d.toBitVec.toNat) (i := i)
  have htop := tb_top (u := d.toBitVec.toNat)
  generalize nBl d.toBitVec.toNat = L at *
  intro k
  induction k with
  | zero => intro j M h1 h2 h3 h4; omega
  | succ k ih =>
    intro j M h1 h2 h3 h4
    obtain ⟨M, rfl⟩ : ∃ q, M = q + 1 := ⟨M - 1, by omega⟩
    unfold s_X12_off_L13
    by_cases w : j = 64
    · rw [if_pos (by rw [k64, ii_le (by omega) (by omega) (by omega) (by omega)]; omega)]
      congr 2; omega
    · have e : (63 : Int32) - ii (j : Int) = ii ((63 - j : Nat) : Int) := by rw [k63, ii_sub]; congr 1; omega
      have wz : ∀ i : Nat, Wz s (i : Int) = Wb s i := fun i => by unfold Wz; rw [decide_eq_true (by omega), Bool.true_and]; rfl
      have hb : (s_X12_bitOf s (ii ((63 - j : Nat) : Int)) S = s_X12_bitOf s 63 S) = (Wb d (63 - j) = false) := by
        rw [bitOf_W _ (by omega) (by omega), show s_X12_bitOf s 63 S = b2 (Wz s ((63 : Nat) : Int)) from bitOf_W s (z := 63) (by omega) (by omega) S, wz, wz, hd _ (by omega)]
        cases Wb s (63 - j) <;> cases Wb s 63 <;> decide
      rw [if_neg (by rw [k64, ii_le (by omega) (by omega) (by omega) (by omega)]; omega), e]
      simp only [hb]
      by_cases w2 : j = 64 - L
      · have : Wb d (63 - j) = true := by rw [W_nat, show 63 - j = L - 1 by omega]; exact htop (by omega)
        rw [this, if_neg tf]
        congr 2; omega
      · have : Wb d (63 - j) = false := by rw [W_nat]; exact hhi _ (by omega)
        rw [this, if_pos rfl, bnd_def, show ii (j : Int) + Int32.ofInt 1 = ii ((j + 1 : Nat) : Int) by rw [show Int32.ofInt 1 = ii 1 from rfl, ii_add]; rfl]
        exact ih (j + 1) M (by omega) (by omega) (by omega) (by omega)
section JLEADS
variable {N N2 : Nat → Nat} {F : Nat} {S S2 : HS} {x m : Nat} {A B : Nat → Nat} {b c nx n : Nat} {T : TT}
theorem j_leads (hF : 3000 ≤ F) (hM : RY N2 S2 m B T) (p q : Int64) : ∃ v S2', s_X11_leads F x p q S = some v ∧ s_X12_leads F m p q S2 = some (v, S2') ∧ YE m B S2 S2' := by
  obtain ⟨S1, hS1, hM1, y0⟩ := base0 hM 0
  unfold s_X11_leads s_X12_leads
  rw [x_foretold (by omega), bd1_some, bnd_def, ← hS1, y_leadsOf hF, bd1_some]
  exact ⟨_, _, rfl, rfl, y0⟩
theorem lg_ge (s : Int64) : ((0 : Int32) ≤ lg_cmp s 0) = (Wb s 63 = false) := by
  have e : Wb s 63 = decide (s.toInt < 0) := by
    unfold Wb
    rw [← Int64.toInt_toBitVec, ← BitVec.msb_eq_toInt, BitVec.msb_eq_getLsbD_last]
  rw [e]
  unfold lg_cmp
  have l1 : (s > 0) = (0 < s.toInt) := by
    show ((0 : Int64) < s) = _
    rw [Int64.lt_iff_toInt_lt]; rfl
  have l2 : (s = 0) = (s.toInt = 0) := by
    apply propext; constructor
    · intro h; subst h; rfl
    · intro h; apply Int64.toInt_inj.mp; rw [h]; rfl
  simp only [l1, l2]
  by_cases h : 0 < s.toInt
  · rw [if_pos h]; simp; omega
  · rw [if_neg h]
    by_cases h2 : s.toInt = 0
    · rw [if_pos h2]; simp; omega
    · rw [if_neg h2]; simp; omega
theorem j_off (hF : 3000 ≤ F) (hM : RY N2 S2 m B T) (p q : Int64) : ∃ v S2', s_X11_off F x p q S = some v ∧ s_X12_off F m p q S2 = some (v, S2') ∧ YE m B S2 S2' := by
  obtain ⟨S1, hS1, hM1, y0⟩ := base0 hM 0
  unfold s_X11_off s_X12_off
  rw [bnd_def, bnd_def, ← hS1, bnd_def]
  simp only [lg_ge]
  generalize p + q = s
  unfold s_X11_off_J25
  cases h : Wb s 63
  · have hd : ∀ i, i < 64 → Wb s i = (Wb s i ^^ Wb s 63) := fun i _ => by rw [h, Bool.xor_false]
    have hL : nBl s.toBitVec.toNat ≤ 63 := by
      have h64 := nBl64 s
      by_cases g : nBl s.toBitVec.toNat = 64
      · have := tb_top (u := s.toBitVec.toNat) (by omega)
        rw [g] at this
        rw [W_nat] at h
        rw [h] at this; cases this
      · omega
    rw [if_pos rfl, x_blA (by omega), bd1_some, bnd_def, x_foretold (by omega), bd1_some, show s_X12_off_L13 F (s_X12_off_J46 F) F p q s 1 S1 = _ from y_off_loop (F := F) (S := S1) p q s s hd (s_X12_off_J46 F) 64 1 F (by omega) (by omega) (by omega) (by omega)]
    unfold s_X12_off_J46
    rw [y_leadsOf hF, bd1_some, k64, ii_sub]
    exact ⟨_, _, rfl, rfl, y0⟩
  · have hd : ∀ i, i < 64 → Wb (s ^^^ (-1)) i = (Wb s i ^^ Wb s 63) := fun i hi => by rw [W_not _ hi, h, Bool.xor_true]
    have hL : nBl (s ^^^ (-1)).toBitVec.toNat ≤ 63 := by
      have h64 := nBl64 (s ^^^ (-1))
      by_cases g : nBl (s ^^^ (-1)).toBitVec.toNat = 64
      · have := tb_top (u := (s ^^^ (-1)).toBitVec.toNat) (by omega)
        rw [g, ← W_nat, hd _ (by omega), h] at this
        simp [h] at this
      · omega
    rw [if_neg tf, x_blA (by omega), bd1_some, bnd_def, x_foretold (by omega), bd1_some, show s_X12_off_L13 F (s_X12_off_J46 F) F p q s 1 S1 = _ from y_off_loop (F := F) (S := S1) p q s (s ^^^ (-1)) hd (s_X12_off_J46 F) 64 1 F (by omega) (by omega) (by omega) (by omega)]
    unfold s_X12_off_J46
    rw [y_leadsOf hF, bd1_some, k64, ii_sub]
    exact ⟨_, _, rfl, rfl, y0⟩
end JLEADS
end
section
/- what gap() and whole() of the class mean (their rows at the machine's side are still to be made); none within = thrown -/
def g_X11_gap (N : Nat → Nat) (a : Nat) (p0 p1 p2 : Int32) (S : HS) : Option (Option Int32) :=
  bd1 (s_X11_formHolding N a p0 S) fun r1 => mq r1 (some none) fun t =>
  if s_X2_holds t p1 S = (0 : Int32) then some none else if s_X2_holds t p2 S = (0 : Int32) then some none else
  if s_X2_hasPlaces t p0 S = (0 : Int32) then some none else if s_X2_hasPlaces t p1 S = (0 : Int32) then some none else if s_X2_hasPlaces t p2 S = (0 : Int32) then some none else
  some (some ((s_X2_place t p0 S + s_X2_place t p1 S) - s_X2_place t p2 S))
def g_X11_whole_end (w : Int32) (z : Int64) (S : HS) : Option (Option Int32 × HS) :=
  if (0 : Int32) < lg_cmp z (if w = (0 : Int32) then 2147483647 else 2147483648) then some (none, S) else some (some (if w = (0 : Int32) then z else -z).toInt32, S)
def g_X11_whole (N : Nat → Nat) (F : Nat) (a : Nat) (p0 : Int32) (S : HS) : Option (Option Int32 × HS) :=
  bd1 (s_X11_formHolding N a p0 S) fun r1 => mq r1 (some (none, S)) fun t =>
  if ¬ s_X2_isNan t p0 S = (0 : Int32) then some (none, S) else if ¬ s_X2_isInfinite t p0 S = (0 : Int32) then some (none, S) else
  if s_X2_isNought t p0 S = (0 : Int32) then
    bd1 (gR S 1101 a) fun t1 => bd1 (gR S 1104 a) fun t2 =>
    bd2 (s_X0_wholes F t1 (gI S 702 t2) (s_X2_isMinus t p0 S) (s_X2_weight t p0 S).toInt64 (s_X2_place t p0 S) S) fun z S1 => g_X11_whole_end (s_X2_isMinus t p0 S) z S1
  else g_X11_whole_end (s_X2_isMinus t p0 S) 0 S
section JGAP
variable {N N2 : Nat → Nat} {F : Nat} {S S2 S' S2' : HS} {x m : Nat} {A B : Nat → Nat} {b c nx n : Nat} {T : TT}
theorem x2_hasPlaces {p k e fr b : Nat} (hf : FM S p k e fr) (ho : FO k e fr) : s_X2_hasPlaces p (ii b) S = b2 (decide (nSc k e fr b = 1 ∨ nSc k e fr b = 2)) := by
  have hi := nInf_le ho
  have hs := @nS_lt e fr b
  have hsb := sb_le ho
  have ha := nAd_lt (b := b) ho
  have h4 := nSc_4 (b := b) ho
  have h3 := nSc_3 (b := b) ho
  have h0 := nSc_0 (b := b) ho
  have hle := @nSc_le k e fr b
  unfold s_X2_hasPlaces
  rw [x2_size hf, x2_addend hf ho, hf.2.2.2.2.2.1]
  have c1 : (ii (nInf k e fr : Int) ≤ ii (nS e fr b : Int)) = (nInf k e fr ≤ nS e fr b) := by rw [ii_le (by omega) (by omega) (by omega) (by omega)]; apply propext; omega
  have c2 : (ii (nAd k e fr b : Int) = (0 : Int32)) = (nAd k e fr b = 0) := by rw [k0, ii_eq (by omega) (by omega) (by omega) (by omega)]; apply propext; omega
  simp only [c1, c2]
  by_cases w : nInf k e fr ≤ nS e fr b
  · rw [if_pos w, decide_eq_false (by omega)]; rfl
  rw [if_neg w]
  by_cases w2 : nAd k e fr b = 0
  · rw [if_pos w2, decide_eq_false (by omega)]; rfl
  · rw [if_neg w2, decide_eq_true (by omega)]; rfl
def plc (T : TT) (u : Nat) : Bool := decide (nSc (vK (tU T) (tN T).1) (vE (tU T) (tN T).1) (vF (tU T) (tN T).1) u = 1 ∨ nSc (vK (tU T) (tN T).1) (vE (tU T) (tN T).1) (vF (tU T) (tN T).1) u = 2)
theorem y_isPlaced (hM : RY N2 S2 m B T) (hT : TOK n T) (hn : vN (tU T) ≠ 0) {u : Nat} (hu : u < tB (tU T) (tN T).1) : s_X12_isPlaced N2 m (ii u) S2 = some (b2 (plc T u)) := by
  obtain ⟨b1, fo, mu, hus, hr⟩ := base1 hM hT hn
  have hle := @nSc_le (vK (tU T) (tN T).1) (vE (tU T) (tN T).1) (vF (tU T) (tN T).1) u
  unfold s_X12_isPlaced plc
  rw [hus, bd1_some, y_sumClass mu fo hu, bd1_some]
  generalize nSc (vK (tU T) (tN T).1) (vE (tU T) (tN T).1) (vF (tU T) (tN T).1) u = q at *
  have c1 : (ii (q : Int) = (1 : Int32)) = (q = 1) := by rw [k1, ii_eq (by omega) (by omega) (by omega) (by omega)]; apply propext; omega
  have c2 : (ii (q : Int) = (2 : Int32)) = (q = 2) := by rw [k2, ii_eq (by omega) (by omega) (by omega) (by omega)]; apply propext; omega
  simp only [c1, c2]
  by_cases w1 : q = 1
  · rw [if_pos w1, decide_eq_true (Or.inl w1)]; rfl
  rw [if_neg w1]
  by_cases w2 : q = 2
  · rw [if_pos w2, decide_eq_true (Or.inr w2)]; rfl
  · rw [if_neg w2, decide_eq_false (by omega)]; rfl
theorem j_gap (hX : RX N S x A b c nx T) (hM : RY N2 S2 m B T) (hT : TOK n T) (p q r : Int32) : ∃ o S2', g_X11_gap N x p q r S = some o ∧ s_X12_gap N2 m p q r S2 = some (o.getD 0, S2') ∧ gI S2' 1200 m = b2 (!o.isSome) ∧ YE m B S2 S2' := by
  obtain ⟨g1, g2⟩ := x_hold hX.1 hX.2.1 hT.2.1 p
  have thr : ∀ p q r : Int32, ∃ S2', s_X12_gap_J40 N2 m p q r m 1 S2 = some (0, S2') ∧ gI S2' 1200 m = b2 true ∧ YE m B S2 S2' := by
    intro p q r
    unfold s_X12_gap_J40
    rw [bnd_def, show gI (uI S2 1200 m 1) 1200 m = 1 by rw [gI_uI, if_pos ⟨rfl, rfl⟩], if_neg (by decide)]
    exact ⟨_, rfl, by rw [gI_uI, if_pos ⟨rfl, rfl⟩]; rfl, YE.thr _ _ _ _⟩
  unfold g_X11_gap s_X12_gap
  rw [y_areBits hM.1 hM.2.1.1 hT.2.1, bd1_some]
  simp only [b2_0]
  cases hh : hld (tU T) (tN T) p
  · obtain ⟨S3, t1, t2, t3⟩ := thr p q r
    rw [g1 hh, bd1_some, mq_none, if_pos (by simp), t1]
    exact ⟨none, S3, rfl, rfl, t2, t3⟩
  obtain ⟨o, o1, o2, o3⟩ := g2 hh
  have hn := hld_n hh
  rw [o1, bd1_some, mq_some, x_holds o2 o3 hn, x_holds o2 o3 hn]
  simp only [b2_0]
  cases hq : hld (tU T) (tN T) q
  · obtain ⟨S3, t1, t2, t3⟩ := thr p q r
    rw [if_pos rfl, if_pos (by simp), t1]
    exact ⟨none, S3, rfl, rfl, t2, t3⟩
  cases hr : hld (tU T) (tN T) r
  · obtain ⟨S3, t1, t2, t3⟩ := thr p q r
    rw [if_neg tf, if_pos rfl, if_pos (by simp), t1]
    exact ⟨none, S3, rfl, rfl, t2, t3⟩
  obtain ⟨u, rfl, hu, _, _⟩ := hld_ex hT.2.1 hh
  obtain ⟨v, rfl, hv, _, _⟩ := hld_ex hT.2.1 hq
  obtain ⟨w, rfl, hw, _, _⟩ := hld_ex hT.2.1 hr
  rw [if_neg tf, if_neg tf, if_neg (show ¬ ((true && true && true) = false) by decide), y_isPlaced hM hT hn hu, y_isPlaced hM hT hn hv, y_isPlaced hM hT hn hw, bd1_some]
  have e1 : s_X2_hasPlaces o (ii u) S = b2 (plc T u) := x2_hasPlaces o2 o3
  have e2 : s_X2_hasPlaces o (ii v) S = b2 (plc T v) := x2_hasPlaces o2 o3
  have e3 : s_X2_hasPlaces o (ii w) S = b2 (plc T w) := x2_hasPlaces o2 o3
  rw [e1, e2, e3]
  obtain ⟨S3, t1, t2, t3⟩ := thr (ii u) (ii v) (ii w)
  simp only [b2_0]
  cases plc T u
  · rw [if_pos rfl, if_pos rfl, t1]; exact ⟨none, S3, rfl, rfl, t2, t3⟩
  rw [if_neg tf, if_neg tf, bd1_some]
  simp only [b2_0]
  cases plc T v
  · rw [if_pos rfl, if_pos rfl, t1]; exact ⟨none, S3, rfl, rfl, t2, t3⟩
  rw [if_neg tf, if_neg tf, bd1_some]
  simp only [b2_0]
  cases plc T w
  · rw [if_pos rfl, if_pos rfl, t1]; exact ⟨none, S3, rfl, rfl, t2, t3⟩
  rw [if_neg tf, if_neg tf]
  obtain ⟨S1, hS1, hM1, y0⟩ := base0 hM 0
  obtain ⟨b1, fo, mu, hus, _⟩ := base1 hM1 hT hn
  unfold s_X12_gap_J40
  rw [bnd_def, ← hS1, show gI S1 1200 m = 0 by rw [hS1, gI_uI, if_pos ⟨rfl, rfl⟩], if_pos (by decide), hus, bd1_some, y_placeOf mu fo hu, bd1_some, bd1_some, y_placeOf mu fo hv, bd1_some, bd1_some, y_placeOf mu fo hw, bd1_some, x2_place o2 o3, x2_place o2 o3, x2_place o2 o3]
  exact ⟨_, S1, rfl, rfl, by rw [hS1, gI_uI, if_pos ⟨rfl, rfl⟩]; rfl, y0⟩
theorem wh_big {L : Bool → Bool → Bool → Bool → Bool} {mode n : Nat} {mi : Bool} {pl : Int} (h0 : 0 < n) (hn : n < 524288) (h : 40 < (nBl n : Int) + pl) (hp : pl ≤ 40) : 2147483648 < nWh L mode mi n pl := by
  have hb : nBl n = n.log2 + 1 := by unfold nBl; rw [if_neg (by omega)]
  have h19 : n.log2 < 19 := (Nat.log2_lt (by omega)).mpr hn
  have h1 : 2 ^ n.log2 ≤ n := Nat.log2_self_le (by omega)
  unfold nWh rCut
  rw [if_pos (by omega)]
  dsimp only
  have h2 : 2 ^ n.log2 * 2 ^ (- -pl).toNat ≤ n * 2 ^ (- -pl).toNat := Nat.mul_le_mul_right _ h1
  rw [← Nat.pow_add] at h2
  have h3 : 2 ^ 40 ≤ 2 ^ (n.log2 + (- -pl).toNat) := Nat.pow_le_pow_right (by decide) (by omega)
  have h4 : (2 : Nat) ^ 40 = 1099511627776 := by decide
  generalize n * 2 ^ (- -pl).toNat = P at *
  generalize 2 ^ (n.log2 + (- -pl).toNat) = Q at *
  omega
theorem wh_lt {L : Bool → Bool → Bool → Bool → Bool} {mode n : Nat} {mi : Bool} {pl : Int} (hn : n < 524288) (hp : pl ≤ 40) : (rCut n (-pl) false).1 < 600000000000000000 := by
  unfold rCut
  by_cases w : -pl ≤ 0
  · rw [if_pos w]
    dsimp only
    have h2 : n * 2 ^ (- -pl).toNat ≤ 524288 * 2 ^ 40 := Nat.mul_le_mul (by omega) (Nat.pow_le_pow_right (by decide) (by omega))
    have h4 : (2 : Nat) ^ 40 = 1099511627776 := by decide
    rw [h4] at h2
    generalize n * 2 ^ (- -pl).toNat = P at *
    omega
  · rw [if_neg w]
    dsimp only
    have := Nat.div_le_self n (2 ^ (-pl).toNat)
    generalize n / 2 ^ (-pl).toNat = P at *
    omega
def mst (mi : Bool) : Nat := if mi then 2147483648 else 2147483647
theorem x_wend (mi : Bool) {z : Nat} (hz : z < 1000000000000000000) (S : HS) : g_X11_whole_end (b2 mi) (jj z) S = some (if mst mi < z then none else some (if mi then -jj z else jj z).toInt32, S) := by
  unfold g_X11_whole_end mst
  cases mi
  · rw [if_pos (show b2 false = (0 : Int32) from rfl), if_pos (show b2 false = (0 : Int32) from rfl), show (2147483647 : Int64) = jj 2147483647 from rfl, lg_c (by omega) (by omega) (by omega) (by omega)]
    by_cases w : 2147483647 < z
    · rw [if_pos (show (2147483647 : Int) < (z : Int) by omega), if_pos (by decide), if_pos (by simpa using w)]
    · rw [if_neg (show ¬ (2147483647 : Int) < (z : Int) by omega), if_neg (by split <;> decide), if_neg (show ¬ (if false = true then 2147483648 else 2147483647) < z by simpa using w)]; rfl
  · rw [if_neg (show ¬ b2 true = (0 : Int32) by decide), if_neg (show ¬ b2 true = (0 : Int32) by decide), show (2147483648 : Int64) = jj 2147483648 from rfl, lg_c (by omega) (by omega) (by omega) (by omega)]
    by_cases w : 2147483648 < z
    · rw [if_pos (show (2147483648 : Int) < (z : Int) by omega), if_pos (by decide), if_pos (by simpa using w)]
    · rw [if_neg (show ¬ (2147483648 : Int) < (z : Int) by omega), if_neg (by split <;> decide), if_neg (show ¬ (if true = true then 2147483648 else 2147483647) < z by simpa using w)]; rfl
theorem y_wend (mi : Bool) {k u : Nat} (hz : k + u < 1000000000000000000) (S : HS) : ∃ S', s_X12_whole_J135 N2 F m (b2 mi) (jj k) (jj u) S = some ((if mst mi < k + u then none else some (if mi then -jj (k + u : Nat) else jj (k + u : Nat)).toInt32 : Option Int32).getD 0, S') ∧ gI S' 1200 m = b2 (decide (mst mi < k + u)) ∧ YE m B S S' := by
  have e : jj (k : Int) + jj (u : Int) = jj (k + u : Nat) := by rw [jj_add]; congr 1
  have fin0 : ∀ y : Int64, ∃ S', s_X12_whole_J176 N2 F m y m 0 S = some (y.toInt32, S') ∧ gI S' 1200 m = b2 false ∧ YE m B S S' := by
    intro y
    unfold s_X12_whole_J176
    rw [bnd_def, show gI (uI S 1200 m 0) 1200 m = 0 by rw [gI_uI, if_pos ⟨rfl, rfl⟩], if_pos (by decide)]
    exact ⟨_, rfl, by rw [gI_uI, if_pos ⟨rfl, rfl⟩]; rfl, YE.thr _ _ _ _⟩
  have fin1 : ∀ y : Int64, ∃ S', s_X12_whole_J176 N2 F m y m 1 S = some (0, S') ∧ gI S' 1200 m = b2 true ∧ YE m B S S' := by
    intro y
    unfold s_X12_whole_J176
    rw [bnd_def, show gI (uI S 1200 m 1) 1200 m = 1 by rw [gI_uI, if_pos ⟨rfl, rfl⟩], if_neg (by decide)]
    exact ⟨_, rfl, by rw [gI_uI, if_pos ⟨rfl, rfl⟩]; rfl, YE.thr _ _ _ _⟩
  unfold s_X12_whole_J135 s_X12_whole_J150 mst
  rw [bnd_def, e]
  generalize k + u = z at *
  cases mi
  · rw [if_pos (show b2 false = (0 : Int32) from rfl), show (2147483647 : Int64) = jj 2147483647 from rfl, show (-2147483648 : Int64) = jj (-2147483648) from rfl, lg_c (by omega) (by omega) (by omega) (by omega), lg_c (by omega) (by omega) (by omega) (by omega)]
    by_cases w : 2147483647 < z
    · rw [if_pos (show (2147483647 : Int) < (z : Int) by omega), if_pos (show (0 : Int32) < 1 by decide), if_pos (show (if false = true then 2147483648 else 2147483647) < z by simpa using w), decide_eq_true (show (if false = true then 2147483648 else 2147483647) < z by simpa using w)]
      exact fin1 _
    · rw [if_neg (show ¬ (2147483647 : Int) < (z : Int) by omega), if_neg (show ¬ (0 : Int32) < (if (z : Int) = 2147483647 then 0 else -1) by split <;> decide), if_pos (show (-2147483648 : Int) < (z : Int) by omega), if_pos (show (0 : Int32) ≤ 1 by decide), if_neg (show ¬ (if false = true then 2147483648 else 2147483647) < z by simpa using w), decide_eq_false (show ¬ (if false = true then 2147483648 else 2147483647) < z by simpa using w)]
      exact fin0 _
  · rw [if_neg (show ¬ b2 true = (0 : Int32) by decide), jj_neg, show (2147483647 : Int64) = jj 2147483647 from rfl, show (-2147483648 : Int64) = jj (-2147483648) from rfl, lg_c (by omega) (by omega) (by omega) (by omega), lg_c (by omega) (by omega) (by omega) (by omega)]
    rw [if_neg (show ¬ (2147483647 : Int) < -(z : Int) by omega), if_neg (show ¬ (0 : Int32) < (if -(z : Int) = 2147483647 then 0 else -1) by split <;> decide)]
    by_cases w : 2147483648 < z
    · rw [if_neg (show ¬ (-2147483648 : Int) < -(z : Int) by omega), if_neg (show ¬ -(z : Int) = -2147483648 by omega), if_neg (show ¬ (0 : Int32) ≤ -1 by decide), if_pos (show (if true = true then 2147483648 else 2147483647) < z by simpa using w), decide_eq_true (show (if true = true then 2147483648 else 2147483647) < z by simpa using w)]
      exact fin1 _
    · have hge : (0 : Int32) ≤ (if (-2147483648 : Int) < -(z : Int) then 1 else if -(z : Int) = -2147483648 then 0 else -1) := by
        by_cases q : z = 2147483648
        · subst q; decide
        · rw [if_pos (by omega)]; decide
      rw [if_pos hge, if_neg (show ¬ (if true = true then 2147483648 else 2147483647) < z by simpa using w), decide_eq_false (show ¬ (if true = true then 2147483648 else 2147483647) < z by simpa using w)]
      exact fin0 _
theorem odd_if (kept : Nat) (G : Int32 → Option (Int32 × HS)) : (if lg_cmp (jj kept &&& 1) 1 = 0 then G 1 else G 0) = G (b2 (decide (kept % 2 = 1))) := by
  rw [show (1 : Int64) = jj (1 : Nat) from rfl, jj_and, Nat.and_one_is_mod]
  have hm2 : kept % 2 < 2 := Nat.mod_lt _ (by decide)
  generalize kept % 2 = q at *
  rw [lg_c (by omega) (by omega) (by omega) (by omega)]
  have : q = 0 ∨ q = 1 := by omega
  rcases this with r | r <;> subst r <;> rfl
theorem j_whole (hF : 3000 ≤ F) (hX : RX N S x A b c nx T) (hM : RY N2 S2 m B T) (hT : TOK n T) (p : Int32) : ∃ o S' S2', g_X11_whole N F x p S = some (o, S') ∧ s_X12_whole N2 F m p S2 = some (o.getD 0, S2') ∧ gI S2' 1200 m = b2 (!o.isSome) ∧ XE A S S' ∧ YE m B S2 S2' := by
  obtain ⟨g1, g2⟩ := x_hold hX.1 hX.2.1 hT.2.1 p
  have thr : ∀ (v1 v2 : Int32), ∃ S2', s_X12_whole_J30 N2 F m v1 v2 m 1 S2 = some (0, S2') ∧ gI S2' 1200 m = b2 true ∧ YE m B S2 S2' := by
    intro v1 v2
    unfold s_X12_whole_J30
    rw [bnd_def, show gI (uI S2 1200 m 1) 1200 m = 1 by rw [gI_uI, if_pos ⟨rfl, rfl⟩], if_pos (by decide)]
    exact ⟨_, rfl, by rw [gI_uI, if_pos ⟨rfl, rfl⟩]; rfl, YE.thr _ _ _ _⟩
  unfold g_X11_whole s_X12_whole
  rw [y_used hM.1 hM.2.1.1, bd1_some, y_isBits hM.1 hT.2.1, bd1_some]
  simp only [b2_0]
  cases hh : hld (tU T) (tN T) p
  · obtain ⟨S3, t1, t2, t3⟩ := thr p (ii (fI (tU T) (tN T).1))
    rw [g1 hh, bd1_some, mq_none, if_pos rfl, t1]
    exact ⟨none, _, S3, rfl, rfl, t2, XE.refl _ _, t3⟩
  obtain ⟨o, o1, o2, o3⟩ := g2 hh
  have hn := hld_n hh
  obtain ⟨u, rfl, hu, _, _⟩ := hld_ex hT.2.1 hh
  have hfi : fI (tU T) (tN T).1 = ((tN T).1 : Int) := by unfold fI; rw [if_neg hn]
  obtain ⟨b1, fo, mu, hus, hr⟩ := base1 hM hT hn
  have h4 := nCl_4 (b := u) fo
  have h3 := nCl_3 (b := u) fo
  have h0 := @nCl_0 (vK (tU T) (tN T).1) (vE (tU T) (tN T).1) (vF (tU T) (tN T).1) u
  have hle := @nCl_le (vK (tU T) (tN T).1) (vE (tU T) (tN T).1) (vF (tU T) (tN T).1) u
  rw [o1, bd1_some, mq_some, if_neg tf, hfi, y_classOf mu fo hu, bd1_some, x2_isNan o2 o3, x2_isInfinite o2 o3, x2_isNought o2 o3, x2_isMinus o2 o3 hu, x2_weight o2 o3, x2_place o2 o3]
  simp only [b2_0, decide_eq_false_iff_not]
  have c3 : ((3 : Int32) ≤ ii (nCl (vK (tU T) (tN T).1) (vE (tU T) (tN T).1) (vF (tU T) (tN T).1) u : Int)) = (3 ≤ nCl (vK (tU T) (tN T).1) (vE (tU T) (tN T).1) (vF (tU T) (tN T).1) u) := by rw [k3, ii_le (by omega) (by omega) (by omega) (by omega)]; apply propext; omega
  simp only [c3]
  obtain ⟨Sx, t1, t2, t3⟩ := thr (ii u) (ii ((tN T).1 : Int))
  by_cases w4 : nInf (vK (tU T) (tN T).1) (vE (tU T) (tN T).1) (vF (tU T) (tN T).1) < nS (vE (tU T) (tN T).1) (vF (tU T) (tN T).1) u
  · rw [if_pos (fun q => q w4), if_pos (by omega), t1]
    exact ⟨none, _, Sx, rfl, rfl, t2, XE.refl _ _, t3⟩
  rw [if_neg (fun q => q w4)]
  by_cases w3 : nS (vE (tU T) (tN T).1) (vF (tU T) (tN T).1) u = nInf (vK (tU T) (tN T).1) (vE (tU T) (tN T).1) (vF (tU T) (tN T).1)
  · rw [if_pos (fun q => q w3), if_pos (by omega), t1]
    exact ⟨none, _, Sx, rfl, rfl, t2, XE.refl _ _, t3⟩
  rw [if_neg (fun q => q w3), if_neg (show ¬ 3 ≤ nCl (vK (tU T) (tN T).1) (vE (tU T) (tN T).1) (vF (tU T) (tN T).1) u by omega)]
  obtain ⟨S1, hS1, hM1, y0⟩ := base0 hM 0
  obtain ⟨_, _, mu1, hus1, hr1⟩ := base1 hM1 hT hn
  have e12 : gI S1 1200 m = 0 := by rw [hS1, gI_uI, if_pos ⟨rfl, rfl⟩]
  have c0 : (ii (nCl (vK (tU T) (tN T).1) (vE (tU T) (tN T).1) (vF (tU T) (tN T).1) u : Int) = (0 : Int32)) = (nCl (vK (tU T) (tN T).1) (vE (tU T) (tN T).1) (vF (tU T) (tN T).1) u = 0) := by rw [k0, ii_eq (by omega) (by omega) (by omega) (by omega)]; apply propext; omega
  unfold s_X12_whole_J30
  rw [bnd_def, ← hS1, e12, if_neg (show ¬ (0 : Int32) < 0 by decide), y_classOf mu1 fo hu, bd1_some]
  simp only [c0]
  by_cases w0 : nS (vE (tU T) (tN T).1) (vF (tU T) (tN T).1) u = 0
  · rw [if_neg (fun q => q w0), if_pos (h0.mpr w0), show (0 : Int64) = jj (0 : Nat) from rfl, x_wend _ (by omega), if_neg (by omega)]
    refine ⟨_, _, S1, rfl, ?_, e12, XE.refl _ _, y0⟩
    cases nMi (vE (tU T) (tN T).1) (vF (tU T) (tN T).1) u <;> rfl
  obtain ⟨a1, a2, a3, a4, a5, a6⟩ := x_add hX
  have hnW := nW_lt (b := u) fo
  have hw2 : nW (vE (tU T) (tN T).1) (vF (tU T) (tN T).1) u < 524288 := Nat.lt_of_lt_of_le hnW (Nat.le_trans (Nat.pow_le_pow_right (by decide) (show vF (tU T) (tN T).1 + 1 ≤ 19 by have := fo.2.2.2.2; omega)) (by decide))
  have hnz : 0 < nW (vE (tU T) (tN T).1) (vF (tU T) (tN T).1) u := by have := @nW_0 (vE (tU T) (tN T).1) (vF (tU T) (tN T).1) u; omega
  have hpl := nPl_le (b := u) fo
  have hmode := hT.2.1.2.1
  obtain ⟨S3, f1, f2⟩ := x0_wholes (F := F) (m := nMi (vE (tU T) (tN T).1) (vF (tU T) (tN T).1) u) (by omega) a4 a5 hmode hnz hw2 (show -400 ≤ nPl (vE (tU T) (tN T).1) (vF (tU T) (tN T).1) u by omega) (by omega)
  have ew : (ii (nW (vE (tU T) (tN T).1) (vF (tU T) (tN T).1) u : Int)).toInt64 = jj (nW (vE (tU T) (tN T).1) (vF (tU T) (tN T).1) u) := ii_jj (by omega) (by omega)
  rw [if_pos w0, if_neg (fun q => w0 (h0.mp q)), a1, bd1_some, a2, bd1_some, a3, ew, f1, bd2_some, y_isMinus mu1 fo hu, bd1_some, y_wholeOf mu1 fo hu, bd1_some, y_placeOf mu1 fo hu, bd1_some]
  have c40 : (ii (nPl (vE (tU T) (tN T).1) (vF (tU T) (tN T).1) u) ≤ (40 : Int32)) = (nPl (vE (tU T) (tN T).1) (vF (tU T) (tN T).1) u ≤ 40) := by rw [show (40 : Int32) = ii 40 from rfl, ii_le (by omega) (by omega) (by omega) (by omega)]
  simp only [c40]
  generalize nW (vE (tU T) (tN T).1) (vF (tU T) (tN T).1) u = k at *
  generalize nPl (vE (tU T) (tN T).1) (vF (tU T) (tN T).1) u = pl at *
  generalize nMi (vE (tU T) (tN T).1) (vF (tU T) (tN T).1) u = mi at *
  have hms : mst mi ≤ 2147483648 := by unfold mst; split <;> omega
  by_cases w40 : ¬ pl ≤ 40
  · have hb : 1 ≤ nBl k := by unfold nBl; rw [if_neg (by omega)]; omega
    rw [if_neg w40, if_pos (show 40 < (nBl k : Int) + pl by omega), show (1099511627776 : Int) = ((1099511627776 : Nat) : Int) from rfl, x_wend _ (by omega), if_pos (show mst mi < 1099511627776 by omega), bnd_def]
    exact ⟨none, S3, _, rfl, rfl, by rw [gI_uI, if_pos ⟨rfl, rfl⟩]; rfl, f2.xe, y0.trans (YE.thr _ _ _ _)⟩
  have w40 := Decidable.not_not.mp w40
  obtain ⟨S4, k1', k2', k3', k4'⟩ := y_cuts (a := m) (fa := B 9) (pi := B 10) (S := S1) (n := k) (d := -pl) (w := false) (by omega) (by omega) (by omega)
  have k1'' : s_X12_cuts m (jj k) (-ii pl) 0 S1 = some (jj (rCut k (-pl) false).1, S4) := by rw [ii_neg]; exact k1'
  have hM4 := hM1.ye (k4'.ye hM1.1.1)
  obtain ⟨_, _, _, _, hr4⟩ := base1 hM4 hT hn
  obtain ⟨st1, st2⟩ := y_st hM4.1
  have i1 : ((1 : Int32).toNatClampNeg) = 1 := by decide
  have in1 : inB (1 : Int32) (N2 (B 11)) = true := by rw [st2]; decide
  have emd : aI S4 (B 11) 1 = ii (tN T).2.1 := hM4.2.1.1.2.1
  obtain ⟨S5, j1, j2, _⟩ := y_isUp (F := F) (by omega) hr4 hmode mi (decide ((rCut k (-pl) false).1 % 2 = 1)) _ _ k2' k3'
  have hk6 := @wh_lt (lawB (vL (tU T))) (tN T).2.1 k mi pl hw2 w40
  rw [if_pos w40, k1'', bd2_some, st1, bd1_some, if_pos in1, i1, emd, odd_if (rCut k (-pl) false).1 (fun y => s_X12_whole_J124 N2 F m (b2 mi) (jj (rCut k (-pl) false).1) m (ii (tN T).2.1) (b2 mi) y S4)]
  unfold s_X12_whole_J124
  rw [j1, bd2_some]
  simp only [b2_0]
  have hM5 := hM4.ye (j2.ye hM1.1.1)
  have hz : ∃ z : Nat, (if 40 < (nBl k : Int) + pl then (1099511627776 : Int) else (nWh (lawB (vL (tU T))) (tN T).2.1 mi k pl : Nat)) = (z : Int) ∧ z < 1000000000000000000 ∧ (mst mi < z ↔ mst mi < nWh (lawB (vL (tU T))) (tN T).2.1 mi k pl) ∧ (¬ mst mi < z → z = nWh (lawB (vL (tU T))) (tN T).2.1 mi k pl) := by
    have hle : nWh (lawB (vL (tU T))) (tN T).2.1 mi k pl < 1000000000000000000 := by unfold nWh; split <;> omega
    by_cases q : 40 < (nBl k : Int) + pl
    · have := wh_big (L := lawB (vL (tU T))) (mode := (tN T).2.1) (mi := mi) hnz hw2 q w40
      exact ⟨1099511627776, by rw [if_pos q]; rfl, by omega, by omega, by omega⟩
    · exact ⟨_, by rw [if_neg q], hle, Iff.rfl, fun _ => rfl⟩
  obtain ⟨z, z1, z2, z3, z4⟩ := hz
  rw [z1, x_wend mi z2]
  have fin : ∀ up : Nat, up < 2 → (rCut k (-pl) false).1 + up = nWh (lawB (vL (tU T))) (tN T).2.1 mi k pl → ∃ o S' S2', some (if mst mi < z then none else some (if mi then -jj (z : Int) else jj z).toInt32, S3) = some (o, S') ∧ s_X12_whole_J135 N2 F m (b2 mi) (jj (rCut k (-pl) false).1) (jj up) S5 = some (o.getD 0, S2') ∧ gI S2' 1200 m = b2 (!o.isSome) ∧ XE A S S' ∧ YE m B S2 S2' := by
    intro up hup he
    obtain ⟨S6, r1, r2, r3⟩ := y_wend (N2 := N2) (F := F) (m := m) (B := B) mi (k := (rCut k (-pl) false).1) (u := up) (by omega) S5
    refine ⟨_, S3, S6, rfl, ?_, ?_, f2.xe, ((y0.trans (k4'.ye hM1.1.1)).trans (j2.ye hM1.1.1)).trans r3⟩
    · rw [r1, he]
      by_cases q : mst mi < z
      · rw [if_pos q, if_pos (z3.mp q)]
      · rw [if_neg q, if_neg (fun r => q (z3.mpr r)), z4 q]
    · rw [r2, he]
      by_cases q : mst mi < z
      · rw [if_pos q, decide_eq_true (z3.mp q)]; rfl
      · rw [if_neg q, decide_eq_false (fun r => q (z3.mpr r))]; rfl
  cases hup : gUp (lawB (vL (tU T))) (tN T).2.1 mi (decide ((rCut k (-pl) false).1 % 2 = 1)) (rCut k (-pl) false).2.1 (rCut k (-pl) false).2.2
  · rw [if_pos rfl]
    exact fin 0 (by omega) (by unfold nWh; rw [hup, if_neg (by decide)])
  · rw [if_neg tf]
    exact fin 1 (by omega) (by unfold nWh; rw [hup, if_pos rfl])
end JGAP
end
section
/- the model's two resets -/
section YRESET
variable {N : Nat → Nat} {F : Nat} {S : HS} {m u : Nat}
theorem y_alw_loop (h1 : gR S 1210 m = some u) (h2 : N u = 30) {o : Nat} (ho : o = 0 ∨ o = 15) (cont : Nat → Int32 → HS → Option HS) : ∀ (k i M : Nat) (S1 : HS), i + k = 15 → k < M → S1.1 = S.1 → S1.2.1 = S.2.1 → S1.2.2.1 = S.2.2.1 → S1.2.2.2.2 = S.2.2.2.2 → (∀ p, p ≠ u → aI S1 p = aI S p) → (∀ j, aI S1 u j = if o ≤ j ∧ j < o + i then 0 else aI S u j) →
    ∃ S2, s_X12_standsAsAlways_L2 N F cont M m (ii o) (ii i) S1 = cont m (ii o) S2 ∧ S2.1 = S.1 ∧ S2.2.1 = S.2.1 ∧ S2.2.2.1 = S.2.2.1 ∧ S2.2.2.2.2 = S.2.2.2.2 ∧ (∀ p, p ≠ u → aI S2 p = aI S p) ∧ (∀ j, aI S2 u j = if o ≤ j ∧ j < o + 15 then 0 else aI S u j) := by
  intro k
  induction k with
  | zero =>
    intro i M S1 hi hM e1 e2 e3 e4 e5 e6
    obtain ⟨M, rfl⟩ : ∃ q, M = q + 1 := ⟨M - 1, by omega⟩
    unfold s_X12_standsAsAlways_L2
    rw [if_pos (by rw [k15, ii_le (by omega) (by omega) (by omega) (by omega)]; omega)]
    have : i = 15 := by omega
    subst this
    exact ⟨S1, rfl, e1, e2, e3, e4, e5, e6⟩
  | succ k ih =>
    intro i M S1 hi hM e1 e2 e3 e4 e5 e6
    obtain ⟨M, rfl⟩ : ∃ q, M = q + 1 := ⟨M - 1, by omega⟩
    have g1 : gR S1 1210 m = some u := by rw [gR_of e3]; exact h1
    have ea : ii (o : Int) + ii (i : Int) = ii ((o + i : Nat) : Int) := by rw [ii_add]; rfl
    have ib : inB (ii ((o + i : Nat) : Int)) (N u) = true := by rw [h2]; exact in_of (z := o + i) rfl (by omega) (by decide)
    have cl := cl_of (x := ii ((o + i : Nat) : Int)) (z := o + i) rfl (by omega)
    have ej : ii (i : Int) + Int32.ofInt 1 = ii ((i + 1 : Nat) : Int) := by rw [show Int32.ofInt 1 = ii 1 from rfl, ii_add]; rfl
    unfold s_X12_standsAsAlways_L2
    rw [if_neg (by rw [k15, ii_le (by omega) (by omega) (by omega) (by omega)]; omega), g1, bd1_some, ea, if_pos ib, bnd_def, bnd_def, cl, ej]
    refine ih (i + 1) M _ (by omega) (by omega) e1 e2 e3 e4 (fun p hp => ?_) (fun j => ?_)
    · rw [aI_wI_o _ _ _ _ hp]; exact e5 p hp
    · rw [aI_wI_s]; dsimp only
      by_cases q : j = o + i
      · rw [if_pos q, if_pos (by omega)]
      · rw [if_neg q, e6]
        by_cases q2 : o ≤ j ∧ j < o + i
        · rw [if_pos q2, if_pos (by omega)]
        · rw [if_neg q2, if_neg (by omega)]
theorem y_alw (hF : 3000 ≤ F) (h1 : gR S 1210 m = some u) (h2 : N u = 30) {o : Nat} (ho : o = 0 ∨ o = 15) :
    ∃ S2, s_X12_standsAsAlways N F m (ii o) S = some S2 ∧ S2.1 = S.1 ∧ S2.2.1 = S.2.1 ∧ S2.2.2.1 = S.2.2.1 ∧ S2.2.2.2.2 = S.2.2.2.2 ∧ (∀ p, p ≠ u → aI S2 p = aI S p) ∧ (∀ j, aI S2 u j = if j = o + 2 then -1 else if o ≤ j ∧ j < o + 15 then 0 else aI S u j) := by
  obtain ⟨S1, a1, a2, a3, a4, a5, a6, a7⟩ := y_alw_loop (F := F) h1 h2 ho (s_X12_standsAsAlways_J23 N F) 15 0 F S (by omega) (by omega) rfl rfl rfl rfl (fun _ _ => rfl) (fun j => by rw [if_neg (by omega)])
  have a1' : s_X12_standsAsAlways N F m (ii o) S = s_X12_standsAsAlways_J23 N F m (ii o) S1 := a1
  have g1 : gR S1 1210 m = some u := by rw [gR_of a4]; exact h1
  have ea : ii (o : Int) + 2 = ii ((o + 2 : Nat) : Int) := by rw [k2, ii_add]; rfl
  rw [a1']
  unfold s_X12_standsAsAlways_J23
  rw [g1, bd1_some, ea, if_pos (by rw [h2]; exact in_of (z := o + 2) rfl (by omega) (by decide)), bnd_def, cl_of (z := o + 2) rfl (by omega)]
  refine ⟨_, rfl, a2, a3, a4, a5, fun p hp => ?_, fun j => ?_⟩
  · rw [aI_wI_o _ _ _ _ hp]; exact a6 p hp
  · rw [aI_wI_s]; dsimp only
    by_cases q : j = o + 2
    · rw [if_pos q, if_pos q]
    · rw [if_neg q, if_neg q, a7]
variable {B : Nat → Nat}
theorem y_beg_loop1 (h1 : gR S 1217 m = some u) (h2 : N u = 616) (cont : Nat → HS → Option HS) : ∀ (k i M : Nat) (S1 : HS), i + k = 11 → k < M → S1.1 = S.1 → S1.2.1 = S.2.1 → S1.2.2.1 = S.2.2.1 → S1.2.2.2.2 = S.2.2.2.2 → (∀ p, p ≠ u → aI S1 p = aI S p) → (∀ j, aI S1 u j = if j < i then 0 else aI S u j) →
    ∃ S2, s_X12_begins_L2 N F cont M m (ii i) S1 = cont m S2 ∧ S2.1 = S.1 ∧ S2.2.1 = S.2.1 ∧ S2.2.2.1 = S.2.2.1 ∧ S2.2.2.2.2 = S.2.2.2.2 ∧ (∀ p, p ≠ u → aI S2 p = aI S p) ∧ (∀ j, aI S2 u j = if j < 11 then 0 else aI S u j) := by
  intro k
  induction k with
  | zero =>
    intro i M S1 hi hM e1 e2 e3 e4 e5 e6
    obtain ⟨M, rfl⟩ : ∃ q, M = q + 1 := ⟨M - 1, by omega⟩
    unfold s_X12_begins_L2
    rw [if_pos (by rw [k10, ii_lt (by omega) (by omega) (by omega) (by omega)]; omega)]
    have : i = 11 := by omega
    subst this
    exact ⟨S1, rfl, e1, e2, e3, e4, e5, e6⟩
  | succ k ih =>
    intro i M S1 hi hM e1 e2 e3 e4 e5 e6
    obtain ⟨M, rfl⟩ : ∃ q, M = q + 1 := ⟨M - 1, by omega⟩
    have g1 : gR S1 1217 m = some u := by rw [gR_of e3]; exact h1
    have ib : inB (ii (i : Int)) (N u) = true := by rw [h2]; exact in_of (z := i) rfl (by omega) (by decide)
    have cl := cl_of (x := ii (i : Int)) (z := i) rfl (by omega)
    have ej : ii (i : Int) + Int32.ofInt 1 = ii ((i + 1 : Nat) : Int) := by rw [show Int32.ofInt 1 = ii 1 from rfl, ii_add]; rfl
    unfold s_X12_begins_L2
    rw [if_neg (by rw [k10, ii_lt (by omega) (by omega) (by omega) (by omega)]; omega), g1, bd1_some, if_pos ib, bnd_def, bnd_def, cl, ej]
    refine ih (i + 1) M _ (by omega) (by omega) e1 e2 e3 e4 (fun p hp => ?_) (fun j => ?_)
    · rw [aI_wI_o _ _ _ _ hp]; exact e5 p hp
    · rw [aI_wI_s]; dsimp only
      by_cases q : j = i
      · rw [if_pos q, if_pos (by omega)]
      · rw [if_neg q, e6]
        by_cases q2 : j < i
        · rw [if_pos q2, if_pos (by omega)]
        · rw [if_neg q2, if_neg (by omega)]
theorem y_beg_loop2 (h1 : gR S 1219 m = some u) (h2 : N u = 4) : ∀ (k i M : Nat) (S1 : HS), i + k = 4 → k < M → S1.1 = S.1 → S1.2.1 = S.2.1 → S1.2.2.1 = S.2.2.1 → S1.2.2.2.2 = S.2.2.2.2 → (∀ p, p ≠ u → aI S1 p = aI S p) → (∀ j, aI S1 u j = if j < i then 0 else aI S u j) →
    ∃ S2, s_X12_begins_L53 N F M m (ii i) S1 = some S2 ∧ S2.1 = S.1 ∧ S2.2.1 = S.2.1 ∧ S2.2.2.1 = S.2.2.1 ∧ S2.2.2.2.2 = S.2.2.2.2 ∧ (∀ p, p ≠ u → aI S2 p = aI S p) ∧ (∀ j, aI S2 u j = if j < 4 then 0 else aI S u j) := by
  intro k
  induction k with
  | zero =>
    intro i M S1 hi hM e1 e2 e3 e4 e5 e6
    obtain ⟨M, rfl⟩ : ∃ q, M = q + 1 := ⟨M - 1, by omega⟩
    unfold s_X12_begins_L53
    rw [if_pos (by rw [k4, ii_le (by omega) (by omega) (by omega) (by omega)]; omega)]
    have : i = 4 := by omega
    subst this
    exact ⟨S1, rfl, e1, e2, e3, e4, e5, e6⟩
  | succ k ih =>
    intro i M S1 hi hM e1 e2 e3 e4 e5 e6
    obtain ⟨M, rfl⟩ : ∃ q, M = q + 1 := ⟨M - 1, by omega⟩
    have g1 : gR S1 1219 m = some u := by rw [gR_of e3]; exact h1
    have ib : inB (ii (i : Int)) (N u) = true := by rw [h2]; exact in_of (z := i) rfl (by omega) (by decide)
    have cl := cl_of (x := ii (i : Int)) (z := i) rfl (by omega)
    have ej : ii (i : Int) + Int32.ofInt 1 = ii ((i + 1 : Nat) : Int) := by rw [show Int32.ofInt 1 = ii 1 from rfl, ii_add]; rfl
    unfold s_X12_begins_L53
    rw [if_neg (by rw [k4, ii_le (by omega) (by omega) (by omega) (by omega)]; omega), g1, bd1_some, if_pos ib, bnd_def, bnd_def, cl, ej, show vp_nar .boolean 0 = 0 from rfl]
    refine ih (i + 1) M _ (by omega) (by omega) e1 e2 e3 e4 (fun p hp => ?_) (fun j => ?_)
    · rw [aI_wI_o _ _ _ _ hp]; exact e5 p hp
    · rw [aI_wI_s]; dsimp only
      by_cases q : j = i
      · rw [if_pos q, if_pos (by omega)]
      · rw [if_neg q, e6]
        by_cases q2 : j < i
        · rw [if_pos q2, if_pos (by omega)]
        · rw [if_neg q2, if_neg (by omega)]
/- begins(): a new state, no undo, no marks, no plan -/
theorem y_begins (hF : 3000 ≤ F) (hB : ∀ i j, B i = B j ↔ i = j) (hL : YLAY N S.2.2.1 m B) {nf : Nat} (hn : nf ≤ 4) (hf : aI S (B 5) 0 = ii nf) :
    ∃ S2, s_X12_begins N F m S = some S2 ∧ (∀ f p, f ≠ 1218 → gI S2 f p = gI S f p) ∧ gI S2 1218 m = 0 ∧ S2.2.1 = S.2.1 ∧ S2.2.2.1 = S.2.2.1 ∧ S2.2.2.2.2 = S.2.2.2.2 ∧ (∀ p, p ≠ B 8 → p ≠ B 11 → p ≠ B 12 → aI S2 p = aI S p) ∧ (∀ j, aI S2 (B 11) j = if j = 0 then (if nf = 0 then -1 else 0) else if j < 11 then 0 else aI S (B 11) j) ∧ (∀ j, j < 4 → aI S2 (B 12) j = 0) ∧ (∀ j, aI S2 (B 8) j = if j = 0 then 0 else aI S (B 8) j) := by
  have r17 : gR S 1217 m = some (B 11) := hL.2.1.2.2.2.1
  have r19 : gR S 1219 m = some (B 12) := hL.2.1.2.2.2.2.1
  have r14 : gR S 1214 m = some (B 8) := hL.2.1.1
  have r10 : gR S 1210 m = some (B 5) := hL.1.2.2.2.2.2.1
  have n11 : N (B 11) = 616 := hL.2.2.2.2.2.2.1
  have n12 : N (B 12) = 4 := hL.2.2.2.2.2.2.2.1
  have n8 : N (B 8) = 310 := hL.2.2.2.1
  have n5 : N (B 5) = 30 := hL.2.2.1.2.2.2.2.2.1
  obtain ⟨S1, a1, a2, a3, a4, a5, a6, a7⟩ := y_beg_loop1 (F := F) r17 n11 (s_X12_begins_J21 N F) 11 0 F S (by omega) (by omega) rfl rfl rfl rfl (fun _ _ => rfl) (fun j => by rw [if_neg (by omega)])
  have a1' : s_X12_begins N F m S = s_X12_begins_J21 N F m S1 := a1
  rw [a1']
  have g17 : gR S1 1217 m = some (B 11) := by rw [gR_of a4]; exact r17
  have e5 : aI S1 (B 5) 0 = ii nf := by rw [a6 (B 5) (by rw [ne_eq, hB]; decide)]; exact hf
  have hfm : s_X12_forms N m S1 = some (ii nf) := by
    unfold s_X12_forms
    rw [gR_of a4, r10, bd1_some, if_pos (by rw [n5]; decide), show ((0 : Int32).toNatClampNeg) = 0 by decide, e5]
  have c0 : (ii (nf : Int) = (0 : Int32)) = (nf = 0) := by rw [k0, ii_eq (by omega) (by omega) (by omega) (by omega)]; apply propext; omega
  have tail : ∀ v : Int32, ∃ S2, s_X12_begins_J38 N F m (B 11) 0 v S1 = some S2 ∧ (∀ f p, f ≠ 1218 → gI S2 f p = gI S f p) ∧ gI S2 1218 m = 0 ∧ S2.2.1 = S.2.1 ∧ S2.2.2.1 = S.2.2.1 ∧ S2.2.2.2.2 = S.2.2.2.2 ∧ (∀ p, p ≠ B 8 → p ≠ B 11 → p ≠ B 12 → aI S2 p = aI S p) ∧ (∀ j, aI S2 (B 11) j = if j = 0 then v else if j < 11 then 0 else aI S (B 11) j) ∧ (∀ j, j < 4 → aI S2 (B 12) j = 0) ∧ (∀ j, aI S2 (B 8) j = if j = 0 then 0 else aI S (B 8) j) := by
    intro v
    unfold s_X12_begins_J38
    have i0 : ((0 : Int32).toNatClampNeg) = 0 := by decide
    have g14 : gR (wI S1 (B 11) 0 v) 1214 m = some (B 8) := by show gR S1 1214 m = _; rw [gR_of a4]; exact r14
    rw [if_pos (by rw [n11]; decide), bnd_def, i0, g14, bd1_some, if_pos (by rw [n8]; decide), bnd_def, bnd_def]
    generalize hS3 : uI (wI (wI S1 (B 11) 0 v) (B 8) 0 0) 1218 m 0 = S3
    have g19 : gR S3 1219 m = some (B 12) := by rw [← hS3]; show gR S1 1219 m = _; rw [gR_of a4]; exact r19
    obtain ⟨S4, b1, b2', b3, b4, b5, b6, b7⟩ := y_beg_loop2 (F := F) g19 n12 4 0 F S3 (by omega) (by omega) rfl rfl rfl rfl (fun _ _ => rfl) (fun j => by rw [if_neg (by omega)])
    have b1' : s_X12_begins_L53 N F F m 0 S3 = some S4 := b1
    have eg : ∀ f p, gI S4 f p = gI S3 f p := fun f p => gI_of b2' f p
    refine ⟨S4, b1', fun f p hf => ?_, ?_, ?_, ?_, ?_, fun p p1 p2 p3 => ?_, fun j => ?_, fun j hj => ?_, fun j => ?_⟩
    · rw [eg, ← hS3, gI_uI, if_neg (fun r => hf r.1)]; exact gI_of a2 f p
    · rw [eg, ← hS3, gI_uI, if_pos ⟨rfl, rfl⟩]
    · rw [b3, ← hS3]; exact a3
    · rw [b4, ← hS3]; exact a4
    · rw [b5, ← hS3]; exact a5
    · rw [b6 p p3, ← hS3]
      show aI (wI (wI S1 (B 11) 0 v) (B 8) 0 0) p = _
      rw [aI_wI_o _ _ _ _ p1, aI_wI_o _ _ _ _ p2]; exact a6 p p2
    · rw [b6 _ (by rw [ne_eq, hB]; decide), ← hS3]
      show aI (wI (wI S1 (B 11) 0 v) (B 8) 0 0) (B 11) j = _
      rw [aI_wI_o _ _ _ _ (by rw [ne_eq, hB]; decide), aI_wI_s]; dsimp only
      by_cases q : j = 0
      · rw [if_pos q, if_pos q]
      · rw [if_neg q, if_neg q, a7]
    · rw [b7, if_pos hj]
    · rw [b6 _ (by rw [ne_eq, hB]; decide), ← hS3]
      show aI (wI (wI S1 (B 11) 0 v) (B 8) 0 0) (B 8) j = _
      rw [aI_wI_s]; dsimp only
      by_cases q : j = 0
      · rw [if_pos q, if_pos q]
      · rw [if_neg q, if_neg q, aI_wI_o _ _ _ _ (by rw [ne_eq, hB]; decide), a6 _ (by rw [ne_eq, hB]; decide)]
  unfold s_X12_begins_J21
  rw [g17, bd1_some, hfm, bd1_some]
  simp only [c0]
  by_cases q : nf = 0
  · simp only [if_pos q]
    exact tail (-1)
  · simp only [if_neg q]
    exact tail 0
end YRESET
end
