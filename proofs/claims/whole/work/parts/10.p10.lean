section
def nB (e : Nat) : Int := 2 ^ (e - 1) - 1
def rCut (n : Nat) (d : Int) (b : Bool) : Nat × Bool × Bool :=
  if d ≤ 0 then (n * 2 ^ (-d).toNat, false, b) else (n / 2 ^ d.toNat, decide (n / 2 ^ (d.toNat - 1) % 2 = 1), b || decide (n % 2 ^ (d.toNat - 1) ≠ 0))
def gUp (L : Bool → Bool → Bool → Bool → Bool) (mode : Nat) (m o g r : Bool) : Bool := match mode with
  | 0 => g && (r || o)
  | 1 => false
  | 2 => m && (g || r)
  | 3 => !m && (g || r)
  | 4 => g
  | _ => (g || r) && L m o g r
def nLast (e fr : Nat) (hi : Int) : Int := if hi - fr < 1 - nB e - fr then 1 - nB e - fr else hi - fr
def nInf (k e fr : Nat) : Nat := if k = 3 then 2 ^ (e + fr) else (2 ^ e - 1) * 2 ^ fr
def nSg (e fr : Nat) (m : Bool) : Nat := if m then 2 ^ (e + fr) else 0
def rFin (k e fr : Nat) (L : Bool → Bool → Bool → Bool → Bool) (mode : Nat) (m : Bool) (hi : Int) (c : Nat × Bool × Bool) : Nat × Nat × Int × Bool × Bool :=
  let more := gUp L mode m (decide (c.1 % 2 = 1)) c.2.1 c.2.2
  let told := (nLast e fr hi - (1 - nB e - fr)).toNat * 2 ^ fr + c.1 + (if more then 1 else 0)
  if nInf k e fr ≤ told then
    (if (decide (k = 2 ∨ k = 3) || !gUp L mode m true true true) then (nSg e fr m + (nInf k e fr - 1), 10, -1, c.2.1, c.2.2) else (nSg e fr m + nInf k e fr, 10, 1, c.2.1, c.2.2))
  else if hi < 1 - nB e ∧ k = 1 then (nSg e fr m, 12, -1, c.2.1, c.2.2)
  else if c.2.1 || c.2.2 then (nSg e fr m + told, (if hi < 1 - nB e then 12 else 8), (if more then 1 else -1), c.2.1, c.2.2)
  else (nSg e fr m + told, 0, 0, c.2.1, c.2.2)
/- what is rounded: bits, flags, farther from 0 (1), nearer (-1) or the same, guard, rest -/
def rndN (k e fr : Nat) (L : Bool → Bool → Bool → Bool → Bool) (mode : Nat) (m : Bool) (n : Nat) (p : Int) (b : Bool) : Nat × Nat × Int × Bool × Bool :=
  rFin k e fr L mode m (n.log2 + p) (rCut n (nLast e fr (n.log2 + p) - p) b)
theorem log2_div {n j : Nat} (h : 0 < n / 2 ^ j) : n.log2 = (n / 2 ^ j).log2 + j := by
  have hn : n ≠ 0 := by intro h0; subst h0; simp at h
  have h1 : 2 ^ (n / 2 ^ j).log2 ≤ n / 2 ^ j := Nat.log2_self_le (by omega)
  have h2 : n / 2 ^ j < 2 ^ ((n / 2 ^ j).log2 + 1) := Nat.lt_log2_self
  apply Nat.le_antisymm
  · apply Nat.le_of_lt_succ
    rw [Nat.log2_lt hn]
    have := (Nat.div_lt_iff_lt_mul (Nat.two_pow_pos j)).mp h2
    rw [← Nat.pow_add] at this
    rw [show ((n / 2 ^ j).log2 + j).succ = (n / 2 ^ j).log2 + 1 + j by omega]
    exact this
  · rw [Nat.le_log2 hn, Nat.pow_add]
    exact (Nat.le_div_iff_mul_le (Nat.two_pow_pos j)).mp h1
theorem log2_mul {n : Nat} (h : 0 < n) (i : Nat) : (n * 2 ^ i).log2 = n.log2 + i := by
  have hp : 0 < 2 ^ i := Nat.two_pow_pos i
  have e : n * 2 ^ i / 2 ^ i = n := Nat.mul_div_cancel _ hp
  have := @log2_div (n * 2 ^ i) i (by rw [e]; exact h)
  rw [e] at this
  exact this
theorem mod_pow_add (n j m : Nat) : n % 2 ^ (j + m) ≠ 0 ↔ (n % 2 ^ j ≠ 0 ∨ n / 2 ^ j % 2 ^ m ≠ 0) := by
  rw [Nat.pow_add, Nat.mod_mul]
  have hp : 0 < 2 ^ j := Nat.two_pow_pos j
  constructor
  · intro h
    by_cases h1 : n % 2 ^ j = 0
    · right
      intro h2
      apply h
      rw [h1, h2]; simp
    · exact Or.inl h1
  · intro h h0
    have a1 : n % 2 ^ j = 0 := by omega
    have a2 : 2 ^ j * (n / 2 ^ j % 2 ^ m) = 0 := by omega
    rcases h with h | h
    · exact h a1
    · rcases Nat.mul_eq_zero.mp a2 with q | q
      · omega
      · exact h q
theorem rCut_coarse (n j : Nat) (d : Int) (hd : (j : Int) < d) (b : Bool) : rCut n d b = rCut (n / 2 ^ j) (d - j) (b || decide (n % 2 ^ j ≠ 0)) := by
  unfold rCut
  have h1 : ¬ d ≤ 0 := by omega
  have h2 : ¬ d - j ≤ 0 := by omega
  rw [if_neg h1, if_neg h2]
  obtain ⟨m, hm⟩ : ∃ m : Nat, d = j + m + 1 := ⟨(d - j - 1).toNat, by omega⟩
  have e1 : d.toNat = j + (m + 1) := by omega
  have e2 : (d - j).toNat = m + 1 := by omega
  rw [e1, e2, Nat.div_div_eq_div_mul, ← Nat.pow_add]
  have e3 : j + (m + 1) - 1 = j + m := by omega
  have e4 : m + 1 - 1 = m := by omega
  rw [e3, e4, Nat.div_div_eq_div_mul, ← Nat.pow_add]
  congr 2
  have := mod_pow_add n j m
  rw [Bool.or_assoc]
  congr 1
  rw [← Bool.decide_or]
  exact decide_eq_decide.mpr this
theorem nLast_ge (e fr : Nat) (hi : Int) : hi - fr ≤ nLast e fr hi := by
  unfold nLast
  split <;> omega
theorem rnd_coarse (k e fr : Nat) (L : Bool → Bool → Bool → Bool → Bool) (mode : Nat) (m : Bool) (n : Nat) (p : Int) (b : Bool) (j : Nat) (h : 2 ^ (fr + 1) ≤ n / 2 ^ j) :
    rndN k e fr L mode m n p b = rndN k e fr L mode m (n / 2 ^ j) (p + j) (b || decide (n % 2 ^ j ≠ 0)) := by
  have hp : 0 < 2 ^ (fr + 1) := Nat.two_pow_pos _
  have hq : 0 < n / 2 ^ j := by omega
  have hl := log2_div hq
  have hf : fr + 1 ≤ (n / 2 ^ j).log2 := (Nat.le_log2 (by omega)).mpr h
  unfold rndN
  have eh : ((n / 2 ^ j).log2 : Int) + (p + j) = n.log2 + p := by omega
  rw [eh]
  have hg := nLast_ge e fr (n.log2 + p)
  rw [rCut_coarse n j (nLast e fr (n.log2 + p) - p) (by omega) b]
  rw [show nLast e fr (n.log2 + p) - (p + j) = nLast e fr (n.log2 + p) - p - j by omega]
theorem rCut_scale (n i : Nat) (d : Int) : rCut (n * 2 ^ i) (d + i) false = rCut n d false := by
  unfold rCut
  by_cases h1 : d ≤ 0
  · rw [if_pos h1]
    by_cases h2 : d + i ≤ 0
    · rw [if_pos h2, Nat.mul_assoc, ← Nat.pow_add]
      congr 3
      omega
    · rw [if_neg h2]
      obtain ⟨m, hm⟩ : ∃ m : Nat, d + i = m + 1 := ⟨(d + i - 1).toNat, by omega⟩
      obtain ⟨r, hr⟩ : ∃ r : Nat, i = m + 1 + r := ⟨(-d).toNat, by omega⟩
      have e1 : (d + i).toNat = m + 1 := by omega
      have e2 : (-d).toNat = r := by omega
      rw [e1, e2]
      subst hr
      have q1 : n * 2 ^ (m + 1 + r) = n * 2 ^ r * 2 ^ (m + 1) := by rw [Nat.pow_add 2 (m + 1) r, Nat.mul_assoc, Nat.mul_comm (2 ^ r)]
      have q2 : n * 2 ^ (m + 1 + r) = n * 2 ^ r * 2 * 2 ^ m := by rw [q1, Nat.pow_succ 2 m, Nat.mul_assoc (n * 2 ^ r) 2, Nat.mul_comm 2 (2 ^ m)]
      have e3 : m + 1 - 1 = m := by omega
      rw [e3]
      have c1 : n * 2 ^ (m + 1 + r) / 2 ^ (m + 1) = n * 2 ^ r := by rw [q1]; exact Nat.mul_div_cancel _ (Nat.two_pow_pos _)
      have c2 : n * 2 ^ (m + 1 + r) / 2 ^ m = n * 2 ^ r * 2 := by rw [q2]; exact Nat.mul_div_cancel _ (Nat.two_pow_pos _)
      have c3 : n * 2 ^ (m + 1 + r) % 2 ^ m = 0 := by rw [q2]; exact Nat.mul_mod_left _ _
      rw [c1, c2, c3]
      simp
  · rw [if_neg h1, if_neg (show ¬ d + i ≤ 0 by omega)]
    obtain ⟨m, hm⟩ : ∃ m : Nat, d = m + 1 := ⟨(d - 1).toNat, by omega⟩
    have e1 : (d + i).toNat = i + (m + 1) := by omega
    have e2 : d.toNat = m + 1 := by omega
    rw [e1, e2]
    have e3 : i + (m + 1) - 1 = i + m := by omega
    have e4 : m + 1 - 1 = m := by omega
    rw [e3, e4]
    have c : n * 2 ^ i / 2 ^ i = n := Nat.mul_div_cancel _ (Nat.two_pow_pos _)
    rw [Nat.pow_add 2 i (m + 1), ← Nat.div_div_eq_div_mul, c]
    have hm2 := mod_pow_add (n * 2 ^ i) i m
    rw [c] at hm2
    rw [Nat.pow_add 2 i m, ← Nat.div_div_eq_div_mul, c, ← Nat.pow_add]
    congr 2
    simp only [Bool.false_or]
    apply decide_eq_decide.mpr
    rw [hm2]
    simp
theorem rnd_scale (k e fr : Nat) (L : Bool → Bool → Bool → Bool → Bool) (mode : Nat) (m : Bool) {n : Nat} (hn : 0 < n) (p : Int) (i : Nat) :
    rndN k e fr L mode m (n * 2 ^ i) (p - i) false = rndN k e fr L mode m n p false := by
  unfold rndN
  rw [log2_mul hn]
  have e1 : ((n.log2 + i : Nat) : Int) + (p - i) = n.log2 + p := by omega
  rw [e1, show nLast e fr (n.log2 + p) - (p - i) = nLast e fr (n.log2 + p) - p + i by omega, rCut_scale]
end
section
theorem sub_dm {H o P : Nat} (hP : 0 < P) (h : o < H * P) : (H * P - o) / P = H - o / P - (if o % P ≠ 0 then 1 else 0) ∧ ((H * P - o) % P ≠ 0 ↔ o % P ≠ 0) := by
  have h1 : P * (o / P) + o % P = o := Nat.div_add_mod o P
  have h2 : o % P < P := Nat.mod_lt _ hP
  have h3 : o / P < H := (Nat.div_lt_iff_lt_mul hP).mpr h
  generalize o / P = a at *
  generalize o % P = r at *
  obtain ⟨c, rfl⟩ : ∃ c, H = a + c + 1 := ⟨H - a - 1, by omega⟩
  have e1 : (a + c + 1) * P = P * a + P * c + P := by rw [Nat.add_mul, Nat.add_mul, Nat.one_mul, Nat.mul_comm a, Nat.mul_comm c]
  by_cases hr : r = 0
  · subst hr
    have e2 : (a + c + 1) * P - o = P * (c + 1) := by rw [Nat.mul_add, Nat.mul_one]; omega
    rw [e2, Nat.mul_div_cancel_left _ hP, Nat.mul_mod_right]
    simp; omega
  · have e2 : (a + c + 1) * P - o = P * c + (P - r) := by omega
    have hl : P - r < P := by omega
    rw [e2, Nat.mul_add_div hP, Nat.mul_add_mod, Nat.div_eq_of_lt hl, Nat.mod_eq_of_lt hl]
    simp only [if_pos hr, ne_eq]
    constructor
    · omega
    · constructor
      · intro _; exact hr
      · intro _; omega
theorem add_dm {H o P : Nat} (hP : 0 < P) : (H * P + o) / P = H + o / P ∧ (H * P + o) % P = o % P := by
  rw [Nat.mul_comm H P, Nat.mul_add_div hP, Nat.mul_add_mod]
  exact ⟨rfl, rfl⟩
section SUMS
variable (k e fr : Nat) (L : Bool → Bool → Bool → Bool → Bool) (mode : Nat) (m : Bool)
theorem mod_add (one other sh cut : Nat) (pt : Int) (h : cut = 0 ∨ 2 ^ (fr + 1) ≤ one * 2 ^ sh) :
    rndN k e fr L mode m (one * 2 ^ sh + other / 2 ^ cut) (pt + cut) (decide (other % 2 ^ cut ≠ 0)) = rndN k e fr L mode m (one * 2 ^ (sh + cut) + other) pt false := by
  rcases h with h | h
  · subst h
    simp [Nat.mod_one]
  · have hP : 0 < 2 ^ cut := Nat.two_pow_pos cut
    obtain ⟨a1, a2⟩ := @add_dm (one * 2 ^ sh) other (2 ^ cut) hP
    rw [Nat.pow_add, ← Nat.mul_assoc]
    rw [rnd_coarse k e fr L mode m (one * 2 ^ sh * 2 ^ cut + other) pt false cut (by rw [a1]; exact Nat.le_trans h (Nat.le_add_right _ _)), a1, a2]
    simp
theorem mod_sub (one other sh cut : Nat) (pt : Int) (h : cut = 0 ∨ 2 ^ (fr + 1) + other / 2 ^ cut + 1 ≤ one * 2 ^ sh) (hlt : other < one * 2 ^ (sh + cut)) :
    rndN k e fr L mode m (one * 2 ^ sh - other / 2 ^ cut - (if other % 2 ^ cut ≠ 0 then 1 else 0)) (pt + cut) (decide (other % 2 ^ cut ≠ 0)) = rndN k e fr L mode m (one * 2 ^ (sh + cut) - other) pt false := by
  rcases h with h | h
  · subst h
    simp [Nat.mod_one]
  · have hP : 0 < 2 ^ cut := Nat.two_pow_pos cut
    have e0 : one * 2 ^ (sh + cut) = one * 2 ^ sh * 2 ^ cut := by rw [Nat.pow_add, Nat.mul_assoc]
    rw [e0] at hlt ⊢
    obtain ⟨a1, a2⟩ := @sub_dm (one * 2 ^ sh) other (2 ^ cut) hP hlt
    have hq : 2 ^ (fr + 1) ≤ (one * 2 ^ sh * 2 ^ cut - other) / 2 ^ cut := by
      rw [a1]; split <;> omega
    rw [rnd_coarse k e fr L mode m (one * 2 ^ sh * 2 ^ cut - other) pt false cut hq, a1]
    simp only [Bool.false_or, decide_eq_decide.mpr a2]
theorem cls_exact_add (X Y d : Nat) (pt : Int) (hX : 0 < X) (h : Y % 2 ^ d = 0) :
    rndN k e fr L mode m (X + Y / 2 ^ d) (pt + d) false = rndN k e fr L mode m (X * 2 ^ d + Y) pt false := by
  have e1 : X * 2 ^ d + Y = (X + Y / 2 ^ d) * 2 ^ d := by
    have := Nat.div_add_mod Y (2 ^ d)
    rw [h, Nat.mul_comm] at this
    rw [Nat.add_mul]; omega
  rw [e1]
  have := rnd_scale k e fr L mode m (n := X + Y / 2 ^ d) (Nat.add_pos_left hX _) (pt + d) d
  rw [show pt + (d : Int) - d = pt by omega] at this
  exact this.symm
theorem cls_exact_sub (X Y d : Nat) (pt : Int) (hX : Y / 2 ^ d < X) (h : Y % 2 ^ d = 0) :
    rndN k e fr L mode m (X - Y / 2 ^ d) (pt + d) false = rndN k e fr L mode m (X * 2 ^ d - Y) pt false := by
  have e1 : X * 2 ^ d - Y = (X - Y / 2 ^ d) * 2 ^ d := by
    have := Nat.div_add_mod Y (2 ^ d)
    rw [h, Nat.mul_comm] at this
    rw [Nat.sub_mul]; omega
  rw [e1]
  have := rnd_scale k e fr L mode m (n := X - Y / 2 ^ d) (by omega) (pt + d) d
  rw [show pt + (d : Int) - d = pt by omega] at this
  exact this.symm
theorem cls_exact_bus (X Y d : Nat) (pt : Int) (hX : X < Y / 2 ^ d) (h : Y % 2 ^ d = 0) :
    rndN k e fr L mode m (Y / 2 ^ d - X) (pt + d) false = rndN k e fr L mode m (Y - X * 2 ^ d) pt false := by
  have e1 : Y - X * 2 ^ d = (Y / 2 ^ d - X) * 2 ^ d := by
    have := Nat.div_add_mod Y (2 ^ d)
    rw [h, Nat.mul_comm] at this
    rw [Nat.sub_mul]; omega
  rw [e1]
  have := rnd_scale k e fr L mode m (n := Y / 2 ^ d - X) (by omega) (pt + d) d
  rw [show pt + (d : Int) - d = pt by omega] at this
  exact this.symm
theorem cls_far_add (x t Y Z d : Nat) (pt : Int) (hx : 2 ^ (fr + 1) ≤ x) (hY : 0 < Y) (hY2 : Y < 2 ^ (t + d)) (hZ : 0 < Z) (hZ2 : Z < 2 ^ t) :
    rndN k e fr L mode m (x * 2 ^ t + Z) (pt + d) false = rndN k e fr L mode m (x * 2 ^ t * 2 ^ d + Y) pt false := by
  obtain ⟨a1, a2⟩ := @add_dm x Z (2 ^ t) (Nat.two_pow_pos t)
  obtain ⟨b1, b2⟩ := @add_dm x Y (2 ^ (t + d)) (Nat.two_pow_pos _)
  rw [Nat.div_eq_of_lt hZ2] at a1
  rw [Nat.div_eq_of_lt hY2] at b1
  rw [Nat.mod_eq_of_lt hZ2] at a2
  rw [Nat.mod_eq_of_lt hY2] at b2
  have e1 : x * 2 ^ t * 2 ^ d = x * 2 ^ (t + d) := by rw [Nat.pow_add, Nat.mul_assoc]
  rw [e1, rnd_coarse k e fr L mode m (x * 2 ^ t + Z) (pt + d) false t (by rw [a1]; omega), rnd_coarse k e fr L mode m (x * 2 ^ (t + d) + Y) pt false (t + d) (by rw [b1]; omega), a1, a2, b1, b2]
  rw [show pt + (d : Int) + (t : Nat) = pt + ((t + d : Nat) : Int) by omega]
  congr 1
  simp; omega
theorem cls_far_sub (x t Y Z d : Nat) (pt : Int) (hx : 2 ^ (fr + 1) < x) (hY : 0 < Y) (hY2 : Y < 2 ^ (t + d)) (hZ : 0 < Z) (hZ2 : Z < 2 ^ t) :
    rndN k e fr L mode m (x * 2 ^ t - Z) (pt + d) false = rndN k e fr L mode m (x * 2 ^ t * 2 ^ d - Y) pt false ∧ Z < x * 2 ^ t ∧ Y < x * 2 ^ t * 2 ^ d := by
  have hx0 : 0 < x := Nat.lt_of_le_of_lt (Nat.zero_le _) hx
  have e1 : x * 2 ^ t * 2 ^ d = x * 2 ^ (t + d) := by rw [Nat.pow_add, Nat.mul_assoc]
  have l1 : Z < x * 2 ^ t := Nat.lt_of_lt_of_le hZ2 (Nat.le_mul_of_pos_left _ hx0)
  have l2 : Y < x * 2 ^ (t + d) := Nat.lt_of_lt_of_le hY2 (Nat.le_mul_of_pos_left _ hx0)
  refine ⟨?_, l1, by rw [e1]; exact l2⟩
  obtain ⟨a1, a2⟩ := @sub_dm x Z (2 ^ t) (Nat.two_pow_pos t) l1
  obtain ⟨b1, b2⟩ := @sub_dm x Y (2 ^ (t + d)) (Nat.two_pow_pos _) l2
  rw [Nat.div_eq_of_lt hZ2, Nat.mod_eq_of_lt hZ2, if_pos (Nat.pos_iff_ne_zero.mp hZ)] at a1
  rw [Nat.div_eq_of_lt hY2, Nat.mod_eq_of_lt hY2, if_pos (Nat.pos_iff_ne_zero.mp hY)] at b1
  rw [Nat.mod_eq_of_lt hZ2] at a2
  rw [Nat.mod_eq_of_lt hY2] at b2
  rw [e1, rnd_coarse k e fr L mode m (x * 2 ^ t - Z) (pt + d) false t (by rw [a1]; omega), rnd_coarse k e fr L mode m (x * 2 ^ (t + d) - Y) pt false (t + d) (by rw [b1]; omega), a1, b1]
  rw [show pt + (d : Int) + (t : Nat) = pt + ((t + d : Nat) : Int) by omega]
  congr 1
  simp only [Bool.false_or]
  apply decide_eq_decide.mpr
  rw [a2, b2]
  exact ⟨fun _ => Nat.pos_iff_ne_zero.mp hY, fun _ => Nat.pos_iff_ne_zero.mp hZ⟩
end SUMS
end
section
def sgnN (m : Bool) (x : Nat) : Int := if m then -(x : Int) else x
def shY (Y d : Nat) : Nat := if 60 ≤ d then 1 else Y / 2 ^ d
section WINDOW
variable (k e fr : Nat) (L : Bool → Bool → Bool → Bool → Bool) (mode : Nat)
theorem pow_mono {a b : Nat} (h : a ≤ b) : 2 ^ a ≤ 2 ^ b := Nat.pow_le_pow_right (by decide) h
theorem win (X Y d t x : Nat) (pl : Int) (sx sy : Bool) (hX : 0 < X) (hY : 0 < Y)
    (h : (d < 60 ∧ Y % 2 ^ d = 0) ∨ (X = x * 2 ^ t ∧ 2 ^ (fr + 1) < x ∧ Y < 2 ^ (t + d) ∧ 0 < shY Y d ∧ shY Y d < 2 ^ t)) :
    (sgnN sx X + sgnN sy (shY Y d) = 0 ↔ sgnN sx (X * 2 ^ d) + sgnN sy Y = 0) ∧ (sgnN sx X + sgnN sy (shY Y d) < 0 ↔ sgnN sx (X * 2 ^ d) + sgnN sy Y < 0) ∧
    (sgnN sx X + sgnN sy (shY Y d) ≠ 0 → ∀ m, rndN k e fr L mode m (sgnN sx X + sgnN sy (shY Y d)).natAbs (pl + d) false = rndN k e fr L mode m (sgnN sx (X * 2 ^ d) + sgnN sy Y).natAbs pl false) := by
  have hd : 0 < 2 ^ d := Nat.two_pow_pos d
  rcases h with ⟨h1, h2⟩ | ⟨h1, h2, h3, h4, h5⟩
  · have hs : shY Y d = Y / 2 ^ d := if_neg (by omega)
    rw [hs]
    have eY : Y = Y / 2 ^ d * 2 ^ d := by
      have := Nat.div_add_mod Y (2 ^ d)
      rw [h2, Nat.mul_comm] at this; omega
    have key : sgnN sx (X * 2 ^ d) + sgnN sy Y = (sgnN sx X + sgnN sy (Y / 2 ^ d)) * ((2 ^ d : Nat) : Int) := by
      conv => lhs; rw [eY]
      unfold sgnN
      split <;> split <;> simp [Int.natCast_mul, Int.add_mul, Int.neg_mul, Int.natCast_pow]
    rw [key]
    have hdI : (0 : Int) < ((2 ^ d : Nat) : Int) := by exact_mod_cast hd
    generalize sgnN sx X + sgnN sy (Y / 2 ^ d) = Z
    refine ⟨?_, ?_, fun hz m => ?_⟩
    · rw [Int.mul_eq_zero]
      constructor
      · intro q; exact Or.inl q
      · intro q; rcases q with q | q
        · exact q
        · omega
    · constructor
      · intro q; exact Int.mul_neg_of_neg_of_pos q hdI
      · intro q
        exact Int.not_le.mp fun q2 => absurd (Int.mul_nonneg q2 (Int.le_of_lt hdI)) (Int.not_le.mpr q)
    · rw [Int.natAbs_mul, Int.natAbs_natCast]
      have := rnd_scale k e fr L mode m (n := Z.natAbs) (by omega) (pl + d) d
      rw [show pl + (d : Int) - d = pl by omega] at this
      exact this.symm
  · subst h1
    have ha := fun m => cls_far_add k e fr L mode m x t Y (shY Y d) d pl (Nat.le_of_lt h2) hY h3 h4 h5
    have hb := fun m => cls_far_sub k e fr L mode m x t Y (shY Y d) d pl h2 hY h3 h4 h5
    obtain ⟨_, l1, l2⟩ := hb true
    generalize shY Y d = Z at *
    generalize x * 2 ^ t * 2 ^ d = XX at *
    generalize x * 2 ^ t = X at *
    unfold sgnN
    cases sx <;> cases sy <;> simp only [if_true, if_false, Bool.false_eq_true]
    · refine ⟨by omega, by omega, fun _ m => ?_⟩
      rw [show ((X : Int) + Z).natAbs = X + Z by omega, show ((XX : Int) + Y).natAbs = XX + Y by omega]
      exact ha m
    · refine ⟨by omega, by omega, fun _ m => ?_⟩
      rw [show ((X : Int) + -(Z : Int)).natAbs = X - Z by omega, show ((XX : Int) + -(Y : Int)).natAbs = XX - Y by omega]
      exact (hb m).1
    · refine ⟨by omega, by omega, fun _ m => ?_⟩
      rw [show (-(X : Int) + Z).natAbs = X - Z by omega, show (-(XX : Int) + Y).natAbs = XX - Y by omega]
      exact (hb m).1
    · refine ⟨by omega, by omega, fun _ m => ?_⟩
      rw [show (-(X : Int) + -(Z : Int)).natAbs = X + Z by omega, show (-(XX : Int) + -(Y : Int)).natAbs = XX + Y by omega]
      exact ha m
/- the sum of two as it is, at the lower place of both -/
def sQ (pa pc : Int) : Int := if pa ≤ pc then pa else pc
def sN (A : Nat) (pa : Int) (ma : Bool) (C : Nat) (pc : Int) (mc : Bool) : Int := sgnN ma (A * 2 ^ (pa - sQ pa pc).toNat) + sgnN mc (C * 2 ^ (pc - sQ pa pc).toNat)
theorem sN_scale (A : Nat) (pa : Int) (ma : Bool) (C : Nat) (pc : Int) (mc : Bool) (i : Nat) :
    sgnN ma (A * 2 ^ ((pa - sQ pa pc).toNat + i)) + sgnN mc (C * 2 ^ ((pc - sQ pa pc).toNat + i)) = sN A pa ma C pc mc * ((2 ^ i : Nat) : Int) := by
  unfold sN sgnN
  rw [Nat.pow_add, Nat.pow_add, ← Nat.mul_assoc, ← Nat.mul_assoc]
  split <;> split <;> simp [Int.natCast_mul, Int.add_mul, Int.neg_mul]
theorem scale_iff (Z N : Int) (i : Nat) (h : Z = N * ((2 ^ i : Nat) : Int)) (pl : Int) : (Z = 0 ↔ N = 0) ∧ (Z < 0 ↔ N < 0) ∧ (N ≠ 0 → ∀ m, rndN k e fr L mode m Z.natAbs (pl - i) false = rndN k e fr L mode m N.natAbs pl false) := by
  have hd : 0 < 2 ^ i := Nat.two_pow_pos i
  have hdI : (0 : Int) < ((2 ^ i : Nat) : Int) := by exact_mod_cast hd
  subst h
  refine ⟨?_, ?_, fun hz m => ?_⟩
  · rw [Int.mul_eq_zero]
    constructor
    · intro q; rcases q with q | q
      · exact q
      · omega
    · intro q; exact Or.inl q
  · constructor
    · intro q
      exact Int.not_le.mp fun q2 => absurd (Int.mul_nonneg q2 (Int.le_of_lt hdI)) (Int.not_le.mpr q)
    · intro q; exact Int.mul_neg_of_neg_of_pos q hdI
  · rw [Int.natAbs_mul, Int.natAbs_natCast]
    exact rnd_scale k e fr L mode m (n := N.natAbs) (by omega) pl i
end WINDOW
end
section
theorem norm_lo {A s : Nat} (hA : 0 < A) (hs : A.log2 ≤ 59) (h : s = 59 - A.log2) : 2 ^ 59 ≤ A * 2 ^ s ∧ A * 2 ^ s < 2 ^ 60 := by
  have h1 : 2 ^ A.log2 ≤ A := Nat.log2_self_le (by omega)
  have h2 : A < 2 ^ (A.log2 + 1) := Nat.lt_log2_self
  have e1 : 59 = A.log2 + s := by omega
  have e2 : 60 = A.log2 + 1 + s := by omega
  constructor
  · rw [e1, Nat.pow_add]; exact Nat.mul_le_mul_right _ h1
  · rw [e2, Nat.pow_add]; exact Nat.mul_lt_mul_of_pos_right h2 (Nat.two_pow_pos s)
theorem shY_0 (Y : Nat) : shY Y 0 = Y := by simp [shY]
theorem shY_pos {Y d : Nat} (h : 2 ^ 59 ≤ Y) : 0 < shY Y d := by
  unfold shY
  split
  · omega
  · exact Nat.div_pos (Nat.le_trans (pow_mono (by omega)) h) (Nat.two_pow_pos d)
theorem shY_lt {Y d t : Nat} (h : Y < 2 ^ 60) (h2 : 60 < t + d) (ht : 0 < t) : shY Y d < 2 ^ t := by
  unfold shY
  split
  · exact Nat.one_lt_two_pow (by omega)
  · rw [Nat.div_lt_iff_lt_mul (Nat.two_pow_pos d), ← Nat.pow_add]
    exact Nat.lt_of_lt_of_le h (pow_mono (by omega))
theorem side_ok {fr A s t C sC d lA lC : Nat} (hfr : fr ≤ 18) (hA : 0 < A) (hC : 0 < C) (hlA : A.log2 ≤ lA) (hlC : C.log2 ≤ lC) (hs : s = 59 - A.log2) (hsC : sC = 59 - C.log2) (h1 : lA ≤ 38) (h2 : lC ≤ 38) (ht : 0 < t) (h3 : t + lA ≤ 59) (h4 : lC < t) (h5 : t ≤ 39) :
    (d < 60 ∧ C * 2 ^ sC % 2 ^ d = 0) ∨ (A * 2 ^ s = A * 2 ^ (s - t) * 2 ^ t ∧ 2 ^ (fr + 1) < A * 2 ^ (s - t) ∧ C * 2 ^ sC < 2 ^ (t + d) ∧ 0 < shY (C * 2 ^ sC) d ∧ shY (C * 2 ^ sC) d < 2 ^ t) := by
  obtain ⟨a1, a2⟩ := norm_lo hA (by omega) hs
  obtain ⟨c1, c2⟩ := norm_lo hC (by omega) hsC
  by_cases hd : d ≤ sC
  · left
    refine ⟨by omega, ?_⟩
    obtain ⟨r, rfl⟩ : ∃ r, sC = r + d := ⟨sC - d, by omega⟩
    rw [Nat.pow_add, ← Nat.mul_assoc]
    exact Nat.mul_mod_left _ _
  · right
    have hst : t ≤ s := by omega
    refine ⟨?_, ?_, ?_, shY_pos c1, shY_lt c2 (by omega) ht⟩
    · rw [Nat.mul_assoc, ← Nat.pow_add, Nat.sub_add_cancel hst]
    · have e1 : A * 2 ^ s = A * 2 ^ (s - t) * 2 ^ t := by rw [Nat.mul_assoc, ← Nat.pow_add, Nat.sub_add_cancel hst]
      have l : 2 ^ 20 ≤ A * 2 ^ (s - t) := by
        apply Nat.le_of_mul_le_mul_right (c := 2 ^ t) _ (Nat.two_pow_pos t)
        rw [← e1, ← Nat.pow_add]
        exact Nat.le_trans (pow_mono (by omega)) a1
      exact Nat.lt_of_lt_of_le (Nat.pow_lt_pow_right (by decide) (by omega)) l
    · exact Nat.lt_of_lt_of_le c2 (pow_mono (by omega))
section CLS
variable (k e fr : Nat) (L : Bool → Bool → Bool → Bool → Bool) (mode : Nat)
theorem cls_sum (hfr : fr ≤ 18) (A : Nat) (pa : Int) (ma : Bool) (C : Nat) (pc : Int) (mc : Bool) (hA : 0 < A) (hC : 0 < C) (hA2 : A < 2 ^ 38) (hC2 : C < 2 ^ 19) (s sC : Nat) (hs : s = 59 - A.log2) (hsC : sC = 59 - C.log2) (u v M : Int) (hu : u = pa - s) (hv : v = pc - sC) (hM : M = if u ≤ v then v else u)
    (Z : Int) (hZ : Z = sgnN ma (shY (A * 2 ^ s) (v - u).toNat) + sgnN mc (shY (C * 2 ^ sC) (u - v).toNat)) :
    (Z = 0 ↔ sN A pa ma C pc mc = 0) ∧ (Z < 0 ↔ sN A pa ma C pc mc < 0) ∧ (Z ≠ 0 → ∀ m, rndN k e fr L mode m Z.natAbs M false = rndN k e fr L mode m (sN A pa ma C pc mc).natAbs (sQ pa pc) false) := by
  have lA : A.log2 ≤ 37 := by have := (Nat.log2_lt (n := A) (k := 38) (by omega)).mpr hA2; omega
  have lC : C.log2 ≤ 18 := by have := (Nat.log2_lt (n := C) (k := 19) (by omega)).mpr hC2; omega
  obtain ⟨a1, a2⟩ := norm_lo hA (by omega) hs
  obtain ⟨c1, c2⟩ := norm_lo hC (by omega) hsC
  have hq := sN_scale A pa ma C pc mc
  have hqd : sQ pa pc = if pa ≤ pc then pa else pc := rfl
  generalize hqq : sQ pa pc = q at *
  generalize hN : sN A pa ma C pc mc = N at *
  by_cases huv : v ≤ u
  · have e0 : (v - u).toNat = 0 := by omega
    rw [e0, shY_0] at hZ
    obtain ⟨d, hd⟩ : ∃ d : Nat, u = v + d := ⟨(u - v).toNat, by omega⟩
    have e1 : (u - v).toNat = d := by omega
    rw [e1] at hZ
    have w := win k e fr L mode (A * 2 ^ s) (C * 2 ^ sC) d 20 (A * 2 ^ (s - 20)) v ma mc (by omega) (by omega) (side_ok hfr hA hC lA lC hs hsC (by decide) (by decide) (by decide) (by decide) (by decide) (by decide))
    rw [← hZ] at w
    obtain ⟨i, hi⟩ : ∃ i : Nat, q = v + i := ⟨(q - v).toNat, by split at hqd <;> omega⟩
    have hqi := hq i
    rw [show (pa - q).toNat + i = s + d by split at hqd <;> omega, show (pc - q).toNat + i = sC by split at hqd <;> omega, Nat.pow_add, ← Nat.mul_assoc] at hqi
    obtain ⟨b1, b2, b3⟩ := scale_iff k e fr L mode _ N i hqi q
    refine ⟨w.1.trans b1, w.2.1.trans b2, fun hz m => ?_⟩
    have hM' : M = v + d := by split at hM <;> omega
    rw [hM', w.2.2 hz m, show v = q - i by omega]
    exact b3 (fun h0 => hz (w.1.mpr (b1.mpr h0))) m
  · have e0 : (u - v).toNat = 0 := by omega
    rw [e0, shY_0] at hZ
    obtain ⟨d, hd⟩ : ∃ d : Nat, v = u + d := ⟨(v - u).toNat, by omega⟩
    have e1 : (v - u).toNat = d := by omega
    rw [e1, Int.add_comm] at hZ
    have w := win k e fr L mode (C * 2 ^ sC) (A * 2 ^ s) d 38 (C * 2 ^ (sC - 38)) u mc ma (by omega) (by omega) (side_ok hfr hC hA lC lA hsC hs (by decide) (by decide) (by decide) (by decide) (by decide) (by decide))
    rw [← hZ] at w
    obtain ⟨i, hi⟩ : ∃ i : Nat, q = u + i := ⟨(q - u).toNat, by split at hqd <;> omega⟩
    have hqi := hq i
    rw [show (pa - q).toNat + i = s by split at hqd <;> omega, show (pc - q).toNat + i = sC + d by split at hqd <;> omega, Nat.pow_add 2 sC d, ← Nat.mul_assoc, Int.add_comm] at hqi
    obtain ⟨b1, b2, b3⟩ := scale_iff k e fr L mode _ N i hqi q
    refine ⟨w.1.trans b1, w.2.1.trans b2, fun hz m => ?_⟩
    have hM' : M = u + d := by split at hM <;> omega
    rw [hM', w.2.2 hz m, show u = q - i by omega]
    exact b3 (fun h0 => hz (w.1.mpr (b1.mpr h0))) m
end CLS
end
section
theorem sQ_comm (pa pc : Int) : sQ pa pc = sQ pc pa := by unfold sQ; split <;> split <;> omega
theorem sN_comm (A : Nat) (pa : Int) (ma : Bool) (C : Nat) (pc : Int) (mc : Bool) : sN A pa ma C pc mc = sN C pc mc A pa ma := by
  unfold sN; rw [sQ_comm pc pa, Int.add_comm]
section MOD
variable (k e fr : Nat) (L : Bool → Bool → Bool → Bool → Bool) (mode : Nat)
theorem mod_sum (hfr : fr ≤ 18) (A : Nat) (pa : Int) (ma : Bool) (C : Nat) (pc : Int) (mc : Bool) (hA : 0 < A) (hC : 0 < C) (hA2 : A < 2 ^ 38) (hC2 : C < 2 ^ 38) (hp : pc ≤ pa) (sh cut : Nat) (hsh : sh = if (pa - pc).toNat < 60 - A.log2 then (pa - pc).toNat else 60 - A.log2) (hcut : cut = (pa - pc).toNat - sh) :
    A * 2 ^ sh < 2 ^ 61 ∧
    (ma = mc → (sN A pa ma C pc mc < 0 ↔ ma = true) ∧ sN A pa ma C pc mc ≠ 0 ∧ ∀ m, rndN k e fr L mode m (A * 2 ^ sh + C / 2 ^ cut) (pa - sh) (decide (C % 2 ^ cut ≠ 0)) = rndN k e fr L mode m (sN A pa ma C pc mc).natAbs (sQ pa pc) false) ∧
    (ma ≠ mc → ∀ left : Int, left = ((A * 2 ^ sh : Nat) : Int) - (C / 2 ^ cut : Nat) - (if C % 2 ^ cut ≠ 0 then 1 else 0) →
      ((left = 0 ∧ C % 2 ^ cut = 0) ↔ sN A pa ma C pc mc = 0) ∧ (sN A pa ma C pc mc ≠ 0 → (sN A pa ma C pc mc < 0 ↔ (if left < 0 then mc else ma) = true) ∧ left ≠ 0 ∧ ∀ m, rndN k e fr L mode m left.natAbs (pa - sh) (decide (C % 2 ^ cut ≠ 0)) = rndN k e fr L mode m (sN A pa ma C pc mc).natAbs (sQ pa pc) false)) := by
  have lA : A.log2 ≤ 37 := by have := (Nat.log2_lt (n := A) (k := 38) (by omega)).mpr hA2; omega
  have hq : sQ pa pc = pc := by unfold sQ; split <;> omega
  have hap : (pa - pc).toNat = sh + cut := by split at hsh <;> omega
  have hN : sN A pa ma C pc mc = sgnN ma (A * 2 ^ (sh + cut)) + sgnN mc C := by
    unfold sN; rw [hq, hap]; simp
  rw [hN, hq]
  have hpl : pa - sh = pc + cut := by omega
  rw [hpl]
  have hlow : A * 2 ^ sh < 2 ^ 61 := by
    have h2 : A < 2 ^ (A.log2 + 1) := Nat.lt_log2_self
    have h3 : sh ≤ 60 - A.log2 := by split at hsh <;> omega
    calc A * 2 ^ sh < 2 ^ (A.log2 + 1) * 2 ^ sh := Nat.mul_lt_mul_of_pos_right h2 (Nat.two_pow_pos sh)
      _ = 2 ^ (A.log2 + 1 + sh) := by rw [← Nat.pow_add]
      _ ≤ 2 ^ 61 := pow_mono (by omega)
  have hbig : cut = 0 ∨ 2 ^ 60 ≤ A * 2 ^ sh := by
    by_cases hc : cut = 0
    · exact Or.inl hc
    · right
      have h1 : 2 ^ A.log2 ≤ A := Nat.log2_self_le (by omega)
      have h3 : sh = 60 - A.log2 := by split at hsh <;> omega
      calc 2 ^ 60 = 2 ^ A.log2 * 2 ^ sh := by rw [← Nat.pow_add]; congr 1; omega
        _ ≤ A * 2 ^ sh := Nat.mul_le_mul_right _ h1
  have hf19 : 2 ^ (fr + 1) ≤ 2 ^ 19 := pow_mono (by omega)
  have hlo : C / 2 ^ cut ≤ C := Nat.div_le_self _ _
  have hAp : 0 < A * 2 ^ (sh + cut) := Nat.mul_pos hA (Nat.two_pow_pos _)
  refine ⟨hlow, fun hm => ?_, fun hm left hl => ?_⟩
  · subst hm
    have key := fun m => mod_add k e fr L mode m A C sh cut pc (by rcases hbig with h | h; exact Or.inl h; right; omega)
    generalize A * 2 ^ (sh + cut) = AA at *
    cases ma <;> simp only [sgnN, if_true, if_false, Bool.false_eq_true]
    · refine ⟨⟨fun h => by omega, fun h => by cases h⟩, by omega, fun m => ?_⟩
      rw [show ((AA : Int) + C).natAbs = AA + C by omega]
      exact key m
    · refine ⟨⟨fun h => trivial, fun h => by omega⟩, by omega, fun m => ?_⟩
      rw [show (-(AA : Int) + -(C : Int)).natAbs = AA + C by omega]
      exact key m
  · rcases hbig with h0 | hbig
    · subst h0
      simp only [Nat.pow_zero, Nat.mod_one, Nat.div_one, ne_eq, not_true_eq_false, if_false, Nat.add_zero, and_true, decide_false] at *
      generalize A * 2 ^ sh = AA at *
      subst hl
      cases ma <;> cases mc <;> simp only [sgnN, if_true, if_false, Bool.false_eq_true, ne_eq, not_true_eq_false, reduceCtorEq, not_false_eq_true] at *
      · refine ⟨by omega, fun hz => ⟨?_, by omega, fun m => ?_⟩⟩
        · by_cases hh : (AA : Int) - C - 0 < 0
          · rw [if_pos hh]; constructor <;> intro _ <;> first | rfl | omega | contradiction
          · rw [if_neg hh]; constructor <;> intro _ <;> first | rfl | omega | contradiction
        · rw [show ((AA : Int) - C - 0).natAbs = ((AA : Int) + -(C : Int)).natAbs by omega]
          simp
      · refine ⟨by omega, fun hz => ⟨?_, by omega, fun m => ?_⟩⟩
        · by_cases hh : (AA : Int) - C - 0 < 0
          · rw [if_pos hh]; constructor <;> intro _ <;> first | rfl | omega | contradiction
          · rw [if_neg hh]; constructor <;> intro _ <;> first | rfl | omega | contradiction
        · rw [show ((AA : Int) - C - 0).natAbs = (-(AA : Int) + (C : Int)).natAbs by omega]
          simp
    · have hge : A * 2 ^ sh ≤ A * 2 ^ (sh + cut) := Nat.mul_le_mul_left _ (pow_mono (by omega))
      have hlt : C < A * 2 ^ (sh + cut) := by omega
      have key := fun m => mod_sub k e fr L mode m A C sh cut pc (by right; omega) hlt
      have hleft : left.natAbs = A * 2 ^ sh - C / 2 ^ cut - (if C % 2 ^ cut ≠ 0 then 1 else 0) ∧ 0 < left := by
        subst hl
        split <;> omega
      rw [hleft.1]
      generalize hAA : A * 2 ^ (sh + cut) = AA at *
      cases ma <;> cases mc <;> simp only [sgnN, if_true, if_false, Bool.false_eq_true, ne_eq, not_true_eq_false, reduceCtorEq, not_false_eq_true] at *
      · refine ⟨by omega, fun hz => ⟨?_, by omega, fun m => ?_⟩⟩
        · rw [if_neg (by omega)]; simp; omega
        · rw [show ((AA : Int) + -(C : Int)).natAbs = AA - C by omega]
          exact key m
      · refine ⟨by omega, fun hz => ⟨?_, by omega, fun m => ?_⟩⟩
        · rw [if_neg (by omega)]; simp; omega
        · rw [show (-(AA : Int) + (C : Int)).natAbs = AA - C by omega]
          exact key m
end MOD
end
section
def ii (z : Int) : Int32 := Int32.ofInt z
def jj (z : Int) : Int64 := Int64.ofInt z
theorem ii_t {z : Int} (h1 : -2147483648 ≤ z) (h2 : z < 2147483648) : (ii z).toInt = z := Int32.toInt_ofInt_of_le h1 h2
theorem jj_t {z : Int} (h1 : -9223372036854775808 ≤ z) (h2 : z < 9223372036854775808) : (jj z).toInt = z := Int64.toInt_ofInt_of_le h1 h2
theorem ii_of (x : Int32) : ii x.toInt = x := Int32.ofInt_toInt x
theorem jj_of (x : Int64) : jj x.toInt = x := Int64.ofInt_toInt x
theorem ii_add (a b : Int) : ii a + ii b = ii (a + b) := (Int32.ofInt_add a b).symm
theorem ii_sub (a b : Int) : ii a - ii b = ii (a - b) := (Int32.ofInt_sub a b).symm
theorem ii_mul (a b : Int) : ii a * ii b = ii (a * b) := (Int32.ofInt_mul a b).symm
theorem ii_neg (a : Int) : - ii a = ii (-a) := (Int32.ofInt_neg a).symm
theorem jj_add (a b : Int) : jj a + jj b = jj (a + b) := (Int64.ofInt_add a b).symm
theorem jj_sub (a b : Int) : jj a - jj b = jj (a - b) := (Int64.ofInt_sub a b).symm
theorem jj_mul (a b : Int) : jj a * jj b = jj (a * b) := (Int64.ofInt_mul a b).symm
theorem jj_neg (a : Int) : - jj a = jj (-a) := (Int64.ofInt_neg a).symm
theorem ii_jj {z : Int} (h1 : -2147483648 ≤ z) (h2 : z < 2147483648) : (ii z).toInt64 = jj z := Int32.toInt64_ofInt h1 (by have : Int32.maxValue.toInt = 2147483647 := rfl; omega)
theorem jj_ii (z : Int) : (jj z).toInt32 = ii z := Int64.toInt32_ofInt
theorem ii_lt {a b : Int} (h1 : -2147483648 ≤ a) (h2 : a < 2147483648) (h3 : -2147483648 ≤ b) (h4 : b < 2147483648) : (ii a < ii b) = (a < b) := by
  rw [Int32.lt_iff_toInt_lt, ii_t h1 h2, ii_t h3 h4]
theorem ii_le {a b : Int} (h1 : -2147483648 ≤ a) (h2 : a < 2147483648) (h3 : -2147483648 ≤ b) (h4 : b < 2147483648) : (ii a ≤ ii b) = (a ≤ b) := by
  rw [Int32.le_iff_toInt_le, ii_t h1 h2, ii_t h3 h4]
theorem ii_eq {a b : Int} (h1 : -2147483648 ≤ a) (h2 : a < 2147483648) (h3 : -2147483648 ≤ b) (h4 : b < 2147483648) : (ii a = ii b) = (a = b) := by
  rw [← Int32.toInt_inj, ii_t h1 h2, ii_t h3 h4]
theorem jj_lt {a b : Int} (h1 : -9223372036854775808 ≤ a) (h2 : a < 9223372036854775808) (h3 : -9223372036854775808 ≤ b) (h4 : b < 9223372036854775808) : (jj a < jj b) = (a < b) := by
  rw [Int64.lt_iff_toInt_lt, jj_t h1 h2, jj_t h3 h4]
theorem jj_eq {a b : Int} (h1 : -9223372036854775808 ≤ a) (h2 : a < 9223372036854775808) (h3 : -9223372036854775808 ≤ b) (h4 : b < 9223372036854775808) : (jj a = jj b) = (a = b) := by
  rw [← Int64.toInt_inj, jj_t h1 h2, jj_t h3 h4]
theorem lg_c {a b : Int} (h1 : -9223372036854775808 ≤ a) (h2 : a < 9223372036854775808) (h3 : -9223372036854775808 ≤ b) (h4 : b < 9223372036854775808) : lg_cmp (jj a) (jj b) = if b < a then 1 else if a = b then 0 else -1 := by
  simp only [lg_cmp, gt_iff_lt, jj_lt h3 h4 h1 h2, jj_eq h1 h2 h3 h4]
theorem ii_pow : ∀ k : Fin 32, BitVec.ofInt 32 ((2 ^ k.val : Nat) : Int) = BitVec.twoPow 32 k.val := by decide
theorem jj_pow : ∀ k : Fin 64, BitVec.ofInt 64 ((2 ^ k.val : Nat) : Int) = BitVec.twoPow 64 k.val := by decide
theorem ii_msk : ∀ k : Fin 32, (ii (k.val : Int) &&& 31).toBitVec.smod 32 = BitVec.ofNat 32 k.val := by decide
theorem jj_msk : ∀ k : Fin 64, ((ii (k.val : Int)).toInt64 &&& 63).toBitVec.smod 64 = BitVec.ofNat 64 k.val := by decide +kernel
theorem ii_shl (a : Int) {k : Nat} (hk : k < 32) : ii a <<< (ii k &&& 31) = ii (a * (2 ^ k : Nat)) := by
  apply Int32.toBitVec_inj.mp
  rw [Int32.toBitVec_shiftLeft, ii_msk ⟨k, hk⟩]
  unfold ii
  rw [Int32.toBitVec_ofInt, Int32.toBitVec_ofInt, BitVec.ofInt_mul, ii_pow ⟨k, hk⟩, ← BitVec.shiftLeft_eq_mul_twoPow]
  simp [Nat.mod_eq_of_lt (show k < 4294967296 by omega)]
theorem jj_shl (a : Int) {k : Nat} (hk : k < 64) : jj a <<< ((ii k).toInt64 &&& 63) = jj (a * (2 ^ k : Nat)) := by
  apply Int64.toBitVec_inj.mp
  rw [Int64.toBitVec_shiftLeft, jj_msk ⟨k, hk⟩]
  unfold jj
  rw [Int64.toBitVec_ofInt, Int64.toBitVec_ofInt, BitVec.ofInt_mul, jj_pow ⟨k, hk⟩, ← BitVec.shiftLeft_eq_mul_twoPow]
  simp [Nat.mod_eq_of_lt (show k < 18446744073709551616 by omega)]
theorem ii_shr {a : Int} (h1 : -2147483648 ≤ a) (h2 : a < 2147483648) {k : Nat} (hk : k < 32) : ii a >>> (ii k &&& 31) = ii (a / (2 ^ k : Nat)) := by
  apply Int32.toInt_inj.mp
  have hp : (0 : Int) < ((2 ^ k : Nat) : Int) := by exact_mod_cast Nat.two_pow_pos k
  have hlo : -2147483648 ≤ a / ((2 ^ k : Nat) : Int) := by
    rw [Int.le_ediv_iff_mul_le hp]
    generalize ((2 ^ k : Nat) : Int) = P at *
    omega
  have hhi : a / ((2 ^ k : Nat) : Int) < 2147483648 := by
    rw [Int.ediv_lt_iff_lt_mul hp]
    generalize ((2 ^ k : Nat) : Int) = P at *
    omega
  rw [ii_t hlo hhi, ← Int32.toInt_toBitVec, Int32.toBitVec_shiftRight, ii_msk ⟨k, hk⟩]
  show ((ii a).toBitVec.sshiftRight (BitVec.ofNat 32 k).toNat).toInt = _
  rw [BitVec.toInt_sshiftRight, Int32.toInt_toBitVec, ii_t h1 h2, Int.shiftRight_eq_div_pow]
  simp [Nat.mod_eq_of_lt (show k < 4294967296 by omega)]
theorem jj_shr {a : Int} (h1 : -9223372036854775808 ≤ a) (h2 : a < 9223372036854775808) {k : Nat} (hk : k < 64) : jj a >>> ((ii k).toInt64 &&& 63) = jj (a / (2 ^ k : Nat)) := by
  apply Int64.toInt_inj.mp
  have hp : (0 : Int) < ((2 ^ k : Nat) : Int) := by exact_mod_cast Nat.two_pow_pos k
  have hlo : -9223372036854775808 ≤ a / ((2 ^ k : Nat) : Int) := by
    rw [Int.le_ediv_iff_mul_le hp]
    generalize ((2 ^ k : Nat) : Int) = P at *
    omega
  have hhi : a / ((2 ^ k : Nat) : Int) < 9223372036854775808 := by
    rw [Int.ediv_lt_iff_lt_mul hp]
    generalize ((2 ^ k : Nat) : Int) = P at *
    omega
  rw [jj_t hlo hhi, ← Int64.toInt_toBitVec, Int64.toBitVec_shiftRight, jj_msk ⟨k, hk⟩]
  show ((jj a).toBitVec.sshiftRight (BitVec.ofNat 64 k).toNat).toInt = _
  rw [BitVec.toInt_sshiftRight, Int64.toInt_toBitVec, jj_t h1 h2, Int.shiftRight_eq_div_pow]
  simp [Nat.mod_eq_of_lt (show k < 18446744073709551616 by omega)]
theorem ii_nat (n : Nat) : ii n = Int32.ofNat n := Int32.ofInt_eq_ofNat
theorem jj_nat (n : Nat) : jj n = Int64.ofNat n := Int64.ofInt_eq_ofNat
theorem ii_and (a b : Nat) : ii a &&& ii b = ii (a &&& b : Nat) := by
  rw [ii_nat, ii_nat, ii_nat]
  apply Int32.toBitVec_inj.mp
  show BitVec.ofNat 32 a &&& BitVec.ofNat 32 b = BitVec.ofNat 32 (a &&& b)
  rw [BitVec.ofNat_and]
theorem ii_or (a b : Nat) : ii a ||| ii b = ii (a ||| b : Nat) := by
  rw [ii_nat, ii_nat, ii_nat]
  apply Int32.toBitVec_inj.mp
  show BitVec.ofNat 32 a ||| BitVec.ofNat 32 b = BitVec.ofNat 32 (a ||| b)
  rw [BitVec.ofNat_or]
theorem ii_xor (a b : Nat) : ii a ^^^ ii b = ii (a ^^^ b : Nat) := by
  rw [ii_nat, ii_nat, ii_nat]
  apply Int32.toBitVec_inj.mp
  show BitVec.ofNat 32 a ^^^ BitVec.ofNat 32 b = BitVec.ofNat 32 (a ^^^ b)
  rw [BitVec.ofNat_xor]
theorem jj_and (a b : Nat) : jj a &&& jj b = jj (a &&& b : Nat) := by
  rw [jj_nat, jj_nat, jj_nat]
  apply Int64.toBitVec_inj.mp
  show BitVec.ofNat 64 a &&& BitVec.ofNat 64 b = BitVec.ofNat 64 (a &&& b)
  rw [BitVec.ofNat_and]
theorem jj_or (a b : Nat) : jj a ||| jj b = jj (a ||| b : Nat) := by
  rw [jj_nat, jj_nat, jj_nat]
  apply Int64.toBitVec_inj.mp
  show BitVec.ofNat 64 a ||| BitVec.ofNat 64 b = BitVec.ofNat 64 (a ||| b)
  rw [BitVec.ofNat_or]
theorem ii_mod (a k : Nat) : ii a &&& ii ((2 ^ k - 1 : Nat)) = ii (a % 2 ^ k : Nat) := by
  rw [ii_and, Nat.and_two_pow_sub_one_eq_mod]
theorem jj_mod (a k : Nat) : jj a &&& jj ((2 ^ k - 1 : Nat)) = jj (a % 2 ^ k : Nat) := by
  rw [jj_and, Nat.and_two_pow_sub_one_eq_mod]
theorem or_dis {a b k : Nat} (h : a < 2 ^ k) : b * 2 ^ k ||| a = b * 2 ^ k + a := by
  rw [Nat.mul_comm, Nat.two_pow_add_eq_or_of_lt h]
theorem ju_shr {a : Nat} (h2 : a < 9223372036854775808) {k : Nat} (hk : k < 64) : ((jj a).toUInt64 >>> ((ii k).toInt64.toUInt64 &&& Int64.toUInt64 63)).toInt64 = jj (a / 2 ^ k : Nat) := by
  have hm : ∀ k : Fin 64, (((ii (k.val : Int)).toInt64.toUInt64 &&& Int64.toUInt64 63)).toNat % 64 = k.val := by decide +kernel
  have ha : (jj a).toUInt64.toNat = a := by
    rw [jj_nat]
    show (Int64.ofNat a).toBitVec.toNat = a
    simp
    omega
  apply Int64.toBitVec_inj.mp
  apply BitVec.eq_of_toNat_eq
  show ((jj a).toUInt64 >>> ((ii k).toInt64.toUInt64 &&& Int64.toUInt64 63)).toNat = _
  rw [UInt64.toNat_shiftRight, hm ⟨k, hk⟩, ha, jj_nat]
  have : a / 2 ^ k ≤ a := Nat.div_le_self _ _
  rw [Nat.shiftRight_eq_div_pow]
  generalize a / 2 ^ k = q at *
  simp
  omega
end
section
def b2 (b : Bool) : Int32 := if b then 1 else 0
theorem b2_0 (b : Bool) : (b2 b = 0) = (b = false) := by cases b <;> simp [b2]
theorem b2_1 (b : Bool) : (b2 b = 1) = (b = true) := by cases b <;> simp [b2]
theorem b2_eq (a b : Bool) : (b2 a = b2 b) = (a = b) := by cases a <;> cases b <;> simp [b2]
theorem b2_isZ (b : Bool) : isZ (b2 b) = true := by cases b <;> decide
def nS (e fr : Nat) (b : Nat) : Nat := b % 2 ^ (e + fr)
def nMi (e fr : Nat) (b : Nat) : Bool := decide (2 ^ (e + fr) ≤ b)
def nEx (e fr : Nat) (b : Nat) : Nat := nS e fr b / 2 ^ fr
def nW (e fr : Nat) (b : Nat) : Nat := if 2 ^ fr ≤ nS e fr b then nS e fr b % 2 ^ fr + 2 ^ fr else nS e fr b
def nAd (k e fr : Nat) (b : Nat) : Nat := if k = 1 ∧ nW e fr b < 2 ^ fr then 0 else nW e fr b
def nPl (e fr : Nat) (b : Nat) : Int := (if nEx e fr b < 1 then 1 else nEx e fr b : Nat) - nB e - fr
def nNaN (k e fr : Nat) : Int := if k = 3 then -1 else (nInf k e fr + 2 ^ (fr - 1) : Nat)
def FO (k e fr : Nat) : Prop := k ≤ 3 ∧ 2 ≤ e ∧ e ≤ 8 ∧ 1 ≤ fr ∧ fr ≤ 18
/- the object at p is the form -/
def FM (S : HS) (p k e fr : Nat) : Prop := gI S 200 p = ii k ∧ gI S 201 p = ii e ∧ gI S 202 p = ii fr ∧ gI S 203 p = ii (nB e) ∧ gI S 204 p = ii (2 ^ (e + fr) : Nat) ∧ gI S 205 p = ii (nInf k e fr) ∧ gI S 206 p = ii (nInf k e fr - 1 : Nat) ∧ gI S 207 p = ii (nNaN k e fr)
theorem and_top {b i : Nat} (hb : b < 2 ^ (i + 1)) : b &&& 2 ^ i = if 2 ^ i ≤ b then 2 ^ i else 0 := by
  have hp : 0 < 2 ^ i := Nat.two_pow_pos i
  have hbi : b.testBit i = decide (2 ^ i ≤ b) := by
    rw [Nat.testBit_eq_decide_div_mod_eq]
    apply decide_eq_decide.mpr
    by_cases h : 2 ^ i ≤ b
    · have : b / 2 ^ i = 1 := by
        apply Nat.le_antisymm
        · apply Nat.le_of_lt_succ
          rw [Nat.div_lt_iff_lt_mul hp]
          rw [Nat.pow_succ] at hb; omega
        · rw [Nat.le_div_iff_mul_le hp]; omega
      rw [this]; simp [h]
    · rw [Nat.div_eq_of_lt (by omega)]; simp [h]
  apply Nat.eq_of_testBit_eq
  intro j
  rw [Nat.testBit_and, Nat.testBit_two_pow]
  by_cases hj : i = j
  · subst hj
    rw [hbi]
    by_cases h : 2 ^ i ≤ b
    · rw [if_pos h, Nat.testBit_two_pow]; simp [h]
    · rw [if_neg h]; simp [h]
  · by_cases h : 2 ^ i ≤ b
    · rw [if_pos h, Nat.testBit_two_pow]; simp [hj]
    · rw [if_neg h]; simp [hj]
theorem sb_le {k e fr : Nat} (h : FO k e fr) : 8 ≤ 2 ^ (e + fr) ∧ 2 ^ (e + fr) ≤ 67108864 := by
  obtain ⟨_, h2, h3, h4, h5⟩ := h
  exact ⟨Nat.le_trans (show 8 ≤ 2 ^ 3 by decide) (Nat.pow_le_pow_right (by decide) (by omega)), Nat.le_trans (Nat.pow_le_pow_right (by decide) (show e + fr ≤ 26 by omega)) (by decide)⟩
theorem fr_le {k e fr : Nat} (h : FO k e fr) : 2 ≤ 2 ^ fr ∧ 2 ^ fr ≤ 262144 := by
  obtain ⟨_, h2, h3, h4, h5⟩ := h
  exact ⟨Nat.le_trans (show 2 ≤ 2 ^ 1 by decide) (Nat.pow_le_pow_right (by decide) (by omega)), Nat.le_trans (Nat.pow_le_pow_right (by decide) (show fr ≤ 18 by omega)) (by decide)⟩
theorem nB_le {k e fr : Nat} (h : FO k e fr) : 1 ≤ nB e ∧ nB e ≤ 127 := by
  obtain ⟨_, h2, h3, _⟩ := h
  have : ∀ x : Fin 9, 2 ≤ x.val → 1 ≤ nB x.val ∧ nB x.val ≤ 127 := by decide
  exact this ⟨e, by omega⟩ h2
theorem nInf_le {k e fr : Nat} (h : FO k e fr) : 3 ≤ nInf k e fr ∧ nInf k e fr ≤ 2 ^ (e + fr) := by
  have h1 := (sb_le h).1
  have hf := fr_le h
  unfold nInf
  split
  · omega
  · have e1 : 2 ^ (e + fr) = 2 ^ e * 2 ^ fr := Nat.pow_add 2 e fr
    have e2 : 4 ≤ 2 ^ e := Nat.le_trans (show 4 ≤ 2 ^ 2 by decide) (Nat.pow_le_pow_right (by decide) h.2.1)
    rw [e1]
    constructor
    · exact Nat.le_trans (show 3 ≤ 3 * 1 by decide) (Nat.mul_le_mul (by omega) (by omega))
    · exact Nat.mul_le_mul_right _ (by omega)
section FORMS
variable {S : HS} {p k e fr b : Nat}
theorem x2_size (hf : FM S p k e fr) : s_X2_size p (ii b) S = ii (nS e fr b) := by
  unfold s_X2_size
  rw [hf.2.2.2.2.1, show (1 : Int32) = ii 1 from rfl, ii_sub]
  have hp : 1 ≤ 2 ^ (e + fr) := Nat.two_pow_pos _
  rw [show (((2 ^ (e + fr) : Nat) : Int) - 1) = ((2 ^ (e + fr) - 1 : Nat) : Int) by omega, ii_mod]
  rfl
theorem nS_lt : nS e fr b < 2 ^ (e + fr) := Nat.mod_lt _ (Nat.two_pow_pos _)
theorem x2_isMinus (hf : FM S p k e fr) (ho : FO k e fr) (hb : b < 2 ^ (e + fr + 1)) : s_X2_isMinus p (ii b) S = b2 (nMi e fr b) := by
  have hs := sb_le ho
  unfold s_X2_isMinus nMi b2
  rw [hf.2.2.2.2.1, ii_and, and_top hb, show (0 : Int32) = ii 0 from rfl]
  by_cases h : 2 ^ (e + fr) ≤ b
  · have hne : ¬ (ii ((2 ^ (e + fr) : Nat) : Int) = ii 0) := by rw [ii_eq (by omega) (by omega) (by omega) (by omega)]; omega
    rw [if_pos h, if_neg hne, if_pos (decide_eq_true h)]
  · rw [if_neg h, if_pos (show ii ((0 : Nat) : Int) = ii 0 from rfl), if_neg (by simp [h])]
theorem x2_isNought (hf : FM S p k e fr) (ho : FO k e fr) : s_X2_isNought p (ii b) S = b2 (decide (nS e fr b = 0)) := by
  have hs := sb_le ho
  have := @nS_lt e fr b
  unfold s_X2_isNought b2
  rw [x2_size hf]
  simp only [show (0 : Int32) = ii 0 from rfl, ii_eq (a := (nS e fr b : Int)) (b := 0) (by omega) (by omega) (by omega) (by omega), decide_eq_true_eq, Int.natCast_eq_zero]
theorem x2_isInfinite (hf : FM S p k e fr) (ho : FO k e fr) : s_X2_isInfinite p (ii b) S = b2 (decide (nS e fr b = nInf k e fr)) := by
  have hs := sb_le ho
  have hi := nInf_le ho
  have := @nS_lt e fr b
  unfold s_X2_isInfinite b2
  rw [x2_size hf, hf.2.2.2.2.2.1]
  simp only [ii_eq (a := (nS e fr b : Int)) (b := (nInf k e fr : Int)) (by omega) (by omega) (by omega) (by omega), decide_eq_true_eq, Int.ofNat_inj]
theorem x2_isNan (hf : FM S p k e fr) (ho : FO k e fr) : s_X2_isNan p (ii b) S = b2 (decide (nInf k e fr < nS e fr b)) := by
  have hs := sb_le ho
  have hi := nInf_le ho
  have := @nS_lt e fr b
  unfold s_X2_isNan b2
  rw [x2_size hf, hf.2.2.2.2.2.1]
  simp only [ii_le (a := (nS e fr b : Int)) (b := (nInf k e fr : Int)) (by omega) (by omega) (by omega) (by omega), decide_eq_true_eq]
  by_cases h : nInf k e fr < nS e fr b
  · rw [if_neg (by omega), if_pos h]
  · rw [if_pos (by omega), if_neg h]
end FORMS
end
section
theorem nInf_lt {k e fr : Nat} (ho : FO k e fr) (hk : k ≠ 3) : nInf k e fr + 2 ^ fr = 2 ^ (e + fr) := by
  unfold nInf
  rw [if_neg hk, Nat.pow_add, Nat.sub_mul, Nat.one_mul, Nat.sub_add_cancel]
  exact Nat.le_mul_of_pos_left _ (Nat.two_pow_pos e)
theorem sg_or (e fr x : Nat) (m : Bool) (h : x < 2 ^ (e + fr)) : (if m = false then ii x else ii x ||| ii (2 ^ (e + fr) : Nat)) = ii (nSg e fr m + x : Nat) := by
  cases m
  · simp [nSg]
  · simp only [nSg, if_true, Bool.true_eq_false, if_false]
    rw [ii_or, Nat.or_comm]
    have := or_dis (a := x) (b := 1) (k := e + fr) h
    rw [Nat.one_mul] at this
    rw [this]
section FORMS
variable {S : HS} {p k e fr b : Nat}
theorem nEx_lt (ho : FO k e fr) : nEx e fr b < 2 ^ e := by
  unfold nEx
  rw [Nat.div_lt_iff_lt_mul (Nat.two_pow_pos fr), ← Nat.pow_add]
  exact nS_lt
theorem nEx_256 (ho : FO k e fr) : nEx e fr b < 256 := Nat.lt_of_lt_of_le (nEx_lt ho) (Nat.le_trans (Nat.pow_le_pow_right (by decide) ho.2.2.1) (by decide))
theorem x2_exponent (hf : FM S p k e fr) (ho : FO k e fr) : s_X2_exponent p (ii b) S = ii (nEx e fr b) := by
  have hs := sb_le ho
  have := @nS_lt e fr b
  obtain ⟨o1, o2, o3, o4, o5⟩ := ho
  unfold s_X2_exponent
  rw [x2_size hf, hf.2.2.1, ii_shr (by omega) (by omega) (by omega)]
  rfl
theorem ii_one_shl {j : Nat} (h : j < 32) : (1 : Int32) <<< (ii j &&& 31) = ii (2 ^ j : Nat) := by
  rw [show (1 : Int32) = ii 1 from rfl, ii_shl 1 h, Int.one_mul]
theorem nW_lt (ho : FO k e fr) : nW e fr b < 2 ^ (fr + 1) := by
  have h1 : nS e fr b % 2 ^ fr < 2 ^ fr := Nat.mod_lt _ (Nat.two_pow_pos fr)
  rw [Nat.pow_succ]
  unfold nW
  split <;> omega
theorem x2_weight (hf : FM S p k e fr) (ho : FO k e fr) : s_X2_weight p (ii b) S = ii (nW e fr b) := by
  have hs := sb_le ho
  have hF := fr_le ho
  have := @nS_lt e fr b
  obtain ⟨o1, o2, o3, o4, o5⟩ := ho
  unfold s_X2_weight bnd nW
  dsimp only
  rw [x2_size hf, hf.2.2.1, ii_one_shl (by omega), show (1 : Int32) = ii 1 from rfl, ii_sub, show (((2 ^ fr : Nat) : Int) - 1) = ((2 ^ fr - 1 : Nat) : Int) by omega, ii_mod, ii_or]
  have e1 := or_dis (a := nS e fr b % 2 ^ fr) (b := 1) (k := fr) (Nat.mod_lt _ (Nat.two_pow_pos fr))
  rw [Nat.one_mul, Nat.or_comm] at e1
  rw [e1]
  simp only [ii_le (a := ((2 ^ fr : Nat) : Int)) (b := (nS e fr b : Int)) (by omega) (by omega) (by omega) (by omega)]
  by_cases h : 2 ^ fr ≤ nS e fr b
  · rw [if_pos (by omega), if_pos h, Nat.add_comm]
  · rw [if_neg (by omega), if_neg h]
theorem x2_addend (hf : FM S p k e fr) (ho : FO k e fr) : s_X2_addend p (ii b) S = ii (nAd k e fr b) := by
  have hF := fr_le ho
  have hw := nW_lt (b := b) ho
  obtain ⟨o1, o2, o3, o4, o5⟩ := ho
  unfold s_X2_addend bnd nAd
  dsimp only
  rw [x2_weight hf ⟨o1, o2, o3, o4, o5⟩, hf.1, hf.2.2.1, ii_one_shl (by omega)]
  have hw2 : nW e fr b < 524288 := Nat.lt_of_lt_of_le hw (Nat.le_trans (Nat.pow_le_pow_right (by decide) (show fr + 1 ≤ 19 by omega)) (by decide))
  simp only [show (1 : Int32) = ii 1 from rfl, ii_eq (a := (k : Int)) (b := 1) (by omega) (by omega) (by omega) (by omega), ii_le (a := ((2 ^ fr : Nat) : Int)) (b := (nW e fr b : Int)) (by omega) (by omega) (by omega) (by omega)]
  by_cases h1 : k = 1
  · rw [if_pos (by omega)]
    by_cases h2 : nW e fr b < 2 ^ fr
    · rw [if_neg (by omega), if_pos ⟨h1, h2⟩]; rfl
    · rw [if_pos (by omega), if_neg (by omega)]
  · rw [if_neg (by omega), if_neg (by omega)]
theorem x2_place (hf : FM S p k e fr) (ho : FO k e fr) : s_X2_place p (ii b) S = ii (nPl e fr b) := by
  have hx := nEx_256 (b := b) ho
  unfold s_X2_place nPl
  rw [x2_exponent hf ho, hf.2.2.2.1, hf.2.2.1]
  simp only [show (1 : Int32) = ii 1 from rfl, ii_lt (a := (nEx e fr b : Int)) (b := 1) (by omega) (by omega) (by omega) (by omega)]
  by_cases h : nEx e fr b < 1
  · rw [if_pos (by omega), if_pos h, ii_sub, ii_sub]; rfl
  · rw [if_neg (by omega), if_neg h, ii_sub, ii_sub]
theorem nPl_le (ho : FO k e fr) : -145 ≤ nPl e fr b ∧ nPl e fr b ≤ 255 := by
  have hx := nEx_256 (b := b) ho
  have hb := nB_le ho
  obtain ⟨o1, o2, o3, o4, o5⟩ := ho
  unfold nPl
  split <;> omega
theorem x2_noughtOf (hf : FM S p k e fr) (m : Bool) : s_X2_noughtOf p (b2 m) S = ii (nSg e fr m) := by
  unfold s_X2_noughtOf
  rw [hf.2.2.2.2.1]
  cases m
  · rfl
  · rw [if_neg (by decide)]; rfl
theorem x2_greatestOf (hf : FM S p k e fr) (ho : FO k e fr) (m : Bool) : s_X2_greatestOf p (b2 m) S = ii (nSg e fr m + (nInf k e fr - 1) : Nat) := by
  have hi := nInf_le ho
  unfold s_X2_greatestOf
  rw [hf.2.2.2.2.2.2.1, hf.2.2.2.2.1, ← sg_or e fr _ m (by omega)]
  simp only [b2_0]
theorem x2_infinityOf (hf : FM S p k e fr) (ho : FO k e fr) (hk : k ≠ 3) (m : Bool) : s_X2_infinityOf p (b2 m) S = ii (nSg e fr m + nInf k e fr : Nat) := by
  have hi := nInf_lt ho hk
  have hp := Nat.two_pow_pos fr
  unfold s_X2_infinityOf
  rw [hf.2.2.2.2.2.1, hf.2.2.2.2.1, ← sg_or e fr _ m (by omega)]
  simp only [b2_0]
theorem x2_saturates (hf : FM S p k e fr) (ho : FO k e fr) : s_X2_saturates p S = b2 (decide (k = 2 ∨ k = 3)) := by
  have : k = 0 ∨ k = 1 ∨ k = 2 ∨ k = 3 := by have := ho.1; omega
  unfold s_X2_saturates
  rw [hf.1]
  rcases this with h | h | h | h <;> subst h <;> decide
theorem x2_holds (hf : FM S p k e fr) (ho : FO k e fr) (x : Int32) : s_X2_holds p x S = b2 (decide (0 ≤ x.toInt ∧ x.toInt < (2 ^ (e + fr + 1) : Nat))) := by
  have hs := sb_le ho
  unfold s_X2_holds
  have hx := ii_of x
  have l1 := x.le_toInt
  have l2 := x.toInt_lt
  generalize x.toInt = z at *
  subst hx
  rw [hf.2.2.2.2.1, show (2 : Int32) = ii 2 from rfl, ii_mul, Nat.pow_succ]
  simp only [show (0 : Int32) = ii 0 from rfl, ii_lt (a := z) (b := 0) (by omega) (by omega) (by omega) (by omega), ii_le (a := 2 * ((2 ^ (e + fr) : Nat) : Int)) (b := z) (by omega) (by omega) (by omega) (by omega)]
  by_cases h1 : z < 0
  · rw [if_pos h1, b2, if_neg (by rw [decide_eq_true_eq]; omega)]; rfl
  · rw [if_neg h1]
    by_cases h2 : 2 * ((2 ^ (e + fr) : Nat) : Int) ≤ z
    · rw [if_pos h2, b2, if_neg (by rw [decide_eq_true_eq]; omega)]; rfl
    · rw [if_neg h2, b2, if_pos (by rw [decide_eq_true_eq]; omega)]
end FORMS
end
section
def lawB (law : Nat) (m o g r : Bool) : Bool := law.testBit (m.toNat + 2 * o.toNat + 4 * g.toNat + 8 * r.toNat)
theorem law_bit {law j : Nat} (h : law < 65536) (hj : j < 32) : (((ii law >>> (ii j &&& 31)) &&& 1 : Int32) = 1) = (law.testBit j = true) := by
  have hd : law / 2 ^ j ≤ law := Nat.div_le_self _ _
  rw [ii_shr (by omega) (by omega) hj, show ((law : Int) / ((2 ^ j : Nat) : Int)) = ((law / 2 ^ j : Nat) : Int) from rfl, show (1 : Int32) = ii (1 : Nat) from rfl, ii_and, Nat.and_one_is_mod]
  have hm : law / 2 ^ j % 2 < 2 := Nat.mod_lt _ (by decide)
  rw [ii_eq (by omega) (by omega) (by omega) (by omega), Nat.testBit_eq_decide_div_mod_eq, decide_eq_true_eq]
  exact propext Int.ofNat_inj
theorem x0_goesUp {S : HS} {a law mode : Nat} (hl : gI S 0 a = ii law) (h : law < 65536) (hm : mode < 6) (m o g r : Bool) :
    s_X0_goesUp a (ii mode) (b2 m) (b2 o) (b2 g) (b2 r) S = some (b2 (gUp (lawB law) mode m o g r)) := by
  have : mode = 0 ∨ mode = 1 ∨ mode = 2 ∨ mode = 3 ∨ mode = 4 ∨ mode = 5 := by omega
  rcases this with q | q | q | q | q | q <;> subst q
  · cases m <;> cases o <;> cases g <;> cases r <;> rfl
  · cases m <;> cases o <;> cases g <;> cases r <;> rfl
  · cases m <;> cases o <;> cases g <;> cases r <;> rfl
  · cases m <;> cases o <;> cases g <;> cases r <;> rfl
  · cases m <;> cases o <;> cases g <;> cases r <;> rfl
  · have e : s_X0_goesUp a (ii (5 : Nat)) (b2 m) (b2 o) (b2 g) (b2 r) S = if (g || r) = true then s_X0_goesUp_J155 a (ii (m.toNat + 2 * o.toNat + 4 * g.toNat + 8 * r.toNat : Nat)) S else some 0 := by
      cases m <;> cases o <;> cases g <;> cases r <;> rfl
    have hj : m.toNat + 2 * o.toNat + 4 * g.toNat + 8 * r.toNat < 32 := by
      cases m <;> cases o <;> cases g <;> cases r <;> decide
    rw [e]
    unfold s_X0_goesUp_J155 gUp lawB
    rw [hl]
    simp only [law_bit h hj]
    cases (g || r)
    · rfl
    · simp only [if_true, Bool.true_and]
      cases law.testBit (m.toNat + 2 * o.toNat + 4 * g.toNat + 8 * r.toNat) <;> rfl
/- how many BITS from the highest 1 down -/
def nBl (n : Nat) : Nat := if n = 0 then 0 else n.log2 + 1
theorem nBl_shift {n s : Nat} (h : 0 < n / 2 ^ s) : nBl n = nBl (n / 2 ^ s) + s := by
  have h1 := log2_div h
  have : n ≠ 0 := by intro q; subst q; simp at h
  unfold nBl
  rw [if_neg this, if_neg (by omega)]
  omega
theorem bl_end {F : Nat} {c n : Nat} {S : HS} (hn : n < 2) (hz : n = 0 → c = 0) : s_X11_bitLength_J41 F (ii c) (jj n) S = some (ii (c + nBl n : Nat)) := by
  have : n = 0 ∨ n = 1 := by omega
  unfold s_X11_bitLength_J41
  rw [show (0 : Int64) = jj (0 : Nat) from rfl, lg_c (by omega) (by omega) (by omega) (by omega)]
  rcases this with q | q <;> subst q
  · rw [hz rfl]; rfl
  · rw [show (1 : Int32) = ii 1 from rfl, ii_add]
    rfl
theorem bl_step {F N c n st : Nat} {k : Int32 → Int64 → HS → Option Int32} {S : HS} (hn : n < 9223372036854775808) (hs : 0 < st) (hs2 : st < 63) (hc : c < 1000) :
    s_X11_bitLength_L8 F k (N + 1) (ii c) (jj n) (ii st) S = if n / 2 ^ st = 0 then s_X11_bitLength_L8 F k N (ii c) (jj n) (ii (st / 2 : Nat)) S else s_X11_bitLength_L8 F k N (ii (c + st : Nat)) (jj (n / 2 ^ st : Nat)) (ii (st / 2 : Nat)) S := by
  have hd : n / 2 ^ st ≤ n := Nat.div_le_self _ _
  rw [s_X11_bitLength_L8]
  rw [if_neg (by rw [show (0 : Int32) = ii 0 from rfl, ii_le (by omega) (by omega) (by omega) (by omega)]; omega)]
  unfold s_X11_bitLength_J32 bnd
  dsimp only
  rw [ju_shr hn (by omega)]
  generalize n / 2 ^ st = q at *
  rw [show (0 : Int64) = jj (0 : Nat) from rfl, lg_c (by omega) (by omega) (by omega) (by omega), show (1 : Int32) = ii (1 : Nat) from rfl, ii_shr (by omega) (by omega) (by omega), ii_add]
  by_cases h : q = 0
  · subst h; rfl
  · rw [if_neg h, if_pos (show ((0 : Nat) : Int) < (q : Int) by omega)]
    rfl
theorem bl_loop {F : Nat} {S : HS} : ∀ i N c n : Nat, i ≤ 5 → n < 2 ^ (2 * 2 ^ i) → n < 9223372036854775808 → c < 1000 - 100 * i → (n = 0 → c = 0) →
    s_X11_bitLength_L8 F (s_X11_bitLength_J41 F) (N + i + 2) (ii c) (jj n) (ii (2 ^ i : Nat)) S = some (ii (c + nBl n : Nat))
  | 0, N, c, n, _, hn, h63, hc, hz => by
    rw [show N + 0 + 2 = (N + 1) + 1 from rfl, bl_step h63 (by decide) (by decide) (by omega)]
    have hx : ∀ c n : Nat, n < 2 → (n = 0 → c = 0) → s_X11_bitLength_L8 F (s_X11_bitLength_J41 F) (N + 1) (ii c) (jj n) (ii (2 ^ 0 / 2 : Nat)) S = some (ii (c + nBl n : Nat)) := by
      intro c n hn hz
      rw [s_X11_bitLength_L8, if_pos (by decide)]
      exact bl_end hn hz
    have hn' : n < 4 := hn
    by_cases h : n / 2 ^ 2 ^ 0 = 0
    · rw [if_pos h]; exact hx c n (by omega) hz
    · rw [if_neg h, hx _ _ (by omega) (fun q => absurd q h), nBl_shift (Nat.pos_of_ne_zero h)]
      congr 3; omega
  | i + 1, N, c, n, hi, hn, h63, hc, hz => by
    have hst : 2 ^ (i + 1) < 63 := Nat.lt_of_le_of_lt (Nat.pow_le_pow_right (by decide) hi) (by decide)
    have hh : 2 ^ (i + 1) / 2 = 2 ^ i := by rw [Nat.pow_succ, Nat.mul_div_cancel _ (by decide)]
    have h2 : 2 * 2 ^ i = 2 ^ (i + 1) := by rw [Nat.pow_succ, Nat.mul_comm]
    rw [show N + (i + 1) + 2 = (N + i + 2) + 1 by omega, bl_step h63 (Nat.two_pow_pos _) hst (by omega), hh]
    have hd : n / 2 ^ 2 ^ (i + 1) ≤ n := Nat.div_le_self _ _
    by_cases h : n / 2 ^ 2 ^ (i + 1) = 0
    · rw [if_pos h]
      have : n < 2 ^ (2 * 2 ^ i) := by
        rw [h2]
        rcases Nat.div_eq_zero_iff.mp h with q | q
        · exact absurd q (Nat.ne_of_gt (Nat.two_pow_pos _))
        · exact q
      exact bl_loop i N c n (by omega) this h63 (by omega) hz
    · rw [if_neg h, nBl_shift (Nat.pos_of_ne_zero h)]
      have hlt : n / 2 ^ 2 ^ (i + 1) < 2 ^ (2 * 2 ^ i) := by
        rw [h2, Nat.div_lt_iff_lt_mul (Nat.two_pow_pos _), ← Nat.pow_add]
        rw [show 2 ^ (i + 1) + 2 ^ (i + 1) = 2 * 2 ^ (i + 1) by omega]
        exact hn
      rw [bl_loop i N _ _ (by omega) hlt (by omega) (by omega) (fun q => absurd q h)]
      congr 3; omega
theorem x_bl {F n : Nat} {S : HS} (hF : 7 ≤ F) (hn : n < 9223372036854775808) : s_X11_bitLength F (jj n) S = some (ii (nBl n)) := by
  obtain ⟨N, rfl⟩ : ∃ N, F = N + 5 + 2 := ⟨F - 7, by omega⟩
  unfold s_X11_bitLength
  have := bl_loop (F := N + 5 + 2) (S := S) 5 N 0 n (by omega) (Nat.lt_trans hn (by decide)) hn (by omega) (fun _ => rfl)
  rw [Nat.zero_add] at this
  exact this
end
section
/- nothing changes but int fields fs and long field 5 of the object a -/
def AFr (a : Nat) (fs : List Nat) (S S' : HS) : Prop := (∀ f b, ¬ (b = a ∧ f ∈ fs) → gI S' f b = gI S f b) ∧ (∀ f b, ¬ (b = a ∧ f = 5) → gJ S' f b = gJ S f b) ∧ S'.2.2 = S.2.2
theorem AFr.refl (a : Nat) (fs : List Nat) (S : HS) : AFr a fs S S := ⟨fun _ _ _ => rfl, fun _ _ _ => rfl, rfl⟩
theorem AFr.trans {a : Nat} {fs gs hs : List Nat} {S S1 S2 : HS} (h1 : AFr a fs S S1) (h2 : AFr a gs S1 S2) (hf : ∀ x, x ∈ fs → x ∈ hs) (hg : ∀ x, x ∈ gs → x ∈ hs) : AFr a hs S S2 :=
  ⟨fun f b h => (h2.1 f b (fun q => h ⟨q.1, hg _ q.2⟩)).trans (h1.1 f b (fun q => h ⟨q.1, hf _ q.2⟩)), fun f b h => (h2.2.1 f b h).trans (h1.2.1 f b h), h2.2.2.trans h1.2.2⟩
theorem AFr.uI {a : Nat} {fs : List Nat} {S S1 : HS} (h1 : AFr a fs S S1) (f : Nat) (v : Int32) (hf : f ∈ fs) : AFr a fs S (uI S1 f a v) :=
  ⟨fun g b h => by rw [gI_uI, if_neg (show ¬ (g = f ∧ b = a) from fun q => h ⟨q.2, q.1 ▸ hf⟩)]; exact h1.1 g b h, fun g b h => h1.2.1 g b h, h1.2.2⟩
theorem AFr.uJ {a : Nat} {fs : List Nat} {S S1 : HS} (h1 : AFr a fs S S1) (v : Int64) : AFr a fs S (uJ S1 5 a v) :=
  ⟨fun g b h => h1.1 g b h, fun g b h => by rw [gJ_uJ, if_neg (show ¬ (g = 5 ∧ b = a) from fun q => h ⟨q.2, q.1⟩)]; exact h1.2.1 g b h, h1.2.2⟩
theorem x0_cut {S : HS} {a n : Nat} {d : Int} (hn0 : 0 < n) (hn : n < 4611686018427387904) (hd1 : -64 < d) (hd2 : d < 100000) :
    ∃ S', s_X0_cut a (jj n) (ii d) S = some S' ∧ gJ S' 5 a = jj (rCut n d false).1 ∧ gI S' 6 a = b2 (rCut n d false).2.1 ∧ gI S' 7 a = b2 (rCut n d false).2.2 ∧ AFr a [6, 7] S S' := by
  unfold s_X0_cut bnd
  dsimp only
  by_cases h0 : d ≤ 0
  · rw [if_neg (by rw [show (0 : Int32) = ii 0 from rfl, ii_lt (by omega) (by omega) (by omega) (by omega)]; omega)]
    obtain ⟨m, hm⟩ : ∃ m : Nat, d = -(m : Int) := ⟨(-d).toNat, by omega⟩
    have hr : rCut n d false = (n * 2 ^ m, false, false) := by
      unfold rCut; rw [if_pos h0, show (-d).toNat = m by omega]
    rw [hr]
    refine ⟨_, rfl, ?_, ?_, ?_, (((AFr.refl a _ S).uJ _).uI 6 0 (by simp)).uI 7 0 (by simp)⟩
    · simp only [gJ_uI, gJ_uJ, and_self, if_true]
      rw [ii_neg, hm, show - -(m : Int) = m by omega, jj_shl _ (by omega)]
      rfl
    · simp [gI_uI]; rfl
    · simp [gI_uI]; rfl
  · rw [if_pos (by rw [show (0 : Int32) = ii 0 from rfl, ii_lt (by omega) (by omega) (by omega) (by omega)]; omega)]
    obtain ⟨m, hm⟩ : ∃ m : Nat, d = m + 1 := ⟨(d - 1).toNat, by omega⟩
    have hr : rCut n d false = (n / 2 ^ (m + 1), decide (n / 2 ^ m % 2 = 1), decide (n % 2 ^ m ≠ 0)) := by
      unfold rCut; rw [if_neg h0, show d.toNat = m + 1 by omega]; simp
    rw [hr]
    by_cases h62 : m + 1 ≤ 62
    · rw [if_pos (by rw [show (62 : Int32) = ii 62 from rfl, ii_le (by omega) (by omega) (by omega) (by omega)]; omega)]
      have e1 : ii d = ii (m + 1 : Nat) := by rw [hm]; rfl
      have e2 : ii (m + 1 : Nat) - 1 = ii m := by rw [show (1 : Int32) = ii 1 from rfl, ii_sub]; congr 1; omega
      rw [e1, e2, ju_shr (by omega) (by omega), ju_shr (by omega) (by omega)]
      have hP : 2 ^ m ≤ 2 ^ 61 := Nat.pow_le_pow_right (by decide) (by omega)
      have hP0 : 0 < 2 ^ m := Nat.two_pow_pos m
      have e3 : jj n &&& ((1 : Int64) <<< ((ii m).toInt64 &&& 63) - 1) = jj (n % 2 ^ m : Nat) := by
        rw [show (1 : Int64) = jj 1 from rfl, jj_shl 1 (by omega), jj_sub, Int.one_mul, show (((2 ^ m : Nat) : Int) - 1) = ((2 ^ m - 1 : Nat) : Int) by omega, jj_mod]
      have e4 : jj (n / 2 ^ m : Nat) &&& 1 = jj (n / 2 ^ m % 2 : Nat) := by
        rw [show (1 : Int64) = jj (1 : Nat) from rfl, jj_and, Nat.and_one_is_mod]
      rw [e4]
      unfold s_X0_cut_J74 s_X0_cut_J97 bnd
      rw [e2, e3]
      have hm2 : n / 2 ^ m % 2 < 2 := Nat.mod_lt _ (by decide)
      have hr2 : n % 2 ^ m < 2 ^ m := Nat.mod_lt _ hP0
      generalize n / 2 ^ m % 2 = g at *
      generalize n % 2 ^ m = r at *
      rw [show (1 : Int64) = jj (1 : Nat) from rfl, show (0 : Int64) = jj (0 : Nat) from rfl, lg_c (by omega) (by omega) (by omega) (by omega), lg_c (by omega) (by omega) (by omega) (by omega)]
      have c1 : ((if ((1 : Nat) : Int) < (g : Int) then (1 : Int32) else if (g : Int) = ((1 : Nat) : Int) then 0 else -1) = 0) = (g = 1) := by
        have : g = 0 ∨ g = 1 := by omega
        rcases this with q | q <;> subst q <;> simp
      have c2 : ((if ((0 : Nat) : Int) < (r : Int) then (1 : Int32) else if (r : Int) = ((0 : Nat) : Int) then 0 else -1) = 0) = (r = 0) := by
        by_cases q : r = 0
        · subst q; simp
        · rw [if_pos (by omega)]; simp [q]
      simp only [c1, c2, isZ_0, isZ_1, if_true]
      by_cases hg : g = 1
      · by_cases hz : r = 0
        · simp only [if_pos hg, if_pos hz]
          exact ⟨_, rfl, by simp [gJ_uI, gJ_uJ], by simp [gI_uI, b2, hg], by simp [gI_uI, b2, hz], (((AFr.refl a _ S).uJ _).uI 6 1 (by simp)).uI 7 0 (by simp)⟩
        · simp only [if_pos hg, if_neg hz]
          exact ⟨_, rfl, by simp [gJ_uI, gJ_uJ], by simp [gI_uI, b2, hg], by simp [gI_uI, b2, hz], (((AFr.refl a _ S).uJ _).uI 6 1 (by simp)).uI 7 1 (by simp)⟩
      · by_cases hz : r = 0
        · simp only [if_neg hg, if_pos hz]
          exact ⟨_, rfl, by simp [gJ_uI, gJ_uJ], by simp [gI_uI, b2, hg], by simp [gI_uI, b2, hz], (((AFr.refl a _ S).uJ _).uI 6 0 (by simp)).uI 7 0 (by simp)⟩
        · simp only [if_neg hg, if_neg hz]
          exact ⟨_, rfl, by simp [gJ_uI, gJ_uJ], by simp [gI_uI, b2, hg], by simp [gI_uI, b2, hz], (((AFr.refl a _ S).uJ _).uI 6 0 (by simp)).uI 7 1 (by simp)⟩
    · rw [if_neg (by rw [show (62 : Int32) = ii 62 from rfl, ii_le (by omega) (by omega) (by omega) (by omega)]; omega)]
      have hP : 2 ^ 62 ≤ 2 ^ m := Nat.pow_le_pow_right (by decide) (by omega)
      have hP2 : 2 ^ 62 ≤ 2 ^ (m + 1) := Nat.pow_le_pow_right (by decide) (by omega)
      have g1 : n / 2 ^ m = 0 := Nat.div_eq_of_lt (by omega)
      have g2 : n / 2 ^ (m + 1) = 0 := Nat.div_eq_of_lt (by omega)
      have g3 : n % 2 ^ m = n := Nat.mod_eq_of_lt (by omega)
      rw [g1, g2, g3]
      exact ⟨_, rfl, by simp [gJ_uI, gJ_uJ]; rfl, by simp [gI_uI, b2], by simp [gI_uI, b2, Nat.ne_of_gt hn0], (((AFr.refl a _ S).uJ _).uI 6 0 (by simp)).uI 7 1 (by simp)⟩
end
