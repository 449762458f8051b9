section
/- the tape's text, cut: pure -/
def run (p : Nat → Bool) : List Nat → Nat
  | [] => 0
  | c :: r => if p c then run p r + 1 else 0
def isWs (c : Nat) : Bool := c == 10 || c == 32
def isLt (c : Nat) : Bool := decide (97 ≤ c ∧ c ≤ 122)
def isDg (c : Nat) : Bool := decide (48 ≤ c ∧ c ≤ 57)
def isSg (c : Nat) : Bool := c == 40 || c == 41 || c == 59 || c == 61 || c == 60 || c == 43 || c == 45 || c == 42
def chT (tp : List Nat) (i : Nat) : Nat := tp.getD i 0
theorem run_at (p : Nat → Bool) (tp : List Nat) (q : Nat) : run p (tp.drop q) = if q < tp.length ∧ p (chT tp q) = true then run p (tp.drop (q + 1)) + 1 else 0 := by
  by_cases h : q < tp.length
  · rw [List.drop_eq_getElem_cons h]
    have : chT tp q = tp[q] := by unfold chT; rw [List.getD_eq_getElem?_getD, List.getElem?_eq_getElem h]; rfl
    rw [this]
    show (if p tp[q] then _ else _) = _
    by_cases w : p tp[q] = true
    · rw [if_pos w, if_pos ⟨h, w⟩]
    · rw [if_neg w, if_neg (fun r => w r.2)]
  · rw [List.drop_eq_nil_of_le (by omega), if_neg (fun r => h r.1)]; rfl
theorem run_le (p : Nat → Bool) : ∀ (l : List Nat), run p l ≤ l.length
  | [] => Nat.le_refl _
  | c :: r => by
    show (if p c then run p r + 1 else 0) ≤ r.length + 1
    have := run_le p r
    split <;> omega
/- what reading may change of the tape object a -/
def RDF (a : Nat) (S S' : HS) : Prop := (∀ f b, ¬ (b = a ∧ 802 ≤ f ∧ f ≤ 806) → gI S' f b = gI S f b) ∧ S'.2.2 = S.2.2
theorem RDF.refl (a : Nat) (S : HS) : RDF a S S := ⟨fun _ _ _ => rfl, rfl⟩
theorem RDF.trans {a : Nat} {S S1 S2 : HS} (h1 : RDF a S S1) (h2 : RDF a S1 S2) : RDF a S S2 := ⟨fun f b h => (h2.1 f b h).trans (h1.1 f b h), h2.2.trans h1.2⟩
theorem RDF.uI {a : Nat} {S S1 : HS} (h : RDF a S S1) (f : Nat) (v : Int32) (hf : 802 ≤ f ∧ f ≤ 806) : RDF a S (uI S1 f a v) := ⟨fun g b hg => by rw [gI_uI, if_neg (show ¬ (g = f ∧ b = a) from fun r => hg ⟨r.2, r.1 ▸ hf⟩)]; exact h.1 g b hg, h.2⟩
theorem RDF.uJ {a : Nat} {S S1 : HS} (h : RDF a S S1) (f : Nat) (v : Int64) : RDF a S (uJ S1 f a v) := ⟨h.1, h.2⟩
/- the tape lies at a, its signs at r -/
def TPE (N : Nat → Nat) (S : HS) (a r : Nat) (tp : List Nat) : Prop := gR S 800 a = some r ∧ N r = 1000 ∧ gI S 801 a = ii tp.length ∧ tp.length ≤ 1000 ∧ (∀ c, c ∈ tp → tpok c) ∧ ∀ (i c : Nat), tp[i]? = some c → aI S r i = ii c
theorem TPE.rd {N : Nat → Nat} {S S' : HS} {a r : Nat} {tp : List Nat} (h : TPE N S a r tp) (hF : RDF a S S') : TPE N S' a r tp := by
  obtain ⟨h1, h2, h3, h4, h5, h6⟩ := h
  refine ⟨?_, h2, by rw [hF.1 801 a (by omega)]; exact h3, h4, h5, fun i c hc => ?_⟩
  · unfold gR; rw [hF.2]; exact h1
  · unfold aI; rw [hF.2]; exact h6 i c hc
theorem chT_b {tp : List Nat} (h : ∀ c, c ∈ tp → tpok c) (i : Nat) : chT tp i < 127 := by
  unfold chT
  rw [List.getD_eq_getElem?_getD]
  cases hg : tp[i]? with
  | none => simp
  | some c =>
    have := h c (List.mem_of_getElem? hg)
    unfold tpok at this
    simp; omega
section XREAD
variable {N : Nat → Nat} {F : Nat} {S : HS} {a r : Nat} {tp : List Nat}
theorem x_signAt (h : TPE N S a r tp) {i : Nat} (hi : i < 100000) : s_X8_signAt N a (ii i) S = some (ii (chT tp i)) := by
  obtain ⟨h1, h2, h3, h4, h5, h6⟩ := h
  unfold s_X8_signAt
  rw [h3, if_neg (by rw [k0, ii_lt (by omega) (by omega) (by omega) (by omega)]; omega)]
  by_cases w : tp.length ≤ i
  · rw [if_pos (by rw [ii_le (by omega) (by omega) (by omega) (by omega)]; omega), if_pos (by decide)]
    unfold chT
    rw [List.getD_eq_getElem?_getD, List.getElem?_eq_none w]; rfl
  · have hg : tp[i]? = some tp[i] := List.getElem?_eq_getElem (by omega)
    have hc : chT tp i = tp[i] := by unfold chT; rw [List.getD_eq_getElem?_getD, hg]; rfl
    have hb := chT_b h5 i
    rw [if_neg (by rw [ii_le (by omega) (by omega) (by omega) (by omega)]; omega), if_neg (by rw [show (1000 : Int32) = ii 1000 from rfl, ii_le (by omega) (by omega) (by omega) (by omega)]; omega), h1, bd1_some, if_pos (by rw [h2]; exact in_of (z := i) rfl (by omega) (by decide)), cl_of (z := i) rfl (by omega), h6 i _ hg, ← hc]
    have hC : ∀ k : Fin 127, isC (ii (k.val : Int)) = true := by decide +kernel
    rw [if_pos (hC ⟨chT tp i, hb⟩)]
/- the blanks before a word -/
theorem x_skip (h : TPE N S a r tp) (cont : Nat → HS → Option HS) : ∀ (k i q M : Nat) (S1 : HS), q + k = tp.length → i ≤ q → k < M → gI S1 803 a = ii q → RDF a S S1 →
    ∃ S2, s_X8_advance_L10 N F cont M a (ii i) S1 = cont a S2 ∧ gI S2 803 a = ii (q + run isWs (tp.drop q) : Nat) ∧ RDF a S S2 := by
  have hlen := h.2.2.2.1
  intro k
  induction k with
  | zero =>
    intro i q M S1 hq hi hM hg hF
    obtain ⟨M, rfl⟩ : ∃ w, M = w + 1 := ⟨M - 1, by omega⟩
    unfold s_X8_advance_L10
    rw [run_at, if_neg (show ¬ (q < tp.length ∧ _) by omega), Nat.add_zero]
    by_cases w : (1000 : Int32) ≤ ii (i : Int)
    · rw [if_pos w]; exact ⟨S1, rfl, hg, hF⟩
    · have c0 : chT tp q = 0 := by unfold chT; rw [List.getD_eq_getElem?_getD, List.getElem?_eq_none (by omega)]; rfl
      rw [if_neg w, hg, x_signAt (h.rd hF) (by omega), c0, bd1_some, if_neg (by decide), bd1_some, if_neg (by decide)]
      exact ⟨S1, rfl, hg, hF⟩
  | succ k ih =>
    intro i q M S1 hq hi hM hg hF
    obtain ⟨M, rfl⟩ : ∃ w, M = w + 1 := ⟨M - 1, by omega⟩
    have hb := chT_b h.2.2.2.2.1 q
    have q10 : (ii (chT tp q : Int) = (10 : Int32)) = (chT tp q = 10) := by rw [k10, ii_eq (by omega) (by omega) (by omega) (by omega)]; apply propext; omega
    have q32 : (ii (chT tp q : Int) = (32 : Int32)) = (chT tp q = 32) := by rw [show (32 : Int32) = ii 32 from rfl, ii_eq (by omega) (by omega) (by omega) (by omega)]; apply propext; omega
    have ei : ii (i : Int) + Int32.ofInt 1 = ii ((i + 1 : Nat) : Int) := by rw [show Int32.ofInt 1 = ii 1 from rfl, ii_add]; rfl
    have eq1 : ii (q : Int) + 1 = ii ((q + 1 : Nat) : Int) := by rw [k1, ii_add]; rfl
    have go : isWs (chT tp q) = true → ∃ S2, s_X8_advance_J43 N F (s_X8_advance_L10 N F cont M) a (ii i) S1 = cont a S2 ∧ gI S2 803 a = ii (q + run isWs (tp.drop q) : Nat) ∧ RDF a S S2 := by
      intro w
      unfold s_X8_advance_J43
      rw [bnd_def, bnd_def, hg, eq1, ei, run_at, if_pos ⟨by omega, w⟩]
      obtain ⟨S2, r1, r2, r3⟩ := ih (i + 1) (q + 1) M (uI S1 803 a (ii ((q + 1 : Nat) : Int))) (by omega) (by omega) (by omega) (by rw [gI_uI, if_pos ⟨rfl, rfl⟩]) (hF.uI 803 _ (by omega))
      exact ⟨S2, r1, by rw [r2]; congr 2; omega, r3⟩
    unfold s_X8_advance_L10
    rw [if_neg (by rw [show (1000 : Int32) = ii 1000 from rfl, ii_le (by omega) (by omega) (by omega) (by omega)]; omega), hg, x_signAt (h.rd hF) (by omega), bd1_some, bd1_some]
    simp only [q10, q32]
    by_cases w1 : chT tp q = 10
    · rw [if_pos w1]; exact go (by unfold isWs; simp [w1])
    rw [if_neg w1]
    by_cases w2 : chT tp q = 32
    · rw [if_pos w2]; exact go (by unfold isWs; simp [w2])
    · rw [if_neg w2, run_at, if_neg (fun r => by have := r.2; unfold isWs at this; simp [w1, w2] at this), Nat.add_zero]
      exact ⟨S1, rfl, hg, hF⟩
end XREAD
end
section
/- letters and figures from q on, n of them -/
def wl (tp : List Nat) (q n : Nat) : List Nat := ((tp.drop q).take n).map (fun c => c - 96)
def dv (tp : List Nat) (q n : Nat) : Nat := ((tp.drop q).take n).foldl (fun v c => v * 10 + (c - 48)) 0
theorem take_s {tp : List Nat} {q n : Nat} (h : q + n < tp.length) : (tp.drop q).take (n + 1) = (tp.drop q).take n ++ [chT tp (q + n)] := by
  rw [List.take_succ, List.getElem?_drop, List.getElem?_eq_getElem h]
  congr 1
  unfold chT
  rw [List.getD_eq_getElem?_getD, List.getElem?_eq_getElem h]; rfl
theorem wl_s {tp : List Nat} {q n : Nat} (h : q + n < tp.length) : nm32 (wl tp q (n + 1)) = nm32 (wl tp q n) * 32 + (chT tp (q + n) - 96) := by
  unfold wl nm32
  rw [take_s h, List.map_append, List.foldl_append]; rfl
theorem dv_s {tp : List Nat} {q n : Nat} (h : q + n < tp.length) : dv tp q (n + 1) = dv tp q n * 10 + (chT tp (q + n) - 48) := by
  unfold dv
  rw [take_s h, List.foldl_append]; rfl
section XWORD
variable {N : Nat → Nat} {F : Nat} {S : HS} {a r : Nat} {tp : List Nat}
theorem x_isLt {c : Nat} (hc : c < 1000) (S : HS) : s_X8_isLetter (ii c) S = b2 (isLt c) := by
  unfold s_X8_isLetter isLt
  have c1 : (ii (c : Int) < (97 : Int32)) = (c < 97) := by rw [show (97 : Int32) = ii 97 from rfl, ii_lt (by omega) (by omega) (by omega) (by omega)]; apply propext; omega
  have c2 : ((122 : Int32) < ii (c : Int)) = (122 < c) := by rw [show (122 : Int32) = ii 122 from rfl, ii_lt (by omega) (by omega) (by omega) (by omega)]; apply propext; omega
  simp only [c1, c2]
  by_cases w1 : c < 97
  · rw [if_pos w1, decide_eq_false (by omega)]; rfl
  · by_cases w2 : 122 < c
    · rw [if_neg w1, if_pos w2, decide_eq_false (by omega)]; rfl
    · rw [if_neg w1, if_neg w2, decide_eq_true (by omega)]; rfl
theorem x_isDg {c : Nat} (hc : c < 1000) (S : HS) : s_X8_isDigit (ii c) S = b2 (isDg c) := by
  unfold s_X8_isDigit isDg
  have c1 : (ii (c : Int) < (48 : Int32)) = (c < 48) := by rw [show (48 : Int32) = ii 48 from rfl, ii_lt (by omega) (by omega) (by omega) (by omega)]; apply propext; omega
  have c2 : ((57 : Int32) < ii (c : Int)) = (57 < c) := by rw [show (57 : Int32) = ii 57 from rfl, ii_lt (by omega) (by omega) (by omega) (by omega)]; apply propext; omega
  simp only [c1, c2]
  by_cases w1 : c < 48
  · rw [if_pos w1, decide_eq_false (by omega)]; rfl
  · by_cases w2 : 57 < c
    · rw [if_neg w1, if_pos w2, decide_eq_false (by omega)]; rfl
    · rw [if_neg w1, if_neg w2, decide_eq_true (by omega)]; rfl
theorem x_isSg : ∀ c : Fin 127, s_X8_isOneOf (ii (c.val : Int)) 0 (default : HS) = b2 (isSg c.val) := by decide +kernel
theorem shl5 {v c : Nat} (hv : v < 2 ^ 40) (hc : c < 32) : (jj (v : Int) <<< ((5 : Int32).toInt64 &&& 63)) ||| jj c = jj (v * 32 + c : Nat) := by
  rw [show ((5 : Int32).toInt64 &&& 63) = ((ii (5 : Nat)).toInt64 &&& 63) from rfl, jj_shl _ (by omega)]
  have e : ((v : Int) * ((2 ^ 5 : Nat) : Int)) = ((v * 32 : Nat) : Int) := by push_cast; rfl
  rw [e]
  apply Int64.toBitVec_inj.mp
  rw [Int64.toBitVec_or, jj_nat, jj_nat, jj_nat]
  show BitVec.ofNat 64 (v * 32) ||| BitVec.ofNat 64 c = BitVec.ofNat 64 (v * 32 + c)
  apply BitVec.eq_of_toNat_eq
  have h40 : (2 : Nat) ^ 40 = 1099511627776 := by decide
  rw [BitVec.toNat_or, BitVec.toNat_ofNat, BitVec.toNat_ofNat, BitVec.toNat_ofNat, Nat.mod_eq_of_lt (by omega), Nat.mod_eq_of_lt (by omega), Nat.mod_eq_of_lt (by omega)]
  have : v * 32 = 2 ^ 5 * v := by omega
  rw [this]
  exact (Nat.two_pow_add_eq_or_of_lt (show c < 2 ^ 5 by omega) v).symm
end XWORD
end
section
section XADV
variable {N : Nat → Nat} {F : Nat} {S : HS} {a r : Nat} {tp : List Nat}
theorem pw32 : ∀ n : Fin 9, 32 ^ n.val ≤ 2 ^ 40 := by decide
theorem wl_b {tp : List Nat} (h5 : ∀ c, c ∈ tp → tpok c) {q : Nat} : ∀ n, n ≤ run isLt (tp.drop q) → q + n ≤ tp.length → nm32 (wl tp q n) < 32 ^ n := by
  intro n
  induction n with
  | zero => intro _ _; show nm32 ((List.take 0 (tp.drop q)).map _) < 1; rw [List.take_zero]; decide
  | succ n ih =>
    intro h1 h2
    rw [wl_s (by omega), Nat.pow_succ]
    have := ih (by omega) (by omega)
    have hb := chT_b h5 (q + n)
    have : chT tp (q + n) - 96 < 32 := by omega
    omega
theorem run_get (p : Nat → Bool) (tp : List Nat) (q : Nat) : ∀ n, n < run p (tp.drop q) → q + n < tp.length ∧ p (chT tp (q + n)) = true := by
  intro n
  induction n generalizing q with
  | zero =>
    intro h
    rw [run_at] at h
    split at h
    · assumption
    · omega
  | succ n ih =>
    intro h
    rw [run_at] at h
    split at h
    · have := ih (q + 1) (by omega)
      rw [show q + 1 + n = q + (n + 1) by omega] at this
      exact this
    · omega
theorem run_end (p : Nat → Bool) (tp : List Nat) (q : Nat) (h : q + run p (tp.drop q) < tp.length) : p (chT tp (q + run p (tp.drop q))) = false := by
  generalize hn : run p (tp.drop q) = n at *
  induction n generalizing q with
  | zero =>
    rw [run_at] at hn
    split at hn
    · omega
    · rename_i w
      rw [Nat.add_zero] at h ⊢
      cases hp : p (chT tp q)
      · rfl
      · exact absurd ⟨h, hp⟩ w
  | succ n ih =>
    rw [run_at] at hn
    split at hn
    · have := ih (q + 1) (by omega) (by omega)
      rw [show q + 1 + n = q + (n + 1) by omega] at this
      exact this
    · omega
theorem x_wordLoop (h : TPE N S a r tp) {q : Nat} (hq : q ≤ tp.length) (cont : Nat → Int32 → HS → Option HS) : ∀ (k n M : Nat) (S1 : HS), n + k = run isLt (tp.drop q) → k < M → RDF a S S1 → (n ≤ 8 → gJ S1 805 a = jj (nm32 (wl tp q n))) → gI S1 803 a = gI S 803 a →
    ∃ S2, s_X8_readWord_L12 N F cont M a (ii n) (ii (q + n : Nat)) S1 = cont a (ii (run isLt (tp.drop q))) S2 ∧ RDF a S S2 ∧ (run isLt (tp.drop q) ≤ 8 → gJ S2 805 a = jj (nm32 (wl tp q (run isLt (tp.drop q))))) ∧ gI S2 803 a = gI S 803 a := by
  have hlen := h.2.2.2.1
  have hrl := run_le isLt (tp.drop q)
  rw [List.length_drop] at hrl
  intro k
  induction k with
  | zero =>
    intro n M S1 hn hM hF hJ h3
    obtain ⟨M, rfl⟩ : ∃ w, M = w + 1 := ⟨M - 1, by omega⟩
    have hnn : n = run isLt (tp.drop q) := by omega
    have h1' := h.rd hF
    unfold s_X8_readWord_L12
    rw [h1'.2.2.1]
    by_cases w : tp.length ≤ q + n
    · rw [if_pos (by rw [ii_le (by omega) (by omega) (by omega) (by omega)]; omega)]
      rw [hnn] at hJ ⊢
      exact ⟨S1, rfl, hF, hJ, h3⟩
    · have he := run_end isLt tp q (by omega)
      rw [← hnn] at he
      have hb := chT_b h.2.2.2.2.1 (q + n)
      rw [if_neg (by rw [ii_le (by omega) (by omega) (by omega) (by omega)]; omega), x_signAt h1' (by omega), bd1_some, x_isLt (by omega), he, if_pos (by decide)]
      rw [hnn] at hJ ⊢
      exact ⟨S1, rfl, hF, hJ, h3⟩
  | succ k ih =>
    intro n M S1 hn hM hF hJ h3
    obtain ⟨M, rfl⟩ : ∃ w, M = w + 1 := ⟨M - 1, by omega⟩
    have h1' := h.rd hF
    obtain ⟨g1, g2⟩ := run_get isLt tp q n (by omega)
    have hb := chT_b h.2.2.2.2.1 (q + n)
    have hlt : 97 ≤ chT tp (q + n) ∧ chT tp (q + n) ≤ 122 := of_decide_eq_true g2
    have e1 : ii (n : Int) + Int32.ofInt 1 = ii ((n + 1 : Nat) : Int) := by rw [show Int32.ofInt 1 = ii 1 from rfl, ii_add]; rfl
    have e2 : ii ((q + n : Nat) : Int) + Int32.ofInt 1 = ii ((q + (n + 1) : Nat) : Int) := by rw [show Int32.ofInt 1 = ii 1 from rfl, ii_add]; congr 1
    have e3 : (ii (chT tp (q + n) : Int) - 97 + 1).toInt64 = jj ((chT tp (q + n) - 96 : Nat)) := by
      rw [show (97 : Int32) = ii 97 from rfl, k1, ii_sub, ii_add, ii_jj (by omega) (by omega)]; congr 1; omega
    unfold s_X8_readWord_L12
    rw [h1'.2.2.1, if_neg (by rw [ii_le (by omega) (by omega) (by omega) (by omega)]; omega), x_signAt h1' (by omega), bd1_some, x_isLt (by omega), g2, if_neg (by decide), bd1_some, bnd_def, bnd_def, bnd_def, e1, e2, e3]
    refine ih (n + 1) M _ (by omega) (by omega) (hF.uJ 805 _) (fun h8 => ?_) h3
    rw [gJ_uJ, if_pos ⟨rfl, rfl⟩, hJ (by omega)]
    have hlb := wl_b h.2.2.2.2.1 (q := q) n (by omega) (by omega)
    have hp := pw32 ⟨n, by omega⟩
    rw [shl5 (Nat.lt_of_lt_of_le hlb hp) (by omega), wl_s g1]
end XADV
end
section
section XNUM
variable {N : Nat → Nat} {F : Nat} {S : HS} {a r : Nat} {tp : List Nat}
theorem pw10 : ∀ n : Fin 5, 10 ^ n.val ≤ 10000 := by decide
theorem dv_b {tp : List Nat} {q : Nat} : ∀ n, n ≤ run isDg (tp.drop q) → q + n ≤ tp.length → dv tp q n < 10 ^ n := by
  intro n
  induction n with
  | zero => intro _ _; unfold dv; rw [List.take_zero]; decide
  | succ n ih =>
    intro h1 h2
    rw [dv_s (by omega), Nat.pow_succ]
    have := ih (by omega) (by omega)
    have g2 : 48 ≤ chT tp (q + n) ∧ chT tp (q + n) ≤ 57 := of_decide_eq_true (run_get isDg tp q n (by omega)).2
    omega
theorem x_numLoop (h : TPE N S a r tp) {q : Nat} (hq : q ≤ tp.length) (cont : Nat → Int32 → HS → Option HS) : ∀ (k n M : Nat) (S1 : HS), n + k = run isDg (tp.drop q) → k < M → RDF a S S1 → (n ≤ 4 → gI S1 806 a = ii (dv tp q n)) → gI S1 803 a = gI S 803 a →
    ∃ S2, s_X8_readNumber_L12 N F cont M a (ii n) (ii (q + n : Nat)) S1 = cont a (ii (run isDg (tp.drop q))) S2 ∧ RDF a S S2 ∧ (run isDg (tp.drop q) ≤ 4 → gI S2 806 a = ii (dv tp q (run isDg (tp.drop q)))) ∧ gI S2 803 a = gI S 803 a := by
  have hlen := h.2.2.2.1
  have hrl := run_le isDg (tp.drop q)
  rw [List.length_drop] at hrl
  intro k
  induction k with
  | zero =>
    intro n M S1 hn hM hF hJ h3
    obtain ⟨M, rfl⟩ : ∃ w, M = w + 1 := ⟨M - 1, by omega⟩
    have hnn : n = run isDg (tp.drop q) := by omega
    have h1' := h.rd hF
    unfold s_X8_readNumber_L12
    rw [h1'.2.2.1]
    by_cases w : tp.length ≤ q + n
    · rw [if_pos (by rw [ii_le (by omega) (by omega) (by omega) (by omega)]; omega)]
      rw [hnn] at hJ ⊢
      exact ⟨S1, rfl, hF, hJ, h3⟩
    · have he := run_end isDg tp q (by omega)
      rw [← hnn] at he
      have hb := chT_b h.2.2.2.2.1 (q + n)
      rw [if_neg (by rw [ii_le (by omega) (by omega) (by omega) (by omega)]; omega), x_signAt h1' (by omega), bd1_some, x_isDg (by omega), he, if_pos (by decide)]
      rw [hnn] at hJ ⊢
      exact ⟨S1, rfl, hF, hJ, h3⟩
  | succ k ih =>
    intro n M S1 hn hM hF hJ h3
    obtain ⟨M, rfl⟩ : ∃ w, M = w + 1 := ⟨M - 1, by omega⟩
    have h1' := h.rd hF
    obtain ⟨g1, g2⟩ := run_get isDg tp q n (by omega)
    have hb := chT_b h.2.2.2.2.1 (q + n)
    have hlt : 48 ≤ chT tp (q + n) ∧ chT tp (q + n) ≤ 57 := of_decide_eq_true g2
    have e1 : ii (n : Int) + Int32.ofInt 1 = ii ((n + 1 : Nat) : Int) := by rw [show Int32.ofInt 1 = ii 1 from rfl, ii_add]; rfl
    have e2 : ii ((q + n : Nat) : Int) + Int32.ofInt 1 = ii ((q + (n + 1) : Nat) : Int) := by rw [show Int32.ofInt 1 = ii 1 from rfl, ii_add]; congr 1
    unfold s_X8_readNumber_L12
    rw [h1'.2.2.1, if_neg (by rw [ii_le (by omega) (by omega) (by omega) (by omega)]; omega), x_signAt h1' (by omega), bd1_some, x_isDg (by omega), g2, if_neg (by decide), bd1_some, bnd_def, bnd_def, bnd_def, e1, e2]
    refine ih (n + 1) M _ (by omega) (by omega) (hF.uI 806 _ (by omega)) (fun h8 => ?_) (by rw [gI_uI, if_neg (by omega)]; exact h3)
    rw [gI_uI, if_pos ⟨rfl, rfl⟩, hJ (by omega), dv_s g1, k10, ii_mul, ii_add, show (48 : Int32) = ii 48 from rfl, ii_sub]
    congr 1
    omega
/- the class's token from p on: start, what it is, where it ends -/
def tQ0 (tp : List Nat) (p : Nat) : Nat := p + run isWs (tp.drop p)
def tW (tp : List Nat) (p : Nat) : Nat := run isLt (tp.drop (tQ0 tp p))
def tD0 (tp : List Nat) (p : Nat) : Nat := run isDg (tp.drop (tQ0 tp p))
def tC (tp : List Nat) (p : Nat) : Nat := chT tp (tQ0 tp p)
def tWhat (tp : List Nat) (p : Nat) : Nat := if tp.length ≤ tQ0 tp p then 0 else if isLt (tC tp p) then (if 8 < tW tp p then 3 else 1) else if isDg (tC tp p) then (if 4 < tD0 tp p then 3 else 2) else if isSg (tC tp p) then tC tp p else 3
def tEnd (tp : List Nat) (p : Nat) : Nat := if tp.length ≤ tQ0 tp p then tp.length else if isLt (tC tp p) then tQ0 tp p + tW tp p else if isDg (tC tp p) then tQ0 tp p + tD0 tp p else tQ0 tp p + 1
theorem tQ0_le (tp : List Nat) {p : Nat} (hp : p ≤ tp.length) : tQ0 tp p ≤ tp.length := by
  have := run_le isWs (tp.drop p)
  rw [List.length_drop] at this
  unfold tQ0; omega
/- advance: the class takes the next token -/
theorem x_advance (hF : 3000 ≤ F) (h : TPE N S a r tp) {p : Nat} (hp : p ≤ tp.length) (h4 : gI S 804 a = ii p) :
    ∃ S', s_X8_advance N F a S = some S' ∧ RDF a S S' ∧ gI S' 803 a = ii (tQ0 tp p) ∧ gI S' 804 a = ii (tEnd tp p) ∧ gI S' 802 a = ii (tWhat tp p) ∧ (tWhat tp p = 1 → gJ S' 805 a = jj (nm32 (wl tp (tQ0 tp p) (tW tp p)))) ∧ (tWhat tp p = 2 → gI S' 806 a = ii (dv tp (tQ0 tp p) (tD0 tp p))) := by
  have hlen := h.2.2.2.1
  have hq := tQ0_le tp hp
  unfold s_X8_advance
  rw [bnd_def, h4]
  obtain ⟨S2, s1, s2, s3⟩ := x_skip (F := F) (S := S) h (s_X8_advance_J59 N F) (tp.length - p) 0 p F (uI S 803 a (ii p)) (by omega) (by omega) (by omega) (by rw [gI_uI, if_pos ⟨rfl, rfl⟩]) ((RDF.refl a S).uI 803 _ (by omega))
  have s1' : s_X8_advance_L10 N F (s_X8_advance_J59 N F) F a 0 (uI S 803 a (ii p)) = s_X8_advance_J59 N F a S2 := s1
  have s2' : gI S2 803 a = ii (tQ0 tp p) := s2
  have h2 := h.rd s3
  have hb := chT_b h.2.2.2.2.1 (tQ0 tp p)
  have e1 : ii (tQ0 tp p : Int) + 1 = ii ((tQ0 tp p + 1 : Nat) : Int) := by rw [k1, ii_add]; rfl
  rw [s1']
  unfold s_X8_advance_J59
  rw [s2', x_signAt h2 (by omega), bd1_some, bnd_def, e1]
  generalize hS3 : uI S2 804 a (ii ((tQ0 tp p + 1 : Nat) : Int)) = S3
  have f3 : RDF a S S3 := by rw [← hS3]; exact s3.uI 804 _ (by omega)
  have h3 := h.rd f3
  have g803 : gI S3 803 a = ii (tQ0 tp p) := by rw [← hS3, gI_uI, if_neg (by omega)]; exact s2'
  have g804 : gI S3 804 a = ii (tQ0 tp p + 1 : Nat) := by rw [← hS3, gI_uI, if_pos ⟨rfl, rfl⟩]
  have hC : ii (chT tp (tQ0 tp p) : Int) = ii (tC tp p : Int) := rfl
  have hb' : tC tp p < 127 := hb
  have hsg : s_X8_isOneOf (ii (tC tp p : Int)) 0 S3 = b2 (isSg (tC tp p)) := x_isSg ⟨tC tp p, hb'⟩
  rw [g803, h3.2.2.1, hC, x_isLt (by omega), x_isDg (by omega), hsg]
  simp only [b2_0]
  by_cases w : tp.length ≤ tQ0 tp p
  · have hqe : tQ0 tp p = tp.length := by omega
    have ew : tWhat tp p = 0 := by unfold tWhat; rw [if_pos w]
    have ee : tEnd tp p = tp.length := by unfold tEnd; rw [if_pos w]
    rw [if_neg (by rw [ii_lt (by omega) (by omega) (by omega) (by omega)]; omega), bnd_def, bnd_def, bnd_def]
    have g1 : gI (uI S3 802 a 0) 801 a = ii tp.length := by rw [gI_uI, if_neg (by omega)]; exact h3.2.2.1
    have g2 : gI (uI (uI S3 802 a 0) 803 a (ii tp.length)) 801 a = ii tp.length := by rw [gI_uI, if_neg (by omega)]; exact g1
    rw [g1, g2]
    refine ⟨_, rfl, ((f3.uI 802 _ (by omega)).uI 803 _ (by omega)).uI 804 _ (by omega), ?_, ?_, ?_, fun q => (by omega), fun q => (by omega)⟩
    · rw [gI_uI, if_neg (by omega), gI_uI, if_pos ⟨rfl, rfl⟩, hqe]
    · rw [gI_uI, if_pos ⟨rfl, rfl⟩, ee]
    · rw [gI_uI, if_neg (by omega), gI_uI, if_neg (by omega), gI_uI, if_pos ⟨rfl, rfl⟩, ew]; rfl
  rw [if_pos (by rw [ii_lt (by omega) (by omega) (by omega) (by omega)]; omega)]
  cases wl' : isLt (tC tp p)
  · rw [if_pos rfl]
    cases wd : isDg (tC tp p)
    · rw [if_pos rfl]
      have ee : tEnd tp p = tQ0 tp p + 1 := by unfold tEnd; rw [if_neg w, wl', wd, if_neg (by decide), if_neg (by decide)]
      cases ws : isSg (tC tp p)
      · have ew : tWhat tp p = 3 := by unfold tWhat; rw [if_neg w, wl', wd, ws, if_neg (by decide), if_neg (by decide), if_neg (by decide)]
        rw [if_pos rfl]
        unfold s_X8_advance_J156
        rw [bnd_def]
        exact ⟨_, rfl, f3.uI 802 _ (by omega), by rw [gI_uI, if_neg (by omega)]; exact g803, by rw [gI_uI, if_neg (by omega), ee]; exact g804, by rw [gI_uI, if_pos ⟨rfl, rfl⟩, ew]; rfl, fun q => (by omega), fun q => (by omega)⟩
      · have ew : tWhat tp p = tC tp p := by unfold tWhat; rw [if_neg w, wl', wd, ws, if_neg (by decide), if_neg (by decide), if_pos rfl]
        have hc40 : 40 ≤ tC tp p := by unfold isSg at ws; simp at ws; omega
        rw [if_neg tf]
        unfold s_X8_advance_J156
        rw [bnd_def]
        exact ⟨_, rfl, f3.uI 802 _ (by omega), by rw [gI_uI, if_neg (by omega)]; exact g803, by rw [gI_uI, if_neg (by omega), ee]; exact g804, by rw [gI_uI, if_pos ⟨rfl, rfl⟩, ew], fun q => (by omega), fun q => (by omega)⟩
    · rw [if_neg tf]
      have ee : tEnd tp p = tQ0 tp p + tD0 tp p := by unfold tEnd; rw [if_neg w, wl', wd, if_neg (by decide), if_pos rfl]
      have ew : tWhat tp p = if 4 < tD0 tp p then 3 else 2 := by unfold tWhat; rw [if_neg w, wl', wd, if_neg (by decide), if_pos rfl]
      have hrl := run_le isDg (tp.drop (tQ0 tp p))
      rw [List.length_drop] at hrl
      have hrl' : tD0 tp p ≤ tp.length - tQ0 tp p := hrl
      unfold s_X8_readNumber
      rw [bnd_def, bnd_def, show gI (uI S3 806 a 0) 803 a = ii (tQ0 tp p) by rw [gI_uI, if_neg (by omega)]; exact g803]
      have f4 : RDF a S3 (uI S3 806 a 0) := (RDF.refl a S3).uI 806 _ (by omega)
      obtain ⟨S5, n1, n2, n3, n4⟩ := x_numLoop (F := F) h3 hq (s_X8_readNumber_J60 N F) (tD0 tp p) 0 F (uI S3 806 a 0) (by rw [Nat.zero_add]; rfl) (by omega) f4 (fun _ => by rw [gI_uI, if_pos ⟨rfl, rfl⟩]; unfold dv; rw [List.take_zero]; rfl) (by rw [gI_uI, if_neg (by omega)])
      have n1' : s_X8_readNumber_L12 N F (s_X8_readNumber_J60 N F) F a 0 (ii (tQ0 tp p)) (uI S3 806 a 0) = s_X8_readNumber_J60 N F a (ii (tD0 tp p)) S5 := n1
      rw [n1']
      unfold s_X8_readNumber_J60 s_X8_readNumber_J81
      have n4' : gI S5 803 a = ii (tQ0 tp p) := n4.trans g803
      have f5 := f3.trans n2
      rw [n4', ii_add, bnd_def]
      have c4 : ((4 : Int32) < ii (tD0 tp p : Int)) = (4 < tD0 tp p) := by rw [k4, ii_lt (by omega) (by omega) (by omega) (by omega)]; apply propext; omega
      simp only [c4]
      have ea : ii ((tQ0 tp p : Int) + (tD0 tp p : Int)) = ii (tEnd tp p) := by rw [ee]; congr 1
      by_cases w4 : 4 < tD0 tp p
      · rw [if_pos w4] at ew ⊢
        rw [bnd_def, bd1_some]
        exact ⟨_, rfl, (f5.uI 804 _ (by omega)).uI 802 _ (by omega), by rw [gI_uI, if_neg (by omega), gI_uI, if_neg (by omega)]; exact n4', by rw [gI_uI, if_neg (by omega), gI_uI, if_pos ⟨rfl, rfl⟩]; exact ea, by rw [gI_uI, if_pos ⟨rfl, rfl⟩, ew]; rfl, fun q => (by omega), fun q => (by omega)⟩
      · rw [if_neg w4] at ew ⊢
        rw [bnd_def, bd1_some]
        exact ⟨_, rfl, (f5.uI 804 _ (by omega)).uI 802 _ (by omega), by rw [gI_uI, if_neg (by omega), gI_uI, if_neg (by omega)]; exact n4', by rw [gI_uI, if_neg (by omega), gI_uI, if_pos ⟨rfl, rfl⟩]; exact ea, by rw [gI_uI, if_pos ⟨rfl, rfl⟩, ew]; rfl, fun q => (by omega), fun q => by rw [gI_uI, if_neg (by omega), gI_uI, if_neg (by omega)]; exact n3 (show tD0 tp p ≤ 4 by omega)⟩
  · rw [if_neg tf]
    have ee : tEnd tp p = tQ0 tp p + tW tp p := by unfold tEnd; rw [if_neg w, wl', if_pos rfl]
    have ew : tWhat tp p = if 8 < tW tp p then 3 else 1 := by unfold tWhat; rw [if_neg w, wl', if_pos rfl]
    have hrl := run_le isLt (tp.drop (tQ0 tp p))
    rw [List.length_drop] at hrl
    have hrl' : tW tp p ≤ tp.length - tQ0 tp p := hrl
    unfold s_X8_readWord
    rw [bnd_def, bnd_def, show gI (uJ S3 805 a 0) 803 a = ii (tQ0 tp p) from g803]
    have f4 : RDF a S3 (uJ S3 805 a 0) := (RDF.refl a S3).uJ 805 _
    obtain ⟨S5, n1, n2, n3, n4⟩ := x_wordLoop (F := F) h3 hq (s_X8_readWord_J62 N F) (tW tp p) 0 F (uJ S3 805 a 0) (by rw [Nat.zero_add]; rfl) (by omega) f4 (fun _ => by rw [gJ_uJ, if_pos ⟨rfl, rfl⟩]; unfold wl; rw [List.take_zero]; rfl) rfl
    have n1' : s_X8_readWord_L12 N F (s_X8_readWord_J62 N F) F a 0 (ii (tQ0 tp p)) (uJ S3 805 a 0) = s_X8_readWord_J62 N F a (ii (tW tp p)) S5 := n1
    rw [n1']
    unfold s_X8_readWord_J62 s_X8_readWord_J84
    have n4' : gI S5 803 a = ii (tQ0 tp p) := n4.trans g803
    have f5 := f3.trans n2
    rw [n4', ii_add, bnd_def]
    have c8 : ((8 : Int32) < ii (tW tp p : Int)) = (8 < tW tp p) := by rw [k8, ii_lt (by omega) (by omega) (by omega) (by omega)]; apply propext; omega
    simp only [c8]
    have ea : ii ((tQ0 tp p : Int) + (tW tp p : Int)) = ii (tEnd tp p) := by rw [ee]; congr 1
    by_cases w4 : 8 < tW tp p
    · rw [if_pos w4] at ew ⊢
      rw [bnd_def, bd1_some]
      exact ⟨_, rfl, (f5.uI 804 _ (by omega)).uI 802 _ (by omega), by rw [gI_uI, if_neg (by omega), gI_uI, if_neg (by omega)]; exact n4', by rw [gI_uI, if_neg (by omega), gI_uI, if_pos ⟨rfl, rfl⟩]; exact ea, by rw [gI_uI, if_pos ⟨rfl, rfl⟩, ew]; rfl, fun q => (by omega), fun q => (by omega)⟩
    · rw [if_neg w4] at ew ⊢
      rw [bnd_def, bd1_some]
      exact ⟨_, rfl, (f5.uI 804 _ (by omega)).uI 802 _ (by omega), by rw [gI_uI, if_neg (by omega), gI_uI, if_neg (by omega)]; exact n4', by rw [gI_uI, if_neg (by omega), gI_uI, if_pos ⟨rfl, rfl⟩]; exact ea, by rw [gI_uI, if_pos ⟨rfl, rfl⟩, ew]; rfl, fun q => n3 (show tW tp p ≤ 8 by omega), fun q => (by omega)⟩
end XNUM
end
section
section YCUT
variable {N : Nat → Nat} {F : Nat} {S : HS} {m u : Nat} {tp : List Nat}
/- the model's text: at u, its length in 1203 -/
def TPM (N : Nat → Nat) (S : HS) (m u : Nat) (tp : List Nat) : Prop := gR S 1201 m = some u ∧ N u = 1000 ∧ gI S 1203 m = ii tp.length ∧ tp.length ≤ 1000 ∧ (∀ c, c ∈ tp → tpok c) ∧ ∀ (i c : Nat), tp[i]? = some c → aI S u i = ii c
theorem TPM.ch (h : TPM N S m u tp) {i : Nat} (hi : i < tp.length) : aI S u i = ii (chT tp i) := by
  have hg : tp[i]? = some tp[i] := List.getElem?_eq_getElem hi
  have hc : chT tp i = tp[i] := by unfold chT; rw [List.getD_eq_getElem?_getD, hg]; rfl
  rw [hc]; exact h.2.2.2.2.2 i _ hg
theorem y_isLt {c : Nat} (hc : c < 1000) (S : HS) : s_X12_isLetter (ii c) S = b2 (isLt c) := x_isLt hc S
theorem y_isDg {c : Nat} (hc : c < 1000) (S : HS) : s_X12_isDigit (ii c) S = b2 (isDg c) := x_isDg hc S
theorem y_isSg : ∀ c : Fin 127, s_X12_isSignOf (ii (c.val : Int)) (default : HS) = b2 (isSg c.val) := by decide +kernel
theorem wl_s37 {tp : List Nat} {q n : Nat} (h : q + n < tp.length) : nm37 (wl tp q (n + 1)) = 37 * nm37 (wl tp q n) + (chT tp (q + n) - 96) := by
  unfold wl nm37
  rw [take_s h, List.map_append, List.foldl_append]; rfl
theorem y_wordLoop (h : TPM N S m u tp) {q : Nat} (hq : q ≤ tp.length) (v1 : Int32) (cont : Nat → Int32 → Int32 → Int32 → Int64 → HS → Option HS) : ∀ (k n M : Nat), n + k = run isLt (tp.drop q) → k < M →
    s_X12_cutAll_L70 N F cont M m v1 (ii (q + n : Nat)) (ii q) (jj (nm37 (wl tp q (min n 8)))) S = cont m v1 (ii (q + run isLt (tp.drop q) : Nat)) (ii q) (jj (nm37 (wl tp q (min (run isLt (tp.drop q)) 8)))) S := by
  have hlen := h.2.2.2.1
  have hrl := run_le isLt (tp.drop q)
  rw [List.length_drop] at hrl
  intro k
  induction k with
  | zero =>
    intro n M hn hM
    obtain ⟨M, rfl⟩ : ∃ w, M = w + 1 := ⟨M - 1, by omega⟩
    have hnn : n = run isLt (tp.drop q) := by omega
    unfold s_X12_cutAll_L70
    rw [h.2.2.1]
    by_cases w : tp.length ≤ q + n
    · rw [if_pos (by rw [ii_le (by omega) (by omega) (by omega) (by omega)]; omega), ← hnn]
    · have he := run_end isLt tp q (by omega)
      rw [← hnn] at he
      have hb := chT_b h.2.2.2.2.1 (q + n)
      rw [if_neg (by rw [ii_le (by omega) (by omega) (by omega) (by omega)]; omega), h.1, bd1_some, if_pos (by rw [h.2.1]; exact in_of (z := q + n) rfl (by omega) (by decide)), cl_of (z := q + n) rfl (by omega), h.ch (by omega), y_isLt (by omega), he, if_pos (by decide), ← hnn]
  | succ k ih =>
    intro n M hn hM
    obtain ⟨M, rfl⟩ : ∃ w, M = w + 1 := ⟨M - 1, by omega⟩
    obtain ⟨g1, g2⟩ := run_get isLt tp q n (by omega)
    have hb := chT_b h.2.2.2.2.1 (q + n)
    have hlt : 97 ≤ chT tp (q + n) ∧ chT tp (q + n) ≤ 122 := of_decide_eq_true g2
    have e2 : ii ((q + n : Nat) : Int) + Int32.ofInt 1 = ii ((q + (n + 1) : Nat) : Int) := by rw [show Int32.ofInt 1 = ii 1 from rfl, ii_add]; congr 1
    have ed : ii ((q + n : Nat) : Int) - ii (q : Int) = ii (n : Nat) := by rw [ii_sub]; congr 1; omega
    have c8 : ((8 : Int32) ≤ ii (n : Int)) = (8 ≤ n) := by rw [k8, ii_le (by omega) (by omega) (by omega) (by omega)]; apply propext; omega
    have ib : inB (ii ((q + n : Nat) : Int)) (N u) = true := by rw [h.2.1]; exact in_of (z := q + n) rfl (by omega) (by decide)
    unfold s_X12_cutAll_L70
    rw [h.2.2.1, if_neg (by rw [ii_le (by omega) (by omega) (by omega) (by omega)]; omega), h.1, bd1_some, if_pos ib, cl_of (z := q + n) rfl (by omega), h.ch g1, y_isLt (by omega), g2, if_neg (by decide), ed]
    simp only [c8]
    unfold s_X12_cutAll_J121
    by_cases w : 8 ≤ n
    · rw [if_pos w, bnd_def, e2]
      have := ih (n + 1) M (by omega) (by omega)
      rw [Nat.min_eq_right (by omega)] at this
      rw [Nat.min_eq_right w]
      exact this
    · rw [if_neg w, bd1_some, if_pos ib, bnd_def, e2]
      have hrk : s_X12_rank (ii (chT tp (q + n) : Int)) S = ii ((chT tp (q + n) - 96 : Nat)) := by
        unfold s_X12_rank
        rw [y_isLt (by omega), g2, if_neg (by decide), show (96 : Int32) = ii 96 from rfl, ii_sub]
        congr 1; omega
      have ev : 37 * jj (nm37 (wl tp q (min n 8)) : Int) + (ii ((chT tp (q + n) - 96 : Nat) : Int)).toInt64 = jj (nm37 (wl tp q (min (n + 1) 8)) : Nat) := by
        rw [ii_jj (by omega) (by omega), show (37 : Int64) = jj 37 from rfl, jj_mul, jj_add, Nat.min_eq_left (show n ≤ 8 by omega), Nat.min_eq_left (show n + 1 ≤ 8 by omega), wl_s37 g1]
        congr 1
      rw [h.ch g1, hrk, ev]
      exact ih (n + 1) M (by omega) (by omega)
theorem y_numLoop (h : TPM N S m u tp) {q : Nat} (hq : q ≤ tp.length) (v1 : Int32) (cont : Nat → Int32 → Int32 → Int32 → Int64 → HS → Option HS) : ∀ (k n M : Nat), n + k = run isDg (tp.drop q) → k < M →
    s_X12_cutAll_L159 N F cont M m v1 (ii (q + n : Nat)) (ii q) (jj (dv tp q (min n 4))) S = cont m v1 (ii (q + run isDg (tp.drop q) : Nat)) (ii q) (jj (dv tp q (min (run isDg (tp.drop q)) 4))) S := by
  have hlen := h.2.2.2.1
  have hrl := run_le isDg (tp.drop q)
  rw [List.length_drop] at hrl
  intro k
  induction k with
  | zero =>
    intro n M hn hM
    obtain ⟨M, rfl⟩ : ∃ w, M = w + 1 := ⟨M - 1, by omega⟩
    have hnn : n = run isDg (tp.drop q) := by omega
    unfold s_X12_cutAll_L159
    rw [h.2.2.1]
    by_cases w : tp.length ≤ q + n
    · rw [if_pos (by rw [ii_le (by omega) (by omega) (by omega) (by omega)]; omega), ← hnn]
    · have he := run_end isDg tp q (by omega)
      rw [← hnn] at he
      have hb := chT_b h.2.2.2.2.1 (q + n)
      rw [if_neg (by rw [ii_le (by omega) (by omega) (by omega) (by omega)]; omega), h.1, bd1_some, if_pos (by rw [h.2.1]; exact in_of (z := q + n) rfl (by omega) (by decide)), cl_of (z := q + n) rfl (by omega), h.ch (by omega), y_isDg (by omega), he, if_pos (by decide), ← hnn]
  | succ k ih =>
    intro n M hn hM
    obtain ⟨M, rfl⟩ : ∃ w, M = w + 1 := ⟨M - 1, by omega⟩
    obtain ⟨g1, g2⟩ := run_get isDg tp q n (by omega)
    have hb := chT_b h.2.2.2.2.1 (q + n)
    have hlt : 48 ≤ chT tp (q + n) ∧ chT tp (q + n) ≤ 57 := of_decide_eq_true g2
    have e2 : ii ((q + n : Nat) : Int) + Int32.ofInt 1 = ii ((q + (n + 1) : Nat) : Int) := by rw [show Int32.ofInt 1 = ii 1 from rfl, ii_add]; congr 1
    have ed : ii ((q + n : Nat) : Int) - ii (q : Int) = ii (n : Nat) := by rw [ii_sub]; congr 1; omega
    have c4 : ((4 : Int32) ≤ ii (n : Int)) = (4 ≤ n) := by rw [k4, ii_le (by omega) (by omega) (by omega) (by omega)]; apply propext; omega
    have ib : inB (ii ((q + n : Nat) : Int)) (N u) = true := by rw [h.2.1]; exact in_of (z := q + n) rfl (by omega) (by decide)
    unfold s_X12_cutAll_L159
    rw [h.2.2.1, if_neg (by rw [ii_le (by omega) (by omega) (by omega) (by omega)]; omega), h.1, bd1_some, if_pos ib, cl_of (z := q + n) rfl (by omega), h.ch g1, y_isDg (by omega), g2, if_neg (by decide), ed]
    simp only [c4]
    unfold s_X12_cutAll_J210
    by_cases w : 4 ≤ n
    · rw [if_pos w, bnd_def, e2]
      have := ih (n + 1) M (by omega) (by omega)
      rw [Nat.min_eq_right (by omega)] at this
      rw [Nat.min_eq_right w]
      exact this
    · rw [if_neg w, bd1_some, if_pos ib, bnd_def, e2]
      have ev : 10 * jj (dv tp q (min n 4) : Int) + (ii (chT tp (q + n) : Int)).toInt64 - 48 = jj (dv tp q (min (n + 1) 4) : Nat) := by
        rw [ii_jj (by omega) (by omega), show (10 : Int64) = jj 10 from rfl, show (48 : Int64) = jj 48 from rfl, jj_mul, jj_add, jj_sub, Nat.min_eq_left (show n ≤ 4 by omega), Nat.min_eq_left (show n + 1 ≤ 4 by omega), dv_s g1]
        congr 1; omega
      rw [h.ch g1, ev]
      exact ih (n + 1) M (by omega) (by omega)
end YCUT
end
section
/- the model's cut, as numbers -/
def ySo (tp : List Nat) (p : Nat) : Nat := if tWhat tp p = 1 then 1 else if tWhat tp p = 2 then 2 else if tWhat tp p = 3 then 4 else 3
def yVa (tp : List Nat) (p : Nat) : Nat := if tWhat tp p = 1 then nm37 (wl tp (tQ0 tp p) (tW tp p)) else if tWhat tp p = 2 then dv tp (tQ0 tp p) (tD0 tp p) else tC tp p
def pt (tp : List Nat) : Nat → Nat
  | 0 => 0
  | k + 1 => tEnd tp (pt tp k)
/- the first n tokens stand in the rows -/
def YTK (S : HS) (b1 b2' b3 : Nat) (tp : List Nat) (n : Nat) : Prop := ∀ k, k < n → tQ0 tp (pt tp k) < tp.length ∧ aI S b1 k = ii (ySo tp (pt tp k)) ∧ aI S b2' k = ii (tQ0 tp (pt tp k)) ∧ (tWhat tp (pt tp k) ≠ 3 → aJ S b3 k = jj (yVa tp (pt tp k)))
/- what cutting changes -/
def CUF (b1 b2' b3 : Nat) (S S' : HS) : Prop := S'.1 = S.1 ∧ S'.2.1 = S.2.1 ∧ S'.2.2.1 = S.2.2.1 ∧ (∀ p, p ≠ b1 → p ≠ b2' → aI S' p = aI S p) ∧ (∀ p, p ≠ b3 → aJ S' p = aJ S p) ∧ S'.2.2.2.2.2 = S.2.2.2.2.2
theorem CUF.refl (b1 b2' b3 : Nat) (S : HS) : CUF b1 b2' b3 S S := ⟨rfl, rfl, rfl, fun _ _ _ => rfl, fun _ _ => rfl, rfl⟩
theorem CUF.trans {b1 b2' b3 : Nat} {S S1 S2 : HS} (h1 : CUF b1 b2' b3 S S1) (h2 : CUF b1 b2' b3 S1 S2) : CUF b1 b2' b3 S S2 :=
  ⟨h2.1.trans h1.1, h2.2.1.trans h1.2.1, h2.2.2.1.trans h1.2.2.1, fun p p1 p2 => (h2.2.2.2.1 p p1 p2).trans (h1.2.2.2.1 p p1 p2), fun p p1 => (h2.2.2.2.2.1 p p1).trans (h1.2.2.2.2.1 p p1), h2.2.2.2.2.2.trans h1.2.2.2.2.2⟩
theorem TPM.cu {N : Nat → Nat} {S S' : HS} {m u b1 b2' b3 : Nat} {tp : List Nat} (h : TPM N S m u tp) (hF : CUF b1 b2' b3 S S') (h1 : u ≠ b1) (h2 : u ≠ b2') : TPM N S' m u tp := by
  obtain ⟨a1, a2, a3, a4, a5, a6⟩ := h
  exact ⟨by rw [gR_of hF.2.2.1]; exact a1, a2, by rw [gI_of hF.1]; exact a3, a4, a5, fun i c hc => by rw [hF.2.2.2.1 u h1 h2]; exact a6 i c hc⟩
section YCUT2
variable {N : Nat → Nat} {F : Nat} {S : HS} {m u b1 b2' b3 : Nat} {tp : List Nat}
/- one token written -/
theorem y_tok {S1 : HS} {k : Nat} (hb : b1 ≠ b2') (hF : CUF b1 b2' b3 S S1) (hT : YTK S1 b1 b2' b3 tp k) (hlt : tQ0 tp (pt tp k) < tp.length) (v : Int64) (hv : tWhat tp (pt tp k) ≠ 3 → v = jj (yVa tp (pt tp k))) :
    YTK (wJ (wI (wI S1 b2' k (ii (tQ0 tp (pt tp k)))) b1 k (ii (ySo tp (pt tp k)))) b3 k v) b1 b2' b3 tp (k + 1) ∧ CUF b1 b2' b3 S (wJ (wI (wI S1 b2' k (ii (tQ0 tp (pt tp k)))) b1 k (ii (ySo tp (pt tp k)))) b3 k v) := by
  refine ⟨fun j hj => ?_, hF.trans ⟨rfl, rfl, rfl, fun p p1 p2 => ?_, fun p p1 => ?_, rfl⟩⟩
  · have e1 : aI (wJ (wI (wI S1 b2' k (ii (tQ0 tp (pt tp k)))) b1 k (ii (ySo tp (pt tp k)))) b3 k v) b1 j = if j = k then ii (ySo tp (pt tp k)) else aI S1 b1 j := by
      rw [aI_wJ2, aI_wI_s, aI_wI_o _ _ _ _ hb]
    have e2 : aI (wJ (wI (wI S1 b2' k (ii (tQ0 tp (pt tp k)))) b1 k (ii (ySo tp (pt tp k)))) b3 k v) b2' j = if j = k then ii (tQ0 tp (pt tp k)) else aI S1 b2' j := by
      rw [aI_wJ2, aI_wI_o _ _ _ _ (Ne.symm hb), aI_wI_s]
    have e3 : aJ (wJ (wI (wI S1 b2' k (ii (tQ0 tp (pt tp k)))) b1 k (ii (ySo tp (pt tp k)))) b3 k v) b3 j = if j = k then v else aJ S1 b3 j := by
      rw [aJ_wJ_s]; rfl
    rw [e1, e2, e3]
    by_cases w : j = k
    · subst w; rw [if_pos rfl, if_pos rfl, if_pos rfl]; exact ⟨hlt, rfl, rfl, hv⟩
    · rw [if_neg w, if_neg w, if_neg w]; exact hT j (by omega)
  · rw [aI_wJ2, aI_wI_o _ _ _ _ p1, aI_wI_o _ _ _ _ p2]
  · rw [aJ_wJ_o _ _ _ _ p1]; rfl
theorem tQ0_ws {p : Nat} (h1 : p < tp.length) (h2 : isWs (chT tp p) = true) : tQ0 tp (p + 1) = tQ0 tp p := by
  unfold tQ0; rw [run_at isWs tp p, if_pos ⟨h1, h2⟩]; omega
theorem tQ0_nw {p : Nat} (h2 : ¬ isWs (chT tp p) = true) : tQ0 tp p = p := by
  unfold tQ0; rw [run_at isWs tp p, if_neg (fun r => h2 r.2)]; rfl
end YCUT2
end
section
section YCUT3
variable {N : Nat → Nat} {F : Nat} {S : HS} {m u b1 b2' b3 : Nat} {tp : List Nat}
theorem y_cutLoop (hF : 3000 ≤ F) (h : TPM N S m u tp) (hb : b1 ≠ b2') (hu1 : u ≠ b1) (hu2 : u ≠ b2') (r4 : gR S 1204 m = some b1) (r5 : gR S 1205 m = some b2') (r6 : gR S 1206 m = some b3) (n1 : N b1 = 1002) (n2 : N b2' = 1002) (n3 : N b3 = 1002) (cont : Nat → Int32 → HS → Option HS) : ∀ (d k p M : Nat) (S1 : HS), tp.length ≤ p + d → p ≤ tp.length → k ≤ p → d < M → tQ0 tp p = tQ0 tp (pt tp k) → CUF b1 b2' b3 S S1 → YTK S1 b1 b2' b3 tp k →
    ∃ (n : Nat) (S2 : HS), s_X12_cutAll_L17 N F cont M m (ii k) (ii p) S1 = cont m (ii n) S2 ∧ n ≤ tp.length ∧ tp.length ≤ tQ0 tp (pt tp n) ∧ CUF b1 b2' b3 S S2 ∧ YTK S2 b1 b2' b3 tp n := by
  have hlen := h.2.2.2.1
  intro d
  induction d with
  | zero =>
    intro k p M S1 hd hp hk hM hq hc hT
    obtain ⟨M, rfl⟩ : ∃ w, M = w + 1 := ⟨M - 1, by omega⟩
    have h1 := h.cu hc hu1 hu2
    unfold s_X12_cutAll_L17
    rw [h1.2.2.1, if_pos (by rw [ii_le (by omega) (by omega) (by omega) (by omega)]; omega)]
    have : p ≤ tQ0 tp p := by unfold tQ0; omega
    exact ⟨k, S1, rfl, by omega, by omega, hc, hT⟩
  | succ d ih =>
    intro k p M S1 hd hp hk hM hq hc hT
    obtain ⟨M, rfl⟩ : ∃ w, M = w + 1 := ⟨M - 1, by omega⟩
    have h1 := h.cu hc hu1 hu2
    by_cases he : p = tp.length
    · unfold s_X12_cutAll_L17
      rw [h1.2.2.1, if_pos (by rw [ii_le (by omega) (by omega) (by omega) (by omega)]; omega)]
      have : p ≤ tQ0 tp p := by unfold tQ0; omega
      exact ⟨k, S1, rfl, by omega, by omega, hc, hT⟩
    have hlt : p < tp.length := by omega
    have hcb := chT_b h.2.2.2.2.1 p
    have q10 : (ii (chT tp p : Int) = (10 : Int32)) = (chT tp p = 10) := by rw [k10, ii_eq (by omega) (by omega) (by omega) (by omega)]; apply propext; omega
    have q32 : (ii (chT tp p : Int) = (32 : Int32)) = (chT tp p = 32) := by rw [show (32 : Int32) = ii 32 from rfl, ii_eq (by omega) (by omega) (by omega) (by omega)]; apply propext; omega
    have ep : ii (p : Int) + Int32.ofInt 1 = ii ((p + 1 : Nat) : Int) := by rw [show Int32.ofInt 1 = ii 1 from rfl, ii_add]; rfl
    have ek : ii (k : Int) + Int32.ofInt 1 = ii ((k + 1 : Nat) : Int) := by rw [show Int32.ofInt 1 = ii 1 from rfl, ii_add]; rfl
    have ip : inB (ii (p : Int)) (N u) = true := by rw [h.2.1]; exact in_of (z := p) rfl (by omega) (by decide)
    have ik1 : inB (ii (k : Int)) (N b1) = true := by rw [n1]; exact in_of (z := k) rfl (by omega) (by decide)
    have ik2 : inB (ii (k : Int)) (N b2') = true := by rw [n2]; exact in_of (z := k) rfl (by omega) (by decide)
    have ik3 : inB (ii (k : Int)) (N b3) = true := by rw [n3]; exact in_of (z := k) rfl (by omega) (by decide)
    have clp := cl_of (x := ii (p : Int)) (z := p) rfl (by omega)
    have clk := cl_of (x := ii (k : Int)) (z := k) rfl (by omega)
    have blank : isWs (chT tp p) = true → ∃ (n : Nat) (S2 : HS), s_X12_cutAll_J44 N F (s_X12_cutAll_L17 N F cont M) m (ii k) (ii p) S1 = cont m (ii n) S2 ∧ n ≤ tp.length ∧ tp.length ≤ tQ0 tp (pt tp n) ∧ CUF b1 b2' b3 S S2 ∧ YTK S2 b1 b2' b3 tp n := by
      intro w
      unfold s_X12_cutAll_J44
      rw [bnd_def, ep]
      exact ih k (p + 1) M S1 (by omega) (by omega) (by omega) (by omega) (by rw [tQ0_ws hlt w]; exact hq) hc hT
    unfold s_X12_cutAll_L17
    rw [h1.2.2.1, if_neg (by rw [ii_le (by omega) (by omega) (by omega) (by omega)]; omega), h1.1, bd1_some, if_pos ip, bnd_def, clp, h1.ch hlt]
    simp only [q10, q32]
    by_cases w1 : chT tp p = 10
    · rw [if_pos w1]; exact blank (by unfold isWs; simp [w1])
    rw [if_neg w1]
    by_cases w2 : chT tp p = 32
    · rw [if_pos w2]; exact blank (by unfold isWs; simp [w2])
    rw [if_neg w2]
    have hnw : tQ0 tp p = p := tQ0_nw (by unfold isWs; simp [w1, w2])
    have hqk : tQ0 tp (pt tp k) = p := by rw [← hq]; exact hnw
    have hltk : tQ0 tp (pt tp k) < tp.length := by omega
    have g5 : gR S1 1205 m = some b2' := by rw [gR_of hc.2.2.1]; exact r5
    have hsg : s_X12_isSignOf (ii (chT tp p : Int)) (wI S1 b2' k (ii p)) = b2 (isSg (chT tp p)) := y_isSg ⟨chT tp p, hcb⟩
    have hC : tC tp (pt tp k) = chT tp p := by unfold tC; rw [hqk]
    have hWn : tW tp (pt tp k) = run isLt (tp.drop p) := by unfold tW; rw [hqk]
    have hDn : tD0 tp (pt tp k) = run isDg (tp.drop p) := by unfold tD0; rw [hqk]
    have hend : pt tp (k + 1) = tEnd tp (pt tp k) := rfl
    have hrl := run_le isLt (tp.drop p)
    have hrd := run_le isDg (tp.drop p)
    rw [List.length_drop] at hrl hrd
    -- how a token ends
    have fin : ∀ (v : Int64) (so e : Nat) (S3 : HS), S3 = wI S1 b2' k (ii p) → so = ySo tp (pt tp k) → (tWhat tp (pt tp k) ≠ 3 → v = jj (yVa tp (pt tp k))) → e = tEnd tp (pt tp k) → p < e → e ≤ tp.length →
        ∃ (n : Nat) (S2 : HS), s_X12_cutAll_J265 N F (s_X12_cutAll_L17 N F cont M) m (ii k) (ii e) v (wI S3 b1 k (ii so)) = cont m (ii n) S2 ∧ n ≤ tp.length ∧ tp.length ≤ tQ0 tp (pt tp n) ∧ CUF b1 b2' b3 S S2 ∧ YTK S2 b1 b2' b3 tp n := by
      intro v so e S3 hS3 hso hv hee hpe hel
      subst hS3 hso hee
      unfold s_X12_cutAll_J265
      have g6 : gR (wI (wI S1 b2' k (ii p)) b1 k (ii (ySo tp (pt tp k)))) 1206 m = some b3 := by show gR S1 1206 m = _; rw [gR_of hc.2.2.1]; exact r6
      obtain ⟨t1, t2⟩ := y_tok (S := S) (S1 := S1) hb hc hT hltk v hv
      rw [hqk] at t1 t2
      rw [g6, bd1_some, if_pos ik3, bnd_def, clk, bnd_def, ek]
      exact ih (k + 1) (tEnd tp (pt tp k)) M _ (by omega) hel (by omega) (by omega) (by rw [hend]) t2 t1
    have g4 : gR (wI S1 b2' k (ii p)) 1204 m = some b1 := by show gR S1 1204 m = _; rw [gR_of hc.2.2.1]; exact r4
    have h3 : TPM N (wI S1 b2' k (ii p)) m u tp := ⟨h1.1, h1.2.1, h1.2.2.1, h1.2.2.2.1, h1.2.2.2.2.1, fun i c hic => by rw [aI_wI_o _ _ _ _ hu2]; exact h1.2.2.2.2.2 i c hic⟩
    rw [g5, bd1_some, if_pos ik2, bnd_def, clk, y_isLt (by omega), y_isDg (by omega)]
    simp only [b2_0]
    have hnl : ¬ tp.length ≤ tQ0 tp (pt tp k) := by omega
    cases wl' : isLt (chT tp p)
    · rw [if_pos rfl]
      cases wd : isDg (chT tp p)
      · have ee : tEnd tp (pt tp k) = p + 1 := by unfold tEnd; rw [if_neg hnl, hC, wl', wd, if_neg (by decide), if_neg (by decide), hqk]
        rw [if_pos rfl, bnd_def, g4, bd1_some, hsg, ii_jj (by omega) (by omega)]
        simp only [b2_0]
        unfold s_X12_cutAll_J261
        cases ws : isSg (chT tp p)
        · have ew : tWhat tp (pt tp k) = 3 := by unfold tWhat; rw [if_neg hnl, hC, wl', wd, ws, if_neg (by decide), if_neg (by decide), if_neg (by decide)]
          rw [if_pos rfl, if_pos ik1, bnd_def, bnd_def, clk, ep]
          exact fin _ 4 (p + 1) _ rfl (by unfold ySo; rw [ew]; rfl) (fun r => absurd ew r) ee.symm (by omega) (by omega)
        · have hc40 : 40 ≤ chT tp p := by unfold isSg at ws; simp at ws; omega
          have ew : tWhat tp (pt tp k) = chT tp p := by unfold tWhat; rw [if_neg hnl, hC, wl', wd, ws, if_neg (by decide), if_neg (by decide), if_pos rfl]
          rw [if_neg tf, if_pos ik1, bnd_def, bnd_def, clk, ep]
          exact fin _ 3 (p + 1) _ rfl (by unfold ySo; rw [ew, if_neg (by omega), if_neg (by omega), if_neg (by omega)]) (fun r => by unfold yVa; rw [ew, if_neg (by omega), if_neg (by omega), hC]) ee.symm (by omega) (by omega)
      · have hd1 : 0 < run isDg (tp.drop p) := by rw [run_at, if_pos ⟨hlt, wd⟩]; omega
        have ee : tEnd tp (pt tp k) = p + run isDg (tp.drop p) := by unfold tEnd; rw [if_neg hnl, hC, wl', wd, if_neg (by decide), if_pos rfl, hqk, hDn]
        have ew : tWhat tp (pt tp k) = if 4 < run isDg (tp.drop p) then 3 else 2 := by unfold tWhat; rw [if_neg hnl, hC, wl', wd, if_neg (by decide), if_pos rfl, hDn]
        have lp := y_numLoop (N := N) (F := F) h3 (q := p) (by omega) (ii k) (s_X12_cutAll_J218 N F (s_X12_cutAll_L17 N F cont M)) (run isDg (tp.drop p)) 0 F (by omega) (by omega)
        have lp' : s_X12_cutAll_L159 N F (s_X12_cutAll_J218 N F (s_X12_cutAll_L17 N F cont M)) F m (ii k) (ii p) (ii p) 0 (wI S1 b2' k (ii p)) = _ := lp
        rw [if_neg tf, lp']
        unfold s_X12_cutAll_J218 s_X12_cutAll_J236
        have ed : ii ((p + run isDg (tp.drop p) : Nat) : Int) - ii (p : Int) = ii (run isDg (tp.drop p) : Nat) := by rw [ii_sub]; congr 1; omega
        have c4 : (ii (run isDg (tp.drop p) : Int) ≤ (4 : Int32)) = (run isDg (tp.drop p) ≤ 4) := by rw [k4, ii_le (by omega) (by omega) (by omega) (by omega)]; apply propext; omega
        rw [g4, bd1_some, ed]
        simp only [c4]
        by_cases w4 : run isDg (tp.drop p) ≤ 4
        · rw [if_neg (by omega)] at ew
          rw [if_pos w4, if_pos ik1, bnd_def, clk]
          exact fin _ 2 _ _ rfl (by unfold ySo; rw [ew]; rfl) (fun _ => by unfold yVa; rw [ew, if_neg (by decide), if_pos rfl, hqk, hDn, Nat.min_eq_left w4]) ee.symm (by omega) (by omega)
        · rw [if_pos (by omega)] at ew
          rw [if_neg w4, if_pos ik1, bnd_def, clk]
          exact fin _ 4 _ _ rfl (by unfold ySo; rw [ew]; rfl) (fun r => absurd ew r) ee.symm (by omega) (by omega)
    · have hd1 : 0 < run isLt (tp.drop p) := by rw [run_at, if_pos ⟨hlt, wl'⟩]; omega
      have ee : tEnd tp (pt tp k) = p + run isLt (tp.drop p) := by unfold tEnd; rw [if_neg hnl, hC, wl', if_pos rfl, hqk, hWn]
      have ew : tWhat tp (pt tp k) = if 8 < run isLt (tp.drop p) then 3 else 1 := by unfold tWhat; rw [if_neg hnl, hC, wl', if_pos rfl, hWn]
      have lp := y_wordLoop (N := N) (F := F) h3 (q := p) (by omega) (ii k) (s_X12_cutAll_J129 N F (s_X12_cutAll_L17 N F cont M)) (run isLt (tp.drop p)) 0 F (by omega) (by omega)
      have lp' : s_X12_cutAll_L70 N F (s_X12_cutAll_J129 N F (s_X12_cutAll_L17 N F cont M)) F m (ii k) (ii p) (ii p) 0 (wI S1 b2' k (ii p)) = _ := lp
      rw [if_neg tf, lp']
      unfold s_X12_cutAll_J129 s_X12_cutAll_J148
      have ed : ii ((p + run isLt (tp.drop p) : Nat) : Int) - ii (p : Int) = ii (run isLt (tp.drop p) : Nat) := by rw [ii_sub]; congr 1; omega
      have c8 : (ii (run isLt (tp.drop p) : Int) ≤ (8 : Int32)) = (run isLt (tp.drop p) ≤ 8) := by rw [k8, ii_le (by omega) (by omega) (by omega) (by omega)]; apply propext; omega
      rw [g4, bd1_some, ed]
      simp only [c8]
      by_cases w4 : run isLt (tp.drop p) ≤ 8
      · rw [if_neg (by omega)] at ew
        rw [if_pos w4, if_pos ik1, bnd_def, clk]
        exact fin _ 1 _ _ rfl (by unfold ySo; rw [ew]; rfl) (fun _ => by unfold yVa; rw [ew, if_pos rfl, hqk, hWn, Nat.min_eq_left w4]) ee.symm (by omega) (by omega)
      · rw [if_pos (by omega)] at ew
        rw [if_neg w4, if_pos ik1, bnd_def, clk]
        exact fin _ 4 _ _ rfl (by unfold ySo; rw [ew]; rfl) (fun r => absurd ew r) ee.symm (by omega) (by omega)
end YCUT3
end
