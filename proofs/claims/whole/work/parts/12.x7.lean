def SCi (xs : Nat → Int32) (i k : Int32) : Int32 := xs (i + k).toNatClampNeg
def SCl (xs : Nat → Int32) (i k k2 : Int32) : Int64 := ((SCi xs i k).toInt64 <<< ((32 : Int32).toInt64 &&& 63)) ||| ((SCi xs i k2).toInt64 &&& 4294967295)
/-- the law's heap with n calls behind it -/
def INV (V : EV) (sz x y o n : Nat) (H : Heap) : Prop := ∃ (GX GM : GS) (SX SM : HS) (A B : Nat → Nat) (f : Nat → Int64), SIM GX.2.2 GM.2.2 SX SM x y A B n ∧ HP V GX SX H ∧ HP V GM SM H ∧ HO V o f H ∧ WT GX SX ∧ WT GM SM ∧ (x ∈ GX.1 ∧ GX.2.1 x = 11) ∧ (y ∈ GM.1 ∧ GM.2.1 y = 12) ∧ GX.1.Nodup ∧ GM.1.Nodup ∧ (∀ q, q ∈ GX.1 → sz ≤ q ∧ q ∉ GM.1) ∧ (∀ q, q ∈ GM.1 → sz ≤ q) ∧ o ∉ GX.1 ∧ o ∉ GM.1 ∧ sz ≤ o
abbrev LL (b x y o : Nat) (i : Int32) : List (Nat × Value) := [(0, .ref b), (1, .ref x), (2, .ref y), (3, .ref o), (4, .int i)]
def LCX (p : Program) (s : State) (m : MethodId) (args : Array Value) (meth : Method) (c : Code) (V : EV) (b L : Nat) (xs : Nat → Int32) (i : Int32) (n cells slots : Nat) : Prop :=
  CX p s m args meth c RL cL_law 7 ret V G00 ∧ va_X b L xs s s.heap ∧ b < s.heap.size ∧ n < 512 ∧ (∀ k : Int32, 0 ≤ k.toInt → k.toInt ≤ 6 → vp_in (i + k) L) ∧ cells + 1003 ≤ room_1.cells ∧ slots + 8018 ≤ room_1.slots
/-- behind the case: the loop goes on -/
def KK (p : Program) (l : Launch) (e : Env) (s : State) (m : MethodId) (args : Array Value) (below : List Frame) (meth : Method) (c : Code) (Q : State → Prop) (V : EV) (x y o b : Nat) (i : Int32) (n cells slots : Nat) : Prop :=
  ∀ (H1 : Heap) (locs1 : List Loc) (ls1 : Array Slot) (cells1 slots1 : Nat), INV V s.heap.size x y o (n + 1) H1 → va_S (AG G00 s.heap.size) s.heap H1 locs1 → lv_has ls1 7 (LL b x y o i) → cells1 ≤ cells + 1003 → slots1 ≤ slots + 8018 → W p l e room_1 s m args below meth c H1 locs1 cells1 slots1 Q (F0 m 2429 ls1 [])
theorem lg_self (a : Int64) : lg_cmp a a = 0 := by unfold lg_cmp; simp
