/-- the law's own row of one long: out -/
def wO (V : EV) (o : Nat) (f : Nat → Int64) : va_W := [(o, .inl (V.2.1 2, 1, .inr (.inl f)))]
def HO (V : EV) (o : Nat) (f : Nat → Int64) (H : Heap) : Prop := va_P V.1 vwCl (wO V o f) H
def AGo (G : GS) (o sz : Nat) : Nat → Prop := fun q => AG G sz q ∨ q = o
theorem ho_lt {V : EV} {o : Nat} {f : Nat → Int64} {H : Heap} (h : HO V o f H) : o < H.size := vx_lt h (k := 0) (q := (o, .inl (V.2.1 2, 1, .inr (.inl f)))) rfl
theorem hp_lt {V : EV} {G : GS} {S : HS} {H : Heap} (h : HP V G S H) {q : Nat} (hq : q ∈ G.1) : q < H.size := by
  obtain ⟨k, hk⟩ := mk_get (cy := V.2.1) (S := S) hq
  exact vx_lt h hk
theorem ho_kept {V : EV} {o : Nat} {f : Nat → Int64} {H H1 : Heap} (h : HO V o f H) (hk : H1[o]? = H[o]?) : HO V o f H1 := va_P.kept h (fun k q hq => by
  cases k with
  | zero => cases hq; exact hk
  | succ k => cases hq)
theorem hp_kept {V : EV} {G : GS} {S : HS} {H H1 : Heap} (h : HP V G S H) (hk : ∀ q, q ∈ G.1 → H1[q]? = H[q]?) : HP V G S H1 := va_P.kept h (fun k q hq => by
  unfold mkW va_pl at hq
  rw [List.getElem?_map] at hq
  cases hg : G.1[k]? with
  | none => rw [hg] at hq; cases hq
  | some a =>
    rw [hg] at hq; cases hq
    exact hk a (List.mem_of_getElem? hg))
/-- another world is left as it was -/
theorem hp_dis {V : EV} {G G2 : GS} {S2 : HS} {H H1 : Heap} (h : HP V G2 S2 H) (hk : ∀ q : Nat, q < H.size → ¬ AG G H.size q → H1[q]? = H[q]?) (hd : ∀ q, q ∈ G2.1 → q ∉ G.1) : HP V G2 S2 H1 :=
  hp_kept h (fun q hq => hk q (hp_lt h hq) (fun z => z.elim (hd q hq) (fun z => Nat.not_le.mpr (hp_lt h hq) z)))
theorem ho_dis {V : EV} {G : GS} {o : Nat} {f : Nat → Int64} {H H1 : Heap} (h : HO V o f H) (hk : ∀ q : Nat, q < H.size → ¬ AG G H.size q → H1[q]? = H[q]?) (hd : o ∉ G.1) : HO V o f H1 :=
  ho_kept h (hk o (ho_lt h) (fun z => z.elim hd (fun z => Nat.not_le.mpr (ho_lt h) z)))
def G00 : GS := ([], fun _ => 0, fun _ => 0)
theorem ag_00 {G : GS} {sz : Nat} (h : ∀ q, q ∈ G.1 → sz ≤ q) : AG G sz = AG G00 sz := by
  funext q
  apply propext
  exact ⟨fun z => z.elim (fun z => Or.inr (h q z)) Or.inr, fun z => z.elim (fun z => nomatch z) Or.inr⟩
section LAWR
variable {p : Program} {l : Launch} {e : Env} {R : Room} {s : State} {m : MethodId} {args : Array Value} {below : List Frame} {meth : Method} {c : Code} {H : Heap} {locs : List Loc} {cells slots : Nat} {Q : State → Prop}
variable {own : String} {cc : ByteArray} {nL : Nat} {ret : Option FieldType} {V : EV} {G : GS} {S S1 : HS} {pc : Nat} {ls : Array Slot} {rest st : List Value} {av : Array Value} {mc ms : Nat}
theorem cx_w (C : CX p s m args meth c own cc nL ret V G00) (hN : G.1.Nodup) (h : ∀ q, q ∈ G.1 → s.heap.size ≤ q) : CX p s m args meth c own cc nL ret V G := by
  obtain ⟨c1, c2, c3, c4, c5, c6, c7, c8, c9, c10, c11⟩ := C
  exact ⟨c1, c2, c3, c4, c5, c6, c7, c8, by rw [ag_00 h]; exact c9, hN, c11⟩
/-- behind a call: the callee's world, and that all else is as before -/
theorem z_aft_i {r : Int32} (hA : AG G s.heap.size = AG G00 s.heap.size) (hr : va_Run p l e R s m args below meth c H locs cells slots 0 0 (F0 m pc ls st) rest (QI V G S1 r H.size av) (AG G H.size)) (hS : va_S (AG G00 s.heap.size) s.heap H locs)
    (kk : ∀ (H1 : Heap) (locs1 : List Loc), HP V G S1 H1 → va_S (AG G00 s.heap.size) s.heap H1 locs1 → WT G S1 → (∀ q : Nat, q < H.size → ¬ AG G H.size q → H1[q]? = H[q]?) → W p l e R s m args below meth c H1 locs1 cells slots Q (F0 m (pc + 3) ls (.int r :: rest))) : W p l e R s m args below meth c H locs cells slots Q (F0 m pc ls st) := by
  rw [← hA] at hS
  exact va_calli hr hS (fun q _ h => ag_in hS q h) (fun q h => ag_in hS q h) (fun r' u t H1 locs1 ht _ hp hB _ hk hS1 => by subst hp; exact kk H1 locs1 (by rw [← ht]; exact hB.1) (by rw [← hA]; exact hS1) hB.2 hk)
theorem z_aft_z {r : Int32} (hA : AG G s.heap.size = AG G00 s.heap.size) (hr : va_Run p l e R s m args below meth c H locs cells slots 0 0 (F0 m pc ls st) rest (QZ V G S1 r H.size av) (AG G H.size)) (hS : va_S (AG G00 s.heap.size) s.heap H locs)
    (kk : ∀ (H1 : Heap) (locs1 : List Loc), HP V G S1 H1 → va_S (AG G00 s.heap.size) s.heap H1 locs1 → WT G S1 → (∀ q : Nat, q < H.size → ¬ AG G H.size q → H1[q]? = H[q]?) → W p l e R s m args below meth c H1 locs1 cells slots Q (F0 m (pc + 3) ls (.int r :: rest))) : W p l e R s m args below meth c H locs cells slots Q (F0 m pc ls st) := by
  rw [← hA] at hS
  exact va_calli hr hS (fun q _ h => ag_in hS q h) (fun q h => ag_in hS q h) (fun r' u t H1 locs1 ht _ hp hB _ hk hS1 => by obtain ⟨rfl, -⟩ := hp; exact kk H1 locs1 (by rw [← ht]; exact hB.1) (by rw [← hA]; exact hS1) hB.2 hk)
theorem z_aft_iw {P : Int32 → GS → HS → Prop} (hA : AG G s.heap.size = AG G00 s.heap.size) (hr : va_Run p l e R s m args below meth c H locs cells slots mc ms (F0 m pc ls st) rest (QIW V G H.size P av) (AG G H.size)) (hS : va_S (AG G00 s.heap.size) s.heap H locs)
    (kk : ∀ (r : Int32) (G1 : GS) (S1 : HS) (H1 : Heap) (locs1 : List Loc), P r G1 S1 → GX G H.size G1 → HP V G1 S1 H1 → va_S (AG G00 s.heap.size) s.heap H1 locs1 → WT G1 S1 → (∀ q : Nat, q < H.size → ¬ AG G H.size q → H1[q]? = H[q]?) → W p l e R s m args below meth c H1 locs1 (cells + mc) (slots + ms) Q (F0 m (pc + 3) ls (.int r :: rest))) : W p l e R s m args below meth c H locs cells slots Q (F0 m pc ls st) := by
  rw [← hA] at hS
  exact va_calli hr hS (fun q _ h => ag_in hS q h) (fun q h => ag_in hS q h) (fun r u t H1 locs1 ht _ hp hB _ hk hS1 => kk r u.1 u.2 H1 locs1 hp hB.2.2 (by rw [← ht]; exact hB.1) (by rw [← hA]; exact hS1) hB.2.1 hk)
theorem z_aft_vw {P : GS → HS → Prop} (hA : AG G s.heap.size = AG G00 s.heap.size) (hr : va_Run p l e R s m args below meth c H locs cells slots mc ms (F0 m pc ls st) rest (QVW V G H.size P av) (AG G H.size)) (hS : va_S (AG G00 s.heap.size) s.heap H locs)
    (kk : ∀ (G1 : GS) (S1 : HS) (H1 : Heap) (locs1 : List Loc), P G1 S1 → GX G H.size G1 → HP V G1 S1 H1 → va_S (AG G00 s.heap.size) s.heap H1 locs1 → WT G1 S1 → (∀ q : Nat, q < H.size → ¬ AG G H.size q → H1[q]? = H[q]?) → W p l e R s m args below meth c H1 locs1 (cells + mc) (slots + ms) Q (F0 m (pc + 3) ls rest)) : W p l e R s m args below meth c H locs cells slots Q (F0 m pc ls st) := by
  rw [← hA] at hS
  exact va_callv hr hS (fun q _ h => ag_in hS q h) (fun q h => ag_in hS q h) (fun u t H1 locs1 ht _ hp hB _ hk hS1 => kk u.1 u.2 H1 locs1 hp hB.2.2 (by rw [← ht]; exact hB.1) (by rw [← hA]; exact hS1) hB.2.1 hk)
end LAWR
-- the law's own gap and whole
def PREg (V : EV) (G : GS) (S : HS) (o : Nat) (f : Nat → Int64) (sz : Nat) (av : List Value) : Array Value → State → Prop :=
  va_Pc av (fun U => U.heap.size = sz ∧ HP V G S U.heap ∧ HO V o f U.heap ∧ va_K V.1 vwCl (tyl V.2.1) U ∧ STR V (AGo G o sz) U U.heap ∧ NX U)
theorem preg_blind {V : EV} {G : GS} {S : HS} {o : Nat} {f : Nat → Int64} {sz : Nat} {av : List Value} : FrameBlind (PREg V G S o f sz av) := by
  intro a U g mk q
  obtain ⟨q0, q1, qP, qO, qK, qS⟩ := q
  exact ⟨q0, q1, qP, qO, va_K.moved (u := U) (U := U.calling g mk a) (Vm.Alike.refl U.vm) qK, str_moved (u := U) (U := U.calling g mk a) (Vm.Alike.refl U.vm) (fun x hx => vk_R.same (u := U) (U := U.calling g mk a) rfl (qS.1.1.2 x hx)) qS.1, nx_same (u := U) (U := U.calling g mk a) rfl qS.2⟩
abbrev QG (V : EV) (G : GS) (S : HS) (o : Nat) (w : Option Int32) (sz : Nat) : Array Value → State → Outcome → State → Prop := va_Qi (fun r (g : Nat → Int64) => r = b2 (!w.isSome) ∧ ∀ v, w = some v → g 0 = v.toInt64) (fun g t => PST V G S t ∧ HO V o g t.heap) (AGo G o sz)
abbrev hhg : List (Nat × Nat × Nat × Nat) := [(0, 12, 15, 13)]
abbrev hhw : List (Nat × Nat × Nat × Nat) := [(0, 9, 12, 13)]
def MetG (l : Launch) (y : MethodName) (cc : ByteArray) (nL : Nat) (hh : List (Nat × Nat × Nat × Nat)) (fr lo : Nat) (V : EV) (G : GS) (S : HS) (o : Nat) (f : Nat → Int64) (av : List Value) (w : Option Int32) (S1 : HS) : Prop :=
  ∀ sz, vx_Met l y (.codeWith y cc nL (some .int) hh :: TB) (RMX fr lo) (PREg V G S o f sz av) (QG V G S1 o w sz) (vx_X (fun (_ : Unit) => False) (fun _ _ _ => False) (fun _ => False)) 1 6 (AGo G o sz)
theorem ns_cast : Cond.castable NSE NSE ∈ DB := db_mem (by decide +kernel) (by decide +kernel)
