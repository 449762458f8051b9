abbrev QZ (V : EV) (G : GS) (S : HS) (r : Int32) (sz : Nat) : Array Value → State → Outcome → State → Prop := va_Qi (fun r' (_ : Unit) => r' = r ∧ isZ r = true) (fun _ t => PST V G S t) (AG G sz)
abbrev QR (kd : Nat) (V : EV) (G : GS) (S : HS) (r : Option Nat) (sz : Nat) : Array Value → State → Outcome → State → Prop := va_Qq (fun r' (_ : Unit) => r' = r ∧ ∀ t, r = some t → t ∈ G.1 ∧ G.2.1 t = kd) (fun _ t => PST V G S t) (AG G sz)
def MetZ (l : Launch) (y : MethodName) (cc : ByteArray) (nL : Nat) (fr lo : Nat) (V : EV) (G : GS) (S : HS) (av : List Value) (r : Int32) (S1 : HS) : Prop :=
  ∀ sz, Met l y (.code y cc nL (some .boolean) :: TB) (RM fr lo) (PRE V G S sz av) (QZ V G S1 r sz) 0 0 (AG G sz)
def MetR (kd : Nat) (l : Launch) (y : MethodName) (cc : ByteArray) (nL : Nat) (ty : FieldType) (fr lo : Nat) (V : EV) (G : GS) (S : HS) (av : List Value) (r : Option Nat) (S1 : HS) : Prop :=
  ∀ sz, Met l y (.code y cc nL (some ty) :: TB) (RM fr lo) (PRE V G S sz av) (QR kd V G S1 r sz) 0 0 (AG G sz)
def mq {β : Type} (o : Option Nat) (a : β) (k : Nat → β) : β := match o with
  | none => a
  | some t => k t
theorem mq_n {β : Type} {o : Option Nat} {a x : β} {k : Nat → β} (h : o = none) (hf : mq o a k = x) : a = x := by subst h; exact hf
theorem mq_s {β : Type} {o : Option Nat} {a x : β} {k : Nat → β} {t : Nat} (h : o = some t) (hf : mq o a k = x) : k t = x := by subst h; exact hf
theorem isZ_0 : isZ 0 = true := by decide
theorem isZ_1 : isZ 1 = true := by decide
theorem sw_out {x : Int32} {lo hi : Int} (h : ∀ k : Int, lo ≤ k → k ≤ hi → x ≠ Int32.ofInt k) : x.toInt < lo ∨ hi < x.toInt := by
  by_cases h1 : x.toInt < lo
  · exact Or.inl h1
  · by_cases h2 : hi < x.toInt
    · exact Or.inr h2
    · exact absurd (Int32.ofInt_toInt x).symm (h _ (by omega) (by omega))
def sLen (k : Nat) : Int32 := Int32.ofNat (slen.getD k 0)
def sChr (k : Nat) (i : Int32) : Option Int32 := if inB i (slen.getD k 0) = true then some ((sbyt.getD k []).getD i.toNatClampNeg 0) else none
def sIdxF (c : Int32) : List Int32 → Nat → Int32
  | [], _ => -1
  | b :: l, k => if b = c then Int32.ofNat k else sIdxF c l (k + 1)
def sIdx (k : Nat) (c : Int32) : Int32 := sIdxF c (sbyt.getD k []) 0
section ROWS3
variable {p : Program} {l : Launch} {e : Env} {R : Room} {s : State} {m : MethodId} {args : Array Value} {below : List Frame} {meth : Method} {c : Code} {H : Heap} {locs : List Loc} {cells slots : Nat} {Q : State → Prop}
variable {own : String} {cc : ByteArray} {nL : Nat} {ret : Option FieldType} {V : EV} {G : GS} {S S1 : HS} {pc : Nat} {ls : Array Slot} {rest : List Value} {a ci k f N idx : Nat} {st : List Value}
theorem x_retZ (C : CX p s m args meth c own cc nL (some .boolean) V G) (hP : HP V G S H) (hS : va_S (AG G s.heap.size) s.heap H locs) (hW : WT G S) {v : Int32} (hz : isZ v = true) (hdg : decode cc pc = .ok (.ireturn, 1)) : W p l e R s m args below meth c H locs cells slots (MQ below (QZ V G S v s.heap.size) args s cells slots (AG G s.heap.size)) (F0 m pc ls [.int v]) :=
  W.zret C.1 C.2.1 C.2.2.1 (isZ_n hz).1 (fun t ht hw => ⟨⟨v, (), rfl, ⟨rfl, hz⟩, by rw [ht]; exact hP, hW⟩, hS.F ht⟩) hS.2.2 hdg C.2.2.2.2.2.2.2.1
theorem x_retr {kd : Nat} {n : String} (C : CX p s m args meth c own cc nL (some (.object n)) V G) (hP : HP V G S H) (hS : va_S (AG G s.heap.size) s.heap H locs) (hW : WT G S) {v : Option Nat} {w : Value} (hw : w = va_rf v) (hv : ∀ t, v = some t → t ∈ G.1 ∧ G.2.1 t = kd) (hdg : decode cc pc = .ok (.areturn, 1)) : W p l e R s m args below meth c H locs cells slots (MQ below (QR kd V G S v s.heap.size) args s cells slots (AG G s.heap.size)) (F0 m pc ls [w]) := by
  subst hw
  exact W.aret C.1 C.2.1 C.2.2.1 (Or.inl ⟨n, rfl⟩) (by cases v <;> simp [va_rf]) (fun t ht hw => ⟨⟨v, (), rfl, ⟨rfl, hv⟩, by rw [ht]; exact hP, hW⟩, hS.F ht⟩) hS.2.2 hdg C.2.2.2.2.2.2.2.1
theorem x_aft_z {r : Int32} {av : Array Value} (hr : va_Run p l e R s m args below meth c H locs cells slots 0 0 (F0 m pc ls st) rest (QZ V G S1 r H.size av) (AG G H.size)) (hS : va_S (AG G s.heap.size) s.heap H locs)
    (kk : ∀ (H1 : Heap) (locs1 : List Loc), HP V G S1 H1 → va_S (AG G s.heap.size) s.heap H1 locs1 → WT G S1 → isZ r = true → W p l e R s m args below meth c H1 locs1 cells slots Q (F0 m (pc + 3) ls (.int r :: rest))) : W p l e R s m args below meth c H locs cells slots Q (F0 m pc ls st) :=
  va_calli hr hS (fun q _ h => ag_in hS q h) (fun q h => ag_in hS q h) (fun r' u t H1 locs1 ht _ hp hB _ _ hS1 => by obtain ⟨rfl, hz⟩ := hp; exact kk H1 locs1 (by rw [← ht]; exact hB.1) hS1 hB.2 hz)
theorem x_aft_r {kd : Nat} {r : Option Nat} {av : Array Value} (hr : va_Run p l e R s m args below meth c H locs cells slots 0 0 (F0 m pc ls st) rest (QR kd V G S1 r H.size av) (AG G H.size)) (hS : va_S (AG G s.heap.size) s.heap H locs)
    (kk : ∀ (H1 : Heap) (locs1 : List Loc), HP V G S1 H1 → va_S (AG G s.heap.size) s.heap H1 locs1 → WT G S1 → (∀ t, r = some t → t ∈ G.1 ∧ G.2.1 t = kd) → W p l e R s m args below meth c H1 locs1 cells slots Q (F0 m (pc + 3) ls (va_rf r :: rest))) : W p l e R s m args below meth c H locs cells slots Q (F0 m pc ls st) :=
  va_callq hr hS (fun q _ h => ag_in hS q h) (fun q h => ag_in hS q h) (fun r' u t H1 locs1 ht _ hp hB _ _ hS1 => by obtain ⟨rfl, hz⟩ := hp; exact kk H1 locs1 (by rw [← ht]; exact hB.1) hS1 hB.2 hz)
theorem x_strlen {w : Nat} (C : CX p s m args meth c own cc nL ret V G) (hP : HP V G S H) (hS : va_S (AG G s.heap.size) s.heap H locs) (hW : WT G S) (hw : w < nSC) (hl : LKM own idx yJ0_length_8abf5) (hR : 11 ≤ R.frames ∧ 400 ≤ R.locals) (hsize : ls.size = nL) (hst : st = .ref (V.2.2.1 w) :: rest) (hrest : (rest.map fun v => v.category).sum ≤ 8) (hf : cells ≤ R.cells ∧ slots ≤ R.slots) (hdg : decode cc pc = .ok (.invokevirtual idx, 3))
    (kk : ∀ (H1 : Heap) (locs1 : List Loc), HP V G S H1 → va_S (AG G s.heap.size) s.heap H1 locs1 → WT G S → W p l e R s m args below meth c H1 locs1 cells slots Q (F0 m (pc + 3) ls (.int (sLen w) :: rest))) : W p l e R s m args below meth c H locs cells slots Q (F0 m pc ls st) := by
  sorry
theorem x_charAt {w : Nat} {i r : Int32} (C : CX p s m args meth c own cc nL ret V G) (hP : HP V G S H) (hS : va_S (AG G s.heap.size) s.heap H locs) (hW : WT G S) (hw : w < nSC) (he : sChr w i = some r) (hl : LKM own idx yJ0_charAt_5068e) (hR : 11 ≤ R.frames ∧ 400 ≤ R.locals) (hsize : ls.size = nL) (hst : st = .int i :: .ref (V.2.2.1 w) :: rest) (hrest : (rest.map fun v => v.category).sum ≤ 8) (hf : cells ≤ R.cells ∧ slots ≤ R.slots) (hdg : decode cc pc = .ok (.invokevirtual idx, 3))
    (kk : ∀ (H1 : Heap) (locs1 : List Loc), HP V G S H1 → va_S (AG G s.heap.size) s.heap H1 locs1 → WT G S → W p l e R s m args below meth c H1 locs1 cells slots Q (F0 m (pc + 3) ls (.int r :: rest))) : W p l e R s m args below meth c H locs cells slots Q (F0 m pc ls st) := by
  sorry
theorem x_indexOf {w : Nat} {i : Int32} (C : CX p s m args meth c own cc nL ret V G) (hP : HP V G S H) (hS : va_S (AG G s.heap.size) s.heap H locs) (hW : WT G S) (hw : w < nSC) (hl : LKM own idx yJ0_indexOf_0f7a4) (hR : 11 ≤ R.frames ∧ 400 ≤ R.locals) (hsize : ls.size = nL) (hst : st = .int i :: .ref (V.2.2.1 w) :: rest) (hrest : (rest.map fun v => v.category).sum ≤ 8) (hf : cells ≤ R.cells ∧ slots ≤ R.slots) (hdg : decode cc pc = .ok (.invokevirtual idx, 3))
    (kk : ∀ (H1 : Heap) (locs1 : List Loc), HP V G S H1 → va_S (AG G s.heap.size) s.heap H1 locs1 → WT G S → W p l e R s m args below meth c H1 locs1 cells slots Q (F0 m (pc + 3) ls (.int (sIdx w i) :: rest))) : W p l e R s m args below meth c H locs cells slots Q (F0 m pc ls st) := by
  sorry
end ROWS3
theorem kc_bipush_m2 : (Int8.ofInt (-2)).toInt32 = (-2) := by decide +kernel
theorem kc_bipush_6 : (Int8.ofInt 6).toInt32 = 6 := by decide +kernel
theorem kc_bipush_7 : (Int8.ofInt 7).toInt32 = 7 := by decide +kernel
theorem kc_bipush_8 : (Int8.ofInt 8).toInt32 = 8 := by decide +kernel
theorem kc_bipush_9 : (Int8.ofInt 9).toInt32 = 9 := by decide +kernel
theorem kc_bipush_10 : (Int8.ofInt 10).toInt32 = 10 := by decide +kernel
theorem kc_bipush_11 : (Int8.ofInt 11).toInt32 = 11 := by decide +kernel
theorem kc_bipush_12 : (Int8.ofInt 12).toInt32 = 12 := by decide +kernel
theorem kc_bipush_13 : (Int8.ofInt 13).toInt32 = 13 := by decide +kernel
theorem kc_bipush_14 : (Int8.ofInt 14).toInt32 = 14 := by decide +kernel
theorem kc_bipush_15 : (Int8.ofInt 15).toInt32 = 15 := by decide +kernel
theorem kc_bipush_16 : (Int8.ofInt 16).toInt32 = 16 := by decide +kernel
theorem kc_bipush_17 : (Int8.ofInt 17).toInt32 = 17 := by decide +kernel
theorem kc_bipush_18 : (Int8.ofInt 18).toInt32 = 18 := by decide +kernel
theorem kc_bipush_21 : (Int8.ofInt 21).toInt32 = 21 := by decide +kernel
theorem kc_bipush_27 : (Int8.ofInt 27).toInt32 = 27 := by decide +kernel
theorem kc_bipush_28 : (Int8.ofInt 28).toInt32 = 28 := by decide +kernel
theorem kc_bipush_30 : (Int8.ofInt 30).toInt32 = 30 := by decide +kernel
theorem kc_bipush_32 : (Int8.ofInt 32).toInt32 = 32 := by decide +kernel
theorem kc_bipush_40 : (Int8.ofInt 40).toInt32 = 40 := by decide +kernel
theorem kc_bipush_41 : (Int8.ofInt 41).toInt32 = 41 := by decide +kernel
theorem kc_bipush_42 : (Int8.ofInt 42).toInt32 = 42 := by decide +kernel
theorem kc_bipush_43 : (Int8.ofInt 43).toInt32 = 43 := by decide +kernel
theorem kc_bipush_45 : (Int8.ofInt 45).toInt32 = 45 := by decide +kernel
theorem kc_bipush_48 : (Int8.ofInt 48).toInt32 = 48 := by decide +kernel
theorem kc_bipush_56 : (Int8.ofInt 56).toInt32 = 56 := by decide +kernel
theorem kc_bipush_57 : (Int8.ofInt 57).toInt32 = 57 := by decide +kernel
theorem kc_bipush_59 : (Int8.ofInt 59).toInt32 = 59 := by decide +kernel
theorem kc_bipush_60 : (Int8.ofInt 60).toInt32 = 60 := by decide +kernel
theorem kc_bipush_61 : (Int8.ofInt 61).toInt32 = 61 := by decide +kernel
theorem kc_bipush_62 : (Int8.ofInt 62).toInt32 = 62 := by decide +kernel
theorem kc_bipush_63 : (Int8.ofInt 63).toInt32 = 63 := by decide +kernel
theorem kc_bipush_64 : (Int8.ofInt 64).toInt32 = 64 := by decide +kernel
theorem kc_bipush_96 : (Int8.ofInt 96).toInt32 = 96 := by decide +kernel
theorem kc_bipush_97 : (Int8.ofInt 97).toInt32 = 97 := by decide +kernel
theorem kc_bipush_99 : (Int8.ofInt 99).toInt32 = 99 := by decide +kernel
theorem kc_bipush_122 : (Int8.ofInt 122).toInt32 = 122 := by decide +kernel
theorem kc_bipush_126 : (Int8.ofInt 126).toInt32 = 126 := by decide +kernel
theorem kc_sipush_m400 : (Int16.ofInt (-400)).toInt32 = (-400) := by decide +kernel
theorem kc_sipush_155 : (Int16.ofInt 155).toInt32 = 155 := by decide +kernel
theorem kc_sipush_255 : (Int16.ofInt 255).toInt32 = 255 := by decide +kernel
theorem kc_sipush_400 : (Int16.ofInt 400).toInt32 = 400 := by decide +kernel
theorem kc_sipush_512 : (Int16.ofInt 512).toInt32 = 512 := by decide +kernel
theorem kc_sipush_588 : (Int16.ofInt 588).toInt32 = 588 := by decide +kernel
theorem kc_sipush_589 : (Int16.ofInt 589).toInt32 = 589 := by decide +kernel
theorem kc_sipush_590 : (Int16.ofInt 590).toInt32 = 590 := by decide +kernel
theorem kc_sipush_592 : (Int16.ofInt 592).toInt32 = 592 := by decide +kernel
theorem kc_sipush_1000 : (Int16.ofInt 1000).toInt32 = 1000 := by decide +kernel
theorem kc_sipush_1100 : (Int16.ofInt 1100).toInt32 = 1100 := by decide +kernel
theorem kc_sipush_9999 : (Int16.ofInt 9999).toInt32 = 9999 := by decide +kernel
theorem qmath_X0_88 {p : Program} {s : State} {m : MethodId} {args : Array Value} {meth : Method} {c : Code} {cc : ByteArray} {nL : Nat} {ret : Option FieldType} {V : EV} {G : GS} (C : CX p s m args meth c RX0 cc nL ret V G) : (Cond.methodLink RX0 88 Lib.Math.max.name).before args s = true := by
  rcases qm_X0_88 with h | ⟨_, h⟩
  · exact C.2.2.2.2.2.1 _ h
  · exact absurd h (by decide +kernel)
theorem qmath_X1_50 {p : Program} {s : State} {m : MethodId} {args : Array Value} {meth : Method} {c : Code} {cc : ByteArray} {nL : Nat} {ret : Option FieldType} {V : EV} {G : GS} (C : CX p s m args meth c RX1 cc nL ret V G) : (Cond.methodLink RX1 50 Lib.Math.min.name).before args s = true := by
  rcases qm_X1_50 with h | ⟨_, h⟩
  · exact C.2.2.2.2.2.1 _ h
  · exact absurd h (by decide +kernel)
theorem qmath_X1_56 {p : Program} {s : State} {m : MethodId} {args : Array Value} {meth : Method} {c : Code} {cc : ByteArray} {nL : Nat} {ret : Option FieldType} {V : EV} {G : GS} (C : CX p s m args meth c RX1 cc nL ret V G) : (Cond.methodLink RX1 56 Lib.Math.max.name).before args s = true := by
  rcases qm_X1_56 with h | ⟨_, h⟩
  · exact C.2.2.2.2.2.1 _ h
  · exact absurd h (by decide +kernel)
theorem qmath_X11_281 {p : Program} {s : State} {m : MethodId} {args : Array Value} {meth : Method} {c : Code} {cc : ByteArray} {nL : Nat} {ret : Option FieldType} {V : EV} {G : GS} (C : CX p s m args meth c RX11 cc nL ret V G) : (Cond.methodLink RX11 281 Lib.Math.abs.name).before args s = true := by
  rcases qm_X11_281 with h | ⟨_, h⟩
  · exact C.2.2.2.2.2.1 _ h
  · exact absurd h (by decide +kernel)
theorem qmath_X2_59 {p : Program} {s : State} {m : MethodId} {args : Array Value} {meth : Method} {c : Code} {cc : ByteArray} {nL : Nat} {ret : Option FieldType} {V : EV} {G : GS} (C : CX p s m args meth c RX2 cc nL ret V G) : (Cond.methodLink RX2 59 Lib.Math.max.name).before args s = true := by
  rcases qm_X2_59 with h | ⟨_, h⟩
  · exact C.2.2.2.2.2.1 _ h
  · exact absurd h (by decide +kernel)
theorem qmath_X4_33 {p : Program} {s : State} {m : MethodId} {args : Array Value} {meth : Method} {c : Code} {cc : ByteArray} {nL : Nat} {ret : Option FieldType} {V : EV} {G : GS} (C : CX p s m args meth c RX4 cc nL ret V G) : (Cond.methodLink RX4 33 Lib.Math.min.name).before args s = true := by
  rcases qm_X4_33 with h | ⟨_, h⟩
  · exact C.2.2.2.2.2.1 _ h
  · exact absurd h (by decide +kernel)
