abbrev QZ (V : EV) (G : GS) (S : HS) (r : Int32) (sz : Nat) : Array Value → State → Outcome → State → Prop := va_Qi (fun r' (_ : Unit) => r' = r ∧ isZ r = true) (fun _ t => PST V G S t) (AG G sz)
abbrev QR (kd : Nat) (V : EV) (G : GS) (S : HS) (r : Option Nat) (sz : Nat) : Array Value → State → Outcome → State → Prop := va_Qq (fun r' (_ : Unit) => r' = r ∧ ∀ t, r = some t → t ∈ G.1 ∧ G.2.1 t = kd) (fun _ t => PST V G S t) (AG G sz)
def MetZ (l : Launch) (y : MethodName) (cc : ByteArray) (nL : Nat) (fr lo : Nat) (V : EV) (G : GS) (S : HS) (av : List Value) (r : Int32) (S1 : HS) : Prop :=
  ∀ sz, Met l y (.code y cc nL (some .boolean) :: TB) (RM fr lo) (PRE V G S sz av) (QZ V G S1 r sz) 0 0 (AG G sz)
def MetR (kd : Nat) (l : Launch) (y : MethodName) (cc : ByteArray) (nL : Nat) (ty : FieldType) (fr lo : Nat) (V : EV) (G : GS) (S : HS) (av : List Value) (r : Option Nat) (S1 : HS) : Prop :=
  ∀ sz, Met l y (.code y cc nL (some ty) :: TB) (RM fr lo) (PRE V G S sz av) (QR kd V G S1 r sz) 0 0 (AG G sz)
def mq {β : Type} (o : Option Nat) (a : β) (k : Nat → β) : β := match o with
  | none => a
  | some t => k t
theorem mq_n {β : Type} {o : Option Nat} {a x : β} {k : Nat → β} (h : o = none) (hf : mq o a k = x) : a = x := by subst h; exact hf
theorem mq_s {β : Type} {o : Option Nat} {a x : β} {k : Nat → β} {t : Nat} (h : o = some t) (hf : mq o a k = x) : k t = x := by subst h; exact hf
theorem isZ_0 : isZ 0 = true := by decide
theorem isZ_1 : isZ 1 = true := by decide
theorem sw_out {x : Int32} {lo hi : Int} (h : ∀ k : Int, lo ≤ k → k ≤ hi → x ≠ Int32.ofInt k) : x.toInt < lo ∨ hi < x.toInt := by
  by_cases h1 : x.toInt < lo
  · exact Or.inl h1
  · by_cases h2 : hi < x.toInt
    · exact Or.inr h2
    · exact absurd (Int32.ofInt_toInt x).symm (h _ (by omega) (by omega))
def sLen (k : Nat) : Int32 := Int32.ofNat (slen.getD k 0)
def sChr (k : Nat) (i : Int32) : Option Int32 := if inB i (slen.getD k 0) = true then some ((sbyt.getD k []).getD i.toNatClampNeg 0) else none
def sIdxF (c : Int32) : List Int32 → Nat → Int32
  | [], _ => -1
  | b :: l, k => if b = c then Int32.ofNat k else sIdxF c l (k + 1)
def sIdx (k : Nat) (c : Int32) : Int32 := sIdxF c (sbyt.getD k []) 0
section ROWS3
variable {p : Program} {l : Launch} {e : Env} {R : Room} {s : State} {m : MethodId} {args : Array Value} {below : List Frame} {meth : Method} {c : Code} {H : Heap} {locs : List Loc} {cells slots : Nat} {Q : State → Prop}
variable {own : String} {cc : ByteArray} {nL : Nat} {ret : Option FieldType} {V : EV} {G : GS} {S S1 : HS} {pc : Nat} {ls : Array Slot} {rest : List Value} {a ci k f N idx : Nat} {st : List Value}
theorem x_retZ (C : CX p s m args meth c own cc nL (some .boolean) V G) (hP : HP V G S H) (hS : va_S (AG G s.heap.size) s.heap H locs) (hW : WT G S) {v : Int32} (hz : isZ v = true) (hdg : decode cc pc = .ok (.ireturn, 1)) : W p l e R s m args below meth c H locs cells slots (MQ below (QZ V G S v s.heap.size) args s cells slots (AG G s.heap.size)) (F0 m pc ls [.int v]) :=
  W.zret C.1 C.2.1 C.2.2.1 (isZ_n hz).1 (fun t ht hw => ⟨⟨v, (), rfl, ⟨rfl, hz⟩, by rw [ht]; exact hP, hW⟩, hS.F ht⟩) hS.2.2 hdg C.2.2.2.2.2.2.2.1
theorem x_retr {kd : Nat} {n : String} (C : CX p s m args meth c own cc nL (some (.object n)) V G) (hP : HP V G S H) (hS : va_S (AG G s.heap.size) s.heap H locs) (hW : WT G S) {v : Option Nat} {w : Value} (hw : w = va_rf v) (hv : ∀ t, v = some t → t ∈ G.1 ∧ G.2.1 t = kd) (hdg : decode cc pc = .ok (.areturn, 1)) : W p l e R s m args below meth c H locs cells slots (MQ below (QR kd V G S v s.heap.size) args s cells slots (AG G s.heap.size)) (F0 m pc ls [w]) := by
  subst hw
  exact W.aret C.1 C.2.1 C.2.2.1 (Or.inl ⟨n, rfl⟩) (by cases v <;> simp [va_rf]) (fun t ht hw => ⟨⟨v, (), rfl, ⟨rfl, hv⟩, by rw [ht]; exact hP, hW⟩, hS.F ht⟩) hS.2.2 hdg C.2.2.2.2.2.2.2.1
theorem x_aft_z {r : Int32} {av : Array Value} (hr : va_Run p l e R s m args below meth c H locs cells slots 0 0 (F0 m pc ls st) rest (QZ V G S1 r H.size av) (AG G H.size)) (hS : va_S (AG G s.heap.size) s.heap H locs)
    (kk : ∀ (H1 : Heap) (locs1 : List Loc), HP V G S1 H1 → va_S (AG G s.heap.size) s.heap H1 locs1 → WT G S1 → isZ r = true → W p l e R s m args below meth c H1 locs1 cells slots Q (F0 m (pc + 3) ls (.int r :: rest))) : W p l e R s m args below meth c H locs cells slots Q (F0 m pc ls st) :=
  va_calli hr hS (fun q _ h => ag_in hS q h) (fun q h => ag_in hS q h) (fun r' u t H1 locs1 ht _ hp hB _ _ hS1 => by obtain ⟨rfl, hz⟩ := hp; exact kk H1 locs1 (by rw [← ht]; exact hB.1) hS1 hB.2 hz)
theorem x_aft_r {kd : Nat} {r : Option Nat} {av : Array Value} (hr : va_Run p l e R s m args below meth c H locs cells slots 0 0 (F0 m pc ls st) rest (QR kd V G S1 r H.size av) (AG G H.size)) (hS : va_S (AG G s.heap.size) s.heap H locs)
    (kk : ∀ (H1 : Heap) (locs1 : List Loc), HP V G S1 H1 → va_S (AG G s.heap.size) s.heap H1 locs1 → WT G S1 → (∀ t, r = some t → t ∈ G.1 ∧ G.2.1 t = kd) → W p l e R s m args below meth c H1 locs1 cells slots Q (F0 m (pc + 3) ls (va_rf r :: rest))) : W p l e R s m args below meth c H locs cells slots Q (F0 m pc ls st) :=
  va_callq hr hS (fun q _ h => ag_in hS q h) (fun q h => ag_in hS q h) (fun r' u t H1 locs1 ht _ hp hB _ _ hS1 => by obtain ⟨rfl, hz⟩ := hp; exact kk H1 locs1 (by rw [← ht]; exact hB.1) hS1 hB.2 hz)
end ROWS3
section WIDE
variable {p : Program} {l : Launch} {e : Env} {R : Room} {s : State} {m : MethodId} {args : Array Value} {below : List Frame} {meth : Method} {c : Code} {H : Heap} {locs : List Loc} {cells slots : Nat}
variable {own : String} {cc : ByteArray} {nL : Nat} {ret : Option FieldType} {V : EV} {G : GS} {S : HS} {pc : Nat} {ls : Array Slot} {rest : List Value} {a ci N idx : Nat} {RC : String} {T : u_T} {st : List Value}
variable {y : MethodName} {bytes : ByteArray} {maxL n fr lo : Nat} {rty : Option FieldType} {As : List Value}
/-- a call with more than eight words below its arguments -/
theorem x_runVw {Qc : Array Value → State → Outcome → State → Prop} {free : Addr → Prop} (C : CX p s m args meth c own cc nL ret V G) (hP : HP V G S H) (hS : va_S (AG G s.heap.size) s.heap H locs) (hM : Met l y (.code y bytes maxL rty :: TB) (RM fr lo) (PRE V G S H.size (.ref a :: As)) Qc 0 0 free) (ha : a ∈ G.1) (hka : G.2.1 a = ci) (hci : ci < 13) (hc : vwCl[ci]? = some (RC, T, N)) (hcy : y.cls = RC) (hk : KM y bytes maxL rty n) (hi : Cond.instanceMethod y ∈ TB ∧ Cond.selects RC y y ∈ TB) (hl : LKM own idx y) (hR : fr + 1 ≤ R.frames ∧ 16 + (maxL + 11) + lo ≤ R.locals) (hn : As.length = n) (hsize : ls.size = nL) (hst : st = As.reverse ++ .ref a :: rest) (hrest : (rest.map fun v => v.category).sum ≤ 16) (hf : cells ≤ R.cells ∧ slots ≤ R.slots) (hdg : decode cc pc = .ok (.invokevirtual idx, 3)) (hpl : Cond.methodLink own idx y ∈ TB) :
    va_Run p l e R s m args below meth c H locs cells slots 0 0 (F0 m pc ls st) rest (Qc (Value.ref a :: As).toArray) free := by
  obtain ⟨q0, hq⟩ := mk_get (cy := V.2.1) (S := S) ha
  obtain ⟨cellB, hcB, hoB, hclB⟩ := va_recv C.2.2.2.2.2.2.1 hP hc (hq.trans (congrArg (fun z => some (a, z)) (cell_obj (cy := V.2.1) (S := S) hka hci)))
  have hts := C.2.2.2.2.2.1
  have hK : Back l R p e below s args y 3 16 (PreOf R 0 0 (PRE V G S H.size (.ref a :: As))) (PostOf Qc 0 0 free) :=
    back_of (bytes := bytes) (maxL := maxL) (ret := rty) hM pre_blind rfl rfl hR.1 hR.2 (pay_in hts (good_c hk)) List.mem_cons_self (fun a' U hW => word_at hW (tb_all _ hk.2.1).2 (hts _ hk.2.1))
  intro T hT X
  obtain ⟨v, vm₁, ⟨U', l2, c2, s2⟩, hW₁, X', ⟨g', mk, t, L, e1, e2, hq2, h1, hL, h2, h3⟩, st2⟩ := callV X C.1 (C := RC) (bytes := bytes) (maxL := maxL) (ret := rty) C.2.2.2.2.1 (hts _ hpl) (hts _ hi.1) (hts _ hi.2) (hts _ hk.1) ⟨hk.2.2.1, hk.2.2.2.1⟩ hK (by rw [hT]; exact hcB) hoB hclB (g := F0 m pc ls st) rfl (hsize.trans C.2.2.2.1.symm) (argsL := As) (rest := rest) (fun sig h => by
      have h3 := hk.2.2.2.2
      rw [h] at h3
      rw [hn]; exact (Option.some.inj h3).symm) hst (by simpa [JFrame.monitorRoom] using hrest) (by rw [C.2.1]; exact hdg)
    (fun vm₁ hW₁ => ⟨hf.1, hf.2, x_pre C hP hS (.ref a :: As) (T.setVm vm₁) hT hW₁⟩)
  dsimp only [Pt.U, Pt.locs, Pt.cells, Pt.slots] at X' e1 e2 h1 h2 h3 st2
  subst h1; subst h2; subst h3
  exact ⟨v, (T.setVm vm₁).calling g' mk (Value.ref a :: As).toArray, t, U', L, hT, X', hL, e1, e2, hq2, st2⟩
end WIDE
-- making objects
def pushG (G : GS) (q k n : Nat) : GS := (G.1 ++ [q], va_up G.2.1 q k, va_up G.2.2 q n)
def zap (q : Nat) (S : HS) : HS := (fun f b => if b = q then 0 else S.1 f b, fun f b => if b = q then 0 else S.2.1 f b, fun f b => if b = q then none else S.2.2.1 f b, fun b i => if b = q then 0 else S.2.2.2.1 b i, fun b i => if b = q then 0 else S.2.2.2.2.1 b i, fun b i => if b = q then none else S.2.2.2.2.2 b i)
theorem gI_zap (S : HS) (q f b : Nat) : gI (zap q S) f b = if b = q then 0 else gI S f b := rfl
theorem gJ_zap (S : HS) (q f b : Nat) : gJ (zap q S) f b = if b = q then 0 else gJ S f b := rfl
theorem gR_zap (S : HS) (q f b : Nat) : gR (zap q S) f b = if b = q then none else gR S f b := rfl
theorem aI_zap (S : HS) (q b i : Nat) : aI (zap q S) b i = if b = q then 0 else aI S b i := rfl
theorem aJ_zap (S : HS) (q b i : Nat) : aJ (zap q S) b i = if b = q then 0 else aJ S b i := rfl
theorem aR_zap (S : HS) (q b i : Nat) : aR (zap q S) b i = if b = q then none else aR S b i := rfl
theorem push_in {G : GS} {q k n a : Nat} (h : a ∈ G.1) : a ∈ (pushG G q k n).1 := List.mem_append_left _ h
theorem push_q {G : GS} {q k n : Nat} : q ∈ (pushG G q k n).1 := List.mem_append_right _ (List.mem_singleton.mpr rfl)
theorem push_k {G : GS} {q k n a : Nat} (h : a ∈ G.1) (hq : q ∉ G.1) : (pushG G q k n).2.1 a = G.2.1 a := by
  have : a ≠ q := fun e => hq (e ▸ h)
  simp [pushG, va_up, this]
theorem push_n {G : GS} {q k n a : Nat} (h : a ∈ G.1) (hq : q ∉ G.1) : (pushG G q k n).2.2 a = G.2.2 a := by
  have : a ≠ q := fun e => hq (e ▸ h)
  simp [pushG, va_up, this]
theorem push_kq {G : GS} {q k n : Nat} : (pushG G q k n).2.1 q = k := by simp [pushG, va_up]
theorem push_nq {G : GS} {q k n : Nat} : (pushG G q k n).2.2 q = n := by simp [pushG, va_up]
theorem push_ag {G : GS} {q k n sz : Nat} (h : sz ≤ q) : AG (pushG G q k n) sz = AG G sz := by
  funext x
  apply propext
  refine ⟨fun hx => hx.elim (fun hx => (List.mem_append.mp hx).elim Or.inl (fun hx => Or.inr (by rw [List.mem_singleton.mp hx]; exact h))) Or.inr, fun hx => hx.elim (fun hx => Or.inl (push_in hx)) Or.inr⟩
theorem push_wt {G : GS} {S : HS} {q k n : Nat} (hq : q ∉ G.1) (h : WT G S) : WT (pushG G q k n) (zap q S) := by
  have nq : ∀ a, a ∈ G.1 → a ≠ q := fun a ha e => hq (e ▸ ha)
  refine ⟨fun a ha f t hf ht => ?_, fun a ha i t hk ht => ?_, fun a ha i t hk ht => ?_⟩
  · rw [gR_zap] at ht
    by_cases e : a = q
    · rw [if_pos e] at ht; cases ht
    · rw [if_neg e] at ht
      have ha2 : a ∈ G.1 := (List.mem_append.mp ha).elim id (fun x => absurd (List.mem_singleton.mp x) e)
      obtain ⟨h1, h2⟩ := h.1 a ha2 f t (by rw [hf, push_k ha2 hq]) ht
      exact ⟨push_in h1, by rw [push_k h1 hq, h2]⟩
  · rw [aR_zap] at ht
    by_cases e : a = q
    · rw [if_pos e] at ht; cases ht
    · rw [if_neg e] at ht
      have ha2 : a ∈ G.1 := (List.mem_append.mp ha).elim id (fun x => absurd (List.mem_singleton.mp x) e)
      obtain ⟨h1, h2⟩ := h.2.1 a ha2 i t (by rw [← hk, push_k ha2 hq]) ht
      exact ⟨push_in h1, by rw [push_k h1 hq, h2]⟩
  · rw [aR_zap] at ht
    by_cases e : a = q
    · rw [if_pos e] at ht; cases ht
    · rw [if_neg e] at ht
      have ha2 : a ∈ G.1 := (List.mem_append.mp ha).elim id (fun x => absurd (List.mem_singleton.mp x) e)
      obtain ⟨h1, h2⟩ := h.2.2 a ha2 i t (by rw [← hk, push_k ha2 hq]) ht
      exact ⟨push_in h1, by rw [push_k h1 hq, h2]⟩
theorem fval_zap {S : HS} {q b : Nat} (h : b ≠ q) (x : Nat × Nat) : fval (zap q S) b x = fval S b x := by
  unfold fval
  rw [gI_zap, gJ_zap, gR_zap, if_neg h, if_neg h, if_neg h]
theorem push_cell {cy : Nat → ClassId} {G : GS} {S : HS} {q k n b : Nat} (h : b ≠ q) : cellf cy (pushG G q k n) (zap q S) b = cellf cy G S b := by
  have e1 : (pushG G q k n).2.1 b = G.2.1 b := by simp [pushG, va_up, h]
  have e2 : (pushG G q k n).2.2 b = G.2.2 b := by simp [pushG, va_up, h]
  have e3 : aI (zap q S) b = aI S b := by funext i; rw [aI_zap, if_neg h]
  have e4 : aJ (zap q S) b = aJ S b := by funext i; rw [aJ_zap, if_neg h]
  have e5 : aR (zap q S) b = aR S b := by funext i; rw [aR_zap, if_neg h]
  have e6 : fval (zap q S) b = fval S b := by funext x; exact fval_zap h x
  unfold cellf
  rw [e1, e2, e3, e4, e5, e6]
theorem push_W {cy : Nat → ClassId} {G : GS} {S : HS} {q k n : Nat} {e : va_E} (hq : q ∉ G.1) (he : cellf cy (pushG G q k n) (zap q S) q = e) : mkW cy G S ++ [(q, e)] = mkW cy (pushG G q k n) (zap q S) := by
  unfold mkW
  rw [va_pl_push hq]
  refine va_pl_congr (fun b => ?_)
  by_cases hb : b = q
  · subst hb; rw [he]; simp [va_up]
  · rw [push_cell hb]; simp [va_up, hb]
theorem push_new {cy : Nat → ClassId} {G : GS} {S : HS} {A : Nat → Prop} {q : Nat} {e : va_E} (hD : va_D A (mkW cy G S ++ [(q, e)])) : q ∉ G.1 ∧ A q := by
  have hl : (mkW cy G S ++ [(q, e)])[(mkW cy G S).length]? = some (q, e) := by rw [List.getElem?_append_right (Nat.le_refl _), Nat.sub_self]; rfl
  refine ⟨fun hq => ?_, hD.2 _ _ hl⟩
  obtain ⟨k, hk⟩ := mk_get (cy := cy) (S := S) hq
  have hkl := (List.getElem?_eq_some_iff.mp hk).1
  have := hD.1 k (mkW cy G S).length (q, cellf cy G S q) (q, e) (by rw [List.getElem?_append_left hkl]; exact hk) hl rfl
  omega
def dflt (x : Nat × Nat) : Value := match x.1 with
  | 0 => .int 0
  | 1 => .long 0
  | _ => .null
theorem fval_new {S : HS} {q : Nat} (x : Nat × Nat) : fval (zap q S) q x = dflt x := by
  unfold fval dflt
  rw [gI_zap, gJ_zap, gR_zap, if_pos rfl, if_pos rfl, if_pos rfl]
  rfl
section ROWS4
variable {p : Program} {l : Launch} {e : Env} {R : Room} {s : State} {m : MethodId} {args : Array Value} {below : List Frame} {meth : Method} {c : Code} {H : Heap} {locs : List Loc} {cells slots : Nat} {Q : State → Prop}
variable {own : String} {cc : ByteArray} {nL : Nat} {ret : Option FieldType} {V : EV} {G : GS} {S S1 : HS} {pc : Nat} {ls : Array Slot} {rest : List Value} {a ci k f N idx : Nat} {RC : String} {T : u_T}
theorem cx_push {q k n : Nat} (C : CX p s m args meth c own cc nL ret V G) (hq : q ∉ G.1) (hsz : s.heap.size ≤ q) : CX p s m args meth c own cc nL ret V (pushG G q k n) := by
  obtain ⟨c1, c2, c3, c4, c5, c6, c7, c8, c9, c10, c11⟩ := C
  refine ⟨c1, c2, c3, c4, c5, c6, c7, c8, ?_, List.nodup_append.mpr ⟨c10, by simp, fun a ha b hb => ?_⟩, c11⟩
  · rw [push_ag hsz]; exact c9
  · rw [List.mem_singleton.mp hb]; exact fun e => hq (e ▸ ha)
theorem x_new (C : CX p s m args meth c own cc nL ret V G) (hP : HP V G S H) (hS : va_S (AG G s.heap.size) s.heap H locs) (hW : WT G S) (hci : ci < 13) (hc : vwCl[ci]? = some (RC, T, N)) (hin : ∀ w ∈ u_ws RC T N, w ∈ TB) (ty0 : Nat → FieldType) (hty : ∀ k, k < N → parseFieldDescriptor (T k).2.2.1 = some (ty0 k)) (hcl : Cond.classLink own idx RC ∈ TB) (hinst : Cond.instantiable RC N ∈ TB) (hini : Cond.initialized RC ∈ TB) (hfs : ∀ j, j < N → defaultValue (ty0 j) = vp_V ((flds ci).map dflt) j) (hcells : cells + 1 ≤ R.cells) (hslots : slots + N ≤ R.slots) (hdg : decode cc pc = .ok (.new idx, 3))
    (kk : ∀ (q : Nat) (H1 : Heap), q ∉ G.1 → s.heap.size ≤ q → AG (pushG G q ci 0) s.heap.size = AG G s.heap.size → CX p s m args meth c own cc nL ret V (pushG G q ci 0) → HP V (pushG G q ci 0) (zap q S) H1 → va_S (AG (pushG G q ci 0) s.heap.size) s.heap H1 locs → WT (pushG G q ci 0) (zap q S) → W p l e R s m args below meth c H1 locs (cells + 1) (slots + N) Q (F0 m (pc + 3) ls (.ref q :: rest))) : W p l e R s m args below meth c H locs cells slots Q (F0 m pc ls rest) := by
  obtain ⟨hx, hb, -, -, hown, hts, hK, -, -, hN, hnw⟩ := id C
  refine va_new hx hb hts hin ty0 hty hown (hts _ hcl) (hts _ hinst) (hts _ hini) hK hP (mk_D hN (fun x hx => Or.inl hx)) hS (fun q h => Or.inr h) hc hfs hcells hslots hdg (fun q H1 hP1 hD1 hS1 => ?_)
  obtain ⟨hq, hA⟩ := push_new hD1
  have hsz : s.heap.size ≤ q := hA.elim (fun h => absurd h hq) id
  rw [push_W (k := ci) (n := 0) hq (by rw [cell_obj push_kq hci]; exact congrArg (fun z => Sum.inr (ci, z)) (List.map_congr_left (fun x _ => fval_new x)))] at hP1
  exact kk q H1 hq hsz (push_ag hsz) (cx_push C hq hsz) hP1 (by rw [push_ag hsz]; exact hS1) (push_wt hq hW)
theorem ra_one {s : State} {D : va_G} {cA cB : ClassId} {ty : FieldType} (h1 : va_RA s cA ty) (h2 : va_RA s cB ty) : cA = cB := by
  cases ty with
  | object C =>
    obtain ⟨_, _, _, _, _, h1⟩ := h1
    obtain ⟨_, _, _, _, _, h2⟩ := h2
    exact Option.some.inj (h1.symm.trans h2)
  | _ => exact Option.some.inj (h1.symm.trans h2)
theorem x_newarr (C : CX p s m args meth c own cc nL ret V G) (hP : HP V G S H) (hS : va_S (AG G s.heap.size) s.heap H locs) (hW : WT G S) {atype : ArrayType} {ty : FieldType} (hty : newarray.typeOf atype = ty) (harr : Cond.arrayClass ty ∈ TB) (i kd : Nat) (hi : (tyl V.2.1)[i]? = some (V.2.1 i, ty)) {n : Int32} {N' : Nat} {a0 : vp_A} (ha : ∀ cA : ClassId, vp_cell cA a0 = arrV cA N' (fun _ => defaultValue ty)) (hn : ¬ n < 0) (hN' : n.toNatClampNeg = N') (hbytes : N' * componentBytes ty ≤ 536870912) (hce : ∀ q, cellf V.2.1 (pushG G q kd N') (zap q S) q = .inl (V.2.1 i, a0)) (hcells : cells + 1 ≤ R.cells) (hslots : slots + N' ≤ R.slots) (hdg : decode cc pc = .ok (.newarray atype, 2))
    (kk : ∀ (q : Nat) (H1 : Heap), q ∉ G.1 → s.heap.size ≤ q → AG (pushG G q kd N') s.heap.size = AG G s.heap.size → CX p s m args meth c own cc nL ret V (pushG G q kd N') → HP V (pushG G q kd N') (zap q S) H1 → va_S (AG (pushG G q kd N') s.heap.size) s.heap H1 locs → WT (pushG G q kd N') (zap q S) → W p l e R s m args below meth c H1 locs (cells + 1) (slots + N') Q (F0 m (pc + 2) ls (.ref q :: rest))) : W p l e R s m args below meth c H locs cells slots Q (F0 m pc ls (.int n :: rest)) := by
  obtain ⟨hx, hb, -, -, hown, hts, hK, -, -, hN, hnw⟩ := id C
  refine va_newa hx hb (by rw [hty]; exact hts _ harr) hty hK hP (mk_D hN (fun x hx => Or.inl hx)) hS (fun q h => Or.inr h) ha hn hN' hbytes hcells hslots hdg (fun q cA H1 hK1 hP1 hD1 hS1 => ?_)
  obtain ⟨hq, hA⟩ := push_new hD1
  have hsz : s.heap.size ≤ q := hA.elim (fun h => absurd h hq) id
  have e1 : va_RA s cA ty := (hK1.2 (tyl V.2.1).length (cA, ty) (by rw [List.getElem?_append_right (Nat.le_refl _), Nat.sub_self]; rfl)).2
  have e2 : cA = V.2.1 i := ra_one (D := V.1) e1 (hK.2 i _ hi).2
  subst e2
  rw [push_W hq (hce q)] at hP1
  exact kk q H1 hq hsz (push_ag hsz) (cx_push C hq hsz) hP1 (by rw [push_ag hsz]; exact hS1) (push_wt hq hW)
theorem x_newref (C : CX p s m args meth c own cc nL ret V G) (hP : HP V G S H) (hS : va_S (AG G s.heap.size) s.heap H locs) (hW : WT G S) {CN : String} (hcl : Cond.classLink own idx CN ∈ TB) (hov2 : va_AO CN s) (i kd : Nat) (hi : (tyl V.2.1)[i]? = some (V.2.1 i, .object CN)) {n : Int32} {N' : Nat} (hn : ¬ n < 0) (hN' : n.toNatClampNeg = N') (hbytes : N' * 4 ≤ 536870912) (hce : ∀ q, cellf V.2.1 (pushG G q kd N') (zap q S) q = .inl (V.2.1 i, N', .inr (.inr (.inr (.inr (fun _ => none)))))) (hcells : cells + 1 ≤ R.cells) (hslots : slots + N' ≤ R.slots) (hdg : decode cc pc = .ok (.anewarray idx, 3))
    (kk : ∀ (q : Nat) (H1 : Heap), q ∉ G.1 → s.heap.size ≤ q → AG (pushG G q kd N') s.heap.size = AG G s.heap.size → CX p s m args meth c own cc nL ret V (pushG G q kd N') → HP V (pushG G q kd N') (zap q S) H1 → va_S (AG (pushG G q kd N') s.heap.size) s.heap H1 locs → WT (pushG G q kd N') (zap q S) → W p l e R s m args below meth c H1 locs (cells + 1) (slots + N') Q (F0 m (pc + 3) ls (.ref q :: rest))) : W p l e R s m args below meth c H locs cells slots Q (F0 m pc ls (.int n :: rest)) := by
  obtain ⟨hx, hb, -, -, hown, hts, hK, -, -, hN, hnw⟩ := id C
  refine va_newq hx hb hown (hts _ hcl) hov2 hK hP (mk_D hN (fun x hx => Or.inl hx)) hS (fun q h => Or.inr h) hn hN' hbytes hcells hslots hdg (fun q cA H1 hK1 hP1 hD1 hS1 => ?_)
  obtain ⟨hq, hA⟩ := push_new hD1
  have hsz : s.heap.size ≤ q := hA.elim (fun h => absurd h hq) id
  have e1 : va_RA s cA (.object CN) := (hK1.2 (tyl V.2.1).length (cA, .object CN) (by rw [List.getElem?_append_right (Nat.le_refl _), Nat.sub_self]; rfl)).2
  have e2 : cA = V.2.1 i := ra_one (D := V.1) e1 (hK.2 i _ hi).2
  subst e2
  rw [push_W hq (hce q)] at hP1
  exact kk q H1 hq hsz (push_ag hsz) (cx_push C hq hsz) hP1 (by rw [push_ag hsz]; exact hS1) (push_wt hq hW)
end ROWS4
theorem if_tp {c : Prop} [Decidable c] {a b : Prop} (h : c) (hf : if c then a else b) : a := by rw [if_pos h] at hf; exact hf
theorem if_fp {c : Prop} [Decidable c] {a b : Prop} (h : ¬ c) (hf : if c then a else b) : b := by rw [if_neg h] at hf; exact hf
theorem if_sp {c : Prop} [Decidable c] {a : Prop} (hf : if c then a else False) : c ∧ a := by
  by_cases h : c
  · rw [if_pos h] at hf; exact ⟨h, hf⟩
  · rw [if_neg h] at hf; exact hf.elim
theorem bnd_ep {α : Type} {a : α} {k : α → Prop} (h : bnd a k) : ∃ y, y = a ∧ k y := ⟨a, rfl, h⟩
def bd1p {α : Type} (o : Option α) (k : α → Prop) : Prop := ∃ y, o = some y ∧ k y
theorem bd1_ep {α : Type} {o : Option α} {k : α → Prop} (h : bd1p o k) : ∃ y, o = some y ∧ k y := h
def bd2p {α : Type} (o : Option (α × HS)) (k : α → HS → Prop) : Prop := ∃ y S, o = some (y, S) ∧ k y S
theorem bd2_ep {α : Type} {o : Option (α × HS)} {k : α → HS → Prop} (h : bd2p o k) : ∃ y S, o = some (y, S) ∧ k y S := h
theorem bn2_ep {α : Type} {o : α × HS} {k : α → HS → Prop} (h : bn2 o k) : ∃ y S, o = (y, S) ∧ k y S := ⟨o.1, o.2, rfl, h⟩
theorem mq_np {o : Option Nat} {a : Prop} {k : Nat → Prop} (h : o = none) (hf : mq o a k) : a := by subst h; exact hf
theorem mq_sp {o : Option Nat} {a : Prop} {k : Nat → Prop} {t : Nat} (h : o = some t) (hf : mq o a k) : k t := by subst h; exact hf
abbrev RMA (fr lo mc ms : Nat) : Room := { frames := fr, cells := mc, slots := ms, locals := lo }
/-- a world that has grown -/
def GX (G0 : GS) (sz : Nat) (G : GS) : Prop := (∀ a, a ∈ G0.1 → a ∈ G.1 ∧ G.2.1 a = G0.2.1 a ∧ G.2.2 a = G0.2.2 a) ∧ (∀ a, a ∈ G.1 → a ∈ G0.1 ∨ sz ≤ a) ∧ G.1.Nodup
theorem gx_rf {G : GS} {sz : Nat} (h : G.1.Nodup) : GX G sz G := ⟨fun _ h => ⟨h, rfl, rfl⟩, fun _ h => Or.inl h, h⟩
theorem gx_push {G0 G : GS} {sz q k n : Nat} (h : GX G0 sz G) (hq : q ∉ G.1) (hsz : sz ≤ q) (hN : (pushG G q k n).1.Nodup) : GX G0 sz (pushG G q k n) :=
  ⟨fun a ha => by
    obtain ⟨h1, h2, h3⟩ := h.1 a ha
    exact ⟨push_in h1, by rw [push_k h1 hq, h2], by rw [push_n h1 hq, h3]⟩, fun a ha => (List.mem_append.mp ha).elim (h.2.1 a) (fun x => Or.inr (by rw [List.mem_singleton.mp x]; exact hsz)), hN⟩
theorem gx_tr {G0 G1 G2 : GS} {s1 s2 : Nat} (h1 : GX G0 s1 G1) (h2 : GX G1 s2 G2) (hs : s1 ≤ s2) : GX G0 s1 G2 :=
  ⟨fun a ha => by
    obtain ⟨a1, a2, a3⟩ := h1.1 a ha
    obtain ⟨b1, b2, b3⟩ := h2.1 a a1
    exact ⟨b1, by rw [b2, a2], by rw [b3, a3]⟩, fun a ha => (h2.2.1 a ha).elim (h1.2.1 a) (fun x => Or.inr (Nat.le_trans hs x)), h2.2.2⟩
theorem gx_ag {G0 G : GS} {s0 sz : Nat} (h : GX G0 sz G) (hs : s0 ≤ sz) : AG G s0 = AG G0 s0 := by
  funext x
  apply propext
  exact ⟨fun hx => hx.elim (fun hx => (h.2.1 x hx).elim Or.inl (fun y => Or.inr (Nat.le_trans hs y))) Or.inr, fun hx => hx.elim (fun hx => Or.inl (h.1 x hx).1) Or.inr⟩
abbrev PW (V : EV) (G0 : GS) (sz : Nat) (u : GS × HS) (t : State) : Prop := va_P V.1 vwCl (mkW V.2.1 u.1 u.2) t.heap ∧ WT u.1 u.2 ∧ GX G0 sz u.1
abbrev QVW (V : EV) (G0 : GS) (sz : Nat) (P : GS → HS → Prop) : Array Value → State → Outcome → State → Prop := va_Qv (fun (u : GS × HS) => P u.1 u.2) (fun u t => PW V G0 sz u t) (AG G0 sz)
abbrev QIW (V : EV) (G0 : GS) (sz : Nat) (P : Int32 → GS → HS → Prop) : Array Value → State → Outcome → State → Prop := va_Qi (fun r (u : GS × HS) => P r u.1 u.2) (fun u t => PW V G0 sz u t) (AG G0 sz)
def MetVW (l : Launch) (y : MethodName) (cc : ByteArray) (nL : Nat) (fr lo mc ms : Nat) (V : EV) (G : GS) (S : HS) (av : List Value) (P : GS → HS → Prop) : Prop :=
  ∀ sz, Met l y (.code y cc nL none :: TB) (RMA fr lo mc ms) (PRE V G S sz av) (QVW V G sz P) mc ms (AG G sz)
def MetIW (l : Launch) (y : MethodName) (cc : ByteArray) (nL : Nat) (fr lo mc ms : Nat) (V : EV) (G : GS) (S : HS) (av : List Value) (P : Int32 → GS → HS → Prop) : Prop :=
  ∀ sz, Met l y (.code y cc nL (some .int) :: TB) (RMA fr lo mc ms) (PRE V G S sz av) (QIW V G sz P) mc ms (AG G sz)
theorem zap_C {cy : Nat → ClassId} {G : GS} {S : HS} {n : Nat} (q : Nat) : cellf cy (pushG G q 13 n) (zap q S) q = .inl (cy 0, n, .inl (fun _ => 0)) := by
  rw [cell_C push_kq, push_nq]; congr; funext i; rw [aI_zap, if_pos rfl]
theorem zap_I {cy : Nat → ClassId} {G : GS} {S : HS} {n : Nat} (q : Nat) : cellf cy (pushG G q 14 n) (zap q S) q = .inl (cy 1, n, .inl (fun _ => 0)) := by
  rw [cell_I push_kq, push_nq]; congr; funext i; rw [aI_zap, if_pos rfl]
theorem zap_J {cy : Nat → ClassId} {G : GS} {S : HS} {n : Nat} (q : Nat) : cellf cy (pushG G q 15 n) (zap q S) q = .inl (cy 2, n, .inr (.inl (fun _ => 0))) := by
  rw [cell_J push_kq, push_nq]; congr; funext i; rw [aJ_zap, if_pos rfl]
theorem zap_Z {cy : Nat → ClassId} {G : GS} {S : HS} {n : Nat} (q : Nat) : cellf cy (pushG G q 16 n) (zap q S) q = .inl (cy 3, n, .inl (fun _ => 0)) := by
  rw [cell_Z push_kq, push_nq]; congr; funext i; rw [aI_zap, if_pos rfl]
theorem zap_F {cy : Nat → ClassId} {G : GS} {S : HS} {n : Nat} (q : Nat) : cellf cy (pushG G q 17 n) (zap q S) q = .inl (cy 4, n, .inr (.inr (.inr (.inr (fun _ => none))))) := by
  rw [cell_F push_kq, push_nq]; congr; funext i; rw [aR_zap, if_pos rfl]
theorem zap_S {cy : Nat → ClassId} {G : GS} {S : HS} {n : Nat} (q : Nat) : cellf cy (pushG G q 18 n) (zap q S) q = .inl (cy 5, n, .inr (.inr (.inr (.inr (fun _ => none))))) := by
  rw [cell_S push_kq, push_nq]; congr; funext i; rw [aR_zap, if_pos rfl]
theorem arr_C (n : Nat) (cA : ClassId) : vp_cell cA (n, .inl (fun _ => 0)) = arrV cA n (fun _ => defaultValue .char) := rfl
theorem arr_I (n : Nat) (cA : ClassId) : vp_cell cA (n, .inl (fun _ => 0)) = arrV cA n (fun _ => defaultValue .int) := rfl
theorem arr_J (n : Nat) (cA : ClassId) : vp_cell cA (n, .inr (.inl (fun _ => 0))) = arrV cA n (fun _ => defaultValue .long) := rfl
theorem arr_Z (n : Nat) (cA : ClassId) : vp_cell cA (n, .inl (fun _ => 0)) = arrV cA n (fun _ => defaultValue .boolean) := rfl
section ROWS5
variable {p : Program} {l : Launch} {e : Env} {R : Room} {s : State} {m : MethodId} {args : Array Value} {below : List Frame} {meth : Method} {c : Code} {H : Heap} {locs : List Loc} {cells slots : Nat} {Q : State → Prop}
variable {own : String} {cc : ByteArray} {nL : Nat} {ret : Option FieldType} {V : EV} {G G0 : GS} {S S1 : HS} {pc : Nat} {ls : Array Slot} {rest : List Value} {a ci k f N idx mc ms : Nat} {RC : String} {T : u_T}
theorem x_retvw {P : GS → HS → Prop} (C : CX p s m args meth c own cc nL none V G) (hA : AG G s.heap.size = AG G0 s.heap.size) (hX : GX G0 s.heap.size G) (hP : HP V G S H) (hS : va_S (AG G s.heap.size) s.heap H locs) (hW : WT G S) (hf : P G S) (hc : cells ≤ mc) (hs : slots ≤ ms) (hdg : decode cc pc = .ok (.return_, 1)) : W p l e R s m args below meth c H locs cells slots (MQ below (QVW V G0 s.heap.size P) args s mc ms (AG G0 s.heap.size)) (F0 m pc ls []) := by
  rw [hA] at hS
  exact W.widen hc hs (W.vret C.1 C.2.1 C.2.2.1 (fun t ht hw => ⟨⟨(G, S), rfl, hf, by rw [ht]; exact hP, hW, hX⟩, hS.F ht⟩) hS.2.2 hdg C.2.2.2.2.2.2.2.1)
theorem x_retiw {P : Int32 → GS → HS → Prop} {v : Int32} (C : CX p s m args meth c own cc nL (some .int) V G) (hA : AG G s.heap.size = AG G0 s.heap.size) (hX : GX G0 s.heap.size G) (hP : HP V G S H) (hS : va_S (AG G s.heap.size) s.heap H locs) (hW : WT G S) (hf : P v G S) (hc : cells ≤ mc) (hs : slots ≤ ms) (hdg : decode cc pc = .ok (.ireturn, 1)) : W p l e R s m args below meth c H locs cells slots (MQ below (QIW V G0 s.heap.size P) args s mc ms (AG G0 s.heap.size)) (F0 m pc ls [.int v]) := by
  rw [hA] at hS
  exact W.widen hc hs (W.iret C.1 C.2.1 C.2.2.1 (fun t ht hw => ⟨⟨v, (G, S), rfl, hf, by rw [ht]; exact hP, hW, hX⟩, hS.F ht⟩) hS.2.2 hdg C.2.2.2.2.2.2.2.1)
variable {y : MethodName} {bytes : ByteArray} {maxL n fr lo : Nat} {rty : Option FieldType} {As st : List Value}
theorem y_callB {rm : Room} (C : CX p s m args meth c own cc nL ret V G) (hk : KM y bytes maxL rty n) (hl : Cond.methodLink own idx y ∈ TB) (hR : rm.frames + 1 ≤ R.frames ∧ 8 + (maxL + 11) + rm.locals ≤ R.locals) : CallB R s args own idx y bytes maxL rty (.code y bytes maxL rty :: TB) rm rm.cells rm.slots n :=
  callB_of n C.2.2.2.2.2.1 (good_c hk) rfl rfl rfl (C.2.2.2.2.2.1 _ hk.2.1) (C.2.2.2.2.2.1 _ hl) hk.2.2 hR
theorem y_callN {rm : Room} {host : String} (C : CX p s m args meth c own cc nL ret V G) (hk : KM y bytes maxL rty n) (hl : Cond.methodLinkNest own idx y host ∈ NB) (hR : rm.frames + 1 ≤ R.frames ∧ 8 + (maxL + 11) + rm.locals ≤ R.locals) : va_CN R s args own idx y host bytes maxL rty (.code y bytes maxL rty :: TB) rm rm.cells rm.slots n :=
  va_cnB n C.2.2.2.2.2.1 (good_c hk) rfl rfl rfl (C.2.2.2.2.2.2.2.2.2.2.1 _ hl) (C.2.2.2.2.2.1 _ hk.2.1) hk.2.2 hR
theorem y_runV {rm : Room} {Qc : Array Value → State → Outcome → State → Prop} {free : Addr → Prop} (C : CX p s m args meth c own cc nL ret V G) (hP : HP V G S H) (hS : va_S (AG G s.heap.size) s.heap H locs) (hM : Met l y (.code y bytes maxL rty :: TB) rm (PRE V G S H.size (.ref a :: As)) Qc rm.cells rm.slots free) (ha : a ∈ G.1) (hka : G.2.1 a = ci) (hci : ci < 13) (hc : vwCl[ci]? = some (RC, T, N)) (hcy : y.cls = RC) (hk : KM y bytes maxL rty n) (hi : Cond.instanceMethod y ∈ TB ∧ Cond.selects RC y y ∈ TB) (hl : LKM own idx y) (hR : rm.frames + 1 ≤ R.frames ∧ 8 + (maxL + 11) + rm.locals ≤ R.locals) (hn : As.length = n) (hsize : ls.size = nL) (hst : st = As.reverse ++ .ref a :: rest) (hrest : (rest.map fun v => v.category).sum ≤ 8) (hf : cells + rm.cells ≤ R.cells ∧ slots + rm.slots ≤ R.slots) (hdg : decode cc pc = .ok (.invokevirtual idx, 3)) :
    va_Run p l e R s m args below meth c H locs cells slots rm.cells rm.slots (F0 m pc ls st) rest (Qc (Value.ref a :: As).toArray) free := by
  obtain ⟨q0, hq⟩ := mk_get (cy := V.2.1) (S := S) ha
  have hfix : CallFix p m c cc nL s args TB own := ⟨C.1, C.2.1, C.2.2.2.1, C.2.2.2.2.1, C.2.2.2.2.2.1⟩
  have hrecv := va_recv C.2.2.2.2.2.2.1 hP hc (hq.trans (congrArg (fun z => some (a, z)) (cell_obj (cy := V.2.1) (S := S) hka hci)))
  have hpre : PreV s H RC a (PRE V G S H.size (.ref a :: As)) As := ⟨pre_blind, hrecv, x_pre C hP hS (.ref a :: As)⟩
  rcases hl with hl | ⟨host, hl⟩
  · exact va_runV hfix hM ⟨y_callB C hk hl hR, C.2.2.2.2.2.1 _ hi.1, C.2.2.2.2.2.1 _ hi.2⟩ hpre rfl hn hsize hst (lv_room hrest) hdg hf
  · exact va_runVN hfix hM ⟨y_callN C hk hl hR, C.2.2.2.2.2.1 _ hi.1, C.2.2.2.2.2.1 _ hi.2⟩ hpre rfl hn hsize hst (lv_room hrest) hdg hf
theorem y_runI {rm : Room} {Qc : Array Value → State → Outcome → State → Prop} {free : Addr → Prop} (C : CX p s m args meth c own cc nL ret V G) (hP : HP V G S H) (hS : va_S (AG G s.heap.size) s.heap H locs) (hM : Met l y (.code y bytes maxL none :: TB) rm (PRE V G S H.size (.ref a :: As)) Qc rm.cells rm.slots free) (hk : KM y bytes maxL none n) (hi : Cond.instanceMethod y ∈ TB) (hy : y.name = "<init>") (hl : LKM own idx y) (hR : rm.frames + 1 ≤ R.frames ∧ 8 + (maxL + 11) + rm.locals ≤ R.locals) (hn : As.length = n) (hsize : ls.size = nL) (hst : st = As.reverse ++ .ref a :: rest) (hrest : (rest.map fun v => v.category).sum ≤ 8) (hf : cells + rm.cells ≤ R.cells ∧ slots + rm.slots ≤ R.slots) (hdg : decode cc pc = .ok (.invokespecial idx, 3)) :
    va_Run p l e R s m args below meth c H locs cells slots rm.cells rm.slots (F0 m pc ls st) rest (Qc (Value.ref a :: As).toArray) free := by
  have hfix : CallFix p m c cc nL s args TB own := ⟨C.1, C.2.1, C.2.2.2.1, C.2.2.2.2.1, C.2.2.2.2.2.1⟩
  have hpre : PreS s H (PRE V G S H.size (.ref a :: As)) (.ref a :: As) := ⟨pre_blind, x_pre C hP hS (.ref a :: As)⟩
  rcases hl with hl | ⟨host, hl⟩
  · exact va_runI hfix hM ⟨y_callB C hk hl hR, hy, C.2.2.2.2.2.1 _ hi⟩ hpre rfl hn hsize hst (lv_room hrest) hdg hf
  · exact va_runIN hfix hM ⟨y_callN C hk hl hR, hy, C.2.2.2.2.2.1 _ hi⟩ hpre rfl hn hsize hst (lv_room hrest) hdg hf
theorem cx_grow {G1 : GS} {sz : Nat} (C : CX p s m args meth c own cc nL ret V G) (hg : GX G sz G1) (hs : s.heap.size ≤ sz) : CX p s m args meth c own cc nL ret V G1 := by
  obtain ⟨c1, c2, c3, c4, c5, c6, c7, c8, c9, c10, c11⟩ := C
  exact ⟨c1, c2, c3, c4, c5, c6, c7, c8, by rw [gx_ag hg hs]; exact c9, hg.2.2, c11⟩
theorem y_aft_v {P : GS → HS → Prop} {av : Array Value} (C : CX p s m args meth c own cc nL ret V G) (hX : GX G0 s.heap.size G) (hr : va_Run p l e R s m args below meth c H locs cells slots mc ms (F0 m pc ls st) rest (QVW V G H.size P av) (AG G H.size)) (hS : va_S (AG G s.heap.size) s.heap H locs)
    (kk : ∀ (G1 : GS) (S1 : HS) (H1 : Heap) (locs1 : List Loc), P G1 S1 → (∀ a, a ∈ G.1 → a ∈ G1.1 ∧ G1.2.1 a = G.2.1 a) → AG G1 s.heap.size = AG G s.heap.size → GX G0 s.heap.size G1 → CX p s m args meth c own cc nL ret V G1 → HP V G1 S1 H1 → va_S (AG G1 s.heap.size) s.heap H1 locs1 → WT G1 S1 → W p l e R s m args below meth c H1 locs1 (cells + mc) (slots + ms) Q (F0 m (pc + 3) ls rest)) : W p l e R s m args below meth c H locs cells slots Q (F0 m pc ls st) :=
  va_callv hr hS (fun q _ h => ag_in hS q h) (fun q h => ag_in hS q h) (fun u t H1 locs1 ht _ hp hB _ _ hS1 => by
    have hag := gx_ag hB.2.2 hS.1
    exact kk u.1 u.2 H1 locs1 hp (fun a ha => ⟨(hB.2.2.1 a ha).1, (hB.2.2.1 a ha).2.1⟩) hag (gx_tr hX hB.2.2 hS.1) (cx_grow C hB.2.2 hS.1) (by rw [← ht]; exact hB.1) (by rw [hag]; exact hS1) hB.2.1)
theorem y_aft_i {P : Int32 → GS → HS → Prop} {av : Array Value} (C : CX p s m args meth c own cc nL ret V G) (hX : GX G0 s.heap.size G) (hr : va_Run p l e R s m args below meth c H locs cells slots mc ms (F0 m pc ls st) rest (QIW V G H.size P av) (AG G H.size)) (hS : va_S (AG G s.heap.size) s.heap H locs)
    (kk : ∀ (r : Int32) (G1 : GS) (S1 : HS) (H1 : Heap) (locs1 : List Loc), P r G1 S1 → (∀ a, a ∈ G.1 → a ∈ G1.1 ∧ G1.2.1 a = G.2.1 a) → AG G1 s.heap.size = AG G s.heap.size → GX G0 s.heap.size G1 → CX p s m args meth c own cc nL ret V G1 → HP V G1 S1 H1 → va_S (AG G1 s.heap.size) s.heap H1 locs1 → WT G1 S1 → W p l e R s m args below meth c H1 locs1 (cells + mc) (slots + ms) Q (F0 m (pc + 3) ls (.int r :: rest))) : W p l e R s m args below meth c H locs cells slots Q (F0 m pc ls st) :=
  va_calli hr hS (fun q _ h => ag_in hS q h) (fun q h => ag_in hS q h) (fun r u t H1 locs1 ht _ hp hB _ _ hS1 => by
    have hag := gx_ag hB.2.2 hS.1
    exact kk r u.1 u.2 H1 locs1 hp (fun a ha => ⟨(hB.2.2.1 a ha).1, (hB.2.2.1 a ha).2.1⟩) hag (gx_tr hX hB.2.2 hS.1) (cx_grow C hB.2.2 hS.1) (by rw [← ht]; exact hB.1) (by rw [hag]; exact hS1) hB.2.1)
theorem x_obj (C : CX p s m args meth c own cc nL ret V G) (hlink : Cond.methodLink own idx Lib.objectInit ∈ TB) (hinst : Cond.instanceMethod Lib.objectInit ∈ TB) (hcode : Cond.code Lib.objectInit ⟨#[0xb1]⟩ 1 none ∈ TB) (hsize : ls.size = nL) (hdg : decode cc pc = .ok (.invokespecial idx, 3)) (hfr : 1 ≤ R.frames) (hlo : 12 ≤ R.locals) (kk : W p l e R s m args below meth c H locs cells slots Q (F0 m (pc + 3) ls [])) : W p l e R s m args below meth c H locs cells slots Q (F0 m pc ls [.ref a]) :=
  W.objInit C.1 C.2.1 C.2.2.2.2.1 (C.2.2.2.2.2.1 _ hlink) (C.2.2.2.2.2.1 _ hinst) (C.2.2.2.2.2.1 _ hcode) rfl (by rw [C.2.2.2.1]; exact hsize) rfl hdg hfr (by simpa [JFrame.monitorRoom] using hlo) (W.eq (g2 := F0 m (pc + 3) ls []) rfl kk)
end ROWS5
theorem kc_bipush_m2 : (Int8.ofInt (-2)).toInt32 = (-2) := by decide +kernel
theorem kc_bipush_6 : (Int8.ofInt 6).toInt32 = 6 := by decide +kernel
theorem kc_bipush_7 : (Int8.ofInt 7).toInt32 = 7 := by decide +kernel
theorem kc_bipush_8 : (Int8.ofInt 8).toInt32 = 8 := by decide +kernel
theorem kc_bipush_9 : (Int8.ofInt 9).toInt32 = 9 := by decide +kernel
theorem kc_bipush_10 : (Int8.ofInt 10).toInt32 = 10 := by decide +kernel
theorem kc_bipush_11 : (Int8.ofInt 11).toInt32 = 11 := by decide +kernel
theorem kc_bipush_12 : (Int8.ofInt 12).toInt32 = 12 := by decide +kernel
theorem kc_bipush_13 : (Int8.ofInt 13).toInt32 = 13 := by decide +kernel
theorem kc_bipush_14 : (Int8.ofInt 14).toInt32 = 14 := by decide +kernel
theorem kc_bipush_15 : (Int8.ofInt 15).toInt32 = 15 := by decide +kernel
theorem kc_bipush_16 : (Int8.ofInt 16).toInt32 = 16 := by decide +kernel
theorem kc_bipush_17 : (Int8.ofInt 17).toInt32 = 17 := by decide +kernel
theorem kc_bipush_18 : (Int8.ofInt 18).toInt32 = 18 := by decide +kernel
theorem kc_bipush_19 : (Int8.ofInt 19).toInt32 = 19 := by decide +kernel
theorem kc_bipush_20 : (Int8.ofInt 20).toInt32 = 20 := by decide +kernel
theorem kc_bipush_21 : (Int8.ofInt 21).toInt32 = 21 := by decide +kernel
theorem kc_bipush_27 : (Int8.ofInt 27).toInt32 = 27 := by decide +kernel
theorem kc_bipush_28 : (Int8.ofInt 28).toInt32 = 28 := by decide +kernel
theorem kc_bipush_30 : (Int8.ofInt 30).toInt32 = 30 := by decide +kernel
theorem kc_bipush_32 : (Int8.ofInt 32).toInt32 = 32 := by decide +kernel
theorem kc_bipush_40 : (Int8.ofInt 40).toInt32 = 40 := by decide +kernel
theorem kc_bipush_41 : (Int8.ofInt 41).toInt32 = 41 := by decide +kernel
theorem kc_bipush_42 : (Int8.ofInt 42).toInt32 = 42 := by decide +kernel
theorem kc_bipush_43 : (Int8.ofInt 43).toInt32 = 43 := by decide +kernel
theorem kc_bipush_45 : (Int8.ofInt 45).toInt32 = 45 := by decide +kernel
theorem kc_bipush_48 : (Int8.ofInt 48).toInt32 = 48 := by decide +kernel
theorem kc_bipush_56 : (Int8.ofInt 56).toInt32 = 56 := by decide +kernel
theorem kc_bipush_57 : (Int8.ofInt 57).toInt32 = 57 := by decide +kernel
theorem kc_bipush_59 : (Int8.ofInt 59).toInt32 = 59 := by decide +kernel
theorem kc_bipush_60 : (Int8.ofInt 60).toInt32 = 60 := by decide +kernel
theorem kc_bipush_61 : (Int8.ofInt 61).toInt32 = 61 := by decide +kernel
theorem kc_bipush_62 : (Int8.ofInt 62).toInt32 = 62 := by decide +kernel
theorem kc_bipush_63 : (Int8.ofInt 63).toInt32 = 63 := by decide +kernel
theorem kc_bipush_64 : (Int8.ofInt 64).toInt32 = 64 := by decide +kernel
theorem kc_bipush_96 : (Int8.ofInt 96).toInt32 = 96 := by decide +kernel
theorem kc_bipush_97 : (Int8.ofInt 97).toInt32 = 97 := by decide +kernel
theorem kc_bipush_99 : (Int8.ofInt 99).toInt32 = 99 := by decide +kernel
theorem kc_bipush_122 : (Int8.ofInt 122).toInt32 = 122 := by decide +kernel
theorem kc_bipush_126 : (Int8.ofInt 126).toInt32 = 126 := by decide +kernel
theorem kc_sipush_m400 : (Int16.ofInt (-400)).toInt32 = (-400) := by decide +kernel
theorem kc_sipush_150 : (Int16.ofInt 150).toInt32 = 150 := by decide +kernel
theorem kc_sipush_155 : (Int16.ofInt 155).toInt32 = 155 := by decide +kernel
theorem kc_sipush_255 : (Int16.ofInt 255).toInt32 = 255 := by decide +kernel
theorem kc_sipush_310 : (Int16.ofInt 310).toInt32 = 310 := by decide +kernel
theorem kc_sipush_400 : (Int16.ofInt 400).toInt32 = 400 := by decide +kernel
theorem kc_sipush_512 : (Int16.ofInt 512).toInt32 = 512 := by decide +kernel
theorem kc_sipush_588 : (Int16.ofInt 588).toInt32 = 588 := by decide +kernel
theorem kc_sipush_589 : (Int16.ofInt 589).toInt32 = 589 := by decide +kernel
theorem kc_sipush_590 : (Int16.ofInt 590).toInt32 = 590 := by decide +kernel
theorem kc_sipush_592 : (Int16.ofInt 592).toInt32 = 592 := by decide +kernel
theorem kc_sipush_600 : (Int16.ofInt 600).toInt32 = 600 := by decide +kernel
theorem kc_sipush_616 : (Int16.ofInt 616).toInt32 = 616 := by decide +kernel
theorem kc_sipush_1000 : (Int16.ofInt 1000).toInt32 = 1000 := by decide +kernel
theorem kc_sipush_1002 : (Int16.ofInt 1002).toInt32 = 1002 := by decide +kernel
theorem kc_sipush_1100 : (Int16.ofInt 1100).toInt32 = 1100 := by decide +kernel
theorem kc_sipush_2200 : (Int16.ofInt 2200).toInt32 = 2200 := by decide +kernel
theorem kc_sipush_9999 : (Int16.ofInt 9999).toInt32 = 9999 := by decide +kernel
theorem qmath_X0_88 {p : Program} {s : State} {m : MethodId} {args : Array Value} {meth : Method} {c : Code} {own : String} {cc : ByteArray} {nL : Nat} {ret : Option FieldType} {V : EV} {G : GS} (C : CX p s m args meth c own cc nL ret V G) : (Cond.methodLink RX0 88 Lib.Math.max.name).before args s = true := C.2.2.2.2.2.1 _ (tb_mem 1014 (by decide +kernel) (by decide +kernel))
theorem qmath_X1_50 {p : Program} {s : State} {m : MethodId} {args : Array Value} {meth : Method} {c : Code} {own : String} {cc : ByteArray} {nL : Nat} {ret : Option FieldType} {V : EV} {G : GS} (C : CX p s m args meth c own cc nL ret V G) : (Cond.methodLink RX1 50 Lib.Math.min.name).before args s = true := C.2.2.2.2.2.1 _ (tb_mem 1062 (by decide +kernel) (by decide +kernel))
theorem qmath_X1_56 {p : Program} {s : State} {m : MethodId} {args : Array Value} {meth : Method} {c : Code} {own : String} {cc : ByteArray} {nL : Nat} {ret : Option FieldType} {V : EV} {G : GS} (C : CX p s m args meth c own cc nL ret V G) : (Cond.methodLink RX1 56 Lib.Math.max.name).before args s = true := C.2.2.2.2.2.1 _ (tb_mem 1063 (by decide +kernel) (by decide +kernel))
theorem qmath_X11_281 {p : Program} {s : State} {m : MethodId} {args : Array Value} {meth : Method} {c : Code} {own : String} {cc : ByteArray} {nL : Nat} {ret : Option FieldType} {V : EV} {G : GS} (C : CX p s m args meth c own cc nL ret V G) : (Cond.methodLink RX11 281 Lib.Math.abs.name).before args s = true := C.2.2.2.2.2.1 _ (tb_mem 1192 (by decide +kernel) (by decide +kernel))
theorem qmath_X2_59 {p : Program} {s : State} {m : MethodId} {args : Array Value} {meth : Method} {c : Code} {own : String} {cc : ByteArray} {nL : Nat} {ret : Option FieldType} {V : EV} {G : GS} (C : CX p s m args meth c own cc nL ret V G) : (Cond.methodLink RX2 59 Lib.Math.max.name).before args s = true := C.2.2.2.2.2.1 _ (tb_mem 1006 (by decide +kernel) (by decide +kernel))
theorem qmath_X4_33 {p : Program} {s : State} {m : MethodId} {args : Array Value} {meth : Method} {c : Code} {own : String} {cc : ByteArray} {nL : Nat} {ret : Option FieldType} {V : EV} {G : GS} (C : CX p s m args meth c own cc nL ret V G) : (Cond.methodLink RX4 33 Lib.Math.min.name).before args s = true := C.2.2.2.2.2.1 _ (tb_mem 937 (by decide +kernel) (by decide +kernel))
theorem qobj_X0_3 : Cond.methodLink RX0 3 Lib.objectInit ∈ TB := tb_mem 207 (by decide +kernel) (by decide +kernel)
theorem qobj_X1_3 : Cond.methodLink RX1 3 Lib.objectInit ∈ TB := tb_mem 242 (by decide +kernel) (by decide +kernel)
theorem qobj_X10_3 : Cond.methodLink RX10 3 Lib.objectInit ∈ TB := tb_mem 455 (by decide +kernel) (by decide +kernel)
theorem qobj_X11_1 : Cond.methodLink RX11 1 Lib.objectInit ∈ TB := tb_mem 160 (by decide +kernel) (by decide +kernel)
theorem qobj_X12_18 : Cond.methodLink RX12 18 Lib.objectInit ∈ TB := tb_mem 1483 (by decide +kernel) (by decide +kernel)
theorem qobj_X2_3 : Cond.methodLink RX2 3 Lib.objectInit ∈ TB := tb_mem 705 (by decide +kernel) (by decide +kernel)
theorem qobj_X3_3 : Cond.methodLink RX3 3 Lib.objectInit ∈ TB := tb_mem 767 (by decide +kernel) (by decide +kernel)
theorem qobj_X4_3 : Cond.methodLink RX4 3 Lib.objectInit ∈ TB := tb_mem 289 (by decide +kernel) (by decide +kernel)
theorem qobj_X5_3 : Cond.methodLink RX5 3 Lib.objectInit ∈ TB := tb_mem 372 (by decide +kernel) (by decide +kernel)
theorem qobj_X6_3 : Cond.methodLink RX6 3 Lib.objectInit ∈ TB := tb_mem 843 (by decide +kernel) (by decide +kernel)
theorem qobj_X7_3 : Cond.methodLink RX7 3 Lib.objectInit ∈ TB := tb_mem 296 (by decide +kernel) (by decide +kernel)
theorem qobj_X8_3 : Cond.methodLink RX8 3 Lib.objectInit ∈ TB := tb_mem 168 (by decide +kernel) (by decide +kernel)
theorem qobj_X9_3 : Cond.methodLink RX9 3 Lib.objectInit ∈ TB := tb_mem 334 (by decide +kernel) (by decide +kernel)
theorem qmw_X12_351 : Cond.methodLink RX12 351 yX12_placeOf ∈ TB := tb_mem 1853 (by decide +kernel) (by decide +kernel)
theorem qst_38 : Cond.fieldLink RJ0 38 "java/lang/String" "COMPACT_STRINGS" "Z" ∈ TB := tb_mem 513 (by decide +kernel) (by decide +kernel)
theorem qst_1053 : Cond.fieldLink RJ0 1053 "jdk/internal/util/Preconditions" "SIOOBE_FORMATTER" "Ljava/util/function/BiFunction;" ∈ TB := tb_mem 556 (by decide +kernel) (by decide +kernel)
theorem qst_15 : Cond.fieldLink RJ0 15 "java/lang/String" "coder" "B" ∈ TB := tb_mem 2204 (by decide +kernel) (by decide +kernel)
theorem qst_9 : Cond.fieldLink RJ0 9 "java/lang/String" "value" "[B" ∈ TB := tb_mem 2205 (by decide +kernel) (by decide +kernel)
theorem qmath_J1_92 {p : Program} {s : State} {m : MethodId} {args : Array Value} {meth : Method} {c : Code} {own : String} {cc : ByteArray} {nL : Nat} {ret : Option FieldType} {V : EV} {G : GS} (C : CX p s m args meth c own cc nL ret V G) : (Cond.methodLink RJ1 92 Lib.Math.max.name).before args s = true := C.2.2.2.2.2.1 _ (tb_mem 529 (by decide +kernel) (by decide +kernel))
theorem qmath_J1_38 {p : Program} {s : State} {m : MethodId} {args : Array Value} {meth : Method} {c : Code} {own : String} {cc : ByteArray} {nL : Nat} {ret : Option FieldType} {V : EV} {G : GS} (C : CX p s m args meth c own cc nL ret V G) : (Cond.methodLink RJ1 38 Lib.Math.min.name).before args s = true := C.2.2.2.2.2.1 _ (tb_mem 532 (by decide +kernel) (by decide +kernel))
theorem qobji : Cond.instanceMethod Lib.objectInit ∈ TB := tb_mem 161 (by decide +kernel) (by decide +kernel)
theorem qobjc : Cond.code Lib.objectInit ⟨#[0xb1]⟩ 1 none ∈ TB := tb_mem 162 (by decide +kernel) (by decide +kernel)
theorem qarr_C : Cond.arrayClass .char ∈ TB := tb_mem 201 (by decide +kernel) (by decide +kernel)
theorem qarr_I : Cond.arrayClass .int ∈ TB := tb_mem 282 (by decide +kernel) (by decide +kernel)
theorem qarr_Z : Cond.arrayClass .boolean ∈ TB := tb_mem 283 (by decide +kernel) (by decide +kernel)
theorem qao_S {p : Program} {s : State} {m : MethodId} {args : Array Value} {meth : Method} {c : Code} {own : String} {cc : ByteArray} {nL : Nat} {ret : Option FieldType} {V : EV} {G : GS} (C : CX p s m args meth c own cc nL ret V G) : va_AO RX7 s := C.2.2.2.2.2.2.2.2.2.2.2.2.1
theorem qao_F {p : Program} {s : State} {m : MethodId} {args : Array Value} {meth : Method} {c : Code} {own : String} {cc : ByteArray} {nL : Nat} {ret : Option FieldType} {V : EV} {G : GS} (C : CX p s m args meth c own cc nL ret V G) : va_AO RX2 s := C.2.2.2.2.2.2.2.2.2.2.2.1
theorem qarr_J : Cond.arrayClass .long ∈ TB := tb_mem 366 (by decide +kernel) (by decide +kernel)
theorem qarr_B : Cond.arrayClass .byte ∈ TB := tb_mem 743 (by decide +kernel) (by decide +kernel)
theorem qin_0 : Cond.instantiable RX0 8 ∈ TB := tb_mem 203 (by decide +kernel) (by decide +kernel)
theorem qini_0 : Cond.initialized RX0 ∈ TB := tb_mem 134 (by decide +kernel) (by decide +kernel)
theorem qin_1 : Cond.instantiable RX1 12 ∈ TB := tb_mem 238 (by decide +kernel) (by decide +kernel)
theorem qini_1 : Cond.initialized RX1 ∈ TB := tb_mem 135 (by decide +kernel) (by decide +kernel)
theorem qin_2 : Cond.instantiable RX2 8 ∈ TB := tb_mem 701 (by decide +kernel) (by decide +kernel)
theorem qini_2 : Cond.initialized RX2 ∈ TB := tb_mem 148 (by decide +kernel) (by decide +kernel)
theorem qin_3 : Cond.instantiable RX3 2 ∈ TB := tb_mem 763 (by decide +kernel) (by decide +kernel)
theorem qini_3 : Cond.initialized RX3 ∈ TB := tb_mem 149 (by decide +kernel) (by decide +kernel)
theorem qin_4 : Cond.instantiable RX4 4 ∈ TB := tb_mem 285 (by decide +kernel) (by decide +kernel)
theorem qini_4 : Cond.initialized RX4 ∈ TB := tb_mem 136 (by decide +kernel) (by decide +kernel)
theorem qin_5 : Cond.instantiable RX5 2 ∈ TB := tb_mem 368 (by decide +kernel) (by decide +kernel)
theorem qini_5 : Cond.initialized RX5 ∈ TB := tb_mem 139 (by decide +kernel) (by decide +kernel)
theorem qin_6 : Cond.instantiable RX6 3 ∈ TB := tb_mem 839 (by decide +kernel) (by decide +kernel)
theorem qini_6 : Cond.initialized RX6 ∈ TB := tb_mem 150 (by decide +kernel) (by decide +kernel)
theorem qin_7 : Cond.instantiable RX7 4 ∈ TB := tb_mem 292 (by decide +kernel) (by decide +kernel)
theorem qini_7 : Cond.initialized RX7 ∈ TB := tb_mem 137 (by decide +kernel) (by decide +kernel)
theorem qin_8 : Cond.instantiable RX8 8 ∈ TB := tb_mem 164 (by decide +kernel) (by decide +kernel)
theorem qini_8 : Cond.initialized RX8 ∈ TB := tb_mem 133 (by decide +kernel) (by decide +kernel)
theorem qin_9 : Cond.instantiable RX9 7 ∈ TB := tb_mem 330 (by decide +kernel) (by decide +kernel)
theorem qini_9 : Cond.initialized RX9 ∈ TB := tb_mem 138 (by decide +kernel) (by decide +kernel)
theorem qin_10 : Cond.instantiable RX10 2 ∈ TB := tb_mem 451 (by decide +kernel) (by decide +kernel)
theorem qini_10 : Cond.initialized RX10 ∈ TB := tb_mem 141 (by decide +kernel) (by decide +kernel)
theorem qin_11 : Cond.instantiable RX11 17 ∈ TB := tb_mem 156 (by decide +kernel) (by decide +kernel)
theorem qini_11 : Cond.initialized RX11 ∈ TB := tb_mem 132 (by decide +kernel) (by decide +kernel)
theorem qin_12 : Cond.instantiable RX12 29 ∈ TB := tb_mem 1477 (by decide +kernel) (by decide +kernel)
theorem qini_12 : Cond.initialized RX12 ∈ TB := tb_mem 140 (by decide +kernel) (by decide +kernel)
