theorem ns_at {args : Array Value} {s : State} (hts : ∀ w ∈ TB, w.before args s = true) (hD : DW s) : ∀ w ∈ vx_at0 RX11 288 NSE nsN, w.before args s = true := by
  intro w hw
  have h := List.all_eq_true.mp ns_good w hw
  simp only [Bool.and_eq_true, Bool.or_eq_true, Bool.not_eq_true', decide_eq_true_eq] at h
  obtain ⟨⟨-, h1⟩, h2⟩ := h
  cases hg : goodWord w with
  | true =>
    rcases h1 with h1 | h1
    · rw [hg] at h1; cases h1
    · exact hts w (List.mem_filter.mpr ⟨h1, hg⟩)
  | false =>
    rcases h2 with h2 | ⟨h2, h3⟩
    · rw [hg] at h2; cases h2
    · have hn := hD w (db_mem h3 h2)
      cases w <;> first | exact va_Nw.use rfl hn | exact Bool.noConfusion h2
theorem ns_ot : ∀ w ∈ Cond.classLink RX11 286 NSE :: Cond.initialized NSE :: vx_at0 RX11 288 NSE nsN, vx_ot w = true := by
  intro w hw
  rcases List.mem_cons.mp hw with rfl | hw
  · decide
  rcases List.mem_cons.mp hw with rfl | hw
  · decide
  have h := List.all_eq_true.mp ns_good w hw
  simp only [Bool.and_eq_true] at h
  exact h.1.1
theorem ns_ini : Cond.initialized NSE ∈ TB := List.mem_filter.mpr ⟨by decide +kernel, by decide +kernel⟩
/-- may return or throw: none = thrown -/
abbrev QX (V : EV) (G : GS) (S : HS) (o : Option Int32) (sz : Nat) : Array Value → State → Outcome → State → Prop := va_Qi (fun r' (_ : Unit) => o = some r') (fun _ t => PST V G S t) (AG G sz)
abbrev XX (V : EV) (G : GS) (S : HS) (o : Option Int32) (sz : Nat) : String → State → State → Prop := vx_X (fun (_ : Unit) => o = none) (fun E _ t => E = NSE ∧ PST V G S t) (AG G sz)
def RMX (fr lo : Nat) : Room := { frames := fr, cells := 1, slots := 6, locals := lo }
def MetX (l : Launch) (y : MethodName) (cc : ByteArray) (nL : Nat) (fr lo : Nat) (V : EV) (G : GS) (S : HS) (av : List Value) (o : Option Int32) (S1 : HS) : Prop :=
  ∀ sz, vx_Met l y (.code y cc nL (some .int) :: TB) (RMX fr lo) (PRE V G S sz av) (QX V G S1 o sz) (XX V G S1 o sz) 1 6 (AG G sz)
theorem x_inX {l : Launch} {y : MethodName} {cc : ByteArray} {nL : Nat} {ret : Option FieldType} {rm : Room} {V : EV} {G : GS} {S : HS} {sz : Nat} {av : List Value} {Qc : Array Value → State → Outcome → State → Prop} {XC : String → State → State → Prop} {mc ms : Nat} {free : Addr → Prop} (own : String) (hown : y.cls = own) (hy : plainName y.cls = true) (hN : G.1.Nodup) (hlen : (lg_sl av).length ≤ nL)
    (kk : ∀ (p : Program) (e : Env) (s : State) (m : MethodId) (args : Array Value) (below : List Frame) (meth : Method) (c : Code) (ls : Array Slot), s.heap.size = sz → args = av.toArray → meth.name = y.name → (∀ x ∈ c.exceptionTable.toList, False) → CX p s m args meth c own cc nL ret V G → HP V G S s.heap → va_S (AG G s.heap.size) s.heap s.heap [] → lv_has ls nL (lv_args 0 av) → W p l e rm s m args below meth c s.heap [] 0 0 (vx_MQ below Qc XC args s mc ms free) (F0 m 0 ls [])) :
    vx_Met l y (.code y cc nL ret :: TB) rm (PRE V G S sz av) Qc XC mc ms free := by
  refine vx_ofW (cc := cc) (maxL := nL) (ret := ret) hy rfl ?_
  intro p e s m args below meth c s₁ B hml htab hv
  obtain ⟨rfl, hsz, hP, hK, hT, hnw⟩ := hv
  have hts := atoms_spec (ws := .code y cc nL ret :: TB) B.pre
  have ho : s.vm.findClass own = some m.cls := hown ▸ findClass_of_methodNamed B.named
  subst hsz
  have hl := lv_entry av hlen
  rw [lg_entry_eq]
  exact kk p e s m _ below meth c _ rfl rfl (name_of_methodNamed B.named B.method).1 htab ⟨B.exec, B.bytes, B.returns, hml, ho, fun w hw => hts w (List.mem_cons_of_mem _ hw), hK, B.notSynchronized, hT, hN, hnw⟩ hP va_S.rf hl
section THROW
variable {p : Program} {l : Launch} {e : Env} {R : Room} {s : State} {m : MethodId} {args : Array Value} {below : List Frame} {meth : Method} {c : Code} {H : Heap} {locs : List Loc}
variable {cc : ByteArray} {nL : Nat} {ret : Option FieldType} {V : EV} {G : GS} {S : HS} {pc : Nat} {ls : Array Slot} {o : Option Int32}
theorem hp_more {H1 : Heap} (hP : HP V G S H) (hk : ∀ q : Nat, q < H.size → H1[q]? = H[q]?) : HP V G S H1 := va_P.kept hP (fun k q h => hk q.1 (vx_lt hP h))
theorem x_throw (C : CX p s m args meth c RX11 cc nL ret V G) (hst : l.stackTraces = false) (htab : ∀ x ∈ c.exceptionTable.toList, False) (hP : HP V G S H) (hS : va_S (AG G s.heap.size) s.heap H locs) (hW : WT G S) (hsz : ls.size = nL) (ho : o = none)
    (d0 : decode cc pc = .ok (.new 286, 3)) (d3 : decode cc (pc + 3) = .ok (.dup, 1)) (d4 : decode cc (pc + 4) = .ok (.invokespecial 288, 3)) (d7 : decode cc (pc + 7) = .ok (.athrow, 1))
    (hR : 5 < R.frames ∧ 81 ≤ R.locals ∧ 1 ≤ R.cells ∧ 6 ≤ R.slots) :
    W p l e R s m args below meth c H locs 0 0 (vx_MQ below (QX V G S o s.heap.size) (XX V G S o s.heap.size) args s 1 6 (AG G s.heap.size)) (F0 m pc ls []) := by
  have hT := C.2.2.2.2.2.2.2.2.1
  refine vx_throw0 (names := nsN) (cls := NSE) (own := RX11) (ik := 286) (ic := 288) (A := AG G s.heap.size) C.1 C.2.1 hst C.2.2.2.2.1 (by decide +kernel) (by decide +kernel) (C.2.2.2.2.2.1 _ qcl_X11_286) (C.2.2.2.2.2.1 _ ns_ini) (ns_at C.2.2.2.2.2.1 C.2.2.2.2.2.2.2.2.2.2.2.2.2) ns_ot hT.2.2.2.1 hT.2.2.2.2 hS (hsz.trans C.2.2.2.1.symm) d0 d3 d4 d7 (fun x hx => (htab x hx).elim) hR.1 hR.2.1 hR.2.2.1 hR.2.2.2 C.2.2.2.2.2.2.2.1 (fun t hv hz hk => ?_) hS.2.2 (Nat.le_refl _) (Nat.le_refl _)
  refine ⟨(), ho, ⟨rfl, hp_more hP hk, hW⟩, Nat.le_trans hS.1 hz, fun q h1 h2 => ?_⟩
  rw [hk q (Nat.lt_of_lt_of_le h1 hS.1)]
  exact hS.2.1 q h1 h2
theorem x_retX (C : CX p s m args meth c RX11 cc nL (some .int) V G) (hP : HP V G S H) (hS : va_S (AG G s.heap.size) s.heap H locs) (hW : WT G S) {v : Int32} (ho : o = some v) (hdg : decode cc pc = .ok (.ireturn, 1)) :
    W p l e R s m args below meth c H locs 0 0 (vx_MQ below (QX V G S o s.heap.size) (XX V G S o s.heap.size) args s 1 6 (AG G s.heap.size)) (F0 m pc ls [.int v]) :=
  vx_ret (W.widen (Nat.zero_le _) (Nat.zero_le _) (W.iret C.1 C.2.1 C.2.2.1 (fun t ht hw => ⟨⟨v, (), rfl, ho, by rw [ht]; exact hP, hW⟩, hS.F ht⟩) hS.2.2 hdg C.2.2.2.2.2.2.2.1))
end THROW
