section LGAP
variable {l : Launch} {V : EV} {G : GS} {S S' : HS} {x o F : Nat} {f : Nat → Int64} {w : Option Int32}
theorem ago_le {s : State} {H : Heap} (hz : s.heap.size ≤ H.size) : ∀ q : Nat, AG G H.size q → AGo G o s.heap.size q := fun q h => Or.inl (h.elim Or.inl (fun z => Or.inr (Nat.le_trans hz z)))
theorem va_S_mono {A B : Nat → Prop} {H0 H : Heap} {locs : List Loc} (h : va_S A H0 H locs) (hAB : ∀ q, A q → B q) : va_S B H0 H locs := ⟨h.1, fun q h1 h2 => h.2.1 q h1 (fun z => h2 (hAB q z)), fun z hz => hAB _ (h.2.2 z hz)⟩
theorem wo_D {A : Nat → Prop} (h : A o) : va_D A (wO V o f) := by
  refine ⟨fun i j p q hi hj hpq => ?_, fun k q hq => ?_⟩
  · cases i with
    | zero => cases j with
      | zero => rfl
      | succ j => cases hj
    | succ i => cases hi
  · cases k with
    | zero => cases hq; exact h
    | succ k => cases hq
theorem x_inG {y : MethodName} {cc : ByteArray} {nL : Nat} {hh : List (Nat × Nat × Nat × Nat)} {rm : Room} {sz : Nat} {av : List Value} {Qc : Array Value → State → Outcome → State → Prop} {XC : String → State → State → Prop} {mc ms : Nat} {free : Addr → Prop} (hown : y.cls = RL) (hy : plainName y.cls = true) (hN : G.1.Nodup) (hlen : (lg_sl av).length ≤ nL)
    (kk : ∀ (p : Program) (e : Env) (s : State) (m : MethodId) (args : Array Value) (below : List Frame) (meth : Method) (c : Code) (ls : Array Slot), s.heap.size = sz → args = av.toArray → c.exceptionTable.toList = tableOf hh → CX p s m args meth c RL cc nL (some .int) V G → HP V G S s.heap → HO V o f s.heap → va_S (AG G s.heap.size) s.heap s.heap [] → lv_has ls nL (lv_args 0 av) → W p l e rm s m args below meth c s.heap [] 0 0 (vx_MQ below Qc XC args s mc ms free) (F0 m 0 ls [])) :
    vx_Met l y (.codeWith y cc nL (some .int) hh :: TB) rm (PREg V G S o f sz av) Qc XC mc ms free := by
  refine vx_ofWH (cc := cc) (maxL := nL) (ret := some .int) (hh := hh) hy rfl ?_
  intro p e s m args below meth c s₁ B hml hv
  obtain ⟨rfl, hsz, hP, hO, hK, hT, hnw⟩ := hv
  have hts := atoms_spec (ws := .codeWith y cc nL (some .int) hh :: TB) B.pre
  have ho : s.vm.findClass RL = some m.cls := hown ▸ findClass_of_methodNamed B.named
  have htab : c.exceptionTable.toList = tableOf hh := vx_table (x := y) B (hts _ List.mem_cons_self)
  subst hsz
  have hl := lv_entry av hlen
  rw [lg_entry_eq]
  exact kk p e s m _ below meth c _ rfl rfl htab ⟨B.exec, B.bytes, B.returns, hml, ho, fun w hw => hts w (List.mem_cons_of_mem _ hw), hK, B.notSynchronized, str_kept hT (fun _ _ _ => rfl) (fun q z => Or.inl z), hN, hnw⟩ hP hO va_S.rf hl
theorem x_last_o {p : Program} {e : Env} {R : Room} {s : State} {m : MethodId} {args : Array Value} {below : List Frame} {meth : Method} {c : Code} {H H0 : Heap} {locs : List Loc} {cells slots sz : Nat} {Q : State → Prop} {cc : ByteArray} {pc : Nat} {ls : Array Slot} {rest : List Value} {v : Int64}
    (hx : p.tables.exec = Jvm.exec) (hb : c.code = cc) (hK : va_K V.1 vwCl (tyl V.2.1) s) (hP : HP V G S H) (hO : HO V o f H) (hN : G.1.Nodup) (ho : o ∉ G.1) (hS : va_S (AGo G o sz) H0 H locs) (hdg : decode cc pc = .ok (.lastore, 1))
    (kk : ∀ (H1 : Heap) (locs1 : List Loc), HP V G S H1 → HO V o (vp_updL f 0 v) H1 → va_S (AGo G o sz) H0 H1 locs1 → W p l e R s m args below meth c H1 locs1 cells slots Q (F0 m (pc + 1) ls rest)) : W p l e R s m args below meth c H locs cells slots Q (F0 m pc ls (.long v :: .int 0 :: .ref o :: rest)) := by
  have hlen : (mkW V.2.1 G S)[(mkW V.2.1 G S).length]? = none := List.getElem?_eq_none (Nat.le_refl _)
  have hat : ∀ f1 : Nat → Int64, (mkW V.2.1 G S ++ wO V o f1)[(mkW V.2.1 G S).length]? = some (o, .inl (V.2.1 2, 1, .inr (.inl f1))) := fun f1 => by
    rw [List.getElem?_append_right (Nat.le_refl _), Nat.sub_self]; rfl
  have hin : ∀ (k : Nat) (q : Nat × va_E), (mkW V.2.1 G S)[k]? = some q → q.1 ∈ G.1 := fun k q hq => by
    unfold mkW va_pl at hq
    rw [List.getElem?_map] at hq
    cases hg : G.1[k]? with
    | none => rw [hg] at hq; cases hq
    | some a => rw [hg] at hq; cases hq; exact List.mem_of_getElem? hg
  have hD : va_D (AGo G o sz) (mkW V.2.1 G S ++ wO V o f) := by
    have d1 : va_D (AGo G o sz) (mkW V.2.1 G S) := mk_D hN (fun x h => Or.inl (Or.inl h))
    have d2 : va_D (AGo G o sz) (wO V o f) := wo_D (Or.inr rfl)
    refine ⟨fun i j a b hi hj hab => ?_, fun k q hq => ?_⟩
    · by_cases h1 : i < (mkW V.2.1 G S).length
      · rw [List.getElem?_append_left h1] at hi
        by_cases h2 : j < (mkW V.2.1 G S).length
        · rw [List.getElem?_append_left h2] at hj
          exact d1.1 i j a b hi hj hab
        · rw [List.getElem?_append_right (Nat.not_lt.mp h2)] at hj
          have hb : b.1 = o := by
            generalize j - (mkW V.2.1 G S).length = r at hj
            cases r with
            | zero => cases hj; rfl
            | succ r => cases hj
          exact absurd (hb ▸ hab ▸ hin i a hi) ho
      · rw [List.getElem?_append_right (Nat.not_lt.mp h1)] at hi
        have ha : a.1 = o := by
          generalize i - (mkW V.2.1 G S).length = r at hi
          cases r with
          | zero => cases hi; rfl
          | succ r => cases hi
        by_cases h2 : j < (mkW V.2.1 G S).length
        · rw [List.getElem?_append_left h2] at hj
          exact absurd (ha ▸ hab.symm ▸ hin j b hj) ho
        · rw [List.getElem?_append_right (Nat.not_lt.mp h2)] at hj
          have := d2.1 _ _ a b hi hj hab
          omega
    · by_cases h1 : k < (mkW V.2.1 G S).length
      · rw [List.getElem?_append_left h1] at hq; exact d1.2 k q hq
      · rw [List.getElem?_append_right (Nat.not_lt.mp h1)] at hq; exact d2.2 _ q hq
  refine va_last hx hb hK (va_P.app hP hO) hD hS (mkW V.2.1 G S).length 2 (hat f) rfl (inB_in (by decide)) hdg (fun H1 locs1 hP1 _ hS1 => ?_)
  have e1 : ∀ z : va_E, (mkW V.2.1 G S ++ wO V o f).set (mkW V.2.1 G S).length (o, z) = mkW V.2.1 G S ++ [(o, z)] := fun z => by
    rw [List.set_append_right _ _ (Nat.le_refl _), Nat.sub_self]; rfl
  rw [e1] at hP1
  refine kk H1 locs1 (fun k q hq => hP1 k q ?_) (fun k q hq => hP1 ((mkW V.2.1 G S).length + k) q ?_) hS1
  · rw [List.getElem?_append_left (List.getElem?_eq_some_iff.mp hq).1]; exact hq
  · rw [List.getElem?_append_right (Nat.le_add_right _ _), Nat.add_sub_cancel_left]; exact hq
set_option maxRecDepth 100000 in
set_option maxHeartbeats 4000000 in
theorem c_L_gap (p0 p1 p2 : Int32) (hst : l.stackTraces = false) (hN : G.1.Nodup) (hW : WT G S) (h_x : x ∈ G.1) (k_x : G.2.1 x = 11) (h_o : o ∉ G.1) (hf : g_X11_gap G.2.2 x p0 p1 p2 S = some w) : MetG l yL_gap cL_gap 6 hhg 7 138 V G S o f [.ref x, .int p0, .int p1, .int p2, .ref o] w S := by
  intro sz
  refine x_inG rfl (by decide +kernel) hN (Nat.le_of_ble_eq_true rfl) (fun p e s m args below meth c ls hsz hargs htab C hP hO hS hl => ?_)
  subst hsz
  have hx := C.1
  have hb := C.2.1
  have hl : lv_has ls 6 [(0, .ref x), (1, .int p0), (2, .int p1), (3, .int p2), (4, .ref o)] := hl
  have hoz := ho_lt hO
  refine lv_aload hx hb dL_gap_0 (lv_at hl 4 rfl) ?_
  refine lv_iconst (v := 0) hx hb dL_gap_2 rfl ?_
  refine lv_aload_n hx hb dL_gap_3 rfl (lv_at hl 0 rfl) ?_
  refine lv_iload_n hx hb dL_gap_4 rfl (lv_at hl 1 rfl) ?_
  refine lv_iload_n hx hb dL_gap_5 rfl (lv_at hl 2 rfl) ?_
  refine lv_iload_n hx hb dL_gap_6 rfl (lv_at hl 3 rfl) ?_
  obtain ⟨q0, hq⟩ := mk_get (cy := V.2.1) (S := S) h_x
  have hfix : CallFix p m c cL_gap 6 s args TB RL := ⟨C.1, C.2.1, C.2.2.2.1, C.2.2.2.2.1, C.2.2.2.2.2.1⟩
  have hrecv := va_recv C.2.2.2.2.2.2.1 hP (show vwCl[11]? = some (RX11, TX11, 17) from rfl) (hq.trans (congrArg (fun z => some (x, z)) (cell_obj (cy := V.2.1) (S := S) k_x (by decide))))
  have hpre : PreV s s.heap RX11 x (PRE V G S s.heap.size [.ref x, .int p0, .int p1, .int p2]) [.int p0, .int p1, .int p2] := ⟨pre_blind, hrecv, x_pre C hP hS [.ref x, .int p0, .int p1, .int p2]⟩
  have hlk : Cond.methodLink RL 7 yX11_gap ∈ TB := tb_mem 1383 (by decide +kernel) (by decide +kernel)
  have hrun := vx_runV (rest := [.int 0, .ref o]) (cells := 0) (slots := 0) (locs := []) (g := F0 m 7 ls _) hfix (c_X11_gap (l := l) hst hN hW h_x k_x hf s.heap.size) ⟨y_callB (rm := RMX 6 111) (R := RMX 7 138) C km_X11_gap hlk ⟨by decide, by decide⟩, C.2.2.2.2.2.1 _ (ki_X11_gap).1, C.2.2.2.2.2.1 _ (ki_X11_gap).2⟩ hpre rfl rfl hl.1 rfl (lv_room (Nat.le_of_ble_eq_true rfl)) dL_gap_7 ⟨by decide, by decide⟩ (p := p) (l := l) (e := e) (below := below) (meth := meth)
  refine vx_calli hrun (va_S_mono hS (B := AGo G o s.heap.size) (fun q z => Or.inl z)) (fun q _ h => Or.inl h) (fun q h => Or.inl h) (fun q _ h => Or.inl h) (fun E ce q9 u t H1 locs1 ht hvm hu hB hz hk hS1 hce hcv hcl => ?_) (fun r u t H1 locs1 ht hvm hp hB hz hk hS1 => ?_)
  · obtain ⟨rfl, hB⟩ := hB
    have hO1 : HO V o f H1 := ho_dis hO hk h_o
    refine vx_catch (own := RL) (name := NSE) C.2.2.2.2.1 [] _ [] (htab.trans rfl) (fun z hz => nomatch hz) (by decide) (by decide) (C.2.2.2.2.2.1 _ qcl_L_13) (va_Nw.use rfl (C.2.2.2.2.2.2.2.2.2.2.2.2.2 _ ns_cast)) hce hcv hcl ?_
    subst ht
    refine lv_astore (lv' := (5, .ref q9) :: [(0, .ref x), (1, .int p0), (2, .int p1), (3, .int p2), (4, .ref o)]) hx hb dL_gap_15 hl (by decide) rfl (fun ls hl => ?_)
    refine lv_iconst (v := 1) hx hb dL_gap_17 rfl ?_
    exact vx_ret (W.widen (Nat.le_of_ble_eq_true rfl) (Nat.le_of_ble_eq_true rfl) (W.iret C.1 C.2.1 C.2.2.1 (fun t ht hw => ⟨⟨1, f, rfl, ⟨by rw [hu]; rfl, fun v hv => by rw [hu] at hv; cases hv⟩, ⟨by rw [ht]; exact hB.1, hB.2⟩, by rw [ht]; exact hO1⟩, hS1.F ht⟩) hS1.2.2 dL_gap_18 C.2.2.2.2.2.2.2.1))
  · have hO1 : HO V o f H1 := ho_dis hO hk h_o
    have hP1 : HP V G S H1 := by rw [← ht]; exact hB.1
    refine lv_i2l hx hb dL_gap_10 rfl ?_
    refine x_last_o hx hb C.2.2.2.2.2.2.1 hP1 hO1 hN h_o hS1 dL_gap_11 (fun H2 locs2 hP2 hO2 hS2 => ?_)
    refine lv_goto (tgt := 19) hx hb dL_gap_12 (by decide) ?_
    refine lv_iconst (v := 0) hx hb dL_gap_19 rfl ?_
    exact vx_ret (W.widen (Nat.le_of_ble_eq_true rfl) (Nat.le_of_ble_eq_true rfl) (W.iret C.1 C.2.1 C.2.2.1 (fun t ht hw => ⟨⟨0, vp_updL f 0 r.toInt64, rfl, ⟨by rw [hp]; rfl, fun v hv => by rw [hp] at hv; cases hv; rfl⟩, ⟨by rw [ht]; exact hP2, hB.2⟩, by rw [ht]; exact hO2⟩, hS2.F ht⟩) hS2.2.2 dL_gap_20 C.2.2.2.2.2.2.2.1))
set_option maxRecDepth 100000 in
set_option maxHeartbeats 4000000 in
theorem c_L_whole (p0 : Int32) (hst : l.stackTraces = false) (hN : G.1.Nodup) (hW : WT G S) (h_x : x ∈ G.1) (k_x : G.2.1 x = 11) (h_o : o ∉ G.1) (hf : g_X11_whole G.2.2 F x p0 S = some (w, S')) : MetG l yL_whole cL_whole 4 hhw 7 138 V G S o f [.ref x, .int p0, .ref o] w S' := by
  intro sz
  refine x_inG rfl (by decide +kernel) hN (Nat.le_of_ble_eq_true rfl) (fun p e s m args below meth c ls hsz hargs htab C hP hO hS hl => ?_)
  subst hsz
  have hx := C.1
  have hb := C.2.1
  have hl : lv_has ls 4 [(0, .ref x), (1, .int p0), (2, .ref o)] := hl
  have hoz := ho_lt hO
  refine lv_aload_n hx hb dL_whole_0 rfl (lv_at hl 2 rfl) ?_
  refine lv_iconst (v := 0) hx hb dL_whole_1 rfl ?_
  refine lv_aload_n hx hb dL_whole_2 rfl (lv_at hl 0 rfl) ?_
  refine lv_iload_n hx hb dL_whole_3 rfl (lv_at hl 1 rfl) ?_
  obtain ⟨q0, hq⟩ := mk_get (cy := V.2.1) (S := S) h_x
  have hfix : CallFix p m c cL_whole 4 s args TB RL := ⟨C.1, C.2.1, C.2.2.2.1, C.2.2.2.2.1, C.2.2.2.2.2.1⟩
  have hrecv := va_recv C.2.2.2.2.2.2.1 hP (show vwCl[11]? = some (RX11, TX11, 17) from rfl) (hq.trans (congrArg (fun z => some (x, z)) (cell_obj (cy := V.2.1) (S := S) k_x (by decide))))
  have hpre : PreV s s.heap RX11 x (PRE V G S s.heap.size [.ref x, .int p0]) [.int p0] := ⟨pre_blind, hrecv, x_pre C hP hS [.ref x, .int p0]⟩
  have hlk : Cond.methodLink RL 15 yX11_whole ∈ TB := tb_mem 1456 (by decide +kernel) (by decide +kernel)
  have hrun := vx_runV (rest := [.int 0, .ref o]) (cells := 0) (slots := 0) (locs := []) (g := F0 m 4 ls _) hfix (c_X11_whole (l := l) hst hN hW h_x k_x hf s.heap.size) ⟨y_callB (rm := RMX 6 111) (R := RMX 7 138) C km_X11_whole hlk ⟨by decide, by decide⟩, C.2.2.2.2.2.1 _ (ki_X11_whole).1, C.2.2.2.2.2.1 _ (ki_X11_whole).2⟩ hpre rfl rfl hl.1 rfl (lv_room (Nat.le_of_ble_eq_true rfl)) dL_whole_4 ⟨by decide, by decide⟩ (p := p) (l := l) (e := e) (below := below) (meth := meth)
  refine vx_calli hrun (va_S_mono hS (B := AGo G o s.heap.size) (fun q z => Or.inl z)) (fun q _ h => Or.inl h) (fun q h => Or.inl h) (fun q _ h => Or.inl h) (fun E ce q9 u t H1 locs1 ht hvm hu hB hz hk hS1 hce hcv hcl => ?_) (fun r u t H1 locs1 ht hvm hp hB hz hk hS1 => ?_)
  · obtain ⟨rfl, hB⟩ := hB
    have hO1 : HO V o f H1 := ho_dis hO hk h_o
    refine vx_catch (own := RL) (name := NSE) C.2.2.2.2.1 [] _ [] (htab.trans rfl) (fun z hz => nomatch hz) (by decide) (by decide) (C.2.2.2.2.2.1 _ qcl_L_13) (va_Nw.use rfl (C.2.2.2.2.2.2.2.2.2.2.2.2.2 _ ns_cast)) hce hcv hcl ?_
    subst ht
    refine lv_astore_n (lv' := (3, .ref q9) :: [(0, .ref x), (1, .int p0), (2, .ref o)]) hx hb dL_whole_12 rfl hl (by decide) rfl (fun ls hl => ?_)
    refine lv_iconst (v := 1) hx hb dL_whole_13 rfl ?_
    exact vx_ret (W.widen (Nat.le_of_ble_eq_true rfl) (Nat.le_of_ble_eq_true rfl) (W.iret C.1 C.2.1 C.2.2.1 (fun t ht hw => ⟨⟨1, f, rfl, ⟨by rw [hu]; rfl, fun v hv => by rw [hu] at hv; cases hv⟩, ⟨by rw [ht]; exact hB.1, hB.2⟩, by rw [ht]; exact hO1⟩, hS1.F ht⟩) hS1.2.2 dL_whole_14 C.2.2.2.2.2.2.2.1))
  · have hO1 : HO V o f H1 := ho_dis hO hk h_o
    have hP1 : HP V G S' H1 := by rw [← ht]; exact hB.1
    refine lv_i2l hx hb dL_whole_7 rfl ?_
    refine x_last_o hx hb C.2.2.2.2.2.2.1 hP1 hO1 hN h_o hS1 dL_whole_8 (fun H2 locs2 hP2 hO2 hS2 => ?_)
    refine lv_goto (tgt := 15) hx hb dL_whole_9 (by decide) ?_
    refine lv_iconst (v := 0) hx hb dL_whole_15 rfl ?_
    exact vx_ret (W.widen (Nat.le_of_ble_eq_true rfl) (Nat.le_of_ble_eq_true rfl) (W.iret C.1 C.2.1 C.2.2.1 (fun t ht hw => ⟨⟨0, vp_updL f 0 r.toInt64, rfl, ⟨by rw [hp]; rfl, fun v hv => by rw [hp] at hv; cases hv; rfl⟩, ⟨by rw [ht]; exact hP2, hB.2⟩, by rw [ht]; exact hO2⟩, hS2.F ht⟩) hS2.2.2 dL_whole_16 C.2.2.2.2.2.2.2.1))
end LGAP
