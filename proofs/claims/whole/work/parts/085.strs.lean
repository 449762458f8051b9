section STRS
variable {p : Program} {l : Launch} {e : Env} {R : Room} {s : State} {m : MethodId} {args : Array Value} {below : List Frame} {meth : Method} {c : Code} {H : Heap} {locs : List Loc} {cells slots : Nat} {Q : State → Prop}
variable {own : String} {cc : ByteArray} {nL : Nat} {ret : Option FieldType} {V : EV} {G : GS} {S S1 : HS} {pc : Nat} {ls : Array Slot} {rest : List Value} {a ci k f N idx w : Nat} {st As : List Value}
variable {y : MethodName} {bytes : ByteArray} {maxL n fr lo : Nat} {rty : Option FieldType}
def sByt (w : Nat) (i : Int32) : Int32 := (sbyt.getD w []).getD i.toNatClampNeg 0
theorem t_value (C : CX p s m args meth c own cc nL ret V G) (hS : va_S (AG G s.heap.size) s.heap H locs) (hw : w < nSC) (hlink : Cond.fieldLink own idx "java/lang/String" "value" "[B" ∈ TB) (hdg : decode cc pc = .ok (.getfield idx, 3))
    (kk : W p l e R s m args below meth c H locs cells slots Q (F0 m (pc + 3) ls (.ref (V.2.2.2 w) :: rest))) : W p l e R s m args below meth c H locs cells slots Q (F0 m pc ls (.ref (V.2.2.1 w) :: rest)) :=
  vk_getf C.1 C.2.1 (C.2.2.2.2.2.2.2.2.1.1.1.1 w hw).2.2.1 hS C.2.2.2.2.1 (C.2.2.2.2.2.1 _ hlink) (fun _ h => h) hdg kk
theorem t_coder (C : CX p s m args meth c own cc nL ret V G) (hS : va_S (AG G s.heap.size) s.heap H locs) (hw : w < nSC) (hlink : Cond.fieldLink own idx "java/lang/String" "coder" "B" ∈ TB) (hdg : decode cc pc = .ok (.getfield idx, 3))
    (kk : W p l e R s m args below meth c H locs cells slots Q (F0 m (pc + 3) ls (.int 0 :: rest))) : W p l e R s m args below meth c H locs cells slots Q (F0 m pc ls (.ref (V.2.2.1 w) :: rest)) :=
  vk_getf C.1 C.2.1 (C.2.2.2.2.2.2.2.2.1.1.1.1 w hw).2.1 hS C.2.2.2.2.1 (C.2.2.2.2.2.1 _ hlink) (fun _ h => h) hdg kk
theorem t_compact (C : CX p s m args meth c own cc nL ret V G) (hS : va_S (AG G s.heap.size) s.heap H locs) (hlink : Cond.fieldLink own idx "java/lang/String" "COMPACT_STRINGS" "Z" ∈ TB) (hdg : decode cc pc = .ok (.getstatic idx, 3))
    (kk : W p l e R s m args below meth c H locs cells slots Q (F0 m (pc + 3) ls (.int 1 :: rest))) : W p l e R s m args below meth c H locs cells slots Q (F0 m pc ls rest) :=
  va_gets C.1 C.2.1 C.2.2.2.2.2.2.2.2.1.2.1 hS C.2.2.2.2.1 (C.2.2.2.2.2.1 _ hlink) (fun _ h => h) hdg kk
theorem t_len (C : CX p s m args meth c own cc nL ret V G) (hS : va_S (AG G s.heap.size) s.heap H locs) (hw : w < nSC) (hdg : decode cc pc = .ok (.arraylength, 1))
    (kk : W p l e R s m args below meth c H locs cells slots Q (F0 m (pc + 1) ls (.int (sLen w) :: rest))) : W p l e R s m args below meth c H locs cells slots Q (F0 m pc ls (.ref (V.2.2.2 w) :: rest)) :=
  va_tlen C.1 C.2.1 (C.2.2.2.2.2.2.2.2.1.1.1.1 w hw).2.2.2 hS rfl hdg kk
theorem t_byte (C : CX p s m args meth c own cc nL ret V G) (hS : va_S (AG G s.heap.size) s.heap H locs) (hw : w < nSC) {i : Int32} (hin : inB i (slen.getD w 0) = true) (hdg : decode cc pc = .ok (.baload, 1))
    (kk : W p l e R s m args below meth c H locs cells slots Q (F0 m (pc + 1) ls (.int (sByt w i) :: rest))) : W p l e R s m args below meth c H locs cells slots Q (F0 m pc ls (.int i :: .ref (V.2.2.2 w) :: rest)) :=
  va_tb C.1 C.2.1 (C.2.2.2.2.2.2.2.2.1.1.1.1 w hw).2.2.2 hS (inB_in hin) rfl hdg kk
theorem y_runT {Qc : Array Value → State → Outcome → State → Prop} {free : Addr → Prop} (C : CX p s m args meth c own cc nL ret V G) (hP : HP V G S H) (hS : va_S (AG G s.heap.size) s.heap H locs) (hw : w < nSC) (hM : Met l y (.code y bytes maxL rty :: TB) (RM fr lo) (PRE V G S H.size (.ref (V.2.2.1 w) :: As)) Qc 0 0 free) (hcy : y.cls = "java/lang/String") (hk : KM y bytes maxL rty n) (hi : Cond.instanceMethod y ∈ TB ∧ Cond.selects "java/lang/String" y y ∈ TB) (hl : LKM own idx y) (hR : fr + 1 ≤ R.frames ∧ 8 + (maxL + 11) + lo ≤ R.locals) (hn : As.length = n) (hsize : ls.size = nL) (hst : st = As.reverse ++ .ref (V.2.2.1 w) :: rest) (hrest : (rest.map fun v => v.category).sum ≤ 8) (hf : cells ≤ R.cells ∧ slots ≤ R.slots) (hdg : decode cc pc = .ok (.invokevirtual idx, 3)) :
    va_Run p l e R s m args below meth c H locs cells slots 0 0 (F0 m pc ls st) rest (Qc (Value.ref (V.2.2.1 w) :: As).toArray) free := by
  have hfix : CallFix p m c cc nL s args TB own := ⟨C.1, C.2.1, C.2.2.2.1, C.2.2.2.2.1, C.2.2.2.2.2.1⟩
  have hrecv := vk_recv C.2.2.2.2.2.2.2.2.1.1.1 hw hS
  have hpre : PreV s H "java/lang/String" (V.2.2.1 w) (PRE V G S H.size (.ref (V.2.2.1 w) :: As)) As := ⟨pre_blind, hrecv, x_pre C hP hS (.ref (V.2.2.1 w) :: As)⟩
  rcases hl with hl | ⟨host, hl⟩
  · exact va_runV hfix hM ⟨x_callB C hk hl hR, C.2.2.2.2.2.1 _ hi.1, C.2.2.2.2.2.1 _ hi.2⟩ hpre rfl hn hsize hst (lv_room hrest) hdg hf
  · exact va_runVN hfix hM ⟨x_callN C hk hl hR, C.2.2.2.2.2.1 _ hi.1, C.2.2.2.2.2.1 _ hi.2⟩ hpre rfl hn hsize hst (lv_room hrest) hdg hf
end STRS
set_option maxRecDepth 100000 in
set_option maxHeartbeats 4000000 in
theorem c_J3_checkIndex {l : Launch} {V : EV} {G : GS} {S : HS} {i n : Int32} {x : Value} (hx0 : x = .null ∨ ∃ t, x = .ref t) (hN : G.1.Nodup) (hW : WT G S) (h0 : ¬ i < 0) (h1 : i < n) : MetI l yJ3_checkIndex_8e157 cJ3_checkIndex_8e157 3 .int 0 0 V G S [.int i, .int n, x] i S := by
  intro sz
  have hsl : (lg_sl [.int i, .int n, x]).length ≤ 3 := by rcases hx0 with rfl | ⟨t, rfl⟩ <;> exact Nat.le_of_ble_eq_true rfl
  refine x_in RJ3 rfl (by decide +kernel) hN hsl (fun p e s m args below meth c ls hsz hargs hnm C hP hS hl => ?_)
  subst hsz
  have hx := C.1
  have hb := C.2.1
  have hl : lv_has ls 3 [(0, .int i), (1, .int n), (2, x)] := by rcases hx0 with rfl | ⟨t, rfl⟩ <;> exact hl
  refine lv_iload_n hx hb dJ3_checkIndex_8e157_0 rfl (lv_at hl 0 rfl) ?_
  refine lv_if_lt (tgt := 9) hx hb dJ3_checkIndex_8e157_1 (by decide) (fun c1 => absurd c1 h0) (fun _ => ?_)
  refine lv_iload_n hx hb dJ3_checkIndex_8e157_4 rfl (lv_at hl 0 rfl) ?_
  refine lv_iload_n hx hb dJ3_checkIndex_8e157_5 rfl (lv_at hl 1 rfl) ?_
  refine lv_icmp_lt (tgt := 16) hx hb dJ3_checkIndex_8e157_6 (by decide) (fun _ => ?_) (fun c2 => absurd h1 c2)
  refine lv_iload_n hx hb dJ3_checkIndex_8e157_16 rfl (lv_at hl 0 rfl) ?_
  exact x_reti C hP hS hW dJ3_checkIndex_8e157_17
set_option maxRecDepth 100000 in
set_option maxHeartbeats 4000000 in
theorem c_J0_checkIndex {l : Launch} {V : EV} {G : GS} {S : HS} {i n : Int32} (hN : G.1.Nodup) (hW : WT G S) (h0 : ¬ i < 0) (h1 : i < n) : MetV l yJ0_checkIndex_df160 cJ0_checkIndex_df160 2 1 30 V G S [.int i, .int n] S := by
  intro sz
  refine x_in RJ0 rfl (by decide +kernel) hN (Nat.le_of_ble_eq_true rfl) (fun p e s m args below meth c ls hsz hargs hnm C hP hS hl => ?_)
  subst hsz
  have hx := C.1
  have hb := C.2.1
  have hl : lv_has ls 2 [(0, .int i), (1, .int n)] := hl
  refine lv_iload_n hx hb dJ0_checkIndex_df160_0 rfl (lv_at hl 0 rfl) ?_
  refine lv_iload_n hx hb dJ0_checkIndex_df160_1 rfl (lv_at hl 1 rfl) ?_
  have go : ∀ x : Value, (x = .null ∨ ∃ t, x = .ref t) → va_Z "jdk/internal/util/Preconditions" "SIOOBE_FORMATTER" "Ljava/util/function/BiFunction;" x (AG G s.heap.size) s s.heap → W p l e (RM 1 30) s m args below meth c s.heap [] 0 0 (MQ below (QV V G S s.heap.size) args s 0 0 (AG G s.heap.size)) (F0 m 2 ls [.int n, .int i]) := by
    intro x hx0 hz
    refine va_gets hx hb hz hS C.2.2.2.2.1 (C.2.2.2.2.2.1 _ qst_1053) (fun _ h => h) dJ0_checkIndex_df160_2 ?_
    refine x_aft_i (x_runS (As := [.int i, .int n, x]) (rest := []) C hP hS (c_J3_checkIndex (l := l) hx0 C.2.2.2.2.2.2.2.2.2.1 hW h0 h1 s.heap.size) km_J3_checkIndex_8e157 ks_J3_checkIndex_8e157 qm_J0_1059 ⟨Nat.le_of_ble_eq_true rfl, Nat.le_of_ble_eq_true rfl⟩ rfl hl.1 rfl (Nat.le_of_ble_eq_true rfl) ⟨Nat.zero_le _, Nat.zero_le _⟩ dJ0_checkIndex_df160_5) hS (fun H locs hP hS hW => ?_)
    refine lv_pop hx hb dJ0_checkIndex_df160_8 rfl ?_
    exact x_retv C hP hS hW dJ0_checkIndex_df160_9
  rcases C.2.2.2.2.2.2.2.2.1.2.2.1 with hz | ⟨t, hz⟩
  · exact go .null (Or.inl rfl) hz
  · exact go (.ref t) (Or.inr ⟨t, rfl⟩) hz
theorem sby_ok : ∀ w, w < nSC → ∀ k, k < slen.getD w 0 → (((((sbyt.getD w []).getD k 0) &&& 255).toUInt32 % 65536).toInt32 = (sbyt.getD w []).getD k 0 ∧ narrow .char (.int ((sbyt.getD w []).getD k 0)) = .int ((sbyt.getD w []).getD k 0) ∧ ((sbyt.getD w []).getD k 0) &&& 255 = (sbyt.getD w []).getD k 0 ∧ ((sbyt.getD w []).getD k 0).toInt8.toInt32 = (sbyt.getD w []).getD k 0 ∧ 0 ≤ (sbyt.getD w []).getD k 0 ∧ (sbyt.getD w []).getD k 0 ≤ 255) := by decide +kernel
theorem slen_ok : ∀ w, w < nSC → slen.getD w 0 = (sbyt.getD w []).length ∧ slen.getD w 0 < 2 ^ 31 := by decide +kernel
theorem inB_lt {i : Int32} {n : Nat} (hn : n < 2 ^ 31) (h : inB i n = true) : ¬ i < 0 ∧ i < Int32.ofNat n ∧ i.toNatClampNeg < n := by
  obtain ⟨j, hj, rfl⟩ := vp_in_of (inB_in h) hn
  exact ⟨nI_pos (by omega), nI_lt hj hn, by rw [nI_clamp (by omega)]; exact hj⟩
set_option maxRecDepth 100000 in
set_option maxHeartbeats 4000000 in
theorem c_J0_coder {l : Launch} {V : EV} {G : GS} {S : HS} {w : Nat} (hN : G.1.Nodup) (hW : WT G S) (hw : w < nSC) : MetI l yJ0_coder_7d493 cJ0_coder_7d493 1 .byte 0 0 V G S [.ref (V.2.2.1 w)] 0 S := by
  intro sz
  refine x_in RJ0 rfl (by decide +kernel) hN (Nat.le_of_ble_eq_true rfl) (fun p e s m args below meth c ls hsz hargs hnm C hP hS hl => ?_)
  subst hsz
  have hx := C.1
  have hb := C.2.1
  have hl : lv_has ls 1 [(0, .ref (V.2.2.1 w))] := hl
  refine t_compact C hS qst_38 dJ0_coder_7d493_0 ?_
  refine lv_if_eq (tgt := 13) hx hb dJ0_coder_7d493_3 (by decide) (fun c1 => absurd c1 (by decide)) (fun _ => ?_)
  refine lv_aload_n hx hb dJ0_coder_7d493_6 rfl (lv_at hl 0 rfl) ?_
  refine t_coder C hS hw qst_15 dJ0_coder_7d493_7 ?_
  refine lv_goto (tgt := 14) hx hb dJ0_coder_7d493_10 (by decide) ?_
  exact x_retz C hP hS hW (by decide +kernel) dJ0_coder_7d493_14
set_option maxRecDepth 100000 in
set_option maxHeartbeats 4000000 in
theorem c_J0_isLatin1 {l : Launch} {V : EV} {G : GS} {S : HS} {w : Nat} (hN : G.1.Nodup) (hW : WT G S) (hw : w < nSC) : MetZ l yJ0_isLatin1_aae02 cJ0_isLatin1_aae02 1 0 0 V G S [.ref (V.2.2.1 w)] 1 S := by
  intro sz
  refine x_in RJ0 rfl (by decide +kernel) hN (Nat.le_of_ble_eq_true rfl) (fun p e s m args below meth c ls hsz hargs hnm C hP hS hl => ?_)
  subst hsz
  have hx := C.1
  have hb := C.2.1
  have hl : lv_has ls 1 [(0, .ref (V.2.2.1 w))] := hl
  refine t_compact C hS qst_38 dJ0_isLatin1_aae02_0 ?_
  refine lv_if_eq (tgt := 17) hx hb dJ0_isLatin1_aae02_3 (by decide) (fun c1 => absurd c1 (by decide)) (fun _ => ?_)
  refine lv_aload_n hx hb dJ0_isLatin1_aae02_6 rfl (lv_at hl 0 rfl) ?_
  refine t_coder C hS hw qst_15 dJ0_isLatin1_aae02_7 ?_
  refine lv_if_ne (tgt := 17) hx hb dJ0_isLatin1_aae02_10 (by decide) (fun c1 => absurd rfl c1) (fun _ => ?_)
  refine lv_iconst (v := 1) hx hb dJ0_isLatin1_aae02_13 rfl ?_
  refine lv_goto (tgt := 18) hx hb dJ0_isLatin1_aae02_14 (by decide) ?_
  exact x_retZ C hP hS hW isZ_1 dJ0_isLatin1_aae02_18
set_option maxRecDepth 100000 in
set_option maxHeartbeats 4000000 in
theorem c_J0_length {l : Launch} {V : EV} {G : GS} {S : HS} {w : Nat} (hN : G.1.Nodup) (hW : WT G S) (hw : w < nSC) : MetI l yJ0_length_8abf5 cJ0_length_8abf5 1 .int 1 30 V G S [.ref (V.2.2.1 w)] (sLen w) S := by
  intro sz
  refine x_in RJ0 rfl (by decide +kernel) hN (Nat.le_of_ble_eq_true rfl) (fun p e s m args below meth c ls hsz hargs hnm C hP hS hl => ?_)
  subst hsz
  have hx := C.1
  have hb := C.2.1
  have hl : lv_has ls 1 [(0, .ref (V.2.2.1 w))] := hl
  refine lv_aload_n hx hb dJ0_length_8abf5_0 rfl (lv_at hl 0 rfl) ?_
  refine t_value C hS hw qst_9 dJ0_length_8abf5_1 ?_
  refine t_len C hS hw dJ0_length_8abf5_4 ?_
  refine lv_aload_n hx hb dJ0_length_8abf5_5 rfl (lv_at hl 0 rfl) ?_
  refine x_aft_i (y_runT (As := []) (rest := [.int (sLen w)]) C hP hS hw (c_J0_coder (l := l) C.2.2.2.2.2.2.2.2.2.1 hW hw s.heap.size) rfl km_J0_coder_7d493 ki_J0_coder_7d493 qm_J0_335 ⟨Nat.le_of_ble_eq_true rfl, Nat.le_of_ble_eq_true rfl⟩ rfl hl.1 rfl (Nat.le_of_ble_eq_true rfl) ⟨Nat.zero_le _, Nat.zero_le _⟩ dJ0_length_8abf5_6) hS (fun H locs hP hS hW => ?_)
  refine lv_ishr hx hb dJ0_length_8abf5_9 ?_
  refine nm_i (sb_shr0 (sLen w)).symm ?_
  exact x_reti C hP hS hW dJ0_length_8abf5_10
set_option maxRecDepth 100000 in
set_option maxHeartbeats 4000000 in
theorem c_J1_charAt {l : Launch} {V : EV} {G : GS} {S : HS} {w : Nat} {i : Int32} (hN : G.1.Nodup) (hW : WT G S) (hw : w < nSC) (hi : inB i (slen.getD w 0) = true) : MetI l yJ1_charAt_3b067 cJ1_charAt_3b067 2 .char 2 60 V G S [.ref (V.2.2.2 w), .int i] (sByt w i) S := by
  intro sz
  have hlt := inB_lt (slen_ok w hw).2 hi
  have hby := sby_ok w hw _ hlt.2.2
  refine x_in RJ1 rfl (by decide +kernel) hN (Nat.le_of_ble_eq_true rfl) (fun p e s m args below meth c ls hsz hargs hnm C hP hS hl => ?_)
  subst hsz
  have hx := C.1
  have hb := C.2.1
  have hl : lv_has ls 2 [(0, .ref (V.2.2.2 w)), (1, .int i)] := hl
  refine lv_iload_n hx hb dJ1_charAt_3b067_0 rfl (lv_at hl 1 rfl) ?_
  refine lv_aload_n hx hb dJ1_charAt_3b067_1 rfl (lv_at hl 0 rfl) ?_
  refine t_len C hS hw dJ1_charAt_3b067_2 ?_
  refine x_aft_v (x_runS (As := [.int i, .int (sLen w)]) (rest := []) C hP hS (c_J0_checkIndex (l := l) C.2.2.2.2.2.2.2.2.2.1 hW hlt.1 hlt.2.1 s.heap.size) km_J0_checkIndex_df160 ks_J0_checkIndex_df160 qm_J1_9 ⟨Nat.le_of_ble_eq_true rfl, Nat.le_of_ble_eq_true rfl⟩ rfl hl.1 rfl (Nat.le_of_ble_eq_true rfl) ⟨Nat.zero_le _, Nat.zero_le _⟩ dJ1_charAt_3b067_3) hS (fun H locs hP hS hW => ?_)
  refine lv_aload_n hx hb dJ1_charAt_3b067_6 rfl (lv_at hl 0 rfl) ?_
  refine lv_iload_n hx hb dJ1_charAt_3b067_7 rfl (lv_at hl 1 rfl) ?_
  refine t_byte C hS hw hi dJ1_charAt_3b067_8 ?_
  refine lv_sipush (v := 255) hx hb dJ1_charAt_3b067_9 kc_sipush_255 ?_
  refine lv_iand hx hb dJ1_charAt_3b067_12 ?_
  refine lv_i2c hx hb dJ1_charAt_3b067_13 hby.1 ?_
  exact x_retz C hP hS hW hby.2.1 dJ1_charAt_3b067_14
set_option maxRecDepth 100000 in
set_option maxHeartbeats 4000000 in
theorem c_J0_charAt {l : Launch} {V : EV} {G : GS} {S : HS} {w : Nat} {i : Int32} (hN : G.1.Nodup) (hW : WT G S) (hw : w < nSC) (hi : inB i (slen.getD w 0) = true) : MetI l yJ0_charAt_5068e cJ0_charAt_5068e 2 .char 3 90 V G S [.ref (V.2.2.1 w), .int i] (sByt w i) S := by
  intro sz
  have hlt := inB_lt (slen_ok w hw).2 hi
  have hby := sby_ok w hw _ hlt.2.2
  refine x_in RJ0 rfl (by decide +kernel) hN (Nat.le_of_ble_eq_true rfl) (fun p e s m args below meth c ls hsz hargs hnm C hP hS hl => ?_)
  subst hsz
  have hx := C.1
  have hb := C.2.1
  have hl : lv_has ls 2 [(0, .ref (V.2.2.1 w)), (1, .int i)] := hl
  refine lv_aload_n hx hb dJ0_charAt_5068e_0 rfl (lv_at hl 0 rfl) ?_
  refine x_aft_z (y_runT (As := []) (rest := []) C hP hS hw (c_J0_isLatin1 (l := l) C.2.2.2.2.2.2.2.2.2.1 hW hw s.heap.size) rfl km_J0_isLatin1_aae02 ki_J0_isLatin1_aae02 qm_J0_492 ⟨Nat.le_of_ble_eq_true rfl, Nat.le_of_ble_eq_true rfl⟩ rfl hl.1 rfl (Nat.le_of_ble_eq_true rfl) ⟨Nat.zero_le _, Nat.zero_le _⟩ dJ0_charAt_5068e_1) hS (fun H locs hP hS hW _ => ?_)
  refine lv_if_eq (tgt := 16) hx hb dJ0_charAt_5068e_4 (by decide) (fun c1 => absurd c1 (by decide)) (fun _ => ?_)
  refine lv_aload_n hx hb dJ0_charAt_5068e_7 rfl (lv_at hl 0 rfl) ?_
  refine t_value C hS hw qst_9 dJ0_charAt_5068e_8 ?_
  refine lv_iload_n hx hb dJ0_charAt_5068e_11 rfl (lv_at hl 1 rfl) ?_
  refine x_aft_i (x_runS (As := [.ref (V.2.2.2 w), .int i]) (rest := []) C hP hS (c_J1_charAt (l := l) C.2.2.2.2.2.2.2.2.2.1 hW hw hi H.size) km_J1_charAt_3b067 ks_J1_charAt_3b067 qm_J0_495 ⟨Nat.le_of_ble_eq_true rfl, Nat.le_of_ble_eq_true rfl⟩ rfl hl.1 rfl (Nat.le_of_ble_eq_true rfl) ⟨Nat.zero_le _, Nat.zero_le _⟩ dJ0_charAt_5068e_12) hS (fun H locs hP hS hW => ?_)
  exact x_retz C hP hS hW hby.2.1 dJ0_charAt_5068e_15
set_option maxRecDepth 100000 in
set_option maxHeartbeats 4000000 in
theorem c_J1_canEncode {l : Launch} {V : EV} {G : GS} {S : HS} {i : Int32} (hN : G.1.Nodup) (hW : WT G S) : MetZ l yJ1_canEncode_9a6ad cJ1_canEncode_9a6ad 1 0 0 V G S [.int i] (if i < 0 then 0 else if 255 < i then 0 else 1) S := by
  intro sz
  refine x_in RJ1 rfl (by decide +kernel) hN (Nat.le_of_ble_eq_true rfl) (fun p e s m args below meth c ls hsz hargs hnm C hP hS hl => ?_)
  subst hsz
  have hx := C.1
  have hb := C.2.1
  have hl : lv_has ls 1 [(0, .int i)] := hl
  refine lv_iload_n hx hb dJ1_canEncode_9a6ad_0 rfl (lv_at hl 0 rfl) ?_
  refine lv_if_lt (tgt := 15) hx hb dJ1_canEncode_9a6ad_1 (by decide) (fun c1 => ?_) (fun c1 => ?_)
  · rw [if_pos c1]
    refine lv_iconst (v := 0) hx hb dJ1_canEncode_9a6ad_15 rfl ?_
    exact x_retZ C hP hS hW isZ_0 dJ1_canEncode_9a6ad_16
  rw [if_neg c1]
  refine lv_iload_n hx hb dJ1_canEncode_9a6ad_4 rfl (lv_at hl 0 rfl) ?_
  refine lv_sipush (v := 255) hx hb dJ1_canEncode_9a6ad_5 kc_sipush_255 ?_
  refine lv_icmp_gt (tgt := 15) hx hb dJ1_canEncode_9a6ad_8 (by decide) (fun c2 => ?_) (fun c2 => ?_)
  · rw [if_pos c2]
    refine lv_iconst (v := 0) hx hb dJ1_canEncode_9a6ad_15 rfl ?_
    exact x_retZ C hP hS hW isZ_0 dJ1_canEncode_9a6ad_16
  rw [if_neg c2]
  refine lv_iconst (v := 1) hx hb dJ1_canEncode_9a6ad_11 rfl ?_
  refine lv_goto (tgt := 16) hx hb dJ1_canEncode_9a6ad_12 (by decide) ?_
  exact x_retZ C hP hS hW isZ_1 dJ1_canEncode_9a6ad_16
theorem inB_nI {k n : Nat} (h : k < n) (hn : n < 2 ^ 31) : inB (nI k) n = true := by
  unfold inB
  rw [nI_toInt (by omega)]
  exact decide_eq_true ⟨by omega, by omega⟩
set_option maxRecDepth 100000 in
set_option maxHeartbeats 4000000 in
theorem b_J1_indexOfChar {p : Program} {l : Launch} {e : Env} {s : State} {m : MethodId} {args : Array Value} {below : List Frame} {meth : Method} {c : Code} {V : EV} {G : GS} {S : HS} {w : Nat} {i : Int32} (C : CX p s m args meth c RJ1 cJ1_indexOfChar_4cfef 6 (some .int) V G) (hP : HP V G S s.heap) (hS : va_S (AG G s.heap.size) s.heap s.heap []) (hW : WT G S) (hw : w < nSC) (h0 : 0 ≤ i) (h1 : i ≤ 255) : ∀ (t : List Int32) (k : Nat), k ≤ (sbyt.getD w []).length → (sbyt.getD w []).drop k = t → ∀ ls : Array Slot, lv_has ls 6 [(5, .int (nI k)), (4, .int i.toInt8.toInt32), (3, .int (sLen w)), (0, .ref (V.2.2.2 w))] → W p l e (RM 0 0) s m args below meth c s.heap [] 0 0 (MQ below (QI V G S (sIdxF i t k) s.heap.size) args s 0 0 (AG G s.heap.size)) (F0 m 7 ls []) := by
  have hx := C.1
  have hb := C.2.1
  have hsl := slen_ok w hw
  obtain ⟨n, hn, rfl⟩ : ∃ n : Nat, n < 256 ∧ i = nI n := by
    obtain ⟨n, hn, e⟩ := nI_of2 (M := 255) (n := 255) (by decide) (show ¬ i < 0 from by rw [Int32.not_lt]; exact h0) h1
    exact ⟨n, by omega, e⟩
  intro t
  induction t with
  | nil =>
    intro k hkl hk ls hl
    have hlen : (sbyt.getD w []).length = k := by
      have := congrArg List.length hk
      simp only [List.length_drop, List.length_nil] at this
      omega
    refine lv_iload hx hb dJ1_indexOfChar_4cfef_7 (lv_at hl 0 rfl) ?_
    refine lv_iload_n hx hb dJ1_indexOfChar_4cfef_9 rfl (lv_at hl 2 rfl) ?_
    refine lv_icmp_ge (tgt := 31) hx hb dJ1_indexOfChar_4cfef_10 (by decide) (fun _ => ?_) (fun c1 => absurd (by show nI _ ≤ _; rw [hsl.1, hlen]; exact Int32.le_refl _) c1)
    refine lv_iconst (v := -1) hx hb dJ1_indexOfChar_4cfef_31 rfl ?_
    exact x_reti C hP hS hW dJ1_indexOfChar_4cfef_32
  | cons b t ih =>
    intro k hkl hk ls hl
    obtain ⟨hk1, hk2, hk3, -⟩ := sc_dropC hk
    have hkn : k < slen.getD w 0 := by rw [hsl.1]; exact hk1
    have hby := sby_ok w hw k hkn
    have hin := inB_nI hkn hsl.2
    have hsb : sByt w (nI k) = b := by unfold sByt; rw [nI_clamp (by omega)]; exact hk2
    rw [hk2] at hby
    refine lv_iload hx hb dJ1_indexOfChar_4cfef_7 (lv_at hl 0 rfl) ?_
    refine lv_iload_n hx hb dJ1_indexOfChar_4cfef_9 rfl (lv_at hl 2 rfl) ?_
    refine lv_icmp_ge (tgt := 31) hx hb dJ1_indexOfChar_4cfef_10 (by decide) (fun c1 => absurd c1 (nI_ge hkn hsl.2)) (fun _ => ?_)
    refine lv_aload_n hx hb dJ1_indexOfChar_4cfef_13 rfl (lv_at hl 3 rfl) ?_
    refine lv_iload hx hb dJ1_indexOfChar_4cfef_14 (lv_at hl 0 rfl) ?_
    refine t_byte C hS hw hin dJ1_indexOfChar_4cfef_16 ?_
    rw [hsb]
    refine lv_iload hx hb dJ1_indexOfChar_4cfef_17 (lv_at hl 1 rfl) ?_
    have heq := sc_eq hby.2.2.2.1 hn
    rw [hby.2.2.1] at heq
    refine lv_icmp_ne (tgt := 25) hx hb dJ1_indexOfChar_4cfef_19 (by decide) (fun c1 => ?_) (fun c1 => ?_)
    · have hne : ¬ b = nI n := fun h => c1 (heq.mpr h)
      show W _ _ _ _ _ _ _ _ _ _ _ _ _ _ (MQ below (QI V G S (if b = nI n then nI k else sIdxF (nI n) t (k + 1)) s.heap.size) args s 0 0 (AG G s.heap.size)) _
      rw [if_neg hne]
      refine lv_iinc (v := nI (k + 1)) (lv' := [(5, .int (nI (k + 1))), (4, .int (nI n).toInt8.toInt32), (3, .int (sLen w)), (0, .ref (V.2.2.2 w))]) hx hb dJ1_indexOfChar_4cfef_25 hl (k := 0) rfl (nI_succ k).symm (by decide) rfl (fun ls hl => ?_)
      refine lv_goto (tgt := 7) hx hb dJ1_indexOfChar_4cfef_28 (by decide) ?_
      exact ih (k + 1) (by omega) hk3 ls hl
    · have he : b = nI n := heq.mp c1
      show W _ _ _ _ _ _ _ _ _ _ _ _ _ _ (MQ below (QI V G S (if b = nI n then nI k else sIdxF (nI n) t (k + 1)) s.heap.size) args s 0 0 (AG G s.heap.size)) _
      rw [if_pos he]
      refine lv_iload hx hb dJ1_indexOfChar_4cfef_22 (lv_at hl 0 rfl) ?_
      exact x_reti C hP hS hW dJ1_indexOfChar_4cfef_24
set_option maxRecDepth 100000 in
set_option maxHeartbeats 4000000 in
theorem c_J1_indexOfChar {l : Launch} {V : EV} {G : GS} {S : HS} {w : Nat} {i : Int32} (hN : G.1.Nodup) (hW : WT G S) (hw : w < nSC) (h0 : 0 ≤ i) (h1 : i ≤ 255) : MetI l yJ1_indexOfChar_4cfef cJ1_indexOfChar_4cfef 6 .int 0 0 V G S [.ref (V.2.2.2 w), .int i, .int 0, .int (sLen w)] (sIdx w i) S := by
  intro sz
  refine x_in RJ1 rfl (by decide +kernel) hN (Nat.le_of_ble_eq_true rfl) (fun p e s m args below meth c ls hsz hargs hnm C hP hS hl => ?_)
  subst hsz
  have hx := C.1
  have hb := C.2.1
  have hl : lv_has ls 6 [(0, .ref (V.2.2.2 w)), (1, .int i), (2, .int 0), (3, .int (sLen w))] := hl
  refine lv_iload_n hx hb dJ1_indexOfChar_4cfef_0 rfl (lv_at hl 1 rfl) ?_
  refine lv_i2b hx hb dJ1_indexOfChar_4cfef_1 rfl ?_
  refine lv_istore (lv' := [(4, .int i.toInt8.toInt32), (0, .ref (V.2.2.2 w)), (1, .int i), (2, .int 0), (3, .int (sLen w))]) hx hb dJ1_indexOfChar_4cfef_2 hl (by decide) rfl (fun ls hl => ?_)
  refine lv_iload_n hx hb dJ1_indexOfChar_4cfef_4 rfl (lv_at hl 3 rfl) ?_
  refine lv_istore (lv' := [(5, .int 0), (4, .int i.toInt8.toInt32), (0, .ref (V.2.2.2 w)), (1, .int i), (2, .int 0), (3, .int (sLen w))]) hx hb dJ1_indexOfChar_4cfef_5 hl (by decide) rfl (fun ls hl => ?_)
  exact b_J1_indexOfChar C hP hS hW hw h0 h1 _ 0 (Nat.zero_le _) rfl ls (lv_sub hl [0, 1, 5, 2] rfl)
theorem sIdx_out {i : Int32} (h : i < 0 ∨ 255 < i) : ∀ (t : List Int32), (∀ b ∈ t, 0 ≤ b ∧ b ≤ 255) → ∀ k, sIdxF i t k = -1 := by
  intro t
  induction t with
  | nil => intro _ k; rfl
  | cons b t ih =>
    intro hb k
    have h2 := hb b List.mem_cons_self
    have hne : ¬ b = i := by
      rintro rfl
      rcases h with h | h
      · exact absurd h2.1 (Int32.not_le.mpr h)
      · exact absurd h2.2 (Int32.not_le.mpr h)
    show (if b = i then Int32.ofNat k else sIdxF i t (k + 1)) = -1
    rw [if_neg hne]
    exact ih (fun x hx => hb x (List.mem_cons_of_mem _ hx)) (k + 1)
theorem sby_all {w : Nat} (hw : w < nSC) : ∀ b ∈ sbyt.getD w [], 0 ≤ b ∧ b ≤ 255 := by
  intro b hb
  obtain ⟨k, hk, rfl⟩ := List.mem_iff_getElem.mp hb
  have h := sby_ok w hw k (by rw [(slen_ok w hw).1]; exact hk)
  have e : (sbyt.getD w []).getD k 0 = (sbyt.getD w [])[k] := by rw [List.getD_eq_getElem?_getD, List.getElem?_eq_getElem hk]; rfl
  rw [e] at h
  exact ⟨h.2.2.2.2.1, h.2.2.2.2.2⟩
theorem slen_pos : ∀ w, w < nSC → 0 < slen.getD w 0 := by decide +kernel
set_option maxRecDepth 100000 in
set_option maxHeartbeats 4000000 in
theorem c_J1_indexOf {l : Launch} {V : EV} {G : GS} {S : HS} {w : Nat} {i : Int32} (hN : G.1.Nodup) (hW : WT G S) (hw : w < nSC) : MetI l yJ1_indexOf_4cfef cJ1_indexOf_4cfef 4 .int 1 40 V G S [.ref (V.2.2.2 w), .int i, .int 0, .int (sLen w)] (sIdx w i) S := by
  intro sz
  refine x_in RJ1 rfl (by decide +kernel) hN (Nat.le_of_ble_eq_true rfl) (fun p e s m args below meth c ls hsz hargs hnm C hP hS hl => ?_)
  subst hsz
  have hx := C.1
  have hb := C.2.1
  have hl : lv_has ls 4 [(0, .ref (V.2.2.2 w)), (1, .int i), (2, .int 0), (3, .int (sLen w))] := hl
  refine lv_iload_n hx hb dJ1_indexOf_4cfef_0 rfl (lv_at hl 1 rfl) ?_
  refine x_aft_z (x_runS (As := [.int i]) (rest := []) C hP hS (c_J1_canEncode (l := l) C.2.2.2.2.2.2.2.2.2.1 hW s.heap.size) km_J1_canEncode_9a6ad ks_J1_canEncode_9a6ad qm_J1_88 ⟨Nat.le_of_ble_eq_true rfl, Nat.le_of_ble_eq_true rfl⟩ rfl hl.1 rfl (Nat.le_of_ble_eq_true rfl) ⟨Nat.zero_le _, Nat.zero_le _⟩ dJ1_indexOf_4cfef_1) hS (fun H locs hP hS hW _ => ?_)
  refine lv_if_ne (tgt := 9) hx hb dJ1_indexOf_4cfef_4 (by decide) (fun c1 => ?_) (fun c1 => ?_)
  · have h0 : 0 ≤ i := by
      by_cases h : i < 0
      · rw [if_pos h] at c1; exact absurd rfl c1
      · rw [Int32.not_lt] at h; exact h
    have h1 : i ≤ 255 := by
      by_cases h : 255 < i
      · rw [if_pos h] at c1
        by_cases h2 : i < 0
        · rw [if_pos h2] at c1; exact absurd rfl c1
        · rw [if_neg h2] at c1; exact absurd rfl c1
      · rw [Int32.not_lt] at h; exact h
    refine lv_iload_n hx hb dJ1_indexOf_4cfef_9 rfl (lv_at hl 2 rfl) ?_
    refine lv_iconst (v := 0) hx hb dJ1_indexOf_4cfef_10 rfl ?_
    refine va_mmax hx hb (C.2.2.2.1.trans hl.1.symm) C.2.2.2.2.1 (qmath_J1_92 C) (C.2.2.2.2.2.1 _ ks_J9_max_7cf53) (C.2.2.2.2.2.1 _ km_J9_max_7cf53.2.1) (C.2.2.2.2.2.1 _ km_J9_max_7cf53.1) (Nat.le_of_ble_eq_true rfl) (Nat.le_of_ble_eq_true rfl) (Nat.zero_le _) (Nat.zero_le _) dJ1_indexOf_4cfef_11 ?_
    refine lv_istore_n (lv' := [(2, .int 0), (0, .ref (V.2.2.2 w)), (1, .int i), (3, .int (sLen w))]) hx hb dJ1_indexOf_4cfef_14 rfl hl (by decide) rfl (fun ls hl => ?_)
    refine lv_iload_n hx hb dJ1_indexOf_4cfef_15 rfl (lv_at hl 3 rfl) ?_
    refine lv_aload_n hx hb dJ1_indexOf_4cfef_16 rfl (lv_at hl 1 rfl) ?_
    refine t_len C hS hw dJ1_indexOf_4cfef_17 ?_
    refine va_mmin hx hb (C.2.2.2.1.trans hl.1.symm) C.2.2.2.2.1 (qmath_J1_38 C) (C.2.2.2.2.2.1 _ ks_J9_min_7cf53) (C.2.2.2.2.2.1 _ km_J9_min_7cf53.2.1) (C.2.2.2.2.2.1 _ km_J9_min_7cf53.1) (Nat.le_of_ble_eq_true rfl) (Nat.le_of_ble_eq_true rfl) (Nat.zero_le _) (Nat.zero_le _) dJ1_indexOf_4cfef_18 ?_
    refine nm_i (ite_self (sLen w)).symm ?_
    refine lv_istore_n (lv' := [(3, .int (sLen w)), (2, .int 0), (0, .ref (V.2.2.2 w)), (1, .int i)]) hx hb dJ1_indexOf_4cfef_21 rfl hl (by decide) rfl (fun ls hl => ?_)
    refine lv_iload_n hx hb dJ1_indexOf_4cfef_22 rfl (lv_at hl 1 rfl) ?_
    refine lv_iload_n hx hb dJ1_indexOf_4cfef_23 rfl (lv_at hl 0 rfl) ?_
    refine lv_icmp_lt (tgt := 29) hx hb dJ1_indexOf_4cfef_24 (by decide) (fun _ => ?_) (fun c2 => absurd (nI_lt (slen_pos w hw) (slen_ok w hw).2) c2)
    refine lv_aload_n hx hb dJ1_indexOf_4cfef_29 rfl (lv_at hl 2 rfl) ?_
    refine lv_iload_n hx hb dJ1_indexOf_4cfef_30 rfl (lv_at hl 3 rfl) ?_
    refine lv_iload_n hx hb dJ1_indexOf_4cfef_31 rfl (lv_at hl 1 rfl) ?_
    refine lv_iload_n hx hb dJ1_indexOf_4cfef_32 rfl (lv_at hl 0 rfl) ?_
    refine x_aft_i (x_runS (As := [.ref (V.2.2.2 w), .int i, .int 0, .int (sLen w)]) (rest := []) C hP hS (c_J1_indexOfChar (l := l) C.2.2.2.2.2.2.2.2.2.1 hW hw h0 h1 H.size) km_J1_indexOfChar_4cfef ks_J1_indexOfChar_4cfef qm_J1_95 ⟨Nat.le_of_ble_eq_true rfl, Nat.le_of_ble_eq_true rfl⟩ rfl hl.1 rfl (Nat.le_of_ble_eq_true rfl) ⟨Nat.zero_le _, Nat.zero_le _⟩ dJ1_indexOf_4cfef_33) hS (fun H locs hP hS hW => ?_)
    exact x_reti C hP hS hW dJ1_indexOf_4cfef_36
  · have hout : i < 0 ∨ 255 < i := by
      by_cases h : i < 0
      · exact Or.inl h
      · by_cases h2 : 255 < i
        · exact Or.inr h2
        · rw [if_neg h, if_neg h2] at c1; exact absurd c1 (by decide)
    have er : sIdx w i = -1 := sIdx_out hout _ (sby_all hw) 0
    rw [er]
    refine lv_iconst (v := -1) hx hb dJ1_indexOf_4cfef_7 rfl ?_
    exact x_reti C hP hS hW dJ1_indexOf_4cfef_8
set_option maxRecDepth 100000 in
set_option maxHeartbeats 4000000 in
theorem c_J0_indexOf2 {l : Launch} {V : EV} {G : GS} {S : HS} {w : Nat} {i : Int32} (hN : G.1.Nodup) (hW : WT G S) (hw : w < nSC) : MetI l yJ0_indexOf_7cf53 cJ0_indexOf_7cf53 3 .int 2 70 V G S [.ref (V.2.2.1 w), .int i, .int 0] (sIdx w i) S := by
  intro sz
  refine x_in RJ0 rfl (by decide +kernel) hN (Nat.le_of_ble_eq_true rfl) (fun p e s m args below meth c ls hsz hargs hnm C hP hS hl => ?_)
  subst hsz
  have hx := C.1
  have hb := C.2.1
  have hl : lv_has ls 3 [(0, .ref (V.2.2.1 w)), (1, .int i), (2, .int 0)] := hl
  refine lv_aload_n hx hb dJ0_indexOf_7cf53_0 rfl (lv_at hl 0 rfl) ?_
  refine x_aft_z (y_runT (As := []) (rest := []) C hP hS hw (c_J0_isLatin1 (l := l) C.2.2.2.2.2.2.2.2.2.1 hW hw s.heap.size) rfl km_J0_isLatin1_aae02 ki_J0_isLatin1_aae02 qm_J0_492 ⟨Nat.le_of_ble_eq_true rfl, Nat.le_of_ble_eq_true rfl⟩ rfl hl.1 rfl (Nat.le_of_ble_eq_true rfl) ⟨Nat.zero_le _, Nat.zero_le _⟩ dJ0_indexOf_7cf53_1) hS (fun H locs hP hS hW _ => ?_)
  refine lv_if_eq (tgt := 23) hx hb dJ0_indexOf_7cf53_4 (by decide) (fun c1 => absurd c1 (by decide)) (fun _ => ?_)
  refine lv_aload_n hx hb dJ0_indexOf_7cf53_7 rfl (lv_at hl 0 rfl) ?_
  refine t_value C hS hw qst_9 dJ0_indexOf_7cf53_8 ?_
  refine lv_iload_n hx hb dJ0_indexOf_7cf53_11 rfl (lv_at hl 1 rfl) ?_
  refine lv_iload_n hx hb dJ0_indexOf_7cf53_12 rfl (lv_at hl 2 rfl) ?_
  refine lv_aload_n hx hb dJ0_indexOf_7cf53_13 rfl (lv_at hl 0 rfl) ?_
  refine x_aft_i (y_runT (As := []) (rest := [.int 0, .int i, .ref (V.2.2.2 w)]) C hP hS hw (c_J0_length (l := l) C.2.2.2.2.2.2.2.2.2.1 hW hw H.size) rfl km_J0_length_8abf5 ki_J0_length_8abf5 qm_J0_505 ⟨Nat.le_of_ble_eq_true rfl, Nat.le_of_ble_eq_true rfl⟩ rfl hl.1 rfl (Nat.le_of_ble_eq_true rfl) ⟨Nat.zero_le _, Nat.zero_le _⟩ dJ0_indexOf_7cf53_14) hS (fun H locs hP hS hW => ?_)
  refine x_aft_i (x_runS (As := [.ref (V.2.2.2 w), .int i, .int 0, .int (sLen w)]) (rest := []) C hP hS (c_J1_indexOf (l := l) C.2.2.2.2.2.2.2.2.2.1 hW hw H.size) km_J1_indexOf_4cfef ks_J1_indexOf_4cfef qm_J0_637 ⟨Nat.le_of_ble_eq_true rfl, Nat.le_of_ble_eq_true rfl⟩ rfl hl.1 rfl (Nat.le_of_ble_eq_true rfl) ⟨Nat.zero_le _, Nat.zero_le _⟩ dJ0_indexOf_7cf53_17) hS (fun H locs hP hS hW => ?_)
  refine lv_goto (tgt := 36) hx hb dJ0_indexOf_7cf53_20 (by decide) ?_
  exact x_reti C hP hS hW dJ0_indexOf_7cf53_36
set_option maxRecDepth 100000 in
set_option maxHeartbeats 4000000 in
theorem c_J0_indexOf {l : Launch} {V : EV} {G : GS} {S : HS} {w : Nat} {i : Int32} (hN : G.1.Nodup) (hW : WT G S) (hw : w < nSC) : MetI l yJ0_indexOf_0f7a4 cJ0_indexOf_0f7a4 2 .int 3 100 V G S [.ref (V.2.2.1 w), .int i] (sIdx w i) S := by
  intro sz
  refine x_in RJ0 rfl (by decide +kernel) hN (Nat.le_of_ble_eq_true rfl) (fun p e s m args below meth c ls hsz hargs hnm C hP hS hl => ?_)
  subst hsz
  have hx := C.1
  have hb := C.2.1
  have hl : lv_has ls 2 [(0, .ref (V.2.2.1 w)), (1, .int i)] := hl
  refine lv_aload_n hx hb dJ0_indexOf_0f7a4_0 rfl (lv_at hl 0 rfl) ?_
  refine lv_iload_n hx hb dJ0_indexOf_0f7a4_1 rfl (lv_at hl 1 rfl) ?_
  refine lv_iconst (v := 0) hx hb dJ0_indexOf_0f7a4_2 rfl ?_
  refine x_aft_i (y_runT (As := [.int i, .int 0]) (rest := []) C hP hS hw (c_J0_indexOf2 (l := l) C.2.2.2.2.2.2.2.2.2.1 hW hw s.heap.size) rfl km_J0_indexOf_7cf53 ki_J0_indexOf_7cf53 qm_J0_633 ⟨Nat.le_of_ble_eq_true rfl, Nat.le_of_ble_eq_true rfl⟩ rfl hl.1 rfl (Nat.le_of_ble_eq_true rfl) ⟨Nat.zero_le _, Nat.zero_le _⟩ dJ0_indexOf_0f7a4_3) hS (fun H locs hP hS hW => ?_)
  exact x_reti C hP hS hW dJ0_indexOf_0f7a4_6
section ROWS6
variable {p : Program} {l : Launch} {e : Env} {R : Room} {s : State} {m : MethodId} {args : Array Value} {below : List Frame} {meth : Method} {c : Code} {H : Heap} {locs : List Loc} {cells slots : Nat} {Q : State → Prop}
variable {own : String} {cc : ByteArray} {nL : Nat} {ret : Option FieldType} {V : EV} {G : GS} {S S1 : HS} {pc : Nat} {ls : Array Slot} {rest : List Value} {a ci k f N idx : Nat} {st : List Value}
theorem x_strlen {w : Nat} (C : CX p s m args meth c own cc nL ret V G) (hP : HP V G S H) (hS : va_S (AG G s.heap.size) s.heap H locs) (hW : WT G S) (hw : w < nSC) (hl : LKM own idx yJ0_length_8abf5) (hR : 11 ≤ R.frames ∧ 400 ≤ R.locals) (hsize : ls.size = nL) (hst : st = .ref (V.2.2.1 w) :: rest) (hrest : (rest.map fun v => v.category).sum ≤ 8) (hf : cells ≤ R.cells ∧ slots ≤ R.slots) (hdg : decode cc pc = .ok (.invokevirtual idx, 3))
    (kk : ∀ (H1 : Heap) (locs1 : List Loc), HP V G S H1 → va_S (AG G s.heap.size) s.heap H1 locs1 → WT G S → W p l e R s m args below meth c H1 locs1 cells slots Q (F0 m (pc + 3) ls (.int (sLen w) :: rest))) : W p l e R s m args below meth c H locs cells slots Q (F0 m pc ls st) := by
  exact x_aft_i (y_runT (As := []) C hP hS hw (c_J0_length (l := l) C.2.2.2.2.2.2.2.2.2.1 hW hw H.size) rfl km_J0_length_8abf5 ki_J0_length_8abf5 hl ⟨by omega, by omega⟩ rfl hsize hst hrest hf hdg) hS kk
theorem x_charAt {w : Nat} {i r : Int32} (C : CX p s m args meth c own cc nL ret V G) (hP : HP V G S H) (hS : va_S (AG G s.heap.size) s.heap H locs) (hW : WT G S) (hw : w < nSC) (he : sChr w i = some r) (hl : LKM own idx yJ0_charAt_5068e) (hR : 11 ≤ R.frames ∧ 400 ≤ R.locals) (hsize : ls.size = nL) (hst : st = .int i :: .ref (V.2.2.1 w) :: rest) (hrest : (rest.map fun v => v.category).sum ≤ 8) (hf : cells ≤ R.cells ∧ slots ≤ R.slots) (hdg : decode cc pc = .ok (.invokevirtual idx, 3))
    (kk : ∀ (H1 : Heap) (locs1 : List Loc), HP V G S H1 → va_S (AG G s.heap.size) s.heap H1 locs1 → WT G S → W p l e R s m args below meth c H1 locs1 cells slots Q (F0 m (pc + 3) ls (.int r :: rest))) : W p l e R s m args below meth c H locs cells slots Q (F0 m pc ls st) := by
  have hi : inB i (slen.getD w 0) = true := by
    unfold sChr at he
    exact (if_s he).1
  have hr : sByt w i = r := by
    unfold sChr at he
    exact Option.some.inj (if_s he).2
  subst hr
  exact x_aft_i (y_runT (As := [.int i]) C hP hS hw (c_J0_charAt (l := l) C.2.2.2.2.2.2.2.2.2.1 hW hw hi H.size) rfl km_J0_charAt_5068e ki_J0_charAt_5068e hl ⟨by omega, by omega⟩ rfl hsize hst hrest hf hdg) hS kk
theorem x_indexOf {w : Nat} {i : Int32} (C : CX p s m args meth c own cc nL ret V G) (hP : HP V G S H) (hS : va_S (AG G s.heap.size) s.heap H locs) (hW : WT G S) (hw : w < nSC) (hl : LKM own idx yJ0_indexOf_0f7a4) (hR : 11 ≤ R.frames ∧ 400 ≤ R.locals) (hsize : ls.size = nL) (hst : st = .int i :: .ref (V.2.2.1 w) :: rest) (hrest : (rest.map fun v => v.category).sum ≤ 8) (hf : cells ≤ R.cells ∧ slots ≤ R.slots) (hdg : decode cc pc = .ok (.invokevirtual idx, 3))
    (kk : ∀ (H1 : Heap) (locs1 : List Loc), HP V G S H1 → va_S (AG G s.heap.size) s.heap H1 locs1 → WT G S → W p l e R s m args below meth c H1 locs1 cells slots Q (F0 m (pc + 3) ls (.int (sIdx w i) :: rest))) : W p l e R s m args below meth c H locs cells slots Q (F0 m pc ls st) := by
  exact x_aft_i (y_runT (As := [.int i]) C hP hS hw (c_J0_indexOf (l := l) C.2.2.2.2.2.2.2.2.2.1 hW hw H.size) rfl km_J0_indexOf_0f7a4 ki_J0_indexOf_0f7a4 hl ⟨by omega, by omega⟩ rfl hsize hst hrest hf hdg) hS kk
end ROWS6
