def s_X12_remains (N : Nat → Nat) (F : Nat) (a : Nat) (p0 : Int32) (p1 : Int32) (S : HS) : Option (Int32 × HS) :=
  bnd (uI S 1200 a 0) fun S1 =>
  bd1 (s_X12_areBits N a p0 p1 0 S1) fun r2 =>
  if r2 = (0 : Int32) then
  some ((-1), S1)
  else
  bd1 (s_X12_used N a S1) fun r5 =>
  bd2 (s_X12_sumNow N F a p0 p1 0 S1) fun r6 S7 =>
  bd1 (s_X12_negative N a r5 r6 S7) fun r8 =>
  bd2 (s_X12_sumNow N F a p0 p1 r8 S7) fun r9 S10 =>
  some (r9, S10)
set_option maxRecDepth 100000 in
set_option maxHeartbeats 4000000 in
theorem c_X12_remains {l : Launch} {V : EV} {G : GS} {S : HS} {F : Nat} {a : Nat} {p0 : Int32} {p1 : Int32} {r : Int32} {S' : HS} (hN : G.1.Nodup) (hW : WT G S) (h_a : a ∈ G.1) (k_a : G.2.1 a = 12) (hf : s_X12_remains G.2.2 F a p0 p1 S = some (r, S')) : MetI l yX12_remains cX12_remains 3 .int 21 706 V G S [.ref a, .int p0, .int p1] r S' := by
  intro sz
  refine x_in RX12 rfl (by decide +kernel) hN (Nat.le_of_ble_eq_true rfl) (fun p e s m args below meth c ls hsz hargs hnm C hP hS hl => ?_)
  subst hsz
  have hx := C.1
  have hb := C.2.1
  have hl : lv_has ls 3 [(0, .ref a), (1, .int p0), (2, .int p1)] := hl
  unfold s_X12_remains at hf
  refine lv_aload_n hx hb dX12_remains_0 rfl (lv_at hl 0 rfl) ?_
  refine lv_iconst (v := 0) hx hb dX12_remains_1 rfl ?_
  obtain ⟨S1, eS1, hf⟩ := bnd_e hf
  refine pf_X12_1 C hP hS h_a k_a eS1 dX12_remains_2 (fun H locs hP hS => ?_)
  have hW : WT G S1 := by rw [eS1]; exact hW
  refine lv_aload_n hx hb dX12_remains_5 rfl (lv_at hl 0 rfl) ?_
  refine lv_iload_n hx hb dX12_remains_6 rfl (lv_at hl 1 rfl) ?_
  refine lv_iload_n hx hb dX12_remains_7 rfl (lv_at hl 2 rfl) ?_
  refine lv_iconst (v := 0) hx hb dX12_remains_8 rfl ?_
  obtain ⟨r2, er2, hf⟩ := bd1_e hf
  refine x_aft_z (x_runV (As := [.int p0, .int p1, .int 0]) (rest := []) C hP hS (c_X12_areBits (l := l) C.2.2.2.2.2.2.2.2.2.1 hW h_a k_a er2 H.size) h_a k_a (by decide) rfl rfl km_X12_areBits ki_X12_areBits qm_X12_403 ⟨(Nat.le_of_ble_eq_true rfl), (Nat.le_of_ble_eq_true rfl)⟩ rfl hl.1 rfl (Nat.le_of_ble_eq_true rfl) ⟨Nat.zero_le _, Nat.zero_le _⟩ dX12_remains_9) hS (fun H locs hP hS hW z3 => ?_)
  refine lv_if_eq (tgt := 39) hx hb dX12_remains_12 (by decide) (fun c4 => ?_) (fun c4 => ?_)
  · have hf := if_t c4 hf
    refine lv_iconst (v := (-1)) hx hb dX12_remains_39 rfl ?_
    cases hf
    exact x_reti C hP hS hW dX12_remains_40
  · have hf := if_f c4 hf
    refine lv_aload_n hx hb dX12_remains_15 rfl (lv_at hl 0 rfl) ?_
    refine lv_iload_n hx hb dX12_remains_16 rfl (lv_at hl 1 rfl) ?_
    refine lv_iload_n hx hb dX12_remains_17 rfl (lv_at hl 2 rfl) ?_
    refine lv_aload_n hx hb dX12_remains_18 rfl (lv_at hl 0 rfl) ?_
    refine lv_aload_n hx hb dX12_remains_19 rfl (lv_at hl 0 rfl) ?_
    obtain ⟨r5, er5, hf⟩ := bd1_e hf
    refine x_aft_i (x_runV (As := []) (rest := [.ref a, .int p1, .int p0, .ref a]) C hP hS (c_X12_used (l := l) C.2.2.2.2.2.2.2.2.2.1 hW h_a k_a er5 H.size) h_a k_a (by decide) rfl rfl km_X12_used ki_X12_used qm_X12_357 ⟨(Nat.le_of_ble_eq_true rfl), (Nat.le_of_ble_eq_true rfl)⟩ rfl hl.1 rfl (Nat.le_of_ble_eq_true rfl) ⟨Nat.zero_le _, Nat.zero_le _⟩ dX12_remains_20) hS (fun H locs hP hS hW => ?_)
    refine lv_aload_n hx hb dX12_remains_23 rfl (lv_at hl 0 rfl) ?_
    refine lv_iload_n hx hb dX12_remains_24 rfl (lv_at hl 1 rfl) ?_
    refine lv_iload_n hx hb dX12_remains_25 rfl (lv_at hl 2 rfl) ?_
    refine lv_iconst (v := 0) hx hb dX12_remains_26 rfl ?_
    obtain ⟨r6, S7, eS7, hf⟩ := bd2_e hf
    refine x_aft_i (x_runV (As := [.int p0, .int p1, .int 0]) (rest := [.int r5, .ref a, .int p1, .int p0, .ref a]) C hP hS (c_X12_sumNow (l := l) C.2.2.2.2.2.2.2.2.2.1 hW h_a k_a eS7 H.size) h_a k_a (by decide) rfl rfl km_X12_sumNow ki_X12_sumNow qm_X12_415 ⟨(Nat.le_of_ble_eq_true rfl), (Nat.le_of_ble_eq_true rfl)⟩ rfl hl.1 rfl (Nat.le_of_ble_eq_true rfl) ⟨Nat.zero_le _, Nat.zero_le _⟩ dX12_remains_27) hS (fun H locs hP hS hW => ?_)
    obtain ⟨r8, er8, hf⟩ := bd1_e hf
    refine x_aft_i (x_runV (As := [.int r5, .int r6]) (rest := [.int p1, .int p0, .ref a]) C hP hS (c_X12_negative (l := l) C.2.2.2.2.2.2.2.2.2.1 hW h_a k_a er8 H.size) h_a k_a (by decide) rfl rfl km_X12_negative ki_X12_negative qm_X12_412 ⟨(Nat.le_of_ble_eq_true rfl), (Nat.le_of_ble_eq_true rfl)⟩ rfl hl.1 rfl (Nat.le_of_ble_eq_true rfl) ⟨Nat.zero_le _, Nat.zero_le _⟩ dX12_remains_30) hS (fun H locs hP hS hW => ?_)
    obtain ⟨r9, S10, eS10, hf⟩ := bd2_e hf
    refine x_aft_i (x_runV (As := [.int p0, .int p1, .int r8]) (rest := []) C hP hS (c_X12_sumNow (l := l) C.2.2.2.2.2.2.2.2.2.1 hW h_a k_a eS10 H.size) h_a k_a (by decide) rfl rfl km_X12_sumNow ki_X12_sumNow qm_X12_415 ⟨(Nat.le_of_ble_eq_true rfl), (Nat.le_of_ble_eq_true rfl)⟩ rfl hl.1 rfl (Nat.le_of_ble_eq_true rfl) ⟨Nat.zero_le _, Nat.zero_le _⟩ dX12_remains_33) hS (fun H locs hP hS hW => ?_)
    refine lv_goto (tgt := 40) hx hb dX12_remains_36 (by decide) ?_
    cases hf
    exact x_reti C hP hS hW dX12_remains_40
def s_X12_resultOf (N : Nat → Nat) (a : Nat) (p0 : Int32) (S : HS) : Option Int32 :=
  bd1 (gR S 1225 a) fun t1 =>
  if inB p0 (N t1) = true then
  bnd (((aJ S t1 p0.toNatClampNeg) - (aJ S t1 p0.toNatClampNeg) / 4 * 4).toInt32 : Int32) fun x3 =>
  bd1 (gR S 1226 a) fun t4 =>
  if inB p0 (N t4) = true then
  bnd (((aJ S t4 p0.toNatClampNeg) / 134217728).toInt32 : Int32) fun x6 =>
  bd1 (s_X12_classOf N a x3 x6 S) fun r7 =>
  if r7 = (0 : Int32) then
  some (-1)
  else
  if r7 = (4 : Int32) then
  some (-2)
  else
  some ((4 * x6) + x3)
  else none
  else none
set_option maxRecDepth 100000 in
set_option maxHeartbeats 4000000 in
theorem c_X12_resultOf {l : Launch} {V : EV} {G : GS} {S : HS} {a : Nat} {p0 : Int32} {r : Int32} (hN : G.1.Nodup) (hW : WT G S) (h_a : a ∈ G.1) (k_a : G.2.1 a = 12) (hf : s_X12_resultOf G.2.2 a p0 S = some r) : MetI l yX12_resultOf cX12_resultOf 5 .int 5 150 V G S [.ref a, .int p0] r S := by
  intro sz
  refine x_in RX12 rfl (by decide +kernel) hN (Nat.le_of_ble_eq_true rfl) (fun p e s m args below meth c ls hsz hargs hnm C hP hS hl => ?_)
  subst hsz
  have hx := C.1
  have hb := C.2.1
  have hl : lv_has ls 5 [(0, .ref a), (1, .int p0)] := hl
  unfold s_X12_resultOf at hf
  refine lv_aload_n hx hb dX12_resultOf_0 rfl (lv_at hl 0 rfl) ?_
  refine gf_X12_102 C hP h_a k_a dX12_resultOf_1 ?_
  obtain ⟨t1, et1, hf⟩ := bd1_e hf
  obtain ⟨h_t1, k_t1⟩ := wt_r hW h_a k_a (by decide) et1
  have k_t1 : G.2.1 t1 = 15 := k_t1
  rw [et1]
  refine lv_iload_n hx hb dX12_resultOf_4 rfl (lv_at hl 1 rfl) ?_
  obtain ⟨h2, hf⟩ := if_s hf
  refine x_lald C hP h_t1 k_t1 h2 dX12_resultOf_5 ?_
  refine lv_ldc2 (v := 4) hx hb C.2.2.2.2.1 (C.2.2.2.2.2.1 _ qc_X12_369) dX12_resultOf_6 ?_
  refine lv_lrem hx hb dX12_resultOf_9 (by decide) ?_
  refine lv_l2i hx hb dX12_resultOf_10 rfl ?_
  obtain ⟨x3, ex3, hf⟩ := bnd_e hf
  refine nm_i ex3 ?_
  refine lv_istore_n (lv' := [(2, .int x3), (0, .ref a), (1, .int p0)]) hx hb dX12_resultOf_11 rfl hl (by decide) rfl (fun ls hl => ?_)
  refine lv_aload_n hx hb dX12_resultOf_12 rfl (lv_at hl 1 rfl) ?_
  refine gf_X12_105 C hP h_a k_a dX12_resultOf_13 ?_
  obtain ⟨t4, et4, hf⟩ := bd1_e hf
  obtain ⟨h_t4, k_t4⟩ := wt_r hW h_a k_a (by decide) et4
  have k_t4 : G.2.1 t4 = 15 := k_t4
  rw [et4]
  refine lv_iload_n hx hb dX12_resultOf_16 rfl (lv_at hl 2 rfl) ?_
  obtain ⟨h5, hf⟩ := if_s hf
  refine x_lald C hP h_t4 k_t4 h5 dX12_resultOf_17 ?_
  refine lv_ldc2 (v := 134217728) hx hb C.2.2.2.2.1 (C.2.2.2.2.2.1 _ qc_X12_373) dX12_resultOf_18 ?_
  refine lv_ldiv hx hb dX12_resultOf_21 (by decide) ?_
  refine lv_l2i hx hb dX12_resultOf_22 rfl ?_
  obtain ⟨x6, ex6, hf⟩ := bnd_e hf
  refine nm_i ex6 ?_
  refine lv_istore_n (lv' := [(3, .int x6), (2, .int x3), (0, .ref a), (1, .int p0)]) hx hb dX12_resultOf_23 rfl hl (by decide) rfl (fun ls hl => ?_)
  refine lv_aload_n hx hb dX12_resultOf_24 rfl (lv_at hl 2 rfl) ?_
  refine lv_iload_n hx hb dX12_resultOf_25 rfl (lv_at hl 1 rfl) ?_
  refine lv_iload_n hx hb dX12_resultOf_26 rfl (lv_at hl 0 rfl) ?_
  obtain ⟨r7, er7, hf⟩ := bd1_e hf
  refine x_aft_i (x_runV (As := [.int x3, .int x6]) (rest := []) C hP hS (c_X12_classOf (l := l) C.2.2.2.2.2.2.2.2.2.1 hW h_a k_a er7 s.heap.size) h_a k_a (by decide) rfl rfl km_X12_classOf ki_X12_classOf qm_X12_276 ⟨(Nat.le_of_ble_eq_true rfl), (Nat.le_of_ble_eq_true rfl)⟩ rfl hl.1 rfl (Nat.le_of_ble_eq_true rfl) ⟨Nat.zero_le _, Nat.zero_le _⟩ dX12_resultOf_27) hS (fun H locs hP hS hW => ?_)
  refine lv_istore (lv' := [(4, .int r7), (3, .int x6), (2, .int x3), (0, .ref a), (1, .int p0)]) hx hb dX12_resultOf_30 hl (by decide) rfl (fun ls hl => ?_)
  refine lv_iload hx hb dX12_resultOf_32 (lv_at hl 0 rfl) ?_
  refine lv_if_ne (tgt := 41) hx hb dX12_resultOf_34 (by decide) (fun c8 => ?_) (fun c8 => ?_)
  · have hf := if_f c8 hf
    refine lv_iload hx hb dX12_resultOf_41 (lv_at hl 0 rfl) ?_
    refine lv_iconst (v := 4) hx hb dX12_resultOf_43 rfl ?_
    refine lv_icmp_ne (tgt := 52) hx hb dX12_resultOf_44 (by decide) (fun c9 => ?_) (fun c9 => ?_)
    · have hf := if_f c9 hf
      refine lv_iconst (v := 4) hx hb dX12_resultOf_52 rfl ?_
      refine lv_iload_n hx hb dX12_resultOf_53 rfl (lv_at hl 1 rfl) ?_
      refine lv_imul hx hb dX12_resultOf_54 ?_
      refine lv_iload_n hx hb dX12_resultOf_55 rfl (lv_at hl 2 rfl) ?_
      refine lv_iadd hx hb dX12_resultOf_56 ?_
      cases hf
      exact x_reti C hP hS hW dX12_resultOf_57
    · have hf := if_t c9 hf
      refine lv_bipush (v := (-2)) hx hb dX12_resultOf_47 kc_bipush_m2 ?_
      refine lv_goto (tgt := 57) hx hb dX12_resultOf_49 (by decide) ?_
      cases hf
      exact x_reti C hP hS hW dX12_resultOf_57
  · have hf := if_t c8 hf
    refine lv_iconst (v := (-1)) hx hb dX12_resultOf_37 rfl ?_
    refine lv_goto (tgt := 57) hx hb dX12_resultOf_38 (by decide) ?_
    cases hf
    exact x_reti C hP hS hW dX12_resultOf_57
def s_X12_results_J53 (N : Nat → Nat) (F : Nat) (k24 : Nat → Int32 → Int32 → Int32 → Int32 → HS → Option (Int32 × HS)) (v0 : Nat) (v1 : Int32) (v2 : Int32) (v4 : Int32) (w0 : Int32) (S : HS) : Option (Int32 × HS) :=
  bnd (v4 + Int32.ofInt 1 : Int32) fun x10 =>
  k24 v0 v1 v2 w0 x10 S
def s_X12_results_L24 (N : Nat → Nat) (F : Nat) (k60 : Nat → Int32 → Int32 → Int32 → HS → Option (Int32 × HS)) : Nat → Nat → Int32 → Int32 → Int32 → Int32 → HS → Option (Int32 × HS)
  | 0, _, _, _, _, _, _ => none
  | n + 1, v0, v1, v2, v3, v4, S => if v2 ≤ v4 then
  k60 v0 v1 v2 v3 S
  else
  if v3 = (0 : Int32) then
  k60 v0 v1 v2 v3 S
  else
  bd1 (s_X12_resultOf N v0 v4 S) fun r7 =>
  bd1 (s_X12_resultOf N v0 v2 S) fun r8 =>
  if r7 = r8 then
  s_X12_results_J53 N F (s_X12_results_L24 N F k60 n) v0 v1 v2 v4 0 S
  else
  s_X12_results_J53 N F (s_X12_results_L24 N F k60 n) v0 v1 v2 v4 1 S
def s_X12_results_J70 (N : Nat → Nat) (F : Nat) (k9 : Nat → Int32 → Int32 → HS → Option (Int32 × HS)) (v0 : Nat) (v2 : Int32) (w0 : Int32) (w1 : Int32) (S : HS) : Option (Int32 × HS) :=
  bnd (w0 + w1 : Int32) fun x12 =>
  bnd (v2 + Int32.ofInt 1 : Int32) fun x13 =>
  k9 v0 x12 x13 S
def s_X12_results_J60 (N : Nat → Nat) (F : Nat) (k9 : Nat → Int32 → Int32 → HS → Option (Int32 × HS)) (v0 : Nat) (v1 : Int32) (v2 : Int32) (v3 : Int32) (S : HS) : Option (Int32 × HS) :=
  if v3 = (0 : Int32) then
  s_X12_results_J70 N F k9 v0 v2 v1 0 S
  else
  s_X12_results_J70 N F k9 v0 v2 v1 1 S
def s_X12_results_L9 (N : Nat → Nat) (F : Nat) : Nat → Nat → Int32 → Int32 → HS → Option (Int32 × HS)
  | 0, _, _, _, _ => none
  | n + 1, v0, v1, v2, S => bd1 (gR S 1217 v0) fun t2 =>
  if inB (3 : Int32) (N t2) = true then
  if (aI S t2 (3 : Int32).toNatClampNeg) ≤ v2 then
  some (v1, S)
  else
  s_X12_results_L24 N F (s_X12_results_J60 N F (s_X12_results_L9 N F n)) F v0 v1 v2 1 0 S
  else none
def s_X12_results (N : Nat → Nat) (F : Nat) (a : Nat) (S : HS) : Option (Int32 × HS) :=
  bnd (uI S 1200 a 0) fun S1 =>
  s_X12_results_L9 N F F a 0 0 S1
set_option maxRecDepth 100000 in
set_option maxHeartbeats 4000000 in
theorem b_X12_results_53 {p : Program} {l : Launch} {e : Env} {s : State} {m : MethodId} {args : Array Value} {below : List Frame} {meth : Method} {c : Code} {V : EV} {G : GS} {r : Int32} {S' : HS} {F : Nat} (C : CX p s m args meth c RX12 cX12_results 5 (some .int) V G) {k24 : Nat → Int32 → Int32 → Int32 → Int32 → HS → Option (Int32 × HS)} (hk24 : ∀ (v0 : Nat) (v1 : Int32) (v2 : Int32) (v3 : Int32) (v4 : Int32) (h_v0 : v0 ∈ G.1) (k_v0 : G.2.1 v0 = 12) (S : HS) (H : Heap) (locs : List Loc) (ls : Array Slot), k24 v0 v1 v2 v3 v4 S = some (r, S') → HP V G S H → va_S (AG G s.heap.size) s.heap H locs → WT G S → lv_has ls 5 [(0, .ref v0), (1, .int v1), (2, .int v2), (3, .int v3), (4, .int v4)] → W p l e (RM 6 182) s m args below meth c H locs 0 0 (MQ below (QI V G S' r s.heap.size) args s 0 0 (AG G s.heap.size)) (F0 m 24 ls [])) : ∀ (v0 : Nat) (v1 : Int32) (v2 : Int32) (v4 : Int32) (w0 : Int32) (h_v0 : v0 ∈ G.1) (k_v0 : G.2.1 v0 = 12) (S : HS) (H : Heap) (locs : List Loc) (ls : Array Slot), s_X12_results_J53 G.2.2 F k24 v0 v1 v2 v4 w0 S = some (r, S') → HP V G S H → va_S (AG G s.heap.size) s.heap H locs → WT G S → lv_has ls 5 [(0, .ref v0), (1, .int v1), (2, .int v2), (4, .int v4)] → W p l e (RM 6 182) s m args below meth c H locs 0 0 (MQ below (QI V G S' r s.heap.size) args s 0 0 (AG G s.heap.size)) (F0 m 53 ls [.int w0]) := by
  intro v0 v1 v2 v4 w0 h_v0 k_v0 S H locs ls hf hP hS hW hl
  have hx := C.1
  have hb := C.2.1
  unfold s_X12_results_J53 at hf
  refine lv_istore_n (lv' := [(3, .int w0), (0, .ref v0), (1, .int v1), (2, .int v2), (4, .int v4)]) hx hb dX12_results_53 rfl hl (by decide) rfl (fun ls hl => ?_)
  obtain ⟨x10, ex10, hf⟩ := bnd_e hf
  refine lv_iinc (v := x10) (lv' := [(4, .int x10), (3, .int w0), (0, .ref v0), (1, .int v1), (2, .int v2)]) hx hb dX12_results_54 hl (k := 4) rfl ex10.symm (by decide) rfl (fun ls hl => ?_)
  refine lv_goto (tgt := 24) hx hb dX12_results_57 (by decide) ?_
  exact hk24 v0 v1 v2 w0 x10 h_v0 k_v0 S H locs _ hf hP hS hW (lv_sub hl [2, 3, 4, 1, 0] rfl)
set_option maxRecDepth 100000 in
set_option maxHeartbeats 4000000 in
theorem b_X12_results_24 {p : Program} {l : Launch} {e : Env} {s : State} {m : MethodId} {args : Array Value} {below : List Frame} {meth : Method} {c : Code} {V : EV} {G : GS} {r : Int32} {S' : HS} {F : Nat} (C : CX p s m args meth c RX12 cX12_results 5 (some .int) V G) {k60 : Nat → Int32 → Int32 → Int32 → HS → Option (Int32 × HS)} (hk60 : ∀ (v0 : Nat) (v1 : Int32) (v2 : Int32) (v3 : Int32) (h_v0 : v0 ∈ G.1) (k_v0 : G.2.1 v0 = 12) (S : HS) (H : Heap) (locs : List Loc) (ls : Array Slot), k60 v0 v1 v2 v3 S = some (r, S') → HP V G S H → va_S (AG G s.heap.size) s.heap H locs → WT G S → lv_has ls 5 [(0, .ref v0), (1, .int v1), (2, .int v2), (3, .int v3)] → W p l e (RM 6 182) s m args below meth c H locs 0 0 (MQ below (QI V G S' r s.heap.size) args s 0 0 (AG G s.heap.size)) (F0 m 60 ls [])) : ∀ n : Nat, ∀ (v0 : Nat) (v1 : Int32) (v2 : Int32) (v3 : Int32) (v4 : Int32) (h_v0 : v0 ∈ G.1) (k_v0 : G.2.1 v0 = 12) (S : HS) (H : Heap) (locs : List Loc) (ls : Array Slot), s_X12_results_L24 G.2.2 F k60 n v0 v1 v2 v3 v4 S = some (r, S') → HP V G S H → va_S (AG G s.heap.size) s.heap H locs → WT G S → lv_has ls 5 [(0, .ref v0), (1, .int v1), (2, .int v2), (3, .int v3), (4, .int v4)] → W p l e (RM 6 182) s m args below meth c H locs 0 0 (MQ below (QI V G S' r s.heap.size) args s 0 0 (AG G s.heap.size)) (F0 m 24 ls []) := by
  intro n
  induction n with
  | zero =>
    intro v0 v1 v2 v3 v4 h_v0 k_v0 S H locs ls hf
    rw [s_X12_results_L24] at hf
    cases hf
  | succ n ih =>
    intro v0 v1 v2 v3 v4 h_v0 k_v0 S H locs ls hf hP hS hW hl
    have hx := C.1
    have hb := C.2.1
    rw [s_X12_results_L24] at hf
    refine lv_iload hx hb dX12_results_24 (lv_at hl 4 rfl) ?_
    refine lv_iload_n hx hb dX12_results_26 rfl (lv_at hl 2 rfl) ?_
    refine lv_icmp_ge (tgt := 60) hx hb dX12_results_27 (by decide) (fun c5 => ?_) (fun c5 => ?_)
    · have hf := if_t c5 hf
      exact hk60 v0 v1 v2 v3 h_v0 k_v0 S H locs _ hf hP hS hW (lv_sub hl [0, 1, 2, 3] rfl)
    · have hf := if_f c5 hf
      refine lv_iload_n hx hb dX12_results_30 rfl (lv_at hl 3 rfl) ?_
      refine lv_if_eq (tgt := 60) hx hb dX12_results_31 (by decide) (fun c6 => ?_) (fun c6 => ?_)
      · have hf := if_t c6 hf
        exact hk60 v0 v1 v2 v3 h_v0 k_v0 S H locs _ hf hP hS hW (lv_sub hl [0, 1, 2, 3] rfl)
      · have hf := if_f c6 hf
        refine lv_aload_n hx hb dX12_results_34 rfl (lv_at hl 0 rfl) ?_
        refine lv_iload hx hb dX12_results_35 (lv_at hl 4 rfl) ?_
        obtain ⟨r7, er7, hf⟩ := bd1_e hf
        refine x_aft_i (x_runV (As := [.int v4]) (rest := []) C hP hS (c_X12_resultOf (l := l) C.2.2.2.2.2.2.2.2.2.1 hW h_v0 k_v0 er7 H.size) h_v0 k_v0 (by decide) rfl rfl km_X12_resultOf ki_X12_resultOf qm_X12_460 ⟨(Nat.le_of_ble_eq_true rfl), (Nat.le_of_ble_eq_true rfl)⟩ rfl hl.1 rfl (Nat.le_of_ble_eq_true rfl) ⟨Nat.zero_le _, Nat.zero_le _⟩ dX12_results_37) hS (fun H locs hP hS hW => ?_)
        refine lv_aload_n hx hb dX12_results_40 rfl (lv_at hl 0 rfl) ?_
        refine lv_iload_n hx hb dX12_results_41 rfl (lv_at hl 2 rfl) ?_
        obtain ⟨r8, er8, hf⟩ := bd1_e hf
        refine x_aft_i (x_runV (As := [.int v2]) (rest := [.int r7]) C hP hS (c_X12_resultOf (l := l) C.2.2.2.2.2.2.2.2.2.1 hW h_v0 k_v0 er8 H.size) h_v0 k_v0 (by decide) rfl rfl km_X12_resultOf ki_X12_resultOf qm_X12_460 ⟨(Nat.le_of_ble_eq_true rfl), (Nat.le_of_ble_eq_true rfl)⟩ rfl hl.1 rfl (Nat.le_of_ble_eq_true rfl) ⟨Nat.zero_le _, Nat.zero_le _⟩ dX12_results_42) hS (fun H locs hP hS hW => ?_)
        refine lv_icmp_eq (tgt := 52) hx hb dX12_results_45 (by decide) (fun c9 => ?_) (fun c9 => ?_)
        · have hf := if_t c9 hf
          refine lv_iconst (v := 0) hx hb dX12_results_52 rfl ?_
          exact b_X12_results_53 C ih v0 v1 v2 v4 0 h_v0 k_v0 S H locs _ hf hP hS hW (lv_sub hl [0, 1, 2, 4] rfl)
        · have hf := if_f c9 hf
          refine lv_iconst (v := 1) hx hb dX12_results_48 rfl ?_
          refine lv_goto (tgt := 53) hx hb dX12_results_49 (by decide) ?_
          exact b_X12_results_53 C ih v0 v1 v2 v4 1 h_v0 k_v0 S H locs _ hf hP hS hW (lv_sub hl [0, 1, 2, 4] rfl)
set_option maxRecDepth 100000 in
set_option maxHeartbeats 4000000 in
theorem b_X12_results_70 {p : Program} {l : Launch} {e : Env} {s : State} {m : MethodId} {args : Array Value} {below : List Frame} {meth : Method} {c : Code} {V : EV} {G : GS} {r : Int32} {S' : HS} {F : Nat} (C : CX p s m args meth c RX12 cX12_results 5 (some .int) V G) {k9 : Nat → Int32 → Int32 → HS → Option (Int32 × HS)} (hk9 : ∀ (v0 : Nat) (v1 : Int32) (v2 : Int32) (h_v0 : v0 ∈ G.1) (k_v0 : G.2.1 v0 = 12) (S : HS) (H : Heap) (locs : List Loc) (ls : Array Slot), k9 v0 v1 v2 S = some (r, S') → HP V G S H → va_S (AG G s.heap.size) s.heap H locs → WT G S → lv_has ls 5 [(0, .ref v0), (1, .int v1), (2, .int v2)] → W p l e (RM 6 182) s m args below meth c H locs 0 0 (MQ below (QI V G S' r s.heap.size) args s 0 0 (AG G s.heap.size)) (F0 m 9 ls [])) : ∀ (v0 : Nat) (v2 : Int32) (w0 : Int32) (w1 : Int32) (h_v0 : v0 ∈ G.1) (k_v0 : G.2.1 v0 = 12) (S : HS) (H : Heap) (locs : List Loc) (ls : Array Slot), s_X12_results_J70 G.2.2 F k9 v0 v2 w0 w1 S = some (r, S') → HP V G S H → va_S (AG G s.heap.size) s.heap H locs → WT G S → lv_has ls 5 [(0, .ref v0), (2, .int v2)] → W p l e (RM 6 182) s m args below meth c H locs 0 0 (MQ below (QI V G S' r s.heap.size) args s 0 0 (AG G s.heap.size)) (F0 m 70 ls [.int w1, .int w0]) := by
  intro v0 v2 w0 w1 h_v0 k_v0 S H locs ls hf hP hS hW hl
  have hx := C.1
  have hb := C.2.1
  unfold s_X12_results_J70 at hf
  refine lv_iadd hx hb dX12_results_70 ?_
  obtain ⟨x12, ex12, hf⟩ := bnd_e hf
  refine nm_i ex12 ?_
  refine lv_istore_n (lv' := [(1, .int x12), (0, .ref v0), (2, .int v2)]) hx hb dX12_results_71 rfl hl (by decide) rfl (fun ls hl => ?_)
  obtain ⟨x13, ex13, hf⟩ := bnd_e hf
  refine lv_iinc (v := x13) (lv' := [(2, .int x13), (1, .int x12), (0, .ref v0)]) hx hb dX12_results_72 hl (k := 2) rfl ex13.symm (by decide) rfl (fun ls hl => ?_)
  refine lv_goto (tgt := 9) hx hb dX12_results_75 (by decide) ?_
  exact hk9 v0 x12 x13 h_v0 k_v0 S H locs _ hf hP hS hW (lv_sub hl [2, 1, 0] rfl)
set_option maxRecDepth 100000 in
set_option maxHeartbeats 4000000 in
theorem b_X12_results_60 {p : Program} {l : Launch} {e : Env} {s : State} {m : MethodId} {args : Array Value} {below : List Frame} {meth : Method} {c : Code} {V : EV} {G : GS} {r : Int32} {S' : HS} {F : Nat} (C : CX p s m args meth c RX12 cX12_results 5 (some .int) V G) {k9 : Nat → Int32 → Int32 → HS → Option (Int32 × HS)} (hk9 : ∀ (v0 : Nat) (v1 : Int32) (v2 : Int32) (h_v0 : v0 ∈ G.1) (k_v0 : G.2.1 v0 = 12) (S : HS) (H : Heap) (locs : List Loc) (ls : Array Slot), k9 v0 v1 v2 S = some (r, S') → HP V G S H → va_S (AG G s.heap.size) s.heap H locs → WT G S → lv_has ls 5 [(0, .ref v0), (1, .int v1), (2, .int v2)] → W p l e (RM 6 182) s m args below meth c H locs 0 0 (MQ below (QI V G S' r s.heap.size) args s 0 0 (AG G s.heap.size)) (F0 m 9 ls [])) : ∀ (v0 : Nat) (v1 : Int32) (v2 : Int32) (v3 : Int32) (h_v0 : v0 ∈ G.1) (k_v0 : G.2.1 v0 = 12) (S : HS) (H : Heap) (locs : List Loc) (ls : Array Slot), s_X12_results_J60 G.2.2 F k9 v0 v1 v2 v3 S = some (r, S') → HP V G S H → va_S (AG G s.heap.size) s.heap H locs → WT G S → lv_has ls 5 [(0, .ref v0), (1, .int v1), (2, .int v2), (3, .int v3)] → W p l e (RM 6 182) s m args below meth c H locs 0 0 (MQ below (QI V G S' r s.heap.size) args s 0 0 (AG G s.heap.size)) (F0 m 60 ls []) := by
  intro v0 v1 v2 v3 h_v0 k_v0 S H locs ls hf hP hS hW hl
  have hx := C.1
  have hb := C.2.1
  unfold s_X12_results_J60 at hf
  refine lv_iload_n hx hb dX12_results_60 rfl (lv_at hl 1 rfl) ?_
  refine lv_iload_n hx hb dX12_results_61 rfl (lv_at hl 3 rfl) ?_
  refine lv_if_eq (tgt := 69) hx hb dX12_results_62 (by decide) (fun c11 => ?_) (fun c11 => ?_)
  · have hf := if_t c11 hf
    refine lv_iconst (v := 0) hx hb dX12_results_69 rfl ?_
    exact b_X12_results_70 C hk9 v0 v2 v1 0 h_v0 k_v0 S H locs _ hf hP hS hW (lv_sub hl [0, 2] rfl)
  · have hf := if_f c11 hf
    refine lv_iconst (v := 1) hx hb dX12_results_65 rfl ?_
    refine lv_goto (tgt := 70) hx hb dX12_results_66 (by decide) ?_
    exact b_X12_results_70 C hk9 v0 v2 v1 1 h_v0 k_v0 S H locs _ hf hP hS hW (lv_sub hl [0, 2] rfl)
set_option maxRecDepth 100000 in
set_option maxHeartbeats 4000000 in
theorem b_X12_results_9 {p : Program} {l : Launch} {e : Env} {s : State} {m : MethodId} {args : Array Value} {below : List Frame} {meth : Method} {c : Code} {V : EV} {G : GS} {r : Int32} {S' : HS} {F : Nat} (C : CX p s m args meth c RX12 cX12_results 5 (some .int) V G) : ∀ n : Nat, ∀ (v0 : Nat) (v1 : Int32) (v2 : Int32) (h_v0 : v0 ∈ G.1) (k_v0 : G.2.1 v0 = 12) (S : HS) (H : Heap) (locs : List Loc) (ls : Array Slot), s_X12_results_L9 G.2.2 F n v0 v1 v2 S = some (r, S') → HP V G S H → va_S (AG G s.heap.size) s.heap H locs → WT G S → lv_has ls 5 [(0, .ref v0), (1, .int v1), (2, .int v2)] → W p l e (RM 6 182) s m args below meth c H locs 0 0 (MQ below (QI V G S' r s.heap.size) args s 0 0 (AG G s.heap.size)) (F0 m 9 ls []) := by
  intro n
  induction n with
  | zero =>
    intro v0 v1 v2 h_v0 k_v0 S H locs ls hf
    rw [s_X12_results_L9] at hf
    cases hf
  | succ n ih =>
    intro v0 v1 v2 h_v0 k_v0 S H locs ls hf hP hS hW hl
    have hx := C.1
    have hb := C.2.1
    rw [s_X12_results_L9] at hf
    refine lv_iload_n hx hb dX12_results_9 rfl (lv_at hl 2 rfl) ?_
    refine lv_aload_n hx hb dX12_results_10 rfl (lv_at hl 0 rfl) ?_
    refine gf_X12_95 C hP h_v0 k_v0 dX12_results_11 ?_
    obtain ⟨t2, et2, hf⟩ := bd1_e hf
    obtain ⟨h_t2, k_t2⟩ := wt_r hW h_v0 k_v0 (by decide) et2
    have k_t2 : G.2.1 t2 = 14 := k_t2
    rw [et2]
    refine lv_iconst (v := 3) hx hb dX12_results_14 rfl ?_
    obtain ⟨h3, hf⟩ := if_s hf
    refine x_iald C hP h_t2 k_t2 h3 dX12_results_15 ?_
    refine lv_icmp_ge (tgt := 78) hx hb dX12_results_16 (by decide) (fun c4 => ?_) (fun c4 => ?_)
    · have hf := if_t c4 hf
      refine lv_iload_n hx hb dX12_results_78 rfl (lv_at hl 1 rfl) ?_
      cases hf
      exact x_reti C hP hS hW dX12_results_79
    · have hf := if_f c4 hf
      refine lv_iconst (v := 1) hx hb dX12_results_19 rfl ?_
      refine lv_istore_n (lv' := [(3, .int 1), (0, .ref v0), (1, .int v1), (2, .int v2)]) hx hb dX12_results_20 rfl hl (by decide) rfl (fun ls hl => ?_)
      refine lv_iconst (v := 0) hx hb dX12_results_21 rfl ?_
      refine lv_istore (lv' := [(4, .int 0), (3, .int 1), (0, .ref v0), (1, .int v1), (2, .int v2)]) hx hb dX12_results_22 hl (by decide) rfl (fun ls hl => ?_)
      exact b_X12_results_24 C (b_X12_results_60 C ih) F v0 v1 v2 1 0 h_v0 k_v0 S H locs _ hf hP hS hW (lv_sub hl [2, 3, 4, 1, 0] rfl)
set_option maxRecDepth 100000 in
set_option maxHeartbeats 4000000 in
theorem c_X12_results {l : Launch} {V : EV} {G : GS} {S : HS} {F : Nat} {a : Nat} {r : Int32} {S' : HS} (hN : G.1.Nodup) (hW : WT G S) (h_a : a ∈ G.1) (k_a : G.2.1 a = 12) (hf : s_X12_results G.2.2 F a S = some (r, S')) : MetI l yX12_results cX12_results 5 .int 6 182 V G S [.ref a] r S' := by
  intro sz
  refine x_in RX12 rfl (by decide +kernel) hN (Nat.le_of_ble_eq_true rfl) (fun p e s m args below meth c ls hsz hargs hnm C hP hS hl => ?_)
  subst hsz
  have hx := C.1
  have hb := C.2.1
  have hl : lv_has ls 5 [(0, .ref a)] := hl
  unfold s_X12_results at hf
  refine lv_aload_n hx hb dX12_results_0 rfl (lv_at hl 0 rfl) ?_
  refine lv_iconst (v := 0) hx hb dX12_results_1 rfl ?_
  obtain ⟨S1, eS1, hf⟩ := bnd_e hf
  refine pf_X12_1 C hP hS h_a k_a eS1 dX12_results_2 (fun H locs hP hS => ?_)
  have hW : WT G S1 := by rw [eS1]; exact hW
  refine lv_iconst (v := 0) hx hb dX12_results_5 rfl ?_
  refine lv_istore_n (lv' := [(1, .int 0), (0, .ref a)]) hx hb dX12_results_6 rfl hl (by decide) rfl (fun ls hl => ?_)
  refine lv_iconst (v := 0) hx hb dX12_results_7 rfl ?_
  refine lv_istore_n (lv' := [(2, .int 0), (1, .int 0), (0, .ref a)]) hx hb dX12_results_8 rfl hl (by decide) rfl (fun ls hl => ?_)
  exact b_X12_results_9 C F a 0 0 h_a k_a S1 H locs _ hf hP hS hW (lv_sub hl [2, 1, 0] rfl)
def s_X12_root_J108 (N : Nat → Nat) (F : Nat) (k60 : Nat → Int32 → Int32 → Int32 → Int32 → Int32 → HS → Option (Int32 × HS)) (v0 : Nat) (v1 : Int32) (v2 : Int32) (v3 : Int32) (v5 : Int32) (w0 : Int32) (S : HS) : Option (Int32 × HS) :=
  bnd (v5 + Int32.ofInt 1 : Int32) fun x20 =>
  k60 v0 v1 v2 v3 w0 x20 S
def s_X12_root_J106 (N : Nat → Nat) (F : Nat) (k60 : Nat → Int32 → Int32 → Int32 → Int32 → Int32 → HS → Option (Int32 × HS)) (v0 : Nat) (v1 : Int32) (v2 : Int32) (v3 : Int32) (v4 : Int32) (v5 : Int32) (S : HS) : Option (Int32 × HS) :=
  s_X12_root_J108 N F k60 v0 v1 v2 v3 v5 v4 S
def s_X12_root_L60 (N : Nat → Nat) (F : Nat) : Nat → Nat → Int32 → Int32 → Int32 → Int32 → Int32 → HS → Option (Int32 × HS)
  | 0, _, _, _, _, _, _, _ => none
  | n + 1, v0, v1, v2, v3, v4, v5, S => if v3 < v5 then
  some (v4, S)
  else
  bd1 (s_X12_negative N v0 v2 v1 S) fun r14 =>
  bd2 (s_X12_sumNow N F v0 v5 v5 r14 S) fun r15 S16 =>
  bd1 (s_X12_isNan N v0 v2 r15 S16) fun r17 =>
  if r17 = (0 : Int32) then
  bd1 (s_X12_rankOf N v0 r15 S16) fun r21 =>
  if (0 : Int32) < r21 then
  s_X12_root_J106 N F (s_X12_root_L60 N F n) v0 v1 v2 v3 v4 v5 S16
  else
  s_X12_root_J108 N F (s_X12_root_L60 N F n) v0 v1 v2 v3 v5 v5 S16
  else
  s_X12_root_J106 N F (s_X12_root_L60 N F n) v0 v1 v2 v3 v4 v5 S16
def s_X12_root_J53 (N : Nat → Nat) (F : Nat) (v0 : Nat) (v1 : Int32) (v2 : Int32) (w0 : Int32) (S : HS) : Option (Int32 × HS) :=
  s_X12_root_L60 N F F v0 v1 v2 w0 (-1) 0 S
def s_X12_root (N : Nat → Nat) (F : Nat) (a : Nat) (p0 : Int32) (S : HS) : Option (Int32 × HS) :=
  bnd (uI S 1200 a 0) fun S1 =>
  bd1 (s_X12_isSmall N a S1) fun r2 =>
  if r2 = (0 : Int32) then
  some ((-1), S1)
  else
  bd1 (s_X12_used N a S1) fun r5 =>
  bd1 (s_X12_isBits N a r5 p0 S1) fun r6 =>
  if r6 = (0 : Int32) then
  some ((-1), S1)
  else
  bd1 (s_X12_used N a S1) fun r9 =>
  bd1 (s_X12_kindOf N a r9 S1) fun r10 =>
  if r10 = (3 : Int32) then
  bd1 (s_X12_greatestOf N a r9 S1) fun r23 =>
  s_X12_root_J53 N F a p0 r9 r23 S1
  else
  bd1 (s_X12_infOf N a r9 S1) fun r12 =>
  s_X12_root_J53 N F a p0 r9 r12 S1
set_option maxRecDepth 100000 in
set_option maxHeartbeats 4000000 in
theorem b_X12_root_108 {p : Program} {l : Launch} {e : Env} {s : State} {m : MethodId} {args : Array Value} {below : List Frame} {meth : Method} {c : Code} {V : EV} {G : GS} {r : Int32} {S' : HS} {F : Nat} (C : CX p s m args meth c RX12 cX12_root 7 (some .int) V G) {k60 : Nat → Int32 → Int32 → Int32 → Int32 → Int32 → HS → Option (Int32 × HS)} (hk60 : ∀ (v0 : Nat) (v1 : Int32) (v2 : Int32) (v3 : Int32) (v4 : Int32) (v5 : Int32) (h_v0 : v0 ∈ G.1) (k_v0 : G.2.1 v0 = 12) (S : HS) (H : Heap) (locs : List Loc) (ls : Array Slot), k60 v0 v1 v2 v3 v4 v5 S = some (r, S') → HP V G S H → va_S (AG G s.heap.size) s.heap H locs → WT G S → lv_has ls 7 [(0, .ref v0), (1, .int v1), (2, .int v2), (3, .int v3), (4, .int v4), (5, .int v5)] → W p l e (RM 21 706) s m args below meth c H locs 0 0 (MQ below (QI V G S' r s.heap.size) args s 0 0 (AG G s.heap.size)) (F0 m 60 ls [])) : ∀ (v0 : Nat) (v1 : Int32) (v2 : Int32) (v3 : Int32) (v5 : Int32) (w0 : Int32) (h_v0 : v0 ∈ G.1) (k_v0 : G.2.1 v0 = 12) (S : HS) (H : Heap) (locs : List Loc) (ls : Array Slot), s_X12_root_J108 G.2.2 F k60 v0 v1 v2 v3 v5 w0 S = some (r, S') → HP V G S H → va_S (AG G s.heap.size) s.heap H locs → WT G S → lv_has ls 7 [(0, .ref v0), (1, .int v1), (2, .int v2), (3, .int v3), (5, .int v5)] → W p l e (RM 21 706) s m args below meth c H locs 0 0 (MQ below (QI V G S' r s.heap.size) args s 0 0 (AG G s.heap.size)) (F0 m 108 ls [.int w0]) := by
  intro v0 v1 v2 v3 v5 w0 h_v0 k_v0 S H locs ls hf hP hS hW hl
  have hx := C.1
  have hb := C.2.1
  unfold s_X12_root_J108 at hf
  refine lv_istore (lv' := [(4, .int w0), (0, .ref v0), (1, .int v1), (2, .int v2), (3, .int v3), (5, .int v5)]) hx hb dX12_root_108 hl (by decide) rfl (fun ls hl => ?_)
  obtain ⟨x20, ex20, hf⟩ := bnd_e hf
  refine lv_iinc (v := x20) (lv' := [(5, .int x20), (4, .int w0), (0, .ref v0), (1, .int v1), (2, .int v2), (3, .int v3)]) hx hb dX12_root_110 hl (k := 5) rfl ex20.symm (by decide) rfl (fun ls hl => ?_)
  refine lv_goto (tgt := 60) hx hb dX12_root_113 (by decide) ?_
  exact hk60 v0 v1 v2 v3 w0 x20 h_v0 k_v0 S H locs _ hf hP hS hW (lv_sub hl [2, 3, 4, 5, 1, 0] rfl)
set_option maxRecDepth 100000 in
set_option maxHeartbeats 4000000 in
theorem b_X12_root_106 {p : Program} {l : Launch} {e : Env} {s : State} {m : MethodId} {args : Array Value} {below : List Frame} {meth : Method} {c : Code} {V : EV} {G : GS} {r : Int32} {S' : HS} {F : Nat} (C : CX p s m args meth c RX12 cX12_root 7 (some .int) V G) {k60 : Nat → Int32 → Int32 → Int32 → Int32 → Int32 → HS → Option (Int32 × HS)} (hk60 : ∀ (v0 : Nat) (v1 : Int32) (v2 : Int32) (v3 : Int32) (v4 : Int32) (v5 : Int32) (h_v0 : v0 ∈ G.1) (k_v0 : G.2.1 v0 = 12) (S : HS) (H : Heap) (locs : List Loc) (ls : Array Slot), k60 v0 v1 v2 v3 v4 v5 S = some (r, S') → HP V G S H → va_S (AG G s.heap.size) s.heap H locs → WT G S → lv_has ls 7 [(0, .ref v0), (1, .int v1), (2, .int v2), (3, .int v3), (4, .int v4), (5, .int v5)] → W p l e (RM 21 706) s m args below meth c H locs 0 0 (MQ below (QI V G S' r s.heap.size) args s 0 0 (AG G s.heap.size)) (F0 m 60 ls [])) : ∀ (v0 : Nat) (v1 : Int32) (v2 : Int32) (v3 : Int32) (v4 : Int32) (v5 : Int32) (h_v0 : v0 ∈ G.1) (k_v0 : G.2.1 v0 = 12) (S : HS) (H : Heap) (locs : List Loc) (ls : Array Slot), s_X12_root_J106 G.2.2 F k60 v0 v1 v2 v3 v4 v5 S = some (r, S') → HP V G S H → va_S (AG G s.heap.size) s.heap H locs → WT G S → lv_has ls 7 [(0, .ref v0), (1, .int v1), (2, .int v2), (3, .int v3), (4, .int v4), (5, .int v5)] → W p l e (RM 21 706) s m args below meth c H locs 0 0 (MQ below (QI V G S' r s.heap.size) args s 0 0 (AG G s.heap.size)) (F0 m 106 ls []) := by
  intro v0 v1 v2 v3 v4 v5 h_v0 k_v0 S H locs ls hf hP hS hW hl
  have hx := C.1
  have hb := C.2.1
  unfold s_X12_root_J106 at hf
  refine lv_iload hx hb dX12_root_106 (lv_at hl 4 rfl) ?_
  exact b_X12_root_108 C hk60 v0 v1 v2 v3 v5 v4 h_v0 k_v0 S H locs _ hf hP hS hW (lv_sub hl [0, 1, 2, 3, 5] rfl)
set_option maxRecDepth 100000 in
set_option maxHeartbeats 4000000 in
theorem b_X12_root_60 {p : Program} {l : Launch} {e : Env} {s : State} {m : MethodId} {args : Array Value} {below : List Frame} {meth : Method} {c : Code} {V : EV} {G : GS} {r : Int32} {S' : HS} {F : Nat} (C : CX p s m args meth c RX12 cX12_root 7 (some .int) V G) : ∀ n : Nat, ∀ (v0 : Nat) (v1 : Int32) (v2 : Int32) (v3 : Int32) (v4 : Int32) (v5 : Int32) (h_v0 : v0 ∈ G.1) (k_v0 : G.2.1 v0 = 12) (S : HS) (H : Heap) (locs : List Loc) (ls : Array Slot), s_X12_root_L60 G.2.2 F n v0 v1 v2 v3 v4 v5 S = some (r, S') → HP V G S H → va_S (AG G s.heap.size) s.heap H locs → WT G S → lv_has ls 7 [(0, .ref v0), (1, .int v1), (2, .int v2), (3, .int v3), (4, .int v4), (5, .int v5)] → W p l e (RM 21 706) s m args below meth c H locs 0 0 (MQ below (QI V G S' r s.heap.size) args s 0 0 (AG G s.heap.size)) (F0 m 60 ls []) := by
  intro n
  induction n with
  | zero =>
    intro v0 v1 v2 v3 v4 v5 h_v0 k_v0 S H locs ls hf
    rw [s_X12_root_L60] at hf
    cases hf
  | succ n ih =>
    intro v0 v1 v2 v3 v4 v5 h_v0 k_v0 S H locs ls hf hP hS hW hl
    have hx := C.1
    have hb := C.2.1
    rw [s_X12_root_L60] at hf
    refine lv_iload hx hb dX12_root_60 (lv_at hl 5 rfl) ?_
    refine lv_iload_n hx hb dX12_root_62 rfl (lv_at hl 3 rfl) ?_
    refine lv_icmp_gt (tgt := 116) hx hb dX12_root_63 (by decide) (fun c13 => ?_) (fun c13 => ?_)
    · have hf := if_t c13 hf
      refine lv_iload hx hb dX12_root_116 (lv_at hl 4 rfl) ?_
      cases hf
      exact x_reti C hP hS hW dX12_root_118
    · have hf := if_f c13 hf
      refine lv_aload_n hx hb dX12_root_66 rfl (lv_at hl 0 rfl) ?_
      refine lv_iload hx hb dX12_root_67 (lv_at hl 5 rfl) ?_
      refine lv_iload hx hb dX12_root_69 (lv_at hl 5 rfl) ?_
      refine lv_aload_n hx hb dX12_root_71 rfl (lv_at hl 0 rfl) ?_
      refine lv_iload_n hx hb dX12_root_72 rfl (lv_at hl 2 rfl) ?_
      refine lv_iload_n hx hb dX12_root_73 rfl (lv_at hl 1 rfl) ?_
      obtain ⟨r14, er14, hf⟩ := bd1_e hf
      refine x_aft_i (x_runV (As := [.int v2, .int v1]) (rest := [.int v5, .int v5, .ref v0]) C hP hS (c_X12_negative (l := l) C.2.2.2.2.2.2.2.2.2.1 hW h_v0 k_v0 er14 H.size) h_v0 k_v0 (by decide) rfl rfl km_X12_negative ki_X12_negative qm_X12_412 ⟨(Nat.le_of_ble_eq_true rfl), (Nat.le_of_ble_eq_true rfl)⟩ rfl hl.1 rfl (Nat.le_of_ble_eq_true rfl) ⟨Nat.zero_le _, Nat.zero_le _⟩ dX12_root_74) hS (fun H locs hP hS hW => ?_)
      obtain ⟨r15, S16, eS16, hf⟩ := bd2_e hf
      refine x_aft_i (x_runV (As := [.int v5, .int v5, .int r14]) (rest := []) C hP hS (c_X12_sumNow (l := l) C.2.2.2.2.2.2.2.2.2.1 hW h_v0 k_v0 eS16 H.size) h_v0 k_v0 (by decide) rfl rfl km_X12_sumNow ki_X12_sumNow qm_X12_415 ⟨(Nat.le_of_ble_eq_true rfl), (Nat.le_of_ble_eq_true rfl)⟩ rfl hl.1 rfl (Nat.le_of_ble_eq_true rfl) ⟨Nat.zero_le _, Nat.zero_le _⟩ dX12_root_77) hS (fun H locs hP hS hW => ?_)
      refine lv_istore (lv' := [(6, .int r15), (0, .ref v0), (1, .int v1), (2, .int v2), (3, .int v3), (4, .int v4), (5, .int v5)]) hx hb dX12_root_80 hl (by decide) rfl (fun ls hl => ?_)
      refine lv_aload_n hx hb dX12_root_82 rfl (lv_at hl 1 rfl) ?_
      refine lv_iload_n hx hb dX12_root_83 rfl (lv_at hl 3 rfl) ?_
      refine lv_iload hx hb dX12_root_84 (lv_at hl 0 rfl) ?_
      obtain ⟨r17, er17, hf⟩ := bd1_e hf
      refine x_aft_z (x_runV (As := [.int v2, .int r15]) (rest := []) C hP hS (c_X12_isNan (l := l) C.2.2.2.2.2.2.2.2.2.1 hW h_v0 k_v0 er17 H.size) h_v0 k_v0 (by decide) rfl rfl km_X12_isNan ki_X12_isNan qm_X12_279 ⟨(Nat.le_of_ble_eq_true rfl), (Nat.le_of_ble_eq_true rfl)⟩ rfl hl.1 rfl (Nat.le_of_ble_eq_true rfl) ⟨Nat.zero_le _, Nat.zero_le _⟩ dX12_root_86) hS (fun H locs hP hS hW z18 => ?_)
      refine lv_if_ne (tgt := 106) hx hb dX12_root_89 (by decide) (fun c19 => ?_) (fun c19 => ?_)
      · have hf := if_f c19 hf
        exact b_X12_root_106 C ih v0 v1 v2 v3 v4 v5 h_v0 k_v0 S16 H locs _ hf hP hS hW (lv_sub hl [1, 2, 3, 4, 5, 6] rfl)
      · have hf := if_t c19 hf
        refine lv_aload_n hx hb dX12_root_92 rfl (lv_at hl 1 rfl) ?_
        refine lv_iload hx hb dX12_root_93 (lv_at hl 0 rfl) ?_
        obtain ⟨r21, er21, hf⟩ := bd1_e hf
        refine x_aft_i (x_runV (As := [.int r15]) (rest := []) C hP hS (c_X12_rankOf (l := l) C.2.2.2.2.2.2.2.2.2.1 hW h_v0 k_v0 er21 H.size) h_v0 k_v0 (by decide) rfl rfl km_X12_rankOf ki_X12_rankOf qm_X12_406 ⟨(Nat.le_of_ble_eq_true rfl), (Nat.le_of_ble_eq_true rfl)⟩ rfl hl.1 rfl (Nat.le_of_ble_eq_true rfl) ⟨Nat.zero_le _, Nat.zero_le _⟩ dX12_root_95) hS (fun H locs hP hS hW => ?_)
        refine lv_if_gt (tgt := 106) hx hb dX12_root_98 (by decide) (fun c22 => ?_) (fun c22 => ?_)
        · have hf := if_t c22 hf
          exact b_X12_root_106 C ih v0 v1 v2 v3 v4 v5 h_v0 k_v0 S16 H locs _ hf hP hS hW (lv_sub hl [1, 2, 3, 4, 5, 6] rfl)
        · have hf := if_f c22 hf
          refine lv_iload hx hb dX12_root_101 (lv_at hl 6 rfl) ?_
          refine lv_goto (tgt := 108) hx hb dX12_root_103 (by decide) ?_
          exact b_X12_root_108 C ih v0 v1 v2 v3 v5 v5 h_v0 k_v0 S16 H locs _ hf hP hS hW (lv_sub hl [1, 2, 3, 4, 6] rfl)
set_option maxRecDepth 100000 in
set_option maxHeartbeats 4000000 in
theorem b_X12_root_53 {p : Program} {l : Launch} {e : Env} {s : State} {m : MethodId} {args : Array Value} {below : List Frame} {meth : Method} {c : Code} {V : EV} {G : GS} {r : Int32} {S' : HS} {F : Nat} (C : CX p s m args meth c RX12 cX12_root 7 (some .int) V G) : ∀ (v0 : Nat) (v1 : Int32) (v2 : Int32) (w0 : Int32) (h_v0 : v0 ∈ G.1) (k_v0 : G.2.1 v0 = 12) (S : HS) (H : Heap) (locs : List Loc) (ls : Array Slot), s_X12_root_J53 G.2.2 F v0 v1 v2 w0 S = some (r, S') → HP V G S H → va_S (AG G s.heap.size) s.heap H locs → WT G S → lv_has ls 7 [(0, .ref v0), (1, .int v1), (2, .int v2)] → W p l e (RM 21 706) s m args below meth c H locs 0 0 (MQ below (QI V G S' r s.heap.size) args s 0 0 (AG G s.heap.size)) (F0 m 53 ls [.int w0]) := by
  intro v0 v1 v2 w0 h_v0 k_v0 S H locs ls hf hP hS hW hl
  have hx := C.1
  have hb := C.2.1
  unfold s_X12_root_J53 at hf
  refine lv_istore_n (lv' := [(3, .int w0), (0, .ref v0), (1, .int v1), (2, .int v2)]) hx hb dX12_root_53 rfl hl (by decide) rfl (fun ls hl => ?_)
  refine lv_iconst (v := (-1)) hx hb dX12_root_54 rfl ?_
  refine lv_istore (lv' := [(4, .int (-1)), (3, .int w0), (0, .ref v0), (1, .int v1), (2, .int v2)]) hx hb dX12_root_55 hl (by decide) rfl (fun ls hl => ?_)
  refine lv_iconst (v := 0) hx hb dX12_root_57 rfl ?_
  refine lv_istore (lv' := [(5, .int 0), (4, .int (-1)), (3, .int w0), (0, .ref v0), (1, .int v1), (2, .int v2)]) hx hb dX12_root_58 hl (by decide) rfl (fun ls hl => ?_)
  exact b_X12_root_60 C F v0 v1 v2 w0 (-1) 0 h_v0 k_v0 S H locs _ hf hP hS hW (lv_sub hl [3, 4, 5, 2, 1, 0] rfl)
set_option maxRecDepth 100000 in
set_option maxHeartbeats 4000000 in
theorem c_X12_root {l : Launch} {V : EV} {G : GS} {S : HS} {F : Nat} {a : Nat} {p0 : Int32} {r : Int32} {S' : HS} (hN : G.1.Nodup) (hW : WT G S) (h_a : a ∈ G.1) (k_a : G.2.1 a = 12) (hf : s_X12_root G.2.2 F a p0 S = some (r, S')) : MetI l yX12_root cX12_root 7 .int 21 706 V G S [.ref a, .int p0] r S' := by
  intro sz
  refine x_in RX12 rfl (by decide +kernel) hN (Nat.le_of_ble_eq_true rfl) (fun p e s m args below meth c ls hsz hargs hnm C hP hS hl => ?_)
  subst hsz
  have hx := C.1
  have hb := C.2.1
  have hl : lv_has ls 7 [(0, .ref a), (1, .int p0)] := hl
  unfold s_X12_root at hf
  refine lv_aload_n hx hb dX12_root_0 rfl (lv_at hl 0 rfl) ?_
  refine lv_iconst (v := 0) hx hb dX12_root_1 rfl ?_
  obtain ⟨S1, eS1, hf⟩ := bnd_e hf
  refine pf_X12_1 C hP hS h_a k_a eS1 dX12_root_2 (fun H locs hP hS => ?_)
  have hW : WT G S1 := by rw [eS1]; exact hW
  refine lv_aload_n hx hb dX12_root_5 rfl (lv_at hl 0 rfl) ?_
  obtain ⟨r2, er2, hf⟩ := bd1_e hf
  refine x_aft_z (x_runV (As := []) (rest := []) C hP hS (c_X12_isSmall (l := l) C.2.2.2.2.2.2.2.2.2.1 hW h_a k_a er2 H.size) h_a k_a (by decide) rfl rfl km_X12_isSmall ki_X12_isSmall qm_X12_443 ⟨(Nat.le_of_ble_eq_true rfl), (Nat.le_of_ble_eq_true rfl)⟩ rfl hl.1 rfl (Nat.le_of_ble_eq_true rfl) ⟨Nat.zero_le _, Nat.zero_le _⟩ dX12_root_6) hS (fun H locs hP hS hW z3 => ?_)
  refine lv_if_eq (tgt := 24) hx hb dX12_root_9 (by decide) (fun c4 => ?_) (fun c4 => ?_)
  · have hf := if_t c4 hf
    refine lv_iconst (v := (-1)) hx hb dX12_root_24 rfl ?_
    cases hf
    exact x_reti C hP hS hW dX12_root_25
  · have hf := if_f c4 hf
    refine lv_aload_n hx hb dX12_root_12 rfl (lv_at hl 0 rfl) ?_
    refine lv_aload_n hx hb dX12_root_13 rfl (lv_at hl 0 rfl) ?_
    obtain ⟨r5, er5, hf⟩ := bd1_e hf
    refine x_aft_i (x_runV (As := []) (rest := [.ref a]) C hP hS (c_X12_used (l := l) C.2.2.2.2.2.2.2.2.2.1 hW h_a k_a er5 H.size) h_a k_a (by decide) rfl rfl km_X12_used ki_X12_used qm_X12_357 ⟨(Nat.le_of_ble_eq_true rfl), (Nat.le_of_ble_eq_true rfl)⟩ rfl hl.1 rfl (Nat.le_of_ble_eq_true rfl) ⟨Nat.zero_le _, Nat.zero_le _⟩ dX12_root_14) hS (fun H locs hP hS hW => ?_)
    refine lv_iload_n hx hb dX12_root_17 rfl (lv_at hl 1 rfl) ?_
    obtain ⟨r6, er6, hf⟩ := bd1_e hf
    refine x_aft_z (x_runV (As := [.int r5, .int p0]) (rest := []) C hP hS (c_X12_isBits (l := l) C.2.2.2.2.2.2.2.2.2.1 hW h_a k_a er6 H.size) h_a k_a (by decide) rfl rfl km_X12_isBits ki_X12_isBits qm_X12_363 ⟨(Nat.le_of_ble_eq_true rfl), (Nat.le_of_ble_eq_true rfl)⟩ rfl hl.1 rfl (Nat.le_of_ble_eq_true rfl) ⟨Nat.zero_le _, Nat.zero_le _⟩ dX12_root_18) hS (fun H locs hP hS hW z7 => ?_)
    refine lv_if_ne (tgt := 26) hx hb dX12_root_21 (by decide) (fun c8 => ?_) (fun c8 => ?_)
    · have hf := if_f c8 hf
      refine lv_aload_n hx hb dX12_root_26 rfl (lv_at hl 0 rfl) ?_
      obtain ⟨r9, er9, hf⟩ := bd1_e hf
      refine x_aft_i (x_runV (As := []) (rest := []) C hP hS (c_X12_used (l := l) C.2.2.2.2.2.2.2.2.2.1 hW h_a k_a er9 H.size) h_a k_a (by decide) rfl rfl km_X12_used ki_X12_used qm_X12_357 ⟨(Nat.le_of_ble_eq_true rfl), (Nat.le_of_ble_eq_true rfl)⟩ rfl hl.1 rfl (Nat.le_of_ble_eq_true rfl) ⟨Nat.zero_le _, Nat.zero_le _⟩ dX12_root_27) hS (fun H locs hP hS hW => ?_)
      refine lv_istore_n (lv' := [(2, .int r9), (0, .ref a), (1, .int p0)]) hx hb dX12_root_30 rfl hl (by decide) rfl (fun ls hl => ?_)
      refine lv_aload_n hx hb dX12_root_31 rfl (lv_at hl 1 rfl) ?_
      refine lv_iload_n hx hb dX12_root_32 rfl (lv_at hl 0 rfl) ?_
      obtain ⟨r10, er10, hf⟩ := bd1_e hf
      refine x_aft_i (x_runV (As := [.int r9]) (rest := []) C hP hS (c_X12_kindOf (l := l) C.2.2.2.2.2.2.2.2.2.1 hW h_a k_a er10 H.size) h_a k_a (by decide) rfl rfl km_X12_kindOf ki_X12_kindOf qm_X12_249 ⟨(Nat.le_of_ble_eq_true rfl), (Nat.le_of_ble_eq_true rfl)⟩ rfl hl.1 rfl (Nat.le_of_ble_eq_true rfl) ⟨Nat.zero_le _, Nat.zero_le _⟩ dX12_root_33) hS (fun H locs hP hS hW => ?_)
      refine lv_iconst (v := 3) hx hb dX12_root_36 rfl ?_
      refine lv_icmp_ne (tgt := 48) hx hb dX12_root_37 (by decide) (fun c11 => ?_) (fun c11 => ?_)
      · have hf := if_f c11 hf
        refine lv_aload_n hx hb dX12_root_48 rfl (lv_at hl 1 rfl) ?_
        refine lv_iload_n hx hb dX12_root_49 rfl (lv_at hl 0 rfl) ?_
        obtain ⟨r12, er12, hf⟩ := bd1_e hf
        refine x_aft_i (x_runV (As := [.int r9]) (rest := []) C hP hS (c_X12_infOf (l := l) C.2.2.2.2.2.2.2.2.2.1 hW h_a k_a er12 H.size) h_a k_a (by decide) rfl rfl km_X12_infOf ki_X12_infOf qm_X12_261 ⟨(Nat.le_of_ble_eq_true rfl), (Nat.le_of_ble_eq_true rfl)⟩ rfl hl.1 rfl (Nat.le_of_ble_eq_true rfl) ⟨Nat.zero_le _, Nat.zero_le _⟩ dX12_root_50) hS (fun H locs hP hS hW => ?_)
        exact b_X12_root_53 C a p0 r9 r12 h_a k_a S1 H locs _ hf hP hS hW (lv_sub hl [1, 2, 0] rfl)
      · have hf := if_t c11 hf
        refine lv_aload_n hx hb dX12_root_40 rfl (lv_at hl 1 rfl) ?_
        refine lv_iload_n hx hb dX12_root_41 rfl (lv_at hl 0 rfl) ?_
        obtain ⟨r23, er23, hf⟩ := bd1_e hf
        refine x_aft_i (x_runV (As := [.int r9]) (rest := []) C hP hS (c_X12_greatestOf (l := l) C.2.2.2.2.2.2.2.2.2.1 hW h_a k_a er23 H.size) h_a k_a (by decide) rfl rfl km_X12_greatestOf ki_X12_greatestOf qm_X12_327 ⟨(Nat.le_of_ble_eq_true rfl), (Nat.le_of_ble_eq_true rfl)⟩ rfl hl.1 rfl (Nat.le_of_ble_eq_true rfl) ⟨Nat.zero_le _, Nat.zero_le _⟩ dX12_root_42) hS (fun H locs hP hS hW => ?_)
        refine lv_goto (tgt := 53) hx hb dX12_root_45 (by decide) ?_
        exact b_X12_root_53 C a p0 r9 r23 h_a k_a S1 H locs _ hf hP hS hW (lv_sub hl [1, 2, 0] rfl)
    · have hf := if_t c8 hf
      refine lv_iconst (v := (-1)) hx hb dX12_root_24 rfl ?_
      cases hf
      exact x_reti C hP hS hW dX12_root_25
def s_X12_scale_J67 (N : Nat → Nat) (F : Nat) (v1 : Int32) (S : HS) : Option (Int32 × HS) :=
  some (v1, S)
def s_X12_scale (N : Nat → Nat) (F : Nat) (a : Nat) (p0 : Int32) (p1 : Int32) (S : HS) : Option (Int32 × HS) :=
  bnd (uI S 1200 a 0) fun S1 =>
  bd1 (s_X12_used N a S1) fun r2 =>
  bd1 (s_X12_isBits N a r2 p0 S1) fun r3 =>
  if r3 = (0 : Int32) then
  some ((-1), S1)
  else
  if (s_X12_within p1 (-400) 400 S1) = (0 : Int32) then
  some ((-1), S1)
  else
  bd1 (s_X12_classOf N a r2 p0 S1) fun r8 =>
  if r8 = (4 : Int32) then
  bd1 (s_X12_nanOf N a r2 S1) fun r20 =>
  some (r20, S1)
  else
  if r8 = (3 : Int32) then
  s_X12_scale_J67 N F p0 S1
  else
  if r8 = (0 : Int32) then
  s_X12_scale_J67 N F p0 S1
  else
  bd1 (s_X12_isMinus N a r2 p0 S1) fun r12 =>
  bd1 (s_X12_wholeOf N a r2 p0 S1) fun r14 =>
  bd1 (s_X12_placeOf N a r2 p0 S1) fun r15 =>
  bd1 (gR S1 1217 a) fun t16 =>
  if inB (1 : Int32) (N t16) = true then
  bd2 (s_X12_rounds N F a r2 r12 r14 (r15 + p1) 0 (aI S1 t16 (1 : Int32).toNatClampNeg) S1) fun r18 S19 =>
  some (r18, S19)
  else none
set_option maxRecDepth 100000 in
set_option maxHeartbeats 4000000 in
theorem b_X12_scale_67 {p : Program} {l : Launch} {e : Env} {s : State} {m : MethodId} {args : Array Value} {below : List Frame} {meth : Method} {c : Code} {V : EV} {G : GS} {r : Int32} {S' : HS} {F : Nat} (C : CX p s m args meth c RX12 cX12_scale 5 (some .int) V G) : ∀ (v1 : Int32) (S : HS) (H : Heap) (locs : List Loc) (ls : Array Slot), s_X12_scale_J67 G.2.2 F v1 S = some (r, S') → HP V G S H → va_S (AG G s.heap.size) s.heap H locs → WT G S → lv_has ls 5 [(1, .int v1)] → W p l e (RM 6 194) s m args below meth c H locs 0 0 (MQ below (QI V G S' r s.heap.size) args s 0 0 (AG G s.heap.size)) (F0 m 67 ls []) := by
  intro v1 S H locs ls hf hP hS hW hl
  have hx := C.1
  have hb := C.2.1
  unfold s_X12_scale_J67 at hf
  refine lv_iload_n hx hb dX12_scale_67 rfl (lv_at hl 0 rfl) ?_
  refine lv_goto (tgt := 103) hx hb dX12_scale_68 (by decide) ?_
  cases hf
  exact x_reti C hP hS hW dX12_scale_103
set_option maxRecDepth 100000 in
set_option maxHeartbeats 4000000 in
theorem c_X12_scale {l : Launch} {V : EV} {G : GS} {S : HS} {F : Nat} {a : Nat} {p0 : Int32} {p1 : Int32} {r : Int32} {S' : HS} (hN : G.1.Nodup) (hW : WT G S) (h_a : a ∈ G.1) (k_a : G.2.1 a = 12) (hf : s_X12_scale G.2.2 F a p0 p1 S = some (r, S')) : MetI l yX12_scale cX12_scale 5 .int 6 194 V G S [.ref a, .int p0, .int p1] r S' := by
  intro sz
  refine x_in RX12 rfl (by decide +kernel) hN (Nat.le_of_ble_eq_true rfl) (fun p e s m args below meth c ls hsz hargs hnm C hP hS hl => ?_)
  subst hsz
  have hx := C.1
  have hb := C.2.1
  have hl : lv_has ls 5 [(0, .ref a), (1, .int p0), (2, .int p1)] := hl
  unfold s_X12_scale at hf
  refine lv_aload_n hx hb dX12_scale_0 rfl (lv_at hl 0 rfl) ?_
  refine lv_iconst (v := 0) hx hb dX12_scale_1 rfl ?_
  obtain ⟨S1, eS1, hf⟩ := bnd_e hf
  refine pf_X12_1 C hP hS h_a k_a eS1 dX12_scale_2 (fun H locs hP hS => ?_)
  have hW : WT G S1 := by rw [eS1]; exact hW
  refine lv_aload_n hx hb dX12_scale_5 rfl (lv_at hl 0 rfl) ?_
  obtain ⟨r2, er2, hf⟩ := bd1_e hf
  refine x_aft_i (x_runV (As := []) (rest := []) C hP hS (c_X12_used (l := l) C.2.2.2.2.2.2.2.2.2.1 hW h_a k_a er2 H.size) h_a k_a (by decide) rfl rfl km_X12_used ki_X12_used qm_X12_357 ⟨(Nat.le_of_ble_eq_true rfl), (Nat.le_of_ble_eq_true rfl)⟩ rfl hl.1 rfl (Nat.le_of_ble_eq_true rfl) ⟨Nat.zero_le _, Nat.zero_le _⟩ dX12_scale_6) hS (fun H locs hP hS hW => ?_)
  refine lv_istore_n (lv' := [(3, .int r2), (0, .ref a), (1, .int p0), (2, .int p1)]) hx hb dX12_scale_9 rfl hl (by decide) rfl (fun ls hl => ?_)
  refine lv_aload_n hx hb dX12_scale_10 rfl (lv_at hl 1 rfl) ?_
  refine lv_iload_n hx hb dX12_scale_11 rfl (lv_at hl 0 rfl) ?_
  refine lv_iload_n hx hb dX12_scale_12 rfl (lv_at hl 2 rfl) ?_
  obtain ⟨r3, er3, hf⟩ := bd1_e hf
  refine x_aft_z (x_runV (As := [.int r2, .int p0]) (rest := []) C hP hS (c_X12_isBits (l := l) C.2.2.2.2.2.2.2.2.2.1 hW h_a k_a er3 H.size) h_a k_a (by decide) rfl rfl km_X12_isBits ki_X12_isBits qm_X12_363 ⟨(Nat.le_of_ble_eq_true rfl), (Nat.le_of_ble_eq_true rfl)⟩ rfl hl.1 rfl (Nat.le_of_ble_eq_true rfl) ⟨Nat.zero_le _, Nat.zero_le _⟩ dX12_scale_13) hS (fun H locs hP hS hW z4 => ?_)
  refine lv_if_eq (tgt := 32) hx hb dX12_scale_16 (by decide) (fun c5 => ?_) (fun c5 => ?_)
  · have hf := if_t c5 hf
    refine lv_iconst (v := (-1)) hx hb dX12_scale_32 rfl ?_
    cases hf
    exact x_reti C hP hS hW dX12_scale_33
  · have hf := if_f c5 hf
    refine lv_iload_n hx hb dX12_scale_19 rfl (lv_at hl 3 rfl) ?_
    refine lv_sipush (v := (-400)) hx hb dX12_scale_20 kc_sipush_m400 ?_
    refine lv_sipush (v := 400) hx hb dX12_scale_23 kc_sipush_400 ?_
    refine x_aft_z (x_runS (As := [.int p1, .int (-400), .int 400]) (rest := []) C hP hS (c_X12_within (l := l) C.2.2.2.2.2.2.2.2.2.1 hW rfl H.size) km_X12_within ks_X12_within qm_X12_386 ⟨(Nat.le_of_ble_eq_true rfl), (Nat.le_of_ble_eq_true rfl)⟩ rfl hl.1 rfl (Nat.le_of_ble_eq_true rfl) ⟨Nat.zero_le _, Nat.zero_le _⟩ dX12_scale_26) hS (fun H locs hP hS hW z6 => ?_)
    refine lv_if_ne (tgt := 34) hx hb dX12_scale_29 (by decide) (fun c7 => ?_) (fun c7 => ?_)
    · have hf := if_f c7 hf
      refine lv_aload_n hx hb dX12_scale_34 rfl (lv_at hl 1 rfl) ?_
      refine lv_iload_n hx hb dX12_scale_35 rfl (lv_at hl 0 rfl) ?_
      refine lv_iload_n hx hb dX12_scale_36 rfl (lv_at hl 2 rfl) ?_
      obtain ⟨r8, er8, hf⟩ := bd1_e hf
      refine x_aft_i (x_runV (As := [.int r2, .int p0]) (rest := []) C hP hS (c_X12_classOf (l := l) C.2.2.2.2.2.2.2.2.2.1 hW h_a k_a er8 H.size) h_a k_a (by decide) rfl rfl km_X12_classOf ki_X12_classOf qm_X12_276 ⟨(Nat.le_of_ble_eq_true rfl), (Nat.le_of_ble_eq_true rfl)⟩ rfl hl.1 rfl (Nat.le_of_ble_eq_true rfl) ⟨Nat.zero_le _, Nat.zero_le _⟩ dX12_scale_37) hS (fun H locs hP hS hW => ?_)
      refine lv_istore (lv' := [(4, .int r8), (3, .int r2), (0, .ref a), (1, .int p0), (2, .int p1)]) hx hb dX12_scale_40 hl (by decide) rfl (fun ls hl => ?_)
      refine lv_iload hx hb dX12_scale_42 (lv_at hl 0 rfl) ?_
      refine lv_iconst (v := 4) hx hb dX12_scale_44 rfl ?_
      refine lv_icmp_ne (tgt := 56) hx hb dX12_scale_45 (by decide) (fun c9 => ?_) (fun c9 => ?_)
      · have hf := if_f c9 hf
        refine lv_iload hx hb dX12_scale_56 (lv_at hl 0 rfl) ?_
        refine lv_iconst (v := 3) hx hb dX12_scale_58 rfl ?_
        refine lv_icmp_eq (tgt := 67) hx hb dX12_scale_59 (by decide) (fun c10 => ?_) (fun c10 => ?_)
        · have hf := if_t c10 hf
          exact b_X12_scale_67 C p0 S1 H locs _ hf hP hS hW (lv_sub hl [3] rfl)
        · have hf := if_f c10 hf
          refine lv_iload hx hb dX12_scale_62 (lv_at hl 0 rfl) ?_
          refine lv_if_ne (tgt := 71) hx hb dX12_scale_64 (by decide) (fun c11 => ?_) (fun c11 => ?_)
          · have hf := if_f c11 hf
            refine lv_aload_n hx hb dX12_scale_71 rfl (lv_at hl 2 rfl) ?_
            refine lv_iload_n hx hb dX12_scale_72 rfl (lv_at hl 1 rfl) ?_
            refine lv_aload_n hx hb dX12_scale_73 rfl (lv_at hl 2 rfl) ?_
            refine lv_iload_n hx hb dX12_scale_74 rfl (lv_at hl 1 rfl) ?_
            refine lv_iload_n hx hb dX12_scale_75 rfl (lv_at hl 3 rfl) ?_
            obtain ⟨r12, er12, hf⟩ := bd1_e hf
            refine x_aft_z (x_runV (As := [.int r2, .int p0]) (rest := [.int r2, .ref a]) C hP hS (c_X12_isMinus (l := l) C.2.2.2.2.2.2.2.2.2.1 hW h_a k_a er12 H.size) h_a k_a (by decide) rfl rfl km_X12_isMinus ki_X12_isMinus qm_X12_283 ⟨(Nat.le_of_ble_eq_true rfl), (Nat.le_of_ble_eq_true rfl)⟩ rfl hl.1 rfl (Nat.le_of_ble_eq_true rfl) ⟨Nat.zero_le _, Nat.zero_le _⟩ dX12_scale_76) hS (fun H locs hP hS hW z13 => ?_)
            refine lv_aload_n hx hb dX12_scale_79 rfl (lv_at hl 2 rfl) ?_
            refine lv_iload_n hx hb dX12_scale_80 rfl (lv_at hl 1 rfl) ?_
            refine lv_iload_n hx hb dX12_scale_81 rfl (lv_at hl 3 rfl) ?_
            obtain ⟨r14, er14, hf⟩ := bd1_e hf
            refine x_aft_l (x_runV (As := [.int r2, .int p0]) (rest := [.int r12, .int r2, .ref a]) C hP hS (c_X12_wholeOf (l := l) C.2.2.2.2.2.2.2.2.2.1 hW h_a k_a er14 H.size) h_a k_a (by decide) rfl rfl km_X12_wholeOf ki_X12_wholeOf qm_X12_347 ⟨(Nat.le_of_ble_eq_true rfl), (Nat.le_of_ble_eq_true rfl)⟩ rfl hl.1 rfl (Nat.le_of_ble_eq_true rfl) ⟨Nat.zero_le _, Nat.zero_le _⟩ dX12_scale_82) hS (fun H locs hP hS hW => ?_)
            refine lv_aload_n hx hb dX12_scale_85 rfl (lv_at hl 2 rfl) ?_
            refine lv_iload_n hx hb dX12_scale_86 rfl (lv_at hl 1 rfl) ?_
            refine lv_iload_n hx hb dX12_scale_87 rfl (lv_at hl 3 rfl) ?_
            obtain ⟨r15, er15, hf⟩ := bd1_e hf
            refine x_aft_i (x_runV (As := [.int r2, .int p0]) (rest := [.long r14, .int r12, .int r2, .ref a]) C hP hS (c_X12_placeOf (l := l) C.2.2.2.2.2.2.2.2.2.1 hW h_a k_a er15 H.size) h_a k_a (by decide) rfl rfl km_X12_placeOf ki_X12_placeOf qm_X12_351 ⟨(Nat.le_of_ble_eq_true rfl), (Nat.le_of_ble_eq_true rfl)⟩ rfl hl.1 rfl (Nat.le_of_ble_eq_true rfl) ⟨Nat.zero_le _, Nat.zero_le _⟩ dX12_scale_88) hS (fun H locs hP hS hW => ?_)
            refine lv_iload_n hx hb dX12_scale_91 rfl (lv_at hl 4 rfl) ?_
            refine lv_iadd hx hb dX12_scale_92 ?_
            refine lv_iconst (v := 0) hx hb dX12_scale_93 rfl ?_
            refine lv_aload_n hx hb dX12_scale_94 rfl (lv_at hl 2 rfl) ?_
            refine gf_X12_95 C hP h_a k_a dX12_scale_95 ?_
            obtain ⟨t16, et16, hf⟩ := bd1_e hf
            obtain ⟨h_t16, k_t16⟩ := wt_r hW h_a k_a (by decide) et16
            have k_t16 : G.2.1 t16 = 14 := k_t16
            rw [et16]
            refine lv_iconst (v := 1) hx hb dX12_scale_98 rfl ?_
            obtain ⟨h17, hf⟩ := if_s hf
            refine x_iald C hP h_t16 k_t16 h17 dX12_scale_99 ?_
            obtain ⟨r18, S19, eS19, hf⟩ := bd2_e hf
            refine x_aft_i (x_runV (As := [.int r2, .int r12, .long r14, .int (r15 + p1), .int 0, .int (aI S1 t16 (1 : Int32).toNatClampNeg)]) (rest := []) C hP hS (c_X12_rounds (l := l) C.2.2.2.2.2.2.2.2.2.1 hW h_a k_a eS19 H.size) h_a k_a (by decide) rfl rfl km_X12_rounds ki_X12_rounds qm_X12_334 ⟨(Nat.le_of_ble_eq_true rfl), (Nat.le_of_ble_eq_true rfl)⟩ rfl hl.1 rfl (Nat.le_of_ble_eq_true rfl) ⟨Nat.zero_le _, Nat.zero_le _⟩ dX12_scale_100) hS (fun H locs hP hS hW => ?_)
            cases hf
            exact x_reti C hP hS hW dX12_scale_103
          · have hf := if_t c11 hf
            exact b_X12_scale_67 C p0 S1 H locs _ hf hP hS hW (lv_sub hl [3] rfl)
      · have hf := if_t c9 hf
        refine lv_aload_n hx hb dX12_scale_48 rfl (lv_at hl 2 rfl) ?_
        refine lv_iload_n hx hb dX12_scale_49 rfl (lv_at hl 1 rfl) ?_
        obtain ⟨r20, er20, hf⟩ := bd1_e hf
        refine x_aft_i (x_runV (As := [.int r2]) (rest := []) C hP hS (c_X12_nanOf (l := l) C.2.2.2.2.2.2.2.2.2.1 hW h_a k_a er20 H.size) h_a k_a (by decide) rfl rfl km_X12_nanOf ki_X12_nanOf qm_X12_344 ⟨(Nat.le_of_ble_eq_true rfl), (Nat.le_of_ble_eq_true rfl)⟩ rfl hl.1 rfl (Nat.le_of_ble_eq_true rfl) ⟨Nat.zero_le _, Nat.zero_le _⟩ dX12_scale_50) hS (fun H locs hP hS hW => ?_)
        refine lv_goto (tgt := 103) hx hb dX12_scale_53 (by decide) ?_
        cases hf
        exact x_reti C hP hS hW dX12_scale_103
    · have hf := if_t c7 hf
      refine lv_iconst (v := (-1)) hx hb dX12_scale_32 rfl ?_
      cases hf
      exact x_reti C hP hS hW dX12_scale_33
def s_X12_see_J74 (N : Nat → Nat) (v0 : Nat) (w0 : Nat) (w1 : Int32) (w2 : Int32) (S : HS) : Option (Int32 × HS) :=
  if inB w1 (N w0) = true then
  bnd (wI S w0 (w1.toNatClampNeg) w2) fun S21 =>
  bd1 (gR S21 1217 v0) fun t22 =>
  if inB (10 : Int32) (N t22) = true then
  if inB (10 : Int32) (N t22) = true then
  bnd (wI S21 t22 ((10 : Int32).toNatClampNeg) ((aI S21 t22 (10 : Int32).toNatClampNeg) + 1)) fun S25 =>
  some (1, S25)
  else none
  else none
  else none
def s_X12_see (N : Nat → Nat) (a : Nat) (p0 : Int32) (p1 : Int32) (S : HS) : Option (Int32 × HS) :=
  bnd (uI S 1200 a 0) fun S1 =>
  bd1 (s_X12_isSmall N a S1) fun r2 =>
  if r2 = (0 : Int32) then
  some (0, S1)
  else
  bd1 (s_X12_used N a S1) fun r5 =>
  bd1 (s_X12_isBits N a r5 p0 S1) fun r6 =>
  if r6 = (0 : Int32) then
  some (0, S1)
  else
  bd1 (gR S1 1217 a) fun t9 =>
  if inB (10 : Int32) (N t9) = true then
  if (aI S1 t9 (10 : Int32).toNatClampNeg) = (8 : Int32) then
  some (0, S1)
  else
  bd1 (gR S1 1217 a) fun t12 =>
  if inB (10 : Int32) (N t12) = true then
  bnd (11 + (2 * (aI S1 t12 (10 : Int32).toNatClampNeg)) : Int32) fun x14 =>
  bd1 (gR S1 1217 a) fun t15 =>
  if inB x14 (N t15) = true then
  bnd (wI S1 t15 (x14.toNatClampNeg) p0) fun S17 =>
  bd1 (gR S17 1217 a) fun t18 =>
  if p1 = (0 : Int32) then
  s_X12_see_J74 N a t18 (x14 + 1) 0 S17
  else
  s_X12_see_J74 N a t18 (x14 + 1) 1 S17
  else none
  else none
  else none
set_option maxRecDepth 100000 in
set_option maxHeartbeats 4000000 in
theorem b_X12_see_74 {p : Program} {l : Launch} {e : Env} {s : State} {m : MethodId} {args : Array Value} {below : List Frame} {meth : Method} {c : Code} {V : EV} {G : GS} {r : Int32} {S' : HS} (C : CX p s m args meth c RX12 cX12_see 4 (some .boolean) V G) : ∀ (v0 : Nat) (w0 : Nat) (w1 : Int32) (w2 : Int32) (h_v0 : v0 ∈ G.1) (k_v0 : G.2.1 v0 = 12) (h_w0 : w0 ∈ G.1) (k_w0 : G.2.1 w0 = 14) (S : HS) (H : Heap) (locs : List Loc) (ls : Array Slot), s_X12_see_J74 G.2.2 v0 w0 w1 w2 S = some (r, S') → HP V G S H → va_S (AG G s.heap.size) s.heap H locs → WT G S → lv_has ls 4 [(0, .ref v0)] → W p l e (RM 3 88) s m args below meth c H locs 0 0 (MQ below (QZ V G S' r s.heap.size) args s 0 0 (AG G s.heap.size)) (F0 m 74 ls [.int w2, .int w1, .ref w0]) := by
  intro v0 w0 w1 w2 h_v0 k_v0 h_w0 k_w0 S H locs ls hf hP hS hW hl
  have hx := C.1
  have hb := C.2.1
  unfold s_X12_see_J74 at hf
  obtain ⟨h20, hf⟩ := if_s hf
  obtain ⟨S21, eS21, hf⟩ := bnd_e hf
  refine x_iast C hP hS h_w0 k_w0 h20 eS21 dX12_see_74 (fun H locs hP hS => ?_)
  have hW : WT G S21 := by rw [eS21]; exact hW
  refine lv_aload_n hx hb dX12_see_75 rfl (lv_at hl 0 rfl) ?_
  refine gf_X12_95 C hP h_v0 k_v0 dX12_see_76 ?_
  obtain ⟨t22, et22, hf⟩ := bd1_e hf
  obtain ⟨h_t22, k_t22⟩ := wt_r hW h_v0 k_v0 (by decide) et22
  have k_t22 : G.2.1 t22 = 14 := k_t22
  rw [et22]
  refine lv_bipush (v := 10) hx hb dX12_see_79 kc_bipush_10 ?_
  refine lv_dup2_11 hx hb dX12_see_81 rfl rfl ?_
  obtain ⟨h23, hf⟩ := if_s hf
  refine x_iald C hP h_t22 k_t22 h23 dX12_see_82 ?_
  refine lv_iconst (v := 1) hx hb dX12_see_83 rfl ?_
  refine lv_iadd hx hb dX12_see_84 ?_
  obtain ⟨h24, hf⟩ := if_s hf
  obtain ⟨S25, eS25, hf⟩ := bnd_e hf
  refine x_iast C hP hS h_t22 k_t22 h24 eS25 dX12_see_85 (fun H locs hP hS => ?_)
  have hW : WT G S25 := by rw [eS25]; exact hW
  refine lv_iconst (v := 1) hx hb dX12_see_86 rfl ?_
  cases hf
  exact x_retZ C hP hS hW isZ_1 dX12_see_87
set_option maxRecDepth 100000 in
set_option maxHeartbeats 4000000 in
theorem c_X12_see {l : Launch} {V : EV} {G : GS} {S : HS} {a : Nat} {p0 : Int32} {p1 : Int32} {r : Int32} {S' : HS} (hN : G.1.Nodup) (hW : WT G S) (h_a : a ∈ G.1) (k_a : G.2.1 a = 12) (hf : s_X12_see G.2.2 a p0 p1 S = some (r, S')) : MetZ l yX12_see cX12_see 4 3 88 V G S [.ref a, .int p0, .int p1] r S' := by
  intro sz
  refine x_in RX12 rfl (by decide +kernel) hN (Nat.le_of_ble_eq_true rfl) (fun p e s m args below meth c ls hsz hargs hnm C hP hS hl => ?_)
  subst hsz
  have hx := C.1
  have hb := C.2.1
  have hl : lv_has ls 4 [(0, .ref a), (1, .int p0), (2, .int p1)] := hl
  unfold s_X12_see at hf
  refine lv_aload_n hx hb dX12_see_0 rfl (lv_at hl 0 rfl) ?_
  refine lv_iconst (v := 0) hx hb dX12_see_1 rfl ?_
  obtain ⟨S1, eS1, hf⟩ := bnd_e hf
  refine pf_X12_1 C hP hS h_a k_a eS1 dX12_see_2 (fun H locs hP hS => ?_)
  have hW : WT G S1 := by rw [eS1]; exact hW
  refine lv_aload_n hx hb dX12_see_5 rfl (lv_at hl 0 rfl) ?_
  obtain ⟨r2, er2, hf⟩ := bd1_e hf
  refine x_aft_z (x_runV (As := []) (rest := []) C hP hS (c_X12_isSmall (l := l) C.2.2.2.2.2.2.2.2.2.1 hW h_a k_a er2 H.size) h_a k_a (by decide) rfl rfl km_X12_isSmall ki_X12_isSmall qm_X12_443 ⟨(Nat.le_of_ble_eq_true rfl), (Nat.le_of_ble_eq_true rfl)⟩ rfl hl.1 rfl (Nat.le_of_ble_eq_true rfl) ⟨Nat.zero_le _, Nat.zero_le _⟩ dX12_see_6) hS (fun H locs hP hS hW z3 => ?_)
  refine lv_if_eq (tgt := 36) hx hb dX12_see_9 (by decide) (fun c4 => ?_) (fun c4 => ?_)
  · have hf := if_t c4 hf
    refine lv_iconst (v := 0) hx hb dX12_see_36 rfl ?_
    cases hf
    exact x_retZ C hP hS hW isZ_0 dX12_see_37
  · have hf := if_f c4 hf
    refine lv_aload_n hx hb dX12_see_12 rfl (lv_at hl 0 rfl) ?_
    refine lv_aload_n hx hb dX12_see_13 rfl (lv_at hl 0 rfl) ?_
    obtain ⟨r5, er5, hf⟩ := bd1_e hf
    refine x_aft_i (x_runV (As := []) (rest := [.ref a]) C hP hS (c_X12_used (l := l) C.2.2.2.2.2.2.2.2.2.1 hW h_a k_a er5 H.size) h_a k_a (by decide) rfl rfl km_X12_used ki_X12_used qm_X12_357 ⟨(Nat.le_of_ble_eq_true rfl), (Nat.le_of_ble_eq_true rfl)⟩ rfl hl.1 rfl (Nat.le_of_ble_eq_true rfl) ⟨Nat.zero_le _, Nat.zero_le _⟩ dX12_see_14) hS (fun H locs hP hS hW => ?_)
    refine lv_iload_n hx hb dX12_see_17 rfl (lv_at hl 1 rfl) ?_
    obtain ⟨r6, er6, hf⟩ := bd1_e hf
    refine x_aft_z (x_runV (As := [.int r5, .int p0]) (rest := []) C hP hS (c_X12_isBits (l := l) C.2.2.2.2.2.2.2.2.2.1 hW h_a k_a er6 H.size) h_a k_a (by decide) rfl rfl km_X12_isBits ki_X12_isBits qm_X12_363 ⟨(Nat.le_of_ble_eq_true rfl), (Nat.le_of_ble_eq_true rfl)⟩ rfl hl.1 rfl (Nat.le_of_ble_eq_true rfl) ⟨Nat.zero_le _, Nat.zero_le _⟩ dX12_see_18) hS (fun H locs hP hS hW z7 => ?_)
    refine lv_if_eq (tgt := 36) hx hb dX12_see_21 (by decide) (fun c8 => ?_) (fun c8 => ?_)
    · have hf := if_t c8 hf
      refine lv_iconst (v := 0) hx hb dX12_see_36 rfl ?_
      cases hf
      exact x_retZ C hP hS hW isZ_0 dX12_see_37
    · have hf := if_f c8 hf
      refine lv_aload_n hx hb dX12_see_24 rfl (lv_at hl 0 rfl) ?_
      refine gf_X12_95 C hP h_a k_a dX12_see_25 ?_
      obtain ⟨t9, et9, hf⟩ := bd1_e hf
      obtain ⟨h_t9, k_t9⟩ := wt_r hW h_a k_a (by decide) et9
      have k_t9 : G.2.1 t9 = 14 := k_t9
      rw [et9]
      refine lv_bipush (v := 10) hx hb dX12_see_28 kc_bipush_10 ?_
      obtain ⟨h10, hf⟩ := if_s hf
      refine x_iald C hP h_t9 k_t9 h10 dX12_see_30 ?_
      refine lv_bipush (v := 8) hx hb dX12_see_31 kc_bipush_8 ?_
      refine lv_icmp_ne (tgt := 38) hx hb dX12_see_33 (by decide) (fun c11 => ?_) (fun c11 => ?_)
      · have hf := if_f c11 hf
        refine lv_bipush (v := 11) hx hb dX12_see_38 kc_bipush_11 ?_
        refine lv_iconst (v := 2) hx hb dX12_see_40 rfl ?_
        refine lv_aload_n hx hb dX12_see_41 rfl (lv_at hl 0 rfl) ?_
        refine gf_X12_95 C hP h_a k_a dX12_see_42 ?_
        obtain ⟨t12, et12, hf⟩ := bd1_e hf
        obtain ⟨h_t12, k_t12⟩ := wt_r hW h_a k_a (by decide) et12
        have k_t12 : G.2.1 t12 = 14 := k_t12
        rw [et12]
        refine lv_bipush (v := 10) hx hb dX12_see_45 kc_bipush_10 ?_
        obtain ⟨h13, hf⟩ := if_s hf
        refine x_iald C hP h_t12 k_t12 h13 dX12_see_47 ?_
        refine lv_imul hx hb dX12_see_48 ?_
        refine lv_iadd hx hb dX12_see_49 ?_
        obtain ⟨x14, ex14, hf⟩ := bnd_e hf
        refine nm_i ex14 ?_
        refine lv_istore_n (lv' := [(3, .int x14), (0, .ref a), (1, .int p0), (2, .int p1)]) hx hb dX12_see_50 rfl hl (by decide) rfl (fun ls hl => ?_)
        refine lv_aload_n hx hb dX12_see_51 rfl (lv_at hl 1 rfl) ?_
        refine gf_X12_95 C hP h_a k_a dX12_see_52 ?_
        obtain ⟨t15, et15, hf⟩ := bd1_e hf
        obtain ⟨h_t15, k_t15⟩ := wt_r hW h_a k_a (by decide) et15
        have k_t15 : G.2.1 t15 = 14 := k_t15
        rw [et15]
        refine lv_iload_n hx hb dX12_see_55 rfl (lv_at hl 0 rfl) ?_
        refine lv_iload_n hx hb dX12_see_56 rfl (lv_at hl 2 rfl) ?_
        obtain ⟨h16, hf⟩ := if_s hf
        obtain ⟨S17, eS17, hf⟩ := bnd_e hf
        refine x_iast C hP hS h_t15 k_t15 h16 eS17 dX12_see_57 (fun H locs hP hS => ?_)
        have hW : WT G S17 := by rw [eS17]; exact hW
        refine lv_aload_n hx hb dX12_see_58 rfl (lv_at hl 1 rfl) ?_
        refine gf_X12_95 C hP h_a k_a dX12_see_59 ?_
        obtain ⟨t18, et18, hf⟩ := bd1_e hf
        obtain ⟨h_t18, k_t18⟩ := wt_r hW h_a k_a (by decide) et18
        have k_t18 : G.2.1 t18 = 14 := k_t18
        rw [et18]
        refine lv_iload_n hx hb dX12_see_62 rfl (lv_at hl 0 rfl) ?_
        refine lv_iconst (v := 1) hx hb dX12_see_63 rfl ?_
        refine lv_iadd hx hb dX12_see_64 ?_
        refine lv_iload_n hx hb dX12_see_65 rfl (lv_at hl 3 rfl) ?_
        refine lv_if_eq (tgt := 73) hx hb dX12_see_66 (by decide) (fun c19 => ?_) (fun c19 => ?_)
        · have hf := if_t c19 hf
          refine lv_iconst (v := 0) hx hb dX12_see_73 rfl ?_
          exact b_X12_see_74 C a t18 (x14 + 1) 0 h_a k_a h_t18 k_t18 S17 H locs _ hf hP hS hW (lv_sub hl [1] rfl)
        · have hf := if_f c19 hf
          refine lv_iconst (v := 1) hx hb dX12_see_69 rfl ?_
          refine lv_goto (tgt := 74) hx hb dX12_see_70 (by decide) ?_
          exact b_X12_see_74 C a t18 (x14 + 1) 1 h_a k_a h_t18 k_t18 S17 H locs _ hf hP hS hW (lv_sub hl [1] rfl)
      · have hf := if_t c11 hf
        refine lv_iconst (v := 0) hx hb dX12_see_36 rfl ?_
        cases hf
        exact x_retZ C hP hS hW isZ_0 dX12_see_37
def s_X12_set (N : Nat → Nat) (F : Nat) (a : Nat) (p0 : Int32) (p1 : Int32) (S : HS) : Option (Int32 × HS) :=
  bnd (uI S 1200 a 0) fun S1 =>
  bd1 (s_X12_isReg N a p0 S1) fun r2 =>
  if r2 = (0 : Int32) then
  some ((-1), S1)
  else
  bd1 (s_X12_used N a S1) fun r5 =>
  bd1 (s_X12_isBits N a r5 p1 S1) fun r6 =>
  if r6 = (0 : Int32) then
  some ((-1), S1)
  else
  bd1 (s_X12_keeps N F a S1) fun S9 =>
  bd1 (gR S9 1217 a) fun t10 =>
  if inB (4 + p0) (N t10) = true then
  bnd (aI S9 t10 (4 + p0).toNatClampNeg : Int32) fun x12 =>
  bd1 (gR S9 1217 a) fun t13 =>
  if inB (4 + p0) (N t13) = true then
  bnd (wI S9 t13 ((4 + p0).toNatClampNeg) p1) fun S15 =>
  some (x12, S15)
  else none
  else none
set_option maxRecDepth 100000 in
set_option maxHeartbeats 4000000 in
theorem c_X12_set {l : Launch} {V : EV} {G : GS} {S : HS} {F : Nat} {a : Nat} {p0 : Int32} {p1 : Int32} {r : Int32} {S' : HS} (hN : G.1.Nodup) (hW : WT G S) (h_a : a ∈ G.1) (k_a : G.2.1 a = 12) (hf : s_X12_set G.2.2 F a p0 p1 S = some (r, S')) : MetI l yX12_set cX12_set 4 .int 3 88 V G S [.ref a, .int p0, .int p1] r S' := by
  intro sz
  refine x_in RX12 rfl (by decide +kernel) hN (Nat.le_of_ble_eq_true rfl) (fun p e s m args below meth c ls hsz hargs hnm C hP hS hl => ?_)
  subst hsz
  have hx := C.1
  have hb := C.2.1
  have hl : lv_has ls 4 [(0, .ref a), (1, .int p0), (2, .int p1)] := hl
  unfold s_X12_set at hf
  refine lv_aload_n hx hb dX12_set_0 rfl (lv_at hl 0 rfl) ?_
  refine lv_iconst (v := 0) hx hb dX12_set_1 rfl ?_
  obtain ⟨S1, eS1, hf⟩ := bnd_e hf
  refine pf_X12_1 C hP hS h_a k_a eS1 dX12_set_2 (fun H locs hP hS => ?_)
  have hW : WT G S1 := by rw [eS1]; exact hW
  refine lv_aload_n hx hb dX12_set_5 rfl (lv_at hl 0 rfl) ?_
  refine lv_iload_n hx hb dX12_set_6 rfl (lv_at hl 1 rfl) ?_
  obtain ⟨r2, er2, hf⟩ := bd1_e hf
  refine x_aft_z (x_runV (As := [.int p0]) (rest := []) C hP hS (c_X12_isReg (l := l) C.2.2.2.2.2.2.2.2.2.1 hW h_a k_a er2 H.size) h_a k_a (by decide) rfl rfl km_X12_isReg ki_X12_isReg qm_X12_360 ⟨(Nat.le_of_ble_eq_true rfl), (Nat.le_of_ble_eq_true rfl)⟩ rfl hl.1 rfl (Nat.le_of_ble_eq_true rfl) ⟨Nat.zero_le _, Nat.zero_le _⟩ dX12_set_7) hS (fun H locs hP hS hW z3 => ?_)
  refine lv_if_eq (tgt := 25) hx hb dX12_set_10 (by decide) (fun c4 => ?_) (fun c4 => ?_)
  · have hf := if_t c4 hf
    refine lv_iconst (v := (-1)) hx hb dX12_set_25 rfl ?_
    cases hf
    exact x_reti C hP hS hW dX12_set_26
  · have hf := if_f c4 hf
    refine lv_aload_n hx hb dX12_set_13 rfl (lv_at hl 0 rfl) ?_
    refine lv_aload_n hx hb dX12_set_14 rfl (lv_at hl 0 rfl) ?_
    obtain ⟨r5, er5, hf⟩ := bd1_e hf
    refine x_aft_i (x_runV (As := []) (rest := [.ref a]) C hP hS (c_X12_used (l := l) C.2.2.2.2.2.2.2.2.2.1 hW h_a k_a er5 H.size) h_a k_a (by decide) rfl rfl km_X12_used ki_X12_used qm_X12_357 ⟨(Nat.le_of_ble_eq_true rfl), (Nat.le_of_ble_eq_true rfl)⟩ rfl hl.1 rfl (Nat.le_of_ble_eq_true rfl) ⟨Nat.zero_le _, Nat.zero_le _⟩ dX12_set_15) hS (fun H locs hP hS hW => ?_)
    refine lv_iload_n hx hb dX12_set_18 rfl (lv_at hl 2 rfl) ?_
    obtain ⟨r6, er6, hf⟩ := bd1_e hf
    refine x_aft_z (x_runV (As := [.int r5, .int p1]) (rest := []) C hP hS (c_X12_isBits (l := l) C.2.2.2.2.2.2.2.2.2.1 hW h_a k_a er6 H.size) h_a k_a (by decide) rfl rfl km_X12_isBits ki_X12_isBits qm_X12_363 ⟨(Nat.le_of_ble_eq_true rfl), (Nat.le_of_ble_eq_true rfl)⟩ rfl hl.1 rfl (Nat.le_of_ble_eq_true rfl) ⟨Nat.zero_le _, Nat.zero_le _⟩ dX12_set_19) hS (fun H locs hP hS hW z7 => ?_)
    refine lv_if_ne (tgt := 27) hx hb dX12_set_22 (by decide) (fun c8 => ?_) (fun c8 => ?_)
    · have hf := if_f c8 hf
      refine lv_aload_n hx hb dX12_set_27 rfl (lv_at hl 0 rfl) ?_
      obtain ⟨S9, eS9, hf⟩ := bd1_e hf
      refine x_aft_v (x_runV (As := []) (rest := []) C hP hS (c_X12_keeps (l := l) C.2.2.2.2.2.2.2.2.2.1 hW h_a k_a eS9 H.size) h_a k_a (by decide) rfl rfl km_X12_keeps ki_X12_keeps qm_X12_366 ⟨(Nat.le_of_ble_eq_true rfl), (Nat.le_of_ble_eq_true rfl)⟩ rfl hl.1 rfl (Nat.le_of_ble_eq_true rfl) ⟨Nat.zero_le _, Nat.zero_le _⟩ dX12_set_28) hS (fun H locs hP hS hW => ?_)
      refine lv_aload_n hx hb dX12_set_31 rfl (lv_at hl 0 rfl) ?_
      refine gf_X12_95 C hP h_a k_a dX12_set_32 ?_
      obtain ⟨t10, et10, hf⟩ := bd1_e hf
      obtain ⟨h_t10, k_t10⟩ := wt_r hW h_a k_a (by decide) et10
      have k_t10 : G.2.1 t10 = 14 := k_t10
      rw [et10]
      refine lv_iconst (v := 4) hx hb dX12_set_35 rfl ?_
      refine lv_iload_n hx hb dX12_set_36 rfl (lv_at hl 1 rfl) ?_
      refine lv_iadd hx hb dX12_set_37 ?_
      obtain ⟨h11, hf⟩ := if_s hf
      refine x_iald C hP h_t10 k_t10 h11 dX12_set_38 ?_
      obtain ⟨x12, ex12, hf⟩ := bnd_e hf
      refine nm_i ex12 ?_
      refine lv_istore_n (lv' := [(3, .int x12), (0, .ref a), (1, .int p0), (2, .int p1)]) hx hb dX12_set_39 rfl hl (by decide) rfl (fun ls hl => ?_)
      refine lv_aload_n hx hb dX12_set_40 rfl (lv_at hl 1 rfl) ?_
      refine gf_X12_95 C hP h_a k_a dX12_set_41 ?_
      obtain ⟨t13, et13, hf⟩ := bd1_e hf
      obtain ⟨h_t13, k_t13⟩ := wt_r hW h_a k_a (by decide) et13
      have k_t13 : G.2.1 t13 = 14 := k_t13
      rw [et13]
      refine lv_iconst (v := 4) hx hb dX12_set_44 rfl ?_
      refine lv_iload_n hx hb dX12_set_45 rfl (lv_at hl 2 rfl) ?_
      refine lv_iadd hx hb dX12_set_46 ?_
      refine lv_iload_n hx hb dX12_set_47 rfl (lv_at hl 3 rfl) ?_
      obtain ⟨h14, hf⟩ := if_s hf
      obtain ⟨S15, eS15, hf⟩ := bnd_e hf
      refine x_iast C hP hS h_t13 k_t13 h14 eS15 dX12_set_48 (fun H locs hP hS => ?_)
      have hW : WT G S15 := by rw [eS15]; exact hW
      refine lv_iload_n hx hb dX12_set_49 rfl (lv_at hl 0 rfl) ?_
      cases hf
      exact x_reti C hP hS hW dX12_set_50
    · have hf := if_t c8 hf
      refine lv_iconst (v := (-1)) hx hb dX12_set_25 rfl ?_
      cases hf
      exact x_reti C hP hS hW dX12_set_26
def s_X12_settles_L54 (N : Nat → Nat) (F : Nat) : Nat → Nat → Int32 → Int32 → Int32 → Int32 → Int32 → HS → Option (Int32 × HS)
  | 0, _, _, _, _, _, _, _ => none
  | n + 1, v0, v1, v2, v3, v4, v5, S => if (60 : Int32) < v5 then
  some ((-1), S)
  else
  bd1 (gR S 1217 v0) fun t18 =>
  if inB (592 + v1) (N t18) = true then
  bnd (aI S t18 (592 + v1).toNatClampNeg : Int32) fun x20 =>
  bd1 (s_X12_multiplies N F v0 588 v1 v2 v3 v4 S) fun S21 =>
  bd1 (gR S21 1217 v0) fun t22 =>
  if inB (592 + v1) (N t22) = true then
  if (aI S21 t22 (592 + v1).toNatClampNeg) = x20 then
  some (v5, S21)
  else
  bnd (v5 + Int32.ofInt 1 : Int32) fun x25 =>
  s_X12_settles_L54 N F n v0 v1 v2 v3 v4 x25 S21
  else none
  else none
def s_X12_settles (N : Nat → Nat) (F : Nat) (a : Nat) (p0 : Int32) (p1 : Int32) (p2 : Int32) (p3 : Int32) (S : HS) : Option (Int32 × HS) :=
  bnd (uI S 1200 a 0) fun S1 =>
  bd1 (s_X12_used N a S1) fun r2 =>
  if r2 < (0 : Int32) then
  some ((-1), S1)
  else
  bd1 (s_X12_isReg N a p0 S1) fun r4 =>
  if r4 = (0 : Int32) then
  some ((-1), S1)
  else
  bd1 (s_X12_isReg N a p1 S1) fun r7 =>
  if r7 = (0 : Int32) then
  some ((-1), S1)
  else
  bd1 (s_X12_isReg N a p2 S1) fun r10 =>
  if r10 = (0 : Int32) then
  some ((-1), S1)
  else
  bd1 (s_X12_isReg N a p3 S1) fun r13 =>
  if r13 = (0 : Int32) then
  some ((-1), S1)
  else
  bd1 (s_X12_triesNow N F a S1) fun S16 =>
  s_X12_settles_L54 N F F a p0 p1 p2 p3 0 S16
set_option maxRecDepth 100000 in
set_option maxHeartbeats 4000000 in
theorem b_X12_settles_54 {p : Program} {l : Launch} {e : Env} {s : State} {m : MethodId} {args : Array Value} {below : List Frame} {meth : Method} {c : Code} {V : EV} {G : GS} {r : Int32} {S' : HS} {F : Nat} (C : CX p s m args meth c RX12 cX12_settles 7 (some .int) V G) : ∀ n : Nat, ∀ (v0 : Nat) (v1 : Int32) (v2 : Int32) (v3 : Int32) (v4 : Int32) (v5 : Int32) (h_v0 : v0 ∈ G.1) (k_v0 : G.2.1 v0 = 12) (S : HS) (H : Heap) (locs : List Loc) (ls : Array Slot), s_X12_settles_L54 G.2.2 F n v0 v1 v2 v3 v4 v5 S = some (r, S') → HP V G S H → va_S (AG G s.heap.size) s.heap H locs → WT G S → lv_has ls 7 [(0, .ref v0), (1, .int v1), (2, .int v2), (3, .int v3), (4, .int v4), (5, .int v5)] → W p l e (RM 21 709) s m args below meth c H locs 0 0 (MQ below (QI V G S' r s.heap.size) args s 0 0 (AG G s.heap.size)) (F0 m 54 ls []) := by
  intro n
  induction n with
  | zero =>
    intro v0 v1 v2 v3 v4 v5 h_v0 k_v0 S H locs ls hf
    rw [s_X12_settles_L54] at hf
    cases hf
  | succ n ih =>
    intro v0 v1 v2 v3 v4 v5 h_v0 k_v0 S H locs ls hf hP hS hW hl
    have hx := C.1
    have hb := C.2.1
    rw [s_X12_settles_L54] at hf
    refine lv_iload hx hb dX12_settles_54 (lv_at hl 5 rfl) ?_
    refine lv_bipush (v := 60) hx hb dX12_settles_56 kc_bipush_60 ?_
    refine lv_icmp_gt (tgt := 109) hx hb dX12_settles_58 (by decide) (fun c17 => ?_) (fun c17 => ?_)
    · have hf := if_t c17 hf
      refine lv_iconst (v := (-1)) hx hb dX12_settles_109 rfl ?_
      cases hf
      exact x_reti C hP hS hW dX12_settles_110
    · have hf := if_f c17 hf
      refine lv_aload_n hx hb dX12_settles_61 rfl (lv_at hl 0 rfl) ?_
      refine gf_X12_95 C hP h_v0 k_v0 dX12_settles_62 ?_
      obtain ⟨t18, et18, hf⟩ := bd1_e hf
      obtain ⟨h_t18, k_t18⟩ := wt_r hW h_v0 k_v0 (by decide) et18
      have k_t18 : G.2.1 t18 = 14 := k_t18
      rw [et18]
      refine lv_sipush (v := 592) hx hb dX12_settles_65 kc_sipush_592 ?_
      refine lv_iload_n hx hb dX12_settles_68 rfl (lv_at hl 1 rfl) ?_
      refine lv_iadd hx hb dX12_settles_69 ?_
      obtain ⟨h19, hf⟩ := if_s hf
      refine x_iald C hP h_t18 k_t18 h19 dX12_settles_70 ?_
      obtain ⟨x20, ex20, hf⟩ := bnd_e hf
      refine nm_i ex20 ?_
      refine lv_istore (lv' := [(6, .int x20), (0, .ref v0), (1, .int v1), (2, .int v2), (3, .int v3), (4, .int v4), (5, .int v5)]) hx hb dX12_settles_71 hl (by decide) rfl (fun ls hl => ?_)
      refine lv_aload_n hx hb dX12_settles_73 rfl (lv_at hl 1 rfl) ?_
      refine lv_sipush (v := 588) hx hb dX12_settles_74 kc_sipush_588 ?_
      refine lv_iload_n hx hb dX12_settles_77 rfl (lv_at hl 2 rfl) ?_
      refine lv_iload_n hx hb dX12_settles_78 rfl (lv_at hl 3 rfl) ?_
      refine lv_iload_n hx hb dX12_settles_79 rfl (lv_at hl 4 rfl) ?_
      refine lv_iload hx hb dX12_settles_80 (lv_at hl 5 rfl) ?_
      obtain ⟨S21, eS21, hf⟩ := bd1_e hf
      refine x_aft_v (x_runV (As := [.int 588, .int v1, .int v2, .int v3, .int v4]) (rest := []) C hP hS (c_X12_multiplies (l := l) C.2.2.2.2.2.2.2.2.2.1 hW h_v0 k_v0 eS21 H.size) h_v0 k_v0 (by decide) rfl rfl km_X12_multiplies ki_X12_multiplies qm_X12_382 ⟨(Nat.le_of_ble_eq_true rfl), (Nat.le_of_ble_eq_true rfl)⟩ rfl hl.1 rfl (Nat.le_of_ble_eq_true rfl) ⟨Nat.zero_le _, Nat.zero_le _⟩ dX12_settles_82) hS (fun H locs hP hS hW => ?_)
      refine lv_aload_n hx hb dX12_settles_85 rfl (lv_at hl 1 rfl) ?_
      refine gf_X12_95 C hP h_v0 k_v0 dX12_settles_86 ?_
      obtain ⟨t22, et22, hf⟩ := bd1_e hf
      obtain ⟨h_t22, k_t22⟩ := wt_r hW h_v0 k_v0 (by decide) et22
      have k_t22 : G.2.1 t22 = 14 := k_t22
      rw [et22]
      refine lv_sipush (v := 592) hx hb dX12_settles_89 kc_sipush_592 ?_
      refine lv_iload_n hx hb dX12_settles_92 rfl (lv_at hl 2 rfl) ?_
      refine lv_iadd hx hb dX12_settles_93 ?_
      obtain ⟨h23, hf⟩ := if_s hf
      refine x_iald C hP h_t22 k_t22 h23 dX12_settles_94 ?_
      refine lv_iload hx hb dX12_settles_95 (lv_at hl 0 rfl) ?_
      refine lv_icmp_ne (tgt := 103) hx hb dX12_settles_97 (by decide) (fun c24 => ?_) (fun c24 => ?_)
      · have hf := if_f c24 hf
        obtain ⟨x25, ex25, hf⟩ := bnd_e hf
        refine lv_iinc (v := x25) (lv' := [(5, .int x25), (6, .int x20), (0, .ref v0), (1, .int v1), (2, .int v2), (3, .int v3), (4, .int v4)]) hx hb dX12_settles_103 hl (k := 6) rfl ex25.symm (by decide) rfl (fun ls hl => ?_)
        refine lv_goto (tgt := 54) hx hb dX12_settles_106 (by decide) ?_
        exact ih v0 v1 v2 v3 v4 x25 h_v0 k_v0 S21 H locs _ hf hP hS hW (lv_sub hl [2, 3, 4, 5, 6, 0] rfl)
      · have hf := if_t c24 hf
        refine lv_iload hx hb dX12_settles_100 (lv_at hl 6 rfl) ?_
        cases hf
        exact x_reti C hP hS hW dX12_settles_102
set_option maxRecDepth 100000 in
set_option maxHeartbeats 4000000 in
theorem c_X12_settles {l : Launch} {V : EV} {G : GS} {S : HS} {F : Nat} {a : Nat} {p0 : Int32} {p1 : Int32} {p2 : Int32} {p3 : Int32} {r : Int32} {S' : HS} (hN : G.1.Nodup) (hW : WT G S) (h_a : a ∈ G.1) (k_a : G.2.1 a = 12) (hf : s_X12_settles G.2.2 F a p0 p1 p2 p3 S = some (r, S')) : MetI l yX12_settles cX12_settles 7 .int 21 709 V G S [.ref a, .int p0, .int p1, .int p2, .int p3] r S' := by
  intro sz
  refine x_in RX12 rfl (by decide +kernel) hN (Nat.le_of_ble_eq_true rfl) (fun p e s m args below meth c ls hsz hargs hnm C hP hS hl => ?_)
  subst hsz
  have hx := C.1
  have hb := C.2.1
  have hl : lv_has ls 7 [(0, .ref a), (1, .int p0), (2, .int p1), (3, .int p2), (4, .int p3)] := hl
  unfold s_X12_settles at hf
  refine lv_aload_n hx hb dX12_settles_0 rfl (lv_at hl 0 rfl) ?_
  refine lv_iconst (v := 0) hx hb dX12_settles_1 rfl ?_
  obtain ⟨S1, eS1, hf⟩ := bnd_e hf
  refine pf_X12_1 C hP hS h_a k_a eS1 dX12_settles_2 (fun H locs hP hS => ?_)
  have hW : WT G S1 := by rw [eS1]; exact hW
  refine lv_aload_n hx hb dX12_settles_5 rfl (lv_at hl 0 rfl) ?_
  obtain ⟨r2, er2, hf⟩ := bd1_e hf
  refine x_aft_i (x_runV (As := []) (rest := []) C hP hS (c_X12_used (l := l) C.2.2.2.2.2.2.2.2.2.1 hW h_a k_a er2 H.size) h_a k_a (by decide) rfl rfl km_X12_used ki_X12_used qm_X12_357 ⟨(Nat.le_of_ble_eq_true rfl), (Nat.le_of_ble_eq_true rfl)⟩ rfl hl.1 rfl (Nat.le_of_ble_eq_true rfl) ⟨Nat.zero_le _, Nat.zero_le _⟩ dX12_settles_6) hS (fun H locs hP hS hW => ?_)
  refine lv_if_lt (tgt := 45) hx hb dX12_settles_9 (by decide) (fun c3 => ?_) (fun c3 => ?_)
  · have hf := if_t c3 hf
    refine lv_iconst (v := (-1)) hx hb dX12_settles_45 rfl ?_
    cases hf
    exact x_reti C hP hS hW dX12_settles_46
  · have hf := if_f c3 hf
    refine lv_aload_n hx hb dX12_settles_12 rfl (lv_at hl 0 rfl) ?_
    refine lv_iload_n hx hb dX12_settles_13 rfl (lv_at hl 1 rfl) ?_
    obtain ⟨r4, er4, hf⟩ := bd1_e hf
    refine x_aft_z (x_runV (As := [.int p0]) (rest := []) C hP hS (c_X12_isReg (l := l) C.2.2.2.2.2.2.2.2.2.1 hW h_a k_a er4 H.size) h_a k_a (by decide) rfl rfl km_X12_isReg ki_X12_isReg qm_X12_360 ⟨(Nat.le_of_ble_eq_true rfl), (Nat.le_of_ble_eq_true rfl)⟩ rfl hl.1 rfl (Nat.le_of_ble_eq_true rfl) ⟨Nat.zero_le _, Nat.zero_le _⟩ dX12_settles_14) hS (fun H locs hP hS hW z5 => ?_)
    refine lv_if_eq (tgt := 45) hx hb dX12_settles_17 (by decide) (fun c6 => ?_) (fun c6 => ?_)
    · have hf := if_t c6 hf
      refine lv_iconst (v := (-1)) hx hb dX12_settles_45 rfl ?_
      cases hf
      exact x_reti C hP hS hW dX12_settles_46
    · have hf := if_f c6 hf
      refine lv_aload_n hx hb dX12_settles_20 rfl (lv_at hl 0 rfl) ?_
      refine lv_iload_n hx hb dX12_settles_21 rfl (lv_at hl 2 rfl) ?_
      obtain ⟨r7, er7, hf⟩ := bd1_e hf
      refine x_aft_z (x_runV (As := [.int p1]) (rest := []) C hP hS (c_X12_isReg (l := l) C.2.2.2.2.2.2.2.2.2.1 hW h_a k_a er7 H.size) h_a k_a (by decide) rfl rfl km_X12_isReg ki_X12_isReg qm_X12_360 ⟨(Nat.le_of_ble_eq_true rfl), (Nat.le_of_ble_eq_true rfl)⟩ rfl hl.1 rfl (Nat.le_of_ble_eq_true rfl) ⟨Nat.zero_le _, Nat.zero_le _⟩ dX12_settles_22) hS (fun H locs hP hS hW z8 => ?_)
      refine lv_if_eq (tgt := 45) hx hb dX12_settles_25 (by decide) (fun c9 => ?_) (fun c9 => ?_)
      · have hf := if_t c9 hf
        refine lv_iconst (v := (-1)) hx hb dX12_settles_45 rfl ?_
        cases hf
        exact x_reti C hP hS hW dX12_settles_46
      · have hf := if_f c9 hf
        refine lv_aload_n hx hb dX12_settles_28 rfl (lv_at hl 0 rfl) ?_
        refine lv_iload_n hx hb dX12_settles_29 rfl (lv_at hl 3 rfl) ?_
        obtain ⟨r10, er10, hf⟩ := bd1_e hf
        refine x_aft_z (x_runV (As := [.int p2]) (rest := []) C hP hS (c_X12_isReg (l := l) C.2.2.2.2.2.2.2.2.2.1 hW h_a k_a er10 H.size) h_a k_a (by decide) rfl rfl km_X12_isReg ki_X12_isReg qm_X12_360 ⟨(Nat.le_of_ble_eq_true rfl), (Nat.le_of_ble_eq_true rfl)⟩ rfl hl.1 rfl (Nat.le_of_ble_eq_true rfl) ⟨Nat.zero_le _, Nat.zero_le _⟩ dX12_settles_30) hS (fun H locs hP hS hW z11 => ?_)
        refine lv_if_eq (tgt := 45) hx hb dX12_settles_33 (by decide) (fun c12 => ?_) (fun c12 => ?_)
        · have hf := if_t c12 hf
          refine lv_iconst (v := (-1)) hx hb dX12_settles_45 rfl ?_
          cases hf
          exact x_reti C hP hS hW dX12_settles_46
        · have hf := if_f c12 hf
          refine lv_aload_n hx hb dX12_settles_36 rfl (lv_at hl 0 rfl) ?_
          refine lv_iload hx hb dX12_settles_37 (lv_at hl 4 rfl) ?_
          obtain ⟨r13, er13, hf⟩ := bd1_e hf
          refine x_aft_z (x_runV (As := [.int p3]) (rest := []) C hP hS (c_X12_isReg (l := l) C.2.2.2.2.2.2.2.2.2.1 hW h_a k_a er13 H.size) h_a k_a (by decide) rfl rfl km_X12_isReg ki_X12_isReg qm_X12_360 ⟨(Nat.le_of_ble_eq_true rfl), (Nat.le_of_ble_eq_true rfl)⟩ rfl hl.1 rfl (Nat.le_of_ble_eq_true rfl) ⟨Nat.zero_le _, Nat.zero_le _⟩ dX12_settles_39) hS (fun H locs hP hS hW z14 => ?_)
          refine lv_if_ne (tgt := 47) hx hb dX12_settles_42 (by decide) (fun c15 => ?_) (fun c15 => ?_)
          · have hf := if_f c15 hf
            refine lv_aload_n hx hb dX12_settles_47 rfl (lv_at hl 0 rfl) ?_
            obtain ⟨S16, eS16, hf⟩ := bd1_e hf
            refine x_aft_v (x_runV (As := []) (rest := []) C hP hS (c_X12_triesNow (l := l) C.2.2.2.2.2.2.2.2.2.1 hW h_a k_a eS16 H.size) h_a k_a (by decide) rfl rfl km_X12_triesNow ki_X12_triesNow qm_X12_397 ⟨(Nat.le_of_ble_eq_true rfl), (Nat.le_of_ble_eq_true rfl)⟩ rfl hl.1 rfl (Nat.le_of_ble_eq_true rfl) ⟨Nat.zero_le _, Nat.zero_le _⟩ dX12_settles_48) hS (fun H locs hP hS hW => ?_)
            refine lv_iconst (v := 0) hx hb dX12_settles_51 rfl ?_
            refine lv_istore (lv' := [(5, .int 0), (0, .ref a), (1, .int p0), (2, .int p1), (3, .int p2), (4, .int p3)]) hx hb dX12_settles_52 hl (by decide) rfl (fun ls hl => ?_)
            exact b_X12_settles_54 C F a p0 p1 p2 p3 0 h_a k_a S16 H locs _ hf hP hS hW (lv_sub hl [1, 2, 3, 4, 5, 0] rfl)
          · have hf := if_t c15 hf
            refine lv_iconst (v := (-1)) hx hb dX12_settles_45 rfl ?_
            cases hf
            exact x_reti C hP hS hW dX12_settles_46
def s_X12_side (N : Nat → Nat) (F : Nat) (a : Nat) (p0 : Int32) (p1 : Int32) (p2 : Int32) (p3 : Int32) (S : HS) : Option (Int32 × HS) :=
  bnd (uI S 1200 a 0) fun S1 =>
  bd1 (s_X12_areBits N a p0 p1 p2 S1) fun r2 =>
  if r2 = (0 : Int32) then
  some ((-2), S1)
  else
  if (s_X12_within p3 0 5 S1) = (0 : Int32) then
  some ((-2), S1)
  else
  bd1 (s_X12_used N a S1) fun r7 =>
  bd2 (s_X12_sums_ N F a r7 p0 p1 p2 p3 S1) fun r8 S9 =>
  bd1 (s_X12_used N a S9) fun r10 =>
  bd1 (s_X12_isNan N a r10 r8 S9) fun r11 =>
  if r11 = (0 : Int32) then
  bd1 (s_X12_used N a S9) fun r14 =>
  bd1 (s_X12_isMinus N a r14 r8 S9) fun r15 =>
  if r15 = (0 : Int32) then
  some (gI S9 1224 a, S9)
  else
  some (-(gI S9 1224 a), S9)
  else
  some ((-2), S9)
set_option maxRecDepth 100000 in
set_option maxHeartbeats 4000000 in
theorem c_X12_side {l : Launch} {V : EV} {G : GS} {S : HS} {F : Nat} {a : Nat} {p0 : Int32} {p1 : Int32} {p2 : Int32} {p3 : Int32} {r : Int32} {S' : HS} (hN : G.1.Nodup) (hW : WT G S) (h_a : a ∈ G.1) (k_a : G.2.1 a = 12) (hf : s_X12_side G.2.2 F a p0 p1 p2 p3 S = some (r, S')) : MetI l yX12_side cX12_side 6 .int 20 675 V G S [.ref a, .int p0, .int p1, .int p2, .int p3] r S' := by
  intro sz
  refine x_in RX12 rfl (by decide +kernel) hN (Nat.le_of_ble_eq_true rfl) (fun p e s m args below meth c ls hsz hargs hnm C hP hS hl => ?_)
  subst hsz
  have hx := C.1
  have hb := C.2.1
  have hl : lv_has ls 6 [(0, .ref a), (1, .int p0), (2, .int p1), (3, .int p2), (4, .int p3)] := hl
  unfold s_X12_side at hf
  refine lv_aload_n hx hb dX12_side_0 rfl (lv_at hl 0 rfl) ?_
  refine lv_iconst (v := 0) hx hb dX12_side_1 rfl ?_
  obtain ⟨S1, eS1, hf⟩ := bnd_e hf
  refine pf_X12_1 C hP hS h_a k_a eS1 dX12_side_2 (fun H locs hP hS => ?_)
  have hW : WT G S1 := by rw [eS1]; exact hW
  refine lv_aload_n hx hb dX12_side_5 rfl (lv_at hl 0 rfl) ?_
  refine lv_iload_n hx hb dX12_side_6 rfl (lv_at hl 1 rfl) ?_
  refine lv_iload_n hx hb dX12_side_7 rfl (lv_at hl 2 rfl) ?_
  refine lv_iload_n hx hb dX12_side_8 rfl (lv_at hl 3 rfl) ?_
  obtain ⟨r2, er2, hf⟩ := bd1_e hf
  refine x_aft_z (x_runV (As := [.int p0, .int p1, .int p2]) (rest := []) C hP hS (c_X12_areBits (l := l) C.2.2.2.2.2.2.2.2.2.1 hW h_a k_a er2 H.size) h_a k_a (by decide) rfl rfl km_X12_areBits ki_X12_areBits qm_X12_403 ⟨(Nat.le_of_ble_eq_true rfl), (Nat.le_of_ble_eq_true rfl)⟩ rfl hl.1 rfl (Nat.le_of_ble_eq_true rfl) ⟨Nat.zero_le _, Nat.zero_le _⟩ dX12_side_9) hS (fun H locs hP hS hW z3 => ?_)
  refine lv_if_eq (tgt := 25) hx hb dX12_side_12 (by decide) (fun c4 => ?_) (fun c4 => ?_)
  · have hf := if_t c4 hf
    refine lv_bipush (v := (-2)) hx hb dX12_side_25 kc_bipush_m2 ?_
    cases hf
    exact x_reti C hP hS hW dX12_side_27
  · have hf := if_f c4 hf
    refine lv_iload hx hb dX12_side_15 (lv_at hl 4 rfl) ?_
    refine lv_iconst (v := 0) hx hb dX12_side_17 rfl ?_
    refine lv_iconst (v := 5) hx hb dX12_side_18 rfl ?_
    refine x_aft_z (x_runS (As := [.int p3, .int 0, .int 5]) (rest := []) C hP hS (c_X12_within (l := l) C.2.2.2.2.2.2.2.2.2.1 hW rfl H.size) km_X12_within ks_X12_within qm_X12_386 ⟨(Nat.le_of_ble_eq_true rfl), (Nat.le_of_ble_eq_true rfl)⟩ rfl hl.1 rfl (Nat.le_of_ble_eq_true rfl) ⟨Nat.zero_le _, Nat.zero_le _⟩ dX12_side_19) hS (fun H locs hP hS hW z5 => ?_)
    refine lv_if_ne (tgt := 28) hx hb dX12_side_22 (by decide) (fun c6 => ?_) (fun c6 => ?_)
    · have hf := if_f c6 hf
      refine lv_aload_n hx hb dX12_side_28 rfl (lv_at hl 0 rfl) ?_
      refine lv_aload_n hx hb dX12_side_29 rfl (lv_at hl 0 rfl) ?_
      obtain ⟨r7, er7, hf⟩ := bd1_e hf
      refine x_aft_i (x_runV (As := []) (rest := [.ref a]) C hP hS (c_X12_used (l := l) C.2.2.2.2.2.2.2.2.2.1 hW h_a k_a er7 H.size) h_a k_a (by decide) rfl rfl km_X12_used ki_X12_used qm_X12_357 ⟨(Nat.le_of_ble_eq_true rfl), (Nat.le_of_ble_eq_true rfl)⟩ rfl hl.1 rfl (Nat.le_of_ble_eq_true rfl) ⟨Nat.zero_le _, Nat.zero_le _⟩ dX12_side_30) hS (fun H locs hP hS hW => ?_)
      refine lv_iload_n hx hb dX12_side_33 rfl (lv_at hl 1 rfl) ?_
      refine lv_iload_n hx hb dX12_side_34 rfl (lv_at hl 2 rfl) ?_
      refine lv_iload_n hx hb dX12_side_35 rfl (lv_at hl 3 rfl) ?_
      refine lv_iload hx hb dX12_side_36 (lv_at hl 4 rfl) ?_
      obtain ⟨r8, S9, eS9, hf⟩ := bd2_e hf
      refine x_aft_i (x_runV (As := [.int r7, .int p0, .int p1, .int p2, .int p3]) (rest := []) C hP hS (c_X12_sums_ (l := l) C.2.2.2.2.2.2.2.2.2.1 hW h_a k_a eS9 H.size) h_a k_a (by decide) rfl rfl km_X12_sums_ ki_X12_sums_ qm_X12_375 ⟨(Nat.le_of_ble_eq_true rfl), (Nat.le_of_ble_eq_true rfl)⟩ rfl hl.1 rfl (Nat.le_of_ble_eq_true rfl) ⟨Nat.zero_le _, Nat.zero_le _⟩ dX12_side_38) hS (fun H locs hP hS hW => ?_)
      refine lv_istore (lv' := [(5, .int r8), (0, .ref a), (1, .int p0), (2, .int p1), (3, .int p2), (4, .int p3)]) hx hb dX12_side_41 hl (by decide) rfl (fun ls hl => ?_)
      refine lv_aload_n hx hb dX12_side_43 rfl (lv_at hl 1 rfl) ?_
      refine lv_aload_n hx hb dX12_side_44 rfl (lv_at hl 1 rfl) ?_
      obtain ⟨r10, er10, hf⟩ := bd1_e hf
      refine x_aft_i (x_runV (As := []) (rest := [.ref a]) C hP hS (c_X12_used (l := l) C.2.2.2.2.2.2.2.2.2.1 hW h_a k_a er10 H.size) h_a k_a (by decide) rfl rfl km_X12_used ki_X12_used qm_X12_357 ⟨(Nat.le_of_ble_eq_true rfl), (Nat.le_of_ble_eq_true rfl)⟩ rfl hl.1 rfl (Nat.le_of_ble_eq_true rfl) ⟨Nat.zero_le _, Nat.zero_le _⟩ dX12_side_45) hS (fun H locs hP hS hW => ?_)
      refine lv_iload hx hb dX12_side_48 (lv_at hl 0 rfl) ?_
      obtain ⟨r11, er11, hf⟩ := bd1_e hf
      refine x_aft_z (x_runV (As := [.int r10, .int r8]) (rest := []) C hP hS (c_X12_isNan (l := l) C.2.2.2.2.2.2.2.2.2.1 hW h_a k_a er11 H.size) h_a k_a (by decide) rfl rfl km_X12_isNan ki_X12_isNan qm_X12_279 ⟨(Nat.le_of_ble_eq_true rfl), (Nat.le_of_ble_eq_true rfl)⟩ rfl hl.1 rfl (Nat.le_of_ble_eq_true rfl) ⟨Nat.zero_le _, Nat.zero_le _⟩ dX12_side_50) hS (fun H locs hP hS hW z12 => ?_)
      refine lv_if_eq (tgt := 61) hx hb dX12_side_53 (by decide) (fun c13 => ?_) (fun c13 => ?_)
      · have hf := if_t c13 hf
        refine lv_aload_n hx hb dX12_side_61 rfl (lv_at hl 1 rfl) ?_
        refine lv_aload_n hx hb dX12_side_62 rfl (lv_at hl 1 rfl) ?_
        obtain ⟨r14, er14, hf⟩ := bd1_e hf
        refine x_aft_i (x_runV (As := []) (rest := [.ref a]) C hP hS (c_X12_used (l := l) C.2.2.2.2.2.2.2.2.2.1 hW h_a k_a er14 H.size) h_a k_a (by decide) rfl rfl km_X12_used ki_X12_used qm_X12_357 ⟨(Nat.le_of_ble_eq_true rfl), (Nat.le_of_ble_eq_true rfl)⟩ rfl hl.1 rfl (Nat.le_of_ble_eq_true rfl) ⟨Nat.zero_le _, Nat.zero_le _⟩ dX12_side_63) hS (fun H locs hP hS hW => ?_)
        refine lv_iload hx hb dX12_side_66 (lv_at hl 0 rfl) ?_
        obtain ⟨r15, er15, hf⟩ := bd1_e hf
        refine x_aft_z (x_runV (As := [.int r14, .int r8]) (rest := []) C hP hS (c_X12_isMinus (l := l) C.2.2.2.2.2.2.2.2.2.1 hW h_a k_a er15 H.size) h_a k_a (by decide) rfl rfl km_X12_isMinus ki_X12_isMinus qm_X12_283 ⟨(Nat.le_of_ble_eq_true rfl), (Nat.le_of_ble_eq_true rfl)⟩ rfl hl.1 rfl (Nat.le_of_ble_eq_true rfl) ⟨Nat.zero_le _, Nat.zero_le _⟩ dX12_side_68) hS (fun H locs hP hS hW z16 => ?_)
        refine lv_if_eq (tgt := 82) hx hb dX12_side_71 (by decide) (fun c17 => ?_) (fun c17 => ?_)
        · have hf := if_t c17 hf
          refine lv_aload_n hx hb dX12_side_82 rfl (lv_at hl 1 rfl) ?_
          refine gf_X12_318 C hP h_a k_a dX12_side_83 ?_
          cases hf
          exact x_reti C hP hS hW dX12_side_86
        · have hf := if_f c17 hf
          refine lv_aload_n hx hb dX12_side_74 rfl (lv_at hl 1 rfl) ?_
          refine gf_X12_318 C hP h_a k_a dX12_side_75 ?_
          refine lv_ineg hx hb dX12_side_78 ?_
          refine lv_goto (tgt := 86) hx hb dX12_side_79 (by decide) ?_
          cases hf
          exact x_reti C hP hS hW dX12_side_86
      · have hf := if_f c13 hf
        refine lv_bipush (v := (-2)) hx hb dX12_side_56 kc_bipush_m2 ?_
        refine lv_goto (tgt := 86) hx hb dX12_side_58 (by decide) ?_
        cases hf
        exact x_reti C hP hS hW dX12_side_86
    · have hf := if_t c6 hf
      refine lv_bipush (v := (-2)) hx hb dX12_side_25 kc_bipush_m2 ?_
      cases hf
      exact x_reti C hP hS hW dX12_side_27
def s_X12_sort (N : Nat → Nat) (a : Nat) (p0 : Int32) (S : HS) : Option (Int32 × HS) :=
  bnd (uI S 1200 a 0) fun S1 =>
  bd1 (s_X12_used N a S1) fun r2 =>
  bd1 (s_X12_isBits N a r2 p0 S1) fun r3 =>
  if r3 = (0 : Int32) then
  some ((-1), S1)
  else
  bd1 (s_X12_used N a S1) fun r6 =>
  bd1 (s_X12_classOf N a r6 p0 S1) fun r7 =>
  some (r7, S1)
set_option maxRecDepth 100000 in
set_option maxHeartbeats 4000000 in
theorem c_X12_sort {l : Launch} {V : EV} {G : GS} {S : HS} {a : Nat} {p0 : Int32} {r : Int32} {S' : HS} (hN : G.1.Nodup) (hW : WT G S) (h_a : a ∈ G.1) (k_a : G.2.1 a = 12) (hf : s_X12_sort G.2.2 a p0 S = some (r, S')) : MetI l yX12_sort cX12_sort 2 .int 5 150 V G S [.ref a, .int p0] r S' := by
  intro sz
  refine x_in RX12 rfl (by decide +kernel) hN (Nat.le_of_ble_eq_true rfl) (fun p e s m args below meth c ls hsz hargs hnm C hP hS hl => ?_)
  subst hsz
  have hx := C.1
  have hb := C.2.1
  have hl : lv_has ls 2 [(0, .ref a), (1, .int p0)] := hl
  unfold s_X12_sort at hf
  refine lv_aload_n hx hb dX12_sort_0 rfl (lv_at hl 0 rfl) ?_
  refine lv_iconst (v := 0) hx hb dX12_sort_1 rfl ?_
  obtain ⟨S1, eS1, hf⟩ := bnd_e hf
  refine pf_X12_1 C hP hS h_a k_a eS1 dX12_sort_2 (fun H locs hP hS => ?_)
  have hW : WT G S1 := by rw [eS1]; exact hW
  refine lv_aload_n hx hb dX12_sort_5 rfl (lv_at hl 0 rfl) ?_
  refine lv_aload_n hx hb dX12_sort_6 rfl (lv_at hl 0 rfl) ?_
  obtain ⟨r2, er2, hf⟩ := bd1_e hf
  refine x_aft_i (x_runV (As := []) (rest := [.ref a]) C hP hS (c_X12_used (l := l) C.2.2.2.2.2.2.2.2.2.1 hW h_a k_a er2 H.size) h_a k_a (by decide) rfl rfl km_X12_used ki_X12_used qm_X12_357 ⟨(Nat.le_of_ble_eq_true rfl), (Nat.le_of_ble_eq_true rfl)⟩ rfl hl.1 rfl (Nat.le_of_ble_eq_true rfl) ⟨Nat.zero_le _, Nat.zero_le _⟩ dX12_sort_7) hS (fun H locs hP hS hW => ?_)
  refine lv_iload_n hx hb dX12_sort_10 rfl (lv_at hl 1 rfl) ?_
  obtain ⟨r3, er3, hf⟩ := bd1_e hf
  refine x_aft_z (x_runV (As := [.int r2, .int p0]) (rest := []) C hP hS (c_X12_isBits (l := l) C.2.2.2.2.2.2.2.2.2.1 hW h_a k_a er3 H.size) h_a k_a (by decide) rfl rfl km_X12_isBits ki_X12_isBits qm_X12_363 ⟨(Nat.le_of_ble_eq_true rfl), (Nat.le_of_ble_eq_true rfl)⟩ rfl hl.1 rfl (Nat.le_of_ble_eq_true rfl) ⟨Nat.zero_le _, Nat.zero_le _⟩ dX12_sort_11) hS (fun H locs hP hS hW z4 => ?_)
  refine lv_if_eq (tgt := 29) hx hb dX12_sort_14 (by decide) (fun c5 => ?_) (fun c5 => ?_)
  · have hf := if_t c5 hf
    refine lv_iconst (v := (-1)) hx hb dX12_sort_29 rfl ?_
    cases hf
    exact x_reti C hP hS hW dX12_sort_30
  · have hf := if_f c5 hf
    refine lv_aload_n hx hb dX12_sort_17 rfl (lv_at hl 0 rfl) ?_
    refine lv_aload_n hx hb dX12_sort_18 rfl (lv_at hl 0 rfl) ?_
    obtain ⟨r6, er6, hf⟩ := bd1_e hf
    refine x_aft_i (x_runV (As := []) (rest := [.ref a]) C hP hS (c_X12_used (l := l) C.2.2.2.2.2.2.2.2.2.1 hW h_a k_a er6 H.size) h_a k_a (by decide) rfl rfl km_X12_used ki_X12_used qm_X12_357 ⟨(Nat.le_of_ble_eq_true rfl), (Nat.le_of_ble_eq_true rfl)⟩ rfl hl.1 rfl (Nat.le_of_ble_eq_true rfl) ⟨Nat.zero_le _, Nat.zero_le _⟩ dX12_sort_19) hS (fun H locs hP hS hW => ?_)
    refine lv_iload_n hx hb dX12_sort_22 rfl (lv_at hl 1 rfl) ?_
    obtain ⟨r7, er7, hf⟩ := bd1_e hf
    refine x_aft_i (x_runV (As := [.int r6, .int p0]) (rest := []) C hP hS (c_X12_classOf (l := l) C.2.2.2.2.2.2.2.2.2.1 hW h_a k_a er7 H.size) h_a k_a (by decide) rfl rfl km_X12_classOf ki_X12_classOf qm_X12_276 ⟨(Nat.le_of_ble_eq_true rfl), (Nat.le_of_ble_eq_true rfl)⟩ rfl hl.1 rfl (Nat.le_of_ble_eq_true rfl) ⟨Nat.zero_le _, Nat.zero_le _⟩ dX12_sort_23) hS (fun H locs hP hS hW => ?_)
    refine lv_goto (tgt := 30) hx hb dX12_sort_26 (by decide) ?_
    cases hf
    exact x_reti C hP hS hW dX12_sort_30
def s_X12_spread_J89 (N : Nat → Nat) (F : Nat) (k55 : Nat → Int32 → Int32 → Int32 → Int32 → Int32 → Int32 → Int32 → HS → Option (Int32 × HS)) (v0 : Nat) (v1 : Int32) (v2 : Int32) (v3 : Int32) (v4 : Int32) (v5 : Int32) (v7 : Int32) (w0 : Int32) (S : HS) : Option (Int32 × HS) :=
  bnd (v7 + Int32.ofInt 1 : Int32) fun x14 =>
  k55 v0 v1 v2 v3 v4 v5 w0 x14 S
def s_X12_spread_L55 (N : Nat → Nat) (F : Nat) (k97 : Nat → Int32 → Int32 → Int32 → Int32 → Int32 → Int32 → HS → Option (Int32 × HS)) : Nat → Nat → Int32 → Int32 → Int32 → Int32 → Int32 → Int32 → Int32 → HS → Option (Int32 × HS)
  | 0, _, _, _, _, _, _, _, _, _ => none
  | n + 1, v0, v1, v2, v3, v4, v5, v6, v7, S => if v5 ≤ v7 then
  k97 v0 v1 v2 v3 v4 v5 v6 S
  else
  if v6 = (0 : Int32) then
  s_X12_spread_J89 N F (s_X12_spread_L55 N F k97 n) v0 v1 v2 v3 v4 v5 v7 0 S
  else
  bd1 (gR S 1227 v0) fun t15 =>
  if inB v7 (N t15) = true then
  bd1 (gR S 1227 v0) fun t17 =>
  if inB v5 (N t17) = true then
  if (aI S t15 v7.toNatClampNeg) = (aI S t17 v5.toNatClampNeg) then
  s_X12_spread_J89 N F (s_X12_spread_L55 N F k97 n) v0 v1 v2 v3 v4 v5 v7 0 S
  else
  s_X12_spread_J89 N F (s_X12_spread_L55 N F k97 n) v0 v1 v2 v3 v4 v5 v7 1 S
  else none
  else none
def s_X12_spread_J109 (N : Nat → Nat) (F : Nat) (k23 : Nat → Int32 → Int32 → Int32 → Int32 → Int32 → HS → Option (Int32 × HS)) (v0 : Nat) (v1 : Int32) (v2 : Int32) (v3 : Int32) (v5 : Int32) (w0 : Int32) (w1 : Int32) (S : HS) : Option (Int32 × HS) :=
  bnd (w0 + w1 : Int32) fun x21 =>
  bnd (v5 + Int32.ofInt 1 : Int32) fun x22 =>
  k23 v0 v1 v2 v3 x21 x22 S
def s_X12_spread_J97 (N : Nat → Nat) (F : Nat) (k23 : Nat → Int32 → Int32 → Int32 → Int32 → Int32 → HS → Option (Int32 × HS)) (v0 : Nat) (v1 : Int32) (v2 : Int32) (v3 : Int32) (v4 : Int32) (v5 : Int32) (v6 : Int32) (S : HS) : Option (Int32 × HS) :=
  if v6 = (0 : Int32) then
  s_X12_spread_J109 N F k23 v0 v1 v2 v3 v5 v4 0 S
  else
  s_X12_spread_J109 N F k23 v0 v1 v2 v3 v5 v4 1 S
def s_X12_spread_L23 (N : Nat → Nat) (F : Nat) : Nat → Nat → Int32 → Int32 → Int32 → Int32 → Int32 → HS → Option (Int32 × HS)
  | 0, _, _, _, _, _, _, _ => none
  | n + 1, v0, v1, v2, v3, v4, v5, S => if (5 : Int32) ≤ v5 then
  some (v4, S)
  else
  bd1 (gR S 1227 v0) fun t6 =>
  bd1 (s_X12_used N v0 S) fun r7 =>
  bd2 (s_X12_sums_ N F v0 r7 v1 v2 v3 v5 S) fun r8 S9 =>
  if inB v5 (N t6) = true then
  bnd (wI S9 t6 (v5.toNatClampNeg) r8) fun S11 =>
  s_X12_spread_L55 N F (s_X12_spread_J97 N F (s_X12_spread_L23 N F n)) F v0 v1 v2 v3 v4 v5 1 0 S11
  else none
def s_X12_spread (N : Nat → Nat) (F : Nat) (a : Nat) (p0 : Int32) (p1 : Int32) (p2 : Int32) (S : HS) : Option (Int32 × HS) :=
  bnd (uI S 1200 a 0) fun S1 =>
  bd1 (s_X12_areBits N a p0 p1 p2 S1) fun r2 =>
  if r2 = (0 : Int32) then
  some ((-1), S1)
  else
  s_X12_spread_L23 N F F a p0 p1 p2 0 0 S1
set_option maxRecDepth 100000 in
set_option maxHeartbeats 4000000 in
theorem b_X12_spread_89 {p : Program} {l : Launch} {e : Env} {s : State} {m : MethodId} {args : Array Value} {below : List Frame} {meth : Method} {c : Code} {V : EV} {G : GS} {r : Int32} {S' : HS} {F : Nat} (C : CX p s m args meth c RX12 cX12_spread 8 (some .int) V G) {k55 : Nat → Int32 → Int32 → Int32 → Int32 → Int32 → Int32 → Int32 → HS → Option (Int32 × HS)} (hk55 : ∀ (v0 : Nat) (v1 : Int32) (v2 : Int32) (v3 : Int32) (v4 : Int32) (v5 : Int32) (v6 : Int32) (v7 : Int32) (h_v0 : v0 ∈ G.1) (k_v0 : G.2.1 v0 = 12) (S : HS) (H : Heap) (locs : List Loc) (ls : Array Slot), k55 v0 v1 v2 v3 v4 v5 v6 v7 S = some (r, S') → HP V G S H → va_S (AG G s.heap.size) s.heap H locs → WT G S → lv_has ls 8 [(0, .ref v0), (1, .int v1), (2, .int v2), (3, .int v3), (4, .int v4), (5, .int v5), (6, .int v6), (7, .int v7)] → W p l e (RM 20 675) s m args below meth c H locs 0 0 (MQ below (QI V G S' r s.heap.size) args s 0 0 (AG G s.heap.size)) (F0 m 55 ls [])) : ∀ (v0 : Nat) (v1 : Int32) (v2 : Int32) (v3 : Int32) (v4 : Int32) (v5 : Int32) (v7 : Int32) (w0 : Int32) (h_v0 : v0 ∈ G.1) (k_v0 : G.2.1 v0 = 12) (S : HS) (H : Heap) (locs : List Loc) (ls : Array Slot), s_X12_spread_J89 G.2.2 F k55 v0 v1 v2 v3 v4 v5 v7 w0 S = some (r, S') → HP V G S H → va_S (AG G s.heap.size) s.heap H locs → WT G S → lv_has ls 8 [(0, .ref v0), (1, .int v1), (2, .int v2), (3, .int v3), (4, .int v4), (5, .int v5), (7, .int v7)] → W p l e (RM 20 675) s m args below meth c H locs 0 0 (MQ below (QI V G S' r s.heap.size) args s 0 0 (AG G s.heap.size)) (F0 m 89 ls [.int w0]) := by
  intro v0 v1 v2 v3 v4 v5 v7 w0 h_v0 k_v0 S H locs ls hf hP hS hW hl
  have hx := C.1
  have hb := C.2.1
  unfold s_X12_spread_J89 at hf
  refine lv_istore (lv' := [(6, .int w0), (0, .ref v0), (1, .int v1), (2, .int v2), (3, .int v3), (4, .int v4), (5, .int v5), (7, .int v7)]) hx hb dX12_spread_89 hl (by decide) rfl (fun ls hl => ?_)
  obtain ⟨x14, ex14, hf⟩ := bnd_e hf
  refine lv_iinc (v := x14) (lv' := [(7, .int x14), (6, .int w0), (0, .ref v0), (1, .int v1), (2, .int v2), (3, .int v3), (4, .int v4), (5, .int v5)]) hx hb dX12_spread_91 hl (k := 7) rfl ex14.symm (by decide) rfl (fun ls hl => ?_)
  refine lv_goto (tgt := 55) hx hb dX12_spread_94 (by decide) ?_
  exact hk55 v0 v1 v2 v3 v4 v5 w0 x14 h_v0 k_v0 S H locs _ hf hP hS hW (lv_sub hl [2, 3, 4, 5, 6, 7, 1, 0] rfl)
set_option maxRecDepth 100000 in
set_option maxHeartbeats 4000000 in
theorem b_X12_spread_55 {p : Program} {l : Launch} {e : Env} {s : State} {m : MethodId} {args : Array Value} {below : List Frame} {meth : Method} {c : Code} {V : EV} {G : GS} {r : Int32} {S' : HS} {F : Nat} (C : CX p s m args meth c RX12 cX12_spread 8 (some .int) V G) {k97 : Nat → Int32 → Int32 → Int32 → Int32 → Int32 → Int32 → HS → Option (Int32 × HS)} (hk97 : ∀ (v0 : Nat) (v1 : Int32) (v2 : Int32) (v3 : Int32) (v4 : Int32) (v5 : Int32) (v6 : Int32) (h_v0 : v0 ∈ G.1) (k_v0 : G.2.1 v0 = 12) (S : HS) (H : Heap) (locs : List Loc) (ls : Array Slot), k97 v0 v1 v2 v3 v4 v5 v6 S = some (r, S') → HP V G S H → va_S (AG G s.heap.size) s.heap H locs → WT G S → lv_has ls 8 [(0, .ref v0), (1, .int v1), (2, .int v2), (3, .int v3), (4, .int v4), (5, .int v5), (6, .int v6)] → W p l e (RM 20 675) s m args below meth c H locs 0 0 (MQ below (QI V G S' r s.heap.size) args s 0 0 (AG G s.heap.size)) (F0 m 97 ls [])) : ∀ n : Nat, ∀ (v0 : Nat) (v1 : Int32) (v2 : Int32) (v3 : Int32) (v4 : Int32) (v5 : Int32) (v6 : Int32) (v7 : Int32) (h_v0 : v0 ∈ G.1) (k_v0 : G.2.1 v0 = 12) (S : HS) (H : Heap) (locs : List Loc) (ls : Array Slot), s_X12_spread_L55 G.2.2 F k97 n v0 v1 v2 v3 v4 v5 v6 v7 S = some (r, S') → HP V G S H → va_S (AG G s.heap.size) s.heap H locs → WT G S → lv_has ls 8 [(0, .ref v0), (1, .int v1), (2, .int v2), (3, .int v3), (4, .int v4), (5, .int v5), (6, .int v6), (7, .int v7)] → W p l e (RM 20 675) s m args below meth c H locs 0 0 (MQ below (QI V G S' r s.heap.size) args s 0 0 (AG G s.heap.size)) (F0 m 55 ls []) := by
  intro n
  induction n with
  | zero =>
    intro v0 v1 v2 v3 v4 v5 v6 v7 h_v0 k_v0 S H locs ls hf
    rw [s_X12_spread_L55] at hf
    cases hf
  | succ n ih =>
    intro v0 v1 v2 v3 v4 v5 v6 v7 h_v0 k_v0 S H locs ls hf hP hS hW hl
    have hx := C.1
    have hb := C.2.1
    rw [s_X12_spread_L55] at hf
    refine lv_iload hx hb dX12_spread_55 (lv_at hl 7 rfl) ?_
    refine lv_iload hx hb dX12_spread_57 (lv_at hl 5 rfl) ?_
    refine lv_icmp_ge (tgt := 97) hx hb dX12_spread_59 (by decide) (fun c12 => ?_) (fun c12 => ?_)
    · have hf := if_t c12 hf
      exact hk97 v0 v1 v2 v3 v4 v5 v6 h_v0 k_v0 S H locs _ hf hP hS hW (lv_sub hl [0, 1, 2, 3, 4, 5, 6] rfl)
    · have hf := if_f c12 hf
      refine lv_iload hx hb dX12_spread_62 (lv_at hl 6 rfl) ?_
      refine lv_if_eq (tgt := 88) hx hb dX12_spread_64 (by decide) (fun c13 => ?_) (fun c13 => ?_)
      · have hf := if_t c13 hf
        refine lv_iconst (v := 0) hx hb dX12_spread_88 rfl ?_
        exact b_X12_spread_89 C ih v0 v1 v2 v3 v4 v5 v7 0 h_v0 k_v0 S H locs _ hf hP hS hW (lv_sub hl [0, 1, 2, 3, 4, 5, 7] rfl)
      · have hf := if_f c13 hf
        refine lv_aload_n hx hb dX12_spread_67 rfl (lv_at hl 0 rfl) ?_
        refine gf_X12_108 C hP h_v0 k_v0 dX12_spread_68 ?_
        obtain ⟨t15, et15, hf⟩ := bd1_e hf
        obtain ⟨h_t15, k_t15⟩ := wt_r hW h_v0 k_v0 (by decide) et15
        have k_t15 : G.2.1 t15 = 14 := k_t15
        rw [et15]
        refine lv_iload hx hb dX12_spread_71 (lv_at hl 7 rfl) ?_
        obtain ⟨h16, hf⟩ := if_s hf
        refine x_iald C hP h_t15 k_t15 h16 dX12_spread_73 ?_
        refine lv_aload_n hx hb dX12_spread_74 rfl (lv_at hl 0 rfl) ?_
        refine gf_X12_108 C hP h_v0 k_v0 dX12_spread_75 ?_
        obtain ⟨t17, et17, hf⟩ := bd1_e hf
        obtain ⟨h_t17, k_t17⟩ := wt_r hW h_v0 k_v0 (by decide) et17
        have k_t17 : G.2.1 t17 = 14 := k_t17
        rw [et17]
        refine lv_iload hx hb dX12_spread_78 (lv_at hl 5 rfl) ?_
        obtain ⟨h18, hf⟩ := if_s hf
        refine x_iald C hP h_t17 k_t17 h18 dX12_spread_80 ?_
        refine lv_icmp_eq (tgt := 88) hx hb dX12_spread_81 (by decide) (fun c19 => ?_) (fun c19 => ?_)
        · have hf := if_t c19 hf
          refine lv_iconst (v := 0) hx hb dX12_spread_88 rfl ?_
          exact b_X12_spread_89 C ih v0 v1 v2 v3 v4 v5 v7 0 h_v0 k_v0 S H locs _ hf hP hS hW (lv_sub hl [0, 1, 2, 3, 4, 5, 7] rfl)
        · have hf := if_f c19 hf
          refine lv_iconst (v := 1) hx hb dX12_spread_84 rfl ?_
          refine lv_goto (tgt := 89) hx hb dX12_spread_85 (by decide) ?_
          exact b_X12_spread_89 C ih v0 v1 v2 v3 v4 v5 v7 1 h_v0 k_v0 S H locs _ hf hP hS hW (lv_sub hl [0, 1, 2, 3, 4, 5, 7] rfl)
set_option maxRecDepth 100000 in
set_option maxHeartbeats 4000000 in
theorem b_X12_spread_109 {p : Program} {l : Launch} {e : Env} {s : State} {m : MethodId} {args : Array Value} {below : List Frame} {meth : Method} {c : Code} {V : EV} {G : GS} {r : Int32} {S' : HS} {F : Nat} (C : CX p s m args meth c RX12 cX12_spread 8 (some .int) V G) {k23 : Nat → Int32 → Int32 → Int32 → Int32 → Int32 → HS → Option (Int32 × HS)} (hk23 : ∀ (v0 : Nat) (v1 : Int32) (v2 : Int32) (v3 : Int32) (v4 : Int32) (v5 : Int32) (h_v0 : v0 ∈ G.1) (k_v0 : G.2.1 v0 = 12) (S : HS) (H : Heap) (locs : List Loc) (ls : Array Slot), k23 v0 v1 v2 v3 v4 v5 S = some (r, S') → HP V G S H → va_S (AG G s.heap.size) s.heap H locs → WT G S → lv_has ls 8 [(0, .ref v0), (1, .int v1), (2, .int v2), (3, .int v3), (4, .int v4), (5, .int v5)] → W p l e (RM 20 675) s m args below meth c H locs 0 0 (MQ below (QI V G S' r s.heap.size) args s 0 0 (AG G s.heap.size)) (F0 m 23 ls [])) : ∀ (v0 : Nat) (v1 : Int32) (v2 : Int32) (v3 : Int32) (v5 : Int32) (w0 : Int32) (w1 : Int32) (h_v0 : v0 ∈ G.1) (k_v0 : G.2.1 v0 = 12) (S : HS) (H : Heap) (locs : List Loc) (ls : Array Slot), s_X12_spread_J109 G.2.2 F k23 v0 v1 v2 v3 v5 w0 w1 S = some (r, S') → HP V G S H → va_S (AG G s.heap.size) s.heap H locs → WT G S → lv_has ls 8 [(0, .ref v0), (1, .int v1), (2, .int v2), (3, .int v3), (5, .int v5)] → W p l e (RM 20 675) s m args below meth c H locs 0 0 (MQ below (QI V G S' r s.heap.size) args s 0 0 (AG G s.heap.size)) (F0 m 109 ls [.int w1, .int w0]) := by
  intro v0 v1 v2 v3 v5 w0 w1 h_v0 k_v0 S H locs ls hf hP hS hW hl
  have hx := C.1
  have hb := C.2.1
  unfold s_X12_spread_J109 at hf
  refine lv_iadd hx hb dX12_spread_109 ?_
  obtain ⟨x21, ex21, hf⟩ := bnd_e hf
  refine nm_i ex21 ?_
  refine lv_istore (lv' := [(4, .int x21), (0, .ref v0), (1, .int v1), (2, .int v2), (3, .int v3), (5, .int v5)]) hx hb dX12_spread_110 hl (by decide) rfl (fun ls hl => ?_)
  obtain ⟨x22, ex22, hf⟩ := bnd_e hf
  refine lv_iinc (v := x22) (lv' := [(5, .int x22), (4, .int x21), (0, .ref v0), (1, .int v1), (2, .int v2), (3, .int v3)]) hx hb dX12_spread_112 hl (k := 5) rfl ex22.symm (by decide) rfl (fun ls hl => ?_)
  refine lv_goto (tgt := 23) hx hb dX12_spread_115 (by decide) ?_
  exact hk23 v0 v1 v2 v3 x21 x22 h_v0 k_v0 S H locs _ hf hP hS hW (lv_sub hl [2, 3, 4, 5, 1, 0] rfl)
set_option maxRecDepth 100000 in
set_option maxHeartbeats 4000000 in
theorem b_X12_spread_97 {p : Program} {l : Launch} {e : Env} {s : State} {m : MethodId} {args : Array Value} {below : List Frame} {meth : Method} {c : Code} {V : EV} {G : GS} {r : Int32} {S' : HS} {F : Nat} (C : CX p s m args meth c RX12 cX12_spread 8 (some .int) V G) {k23 : Nat → Int32 → Int32 → Int32 → Int32 → Int32 → HS → Option (Int32 × HS)} (hk23 : ∀ (v0 : Nat) (v1 : Int32) (v2 : Int32) (v3 : Int32) (v4 : Int32) (v5 : Int32) (h_v0 : v0 ∈ G.1) (k_v0 : G.2.1 v0 = 12) (S : HS) (H : Heap) (locs : List Loc) (ls : Array Slot), k23 v0 v1 v2 v3 v4 v5 S = some (r, S') → HP V G S H → va_S (AG G s.heap.size) s.heap H locs → WT G S → lv_has ls 8 [(0, .ref v0), (1, .int v1), (2, .int v2), (3, .int v3), (4, .int v4), (5, .int v5)] → W p l e (RM 20 675) s m args below meth c H locs 0 0 (MQ below (QI V G S' r s.heap.size) args s 0 0 (AG G s.heap.size)) (F0 m 23 ls [])) : ∀ (v0 : Nat) (v1 : Int32) (v2 : Int32) (v3 : Int32) (v4 : Int32) (v5 : Int32) (v6 : Int32) (h_v0 : v0 ∈ G.1) (k_v0 : G.2.1 v0 = 12) (S : HS) (H : Heap) (locs : List Loc) (ls : Array Slot), s_X12_spread_J97 G.2.2 F k23 v0 v1 v2 v3 v4 v5 v6 S = some (r, S') → HP V G S H → va_S (AG G s.heap.size) s.heap H locs → WT G S → lv_has ls 8 [(0, .ref v0), (1, .int v1), (2, .int v2), (3, .int v3), (4, .int v4), (5, .int v5), (6, .int v6)] → W p l e (RM 20 675) s m args below meth c H locs 0 0 (MQ below (QI V G S' r s.heap.size) args s 0 0 (AG G s.heap.size)) (F0 m 97 ls []) := by
  intro v0 v1 v2 v3 v4 v5 v6 h_v0 k_v0 S H locs ls hf hP hS hW hl
  have hx := C.1
  have hb := C.2.1
  unfold s_X12_spread_J97 at hf
  refine lv_iload hx hb dX12_spread_97 (lv_at hl 4 rfl) ?_
  refine lv_iload hx hb dX12_spread_99 (lv_at hl 6 rfl) ?_
  refine lv_if_eq (tgt := 108) hx hb dX12_spread_101 (by decide) (fun c20 => ?_) (fun c20 => ?_)
  · have hf := if_t c20 hf
    refine lv_iconst (v := 0) hx hb dX12_spread_108 rfl ?_
    exact b_X12_spread_109 C hk23 v0 v1 v2 v3 v5 v4 0 h_v0 k_v0 S H locs _ hf hP hS hW (lv_sub hl [0, 1, 2, 3, 5] rfl)
  · have hf := if_f c20 hf
    refine lv_iconst (v := 1) hx hb dX12_spread_104 rfl ?_
    refine lv_goto (tgt := 109) hx hb dX12_spread_105 (by decide) ?_
    exact b_X12_spread_109 C hk23 v0 v1 v2 v3 v5 v4 1 h_v0 k_v0 S H locs _ hf hP hS hW (lv_sub hl [0, 1, 2, 3, 5] rfl)
set_option maxRecDepth 100000 in
set_option maxHeartbeats 4000000 in
theorem b_X12_spread_23 {p : Program} {l : Launch} {e : Env} {s : State} {m : MethodId} {args : Array Value} {below : List Frame} {meth : Method} {c : Code} {V : EV} {G : GS} {r : Int32} {S' : HS} {F : Nat} (C : CX p s m args meth c RX12 cX12_spread 8 (some .int) V G) : ∀ n : Nat, ∀ (v0 : Nat) (v1 : Int32) (v2 : Int32) (v3 : Int32) (v4 : Int32) (v5 : Int32) (h_v0 : v0 ∈ G.1) (k_v0 : G.2.1 v0 = 12) (S : HS) (H : Heap) (locs : List Loc) (ls : Array Slot), s_X12_spread_L23 G.2.2 F n v0 v1 v2 v3 v4 v5 S = some (r, S') → HP V G S H → va_S (AG G s.heap.size) s.heap H locs → WT G S → lv_has ls 8 [(0, .ref v0), (1, .int v1), (2, .int v2), (3, .int v3), (4, .int v4), (5, .int v5)] → W p l e (RM 20 675) s m args below meth c H locs 0 0 (MQ below (QI V G S' r s.heap.size) args s 0 0 (AG G s.heap.size)) (F0 m 23 ls []) := by
  intro n
  induction n with
  | zero =>
    intro v0 v1 v2 v3 v4 v5 h_v0 k_v0 S H locs ls hf
    rw [s_X12_spread_L23] at hf
    cases hf
  | succ n ih =>
    intro v0 v1 v2 v3 v4 v5 h_v0 k_v0 S H locs ls hf hP hS hW hl
    have hx := C.1
    have hb := C.2.1
    rw [s_X12_spread_L23] at hf
    refine lv_iload hx hb dX12_spread_23 (lv_at hl 5 rfl) ?_
    refine lv_iconst (v := 5) hx hb dX12_spread_25 rfl ?_
    refine lv_icmp_ge (tgt := 118) hx hb dX12_spread_26 (by decide) (fun c5 => ?_) (fun c5 => ?_)
    · have hf := if_t c5 hf
      refine lv_iload hx hb dX12_spread_118 (lv_at hl 4 rfl) ?_
      cases hf
      exact x_reti C hP hS hW dX12_spread_120
    · have hf := if_f c5 hf
      refine lv_aload_n hx hb dX12_spread_29 rfl (lv_at hl 0 rfl) ?_
      refine gf_X12_108 C hP h_v0 k_v0 dX12_spread_30 ?_
      obtain ⟨t6, et6, hf⟩ := bd1_e hf
      obtain ⟨h_t6, k_t6⟩ := wt_r hW h_v0 k_v0 (by decide) et6
      have k_t6 : G.2.1 t6 = 14 := k_t6
      rw [et6]
      refine lv_iload hx hb dX12_spread_33 (lv_at hl 5 rfl) ?_
      refine lv_aload_n hx hb dX12_spread_35 rfl (lv_at hl 0 rfl) ?_
      refine lv_aload_n hx hb dX12_spread_36 rfl (lv_at hl 0 rfl) ?_
      obtain ⟨r7, er7, hf⟩ := bd1_e hf
      refine x_aft_i (x_runV (As := []) (rest := [.ref v0, .int v5, .ref t6]) C hP hS (c_X12_used (l := l) C.2.2.2.2.2.2.2.2.2.1 hW h_v0 k_v0 er7 H.size) h_v0 k_v0 (by decide) rfl rfl km_X12_used ki_X12_used qm_X12_357 ⟨(Nat.le_of_ble_eq_true rfl), (Nat.le_of_ble_eq_true rfl)⟩ rfl hl.1 rfl (Nat.le_of_ble_eq_true rfl) ⟨Nat.zero_le _, Nat.zero_le _⟩ dX12_spread_37) hS (fun H locs hP hS hW => ?_)
      refine lv_iload_n hx hb dX12_spread_40 rfl (lv_at hl 1 rfl) ?_
      refine lv_iload_n hx hb dX12_spread_41 rfl (lv_at hl 2 rfl) ?_
      refine lv_iload_n hx hb dX12_spread_42 rfl (lv_at hl 3 rfl) ?_
      refine lv_iload hx hb dX12_spread_43 (lv_at hl 5 rfl) ?_
      obtain ⟨r8, S9, eS9, hf⟩ := bd2_e hf
      refine x_aft_i (x_runV (As := [.int r7, .int v1, .int v2, .int v3, .int v5]) (rest := [.int v5, .ref t6]) C hP hS (c_X12_sums_ (l := l) C.2.2.2.2.2.2.2.2.2.1 hW h_v0 k_v0 eS9 H.size) h_v0 k_v0 (by decide) rfl rfl km_X12_sums_ ki_X12_sums_ qm_X12_375 ⟨(Nat.le_of_ble_eq_true rfl), (Nat.le_of_ble_eq_true rfl)⟩ rfl hl.1 rfl (Nat.le_of_ble_eq_true rfl) ⟨Nat.zero_le _, Nat.zero_le _⟩ dX12_spread_45) hS (fun H locs hP hS hW => ?_)
      obtain ⟨h10, hf⟩ := if_s hf
      obtain ⟨S11, eS11, hf⟩ := bnd_e hf
      refine x_iast C hP hS h_t6 k_t6 h10 eS11 dX12_spread_48 (fun H locs hP hS => ?_)
      have hW : WT G S11 := by rw [eS11]; exact hW
      refine lv_iconst (v := 1) hx hb dX12_spread_49 rfl ?_
      refine lv_istore (lv' := [(6, .int 1), (0, .ref v0), (1, .int v1), (2, .int v2), (3, .int v3), (4, .int v4), (5, .int v5)]) hx hb dX12_spread_50 hl (by decide) rfl (fun ls hl => ?_)
      refine lv_iconst (v := 0) hx hb dX12_spread_52 rfl ?_
      refine lv_istore (lv' := [(7, .int 0), (6, .int 1), (0, .ref v0), (1, .int v1), (2, .int v2), (3, .int v3), (4, .int v4), (5, .int v5)]) hx hb dX12_spread_53 hl (by decide) rfl (fun ls hl => ?_)
      exact b_X12_spread_55 C (b_X12_spread_97 C ih) F v0 v1 v2 v3 v4 v5 1 0 h_v0 k_v0 S11 H locs _ hf hP hS hW (lv_sub hl [2, 3, 4, 5, 6, 7, 1, 0] rfl)
set_option maxRecDepth 100000 in
set_option maxHeartbeats 4000000 in
theorem c_X12_spread {l : Launch} {V : EV} {G : GS} {S : HS} {F : Nat} {a : Nat} {p0 : Int32} {p1 : Int32} {p2 : Int32} {r : Int32} {S' : HS} (hN : G.1.Nodup) (hW : WT G S) (h_a : a ∈ G.1) (k_a : G.2.1 a = 12) (hf : s_X12_spread G.2.2 F a p0 p1 p2 S = some (r, S')) : MetI l yX12_spread cX12_spread 8 .int 20 675 V G S [.ref a, .int p0, .int p1, .int p2] r S' := by
  intro sz
  refine x_in RX12 rfl (by decide +kernel) hN (Nat.le_of_ble_eq_true rfl) (fun p e s m args below meth c ls hsz hargs hnm C hP hS hl => ?_)
  subst hsz
  have hx := C.1
  have hb := C.2.1
  have hl : lv_has ls 8 [(0, .ref a), (1, .int p0), (2, .int p1), (3, .int p2)] := hl
  unfold s_X12_spread at hf
  refine lv_aload_n hx hb dX12_spread_0 rfl (lv_at hl 0 rfl) ?_
  refine lv_iconst (v := 0) hx hb dX12_spread_1 rfl ?_
  obtain ⟨S1, eS1, hf⟩ := bnd_e hf
  refine pf_X12_1 C hP hS h_a k_a eS1 dX12_spread_2 (fun H locs hP hS => ?_)
  have hW : WT G S1 := by rw [eS1]; exact hW
  refine lv_aload_n hx hb dX12_spread_5 rfl (lv_at hl 0 rfl) ?_
  refine lv_iload_n hx hb dX12_spread_6 rfl (lv_at hl 1 rfl) ?_
  refine lv_iload_n hx hb dX12_spread_7 rfl (lv_at hl 2 rfl) ?_
  refine lv_iload_n hx hb dX12_spread_8 rfl (lv_at hl 3 rfl) ?_
  obtain ⟨r2, er2, hf⟩ := bd1_e hf
  refine x_aft_z (x_runV (As := [.int p0, .int p1, .int p2]) (rest := []) C hP hS (c_X12_areBits (l := l) C.2.2.2.2.2.2.2.2.2.1 hW h_a k_a er2 H.size) h_a k_a (by decide) rfl rfl km_X12_areBits ki_X12_areBits qm_X12_403 ⟨(Nat.le_of_ble_eq_true rfl), (Nat.le_of_ble_eq_true rfl)⟩ rfl hl.1 rfl (Nat.le_of_ble_eq_true rfl) ⟨Nat.zero_le _, Nat.zero_le _⟩ dX12_spread_9) hS (fun H locs hP hS hW z3 => ?_)
  refine lv_if_ne (tgt := 17) hx hb dX12_spread_12 (by decide) (fun c4 => ?_) (fun c4 => ?_)
  · have hf := if_f c4 hf
    refine lv_iconst (v := 0) hx hb dX12_spread_17 rfl ?_
    refine lv_istore (lv' := [(4, .int 0), (0, .ref a), (1, .int p0), (2, .int p1), (3, .int p2)]) hx hb dX12_spread_18 hl (by decide) rfl (fun ls hl => ?_)
    refine lv_iconst (v := 0) hx hb dX12_spread_20 rfl ?_
    refine lv_istore (lv' := [(5, .int 0), (4, .int 0), (0, .ref a), (1, .int p0), (2, .int p1), (3, .int p2)]) hx hb dX12_spread_21 hl (by decide) rfl (fun ls hl => ?_)
    exact b_X12_spread_23 C F a p0 p1 p2 0 0 h_a k_a S1 H locs _ hf hP hS hW (lv_sub hl [2, 3, 4, 5, 1, 0] rfl)
  · have hf := if_t c4 hf
    refine lv_iconst (v := (-1)) hx hb dX12_spread_15 rfl ?_
    cases hf
    exact x_reti C hP hS hW dX12_spread_16
def s_X12_sum (N : Nat → Nat) (F : Nat) (a : Nat) (p0 : Int32) (p1 : Int32) (p2 : Int32) (p3 : Int32) (S : HS) : Option (Int32 × HS) :=
  bnd (uI S 1200 a 0) fun S1 =>
  bd1 (s_X12_areBits N a p0 p1 p2 S1) fun r2 =>
  if r2 = (0 : Int32) then
  some ((-1), S1)
  else
  if (s_X12_within p3 0 5 S1) = (0 : Int32) then
  some ((-1), S1)
  else
  bd1 (s_X12_used N a S1) fun r7 =>
  bd2 (s_X12_sums_ N F a r7 p0 p1 p2 p3 S1) fun r8 S9 =>
  some (r8, S9)
set_option maxRecDepth 100000 in
set_option maxHeartbeats 4000000 in
theorem c_X12_sum {l : Launch} {V : EV} {G : GS} {S : HS} {F : Nat} {a : Nat} {p0 : Int32} {p1 : Int32} {p2 : Int32} {p3 : Int32} {r : Int32} {S' : HS} (hN : G.1.Nodup) (hW : WT G S) (h_a : a ∈ G.1) (k_a : G.2.1 a = 12) (hf : s_X12_sum G.2.2 F a p0 p1 p2 p3 S = some (r, S')) : MetI l yX12_sum cX12_sum 5 .int 20 675 V G S [.ref a, .int p0, .int p1, .int p2, .int p3] r S' := by
  intro sz
  refine x_in RX12 rfl (by decide +kernel) hN (Nat.le_of_ble_eq_true rfl) (fun p e s m args below meth c ls hsz hargs hnm C hP hS hl => ?_)
  subst hsz
  have hx := C.1
  have hb := C.2.1
  have hl : lv_has ls 5 [(0, .ref a), (1, .int p0), (2, .int p1), (3, .int p2), (4, .int p3)] := hl
  unfold s_X12_sum at hf
  refine lv_aload_n hx hb dX12_sum_0 rfl (lv_at hl 0 rfl) ?_
  refine lv_iconst (v := 0) hx hb dX12_sum_1 rfl ?_
  obtain ⟨S1, eS1, hf⟩ := bnd_e hf
  refine pf_X12_1 C hP hS h_a k_a eS1 dX12_sum_2 (fun H locs hP hS => ?_)
  have hW : WT G S1 := by rw [eS1]; exact hW
  refine lv_aload_n hx hb dX12_sum_5 rfl (lv_at hl 0 rfl) ?_
  refine lv_iload_n hx hb dX12_sum_6 rfl (lv_at hl 1 rfl) ?_
  refine lv_iload_n hx hb dX12_sum_7 rfl (lv_at hl 2 rfl) ?_
  refine lv_iload_n hx hb dX12_sum_8 rfl (lv_at hl 3 rfl) ?_
  obtain ⟨r2, er2, hf⟩ := bd1_e hf
  refine x_aft_z (x_runV (As := [.int p0, .int p1, .int p2]) (rest := []) C hP hS (c_X12_areBits (l := l) C.2.2.2.2.2.2.2.2.2.1 hW h_a k_a er2 H.size) h_a k_a (by decide) rfl rfl km_X12_areBits ki_X12_areBits qm_X12_403 ⟨(Nat.le_of_ble_eq_true rfl), (Nat.le_of_ble_eq_true rfl)⟩ rfl hl.1 rfl (Nat.le_of_ble_eq_true rfl) ⟨Nat.zero_le _, Nat.zero_le _⟩ dX12_sum_9) hS (fun H locs hP hS hW z3 => ?_)
  refine lv_if_eq (tgt := 41) hx hb dX12_sum_12 (by decide) (fun c4 => ?_) (fun c4 => ?_)
  · have hf := if_t c4 hf
    refine lv_iconst (v := (-1)) hx hb dX12_sum_41 rfl ?_
    cases hf
    exact x_reti C hP hS hW dX12_sum_42
  · have hf := if_f c4 hf
    refine lv_iload hx hb dX12_sum_15 (lv_at hl 4 rfl) ?_
    refine lv_iconst (v := 0) hx hb dX12_sum_17 rfl ?_
    refine lv_iconst (v := 5) hx hb dX12_sum_18 rfl ?_
    refine x_aft_z (x_runS (As := [.int p3, .int 0, .int 5]) (rest := []) C hP hS (c_X12_within (l := l) C.2.2.2.2.2.2.2.2.2.1 hW rfl H.size) km_X12_within ks_X12_within qm_X12_386 ⟨(Nat.le_of_ble_eq_true rfl), (Nat.le_of_ble_eq_true rfl)⟩ rfl hl.1 rfl (Nat.le_of_ble_eq_true rfl) ⟨Nat.zero_le _, Nat.zero_le _⟩ dX12_sum_19) hS (fun H locs hP hS hW z5 => ?_)
    refine lv_if_eq (tgt := 41) hx hb dX12_sum_22 (by decide) (fun c6 => ?_) (fun c6 => ?_)
    · have hf := if_t c6 hf
      refine lv_iconst (v := (-1)) hx hb dX12_sum_41 rfl ?_
      cases hf
      exact x_reti C hP hS hW dX12_sum_42
    · have hf := if_f c6 hf
      refine lv_aload_n hx hb dX12_sum_25 rfl (lv_at hl 0 rfl) ?_
      refine lv_aload_n hx hb dX12_sum_26 rfl (lv_at hl 0 rfl) ?_
      obtain ⟨r7, er7, hf⟩ := bd1_e hf
      refine x_aft_i (x_runV (As := []) (rest := [.ref a]) C hP hS (c_X12_used (l := l) C.2.2.2.2.2.2.2.2.2.1 hW h_a k_a er7 H.size) h_a k_a (by decide) rfl rfl km_X12_used ki_X12_used qm_X12_357 ⟨(Nat.le_of_ble_eq_true rfl), (Nat.le_of_ble_eq_true rfl)⟩ rfl hl.1 rfl (Nat.le_of_ble_eq_true rfl) ⟨Nat.zero_le _, Nat.zero_le _⟩ dX12_sum_27) hS (fun H locs hP hS hW => ?_)
      refine lv_iload_n hx hb dX12_sum_30 rfl (lv_at hl 1 rfl) ?_
      refine lv_iload_n hx hb dX12_sum_31 rfl (lv_at hl 2 rfl) ?_
      refine lv_iload_n hx hb dX12_sum_32 rfl (lv_at hl 3 rfl) ?_
      refine lv_iload hx hb dX12_sum_33 (lv_at hl 4 rfl) ?_
      obtain ⟨r8, S9, eS9, hf⟩ := bd2_e hf
      refine x_aft_i (x_runV (As := [.int r7, .int p0, .int p1, .int p2, .int p3]) (rest := []) C hP hS (c_X12_sums_ (l := l) C.2.2.2.2.2.2.2.2.2.1 hW h_a k_a eS9 H.size) h_a k_a (by decide) rfl rfl km_X12_sums_ ki_X12_sums_ qm_X12_375 ⟨(Nat.le_of_ble_eq_true rfl), (Nat.le_of_ble_eq_true rfl)⟩ rfl hl.1 rfl (Nat.le_of_ble_eq_true rfl) ⟨Nat.zero_le _, Nat.zero_le _⟩ dX12_sum_35) hS (fun H locs hP hS hW => ?_)
      refine lv_goto (tgt := 42) hx hb dX12_sum_38 (by decide) ?_
      cases hf
      exact x_reti C hP hS hW dX12_sum_42
def s_X12_swallows (N : Nat → Nat) (F : Nat) (a : Nat) (p0 : Int32) (p1 : Int32) (S : HS) : Option (Int32 × HS) :=
  bnd (uI S 1200 a 0) fun S1 =>
  bd1 (s_X12_areSmall N a p0 p1 S1) fun r2 =>
  if r2 = (0 : Int32) then
  some ((-1), S1)
  else
  bd2 (s_X12_addends N F a p0 p1 1 0 S1) fun r5 S6 =>
  some (r5, S6)
set_option maxRecDepth 100000 in
set_option maxHeartbeats 4000000 in
theorem c_X12_swallows {l : Launch} {V : EV} {G : GS} {S : HS} {F : Nat} {a : Nat} {p0 : Int32} {p1 : Int32} {r : Int32} {S' : HS} (hN : G.1.Nodup) (hW : WT G S) (h_a : a ∈ G.1) (k_a : G.2.1 a = 12) (hf : s_X12_swallows G.2.2 F a p0 p1 S = some (r, S')) : MetI l yX12_swallows cX12_swallows 3 .int 22 742 V G S [.ref a, .int p0, .int p1] r S' := by
  intro sz
  refine x_in RX12 rfl (by decide +kernel) hN (Nat.le_of_ble_eq_true rfl) (fun p e s m args below meth c ls hsz hargs hnm C hP hS hl => ?_)
  subst hsz
  have hx := C.1
  have hb := C.2.1
  have hl : lv_has ls 3 [(0, .ref a), (1, .int p0), (2, .int p1)] := hl
  unfold s_X12_swallows at hf
  refine lv_aload_n hx hb dX12_swallows_0 rfl (lv_at hl 0 rfl) ?_
  refine lv_iconst (v := 0) hx hb dX12_swallows_1 rfl ?_
  obtain ⟨S1, eS1, hf⟩ := bnd_e hf
  refine pf_X12_1 C hP hS h_a k_a eS1 dX12_swallows_2 (fun H locs hP hS => ?_)
  have hW : WT G S1 := by rw [eS1]; exact hW
  refine lv_aload_n hx hb dX12_swallows_5 rfl (lv_at hl 0 rfl) ?_
  refine lv_iload_n hx hb dX12_swallows_6 rfl (lv_at hl 1 rfl) ?_
  refine lv_iload_n hx hb dX12_swallows_7 rfl (lv_at hl 2 rfl) ?_
  obtain ⟨r2, er2, hf⟩ := bd1_e hf
  refine x_aft_z (x_runV (As := [.int p0, .int p1]) (rest := []) C hP hS (c_X12_areSmall (l := l) C.2.2.2.2.2.2.2.2.2.1 hW h_a k_a er2 H.size) h_a k_a (by decide) rfl rfl km_X12_areSmall ki_X12_areSmall qm_X12_449 ⟨(Nat.le_of_ble_eq_true rfl), (Nat.le_of_ble_eq_true rfl)⟩ rfl hl.1 rfl (Nat.le_of_ble_eq_true rfl) ⟨Nat.zero_le _, Nat.zero_le _⟩ dX12_swallows_8) hS (fun H locs hP hS hW z3 => ?_)
  refine lv_if_eq (tgt := 25) hx hb dX12_swallows_11 (by decide) (fun c4 => ?_) (fun c4 => ?_)
  · have hf := if_t c4 hf
    refine lv_iconst (v := (-1)) hx hb dX12_swallows_25 rfl ?_
    cases hf
    exact x_reti C hP hS hW dX12_swallows_26
  · have hf := if_f c4 hf
    refine lv_aload_n hx hb dX12_swallows_14 rfl (lv_at hl 0 rfl) ?_
    refine lv_iload_n hx hb dX12_swallows_15 rfl (lv_at hl 1 rfl) ?_
    refine lv_iload_n hx hb dX12_swallows_16 rfl (lv_at hl 2 rfl) ?_
    refine lv_iconst (v := 1) hx hb dX12_swallows_17 rfl ?_
    refine lv_iconst (v := 0) hx hb dX12_swallows_18 rfl ?_
    obtain ⟨r5, S6, eS6, hf⟩ := bd2_e hf
    refine x_aft_i (x_runV (As := [.int p0, .int p1, .int 1, .int 0]) (rest := []) C hP hS (c_X12_addends (l := l) C.2.2.2.2.2.2.2.2.2.1 hW h_a k_a eS6 H.size) h_a k_a (by decide) rfl rfl km_X12_addends ki_X12_addends qm_X12_452 ⟨(Nat.le_of_ble_eq_true rfl), (Nat.le_of_ble_eq_true rfl)⟩ rfl hl.1 rfl (Nat.le_of_ble_eq_true rfl) ⟨Nat.zero_le _, Nat.zero_le _⟩ dX12_swallows_19) hS (fun H locs hP hS hW => ?_)
    refine lv_goto (tgt := 26) hx hb dX12_swallows_22 (by decide) ?_
    cases hf
    exact x_reti C hP hS hW dX12_swallows_26
def s_X12_thrown (a : Nat) (S : HS) : Int32 :=
  gI S 1200 a
set_option maxRecDepth 100000 in
set_option maxHeartbeats 4000000 in
theorem c_X12_thrown {l : Launch} {V : EV} {G : GS} {S : HS} {a : Nat} {r : Int32} (hN : G.1.Nodup) (hW : WT G S) (h_a : a ∈ G.1) (k_a : G.2.1 a = 12) (hf : s_X12_thrown a S = r) : MetI l yX12_thrown cX12_thrown 1 .int 0 0 V G S [.ref a] r S := by
  intro sz
  refine x_in RX12 rfl (by decide +kernel) hN (Nat.le_of_ble_eq_true rfl) (fun p e s m args below meth c ls hsz hargs hnm C hP hS hl => ?_)
  subst hsz
  have hx := C.1
  have hb := C.2.1
  have hl : lv_has ls 1 [(0, .ref a)] := hl
  unfold s_X12_thrown at hf
  refine lv_aload_n hx hb dX12_thrown_0 rfl (lv_at hl 0 rfl) ?_
  refine gf_X12_1 C hP h_a k_a dX12_thrown_1 ?_
  cases hf
  exact x_reti C hP hS hW dX12_thrown_4
def s_X12_ties (N : Nat → Nat) (F : Nat) (a : Nat) (p0 : Int32) (p1 : Int32) (S : HS) : Option (Int32 × HS) :=
  bnd (uI S 1200 a 0) fun S1 =>
  bd1 (s_X12_areSmall N a p0 p1 S1) fun r2 =>
  if r2 = (0 : Int32) then
  some ((-1), S1)
  else
  bd2 (s_X12_addends N F a p0 p1 2 0 S1) fun r5 S6 =>
  some (r5, S6)
set_option maxRecDepth 100000 in
set_option maxHeartbeats 4000000 in
theorem c_X12_ties {l : Launch} {V : EV} {G : GS} {S : HS} {F : Nat} {a : Nat} {p0 : Int32} {p1 : Int32} {r : Int32} {S' : HS} (hN : G.1.Nodup) (hW : WT G S) (h_a : a ∈ G.1) (k_a : G.2.1 a = 12) (hf : s_X12_ties G.2.2 F a p0 p1 S = some (r, S')) : MetI l yX12_ties cX12_ties 3 .int 22 742 V G S [.ref a, .int p0, .int p1] r S' := by
  intro sz
  refine x_in RX12 rfl (by decide +kernel) hN (Nat.le_of_ble_eq_true rfl) (fun p e s m args below meth c ls hsz hargs hnm C hP hS hl => ?_)
  subst hsz
  have hx := C.1
  have hb := C.2.1
  have hl : lv_has ls 3 [(0, .ref a), (1, .int p0), (2, .int p1)] := hl
  unfold s_X12_ties at hf
  refine lv_aload_n hx hb dX12_ties_0 rfl (lv_at hl 0 rfl) ?_
  refine lv_iconst (v := 0) hx hb dX12_ties_1 rfl ?_
  obtain ⟨S1, eS1, hf⟩ := bnd_e hf
  refine pf_X12_1 C hP hS h_a k_a eS1 dX12_ties_2 (fun H locs hP hS => ?_)
  have hW : WT G S1 := by rw [eS1]; exact hW
  refine lv_aload_n hx hb dX12_ties_5 rfl (lv_at hl 0 rfl) ?_
  refine lv_iload_n hx hb dX12_ties_6 rfl (lv_at hl 1 rfl) ?_
  refine lv_iload_n hx hb dX12_ties_7 rfl (lv_at hl 2 rfl) ?_
  obtain ⟨r2, er2, hf⟩ := bd1_e hf
  refine x_aft_z (x_runV (As := [.int p0, .int p1]) (rest := []) C hP hS (c_X12_areSmall (l := l) C.2.2.2.2.2.2.2.2.2.1 hW h_a k_a er2 H.size) h_a k_a (by decide) rfl rfl km_X12_areSmall ki_X12_areSmall qm_X12_449 ⟨(Nat.le_of_ble_eq_true rfl), (Nat.le_of_ble_eq_true rfl)⟩ rfl hl.1 rfl (Nat.le_of_ble_eq_true rfl) ⟨Nat.zero_le _, Nat.zero_le _⟩ dX12_ties_8) hS (fun H locs hP hS hW z3 => ?_)
  refine lv_if_eq (tgt := 25) hx hb dX12_ties_11 (by decide) (fun c4 => ?_) (fun c4 => ?_)
  · have hf := if_t c4 hf
    refine lv_iconst (v := (-1)) hx hb dX12_ties_25 rfl ?_
    cases hf
    exact x_reti C hP hS hW dX12_ties_26
  · have hf := if_f c4 hf
    refine lv_aload_n hx hb dX12_ties_14 rfl (lv_at hl 0 rfl) ?_
    refine lv_iload_n hx hb dX12_ties_15 rfl (lv_at hl 1 rfl) ?_
    refine lv_iload_n hx hb dX12_ties_16 rfl (lv_at hl 2 rfl) ?_
    refine lv_iconst (v := 2) hx hb dX12_ties_17 rfl ?_
    refine lv_iconst (v := 0) hx hb dX12_ties_18 rfl ?_
    obtain ⟨r5, S6, eS6, hf⟩ := bd2_e hf
    refine x_aft_i (x_runV (As := [.int p0, .int p1, .int 2, .int 0]) (rest := []) C hP hS (c_X12_addends (l := l) C.2.2.2.2.2.2.2.2.2.1 hW h_a k_a eS6 H.size) h_a k_a (by decide) rfl rfl km_X12_addends ki_X12_addends qm_X12_452 ⟨(Nat.le_of_ble_eq_true rfl), (Nat.le_of_ble_eq_true rfl)⟩ rfl hl.1 rfl (Nat.le_of_ble_eq_true rfl) ⟨Nat.zero_le _, Nat.zero_le _⟩ dX12_ties_19) hS (fun H locs hP hS hW => ?_)
    refine lv_goto (tgt := 26) hx hb dX12_ties_22 (by decide) ?_
    cases hf
    exact x_reti C hP hS hW dX12_ties_26
def s_X12_times (N : Nat → Nat) (F : Nat) (a : Nat) (p0 : Int32) (p1 : Int32) (p2 : Int32) (p3 : Int32) (S : HS) : Option (Int32 × HS) :=
  bnd (uI S 1200 a 0) fun S1 =>
  bd1 (s_X12_areBits N a p0 p1 p2 S1) fun r2 =>
  if r2 = (0 : Int32) then
  some ((-1), S1)
  else
  if (s_X12_within p3 0 5 S1) = (0 : Int32) then
  some ((-1), S1)
  else
  bd1 (s_X12_used N a S1) fun r7 =>
  bd1 (s_X12_timesOf N F a (s_X12_keyOf r7 p3 p0 p1 S1) p2.toInt64 S1) fun r8 =>
  some (r8, S1)
set_option maxRecDepth 100000 in
set_option maxHeartbeats 4000000 in
theorem c_X12_times {l : Launch} {V : EV} {G : GS} {S : HS} {F : Nat} {a : Nat} {p0 : Int32} {p1 : Int32} {p2 : Int32} {p3 : Int32} {r : Int32} {S' : HS} (hN : G.1.Nodup) (hW : WT G S) (h_a : a ∈ G.1) (k_a : G.2.1 a = 12) (hf : s_X12_times G.2.2 F a p0 p1 p2 p3 S = some (r, S')) : MetI l yX12_times cX12_times 5 .int 4 119 V G S [.ref a, .int p0, .int p1, .int p2, .int p3] r S' := by
  intro sz
  refine x_in RX12 rfl (by decide +kernel) hN (Nat.le_of_ble_eq_true rfl) (fun p e s m args below meth c ls hsz hargs hnm C hP hS hl => ?_)
  subst hsz
  have hx := C.1
  have hb := C.2.1
  have hl : lv_has ls 5 [(0, .ref a), (1, .int p0), (2, .int p1), (3, .int p2), (4, .int p3)] := hl
  unfold s_X12_times at hf
  refine lv_aload_n hx hb dX12_times_0 rfl (lv_at hl 0 rfl) ?_
  refine lv_iconst (v := 0) hx hb dX12_times_1 rfl ?_
  obtain ⟨S1, eS1, hf⟩ := bnd_e hf
  refine pf_X12_1 C hP hS h_a k_a eS1 dX12_times_2 (fun H locs hP hS => ?_)
  have hW : WT G S1 := by rw [eS1]; exact hW
  refine lv_aload_n hx hb dX12_times_5 rfl (lv_at hl 0 rfl) ?_
  refine lv_iload_n hx hb dX12_times_6 rfl (lv_at hl 1 rfl) ?_
  refine lv_iload_n hx hb dX12_times_7 rfl (lv_at hl 2 rfl) ?_
  refine lv_iload_n hx hb dX12_times_8 rfl (lv_at hl 3 rfl) ?_
  obtain ⟨r2, er2, hf⟩ := bd1_e hf
  refine x_aft_z (x_runV (As := [.int p0, .int p1, .int p2]) (rest := []) C hP hS (c_X12_areBits (l := l) C.2.2.2.2.2.2.2.2.2.1 hW h_a k_a er2 H.size) h_a k_a (by decide) rfl rfl km_X12_areBits ki_X12_areBits qm_X12_403 ⟨(Nat.le_of_ble_eq_true rfl), (Nat.le_of_ble_eq_true rfl)⟩ rfl hl.1 rfl (Nat.le_of_ble_eq_true rfl) ⟨Nat.zero_le _, Nat.zero_le _⟩ dX12_times_9) hS (fun H locs hP hS hW z3 => ?_)
  refine lv_if_eq (tgt := 45) hx hb dX12_times_12 (by decide) (fun c4 => ?_) (fun c4 => ?_)
  · have hf := if_t c4 hf
    refine lv_iconst (v := (-1)) hx hb dX12_times_45 rfl ?_
    cases hf
    exact x_reti C hP hS hW dX12_times_46
  · have hf := if_f c4 hf
    refine lv_iload hx hb dX12_times_15 (lv_at hl 4 rfl) ?_
    refine lv_iconst (v := 0) hx hb dX12_times_17 rfl ?_
    refine lv_iconst (v := 5) hx hb dX12_times_18 rfl ?_
    refine x_aft_z (x_runS (As := [.int p3, .int 0, .int 5]) (rest := []) C hP hS (c_X12_within (l := l) C.2.2.2.2.2.2.2.2.2.1 hW rfl H.size) km_X12_within ks_X12_within qm_X12_386 ⟨(Nat.le_of_ble_eq_true rfl), (Nat.le_of_ble_eq_true rfl)⟩ rfl hl.1 rfl (Nat.le_of_ble_eq_true rfl) ⟨Nat.zero_le _, Nat.zero_le _⟩ dX12_times_19) hS (fun H locs hP hS hW z5 => ?_)
    refine lv_if_eq (tgt := 45) hx hb dX12_times_22 (by decide) (fun c6 => ?_) (fun c6 => ?_)
    · have hf := if_t c6 hf
      refine lv_iconst (v := (-1)) hx hb dX12_times_45 rfl ?_
      cases hf
      exact x_reti C hP hS hW dX12_times_46
    · have hf := if_f c6 hf
      refine lv_aload_n hx hb dX12_times_25 rfl (lv_at hl 0 rfl) ?_
      refine lv_aload_n hx hb dX12_times_26 rfl (lv_at hl 0 rfl) ?_
      obtain ⟨r7, er7, hf⟩ := bd1_e hf
      refine x_aft_i (x_runV (As := []) (rest := [.ref a]) C hP hS (c_X12_used (l := l) C.2.2.2.2.2.2.2.2.2.1 hW h_a k_a er7 H.size) h_a k_a (by decide) rfl rfl km_X12_used ki_X12_used qm_X12_357 ⟨(Nat.le_of_ble_eq_true rfl), (Nat.le_of_ble_eq_true rfl)⟩ rfl hl.1 rfl (Nat.le_of_ble_eq_true rfl) ⟨Nat.zero_le _, Nat.zero_le _⟩ dX12_times_27) hS (fun H locs hP hS hW => ?_)
      refine lv_iload hx hb dX12_times_30 (lv_at hl 4 rfl) ?_
      refine lv_iload_n hx hb dX12_times_32 rfl (lv_at hl 1 rfl) ?_
      refine lv_iload_n hx hb dX12_times_33 rfl (lv_at hl 2 rfl) ?_
      refine x_aft_l (x_runS (As := [.int r7, .int p3, .int p0, .int p1]) (rest := [.ref a]) C hP hS (c_X12_keyOf (l := l) C.2.2.2.2.2.2.2.2.2.1 hW rfl H.size) km_X12_keyOf ks_X12_keyOf qm_X12_378 ⟨(Nat.le_of_ble_eq_true rfl), (Nat.le_of_ble_eq_true rfl)⟩ rfl hl.1 rfl (Nat.le_of_ble_eq_true rfl) ⟨Nat.zero_le _, Nat.zero_le _⟩ dX12_times_34) hS (fun H locs hP hS hW => ?_)
      refine lv_iload_n hx hb dX12_times_37 rfl (lv_at hl 3 rfl) ?_
      refine lv_i2l hx hb dX12_times_38 rfl ?_
      obtain ⟨r8, er8, hf⟩ := bd1_e hf
      refine x_aft_i (x_runV (As := [.long (s_X12_keyOf r7 p3 p0 p1 S1), .long p2.toInt64]) (rest := []) C hP hS (c_X12_timesOf (l := l) C.2.2.2.2.2.2.2.2.2.1 hW h_a k_a er8 H.size) h_a k_a (by decide) rfl rfl km_X12_timesOf ki_X12_timesOf qm_X12_457 ⟨(Nat.le_of_ble_eq_true rfl), (Nat.le_of_ble_eq_true rfl)⟩ rfl hl.1 rfl (Nat.le_of_ble_eq_true rfl) ⟨Nat.zero_le _, Nat.zero_le _⟩ dX12_times_39) hS (fun H locs hP hS hW => ?_)
      refine lv_goto (tgt := 46) hx hb dX12_times_42 (by decide) ?_
      cases hf
      exact x_reti C hP hS hW dX12_times_46
def s_X12_total_L18 (N : Nat → Nat) (F : Nat) : Nat → Nat → Int32 → Int32 → HS → Option (Int32 × HS)
  | 0, _, _, _, _ => none
  | n + 1, v0, v1, v2, S => bd1 (s_X12_regs N v0 S) fun r4 =>
  if r4 ≤ v2 then
  some (v1, S)
  else
  bd1 (s_X12_used N v0 S) fun r6 =>
  bd1 (s_X12_oneOf N v0 r6 S) fun r7 =>
  bd1 (gR S 1217 v0) fun t8 =>
  if inB (4 + v2) (N t8) = true then
  bd2 (s_X12_sumNow N F v0 r7 (aI S t8 (4 + v2).toNatClampNeg) v1 S) fun r10 S11 =>
  bnd (v2 + Int32.ofInt 1 : Int32) fun x12 =>
  s_X12_total_L18 N F n v0 r10 x12 S11
  else none
def s_X12_total (N : Nat → Nat) (F : Nat) (a : Nat) (S : HS) : Option (Int32 × HS) :=
  bnd (uI S 1200 a 0) fun S1 =>
  bd1 (s_X12_used N a S1) fun r2 =>
  if (0 : Int32) ≤ r2 then
  s_X12_total_L18 N F F a 0 0 S1
  else
  some ((-1), S1)
set_option maxRecDepth 100000 in
set_option maxHeartbeats 4000000 in
theorem b_X12_total_18 {p : Program} {l : Launch} {e : Env} {s : State} {m : MethodId} {args : Array Value} {below : List Frame} {meth : Method} {c : Code} {V : EV} {G : GS} {r : Int32} {S' : HS} {F : Nat} (C : CX p s m args meth c RX12 cX12_total 3 (some .int) V G) : ∀ n : Nat, ∀ (v0 : Nat) (v1 : Int32) (v2 : Int32) (h_v0 : v0 ∈ G.1) (k_v0 : G.2.1 v0 = 12) (S : HS) (H : Heap) (locs : List Loc) (ls : Array Slot), s_X12_total_L18 G.2.2 F n v0 v1 v2 S = some (r, S') → HP V G S H → va_S (AG G s.heap.size) s.heap H locs → WT G S → lv_has ls 3 [(0, .ref v0), (1, .int v1), (2, .int v2)] → W p l e (RM 21 706) s m args below meth c H locs 0 0 (MQ below (QI V G S' r s.heap.size) args s 0 0 (AG G s.heap.size)) (F0 m 18 ls []) := by
  intro n
  induction n with
  | zero =>
    intro v0 v1 v2 h_v0 k_v0 S H locs ls hf
    rw [s_X12_total_L18] at hf
    cases hf
  | succ n ih =>
    intro v0 v1 v2 h_v0 k_v0 S H locs ls hf hP hS hW hl
    have hx := C.1
    have hb := C.2.1
    rw [s_X12_total_L18] at hf
    refine lv_iload_n hx hb dX12_total_18 rfl (lv_at hl 2 rfl) ?_
    refine lv_aload_n hx hb dX12_total_19 rfl (lv_at hl 0 rfl) ?_
    obtain ⟨r4, er4, hf⟩ := bd1_e hf
    refine x_aft_i (x_runV (As := []) (rest := [.int v2]) C hP hS (c_X12_regs (l := l) C.2.2.2.2.2.2.2.2.2.1 hW h_v0 k_v0 er4 H.size) h_v0 k_v0 (by decide) rfl rfl km_X12_regs ki_X12_regs qm_X12_212 ⟨(Nat.le_of_ble_eq_true rfl), (Nat.le_of_ble_eq_true rfl)⟩ rfl hl.1 rfl (Nat.le_of_ble_eq_true rfl) ⟨Nat.zero_le _, Nat.zero_le _⟩ dX12_total_20) hS (fun H locs hP hS hW => ?_)
    refine lv_icmp_ge (tgt := 54) hx hb dX12_total_23 (by decide) (fun c5 => ?_) (fun c5 => ?_)
    · have hf := if_t c5 hf
      refine lv_iload_n hx hb dX12_total_54 rfl (lv_at hl 1 rfl) ?_
      cases hf
      exact x_reti C hP hS hW dX12_total_55
    · have hf := if_f c5 hf
      refine lv_aload_n hx hb dX12_total_26 rfl (lv_at hl 0 rfl) ?_
      refine lv_aload_n hx hb dX12_total_27 rfl (lv_at hl 0 rfl) ?_
      refine lv_aload_n hx hb dX12_total_28 rfl (lv_at hl 0 rfl) ?_
      obtain ⟨r6, er6, hf⟩ := bd1_e hf
      refine x_aft_i (x_runV (As := []) (rest := [.ref v0, .ref v0]) C hP hS (c_X12_used (l := l) C.2.2.2.2.2.2.2.2.2.1 hW h_v0 k_v0 er6 H.size) h_v0 k_v0 (by decide) rfl rfl km_X12_used ki_X12_used qm_X12_357 ⟨(Nat.le_of_ble_eq_true rfl), (Nat.le_of_ble_eq_true rfl)⟩ rfl hl.1 rfl (Nat.le_of_ble_eq_true rfl) ⟨Nat.zero_le _, Nat.zero_le _⟩ dX12_total_29) hS (fun H locs hP hS hW => ?_)
      obtain ⟨r7, er7, hf⟩ := bd1_e hf
      refine x_aft_i (x_runV (As := [.int r6]) (rest := [.ref v0]) C hP hS (c_X12_oneOf (l := l) C.2.2.2.2.2.2.2.2.2.1 hW h_v0 k_v0 er7 H.size) h_v0 k_v0 (by decide) rfl rfl km_X12_oneOf ki_X12_oneOf qm_X12_418 ⟨(Nat.le_of_ble_eq_true rfl), (Nat.le_of_ble_eq_true rfl)⟩ rfl hl.1 rfl (Nat.le_of_ble_eq_true rfl) ⟨Nat.zero_le _, Nat.zero_le _⟩ dX12_total_32) hS (fun H locs hP hS hW => ?_)
      refine lv_aload_n hx hb dX12_total_35 rfl (lv_at hl 0 rfl) ?_
      refine gf_X12_95 C hP h_v0 k_v0 dX12_total_36 ?_
      obtain ⟨t8, et8, hf⟩ := bd1_e hf
      obtain ⟨h_t8, k_t8⟩ := wt_r hW h_v0 k_v0 (by decide) et8
      have k_t8 : G.2.1 t8 = 14 := k_t8
      rw [et8]
      refine lv_iconst (v := 4) hx hb dX12_total_39 rfl ?_
      refine lv_iload_n hx hb dX12_total_40 rfl (lv_at hl 2 rfl) ?_
      refine lv_iadd hx hb dX12_total_41 ?_
      obtain ⟨h9, hf⟩ := if_s hf
      refine x_iald C hP h_t8 k_t8 h9 dX12_total_42 ?_
      refine lv_iload_n hx hb dX12_total_43 rfl (lv_at hl 1 rfl) ?_
      obtain ⟨r10, S11, eS11, hf⟩ := bd2_e hf
      refine x_aft_i (x_runV (As := [.int r7, .int (aI S t8 (4 + v2).toNatClampNeg), .int v1]) (rest := []) C hP hS (c_X12_sumNow (l := l) C.2.2.2.2.2.2.2.2.2.1 hW h_v0 k_v0 eS11 H.size) h_v0 k_v0 (by decide) rfl rfl km_X12_sumNow ki_X12_sumNow qm_X12_415 ⟨(Nat.le_of_ble_eq_true rfl), (Nat.le_of_ble_eq_true rfl)⟩ rfl hl.1 rfl (Nat.le_of_ble_eq_true rfl) ⟨Nat.zero_le _, Nat.zero_le _⟩ dX12_total_44) hS (fun H locs hP hS hW => ?_)
      refine lv_istore_n (lv' := [(1, .int r10), (0, .ref v0), (2, .int v2)]) hx hb dX12_total_47 rfl hl (by decide) rfl (fun ls hl => ?_)
      obtain ⟨x12, ex12, hf⟩ := bnd_e hf
      refine lv_iinc (v := x12) (lv' := [(2, .int x12), (1, .int r10), (0, .ref v0)]) hx hb dX12_total_48 hl (k := 2) rfl ex12.symm (by decide) rfl (fun ls hl => ?_)
      refine lv_goto (tgt := 18) hx hb dX12_total_51 (by decide) ?_
      exact ih v0 r10 x12 h_v0 k_v0 S11 H locs _ hf hP hS hW (lv_sub hl [2, 1, 0] rfl)
set_option maxRecDepth 100000 in
set_option maxHeartbeats 4000000 in
theorem c_X12_total {l : Launch} {V : EV} {G : GS} {S : HS} {F : Nat} {a : Nat} {r : Int32} {S' : HS} (hN : G.1.Nodup) (hW : WT G S) (h_a : a ∈ G.1) (k_a : G.2.1 a = 12) (hf : s_X12_total G.2.2 F a S = some (r, S')) : MetI l yX12_total cX12_total 3 .int 21 706 V G S [.ref a] r S' := by
  intro sz
  refine x_in RX12 rfl (by decide +kernel) hN (Nat.le_of_ble_eq_true rfl) (fun p e s m args below meth c ls hsz hargs hnm C hP hS hl => ?_)
  subst hsz
  have hx := C.1
  have hb := C.2.1
  have hl : lv_has ls 3 [(0, .ref a)] := hl
  unfold s_X12_total at hf
  refine lv_aload_n hx hb dX12_total_0 rfl (lv_at hl 0 rfl) ?_
  refine lv_iconst (v := 0) hx hb dX12_total_1 rfl ?_
  obtain ⟨S1, eS1, hf⟩ := bnd_e hf
  refine pf_X12_1 C hP hS h_a k_a eS1 dX12_total_2 (fun H locs hP hS => ?_)
  have hW : WT G S1 := by rw [eS1]; exact hW
  refine lv_aload_n hx hb dX12_total_5 rfl (lv_at hl 0 rfl) ?_
  obtain ⟨r2, er2, hf⟩ := bd1_e hf
  refine x_aft_i (x_runV (As := []) (rest := []) C hP hS (c_X12_used (l := l) C.2.2.2.2.2.2.2.2.2.1 hW h_a k_a er2 H.size) h_a k_a (by decide) rfl rfl km_X12_used ki_X12_used qm_X12_357 ⟨(Nat.le_of_ble_eq_true rfl), (Nat.le_of_ble_eq_true rfl)⟩ rfl hl.1 rfl (Nat.le_of_ble_eq_true rfl) ⟨Nat.zero_le _, Nat.zero_le _⟩ dX12_total_6) hS (fun H locs hP hS hW => ?_)
  refine lv_if_ge (tgt := 14) hx hb dX12_total_9 (by decide) (fun c3 => ?_) (fun c3 => ?_)
  · have hf := if_t c3 hf
    refine lv_iconst (v := 0) hx hb dX12_total_14 rfl ?_
    refine lv_istore_n (lv' := [(1, .int 0), (0, .ref a)]) hx hb dX12_total_15 rfl hl (by decide) rfl (fun ls hl => ?_)
    refine lv_iconst (v := 0) hx hb dX12_total_16 rfl ?_
    refine lv_istore_n (lv' := [(2, .int 0), (1, .int 0), (0, .ref a)]) hx hb dX12_total_17 rfl hl (by decide) rfl (fun ls hl => ?_)
    exact b_X12_total_18 C F a 0 0 h_a k_a S1 H locs _ hf hP hS hW (lv_sub hl [2, 1, 0] rfl)
  · have hf := if_f c3 hf
    refine lv_iconst (v := (-1)) hx hb dX12_total_12 rfl ?_
    cases hf
    exact x_reti C hP hS hW dX12_total_13
def s_X12_twice (N : Nat → Nat) (F : Nat) (a : Nat) (p0 : Int32) (p1 : Int32) (p2 : Int32) (S : HS) : Option (Int32 × HS) :=
  bnd (uI S 1200 a 0) fun S1 =>
  bd1 (s_X12_areBits N a p0 p1 p2 S1) fun r2 =>
  if r2 = (0 : Int32) then
  some (0, S1)
  else
  bd1 (s_X12_used N a S1) fun r5 =>
  bd1 (s_X12_oneOf N a r5 S1) fun r6 =>
  bd2 (s_X12_sumNow N F a p0 p1 0 S1) fun r7 S8 =>
  bd2 (s_X12_sumNow N F a r6 r7 p2 S8) fun r9 S10 =>
  bd2 (s_X12_sumNow N F a p0 p1 p2 S10) fun r11 S12 =>
  if r9 = r11 then
  some (0, S12)
  else
  some (1, S12)
set_option maxRecDepth 100000 in
set_option maxHeartbeats 4000000 in
theorem c_X12_twice {l : Launch} {V : EV} {G : GS} {S : HS} {F : Nat} {a : Nat} {p0 : Int32} {p1 : Int32} {p2 : Int32} {r : Int32} {S' : HS} (hN : G.1.Nodup) (hW : WT G S) (h_a : a ∈ G.1) (k_a : G.2.1 a = 12) (hf : s_X12_twice G.2.2 F a p0 p1 p2 S = some (r, S')) : MetZ l yX12_twice cX12_twice 4 21 706 V G S [.ref a, .int p0, .int p1, .int p2] r S' := by
  intro sz
  refine x_in RX12 rfl (by decide +kernel) hN (Nat.le_of_ble_eq_true rfl) (fun p e s m args below meth c ls hsz hargs hnm C hP hS hl => ?_)
  subst hsz
  have hx := C.1
  have hb := C.2.1
  have hl : lv_has ls 4 [(0, .ref a), (1, .int p0), (2, .int p1), (3, .int p2)] := hl
  unfold s_X12_twice at hf
  refine lv_aload_n hx hb dX12_twice_0 rfl (lv_at hl 0 rfl) ?_
  refine lv_iconst (v := 0) hx hb dX12_twice_1 rfl ?_
  obtain ⟨S1, eS1, hf⟩ := bnd_e hf
  refine pf_X12_1 C hP hS h_a k_a eS1 dX12_twice_2 (fun H locs hP hS => ?_)
  have hW : WT G S1 := by rw [eS1]; exact hW
  refine lv_aload_n hx hb dX12_twice_5 rfl (lv_at hl 0 rfl) ?_
  refine lv_iload_n hx hb dX12_twice_6 rfl (lv_at hl 1 rfl) ?_
  refine lv_iload_n hx hb dX12_twice_7 rfl (lv_at hl 2 rfl) ?_
  refine lv_iload_n hx hb dX12_twice_8 rfl (lv_at hl 3 rfl) ?_
  obtain ⟨r2, er2, hf⟩ := bd1_e hf
  refine x_aft_z (x_runV (As := [.int p0, .int p1, .int p2]) (rest := []) C hP hS (c_X12_areBits (l := l) C.2.2.2.2.2.2.2.2.2.1 hW h_a k_a er2 H.size) h_a k_a (by decide) rfl rfl km_X12_areBits ki_X12_areBits qm_X12_403 ⟨(Nat.le_of_ble_eq_true rfl), (Nat.le_of_ble_eq_true rfl)⟩ rfl hl.1 rfl (Nat.le_of_ble_eq_true rfl) ⟨Nat.zero_le _, Nat.zero_le _⟩ dX12_twice_9) hS (fun H locs hP hS hW z3 => ?_)
  refine lv_if_eq (tgt := 49) hx hb dX12_twice_12 (by decide) (fun c4 => ?_) (fun c4 => ?_)
  · have hf := if_t c4 hf
    refine lv_iconst (v := 0) hx hb dX12_twice_49 rfl ?_
    cases hf
    exact x_retZ C hP hS hW isZ_0 dX12_twice_50
  · have hf := if_f c4 hf
    refine lv_aload_n hx hb dX12_twice_15 rfl (lv_at hl 0 rfl) ?_
    refine lv_aload_n hx hb dX12_twice_16 rfl (lv_at hl 0 rfl) ?_
    refine lv_aload_n hx hb dX12_twice_17 rfl (lv_at hl 0 rfl) ?_
    obtain ⟨r5, er5, hf⟩ := bd1_e hf
    refine x_aft_i (x_runV (As := []) (rest := [.ref a, .ref a]) C hP hS (c_X12_used (l := l) C.2.2.2.2.2.2.2.2.2.1 hW h_a k_a er5 H.size) h_a k_a (by decide) rfl rfl km_X12_used ki_X12_used qm_X12_357 ⟨(Nat.le_of_ble_eq_true rfl), (Nat.le_of_ble_eq_true rfl)⟩ rfl hl.1 rfl (Nat.le_of_ble_eq_true rfl) ⟨Nat.zero_le _, Nat.zero_le _⟩ dX12_twice_18) hS (fun H locs hP hS hW => ?_)
    obtain ⟨r6, er6, hf⟩ := bd1_e hf
    refine x_aft_i (x_runV (As := [.int r5]) (rest := [.ref a]) C hP hS (c_X12_oneOf (l := l) C.2.2.2.2.2.2.2.2.2.1 hW h_a k_a er6 H.size) h_a k_a (by decide) rfl rfl km_X12_oneOf ki_X12_oneOf qm_X12_418 ⟨(Nat.le_of_ble_eq_true rfl), (Nat.le_of_ble_eq_true rfl)⟩ rfl hl.1 rfl (Nat.le_of_ble_eq_true rfl) ⟨Nat.zero_le _, Nat.zero_le _⟩ dX12_twice_21) hS (fun H locs hP hS hW => ?_)
    refine lv_aload_n hx hb dX12_twice_24 rfl (lv_at hl 0 rfl) ?_
    refine lv_iload_n hx hb dX12_twice_25 rfl (lv_at hl 1 rfl) ?_
    refine lv_iload_n hx hb dX12_twice_26 rfl (lv_at hl 2 rfl) ?_
    refine lv_iconst (v := 0) hx hb dX12_twice_27 rfl ?_
    obtain ⟨r7, S8, eS8, hf⟩ := bd2_e hf
    refine x_aft_i (x_runV (As := [.int p0, .int p1, .int 0]) (rest := [.int r6, .ref a]) C hP hS (c_X12_sumNow (l := l) C.2.2.2.2.2.2.2.2.2.1 hW h_a k_a eS8 H.size) h_a k_a (by decide) rfl rfl km_X12_sumNow ki_X12_sumNow qm_X12_415 ⟨(Nat.le_of_ble_eq_true rfl), (Nat.le_of_ble_eq_true rfl)⟩ rfl hl.1 rfl (Nat.le_of_ble_eq_true rfl) ⟨Nat.zero_le _, Nat.zero_le _⟩ dX12_twice_28) hS (fun H locs hP hS hW => ?_)
    refine lv_iload_n hx hb dX12_twice_31 rfl (lv_at hl 3 rfl) ?_
    obtain ⟨r9, S10, eS10, hf⟩ := bd2_e hf
    refine x_aft_i (x_runV (As := [.int r6, .int r7, .int p2]) (rest := []) C hP hS (c_X12_sumNow (l := l) C.2.2.2.2.2.2.2.2.2.1 hW h_a k_a eS10 H.size) h_a k_a (by decide) rfl rfl km_X12_sumNow ki_X12_sumNow qm_X12_415 ⟨(Nat.le_of_ble_eq_true rfl), (Nat.le_of_ble_eq_true rfl)⟩ rfl hl.1 rfl (Nat.le_of_ble_eq_true rfl) ⟨Nat.zero_le _, Nat.zero_le _⟩ dX12_twice_32) hS (fun H locs hP hS hW => ?_)
    refine lv_aload_n hx hb dX12_twice_35 rfl (lv_at hl 0 rfl) ?_
    refine lv_iload_n hx hb dX12_twice_36 rfl (lv_at hl 1 rfl) ?_
    refine lv_iload_n hx hb dX12_twice_37 rfl (lv_at hl 2 rfl) ?_
    refine lv_iload_n hx hb dX12_twice_38 rfl (lv_at hl 3 rfl) ?_
    obtain ⟨r11, S12, eS12, hf⟩ := bd2_e hf
    refine x_aft_i (x_runV (As := [.int p0, .int p1, .int p2]) (rest := [.int r9]) C hP hS (c_X12_sumNow (l := l) C.2.2.2.2.2.2.2.2.2.1 hW h_a k_a eS12 H.size) h_a k_a (by decide) rfl rfl km_X12_sumNow ki_X12_sumNow qm_X12_415 ⟨(Nat.le_of_ble_eq_true rfl), (Nat.le_of_ble_eq_true rfl)⟩ rfl hl.1 rfl (Nat.le_of_ble_eq_true rfl) ⟨Nat.zero_le _, Nat.zero_le _⟩ dX12_twice_39) hS (fun H locs hP hS hW => ?_)
    refine lv_icmp_eq (tgt := 49) hx hb dX12_twice_42 (by decide) (fun c13 => ?_) (fun c13 => ?_)
    · have hf := if_t c13 hf
      refine lv_iconst (v := 0) hx hb dX12_twice_49 rfl ?_
      cases hf
      exact x_retZ C hP hS hW isZ_0 dX12_twice_50
    · have hf := if_f c13 hf
      refine lv_iconst (v := 1) hx hb dX12_twice_45 rfl ?_
      refine lv_goto (tgt := 50) hx hb dX12_twice_46 (by decide) ?_
      cases hf
      exact x_retZ C hP hS hW isZ_1 dX12_twice_50
def s_X12_undo (N : Nat → Nat) (F : Nat) (a : Nat) (S : HS) : Option (Int32 × HS) :=
  bnd (uI S 1200 a 0) fun S1 =>
  if (gI S1 1218 a) = (0 : Int32) then
  some (0, S1)
  else
  bnd (uI S1 1218 a ((gI S1 1218 a) - 1)) fun S3 =>
  bd1 (s_X12_moves N F a (28 * (5 + (gI S3 1218 a))) 0 10 S3) fun S4 =>
  bd1 (gR S4 1217 a) fun t5 =>
  if inB (10 : Int32) (N t5) = true then
  bnd (wI S4 t5 ((10 : Int32).toNatClampNeg) 0) fun S7 =>
  some (1, S7)
  else none
set_option maxRecDepth 100000 in
set_option maxHeartbeats 4000000 in
theorem c_X12_undo {l : Launch} {V : EV} {G : GS} {S : HS} {F : Nat} {a : Nat} {r : Int32} {S' : HS} (hN : G.1.Nodup) (hW : WT G S) (h_a : a ∈ G.1) (k_a : G.2.1 a = 12) (hf : s_X12_undo G.2.2 F a S = some (r, S')) : MetZ l yX12_undo cX12_undo 1 1 32 V G S [.ref a] r S' := by
  intro sz
  refine x_in RX12 rfl (by decide +kernel) hN (Nat.le_of_ble_eq_true rfl) (fun p e s m args below meth c ls hsz hargs hnm C hP hS hl => ?_)
  subst hsz
  have hx := C.1
  have hb := C.2.1
  have hl : lv_has ls 1 [(0, .ref a)] := hl
  unfold s_X12_undo at hf
  refine lv_aload_n hx hb dX12_undo_0 rfl (lv_at hl 0 rfl) ?_
  refine lv_iconst (v := 0) hx hb dX12_undo_1 rfl ?_
  obtain ⟨S1, eS1, hf⟩ := bnd_e hf
  refine pf_X12_1 C hP hS h_a k_a eS1 dX12_undo_2 (fun H locs hP hS => ?_)
  have hW : WT G S1 := by rw [eS1]; exact hW
  refine lv_aload_n hx hb dX12_undo_5 rfl (lv_at hl 0 rfl) ?_
  refine gf_X12_240 C hP h_a k_a dX12_undo_6 ?_
  refine lv_if_ne (tgt := 14) hx hb dX12_undo_9 (by decide) (fun c2 => ?_) (fun c2 => ?_)
  · have hf := if_f c2 hf
    refine lv_aload_n hx hb dX12_undo_14 rfl (lv_at hl 0 rfl) ?_
    refine lv_dup hx hb dX12_undo_15 rfl ?_
    refine gf_X12_240 C hP h_a k_a dX12_undo_16 ?_
    refine lv_iconst (v := 1) hx hb dX12_undo_19 rfl ?_
    refine lv_isub hx hb dX12_undo_20 ?_
    obtain ⟨S3, eS3, hf⟩ := bnd_e hf
    refine pf_X12_240 C hP hS h_a k_a eS3 dX12_undo_21 (fun H locs hP hS => ?_)
    have hW : WT G S3 := by rw [eS3]; exact hW
    refine lv_aload_n hx hb dX12_undo_24 rfl (lv_at hl 0 rfl) ?_
    refine lv_bipush (v := 28) hx hb dX12_undo_25 kc_bipush_28 ?_
    refine lv_iconst (v := 5) hx hb dX12_undo_27 rfl ?_
    refine lv_aload_n hx hb dX12_undo_28 rfl (lv_at hl 0 rfl) ?_
    refine gf_X12_240 C hP h_a k_a dX12_undo_29 ?_
    refine lv_iadd hx hb dX12_undo_32 ?_
    refine lv_imul hx hb dX12_undo_33 ?_
    refine lv_iconst (v := 0) hx hb dX12_undo_34 rfl ?_
    refine lv_bipush (v := 10) hx hb dX12_undo_35 kc_bipush_10 ?_
    obtain ⟨S4, eS4, hf⟩ := bd1_e hf
    refine x_aft_v (x_runV (As := [.int (28 * (5 + (gI S3 1218 a))), .int 0, .int 10]) (rest := []) C hP hS (c_X12_moves (l := l) C.2.2.2.2.2.2.2.2.2.1 hW h_a k_a eS4 H.size) h_a k_a (by decide) rfl rfl km_X12_moves ki_X12_moves qm_X12_243 ⟨(Nat.le_of_ble_eq_true rfl), (Nat.le_of_ble_eq_true rfl)⟩ rfl hl.1 rfl (Nat.le_of_ble_eq_true rfl) ⟨Nat.zero_le _, Nat.zero_le _⟩ dX12_undo_37) hS (fun H locs hP hS hW => ?_)
    refine lv_aload_n hx hb dX12_undo_40 rfl (lv_at hl 0 rfl) ?_
    refine gf_X12_95 C hP h_a k_a dX12_undo_41 ?_
    obtain ⟨t5, et5, hf⟩ := bd1_e hf
    obtain ⟨h_t5, k_t5⟩ := wt_r hW h_a k_a (by decide) et5
    have k_t5 : G.2.1 t5 = 14 := k_t5
    rw [et5]
    refine lv_bipush (v := 10) hx hb dX12_undo_44 kc_bipush_10 ?_
    refine lv_iconst (v := 0) hx hb dX12_undo_46 rfl ?_
    obtain ⟨h6, hf⟩ := if_s hf
    obtain ⟨S7, eS7, hf⟩ := bnd_e hf
    refine x_iast C hP hS h_t5 k_t5 h6 eS7 dX12_undo_47 (fun H locs hP hS => ?_)
    have hW : WT G S7 := by rw [eS7]; exact hW
    refine lv_iconst (v := 1) hx hb dX12_undo_48 rfl ?_
    cases hf
    exact x_retZ C hP hS hW isZ_1 dX12_undo_49
  · have hf := if_t c2 hf
    refine lv_iconst (v := 0) hx hb dX12_undo_12 rfl ?_
    cases hf
    exact x_retZ C hP hS hW isZ_0 dX12_undo_13
def s_X12_unit_L20 (N : Nat → Nat) (F : Nat) (k52 : Nat → HS → Option (Int32 × HS)) : Nat → Nat → HS → Option (Int32 × HS)
  | 0, _, _ => none
  | n + 1, v0, S => if (gI S 1208 v0) = (0 : Int32) then
  bd1 (gR S 1204 v0) fun t6 =>
  if inB (gI S 1207 v0) (N t6) = true then
  if (aI S t6 (gI S 1207 v0).toNatClampNeg) = (0 : Int32) then
  k52 v0 S
  else
  bd1 (s_X12_readLine N F v0 S) fun S9 =>
  bd1 (s_X12_takeSign N v0 59 S9) fun S10 =>
  s_X12_unit_L20 N F k52 n v0 S10
  else none
  else
  k52 v0 S
def s_X12_unit_L66 (N : Nat → Nat) (F : Nat) (k93 : Nat → HS → Option (Int32 × HS)) : Nat → Nat → Int32 → HS → Option (Int32 × HS)
  | 0, _, _, _ => none
  | n + 1, v0, v1, S => if (15 : Int32) ≤ v1 then
  k93 v0 S
  else
  bd1 (gR S 1210 v0) fun t13 =>
  bd1 (gR S 1210 v0) fun t14 =>
  if inB (15 + v1) (N t14) = true then
  if inB v1 (N t13) = true then
  bnd (wI S t13 (v1.toNatClampNeg) (aI S t14 (15 + v1).toNatClampNeg)) fun S17 =>
  bnd (v1 + Int32.ofInt 1 : Int32) fun x18 =>
  s_X12_unit_L66 N F k93 n v0 x18 S17
  else none
  else none
def s_X12_unit_L95 (N : Nat → Nat) (F : Nat) (k125 : Nat → HS → Option (Int32 × HS)) : Nat → Nat → Int32 → HS → Option (Int32 × HS)
  | 0, _, _, _ => none
  | n + 1, v0, v1, S => if (gI S 1212 v0) ≤ v1 then
  k125 v0 S
  else
  bd1 (gR S 1211 v0) fun t20 =>
  bd1 (gR S 1211 v0) fun t21 =>
  if inB (1100 + v1) (N t21) = true then
  if inB v1 (N t20) = true then
  bnd (wI S t20 (v1.toNatClampNeg) (aI S t21 (1100 + v1).toNatClampNeg)) fun S24 =>
  bnd (v1 + Int32.ofInt 1 : Int32) fun x25 =>
  s_X12_unit_L95 N F k125 n v0 x25 S24
  else none
  else none
def s_X12_unit_L127 (N : Nat → Nat) (F : Nat) (k154 : Nat → HS → Option (Int32 × HS)) : Nat → Nat → Int32 → HS → Option (Int32 × HS)
  | 0, _, _, _ => none
  | n + 1, v0, v1, S => if (10 : Int32) ≤ v1 then
  k154 v0 S
  else
  bd1 (gR S 1213 v0) fun t27 =>
  bd1 (gR S 1213 v0) fun t28 =>
  if inB (10 + v1) (N t28) = true then
  if inB v1 (N t27) = true then
  bnd (wJ S t27 (v1.toNatClampNeg) (aJ S t28 (10 + v1).toNatClampNeg)) fun S31 =>
  bnd (v1 + Int32.ofInt 1 : Int32) fun x32 =>
  s_X12_unit_L127 N F k154 n v0 x32 S31
  else none
  else none
def s_X12_unit_J154 (N : Nat → Nat) (F : Nat) (v0 : Nat) (S : HS) : Option (Int32 × HS) :=
  bd1 (s_X12_begins N F v0 S) fun S33 =>
  some (0, S33)
def s_X12_unit_J125 (N : Nat → Nat) (F : Nat) (v0 : Nat) (S : HS) : Option (Int32 × HS) :=
  s_X12_unit_L127 N F (s_X12_unit_J154 N F) F v0 0 S
def s_X12_unit_J93 (N : Nat → Nat) (F : Nat) (v0 : Nat) (S : HS) : Option (Int32 × HS) :=
  s_X12_unit_L95 N F (s_X12_unit_J125 N F) F v0 0 S
def s_X12_unit_J52 (N : Nat → Nat) (F : Nat) (v0 : Nat) (S : HS) : Option (Int32 × HS) :=
  if (gI S 1208 v0) ≤ (0 : Int32) then
  s_X12_unit_L66 N F (s_X12_unit_J93 N F) F v0 0 S
  else
  some (gI S 1208 v0, S)
def s_X12_unit (N : Nat → Nat) (F : Nat) (a : Nat) (S : HS) : Option (Int32 × HS) :=
  bnd (uI S 1200 a 0) fun S1 =>
  bd1 (s_X12_cutAll N F a S1) fun S2 =>
  bnd (uI S2 1212 a 0) fun S3 =>
  bd1 (s_X12_standsAsAlways N F a 15 S3) fun S4 =>
  s_X12_unit_L20 N F (s_X12_unit_J52 N F) F a S4
set_option maxRecDepth 100000 in
set_option maxHeartbeats 4000000 in
theorem b_X12_unit_20 {p : Program} {l : Launch} {e : Env} {s : State} {m : MethodId} {args : Array Value} {below : List Frame} {meth : Method} {c : Code} {V : EV} {G : GS} {r : Int32} {S' : HS} {F : Nat} (C : CX p s m args meth c RX12 cX12_unit 2 (some .int) V G) {k52 : Nat → HS → Option (Int32 × HS)} (hk52 : ∀ (v0 : Nat) (h_v0 : v0 ∈ G.1) (k_v0 : G.2.1 v0 = 12) (S : HS) (H : Heap) (locs : List Loc) (ls : Array Slot), k52 v0 S = some (r, S') → HP V G S H → va_S (AG G s.heap.size) s.heap H locs → WT G S → lv_has ls 2 [(0, .ref v0)] → W p l e (RM 79 2347) s m args below meth c H locs 0 0 (MQ below (QI V G S' r s.heap.size) args s 0 0 (AG G s.heap.size)) (F0 m 52 ls [])) : ∀ n : Nat, ∀ (v0 : Nat) (h_v0 : v0 ∈ G.1) (k_v0 : G.2.1 v0 = 12) (S : HS) (H : Heap) (locs : List Loc) (ls : Array Slot), s_X12_unit_L20 G.2.2 F k52 n v0 S = some (r, S') → HP V G S H → va_S (AG G s.heap.size) s.heap H locs → WT G S → lv_has ls 2 [(0, .ref v0)] → W p l e (RM 79 2347) s m args below meth c H locs 0 0 (MQ below (QI V G S' r s.heap.size) args s 0 0 (AG G s.heap.size)) (F0 m 20 ls []) := by
  intro n
  induction n with
  | zero =>
    intro v0 h_v0 k_v0 S H locs ls hf
    rw [s_X12_unit_L20] at hf
    cases hf
  | succ n ih =>
    intro v0 h_v0 k_v0 S H locs ls hf hP hS hW hl
    have hx := C.1
    have hb := C.2.1
    rw [s_X12_unit_L20] at hf
    refine lv_aload_n hx hb dX12_unit_20 rfl (lv_at hl 0 rfl) ?_
    refine gf_X12_144 C hP h_v0 k_v0 dX12_unit_21 ?_
    refine lv_if_ne (tgt := 52) hx hb dX12_unit_24 (by decide) (fun c5 => ?_) (fun c5 => ?_)
    · have hf := if_f c5 hf
      exact hk52 v0 h_v0 k_v0 S H locs _ hf hP hS hW (lv_sub hl [0] rfl)
    · have hf := if_t c5 hf
      refine lv_aload_n hx hb dX12_unit_27 rfl (lv_at hl 0 rfl) ?_
      refine gf_X12_24 C hP h_v0 k_v0 dX12_unit_28 ?_
      obtain ⟨t6, et6, hf⟩ := bd1_e hf
      obtain ⟨h_t6, k_t6⟩ := wt_r hW h_v0 k_v0 (by decide) et6
      have k_t6 : G.2.1 t6 = 14 := k_t6
      rw [et6]
      refine lv_aload_n hx hb dX12_unit_31 rfl (lv_at hl 0 rfl) ?_
      refine gf_X12_141 C hP h_v0 k_v0 dX12_unit_32 ?_
      obtain ⟨h7, hf⟩ := if_s hf
      refine x_iald C hP h_t6 k_t6 h7 dX12_unit_35 ?_
      refine lv_if_eq (tgt := 52) hx hb dX12_unit_36 (by decide) (fun c8 => ?_) (fun c8 => ?_)
      · have hf := if_t c8 hf
        exact hk52 v0 h_v0 k_v0 S H locs _ hf hP hS hW (lv_sub hl [0] rfl)
      · have hf := if_f c8 hf
        refine lv_aload_n hx hb dX12_unit_39 rfl (lv_at hl 0 rfl) ?_
        obtain ⟨S9, eS9, hf⟩ := bd1_e hf
        refine x_aft_v (x_runV (As := []) (rest := []) C hP hS (c_X12_readLine (l := l) C.2.2.2.2.2.2.2.2.2.1 hW h_v0 k_v0 eS9 H.size) h_v0 k_v0 (by decide) rfl rfl km_X12_readLine ki_X12_readLine qm_X12_182 ⟨(Nat.le_of_ble_eq_true rfl), (Nat.le_of_ble_eq_true rfl)⟩ rfl hl.1 rfl (Nat.le_of_ble_eq_true rfl) ⟨Nat.zero_le _, Nat.zero_le _⟩ dX12_unit_40) hS (fun H locs hP hS hW => ?_)
        refine lv_aload_n hx hb dX12_unit_43 rfl (lv_at hl 0 rfl) ?_
        refine lv_bipush (v := 59) hx hb dX12_unit_44 kc_bipush_59 ?_
        obtain ⟨S10, eS10, hf⟩ := bd1_e hf
        refine x_aft_v (x_runV (As := [.int 59]) (rest := []) C hP hS (c_X12_takeSign (l := l) C.2.2.2.2.2.2.2.2.2.1 hW h_v0 k_v0 eS10 H.size) h_v0 k_v0 (by decide) rfl rfl km_X12_takeSign ki_X12_takeSign qm_X12_185 ⟨(Nat.le_of_ble_eq_true rfl), (Nat.le_of_ble_eq_true rfl)⟩ rfl hl.1 rfl (Nat.le_of_ble_eq_true rfl) ⟨Nat.zero_le _, Nat.zero_le _⟩ dX12_unit_46) hS (fun H locs hP hS hW => ?_)
        refine lv_goto (tgt := 20) hx hb dX12_unit_49 (by decide) ?_
        exact ih v0 h_v0 k_v0 S10 H locs _ hf hP hS hW (lv_sub hl [0] rfl)
set_option maxRecDepth 100000 in
set_option maxHeartbeats 4000000 in
theorem b_X12_unit_66 {p : Program} {l : Launch} {e : Env} {s : State} {m : MethodId} {args : Array Value} {below : List Frame} {meth : Method} {c : Code} {V : EV} {G : GS} {r : Int32} {S' : HS} {F : Nat} (C : CX p s m args meth c RX12 cX12_unit 2 (some .int) V G) {k93 : Nat → HS → Option (Int32 × HS)} (hk93 : ∀ (v0 : Nat) (h_v0 : v0 ∈ G.1) (k_v0 : G.2.1 v0 = 12) (S : HS) (H : Heap) (locs : List Loc) (ls : Array Slot), k93 v0 S = some (r, S') → HP V G S H → va_S (AG G s.heap.size) s.heap H locs → WT G S → lv_has ls 2 [(0, .ref v0)] → W p l e (RM 79 2347) s m args below meth c H locs 0 0 (MQ below (QI V G S' r s.heap.size) args s 0 0 (AG G s.heap.size)) (F0 m 93 ls [])) : ∀ n : Nat, ∀ (v0 : Nat) (v1 : Int32) (h_v0 : v0 ∈ G.1) (k_v0 : G.2.1 v0 = 12) (S : HS) (H : Heap) (locs : List Loc) (ls : Array Slot), s_X12_unit_L66 G.2.2 F k93 n v0 v1 S = some (r, S') → HP V G S H → va_S (AG G s.heap.size) s.heap H locs → WT G S → lv_has ls 2 [(0, .ref v0), (1, .int v1)] → W p l e (RM 79 2347) s m args below meth c H locs 0 0 (MQ below (QI V G S' r s.heap.size) args s 0 0 (AG G s.heap.size)) (F0 m 66 ls []) := by
  intro n
  induction n with
  | zero =>
    intro v0 v1 h_v0 k_v0 S H locs ls hf
    rw [s_X12_unit_L66] at hf
    cases hf
  | succ n ih =>
    intro v0 v1 h_v0 k_v0 S H locs ls hf hP hS hW hl
    have hx := C.1
    have hb := C.2.1
    rw [s_X12_unit_L66] at hf
    refine lv_iload_n hx hb dX12_unit_66 rfl (lv_at hl 1 rfl) ?_
    refine lv_bipush (v := 15) hx hb dX12_unit_67 kc_bipush_15 ?_
    refine lv_icmp_ge (tgt := 93) hx hb dX12_unit_69 (by decide) (fun c12 => ?_) (fun c12 => ?_)
    · have hf := if_t c12 hf
      exact hk93 v0 h_v0 k_v0 S H locs _ hf hP hS hW (lv_sub hl [0] rfl)
    · have hf := if_f c12 hf
      refine lv_aload_n hx hb dX12_unit_72 rfl (lv_at hl 0 rfl) ?_
      refine gf_X12_77 C hP h_v0 k_v0 dX12_unit_73 ?_
      obtain ⟨t13, et13, hf⟩ := bd1_e hf
      obtain ⟨h_t13, k_t13⟩ := wt_r hW h_v0 k_v0 (by decide) et13
      have k_t13 : G.2.1 t13 = 14 := k_t13
      rw [et13]
      refine lv_iload_n hx hb dX12_unit_76 rfl (lv_at hl 1 rfl) ?_
      refine lv_aload_n hx hb dX12_unit_77 rfl (lv_at hl 0 rfl) ?_
      refine gf_X12_77 C hP h_v0 k_v0 dX12_unit_78 ?_
      obtain ⟨t14, et14, hf⟩ := bd1_e hf
      obtain ⟨h_t14, k_t14⟩ := wt_r hW h_v0 k_v0 (by decide) et14
      have k_t14 : G.2.1 t14 = 14 := k_t14
      rw [et14]
      refine lv_bipush (v := 15) hx hb dX12_unit_81 kc_bipush_15 ?_
      refine lv_iload_n hx hb dX12_unit_83 rfl (lv_at hl 1 rfl) ?_
      refine lv_iadd hx hb dX12_unit_84 ?_
      obtain ⟨h15, hf⟩ := if_s hf
      refine x_iald C hP h_t14 k_t14 h15 dX12_unit_85 ?_
      obtain ⟨h16, hf⟩ := if_s hf
      obtain ⟨S17, eS17, hf⟩ := bnd_e hf
      refine x_iast C hP hS h_t13 k_t13 h16 eS17 dX12_unit_86 (fun H locs hP hS => ?_)
      have hW : WT G S17 := by rw [eS17]; exact hW
      obtain ⟨x18, ex18, hf⟩ := bnd_e hf
      refine lv_iinc (v := x18) (lv' := [(1, .int x18), (0, .ref v0)]) hx hb dX12_unit_87 hl (k := 1) rfl ex18.symm (by decide) rfl (fun ls hl => ?_)
      refine lv_goto (tgt := 66) hx hb dX12_unit_90 (by decide) ?_
      exact ih v0 x18 h_v0 k_v0 S17 H locs _ hf hP hS hW (lv_sub hl [1, 0] rfl)
set_option maxRecDepth 100000 in
set_option maxHeartbeats 4000000 in
theorem b_X12_unit_95 {p : Program} {l : Launch} {e : Env} {s : State} {m : MethodId} {args : Array Value} {below : List Frame} {meth : Method} {c : Code} {V : EV} {G : GS} {r : Int32} {S' : HS} {F : Nat} (C : CX p s m args meth c RX12 cX12_unit 2 (some .int) V G) {k125 : Nat → HS → Option (Int32 × HS)} (hk125 : ∀ (v0 : Nat) (h_v0 : v0 ∈ G.1) (k_v0 : G.2.1 v0 = 12) (S : HS) (H : Heap) (locs : List Loc) (ls : Array Slot), k125 v0 S = some (r, S') → HP V G S H → va_S (AG G s.heap.size) s.heap H locs → WT G S → lv_has ls 2 [(0, .ref v0)] → W p l e (RM 79 2347) s m args below meth c H locs 0 0 (MQ below (QI V G S' r s.heap.size) args s 0 0 (AG G s.heap.size)) (F0 m 125 ls [])) : ∀ n : Nat, ∀ (v0 : Nat) (v1 : Int32) (h_v0 : v0 ∈ G.1) (k_v0 : G.2.1 v0 = 12) (S : HS) (H : Heap) (locs : List Loc) (ls : Array Slot), s_X12_unit_L95 G.2.2 F k125 n v0 v1 S = some (r, S') → HP V G S H → va_S (AG G s.heap.size) s.heap H locs → WT G S → lv_has ls 2 [(0, .ref v0), (1, .int v1)] → W p l e (RM 79 2347) s m args below meth c H locs 0 0 (MQ below (QI V G S' r s.heap.size) args s 0 0 (AG G s.heap.size)) (F0 m 95 ls []) := by
  intro n
  induction n with
  | zero =>
    intro v0 v1 h_v0 k_v0 S H locs ls hf
    rw [s_X12_unit_L95] at hf
    cases hf
  | succ n ih =>
    intro v0 v1 h_v0 k_v0 S H locs ls hf hP hS hW hl
    have hx := C.1
    have hb := C.2.1
    rw [s_X12_unit_L95] at hf
    refine lv_iload_n hx hb dX12_unit_95 rfl (lv_at hl 1 rfl) ?_
    refine lv_aload_n hx hb dX12_unit_96 rfl (lv_at hl 0 rfl) ?_
    refine gf_X12_179 C hP h_v0 k_v0 dX12_unit_97 ?_
    refine lv_icmp_ge (tgt := 125) hx hb dX12_unit_100 (by decide) (fun c19 => ?_) (fun c19 => ?_)
    · have hf := if_t c19 hf
      exact hk125 v0 h_v0 k_v0 S H locs _ hf hP hS hW (lv_sub hl [0] rfl)
    · have hf := if_f c19 hf
      refine lv_aload_n hx hb dX12_unit_103 rfl (lv_at hl 0 rfl) ?_
      refine gf_X12_80 C hP h_v0 k_v0 dX12_unit_104 ?_
      obtain ⟨t20, et20, hf⟩ := bd1_e hf
      obtain ⟨h_t20, k_t20⟩ := wt_r hW h_v0 k_v0 (by decide) et20
      have k_t20 : G.2.1 t20 = 14 := k_t20
      rw [et20]
      refine lv_iload_n hx hb dX12_unit_107 rfl (lv_at hl 1 rfl) ?_
      refine lv_aload_n hx hb dX12_unit_108 rfl (lv_at hl 0 rfl) ?_
      refine gf_X12_80 C hP h_v0 k_v0 dX12_unit_109 ?_
      obtain ⟨t21, et21, hf⟩ := bd1_e hf
      obtain ⟨h_t21, k_t21⟩ := wt_r hW h_v0 k_v0 (by decide) et21
      have k_t21 : G.2.1 t21 = 14 := k_t21
      rw [et21]
      refine lv_sipush (v := 1100) hx hb dX12_unit_112 kc_sipush_1100 ?_
      refine lv_iload_n hx hb dX12_unit_115 rfl (lv_at hl 1 rfl) ?_
      refine lv_iadd hx hb dX12_unit_116 ?_
      obtain ⟨h22, hf⟩ := if_s hf
      refine x_iald C hP h_t21 k_t21 h22 dX12_unit_117 ?_
      obtain ⟨h23, hf⟩ := if_s hf
      obtain ⟨S24, eS24, hf⟩ := bnd_e hf
      refine x_iast C hP hS h_t20 k_t20 h23 eS24 dX12_unit_118 (fun H locs hP hS => ?_)
      have hW : WT G S24 := by rw [eS24]; exact hW
      obtain ⟨x25, ex25, hf⟩ := bnd_e hf
      refine lv_iinc (v := x25) (lv' := [(1, .int x25), (0, .ref v0)]) hx hb dX12_unit_119 hl (k := 1) rfl ex25.symm (by decide) rfl (fun ls hl => ?_)
      refine lv_goto (tgt := 95) hx hb dX12_unit_122 (by decide) ?_
      exact ih v0 x25 h_v0 k_v0 S24 H locs _ hf hP hS hW (lv_sub hl [1, 0] rfl)
set_option maxRecDepth 100000 in
set_option maxHeartbeats 4000000 in
theorem b_X12_unit_127 {p : Program} {l : Launch} {e : Env} {s : State} {m : MethodId} {args : Array Value} {below : List Frame} {meth : Method} {c : Code} {V : EV} {G : GS} {r : Int32} {S' : HS} {F : Nat} (C : CX p s m args meth c RX12 cX12_unit 2 (some .int) V G) {k154 : Nat → HS → Option (Int32 × HS)} (hk154 : ∀ (v0 : Nat) (h_v0 : v0 ∈ G.1) (k_v0 : G.2.1 v0 = 12) (S : HS) (H : Heap) (locs : List Loc) (ls : Array Slot), k154 v0 S = some (r, S') → HP V G S H → va_S (AG G s.heap.size) s.heap H locs → WT G S → lv_has ls 2 [(0, .ref v0)] → W p l e (RM 79 2347) s m args below meth c H locs 0 0 (MQ below (QI V G S' r s.heap.size) args s 0 0 (AG G s.heap.size)) (F0 m 154 ls [])) : ∀ n : Nat, ∀ (v0 : Nat) (v1 : Int32) (h_v0 : v0 ∈ G.1) (k_v0 : G.2.1 v0 = 12) (S : HS) (H : Heap) (locs : List Loc) (ls : Array Slot), s_X12_unit_L127 G.2.2 F k154 n v0 v1 S = some (r, S') → HP V G S H → va_S (AG G s.heap.size) s.heap H locs → WT G S → lv_has ls 2 [(0, .ref v0), (1, .int v1)] → W p l e (RM 79 2347) s m args below meth c H locs 0 0 (MQ below (QI V G S' r s.heap.size) args s 0 0 (AG G s.heap.size)) (F0 m 127 ls []) := by
  intro n
  induction n with
  | zero =>
    intro v0 v1 h_v0 k_v0 S H locs ls hf
    rw [s_X12_unit_L127] at hf
    cases hf
  | succ n ih =>
    intro v0 v1 h_v0 k_v0 S H locs ls hf hP hS hW hl
    have hx := C.1
    have hb := C.2.1
    rw [s_X12_unit_L127] at hf
    refine lv_iload_n hx hb dX12_unit_127 rfl (lv_at hl 1 rfl) ?_
    refine lv_bipush (v := 10) hx hb dX12_unit_128 kc_bipush_10 ?_
    refine lv_icmp_ge (tgt := 154) hx hb dX12_unit_130 (by decide) (fun c26 => ?_) (fun c26 => ?_)
    · have hf := if_t c26 hf
      exact hk154 v0 h_v0 k_v0 S H locs _ hf hP hS hW (lv_sub hl [0] rfl)
    · have hf := if_f c26 hf
      refine lv_aload_n hx hb dX12_unit_133 rfl (lv_at hl 0 rfl) ?_
      refine gf_X12_83 C hP h_v0 k_v0 dX12_unit_134 ?_
      obtain ⟨t27, et27, hf⟩ := bd1_e hf
      obtain ⟨h_t27, k_t27⟩ := wt_r hW h_v0 k_v0 (by decide) et27
      have k_t27 : G.2.1 t27 = 15 := k_t27
      rw [et27]
      refine lv_iload_n hx hb dX12_unit_137 rfl (lv_at hl 1 rfl) ?_
      refine lv_aload_n hx hb dX12_unit_138 rfl (lv_at hl 0 rfl) ?_
      refine gf_X12_83 C hP h_v0 k_v0 dX12_unit_139 ?_
      obtain ⟨t28, et28, hf⟩ := bd1_e hf
      obtain ⟨h_t28, k_t28⟩ := wt_r hW h_v0 k_v0 (by decide) et28
      have k_t28 : G.2.1 t28 = 15 := k_t28
      rw [et28]
      refine lv_bipush (v := 10) hx hb dX12_unit_142 kc_bipush_10 ?_
      refine lv_iload_n hx hb dX12_unit_144 rfl (lv_at hl 1 rfl) ?_
      refine lv_iadd hx hb dX12_unit_145 ?_
      obtain ⟨h29, hf⟩ := if_s hf
      refine x_lald C hP h_t28 k_t28 h29 dX12_unit_146 ?_
      obtain ⟨h30, hf⟩ := if_s hf
      obtain ⟨S31, eS31, hf⟩ := bnd_e hf
      refine x_last C hP hS h_t27 k_t27 h30 eS31 dX12_unit_147 (fun H locs hP hS => ?_)
      have hW : WT G S31 := by rw [eS31]; exact hW
      obtain ⟨x32, ex32, hf⟩ := bnd_e hf
      refine lv_iinc (v := x32) (lv' := [(1, .int x32), (0, .ref v0)]) hx hb dX12_unit_148 hl (k := 1) rfl ex32.symm (by decide) rfl (fun ls hl => ?_)
      refine lv_goto (tgt := 127) hx hb dX12_unit_151 (by decide) ?_
      exact ih v0 x32 h_v0 k_v0 S31 H locs _ hf hP hS hW (lv_sub hl [1, 0] rfl)
set_option maxRecDepth 100000 in
set_option maxHeartbeats 4000000 in
theorem b_X12_unit_154 {p : Program} {l : Launch} {e : Env} {s : State} {m : MethodId} {args : Array Value} {below : List Frame} {meth : Method} {c : Code} {V : EV} {G : GS} {r : Int32} {S' : HS} {F : Nat} (C : CX p s m args meth c RX12 cX12_unit 2 (some .int) V G) : ∀ (v0 : Nat) (h_v0 : v0 ∈ G.1) (k_v0 : G.2.1 v0 = 12) (S : HS) (H : Heap) (locs : List Loc) (ls : Array Slot), s_X12_unit_J154 G.2.2 F v0 S = some (r, S') → HP V G S H → va_S (AG G s.heap.size) s.heap H locs → WT G S → lv_has ls 2 [(0, .ref v0)] → W p l e (RM 79 2347) s m args below meth c H locs 0 0 (MQ below (QI V G S' r s.heap.size) args s 0 0 (AG G s.heap.size)) (F0 m 154 ls []) := by
  intro v0 h_v0 k_v0 S H locs ls hf hP hS hW hl
  have hx := C.1
  have hb := C.2.1
  unfold s_X12_unit_J154 at hf
  refine lv_aload_n hx hb dX12_unit_154 rfl (lv_at hl 0 rfl) ?_
  obtain ⟨S33, eS33, hf⟩ := bd1_e hf
  refine x_aft_v (x_runV (As := []) (rest := []) C hP hS (c_X12_begins (l := l) C.2.2.2.2.2.2.2.2.2.1 hW h_v0 k_v0 eS33 H.size) h_v0 k_v0 (by decide) rfl rfl km_X12_begins ki_X12_begins qm_X12_115 ⟨(Nat.le_of_ble_eq_true rfl), (Nat.le_of_ble_eq_true rfl)⟩ rfl hl.1 rfl (Nat.le_of_ble_eq_true rfl) ⟨Nat.zero_le _, Nat.zero_le _⟩ dX12_unit_155) hS (fun H locs hP hS hW => ?_)
  refine lv_iconst (v := 0) hx hb dX12_unit_158 rfl ?_
  cases hf
  exact x_reti C hP hS hW dX12_unit_159
set_option maxRecDepth 100000 in
set_option maxHeartbeats 4000000 in
theorem b_X12_unit_125 {p : Program} {l : Launch} {e : Env} {s : State} {m : MethodId} {args : Array Value} {below : List Frame} {meth : Method} {c : Code} {V : EV} {G : GS} {r : Int32} {S' : HS} {F : Nat} (C : CX p s m args meth c RX12 cX12_unit 2 (some .int) V G) : ∀ (v0 : Nat) (h_v0 : v0 ∈ G.1) (k_v0 : G.2.1 v0 = 12) (S : HS) (H : Heap) (locs : List Loc) (ls : Array Slot), s_X12_unit_J125 G.2.2 F v0 S = some (r, S') → HP V G S H → va_S (AG G s.heap.size) s.heap H locs → WT G S → lv_has ls 2 [(0, .ref v0)] → W p l e (RM 79 2347) s m args below meth c H locs 0 0 (MQ below (QI V G S' r s.heap.size) args s 0 0 (AG G s.heap.size)) (F0 m 125 ls []) := by
  intro v0 h_v0 k_v0 S H locs ls hf hP hS hW hl
  have hx := C.1
  have hb := C.2.1
  unfold s_X12_unit_J125 at hf
  refine lv_iconst (v := 0) hx hb dX12_unit_125 rfl ?_
  refine lv_istore_n (lv' := [(1, .int 0), (0, .ref v0)]) hx hb dX12_unit_126 rfl hl (by decide) rfl (fun ls hl => ?_)
  exact b_X12_unit_127 C (b_X12_unit_154 C) F v0 0 h_v0 k_v0 S H locs _ hf hP hS hW (lv_sub hl [1, 0] rfl)
set_option maxRecDepth 100000 in
set_option maxHeartbeats 4000000 in
theorem b_X12_unit_93 {p : Program} {l : Launch} {e : Env} {s : State} {m : MethodId} {args : Array Value} {below : List Frame} {meth : Method} {c : Code} {V : EV} {G : GS} {r : Int32} {S' : HS} {F : Nat} (C : CX p s m args meth c RX12 cX12_unit 2 (some .int) V G) : ∀ (v0 : Nat) (h_v0 : v0 ∈ G.1) (k_v0 : G.2.1 v0 = 12) (S : HS) (H : Heap) (locs : List Loc) (ls : Array Slot), s_X12_unit_J93 G.2.2 F v0 S = some (r, S') → HP V G S H → va_S (AG G s.heap.size) s.heap H locs → WT G S → lv_has ls 2 [(0, .ref v0)] → W p l e (RM 79 2347) s m args below meth c H locs 0 0 (MQ below (QI V G S' r s.heap.size) args s 0 0 (AG G s.heap.size)) (F0 m 93 ls []) := by
  intro v0 h_v0 k_v0 S H locs ls hf hP hS hW hl
  have hx := C.1
  have hb := C.2.1
  unfold s_X12_unit_J93 at hf
  refine lv_iconst (v := 0) hx hb dX12_unit_93 rfl ?_
  refine lv_istore_n (lv' := [(1, .int 0), (0, .ref v0)]) hx hb dX12_unit_94 rfl hl (by decide) rfl (fun ls hl => ?_)
  exact b_X12_unit_95 C (b_X12_unit_125 C) F v0 0 h_v0 k_v0 S H locs _ hf hP hS hW (lv_sub hl [1, 0] rfl)
set_option maxRecDepth 100000 in
set_option maxHeartbeats 4000000 in
theorem b_X12_unit_52 {p : Program} {l : Launch} {e : Env} {s : State} {m : MethodId} {args : Array Value} {below : List Frame} {meth : Method} {c : Code} {V : EV} {G : GS} {r : Int32} {S' : HS} {F : Nat} (C : CX p s m args meth c RX12 cX12_unit 2 (some .int) V G) : ∀ (v0 : Nat) (h_v0 : v0 ∈ G.1) (k_v0 : G.2.1 v0 = 12) (S : HS) (H : Heap) (locs : List Loc) (ls : Array Slot), s_X12_unit_J52 G.2.2 F v0 S = some (r, S') → HP V G S H → va_S (AG G s.heap.size) s.heap H locs → WT G S → lv_has ls 2 [(0, .ref v0)] → W p l e (RM 79 2347) s m args below meth c H locs 0 0 (MQ below (QI V G S' r s.heap.size) args s 0 0 (AG G s.heap.size)) (F0 m 52 ls []) := by
  intro v0 h_v0 k_v0 S H locs ls hf hP hS hW hl
  have hx := C.1
  have hb := C.2.1
  unfold s_X12_unit_J52 at hf
  refine lv_aload_n hx hb dX12_unit_52 rfl (lv_at hl 0 rfl) ?_
  refine gf_X12_144 C hP h_v0 k_v0 dX12_unit_53 ?_
  refine lv_if_le (tgt := 64) hx hb dX12_unit_56 (by decide) (fun c11 => ?_) (fun c11 => ?_)
  · have hf := if_t c11 hf
    refine lv_iconst (v := 0) hx hb dX12_unit_64 rfl ?_
    refine lv_istore_n (lv' := [(1, .int 0), (0, .ref v0)]) hx hb dX12_unit_65 rfl hl (by decide) rfl (fun ls hl => ?_)
    exact b_X12_unit_66 C (b_X12_unit_93 C) F v0 0 h_v0 k_v0 S H locs _ hf hP hS hW (lv_sub hl [1, 0] rfl)
  · have hf := if_f c11 hf
    refine lv_aload_n hx hb dX12_unit_59 rfl (lv_at hl 0 rfl) ?_
    refine gf_X12_144 C hP h_v0 k_v0 dX12_unit_60 ?_
    cases hf
    exact x_reti C hP hS hW dX12_unit_63
set_option maxRecDepth 100000 in
set_option maxHeartbeats 4000000 in
theorem c_X12_unit {l : Launch} {V : EV} {G : GS} {S : HS} {F : Nat} {a : Nat} {r : Int32} {S' : HS} (hN : G.1.Nodup) (hW : WT G S) (h_a : a ∈ G.1) (k_a : G.2.1 a = 12) (hf : s_X12_unit G.2.2 F a S = some (r, S')) : MetI l yX12_unit cX12_unit 2 .int 79 2347 V G S [.ref a] r S' := by
  intro sz
  refine x_in RX12 rfl (by decide +kernel) hN (Nat.le_of_ble_eq_true rfl) (fun p e s m args below meth c ls hsz hargs hnm C hP hS hl => ?_)
  subst hsz
  have hx := C.1
  have hb := C.2.1
  have hl : lv_has ls 2 [(0, .ref a)] := hl
  unfold s_X12_unit at hf
  refine lv_aload_n hx hb dX12_unit_0 rfl (lv_at hl 0 rfl) ?_
  refine lv_iconst (v := 0) hx hb dX12_unit_1 rfl ?_
  obtain ⟨S1, eS1, hf⟩ := bnd_e hf
  refine pf_X12_1 C hP hS h_a k_a eS1 dX12_unit_2 (fun H locs hP hS => ?_)
  have hW : WT G S1 := by rw [eS1]; exact hW
  refine lv_aload_n hx hb dX12_unit_5 rfl (lv_at hl 0 rfl) ?_
  obtain ⟨S2, eS2, hf⟩ := bd1_e hf
  refine x_aft_v (x_runV (As := []) (rest := []) C hP hS (c_X12_cutAll (l := l) C.2.2.2.2.2.2.2.2.2.1 hW h_a k_a eS2 H.size) h_a k_a (by decide) rfl rfl km_X12_cutAll ki_X12_cutAll qm_X12_176 ⟨(Nat.le_of_ble_eq_true rfl), (Nat.le_of_ble_eq_true rfl)⟩ rfl hl.1 rfl (Nat.le_of_ble_eq_true rfl) ⟨Nat.zero_le _, Nat.zero_le _⟩ dX12_unit_6) hS (fun H locs hP hS hW => ?_)
  refine lv_aload_n hx hb dX12_unit_9 rfl (lv_at hl 0 rfl) ?_
  refine lv_iconst (v := 0) hx hb dX12_unit_10 rfl ?_
  obtain ⟨S3, eS3, hf⟩ := bnd_e hf
  refine pf_X12_179 C hP hS h_a k_a eS3 dX12_unit_11 (fun H locs hP hS => ?_)
  have hW : WT G S3 := by rw [eS3]; exact hW
  refine lv_aload_n hx hb dX12_unit_14 rfl (lv_at hl 0 rfl) ?_
  refine lv_bipush (v := 15) hx hb dX12_unit_15 kc_bipush_15 ?_
  obtain ⟨S4, eS4, hf⟩ := bd1_e hf
  refine x_aft_v (x_runV (As := [.int 15]) (rest := []) C hP hS (c_X12_standsAsAlways (l := l) C.2.2.2.2.2.2.2.2.2.1 hW h_a k_a eS4 H.size) h_a k_a (by decide) rfl rfl km_X12_standsAsAlways ki_X12_standsAsAlways qm_X12_111 ⟨(Nat.le_of_ble_eq_true rfl), (Nat.le_of_ble_eq_true rfl)⟩ rfl hl.1 rfl (Nat.le_of_ble_eq_true rfl) ⟨Nat.zero_le _, Nat.zero_le _⟩ dX12_unit_17) hS (fun H locs hP hS hW => ?_)
  exact b_X12_unit_20 C (b_X12_unit_52 C) F a h_a k_a S4 H locs _ hf hP hS hW (lv_sub hl [0] rfl)
def s_X12_use (N : Nat → Nat) (F : Nat) (a : Nat) (p0 : Int32) (S : HS) : Option (Int32 × HS) :=
  bnd (uI S 1200 a 0) fun S1 =>
  bd1 (s_X12_isForm N a p0 S1) fun r2 =>
  if r2 = (0 : Int32) then
  some ((-1), S1)
  else
  bd1 (s_X12_keeps N F a S1) fun S5 =>
  bd1 (gR S5 1217 a) fun t6 =>
  if inB (10 : Int32) (N t6) = true then
  bnd (wI S5 t6 ((10 : Int32).toNatClampNeg) 0) fun S8 =>
  bd2 (s_X12_uses N F a 0 p0 S8) fun r9 S10 =>
  some (r9, S10)
  else none
set_option maxRecDepth 100000 in
set_option maxHeartbeats 4000000 in
theorem c_X12_use {l : Launch} {V : EV} {G : GS} {S : HS} {F : Nat} {a : Nat} {p0 : Int32} {r : Int32} {S' : HS} (hN : G.1.Nodup) (hW : WT G S) (h_a : a ∈ G.1) (k_a : G.2.1 a = 12) (hf : s_X12_use G.2.2 F a p0 S = some (r, S')) : MetI l yX12_use cX12_use 2 .int 8 259 V G S [.ref a, .int p0] r S' := by
  intro sz
  refine x_in RX12 rfl (by decide +kernel) hN (Nat.le_of_ble_eq_true rfl) (fun p e s m args below meth c ls hsz hargs hnm C hP hS hl => ?_)
  subst hsz
  have hx := C.1
  have hb := C.2.1
  have hl : lv_has ls 2 [(0, .ref a), (1, .int p0)] := hl
  unfold s_X12_use at hf
  refine lv_aload_n hx hb dX12_use_0 rfl (lv_at hl 0 rfl) ?_
  refine lv_iconst (v := 0) hx hb dX12_use_1 rfl ?_
  obtain ⟨S1, eS1, hf⟩ := bnd_e hf
  refine pf_X12_1 C hP hS h_a k_a eS1 dX12_use_2 (fun H locs hP hS => ?_)
  have hW : WT G S1 := by rw [eS1]; exact hW
  refine lv_aload_n hx hb dX12_use_5 rfl (lv_at hl 0 rfl) ?_
  refine lv_iload_n hx hb dX12_use_6 rfl (lv_at hl 1 rfl) ?_
  obtain ⟨r2, er2, hf⟩ := bd1_e hf
  refine x_aft_z (x_runV (As := [.int p0]) (rest := []) C hP hS (c_X12_isForm (l := l) C.2.2.2.2.2.2.2.2.2.1 hW h_a k_a er2 H.size) h_a k_a (by decide) rfl rfl km_X12_isForm ki_X12_isForm qm_X12_354 ⟨(Nat.le_of_ble_eq_true rfl), (Nat.le_of_ble_eq_true rfl)⟩ rfl hl.1 rfl (Nat.le_of_ble_eq_true rfl) ⟨Nat.zero_le _, Nat.zero_le _⟩ dX12_use_7) hS (fun H locs hP hS hW z3 => ?_)
  refine lv_if_ne (tgt := 15) hx hb dX12_use_10 (by decide) (fun c4 => ?_) (fun c4 => ?_)
  · have hf := if_f c4 hf
    refine lv_aload_n hx hb dX12_use_15 rfl (lv_at hl 0 rfl) ?_
    obtain ⟨S5, eS5, hf⟩ := bd1_e hf
    refine x_aft_v (x_runV (As := []) (rest := []) C hP hS (c_X12_keeps (l := l) C.2.2.2.2.2.2.2.2.2.1 hW h_a k_a eS5 H.size) h_a k_a (by decide) rfl rfl km_X12_keeps ki_X12_keeps qm_X12_366 ⟨(Nat.le_of_ble_eq_true rfl), (Nat.le_of_ble_eq_true rfl)⟩ rfl hl.1 rfl (Nat.le_of_ble_eq_true rfl) ⟨Nat.zero_le _, Nat.zero_le _⟩ dX12_use_16) hS (fun H locs hP hS hW => ?_)
    refine lv_aload_n hx hb dX12_use_19 rfl (lv_at hl 0 rfl) ?_
    refine gf_X12_95 C hP h_a k_a dX12_use_20 ?_
    obtain ⟨t6, et6, hf⟩ := bd1_e hf
    obtain ⟨h_t6, k_t6⟩ := wt_r hW h_a k_a (by decide) et6
    have k_t6 : G.2.1 t6 = 14 := k_t6
    rw [et6]
    refine lv_bipush (v := 10) hx hb dX12_use_23 kc_bipush_10 ?_
    refine lv_iconst (v := 0) hx hb dX12_use_25 rfl ?_
    obtain ⟨h7, hf⟩ := if_s hf
    obtain ⟨S8, eS8, hf⟩ := bnd_e hf
    refine x_iast C hP hS h_t6 k_t6 h7 eS8 dX12_use_26 (fun H locs hP hS => ?_)
    have hW : WT G S8 := by rw [eS8]; exact hW
    refine lv_aload_n hx hb dX12_use_27 rfl (lv_at hl 0 rfl) ?_
    refine lv_iconst (v := 0) hx hb dX12_use_28 rfl ?_
    refine lv_iload_n hx hb dX12_use_29 rfl (lv_at hl 1 rfl) ?_
    obtain ⟨r9, S10, eS10, hf⟩ := bd2_e hf
    refine x_aft_i (x_runV (As := [.int 0, .int p0]) (rest := []) C hP hS (c_X12_uses (l := l) C.2.2.2.2.2.2.2.2.2.1 hW h_a k_a eS10 H.size) h_a k_a (by decide) rfl rfl km_X12_uses ki_X12_uses qm_X12_394 ⟨(Nat.le_of_ble_eq_true rfl), (Nat.le_of_ble_eq_true rfl)⟩ rfl hl.1 rfl (Nat.le_of_ble_eq_true rfl) ⟨Nat.zero_le _, Nat.zero_le _⟩ dX12_use_30) hS (fun H locs hP hS hW => ?_)
    cases hf
    exact x_reti C hP hS hW dX12_use_33
  · have hf := if_t c4 hf
    refine lv_iconst (v := (-1)) hx hb dX12_use_13 rfl ?_
    cases hf
    exact x_reti C hP hS hW dX12_use_14
