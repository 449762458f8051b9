def s_X2_isMinus (a : Nat) (p0 : Int32) (S : HS) : Int32 :=
  if (p0 &&& (gI S 204 a)) = (0 : Int32) then
  0
  else
  1
set_option maxRecDepth 100000 in
set_option maxHeartbeats 4000000 in
theorem c_X2_isMinus {l : Launch} {V : EV} {G : GS} {S : HS} {a : Nat} {p0 : Int32} {r : Int32} (hN : G.1.Nodup) (hW : WT G S) (h_a : a ∈ G.1) (k_a : G.2.1 a = 2) (hf : s_X2_isMinus a p0 S = r) : MetZ l yX2_isMinus cX2_isMinus 2 0 0 V G S [.ref a, .int p0] r S := by
  intro sz
  refine x_in RX2 rfl (by decide +kernel) hN (Nat.le_of_ble_eq_true rfl) (fun p e s m args below meth c ls hsz hargs hnm C hP hS hl => ?_)
  subst hsz
  have hx := C.1
  have hb := C.2.1
  have hl : lv_has ls 2 [(0, .ref a), (1, .int p0)] := hl
  unfold s_X2_isMinus at hf
  refine lv_iload_n hx hb dX2_isMinus_0 rfl (lv_at hl 1 rfl) ?_
  refine lv_aload_n hx hb dX2_isMinus_1 rfl (lv_at hl 0 rfl) ?_
  refine gf_X2_24 C hP h_a k_a dX2_isMinus_2 ?_
  refine lv_iand hx hb dX2_isMinus_5 ?_
  refine lv_if_eq (tgt := 13) hx hb dX2_isMinus_6 (by decide) (fun c1 => ?_) (fun c1 => ?_)
  · have hf := if_t c1 hf
    refine lv_iconst (v := 0) hx hb dX2_isMinus_13 rfl ?_
    cases hf
    exact x_retZ C hP hS hW isZ_0 dX2_isMinus_14
  · have hf := if_f c1 hf
    refine lv_iconst (v := 1) hx hb dX2_isMinus_9 rfl ?_
    refine lv_goto (tgt := 14) hx hb dX2_isMinus_10 (by decide) ?_
    cases hf
    exact x_retZ C hP hS hW isZ_1 dX2_isMinus_14
def s_X2_size (a : Nat) (p0 : Int32) (S : HS) : Int32 :=
  p0 &&& ((gI S 204 a) - 1)
set_option maxRecDepth 100000 in
set_option maxHeartbeats 4000000 in
theorem c_X2_size {l : Launch} {V : EV} {G : GS} {S : HS} {a : Nat} {p0 : Int32} {r : Int32} (hN : G.1.Nodup) (hW : WT G S) (h_a : a ∈ G.1) (k_a : G.2.1 a = 2) (hf : s_X2_size a p0 S = r) : MetI l yX2_size cX2_size 2 .int 0 0 V G S [.ref a, .int p0] r S := by
  intro sz
  refine x_in RX2 rfl (by decide +kernel) hN (Nat.le_of_ble_eq_true rfl) (fun p e s m args below meth c ls hsz hargs hnm C hP hS hl => ?_)
  subst hsz
  have hx := C.1
  have hb := C.2.1
  have hl : lv_has ls 2 [(0, .ref a), (1, .int p0)] := hl
  unfold s_X2_size at hf
  refine lv_iload_n hx hb dX2_size_0 rfl (lv_at hl 1 rfl) ?_
  refine lv_aload_n hx hb dX2_size_1 rfl (lv_at hl 0 rfl) ?_
  refine gf_X2_24 C hP h_a k_a dX2_size_2 ?_
  refine lv_iconst (v := 1) hx hb dX2_size_5 rfl ?_
  refine lv_isub hx hb dX2_size_6 ?_
  refine lv_iand hx hb dX2_size_7 ?_
  cases hf
  exact x_reti C hP hS hW dX2_size_8
def s_X2_isNan (a : Nat) (p0 : Int32) (S : HS) : Int32 :=
  if (s_X2_size a p0 S) ≤ (gI S 205 a) then
  0
  else
  1
set_option maxRecDepth 100000 in
set_option maxHeartbeats 4000000 in
theorem c_X2_isNan {l : Launch} {V : EV} {G : GS} {S : HS} {a : Nat} {p0 : Int32} {r : Int32} (hN : G.1.Nodup) (hW : WT G S) (h_a : a ∈ G.1) (k_a : G.2.1 a = 2) (hf : s_X2_isNan a p0 S = r) : MetZ l yX2_isNan cX2_isNan 2 1 29 V G S [.ref a, .int p0] r S := by
  intro sz
  refine x_in RX2 rfl (by decide +kernel) hN (Nat.le_of_ble_eq_true rfl) (fun p e s m args below meth c ls hsz hargs hnm C hP hS hl => ?_)
  subst hsz
  have hx := C.1
  have hb := C.2.1
  have hl : lv_has ls 2 [(0, .ref a), (1, .int p0)] := hl
  unfold s_X2_isNan at hf
  refine lv_aload_n hx hb dX2_isNan_0 rfl (lv_at hl 0 rfl) ?_
  refine lv_iload_n hx hb dX2_isNan_1 rfl (lv_at hl 1 rfl) ?_
  refine x_aft_i (x_runV (As := [.int p0]) (rest := []) C hP hS (c_X2_size (l := l) C.2.2.2.2.2.2.2.2.2.1 hW h_a k_a rfl s.heap.size) h_a k_a (by decide) rfl rfl km_X2_size ki_X2_size qm_X2_36 ⟨(Nat.le_of_ble_eq_true rfl), (Nat.le_of_ble_eq_true rfl)⟩ rfl hl.1 rfl (Nat.le_of_ble_eq_true rfl) ⟨Nat.zero_le _, Nat.zero_le _⟩ dX2_isNan_2) hS (fun H locs hP hS hW => ?_)
  refine lv_aload_n hx hb dX2_isNan_5 rfl (lv_at hl 0 rfl) ?_
  refine gf_X2_27 C hP h_a k_a dX2_isNan_6 ?_
  refine lv_icmp_le (tgt := 16) hx hb dX2_isNan_9 (by decide) (fun c1 => ?_) (fun c1 => ?_)
  · have hf := if_t c1 hf
    refine lv_iconst (v := 0) hx hb dX2_isNan_16 rfl ?_
    cases hf
    exact x_retZ C hP hS hW isZ_0 dX2_isNan_17
  · have hf := if_f c1 hf
    refine lv_iconst (v := 1) hx hb dX2_isNan_12 rfl ?_
    refine lv_goto (tgt := 17) hx hb dX2_isNan_13 (by decide) ?_
    cases hf
    exact x_retZ C hP hS hW isZ_1 dX2_isNan_17
def s_X0_tell (a : Nat) (p0 : Int32) (p1 : Int32) (S : HS) : HS :=
  bnd (uI S 1 a p0) fun S1 =>
  bnd (uI S1 2 a p1) fun S2 =>
  bnd (uI S2 3 a 0) fun S3 =>
  bnd (uI S3 4 a 0) fun S4 =>
  S4
set_option maxRecDepth 100000 in
set_option maxHeartbeats 4000000 in
theorem c_X0_tell {l : Launch} {V : EV} {G : GS} {S : HS} {a : Nat} {p0 : Int32} {p1 : Int32} {S' : HS} (hN : G.1.Nodup) (hW : WT G S) (h_a : a ∈ G.1) (k_a : G.2.1 a = 0) (hf : s_X0_tell a p0 p1 S = S') : MetV l yX0_tell cX0_tell 3 0 0 V G S [.ref a, .int p0, .int p1] S' := by
  intro sz
  refine x_in RX0 rfl (by decide +kernel) hN (Nat.le_of_ble_eq_true rfl) (fun p e s m args below meth c ls hsz hargs hnm C hP hS hl => ?_)
  subst hsz
  have hx := C.1
  have hb := C.2.1
  have hl : lv_has ls 3 [(0, .ref a), (1, .int p0), (2, .int p1)] := hl
  unfold s_X0_tell at hf
  refine lv_aload_n hx hb dX0_tell_0 rfl (lv_at hl 0 rfl) ?_
  refine lv_iload_n hx hb dX0_tell_1 rfl (lv_at hl 1 rfl) ?_
  obtain ⟨S1, eS1, hf⟩ := bnd_e hf
  refine pf_X0_21 C hP hS h_a k_a eS1 dX0_tell_2 (fun H locs hP hS => ?_)
  have hW : WT G S1 := by rw [eS1]; exact hW
  refine lv_aload_n hx hb dX0_tell_5 rfl (lv_at hl 0 rfl) ?_
  refine lv_iload_n hx hb dX0_tell_6 rfl (lv_at hl 2 rfl) ?_
  obtain ⟨S2, eS2, hf⟩ := bnd_e hf
  refine pf_X0_25 C hP hS h_a k_a eS2 dX0_tell_7 (fun H locs hP hS => ?_)
  have hW : WT G S2 := by rw [eS2]; exact hW
  refine lv_aload_n hx hb dX0_tell_10 rfl (lv_at hl 0 rfl) ?_
  refine lv_iconst (v := 0) hx hb dX0_tell_11 rfl ?_
  obtain ⟨S3, eS3, hf⟩ := bnd_e hf
  refine pf_X0_28 C hP hS h_a k_a eS3 dX0_tell_12 (fun H locs hP hS => ?_)
  have hW : WT G S3 := by rw [eS3]; exact hW
  refine lv_aload_n hx hb dX0_tell_15 rfl (lv_at hl 0 rfl) ?_
  refine lv_iconst (v := 0) hx hb dX0_tell_16 rfl ?_
  obtain ⟨S4, eS4, hf⟩ := bnd_e hf
  refine pf_X0_9 C hP hS h_a k_a isZ_0 eS4 dX0_tell_17 (fun H locs hP hS => ?_)
  have hW : WT G S4 := by rw [eS4]; exact hW
  cases hf
  exact x_retv C hP hS hW dX0_tell_20
def s_X2_isInfinite (a : Nat) (p0 : Int32) (S : HS) : Int32 :=
  if (s_X2_size a p0 S) = (gI S 205 a) then
  1
  else
  0
set_option maxRecDepth 100000 in
set_option maxHeartbeats 4000000 in
theorem c_X2_isInfinite {l : Launch} {V : EV} {G : GS} {S : HS} {a : Nat} {p0 : Int32} {r : Int32} (hN : G.1.Nodup) (hW : WT G S) (h_a : a ∈ G.1) (k_a : G.2.1 a = 2) (hf : s_X2_isInfinite a p0 S = r) : MetZ l yX2_isInfinite cX2_isInfinite 2 1 29 V G S [.ref a, .int p0] r S := by
  intro sz
  refine x_in RX2 rfl (by decide +kernel) hN (Nat.le_of_ble_eq_true rfl) (fun p e s m args below meth c ls hsz hargs hnm C hP hS hl => ?_)
  subst hsz
  have hx := C.1
  have hb := C.2.1
  have hl : lv_has ls 2 [(0, .ref a), (1, .int p0)] := hl
  unfold s_X2_isInfinite at hf
  refine lv_aload_n hx hb dX2_isInfinite_0 rfl (lv_at hl 0 rfl) ?_
  refine lv_iload_n hx hb dX2_isInfinite_1 rfl (lv_at hl 1 rfl) ?_
  refine x_aft_i (x_runV (As := [.int p0]) (rest := []) C hP hS (c_X2_size (l := l) C.2.2.2.2.2.2.2.2.2.1 hW h_a k_a rfl s.heap.size) h_a k_a (by decide) rfl rfl km_X2_size ki_X2_size qm_X2_36 ⟨(Nat.le_of_ble_eq_true rfl), (Nat.le_of_ble_eq_true rfl)⟩ rfl hl.1 rfl (Nat.le_of_ble_eq_true rfl) ⟨Nat.zero_le _, Nat.zero_le _⟩ dX2_isInfinite_2) hS (fun H locs hP hS hW => ?_)
  refine lv_aload_n hx hb dX2_isInfinite_5 rfl (lv_at hl 0 rfl) ?_
  refine gf_X2_27 C hP h_a k_a dX2_isInfinite_6 ?_
  refine lv_icmp_ne (tgt := 16) hx hb dX2_isInfinite_9 (by decide) (fun c1 => ?_) (fun c1 => ?_)
  · have hf := if_f c1 hf
    refine lv_iconst (v := 0) hx hb dX2_isInfinite_16 rfl ?_
    cases hf
    exact x_retZ C hP hS hW isZ_0 dX2_isInfinite_17
  · have hf := if_t c1 hf
    refine lv_iconst (v := 1) hx hb dX2_isInfinite_12 rfl ?_
    refine lv_goto (tgt := 17) hx hb dX2_isInfinite_13 (by decide) ?_
    cases hf
    exact x_retZ C hP hS hW isZ_1 dX2_isInfinite_17
def s_X2_weight (a : Nat) (p0 : Int32) (S : HS) : Int32 :=
  bnd (s_X2_size a p0 S : Int32) fun x1 =>
  bnd ((1 : Int32) <<< ((gI S 202 a) &&& 31) : Int32) fun x2 =>
  if x2 ≤ x1 then
  (x1 &&& (x2 - 1)) ||| x2
  else
  x1
set_option maxRecDepth 100000 in
set_option maxHeartbeats 4000000 in
theorem c_X2_weight {l : Launch} {V : EV} {G : GS} {S : HS} {a : Nat} {p0 : Int32} {r : Int32} (hN : G.1.Nodup) (hW : WT G S) (h_a : a ∈ G.1) (k_a : G.2.1 a = 2) (hf : s_X2_weight a p0 S = r) : MetI l yX2_weight cX2_weight 4 .int 1 29 V G S [.ref a, .int p0] r S := by
  intro sz
  refine x_in RX2 rfl (by decide +kernel) hN (Nat.le_of_ble_eq_true rfl) (fun p e s m args below meth c ls hsz hargs hnm C hP hS hl => ?_)
  subst hsz
  have hx := C.1
  have hb := C.2.1
  have hl : lv_has ls 4 [(0, .ref a), (1, .int p0)] := hl
  unfold s_X2_weight at hf
  refine lv_aload_n hx hb dX2_weight_0 rfl (lv_at hl 0 rfl) ?_
  refine lv_iload_n hx hb dX2_weight_1 rfl (lv_at hl 1 rfl) ?_
  refine x_aft_i (x_runV (As := [.int p0]) (rest := []) C hP hS (c_X2_size (l := l) C.2.2.2.2.2.2.2.2.2.1 hW h_a k_a rfl s.heap.size) h_a k_a (by decide) rfl rfl km_X2_size ki_X2_size qm_X2_36 ⟨(Nat.le_of_ble_eq_true rfl), (Nat.le_of_ble_eq_true rfl)⟩ rfl hl.1 rfl (Nat.le_of_ble_eq_true rfl) ⟨Nat.zero_le _, Nat.zero_le _⟩ dX2_weight_2) hS (fun H locs hP hS hW => ?_)
  obtain ⟨x1, ex1, hf⟩ := bnd_e hf
  refine nm_i ex1 ?_
  refine lv_istore_n (lv' := [(2, .int x1), (0, .ref a), (1, .int p0)]) hx hb dX2_weight_5 rfl hl (by decide) rfl (fun ls hl => ?_)
  refine lv_iconst (v := 1) hx hb dX2_weight_6 rfl ?_
  refine lv_aload_n hx hb dX2_weight_7 rfl (lv_at hl 1 rfl) ?_
  refine gf_X2_18 C hP h_a k_a dX2_weight_8 ?_
  refine lv_ishl hx hb dX2_weight_11 ?_
  obtain ⟨x2, ex2, hf⟩ := bnd_e hf
  refine nm_i ex2 ?_
  refine lv_istore_n (lv' := [(3, .int x2), (2, .int x1), (0, .ref a), (1, .int p0)]) hx hb dX2_weight_12 rfl hl (by decide) rfl (fun ls hl => ?_)
  refine lv_iload_n hx hb dX2_weight_13 rfl (lv_at hl 1 rfl) ?_
  refine lv_iload_n hx hb dX2_weight_14 rfl (lv_at hl 0 rfl) ?_
  refine lv_icmp_ge (tgt := 22) hx hb dX2_weight_15 (by decide) (fun c3 => ?_) (fun c3 => ?_)
  · have hf := if_t c3 hf
    refine lv_iload_n hx hb dX2_weight_22 rfl (lv_at hl 1 rfl) ?_
    refine lv_iload_n hx hb dX2_weight_23 rfl (lv_at hl 0 rfl) ?_
    refine lv_iconst (v := 1) hx hb dX2_weight_24 rfl ?_
    refine lv_isub hx hb dX2_weight_25 ?_
    refine lv_iand hx hb dX2_weight_26 ?_
    refine lv_iload_n hx hb dX2_weight_27 rfl (lv_at hl 0 rfl) ?_
    refine lv_ior hx hb dX2_weight_28 ?_
    cases hf
    exact x_reti C hP hS hW dX2_weight_29
  · have hf := if_f c3 hf
    refine lv_iload_n hx hb dX2_weight_18 rfl (lv_at hl 1 rfl) ?_
    refine lv_goto (tgt := 29) hx hb dX2_weight_19 (by decide) ?_
    cases hf
    exact x_reti C hP hS hW dX2_weight_29
def s_X2_addend (a : Nat) (p0 : Int32) (S : HS) : Int32 :=
  bnd (s_X2_weight a p0 S : Int32) fun x1 =>
  if (gI S 200 a) = (1 : Int32) then
  if ((1 : Int32) <<< ((gI S 202 a) &&& 31)) ≤ x1 then
  x1
  else
  0
  else
  x1
set_option maxRecDepth 100000 in
set_option maxHeartbeats 4000000 in
theorem c_X2_addend {l : Launch} {V : EV} {G : GS} {S : HS} {a : Nat} {p0 : Int32} {r : Int32} (hN : G.1.Nodup) (hW : WT G S) (h_a : a ∈ G.1) (k_a : G.2.1 a = 2) (hf : s_X2_addend a p0 S = r) : MetI l yX2_addend cX2_addend 3 .int 2 60 V G S [.ref a, .int p0] r S := by
  intro sz
  refine x_in RX2 rfl (by decide +kernel) hN (Nat.le_of_ble_eq_true rfl) (fun p e s m args below meth c ls hsz hargs hnm C hP hS hl => ?_)
  subst hsz
  have hx := C.1
  have hb := C.2.1
  have hl : lv_has ls 3 [(0, .ref a), (1, .int p0)] := hl
  unfold s_X2_addend at hf
  refine lv_aload_n hx hb dX2_addend_0 rfl (lv_at hl 0 rfl) ?_
  refine lv_iload_n hx hb dX2_addend_1 rfl (lv_at hl 1 rfl) ?_
  refine x_aft_i (x_runV (As := [.int p0]) (rest := []) C hP hS (c_X2_weight (l := l) C.2.2.2.2.2.2.2.2.2.1 hW h_a k_a rfl s.heap.size) h_a k_a (by decide) rfl rfl km_X2_weight ki_X2_weight qm_X2_56 ⟨(Nat.le_of_ble_eq_true rfl), (Nat.le_of_ble_eq_true rfl)⟩ rfl hl.1 rfl (Nat.le_of_ble_eq_true rfl) ⟨Nat.zero_le _, Nat.zero_le _⟩ dX2_addend_2) hS (fun H locs hP hS hW => ?_)
  obtain ⟨x1, ex1, hf⟩ := bnd_e hf
  refine nm_i ex1 ?_
  refine lv_istore_n (lv' := [(2, .int x1), (0, .ref a), (1, .int p0)]) hx hb dX2_addend_5 rfl hl (by decide) rfl (fun ls hl => ?_)
  refine lv_aload_n hx hb dX2_addend_6 rfl (lv_at hl 1 rfl) ?_
  refine gf_X2_9 C hP h_a k_a dX2_addend_7 ?_
  refine lv_iconst (v := 1) hx hb dX2_addend_10 rfl ?_
  refine lv_icmp_ne (tgt := 28) hx hb dX2_addend_11 (by decide) (fun c2 => ?_) (fun c2 => ?_)
  · have hf := if_f c2 hf
    refine lv_iload_n hx hb dX2_addend_28 rfl (lv_at hl 0 rfl) ?_
    cases hf
    exact x_reti C hP hS hW dX2_addend_29
  · have hf := if_t c2 hf
    refine lv_iload_n hx hb dX2_addend_14 rfl (lv_at hl 0 rfl) ?_
    refine lv_iconst (v := 1) hx hb dX2_addend_15 rfl ?_
    refine lv_aload_n hx hb dX2_addend_16 rfl (lv_at hl 1 rfl) ?_
    refine gf_X2_18 C hP h_a k_a dX2_addend_17 ?_
    refine lv_ishl hx hb dX2_addend_20 ?_
    refine lv_icmp_ge (tgt := 28) hx hb dX2_addend_21 (by decide) (fun c3 => ?_) (fun c3 => ?_)
    · have hf := if_t c3 hf
      refine lv_iload_n hx hb dX2_addend_28 rfl (lv_at hl 0 rfl) ?_
      cases hf
      exact x_reti C hP hS hW dX2_addend_29
    · have hf := if_f c3 hf
      refine lv_iconst (v := 0) hx hb dX2_addend_24 rfl ?_
      refine lv_goto (tgt := 29) hx hb dX2_addend_25 (by decide) ?_
      cases hf
      exact x_reti C hP hS hW dX2_addend_29
def s_X2_infinityOf (a : Nat) (p0 : Int32) (S : HS) : Int32 :=
  if p0 = (0 : Int32) then
  gI S 205 a
  else
  (gI S 205 a) ||| (gI S 204 a)
set_option maxRecDepth 100000 in
set_option maxHeartbeats 4000000 in
theorem c_X2_infinityOf {l : Launch} {V : EV} {G : GS} {S : HS} {a : Nat} {p0 : Int32} {r : Int32} (hN : G.1.Nodup) (hW : WT G S) (h_a : a ∈ G.1) (k_a : G.2.1 a = 2) (hf : s_X2_infinityOf a p0 S = r) : MetI l yX2_infinityOf cX2_infinityOf 2 .int 0 0 V G S [.ref a, .int p0] r S := by
  intro sz
  refine x_in RX2 rfl (by decide +kernel) hN (Nat.le_of_ble_eq_true rfl) (fun p e s m args below meth c ls hsz hargs hnm C hP hS hl => ?_)
  subst hsz
  have hx := C.1
  have hb := C.2.1
  have hl : lv_has ls 2 [(0, .ref a), (1, .int p0)] := hl
  unfold s_X2_infinityOf at hf
  refine lv_iload_n hx hb dX2_infinityOf_0 rfl (lv_at hl 1 rfl) ?_
  refine lv_if_eq (tgt := 16) hx hb dX2_infinityOf_1 (by decide) (fun c1 => ?_) (fun c1 => ?_)
  · have hf := if_t c1 hf
    refine lv_aload_n hx hb dX2_infinityOf_16 rfl (lv_at hl 0 rfl) ?_
    refine gf_X2_27 C hP h_a k_a dX2_infinityOf_17 ?_
    cases hf
    exact x_reti C hP hS hW dX2_infinityOf_20
  · have hf := if_f c1 hf
    refine lv_aload_n hx hb dX2_infinityOf_4 rfl (lv_at hl 0 rfl) ?_
    refine gf_X2_27 C hP h_a k_a dX2_infinityOf_5 ?_
    refine lv_aload_n hx hb dX2_infinityOf_8 rfl (lv_at hl 0 rfl) ?_
    refine gf_X2_24 C hP h_a k_a dX2_infinityOf_9 ?_
    refine lv_ior hx hb dX2_infinityOf_12 ?_
    refine lv_goto (tgt := 20) hx hb dX2_infinityOf_13 (by decide) ?_
    cases hf
    exact x_reti C hP hS hW dX2_infinityOf_20
def s_X0_addToInfinite_J80 (v0 : Nat) (v1 : Nat) (S : HS) : HS :=
  bnd (s_X0_tell v0 (gI S 207 v1) 1 S) fun S8 =>
  S8
def s_X0_addToInfinite_J68 (v0 : Nat) (v1 : Nat) (v5 : Int32) (v6 : Int32) (w0 : Int32) (S : HS) : HS :=
  if v6 = (0 : Int32) then
  if w0 = (0 : Int32) then
  bnd (s_X0_tell v0 (s_X2_infinityOf v1 v5 S) 0 S) fun S10 =>
  S10
  else
  s_X0_addToInfinite_J80 v0 v1 S
  else
  s_X0_addToInfinite_J80 v0 v1 S
def s_X0_addToInfinite_J41 (v0 : Nat) (v1 : Nat) (v4 : Int32) (v5 : Int32) (w0 : Int32) (S : HS) : HS :=
  if (s_X2_isInfinite v1 v4 S) = (0 : Int32) then
  s_X0_addToInfinite_J68 v0 v1 v5 w0 0 S
  else
  if (s_X2_isMinus v1 v4 S) = v5 then
  s_X0_addToInfinite_J68 v0 v1 v5 w0 0 S
  else
  s_X0_addToInfinite_J68 v0 v1 v5 w0 1 S
def s_X0_addToInfinite_J18 (v0 : Nat) (v1 : Nat) (v2 : Int32) (v3 : Int32) (v4 : Int32) (w0 : Int32) (S : HS) : HS :=
  if (s_X2_addend v1 v2 S) = (0 : Int32) then
  s_X0_addToInfinite_J41 v0 v1 v4 w0 1 S
  else
  if (s_X2_addend v1 v3 S) = (0 : Int32) then
  s_X0_addToInfinite_J41 v0 v1 v4 w0 1 S
  else
  s_X0_addToInfinite_J41 v0 v1 v4 w0 0 S
def s_X0_addToInfinite (a : Nat) (p0 : Nat) (p1 : Int32) (p2 : Int32) (p3 : Int32) (S : HS) : HS :=
  if (s_X2_isMinus p0 p1 S) = (s_X2_isMinus p0 p2 S) then
  s_X0_addToInfinite_J18 a p0 p1 p2 p3 0 S
  else
  s_X0_addToInfinite_J18 a p0 p1 p2 p3 1 S
set_option maxRecDepth 100000 in
set_option maxHeartbeats 4000000 in
theorem b_X0_addToInfinite_80 {p : Program} {l : Launch} {e : Env} {s : State} {m : MethodId} {args : Array Value} {below : List Frame} {meth : Method} {c : Code} {V : EV} {G : GS} {S' : HS} (C : CX p s m args meth c RX0 cX0_addToInfinite 8 none V G) : ∀ (v0 : Nat) (v1 : Nat) (h_v0 : v0 ∈ G.1) (k_v0 : G.2.1 v0 = 0) (h_v1 : v1 ∈ G.1) (k_v1 : G.2.1 v1 = 2) (S : HS) (H : Heap) (locs : List Loc) (ls : Array Slot), s_X0_addToInfinite_J80 v0 v1 S = S' → HP V G S H → va_S (AG G s.heap.size) s.heap H locs → WT G S → lv_has ls 8 [(0, .ref v0), (1, .ref v1)] → W p l e (RM 3 90) s m args below meth c H locs 0 0 (MQ below (QV V G S' s.heap.size) args s 0 0 (AG G s.heap.size)) (F0 m 80 ls []) := by
  intro v0 v1 h_v0 k_v0 h_v1 k_v1 S H locs ls hf hP hS hW hl
  have hx := C.1
  have hb := C.2.1
  unfold s_X0_addToInfinite_J80 at hf
  refine lv_aload_n hx hb dX0_addToInfinite_80 rfl (lv_at hl 0 rfl) ?_
  refine lv_aload_n hx hb dX0_addToInfinite_81 rfl (lv_at hl 1 rfl) ?_
  refine gf_X0_40 C hP h_v1 k_v1 dX0_addToInfinite_82 ?_
  refine lv_iconst (v := 1) hx hb dX0_addToInfinite_85 rfl ?_
  obtain ⟨S8, eS8, hf⟩ := bnd_e hf
  refine x_aft_v (x_runV (As := [.int (gI S 207 v1), .int 1]) (rest := []) C hP hS (c_X0_tell (l := l) C.2.2.2.2.2.2.2.2.2.1 hW h_v0 k_v0 eS8.symm H.size) h_v0 k_v0 (by decide) rfl rfl km_X0_tell ki_X0_tell qm_X0_43 ⟨(Nat.le_of_ble_eq_true rfl), (Nat.le_of_ble_eq_true rfl)⟩ rfl hl.1 rfl (Nat.le_of_ble_eq_true rfl) ⟨Nat.zero_le _, Nat.zero_le _⟩ dX0_addToInfinite_86) hS (fun H locs hP hS hW => ?_)
  refine lv_goto (tgt := 103) hx hb dX0_addToInfinite_89 (by decide) ?_
  cases hf
  exact x_retv C hP hS hW dX0_addToInfinite_103
set_option maxRecDepth 100000 in
set_option maxHeartbeats 4000000 in
theorem b_X0_addToInfinite_68 {p : Program} {l : Launch} {e : Env} {s : State} {m : MethodId} {args : Array Value} {below : List Frame} {meth : Method} {c : Code} {V : EV} {G : GS} {S' : HS} (C : CX p s m args meth c RX0 cX0_addToInfinite 8 none V G) : ∀ (v0 : Nat) (v1 : Nat) (v5 : Int32) (v6 : Int32) (w0 : Int32) (h_v0 : v0 ∈ G.1) (k_v0 : G.2.1 v0 = 0) (h_v1 : v1 ∈ G.1) (k_v1 : G.2.1 v1 = 2) (S : HS) (H : Heap) (locs : List Loc) (ls : Array Slot), s_X0_addToInfinite_J68 v0 v1 v5 v6 w0 S = S' → HP V G S H → va_S (AG G s.heap.size) s.heap H locs → WT G S → lv_has ls 8 [(0, .ref v0), (1, .ref v1), (5, .int v5), (6, .int v6)] → W p l e (RM 3 90) s m args below meth c H locs 0 0 (MQ below (QV V G S' s.heap.size) args s 0 0 (AG G s.heap.size)) (F0 m 68 ls [.int w0]) := by
  intro v0 v1 v5 v6 w0 h_v0 k_v0 h_v1 k_v1 S H locs ls hf hP hS hW hl
  have hx := C.1
  have hb := C.2.1
  unfold s_X0_addToInfinite_J68 at hf
  refine lv_istore (lv' := [(7, .int w0), (0, .ref v0), (1, .ref v1), (5, .int v5), (6, .int v6)]) hx hb dX0_addToInfinite_68 hl (by decide) rfl (fun ls hl => ?_)
  refine lv_iload hx hb dX0_addToInfinite_70 (lv_at hl 4 rfl) ?_
  refine lv_if_ne (tgt := 80) hx hb dX0_addToInfinite_72 (by decide) (fun c7 => ?_) (fun c7 => ?_)
  · have hf := if_f c7 hf
    exact b_X0_addToInfinite_80 C v0 v1 h_v0 k_v0 h_v1 k_v1 S H locs _ hf hP hS hW (lv_sub hl [1, 2] rfl)
  · have hf := if_t c7 hf
    refine lv_iload hx hb dX0_addToInfinite_75 (lv_at hl 0 rfl) ?_
    refine lv_if_eq (tgt := 92) hx hb dX0_addToInfinite_77 (by decide) (fun c9 => ?_) (fun c9 => ?_)
    · have hf := if_t c9 hf
      refine lv_aload_n hx hb dX0_addToInfinite_92 rfl (lv_at hl 1 rfl) ?_
      refine lv_aload_n hx hb dX0_addToInfinite_93 rfl (lv_at hl 2 rfl) ?_
      refine lv_iload hx hb dX0_addToInfinite_94 (lv_at hl 3 rfl) ?_
      refine x_aft_i (x_runV (As := [.int v5]) (rest := [.ref v0]) C hP hS (c_X2_infinityOf (l := l) C.2.2.2.2.2.2.2.2.2.1 hW h_v1 k_v1 rfl H.size) h_v1 k_v1 (by decide) rfl rfl km_X2_infinityOf ki_X2_infinityOf qm_X0_69 ⟨(Nat.le_of_ble_eq_true rfl), (Nat.le_of_ble_eq_true rfl)⟩ rfl hl.1 rfl (Nat.le_of_ble_eq_true rfl) ⟨Nat.zero_le _, Nat.zero_le _⟩ dX0_addToInfinite_96) hS (fun H locs hP hS hW => ?_)
      refine lv_iconst (v := 0) hx hb dX0_addToInfinite_99 rfl ?_
      obtain ⟨S10, eS10, hf⟩ := bnd_e hf
      refine x_aft_v (x_runV (As := [.int (s_X2_infinityOf v1 v5 S), .int 0]) (rest := []) C hP hS (c_X0_tell (l := l) C.2.2.2.2.2.2.2.2.2.1 hW h_v0 k_v0 eS10.symm H.size) h_v0 k_v0 (by decide) rfl rfl km_X0_tell ki_X0_tell qm_X0_43 ⟨(Nat.le_of_ble_eq_true rfl), (Nat.le_of_ble_eq_true rfl)⟩ rfl hl.1 rfl (Nat.le_of_ble_eq_true rfl) ⟨Nat.zero_le _, Nat.zero_le _⟩ dX0_addToInfinite_100) hS (fun H locs hP hS hW => ?_)
      cases hf
      exact x_retv C hP hS hW dX0_addToInfinite_103
    · have hf := if_f c9 hf
      exact b_X0_addToInfinite_80 C v0 v1 h_v0 k_v0 h_v1 k_v1 S H locs _ hf hP hS hW (lv_sub hl [1, 2] rfl)
set_option maxRecDepth 100000 in
set_option maxHeartbeats 4000000 in
theorem b_X0_addToInfinite_41 {p : Program} {l : Launch} {e : Env} {s : State} {m : MethodId} {args : Array Value} {below : List Frame} {meth : Method} {c : Code} {V : EV} {G : GS} {S' : HS} (C : CX p s m args meth c RX0 cX0_addToInfinite 8 none V G) : ∀ (v0 : Nat) (v1 : Nat) (v4 : Int32) (v5 : Int32) (w0 : Int32) (h_v0 : v0 ∈ G.1) (k_v0 : G.2.1 v0 = 0) (h_v1 : v1 ∈ G.1) (k_v1 : G.2.1 v1 = 2) (S : HS) (H : Heap) (locs : List Loc) (ls : Array Slot), s_X0_addToInfinite_J41 v0 v1 v4 v5 w0 S = S' → HP V G S H → va_S (AG G s.heap.size) s.heap H locs → WT G S → lv_has ls 8 [(0, .ref v0), (1, .ref v1), (4, .int v4), (5, .int v5)] → W p l e (RM 3 90) s m args below meth c H locs 0 0 (MQ below (QV V G S' s.heap.size) args s 0 0 (AG G s.heap.size)) (F0 m 41 ls [.int w0]) := by
  intro v0 v1 v4 v5 w0 h_v0 k_v0 h_v1 k_v1 S H locs ls hf hP hS hW hl
  have hx := C.1
  have hb := C.2.1
  unfold s_X0_addToInfinite_J41 at hf
  refine lv_istore (lv' := [(6, .int w0), (0, .ref v0), (1, .ref v1), (4, .int v4), (5, .int v5)]) hx hb dX0_addToInfinite_41 hl (by decide) rfl (fun ls hl => ?_)
  refine lv_aload_n hx hb dX0_addToInfinite_43 rfl (lv_at hl 2 rfl) ?_
  refine lv_iload hx hb dX0_addToInfinite_44 (lv_at hl 3 rfl) ?_
  refine x_aft_z (x_runV (As := [.int v4]) (rest := []) C hP hS (c_X2_isInfinite (l := l) C.2.2.2.2.2.2.2.2.2.1 hW h_v1 k_v1 rfl H.size) h_v1 k_v1 (by decide) rfl rfl km_X2_isInfinite ki_X2_isInfinite qm_X0_47 ⟨(Nat.le_of_ble_eq_true rfl), (Nat.le_of_ble_eq_true rfl)⟩ rfl hl.1 rfl (Nat.le_of_ble_eq_true rfl) ⟨Nat.zero_le _, Nat.zero_le _⟩ dX0_addToInfinite_46) hS (fun H locs hP hS hW z5 => ?_)
  refine lv_if_eq (tgt := 67) hx hb dX0_addToInfinite_49 (by decide) (fun c6 => ?_) (fun c6 => ?_)
  · have hf := if_t c6 hf
    refine lv_iconst (v := 0) hx hb dX0_addToInfinite_67 rfl ?_
    exact b_X0_addToInfinite_68 C v0 v1 v5 w0 0 h_v0 k_v0 h_v1 k_v1 S H locs _ hf hP hS hW (lv_sub hl [1, 2, 4, 0] rfl)
  · have hf := if_f c6 hf
    refine lv_aload_n hx hb dX0_addToInfinite_52 rfl (lv_at hl 2 rfl) ?_
    refine lv_iload hx hb dX0_addToInfinite_53 (lv_at hl 3 rfl) ?_
    refine x_aft_z (x_runV (As := [.int v4]) (rest := []) C hP hS (c_X2_isMinus (l := l) C.2.2.2.2.2.2.2.2.2.1 hW h_v1 k_v1 rfl H.size) h_v1 k_v1 (by decide) rfl rfl km_X2_isMinus ki_X2_isMinus qm_X0_31 ⟨(Nat.le_of_ble_eq_true rfl), (Nat.le_of_ble_eq_true rfl)⟩ rfl hl.1 rfl (Nat.le_of_ble_eq_true rfl) ⟨Nat.zero_le _, Nat.zero_le _⟩ dX0_addToInfinite_55) hS (fun H locs hP hS hW z11 => ?_)
    refine lv_iload hx hb dX0_addToInfinite_58 (lv_at hl 4 rfl) ?_
    refine lv_icmp_eq (tgt := 67) hx hb dX0_addToInfinite_60 (by decide) (fun c12 => ?_) (fun c12 => ?_)
    · have hf := if_t c12 hf
      refine lv_iconst (v := 0) hx hb dX0_addToInfinite_67 rfl ?_
      exact b_X0_addToInfinite_68 C v0 v1 v5 w0 0 h_v0 k_v0 h_v1 k_v1 S H locs _ hf hP hS hW (lv_sub hl [1, 2, 4, 0] rfl)
    · have hf := if_f c12 hf
      refine lv_iconst (v := 1) hx hb dX0_addToInfinite_63 rfl ?_
      refine lv_goto (tgt := 68) hx hb dX0_addToInfinite_64 (by decide) ?_
      exact b_X0_addToInfinite_68 C v0 v1 v5 w0 1 h_v0 k_v0 h_v1 k_v1 S H locs _ hf hP hS hW (lv_sub hl [1, 2, 4, 0] rfl)
set_option maxRecDepth 100000 in
set_option maxHeartbeats 4000000 in
theorem b_X0_addToInfinite_18 {p : Program} {l : Launch} {e : Env} {s : State} {m : MethodId} {args : Array Value} {below : List Frame} {meth : Method} {c : Code} {V : EV} {G : GS} {S' : HS} (C : CX p s m args meth c RX0 cX0_addToInfinite 8 none V G) : ∀ (v0 : Nat) (v1 : Nat) (v2 : Int32) (v3 : Int32) (v4 : Int32) (w0 : Int32) (h_v0 : v0 ∈ G.1) (k_v0 : G.2.1 v0 = 0) (h_v1 : v1 ∈ G.1) (k_v1 : G.2.1 v1 = 2) (S : HS) (H : Heap) (locs : List Loc) (ls : Array Slot), s_X0_addToInfinite_J18 v0 v1 v2 v3 v4 w0 S = S' → HP V G S H → va_S (AG G s.heap.size) s.heap H locs → WT G S → lv_has ls 8 [(0, .ref v0), (1, .ref v1), (2, .int v2), (3, .int v3), (4, .int v4)] → W p l e (RM 3 90) s m args below meth c H locs 0 0 (MQ below (QV V G S' s.heap.size) args s 0 0 (AG G s.heap.size)) (F0 m 18 ls [.int w0]) := by
  intro v0 v1 v2 v3 v4 w0 h_v0 k_v0 h_v1 k_v1 S H locs ls hf hP hS hW hl
  have hx := C.1
  have hb := C.2.1
  unfold s_X0_addToInfinite_J18 at hf
  refine lv_istore (lv' := [(5, .int w0), (0, .ref v0), (1, .ref v1), (2, .int v2), (3, .int v3), (4, .int v4)]) hx hb dX0_addToInfinite_18 hl (by decide) rfl (fun ls hl => ?_)
  refine lv_aload_n hx hb dX0_addToInfinite_20 rfl (lv_at hl 2 rfl) ?_
  refine lv_iload_n hx hb dX0_addToInfinite_21 rfl (lv_at hl 3 rfl) ?_
  refine x_aft_i (x_runV (As := [.int v2]) (rest := []) C hP hS (c_X2_addend (l := l) C.2.2.2.2.2.2.2.2.2.1 hW h_v1 k_v1 rfl H.size) h_v1 k_v1 (by decide) rfl rfl km_X2_addend ki_X2_addend qm_X0_54 ⟨(Nat.le_of_ble_eq_true rfl), (Nat.le_of_ble_eq_true rfl)⟩ rfl hl.1 rfl (Nat.le_of_ble_eq_true rfl) ⟨Nat.zero_le _, Nat.zero_le _⟩ dX0_addToInfinite_22) hS (fun H locs hP hS hW => ?_)
  refine lv_if_eq (tgt := 36) hx hb dX0_addToInfinite_25 (by decide) (fun c4 => ?_) (fun c4 => ?_)
  · have hf := if_t c4 hf
    refine lv_iconst (v := 1) hx hb dX0_addToInfinite_36 rfl ?_
    refine lv_goto (tgt := 41) hx hb dX0_addToInfinite_37 (by decide) ?_
    exact b_X0_addToInfinite_41 C v0 v1 v4 w0 1 h_v0 k_v0 h_v1 k_v1 S H locs _ hf hP hS hW (lv_sub hl [1, 2, 5, 0] rfl)
  · have hf := if_f c4 hf
    refine lv_aload_n hx hb dX0_addToInfinite_28 rfl (lv_at hl 2 rfl) ?_
    refine lv_iload_n hx hb dX0_addToInfinite_29 rfl (lv_at hl 4 rfl) ?_
    refine x_aft_i (x_runV (As := [.int v3]) (rest := []) C hP hS (c_X2_addend (l := l) C.2.2.2.2.2.2.2.2.2.1 hW h_v1 k_v1 rfl H.size) h_v1 k_v1 (by decide) rfl rfl km_X2_addend ki_X2_addend qm_X0_54 ⟨(Nat.le_of_ble_eq_true rfl), (Nat.le_of_ble_eq_true rfl)⟩ rfl hl.1 rfl (Nat.le_of_ble_eq_true rfl) ⟨Nat.zero_le _, Nat.zero_le _⟩ dX0_addToInfinite_30) hS (fun H locs hP hS hW => ?_)
    refine lv_if_ne (tgt := 40) hx hb dX0_addToInfinite_33 (by decide) (fun c13 => ?_) (fun c13 => ?_)
    · have hf := if_f c13 hf
      refine lv_iconst (v := 0) hx hb dX0_addToInfinite_40 rfl ?_
      exact b_X0_addToInfinite_41 C v0 v1 v4 w0 0 h_v0 k_v0 h_v1 k_v1 S H locs _ hf hP hS hW (lv_sub hl [1, 2, 5, 0] rfl)
    · have hf := if_t c13 hf
      refine lv_iconst (v := 1) hx hb dX0_addToInfinite_36 rfl ?_
      refine lv_goto (tgt := 41) hx hb dX0_addToInfinite_37 (by decide) ?_
      exact b_X0_addToInfinite_41 C v0 v1 v4 w0 1 h_v0 k_v0 h_v1 k_v1 S H locs _ hf hP hS hW (lv_sub hl [1, 2, 5, 0] rfl)
set_option maxRecDepth 100000 in
set_option maxHeartbeats 4000000 in
theorem c_X0_addToInfinite {l : Launch} {V : EV} {G : GS} {S : HS} {a : Nat} {p0 : Nat} {p1 : Int32} {p2 : Int32} {p3 : Int32} {S' : HS} (hN : G.1.Nodup) (hW : WT G S) (h_a : a ∈ G.1) (k_a : G.2.1 a = 0) (h_p0 : p0 ∈ G.1) (k_p0 : G.2.1 p0 = 2) (hf : s_X0_addToInfinite a p0 p1 p2 p3 S = S') : MetV l yX0_addToInfinite cX0_addToInfinite 8 3 90 V G S [.ref a, .ref p0, .int p1, .int p2, .int p3] S' := by
  intro sz
  refine x_in RX0 rfl (by decide +kernel) hN (Nat.le_of_ble_eq_true rfl) (fun p e s m args below meth c ls hsz hargs hnm C hP hS hl => ?_)
  subst hsz
  have hx := C.1
  have hb := C.2.1
  have hl : lv_has ls 8 [(0, .ref a), (1, .ref p0), (2, .int p1), (3, .int p2), (4, .int p3)] := hl
  unfold s_X0_addToInfinite at hf
  refine lv_aload_n hx hb dX0_addToInfinite_0 rfl (lv_at hl 1 rfl) ?_
  refine lv_iload_n hx hb dX0_addToInfinite_1 rfl (lv_at hl 2 rfl) ?_
  refine x_aft_z (x_runV (As := [.int p1]) (rest := []) C hP hS (c_X2_isMinus (l := l) C.2.2.2.2.2.2.2.2.2.1 hW h_p0 k_p0 rfl s.heap.size) h_p0 k_p0 (by decide) rfl rfl km_X2_isMinus ki_X2_isMinus qm_X0_31 ⟨(Nat.le_of_ble_eq_true rfl), (Nat.le_of_ble_eq_true rfl)⟩ rfl hl.1 rfl (Nat.le_of_ble_eq_true rfl) ⟨Nat.zero_le _, Nat.zero_le _⟩ dX0_addToInfinite_2) hS (fun H locs hP hS hW z1 => ?_)
  refine lv_aload_n hx hb dX0_addToInfinite_5 rfl (lv_at hl 1 rfl) ?_
  refine lv_iload_n hx hb dX0_addToInfinite_6 rfl (lv_at hl 3 rfl) ?_
  refine x_aft_z (x_runV (As := [.int p2]) (rest := [.int (s_X2_isMinus p0 p1 S)]) C hP hS (c_X2_isMinus (l := l) C.2.2.2.2.2.2.2.2.2.1 hW h_p0 k_p0 rfl H.size) h_p0 k_p0 (by decide) rfl rfl km_X2_isMinus ki_X2_isMinus qm_X0_31 ⟨(Nat.le_of_ble_eq_true rfl), (Nat.le_of_ble_eq_true rfl)⟩ rfl hl.1 rfl (Nat.le_of_ble_eq_true rfl) ⟨Nat.zero_le _, Nat.zero_le _⟩ dX0_addToInfinite_7) hS (fun H locs hP hS hW z2 => ?_)
  refine lv_icmp_eq (tgt := 17) hx hb dX0_addToInfinite_10 (by decide) (fun c3 => ?_) (fun c3 => ?_)
  · have hf := if_t c3 hf
    refine lv_iconst (v := 0) hx hb dX0_addToInfinite_17 rfl ?_
    exact b_X0_addToInfinite_18 C a p0 p1 p2 p3 0 h_a k_a h_p0 k_p0 S H locs _ hf hP hS hW (lv_sub hl [0, 1, 2, 3, 4] rfl)
  · have hf := if_f c3 hf
    refine lv_iconst (v := 1) hx hb dX0_addToInfinite_13 rfl ?_
    refine lv_goto (tgt := 18) hx hb dX0_addToInfinite_14 (by decide) ?_
    exact b_X0_addToInfinite_18 C a p0 p1 p2 p3 1 h_a k_a h_p0 k_p0 S H locs _ hf hP hS hW (lv_sub hl [0, 1, 2, 3, 4] rfl)
def s_X2_exponent (a : Nat) (p0 : Int32) (S : HS) : Int32 :=
  (s_X2_size a p0 S) >>> ((gI S 202 a) &&& 31)
set_option maxRecDepth 100000 in
set_option maxHeartbeats 4000000 in
theorem c_X2_exponent {l : Launch} {V : EV} {G : GS} {S : HS} {a : Nat} {p0 : Int32} {r : Int32} (hN : G.1.Nodup) (hW : WT G S) (h_a : a ∈ G.1) (k_a : G.2.1 a = 2) (hf : s_X2_exponent a p0 S = r) : MetI l yX2_exponent cX2_exponent 2 .int 1 29 V G S [.ref a, .int p0] r S := by
  intro sz
  refine x_in RX2 rfl (by decide +kernel) hN (Nat.le_of_ble_eq_true rfl) (fun p e s m args below meth c ls hsz hargs hnm C hP hS hl => ?_)
  subst hsz
  have hx := C.1
  have hb := C.2.1
  have hl : lv_has ls 2 [(0, .ref a), (1, .int p0)] := hl
  unfold s_X2_exponent at hf
  refine lv_aload_n hx hb dX2_exponent_0 rfl (lv_at hl 0 rfl) ?_
  refine lv_iload_n hx hb dX2_exponent_1 rfl (lv_at hl 1 rfl) ?_
  refine x_aft_i (x_runV (As := [.int p0]) (rest := []) C hP hS (c_X2_size (l := l) C.2.2.2.2.2.2.2.2.2.1 hW h_a k_a rfl s.heap.size) h_a k_a (by decide) rfl rfl km_X2_size ki_X2_size qm_X2_36 ⟨(Nat.le_of_ble_eq_true rfl), (Nat.le_of_ble_eq_true rfl)⟩ rfl hl.1 rfl (Nat.le_of_ble_eq_true rfl) ⟨Nat.zero_le _, Nat.zero_le _⟩ dX2_exponent_2) hS (fun H locs hP hS hW => ?_)
  refine lv_aload_n hx hb dX2_exponent_5 rfl (lv_at hl 0 rfl) ?_
  refine gf_X2_18 C hP h_a k_a dX2_exponent_6 ?_
  refine lv_ishr hx hb dX2_exponent_9 ?_
  cases hf
  exact x_reti C hP hS hW dX2_exponent_10
def s_X2_place (a : Nat) (p0 : Int32) (S : HS) : Int32 :=
  ((if (s_X2_exponent a p0 S) < (1 : Int32) then 1 else s_X2_exponent a p0 S) - (gI S 203 a)) - (gI S 202 a)
set_option maxRecDepth 100000 in
set_option maxHeartbeats 4000000 in
theorem c_X2_place {l : Launch} {V : EV} {G : GS} {S : HS} {a : Nat} {p0 : Int32} {r : Int32} (hN : G.1.Nodup) (hW : WT G S) (h_a : a ∈ G.1) (k_a : G.2.1 a = 2) (hf : s_X2_place a p0 S = r) : MetI l yX2_place cX2_place 2 .int 2 58 V G S [.ref a, .int p0] r S := by
  intro sz
  refine x_in RX2 rfl (by decide +kernel) hN (Nat.le_of_ble_eq_true rfl) (fun p e s m args below meth c ls hsz hargs hnm C hP hS hl => ?_)
  subst hsz
  have hx := C.1
  have hb := C.2.1
  have hl : lv_has ls 2 [(0, .ref a), (1, .int p0)] := hl
  unfold s_X2_place at hf
  refine lv_aload_n hx hb dX2_place_0 rfl (lv_at hl 0 rfl) ?_
  refine lv_iload_n hx hb dX2_place_1 rfl (lv_at hl 1 rfl) ?_
  refine x_aft_i (x_runV (As := [.int p0]) (rest := []) C hP hS (c_X2_exponent (l := l) C.2.2.2.2.2.2.2.2.2.1 hW h_a k_a rfl s.heap.size) h_a k_a (by decide) rfl rfl km_X2_exponent ki_X2_exponent qm_X2_44 ⟨(Nat.le_of_ble_eq_true rfl), (Nat.le_of_ble_eq_true rfl)⟩ rfl hl.1 rfl (Nat.le_of_ble_eq_true rfl) ⟨Nat.zero_le _, Nat.zero_le _⟩ dX2_place_2) hS (fun H locs hP hS hW => ?_)
  refine lv_iconst (v := 1) hx hb dX2_place_5 rfl ?_
  refine va_mmax hx hb (C.2.2.2.1.trans hl.1.symm) C.2.2.2.2.1 (qmath_X2_59 C) (C.2.2.2.2.2.1 _ ks_J9_max_7cf53) (C.2.2.2.2.2.1 _ km_J9_max_7cf53.2.1) (C.2.2.2.2.2.1 _ km_J9_max_7cf53.1) (Nat.le_of_ble_eq_true rfl) (Nat.le_of_ble_eq_true rfl) (Nat.zero_le _) (Nat.zero_le _) dX2_place_6 ?_
  refine lv_aload_n hx hb dX2_place_9 rfl (lv_at hl 0 rfl) ?_
  refine gf_X2_21 C hP h_a k_a dX2_place_10 ?_
  refine lv_isub hx hb dX2_place_13 ?_
  refine lv_aload_n hx hb dX2_place_14 rfl (lv_at hl 0 rfl) ?_
  refine gf_X2_18 C hP h_a k_a dX2_place_15 ?_
  refine lv_isub hx hb dX2_place_18 ?_
  cases hf
  exact x_reti C hP hS hW dX2_place_19
def s_X11_bitLength_J32 (F : Nat) (k8 : Int32 → Int64 → Int32 → HS → Option Int32) (v2 : Int32) (v3 : Int64) (v5 : Int32) (S : HS) : Option Int32 :=
  bnd (v5 >>> ((1 : Int32) &&& 31) : Int32) fun x3 =>
  k8 v2 v3 x3 S
def s_X11_bitLength_L8 (F : Nat) (k41 : Int32 → Int64 → HS → Option Int32) : Nat → Int32 → Int64 → Int32 → HS → Option Int32
  | 0, _, _, _, _ => none
  | n + 1, v2, v3, v5, S => if v5 ≤ (0 : Int32) then
  k41 v2 v3 S
  else
  if (lg_cmp ((v3.toUInt64 >>> (v5.toInt64.toUInt64 &&& Int64.toUInt64 63)).toInt64) (0 : Int64)) = (0 : Int32) then
  s_X11_bitLength_J32 F (s_X11_bitLength_L8 F k41 n) v2 v3 v5 S
  else
  bnd ((v3.toUInt64 >>> (v5.toInt64.toUInt64 &&& Int64.toUInt64 63)).toInt64 : Int64) fun x4 =>
  bnd (v2 + v5 : Int32) fun x5 =>
  s_X11_bitLength_J32 F (s_X11_bitLength_L8 F k41 n) x5 x4 v5 S
def s_X11_bitLength_J41 (F : Nat) (v2 : Int32) (v3 : Int64) (S : HS) : Option Int32 :=
  if (lg_cmp v3 (0 : Int64)) = (0 : Int32) then
  some 0
  else
  some (v2 + 1)
def s_X11_bitLength (F : Nat) (p0 : Int64) (S : HS) : Option Int32 :=
  s_X11_bitLength_L8 F (s_X11_bitLength_J41 F) F 0 p0 32 S
set_option maxRecDepth 100000 in
set_option maxHeartbeats 4000000 in
theorem b_X11_bitLength_32 {p : Program} {l : Launch} {e : Env} {s : State} {m : MethodId} {args : Array Value} {below : List Frame} {meth : Method} {c : Code} {V : EV} {G : GS} {r : Int32} {F : Nat} (C : CX p s m args meth c RX11 cX11_bitLength 6 (some .int) V G) {k8 : Int32 → Int64 → Int32 → HS → Option Int32} (hk8 : ∀ (v2 : Int32) (v3 : Int64) (v5 : Int32) (S : HS) (H : Heap) (locs : List Loc) (ls : Array Slot), k8 v2 v3 v5 S = some r → HP V G S H → va_S (AG G s.heap.size) s.heap H locs → WT G S → lv_has ls 6 [(2, .int v2), (3, .long v3), (5, .int v5)] → W p l e (RM 0 0) s m args below meth c H locs 0 0 (MQ below (QI V G S r s.heap.size) args s 0 0 (AG G s.heap.size)) (F0 m 8 ls [])) : ∀ (v2 : Int32) (v3 : Int64) (v5 : Int32) (S : HS) (H : Heap) (locs : List Loc) (ls : Array Slot), s_X11_bitLength_J32 F k8 v2 v3 v5 S = some r → HP V G S H → va_S (AG G s.heap.size) s.heap H locs → WT G S → lv_has ls 6 [(2, .int v2), (3, .long v3), (5, .int v5)] → W p l e (RM 0 0) s m args below meth c H locs 0 0 (MQ below (QI V G S r s.heap.size) args s 0 0 (AG G s.heap.size)) (F0 m 32 ls []) := by
  intro v2 v3 v5 S H locs ls hf hP hS hW hl
  have hx := C.1
  have hb := C.2.1
  unfold s_X11_bitLength_J32 at hf
  refine lv_iload hx hb dX11_bitLength_32 (lv_at hl 2 rfl) ?_
  refine lv_iconst (v := 1) hx hb dX11_bitLength_34 rfl ?_
  refine lv_ishr hx hb dX11_bitLength_35 ?_
  obtain ⟨x3, ex3, hf⟩ := bnd_e hf
  refine nm_i ex3 ?_
  refine lv_istore (lv' := [(5, .int x3), (2, .int v2), (3, .long v3)]) hx hb dX11_bitLength_36 hl (by decide) rfl (fun ls hl => ?_)
  refine lv_goto (tgt := 8) hx hb dX11_bitLength_38 (by decide) ?_
  exact hk8 v2 v3 x3 S H locs _ hf hP hS hW (lv_sub hl [1, 2, 0] rfl)
set_option maxRecDepth 100000 in
set_option maxHeartbeats 4000000 in
theorem b_X11_bitLength_8 {p : Program} {l : Launch} {e : Env} {s : State} {m : MethodId} {args : Array Value} {below : List Frame} {meth : Method} {c : Code} {V : EV} {G : GS} {r : Int32} {F : Nat} (C : CX p s m args meth c RX11 cX11_bitLength 6 (some .int) V G) {k41 : Int32 → Int64 → HS → Option Int32} (hk41 : ∀ (v2 : Int32) (v3 : Int64) (S : HS) (H : Heap) (locs : List Loc) (ls : Array Slot), k41 v2 v3 S = some r → HP V G S H → va_S (AG G s.heap.size) s.heap H locs → WT G S → lv_has ls 6 [(2, .int v2), (3, .long v3)] → W p l e (RM 0 0) s m args below meth c H locs 0 0 (MQ below (QI V G S r s.heap.size) args s 0 0 (AG G s.heap.size)) (F0 m 41 ls [])) : ∀ n : Nat, ∀ (v2 : Int32) (v3 : Int64) (v5 : Int32) (S : HS) (H : Heap) (locs : List Loc) (ls : Array Slot), s_X11_bitLength_L8 F k41 n v2 v3 v5 S = some r → HP V G S H → va_S (AG G s.heap.size) s.heap H locs → WT G S → lv_has ls 6 [(2, .int v2), (3, .long v3), (5, .int v5)] → W p l e (RM 0 0) s m args below meth c H locs 0 0 (MQ below (QI V G S r s.heap.size) args s 0 0 (AG G s.heap.size)) (F0 m 8 ls []) := by
  intro n
  induction n with
  | zero =>
    intro v2 v3 v5 S H locs ls hf
    rw [s_X11_bitLength_L8] at hf
    cases hf
  | succ n ih =>
    intro v2 v3 v5 S H locs ls hf hP hS hW hl
    have hx := C.1
    have hb := C.2.1
    rw [s_X11_bitLength_L8] at hf
    refine lv_iload hx hb dX11_bitLength_8 (lv_at hl 2 rfl) ?_
    refine lv_if_le (tgt := 41) hx hb dX11_bitLength_10 (by decide) (fun c1 => ?_) (fun c1 => ?_)
    · have hf := if_t c1 hf
      exact hk41 v2 v3 S H locs _ hf hP hS hW (lv_sub hl [0, 1] rfl)
    · have hf := if_f c1 hf
      refine lv_lload_n hx hb dX11_bitLength_13 rfl (lv_at hl 1 rfl) ?_
      refine lv_iload hx hb dX11_bitLength_14 (lv_at hl 2 rfl) ?_
      refine lv_lushr hx hb dX11_bitLength_16 rfl ?_
      refine lv_lconst (v := 0) hx hb dX11_bitLength_17 rfl ?_
      refine W.lcmp hx hb dX11_bitLength_18 ?_
      refine lv_if_eq (tgt := 32) hx hb dX11_bitLength_19 (by decide) (fun c2 => ?_) (fun c2 => ?_)
      · have hf := if_t c2 hf
        exact b_X11_bitLength_32 C ih v2 v3 v5 S H locs _ hf hP hS hW (lv_sub hl [0, 1, 2] rfl)
      · have hf := if_f c2 hf
        refine lv_lload_n hx hb dX11_bitLength_22 rfl (lv_at hl 1 rfl) ?_
        refine lv_iload hx hb dX11_bitLength_23 (lv_at hl 2 rfl) ?_
        refine lv_lushr hx hb dX11_bitLength_25 rfl ?_
        obtain ⟨x4, ex4, hf⟩ := bnd_e hf
        refine nm_l ex4 ?_
        refine lv_lstore_n (lv' := [(3, .long x4), (2, .int v2), (5, .int v5)]) hx hb dX11_bitLength_26 rfl hl (by decide) rfl (fun ls hl => ?_)
        refine lv_iload_n hx hb dX11_bitLength_27 rfl (lv_at hl 1 rfl) ?_
        refine lv_iload hx hb dX11_bitLength_28 (lv_at hl 2 rfl) ?_
        refine lv_iadd hx hb dX11_bitLength_30 ?_
        obtain ⟨x5, ex5, hf⟩ := bnd_e hf
        refine nm_i ex5 ?_
        refine lv_istore_n (lv' := [(2, .int x5), (3, .long x4), (5, .int v5)]) hx hb dX11_bitLength_31 rfl hl (by decide) rfl (fun ls hl => ?_)
        exact b_X11_bitLength_32 C ih x5 x4 v5 S H locs _ hf hP hS hW (lv_sub hl [0, 1, 2] rfl)
set_option maxRecDepth 100000 in
set_option maxHeartbeats 4000000 in
theorem b_X11_bitLength_41 {p : Program} {l : Launch} {e : Env} {s : State} {m : MethodId} {args : Array Value} {below : List Frame} {meth : Method} {c : Code} {V : EV} {G : GS} {r : Int32} {F : Nat} (C : CX p s m args meth c RX11 cX11_bitLength 6 (some .int) V G) : ∀ (v2 : Int32) (v3 : Int64) (S : HS) (H : Heap) (locs : List Loc) (ls : Array Slot), s_X11_bitLength_J41 F v2 v3 S = some r → HP V G S H → va_S (AG G s.heap.size) s.heap H locs → WT G S → lv_has ls 6 [(2, .int v2), (3, .long v3)] → W p l e (RM 0 0) s m args below meth c H locs 0 0 (MQ below (QI V G S r s.heap.size) args s 0 0 (AG G s.heap.size)) (F0 m 41 ls []) := by
  intro v2 v3 S H locs ls hf hP hS hW hl
  have hx := C.1
  have hb := C.2.1
  unfold s_X11_bitLength_J41 at hf
  refine lv_lload_n hx hb dX11_bitLength_41 rfl (lv_at hl 1 rfl) ?_
  refine lv_lconst (v := 0) hx hb dX11_bitLength_42 rfl ?_
  refine W.lcmp hx hb dX11_bitLength_43 ?_
  refine lv_if_ne (tgt := 51) hx hb dX11_bitLength_44 (by decide) (fun c6 => ?_) (fun c6 => ?_)
  · have hf := if_f c6 hf
    refine lv_iload_n hx hb dX11_bitLength_51 rfl (lv_at hl 0 rfl) ?_
    refine lv_iconst (v := 1) hx hb dX11_bitLength_52 rfl ?_
    refine lv_iadd hx hb dX11_bitLength_53 ?_
    cases hf
    exact x_reti C hP hS hW dX11_bitLength_54
  · have hf := if_t c6 hf
    refine lv_iconst (v := 0) hx hb dX11_bitLength_47 rfl ?_
    refine lv_goto (tgt := 54) hx hb dX11_bitLength_48 (by decide) ?_
    cases hf
    exact x_reti C hP hS hW dX11_bitLength_54
set_option maxRecDepth 100000 in
set_option maxHeartbeats 4000000 in
theorem c_X11_bitLength {l : Launch} {V : EV} {G : GS} {S : HS} {F : Nat} {p0 : Int64} {r : Int32} (hN : G.1.Nodup) (hW : WT G S) (hf : s_X11_bitLength F p0 S = some r) : MetI l yX11_bitLength cX11_bitLength 6 .int 0 0 V G S [.long p0] r S := by
  intro sz
  refine x_in RX11 rfl (by decide +kernel) hN (Nat.le_of_ble_eq_true rfl) (fun p e s m args below meth c ls hsz hargs hnm C hP hS hl => ?_)
  subst hsz
  have hx := C.1
  have hb := C.2.1
  have hl : lv_has ls 6 [(0, .long p0)] := hl
  unfold s_X11_bitLength at hf
  refine lv_iconst (v := 0) hx hb dX11_bitLength_0 rfl ?_
  refine lv_istore_n (lv' := [(2, .int 0), (0, .long p0)]) hx hb dX11_bitLength_1 rfl hl (by decide) rfl (fun ls hl => ?_)
  refine lv_lload_n hx hb dX11_bitLength_2 rfl (lv_at hl 1 rfl) ?_
  refine lv_lstore_n (lv' := [(3, .long p0), (2, .int 0), (0, .long p0)]) hx hb dX11_bitLength_3 rfl hl (by decide) rfl (fun ls hl => ?_)
  refine lv_bipush (v := 32) hx hb dX11_bitLength_4 kc_bipush_32 ?_
  refine lv_istore (lv' := [(5, .int 32), (3, .long p0), (2, .int 0), (0, .long p0)]) hx hb dX11_bitLength_6 hl (by decide) rfl (fun ls hl => ?_)
  exact b_X11_bitLength_8 C (b_X11_bitLength_41 C) F 0 p0 32 S s.heap [] _ hf hP hS hW (lv_sub hl [2, 1, 0] rfl)
def s_X0_cut_J97 (w0 : Nat) (w1 : Int32) (S : HS) : Option HS :=
  if isZ w1 = true then
  bnd (uI S 7 w0 w1) fun S8 =>
  some S8
  else none
def s_X0_cut_J74 (v0 : Nat) (v1 : Int64) (v3 : Int32) (w0 : Nat) (w1 : Int32) (S : HS) : Option HS :=
  if isZ w1 = true then
  bnd (uI S 6 w0 w1) fun S5 =>
  if (lg_cmp (v1 &&& (((1 : Int64) <<< ((v3 - 1).toInt64 &&& 63)) - 1)) (0 : Int64)) = (0 : Int32) then
  s_X0_cut_J97 v0 0 S5
  else
  s_X0_cut_J97 v0 1 S5
  else none
def s_X0_cut (a : Nat) (p0 : Int64) (p1 : Int32) (S : HS) : Option HS :=
  if (0 : Int32) < p1 then
  if p1 ≤ (62 : Int32) then
  bnd (uJ S 5 a ((p0.toUInt64 >>> (p1.toInt64.toUInt64 &&& Int64.toUInt64 63)).toInt64)) fun S3 =>
  if (lg_cmp (((p0.toUInt64 >>> ((p1 - 1).toInt64.toUInt64 &&& Int64.toUInt64 63)).toInt64) &&& 1) (1 : Int64)) = (0 : Int32) then
  s_X0_cut_J74 a p0 p1 a 1 S3
  else
  s_X0_cut_J74 a p0 p1 a 0 S3
  else
  bnd (uJ S 5 a 0) fun S10 =>
  bnd (uI S10 6 a 0) fun S11 =>
  bnd (uI S11 7 a 1) fun S12 =>
  some S12
  else
  bnd (uJ S 5 a (p0 <<< ((-p1).toInt64 &&& 63))) fun S13 =>
  bnd (uI S13 6 a 0) fun S14 =>
  bnd (uI S14 7 a 0) fun S15 =>
  some S15
set_option maxRecDepth 100000 in
set_option maxHeartbeats 4000000 in
theorem b_X0_cut_97 {p : Program} {l : Launch} {e : Env} {s : State} {m : MethodId} {args : Array Value} {below : List Frame} {meth : Method} {c : Code} {V : EV} {G : GS} {S' : HS} (C : CX p s m args meth c RX0 cX0_cut 4 none V G) : ∀ (w0 : Nat) (w1 : Int32) (h_w0 : w0 ∈ G.1) (k_w0 : G.2.1 w0 = 0) (S : HS) (H : Heap) (locs : List Loc) (ls : Array Slot), s_X0_cut_J97 w0 w1 S = some S' → HP V G S H → va_S (AG G s.heap.size) s.heap H locs → WT G S → lv_has ls 4 [] → W p l e (RM 0 0) s m args below meth c H locs 0 0 (MQ below (QV V G S' s.heap.size) args s 0 0 (AG G s.heap.size)) (F0 m 97 ls [.int w1, .ref w0]) := by
  intro w0 w1 h_w0 k_w0 S H locs ls hf hP hS hW hl
  have hx := C.1
  have hb := C.2.1
  unfold s_X0_cut_J97 at hf
  obtain ⟨h9, hf⟩ := if_s hf
  obtain ⟨S8, eS8, hf⟩ := bnd_e hf
  refine pf_X0_18 C hP hS h_w0 k_w0 h9 eS8 dX0_cut_97 (fun H locs hP hS => ?_)
  have hW : WT G S8 := by rw [eS8]; exact hW
  cases hf
  exact x_retv C hP hS hW dX0_cut_100
set_option maxRecDepth 100000 in
set_option maxHeartbeats 4000000 in
theorem b_X0_cut_74 {p : Program} {l : Launch} {e : Env} {s : State} {m : MethodId} {args : Array Value} {below : List Frame} {meth : Method} {c : Code} {V : EV} {G : GS} {S' : HS} (C : CX p s m args meth c RX0 cX0_cut 4 none V G) : ∀ (v0 : Nat) (v1 : Int64) (v3 : Int32) (w0 : Nat) (w1 : Int32) (h_v0 : v0 ∈ G.1) (k_v0 : G.2.1 v0 = 0) (h_w0 : w0 ∈ G.1) (k_w0 : G.2.1 w0 = 0) (S : HS) (H : Heap) (locs : List Loc) (ls : Array Slot), s_X0_cut_J74 v0 v1 v3 w0 w1 S = some S' → HP V G S H → va_S (AG G s.heap.size) s.heap H locs → WT G S → lv_has ls 4 [(0, .ref v0), (1, .long v1), (3, .int v3)] → W p l e (RM 0 0) s m args below meth c H locs 0 0 (MQ below (QV V G S' s.heap.size) args s 0 0 (AG G s.heap.size)) (F0 m 74 ls [.int w1, .ref w0]) := by
  intro v0 v1 v3 w0 w1 h_v0 k_v0 h_w0 k_w0 S H locs ls hf hP hS hW hl
  have hx := C.1
  have hb := C.2.1
  unfold s_X0_cut_J74 at hf
  obtain ⟨h6, hf⟩ := if_s hf
  obtain ⟨S5, eS5, hf⟩ := bnd_e hf
  refine pf_X0_15 C hP hS h_w0 k_w0 h6 eS5 dX0_cut_74 (fun H locs hP hS => ?_)
  have hW : WT G S5 := by rw [eS5]; exact hW
  refine lv_aload_n hx hb dX0_cut_77 rfl (lv_at hl 0 rfl) ?_
  refine lv_lload_n hx hb dX0_cut_78 rfl (lv_at hl 1 rfl) ?_
  refine lv_lconst (v := 1) hx hb dX0_cut_79 rfl ?_
  refine lv_iload_n hx hb dX0_cut_80 rfl (lv_at hl 2 rfl) ?_
  refine lv_iconst (v := 1) hx hb dX0_cut_81 rfl ?_
  refine lv_isub hx hb dX0_cut_82 ?_
  refine lv_lshl hx hb dX0_cut_83 rfl ?_
  refine lv_lconst (v := 1) hx hb dX0_cut_84 rfl ?_
  refine lv_lsub hx hb dX0_cut_85 ?_
  refine lv_land hx hb dX0_cut_86 ?_
  refine lv_lconst (v := 0) hx hb dX0_cut_87 rfl ?_
  refine W.lcmp hx hb dX0_cut_88 ?_
  refine lv_if_eq (tgt := 96) hx hb dX0_cut_89 (by decide) (fun c7 => ?_) (fun c7 => ?_)
  · have hf := if_t c7 hf
    refine lv_iconst (v := 0) hx hb dX0_cut_96 rfl ?_
    exact b_X0_cut_97 C v0 0 h_v0 k_v0 S5 H locs _ hf hP hS hW (lv_sub hl [] rfl)
  · have hf := if_f c7 hf
    refine lv_iconst (v := 1) hx hb dX0_cut_92 rfl ?_
    refine lv_goto (tgt := 97) hx hb dX0_cut_93 (by decide) ?_
    exact b_X0_cut_97 C v0 1 h_v0 k_v0 S5 H locs _ hf hP hS hW (lv_sub hl [] rfl)
set_option maxRecDepth 100000 in
set_option maxHeartbeats 4000000 in
theorem c_X0_cut {l : Launch} {V : EV} {G : GS} {S : HS} {a : Nat} {p0 : Int64} {p1 : Int32} {S' : HS} (hN : G.1.Nodup) (hW : WT G S) (h_a : a ∈ G.1) (k_a : G.2.1 a = 0) (hf : s_X0_cut a p0 p1 S = some S') : MetV l yX0_cut cX0_cut 4 0 0 V G S [.ref a, .long p0, .int p1] S' := by
  intro sz
  refine x_in RX0 rfl (by decide +kernel) hN (Nat.le_of_ble_eq_true rfl) (fun p e s m args below meth c ls hsz hargs hnm C hP hS hl => ?_)
  subst hsz
  have hx := C.1
  have hb := C.2.1
  have hl : lv_has ls 4 [(0, .ref a), (1, .long p0), (3, .int p1)] := hl
  unfold s_X0_cut at hf
  refine lv_iload_n hx hb dX0_cut_0 rfl (lv_at hl 2 rfl) ?_
  refine lv_if_gt (tgt := 25) hx hb dX0_cut_1 (by decide) (fun c1 => ?_) (fun c1 => ?_)
  · have hf := if_t c1 hf
    refine lv_iload_n hx hb dX0_cut_25 rfl (lv_at hl 2 rfl) ?_
    refine lv_bipush (v := 62) hx hb dX0_cut_26 kc_bipush_62 ?_
    refine lv_icmp_le (tgt := 49) hx hb dX0_cut_28 (by decide) (fun c2 => ?_) (fun c2 => ?_)
    · have hf := if_t c2 hf
      refine lv_aload_n hx hb dX0_cut_49 rfl (lv_at hl 0 rfl) ?_
      refine lv_lload_n hx hb dX0_cut_50 rfl (lv_at hl 1 rfl) ?_
      refine lv_iload_n hx hb dX0_cut_51 rfl (lv_at hl 2 rfl) ?_
      refine lv_lushr hx hb dX0_cut_52 rfl ?_
      obtain ⟨S3, eS3, hf⟩ := bnd_e hf
      refine pf_X0_104 C hP hS h_a k_a eS3 dX0_cut_53 (fun H locs hP hS => ?_)
      have hW : WT G S3 := by rw [eS3]; exact hW
      refine lv_aload_n hx hb dX0_cut_56 rfl (lv_at hl 0 rfl) ?_
      refine lv_lload_n hx hb dX0_cut_57 rfl (lv_at hl 1 rfl) ?_
      refine lv_iload_n hx hb dX0_cut_58 rfl (lv_at hl 2 rfl) ?_
      refine lv_iconst (v := 1) hx hb dX0_cut_59 rfl ?_
      refine lv_isub hx hb dX0_cut_60 ?_
      refine lv_lushr hx hb dX0_cut_61 rfl ?_
      refine lv_lconst (v := 1) hx hb dX0_cut_62 rfl ?_
      refine lv_land hx hb dX0_cut_63 ?_
      refine lv_lconst (v := 1) hx hb dX0_cut_64 rfl ?_
      refine W.lcmp hx hb dX0_cut_65 ?_
      refine lv_if_ne (tgt := 73) hx hb dX0_cut_66 (by decide) (fun c4 => ?_) (fun c4 => ?_)
      · have hf := if_f c4 hf
        refine lv_iconst (v := 0) hx hb dX0_cut_73 rfl ?_
        exact b_X0_cut_74 C a p0 p1 a 0 h_a k_a h_a k_a S3 H locs _ hf hP hS hW (lv_sub hl [0, 1, 2] rfl)
      · have hf := if_t c4 hf
        refine lv_iconst (v := 1) hx hb dX0_cut_69 rfl ?_
        refine lv_goto (tgt := 74) hx hb dX0_cut_70 (by decide) ?_
        exact b_X0_cut_74 C a p0 p1 a 1 h_a k_a h_a k_a S3 H locs _ hf hP hS hW (lv_sub hl [0, 1, 2] rfl)
    · have hf := if_f c2 hf
      refine lv_aload_n hx hb dX0_cut_31 rfl (lv_at hl 0 rfl) ?_
      refine lv_lconst (v := 0) hx hb dX0_cut_32 rfl ?_
      obtain ⟨S10, eS10, hf⟩ := bnd_e hf
      refine pf_X0_104 C hP hS h_a k_a eS10 dX0_cut_33 (fun H locs hP hS => ?_)
      have hW : WT G S10 := by rw [eS10]; exact hW
      refine lv_aload_n hx hb dX0_cut_36 rfl (lv_at hl 0 rfl) ?_
      refine lv_iconst (v := 0) hx hb dX0_cut_37 rfl ?_
      obtain ⟨S11, eS11, hf⟩ := bnd_e hf
      refine pf_X0_15 C hP hS h_a k_a isZ_0 eS11 dX0_cut_38 (fun H locs hP hS => ?_)
      have hW : WT G S11 := by rw [eS11]; exact hW
      refine lv_aload_n hx hb dX0_cut_41 rfl (lv_at hl 0 rfl) ?_
      refine lv_iconst (v := 1) hx hb dX0_cut_42 rfl ?_
      obtain ⟨S12, eS12, hf⟩ := bnd_e hf
      refine pf_X0_18 C hP hS h_a k_a isZ_1 eS12 dX0_cut_43 (fun H locs hP hS => ?_)
      have hW : WT G S12 := by rw [eS12]; exact hW
      refine lv_goto (tgt := 100) hx hb dX0_cut_46 (by decide) ?_
      cases hf
      exact x_retv C hP hS hW dX0_cut_100
  · have hf := if_f c1 hf
    refine lv_aload_n hx hb dX0_cut_4 rfl (lv_at hl 0 rfl) ?_
    refine lv_lload_n hx hb dX0_cut_5 rfl (lv_at hl 1 rfl) ?_
    refine lv_iload_n hx hb dX0_cut_6 rfl (lv_at hl 2 rfl) ?_
    refine lv_ineg hx hb dX0_cut_7 ?_
    refine lv_lshl hx hb dX0_cut_8 rfl ?_
    obtain ⟨S13, eS13, hf⟩ := bnd_e hf
    refine pf_X0_104 C hP hS h_a k_a eS13 dX0_cut_9 (fun H locs hP hS => ?_)
    have hW : WT G S13 := by rw [eS13]; exact hW
    refine lv_aload_n hx hb dX0_cut_12 rfl (lv_at hl 0 rfl) ?_
    refine lv_iconst (v := 0) hx hb dX0_cut_13 rfl ?_
    obtain ⟨S14, eS14, hf⟩ := bnd_e hf
    refine pf_X0_15 C hP hS h_a k_a isZ_0 eS14 dX0_cut_14 (fun H locs hP hS => ?_)
    have hW : WT G S14 := by rw [eS14]; exact hW
    refine lv_aload_n hx hb dX0_cut_17 rfl (lv_at hl 0 rfl) ?_
    refine lv_iconst (v := 0) hx hb dX0_cut_18 rfl ?_
    obtain ⟨S15, eS15, hf⟩ := bnd_e hf
    refine pf_X0_18 C hP hS h_a k_a isZ_0 eS15 dX0_cut_19 (fun H locs hP hS => ?_)
    have hW : WT G S15 := by rw [eS15]; exact hW
    refine lv_goto (tgt := 100) hx hb dX0_cut_22 (by decide) ?_
    cases hf
    exact x_retv C hP hS hW dX0_cut_100
def s_X0_goesUp_J155 (v0 : Nat) (v6 : Int32) (S : HS) : Option Int32 :=
  if (((gI S 0 v0) >>> (v6 &&& 31)) &&& 1) = (1 : Int32) then
  some 1
  else
  some 0
def s_X0_goesUp_J142 (v0 : Nat) (v4 : Int32) (v5 : Int32) (w0 : Int32) (w1 : Int32) (S : HS) : Option Int32 :=
  bnd (w0 ||| w1 : Int32) fun x20 =>
  if v4 = (0 : Int32) then
  if v5 = (0 : Int32) then
  some 0
  else
  s_X0_goesUp_J155 v0 x20 S
  else
  s_X0_goesUp_J155 v0 x20 S
def s_X0_goesUp_J130 (v0 : Nat) (v4 : Int32) (v5 : Int32) (w0 : Int32) (w1 : Int32) (S : HS) : Option Int32 :=
  if v5 = (0 : Int32) then
  s_X0_goesUp_J142 v0 v4 v5 (w0 ||| w1) 0 S
  else
  s_X0_goesUp_J142 v0 v4 v5 (w0 ||| w1) 8 S
def s_X0_goesUp_J119 (v0 : Nat) (v4 : Int32) (v5 : Int32) (w0 : Int32) (w1 : Int32) (S : HS) : Option Int32 :=
  if v4 = (0 : Int32) then
  s_X0_goesUp_J130 v0 v4 v5 (w0 ||| w1) 0 S
  else
  s_X0_goesUp_J130 v0 v4 v5 (w0 ||| w1) 4 S
def s_X0_goesUp_J110 (v0 : Nat) (v3 : Int32) (v4 : Int32) (v5 : Int32) (w0 : Int32) (S : HS) : Option Int32 :=
  if v3 = (0 : Int32) then
  s_X0_goesUp_J119 v0 v4 v5 w0 0 S
  else
  s_X0_goesUp_J119 v0 v4 v5 w0 2 S
def s_X0_goesUp (a : Nat) (p0 : Int32) (p1 : Int32) (p2 : Int32) (p3 : Int32) (p4 : Int32) (S : HS) : Option Int32 :=
  if p0 = 0 then
  if p3 = (0 : Int32) then
  some 0
  else
  if p4 = (0 : Int32) then
  if p2 = (0 : Int32) then
  some 0
  else
  some 1
  else
  some 1
  else
  if p0 = 1 then
  some 0
  else
  if p0 = 2 then
  if p1 = (0 : Int32) then
  some 0
  else
  if p3 = (0 : Int32) then
  if p4 = (0 : Int32) then
  some 0
  else
  some 1
  else
  some 1
  else
  if p0 = 3 then
  if p1 = (0 : Int32) then
  if p3 = (0 : Int32) then
  if p4 = (0 : Int32) then
  some 0
  else
  some 1
  else
  some 1
  else
  some 0
  else
  if p0 = 4 then
  if isZ p3 = true then
  some p3
  else none
  else
  if p1 = (0 : Int32) then
  s_X0_goesUp_J110 a p2 p3 p4 0 S
  else
  s_X0_goesUp_J110 a p2 p3 p4 1 S
set_option maxRecDepth 100000 in
set_option maxHeartbeats 4000000 in
theorem b_X0_goesUp_155 {p : Program} {l : Launch} {e : Env} {s : State} {m : MethodId} {args : Array Value} {below : List Frame} {meth : Method} {c : Code} {V : EV} {G : GS} {r : Int32} (C : CX p s m args meth c RX0 cX0_goesUp 7 (some .boolean) V G) : ∀ (v0 : Nat) (v6 : Int32) (h_v0 : v0 ∈ G.1) (k_v0 : G.2.1 v0 = 0) (S : HS) (H : Heap) (locs : List Loc) (ls : Array Slot), s_X0_goesUp_J155 v0 v6 S = some r → HP V G S H → va_S (AG G s.heap.size) s.heap H locs → WT G S → lv_has ls 7 [(0, .ref v0), (6, .int v6)] → W p l e (RM 0 0) s m args below meth c H locs 0 0 (MQ below (QZ V G S r s.heap.size) args s 0 0 (AG G s.heap.size)) (F0 m 155 ls []) := by
  intro v0 v6 h_v0 k_v0 S H locs ls hf hP hS hW hl
  have hx := C.1
  have hb := C.2.1
  unfold s_X0_goesUp_J155 at hf
  refine lv_aload_n hx hb dX0_goesUp_155 rfl (lv_at hl 0 rfl) ?_
  refine gf_X0_129 C hP h_v0 k_v0 dX0_goesUp_156 ?_
  refine lv_iload hx hb dX0_goesUp_159 (lv_at hl 1 rfl) ?_
  refine lv_ishr hx hb dX0_goesUp_161 ?_
  refine lv_iconst (v := 1) hx hb dX0_goesUp_162 rfl ?_
  refine lv_iand hx hb dX0_goesUp_163 ?_
  refine lv_iconst (v := 1) hx hb dX0_goesUp_164 rfl ?_
  refine lv_icmp_ne (tgt := 172) hx hb dX0_goesUp_165 (by decide) (fun c22 => ?_) (fun c22 => ?_)
  · have hf := if_f c22 hf
    refine lv_iconst (v := 0) hx hb dX0_goesUp_172 rfl ?_
    cases hf
    exact x_retZ C hP hS hW isZ_0 dX0_goesUp_173
  · have hf := if_t c22 hf
    refine lv_iconst (v := 1) hx hb dX0_goesUp_168 rfl ?_
    refine lv_goto (tgt := 173) hx hb dX0_goesUp_169 (by decide) ?_
    cases hf
    exact x_retZ C hP hS hW isZ_1 dX0_goesUp_173
set_option maxRecDepth 100000 in
set_option maxHeartbeats 4000000 in
theorem b_X0_goesUp_142 {p : Program} {l : Launch} {e : Env} {s : State} {m : MethodId} {args : Array Value} {below : List Frame} {meth : Method} {c : Code} {V : EV} {G : GS} {r : Int32} (C : CX p s m args meth c RX0 cX0_goesUp 7 (some .boolean) V G) : ∀ (v0 : Nat) (v4 : Int32) (v5 : Int32) (w0 : Int32) (w1 : Int32) (h_v0 : v0 ∈ G.1) (k_v0 : G.2.1 v0 = 0) (S : HS) (H : Heap) (locs : List Loc) (ls : Array Slot), s_X0_goesUp_J142 v0 v4 v5 w0 w1 S = some r → HP V G S H → va_S (AG G s.heap.size) s.heap H locs → WT G S → lv_has ls 7 [(0, .ref v0), (4, .int v4), (5, .int v5)] → W p l e (RM 0 0) s m args below meth c H locs 0 0 (MQ below (QZ V G S r s.heap.size) args s 0 0 (AG G s.heap.size)) (F0 m 142 ls [.int w1, .int w0]) := by
  intro v0 v4 v5 w0 w1 h_v0 k_v0 S H locs ls hf hP hS hW hl
  have hx := C.1
  have hb := C.2.1
  unfold s_X0_goesUp_J142 at hf
  refine lv_ior hx hb dX0_goesUp_142 ?_
  obtain ⟨x20, ex20, hf⟩ := bnd_e hf
  refine nm_i ex20 ?_
  refine lv_istore (lv' := [(6, .int x20), (0, .ref v0), (4, .int v4), (5, .int v5)]) hx hb dX0_goesUp_143 hl (by decide) rfl (fun ls hl => ?_)
  refine lv_iload hx hb dX0_goesUp_145 (lv_at hl 2 rfl) ?_
  refine lv_if_ne (tgt := 155) hx hb dX0_goesUp_147 (by decide) (fun c21 => ?_) (fun c21 => ?_)
  · have hf := if_f c21 hf
    exact b_X0_goesUp_155 C v0 x20 h_v0 k_v0 S H locs _ hf hP hS hW (lv_sub hl [1, 0] rfl)
  · have hf := if_t c21 hf
    refine lv_iload hx hb dX0_goesUp_150 (lv_at hl 3 rfl) ?_
    refine lv_if_eq (tgt := 172) hx hb dX0_goesUp_152 (by decide) (fun c23 => ?_) (fun c23 => ?_)
    · have hf := if_t c23 hf
      refine lv_iconst (v := 0) hx hb dX0_goesUp_172 rfl ?_
      cases hf
      exact x_retZ C hP hS hW isZ_0 dX0_goesUp_173
    · have hf := if_f c23 hf
      exact b_X0_goesUp_155 C v0 x20 h_v0 k_v0 S H locs _ hf hP hS hW (lv_sub hl [1, 0] rfl)
set_option maxRecDepth 100000 in
set_option maxHeartbeats 4000000 in
theorem b_X0_goesUp_130 {p : Program} {l : Launch} {e : Env} {s : State} {m : MethodId} {args : Array Value} {below : List Frame} {meth : Method} {c : Code} {V : EV} {G : GS} {r : Int32} (C : CX p s m args meth c RX0 cX0_goesUp 7 (some .boolean) V G) : ∀ (v0 : Nat) (v4 : Int32) (v5 : Int32) (w0 : Int32) (w1 : Int32) (h_v0 : v0 ∈ G.1) (k_v0 : G.2.1 v0 = 0) (S : HS) (H : Heap) (locs : List Loc) (ls : Array Slot), s_X0_goesUp_J130 v0 v4 v5 w0 w1 S = some r → HP V G S H → va_S (AG G s.heap.size) s.heap H locs → WT G S → lv_has ls 7 [(0, .ref v0), (4, .int v4), (5, .int v5)] → W p l e (RM 0 0) s m args below meth c H locs 0 0 (MQ below (QZ V G S r s.heap.size) args s 0 0 (AG G s.heap.size)) (F0 m 130 ls [.int w1, .int w0]) := by
  intro v0 v4 v5 w0 w1 h_v0 k_v0 S H locs ls hf hP hS hW hl
  have hx := C.1
  have hb := C.2.1
  unfold s_X0_goesUp_J130 at hf
  refine lv_ior hx hb dX0_goesUp_130 ?_
  refine lv_iload hx hb dX0_goesUp_131 (lv_at hl 2 rfl) ?_
  refine lv_if_eq (tgt := 141) hx hb dX0_goesUp_133 (by decide) (fun c19 => ?_) (fun c19 => ?_)
  · have hf := if_t c19 hf
    refine lv_iconst (v := 0) hx hb dX0_goesUp_141 rfl ?_
    exact b_X0_goesUp_142 C v0 v4 v5 (w0 ||| w1) 0 h_v0 k_v0 S H locs _ hf hP hS hW (lv_sub hl [0, 1, 2] rfl)
  · have hf := if_f c19 hf
    refine lv_bipush (v := 8) hx hb dX0_goesUp_136 kc_bipush_8 ?_
    refine lv_goto (tgt := 142) hx hb dX0_goesUp_138 (by decide) ?_
    exact b_X0_goesUp_142 C v0 v4 v5 (w0 ||| w1) 8 h_v0 k_v0 S H locs _ hf hP hS hW (lv_sub hl [0, 1, 2] rfl)
set_option maxRecDepth 100000 in
set_option maxHeartbeats 4000000 in
theorem b_X0_goesUp_119 {p : Program} {l : Launch} {e : Env} {s : State} {m : MethodId} {args : Array Value} {below : List Frame} {meth : Method} {c : Code} {V : EV} {G : GS} {r : Int32} (C : CX p s m args meth c RX0 cX0_goesUp 7 (some .boolean) V G) : ∀ (v0 : Nat) (v4 : Int32) (v5 : Int32) (w0 : Int32) (w1 : Int32) (h_v0 : v0 ∈ G.1) (k_v0 : G.2.1 v0 = 0) (S : HS) (H : Heap) (locs : List Loc) (ls : Array Slot), s_X0_goesUp_J119 v0 v4 v5 w0 w1 S = some r → HP V G S H → va_S (AG G s.heap.size) s.heap H locs → WT G S → lv_has ls 7 [(0, .ref v0), (4, .int v4), (5, .int v5)] → W p l e (RM 0 0) s m args below meth c H locs 0 0 (MQ below (QZ V G S r s.heap.size) args s 0 0 (AG G s.heap.size)) (F0 m 119 ls [.int w1, .int w0]) := by
  intro v0 v4 v5 w0 w1 h_v0 k_v0 S H locs ls hf hP hS hW hl
  have hx := C.1
  have hb := C.2.1
  unfold s_X0_goesUp_J119 at hf
  refine lv_ior hx hb dX0_goesUp_119 ?_
  refine lv_iload hx hb dX0_goesUp_120 (lv_at hl 1 rfl) ?_
  refine lv_if_eq (tgt := 129) hx hb dX0_goesUp_122 (by decide) (fun c18 => ?_) (fun c18 => ?_)
  · have hf := if_t c18 hf
    refine lv_iconst (v := 0) hx hb dX0_goesUp_129 rfl ?_
    exact b_X0_goesUp_130 C v0 v4 v5 (w0 ||| w1) 0 h_v0 k_v0 S H locs _ hf hP hS hW (lv_sub hl [0, 1, 2] rfl)
  · have hf := if_f c18 hf
    refine lv_iconst (v := 4) hx hb dX0_goesUp_125 rfl ?_
    refine lv_goto (tgt := 130) hx hb dX0_goesUp_126 (by decide) ?_
    exact b_X0_goesUp_130 C v0 v4 v5 (w0 ||| w1) 4 h_v0 k_v0 S H locs _ hf hP hS hW (lv_sub hl [0, 1, 2] rfl)
set_option maxRecDepth 100000 in
set_option maxHeartbeats 4000000 in
theorem b_X0_goesUp_110 {p : Program} {l : Launch} {e : Env} {s : State} {m : MethodId} {args : Array Value} {below : List Frame} {meth : Method} {c : Code} {V : EV} {G : GS} {r : Int32} (C : CX p s m args meth c RX0 cX0_goesUp 7 (some .boolean) V G) : ∀ (v0 : Nat) (v3 : Int32) (v4 : Int32) (v5 : Int32) (w0 : Int32) (h_v0 : v0 ∈ G.1) (k_v0 : G.2.1 v0 = 0) (S : HS) (H : Heap) (locs : List Loc) (ls : Array Slot), s_X0_goesUp_J110 v0 v3 v4 v5 w0 S = some r → HP V G S H → va_S (AG G s.heap.size) s.heap H locs → WT G S → lv_has ls 7 [(0, .ref v0), (3, .int v3), (4, .int v4), (5, .int v5)] → W p l e (RM 0 0) s m args below meth c H locs 0 0 (MQ below (QZ V G S r s.heap.size) args s 0 0 (AG G s.heap.size)) (F0 m 110 ls [.int w0]) := by
  intro v0 v3 v4 v5 w0 h_v0 k_v0 S H locs ls hf hP hS hW hl
  have hx := C.1
  have hb := C.2.1
  unfold s_X0_goesUp_J110 at hf
  refine lv_iload_n hx hb dX0_goesUp_110 rfl (lv_at hl 1 rfl) ?_
  refine lv_if_eq (tgt := 118) hx hb dX0_goesUp_111 (by decide) (fun c17 => ?_) (fun c17 => ?_)
  · have hf := if_t c17 hf
    refine lv_iconst (v := 0) hx hb dX0_goesUp_118 rfl ?_
    exact b_X0_goesUp_119 C v0 v4 v5 w0 0 h_v0 k_v0 S H locs _ hf hP hS hW (lv_sub hl [0, 2, 3] rfl)
  · have hf := if_f c17 hf
    refine lv_iconst (v := 2) hx hb dX0_goesUp_114 rfl ?_
    refine lv_goto (tgt := 119) hx hb dX0_goesUp_115 (by decide) ?_
    exact b_X0_goesUp_119 C v0 v4 v5 w0 2 h_v0 k_v0 S H locs _ hf hP hS hW (lv_sub hl [0, 2, 3] rfl)
set_option maxRecDepth 100000 in
set_option maxHeartbeats 4000000 in
theorem c_X0_goesUp {l : Launch} {V : EV} {G : GS} {S : HS} {a : Nat} {p0 : Int32} {p1 : Int32} {p2 : Int32} {p3 : Int32} {p4 : Int32} {r : Int32} (hN : G.1.Nodup) (hW : WT G S) (h_a : a ∈ G.1) (k_a : G.2.1 a = 0) (hf : s_X0_goesUp a p0 p1 p2 p3 p4 S = some r) : MetZ l yX0_goesUp cX0_goesUp 7 0 0 V G S [.ref a, .int p0, .int p1, .int p2, .int p3, .int p4] r S := by
  intro sz
  refine x_in RX0 rfl (by decide +kernel) hN (Nat.le_of_ble_eq_true rfl) (fun p e s m args below meth c ls hsz hargs hnm C hP hS hl => ?_)
  subst hsz
  have hx := C.1
  have hb := C.2.1
  have hl : lv_has ls 7 [(0, .ref a), (1, .int p0), (2, .int p1), (3, .int p2), (4, .int p3), (5, .int p4)] := hl
  unfold s_X0_goesUp at hf
  refine lv_iload_n hx hb dX0_goesUp_0 rfl (lv_at hl 1 rfl) ?_
  by_cases c1 : p0 = 0
  · have hf := if_t c1 hf
    refine lv_tableIn (tgt := 36) (off := 35) hx hb dX0_goesUp_1 (by rw [c1]; decide) (by rw [c1]; decide) (by rw [c1]; rfl) (by decide) ?_
    refine lv_iload hx hb dX0_goesUp_36 (lv_at hl 4 rfl) ?_
    refine lv_if_eq (tgt := 54) hx hb dX0_goesUp_38 (by decide) (fun c2 => ?_) (fun c2 => ?_)
    · have hf := if_t c2 hf
      refine lv_iconst (v := 0) hx hb dX0_goesUp_54 rfl ?_
      cases hf
      exact x_retZ C hP hS hW isZ_0 dX0_goesUp_55
    · have hf := if_f c2 hf
      refine lv_iload hx hb dX0_goesUp_41 (lv_at hl 5 rfl) ?_
      refine lv_if_ne (tgt := 50) hx hb dX0_goesUp_43 (by decide) (fun c3 => ?_) (fun c3 => ?_)
      · have hf := if_f c3 hf
        refine lv_iconst (v := 1) hx hb dX0_goesUp_50 rfl ?_
        refine lv_goto (tgt := 55) hx hb dX0_goesUp_51 (by decide) ?_
        cases hf
        exact x_retZ C hP hS hW isZ_1 dX0_goesUp_55
      · have hf := if_t c3 hf
        refine lv_iload_n hx hb dX0_goesUp_46 rfl (lv_at hl 3 rfl) ?_
        refine lv_if_eq (tgt := 54) hx hb dX0_goesUp_47 (by decide) (fun c4 => ?_) (fun c4 => ?_)
        · have hf := if_t c4 hf
          refine lv_iconst (v := 0) hx hb dX0_goesUp_54 rfl ?_
          cases hf
          exact x_retZ C hP hS hW isZ_0 dX0_goesUp_55
        · have hf := if_f c4 hf
          refine lv_iconst (v := 1) hx hb dX0_goesUp_50 rfl ?_
          refine lv_goto (tgt := 55) hx hb dX0_goesUp_51 (by decide) ?_
          cases hf
          exact x_retZ C hP hS hW isZ_1 dX0_goesUp_55
  have hf := if_f c1 hf
  by_cases c5 : p0 = 1
  · have hf := if_t c5 hf
    refine lv_tableIn (tgt := 56) (off := 55) hx hb dX0_goesUp_1 (by rw [c5]; decide) (by rw [c5]; decide) (by rw [c5]; rfl) (by decide) ?_
    refine lv_iconst (v := 0) hx hb dX0_goesUp_56 rfl ?_
    cases hf
    exact x_retZ C hP hS hW isZ_0 dX0_goesUp_57
  have hf := if_f c5 hf
  by_cases c6 : p0 = 2
  · have hf := if_t c6 hf
    refine lv_tableIn (tgt := 58) (off := 57) hx hb dX0_goesUp_1 (by rw [c6]; decide) (by rw [c6]; decide) (by rw [c6]; rfl) (by decide) ?_
    refine lv_iload_n hx hb dX0_goesUp_58 rfl (lv_at hl 2 rfl) ?_
    refine lv_if_eq (tgt := 76) hx hb dX0_goesUp_59 (by decide) (fun c7 => ?_) (fun c7 => ?_)
    · have hf := if_t c7 hf
      refine lv_iconst (v := 0) hx hb dX0_goesUp_76 rfl ?_
      cases hf
      exact x_retZ C hP hS hW isZ_0 dX0_goesUp_77
    · have hf := if_f c7 hf
      refine lv_iload hx hb dX0_goesUp_62 (lv_at hl 4 rfl) ?_
      refine lv_if_ne (tgt := 72) hx hb dX0_goesUp_64 (by decide) (fun c8 => ?_) (fun c8 => ?_)
      · have hf := if_f c8 hf
        refine lv_iconst (v := 1) hx hb dX0_goesUp_72 rfl ?_
        refine lv_goto (tgt := 77) hx hb dX0_goesUp_73 (by decide) ?_
        cases hf
        exact x_retZ C hP hS hW isZ_1 dX0_goesUp_77
      · have hf := if_t c8 hf
        refine lv_iload hx hb dX0_goesUp_67 (lv_at hl 5 rfl) ?_
        refine lv_if_eq (tgt := 76) hx hb dX0_goesUp_69 (by decide) (fun c9 => ?_) (fun c9 => ?_)
        · have hf := if_t c9 hf
          refine lv_iconst (v := 0) hx hb dX0_goesUp_76 rfl ?_
          cases hf
          exact x_retZ C hP hS hW isZ_0 dX0_goesUp_77
        · have hf := if_f c9 hf
          refine lv_iconst (v := 1) hx hb dX0_goesUp_72 rfl ?_
          refine lv_goto (tgt := 77) hx hb dX0_goesUp_73 (by decide) ?_
          cases hf
          exact x_retZ C hP hS hW isZ_1 dX0_goesUp_77
  have hf := if_f c6 hf
  by_cases c10 : p0 = 3
  · have hf := if_t c10 hf
    refine lv_tableIn (tgt := 78) (off := 77) hx hb dX0_goesUp_1 (by rw [c10]; decide) (by rw [c10]; decide) (by rw [c10]; rfl) (by decide) ?_
    refine lv_iload_n hx hb dX0_goesUp_78 rfl (lv_at hl 2 rfl) ?_
    refine lv_if_ne (tgt := 96) hx hb dX0_goesUp_79 (by decide) (fun c11 => ?_) (fun c11 => ?_)
    · have hf := if_f c11 hf
      refine lv_iconst (v := 0) hx hb dX0_goesUp_96 rfl ?_
      cases hf
      exact x_retZ C hP hS hW isZ_0 dX0_goesUp_97
    · have hf := if_t c11 hf
      refine lv_iload hx hb dX0_goesUp_82 (lv_at hl 4 rfl) ?_
      refine lv_if_ne (tgt := 92) hx hb dX0_goesUp_84 (by decide) (fun c12 => ?_) (fun c12 => ?_)
      · have hf := if_f c12 hf
        refine lv_iconst (v := 1) hx hb dX0_goesUp_92 rfl ?_
        refine lv_goto (tgt := 97) hx hb dX0_goesUp_93 (by decide) ?_
        cases hf
        exact x_retZ C hP hS hW isZ_1 dX0_goesUp_97
      · have hf := if_t c12 hf
        refine lv_iload hx hb dX0_goesUp_87 (lv_at hl 5 rfl) ?_
        refine lv_if_eq (tgt := 96) hx hb dX0_goesUp_89 (by decide) (fun c13 => ?_) (fun c13 => ?_)
        · have hf := if_t c13 hf
          refine lv_iconst (v := 0) hx hb dX0_goesUp_96 rfl ?_
          cases hf
          exact x_retZ C hP hS hW isZ_0 dX0_goesUp_97
        · have hf := if_f c13 hf
          refine lv_iconst (v := 1) hx hb dX0_goesUp_92 rfl ?_
          refine lv_goto (tgt := 97) hx hb dX0_goesUp_93 (by decide) ?_
          cases hf
          exact x_retZ C hP hS hW isZ_1 dX0_goesUp_97
  have hf := if_f c10 hf
  by_cases c14 : p0 = 4
  · have hf := if_t c14 hf
    refine lv_tableIn (tgt := 98) (off := 97) hx hb dX0_goesUp_1 (by rw [c14]; decide) (by rw [c14]; decide) (by rw [c14]; rfl) (by decide) ?_
    refine lv_iload hx hb dX0_goesUp_98 (lv_at hl 4 rfl) ?_
    obtain ⟨h15, hf⟩ := if_s hf
    cases hf
    exact x_retZ C hP hS hW h15 dX0_goesUp_100
  have hf := if_f c14 hf
  refine lv_tableOut (tgt := 101) hx hb dX0_goesUp_1 (sw_out (fun k h1 h2 e9 => by
    rcases (show k = 0 ∨ k = 1 ∨ k = 2 ∨ k = 3 ∨ k = 4 by omega) with rfl | rfl | rfl | rfl | rfl
    · exact c1 e9
    · exact c5 e9
    · exact c6 e9
    · exact c10 e9
    · exact c14 e9
    )) (by decide) ?_
  refine lv_iload_n hx hb dX0_goesUp_101 rfl (lv_at hl 2 rfl) ?_
  refine lv_if_eq (tgt := 109) hx hb dX0_goesUp_102 (by decide) (fun c16 => ?_) (fun c16 => ?_)
  · have hf := if_t c16 hf
    refine lv_iconst (v := 0) hx hb dX0_goesUp_109 rfl ?_
    exact b_X0_goesUp_110 C a p2 p3 p4 0 h_a k_a S s.heap [] _ hf hP hS hW (lv_sub hl [0, 3, 4, 5] rfl)
  · have hf := if_f c16 hf
    refine lv_iconst (v := 1) hx hb dX0_goesUp_105 rfl ?_
    refine lv_goto (tgt := 110) hx hb dX0_goesUp_106 (by decide) ?_
    exact b_X0_goesUp_110 C a p2 p3 p4 1 h_a k_a S s.heap [] _ hf hP hS hW (lv_sub hl [0, 3, 4, 5] rfl)
def s_X2_saturates (a : Nat) (S : HS) : Int32 :=
  if (gI S 200 a) = (2 : Int32) then
  1
  else
  if (gI S 200 a) = (3 : Int32) then
  1
  else
  0
set_option maxRecDepth 100000 in
set_option maxHeartbeats 4000000 in
theorem c_X2_saturates {l : Launch} {V : EV} {G : GS} {S : HS} {a : Nat} {r : Int32} (hN : G.1.Nodup) (hW : WT G S) (h_a : a ∈ G.1) (k_a : G.2.1 a = 2) (hf : s_X2_saturates a S = r) : MetZ l yX2_saturates cX2_saturates 1 0 0 V G S [.ref a] r S := by
  intro sz
  refine x_in RX2 rfl (by decide +kernel) hN (Nat.le_of_ble_eq_true rfl) (fun p e s m args below meth c ls hsz hargs hnm C hP hS hl => ?_)
  subst hsz
  have hx := C.1
  have hb := C.2.1
  have hl : lv_has ls 1 [(0, .ref a)] := hl
  unfold s_X2_saturates at hf
  refine lv_aload_n hx hb dX2_saturates_0 rfl (lv_at hl 0 rfl) ?_
  refine gf_X2_9 C hP h_a k_a dX2_saturates_1 ?_
  refine lv_iconst (v := 2) hx hb dX2_saturates_4 rfl ?_
  refine lv_icmp_eq (tgt := 16) hx hb dX2_saturates_5 (by decide) (fun c1 => ?_) (fun c1 => ?_)
  · have hf := if_t c1 hf
    refine lv_iconst (v := 1) hx hb dX2_saturates_16 rfl ?_
    refine lv_goto (tgt := 21) hx hb dX2_saturates_17 (by decide) ?_
    cases hf
    exact x_retZ C hP hS hW isZ_1 dX2_saturates_21
  · have hf := if_f c1 hf
    refine lv_aload_n hx hb dX2_saturates_8 rfl (lv_at hl 0 rfl) ?_
    refine gf_X2_9 C hP h_a k_a dX2_saturates_9 ?_
    refine lv_iconst (v := 3) hx hb dX2_saturates_12 rfl ?_
    refine lv_icmp_ne (tgt := 20) hx hb dX2_saturates_13 (by decide) (fun c2 => ?_) (fun c2 => ?_)
    · have hf := if_f c2 hf
      refine lv_iconst (v := 0) hx hb dX2_saturates_20 rfl ?_
      cases hf
      exact x_retZ C hP hS hW isZ_0 dX2_saturates_21
    · have hf := if_t c2 hf
      refine lv_iconst (v := 1) hx hb dX2_saturates_16 rfl ?_
      refine lv_goto (tgt := 21) hx hb dX2_saturates_17 (by decide) ?_
      cases hf
      exact x_retZ C hP hS hW isZ_1 dX2_saturates_21
def s_X2_greatestOf (a : Nat) (p0 : Int32) (S : HS) : Int32 :=
  if p0 = (0 : Int32) then
  gI S 206 a
  else
  (gI S 206 a) ||| (gI S 204 a)
set_option maxRecDepth 100000 in
set_option maxHeartbeats 4000000 in
theorem c_X2_greatestOf {l : Launch} {V : EV} {G : GS} {S : HS} {a : Nat} {p0 : Int32} {r : Int32} (hN : G.1.Nodup) (hW : WT G S) (h_a : a ∈ G.1) (k_a : G.2.1 a = 2) (hf : s_X2_greatestOf a p0 S = r) : MetI l yX2_greatestOf cX2_greatestOf 2 .int 0 0 V G S [.ref a, .int p0] r S := by
  intro sz
  refine x_in RX2 rfl (by decide +kernel) hN (Nat.le_of_ble_eq_true rfl) (fun p e s m args below meth c ls hsz hargs hnm C hP hS hl => ?_)
  subst hsz
  have hx := C.1
  have hb := C.2.1
  have hl : lv_has ls 2 [(0, .ref a), (1, .int p0)] := hl
  unfold s_X2_greatestOf at hf
  refine lv_iload_n hx hb dX2_greatestOf_0 rfl (lv_at hl 1 rfl) ?_
  refine lv_if_eq (tgt := 16) hx hb dX2_greatestOf_1 (by decide) (fun c1 => ?_) (fun c1 => ?_)
  · have hf := if_t c1 hf
    refine lv_aload_n hx hb dX2_greatestOf_16 rfl (lv_at hl 0 rfl) ?_
    refine gf_X2_30 C hP h_a k_a dX2_greatestOf_17 ?_
    cases hf
    exact x_reti C hP hS hW dX2_greatestOf_20
  · have hf := if_f c1 hf
    refine lv_aload_n hx hb dX2_greatestOf_4 rfl (lv_at hl 0 rfl) ?_
    refine gf_X2_30 C hP h_a k_a dX2_greatestOf_5 ?_
    refine lv_aload_n hx hb dX2_greatestOf_8 rfl (lv_at hl 0 rfl) ?_
    refine gf_X2_24 C hP h_a k_a dX2_greatestOf_9 ?_
    refine lv_ior hx hb dX2_greatestOf_12 ?_
    refine lv_goto (tgt := 20) hx hb dX2_greatestOf_13 (by decide) ?_
    cases hf
    exact x_reti C hP hS hW dX2_greatestOf_20
def s_X0_settle_J23 (w0 : Nat) (w1 : Int32) (S : HS) : HS :=
  bnd (uI S 3 w0 w1) fun S4 =>
  S4
def s_X0_settle (a : Nat) (p0 : Int32) (p1 : Int32) (p2 : Int32) (p3 : Int32) (S : HS) : HS :=
  bnd (uI S 1 a p0) fun S1 =>
  bnd (uI S1 2 a p1) fun S2 =>
  if p2 = (0 : Int32) then
  s_X0_settle_J23 a p3 S2
  else
  s_X0_settle_J23 a (-p3) S2
set_option maxRecDepth 100000 in
set_option maxHeartbeats 4000000 in
theorem b_X0_settle_23 {p : Program} {l : Launch} {e : Env} {s : State} {m : MethodId} {args : Array Value} {below : List Frame} {meth : Method} {c : Code} {V : EV} {G : GS} {S' : HS} (C : CX p s m args meth c RX0 cX0_settle 5 none V G) : ∀ (w0 : Nat) (w1 : Int32) (h_w0 : w0 ∈ G.1) (k_w0 : G.2.1 w0 = 0) (S : HS) (H : Heap) (locs : List Loc) (ls : Array Slot), s_X0_settle_J23 w0 w1 S = S' → HP V G S H → va_S (AG G s.heap.size) s.heap H locs → WT G S → lv_has ls 5 [] → W p l e (RM 0 0) s m args below meth c H locs 0 0 (MQ below (QV V G S' s.heap.size) args s 0 0 (AG G s.heap.size)) (F0 m 23 ls [.int w1, .ref w0]) := by
  intro w0 w1 h_w0 k_w0 S H locs ls hf hP hS hW hl
  have hx := C.1
  have hb := C.2.1
  unfold s_X0_settle_J23 at hf
  obtain ⟨S4, eS4, hf⟩ := bnd_e hf
  refine pf_X0_28 C hP hS h_w0 k_w0 eS4 dX0_settle_23 (fun H locs hP hS => ?_)
  have hW : WT G S4 := by rw [eS4]; exact hW
  cases hf
  exact x_retv C hP hS hW dX0_settle_26
set_option maxRecDepth 100000 in
set_option maxHeartbeats 4000000 in
theorem c_X0_settle {l : Launch} {V : EV} {G : GS} {S : HS} {a : Nat} {p0 : Int32} {p1 : Int32} {p2 : Int32} {p3 : Int32} {S' : HS} (hN : G.1.Nodup) (hW : WT G S) (h_a : a ∈ G.1) (k_a : G.2.1 a = 0) (hf : s_X0_settle a p0 p1 p2 p3 S = S') : MetV l yX0_settle cX0_settle 5 0 0 V G S [.ref a, .int p0, .int p1, .int p2, .int p3] S' := by
  intro sz
  refine x_in RX0 rfl (by decide +kernel) hN (Nat.le_of_ble_eq_true rfl) (fun p e s m args below meth c ls hsz hargs hnm C hP hS hl => ?_)
  subst hsz
  have hx := C.1
  have hb := C.2.1
  have hl : lv_has ls 5 [(0, .ref a), (1, .int p0), (2, .int p1), (3, .int p2), (4, .int p3)] := hl
  unfold s_X0_settle at hf
  refine lv_aload_n hx hb dX0_settle_0 rfl (lv_at hl 0 rfl) ?_
  refine lv_iload_n hx hb dX0_settle_1 rfl (lv_at hl 1 rfl) ?_
  obtain ⟨S1, eS1, hf⟩ := bnd_e hf
  refine pf_X0_21 C hP hS h_a k_a eS1 dX0_settle_2 (fun H locs hP hS => ?_)
  have hW : WT G S1 := by rw [eS1]; exact hW
  refine lv_aload_n hx hb dX0_settle_5 rfl (lv_at hl 0 rfl) ?_
  refine lv_iload_n hx hb dX0_settle_6 rfl (lv_at hl 2 rfl) ?_
  obtain ⟨S2, eS2, hf⟩ := bnd_e hf
  refine pf_X0_25 C hP hS h_a k_a eS2 dX0_settle_7 (fun H locs hP hS => ?_)
  have hW : WT G S2 := by rw [eS2]; exact hW
  refine lv_aload_n hx hb dX0_settle_10 rfl (lv_at hl 0 rfl) ?_
  refine lv_iload_n hx hb dX0_settle_11 rfl (lv_at hl 3 rfl) ?_
  refine lv_if_eq (tgt := 21) hx hb dX0_settle_12 (by decide) (fun c3 => ?_) (fun c3 => ?_)
  · have hf := if_t c3 hf
    refine lv_iload hx hb dX0_settle_21 (lv_at hl 4 rfl) ?_
    exact b_X0_settle_23 C a p3 h_a k_a S2 H locs _ hf hP hS hW (lv_sub hl [] rfl)
  · have hf := if_f c3 hf
    refine lv_iload hx hb dX0_settle_15 (lv_at hl 4 rfl) ?_
    refine lv_ineg hx hb dX0_settle_17 ?_
    refine lv_goto (tgt := 23) hx hb dX0_settle_18 (by decide) ?_
    exact b_X0_settle_23 C a (-p3) h_a k_a S2 H locs _ hf hP hS hW (lv_sub hl [] rfl)
def s_X2_noughtOf (a : Nat) (p0 : Int32) (S : HS) : Int32 :=
  if p0 = (0 : Int32) then
  0
  else
  gI S 204 a
set_option maxRecDepth 100000 in
set_option maxHeartbeats 4000000 in
theorem c_X2_noughtOf {l : Launch} {V : EV} {G : GS} {S : HS} {a : Nat} {p0 : Int32} {r : Int32} (hN : G.1.Nodup) (hW : WT G S) (h_a : a ∈ G.1) (k_a : G.2.1 a = 2) (hf : s_X2_noughtOf a p0 S = r) : MetI l yX2_noughtOf cX2_noughtOf 2 .int 0 0 V G S [.ref a, .int p0] r S := by
  intro sz
  refine x_in RX2 rfl (by decide +kernel) hN (Nat.le_of_ble_eq_true rfl) (fun p e s m args below meth c ls hsz hargs hnm C hP hS hl => ?_)
  subst hsz
  have hx := C.1
  have hb := C.2.1
  have hl : lv_has ls 2 [(0, .ref a), (1, .int p0)] := hl
  unfold s_X2_noughtOf at hf
  refine lv_iload_n hx hb dX2_noughtOf_0 rfl (lv_at hl 1 rfl) ?_
  refine lv_if_eq (tgt := 11) hx hb dX2_noughtOf_1 (by decide) (fun c1 => ?_) (fun c1 => ?_)
  · have hf := if_t c1 hf
    refine lv_iconst (v := 0) hx hb dX2_noughtOf_11 rfl ?_
    cases hf
    exact x_reti C hP hS hW dX2_noughtOf_12
  · have hf := if_f c1 hf
    refine lv_aload_n hx hb dX2_noughtOf_4 rfl (lv_at hl 0 rfl) ?_
    refine gf_X2_24 C hP h_a k_a dX2_noughtOf_5 ?_
    refine lv_goto (tgt := 12) hx hb dX2_noughtOf_8 (by decide) ?_
    cases hf
    exact x_reti C hP hS hW dX2_noughtOf_12
def s_X0_round_J294 (F : Nat) (w0 : Nat) (w1 : Int32) (w2 : Int32) (w3 : Int32) (w4 : Int32) (S : HS) : Option HS :=
  bnd (s_X0_settle w0 w1 w2 w3 w4 S) fun S18 =>
  some S18
def s_X0_round_J269 (F : Nat) (v0 : Nat) (v1 : Nat) (v3 : Int32) (v11 : Int32) (v12 : Int64) (w0 : Int32) (S : HS) : Option HS :=
  if v11 = (0 : Int32) then
  s_X0_round_J294 F v0 ((s_X2_noughtOf v1 v3 S) ||| v12.toInt32) w0 v3 (-1) S
  else
  s_X0_round_J294 F v0 ((s_X2_noughtOf v1 v3 S) ||| v12.toInt32) w0 v3 1 S
def s_X0_round_J257 (F : Nat) (v0 : Nat) (v1 : Nat) (v3 : Int32) (v10 : Int32) (v11 : Int32) (v12 : Int64) (S : HS) : Option HS :=
  if v10 = (0 : Int32) then
  s_X0_round_J269 F v0 v1 v3 v11 v12 8 S
  else
  s_X0_round_J269 F v0 v1 v3 v11 v12 12 S
def s_X0_round_J243 (F : Nat) (v0 : Nat) (v1 : Nat) (v3 : Int32) (v10 : Int32) (v11 : Int32) (v12 : Int64) (S : HS) : Option HS :=
  if (gI S 6 v0) = (0 : Int32) then
  if (gI S 7 v0) = (0 : Int32) then
  bnd (s_X0_settle v0 ((s_X2_noughtOf v1 v3 S) ||| v12.toInt32) 0 v3 0 S) fun S20 =>
  some S20
  else
  s_X0_round_J257 F v0 v1 v3 v10 v11 v12 S
  else
  s_X0_round_J257 F v0 v1 v3 v10 v11 v12 S
def s_X0_round_J208 (F : Nat) (w0 : Nat) (w1 : Int32) (w2 : Int32) (w3 : Int32) (w4 : Int32) (S : HS) : Option HS :=
  bnd (s_X0_settle w0 w1 w2 w3 w4 S) fun S27 =>
  some S27
def s_X0_round_J190 (F : Nat) (v0 : Nat) (v3 : Int32) (v14 : Int32) (w0 : Int32) (S : HS) : Option HS :=
  if v14 = (0 : Int32) then
  s_X0_round_J208 F v0 w0 10 v3 (-1) S
  else
  s_X0_round_J208 F v0 w0 10 v3 1 S
def s_X0_round_J170 (F : Nat) (v0 : Nat) (v1 : Nat) (v3 : Int32) (w0 : Int32) (S : HS) : Option HS :=
  if w0 = (0 : Int32) then
  s_X0_round_J190 F v0 v3 w0 (s_X2_greatestOf v1 v3 S) S
  else
  s_X0_round_J190 F v0 v3 w0 (s_X2_infinityOf v1 v3 S) S
def s_X0_round_J131 (F : Nat) (v0 : Nat) (v1 : Nat) (v2 : Int32) (v3 : Int32) (v10 : Int32) (v11 : Int32) (w0 : Int64) (w1 : Int32) (S : HS) : Option HS :=
  bnd (w0 + w1.toInt64 : Int64) fun x12 =>
  if (lg_cmp x12 ((gI S 206 v1).toInt64)) ≤ (0 : Int32) then
  if v10 = (0 : Int32) then
  s_X0_round_J243 F v0 v1 v3 v10 v11 x12 S
  else
  if (gI S 200 v1) = (1 : Int32) then
  bnd (s_X0_settle v0 (s_X2_noughtOf v1 v3 S) 12 v3 (-1) S) fun S22 =>
  some S22
  else
  s_X0_round_J243 F v0 v1 v3 v10 v11 x12 S
  else
  if (s_X2_saturates v1 S) = (0 : Int32) then
  bd1 (s_X0_goesUp v0 v2 v3 1 1 1 S) fun r28 =>
  if r28 = (0 : Int32) then
  s_X0_round_J170 F v0 v1 v3 0 S
  else
  s_X0_round_J170 F v0 v1 v3 1 S
  else
  s_X0_round_J170 F v0 v1 v3 0 S
def s_X0_round_J92 (F : Nat) (v0 : Nat) (v1 : Nat) (v2 : Int32) (v3 : Int32) (v8 : Int32) (v9 : Int32) (v10 : Int32) (w0 : Nat) (w1 : Int32) (w2 : Int32) (w3 : Int32) (S : HS) : Option HS :=
  bd1 (s_X0_goesUp w0 w1 w2 w3 (gI S 6 v0) (gI S 7 v0) S) fun r9 =>
  if r9 = (0 : Int32) then
  s_X0_round_J131 F v0 v1 v2 v3 v10 r9 ((((v9 - v8).toInt64) <<< ((gI S 202 v1).toInt64 &&& 63)) + (gJ S 5 v0)) 0 S
  else
  s_X0_round_J131 F v0 v1 v2 v3 v10 r9 ((((v9 - v8).toInt64) <<< ((gI S 202 v1).toInt64 &&& 63)) + (gJ S 5 v0)) 1 S
def s_X0_round_J55 (F : Nat) (v0 : Nat) (v1 : Nat) (v2 : Int32) (v3 : Int32) (v4 : Int64) (v6 : Int32) (v8 : Int32) (v9 : Int32) (w0 : Int32) (S : HS) : Option HS :=
  bd1 (s_X0_cut v0 v4 (v9 - v6) S) fun S6 =>
  bnd (uI S6 4 v0 1) fun S7 =>
  if (lg_cmp ((gJ S7 5 v0) &&& 1) (1 : Int64)) = (0 : Int32) then
  s_X0_round_J92 F v0 v1 v2 v3 v8 v9 w0 v0 v2 v3 1 S7
  else
  s_X0_round_J92 F v0 v1 v2 v3 v8 v9 w0 v0 v2 v3 0 S7
def s_X0_round (F : Nat) (a : Nat) (p0 : Nat) (p1 : Int32) (p2 : Int32) (p3 : Int64) (p4 : Int32) (S : HS) : Option HS :=
  bd1 (s_X11_bitLength F p3 S) fun r1 =>
  bnd ((r1 - 1) + p4 : Int32) fun x2 =>
  bnd ((1 - (gI S 203 p0)) - (gI S 202 p0) : Int32) fun x3 =>
  bnd (if (x2 - (gI S 202 p0)) < x3 then x3 else x2 - (gI S 202 p0) : Int32) fun x4 =>
  if (1 - (gI S 203 p0)) ≤ x2 then
  s_X0_round_J55 F a p0 p1 p2 p3 p4 x3 x4 0 S
  else
  s_X0_round_J55 F a p0 p1 p2 p3 p4 x3 x4 1 S
set_option maxRecDepth 100000 in
set_option maxHeartbeats 4000000 in
theorem b_X0_round_294 {p : Program} {l : Launch} {e : Env} {s : State} {m : MethodId} {args : Array Value} {below : List Frame} {meth : Method} {c : Code} {V : EV} {G : GS} {S' : HS} {F : Nat} (C : CX p s m args meth c RX0 cX0_round 16 none V G) : ∀ (w0 : Nat) (w1 : Int32) (w2 : Int32) (w3 : Int32) (w4 : Int32) (h_w0 : w0 ∈ G.1) (k_w0 : G.2.1 w0 = 0) (S : HS) (H : Heap) (locs : List Loc) (ls : Array Slot), s_X0_round_J294 F w0 w1 w2 w3 w4 S = some S' → HP V G S H → va_S (AG G s.heap.size) s.heap H locs → WT G S → lv_has ls 16 [] → W p l e (RM 1 34) s m args below meth c H locs 0 0 (MQ below (QV V G S' s.heap.size) args s 0 0 (AG G s.heap.size)) (F0 m 294 ls [.int w4, .int w3, .int w2, .int w1, .ref w0]) := by
  intro w0 w1 w2 w3 w4 h_w0 k_w0 S H locs ls hf hP hS hW hl
  have hx := C.1
  have hb := C.2.1
  unfold s_X0_round_J294 at hf
  obtain ⟨S18, eS18, hf⟩ := bnd_e hf
  refine x_aft_v (x_runV (As := [.int w1, .int w2, .int w3, .int w4]) (rest := []) C hP hS (c_X0_settle (l := l) C.2.2.2.2.2.2.2.2.2.1 hW h_w0 k_w0 eS18.symm H.size) h_w0 k_w0 (by decide) rfl rfl km_X0_settle ki_X0_settle qm_X0_122 ⟨(Nat.le_of_ble_eq_true rfl), (Nat.le_of_ble_eq_true rfl)⟩ rfl hl.1 rfl (Nat.le_of_ble_eq_true rfl) ⟨Nat.zero_le _, Nat.zero_le _⟩ dX0_round_294) hS (fun H locs hP hS hW => ?_)
  refine lv_goto (tgt := 316) hx hb dX0_round_297 (by decide) ?_
  cases hf
  exact x_retv C hP hS hW dX0_round_316
set_option maxRecDepth 100000 in
set_option maxHeartbeats 4000000 in
theorem b_X0_round_269 {p : Program} {l : Launch} {e : Env} {s : State} {m : MethodId} {args : Array Value} {below : List Frame} {meth : Method} {c : Code} {V : EV} {G : GS} {S' : HS} {F : Nat} (C : CX p s m args meth c RX0 cX0_round 16 none V G) : ∀ (v0 : Nat) (v1 : Nat) (v3 : Int32) (v11 : Int32) (v12 : Int64) (w0 : Int32) (h_v0 : v0 ∈ G.1) (k_v0 : G.2.1 v0 = 0) (h_v1 : v1 ∈ G.1) (k_v1 : G.2.1 v1 = 2) (S : HS) (H : Heap) (locs : List Loc) (ls : Array Slot), s_X0_round_J269 F v0 v1 v3 v11 v12 w0 S = some S' → HP V G S H → va_S (AG G s.heap.size) s.heap H locs → WT G S → lv_has ls 16 [(0, .ref v0), (1, .ref v1), (3, .int v3), (11, .int v11), (12, .long v12)] → W p l e (RM 1 34) s m args below meth c H locs 0 0 (MQ below (QV V G S' s.heap.size) args s 0 0 (AG G s.heap.size)) (F0 m 269 ls [.int w0]) := by
  intro v0 v1 v3 v11 v12 w0 h_v0 k_v0 h_v1 k_v1 S H locs ls hf hP hS hW hl
  have hx := C.1
  have hb := C.2.1
  unfold s_X0_round_J269 at hf
  refine lv_istore (lv' := [(14, .int w0), (0, .ref v0), (1, .ref v1), (3, .int v3), (11, .int v11), (12, .long v12)]) hx hb dX0_round_269 hl (by decide) rfl (fun ls hl => ?_)
  refine lv_aload_n hx hb dX0_round_271 rfl (lv_at hl 1 rfl) ?_
  refine lv_aload_n hx hb dX0_round_272 rfl (lv_at hl 2 rfl) ?_
  refine lv_iload_n hx hb dX0_round_273 rfl (lv_at hl 3 rfl) ?_
  refine x_aft_i (x_runV (As := [.int v3]) (rest := [.ref v0]) C hP hS (c_X2_noughtOf (l := l) C.2.2.2.2.2.2.2.2.2.1 hW h_v1 k_v1 rfl H.size) h_v1 k_v1 (by decide) rfl rfl km_X2_noughtOf ki_X2_noughtOf qm_X0_77 ⟨(Nat.le_of_ble_eq_true rfl), (Nat.le_of_ble_eq_true rfl)⟩ rfl hl.1 rfl (Nat.le_of_ble_eq_true rfl) ⟨Nat.zero_le _, Nat.zero_le _⟩ dX0_round_274) hS (fun H locs hP hS hW => ?_)
  refine lv_lload hx hb dX0_round_277 (lv_at hl 5 rfl) ?_
  refine lv_l2i hx hb dX0_round_279 rfl ?_
  refine lv_ior hx hb dX0_round_280 ?_
  refine lv_iload hx hb dX0_round_281 (lv_at hl 0 rfl) ?_
  refine lv_iload_n hx hb dX0_round_283 rfl (lv_at hl 3 rfl) ?_
  refine lv_iload hx hb dX0_round_284 (lv_at hl 4 rfl) ?_
  refine lv_if_eq (tgt := 293) hx hb dX0_round_286 (by decide) (fun c17 => ?_) (fun c17 => ?_)
  · have hf := if_t c17 hf
    refine lv_iconst (v := (-1)) hx hb dX0_round_293 rfl ?_
    exact b_X0_round_294 C v0 ((s_X2_noughtOf v1 v3 S) ||| v12.toInt32) w0 v3 (-1) h_v0 k_v0 S H locs _ hf hP hS hW (lv_sub hl [] rfl)
  · have hf := if_f c17 hf
    refine lv_iconst (v := 1) hx hb dX0_round_289 rfl ?_
    refine lv_goto (tgt := 294) hx hb dX0_round_290 (by decide) ?_
    exact b_X0_round_294 C v0 ((s_X2_noughtOf v1 v3 S) ||| v12.toInt32) w0 v3 1 h_v0 k_v0 S H locs _ hf hP hS hW (lv_sub hl [] rfl)
set_option maxRecDepth 100000 in
set_option maxHeartbeats 4000000 in
theorem b_X0_round_257 {p : Program} {l : Launch} {e : Env} {s : State} {m : MethodId} {args : Array Value} {below : List Frame} {meth : Method} {c : Code} {V : EV} {G : GS} {S' : HS} {F : Nat} (C : CX p s m args meth c RX0 cX0_round 16 none V G) : ∀ (v0 : Nat) (v1 : Nat) (v3 : Int32) (v10 : Int32) (v11 : Int32) (v12 : Int64) (h_v0 : v0 ∈ G.1) (k_v0 : G.2.1 v0 = 0) (h_v1 : v1 ∈ G.1) (k_v1 : G.2.1 v1 = 2) (S : HS) (H : Heap) (locs : List Loc) (ls : Array Slot), s_X0_round_J257 F v0 v1 v3 v10 v11 v12 S = some S' → HP V G S H → va_S (AG G s.heap.size) s.heap H locs → WT G S → lv_has ls 16 [(0, .ref v0), (1, .ref v1), (3, .int v3), (10, .int v10), (11, .int v11), (12, .long v12)] → W p l e (RM 1 34) s m args below meth c H locs 0 0 (MQ below (QV V G S' s.heap.size) args s 0 0 (AG G s.heap.size)) (F0 m 257 ls []) := by
  intro v0 v1 v3 v10 v11 v12 h_v0 k_v0 h_v1 k_v1 S H locs ls hf hP hS hW hl
  have hx := C.1
  have hb := C.2.1
  unfold s_X0_round_J257 at hf
  refine lv_iload hx hb dX0_round_257 (lv_at hl 3 rfl) ?_
  refine lv_if_eq (tgt := 267) hx hb dX0_round_259 (by decide) (fun c16 => ?_) (fun c16 => ?_)
  · have hf := if_t c16 hf
    refine lv_bipush (v := 8) hx hb dX0_round_267 kc_bipush_8 ?_
    exact b_X0_round_269 C v0 v1 v3 v11 v12 8 h_v0 k_v0 h_v1 k_v1 S H locs _ hf hP hS hW (lv_sub hl [0, 1, 2, 4, 5] rfl)
  · have hf := if_f c16 hf
    refine lv_bipush (v := 12) hx hb dX0_round_262 kc_bipush_12 ?_
    refine lv_goto (tgt := 269) hx hb dX0_round_264 (by decide) ?_
    exact b_X0_round_269 C v0 v1 v3 v11 v12 12 h_v0 k_v0 h_v1 k_v1 S H locs _ hf hP hS hW (lv_sub hl [0, 1, 2, 4, 5] rfl)
set_option maxRecDepth 100000 in
set_option maxHeartbeats 4000000 in
theorem b_X0_round_243 {p : Program} {l : Launch} {e : Env} {s : State} {m : MethodId} {args : Array Value} {below : List Frame} {meth : Method} {c : Code} {V : EV} {G : GS} {S' : HS} {F : Nat} (C : CX p s m args meth c RX0 cX0_round 16 none V G) : ∀ (v0 : Nat) (v1 : Nat) (v3 : Int32) (v10 : Int32) (v11 : Int32) (v12 : Int64) (h_v0 : v0 ∈ G.1) (k_v0 : G.2.1 v0 = 0) (h_v1 : v1 ∈ G.1) (k_v1 : G.2.1 v1 = 2) (S : HS) (H : Heap) (locs : List Loc) (ls : Array Slot), s_X0_round_J243 F v0 v1 v3 v10 v11 v12 S = some S' → HP V G S H → va_S (AG G s.heap.size) s.heap H locs → WT G S → lv_has ls 16 [(0, .ref v0), (1, .ref v1), (3, .int v3), (10, .int v10), (11, .int v11), (12, .long v12)] → W p l e (RM 1 34) s m args below meth c H locs 0 0 (MQ below (QV V G S' s.heap.size) args s 0 0 (AG G s.heap.size)) (F0 m 243 ls []) := by
  intro v0 v1 v3 v10 v11 v12 h_v0 k_v0 h_v1 k_v1 S H locs ls hf hP hS hW hl
  have hx := C.1
  have hb := C.2.1
  unfold s_X0_round_J243 at hf
  refine lv_aload_n hx hb dX0_round_243 rfl (lv_at hl 0 rfl) ?_
  refine gf_X0_15 C hP h_v0 k_v0 dX0_round_244 ?_
  refine lv_if_ne (tgt := 257) hx hb dX0_round_247 (by decide) (fun c15 => ?_) (fun c15 => ?_)
  · have hf := if_f c15 hf
    exact b_X0_round_257 C v0 v1 v3 v10 v11 v12 h_v0 k_v0 h_v1 k_v1 S H locs _ hf hP hS hW (lv_sub hl [0, 1, 2, 3, 4, 5] rfl)
  · have hf := if_t c15 hf
    refine lv_aload_n hx hb dX0_round_250 rfl (lv_at hl 0 rfl) ?_
    refine gf_X0_18 C hP h_v0 k_v0 dX0_round_251 ?_
    refine lv_if_eq (tgt := 300) hx hb dX0_round_254 (by decide) (fun c19 => ?_) (fun c19 => ?_)
    · have hf := if_t c19 hf
      refine lv_aload_n hx hb dX0_round_300 rfl (lv_at hl 0 rfl) ?_
      refine lv_aload_n hx hb dX0_round_301 rfl (lv_at hl 1 rfl) ?_
      refine lv_iload_n hx hb dX0_round_302 rfl (lv_at hl 2 rfl) ?_
      refine x_aft_i (x_runV (As := [.int v3]) (rest := [.ref v0]) C hP hS (c_X2_noughtOf (l := l) C.2.2.2.2.2.2.2.2.2.1 hW h_v1 k_v1 rfl H.size) h_v1 k_v1 (by decide) rfl rfl km_X2_noughtOf ki_X2_noughtOf qm_X0_77 ⟨(Nat.le_of_ble_eq_true rfl), (Nat.le_of_ble_eq_true rfl)⟩ rfl hl.1 rfl (Nat.le_of_ble_eq_true rfl) ⟨Nat.zero_le _, Nat.zero_le _⟩ dX0_round_303) hS (fun H locs hP hS hW => ?_)
      refine lv_lload hx hb dX0_round_306 (lv_at hl 5 rfl) ?_
      refine lv_l2i hx hb dX0_round_308 rfl ?_
      refine lv_ior hx hb dX0_round_309 ?_
      refine lv_iconst (v := 0) hx hb dX0_round_310 rfl ?_
      refine lv_iload_n hx hb dX0_round_311 rfl (lv_at hl 2 rfl) ?_
      refine lv_iconst (v := 0) hx hb dX0_round_312 rfl ?_
      obtain ⟨S20, eS20, hf⟩ := bnd_e hf
      refine x_aft_v (x_runV (As := [.int ((s_X2_noughtOf v1 v3 S) ||| v12.toInt32), .int 0, .int v3, .int 0]) (rest := []) C hP hS (c_X0_settle (l := l) C.2.2.2.2.2.2.2.2.2.1 hW h_v0 k_v0 eS20.symm H.size) h_v0 k_v0 (by decide) rfl rfl km_X0_settle ki_X0_settle qm_X0_122 ⟨(Nat.le_of_ble_eq_true rfl), (Nat.le_of_ble_eq_true rfl)⟩ rfl hl.1 rfl (Nat.le_of_ble_eq_true rfl) ⟨Nat.zero_le _, Nat.zero_le _⟩ dX0_round_313) hS (fun H locs hP hS hW => ?_)
      cases hf
      exact x_retv C hP hS hW dX0_round_316
    · have hf := if_f c19 hf
      exact b_X0_round_257 C v0 v1 v3 v10 v11 v12 h_v0 k_v0 h_v1 k_v1 S H locs _ hf hP hS hW (lv_sub hl [0, 1, 2, 3, 4, 5] rfl)
set_option maxRecDepth 100000 in
set_option maxHeartbeats 4000000 in
theorem b_X0_round_208 {p : Program} {l : Launch} {e : Env} {s : State} {m : MethodId} {args : Array Value} {below : List Frame} {meth : Method} {c : Code} {V : EV} {G : GS} {S' : HS} {F : Nat} (C : CX p s m args meth c RX0 cX0_round 16 none V G) : ∀ (w0 : Nat) (w1 : Int32) (w2 : Int32) (w3 : Int32) (w4 : Int32) (h_w0 : w0 ∈ G.1) (k_w0 : G.2.1 w0 = 0) (S : HS) (H : Heap) (locs : List Loc) (ls : Array Slot), s_X0_round_J208 F w0 w1 w2 w3 w4 S = some S' → HP V G S H → va_S (AG G s.heap.size) s.heap H locs → WT G S → lv_has ls 16 [] → W p l e (RM 1 34) s m args below meth c H locs 0 0 (MQ below (QV V G S' s.heap.size) args s 0 0 (AG G s.heap.size)) (F0 m 208 ls [.int w4, .int w3, .int w2, .int w1, .ref w0]) := by
  intro w0 w1 w2 w3 w4 h_w0 k_w0 S H locs ls hf hP hS hW hl
  have hx := C.1
  have hb := C.2.1
  unfold s_X0_round_J208 at hf
  obtain ⟨S27, eS27, hf⟩ := bnd_e hf
  refine x_aft_v (x_runV (As := [.int w1, .int w2, .int w3, .int w4]) (rest := []) C hP hS (c_X0_settle (l := l) C.2.2.2.2.2.2.2.2.2.1 hW h_w0 k_w0 eS27.symm H.size) h_w0 k_w0 (by decide) rfl rfl km_X0_settle ki_X0_settle qm_X0_122 ⟨(Nat.le_of_ble_eq_true rfl), (Nat.le_of_ble_eq_true rfl)⟩ rfl hl.1 rfl (Nat.le_of_ble_eq_true rfl) ⟨Nat.zero_le _, Nat.zero_le _⟩ dX0_round_208) hS (fun H locs hP hS hW => ?_)
  refine lv_goto (tgt := 316) hx hb dX0_round_211 (by decide) ?_
  cases hf
  exact x_retv C hP hS hW dX0_round_316
set_option maxRecDepth 100000 in
set_option maxHeartbeats 4000000 in
theorem b_X0_round_190 {p : Program} {l : Launch} {e : Env} {s : State} {m : MethodId} {args : Array Value} {below : List Frame} {meth : Method} {c : Code} {V : EV} {G : GS} {S' : HS} {F : Nat} (C : CX p s m args meth c RX0 cX0_round 16 none V G) : ∀ (v0 : Nat) (v3 : Int32) (v14 : Int32) (w0 : Int32) (h_v0 : v0 ∈ G.1) (k_v0 : G.2.1 v0 = 0) (S : HS) (H : Heap) (locs : List Loc) (ls : Array Slot), s_X0_round_J190 F v0 v3 v14 w0 S = some S' → HP V G S H → va_S (AG G s.heap.size) s.heap H locs → WT G S → lv_has ls 16 [(0, .ref v0), (3, .int v3), (14, .int v14)] → W p l e (RM 1 34) s m args below meth c H locs 0 0 (MQ below (QV V G S' s.heap.size) args s 0 0 (AG G s.heap.size)) (F0 m 190 ls [.int w0]) := by
  intro v0 v3 v14 w0 h_v0 k_v0 S H locs ls hf hP hS hW hl
  have hx := C.1
  have hb := C.2.1
  unfold s_X0_round_J190 at hf
  refine lv_istore (lv' := [(15, .int w0), (0, .ref v0), (3, .int v3), (14, .int v14)]) hx hb dX0_round_190 hl (by decide) rfl (fun ls hl => ?_)
  refine lv_aload_n hx hb dX0_round_192 rfl (lv_at hl 1 rfl) ?_
  refine lv_iload hx hb dX0_round_193 (lv_at hl 0 rfl) ?_
  refine lv_bipush (v := 10) hx hb dX0_round_195 kc_bipush_10 ?_
  refine lv_iload_n hx hb dX0_round_197 rfl (lv_at hl 2 rfl) ?_
  refine lv_iload hx hb dX0_round_198 (lv_at hl 3 rfl) ?_
  refine lv_if_eq (tgt := 207) hx hb dX0_round_200 (by decide) (fun c26 => ?_) (fun c26 => ?_)
  · have hf := if_t c26 hf
    refine lv_iconst (v := (-1)) hx hb dX0_round_207 rfl ?_
    exact b_X0_round_208 C v0 w0 10 v3 (-1) h_v0 k_v0 S H locs _ hf hP hS hW (lv_sub hl [] rfl)
  · have hf := if_f c26 hf
    refine lv_iconst (v := 1) hx hb dX0_round_203 rfl ?_
    refine lv_goto (tgt := 208) hx hb dX0_round_204 (by decide) ?_
    exact b_X0_round_208 C v0 w0 10 v3 1 h_v0 k_v0 S H locs _ hf hP hS hW (lv_sub hl [] rfl)
set_option maxRecDepth 100000 in
set_option maxHeartbeats 4000000 in
theorem b_X0_round_170 {p : Program} {l : Launch} {e : Env} {s : State} {m : MethodId} {args : Array Value} {below : List Frame} {meth : Method} {c : Code} {V : EV} {G : GS} {S' : HS} {F : Nat} (C : CX p s m args meth c RX0 cX0_round 16 none V G) : ∀ (v0 : Nat) (v1 : Nat) (v3 : Int32) (w0 : Int32) (h_v0 : v0 ∈ G.1) (k_v0 : G.2.1 v0 = 0) (h_v1 : v1 ∈ G.1) (k_v1 : G.2.1 v1 = 2) (S : HS) (H : Heap) (locs : List Loc) (ls : Array Slot), s_X0_round_J170 F v0 v1 v3 w0 S = some S' → HP V G S H → va_S (AG G s.heap.size) s.heap H locs → WT G S → lv_has ls 16 [(0, .ref v0), (1, .ref v1), (3, .int v3)] → W p l e (RM 1 34) s m args below meth c H locs 0 0 (MQ below (QV V G S' s.heap.size) args s 0 0 (AG G s.heap.size)) (F0 m 170 ls [.int w0]) := by
  intro v0 v1 v3 w0 h_v0 k_v0 h_v1 k_v1 S H locs ls hf hP hS hW hl
  have hx := C.1
  have hb := C.2.1
  unfold s_X0_round_J170 at hf
  refine lv_istore (lv' := [(14, .int w0), (0, .ref v0), (1, .ref v1), (3, .int v3)]) hx hb dX0_round_170 hl (by decide) rfl (fun ls hl => ?_)
  refine lv_iload hx hb dX0_round_172 (lv_at hl 0 rfl) ?_
  refine lv_if_eq (tgt := 185) hx hb dX0_round_174 (by decide) (fun c25 => ?_) (fun c25 => ?_)
  · have hf := if_t c25 hf
    refine lv_aload_n hx hb dX0_round_185 rfl (lv_at hl 2 rfl) ?_
    refine lv_iload_n hx hb dX0_round_186 rfl (lv_at hl 3 rfl) ?_
    refine x_aft_i (x_runV (As := [.int v3]) (rest := []) C hP hS (c_X2_greatestOf (l := l) C.2.2.2.2.2.2.2.2.2.1 hW h_v1 k_v1 rfl H.size) h_v1 k_v1 (by decide) rfl rfl km_X2_greatestOf ki_X2_greatestOf qm_X0_119 ⟨(Nat.le_of_ble_eq_true rfl), (Nat.le_of_ble_eq_true rfl)⟩ rfl hl.1 rfl (Nat.le_of_ble_eq_true rfl) ⟨Nat.zero_le _, Nat.zero_le _⟩ dX0_round_187) hS (fun H locs hP hS hW => ?_)
    exact b_X0_round_190 C v0 v3 w0 (s_X2_greatestOf v1 v3 S) h_v0 k_v0 S H locs _ hf hP hS hW (lv_sub hl [1, 3, 0] rfl)
  · have hf := if_f c25 hf
    refine lv_aload_n hx hb dX0_round_177 rfl (lv_at hl 2 rfl) ?_
    refine lv_iload_n hx hb dX0_round_178 rfl (lv_at hl 3 rfl) ?_
    refine x_aft_i (x_runV (As := [.int v3]) (rest := []) C hP hS (c_X2_infinityOf (l := l) C.2.2.2.2.2.2.2.2.2.1 hW h_v1 k_v1 rfl H.size) h_v1 k_v1 (by decide) rfl rfl km_X2_infinityOf ki_X2_infinityOf qm_X0_69 ⟨(Nat.le_of_ble_eq_true rfl), (Nat.le_of_ble_eq_true rfl)⟩ rfl hl.1 rfl (Nat.le_of_ble_eq_true rfl) ⟨Nat.zero_le _, Nat.zero_le _⟩ dX0_round_179) hS (fun H locs hP hS hW => ?_)
    refine lv_goto (tgt := 190) hx hb dX0_round_182 (by decide) ?_
    exact b_X0_round_190 C v0 v3 w0 (s_X2_infinityOf v1 v3 S) h_v0 k_v0 S H locs _ hf hP hS hW (lv_sub hl [1, 3, 0] rfl)
set_option maxRecDepth 100000 in
set_option maxHeartbeats 4000000 in
theorem b_X0_round_131 {p : Program} {l : Launch} {e : Env} {s : State} {m : MethodId} {args : Array Value} {below : List Frame} {meth : Method} {c : Code} {V : EV} {G : GS} {S' : HS} {F : Nat} (C : CX p s m args meth c RX0 cX0_round 16 none V G) : ∀ (v0 : Nat) (v1 : Nat) (v2 : Int32) (v3 : Int32) (v10 : Int32) (v11 : Int32) (w0 : Int64) (w1 : Int32) (h_v0 : v0 ∈ G.1) (k_v0 : G.2.1 v0 = 0) (h_v1 : v1 ∈ G.1) (k_v1 : G.2.1 v1 = 2) (S : HS) (H : Heap) (locs : List Loc) (ls : Array Slot), s_X0_round_J131 F v0 v1 v2 v3 v10 v11 w0 w1 S = some S' → HP V G S H → va_S (AG G s.heap.size) s.heap H locs → WT G S → lv_has ls 16 [(0, .ref v0), (1, .ref v1), (2, .int v2), (3, .int v3), (10, .int v10), (11, .int v11)] → W p l e (RM 1 34) s m args below meth c H locs 0 0 (MQ below (QV V G S' s.heap.size) args s 0 0 (AG G s.heap.size)) (F0 m 131 ls [.int w1, .long w0]) := by
  intro v0 v1 v2 v3 v10 v11 w0 w1 h_v0 k_v0 h_v1 k_v1 S H locs ls hf hP hS hW hl
  have hx := C.1
  have hb := C.2.1
  unfold s_X0_round_J131 at hf
  refine lv_i2l hx hb dX0_round_131 rfl ?_
  refine lv_ladd hx hb dX0_round_132 ?_
  obtain ⟨x12, ex12, hf⟩ := bnd_e hf
  refine nm_l ex12 ?_
  refine lv_lstore (lv' := [(12, .long x12), (0, .ref v0), (1, .ref v1), (2, .int v2), (3, .int v3), (10, .int v10), (11, .int v11)]) hx hb dX0_round_133 hl (by decide) rfl (fun ls hl => ?_)
  refine lv_lload hx hb dX0_round_135 (lv_at hl 0 rfl) ?_
  refine lv_aload_n hx hb dX0_round_137 rfl (lv_at hl 2 rfl) ?_
  refine gf_X0_112 C hP h_v1 k_v1 dX0_round_138 ?_
  refine lv_i2l hx hb dX0_round_141 rfl ?_
  refine W.lcmp hx hb dX0_round_142 ?_
  refine lv_if_le (tgt := 214) hx hb dX0_round_143 (by decide) (fun c13 => ?_) (fun c13 => ?_)
  · have hf := if_t c13 hf
    refine lv_iload hx hb dX0_round_214 (lv_at hl 5 rfl) ?_
    refine lv_if_eq (tgt := 243) hx hb dX0_round_216 (by decide) (fun c14 => ?_) (fun c14 => ?_)
    · have hf := if_t c14 hf
      exact b_X0_round_243 C v0 v1 v3 v10 v11 x12 h_v0 k_v0 h_v1 k_v1 S H locs _ hf hP hS hW (lv_sub hl [1, 2, 4, 5, 6, 0] rfl)
    · have hf := if_f c14 hf
      refine lv_aload_n hx hb dX0_round_219 rfl (lv_at hl 2 rfl) ?_
      refine gf_X0_126 C hP h_v1 k_v1 dX0_round_220 ?_
      refine lv_iconst (v := 1) hx hb dX0_round_223 rfl ?_
      refine lv_icmp_ne (tgt := 243) hx hb dX0_round_224 (by decide) (fun c21 => ?_) (fun c21 => ?_)
      · have hf := if_f c21 hf
        exact b_X0_round_243 C v0 v1 v3 v10 v11 x12 h_v0 k_v0 h_v1 k_v1 S H locs _ hf hP hS hW (lv_sub hl [1, 2, 4, 5, 6, 0] rfl)
      · have hf := if_t c21 hf
        refine lv_aload_n hx hb dX0_round_227 rfl (lv_at hl 1 rfl) ?_
        refine lv_aload_n hx hb dX0_round_228 rfl (lv_at hl 2 rfl) ?_
        refine lv_iload_n hx hb dX0_round_229 rfl (lv_at hl 4 rfl) ?_
        refine x_aft_i (x_runV (As := [.int v3]) (rest := [.ref v0]) C hP hS (c_X2_noughtOf (l := l) C.2.2.2.2.2.2.2.2.2.1 hW h_v1 k_v1 rfl H.size) h_v1 k_v1 (by decide) rfl rfl km_X2_noughtOf ki_X2_noughtOf qm_X0_77 ⟨(Nat.le_of_ble_eq_true rfl), (Nat.le_of_ble_eq_true rfl)⟩ rfl hl.1 rfl (Nat.le_of_ble_eq_true rfl) ⟨Nat.zero_le _, Nat.zero_le _⟩ dX0_round_230) hS (fun H locs hP hS hW => ?_)
        refine lv_bipush (v := 12) hx hb dX0_round_233 kc_bipush_12 ?_
        refine lv_iload_n hx hb dX0_round_235 rfl (lv_at hl 4 rfl) ?_
        refine lv_iconst (v := (-1)) hx hb dX0_round_236 rfl ?_
        obtain ⟨S22, eS22, hf⟩ := bnd_e hf
        refine x_aft_v (x_runV (As := [.int (s_X2_noughtOf v1 v3 S), .int 12, .int v3, .int (-1)]) (rest := []) C hP hS (c_X0_settle (l := l) C.2.2.2.2.2.2.2.2.2.1 hW h_v0 k_v0 eS22.symm H.size) h_v0 k_v0 (by decide) rfl rfl km_X0_settle ki_X0_settle qm_X0_122 ⟨(Nat.le_of_ble_eq_true rfl), (Nat.le_of_ble_eq_true rfl)⟩ rfl hl.1 rfl (Nat.le_of_ble_eq_true rfl) ⟨Nat.zero_le _, Nat.zero_le _⟩ dX0_round_237) hS (fun H locs hP hS hW => ?_)
        refine lv_goto (tgt := 316) hx hb dX0_round_240 (by decide) ?_
        cases hf
        exact x_retv C hP hS hW dX0_round_316
  · have hf := if_f c13 hf
    refine lv_aload_n hx hb dX0_round_146 rfl (lv_at hl 2 rfl) ?_
    refine x_aft_z (x_runV (As := []) (rest := []) C hP hS (c_X2_saturates (l := l) C.2.2.2.2.2.2.2.2.2.1 hW h_v1 k_v1 rfl H.size) h_v1 k_v1 (by decide) rfl rfl km_X2_saturates ki_X2_saturates qm_X0_115 ⟨(Nat.le_of_ble_eq_true rfl), (Nat.le_of_ble_eq_true rfl)⟩ rfl hl.1 rfl (Nat.le_of_ble_eq_true rfl) ⟨Nat.zero_le _, Nat.zero_le _⟩ dX0_round_147) hS (fun H locs hP hS hW z23 => ?_)
    refine lv_if_ne (tgt := 169) hx hb dX0_round_150 (by decide) (fun c24 => ?_) (fun c24 => ?_)
    · have hf := if_f c24 hf
      refine lv_iconst (v := 0) hx hb dX0_round_169 rfl ?_
      exact b_X0_round_170 C v0 v1 v3 0 h_v0 k_v0 h_v1 k_v1 S H locs _ hf hP hS hW (lv_sub hl [1, 2, 4] rfl)
    · have hf := if_t c24 hf
      refine lv_aload_n hx hb dX0_round_153 rfl (lv_at hl 1 rfl) ?_
      refine lv_iload_n hx hb dX0_round_154 rfl (lv_at hl 3 rfl) ?_
      refine lv_iload_n hx hb dX0_round_155 rfl (lv_at hl 4 rfl) ?_
      refine lv_iconst (v := 1) hx hb dX0_round_156 rfl ?_
      refine lv_iconst (v := 1) hx hb dX0_round_157 rfl ?_
      refine lv_iconst (v := 1) hx hb dX0_round_158 rfl ?_
      obtain ⟨r28, er28, hf⟩ := bd1_e hf
      refine x_aft_z (x_runV (As := [.int v2, .int v3, .int 1, .int 1, .int 1]) (rest := []) C hP hS (c_X0_goesUp (l := l) C.2.2.2.2.2.2.2.2.2.1 hW h_v0 k_v0 er28 H.size) h_v0 k_v0 (by decide) rfl rfl km_X0_goesUp ki_X0_goesUp qm_X0_108 ⟨(Nat.le_of_ble_eq_true rfl), (Nat.le_of_ble_eq_true rfl)⟩ rfl hl.1 rfl (Nat.le_of_ble_eq_true rfl) ⟨Nat.zero_le _, Nat.zero_le _⟩ dX0_round_159) hS (fun H locs hP hS hW z29 => ?_)
      refine lv_if_eq (tgt := 169) hx hb dX0_round_162 (by decide) (fun c30 => ?_) (fun c30 => ?_)
      · have hf := if_t c30 hf
        refine lv_iconst (v := 0) hx hb dX0_round_169 rfl ?_
        exact b_X0_round_170 C v0 v1 v3 0 h_v0 k_v0 h_v1 k_v1 S H locs _ hf hP hS hW (lv_sub hl [1, 2, 4] rfl)
      · have hf := if_f c30 hf
        refine lv_iconst (v := 1) hx hb dX0_round_165 rfl ?_
        refine lv_goto (tgt := 170) hx hb dX0_round_166 (by decide) ?_
        exact b_X0_round_170 C v0 v1 v3 1 h_v0 k_v0 h_v1 k_v1 S H locs _ hf hP hS hW (lv_sub hl [1, 2, 4] rfl)
set_option maxRecDepth 100000 in
set_option maxHeartbeats 4000000 in
theorem b_X0_round_92 {p : Program} {l : Launch} {e : Env} {s : State} {m : MethodId} {args : Array Value} {below : List Frame} {meth : Method} {c : Code} {V : EV} {G : GS} {S' : HS} {F : Nat} (C : CX p s m args meth c RX0 cX0_round 16 none V G) : ∀ (v0 : Nat) (v1 : Nat) (v2 : Int32) (v3 : Int32) (v8 : Int32) (v9 : Int32) (v10 : Int32) (w0 : Nat) (w1 : Int32) (w2 : Int32) (w3 : Int32) (h_v0 : v0 ∈ G.1) (k_v0 : G.2.1 v0 = 0) (h_v1 : v1 ∈ G.1) (k_v1 : G.2.1 v1 = 2) (h_w0 : w0 ∈ G.1) (k_w0 : G.2.1 w0 = 0) (S : HS) (H : Heap) (locs : List Loc) (ls : Array Slot), s_X0_round_J92 F v0 v1 v2 v3 v8 v9 v10 w0 w1 w2 w3 S = some S' → HP V G S H → va_S (AG G s.heap.size) s.heap H locs → WT G S → lv_has ls 16 [(0, .ref v0), (1, .ref v1), (2, .int v2), (3, .int v3), (8, .int v8), (9, .int v9), (10, .int v10)] → W p l e (RM 1 34) s m args below meth c H locs 0 0 (MQ below (QV V G S' s.heap.size) args s 0 0 (AG G s.heap.size)) (F0 m 92 ls [.int w3, .int w2, .int w1, .ref w0]) := by
  intro v0 v1 v2 v3 v8 v9 v10 w0 w1 w2 w3 h_v0 k_v0 h_v1 k_v1 h_w0 k_w0 S H locs ls hf hP hS hW hl
  have hx := C.1
  have hb := C.2.1
  unfold s_X0_round_J92 at hf
  refine lv_aload_n hx hb dX0_round_92 rfl (lv_at hl 0 rfl) ?_
  refine gf_X0_15 C hP h_v0 k_v0 dX0_round_93 ?_
  refine lv_aload_n hx hb dX0_round_96 rfl (lv_at hl 0 rfl) ?_
  refine gf_X0_18 C hP h_v0 k_v0 dX0_round_97 ?_
  obtain ⟨r9, er9, hf⟩ := bd1_e hf
  refine x_aft_z (x_runV (As := [.int w1, .int w2, .int w3, .int (gI S 6 v0), .int (gI S 7 v0)]) (rest := []) C hP hS (c_X0_goesUp (l := l) C.2.2.2.2.2.2.2.2.2.1 hW h_w0 k_w0 er9 H.size) h_w0 k_w0 (by decide) rfl rfl km_X0_goesUp ki_X0_goesUp qm_X0_108 ⟨(Nat.le_of_ble_eq_true rfl), (Nat.le_of_ble_eq_true rfl)⟩ rfl hl.1 rfl (Nat.le_of_ble_eq_true rfl) ⟨Nat.zero_le _, Nat.zero_le _⟩ dX0_round_100) hS (fun H locs hP hS hW z10 => ?_)
  refine lv_istore (lv' := [(11, .int r9), (0, .ref v0), (1, .ref v1), (2, .int v2), (3, .int v3), (8, .int v8), (9, .int v9), (10, .int v10)]) hx hb dX0_round_103 hl (by decide) rfl (fun ls hl => ?_)
  refine lv_iload hx hb dX0_round_105 (lv_at hl 6 rfl) ?_
  refine lv_iload hx hb dX0_round_107 (lv_at hl 5 rfl) ?_
  refine lv_isub hx hb dX0_round_109 ?_
  refine lv_i2l hx hb dX0_round_110 rfl ?_
  refine lv_aload_n hx hb dX0_round_111 rfl (lv_at hl 2 rfl) ?_
  refine gf_X0_97 C hP h_v1 k_v1 dX0_round_112 ?_
  refine lv_lshl hx hb dX0_round_115 rfl ?_
  refine lv_aload_n hx hb dX0_round_116 rfl (lv_at hl 1 rfl) ?_
  refine gf_X0_104 C hP h_v0 k_v0 dX0_round_117 ?_
  refine lv_ladd hx hb dX0_round_120 ?_
  refine lv_iload hx hb dX0_round_121 (lv_at hl 0 rfl) ?_
  refine lv_if_eq (tgt := 130) hx hb dX0_round_123 (by decide) (fun c11 => ?_) (fun c11 => ?_)
  · have hf := if_t c11 hf
    refine lv_iconst (v := 0) hx hb dX0_round_130 rfl ?_
    exact b_X0_round_131 C v0 v1 v2 v3 v10 r9 ((((v9 - v8).toInt64) <<< ((gI S 202 v1).toInt64 &&& 63)) + (gJ S 5 v0)) 0 h_v0 k_v0 h_v1 k_v1 S H locs _ hf hP hS hW (lv_sub hl [1, 2, 3, 4, 7, 0] rfl)
  · have hf := if_f c11 hf
    refine lv_iconst (v := 1) hx hb dX0_round_126 rfl ?_
    refine lv_goto (tgt := 131) hx hb dX0_round_127 (by decide) ?_
    exact b_X0_round_131 C v0 v1 v2 v3 v10 r9 ((((v9 - v8).toInt64) <<< ((gI S 202 v1).toInt64 &&& 63)) + (gJ S 5 v0)) 1 h_v0 k_v0 h_v1 k_v1 S H locs _ hf hP hS hW (lv_sub hl [1, 2, 3, 4, 7, 0] rfl)
set_option maxRecDepth 100000 in
set_option maxHeartbeats 4000000 in
theorem b_X0_round_55 {p : Program} {l : Launch} {e : Env} {s : State} {m : MethodId} {args : Array Value} {below : List Frame} {meth : Method} {c : Code} {V : EV} {G : GS} {S' : HS} {F : Nat} (C : CX p s m args meth c RX0 cX0_round 16 none V G) : ∀ (v0 : Nat) (v1 : Nat) (v2 : Int32) (v3 : Int32) (v4 : Int64) (v6 : Int32) (v8 : Int32) (v9 : Int32) (w0 : Int32) (h_v0 : v0 ∈ G.1) (k_v0 : G.2.1 v0 = 0) (h_v1 : v1 ∈ G.1) (k_v1 : G.2.1 v1 = 2) (S : HS) (H : Heap) (locs : List Loc) (ls : Array Slot), s_X0_round_J55 F v0 v1 v2 v3 v4 v6 v8 v9 w0 S = some S' → HP V G S H → va_S (AG G s.heap.size) s.heap H locs → WT G S → lv_has ls 16 [(0, .ref v0), (1, .ref v1), (2, .int v2), (3, .int v3), (4, .long v4), (6, .int v6), (8, .int v8), (9, .int v9)] → W p l e (RM 1 34) s m args below meth c H locs 0 0 (MQ below (QV V G S' s.heap.size) args s 0 0 (AG G s.heap.size)) (F0 m 55 ls [.int w0]) := by
  intro v0 v1 v2 v3 v4 v6 v8 v9 w0 h_v0 k_v0 h_v1 k_v1 S H locs ls hf hP hS hW hl
  have hx := C.1
  have hb := C.2.1
  unfold s_X0_round_J55 at hf
  refine lv_istore (lv' := [(10, .int w0), (0, .ref v0), (1, .ref v1), (2, .int v2), (3, .int v3), (4, .long v4), (6, .int v6), (8, .int v8), (9, .int v9)]) hx hb dX0_round_55 hl (by decide) rfl (fun ls hl => ?_)
  refine lv_aload_n hx hb dX0_round_57 rfl (lv_at hl 1 rfl) ?_
  refine lv_lload hx hb dX0_round_58 (lv_at hl 5 rfl) ?_
  refine lv_iload hx hb dX0_round_60 (lv_at hl 8 rfl) ?_
  refine lv_iload hx hb dX0_round_62 (lv_at hl 6 rfl) ?_
  refine lv_isub hx hb dX0_round_64 ?_
  obtain ⟨S6, eS6, hf⟩ := bd1_e hf
  refine x_aft_v (x_runV (As := [.long v4, .int (v9 - v6)]) (rest := []) C hP hS (c_X0_cut (l := l) C.2.2.2.2.2.2.2.2.2.1 hW h_v0 k_v0 eS6 H.size) h_v0 k_v0 (by decide) rfl rfl km_X0_cut ki_X0_cut qm_X0_100 ⟨(Nat.le_of_ble_eq_true rfl), (Nat.le_of_ble_eq_true rfl)⟩ rfl hl.1 rfl (Nat.le_of_ble_eq_true rfl) ⟨Nat.zero_le _, Nat.zero_le _⟩ dX0_round_65) hS (fun H locs hP hS hW => ?_)
  refine lv_aload_n hx hb dX0_round_68 rfl (lv_at hl 1 rfl) ?_
  refine lv_iconst (v := 1) hx hb dX0_round_69 rfl ?_
  obtain ⟨S7, eS7, hf⟩ := bnd_e hf
  refine pf_X0_9 C hP hS h_v0 k_v0 isZ_1 eS7 dX0_round_70 (fun H locs hP hS => ?_)
  have hW : WT G S7 := by rw [eS7]; exact hW
  refine lv_aload_n hx hb dX0_round_73 rfl (lv_at hl 1 rfl) ?_
  refine lv_iload_n hx hb dX0_round_74 rfl (lv_at hl 3 rfl) ?_
  refine lv_iload_n hx hb dX0_round_75 rfl (lv_at hl 4 rfl) ?_
  refine lv_aload_n hx hb dX0_round_76 rfl (lv_at hl 1 rfl) ?_
  refine gf_X0_104 C hP h_v0 k_v0 dX0_round_77 ?_
  refine lv_lconst (v := 1) hx hb dX0_round_80 rfl ?_
  refine lv_land hx hb dX0_round_81 ?_
  refine lv_lconst (v := 1) hx hb dX0_round_82 rfl ?_
  refine W.lcmp hx hb dX0_round_83 ?_
  refine lv_if_ne (tgt := 91) hx hb dX0_round_84 (by decide) (fun c8 => ?_) (fun c8 => ?_)
  · have hf := if_f c8 hf
    refine lv_iconst (v := 0) hx hb dX0_round_91 rfl ?_
    exact b_X0_round_92 C v0 v1 v2 v3 v8 v9 w0 v0 v2 v3 0 h_v0 k_v0 h_v1 k_v1 h_v0 k_v0 S7 H locs _ hf hP hS hW (lv_sub hl [1, 2, 3, 4, 7, 8, 0] rfl)
  · have hf := if_t c8 hf
    refine lv_iconst (v := 1) hx hb dX0_round_87 rfl ?_
    refine lv_goto (tgt := 92) hx hb dX0_round_88 (by decide) ?_
    exact b_X0_round_92 C v0 v1 v2 v3 v8 v9 w0 v0 v2 v3 1 h_v0 k_v0 h_v1 k_v1 h_v0 k_v0 S7 H locs _ hf hP hS hW (lv_sub hl [1, 2, 3, 4, 7, 8, 0] rfl)
set_option maxRecDepth 100000 in
set_option maxHeartbeats 4000000 in
theorem c_X0_round {l : Launch} {V : EV} {G : GS} {S : HS} {F : Nat} {a : Nat} {p0 : Nat} {p1 : Int32} {p2 : Int32} {p3 : Int64} {p4 : Int32} {S' : HS} (hN : G.1.Nodup) (hW : WT G S) (h_a : a ∈ G.1) (k_a : G.2.1 a = 0) (h_p0 : p0 ∈ G.1) (k_p0 : G.2.1 p0 = 2) (hf : s_X0_round F a p0 p1 p2 p3 p4 S = some S') : MetV l yX0_round cX0_round 16 1 34 V G S [.ref a, .ref p0, .int p1, .int p2, .long p3, .int p4] S' := by
  intro sz
  refine x_in RX0 rfl (by decide +kernel) hN (Nat.le_of_ble_eq_true rfl) (fun p e s m args below meth c ls hsz hargs hnm C hP hS hl => ?_)
  subst hsz
  have hx := C.1
  have hb := C.2.1
  have hl : lv_has ls 16 [(0, .ref a), (1, .ref p0), (2, .int p1), (3, .int p2), (4, .long p3), (6, .int p4)] := hl
  unfold s_X0_round at hf
  refine lv_lload hx hb dX0_round_0 (lv_at hl 4 rfl) ?_
  obtain ⟨r1, er1, hf⟩ := bd1_e hf
  refine x_aft_i (x_runS (As := [.long p3]) (rest := []) C hP hS (c_X11_bitLength (l := l) C.2.2.2.2.2.2.2.2.2.1 hW er1 s.heap.size) km_X11_bitLength ks_X11_bitLength qm_X0_80 ⟨(Nat.le_of_ble_eq_true rfl), (Nat.le_of_ble_eq_true rfl)⟩ rfl hl.1 rfl (Nat.le_of_ble_eq_true rfl) ⟨Nat.zero_le _, Nat.zero_le _⟩ dX0_round_2) hS (fun H locs hP hS hW => ?_)
  refine lv_iconst (v := 1) hx hb dX0_round_5 rfl ?_
  refine lv_isub hx hb dX0_round_6 ?_
  refine lv_iload hx hb dX0_round_7 (lv_at hl 5 rfl) ?_
  refine lv_iadd hx hb dX0_round_9 ?_
  obtain ⟨x2, ex2, hf⟩ := bnd_e hf
  refine nm_i ex2 ?_
  refine lv_istore (lv' := [(7, .int x2), (0, .ref a), (1, .ref p0), (2, .int p1), (3, .int p2), (4, .long p3), (6, .int p4)]) hx hb dX0_round_10 hl (by decide) rfl (fun ls hl => ?_)
  refine lv_iconst (v := 1) hx hb dX0_round_12 rfl ?_
  refine lv_aload_n hx hb dX0_round_13 rfl (lv_at hl 2 rfl) ?_
  refine gf_X0_94 C hP h_p0 k_p0 dX0_round_14 ?_
  refine lv_isub hx hb dX0_round_17 ?_
  refine lv_aload_n hx hb dX0_round_18 rfl (lv_at hl 2 rfl) ?_
  refine gf_X0_97 C hP h_p0 k_p0 dX0_round_19 ?_
  refine lv_isub hx hb dX0_round_22 ?_
  obtain ⟨x3, ex3, hf⟩ := bnd_e hf
  refine nm_i ex3 ?_
  refine lv_istore (lv' := [(8, .int x3), (7, .int x2), (0, .ref a), (1, .ref p0), (2, .int p1), (3, .int p2), (4, .long p3), (6, .int p4)]) hx hb dX0_round_23 hl (by decide) rfl (fun ls hl => ?_)
  refine lv_iload hx hb dX0_round_25 (lv_at hl 1 rfl) ?_
  refine lv_aload_n hx hb dX0_round_27 rfl (lv_at hl 3 rfl) ?_
  refine gf_X0_97 C hP h_p0 k_p0 dX0_round_28 ?_
  refine lv_isub hx hb dX0_round_31 ?_
  refine lv_iload hx hb dX0_round_32 (lv_at hl 0 rfl) ?_
  refine va_mmax hx hb (C.2.2.2.1.trans hl.1.symm) C.2.2.2.2.1 (qmath_X0_88 C) (C.2.2.2.2.2.1 _ ks_J9_max_7cf53) (C.2.2.2.2.2.1 _ km_J9_max_7cf53.2.1) (C.2.2.2.2.2.1 _ km_J9_max_7cf53.1) (Nat.le_of_ble_eq_true rfl) (Nat.le_of_ble_eq_true rfl) (Nat.zero_le _) (Nat.zero_le _) dX0_round_34 ?_
  obtain ⟨x4, ex4, hf⟩ := bnd_e hf
  refine nm_i ex4 ?_
  refine lv_istore (lv' := [(9, .int x4), (8, .int x3), (7, .int x2), (0, .ref a), (1, .ref p0), (2, .int p1), (3, .int p2), (4, .long p3), (6, .int p4)]) hx hb dX0_round_37 hl (by decide) rfl (fun ls hl => ?_)
  refine lv_iload hx hb dX0_round_39 (lv_at hl 2 rfl) ?_
  refine lv_iconst (v := 1) hx hb dX0_round_41 rfl ?_
  refine lv_aload_n hx hb dX0_round_42 rfl (lv_at hl 4 rfl) ?_
  refine gf_X0_94 C hP h_p0 k_p0 dX0_round_43 ?_
  refine lv_isub hx hb dX0_round_46 ?_
  refine lv_icmp_ge (tgt := 54) hx hb dX0_round_47 (by decide) (fun c5 => ?_) (fun c5 => ?_)
  · have hf := if_t c5 hf
    refine lv_iconst (v := 0) hx hb dX0_round_54 rfl ?_
    exact b_X0_round_55 C a p0 p1 p2 p3 p4 x3 x4 0 h_a k_a h_p0 k_p0 S H locs _ hf hP hS hW (lv_sub hl [3, 4, 5, 6, 7, 8, 1, 0] rfl)
  · have hf := if_f c5 hf
    refine lv_iconst (v := 1) hx hb dX0_round_50 rfl ?_
    refine lv_goto (tgt := 55) hx hb dX0_round_51 (by decide) ?_
    exact b_X0_round_55 C a p0 p1 p2 p3 p4 x3 x4 1 h_a k_a h_p0 k_p0 S H locs _ hf hP hS hW (lv_sub hl [3, 4, 5, 6, 7, 8, 1, 0] rfl)
def s_X0_addToNought_J63 (F : Nat) (w0 : Nat) (w1 : Nat) (w2 : Int32) (S : HS) : Option HS :=
  bnd (s_X0_tell w0 (s_X2_noughtOf w1 w2 S) 0 S) fun S6 =>
  some S6
def s_X0_addToNought (F : Nat) (a : Nat) (p0 : Nat) (p1 : Int32) (p2 : Int32) (p3 : Int32) (S : HS) : Option HS :=
  bnd (s_X2_isMinus p0 p3 S : Int32) fun x2 =>
  if (s_X2_addend p0 p3 S) = (0 : Int32) then
  if p2 = x2 then
  s_X0_addToNought_J63 F a p0 p2 S
  else
  if p1 = (2 : Int32) then
  s_X0_addToNought_J63 F a p0 1 S
  else
  s_X0_addToNought_J63 F a p0 0 S
  else
  bd1 (s_X0_round F a p0 p1 x2 ((s_X2_addend p0 p3 S).toInt64) (s_X2_place p0 p3 S) S) fun S7 =>
  some S7
set_option maxRecDepth 100000 in
set_option maxHeartbeats 4000000 in
theorem b_X0_addToNought_63 {p : Program} {l : Launch} {e : Env} {s : State} {m : MethodId} {args : Array Value} {below : List Frame} {meth : Method} {c : Code} {V : EV} {G : GS} {S' : HS} {F : Nat} (C : CX p s m args meth c RX0 cX0_addToNought 6 none V G) : ∀ (w0 : Nat) (w1 : Nat) (w2 : Int32) (h_w0 : w0 ∈ G.1) (k_w0 : G.2.1 w0 = 0) (h_w1 : w1 ∈ G.1) (k_w1 : G.2.1 w1 = 2) (S : HS) (H : Heap) (locs : List Loc) (ls : Array Slot), s_X0_addToNought_J63 F w0 w1 w2 S = some S' → HP V G S H → va_S (AG G s.heap.size) s.heap H locs → WT G S → lv_has ls 6 [] → W p l e (RM 3 90) s m args below meth c H locs 0 0 (MQ below (QV V G S' s.heap.size) args s 0 0 (AG G s.heap.size)) (F0 m 63 ls [.int w2, .ref w1, .ref w0]) := by
  intro w0 w1 w2 h_w0 k_w0 h_w1 k_w1 S H locs ls hf hP hS hW hl
  have hx := C.1
  have hb := C.2.1
  unfold s_X0_addToNought_J63 at hf
  refine x_aft_i (x_runV (As := [.int w2]) (rest := [.ref w0]) C hP hS (c_X2_noughtOf (l := l) C.2.2.2.2.2.2.2.2.2.1 hW h_w1 k_w1 rfl H.size) h_w1 k_w1 (by decide) rfl rfl km_X2_noughtOf ki_X2_noughtOf qm_X0_77 ⟨(Nat.le_of_ble_eq_true rfl), (Nat.le_of_ble_eq_true rfl)⟩ rfl hl.1 rfl (Nat.le_of_ble_eq_true rfl) ⟨Nat.zero_le _, Nat.zero_le _⟩ dX0_addToNought_63) hS (fun H locs hP hS hW => ?_)
  refine lv_iconst (v := 0) hx hb dX0_addToNought_66 rfl ?_
  obtain ⟨S6, eS6, hf⟩ := bnd_e hf
  refine x_aft_v (x_runV (As := [.int (s_X2_noughtOf w1 w2 S), .int 0]) (rest := []) C hP hS (c_X0_tell (l := l) C.2.2.2.2.2.2.2.2.2.1 hW h_w0 k_w0 eS6.symm H.size) h_w0 k_w0 (by decide) rfl rfl km_X0_tell ki_X0_tell qm_X0_43 ⟨(Nat.le_of_ble_eq_true rfl), (Nat.le_of_ble_eq_true rfl)⟩ rfl hl.1 rfl (Nat.le_of_ble_eq_true rfl) ⟨Nat.zero_le _, Nat.zero_le _⟩ dX0_addToNought_67) hS (fun H locs hP hS hW => ?_)
  cases hf
  exact x_retv C hP hS hW dX0_addToNought_70
set_option maxRecDepth 100000 in
set_option maxHeartbeats 4000000 in
theorem c_X0_addToNought {l : Launch} {V : EV} {G : GS} {S : HS} {F : Nat} {a : Nat} {p0 : Nat} {p1 : Int32} {p2 : Int32} {p3 : Int32} {S' : HS} (hN : G.1.Nodup) (hW : WT G S) (h_a : a ∈ G.1) (k_a : G.2.1 a = 0) (h_p0 : p0 ∈ G.1) (k_p0 : G.2.1 p0 = 2) (hf : s_X0_addToNought F a p0 p1 p2 p3 S = some S') : MetV l yX0_addToNought cX0_addToNought 6 3 90 V G S [.ref a, .ref p0, .int p1, .int p2, .int p3] S' := by
  intro sz
  refine x_in RX0 rfl (by decide +kernel) hN (Nat.le_of_ble_eq_true rfl) (fun p e s m args below meth c ls hsz hargs hnm C hP hS hl => ?_)
  subst hsz
  have hx := C.1
  have hb := C.2.1
  have hl : lv_has ls 6 [(0, .ref a), (1, .ref p0), (2, .int p1), (3, .int p2), (4, .int p3)] := hl
  unfold s_X0_addToNought at hf
  refine lv_aload_n hx hb dX0_addToNought_0 rfl (lv_at hl 1 rfl) ?_
  refine lv_iload hx hb dX0_addToNought_1 (lv_at hl 4 rfl) ?_
  refine x_aft_z (x_runV (As := [.int p3]) (rest := []) C hP hS (c_X2_isMinus (l := l) C.2.2.2.2.2.2.2.2.2.1 hW h_p0 k_p0 rfl s.heap.size) h_p0 k_p0 (by decide) rfl rfl km_X2_isMinus ki_X2_isMinus qm_X0_31 ⟨(Nat.le_of_ble_eq_true rfl), (Nat.le_of_ble_eq_true rfl)⟩ rfl hl.1 rfl (Nat.le_of_ble_eq_true rfl) ⟨Nat.zero_le _, Nat.zero_le _⟩ dX0_addToNought_3) hS (fun H locs hP hS hW z1 => ?_)
  obtain ⟨x2, ex2, hf⟩ := bnd_e hf
  refine nm_i ex2 ?_
  have zx2 : isZ x2 = true := by rw [ex2]; exact z1
  refine lv_istore (lv' := [(5, .int x2), (0, .ref a), (1, .ref p0), (2, .int p1), (3, .int p2), (4, .int p3)]) hx hb dX0_addToNought_6 hl (by decide) rfl (fun ls hl => ?_)
  refine lv_aload_n hx hb dX0_addToNought_8 rfl (lv_at hl 2 rfl) ?_
  refine lv_iload hx hb dX0_addToNought_9 (lv_at hl 5 rfl) ?_
  refine x_aft_i (x_runV (As := [.int p3]) (rest := []) C hP hS (c_X2_addend (l := l) C.2.2.2.2.2.2.2.2.2.1 hW h_p0 k_p0 rfl H.size) h_p0 k_p0 (by decide) rfl rfl km_X2_addend ki_X2_addend qm_X0_54 ⟨(Nat.le_of_ble_eq_true rfl), (Nat.le_of_ble_eq_true rfl)⟩ rfl hl.1 rfl (Nat.le_of_ble_eq_true rfl) ⟨Nat.zero_le _, Nat.zero_le _⟩ dX0_addToNought_11) hS (fun H locs hP hS hW => ?_)
  refine lv_if_eq (tgt := 41) hx hb dX0_addToNought_14 (by decide) (fun c3 => ?_) (fun c3 => ?_)
  · have hf := if_t c3 hf
    refine lv_aload_n hx hb dX0_addToNought_41 rfl (lv_at hl 1 rfl) ?_
    refine lv_aload_n hx hb dX0_addToNought_42 rfl (lv_at hl 2 rfl) ?_
    refine lv_iload_n hx hb dX0_addToNought_43 rfl (lv_at hl 4 rfl) ?_
    refine lv_iload hx hb dX0_addToNought_44 (lv_at hl 0 rfl) ?_
    refine lv_icmp_ne (tgt := 53) hx hb dX0_addToNought_46 (by decide) (fun c4 => ?_) (fun c4 => ?_)
    · have hf := if_f c4 hf
      refine lv_iload_n hx hb dX0_addToNought_53 rfl (lv_at hl 3 rfl) ?_
      refine lv_iconst (v := 2) hx hb dX0_addToNought_54 rfl ?_
      refine lv_icmp_ne (tgt := 62) hx hb dX0_addToNought_55 (by decide) (fun c5 => ?_) (fun c5 => ?_)
      · have hf := if_f c5 hf
        refine lv_iconst (v := 0) hx hb dX0_addToNought_62 rfl ?_
        exact b_X0_addToNought_63 C a p0 0 h_a k_a h_p0 k_p0 S H locs _ hf hP hS hW (lv_sub hl [] rfl)
      · have hf := if_t c5 hf
        refine lv_iconst (v := 1) hx hb dX0_addToNought_58 rfl ?_
        refine lv_goto (tgt := 63) hx hb dX0_addToNought_59 (by decide) ?_
        exact b_X0_addToNought_63 C a p0 1 h_a k_a h_p0 k_p0 S H locs _ hf hP hS hW (lv_sub hl [] rfl)
    · have hf := if_t c4 hf
      refine lv_iload_n hx hb dX0_addToNought_49 rfl (lv_at hl 4 rfl) ?_
      refine lv_goto (tgt := 63) hx hb dX0_addToNought_50 (by decide) ?_
      exact b_X0_addToNought_63 C a p0 p2 h_a k_a h_p0 k_p0 S H locs _ hf hP hS hW (lv_sub hl [] rfl)
  · have hf := if_f c3 hf
    refine lv_aload_n hx hb dX0_addToNought_17 rfl (lv_at hl 1 rfl) ?_
    refine lv_aload_n hx hb dX0_addToNought_18 rfl (lv_at hl 2 rfl) ?_
    refine lv_iload_n hx hb dX0_addToNought_19 rfl (lv_at hl 3 rfl) ?_
    refine lv_iload hx hb dX0_addToNought_20 (lv_at hl 0 rfl) ?_
    refine lv_aload_n hx hb dX0_addToNought_22 rfl (lv_at hl 2 rfl) ?_
    refine lv_iload hx hb dX0_addToNought_23 (lv_at hl 5 rfl) ?_
    refine x_aft_i (x_runV (As := [.int p3]) (rest := [.int x2, .int p1, .ref p0, .ref a]) C hP hS (c_X2_addend (l := l) C.2.2.2.2.2.2.2.2.2.1 hW h_p0 k_p0 rfl H.size) h_p0 k_p0 (by decide) rfl rfl km_X2_addend ki_X2_addend qm_X0_54 ⟨(Nat.le_of_ble_eq_true rfl), (Nat.le_of_ble_eq_true rfl)⟩ rfl hl.1 rfl (Nat.le_of_ble_eq_true rfl) ⟨Nat.zero_le _, Nat.zero_le _⟩ dX0_addToNought_25) hS (fun H locs hP hS hW => ?_)
    refine lv_i2l hx hb dX0_addToNought_28 rfl ?_
    refine lv_aload_n hx hb dX0_addToNought_29 rfl (lv_at hl 2 rfl) ?_
    refine lv_iload hx hb dX0_addToNought_30 (lv_at hl 5 rfl) ?_
    refine x_aft_i (x_runV (As := [.int p3]) (rest := [.long ((s_X2_addend p0 p3 S).toInt64), .int x2, .int p1, .ref p0, .ref a]) C hP hS (c_X2_place (l := l) C.2.2.2.2.2.2.2.2.2.1 hW h_p0 k_p0 rfl H.size) h_p0 k_p0 (by decide) rfl rfl km_X2_place ki_X2_place qm_X0_62 ⟨(Nat.le_of_ble_eq_true rfl), (Nat.le_of_ble_eq_true rfl)⟩ rfl hl.1 rfl (Nat.le_of_ble_eq_true rfl) ⟨Nat.zero_le _, Nat.zero_le _⟩ dX0_addToNought_32) hS (fun H locs hP hS hW => ?_)
    obtain ⟨S7, eS7, hf⟩ := bd1_e hf
    refine x_aft_v (x_runV (As := [.ref p0, .int p1, .int x2, .long ((s_X2_addend p0 p3 S).toInt64), .int (s_X2_place p0 p3 S)]) (rest := []) C hP hS (c_X0_round (l := l) C.2.2.2.2.2.2.2.2.2.1 hW h_a k_a h_p0 k_p0 eS7 H.size) h_a k_a (by decide) rfl rfl km_X0_round ki_X0_round qm_X0_73 ⟨(Nat.le_of_ble_eq_true rfl), (Nat.le_of_ble_eq_true rfl)⟩ rfl hl.1 rfl (Nat.le_of_ble_eq_true rfl) ⟨Nat.zero_le _, Nat.zero_le _⟩ dX0_addToNought_35) hS (fun H locs hP hS hW => ?_)
    refine lv_goto (tgt := 70) hx hb dX0_addToNought_38 (by decide) ?_
    cases hf
    exact x_retv C hP hS hW dX0_addToNought_70
def s_X0_shifted (p0 : Int64) (p1 : Int32) (S : HS) : Int64 :=
  if (0 : Int32) < p1 then
  if p1 < (60 : Int32) then
  (p0.toUInt64 >>> (p1.toInt64.toUInt64 &&& Int64.toUInt64 63)).toInt64
  else
  1
  else
  p0
set_option maxRecDepth 100000 in
set_option maxHeartbeats 4000000 in
theorem c_X0_shifted {l : Launch} {V : EV} {G : GS} {S : HS} {p0 : Int64} {p1 : Int32} {r : Int64} (hN : G.1.Nodup) (hW : WT G S) (hf : s_X0_shifted p0 p1 S = r) : MetJ l yX0_shifted cX0_shifted 3 0 0 V G S [.long p0, .int p1] r S := by
  intro sz
  refine x_in RX0 rfl (by decide +kernel) hN (Nat.le_of_ble_eq_true rfl) (fun p e s m args below meth c ls hsz hargs hnm C hP hS hl => ?_)
  subst hsz
  have hx := C.1
  have hb := C.2.1
  have hl : lv_has ls 3 [(0, .long p0), (2, .int p1)] := hl
  unfold s_X0_shifted at hf
  refine lv_iload_n hx hb dX0_shifted_0 rfl (lv_at hl 1 rfl) ?_
  refine lv_if_gt (tgt := 6) hx hb dX0_shifted_1 (by decide) (fun c1 => ?_) (fun c1 => ?_)
  · have hf := if_t c1 hf
    refine lv_iload_n hx hb dX0_shifted_6 rfl (lv_at hl 1 rfl) ?_
    refine lv_bipush (v := 60) hx hb dX0_shifted_7 kc_bipush_60 ?_
    refine lv_icmp_lt (tgt := 16) hx hb dX0_shifted_9 (by decide) (fun c2 => ?_) (fun c2 => ?_)
    · have hf := if_t c2 hf
      refine lv_lload_n hx hb dX0_shifted_16 rfl (lv_at hl 0 rfl) ?_
      refine lv_iload_n hx hb dX0_shifted_17 rfl (lv_at hl 1 rfl) ?_
      refine lv_lushr hx hb dX0_shifted_18 rfl ?_
      cases hf
      exact x_retl C hP hS hW dX0_shifted_19
    · have hf := if_f c2 hf
      refine lv_lconst (v := 1) hx hb dX0_shifted_12 rfl ?_
      refine lv_goto (tgt := 19) hx hb dX0_shifted_13 (by decide) ?_
      cases hf
      exact x_retl C hP hS hW dX0_shifted_19
  · have hf := if_f c1 hf
    refine lv_lload_n hx hb dX0_shifted_4 rfl (lv_at hl 0 rfl) ?_
    cases hf
    exact x_retl C hP hS hW dX0_shifted_5
def s_X0_addToProduct_J181 (F : Nat) (v6 : Int32) (v10 : Int32) (v12 : Int32) (w0 : Nat) (w1 : Nat) (w2 : Int32) (w3 : Int32) (w4 : Int64) (S : HS) : Option HS :=
  bd1 (s_X0_round F w0 w1 w2 w3 w4 ((v6 - v10) + (if (-v12) < (0 : Int32) then 0 else -v12)) S) fun S17 =>
  some S17
def s_X0_addToProduct_J166 (F : Nat) (v6 : Int32) (v10 : Int32) (v12 : Int32) (v17 : Int64) (w0 : Nat) (w1 : Nat) (w2 : Int32) (w3 : Int32) (S : HS) : Option HS :=
  if (0 : Int32) ≤ (lg_cmp v17 (0 : Int64)) then
  s_X0_addToProduct_J181 F v6 v10 v12 w0 w1 w2 w3 v17 S
  else
  s_X0_addToProduct_J181 F v6 v10 v12 w0 w1 w2 w3 (-v17) S
def s_X0_addToProduct_J141 (F : Nat) (w0 : Nat) (w1 : Nat) (w2 : Int32) (S : HS) : Option HS :=
  bnd (s_X0_tell w0 (s_X2_noughtOf w1 w2 S) 0 S) fun S19 =>
  some S19
def s_X0_addToProduct_J119 (F : Nat) (v0 : Nat) (v1 : Nat) (v2 : Int32) (v6 : Int32) (v10 : Int32) (v12 : Int32) (w0 : Int64) (w1 : Int64) (S : HS) : Option HS :=
  bnd (w0 + w1 : Int64) fun x13 =>
  if (lg_cmp x13 (0 : Int64)) = (0 : Int32) then
  if v2 = (2 : Int32) then
  s_X0_addToProduct_J141 F v0 v1 1 S
  else
  s_X0_addToProduct_J141 F v0 v1 0 S
  else
  if (0 : Int32) ≤ (lg_cmp x13 (0 : Int64)) then
  s_X0_addToProduct_J166 F v6 v10 v12 x13 v0 v1 v2 0 S
  else
  s_X0_addToProduct_J166 F v6 v10 v12 x13 v0 v1 v2 1 S
def s_X0_addToProduct_J102 (F : Nat) (v0 : Nat) (v1 : Nat) (v2 : Int32) (v6 : Int32) (v7 : Int32) (v10 : Int32) (v12 : Int32) (v15 : Int64) (w0 : Int64) (S : HS) : Option HS :=
  if (s_X2_isMinus v1 v7 S) = (0 : Int32) then
  s_X0_addToProduct_J119 F v0 v1 v2 v6 v10 v12 w0 v15 S
  else
  s_X0_addToProduct_J119 F v0 v1 v2 v6 v10 v12 w0 (-v15) S
def s_X0_addToProduct (F : Nat) (a : Nat) (p0 : Nat) (p1 : Int32) (p2 : Int32) (p3 : Int64) (p4 : Int32) (p5 : Int32) (S : HS) : Option HS :=
  bnd ((s_X2_addend p0 p5 S).toInt64 : Int64) fun x1 =>
  if (lg_cmp x1 (0 : Int64)) = (0 : Int32) then
  bd1 (s_X0_round F a p0 p1 p2 p3 p4 S) fun S20 =>
  some S20
  else
  bd1 (s_X11_bitLength F p3 S) fun r3 =>
  bnd (60 - r3 : Int32) fun x4 =>
  bd1 (s_X11_bitLength F x1 S) fun r5 =>
  bnd (60 - r5 : Int32) fun x6 =>
  bnd ((p4 - x4) - ((s_X2_place p0 p5 S) - x6) : Int32) fun x7 =>
  bnd (s_X0_shifted (p3 <<< (x4.toInt64 &&& 63)) (-x7) S : Int64) fun x8 =>
  bnd (s_X0_shifted (x1 <<< (x6.toInt64 &&& 63)) x7 S : Int64) fun x9 =>
  if p2 = (0 : Int32) then
  s_X0_addToProduct_J102 F a p0 p1 p4 p5 x4 x7 x9 x8 S
  else
  s_X0_addToProduct_J102 F a p0 p1 p4 p5 x4 x7 x9 (-x8) S
set_option maxRecDepth 100000 in
set_option maxHeartbeats 4000000 in
theorem b_X0_addToProduct_181 {p : Program} {l : Launch} {e : Env} {s : State} {m : MethodId} {args : Array Value} {below : List Frame} {meth : Method} {c : Code} {V : EV} {G : GS} {S' : HS} {F : Nat} (C : CX p s m args meth c RX0 cX0_addToProduct 19 none V G) : ∀ (v6 : Int32) (v10 : Int32) (v12 : Int32) (w0 : Nat) (w1 : Nat) (w2 : Int32) (w3 : Int32) (w4 : Int64) (h_w0 : w0 ∈ G.1) (k_w0 : G.2.1 w0 = 0) (h_w1 : w1 ∈ G.1) (k_w1 : G.2.1 w1 = 2) (S : HS) (H : Heap) (locs : List Loc) (ls : Array Slot), s_X0_addToProduct_J181 F v6 v10 v12 w0 w1 w2 w3 w4 S = some S' → HP V G S H → va_S (AG G s.heap.size) s.heap H locs → WT G S → lv_has ls 19 [(6, .int v6), (10, .int v10), (12, .int v12)] → W p l e (RM 3 90) s m args below meth c H locs 0 0 (MQ below (QV V G S' s.heap.size) args s 0 0 (AG G s.heap.size)) (F0 m 181 ls [.long w4, .int w3, .int w2, .ref w1, .ref w0]) := by
  intro v6 v10 v12 w0 w1 w2 w3 w4 h_w0 k_w0 h_w1 k_w1 S H locs ls hf hP hS hW hl
  have hx := C.1
  have hb := C.2.1
  unfold s_X0_addToProduct_J181 at hf
  refine lv_iload hx hb dX0_addToProduct_181 (lv_at hl 0 rfl) ?_
  refine lv_iload hx hb dX0_addToProduct_183 (lv_at hl 1 rfl) ?_
  refine lv_isub hx hb dX0_addToProduct_185 ?_
  refine lv_iload hx hb dX0_addToProduct_186 (lv_at hl 2 rfl) ?_
  refine lv_ineg hx hb dX0_addToProduct_188 ?_
  refine lv_iconst (v := 0) hx hb dX0_addToProduct_189 rfl ?_
  refine va_mmax hx hb (C.2.2.2.1.trans hl.1.symm) C.2.2.2.2.1 (qmath_X0_88 C) (C.2.2.2.2.2.1 _ ks_J9_max_7cf53) (C.2.2.2.2.2.1 _ km_J9_max_7cf53.2.1) (C.2.2.2.2.2.1 _ km_J9_max_7cf53.1) (Nat.le_of_ble_eq_true rfl) (Nat.le_of_ble_eq_true rfl) (Nat.zero_le _) (Nat.zero_le _) dX0_addToProduct_190 ?_
  refine lv_iadd hx hb dX0_addToProduct_193 ?_
  obtain ⟨S17, eS17, hf⟩ := bd1_e hf
  refine x_aft_v (x_runV (As := [.ref w1, .int w2, .int w3, .long w4, .int ((v6 - v10) + (if (-v12) < (0 : Int32) then 0 else -v12))]) (rest := []) C hP hS (c_X0_round (l := l) C.2.2.2.2.2.2.2.2.2.1 hW h_w0 k_w0 h_w1 k_w1 eS17 H.size) h_w0 k_w0 (by decide) rfl rfl km_X0_round ki_X0_round qm_X0_73 ⟨(Nat.le_of_ble_eq_true rfl), (Nat.le_of_ble_eq_true rfl)⟩ rfl hl.1 rfl (Nat.le_of_ble_eq_true rfl) ⟨Nat.zero_le _, Nat.zero_le _⟩ dX0_addToProduct_194) hS (fun H locs hP hS hW => ?_)
  cases hf
  exact x_retv C hP hS hW dX0_addToProduct_197
set_option maxRecDepth 100000 in
set_option maxHeartbeats 4000000 in
theorem b_X0_addToProduct_166 {p : Program} {l : Launch} {e : Env} {s : State} {m : MethodId} {args : Array Value} {below : List Frame} {meth : Method} {c : Code} {V : EV} {G : GS} {S' : HS} {F : Nat} (C : CX p s m args meth c RX0 cX0_addToProduct 19 none V G) : ∀ (v6 : Int32) (v10 : Int32) (v12 : Int32) (v17 : Int64) (w0 : Nat) (w1 : Nat) (w2 : Int32) (w3 : Int32) (h_w0 : w0 ∈ G.1) (k_w0 : G.2.1 w0 = 0) (h_w1 : w1 ∈ G.1) (k_w1 : G.2.1 w1 = 2) (S : HS) (H : Heap) (locs : List Loc) (ls : Array Slot), s_X0_addToProduct_J166 F v6 v10 v12 v17 w0 w1 w2 w3 S = some S' → HP V G S H → va_S (AG G s.heap.size) s.heap H locs → WT G S → lv_has ls 19 [(6, .int v6), (10, .int v10), (12, .int v12), (17, .long v17)] → W p l e (RM 3 90) s m args below meth c H locs 0 0 (MQ below (QV V G S' s.heap.size) args s 0 0 (AG G s.heap.size)) (F0 m 166 ls [.int w3, .int w2, .ref w1, .ref w0]) := by
  intro v6 v10 v12 v17 w0 w1 w2 w3 h_w0 k_w0 h_w1 k_w1 S H locs ls hf hP hS hW hl
  have hx := C.1
  have hb := C.2.1
  unfold s_X0_addToProduct_J166 at hf
  refine lv_lload hx hb dX0_addToProduct_166 (lv_at hl 3 rfl) ?_
  refine lv_lconst (v := 0) hx hb dX0_addToProduct_168 rfl ?_
  refine W.lcmp hx hb dX0_addToProduct_169 ?_
  refine lv_if_ge (tgt := 179) hx hb dX0_addToProduct_170 (by decide) (fun c16 => ?_) (fun c16 => ?_)
  · have hf := if_t c16 hf
    refine lv_lload hx hb dX0_addToProduct_179 (lv_at hl 3 rfl) ?_
    exact b_X0_addToProduct_181 C v6 v10 v12 w0 w1 w2 w3 v17 h_w0 k_w0 h_w1 k_w1 S H locs _ hf hP hS hW (lv_sub hl [0, 1, 2] rfl)
  · have hf := if_f c16 hf
    refine lv_lload hx hb dX0_addToProduct_173 (lv_at hl 3 rfl) ?_
    refine lv_lneg hx hb dX0_addToProduct_175 ?_
    refine lv_goto (tgt := 181) hx hb dX0_addToProduct_176 (by decide) ?_
    exact b_X0_addToProduct_181 C v6 v10 v12 w0 w1 w2 w3 (-v17) h_w0 k_w0 h_w1 k_w1 S H locs _ hf hP hS hW (lv_sub hl [0, 1, 2] rfl)
set_option maxRecDepth 100000 in
set_option maxHeartbeats 4000000 in
theorem b_X0_addToProduct_141 {p : Program} {l : Launch} {e : Env} {s : State} {m : MethodId} {args : Array Value} {below : List Frame} {meth : Method} {c : Code} {V : EV} {G : GS} {S' : HS} {F : Nat} (C : CX p s m args meth c RX0 cX0_addToProduct 19 none V G) : ∀ (w0 : Nat) (w1 : Nat) (w2 : Int32) (h_w0 : w0 ∈ G.1) (k_w0 : G.2.1 w0 = 0) (h_w1 : w1 ∈ G.1) (k_w1 : G.2.1 w1 = 2) (S : HS) (H : Heap) (locs : List Loc) (ls : Array Slot), s_X0_addToProduct_J141 F w0 w1 w2 S = some S' → HP V G S H → va_S (AG G s.heap.size) s.heap H locs → WT G S → lv_has ls 19 [] → W p l e (RM 3 90) s m args below meth c H locs 0 0 (MQ below (QV V G S' s.heap.size) args s 0 0 (AG G s.heap.size)) (F0 m 141 ls [.int w2, .ref w1, .ref w0]) := by
  intro w0 w1 w2 h_w0 k_w0 h_w1 k_w1 S H locs ls hf hP hS hW hl
  have hx := C.1
  have hb := C.2.1
  unfold s_X0_addToProduct_J141 at hf
  refine x_aft_i (x_runV (As := [.int w2]) (rest := [.ref w0]) C hP hS (c_X2_noughtOf (l := l) C.2.2.2.2.2.2.2.2.2.1 hW h_w1 k_w1 rfl H.size) h_w1 k_w1 (by decide) rfl rfl km_X2_noughtOf ki_X2_noughtOf qm_X0_77 ⟨(Nat.le_of_ble_eq_true rfl), (Nat.le_of_ble_eq_true rfl)⟩ rfl hl.1 rfl (Nat.le_of_ble_eq_true rfl) ⟨Nat.zero_le _, Nat.zero_le _⟩ dX0_addToProduct_141) hS (fun H locs hP hS hW => ?_)
  refine lv_iconst (v := 0) hx hb dX0_addToProduct_144 rfl ?_
  obtain ⟨S19, eS19, hf⟩ := bnd_e hf
  refine x_aft_v (x_runV (As := [.int (s_X2_noughtOf w1 w2 S), .int 0]) (rest := []) C hP hS (c_X0_tell (l := l) C.2.2.2.2.2.2.2.2.2.1 hW h_w0 k_w0 eS19.symm H.size) h_w0 k_w0 (by decide) rfl rfl km_X0_tell ki_X0_tell qm_X0_43 ⟨(Nat.le_of_ble_eq_true rfl), (Nat.le_of_ble_eq_true rfl)⟩ rfl hl.1 rfl (Nat.le_of_ble_eq_true rfl) ⟨Nat.zero_le _, Nat.zero_le _⟩ dX0_addToProduct_145) hS (fun H locs hP hS hW => ?_)
  refine lv_goto (tgt := 197) hx hb dX0_addToProduct_148 (by decide) ?_
  cases hf
  exact x_retv C hP hS hW dX0_addToProduct_197
set_option maxRecDepth 100000 in
set_option maxHeartbeats 4000000 in
theorem b_X0_addToProduct_119 {p : Program} {l : Launch} {e : Env} {s : State} {m : MethodId} {args : Array Value} {below : List Frame} {meth : Method} {c : Code} {V : EV} {G : GS} {S' : HS} {F : Nat} (C : CX p s m args meth c RX0 cX0_addToProduct 19 none V G) : ∀ (v0 : Nat) (v1 : Nat) (v2 : Int32) (v6 : Int32) (v10 : Int32) (v12 : Int32) (w0 : Int64) (w1 : Int64) (h_v0 : v0 ∈ G.1) (k_v0 : G.2.1 v0 = 0) (h_v1 : v1 ∈ G.1) (k_v1 : G.2.1 v1 = 2) (S : HS) (H : Heap) (locs : List Loc) (ls : Array Slot), s_X0_addToProduct_J119 F v0 v1 v2 v6 v10 v12 w0 w1 S = some S' → HP V G S H → va_S (AG G s.heap.size) s.heap H locs → WT G S → lv_has ls 19 [(0, .ref v0), (1, .ref v1), (2, .int v2), (6, .int v6), (10, .int v10), (12, .int v12)] → W p l e (RM 3 90) s m args below meth c H locs 0 0 (MQ below (QV V G S' s.heap.size) args s 0 0 (AG G s.heap.size)) (F0 m 119 ls [.long w1, .long w0]) := by
  intro v0 v1 v2 v6 v10 v12 w0 w1 h_v0 k_v0 h_v1 k_v1 S H locs ls hf hP hS hW hl
  have hx := C.1
  have hb := C.2.1
  unfold s_X0_addToProduct_J119 at hf
  refine lv_ladd hx hb dX0_addToProduct_119 ?_
  obtain ⟨x13, ex13, hf⟩ := bnd_e hf
  refine nm_l ex13 ?_
  refine lv_lstore (lv' := [(17, .long x13), (0, .ref v0), (1, .ref v1), (2, .int v2), (6, .int v6), (10, .int v10), (12, .int v12)]) hx hb dX0_addToProduct_120 hl (by decide) rfl (fun ls hl => ?_)
  refine lv_lload hx hb dX0_addToProduct_122 (lv_at hl 0 rfl) ?_
  refine lv_lconst (v := 0) hx hb dX0_addToProduct_124 rfl ?_
  refine W.lcmp hx hb dX0_addToProduct_125 ?_
  refine lv_if_ne (tgt := 151) hx hb dX0_addToProduct_126 (by decide) (fun c14 => ?_) (fun c14 => ?_)
  · have hf := if_f c14 hf
    refine lv_aload_n hx hb dX0_addToProduct_151 rfl (lv_at hl 1 rfl) ?_
    refine lv_aload_n hx hb dX0_addToProduct_152 rfl (lv_at hl 2 rfl) ?_
    refine lv_iload_n hx hb dX0_addToProduct_153 rfl (lv_at hl 3 rfl) ?_
    refine lv_lload hx hb dX0_addToProduct_154 (lv_at hl 0 rfl) ?_
    refine lv_lconst (v := 0) hx hb dX0_addToProduct_156 rfl ?_
    refine W.lcmp hx hb dX0_addToProduct_157 ?_
    refine lv_if_ge (tgt := 165) hx hb dX0_addToProduct_158 (by decide) (fun c15 => ?_) (fun c15 => ?_)
    · have hf := if_t c15 hf
      refine lv_iconst (v := 0) hx hb dX0_addToProduct_165 rfl ?_
      exact b_X0_addToProduct_166 C v6 v10 v12 x13 v0 v1 v2 0 h_v0 k_v0 h_v1 k_v1 S H locs _ hf hP hS hW (lv_sub hl [4, 5, 6, 0] rfl)
    · have hf := if_f c15 hf
      refine lv_iconst (v := 1) hx hb dX0_addToProduct_161 rfl ?_
      refine lv_goto (tgt := 166) hx hb dX0_addToProduct_162 (by decide) ?_
      exact b_X0_addToProduct_166 C v6 v10 v12 x13 v0 v1 v2 1 h_v0 k_v0 h_v1 k_v1 S H locs _ hf hP hS hW (lv_sub hl [4, 5, 6, 0] rfl)
  · have hf := if_t c14 hf
    refine lv_aload_n hx hb dX0_addToProduct_129 rfl (lv_at hl 1 rfl) ?_
    refine lv_aload_n hx hb dX0_addToProduct_130 rfl (lv_at hl 2 rfl) ?_
    refine lv_iload_n hx hb dX0_addToProduct_131 rfl (lv_at hl 3 rfl) ?_
    refine lv_iconst (v := 2) hx hb dX0_addToProduct_132 rfl ?_
    refine lv_icmp_ne (tgt := 140) hx hb dX0_addToProduct_133 (by decide) (fun c18 => ?_) (fun c18 => ?_)
    · have hf := if_f c18 hf
      refine lv_iconst (v := 0) hx hb dX0_addToProduct_140 rfl ?_
      exact b_X0_addToProduct_141 C v0 v1 0 h_v0 k_v0 h_v1 k_v1 S H locs _ hf hP hS hW (lv_sub hl [] rfl)
    · have hf := if_t c18 hf
      refine lv_iconst (v := 1) hx hb dX0_addToProduct_136 rfl ?_
      refine lv_goto (tgt := 141) hx hb dX0_addToProduct_137 (by decide) ?_
      exact b_X0_addToProduct_141 C v0 v1 1 h_v0 k_v0 h_v1 k_v1 S H locs _ hf hP hS hW (lv_sub hl [] rfl)
set_option maxRecDepth 100000 in
set_option maxHeartbeats 4000000 in
theorem b_X0_addToProduct_102 {p : Program} {l : Launch} {e : Env} {s : State} {m : MethodId} {args : Array Value} {below : List Frame} {meth : Method} {c : Code} {V : EV} {G : GS} {S' : HS} {F : Nat} (C : CX p s m args meth c RX0 cX0_addToProduct 19 none V G) : ∀ (v0 : Nat) (v1 : Nat) (v2 : Int32) (v6 : Int32) (v7 : Int32) (v10 : Int32) (v12 : Int32) (v15 : Int64) (w0 : Int64) (h_v0 : v0 ∈ G.1) (k_v0 : G.2.1 v0 = 0) (h_v1 : v1 ∈ G.1) (k_v1 : G.2.1 v1 = 2) (S : HS) (H : Heap) (locs : List Loc) (ls : Array Slot), s_X0_addToProduct_J102 F v0 v1 v2 v6 v7 v10 v12 v15 w0 S = some S' → HP V G S H → va_S (AG G s.heap.size) s.heap H locs → WT G S → lv_has ls 19 [(0, .ref v0), (1, .ref v1), (2, .int v2), (6, .int v6), (7, .int v7), (10, .int v10), (12, .int v12), (15, .long v15)] → W p l e (RM 3 90) s m args below meth c H locs 0 0 (MQ below (QV V G S' s.heap.size) args s 0 0 (AG G s.heap.size)) (F0 m 102 ls [.long w0]) := by
  intro v0 v1 v2 v6 v7 v10 v12 v15 w0 h_v0 k_v0 h_v1 k_v1 S H locs ls hf hP hS hW hl
  have hx := C.1
  have hb := C.2.1
  unfold s_X0_addToProduct_J102 at hf
  refine lv_aload_n hx hb dX0_addToProduct_102 rfl (lv_at hl 1 rfl) ?_
  refine lv_iload hx hb dX0_addToProduct_103 (lv_at hl 4 rfl) ?_
  refine x_aft_z (x_runV (As := [.int v7]) (rest := [.long w0]) C hP hS (c_X2_isMinus (l := l) C.2.2.2.2.2.2.2.2.2.1 hW h_v1 k_v1 rfl H.size) h_v1 k_v1 (by decide) rfl rfl km_X2_isMinus ki_X2_isMinus qm_X0_31 ⟨(Nat.le_of_ble_eq_true rfl), (Nat.le_of_ble_eq_true rfl)⟩ rfl hl.1 rfl (Nat.le_of_ble_eq_true rfl) ⟨Nat.zero_le _, Nat.zero_le _⟩ dX0_addToProduct_105) hS (fun H locs hP hS hW z11 => ?_)
  refine lv_if_eq (tgt := 117) hx hb dX0_addToProduct_108 (by decide) (fun c12 => ?_) (fun c12 => ?_)
  · have hf := if_t c12 hf
    refine lv_lload hx hb dX0_addToProduct_117 (lv_at hl 7 rfl) ?_
    exact b_X0_addToProduct_119 C v0 v1 v2 v6 v10 v12 w0 v15 h_v0 k_v0 h_v1 k_v1 S H locs _ hf hP hS hW (lv_sub hl [0, 1, 2, 3, 5, 6] rfl)
  · have hf := if_f c12 hf
    refine lv_lload hx hb dX0_addToProduct_111 (lv_at hl 7 rfl) ?_
    refine lv_lneg hx hb dX0_addToProduct_113 ?_
    refine lv_goto (tgt := 119) hx hb dX0_addToProduct_114 (by decide) ?_
    exact b_X0_addToProduct_119 C v0 v1 v2 v6 v10 v12 w0 (-v15) h_v0 k_v0 h_v1 k_v1 S H locs _ hf hP hS hW (lv_sub hl [0, 1, 2, 3, 5, 6] rfl)
set_option maxRecDepth 100000 in
set_option maxHeartbeats 4000000 in
theorem c_X0_addToProduct {l : Launch} {V : EV} {G : GS} {S : HS} {F : Nat} {a : Nat} {p0 : Nat} {p1 : Int32} {p2 : Int32} {p3 : Int64} {p4 : Int32} {p5 : Int32} {S' : HS} (hN : G.1.Nodup) (hW : WT G S) (h_a : a ∈ G.1) (k_a : G.2.1 a = 0) (h_p0 : p0 ∈ G.1) (k_p0 : G.2.1 p0 = 2) (hf : s_X0_addToProduct F a p0 p1 p2 p3 p4 p5 S = some S') : MetV l yX0_addToProduct cX0_addToProduct 19 3 90 V G S [.ref a, .ref p0, .int p1, .int p2, .long p3, .int p4, .int p5] S' := by
  intro sz
  refine x_in RX0 rfl (by decide +kernel) hN (Nat.le_of_ble_eq_true rfl) (fun p e s m args below meth c ls hsz hargs hnm C hP hS hl => ?_)
  subst hsz
  have hx := C.1
  have hb := C.2.1
  have hl : lv_has ls 19 [(0, .ref a), (1, .ref p0), (2, .int p1), (3, .int p2), (4, .long p3), (6, .int p4), (7, .int p5)] := hl
  unfold s_X0_addToProduct at hf
  refine lv_aload_n hx hb dX0_addToProduct_0 rfl (lv_at hl 1 rfl) ?_
  refine lv_iload hx hb dX0_addToProduct_1 (lv_at hl 6 rfl) ?_
  refine x_aft_i (x_runV (As := [.int p5]) (rest := []) C hP hS (c_X2_addend (l := l) C.2.2.2.2.2.2.2.2.2.1 hW h_p0 k_p0 rfl s.heap.size) h_p0 k_p0 (by decide) rfl rfl km_X2_addend ki_X2_addend qm_X0_54 ⟨(Nat.le_of_ble_eq_true rfl), (Nat.le_of_ble_eq_true rfl)⟩ rfl hl.1 rfl (Nat.le_of_ble_eq_true rfl) ⟨Nat.zero_le _, Nat.zero_le _⟩ dX0_addToProduct_3) hS (fun H locs hP hS hW => ?_)
  refine lv_i2l hx hb dX0_addToProduct_6 rfl ?_
  obtain ⟨x1, ex1, hf⟩ := bnd_e hf
  refine nm_l ex1 ?_
  refine lv_lstore (lv' := [(8, .long x1), (0, .ref a), (1, .ref p0), (2, .int p1), (3, .int p2), (4, .long p3), (6, .int p4), (7, .int p5)]) hx hb dX0_addToProduct_7 hl (by decide) rfl (fun ls hl => ?_)
  refine lv_lload hx hb dX0_addToProduct_9 (lv_at hl 0 rfl) ?_
  refine lv_lconst (v := 0) hx hb dX0_addToProduct_11 rfl ?_
  refine W.lcmp hx hb dX0_addToProduct_12 ?_
  refine lv_if_ne (tgt := 28) hx hb dX0_addToProduct_13 (by decide) (fun c2 => ?_) (fun c2 => ?_)
  · have hf := if_f c2 hf
    refine lv_bipush (v := 60) hx hb dX0_addToProduct_28 kc_bipush_60 ?_
    refine lv_lload hx hb dX0_addToProduct_30 (lv_at hl 5 rfl) ?_
    obtain ⟨r3, er3, hf⟩ := bd1_e hf
    refine x_aft_i (x_runS (As := [.long p3]) (rest := [.int 60]) C hP hS (c_X11_bitLength (l := l) C.2.2.2.2.2.2.2.2.2.1 hW er3 H.size) km_X11_bitLength ks_X11_bitLength qm_X0_80 ⟨(Nat.le_of_ble_eq_true rfl), (Nat.le_of_ble_eq_true rfl)⟩ rfl hl.1 rfl (Nat.le_of_ble_eq_true rfl) ⟨Nat.zero_le _, Nat.zero_le _⟩ dX0_addToProduct_32) hS (fun H locs hP hS hW => ?_)
    refine lv_isub hx hb dX0_addToProduct_35 ?_
    obtain ⟨x4, ex4, hf⟩ := bnd_e hf
    refine nm_i ex4 ?_
    refine lv_istore (lv' := [(10, .int x4), (8, .long x1), (0, .ref a), (1, .ref p0), (2, .int p1), (3, .int p2), (4, .long p3), (6, .int p4), (7, .int p5)]) hx hb dX0_addToProduct_36 hl (by decide) rfl (fun ls hl => ?_)
    refine lv_bipush (v := 60) hx hb dX0_addToProduct_38 kc_bipush_60 ?_
    refine lv_lload hx hb dX0_addToProduct_40 (lv_at hl 1 rfl) ?_
    obtain ⟨r5, er5, hf⟩ := bd1_e hf
    refine x_aft_i (x_runS (As := [.long x1]) (rest := [.int 60]) C hP hS (c_X11_bitLength (l := l) C.2.2.2.2.2.2.2.2.2.1 hW er5 H.size) km_X11_bitLength ks_X11_bitLength qm_X0_80 ⟨(Nat.le_of_ble_eq_true rfl), (Nat.le_of_ble_eq_true rfl)⟩ rfl hl.1 rfl (Nat.le_of_ble_eq_true rfl) ⟨Nat.zero_le _, Nat.zero_le _⟩ dX0_addToProduct_42) hS (fun H locs hP hS hW => ?_)
    refine lv_isub hx hb dX0_addToProduct_45 ?_
    obtain ⟨x6, ex6, hf⟩ := bnd_e hf
    refine nm_i ex6 ?_
    refine lv_istore (lv' := [(11, .int x6), (10, .int x4), (8, .long x1), (0, .ref a), (1, .ref p0), (2, .int p1), (3, .int p2), (4, .long p3), (6, .int p4), (7, .int p5)]) hx hb dX0_addToProduct_46 hl (by decide) rfl (fun ls hl => ?_)
    refine lv_iload hx hb dX0_addToProduct_48 (lv_at hl 8 rfl) ?_
    refine lv_iload hx hb dX0_addToProduct_50 (lv_at hl 1 rfl) ?_
    refine lv_isub hx hb dX0_addToProduct_52 ?_
    refine lv_aload_n hx hb dX0_addToProduct_53 rfl (lv_at hl 4 rfl) ?_
    refine lv_iload hx hb dX0_addToProduct_54 (lv_at hl 9 rfl) ?_
    refine x_aft_i (x_runV (As := [.int p5]) (rest := [.int (p4 - x4)]) C hP hS (c_X2_place (l := l) C.2.2.2.2.2.2.2.2.2.1 hW h_p0 k_p0 rfl H.size) h_p0 k_p0 (by decide) rfl rfl km_X2_place ki_X2_place qm_X0_62 ⟨(Nat.le_of_ble_eq_true rfl), (Nat.le_of_ble_eq_true rfl)⟩ rfl hl.1 rfl (Nat.le_of_ble_eq_true rfl) ⟨Nat.zero_le _, Nat.zero_le _⟩ dX0_addToProduct_56) hS (fun H locs hP hS hW => ?_)
    refine lv_iload hx hb dX0_addToProduct_59 (lv_at hl 0 rfl) ?_
    refine lv_isub hx hb dX0_addToProduct_61 ?_
    refine lv_isub hx hb dX0_addToProduct_62 ?_
    obtain ⟨x7, ex7, hf⟩ := bnd_e hf
    refine nm_i ex7 ?_
    refine lv_istore (lv' := [(12, .int x7), (11, .int x6), (10, .int x4), (8, .long x1), (0, .ref a), (1, .ref p0), (2, .int p1), (3, .int p2), (4, .long p3), (6, .int p4), (7, .int p5)]) hx hb dX0_addToProduct_63 hl (by decide) rfl (fun ls hl => ?_)
    refine lv_lload hx hb dX0_addToProduct_65 (lv_at hl 8 rfl) ?_
    refine lv_iload hx hb dX0_addToProduct_67 (lv_at hl 2 rfl) ?_
    refine lv_lshl hx hb dX0_addToProduct_69 rfl ?_
    refine lv_iload hx hb dX0_addToProduct_70 (lv_at hl 0 rfl) ?_
    refine lv_ineg hx hb dX0_addToProduct_72 ?_
    refine x_aft_l (x_runS (As := [.long (p3 <<< (x4.toInt64 &&& 63)), .int (-x7)]) (rest := []) C hP hS (c_X0_shifted (l := l) C.2.2.2.2.2.2.2.2.2.1 hW rfl H.size) km_X0_shifted ks_X0_shifted qm_X0_84 ⟨(Nat.le_of_ble_eq_true rfl), (Nat.le_of_ble_eq_true rfl)⟩ rfl hl.1 rfl (Nat.le_of_ble_eq_true rfl) ⟨Nat.zero_le _, Nat.zero_le _⟩ dX0_addToProduct_73) hS (fun H locs hP hS hW => ?_)
    obtain ⟨x8, ex8, hf⟩ := bnd_e hf
    refine nm_l ex8 ?_
    refine lv_lstore (lv' := [(13, .long x8), (12, .int x7), (11, .int x6), (10, .int x4), (8, .long x1), (0, .ref a), (1, .ref p0), (2, .int p1), (3, .int p2), (4, .long p3), (6, .int p4), (7, .int p5)]) hx hb dX0_addToProduct_76 hl (by decide) rfl (fun ls hl => ?_)
    refine lv_lload hx hb dX0_addToProduct_78 (lv_at hl 4 rfl) ?_
    refine lv_iload hx hb dX0_addToProduct_80 (lv_at hl 2 rfl) ?_
    refine lv_lshl hx hb dX0_addToProduct_82 rfl ?_
    refine lv_iload hx hb dX0_addToProduct_83 (lv_at hl 1 rfl) ?_
    refine x_aft_l (x_runS (As := [.long (x1 <<< (x6.toInt64 &&& 63)), .int x7]) (rest := []) C hP hS (c_X0_shifted (l := l) C.2.2.2.2.2.2.2.2.2.1 hW rfl H.size) km_X0_shifted ks_X0_shifted qm_X0_84 ⟨(Nat.le_of_ble_eq_true rfl), (Nat.le_of_ble_eq_true rfl)⟩ rfl hl.1 rfl (Nat.le_of_ble_eq_true rfl) ⟨Nat.zero_le _, Nat.zero_le _⟩ dX0_addToProduct_85) hS (fun H locs hP hS hW => ?_)
    obtain ⟨x9, ex9, hf⟩ := bnd_e hf
    refine nm_l ex9 ?_
    refine lv_lstore (lv' := [(15, .long x9), (13, .long x8), (12, .int x7), (11, .int x6), (10, .int x4), (8, .long x1), (0, .ref a), (1, .ref p0), (2, .int p1), (3, .int p2), (4, .long p3), (6, .int p4), (7, .int p5)]) hx hb dX0_addToProduct_88 hl (by decide) rfl (fun ls hl => ?_)
    refine lv_iload_n hx hb dX0_addToProduct_90 rfl (lv_at hl 9 rfl) ?_
    refine lv_if_eq (tgt := 100) hx hb dX0_addToProduct_91 (by decide) (fun c10 => ?_) (fun c10 => ?_)
    · have hf := if_t c10 hf
      refine lv_lload hx hb dX0_addToProduct_100 (lv_at hl 1 rfl) ?_
      exact b_X0_addToProduct_102 C a p0 p1 p4 p5 x4 x7 x9 x8 h_a k_a h_p0 k_p0 S H locs _ hf hP hS hW (lv_sub hl [6, 7, 8, 11, 12, 4, 2, 0] rfl)
    · have hf := if_f c10 hf
      refine lv_lload hx hb dX0_addToProduct_94 (lv_at hl 1 rfl) ?_
      refine lv_lneg hx hb dX0_addToProduct_96 ?_
      refine lv_goto (tgt := 102) hx hb dX0_addToProduct_97 (by decide) ?_
      exact b_X0_addToProduct_102 C a p0 p1 p4 p5 x4 x7 x9 (-x8) h_a k_a h_p0 k_p0 S H locs _ hf hP hS hW (lv_sub hl [6, 7, 8, 11, 12, 4, 2, 0] rfl)
  · have hf := if_t c2 hf
    refine lv_aload_n hx hb dX0_addToProduct_16 rfl (lv_at hl 1 rfl) ?_
    refine lv_aload_n hx hb dX0_addToProduct_17 rfl (lv_at hl 2 rfl) ?_
    refine lv_iload_n hx hb dX0_addToProduct_18 rfl (lv_at hl 3 rfl) ?_
    refine lv_iload_n hx hb dX0_addToProduct_19 rfl (lv_at hl 4 rfl) ?_
    refine lv_lload hx hb dX0_addToProduct_20 (lv_at hl 5 rfl) ?_
    refine lv_iload hx hb dX0_addToProduct_22 (lv_at hl 6 rfl) ?_
    obtain ⟨S20, eS20, hf⟩ := bd1_e hf
    refine x_aft_v (x_runV (As := [.ref p0, .int p1, .int p2, .long p3, .int p4]) (rest := []) C hP hS (c_X0_round (l := l) C.2.2.2.2.2.2.2.2.2.1 hW h_a k_a h_p0 k_p0 eS20 H.size) h_a k_a (by decide) rfl rfl km_X0_round ki_X0_round qm_X0_73 ⟨(Nat.le_of_ble_eq_true rfl), (Nat.le_of_ble_eq_true rfl)⟩ rfl hl.1 rfl (Nat.le_of_ble_eq_true rfl) ⟨Nat.zero_le _, Nat.zero_le _⟩ dX0_addToProduct_24) hS (fun H locs hP hS hW => ?_)
    cases hf
    exact x_retv C hP hS hW dX0_addToProduct_27
def s_X0_add_J47 (F : Nat) (v0 : Nat) (v1 : Nat) (S : HS) : Option HS :=
  bnd (s_X0_tell v0 (gI S 207 v1) 0 S) fun S6 =>
  some S6
def s_X0_add_J76 (F : Nat) (v0 : Nat) (v1 : Nat) (v3 : Int32) (v4 : Int32) (v5 : Int32) (S : HS) : Option HS :=
  bnd (s_X0_addToInfinite v0 v1 v3 v4 v5 S) fun S13 =>
  some S13
def s_X0_add_J125 (F : Nat) (v0 : Nat) (v1 : Nat) (v2 : Int32) (v5 : Int32) (v6 : Int32) (S : HS) : Option HS :=
  bd1 (s_X0_addToNought F v0 v1 v2 v6 v5 S) fun S19 =>
  some S19
def s_X0_add_J19 (F : Nat) (v0 : Nat) (v1 : Nat) (v2 : Int32) (v3 : Int32) (v4 : Int32) (v5 : Int32) (w0 : Int32) (S : HS) : Option HS :=
  if (s_X2_isNan v1 v3 S) = (0 : Int32) then
  if (s_X2_isNan v1 v4 S) = (0 : Int32) then
  if (s_X2_isNan v1 v5 S) = (0 : Int32) then
  if (s_X2_isInfinite v1 v3 S) = (0 : Int32) then
  if (s_X2_isInfinite v1 v4 S) = (0 : Int32) then
  if (s_X2_isInfinite v1 v5 S) = (0 : Int32) then
  if (s_X2_addend v1 v3 S) = (0 : Int32) then
  s_X0_add_J125 F v0 v1 v2 v5 w0 S
  else
  if (s_X2_addend v1 v4 S) = (0 : Int32) then
  s_X0_add_J125 F v0 v1 v2 v5 w0 S
  else
  bnd (((s_X2_addend v1 v3 S).toInt64) * ((s_X2_addend v1 v4 S).toInt64) : Int64) fun x21 =>
  bd1 (s_X0_addToProduct F v0 v1 v2 w0 x21 ((s_X2_place v1 v3 S) + (s_X2_place v1 v4 S)) v5 S) fun S22 =>
  some S22
  else
  bnd (s_X0_tell v0 v5 0 S) fun S23 =>
  some S23
  else
  s_X0_add_J76 F v0 v1 v3 v4 v5 S
  else
  s_X0_add_J76 F v0 v1 v3 v4 v5 S
  else
  s_X0_add_J47 F v0 v1 S
  else
  s_X0_add_J47 F v0 v1 S
  else
  s_X0_add_J47 F v0 v1 S
def s_X0_add (F : Nat) (a : Nat) (p0 : Nat) (p1 : Int32) (p2 : Int32) (p3 : Int32) (p4 : Int32) (S : HS) : Option HS :=
  if (s_X2_isMinus p0 p2 S) = (s_X2_isMinus p0 p3 S) then
  s_X0_add_J19 F a p0 p1 p2 p3 p4 0 S
  else
  s_X0_add_J19 F a p0 p1 p2 p3 p4 1 S
set_option maxRecDepth 100000 in
set_option maxHeartbeats 4000000 in
theorem b_X0_add_47 {p : Program} {l : Launch} {e : Env} {s : State} {m : MethodId} {args : Array Value} {below : List Frame} {meth : Method} {c : Code} {V : EV} {G : GS} {S' : HS} {F : Nat} (C : CX p s m args meth c RX0 cX0_add 9 none V G) : ∀ (v0 : Nat) (v1 : Nat) (h_v0 : v0 ∈ G.1) (k_v0 : G.2.1 v0 = 0) (h_v1 : v1 ∈ G.1) (k_v1 : G.2.1 v1 = 2) (S : HS) (H : Heap) (locs : List Loc) (ls : Array Slot), s_X0_add_J47 F v0 v1 S = some S' → HP V G S H → va_S (AG G s.heap.size) s.heap H locs → WT G S → lv_has ls 9 [(0, .ref v0), (1, .ref v1)] → W p l e (RM 4 136) s m args below meth c H locs 0 0 (MQ below (QV V G S' s.heap.size) args s 0 0 (AG G s.heap.size)) (F0 m 47 ls []) := by
  intro v0 v1 h_v0 k_v0 h_v1 k_v1 S H locs ls hf hP hS hW hl
  have hx := C.1
  have hb := C.2.1
  unfold s_X0_add_J47 at hf
  refine lv_aload_n hx hb dX0_add_47 rfl (lv_at hl 0 rfl) ?_
  refine lv_aload_n hx hb dX0_add_48 rfl (lv_at hl 1 rfl) ?_
  refine gf_X0_40 C hP h_v1 k_v1 dX0_add_49 ?_
  refine lv_iconst (v := 0) hx hb dX0_add_52 rfl ?_
  obtain ⟨S6, eS6, hf⟩ := bnd_e hf
  refine x_aft_v (x_runV (As := [.int (gI S 207 v1), .int 0]) (rest := []) C hP hS (c_X0_tell (l := l) C.2.2.2.2.2.2.2.2.2.1 hW h_v0 k_v0 eS6.symm H.size) h_v0 k_v0 (by decide) rfl rfl km_X0_tell ki_X0_tell qm_X0_43 ⟨(Nat.le_of_ble_eq_true rfl), (Nat.le_of_ble_eq_true rfl)⟩ rfl hl.1 rfl (Nat.le_of_ble_eq_true rfl) ⟨Nat.zero_le _, Nat.zero_le _⟩ dX0_add_53) hS (fun H locs hP hS hW => ?_)
  refine lv_goto (tgt := 178) hx hb dX0_add_56 (by decide) ?_
  cases hf
  exact x_retv C hP hS hW dX0_add_178
set_option maxRecDepth 100000 in
set_option maxHeartbeats 4000000 in
theorem b_X0_add_76 {p : Program} {l : Launch} {e : Env} {s : State} {m : MethodId} {args : Array Value} {below : List Frame} {meth : Method} {c : Code} {V : EV} {G : GS} {S' : HS} {F : Nat} (C : CX p s m args meth c RX0 cX0_add 9 none V G) : ∀ (v0 : Nat) (v1 : Nat) (v3 : Int32) (v4 : Int32) (v5 : Int32) (h_v0 : v0 ∈ G.1) (k_v0 : G.2.1 v0 = 0) (h_v1 : v1 ∈ G.1) (k_v1 : G.2.1 v1 = 2) (S : HS) (H : Heap) (locs : List Loc) (ls : Array Slot), s_X0_add_J76 F v0 v1 v3 v4 v5 S = some S' → HP V G S H → va_S (AG G s.heap.size) s.heap H locs → WT G S → lv_has ls 9 [(0, .ref v0), (1, .ref v1), (3, .int v3), (4, .int v4), (5, .int v5)] → W p l e (RM 4 136) s m args below meth c H locs 0 0 (MQ below (QV V G S' s.heap.size) args s 0 0 (AG G s.heap.size)) (F0 m 76 ls []) := by
  intro v0 v1 v3 v4 v5 h_v0 k_v0 h_v1 k_v1 S H locs ls hf hP hS hW hl
  have hx := C.1
  have hb := C.2.1
  unfold s_X0_add_J76 at hf
  refine lv_aload_n hx hb dX0_add_76 rfl (lv_at hl 0 rfl) ?_
  refine lv_aload_n hx hb dX0_add_77 rfl (lv_at hl 1 rfl) ?_
  refine lv_iload_n hx hb dX0_add_78 rfl (lv_at hl 2 rfl) ?_
  refine lv_iload hx hb dX0_add_79 (lv_at hl 3 rfl) ?_
  refine lv_iload hx hb dX0_add_81 (lv_at hl 4 rfl) ?_
  obtain ⟨S13, eS13, hf⟩ := bnd_e hf
  refine x_aft_v (x_runV (As := [.ref v1, .int v3, .int v4, .int v5]) (rest := []) C hP hS (c_X0_addToInfinite (l := l) C.2.2.2.2.2.2.2.2.2.1 hW h_v0 k_v0 h_v1 k_v1 eS13.symm H.size) h_v0 k_v0 (by decide) rfl rfl km_X0_addToInfinite ki_X0_addToInfinite qm_X0_50 ⟨(Nat.le_of_ble_eq_true rfl), (Nat.le_of_ble_eq_true rfl)⟩ rfl hl.1 rfl (Nat.le_of_ble_eq_true rfl) ⟨Nat.zero_le _, Nat.zero_le _⟩ dX0_add_83) hS (fun H locs hP hS hW => ?_)
  refine lv_goto (tgt := 178) hx hb dX0_add_86 (by decide) ?_
  cases hf
  exact x_retv C hP hS hW dX0_add_178
set_option maxRecDepth 100000 in
set_option maxHeartbeats 4000000 in
theorem b_X0_add_125 {p : Program} {l : Launch} {e : Env} {s : State} {m : MethodId} {args : Array Value} {below : List Frame} {meth : Method} {c : Code} {V : EV} {G : GS} {S' : HS} {F : Nat} (C : CX p s m args meth c RX0 cX0_add 9 none V G) : ∀ (v0 : Nat) (v1 : Nat) (v2 : Int32) (v5 : Int32) (v6 : Int32) (h_v0 : v0 ∈ G.1) (k_v0 : G.2.1 v0 = 0) (h_v1 : v1 ∈ G.1) (k_v1 : G.2.1 v1 = 2) (S : HS) (H : Heap) (locs : List Loc) (ls : Array Slot), s_X0_add_J125 F v0 v1 v2 v5 v6 S = some S' → HP V G S H → va_S (AG G s.heap.size) s.heap H locs → WT G S → lv_has ls 9 [(0, .ref v0), (1, .ref v1), (2, .int v2), (5, .int v5), (6, .int v6)] → W p l e (RM 4 136) s m args below meth c H locs 0 0 (MQ below (QV V G S' s.heap.size) args s 0 0 (AG G s.heap.size)) (F0 m 125 ls []) := by
  intro v0 v1 v2 v5 v6 h_v0 k_v0 h_v1 k_v1 S H locs ls hf hP hS hW hl
  have hx := C.1
  have hb := C.2.1
  unfold s_X0_add_J125 at hf
  refine lv_aload_n hx hb dX0_add_125 rfl (lv_at hl 0 rfl) ?_
  refine lv_aload_n hx hb dX0_add_126 rfl (lv_at hl 1 rfl) ?_
  refine lv_iload_n hx hb dX0_add_127 rfl (lv_at hl 2 rfl) ?_
  refine lv_iload hx hb dX0_add_128 (lv_at hl 4 rfl) ?_
  refine lv_iload hx hb dX0_add_130 (lv_at hl 3 rfl) ?_
  obtain ⟨S19, eS19, hf⟩ := bd1_e hf
  refine x_aft_v (x_runV (As := [.ref v1, .int v2, .int v6, .int v5]) (rest := []) C hP hS (c_X0_addToNought (l := l) C.2.2.2.2.2.2.2.2.2.1 hW h_v0 k_v0 h_v1 k_v1 eS19 H.size) h_v0 k_v0 (by decide) rfl rfl km_X0_addToNought ki_X0_addToNought qm_X0_58 ⟨(Nat.le_of_ble_eq_true rfl), (Nat.le_of_ble_eq_true rfl)⟩ rfl hl.1 rfl (Nat.le_of_ble_eq_true rfl) ⟨Nat.zero_le _, Nat.zero_le _⟩ dX0_add_132) hS (fun H locs hP hS hW => ?_)
  refine lv_goto (tgt := 178) hx hb dX0_add_135 (by decide) ?_
  cases hf
  exact x_retv C hP hS hW dX0_add_178
set_option maxRecDepth 100000 in
set_option maxHeartbeats 4000000 in
theorem b_X0_add_19 {p : Program} {l : Launch} {e : Env} {s : State} {m : MethodId} {args : Array Value} {below : List Frame} {meth : Method} {c : Code} {V : EV} {G : GS} {S' : HS} {F : Nat} (C : CX p s m args meth c RX0 cX0_add 9 none V G) : ∀ (v0 : Nat) (v1 : Nat) (v2 : Int32) (v3 : Int32) (v4 : Int32) (v5 : Int32) (w0 : Int32) (h_v0 : v0 ∈ G.1) (k_v0 : G.2.1 v0 = 0) (h_v1 : v1 ∈ G.1) (k_v1 : G.2.1 v1 = 2) (S : HS) (H : Heap) (locs : List Loc) (ls : Array Slot), s_X0_add_J19 F v0 v1 v2 v3 v4 v5 w0 S = some S' → HP V G S H → va_S (AG G s.heap.size) s.heap H locs → WT G S → lv_has ls 9 [(0, .ref v0), (1, .ref v1), (2, .int v2), (3, .int v3), (4, .int v4), (5, .int v5)] → W p l e (RM 4 136) s m args below meth c H locs 0 0 (MQ below (QV V G S' s.heap.size) args s 0 0 (AG G s.heap.size)) (F0 m 19 ls [.int w0]) := by
  intro v0 v1 v2 v3 v4 v5 w0 h_v0 k_v0 h_v1 k_v1 S H locs ls hf hP hS hW hl
  have hx := C.1
  have hb := C.2.1
  unfold s_X0_add_J19 at hf
  refine lv_istore (lv' := [(6, .int w0), (0, .ref v0), (1, .ref v1), (2, .int v2), (3, .int v3), (4, .int v4), (5, .int v5)]) hx hb dX0_add_19 hl (by decide) rfl (fun ls hl => ?_)
  refine lv_aload_n hx hb dX0_add_21 rfl (lv_at hl 2 rfl) ?_
  refine lv_iload_n hx hb dX0_add_22 rfl (lv_at hl 4 rfl) ?_
  refine x_aft_z (x_runV (As := [.int v3]) (rest := []) C hP hS (c_X2_isNan (l := l) C.2.2.2.2.2.2.2.2.2.1 hW h_v1 k_v1 rfl H.size) h_v1 k_v1 (by decide) rfl rfl km_X2_isNan ki_X2_isNan qm_X0_37 ⟨(Nat.le_of_ble_eq_true rfl), (Nat.le_of_ble_eq_true rfl)⟩ rfl hl.1 rfl (Nat.le_of_ble_eq_true rfl) ⟨Nat.zero_le _, Nat.zero_le _⟩ dX0_add_23) hS (fun H locs hP hS hW z4 => ?_)
  refine lv_if_ne (tgt := 47) hx hb dX0_add_26 (by decide) (fun c5 => ?_) (fun c5 => ?_)
  · have hf := if_f c5 hf
    exact b_X0_add_47 C v0 v1 h_v0 k_v0 h_v1 k_v1 S H locs _ hf hP hS hW (lv_sub hl [1, 2] rfl)
  · have hf := if_t c5 hf
    refine lv_aload_n hx hb dX0_add_29 rfl (lv_at hl 2 rfl) ?_
    refine lv_iload hx hb dX0_add_30 (lv_at hl 5 rfl) ?_
    refine x_aft_z (x_runV (As := [.int v4]) (rest := []) C hP hS (c_X2_isNan (l := l) C.2.2.2.2.2.2.2.2.2.1 hW h_v1 k_v1 rfl H.size) h_v1 k_v1 (by decide) rfl rfl km_X2_isNan ki_X2_isNan qm_X0_37 ⟨(Nat.le_of_ble_eq_true rfl), (Nat.le_of_ble_eq_true rfl)⟩ rfl hl.1 rfl (Nat.le_of_ble_eq_true rfl) ⟨Nat.zero_le _, Nat.zero_le _⟩ dX0_add_32) hS (fun H locs hP hS hW z7 => ?_)
    refine lv_if_ne (tgt := 47) hx hb dX0_add_35 (by decide) (fun c8 => ?_) (fun c8 => ?_)
    · have hf := if_f c8 hf
      exact b_X0_add_47 C v0 v1 h_v0 k_v0 h_v1 k_v1 S H locs _ hf hP hS hW (lv_sub hl [1, 2] rfl)
    · have hf := if_t c8 hf
      refine lv_aload_n hx hb dX0_add_38 rfl (lv_at hl 2 rfl) ?_
      refine lv_iload hx hb dX0_add_39 (lv_at hl 6 rfl) ?_
      refine x_aft_z (x_runV (As := [.int v5]) (rest := []) C hP hS (c_X2_isNan (l := l) C.2.2.2.2.2.2.2.2.2.1 hW h_v1 k_v1 rfl H.size) h_v1 k_v1 (by decide) rfl rfl km_X2_isNan ki_X2_isNan qm_X0_37 ⟨(Nat.le_of_ble_eq_true rfl), (Nat.le_of_ble_eq_true rfl)⟩ rfl hl.1 rfl (Nat.le_of_ble_eq_true rfl) ⟨Nat.zero_le _, Nat.zero_le _⟩ dX0_add_41) hS (fun H locs hP hS hW z9 => ?_)
      refine lv_if_eq (tgt := 59) hx hb dX0_add_44 (by decide) (fun c10 => ?_) (fun c10 => ?_)
      · have hf := if_t c10 hf
        refine lv_aload_n hx hb dX0_add_59 rfl (lv_at hl 2 rfl) ?_
        refine lv_iload_n hx hb dX0_add_60 rfl (lv_at hl 4 rfl) ?_
        refine x_aft_z (x_runV (As := [.int v3]) (rest := []) C hP hS (c_X2_isInfinite (l := l) C.2.2.2.2.2.2.2.2.2.1 hW h_v1 k_v1 rfl H.size) h_v1 k_v1 (by decide) rfl rfl km_X2_isInfinite ki_X2_isInfinite qm_X0_47 ⟨(Nat.le_of_ble_eq_true rfl), (Nat.le_of_ble_eq_true rfl)⟩ rfl hl.1 rfl (Nat.le_of_ble_eq_true rfl) ⟨Nat.zero_le _, Nat.zero_le _⟩ dX0_add_61) hS (fun H locs hP hS hW z11 => ?_)
        refine lv_if_ne (tgt := 76) hx hb dX0_add_64 (by decide) (fun c12 => ?_) (fun c12 => ?_)
        · have hf := if_f c12 hf
          exact b_X0_add_76 C v0 v1 v3 v4 v5 h_v0 k_v0 h_v1 k_v1 S H locs _ hf hP hS hW (lv_sub hl [1, 2, 4, 5, 6] rfl)
        · have hf := if_t c12 hf
          refine lv_aload_n hx hb dX0_add_67 rfl (lv_at hl 2 rfl) ?_
          refine lv_iload hx hb dX0_add_68 (lv_at hl 5 rfl) ?_
          refine x_aft_z (x_runV (As := [.int v4]) (rest := []) C hP hS (c_X2_isInfinite (l := l) C.2.2.2.2.2.2.2.2.2.1 hW h_v1 k_v1 rfl H.size) h_v1 k_v1 (by decide) rfl rfl km_X2_isInfinite ki_X2_isInfinite qm_X0_47 ⟨(Nat.le_of_ble_eq_true rfl), (Nat.le_of_ble_eq_true rfl)⟩ rfl hl.1 rfl (Nat.le_of_ble_eq_true rfl) ⟨Nat.zero_le _, Nat.zero_le _⟩ dX0_add_70) hS (fun H locs hP hS hW z14 => ?_)
          refine lv_if_eq (tgt := 89) hx hb dX0_add_73 (by decide) (fun c15 => ?_) (fun c15 => ?_)
          · have hf := if_t c15 hf
            refine lv_aload_n hx hb dX0_add_89 rfl (lv_at hl 2 rfl) ?_
            refine lv_iload hx hb dX0_add_90 (lv_at hl 6 rfl) ?_
            refine x_aft_z (x_runV (As := [.int v5]) (rest := []) C hP hS (c_X2_isInfinite (l := l) C.2.2.2.2.2.2.2.2.2.1 hW h_v1 k_v1 rfl H.size) h_v1 k_v1 (by decide) rfl rfl km_X2_isInfinite ki_X2_isInfinite qm_X0_47 ⟨(Nat.le_of_ble_eq_true rfl), (Nat.le_of_ble_eq_true rfl)⟩ rfl hl.1 rfl (Nat.le_of_ble_eq_true rfl) ⟨Nat.zero_le _, Nat.zero_le _⟩ dX0_add_92) hS (fun H locs hP hS hW z16 => ?_)
            refine lv_if_eq (tgt := 108) hx hb dX0_add_95 (by decide) (fun c17 => ?_) (fun c17 => ?_)
            · have hf := if_t c17 hf
              refine lv_aload_n hx hb dX0_add_108 rfl (lv_at hl 2 rfl) ?_
              refine lv_iload_n hx hb dX0_add_109 rfl (lv_at hl 4 rfl) ?_
              refine x_aft_i (x_runV (As := [.int v3]) (rest := []) C hP hS (c_X2_addend (l := l) C.2.2.2.2.2.2.2.2.2.1 hW h_v1 k_v1 rfl H.size) h_v1 k_v1 (by decide) rfl rfl km_X2_addend ki_X2_addend qm_X0_54 ⟨(Nat.le_of_ble_eq_true rfl), (Nat.le_of_ble_eq_true rfl)⟩ rfl hl.1 rfl (Nat.le_of_ble_eq_true rfl) ⟨Nat.zero_le _, Nat.zero_le _⟩ dX0_add_110) hS (fun H locs hP hS hW => ?_)
              refine lv_if_eq (tgt := 125) hx hb dX0_add_113 (by decide) (fun c18 => ?_) (fun c18 => ?_)
              · have hf := if_t c18 hf
                exact b_X0_add_125 C v0 v1 v2 v5 w0 h_v0 k_v0 h_v1 k_v1 S H locs _ hf hP hS hW (lv_sub hl [1, 2, 3, 6, 0] rfl)
              · have hf := if_f c18 hf
                refine lv_aload_n hx hb dX0_add_116 rfl (lv_at hl 2 rfl) ?_
                refine lv_iload hx hb dX0_add_117 (lv_at hl 5 rfl) ?_
                refine x_aft_i (x_runV (As := [.int v4]) (rest := []) C hP hS (c_X2_addend (l := l) C.2.2.2.2.2.2.2.2.2.1 hW h_v1 k_v1 rfl H.size) h_v1 k_v1 (by decide) rfl rfl km_X2_addend ki_X2_addend qm_X0_54 ⟨(Nat.le_of_ble_eq_true rfl), (Nat.le_of_ble_eq_true rfl)⟩ rfl hl.1 rfl (Nat.le_of_ble_eq_true rfl) ⟨Nat.zero_le _, Nat.zero_le _⟩ dX0_add_119) hS (fun H locs hP hS hW => ?_)
                refine lv_if_ne (tgt := 138) hx hb dX0_add_122 (by decide) (fun c20 => ?_) (fun c20 => ?_)
                · have hf := if_f c20 hf
                  refine lv_aload_n hx hb dX0_add_138 rfl (lv_at hl 2 rfl) ?_
                  refine lv_iload_n hx hb dX0_add_139 rfl (lv_at hl 4 rfl) ?_
                  refine x_aft_i (x_runV (As := [.int v3]) (rest := []) C hP hS (c_X2_addend (l := l) C.2.2.2.2.2.2.2.2.2.1 hW h_v1 k_v1 rfl H.size) h_v1 k_v1 (by decide) rfl rfl km_X2_addend ki_X2_addend qm_X0_54 ⟨(Nat.le_of_ble_eq_true rfl), (Nat.le_of_ble_eq_true rfl)⟩ rfl hl.1 rfl (Nat.le_of_ble_eq_true rfl) ⟨Nat.zero_le _, Nat.zero_le _⟩ dX0_add_140) hS (fun H locs hP hS hW => ?_)
                  refine lv_i2l hx hb dX0_add_143 rfl ?_
                  refine lv_aload_n hx hb dX0_add_144 rfl (lv_at hl 2 rfl) ?_
                  refine lv_iload hx hb dX0_add_145 (lv_at hl 5 rfl) ?_
                  refine x_aft_i (x_runV (As := [.int v4]) (rest := [.long ((s_X2_addend v1 v3 S).toInt64)]) C hP hS (c_X2_addend (l := l) C.2.2.2.2.2.2.2.2.2.1 hW h_v1 k_v1 rfl H.size) h_v1 k_v1 (by decide) rfl rfl km_X2_addend ki_X2_addend qm_X0_54 ⟨(Nat.le_of_ble_eq_true rfl), (Nat.le_of_ble_eq_true rfl)⟩ rfl hl.1 rfl (Nat.le_of_ble_eq_true rfl) ⟨Nat.zero_le _, Nat.zero_le _⟩ dX0_add_147) hS (fun H locs hP hS hW => ?_)
                  refine lv_i2l hx hb dX0_add_150 rfl ?_
                  refine lv_lmul hx hb dX0_add_151 ?_
                  obtain ⟨x21, ex21, hf⟩ := bnd_e hf
                  refine nm_l ex21 ?_
                  refine lv_lstore (lv' := [(7, .long x21), (6, .int w0), (0, .ref v0), (1, .ref v1), (2, .int v2), (3, .int v3), (4, .int v4), (5, .int v5)]) hx hb dX0_add_152 hl (by decide) rfl (fun ls hl => ?_)
                  refine lv_aload_n hx hb dX0_add_154 rfl (lv_at hl 2 rfl) ?_
                  refine lv_aload_n hx hb dX0_add_155 rfl (lv_at hl 3 rfl) ?_
                  refine lv_iload_n hx hb dX0_add_156 rfl (lv_at hl 4 rfl) ?_
                  refine lv_iload hx hb dX0_add_157 (lv_at hl 1 rfl) ?_
                  refine lv_lload hx hb dX0_add_159 (lv_at hl 0 rfl) ?_
                  refine lv_aload_n hx hb dX0_add_161 rfl (lv_at hl 3 rfl) ?_
                  refine lv_iload_n hx hb dX0_add_162 rfl (lv_at hl 5 rfl) ?_
                  refine x_aft_i (x_runV (As := [.int v3]) (rest := [.long x21, .int w0, .int v2, .ref v1, .ref v0]) C hP hS (c_X2_place (l := l) C.2.2.2.2.2.2.2.2.2.1 hW h_v1 k_v1 rfl H.size) h_v1 k_v1 (by decide) rfl rfl km_X2_place ki_X2_place qm_X0_62 ⟨(Nat.le_of_ble_eq_true rfl), (Nat.le_of_ble_eq_true rfl)⟩ rfl hl.1 rfl (Nat.le_of_ble_eq_true rfl) ⟨Nat.zero_le _, Nat.zero_le _⟩ dX0_add_163) hS (fun H locs hP hS hW => ?_)
                  refine lv_aload_n hx hb dX0_add_166 rfl (lv_at hl 3 rfl) ?_
                  refine lv_iload hx hb dX0_add_167 (lv_at hl 6 rfl) ?_
                  refine x_aft_i (x_runV (As := [.int v4]) (rest := [.int (s_X2_place v1 v3 S), .long x21, .int w0, .int v2, .ref v1, .ref v0]) C hP hS (c_X2_place (l := l) C.2.2.2.2.2.2.2.2.2.1 hW h_v1 k_v1 rfl H.size) h_v1 k_v1 (by decide) rfl rfl km_X2_place ki_X2_place qm_X0_62 ⟨(Nat.le_of_ble_eq_true rfl), (Nat.le_of_ble_eq_true rfl)⟩ rfl hl.1 rfl (Nat.le_of_ble_eq_true rfl) ⟨Nat.zero_le _, Nat.zero_le _⟩ dX0_add_169) hS (fun H locs hP hS hW => ?_)
                  refine lv_iadd hx hb dX0_add_172 ?_
                  refine lv_iload hx hb dX0_add_173 (lv_at hl 7 rfl) ?_
                  obtain ⟨S22, eS22, hf⟩ := bd1_e hf
                  refine x_aft_v (x_runV (As := [.ref v1, .int v2, .int w0, .long x21, .int ((s_X2_place v1 v3 S) + (s_X2_place v1 v4 S)), .int v5]) (rest := []) C hP hS (c_X0_addToProduct (l := l) C.2.2.2.2.2.2.2.2.2.1 hW h_v0 k_v0 h_v1 k_v1 eS22 H.size) h_v0 k_v0 (by decide) rfl rfl km_X0_addToProduct ki_X0_addToProduct qm_X0_65 ⟨(Nat.le_of_ble_eq_true rfl), (Nat.le_of_ble_eq_true rfl)⟩ rfl hl.1 rfl (Nat.le_of_ble_eq_true rfl) ⟨Nat.zero_le _, Nat.zero_le _⟩ dX0_add_175) hS (fun H locs hP hS hW => ?_)
                  cases hf
                  exact x_retv C hP hS hW dX0_add_178
                · have hf := if_t c20 hf
                  exact b_X0_add_125 C v0 v1 v2 v5 w0 h_v0 k_v0 h_v1 k_v1 S H locs _ hf hP hS hW (lv_sub hl [1, 2, 3, 6, 0] rfl)
            · have hf := if_f c17 hf
              refine lv_aload_n hx hb dX0_add_98 rfl (lv_at hl 1 rfl) ?_
              refine lv_iload hx hb dX0_add_99 (lv_at hl 6 rfl) ?_
              refine lv_iconst (v := 0) hx hb dX0_add_101 rfl ?_
              obtain ⟨S23, eS23, hf⟩ := bnd_e hf
              refine x_aft_v (x_runV (As := [.int v5, .int 0]) (rest := []) C hP hS (c_X0_tell (l := l) C.2.2.2.2.2.2.2.2.2.1 hW h_v0 k_v0 eS23.symm H.size) h_v0 k_v0 (by decide) rfl rfl km_X0_tell ki_X0_tell qm_X0_43 ⟨(Nat.le_of_ble_eq_true rfl), (Nat.le_of_ble_eq_true rfl)⟩ rfl hl.1 rfl (Nat.le_of_ble_eq_true rfl) ⟨Nat.zero_le _, Nat.zero_le _⟩ dX0_add_102) hS (fun H locs hP hS hW => ?_)
              refine lv_goto (tgt := 178) hx hb dX0_add_105 (by decide) ?_
              cases hf
              exact x_retv C hP hS hW dX0_add_178
          · have hf := if_f c15 hf
            exact b_X0_add_76 C v0 v1 v3 v4 v5 h_v0 k_v0 h_v1 k_v1 S H locs _ hf hP hS hW (lv_sub hl [1, 2, 4, 5, 6] rfl)
      · have hf := if_f c10 hf
        exact b_X0_add_47 C v0 v1 h_v0 k_v0 h_v1 k_v1 S H locs _ hf hP hS hW (lv_sub hl [1, 2] rfl)
set_option maxRecDepth 100000 in
set_option maxHeartbeats 4000000 in
theorem c_X0_add {l : Launch} {V : EV} {G : GS} {S : HS} {F : Nat} {a : Nat} {p0 : Nat} {p1 : Int32} {p2 : Int32} {p3 : Int32} {p4 : Int32} {S' : HS} (hN : G.1.Nodup) (hW : WT G S) (h_a : a ∈ G.1) (k_a : G.2.1 a = 0) (h_p0 : p0 ∈ G.1) (k_p0 : G.2.1 p0 = 2) (hf : s_X0_add F a p0 p1 p2 p3 p4 S = some S') : MetV l yX0_add cX0_add 9 4 136 V G S [.ref a, .ref p0, .int p1, .int p2, .int p3, .int p4] S' := by
  intro sz
  refine x_in RX0 rfl (by decide +kernel) hN (Nat.le_of_ble_eq_true rfl) (fun p e s m args below meth c ls hsz hargs hnm C hP hS hl => ?_)
  subst hsz
  have hx := C.1
  have hb := C.2.1
  have hl : lv_has ls 9 [(0, .ref a), (1, .ref p0), (2, .int p1), (3, .int p2), (4, .int p3), (5, .int p4)] := hl
  unfold s_X0_add at hf
  refine lv_aload_n hx hb dX0_add_0 rfl (lv_at hl 1 rfl) ?_
  refine lv_iload_n hx hb dX0_add_1 rfl (lv_at hl 3 rfl) ?_
  refine x_aft_z (x_runV (As := [.int p2]) (rest := []) C hP hS (c_X2_isMinus (l := l) C.2.2.2.2.2.2.2.2.2.1 hW h_p0 k_p0 rfl s.heap.size) h_p0 k_p0 (by decide) rfl rfl km_X2_isMinus ki_X2_isMinus qm_X0_31 ⟨(Nat.le_of_ble_eq_true rfl), (Nat.le_of_ble_eq_true rfl)⟩ rfl hl.1 rfl (Nat.le_of_ble_eq_true rfl) ⟨Nat.zero_le _, Nat.zero_le _⟩ dX0_add_2) hS (fun H locs hP hS hW z1 => ?_)
  refine lv_aload_n hx hb dX0_add_5 rfl (lv_at hl 1 rfl) ?_
  refine lv_iload hx hb dX0_add_6 (lv_at hl 4 rfl) ?_
  refine x_aft_z (x_runV (As := [.int p3]) (rest := [.int (s_X2_isMinus p0 p2 S)]) C hP hS (c_X2_isMinus (l := l) C.2.2.2.2.2.2.2.2.2.1 hW h_p0 k_p0 rfl H.size) h_p0 k_p0 (by decide) rfl rfl km_X2_isMinus ki_X2_isMinus qm_X0_31 ⟨(Nat.le_of_ble_eq_true rfl), (Nat.le_of_ble_eq_true rfl)⟩ rfl hl.1 rfl (Nat.le_of_ble_eq_true rfl) ⟨Nat.zero_le _, Nat.zero_le _⟩ dX0_add_8) hS (fun H locs hP hS hW z2 => ?_)
  refine lv_icmp_eq (tgt := 18) hx hb dX0_add_11 (by decide) (fun c3 => ?_) (fun c3 => ?_)
  · have hf := if_t c3 hf
    refine lv_iconst (v := 0) hx hb dX0_add_18 rfl ?_
    exact b_X0_add_19 C a p0 p1 p2 p3 p4 0 h_a k_a h_p0 k_p0 S H locs _ hf hP hS hW (lv_sub hl [0, 1, 2, 3, 4, 5] rfl)
  · have hf := if_f c3 hf
    refine lv_iconst (v := 1) hx hb dX0_add_14 rfl ?_
    refine lv_goto (tgt := 19) hx hb dX0_add_15 (by decide) ?_
    exact b_X0_add_19 C a p0 p1 p2 p3 p4 1 h_a k_a h_p0 k_p0 S H locs _ hf hP hS hW (lv_sub hl [0, 1, 2, 3, 4, 5] rfl)
def s_X2_isNought (a : Nat) (p0 : Int32) (S : HS) : Int32 :=
  if (s_X2_size a p0 S) = (0 : Int32) then
  1
  else
  0
set_option maxRecDepth 100000 in
set_option maxHeartbeats 4000000 in
theorem c_X2_isNought {l : Launch} {V : EV} {G : GS} {S : HS} {a : Nat} {p0 : Int32} {r : Int32} (hN : G.1.Nodup) (hW : WT G S) (h_a : a ∈ G.1) (k_a : G.2.1 a = 2) (hf : s_X2_isNought a p0 S = r) : MetZ l yX2_isNought cX2_isNought 2 1 29 V G S [.ref a, .int p0] r S := by
  intro sz
  refine x_in RX2 rfl (by decide +kernel) hN (Nat.le_of_ble_eq_true rfl) (fun p e s m args below meth c ls hsz hargs hnm C hP hS hl => ?_)
  subst hsz
  have hx := C.1
  have hb := C.2.1
  have hl : lv_has ls 2 [(0, .ref a), (1, .int p0)] := hl
  unfold s_X2_isNought at hf
  refine lv_aload_n hx hb dX2_isNought_0 rfl (lv_at hl 0 rfl) ?_
  refine lv_iload_n hx hb dX2_isNought_1 rfl (lv_at hl 1 rfl) ?_
  refine x_aft_i (x_runV (As := [.int p0]) (rest := []) C hP hS (c_X2_size (l := l) C.2.2.2.2.2.2.2.2.2.1 hW h_a k_a rfl s.heap.size) h_a k_a (by decide) rfl rfl km_X2_size ki_X2_size qm_X2_36 ⟨(Nat.le_of_ble_eq_true rfl), (Nat.le_of_ble_eq_true rfl)⟩ rfl hl.1 rfl (Nat.le_of_ble_eq_true rfl) ⟨Nat.zero_le _, Nat.zero_le _⟩ dX2_isNought_2) hS (fun H locs hP hS hW => ?_)
  refine lv_if_ne (tgt := 12) hx hb dX2_isNought_5 (by decide) (fun c1 => ?_) (fun c1 => ?_)
  · have hf := if_f c1 hf
    refine lv_iconst (v := 0) hx hb dX2_isNought_12 rfl ?_
    cases hf
    exact x_retZ C hP hS hW isZ_0 dX2_isNought_13
  · have hf := if_t c1 hf
    refine lv_iconst (v := 1) hx hb dX2_isNought_8 rfl ?_
    refine lv_goto (tgt := 13) hx hb dX2_isNought_9 (by decide) ?_
    cases hf
    exact x_retZ C hP hS hW isZ_1 dX2_isNought_13
def s_X0_convert_J102 (F : Nat) (w0 : Nat) (w1 : Int32) (w2 : Int32) (S : HS) : Option HS :=
  bnd (s_X0_tell w0 w1 w2 S) fun S14 =>
  some S14
def s_X0_convert_J92 (F : Nat) (v6 : Int32) (w0 : Nat) (w1 : Int32) (S : HS) : Option HS :=
  if v6 = (0 : Int32) then
  s_X0_convert_J102 F w0 w1 0 S
  else
  s_X0_convert_J102 F w0 w1 1 S
def s_X0_convert_J56 (F : Nat) (w0 : Nat) (w1 : Int32) (w2 : Int32) (S : HS) : Option HS :=
  bnd (s_X0_tell w0 w1 w2 S) fun S17 =>
  some S17
def s_X0_convert_J46 (F : Nat) (v6 : Int32) (w0 : Nat) (w1 : Int32) (S : HS) : Option HS :=
  if v6 = (0 : Int32) then
  s_X0_convert_J56 F w0 w1 0 S
  else
  s_X0_convert_J56 F w0 w1 1 S
def s_X0_convert_J21 (F : Nat) (v0 : Nat) (v1 : Nat) (v2 : Nat) (v3 : Int32) (v4 : Int32) (v5 : Int32) (w0 : Int32) (S : HS) : Option HS :=
  if (s_X2_isNan v1 v4 S) = (0 : Int32) then
  if (s_X2_isInfinite v1 v4 S) = (0 : Int32) then
  if (s_X2_isNought v1 v4 S) = (0 : Int32) then
  bd1 (s_X0_round F v0 v2 v3 v5 ((s_X2_weight v1 v4 S).toInt64) (s_X2_place v1 v4 S) S) fun S10 =>
  some S10
  else
  bnd (s_X0_tell v0 (s_X2_noughtOf v2 v5 S) 0 S) fun S11 =>
  some S11
  else
  if w0 = (0 : Int32) then
  s_X0_convert_J92 F w0 v0 (s_X2_infinityOf v2 v5 S) S
  else
  s_X0_convert_J92 F w0 v0 (s_X2_greatestOf v2 v5 S) S
  else
  if w0 = (0 : Int32) then
  s_X0_convert_J46 F w0 v0 (gI S 207 v2) S
  else
  s_X0_convert_J46 F w0 v0 0 S
def s_X0_convert (F : Nat) (a : Nat) (p0 : Nat) (p1 : Nat) (p2 : Int32) (p3 : Int32) (S : HS) : Option HS :=
  bnd (s_X2_isMinus p0 p3 S : Int32) fun x2 =>
  if (gI S 200 p1) = (3 : Int32) then
  s_X0_convert_J21 F a p0 p1 p2 p3 x2 1 S
  else
  s_X0_convert_J21 F a p0 p1 p2 p3 x2 0 S
set_option maxRecDepth 100000 in
set_option maxHeartbeats 4000000 in
theorem b_X0_convert_102 {p : Program} {l : Launch} {e : Env} {s : State} {m : MethodId} {args : Array Value} {below : List Frame} {meth : Method} {c : Code} {V : EV} {G : GS} {S' : HS} {F : Nat} (C : CX p s m args meth c RX0 cX0_convert 7 none V G) : ∀ (w0 : Nat) (w1 : Int32) (w2 : Int32) (h_w0 : w0 ∈ G.1) (k_w0 : G.2.1 w0 = 0) (S : HS) (H : Heap) (locs : List Loc) (ls : Array Slot), s_X0_convert_J102 F w0 w1 w2 S = some S' → HP V G S H → va_S (AG G s.heap.size) s.heap H locs → WT G S → lv_has ls 7 [] → W p l e (RM 3 87) s m args below meth c H locs 0 0 (MQ below (QV V G S' s.heap.size) args s 0 0 (AG G s.heap.size)) (F0 m 102 ls [.int w2, .int w1, .ref w0]) := by
  intro w0 w1 w2 h_w0 k_w0 S H locs ls hf hP hS hW hl
  have hx := C.1
  have hb := C.2.1
  unfold s_X0_convert_J102 at hf
  obtain ⟨S14, eS14, hf⟩ := bnd_e hf
  refine x_aft_v (x_runV (As := [.int w1, .int w2]) (rest := []) C hP hS (c_X0_tell (l := l) C.2.2.2.2.2.2.2.2.2.1 hW h_w0 k_w0 eS14.symm H.size) h_w0 k_w0 (by decide) rfl rfl km_X0_tell ki_X0_tell qm_X0_43 ⟨(Nat.le_of_ble_eq_true rfl), (Nat.le_of_ble_eq_true rfl)⟩ rfl hl.1 rfl (Nat.le_of_ble_eq_true rfl) ⟨Nat.zero_le _, Nat.zero_le _⟩ dX0_convert_102) hS (fun H locs hP hS hW => ?_)
  refine lv_goto (tgt := 152) hx hb dX0_convert_105 (by decide) ?_
  cases hf
  exact x_retv C hP hS hW dX0_convert_152
set_option maxRecDepth 100000 in
set_option maxHeartbeats 4000000 in
theorem b_X0_convert_92 {p : Program} {l : Launch} {e : Env} {s : State} {m : MethodId} {args : Array Value} {below : List Frame} {meth : Method} {c : Code} {V : EV} {G : GS} {S' : HS} {F : Nat} (C : CX p s m args meth c RX0 cX0_convert 7 none V G) : ∀ (v6 : Int32) (w0 : Nat) (w1 : Int32) (h_w0 : w0 ∈ G.1) (k_w0 : G.2.1 w0 = 0) (S : HS) (H : Heap) (locs : List Loc) (ls : Array Slot), s_X0_convert_J92 F v6 w0 w1 S = some S' → HP V G S H → va_S (AG G s.heap.size) s.heap H locs → WT G S → lv_has ls 7 [(6, .int v6)] → W p l e (RM 3 87) s m args below meth c H locs 0 0 (MQ below (QV V G S' s.heap.size) args s 0 0 (AG G s.heap.size)) (F0 m 92 ls [.int w1, .ref w0]) := by
  intro v6 w0 w1 h_w0 k_w0 S H locs ls hf hP hS hW hl
  have hx := C.1
  have hb := C.2.1
  unfold s_X0_convert_J92 at hf
  refine lv_iload hx hb dX0_convert_92 (lv_at hl 0 rfl) ?_
  refine lv_if_eq (tgt := 101) hx hb dX0_convert_94 (by decide) (fun c13 => ?_) (fun c13 => ?_)
  · have hf := if_t c13 hf
    refine lv_iconst (v := 0) hx hb dX0_convert_101 rfl ?_
    exact b_X0_convert_102 C w0 w1 0 h_w0 k_w0 S H locs _ hf hP hS hW (lv_sub hl [] rfl)
  · have hf := if_f c13 hf
    refine lv_iconst (v := 1) hx hb dX0_convert_97 rfl ?_
    refine lv_goto (tgt := 102) hx hb dX0_convert_98 (by decide) ?_
    exact b_X0_convert_102 C w0 w1 1 h_w0 k_w0 S H locs _ hf hP hS hW (lv_sub hl [] rfl)
set_option maxRecDepth 100000 in
set_option maxHeartbeats 4000000 in
theorem b_X0_convert_56 {p : Program} {l : Launch} {e : Env} {s : State} {m : MethodId} {args : Array Value} {below : List Frame} {meth : Method} {c : Code} {V : EV} {G : GS} {S' : HS} {F : Nat} (C : CX p s m args meth c RX0 cX0_convert 7 none V G) : ∀ (w0 : Nat) (w1 : Int32) (w2 : Int32) (h_w0 : w0 ∈ G.1) (k_w0 : G.2.1 w0 = 0) (S : HS) (H : Heap) (locs : List Loc) (ls : Array Slot), s_X0_convert_J56 F w0 w1 w2 S = some S' → HP V G S H → va_S (AG G s.heap.size) s.heap H locs → WT G S → lv_has ls 7 [] → W p l e (RM 3 87) s m args below meth c H locs 0 0 (MQ below (QV V G S' s.heap.size) args s 0 0 (AG G s.heap.size)) (F0 m 56 ls [.int w2, .int w1, .ref w0]) := by
  intro w0 w1 w2 h_w0 k_w0 S H locs ls hf hP hS hW hl
  have hx := C.1
  have hb := C.2.1
  unfold s_X0_convert_J56 at hf
  obtain ⟨S17, eS17, hf⟩ := bnd_e hf
  refine x_aft_v (x_runV (As := [.int w1, .int w2]) (rest := []) C hP hS (c_X0_tell (l := l) C.2.2.2.2.2.2.2.2.2.1 hW h_w0 k_w0 eS17.symm H.size) h_w0 k_w0 (by decide) rfl rfl km_X0_tell ki_X0_tell qm_X0_43 ⟨(Nat.le_of_ble_eq_true rfl), (Nat.le_of_ble_eq_true rfl)⟩ rfl hl.1 rfl (Nat.le_of_ble_eq_true rfl) ⟨Nat.zero_le _, Nat.zero_le _⟩ dX0_convert_56) hS (fun H locs hP hS hW => ?_)
  refine lv_goto (tgt := 152) hx hb dX0_convert_59 (by decide) ?_
  cases hf
  exact x_retv C hP hS hW dX0_convert_152
set_option maxRecDepth 100000 in
set_option maxHeartbeats 4000000 in
theorem b_X0_convert_46 {p : Program} {l : Launch} {e : Env} {s : State} {m : MethodId} {args : Array Value} {below : List Frame} {meth : Method} {c : Code} {V : EV} {G : GS} {S' : HS} {F : Nat} (C : CX p s m args meth c RX0 cX0_convert 7 none V G) : ∀ (v6 : Int32) (w0 : Nat) (w1 : Int32) (h_w0 : w0 ∈ G.1) (k_w0 : G.2.1 w0 = 0) (S : HS) (H : Heap) (locs : List Loc) (ls : Array Slot), s_X0_convert_J46 F v6 w0 w1 S = some S' → HP V G S H → va_S (AG G s.heap.size) s.heap H locs → WT G S → lv_has ls 7 [(6, .int v6)] → W p l e (RM 3 87) s m args below meth c H locs 0 0 (MQ below (QV V G S' s.heap.size) args s 0 0 (AG G s.heap.size)) (F0 m 46 ls [.int w1, .ref w0]) := by
  intro v6 w0 w1 h_w0 k_w0 S H locs ls hf hP hS hW hl
  have hx := C.1
  have hb := C.2.1
  unfold s_X0_convert_J46 at hf
  refine lv_iload hx hb dX0_convert_46 (lv_at hl 0 rfl) ?_
  refine lv_if_eq (tgt := 55) hx hb dX0_convert_48 (by decide) (fun c16 => ?_) (fun c16 => ?_)
  · have hf := if_t c16 hf
    refine lv_iconst (v := 0) hx hb dX0_convert_55 rfl ?_
    exact b_X0_convert_56 C w0 w1 0 h_w0 k_w0 S H locs _ hf hP hS hW (lv_sub hl [] rfl)
  · have hf := if_f c16 hf
    refine lv_iconst (v := 1) hx hb dX0_convert_51 rfl ?_
    refine lv_goto (tgt := 56) hx hb dX0_convert_52 (by decide) ?_
    exact b_X0_convert_56 C w0 w1 1 h_w0 k_w0 S H locs _ hf hP hS hW (lv_sub hl [] rfl)
set_option maxRecDepth 100000 in
set_option maxHeartbeats 4000000 in
theorem b_X0_convert_21 {p : Program} {l : Launch} {e : Env} {s : State} {m : MethodId} {args : Array Value} {below : List Frame} {meth : Method} {c : Code} {V : EV} {G : GS} {S' : HS} {F : Nat} (C : CX p s m args meth c RX0 cX0_convert 7 none V G) : ∀ (v0 : Nat) (v1 : Nat) (v2 : Nat) (v3 : Int32) (v4 : Int32) (v5 : Int32) (w0 : Int32) (h_v0 : v0 ∈ G.1) (k_v0 : G.2.1 v0 = 0) (h_v1 : v1 ∈ G.1) (k_v1 : G.2.1 v1 = 2) (h_v2 : v2 ∈ G.1) (k_v2 : G.2.1 v2 = 2) (S : HS) (H : Heap) (locs : List Loc) (ls : Array Slot), s_X0_convert_J21 F v0 v1 v2 v3 v4 v5 w0 S = some S' → HP V G S H → va_S (AG G s.heap.size) s.heap H locs → WT G S → lv_has ls 7 [(0, .ref v0), (1, .ref v1), (2, .ref v2), (3, .int v3), (4, .int v4), (5, .int v5)] → W p l e (RM 3 87) s m args below meth c H locs 0 0 (MQ below (QV V G S' s.heap.size) args s 0 0 (AG G s.heap.size)) (F0 m 21 ls [.int w0]) := by
  intro v0 v1 v2 v3 v4 v5 w0 h_v0 k_v0 h_v1 k_v1 h_v2 k_v2 S H locs ls hf hP hS hW hl
  have hx := C.1
  have hb := C.2.1
  unfold s_X0_convert_J21 at hf
  refine lv_istore (lv' := [(6, .int w0), (0, .ref v0), (1, .ref v1), (2, .ref v2), (3, .int v3), (4, .int v4), (5, .int v5)]) hx hb dX0_convert_21 hl (by decide) rfl (fun ls hl => ?_)
  refine lv_aload_n hx hb dX0_convert_23 rfl (lv_at hl 2 rfl) ?_
  refine lv_iload hx hb dX0_convert_24 (lv_at hl 5 rfl) ?_
  refine x_aft_z (x_runV (As := [.int v4]) (rest := []) C hP hS (c_X2_isNan (l := l) C.2.2.2.2.2.2.2.2.2.1 hW h_v1 k_v1 rfl H.size) h_v1 k_v1 (by decide) rfl rfl km_X2_isNan ki_X2_isNan qm_X0_37 ⟨(Nat.le_of_ble_eq_true rfl), (Nat.le_of_ble_eq_true rfl)⟩ rfl hl.1 rfl (Nat.le_of_ble_eq_true rfl) ⟨Nat.zero_le _, Nat.zero_le _⟩ dX0_convert_26) hS (fun H locs hP hS hW z4 => ?_)
  refine lv_if_eq (tgt := 62) hx hb dX0_convert_29 (by decide) (fun c5 => ?_) (fun c5 => ?_)
  · have hf := if_t c5 hf
    refine lv_aload_n hx hb dX0_convert_62 rfl (lv_at hl 2 rfl) ?_
    refine lv_iload hx hb dX0_convert_63 (lv_at hl 5 rfl) ?_
    refine x_aft_z (x_runV (As := [.int v4]) (rest := []) C hP hS (c_X2_isInfinite (l := l) C.2.2.2.2.2.2.2.2.2.1 hW h_v1 k_v1 rfl H.size) h_v1 k_v1 (by decide) rfl rfl km_X2_isInfinite ki_X2_isInfinite qm_X0_47 ⟨(Nat.le_of_ble_eq_true rfl), (Nat.le_of_ble_eq_true rfl)⟩ rfl hl.1 rfl (Nat.le_of_ble_eq_true rfl) ⟨Nat.zero_le _, Nat.zero_le _⟩ dX0_convert_65) hS (fun H locs hP hS hW z6 => ?_)
    refine lv_if_eq (tgt := 108) hx hb dX0_convert_68 (by decide) (fun c7 => ?_) (fun c7 => ?_)
    · have hf := if_t c7 hf
      refine lv_aload_n hx hb dX0_convert_108 rfl (lv_at hl 2 rfl) ?_
      refine lv_iload hx hb dX0_convert_109 (lv_at hl 5 rfl) ?_
      refine x_aft_z (x_runV (As := [.int v4]) (rest := []) C hP hS (c_X2_isNought (l := l) C.2.2.2.2.2.2.2.2.2.1 hW h_v1 k_v1 rfl H.size) h_v1 k_v1 (by decide) rfl rfl km_X2_isNought ki_X2_isNought qm_X0_134 ⟨(Nat.le_of_ble_eq_true rfl), (Nat.le_of_ble_eq_true rfl)⟩ rfl hl.1 rfl (Nat.le_of_ble_eq_true rfl) ⟨Nat.zero_le _, Nat.zero_le _⟩ dX0_convert_111) hS (fun H locs hP hS hW z8 => ?_)
      refine lv_if_eq (tgt := 131) hx hb dX0_convert_114 (by decide) (fun c9 => ?_) (fun c9 => ?_)
      · have hf := if_t c9 hf
        refine lv_aload_n hx hb dX0_convert_131 rfl (lv_at hl 1 rfl) ?_
        refine lv_aload_n hx hb dX0_convert_132 rfl (lv_at hl 3 rfl) ?_
        refine lv_iload_n hx hb dX0_convert_133 rfl (lv_at hl 4 rfl) ?_
        refine lv_iload hx hb dX0_convert_134 (lv_at hl 6 rfl) ?_
        refine lv_aload_n hx hb dX0_convert_136 rfl (lv_at hl 2 rfl) ?_
        refine lv_iload hx hb dX0_convert_137 (lv_at hl 5 rfl) ?_
        refine x_aft_i (x_runV (As := [.int v4]) (rest := [.int v5, .int v3, .ref v2, .ref v0]) C hP hS (c_X2_weight (l := l) C.2.2.2.2.2.2.2.2.2.1 hW h_v1 k_v1 rfl H.size) h_v1 k_v1 (by decide) rfl rfl km_X2_weight ki_X2_weight qm_X0_137 ⟨(Nat.le_of_ble_eq_true rfl), (Nat.le_of_ble_eq_true rfl)⟩ rfl hl.1 rfl (Nat.le_of_ble_eq_true rfl) ⟨Nat.zero_le _, Nat.zero_le _⟩ dX0_convert_139) hS (fun H locs hP hS hW => ?_)
        refine lv_i2l hx hb dX0_convert_142 rfl ?_
        refine lv_aload_n hx hb dX0_convert_143 rfl (lv_at hl 2 rfl) ?_
        refine lv_iload hx hb dX0_convert_144 (lv_at hl 5 rfl) ?_
        refine x_aft_i (x_runV (As := [.int v4]) (rest := [.long ((s_X2_weight v1 v4 S).toInt64), .int v5, .int v3, .ref v2, .ref v0]) C hP hS (c_X2_place (l := l) C.2.2.2.2.2.2.2.2.2.1 hW h_v1 k_v1 rfl H.size) h_v1 k_v1 (by decide) rfl rfl km_X2_place ki_X2_place qm_X0_62 ⟨(Nat.le_of_ble_eq_true rfl), (Nat.le_of_ble_eq_true rfl)⟩ rfl hl.1 rfl (Nat.le_of_ble_eq_true rfl) ⟨Nat.zero_le _, Nat.zero_le _⟩ dX0_convert_146) hS (fun H locs hP hS hW => ?_)
        obtain ⟨S10, eS10, hf⟩ := bd1_e hf
        refine x_aft_v (x_runV (As := [.ref v2, .int v3, .int v5, .long ((s_X2_weight v1 v4 S).toInt64), .int (s_X2_place v1 v4 S)]) (rest := []) C hP hS (c_X0_round (l := l) C.2.2.2.2.2.2.2.2.2.1 hW h_v0 k_v0 h_v2 k_v2 eS10 H.size) h_v0 k_v0 (by decide) rfl rfl km_X0_round ki_X0_round qm_X0_73 ⟨(Nat.le_of_ble_eq_true rfl), (Nat.le_of_ble_eq_true rfl)⟩ rfl hl.1 rfl (Nat.le_of_ble_eq_true rfl) ⟨Nat.zero_le _, Nat.zero_le _⟩ dX0_convert_149) hS (fun H locs hP hS hW => ?_)
        cases hf
        exact x_retv C hP hS hW dX0_convert_152
      · have hf := if_f c9 hf
        refine lv_aload_n hx hb dX0_convert_117 rfl (lv_at hl 1 rfl) ?_
        refine lv_aload_n hx hb dX0_convert_118 rfl (lv_at hl 3 rfl) ?_
        refine lv_iload hx hb dX0_convert_119 (lv_at hl 6 rfl) ?_
        refine x_aft_i (x_runV (As := [.int v5]) (rest := [.ref v0]) C hP hS (c_X2_noughtOf (l := l) C.2.2.2.2.2.2.2.2.2.1 hW h_v2 k_v2 rfl H.size) h_v2 k_v2 (by decide) rfl rfl km_X2_noughtOf ki_X2_noughtOf qm_X0_77 ⟨(Nat.le_of_ble_eq_true rfl), (Nat.le_of_ble_eq_true rfl)⟩ rfl hl.1 rfl (Nat.le_of_ble_eq_true rfl) ⟨Nat.zero_le _, Nat.zero_le _⟩ dX0_convert_121) hS (fun H locs hP hS hW => ?_)
        refine lv_iconst (v := 0) hx hb dX0_convert_124 rfl ?_
        obtain ⟨S11, eS11, hf⟩ := bnd_e hf
        refine x_aft_v (x_runV (As := [.int (s_X2_noughtOf v2 v5 S), .int 0]) (rest := []) C hP hS (c_X0_tell (l := l) C.2.2.2.2.2.2.2.2.2.1 hW h_v0 k_v0 eS11.symm H.size) h_v0 k_v0 (by decide) rfl rfl km_X0_tell ki_X0_tell qm_X0_43 ⟨(Nat.le_of_ble_eq_true rfl), (Nat.le_of_ble_eq_true rfl)⟩ rfl hl.1 rfl (Nat.le_of_ble_eq_true rfl) ⟨Nat.zero_le _, Nat.zero_le _⟩ dX0_convert_125) hS (fun H locs hP hS hW => ?_)
        refine lv_goto (tgt := 152) hx hb dX0_convert_128 (by decide) ?_
        cases hf
        exact x_retv C hP hS hW dX0_convert_152
    · have hf := if_f c7 hf
      refine lv_aload_n hx hb dX0_convert_71 rfl (lv_at hl 1 rfl) ?_
      refine lv_iload hx hb dX0_convert_72 (lv_at hl 0 rfl) ?_
      refine lv_if_eq (tgt := 86) hx hb dX0_convert_74 (by decide) (fun c12 => ?_) (fun c12 => ?_)
      · have hf := if_t c12 hf
        refine lv_aload_n hx hb dX0_convert_86 rfl (lv_at hl 3 rfl) ?_
        refine lv_iload hx hb dX0_convert_87 (lv_at hl 6 rfl) ?_
        refine x_aft_i (x_runV (As := [.int v5]) (rest := [.ref v0]) C hP hS (c_X2_infinityOf (l := l) C.2.2.2.2.2.2.2.2.2.1 hW h_v2 k_v2 rfl H.size) h_v2 k_v2 (by decide) rfl rfl km_X2_infinityOf ki_X2_infinityOf qm_X0_69 ⟨(Nat.le_of_ble_eq_true rfl), (Nat.le_of_ble_eq_true rfl)⟩ rfl hl.1 rfl (Nat.le_of_ble_eq_true rfl) ⟨Nat.zero_le _, Nat.zero_le _⟩ dX0_convert_89) hS (fun H locs hP hS hW => ?_)
        exact b_X0_convert_92 C w0 v0 (s_X2_infinityOf v2 v5 S) h_v0 k_v0 S H locs _ hf hP hS hW (lv_sub hl [0] rfl)
      · have hf := if_f c12 hf
        refine lv_aload_n hx hb dX0_convert_77 rfl (lv_at hl 3 rfl) ?_
        refine lv_iload hx hb dX0_convert_78 (lv_at hl 6 rfl) ?_
        refine x_aft_i (x_runV (As := [.int v5]) (rest := [.ref v0]) C hP hS (c_X2_greatestOf (l := l) C.2.2.2.2.2.2.2.2.2.1 hW h_v2 k_v2 rfl H.size) h_v2 k_v2 (by decide) rfl rfl km_X2_greatestOf ki_X2_greatestOf qm_X0_119 ⟨(Nat.le_of_ble_eq_true rfl), (Nat.le_of_ble_eq_true rfl)⟩ rfl hl.1 rfl (Nat.le_of_ble_eq_true rfl) ⟨Nat.zero_le _, Nat.zero_le _⟩ dX0_convert_80) hS (fun H locs hP hS hW => ?_)
        refine lv_goto (tgt := 92) hx hb dX0_convert_83 (by decide) ?_
        exact b_X0_convert_92 C w0 v0 (s_X2_greatestOf v2 v5 S) h_v0 k_v0 S H locs _ hf hP hS hW (lv_sub hl [0] rfl)
  · have hf := if_f c5 hf
    refine lv_aload_n hx hb dX0_convert_32 rfl (lv_at hl 1 rfl) ?_
    refine lv_iload hx hb dX0_convert_33 (lv_at hl 0 rfl) ?_
    refine lv_if_eq (tgt := 42) hx hb dX0_convert_35 (by decide) (fun c15 => ?_) (fun c15 => ?_)
    · have hf := if_t c15 hf
      refine lv_aload_n hx hb dX0_convert_42 rfl (lv_at hl 3 rfl) ?_
      refine gf_X0_40 C hP h_v2 k_v2 dX0_convert_43 ?_
      exact b_X0_convert_46 C w0 v0 (gI S 207 v2) h_v0 k_v0 S H locs _ hf hP hS hW (lv_sub hl [0] rfl)
    · have hf := if_f c15 hf
      refine lv_iconst (v := 0) hx hb dX0_convert_38 rfl ?_
      refine lv_goto (tgt := 46) hx hb dX0_convert_39 (by decide) ?_
      exact b_X0_convert_46 C w0 v0 0 h_v0 k_v0 S H locs _ hf hP hS hW (lv_sub hl [0] rfl)
set_option maxRecDepth 100000 in
set_option maxHeartbeats 4000000 in
theorem c_X0_convert {l : Launch} {V : EV} {G : GS} {S : HS} {F : Nat} {a : Nat} {p0 : Nat} {p1 : Nat} {p2 : Int32} {p3 : Int32} {S' : HS} (hN : G.1.Nodup) (hW : WT G S) (h_a : a ∈ G.1) (k_a : G.2.1 a = 0) (h_p0 : p0 ∈ G.1) (k_p0 : G.2.1 p0 = 2) (h_p1 : p1 ∈ G.1) (k_p1 : G.2.1 p1 = 2) (hf : s_X0_convert F a p0 p1 p2 p3 S = some S') : MetV l yX0_convert cX0_convert 7 3 87 V G S [.ref a, .ref p0, .ref p1, .int p2, .int p3] S' := by
  intro sz
  refine x_in RX0 rfl (by decide +kernel) hN (Nat.le_of_ble_eq_true rfl) (fun p e s m args below meth c ls hsz hargs hnm C hP hS hl => ?_)
  subst hsz
  have hx := C.1
  have hb := C.2.1
  have hl : lv_has ls 7 [(0, .ref a), (1, .ref p0), (2, .ref p1), (3, .int p2), (4, .int p3)] := hl
  unfold s_X0_convert at hf
  refine lv_aload_n hx hb dX0_convert_0 rfl (lv_at hl 1 rfl) ?_
  refine lv_iload hx hb dX0_convert_1 (lv_at hl 4 rfl) ?_
  refine x_aft_z (x_runV (As := [.int p3]) (rest := []) C hP hS (c_X2_isMinus (l := l) C.2.2.2.2.2.2.2.2.2.1 hW h_p0 k_p0 rfl s.heap.size) h_p0 k_p0 (by decide) rfl rfl km_X2_isMinus ki_X2_isMinus qm_X0_31 ⟨(Nat.le_of_ble_eq_true rfl), (Nat.le_of_ble_eq_true rfl)⟩ rfl hl.1 rfl (Nat.le_of_ble_eq_true rfl) ⟨Nat.zero_le _, Nat.zero_le _⟩ dX0_convert_3) hS (fun H locs hP hS hW z1 => ?_)
  obtain ⟨x2, ex2, hf⟩ := bnd_e hf
  refine nm_i ex2 ?_
  have zx2 : isZ x2 = true := by rw [ex2]; exact z1
  refine lv_istore (lv' := [(5, .int x2), (0, .ref a), (1, .ref p0), (2, .ref p1), (3, .int p2), (4, .int p3)]) hx hb dX0_convert_6 hl (by decide) rfl (fun ls hl => ?_)
  refine lv_aload_n hx hb dX0_convert_8 rfl (lv_at hl 3 rfl) ?_
  refine gf_X0_126 C hP h_p1 k_p1 dX0_convert_9 ?_
  refine lv_iconst (v := 3) hx hb dX0_convert_12 rfl ?_
  refine lv_icmp_ne (tgt := 20) hx hb dX0_convert_13 (by decide) (fun c3 => ?_) (fun c3 => ?_)
  · have hf := if_f c3 hf
    refine lv_iconst (v := 0) hx hb dX0_convert_20 rfl ?_
    exact b_X0_convert_21 C a p0 p1 p2 p3 x2 0 h_a k_a h_p0 k_p0 h_p1 k_p1 S H locs _ hf hP hS hW (lv_sub hl [1, 2, 3, 4, 5, 0] rfl)
  · have hf := if_t c3 hf
    refine lv_iconst (v := 1) hx hb dX0_convert_16 rfl ?_
    refine lv_goto (tgt := 21) hx hb dX0_convert_17 (by decide) ?_
    exact b_X0_convert_21 C a p0 p1 p2 p3 x2 1 h_a k_a h_p0 k_p0 h_p1 k_p1 S H locs _ hf hP hS hW (lv_sub hl [1, 2, 3, 4, 5, 0] rfl)
def s_X0_init (a : Nat) (S : HS) : HS :=
  S
set_option maxRecDepth 100000 in
set_option maxHeartbeats 4000000 in
theorem c_X0_init {l : Launch} {V : EV} {G : GS} {S : HS} {a : Nat} {S' : HS} (hN : G.1.Nodup) (hW : WT G S) (h_a : a ∈ G.1) (k_a : G.2.1 a = 0) (hf : s_X0_init a S = S') : MetV l yX0_init cX0_init 1 1 28 V G S [.ref a] S' := by
  intro sz
  refine x_in RX0 rfl (by decide +kernel) hN (Nat.le_of_ble_eq_true rfl) (fun p e s m args below meth c ls hsz hargs hnm C hP hS hl => ?_)
  subst hsz
  have hx := C.1
  have hb := C.2.1
  have hin : meth.name = "<init>" := hnm
  have hl : lv_has ls 1 [(0, .ref a)] := hl
  unfold s_X0_init at hf
  refine lv_aload_n hx hb dX0_init_0 rfl (lv_at hl 0 rfl) ?_
  refine x_obj C qobj_X0_3 qobji qobjc hl.1 dX0_init_1 (by show _ ≤ _; decide) (by show _ ≤ _; decide) ?_
  cases hf
  exact x_retv C hP hS hW dX0_init_4
def s_X0_isHalf (a : Nat) (S : HS) : Int32 :=
  if (gI S 4 a) = (0 : Int32) then
  0
  else
  if (gI S 6 a) = (0 : Int32) then
  0
  else
  if (gI S 7 a) = (0 : Int32) then
  1
  else
  0
set_option maxRecDepth 100000 in
set_option maxHeartbeats 4000000 in
theorem c_X0_isHalf {l : Launch} {V : EV} {G : GS} {S : HS} {a : Nat} {r : Int32} (hN : G.1.Nodup) (hW : WT G S) (h_a : a ∈ G.1) (k_a : G.2.1 a = 0) (hf : s_X0_isHalf a S = r) : MetZ l yX0_isHalf cX0_isHalf 1 0 0 V G S [.ref a] r S := by
  intro sz
  refine x_in RX0 rfl (by decide +kernel) hN (Nat.le_of_ble_eq_true rfl) (fun p e s m args below meth c ls hsz hargs hnm C hP hS hl => ?_)
  subst hsz
  have hx := C.1
  have hb := C.2.1
  have hl : lv_has ls 1 [(0, .ref a)] := hl
  unfold s_X0_isHalf at hf
  refine lv_aload_n hx hb dX0_isHalf_0 rfl (lv_at hl 0 rfl) ?_
  refine gf_X0_9 C hP h_a k_a dX0_isHalf_1 ?_
  refine lv_if_eq (tgt := 25) hx hb dX0_isHalf_4 (by decide) (fun c1 => ?_) (fun c1 => ?_)
  · have hf := if_t c1 hf
    refine lv_iconst (v := 0) hx hb dX0_isHalf_25 rfl ?_
    cases hf
    exact x_retZ C hP hS hW isZ_0 dX0_isHalf_26
  · have hf := if_f c1 hf
    refine lv_aload_n hx hb dX0_isHalf_7 rfl (lv_at hl 0 rfl) ?_
    refine gf_X0_15 C hP h_a k_a dX0_isHalf_8 ?_
    refine lv_if_eq (tgt := 25) hx hb dX0_isHalf_11 (by decide) (fun c2 => ?_) (fun c2 => ?_)
    · have hf := if_t c2 hf
      refine lv_iconst (v := 0) hx hb dX0_isHalf_25 rfl ?_
      cases hf
      exact x_retZ C hP hS hW isZ_0 dX0_isHalf_26
    · have hf := if_f c2 hf
      refine lv_aload_n hx hb dX0_isHalf_14 rfl (lv_at hl 0 rfl) ?_
      refine gf_X0_18 C hP h_a k_a dX0_isHalf_15 ?_
      refine lv_if_ne (tgt := 25) hx hb dX0_isHalf_18 (by decide) (fun c3 => ?_) (fun c3 => ?_)
      · have hf := if_f c3 hf
        refine lv_iconst (v := 0) hx hb dX0_isHalf_25 rfl ?_
        cases hf
        exact x_retZ C hP hS hW isZ_0 dX0_isHalf_26
      · have hf := if_t c3 hf
        refine lv_iconst (v := 1) hx hb dX0_isHalf_21 rfl ?_
        refine lv_goto (tgt := 26) hx hb dX0_isHalf_22 (by decide) ?_
        cases hf
        exact x_retZ C hP hS hW isZ_1 dX0_isHalf_26
def s_X0_wholes_J47 (F : Nat) (v0 : Nat) (w0 : Int64) (w1 : Nat) (w2 : Int32) (w3 : Int32) (w4 : Int32) (S : HS) : Option (Int64 × HS) :=
  bd1 (s_X0_goesUp w1 w2 w3 w4 (gI S 6 v0) (gI S 7 v0) S) fun r5 =>
  if r5 = (0 : Int32) then
  some (w0 + ((0 : Int32).toInt64), S)
  else
  some (w0 + ((1 : Int32).toInt64), S)
def s_X0_wholes (F : Nat) (a : Nat) (p0 : Int32) (p1 : Int32) (p2 : Int64) (p3 : Int32) (S : HS) : Option (Int64 × HS) :=
  bd1 (s_X11_bitLength F p2 S) fun r1 =>
  if (r1 + p3) ≤ (40 : Int32) then
  bd1 (s_X0_cut a p2 (-p3) S) fun S3 =>
  if (lg_cmp ((gJ S3 5 a) &&& 1) (1 : Int64)) = (0 : Int32) then
  s_X0_wholes_J47 F a (gJ S3 5 a) a p0 p1 1 S3
  else
  s_X0_wholes_J47 F a (gJ S3 5 a) a p0 p1 0 S3
  else
  some (1099511627776, S)
set_option maxRecDepth 100000 in
set_option maxHeartbeats 4000000 in
theorem b_X0_wholes_47 {p : Program} {l : Launch} {e : Env} {s : State} {m : MethodId} {args : Array Value} {below : List Frame} {meth : Method} {c : Code} {V : EV} {G : GS} {r : Int64} {S' : HS} {F : Nat} (C : CX p s m args meth c RX0 cX0_wholes 6 (some .long) V G) : ∀ (v0 : Nat) (w0 : Int64) (w1 : Nat) (w2 : Int32) (w3 : Int32) (w4 : Int32) (h_v0 : v0 ∈ G.1) (k_v0 : G.2.1 v0 = 0) (h_w1 : w1 ∈ G.1) (k_w1 : G.2.1 w1 = 0) (S : HS) (H : Heap) (locs : List Loc) (ls : Array Slot), s_X0_wholes_J47 F v0 w0 w1 w2 w3 w4 S = some (r, S') → HP V G S H → va_S (AG G s.heap.size) s.heap H locs → WT G S → lv_has ls 6 [(0, .ref v0)] → W p l e (RM 1 34) s m args below meth c H locs 0 0 (MQ below (QJ V G S' r s.heap.size) args s 0 0 (AG G s.heap.size)) (F0 m 47 ls [.int w4, .int w3, .int w2, .ref w1, .long w0]) := by
  intro v0 w0 w1 w2 w3 w4 h_v0 k_v0 h_w1 k_w1 S H locs ls hf hP hS hW hl
  have hx := C.1
  have hb := C.2.1
  unfold s_X0_wholes_J47 at hf
  refine lv_aload_n hx hb dX0_wholes_47 rfl (lv_at hl 0 rfl) ?_
  refine gf_X0_15 C hP h_v0 k_v0 dX0_wholes_48 ?_
  refine lv_aload_n hx hb dX0_wholes_51 rfl (lv_at hl 0 rfl) ?_
  refine gf_X0_18 C hP h_v0 k_v0 dX0_wholes_52 ?_
  obtain ⟨r5, er5, hf⟩ := bd1_e hf
  refine x_aft_z (x_runV (As := [.int w2, .int w3, .int w4, .int (gI S 6 v0), .int (gI S 7 v0)]) (rest := [.long w0]) C hP hS (c_X0_goesUp (l := l) C.2.2.2.2.2.2.2.2.2.1 hW h_w1 k_w1 er5 H.size) h_w1 k_w1 (by decide) rfl rfl km_X0_goesUp ki_X0_goesUp qm_X0_108 ⟨(Nat.le_of_ble_eq_true rfl), (Nat.le_of_ble_eq_true rfl)⟩ rfl hl.1 rfl (Nat.le_of_ble_eq_true rfl) ⟨Nat.zero_le _, Nat.zero_le _⟩ dX0_wholes_55) hS (fun H locs hP hS hW z6 => ?_)
  refine lv_if_eq (tgt := 65) hx hb dX0_wholes_58 (by decide) (fun c7 => ?_) (fun c7 => ?_)
  · have hf := if_t c7 hf
    refine lv_iconst (v := 0) hx hb dX0_wholes_65 rfl ?_
    refine lv_i2l hx hb dX0_wholes_66 rfl ?_
    refine lv_ladd hx hb dX0_wholes_67 ?_
    cases hf
    exact x_retl C hP hS hW dX0_wholes_68
  · have hf := if_f c7 hf
    refine lv_iconst (v := 1) hx hb dX0_wholes_61 rfl ?_
    refine lv_goto (tgt := 66) hx hb dX0_wholes_62 (by decide) ?_
    refine lv_i2l hx hb dX0_wholes_66 rfl ?_
    refine lv_ladd hx hb dX0_wholes_67 ?_
    cases hf
    exact x_retl C hP hS hW dX0_wholes_68
set_option maxRecDepth 100000 in
set_option maxHeartbeats 4000000 in
theorem c_X0_wholes {l : Launch} {V : EV} {G : GS} {S : HS} {F : Nat} {a : Nat} {p0 : Int32} {p1 : Int32} {p2 : Int64} {p3 : Int32} {r : Int64} {S' : HS} (hN : G.1.Nodup) (hW : WT G S) (h_a : a ∈ G.1) (k_a : G.2.1 a = 0) (hf : s_X0_wholes F a p0 p1 p2 p3 S = some (r, S')) : MetJ l yX0_wholes cX0_wholes 6 1 34 V G S [.ref a, .int p0, .int p1, .long p2, .int p3] r S' := by
  intro sz
  refine x_in RX0 rfl (by decide +kernel) hN (Nat.le_of_ble_eq_true rfl) (fun p e s m args below meth c ls hsz hargs hnm C hP hS hl => ?_)
  subst hsz
  have hx := C.1
  have hb := C.2.1
  have hl : lv_has ls 6 [(0, .ref a), (1, .int p0), (2, .int p1), (3, .long p2), (5, .int p3)] := hl
  unfold s_X0_wholes at hf
  refine lv_lload_n hx hb dX0_wholes_0 rfl (lv_at hl 3 rfl) ?_
  obtain ⟨r1, er1, hf⟩ := bd1_e hf
  refine x_aft_i (x_runS (As := [.long p2]) (rest := []) C hP hS (c_X11_bitLength (l := l) C.2.2.2.2.2.2.2.2.2.1 hW er1 s.heap.size) km_X11_bitLength ks_X11_bitLength qm_X0_80 ⟨(Nat.le_of_ble_eq_true rfl), (Nat.le_of_ble_eq_true rfl)⟩ rfl hl.1 rfl (Nat.le_of_ble_eq_true rfl) ⟨Nat.zero_le _, Nat.zero_le _⟩ dX0_wholes_1) hS (fun H locs hP hS hW => ?_)
  refine lv_iload hx hb dX0_wholes_4 (lv_at hl 4 rfl) ?_
  refine lv_iadd hx hb dX0_wholes_6 ?_
  refine lv_bipush (v := 40) hx hb dX0_wholes_7 kc_bipush_40 ?_
  refine lv_icmp_le (tgt := 16) hx hb dX0_wholes_9 (by decide) (fun c2 => ?_) (fun c2 => ?_)
  · have hf := if_t c2 hf
    refine lv_aload_n hx hb dX0_wholes_16 rfl (lv_at hl 0 rfl) ?_
    refine lv_lload_n hx hb dX0_wholes_17 rfl (lv_at hl 3 rfl) ?_
    refine lv_iload hx hb dX0_wholes_18 (lv_at hl 4 rfl) ?_
    refine lv_ineg hx hb dX0_wholes_20 ?_
    obtain ⟨S3, eS3, hf⟩ := bd1_e hf
    refine x_aft_v (x_runV (As := [.long p2, .int (-p3)]) (rest := []) C hP hS (c_X0_cut (l := l) C.2.2.2.2.2.2.2.2.2.1 hW h_a k_a eS3 H.size) h_a k_a (by decide) rfl rfl km_X0_cut ki_X0_cut qm_X0_100 ⟨(Nat.le_of_ble_eq_true rfl), (Nat.le_of_ble_eq_true rfl)⟩ rfl hl.1 rfl (Nat.le_of_ble_eq_true rfl) ⟨Nat.zero_le _, Nat.zero_le _⟩ dX0_wholes_21) hS (fun H locs hP hS hW => ?_)
    refine lv_aload_n hx hb dX0_wholes_24 rfl (lv_at hl 0 rfl) ?_
    refine gf_X0_104 C hP h_a k_a dX0_wholes_25 ?_
    refine lv_aload_n hx hb dX0_wholes_28 rfl (lv_at hl 0 rfl) ?_
    refine lv_iload_n hx hb dX0_wholes_29 rfl (lv_at hl 1 rfl) ?_
    refine lv_iload_n hx hb dX0_wholes_30 rfl (lv_at hl 2 rfl) ?_
    refine lv_aload_n hx hb dX0_wholes_31 rfl (lv_at hl 0 rfl) ?_
    refine gf_X0_104 C hP h_a k_a dX0_wholes_32 ?_
    refine lv_lconst (v := 1) hx hb dX0_wholes_35 rfl ?_
    refine lv_land hx hb dX0_wholes_36 ?_
    refine lv_lconst (v := 1) hx hb dX0_wholes_37 rfl ?_
    refine W.lcmp hx hb dX0_wholes_38 ?_
    refine lv_if_ne (tgt := 46) hx hb dX0_wholes_39 (by decide) (fun c4 => ?_) (fun c4 => ?_)
    · have hf := if_f c4 hf
      refine lv_iconst (v := 0) hx hb dX0_wholes_46 rfl ?_
      exact b_X0_wholes_47 C a (gJ S3 5 a) a p0 p1 0 h_a k_a h_a k_a S3 H locs _ hf hP hS hW (lv_sub hl [0] rfl)
    · have hf := if_t c4 hf
      refine lv_iconst (v := 1) hx hb dX0_wholes_42 rfl ?_
      refine lv_goto (tgt := 47) hx hb dX0_wholes_43 (by decide) ?_
      exact b_X0_wholes_47 C a (gJ S3 5 a) a p0 p1 1 h_a k_a h_a k_a S3 H locs _ hf hP hS hW (lv_sub hl [0] rfl)
  · have hf := if_f c2 hf
    refine lv_ldc2 (v := 1099511627776) hx hb C.2.2.2.2.1 (C.2.2.2.2.2.1 _ qc_X0_132) dX0_wholes_12 ?_
    cases hf
    exact x_retl C hP hS hW dX0_wholes_15
