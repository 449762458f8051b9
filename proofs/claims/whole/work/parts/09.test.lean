def s_X2_isMinus (a : Nat) (p0 : Int32) (S : HS) : Int32 :=
  if (p0 &&& (gI S 204 a)) = (0 : Int32) then
  0
  else
  1
set_option maxRecDepth 100000 in
set_option maxHeartbeats 4000000 in
theorem c_X2_isMinus {l : Launch} {V : EV} {G : GS} {S : HS} {a : Nat} {p0 : Int32} {r : Int32} (hN : G.1.Nodup) (hW : WT G S) (h_a : a ∈ G.1) (k_a : G.2.1 a = 2) (hf : s_X2_isMinus a p0 S = r) : MetZ l yX2_isMinus cX2_isMinus 2 0 0 V G S [.ref a, .int p0] r S := by
  intro sz
  refine x_in RX2 rfl (by decide +kernel) hN (Nat.le_of_ble_eq_true rfl) (fun p e s m args below meth c ls hsz hargs hnm C hP hS hl => ?_)
  subst hsz
  have hx := C.1
  have hb := C.2.1
  have hl : lv_has ls 2 [(0, .ref a), (1, .int p0)] := hl
  unfold s_X2_isMinus at hf
  refine lv_iload_n hx hb dX2_isMinus_0 rfl (lv_at hl 1 rfl) ?_
  refine lv_aload_n hx hb dX2_isMinus_1 rfl (lv_at hl 0 rfl) ?_
  refine gf_X2_24 C hP h_a k_a dX2_isMinus_2 ?_
  refine lv_iand hx hb dX2_isMinus_5 ?_
  refine lv_if_eq (tgt := 13) hx hb dX2_isMinus_6 (by decide) (fun c1 => ?_) (fun c1 => ?_)
  · have hf := if_t c1 hf
    refine lv_iconst (v := 0) hx hb dX2_isMinus_13 rfl ?_
    cases hf
    exact x_retZ C hP hS hW isZ_0 dX2_isMinus_14
  · have hf := if_f c1 hf
    refine lv_iconst (v := 1) hx hb dX2_isMinus_9 rfl ?_
    refine lv_goto (tgt := 14) hx hb dX2_isMinus_10 (by decide) ?_
    cases hf
    exact x_retZ C hP hS hW isZ_1 dX2_isMinus_14
def s_X2_size (a : Nat) (p0 : Int32) (S : HS) : Int32 :=
  p0 &&& ((gI S 204 a) - 1)
set_option maxRecDepth 100000 in
set_option maxHeartbeats 4000000 in
theorem c_X2_size {l : Launch} {V : EV} {G : GS} {S : HS} {a : Nat} {p0 : Int32} {r : Int32} (hN : G.1.Nodup) (hW : WT G S) (h_a : a ∈ G.1) (k_a : G.2.1 a = 2) (hf : s_X2_size a p0 S = r) : MetI l yX2_size cX2_size 2 .int 0 0 V G S [.ref a, .int p0] r S := by
  intro sz
  refine x_in RX2 rfl (by decide +kernel) hN (Nat.le_of_ble_eq_true rfl) (fun p e s m args below meth c ls hsz hargs hnm C hP hS hl => ?_)
  subst hsz
  have hx := C.1
  have hb := C.2.1
  have hl : lv_has ls 2 [(0, .ref a), (1, .int p0)] := hl
  unfold s_X2_size at hf
  refine lv_iload_n hx hb dX2_size_0 rfl (lv_at hl 1 rfl) ?_
  refine lv_aload_n hx hb dX2_size_1 rfl (lv_at hl 0 rfl) ?_
  refine gf_X2_24 C hP h_a k_a dX2_size_2 ?_
  refine lv_iconst (v := 1) hx hb dX2_size_5 rfl ?_
  refine lv_isub hx hb dX2_size_6 ?_
  refine lv_iand hx hb dX2_size_7 ?_
  cases hf
  exact x_reti C hP hS hW dX2_size_8
def s_X2_isNan (a : Nat) (p0 : Int32) (S : HS) : Int32 :=
  if (s_X2_size a p0 S) ≤ (gI S 205 a) then
  0
  else
  1
set_option maxRecDepth 100000 in
set_option maxHeartbeats 4000000 in
theorem c_X2_isNan {l : Launch} {V : EV} {G : GS} {S : HS} {a : Nat} {p0 : Int32} {r : Int32} (hN : G.1.Nodup) (hW : WT G S) (h_a : a ∈ G.1) (k_a : G.2.1 a = 2) (hf : s_X2_isNan a p0 S = r) : MetZ l yX2_isNan cX2_isNan 2 1 21 V G S [.ref a, .int p0] r S := by
  intro sz
  refine x_in RX2 rfl (by decide +kernel) hN (Nat.le_of_ble_eq_true rfl) (fun p e s m args below meth c ls hsz hargs hnm C hP hS hl => ?_)
  subst hsz
  have hx := C.1
  have hb := C.2.1
  have hl : lv_has ls 2 [(0, .ref a), (1, .int p0)] := hl
  unfold s_X2_isNan at hf
  refine lv_aload_n hx hb dX2_isNan_0 rfl (lv_at hl 0 rfl) ?_
  refine lv_iload_n hx hb dX2_isNan_1 rfl (lv_at hl 1 rfl) ?_
  refine x_aft_i (x_runV (As := [.int p0]) (rest := []) C hP hS (c_X2_size (l := l) C.2.2.2.2.2.2.2.2.2.1 hW h_a k_a rfl H.size) h_a k_a (by decide) rfl rfl km_X2_size ki_X2_size qm_X2_36 ⟨(Nat.le_of_ble_eq_true rfl), (Nat.le_of_ble_eq_true rfl)⟩ rfl hl.1 rfl (Nat.le_of_ble_eq_true rfl) ⟨Nat.zero_le _, Nat.zero_le _⟩ dX2_isNan_2) hS (fun H locs hP hS hW => ?_)
  refine lv_aload_n hx hb dX2_isNan_5 rfl (lv_at hl 0 rfl) ?_
  refine gf_X2_27 C hP h_a k_a dX2_isNan_6 ?_
  refine lv_icmp_le (tgt := 16) hx hb dX2_isNan_9 (by decide) (fun c1 => ?_) (fun c1 => ?_)
  · have hf := if_t c1 hf
    refine lv_iconst (v := 0) hx hb dX2_isNan_16 rfl ?_
    cases hf
    exact x_retZ C hP hS hW isZ_0 dX2_isNan_17
  · have hf := if_f c1 hf
    refine lv_iconst (v := 1) hx hb dX2_isNan_12 rfl ?_
    refine lv_goto (tgt := 17) hx hb dX2_isNan_13 (by decide) ?_
    cases hf
    exact x_retZ C hP hS hW isZ_1 dX2_isNan_17
def s_X2_isInfinite (a : Nat) (p0 : Int32) (S : HS) : Int32 :=
  if ¬ (s_X2_size a p0 S) = (gI S 205 a) then
  0
  else
  1
set_option maxRecDepth 100000 in
set_option maxHeartbeats 4000000 in
theorem c_X2_isInfinite {l : Launch} {V : EV} {G : GS} {S : HS} {a : Nat} {p0 : Int32} {r : Int32} (hN : G.1.Nodup) (hW : WT G S) (h_a : a ∈ G.1) (k_a : G.2.1 a = 2) (hf : s_X2_isInfinite a p0 S = r) : MetZ l yX2_isInfinite cX2_isInfinite 2 1 21 V G S [.ref a, .int p0] r S := by
  intro sz
  refine x_in RX2 rfl (by decide +kernel) hN (Nat.le_of_ble_eq_true rfl) (fun p e s m args below meth c ls hsz hargs hnm C hP hS hl => ?_)
  subst hsz
  have hx := C.1
  have hb := C.2.1
  have hl : lv_has ls 2 [(0, .ref a), (1, .int p0)] := hl
  unfold s_X2_isInfinite at hf
  refine lv_aload_n hx hb dX2_isInfinite_0 rfl (lv_at hl 0 rfl) ?_
  refine lv_iload_n hx hb dX2_isInfinite_1 rfl (lv_at hl 1 rfl) ?_
  refine x_aft_i (x_runV (As := [.int p0]) (rest := []) C hP hS (c_X2_size (l := l) C.2.2.2.2.2.2.2.2.2.1 hW h_a k_a rfl H.size) h_a k_a (by decide) rfl rfl km_X2_size ki_X2_size qm_X2_36 ⟨(Nat.le_of_ble_eq_true rfl), (Nat.le_of_ble_eq_true rfl)⟩ rfl hl.1 rfl (Nat.le_of_ble_eq_true rfl) ⟨Nat.zero_le _, Nat.zero_le _⟩ dX2_isInfinite_2) hS (fun H locs hP hS hW => ?_)
  refine lv_aload_n hx hb dX2_isInfinite_5 rfl (lv_at hl 0 rfl) ?_
  refine gf_X2_27 C hP h_a k_a dX2_isInfinite_6 ?_
  refine lv_icmp_ne (tgt := 16) hx hb dX2_isInfinite_9 (by decide) (fun c1 => ?_) (fun c1 => ?_)
  · have hf := if_t c1 hf
    refine lv_iconst (v := 0) hx hb dX2_isInfinite_16 rfl ?_
    cases hf
    exact x_retZ C hP hS hW isZ_0 dX2_isInfinite_17
  · have hf := if_f c1 hf
    refine lv_iconst (v := 1) hx hb dX2_isInfinite_12 rfl ?_
    refine lv_goto (tgt := 17) hx hb dX2_isInfinite_13 (by decide) ?_
    cases hf
    exact x_retZ C hP hS hW isZ_1 dX2_isInfinite_17
def s_X2_exponent (a : Nat) (p0 : Int32) (S : HS) : Int32 :=
  (s_X2_size a p0 S) >>> ((gI S 202 a) &&& 31)
set_option maxRecDepth 100000 in
set_option maxHeartbeats 4000000 in
theorem c_X2_exponent {l : Launch} {V : EV} {G : GS} {S : HS} {a : Nat} {p0 : Int32} {r : Int32} (hN : G.1.Nodup) (hW : WT G S) (h_a : a ∈ G.1) (k_a : G.2.1 a = 2) (hf : s_X2_exponent a p0 S = r) : MetI l yX2_exponent cX2_exponent 2 .int 1 21 V G S [.ref a, .int p0] r S := by
  intro sz
  refine x_in RX2 rfl (by decide +kernel) hN (Nat.le_of_ble_eq_true rfl) (fun p e s m args below meth c ls hsz hargs hnm C hP hS hl => ?_)
  subst hsz
  have hx := C.1
  have hb := C.2.1
  have hl : lv_has ls 2 [(0, .ref a), (1, .int p0)] := hl
  unfold s_X2_exponent at hf
  refine lv_aload_n hx hb dX2_exponent_0 rfl (lv_at hl 0 rfl) ?_
  refine lv_iload_n hx hb dX2_exponent_1 rfl (lv_at hl 1 rfl) ?_
  refine x_aft_i (x_runV (As := [.int p0]) (rest := []) C hP hS (c_X2_size (l := l) C.2.2.2.2.2.2.2.2.2.1 hW h_a k_a rfl H.size) h_a k_a (by decide) rfl rfl km_X2_size ki_X2_size qm_X2_36 ⟨(Nat.le_of_ble_eq_true rfl), (Nat.le_of_ble_eq_true rfl)⟩ rfl hl.1 rfl (Nat.le_of_ble_eq_true rfl) ⟨Nat.zero_le _, Nat.zero_le _⟩ dX2_exponent_2) hS (fun H locs hP hS hW => ?_)
  refine lv_aload_n hx hb dX2_exponent_5 rfl (lv_at hl 0 rfl) ?_
  refine gf_X2_18 C hP h_a k_a dX2_exponent_6 ?_
  refine lv_ishr hx hb dX2_exponent_9 ?_
  cases hf
  exact x_reti C hP hS hW dX2_exponent_10
def s_X2_isNought (a : Nat) (p0 : Int32) (S : HS) : Int32 :=
  if ¬ (s_X2_size a p0 S) = (0 : Int32) then
  0
  else
  1
set_option maxRecDepth 100000 in
set_option maxHeartbeats 4000000 in
theorem c_X2_isNought {l : Launch} {V : EV} {G : GS} {S : HS} {a : Nat} {p0 : Int32} {r : Int32} (hN : G.1.Nodup) (hW : WT G S) (h_a : a ∈ G.1) (k_a : G.2.1 a = 2) (hf : s_X2_isNought a p0 S = r) : MetZ l yX2_isNought cX2_isNought 2 1 21 V G S [.ref a, .int p0] r S := by
  intro sz
  refine x_in RX2 rfl (by decide +kernel) hN (Nat.le_of_ble_eq_true rfl) (fun p e s m args below meth c ls hsz hargs hnm C hP hS hl => ?_)
  subst hsz
  have hx := C.1
  have hb := C.2.1
  have hl : lv_has ls 2 [(0, .ref a), (1, .int p0)] := hl
  unfold s_X2_isNought at hf
  refine lv_aload_n hx hb dX2_isNought_0 rfl (lv_at hl 0 rfl) ?_
  refine lv_iload_n hx hb dX2_isNought_1 rfl (lv_at hl 1 rfl) ?_
  refine x_aft_i (x_runV (As := [.int p0]) (rest := []) C hP hS (c_X2_size (l := l) C.2.2.2.2.2.2.2.2.2.1 hW h_a k_a rfl H.size) h_a k_a (by decide) rfl rfl km_X2_size ki_X2_size qm_X2_36 ⟨(Nat.le_of_ble_eq_true rfl), (Nat.le_of_ble_eq_true rfl)⟩ rfl hl.1 rfl (Nat.le_of_ble_eq_true rfl) ⟨Nat.zero_le _, Nat.zero_le _⟩ dX2_isNought_2) hS (fun H locs hP hS hW => ?_)
  refine lv_if_ne (tgt := 12) hx hb dX2_isNought_5 (by decide) (fun c1 => ?_) (fun c1 => ?_)
  · have hf := if_t c1 hf
    refine lv_iconst (v := 0) hx hb dX2_isNought_12 rfl ?_
    cases hf
    exact x_retZ C hP hS hW isZ_0 dX2_isNought_13
  · have hf := if_f c1 hf
    refine lv_iconst (v := 1) hx hb dX2_isNought_8 rfl ?_
    refine lv_goto (tgt := 13) hx hb dX2_isNought_9 (by decide) ?_
    cases hf
    exact x_retZ C hP hS hW isZ_1 dX2_isNought_13
def s_X2_isSubnormal (a : Nat) (p0 : Int32) (S : HS) : Int32 :=
  if ¬ (s_X2_isNought a p0 S) = (0 : Int32) then
  0
  else
  if ¬ (s_X2_exponent a p0 S) = (0 : Int32) then
  0
  else
  1
set_option maxRecDepth 100000 in
set_option maxHeartbeats 4000000 in
theorem c_X2_isSubnormal {l : Launch} {V : EV} {G : GS} {S : HS} {a : Nat} {p0 : Int32} {r : Int32} (hN : G.1.Nodup) (hW : WT G S) (h_a : a ∈ G.1) (k_a : G.2.1 a = 2) (hf : s_X2_isSubnormal a p0 S = r) : MetZ l yX2_isSubnormal cX2_isSubnormal 2 2 42 V G S [.ref a, .int p0] r S := by
  intro sz
  refine x_in RX2 rfl (by decide +kernel) hN (Nat.le_of_ble_eq_true rfl) (fun p e s m args below meth c ls hsz hargs hnm C hP hS hl => ?_)
  subst hsz
  have hx := C.1
  have hb := C.2.1
  have hl : lv_has ls 2 [(0, .ref a), (1, .int p0)] := hl
  unfold s_X2_isSubnormal at hf
  refine lv_aload_n hx hb dX2_isSubnormal_0 rfl (lv_at hl 0 rfl) ?_
  refine lv_iload_n hx hb dX2_isSubnormal_1 rfl (lv_at hl 1 rfl) ?_
  refine x_aft_z (x_runV (As := [.int p0]) (rest := []) C hP hS (c_X2_isNought (l := l) C.2.2.2.2.2.2.2.2.2.1 hW h_a k_a rfl H.size) h_a k_a (by decide) rfl rfl km_X2_isNought ki_X2_isNought qm_X2_40 ⟨(Nat.le_of_ble_eq_true rfl), (Nat.le_of_ble_eq_true rfl)⟩ rfl hl.1 rfl (Nat.le_of_ble_eq_true rfl) ⟨Nat.zero_le _, Nat.zero_le _⟩ dX2_isSubnormal_2) hS (fun H locs hP hS hW z1 => ?_)
  refine lv_if_ne (tgt := 20) hx hb dX2_isSubnormal_5 (by decide) (fun c2 => ?_) (fun c2 => ?_)
  · have hf := if_t c2 hf
    refine lv_iconst (v := 0) hx hb dX2_isSubnormal_20 rfl ?_
    cases hf
    exact x_retZ C hP hS hW isZ_0 dX2_isSubnormal_21
  · have hf := if_f c2 hf
    refine lv_aload_n hx hb dX2_isSubnormal_8 rfl (lv_at hl 0 rfl) ?_
    refine lv_iload_n hx hb dX2_isSubnormal_9 rfl (lv_at hl 1 rfl) ?_
    refine x_aft_i (x_runV (As := [.int p0]) (rest := []) C hP hS (c_X2_exponent (l := l) C.2.2.2.2.2.2.2.2.2.1 hW h_a k_a rfl H.size) h_a k_a (by decide) rfl rfl km_X2_exponent ki_X2_exponent qm_X2_44 ⟨(Nat.le_of_ble_eq_true rfl), (Nat.le_of_ble_eq_true rfl)⟩ rfl hl.1 rfl (Nat.le_of_ble_eq_true rfl) ⟨Nat.zero_le _, Nat.zero_le _⟩ dX2_isSubnormal_10) hS (fun H locs hP hS hW => ?_)
    refine lv_if_ne (tgt := 20) hx hb dX2_isSubnormal_13 (by decide) (fun c3 => ?_) (fun c3 => ?_)
    · have hf := if_t c3 hf
      refine lv_iconst (v := 0) hx hb dX2_isSubnormal_20 rfl ?_
      cases hf
      exact x_retZ C hP hS hW isZ_0 dX2_isSubnormal_21
    · have hf := if_f c3 hf
      refine lv_iconst (v := 1) hx hb dX2_isSubnormal_16 rfl ?_
      refine lv_goto (tgt := 21) hx hb dX2_isSubnormal_17 (by decide) ?_
      cases hf
      exact x_retZ C hP hS hW isZ_1 dX2_isSubnormal_21
def s_X2_classOf (a : Nat) (p0 : Int32) (S : HS) : Int32 :=
  if (s_X2_isNought a p0 S) = (0 : Int32) then
  if (s_X2_isSubnormal a p0 S) = (0 : Int32) then
  if (s_X2_isNan a p0 S) = (0 : Int32) then
  if (s_X2_isInfinite a p0 S) = (0 : Int32) then
  2
  else
  3
  else
  4
  else
  1
  else
  0
set_option maxRecDepth 100000 in
set_option maxHeartbeats 4000000 in
theorem c_X2_classOf {l : Launch} {V : EV} {G : GS} {S : HS} {a : Nat} {p0 : Int32} {r : Int32} (hN : G.1.Nodup) (hW : WT G S) (h_a : a ∈ G.1) (k_a : G.2.1 a = 2) (hf : s_X2_classOf a p0 S = r) : MetI l yX2_classOf cX2_classOf 2 .int 3 63 V G S [.ref a, .int p0] r S := by
  intro sz
  refine x_in RX2 rfl (by decide +kernel) hN (Nat.le_of_ble_eq_true rfl) (fun p e s m args below meth c ls hsz hargs hnm C hP hS hl => ?_)
  subst hsz
  have hx := C.1
  have hb := C.2.1
  have hl : lv_has ls 2 [(0, .ref a), (1, .int p0)] := hl
  unfold s_X2_classOf at hf
  refine lv_aload_n hx hb dX2_classOf_0 rfl (lv_at hl 0 rfl) ?_
  refine lv_iload_n hx hb dX2_classOf_1 rfl (lv_at hl 1 rfl) ?_
  refine x_aft_z (x_runV (As := [.int p0]) (rest := []) C hP hS (c_X2_isNought (l := l) C.2.2.2.2.2.2.2.2.2.1 hW h_a k_a rfl H.size) h_a k_a (by decide) rfl rfl km_X2_isNought ki_X2_isNought qm_X2_40 ⟨(Nat.le_of_ble_eq_true rfl), (Nat.le_of_ble_eq_true rfl)⟩ rfl hl.1 rfl (Nat.le_of_ble_eq_true rfl) ⟨Nat.zero_le _, Nat.zero_le _⟩ dX2_classOf_2) hS (fun H locs hP hS hW z1 => ?_)
  refine lv_if_eq (tgt := 10) hx hb dX2_classOf_5 (by decide) (fun c2 => ?_) (fun c2 => ?_)
  · have hf := if_t c2 hf
    refine lv_aload_n hx hb dX2_classOf_10 rfl (lv_at hl 0 rfl) ?_
    refine lv_iload_n hx hb dX2_classOf_11 rfl (lv_at hl 1 rfl) ?_
    refine x_aft_z (x_runV (As := [.int p0]) (rest := []) C hP hS (c_X2_isSubnormal (l := l) C.2.2.2.2.2.2.2.2.2.1 hW h_a k_a rfl H.size) h_a k_a (by decide) rfl rfl km_X2_isSubnormal ki_X2_isSubnormal qm_X2_47 ⟨(Nat.le_of_ble_eq_true rfl), (Nat.le_of_ble_eq_true rfl)⟩ rfl hl.1 rfl (Nat.le_of_ble_eq_true rfl) ⟨Nat.zero_le _, Nat.zero_le _⟩ dX2_classOf_12) hS (fun H locs hP hS hW z3 => ?_)
    refine lv_if_eq (tgt := 20) hx hb dX2_classOf_15 (by decide) (fun c4 => ?_) (fun c4 => ?_)
    · have hf := if_t c4 hf
      refine lv_aload_n hx hb dX2_classOf_20 rfl (lv_at hl 0 rfl) ?_
      refine lv_iload_n hx hb dX2_classOf_21 rfl (lv_at hl 1 rfl) ?_
      refine x_aft_z (x_runV (As := [.int p0]) (rest := []) C hP hS (c_X2_isNan (l := l) C.2.2.2.2.2.2.2.2.2.1 hW h_a k_a rfl H.size) h_a k_a (by decide) rfl rfl km_X2_isNan ki_X2_isNan qm_X2_50 ⟨(Nat.le_of_ble_eq_true rfl), (Nat.le_of_ble_eq_true rfl)⟩ rfl hl.1 rfl (Nat.le_of_ble_eq_true rfl) ⟨Nat.zero_le _, Nat.zero_le _⟩ dX2_classOf_22) hS (fun H locs hP hS hW z5 => ?_)
      refine lv_if_eq (tgt := 30) hx hb dX2_classOf_25 (by decide) (fun c6 => ?_) (fun c6 => ?_)
      · have hf := if_t c6 hf
        refine lv_aload_n hx hb dX2_classOf_30 rfl (lv_at hl 0 rfl) ?_
        refine lv_iload_n hx hb dX2_classOf_31 rfl (lv_at hl 1 rfl) ?_
        refine x_aft_z (x_runV (As := [.int p0]) (rest := []) C hP hS (c_X2_isInfinite (l := l) C.2.2.2.2.2.2.2.2.2.1 hW h_a k_a rfl H.size) h_a k_a (by decide) rfl rfl km_X2_isInfinite ki_X2_isInfinite qm_X2_53 ⟨(Nat.le_of_ble_eq_true rfl), (Nat.le_of_ble_eq_true rfl)⟩ rfl hl.1 rfl (Nat.le_of_ble_eq_true rfl) ⟨Nat.zero_le _, Nat.zero_le _⟩ dX2_classOf_32) hS (fun H locs hP hS hW z7 => ?_)
        refine lv_if_eq (tgt := 42) hx hb dX2_classOf_35 (by decide) (fun c8 => ?_) (fun c8 => ?_)
        · have hf := if_t c8 hf
          refine lv_iconst (v := 2) hx hb dX2_classOf_42 rfl ?_
          cases hf
          exact x_reti C hP hS hW dX2_classOf_43
        · have hf := if_f c8 hf
          refine lv_iconst (v := 3) hx hb dX2_classOf_38 rfl ?_
          refine lv_goto (tgt := 43) hx hb dX2_classOf_39 (by decide) ?_
          cases hf
          exact x_reti C hP hS hW dX2_classOf_43
      · have hf := if_f c6 hf
        refine lv_iconst (v := 4) hx hb dX2_classOf_28 rfl ?_
        cases hf
        exact x_reti C hP hS hW dX2_classOf_29
    · have hf := if_f c4 hf
      refine lv_iconst (v := 1) hx hb dX2_classOf_18 rfl ?_
      cases hf
      exact x_reti C hP hS hW dX2_classOf_19
  · have hf := if_f c2 hf
    refine lv_iconst (v := 0) hx hb dX2_classOf_8 rfl ?_
    cases hf
    exact x_reti C hP hS hW dX2_classOf_9
def s_X2_rank (a : Nat) (p0 : Int32) (S : HS) : Int32 :=
  if (s_X2_isMinus a p0 S) = (0 : Int32) then
  s_X2_size a p0 S
  else
  -(s_X2_size a p0 S)
set_option maxRecDepth 100000 in
set_option maxHeartbeats 4000000 in
theorem c_X2_rank {l : Launch} {V : EV} {G : GS} {S : HS} {a : Nat} {p0 : Int32} {r : Int32} (hN : G.1.Nodup) (hW : WT G S) (h_a : a ∈ G.1) (k_a : G.2.1 a = 2) (hf : s_X2_rank a p0 S = r) : MetI l yX2_rank cX2_rank 2 .int 1 21 V G S [.ref a, .int p0] r S := by
  intro sz
  refine x_in RX2 rfl (by decide +kernel) hN (Nat.le_of_ble_eq_true rfl) (fun p e s m args below meth c ls hsz hargs hnm C hP hS hl => ?_)
  subst hsz
  have hx := C.1
  have hb := C.2.1
  have hl : lv_has ls 2 [(0, .ref a), (1, .int p0)] := hl
  unfold s_X2_rank at hf
  refine lv_aload_n hx hb dX2_rank_0 rfl (lv_at hl 0 rfl) ?_
  refine lv_iload_n hx hb dX2_rank_1 rfl (lv_at hl 1 rfl) ?_
  refine x_aft_z (x_runV (As := [.int p0]) (rest := []) C hP hS (c_X2_isMinus (l := l) C.2.2.2.2.2.2.2.2.2.1 hW h_a k_a rfl H.size) h_a k_a (by decide) rfl rfl km_X2_isMinus ki_X2_isMinus qm_X2_68 ⟨(Nat.le_of_ble_eq_true rfl), (Nat.le_of_ble_eq_true rfl)⟩ rfl hl.1 rfl (Nat.le_of_ble_eq_true rfl) ⟨Nat.zero_le _, Nat.zero_le _⟩ dX2_rank_2) hS (fun H locs hP hS hW z1 => ?_)
  refine lv_if_eq (tgt := 17) hx hb dX2_rank_5 (by decide) (fun c2 => ?_) (fun c2 => ?_)
  · have hf := if_t c2 hf
    refine lv_aload_n hx hb dX2_rank_17 rfl (lv_at hl 0 rfl) ?_
    refine lv_iload_n hx hb dX2_rank_18 rfl (lv_at hl 1 rfl) ?_
    refine x_aft_i (x_runV (As := [.int p0]) (rest := []) C hP hS (c_X2_size (l := l) C.2.2.2.2.2.2.2.2.2.1 hW h_a k_a rfl H.size) h_a k_a (by decide) rfl rfl km_X2_size ki_X2_size qm_X2_36 ⟨(Nat.le_of_ble_eq_true rfl), (Nat.le_of_ble_eq_true rfl)⟩ rfl hl.1 rfl (Nat.le_of_ble_eq_true rfl) ⟨Nat.zero_le _, Nat.zero_le _⟩ dX2_rank_19) hS (fun H locs hP hS hW => ?_)
    cases hf
    exact x_reti C hP hS hW dX2_rank_22
  · have hf := if_f c2 hf
    refine lv_aload_n hx hb dX2_rank_8 rfl (lv_at hl 0 rfl) ?_
    refine lv_iload_n hx hb dX2_rank_9 rfl (lv_at hl 1 rfl) ?_
    refine x_aft_i (x_runV (As := [.int p0]) (rest := []) C hP hS (c_X2_size (l := l) C.2.2.2.2.2.2.2.2.2.1 hW h_a k_a rfl H.size) h_a k_a (by decide) rfl rfl km_X2_size ki_X2_size qm_X2_36 ⟨(Nat.le_of_ble_eq_true rfl), (Nat.le_of_ble_eq_true rfl)⟩ rfl hl.1 rfl (Nat.le_of_ble_eq_true rfl) ⟨Nat.zero_le _, Nat.zero_le _⟩ dX2_rank_10) hS (fun H locs hP hS hW => ?_)
    refine lv_ineg hx hb dX2_rank_13 ?_
    refine lv_goto (tgt := 22) hx hb dX2_rank_14 (by decide) ?_
    cases hf
    exact x_reti C hP hS hW dX2_rank_22
def s_X8_takeBytes_J89 (N : Nat → Nat) (F : Nat) (k3 : Nat → Int64 → Int32 → HS → Option HS) (v0 : Nat) (v1 : Int64) (v3 : Int32) (S : HS) : Option HS :=
  bnd (v3 + Int32.ofInt (-8) : Int32) fun x5 =>
  k3 v0 v1 x5 S
def s_X8_takeBytes_J43 (N : Nat → Nat) (F : Nat) (k3 : Nat → Int64 → Int32 → HS → Option HS) (v0 : Nat) (v1 : Int64) (v3 : Int32) (v4 : Int32) (w0 : Int32) (S : HS) : Option HS :=
  if w0 = (0 : Int32) then
  s_X8_takeBytes_J89 N F k3 v0 v1 v3 S
  else
  if (gI S 801 v0) < (0 : Int32) then
  s_X8_takeBytes_J89 N F k3 v0 v1 v3 S
  else
  if (1000 : Int32) ≤ (gI S 801 v0) then
  s_X8_takeBytes_J89 N F k3 v0 v1 v3 S
  else
  bd1 (gR S 800 v0) fun t8 =>
  if inB (gI S 801 v0) (N t8) = true then
  bnd (wI S t8 ((gI S 801 v0).toNatClampNeg) (vp_nar .char ((v4.toUInt32 % 65536).toInt32))) fun S10 =>
  bnd (uI S10 801 v0 ((gI S10 801 v0) + 1)) fun S11 =>
  s_X8_takeBytes_J89 N F k3 v0 v1 v3 S11
  else none
def s_X8_takeBytes_L3 (N : Nat → Nat) (F : Nat) : Nat → Nat → Int64 → Int32 → HS → Option HS
  | 0, _, _, _, _ => none
  | n + 1, v0, v1, v3, S => if v3 < (0 : Int32) then
  some S
  else
  bnd ((((v1.toUInt64 >>> (v3.toInt64.toUInt64 &&& Int64.toUInt64 63)).toInt64).toInt32) &&& 255 : Int32) fun x2 =>
  if x2 = (10 : Int32) then
  s_X8_takeBytes_J43 N F (s_X8_takeBytes_L3 N F n) v0 v1 v3 x2 1 S
  else
  if x2 < (32 : Int32) then
  s_X8_takeBytes_J43 N F (s_X8_takeBytes_L3 N F n) v0 v1 v3 x2 0 S
  else
  if (126 : Int32) < x2 then
  s_X8_takeBytes_J43 N F (s_X8_takeBytes_L3 N F n) v0 v1 v3 x2 0 S
  else
  s_X8_takeBytes_J43 N F (s_X8_takeBytes_L3 N F n) v0 v1 v3 x2 1 S
def s_X8_takeBytes (N : Nat → Nat) (F : Nat) (a : Nat) (p0 : Int64) (S : HS) : Option HS :=
  s_X8_takeBytes_L3 N F F a p0 56 S
set_option maxRecDepth 100000 in
set_option maxHeartbeats 4000000 in
theorem b_X8_takeBytes_89 {p : Program} {l : Launch} {e : Env} {s : State} {m : MethodId} {args : Array Value} {below : List Frame} {meth : Method} {c : Code} {V : EV} {G : GS} {S' : HS} {F : Nat} (C : CX p s m args meth c RX8 cX8_takeBytes 6 none V G) {k3 : Nat → Int64 → Int32 → HS → Option HS} (hk3 : ∀ (v0 : Nat) (v1 : Int64) (v3 : Int32) (h_v0 : v0 ∈ G.1) (k_v0 : G.2.1 v0 = 8) (S : HS) (H : Heap) (locs : List Loc) (ls : Array Slot), k3 v0 v1 v3 S = some S' → HP V G S H → va_S (AG G s.heap.size) s.heap H locs → WT G S → lv_has ls 6 [(0, .ref v0), (1, .long v1), (3, .int v3)] → W p l e (RM 0 0) s m args below meth c H locs 0 0 (MQ below (QV V G S' s.heap.size) args s 0 0 (AG G s.heap.size)) (F0 m 3 ls [])) : ∀ (v0 : Nat) (v1 : Int64) (v3 : Int32) (h_v0 : v0 ∈ G.1) (k_v0 : G.2.1 v0 = 8) (S : HS) (H : Heap) (locs : List Loc) (ls : Array Slot), s_X8_takeBytes_J89 G.2.2 F k3 v0 v1 v3 S = some S' → HP V G S H → va_S (AG G s.heap.size) s.heap H locs → WT G S → lv_has ls 6 [(0, .ref v0), (1, .long v1), (3, .int v3)] → W p l e (RM 0 0) s m args below meth c H locs 0 0 (MQ below (QV V G S' s.heap.size) args s 0 0 (AG G s.heap.size)) (F0 m 89 ls []) := by
  intro v0 v1 v3 h_v0 k_v0 S H locs ls hf hP hS hW hl
  have hx := C.1
  have hb := C.2.1
  unfold s_X8_takeBytes_J89 at hf
  obtain ⟨x5, ex5, hf⟩ := bnd_e hf
  refine lv_iinc (v := x5) (lv' := [(3, .int x5), (0, .ref v0), (1, .long v1)]) hx hb dX8_takeBytes_89 hl (k := 2) rfl ex5.symm (by decide) rfl (fun ls hl => ?_)
  refine lv_goto (tgt := 3) hx hb dX8_takeBytes_92 (by decide) ?_
  exact hk3 v0 v1 x5 h_v0 k_v0 S H locs _ hf hP hS hW (lv_sub hl [1, 2, 0] rfl)
set_option maxRecDepth 100000 in
set_option maxHeartbeats 4000000 in
theorem b_X8_takeBytes_43 {p : Program} {l : Launch} {e : Env} {s : State} {m : MethodId} {args : Array Value} {below : List Frame} {meth : Method} {c : Code} {V : EV} {G : GS} {S' : HS} {F : Nat} (C : CX p s m args meth c RX8 cX8_takeBytes 6 none V G) {k3 : Nat → Int64 → Int32 → HS → Option HS} (hk3 : ∀ (v0 : Nat) (v1 : Int64) (v3 : Int32) (h_v0 : v0 ∈ G.1) (k_v0 : G.2.1 v0 = 8) (S : HS) (H : Heap) (locs : List Loc) (ls : Array Slot), k3 v0 v1 v3 S = some S' → HP V G S H → va_S (AG G s.heap.size) s.heap H locs → WT G S → lv_has ls 6 [(0, .ref v0), (1, .long v1), (3, .int v3)] → W p l e (RM 0 0) s m args below meth c H locs 0 0 (MQ below (QV V G S' s.heap.size) args s 0 0 (AG G s.heap.size)) (F0 m 3 ls [])) : ∀ (v0 : Nat) (v1 : Int64) (v3 : Int32) (v4 : Int32) (w0 : Int32) (h_v0 : v0 ∈ G.1) (k_v0 : G.2.1 v0 = 8) (S : HS) (H : Heap) (locs : List Loc) (ls : Array Slot), s_X8_takeBytes_J43 G.2.2 F k3 v0 v1 v3 v4 w0 S = some S' → HP V G S H → va_S (AG G s.heap.size) s.heap H locs → WT G S → lv_has ls 6 [(0, .ref v0), (1, .long v1), (3, .int v3), (4, .int v4)] → W p l e (RM 0 0) s m args below meth c H locs 0 0 (MQ below (QV V G S' s.heap.size) args s 0 0 (AG G s.heap.size)) (F0 m 43 ls [.int w0]) := by
  intro v0 v1 v3 v4 w0 h_v0 k_v0 S H locs ls hf hP hS hW hl
  have hx := C.1
  have hb := C.2.1
  unfold s_X8_takeBytes_J43 at hf
  refine lv_istore (lv' := [(5, .int w0), (0, .ref v0), (1, .long v1), (3, .int v3), (4, .int v4)]) hx hb dX8_takeBytes_43 hl (by decide) rfl (fun ls hl => ?_)
  refine lv_iload hx hb dX8_takeBytes_45 (lv_at hl 0 rfl) ?_
  refine lv_if_eq (tgt := 89) hx hb dX8_takeBytes_47 (by decide) (fun c4 => ?_) (fun c4 => ?_)
  · have hf := if_t c4 hf
    exact b_X8_takeBytes_89 C hk3 v0 v1 v3 h_v0 k_v0 S H locs _ hf hP hS hW (lv_sub hl [1, 2, 3] rfl)
  · have hf := if_f c4 hf
    refine lv_aload_n hx hb dX8_takeBytes_50 rfl (lv_at hl 1 rfl) ?_
    refine gf_X8_15 C hP h_v0 k_v0 dX8_takeBytes_51 ?_
    refine lv_if_lt (tgt := 89) hx hb dX8_takeBytes_54 (by decide) (fun c6 => ?_) (fun c6 => ?_)
    · have hf := if_t c6 hf
      exact b_X8_takeBytes_89 C hk3 v0 v1 v3 h_v0 k_v0 S H locs _ hf hP hS hW (lv_sub hl [1, 2, 3] rfl)
    · have hf := if_f c6 hf
      refine lv_aload_n hx hb dX8_takeBytes_57 rfl (lv_at hl 1 rfl) ?_
      refine gf_X8_15 C hP h_v0 k_v0 dX8_takeBytes_58 ?_
      refine lv_sipush (v := 1000) hx hb dX8_takeBytes_61 kc_sipush_1000 ?_
      refine lv_icmp_ge (tgt := 89) hx hb dX8_takeBytes_64 (by decide) (fun c7 => ?_) (fun c7 => ?_)
      · have hf := if_t c7 hf
        exact b_X8_takeBytes_89 C hk3 v0 v1 v3 h_v0 k_v0 S H locs _ hf hP hS hW (lv_sub hl [1, 2, 3] rfl)
      · have hf := if_f c7 hf
        refine lv_aload_n hx hb dX8_takeBytes_67 rfl (lv_at hl 1 rfl) ?_
        refine gf_X8_9 C hP h_v0 k_v0 dX8_takeBytes_68 ?_
        obtain ⟨t8, et8, hf⟩ := bd1_e hf
        obtain ⟨h_t8, k_t8⟩ := wt_r hW h_v0 k_v0 (by decide) et8
        have k_t8 : G.2.1 t8 = 13 := k_t8
        rw [et8]
        refine lv_aload_n hx hb dX8_takeBytes_71 rfl (lv_at hl 1 rfl) ?_
        refine gf_X8_15 C hP h_v0 k_v0 dX8_takeBytes_72 ?_
        refine lv_iload hx hb dX8_takeBytes_75 (lv_at hl 4 rfl) ?_
        refine lv_i2c hx hb dX8_takeBytes_77 rfl ?_
        obtain ⟨h9, hf⟩ := if_s hf
        obtain ⟨S10, eS10, hf⟩ := bnd_e hf
        refine x_cast C hP hS h_t8 k_t8 h9 eS10 dX8_takeBytes_78 (fun H locs hP hS => ?_)
        have hW : WT G S10 := by rw [eS10]; exact hW
        refine lv_aload_n hx hb dX8_takeBytes_79 rfl (lv_at hl 1 rfl) ?_
        refine lv_dup hx hb dX8_takeBytes_80 rfl ?_
        refine gf_X8_15 C hP h_v0 k_v0 dX8_takeBytes_81 ?_
        refine lv_iconst (v := 1) hx hb dX8_takeBytes_84 rfl ?_
        refine lv_iadd hx hb dX8_takeBytes_85 ?_
        obtain ⟨S11, eS11, hf⟩ := bnd_e hf
        refine pf_X8_15 C hP hS h_v0 k_v0 eS11 dX8_takeBytes_86 (fun H locs hP hS => ?_)
        have hW : WT G S11 := by rw [eS11]; exact hW
        exact b_X8_takeBytes_89 C hk3 v0 v1 v3 h_v0 k_v0 S11 H locs _ hf hP hS hW (lv_sub hl [1, 2, 3] rfl)
set_option maxRecDepth 100000 in
set_option maxHeartbeats 4000000 in
theorem b_X8_takeBytes_3 {p : Program} {l : Launch} {e : Env} {s : State} {m : MethodId} {args : Array Value} {below : List Frame} {meth : Method} {c : Code} {V : EV} {G : GS} {S' : HS} {F : Nat} (C : CX p s m args meth c RX8 cX8_takeBytes 6 none V G) : ∀ n : Nat, ∀ (v0 : Nat) (v1 : Int64) (v3 : Int32) (h_v0 : v0 ∈ G.1) (k_v0 : G.2.1 v0 = 8) (S : HS) (H : Heap) (locs : List Loc) (ls : Array Slot), s_X8_takeBytes_L3 G.2.2 F n v0 v1 v3 S = some S' → HP V G S H → va_S (AG G s.heap.size) s.heap H locs → WT G S → lv_has ls 6 [(0, .ref v0), (1, .long v1), (3, .int v3)] → W p l e (RM 0 0) s m args below meth c H locs 0 0 (MQ below (QV V G S' s.heap.size) args s 0 0 (AG G s.heap.size)) (F0 m 3 ls []) := by
  intro n
  induction n with
  | zero =>
    intro v0 v1 v3 h_v0 k_v0 S H locs ls hf
    rw [s_X8_takeBytes_L3] at hf
    cases hf
  | succ n ih =>
    intro v0 v1 v3 h_v0 k_v0 S H locs ls hf hP hS hW hl
    have hx := C.1
    have hb := C.2.1
    rw [s_X8_takeBytes_L3] at hf
    refine lv_iload_n hx hb dX8_takeBytes_3 rfl (lv_at hl 2 rfl) ?_
    refine lv_if_lt (tgt := 95) hx hb dX8_takeBytes_4 (by decide) (fun c1 => ?_) (fun c1 => ?_)
    · have hf := if_t c1 hf
      cases hf
      exact x_retv C hP hS hW dX8_takeBytes_95
    · have hf := if_f c1 hf
      refine lv_lload_n hx hb dX8_takeBytes_7 rfl (lv_at hl 1 rfl) ?_
      refine lv_iload_n hx hb dX8_takeBytes_8 rfl (lv_at hl 2 rfl) ?_
      refine lv_lushr hx hb dX8_takeBytes_9 rfl ?_
      refine lv_l2i hx hb dX8_takeBytes_10 rfl ?_
      refine lv_sipush (v := 255) hx hb dX8_takeBytes_11 kc_sipush_255 ?_
      refine lv_iand hx hb dX8_takeBytes_14 ?_
      obtain ⟨x2, ex2, hf⟩ := bnd_e hf
      refine nm_i ex2 ?_
      refine lv_istore (lv' := [(4, .int x2), (0, .ref v0), (1, .long v1), (3, .int v3)]) hx hb dX8_takeBytes_15 hl (by decide) rfl (fun ls hl => ?_)
      refine lv_iload hx hb dX8_takeBytes_17 (lv_at hl 0 rfl) ?_
      refine lv_bipush (v := 10) hx hb dX8_takeBytes_19 kc_bipush_10 ?_
      refine lv_icmp_eq (tgt := 38) hx hb dX8_takeBytes_21 (by decide) (fun c3 => ?_) (fun c3 => ?_)
      · have hf := if_t c3 hf
        refine lv_iconst (v := 1) hx hb dX8_takeBytes_38 rfl ?_
        refine lv_goto (tgt := 43) hx hb dX8_takeBytes_39 (by decide) ?_
        exact b_X8_takeBytes_43 C ih v0 v1 v3 x2 1 h_v0 k_v0 S H locs _ hf hP hS hW (lv_sub hl [1, 2, 3, 0] rfl)
      · have hf := if_f c3 hf
        refine lv_iload hx hb dX8_takeBytes_24 (lv_at hl 0 rfl) ?_
        refine lv_bipush (v := 32) hx hb dX8_takeBytes_26 kc_bipush_32 ?_
        refine lv_icmp_lt (tgt := 42) hx hb dX8_takeBytes_28 (by decide) (fun c12 => ?_) (fun c12 => ?_)
        · have hf := if_t c12 hf
          refine lv_iconst (v := 0) hx hb dX8_takeBytes_42 rfl ?_
          exact b_X8_takeBytes_43 C ih v0 v1 v3 x2 0 h_v0 k_v0 S H locs _ hf hP hS hW (lv_sub hl [1, 2, 3, 0] rfl)
        · have hf := if_f c12 hf
          refine lv_iload hx hb dX8_takeBytes_31 (lv_at hl 0 rfl) ?_
          refine lv_bipush (v := 126) hx hb dX8_takeBytes_33 kc_bipush_126 ?_
          refine lv_icmp_gt (tgt := 42) hx hb dX8_takeBytes_35 (by decide) (fun c13 => ?_) (fun c13 => ?_)
          · have hf := if_t c13 hf
            refine lv_iconst (v := 0) hx hb dX8_takeBytes_42 rfl ?_
            exact b_X8_takeBytes_43 C ih v0 v1 v3 x2 0 h_v0 k_v0 S H locs _ hf hP hS hW (lv_sub hl [1, 2, 3, 0] rfl)
          · have hf := if_f c13 hf
            refine lv_iconst (v := 1) hx hb dX8_takeBytes_38 rfl ?_
            refine lv_goto (tgt := 43) hx hb dX8_takeBytes_39 (by decide) ?_
            exact b_X8_takeBytes_43 C ih v0 v1 v3 x2 1 h_v0 k_v0 S H locs _ hf hP hS hW (lv_sub hl [1, 2, 3, 0] rfl)
set_option maxRecDepth 100000 in
set_option maxHeartbeats 4000000 in
theorem c_X8_takeBytes {l : Launch} {V : EV} {G : GS} {S : HS} {F : Nat} {a : Nat} {p0 : Int64} {S' : HS} (hN : G.1.Nodup) (hW : WT G S) (h_a : a ∈ G.1) (k_a : G.2.1 a = 8) (hf : s_X8_takeBytes G.2.2 F a p0 S = some S') : MetV l yX8_takeBytes cX8_takeBytes 6 0 0 V G S [.ref a, .long p0] S' := by
  intro sz
  refine x_in RX8 rfl (by decide +kernel) hN (Nat.le_of_ble_eq_true rfl) (fun p e s m args below meth c ls hsz hargs hnm C hP hS hl => ?_)
  subst hsz
  have hx := C.1
  have hb := C.2.1
  have hl : lv_has ls 6 [(0, .ref a), (1, .long p0)] := hl
  unfold s_X8_takeBytes at hf
  refine lv_bipush (v := 56) hx hb dX8_takeBytes_0 kc_bipush_56 ?_
  refine lv_istore_n (lv' := [(3, .int 56), (0, .ref a), (1, .long p0)]) hx hb dX8_takeBytes_2 rfl hl (by decide) rfl (fun ls hl => ?_)
  exact b_X8_takeBytes_3 C F a p0 56 h_a k_a S H locs _ hf hP hS hW (lv_sub hl [1, 2, 0] rfl)
