def s_X12_order (N : Nat → Nat) (a : Nat) (p0 : Int32) (p1 : Int32) (S : HS) : Option (Int32 × HS) :=
  bnd (uI S 1200 a 0) fun S1 =>
  bd1 (s_X12_areBits N a p0 p1 0 S1) fun r2 =>
  if r2 = (0 : Int32) then
  some ((-2), S1)
  else
  bd1 (s_X12_rankOf N a p0 S1) fun r5 =>
  bd1 (s_X12_rankOf N a p1 S1) fun r6 =>
  bd1 (s_X12_used N a S1) fun r7 =>
  bd1 (s_X12_isNan N a r7 p0 S1) fun r8 =>
  if r8 = (0 : Int32) then
  bd1 (s_X12_used N a S1) fun r11 =>
  bd1 (s_X12_isNan N a r11 p1 S1) fun r12 =>
  if r12 = (0 : Int32) then
  if r6 ≤ r5 then
  if r5 ≤ r6 then
  some (0, S1)
  else
  some (1, S1)
  else
  some ((-1), S1)
  else
  some (2, S1)
  else
  some (2, S1)
set_option maxRecDepth 100000 in
set_option maxHeartbeats 4000000 in
theorem c_X12_order {l : Launch} {V : EV} {G : GS} {S : HS} {a : Nat} {p0 : Int32} {p1 : Int32} {r : Int32} {S' : HS} (hN : G.1.Nodup) (hW : WT G S) (h_a : a ∈ G.1) (k_a : G.2.1 a = 12) (hf : s_X12_order G.2.2 a p0 p1 S = some (r, S')) : MetI l yX12_order cX12_order 5 .int 6 180 V G S [.ref a, .int p0, .int p1] r S' := by
  intro sz
  refine x_in RX12 rfl (by decide +kernel) hN (Nat.le_of_ble_eq_true rfl) (fun p e s m args below meth c ls hsz hargs hnm C hP hS hl => ?_)
  subst hsz
  have hx := C.1
  have hb := C.2.1
  have hl : lv_has ls 5 [(0, .ref a), (1, .int p0), (2, .int p1)] := hl
  unfold s_X12_order at hf
  refine lv_aload_n hx hb dX12_order_0 rfl (lv_at hl 0 rfl) ?_
  refine lv_iconst (v := 0) hx hb dX12_order_1 rfl ?_
  obtain ⟨S1, eS1, hf⟩ := bnd_e hf
  refine pf_X12_1 C hP hS h_a k_a eS1 dX12_order_2 (fun H locs hP hS => ?_)
  have hW : WT G S1 := by rw [eS1]; exact hW
  refine lv_aload_n hx hb dX12_order_5 rfl (lv_at hl 0 rfl) ?_
  refine lv_iload_n hx hb dX12_order_6 rfl (lv_at hl 1 rfl) ?_
  refine lv_iload_n hx hb dX12_order_7 rfl (lv_at hl 2 rfl) ?_
  refine lv_iconst (v := 0) hx hb dX12_order_8 rfl ?_
  obtain ⟨r2, er2, hf⟩ := bd1_e hf
  refine x_aft_z (x_runV (As := [.int p0, .int p1, .int 0]) (rest := []) C hP hS (c_X12_areBits (l := l) C.2.2.2.2.2.2.2.2.2.1 hW h_a k_a er2 H.size) h_a k_a (by decide) rfl rfl km_X12_areBits ki_X12_areBits qm_X12_403 ⟨(Nat.le_of_ble_eq_true rfl), (Nat.le_of_ble_eq_true rfl)⟩ rfl hl.1 rfl (Nat.le_of_ble_eq_true rfl) ⟨Nat.zero_le _, Nat.zero_le _⟩ dX12_order_9) hS (fun H locs hP hS hW z3 => ?_)
  refine lv_if_ne (tgt := 18) hx hb dX12_order_12 (by decide) (fun c4 => ?_) (fun c4 => ?_)
  · have hf := if_f c4 hf
    refine lv_aload_n hx hb dX12_order_18 rfl (lv_at hl 0 rfl) ?_
    refine lv_iload_n hx hb dX12_order_19 rfl (lv_at hl 1 rfl) ?_
    obtain ⟨r5, er5, hf⟩ := bd1_e hf
    refine x_aft_i (x_runV (As := [.int p0]) (rest := []) C hP hS (c_X12_rankOf (l := l) C.2.2.2.2.2.2.2.2.2.1 hW h_a k_a er5 H.size) h_a k_a (by decide) rfl rfl km_X12_rankOf ki_X12_rankOf qm_X12_406 ⟨(Nat.le_of_ble_eq_true rfl), (Nat.le_of_ble_eq_true rfl)⟩ rfl hl.1 rfl (Nat.le_of_ble_eq_true rfl) ⟨Nat.zero_le _, Nat.zero_le _⟩ dX12_order_20) hS (fun H locs hP hS hW => ?_)
    refine lv_istore_n (lv' := [(3, .int r5), (0, .ref a), (1, .int p0), (2, .int p1)]) hx hb dX12_order_23 rfl hl (by decide) rfl (fun ls hl => ?_)
    refine lv_aload_n hx hb dX12_order_24 rfl (lv_at hl 1 rfl) ?_
    refine lv_iload_n hx hb dX12_order_25 rfl (lv_at hl 3 rfl) ?_
    obtain ⟨r6, er6, hf⟩ := bd1_e hf
    refine x_aft_i (x_runV (As := [.int p1]) (rest := []) C hP hS (c_X12_rankOf (l := l) C.2.2.2.2.2.2.2.2.2.1 hW h_a k_a er6 H.size) h_a k_a (by decide) rfl rfl km_X12_rankOf ki_X12_rankOf qm_X12_406 ⟨(Nat.le_of_ble_eq_true rfl), (Nat.le_of_ble_eq_true rfl)⟩ rfl hl.1 rfl (Nat.le_of_ble_eq_true rfl) ⟨Nat.zero_le _, Nat.zero_le _⟩ dX12_order_26) hS (fun H locs hP hS hW => ?_)
    refine lv_istore (lv' := [(4, .int r6), (3, .int r5), (0, .ref a), (1, .int p0), (2, .int p1)]) hx hb dX12_order_29 hl (by decide) rfl (fun ls hl => ?_)
    refine lv_aload_n hx hb dX12_order_31 rfl (lv_at hl 2 rfl) ?_
    refine lv_aload_n hx hb dX12_order_32 rfl (lv_at hl 2 rfl) ?_
    obtain ⟨r7, er7, hf⟩ := bd1_e hf
    refine x_aft_i (x_runV (As := []) (rest := [.ref a]) C hP hS (c_X12_used (l := l) C.2.2.2.2.2.2.2.2.2.1 hW h_a k_a er7 H.size) h_a k_a (by decide) rfl rfl km_X12_used ki_X12_used qm_X12_357 ⟨(Nat.le_of_ble_eq_true rfl), (Nat.le_of_ble_eq_true rfl)⟩ rfl hl.1 rfl (Nat.le_of_ble_eq_true rfl) ⟨Nat.zero_le _, Nat.zero_le _⟩ dX12_order_33) hS (fun H locs hP hS hW => ?_)
    refine lv_iload_n hx hb dX12_order_36 rfl (lv_at hl 3 rfl) ?_
    obtain ⟨r8, er8, hf⟩ := bd1_e hf
    refine x_aft_z (x_runV (As := [.int r7, .int p0]) (rest := []) C hP hS (c_X12_isNan (l := l) C.2.2.2.2.2.2.2.2.2.1 hW h_a k_a er8 H.size) h_a k_a (by decide) rfl rfl km_X12_isNan ki_X12_isNan qm_X12_279 ⟨(Nat.le_of_ble_eq_true rfl), (Nat.le_of_ble_eq_true rfl)⟩ rfl hl.1 rfl (Nat.le_of_ble_eq_true rfl) ⟨Nat.zero_le _, Nat.zero_le _⟩ dX12_order_37) hS (fun H locs hP hS hW z9 => ?_)
    refine lv_if_ne (tgt := 55) hx hb dX12_order_40 (by decide) (fun c10 => ?_) (fun c10 => ?_)
    · have hf := if_f c10 hf
      refine lv_iconst (v := 2) hx hb dX12_order_55 rfl ?_
      refine lv_goto (tgt := 80) hx hb dX12_order_56 (by decide) ?_
      cases hf
      exact x_reti C hP hS hW dX12_order_80
    · have hf := if_t c10 hf
      refine lv_aload_n hx hb dX12_order_43 rfl (lv_at hl 2 rfl) ?_
      refine lv_aload_n hx hb dX12_order_44 rfl (lv_at hl 2 rfl) ?_
      obtain ⟨r11, er11, hf⟩ := bd1_e hf
      refine x_aft_i (x_runV (As := []) (rest := [.ref a]) C hP hS (c_X12_used (l := l) C.2.2.2.2.2.2.2.2.2.1 hW h_a k_a er11 H.size) h_a k_a (by decide) rfl rfl km_X12_used ki_X12_used qm_X12_357 ⟨(Nat.le_of_ble_eq_true rfl), (Nat.le_of_ble_eq_true rfl)⟩ rfl hl.1 rfl (Nat.le_of_ble_eq_true rfl) ⟨Nat.zero_le _, Nat.zero_le _⟩ dX12_order_45) hS (fun H locs hP hS hW => ?_)
      refine lv_iload_n hx hb dX12_order_48 rfl (lv_at hl 4 rfl) ?_
      obtain ⟨r12, er12, hf⟩ := bd1_e hf
      refine x_aft_z (x_runV (As := [.int r11, .int p1]) (rest := []) C hP hS (c_X12_isNan (l := l) C.2.2.2.2.2.2.2.2.2.1 hW h_a k_a er12 H.size) h_a k_a (by decide) rfl rfl km_X12_isNan ki_X12_isNan qm_X12_279 ⟨(Nat.le_of_ble_eq_true rfl), (Nat.le_of_ble_eq_true rfl)⟩ rfl hl.1 rfl (Nat.le_of_ble_eq_true rfl) ⟨Nat.zero_le _, Nat.zero_le _⟩ dX12_order_49) hS (fun H locs hP hS hW z13 => ?_)
      refine lv_if_eq (tgt := 59) hx hb dX12_order_52 (by decide) (fun c14 => ?_) (fun c14 => ?_)
      · have hf := if_t c14 hf
        refine lv_iload_n hx hb dX12_order_59 rfl (lv_at hl 1 rfl) ?_
        refine lv_iload hx hb dX12_order_60 (lv_at hl 0 rfl) ?_
        refine lv_icmp_ge (tgt := 69) hx hb dX12_order_62 (by decide) (fun c15 => ?_) (fun c15 => ?_)
        · have hf := if_t c15 hf
          refine lv_iload_n hx hb dX12_order_69 rfl (lv_at hl 1 rfl) ?_
          refine lv_iload hx hb dX12_order_70 (lv_at hl 0 rfl) ?_
          refine lv_icmp_le (tgt := 79) hx hb dX12_order_72 (by decide) (fun c16 => ?_) (fun c16 => ?_)
          · have hf := if_t c16 hf
            refine lv_iconst (v := 0) hx hb dX12_order_79 rfl ?_
            cases hf
            exact x_reti C hP hS hW dX12_order_80
          · have hf := if_f c16 hf
            refine lv_iconst (v := 1) hx hb dX12_order_75 rfl ?_
            refine lv_goto (tgt := 80) hx hb dX12_order_76 (by decide) ?_
            cases hf
            exact x_reti C hP hS hW dX12_order_80
        · have hf := if_f c15 hf
          refine lv_iconst (v := (-1)) hx hb dX12_order_65 rfl ?_
          refine lv_goto (tgt := 80) hx hb dX12_order_66 (by decide) ?_
          cases hf
          exact x_reti C hP hS hW dX12_order_80
      · have hf := if_f c14 hf
        refine lv_iconst (v := 2) hx hb dX12_order_55 rfl ?_
        refine lv_goto (tgt := 80) hx hb dX12_order_56 (by decide) ?_
        cases hf
        exact x_reti C hP hS hW dX12_order_80
  · have hf := if_t c4 hf
    refine lv_bipush (v := (-2)) hx hb dX12_order_15 kc_bipush_m2 ?_
    cases hf
    exact x_reti C hP hS hW dX12_order_17
def s_X12_part (N : Nat → Nat) (a : Nat) (p0 : Int32) (p1 : Int32) (S : HS) : Option (Int32 × HS) :=
  bnd (uI S 1200 a 0) fun S1 =>
  bd1 (s_X12_used N a S1) fun r2 =>
  bd1 (s_X12_isBits N a r2 p0 S1) fun r3 =>
  if r3 = (0 : Int32) then
  some ((-1), S1)
  else
  if (s_X12_within p1 0 2 S1) = (0 : Int32) then
  some ((-1), S1)
  else
  if p1 = (0 : Int32) then
  bd1 (s_X12_used N a S1) fun r14 =>
  bd1 (s_X12_isMinus N a r14 p0 S1) fun r15 =>
  if r15 = (0 : Int32) then
  some (0, S1)
  else
  some (1, S1)
  else
  if p1 = (1 : Int32) then
  bd1 (s_X12_used N a S1) fun r12 =>
  bd1 (s_X12_exponentOf N a r12 p0 S1) fun r13 =>
  some (r13, S1)
  else
  bd1 (s_X12_used N a S1) fun r10 =>
  bd1 (s_X12_fracOf N a r10 S1) fun r11 =>
  some (p0 &&& (((1 : Int32) <<< (r11 &&& 31)) - 1), S1)
set_option maxRecDepth 100000 in
set_option maxHeartbeats 4000000 in
theorem c_X12_part {l : Launch} {V : EV} {G : GS} {S : HS} {a : Nat} {p0 : Int32} {p1 : Int32} {r : Int32} {S' : HS} (hN : G.1.Nodup) (hW : WT G S) (h_a : a ∈ G.1) (k_a : G.2.1 a = 12) (hf : s_X12_part G.2.2 a p0 p1 S = some (r, S')) : MetI l yX12_part cX12_part 3 .int 4 118 V G S [.ref a, .int p0, .int p1] r S' := by
  intro sz
  refine x_in RX12 rfl (by decide +kernel) hN (Nat.le_of_ble_eq_true rfl) (fun p e s m args below meth c ls hsz hargs hnm C hP hS hl => ?_)
  subst hsz
  have hx := C.1
  have hb := C.2.1
  have hl : lv_has ls 3 [(0, .ref a), (1, .int p0), (2, .int p1)] := hl
  unfold s_X12_part at hf
  refine lv_aload_n hx hb dX12_part_0 rfl (lv_at hl 0 rfl) ?_
  refine lv_iconst (v := 0) hx hb dX12_part_1 rfl ?_
  obtain ⟨S1, eS1, hf⟩ := bnd_e hf
  refine pf_X12_1 C hP hS h_a k_a eS1 dX12_part_2 (fun H locs hP hS => ?_)
  have hW : WT G S1 := by rw [eS1]; exact hW
  refine lv_aload_n hx hb dX12_part_5 rfl (lv_at hl 0 rfl) ?_
  refine lv_aload_n hx hb dX12_part_6 rfl (lv_at hl 0 rfl) ?_
  obtain ⟨r2, er2, hf⟩ := bd1_e hf
  refine x_aft_i (x_runV (As := []) (rest := [.ref a]) C hP hS (c_X12_used (l := l) C.2.2.2.2.2.2.2.2.2.1 hW h_a k_a er2 H.size) h_a k_a (by decide) rfl rfl km_X12_used ki_X12_used qm_X12_357 ⟨(Nat.le_of_ble_eq_true rfl), (Nat.le_of_ble_eq_true rfl)⟩ rfl hl.1 rfl (Nat.le_of_ble_eq_true rfl) ⟨Nat.zero_le _, Nat.zero_le _⟩ dX12_part_7) hS (fun H locs hP hS hW => ?_)
  refine lv_iload_n hx hb dX12_part_10 rfl (lv_at hl 1 rfl) ?_
  obtain ⟨r3, er3, hf⟩ := bd1_e hf
  refine x_aft_z (x_runV (As := [.int r2, .int p0]) (rest := []) C hP hS (c_X12_isBits (l := l) C.2.2.2.2.2.2.2.2.2.1 hW h_a k_a er3 H.size) h_a k_a (by decide) rfl rfl km_X12_isBits ki_X12_isBits qm_X12_363 ⟨(Nat.le_of_ble_eq_true rfl), (Nat.le_of_ble_eq_true rfl)⟩ rfl hl.1 rfl (Nat.le_of_ble_eq_true rfl) ⟨Nat.zero_le _, Nat.zero_le _⟩ dX12_part_11) hS (fun H locs hP hS hW z4 => ?_)
  refine lv_if_eq (tgt := 26) hx hb dX12_part_14 (by decide) (fun c5 => ?_) (fun c5 => ?_)
  · have hf := if_t c5 hf
    refine lv_iconst (v := (-1)) hx hb dX12_part_26 rfl ?_
    cases hf
    exact x_reti C hP hS hW dX12_part_27
  · have hf := if_f c5 hf
    refine lv_iload_n hx hb dX12_part_17 rfl (lv_at hl 2 rfl) ?_
    refine lv_iconst (v := 0) hx hb dX12_part_18 rfl ?_
    refine lv_iconst (v := 2) hx hb dX12_part_19 rfl ?_
    refine x_aft_z (x_runS (As := [.int p1, .int 0, .int 2]) (rest := []) C hP hS (c_X12_within (l := l) C.2.2.2.2.2.2.2.2.2.1 hW rfl H.size) km_X12_within ks_X12_within qm_X12_386 ⟨(Nat.le_of_ble_eq_true rfl), (Nat.le_of_ble_eq_true rfl)⟩ rfl hl.1 rfl (Nat.le_of_ble_eq_true rfl) ⟨Nat.zero_le _, Nat.zero_le _⟩ dX12_part_20) hS (fun H locs hP hS hW z6 => ?_)
    refine lv_if_ne (tgt := 28) hx hb dX12_part_23 (by decide) (fun c7 => ?_) (fun c7 => ?_)
    · have hf := if_f c7 hf
      refine lv_iload_n hx hb dX12_part_28 rfl (lv_at hl 2 rfl) ?_
      refine lv_if_ne (tgt := 52) hx hb dX12_part_29 (by decide) (fun c8 => ?_) (fun c8 => ?_)
      · have hf := if_f c8 hf
        refine lv_iload_n hx hb dX12_part_52 rfl (lv_at hl 2 rfl) ?_
        refine lv_iconst (v := 1) hx hb dX12_part_53 rfl ?_
        refine lv_icmp_ne (tgt := 69) hx hb dX12_part_54 (by decide) (fun c9 => ?_) (fun c9 => ?_)
        · have hf := if_f c9 hf
          refine lv_iload_n hx hb dX12_part_69 rfl (lv_at hl 1 rfl) ?_
          refine lv_iconst (v := 1) hx hb dX12_part_70 rfl ?_
          refine lv_aload_n hx hb dX12_part_71 rfl (lv_at hl 0 rfl) ?_
          refine lv_aload_n hx hb dX12_part_72 rfl (lv_at hl 0 rfl) ?_
          obtain ⟨r10, er10, hf⟩ := bd1_e hf
          refine x_aft_i (x_runV (As := []) (rest := [.ref a, .int 1, .int p0]) C hP hS (c_X12_used (l := l) C.2.2.2.2.2.2.2.2.2.1 hW h_a k_a er10 H.size) h_a k_a (by decide) rfl rfl km_X12_used ki_X12_used qm_X12_357 ⟨(Nat.le_of_ble_eq_true rfl), (Nat.le_of_ble_eq_true rfl)⟩ rfl hl.1 rfl (Nat.le_of_ble_eq_true rfl) ⟨Nat.zero_le _, Nat.zero_le _⟩ dX12_part_73) hS (fun H locs hP hS hW => ?_)
          obtain ⟨r11, er11, hf⟩ := bd1_e hf
          refine x_aft_i (x_runV (As := [.int r10]) (rest := [.int 1, .int p0]) C hP hS (c_X12_fracOf (l := l) C.2.2.2.2.2.2.2.2.2.1 hW h_a k_a er11 H.size) h_a k_a (by decide) rfl rfl km_X12_fracOf ki_X12_fracOf qm_X12_255 ⟨(Nat.le_of_ble_eq_true rfl), (Nat.le_of_ble_eq_true rfl)⟩ rfl hl.1 rfl (Nat.le_of_ble_eq_true rfl) ⟨Nat.zero_le _, Nat.zero_le _⟩ dX12_part_76) hS (fun H locs hP hS hW => ?_)
          refine lv_ishl hx hb dX12_part_79 ?_
          refine lv_iconst (v := 1) hx hb dX12_part_80 rfl ?_
          refine lv_isub hx hb dX12_part_81 ?_
          refine lv_iand hx hb dX12_part_82 ?_
          cases hf
          exact x_reti C hP hS hW dX12_part_83
        · have hf := if_t c9 hf
          refine lv_aload_n hx hb dX12_part_57 rfl (lv_at hl 0 rfl) ?_
          refine lv_aload_n hx hb dX12_part_58 rfl (lv_at hl 0 rfl) ?_
          obtain ⟨r12, er12, hf⟩ := bd1_e hf
          refine x_aft_i (x_runV (As := []) (rest := [.ref a]) C hP hS (c_X12_used (l := l) C.2.2.2.2.2.2.2.2.2.1 hW h_a k_a er12 H.size) h_a k_a (by decide) rfl rfl km_X12_used ki_X12_used qm_X12_357 ⟨(Nat.le_of_ble_eq_true rfl), (Nat.le_of_ble_eq_true rfl)⟩ rfl hl.1 rfl (Nat.le_of_ble_eq_true rfl) ⟨Nat.zero_le _, Nat.zero_le _⟩ dX12_part_59) hS (fun H locs hP hS hW => ?_)
          refine lv_iload_n hx hb dX12_part_62 rfl (lv_at hl 1 rfl) ?_
          obtain ⟨r13, er13, hf⟩ := bd1_e hf
          refine x_aft_i (x_runV (As := [.int r12, .int p0]) (rest := []) C hP hS (c_X12_exponentOf (l := l) C.2.2.2.2.2.2.2.2.2.1 hW h_a k_a er13 H.size) h_a k_a (by decide) rfl rfl km_X12_exponentOf ki_X12_exponentOf qm_X12_273 ⟨(Nat.le_of_ble_eq_true rfl), (Nat.le_of_ble_eq_true rfl)⟩ rfl hl.1 rfl (Nat.le_of_ble_eq_true rfl) ⟨Nat.zero_le _, Nat.zero_le _⟩ dX12_part_63) hS (fun H locs hP hS hW => ?_)
          refine lv_goto (tgt := 83) hx hb dX12_part_66 (by decide) ?_
          cases hf
          exact x_reti C hP hS hW dX12_part_83
      · have hf := if_t c8 hf
        refine lv_aload_n hx hb dX12_part_32 rfl (lv_at hl 0 rfl) ?_
        refine lv_aload_n hx hb dX12_part_33 rfl (lv_at hl 0 rfl) ?_
        obtain ⟨r14, er14, hf⟩ := bd1_e hf
        refine x_aft_i (x_runV (As := []) (rest := [.ref a]) C hP hS (c_X12_used (l := l) C.2.2.2.2.2.2.2.2.2.1 hW h_a k_a er14 H.size) h_a k_a (by decide) rfl rfl km_X12_used ki_X12_used qm_X12_357 ⟨(Nat.le_of_ble_eq_true rfl), (Nat.le_of_ble_eq_true rfl)⟩ rfl hl.1 rfl (Nat.le_of_ble_eq_true rfl) ⟨Nat.zero_le _, Nat.zero_le _⟩ dX12_part_34) hS (fun H locs hP hS hW => ?_)
        refine lv_iload_n hx hb dX12_part_37 rfl (lv_at hl 1 rfl) ?_
        obtain ⟨r15, er15, hf⟩ := bd1_e hf
        refine x_aft_z (x_runV (As := [.int r14, .int p0]) (rest := []) C hP hS (c_X12_isMinus (l := l) C.2.2.2.2.2.2.2.2.2.1 hW h_a k_a er15 H.size) h_a k_a (by decide) rfl rfl km_X12_isMinus ki_X12_isMinus qm_X12_283 ⟨(Nat.le_of_ble_eq_true rfl), (Nat.le_of_ble_eq_true rfl)⟩ rfl hl.1 rfl (Nat.le_of_ble_eq_true rfl) ⟨Nat.zero_le _, Nat.zero_le _⟩ dX12_part_38) hS (fun H locs hP hS hW z16 => ?_)
        refine lv_if_eq (tgt := 48) hx hb dX12_part_41 (by decide) (fun c17 => ?_) (fun c17 => ?_)
        · have hf := if_t c17 hf
          refine lv_iconst (v := 0) hx hb dX12_part_48 rfl ?_
          refine lv_goto (tgt := 83) hx hb dX12_part_49 (by decide) ?_
          cases hf
          exact x_reti C hP hS hW dX12_part_83
        · have hf := if_f c17 hf
          refine lv_iconst (v := 1) hx hb dX12_part_44 rfl ?_
          refine lv_goto (tgt := 83) hx hb dX12_part_45 (by decide) ?_
          cases hf
          exact x_reti C hP hS hW dX12_part_83
    · have hf := if_t c7 hf
      refine lv_iconst (v := (-1)) hx hb dX12_part_26 rfl ?_
      cases hf
      exact x_reti C hP hS hW dX12_part_27
def s_X12_wrong (N : Nat → Nat) (a : Nat) (p0 : Int32) (S : HS) : Option HS :=
  if (gI S 1208 a) = (0 : Int32) then
  bd1 (gR S 1205 a) fun t2 =>
  if inB (gI S 1207 a) (N t2) = true then
  bnd (uI S 1208 a (p0 + (16 * (aI S t2 (gI S 1207 a).toNatClampNeg)))) fun S4 =>
  some S4
  else none
  else
  some S
set_option maxRecDepth 100000 in
set_option maxHeartbeats 4000000 in
theorem c_X12_wrong {l : Launch} {V : EV} {G : GS} {S : HS} {a : Nat} {p0 : Int32} {S' : HS} (hN : G.1.Nodup) (hW : WT G S) (h_a : a ∈ G.1) (k_a : G.2.1 a = 12) (hf : s_X12_wrong G.2.2 a p0 S = some S') : MetV l yX12_wrong cX12_wrong 2 0 0 V G S [.ref a, .int p0] S' := by
  intro sz
  refine x_in RX12 rfl (by decide +kernel) hN (Nat.le_of_ble_eq_true rfl) (fun p e s m args below meth c ls hsz hargs hnm C hP hS hl => ?_)
  subst hsz
  have hx := C.1
  have hb := C.2.1
  have hl : lv_has ls 2 [(0, .ref a), (1, .int p0)] := hl
  unfold s_X12_wrong at hf
  refine lv_aload_n hx hb dX12_wrong_0 rfl (lv_at hl 0 rfl) ?_
  refine gf_X12_144 C hP h_a k_a dX12_wrong_1 ?_
  refine lv_if_ne (tgt := 25) hx hb dX12_wrong_4 (by decide) (fun c1 => ?_) (fun c1 => ?_)
  · have hf := if_f c1 hf
    cases hf
    exact x_retv C hP hS hW dX12_wrong_25
  · have hf := if_t c1 hf
    refine lv_aload_n hx hb dX12_wrong_7 rfl (lv_at hl 0 rfl) ?_
    refine lv_iload_n hx hb dX12_wrong_8 rfl (lv_at hl 1 rfl) ?_
    refine lv_bipush (v := 16) hx hb dX12_wrong_9 kc_bipush_16 ?_
    refine lv_aload_n hx hb dX12_wrong_11 rfl (lv_at hl 0 rfl) ?_
    refine gf_X12_27 C hP h_a k_a dX12_wrong_12 ?_
    obtain ⟨t2, et2, hf⟩ := bd1_e hf
    obtain ⟨h_t2, k_t2⟩ := wt_r hW h_a k_a (by decide) et2
    have k_t2 : G.2.1 t2 = 14 := k_t2
    rw [et2]
    refine lv_aload_n hx hb dX12_wrong_15 rfl (lv_at hl 0 rfl) ?_
    refine gf_X12_141 C hP h_a k_a dX12_wrong_16 ?_
    obtain ⟨h3, hf⟩ := if_s hf
    refine x_iald C hP h_t2 k_t2 h3 dX12_wrong_19 ?_
    refine lv_imul hx hb dX12_wrong_20 ?_
    refine lv_iadd hx hb dX12_wrong_21 ?_
    obtain ⟨S4, eS4, hf⟩ := bnd_e hf
    refine pf_X12_144 C hP hS h_a k_a eS4 dX12_wrong_22 (fun H locs hP hS => ?_)
    have hW : WT G S4 := by rw [eS4]; exact hW
    cases hf
    exact x_retv C hP hS hW dX12_wrong_25
def s_X12_takeTold_J70 (N : Nat → Nat) (F : Nat) (v0 : Nat) (v3 : Int32) (w0 : Nat) (w1 : Int32) (w2 : Int32) (S : HS) : Option (Int32 × HS) :=
  bnd (uI S 1207 w0 (w1 + w2)) fun S6 =>
  if (gI S6 1208 v0) ≤ (0 : Int32) then
  some (v3, S6)
  else
  some (0, S6)
def s_X12_takeTold_J53 (N : Nat → Nat) (F : Nat) (v0 : Nat) (v3 : Int32) (S : HS) : Option (Int32 × HS) :=
  if (gI S 1208 v0) ≤ (0 : Int32) then
  s_X12_takeTold_J70 N F v0 v3 v0 (gI S 1207 v0) 1 S
  else
  s_X12_takeTold_J70 N F v0 v3 v0 (gI S 1207 v0) 0 S
def s_X12_takeTold_J36 (N : Nat → Nat) (F : Nat) (v0 : Nat) (w0 : Int32) (S : HS) : Option (Int32 × HS) :=
  if (gI S 1208 v0) = (0 : Int32) then
  if (0 : Int32) ≤ w0 then
  s_X12_takeTold_J53 N F v0 w0 S
  else
  bd1 (s_X12_wrong N v0 2 S) fun S9 =>
  s_X12_takeTold_J53 N F v0 w0 S9
  else
  s_X12_takeTold_J53 N F v0 w0 S
def s_X12_takeTold_J19 (N : Nat → Nat) (F : Nat) (v0 : Nat) (v1 : Int32) (v2 : Int32) (S : HS) : Option (Int32 × HS) :=
  if (gI S 1208 v0) ≤ (0 : Int32) then
  bd1 (s_X12_nameAt N F v0 v1 v2 S) fun r3 =>
  s_X12_takeTold_J36 N F v0 r3 S
  else
  s_X12_takeTold_J36 N F v0 (-1) S
def s_X12_takeTold (N : Nat → Nat) (F : Nat) (a : Nat) (p0 : Int32) (p1 : Int32) (S : HS) : Option (Int32 × HS) :=
  if (gI S 1208 a) = (0 : Int32) then
  bd1 (s_X12_isName N F a S) fun r10 =>
  if r10 = (0 : Int32) then
  bd1 (s_X12_wrong N a 1 S) fun S13 =>
  s_X12_takeTold_J19 N F a p0 p1 S13
  else
  s_X12_takeTold_J19 N F a p0 p1 S
  else
  s_X12_takeTold_J19 N F a p0 p1 S
set_option maxRecDepth 100000 in
set_option maxHeartbeats 4000000 in
theorem b_X12_takeTold_70 {p : Program} {l : Launch} {e : Env} {s : State} {m : MethodId} {args : Array Value} {below : List Frame} {meth : Method} {c : Code} {V : EV} {G : GS} {r : Int32} {S' : HS} {F : Nat} (C : CX p s m args meth c RX12 cX12_takeTold 4 (some .int) V G) : ∀ (v0 : Nat) (v3 : Int32) (w0 : Nat) (w1 : Int32) (w2 : Int32) (h_v0 : v0 ∈ G.1) (k_v0 : G.2.1 v0 = 12) (h_w0 : w0 ∈ G.1) (k_w0 : G.2.1 w0 = 12) (S : HS) (H : Heap) (locs : List Loc) (ls : Array Slot), s_X12_takeTold_J70 G.2.2 F v0 v3 w0 w1 w2 S = some (r, S') → HP V G S H → va_S (AG G s.heap.size) s.heap H locs → WT G S → lv_has ls 4 [(0, .ref v0), (3, .int v3)] → W p l e (RM 3 89) s m args below meth c H locs 0 0 (MQ below (QI V G S' r s.heap.size) args s 0 0 (AG G s.heap.size)) (F0 m 70 ls [.int w2, .int w1, .ref w0]) := by
  intro v0 v3 w0 w1 w2 h_v0 k_v0 h_w0 k_w0 S H locs ls hf hP hS hW hl
  have hx := C.1
  have hb := C.2.1
  unfold s_X12_takeTold_J70 at hf
  refine lv_iadd hx hb dX12_takeTold_70 ?_
  obtain ⟨S6, eS6, hf⟩ := bnd_e hf
  refine pf_X12_141 C hP hS h_w0 k_w0 eS6 dX12_takeTold_71 (fun H locs hP hS => ?_)
  have hW : WT G S6 := by rw [eS6]; exact hW
  refine lv_aload_n hx hb dX12_takeTold_74 rfl (lv_at hl 0 rfl) ?_
  refine gf_X12_144 C hP h_v0 k_v0 dX12_takeTold_75 ?_
  refine lv_if_le (tgt := 85) hx hb dX12_takeTold_78 (by decide) (fun c7 => ?_) (fun c7 => ?_)
  · have hf := if_t c7 hf
    refine lv_iload_n hx hb dX12_takeTold_85 rfl (lv_at hl 1 rfl) ?_
    cases hf
    exact x_reti C hP hS hW dX12_takeTold_86
  · have hf := if_f c7 hf
    refine lv_iconst (v := 0) hx hb dX12_takeTold_81 rfl ?_
    refine lv_goto (tgt := 86) hx hb dX12_takeTold_82 (by decide) ?_
    cases hf
    exact x_reti C hP hS hW dX12_takeTold_86
set_option maxRecDepth 100000 in
set_option maxHeartbeats 4000000 in
theorem b_X12_takeTold_53 {p : Program} {l : Launch} {e : Env} {s : State} {m : MethodId} {args : Array Value} {below : List Frame} {meth : Method} {c : Code} {V : EV} {G : GS} {r : Int32} {S' : HS} {F : Nat} (C : CX p s m args meth c RX12 cX12_takeTold 4 (some .int) V G) : ∀ (v0 : Nat) (v3 : Int32) (h_v0 : v0 ∈ G.1) (k_v0 : G.2.1 v0 = 12) (S : HS) (H : Heap) (locs : List Loc) (ls : Array Slot), s_X12_takeTold_J53 G.2.2 F v0 v3 S = some (r, S') → HP V G S H → va_S (AG G s.heap.size) s.heap H locs → WT G S → lv_has ls 4 [(0, .ref v0), (3, .int v3)] → W p l e (RM 3 89) s m args below meth c H locs 0 0 (MQ below (QI V G S' r s.heap.size) args s 0 0 (AG G s.heap.size)) (F0 m 53 ls []) := by
  intro v0 v3 h_v0 k_v0 S H locs ls hf hP hS hW hl
  have hx := C.1
  have hb := C.2.1
  unfold s_X12_takeTold_J53 at hf
  refine lv_aload_n hx hb dX12_takeTold_53 rfl (lv_at hl 0 rfl) ?_
  refine lv_dup hx hb dX12_takeTold_54 rfl ?_
  refine gf_X12_141 C hP h_v0 k_v0 dX12_takeTold_55 ?_
  refine lv_aload_n hx hb dX12_takeTold_58 rfl (lv_at hl 0 rfl) ?_
  refine gf_X12_144 C hP h_v0 k_v0 dX12_takeTold_59 ?_
  refine lv_if_le (tgt := 69) hx hb dX12_takeTold_62 (by decide) (fun c5 => ?_) (fun c5 => ?_)
  · have hf := if_t c5 hf
    refine lv_iconst (v := 1) hx hb dX12_takeTold_69 rfl ?_
    exact b_X12_takeTold_70 C v0 v3 v0 (gI S 1207 v0) 1 h_v0 k_v0 h_v0 k_v0 S H locs _ hf hP hS hW (lv_sub hl [0, 1] rfl)
  · have hf := if_f c5 hf
    refine lv_iconst (v := 0) hx hb dX12_takeTold_65 rfl ?_
    refine lv_goto (tgt := 70) hx hb dX12_takeTold_66 (by decide) ?_
    exact b_X12_takeTold_70 C v0 v3 v0 (gI S 1207 v0) 0 h_v0 k_v0 h_v0 k_v0 S H locs _ hf hP hS hW (lv_sub hl [0, 1] rfl)
set_option maxRecDepth 100000 in
set_option maxHeartbeats 4000000 in
theorem b_X12_takeTold_36 {p : Program} {l : Launch} {e : Env} {s : State} {m : MethodId} {args : Array Value} {below : List Frame} {meth : Method} {c : Code} {V : EV} {G : GS} {r : Int32} {S' : HS} {F : Nat} (C : CX p s m args meth c RX12 cX12_takeTold 4 (some .int) V G) : ∀ (v0 : Nat) (w0 : Int32) (h_v0 : v0 ∈ G.1) (k_v0 : G.2.1 v0 = 12) (S : HS) (H : Heap) (locs : List Loc) (ls : Array Slot), s_X12_takeTold_J36 G.2.2 F v0 w0 S = some (r, S') → HP V G S H → va_S (AG G s.heap.size) s.heap H locs → WT G S → lv_has ls 4 [(0, .ref v0)] → W p l e (RM 3 89) s m args below meth c H locs 0 0 (MQ below (QI V G S' r s.heap.size) args s 0 0 (AG G s.heap.size)) (F0 m 36 ls [.int w0]) := by
  intro v0 w0 h_v0 k_v0 S H locs ls hf hP hS hW hl
  have hx := C.1
  have hb := C.2.1
  unfold s_X12_takeTold_J36 at hf
  refine lv_istore_n (lv' := [(3, .int w0), (0, .ref v0)]) hx hb dX12_takeTold_36 rfl hl (by decide) rfl (fun ls hl => ?_)
  refine lv_aload_n hx hb dX12_takeTold_37 rfl (lv_at hl 1 rfl) ?_
  refine gf_X12_144 C hP h_v0 k_v0 dX12_takeTold_38 ?_
  refine lv_if_ne (tgt := 53) hx hb dX12_takeTold_41 (by decide) (fun c4 => ?_) (fun c4 => ?_)
  · have hf := if_f c4 hf
    exact b_X12_takeTold_53 C v0 w0 h_v0 k_v0 S H locs _ hf hP hS hW (lv_sub hl [1, 0] rfl)
  · have hf := if_t c4 hf
    refine lv_iload_n hx hb dX12_takeTold_44 rfl (lv_at hl 0 rfl) ?_
    refine lv_if_ge (tgt := 53) hx hb dX12_takeTold_45 (by decide) (fun c8 => ?_) (fun c8 => ?_)
    · have hf := if_t c8 hf
      exact b_X12_takeTold_53 C v0 w0 h_v0 k_v0 S H locs _ hf hP hS hW (lv_sub hl [1, 0] rfl)
    · have hf := if_f c8 hf
      refine lv_aload_n hx hb dX12_takeTold_48 rfl (lv_at hl 1 rfl) ?_
      refine lv_iconst (v := 2) hx hb dX12_takeTold_49 rfl ?_
      obtain ⟨S9, eS9, hf⟩ := bd1_e hf
      refine x_aft_v (x_runV (As := [.int 2]) (rest := []) C hP hS (c_X12_wrong (l := l) C.2.2.2.2.2.2.2.2.2.1 hW h_v0 k_v0 eS9 H.size) h_v0 k_v0 (by decide) rfl rfl km_X12_wrong ki_X12_wrong qm_X12_150 ⟨(Nat.le_of_ble_eq_true rfl), (Nat.le_of_ble_eq_true rfl)⟩ rfl hl.1 rfl (Nat.le_of_ble_eq_true rfl) ⟨Nat.zero_le _, Nat.zero_le _⟩ dX12_takeTold_50) hS (fun H locs hP hS hW => ?_)
      exact b_X12_takeTold_53 C v0 w0 h_v0 k_v0 S9 H locs _ hf hP hS hW (lv_sub hl [1, 0] rfl)
set_option maxRecDepth 100000 in
set_option maxHeartbeats 4000000 in
theorem b_X12_takeTold_19 {p : Program} {l : Launch} {e : Env} {s : State} {m : MethodId} {args : Array Value} {below : List Frame} {meth : Method} {c : Code} {V : EV} {G : GS} {r : Int32} {S' : HS} {F : Nat} (C : CX p s m args meth c RX12 cX12_takeTold 4 (some .int) V G) : ∀ (v0 : Nat) (v1 : Int32) (v2 : Int32) (h_v0 : v0 ∈ G.1) (k_v0 : G.2.1 v0 = 12) (S : HS) (H : Heap) (locs : List Loc) (ls : Array Slot), s_X12_takeTold_J19 G.2.2 F v0 v1 v2 S = some (r, S') → HP V G S H → va_S (AG G s.heap.size) s.heap H locs → WT G S → lv_has ls 4 [(0, .ref v0), (1, .int v1), (2, .int v2)] → W p l e (RM 3 89) s m args below meth c H locs 0 0 (MQ below (QI V G S' r s.heap.size) args s 0 0 (AG G s.heap.size)) (F0 m 19 ls []) := by
  intro v0 v1 v2 h_v0 k_v0 S H locs ls hf hP hS hW hl
  have hx := C.1
  have hb := C.2.1
  unfold s_X12_takeTold_J19 at hf
  refine lv_aload_n hx hb dX12_takeTold_19 rfl (lv_at hl 0 rfl) ?_
  refine gf_X12_144 C hP h_v0 k_v0 dX12_takeTold_20 ?_
  refine lv_if_le (tgt := 30) hx hb dX12_takeTold_23 (by decide) (fun c2 => ?_) (fun c2 => ?_)
  · have hf := if_t c2 hf
    refine lv_aload_n hx hb dX12_takeTold_30 rfl (lv_at hl 0 rfl) ?_
    refine lv_iload_n hx hb dX12_takeTold_31 rfl (lv_at hl 1 rfl) ?_
    refine lv_iload_n hx hb dX12_takeTold_32 rfl (lv_at hl 2 rfl) ?_
    obtain ⟨r3, er3, hf⟩ := bd1_e hf
    refine x_aft_i (x_runV (As := [.int v1, .int v2]) (rest := []) C hP hS (c_X12_nameAt (l := l) C.2.2.2.2.2.2.2.2.2.1 hW h_v0 k_v0 er3 H.size) h_v0 k_v0 (by decide) rfl rfl km_X12_nameAt ki_X12_nameAt qm_X12_173 ⟨(Nat.le_of_ble_eq_true rfl), (Nat.le_of_ble_eq_true rfl)⟩ rfl hl.1 rfl (Nat.le_of_ble_eq_true rfl) ⟨Nat.zero_le _, Nat.zero_le _⟩ dX12_takeTold_33) hS (fun H locs hP hS hW => ?_)
    exact b_X12_takeTold_36 C v0 r3 h_v0 k_v0 S H locs _ hf hP hS hW (lv_sub hl [0] rfl)
  · have hf := if_f c2 hf
    refine lv_iconst (v := (-1)) hx hb dX12_takeTold_26 rfl ?_
    refine lv_goto (tgt := 36) hx hb dX12_takeTold_27 (by decide) ?_
    exact b_X12_takeTold_36 C v0 (-1) h_v0 k_v0 S H locs _ hf hP hS hW (lv_sub hl [0] rfl)
set_option maxRecDepth 100000 in
set_option maxHeartbeats 4000000 in
theorem c_X12_takeTold {l : Launch} {V : EV} {G : GS} {S : HS} {F : Nat} {a : Nat} {p0 : Int32} {p1 : Int32} {r : Int32} {S' : HS} (hN : G.1.Nodup) (hW : WT G S) (h_a : a ∈ G.1) (k_a : G.2.1 a = 12) (hf : s_X12_takeTold G.2.2 F a p0 p1 S = some (r, S')) : MetI l yX12_takeTold cX12_takeTold 4 .int 3 89 V G S [.ref a, .int p0, .int p1] r S' := by
  intro sz
  refine x_in RX12 rfl (by decide +kernel) hN (Nat.le_of_ble_eq_true rfl) (fun p e s m args below meth c ls hsz hargs hnm C hP hS hl => ?_)
  subst hsz
  have hx := C.1
  have hb := C.2.1
  have hl : lv_has ls 4 [(0, .ref a), (1, .int p0), (2, .int p1)] := hl
  unfold s_X12_takeTold at hf
  refine lv_aload_n hx hb dX12_takeTold_0 rfl (lv_at hl 0 rfl) ?_
  refine gf_X12_144 C hP h_a k_a dX12_takeTold_1 ?_
  refine lv_if_ne (tgt := 19) hx hb dX12_takeTold_4 (by decide) (fun c1 => ?_) (fun c1 => ?_)
  · have hf := if_f c1 hf
    exact b_X12_takeTold_19 C a p0 p1 h_a k_a S s.heap [] _ hf hP hS hW (lv_sub hl [0, 1, 2] rfl)
  · have hf := if_t c1 hf
    refine lv_aload_n hx hb dX12_takeTold_7 rfl (lv_at hl 0 rfl) ?_
    obtain ⟨r10, er10, hf⟩ := bd1_e hf
    refine x_aft_z (x_runV (As := []) (rest := []) C hP hS (c_X12_isName (l := l) C.2.2.2.2.2.2.2.2.2.1 hW h_a k_a er10 s.heap.size) h_a k_a (by decide) rfl rfl km_X12_isName ki_X12_isName qm_X12_169 ⟨(Nat.le_of_ble_eq_true rfl), (Nat.le_of_ble_eq_true rfl)⟩ rfl hl.1 rfl (Nat.le_of_ble_eq_true rfl) ⟨Nat.zero_le _, Nat.zero_le _⟩ dX12_takeTold_8) hS (fun H locs hP hS hW z11 => ?_)
    refine lv_if_ne (tgt := 19) hx hb dX12_takeTold_11 (by decide) (fun c12 => ?_) (fun c12 => ?_)
    · have hf := if_f c12 hf
      exact b_X12_takeTold_19 C a p0 p1 h_a k_a S H locs _ hf hP hS hW (lv_sub hl [0, 1, 2] rfl)
    · have hf := if_t c12 hf
      refine lv_aload_n hx hb dX12_takeTold_14 rfl (lv_at hl 0 rfl) ?_
      refine lv_iconst (v := 1) hx hb dX12_takeTold_15 rfl ?_
      obtain ⟨S13, eS13, hf⟩ := bd1_e hf
      refine x_aft_v (x_runV (As := [.int 1]) (rest := []) C hP hS (c_X12_wrong (l := l) C.2.2.2.2.2.2.2.2.2.1 hW h_a k_a eS13 H.size) h_a k_a (by decide) rfl rfl km_X12_wrong ki_X12_wrong qm_X12_150 ⟨(Nat.le_of_ble_eq_true rfl), (Nat.le_of_ble_eq_true rfl)⟩ rfl hl.1 rfl (Nat.le_of_ble_eq_true rfl) ⟨Nat.zero_le _, Nat.zero_le _⟩ dX12_takeTold_16) hS (fun H locs hP hS hW => ?_)
      exact b_X12_takeTold_19 C a p0 p1 h_a k_a S13 H locs _ hf hP hS hW (lv_sub hl [0, 1, 2] rfl)
def s_X12_takeNumber_J70 (N : Nat → Nat) (v0 : Nat) (S : HS) : Option (Int32 × HS) :=
  if (gI S 1208 v0) ≤ (0 : Int32) then
  bnd (uI S 1207 v0 ((gI S 1207 v0) + 1)) fun S4 =>
  bd1 (gR S4 1206 v0) fun t5 =>
  if inB ((gI S4 1207 v0) - 1) (N t5) = true then
  some ((aJ S4 t5 ((gI S4 1207 v0) - 1).toNatClampNeg).toInt32, S4)
  else none
  else
  some (0, S)
def s_X12_takeNumber_J65 (N : Nat → Nat) (v0 : Nat) (S : HS) : Option (Int32 × HS) :=
  bd1 (s_X12_wrong N v0 4 S) fun S10 =>
  s_X12_takeNumber_J70 N v0 S10
def s_X12_takeNumber_J28 (N : Nat → Nat) (v0 : Nat) (v1 : Int32) (v2 : Int32) (S : HS) : Option (Int32 × HS) :=
  if (gI S 1208 v0) = (0 : Int32) then
  bd1 (gR S 1206 v0) fun t7 =>
  if inB (gI S 1207 v0) (N t7) = true then
  if (lg_cmp (aJ S t7 (gI S 1207 v0).toNatClampNeg) v1.toInt64) < (0 : Int32) then
  s_X12_takeNumber_J65 N v0 S
  else
  bd1 (gR S 1206 v0) fun t11 =>
  if inB (gI S 1207 v0) (N t11) = true then
  if (lg_cmp (aJ S t11 (gI S 1207 v0).toNatClampNeg) v2.toInt64) ≤ (0 : Int32) then
  s_X12_takeNumber_J70 N v0 S
  else
  s_X12_takeNumber_J65 N v0 S
  else none
  else none
  else
  s_X12_takeNumber_J70 N v0 S
def s_X12_takeNumber (N : Nat → Nat) (a : Nat) (p0 : Int32) (p1 : Int32) (S : HS) : Option (Int32 × HS) :=
  if (gI S 1208 a) = (0 : Int32) then
  bd1 (gR S 1204 a) fun t14 =>
  if inB (gI S 1207 a) (N t14) = true then
  if (aI S t14 (gI S 1207 a).toNatClampNeg) = (2 : Int32) then
  s_X12_takeNumber_J28 N a p0 p1 S
  else
  bd1 (s_X12_wrong N a 1 S) fun S17 =>
  s_X12_takeNumber_J70 N a S17
  else none
  else
  s_X12_takeNumber_J28 N a p0 p1 S
set_option maxRecDepth 100000 in
set_option maxHeartbeats 4000000 in
theorem b_X12_takeNumber_70 {p : Program} {l : Launch} {e : Env} {s : State} {m : MethodId} {args : Array Value} {below : List Frame} {meth : Method} {c : Code} {V : EV} {G : GS} {r : Int32} {S' : HS} (C : CX p s m args meth c RX12 cX12_takeNumber 3 (some .int) V G) : ∀ (v0 : Nat) (h_v0 : v0 ∈ G.1) (k_v0 : G.2.1 v0 = 12) (S : HS) (H : Heap) (locs : List Loc) (ls : Array Slot), s_X12_takeNumber_J70 G.2.2 v0 S = some (r, S') → HP V G S H → va_S (AG G s.heap.size) s.heap H locs → WT G S → lv_has ls 3 [(0, .ref v0)] → W p l e (RM 1 29) s m args below meth c H locs 0 0 (MQ below (QI V G S' r s.heap.size) args s 0 0 (AG G s.heap.size)) (F0 m 70 ls []) := by
  intro v0 h_v0 k_v0 S H locs ls hf hP hS hW hl
  have hx := C.1
  have hb := C.2.1
  unfold s_X12_takeNumber_J70 at hf
  refine lv_aload_n hx hb dX12_takeNumber_70 rfl (lv_at hl 0 rfl) ?_
  refine gf_X12_144 C hP h_v0 k_v0 dX12_takeNumber_71 ?_
  refine lv_if_le (tgt := 79) hx hb dX12_takeNumber_74 (by decide) (fun c3 => ?_) (fun c3 => ?_)
  · have hf := if_t c3 hf
    refine lv_aload_n hx hb dX12_takeNumber_79 rfl (lv_at hl 0 rfl) ?_
    refine lv_dup hx hb dX12_takeNumber_80 rfl ?_
    refine gf_X12_141 C hP h_v0 k_v0 dX12_takeNumber_81 ?_
    refine lv_iconst (v := 1) hx hb dX12_takeNumber_84 rfl ?_
    refine lv_iadd hx hb dX12_takeNumber_85 ?_
    obtain ⟨S4, eS4, hf⟩ := bnd_e hf
    refine pf_X12_141 C hP hS h_v0 k_v0 eS4 dX12_takeNumber_86 (fun H locs hP hS => ?_)
    have hW : WT G S4 := by rw [eS4]; exact hW
    refine lv_aload_n hx hb dX12_takeNumber_89 rfl (lv_at hl 0 rfl) ?_
    refine gf_X12_30 C hP h_v0 k_v0 dX12_takeNumber_90 ?_
    obtain ⟨t5, et5, hf⟩ := bd1_e hf
    obtain ⟨h_t5, k_t5⟩ := wt_r hW h_v0 k_v0 (by decide) et5
    have k_t5 : G.2.1 t5 = 15 := k_t5
    rw [et5]
    refine lv_aload_n hx hb dX12_takeNumber_93 rfl (lv_at hl 0 rfl) ?_
    refine gf_X12_141 C hP h_v0 k_v0 dX12_takeNumber_94 ?_
    refine lv_iconst (v := 1) hx hb dX12_takeNumber_97 rfl ?_
    refine lv_isub hx hb dX12_takeNumber_98 ?_
    obtain ⟨h6, hf⟩ := if_s hf
    refine x_lald C hP h_t5 k_t5 h6 dX12_takeNumber_99 ?_
    refine lv_l2i hx hb dX12_takeNumber_100 rfl ?_
    cases hf
    exact x_reti C hP hS hW dX12_takeNumber_101
  · have hf := if_f c3 hf
    refine lv_iconst (v := 0) hx hb dX12_takeNumber_77 rfl ?_
    cases hf
    exact x_reti C hP hS hW dX12_takeNumber_78
set_option maxRecDepth 100000 in
set_option maxHeartbeats 4000000 in
theorem b_X12_takeNumber_65 {p : Program} {l : Launch} {e : Env} {s : State} {m : MethodId} {args : Array Value} {below : List Frame} {meth : Method} {c : Code} {V : EV} {G : GS} {r : Int32} {S' : HS} (C : CX p s m args meth c RX12 cX12_takeNumber 3 (some .int) V G) : ∀ (v0 : Nat) (h_v0 : v0 ∈ G.1) (k_v0 : G.2.1 v0 = 12) (S : HS) (H : Heap) (locs : List Loc) (ls : Array Slot), s_X12_takeNumber_J65 G.2.2 v0 S = some (r, S') → HP V G S H → va_S (AG G s.heap.size) s.heap H locs → WT G S → lv_has ls 3 [(0, .ref v0)] → W p l e (RM 1 29) s m args below meth c H locs 0 0 (MQ below (QI V G S' r s.heap.size) args s 0 0 (AG G s.heap.size)) (F0 m 65 ls []) := by
  intro v0 h_v0 k_v0 S H locs ls hf hP hS hW hl
  have hx := C.1
  have hb := C.2.1
  unfold s_X12_takeNumber_J65 at hf
  refine lv_aload_n hx hb dX12_takeNumber_65 rfl (lv_at hl 0 rfl) ?_
  refine lv_iconst (v := 4) hx hb dX12_takeNumber_66 rfl ?_
  obtain ⟨S10, eS10, hf⟩ := bd1_e hf
  refine x_aft_v (x_runV (As := [.int 4]) (rest := []) C hP hS (c_X12_wrong (l := l) C.2.2.2.2.2.2.2.2.2.1 hW h_v0 k_v0 eS10 H.size) h_v0 k_v0 (by decide) rfl rfl km_X12_wrong ki_X12_wrong qm_X12_150 ⟨(Nat.le_of_ble_eq_true rfl), (Nat.le_of_ble_eq_true rfl)⟩ rfl hl.1 rfl (Nat.le_of_ble_eq_true rfl) ⟨Nat.zero_le _, Nat.zero_le _⟩ dX12_takeNumber_67) hS (fun H locs hP hS hW => ?_)
  exact b_X12_takeNumber_70 C v0 h_v0 k_v0 S10 H locs _ hf hP hS hW (lv_sub hl [0] rfl)
set_option maxRecDepth 100000 in
set_option maxHeartbeats 4000000 in
theorem b_X12_takeNumber_28 {p : Program} {l : Launch} {e : Env} {s : State} {m : MethodId} {args : Array Value} {below : List Frame} {meth : Method} {c : Code} {V : EV} {G : GS} {r : Int32} {S' : HS} (C : CX p s m args meth c RX12 cX12_takeNumber 3 (some .int) V G) : ∀ (v0 : Nat) (v1 : Int32) (v2 : Int32) (h_v0 : v0 ∈ G.1) (k_v0 : G.2.1 v0 = 12) (S : HS) (H : Heap) (locs : List Loc) (ls : Array Slot), s_X12_takeNumber_J28 G.2.2 v0 v1 v2 S = some (r, S') → HP V G S H → va_S (AG G s.heap.size) s.heap H locs → WT G S → lv_has ls 3 [(0, .ref v0), (1, .int v1), (2, .int v2)] → W p l e (RM 1 29) s m args below meth c H locs 0 0 (MQ below (QI V G S' r s.heap.size) args s 0 0 (AG G s.heap.size)) (F0 m 28 ls []) := by
  intro v0 v1 v2 h_v0 k_v0 S H locs ls hf hP hS hW hl
  have hx := C.1
  have hb := C.2.1
  unfold s_X12_takeNumber_J28 at hf
  refine lv_aload_n hx hb dX12_takeNumber_28 rfl (lv_at hl 0 rfl) ?_
  refine gf_X12_144 C hP h_v0 k_v0 dX12_takeNumber_29 ?_
  refine lv_if_ne (tgt := 70) hx hb dX12_takeNumber_32 (by decide) (fun c2 => ?_) (fun c2 => ?_)
  · have hf := if_f c2 hf
    exact b_X12_takeNumber_70 C v0 h_v0 k_v0 S H locs _ hf hP hS hW (lv_sub hl [0] rfl)
  · have hf := if_t c2 hf
    refine lv_aload_n hx hb dX12_takeNumber_35 rfl (lv_at hl 0 rfl) ?_
    refine gf_X12_30 C hP h_v0 k_v0 dX12_takeNumber_36 ?_
    obtain ⟨t7, et7, hf⟩ := bd1_e hf
    obtain ⟨h_t7, k_t7⟩ := wt_r hW h_v0 k_v0 (by decide) et7
    have k_t7 : G.2.1 t7 = 15 := k_t7
    rw [et7]
    refine lv_aload_n hx hb dX12_takeNumber_39 rfl (lv_at hl 0 rfl) ?_
    refine gf_X12_141 C hP h_v0 k_v0 dX12_takeNumber_40 ?_
    obtain ⟨h8, hf⟩ := if_s hf
    refine x_lald C hP h_t7 k_t7 h8 dX12_takeNumber_43 ?_
    refine lv_iload_n hx hb dX12_takeNumber_44 rfl (lv_at hl 1 rfl) ?_
    refine lv_i2l hx hb dX12_takeNumber_45 rfl ?_
    refine W.lcmp hx hb dX12_takeNumber_46 ?_
    refine lv_if_lt (tgt := 65) hx hb dX12_takeNumber_47 (by decide) (fun c9 => ?_) (fun c9 => ?_)
    · have hf := if_t c9 hf
      exact b_X12_takeNumber_65 C v0 h_v0 k_v0 S H locs _ hf hP hS hW (lv_sub hl [0] rfl)
    · have hf := if_f c9 hf
      refine lv_aload_n hx hb dX12_takeNumber_50 rfl (lv_at hl 0 rfl) ?_
      refine gf_X12_30 C hP h_v0 k_v0 dX12_takeNumber_51 ?_
      obtain ⟨t11, et11, hf⟩ := bd1_e hf
      obtain ⟨h_t11, k_t11⟩ := wt_r hW h_v0 k_v0 (by decide) et11
      have k_t11 : G.2.1 t11 = 15 := k_t11
      rw [et11]
      refine lv_aload_n hx hb dX12_takeNumber_54 rfl (lv_at hl 0 rfl) ?_
      refine gf_X12_141 C hP h_v0 k_v0 dX12_takeNumber_55 ?_
      obtain ⟨h12, hf⟩ := if_s hf
      refine x_lald C hP h_t11 k_t11 h12 dX12_takeNumber_58 ?_
      refine lv_iload_n hx hb dX12_takeNumber_59 rfl (lv_at hl 2 rfl) ?_
      refine lv_i2l hx hb dX12_takeNumber_60 rfl ?_
      refine W.lcmp hx hb dX12_takeNumber_61 ?_
      refine lv_if_le (tgt := 70) hx hb dX12_takeNumber_62 (by decide) (fun c13 => ?_) (fun c13 => ?_)
      · have hf := if_t c13 hf
        exact b_X12_takeNumber_70 C v0 h_v0 k_v0 S H locs _ hf hP hS hW (lv_sub hl [0] rfl)
      · have hf := if_f c13 hf
        exact b_X12_takeNumber_65 C v0 h_v0 k_v0 S H locs _ hf hP hS hW (lv_sub hl [0] rfl)
set_option maxRecDepth 100000 in
set_option maxHeartbeats 4000000 in
theorem c_X12_takeNumber {l : Launch} {V : EV} {G : GS} {S : HS} {a : Nat} {p0 : Int32} {p1 : Int32} {r : Int32} {S' : HS} (hN : G.1.Nodup) (hW : WT G S) (h_a : a ∈ G.1) (k_a : G.2.1 a = 12) (hf : s_X12_takeNumber G.2.2 a p0 p1 S = some (r, S')) : MetI l yX12_takeNumber cX12_takeNumber 3 .int 1 29 V G S [.ref a, .int p0, .int p1] r S' := by
  intro sz
  refine x_in RX12 rfl (by decide +kernel) hN (Nat.le_of_ble_eq_true rfl) (fun p e s m args below meth c ls hsz hargs hnm C hP hS hl => ?_)
  subst hsz
  have hx := C.1
  have hb := C.2.1
  have hl : lv_has ls 3 [(0, .ref a), (1, .int p0), (2, .int p1)] := hl
  unfold s_X12_takeNumber at hf
  refine lv_aload_n hx hb dX12_takeNumber_0 rfl (lv_at hl 0 rfl) ?_
  refine gf_X12_144 C hP h_a k_a dX12_takeNumber_1 ?_
  refine lv_if_ne (tgt := 28) hx hb dX12_takeNumber_4 (by decide) (fun c1 => ?_) (fun c1 => ?_)
  · have hf := if_f c1 hf
    exact b_X12_takeNumber_28 C a p0 p1 h_a k_a S s.heap [] _ hf hP hS hW (lv_sub hl [0, 1, 2] rfl)
  · have hf := if_t c1 hf
    refine lv_aload_n hx hb dX12_takeNumber_7 rfl (lv_at hl 0 rfl) ?_
    refine gf_X12_24 C hP h_a k_a dX12_takeNumber_8 ?_
    obtain ⟨t14, et14, hf⟩ := bd1_e hf
    obtain ⟨h_t14, k_t14⟩ := wt_r hW h_a k_a (by decide) et14
    have k_t14 : G.2.1 t14 = 14 := k_t14
    rw [et14]
    refine lv_aload_n hx hb dX12_takeNumber_11 rfl (lv_at hl 0 rfl) ?_
    refine gf_X12_141 C hP h_a k_a dX12_takeNumber_12 ?_
    obtain ⟨h15, hf⟩ := if_s hf
    refine x_iald C hP h_t14 k_t14 h15 dX12_takeNumber_15 ?_
    refine lv_iconst (v := 2) hx hb dX12_takeNumber_16 rfl ?_
    refine lv_icmp_eq (tgt := 28) hx hb dX12_takeNumber_17 (by decide) (fun c16 => ?_) (fun c16 => ?_)
    · have hf := if_t c16 hf
      exact b_X12_takeNumber_28 C a p0 p1 h_a k_a S s.heap [] _ hf hP hS hW (lv_sub hl [0, 1, 2] rfl)
    · have hf := if_f c16 hf
      refine lv_aload_n hx hb dX12_takeNumber_20 rfl (lv_at hl 0 rfl) ?_
      refine lv_iconst (v := 1) hx hb dX12_takeNumber_21 rfl ?_
      obtain ⟨S17, eS17, hf⟩ := bd1_e hf
      refine x_aft_v (x_runV (As := [.int 1]) (rest := []) C hP hS (c_X12_wrong (l := l) C.2.2.2.2.2.2.2.2.2.1 hW h_a k_a eS17 s.heap.size) h_a k_a (by decide) rfl rfl km_X12_wrong ki_X12_wrong qm_X12_150 ⟨(Nat.le_of_ble_eq_true rfl), (Nat.le_of_ble_eq_true rfl)⟩ rfl hl.1 rfl (Nat.le_of_ble_eq_true rfl) ⟨Nat.zero_le _, Nat.zero_le _⟩ dX12_takeNumber_22) hS (fun H locs hP hS hW => ?_)
      refine lv_goto (tgt := 70) hx hb dX12_takeNumber_25 (by decide) ?_
      exact b_X12_takeNumber_70 C a h_a k_a S17 H locs _ hf hP hS hW (lv_sub hl [0] rfl)
def s_X12_readPlan_J38 (N : Nat → Nat) (F : Nat) (k9 : Nat → Int32 → Int32 → Int32 → HS → Option HS) (v0 : Nat) (v1 : Int32) (v2 : Int32) (v3 : Int32) (w0 : Nat) (w1 : Int32) (w2 : Int32) (S : HS) : Option HS :=
  if inB w1 (N w0) = true then
  bnd (wI S w0 (w1.toNatClampNeg) w2) fun S8 =>
  bnd (v3 + Int32.ofInt 1 : Int32) fun x9 =>
  k9 v0 v1 v2 x9 S8
  else none
def s_X12_readPlan_L9 (N : Nat → Nat) (F : Nat) (k45 : Nat → Int32 → Int32 → HS → Option HS) : Nat → Nat → Int32 → Int32 → Int32 → HS → Option HS
  | 0, _, _, _, _, _ => none
  | n + 1, v0, v1, v2, v3, S => if (5 : Int32) ≤ v3 then
  k45 v0 v1 v2 S
  else
  bd1 (gR S 1214 v0) fun t5 =>
  if v2 = (0 : Int32) then
  bd1 (s_X12_regs N v0 S) fun r10 =>
  bd2 (s_X12_takeTold N F v0 4 r10 S) fun r11 S12 =>
  s_X12_readPlan_J38 N F (s_X12_readPlan_L9 N F k45 n) v0 v1 v2 v3 t5 (v1 + v3) r11 S12
  else
  s_X12_readPlan_J38 N F (s_X12_readPlan_L9 N F k45 n) v0 v1 v2 v3 t5 (v1 + v3) 0 S
def s_X12_readPlan_J45 (N : Nat → Nat) (F : Nat) (v0 : Nat) (v1 : Int32) (v2 : Int32) (S : HS) : Option HS :=
  if v2 = (1 : Int32) then
  bd1 (gR S 1214 v0) fun t21 =>
  bd2 (s_X12_takeNumber N v0 0 5 S) fun r22 S23 =>
  if inB (v1 + 1) (N t21) = true then
  bnd (wI S23 t21 ((v1 + 1).toNatClampNeg) r22) fun S25 =>
  some S25
  else none
  else
  if v2 = (3 : Int32) then
  bd1 (gR S 1214 v0) fun t15 =>
  bd1 (s_X12_forms N v0 S) fun r16 =>
  bd2 (s_X12_takeTold N F v0 0 r16 S) fun r17 S18 =>
  if inB (v1 + 1) (N t15) = true then
  bnd (wI S18 t15 ((v1 + 1).toNatClampNeg) r17) fun S20 =>
  some S20
  else none
  else
  some S
def s_X12_readPlan (N : Nat → Nat) (F : Nat) (a : Nat) (p0 : Int32) (p1 : Int32) (S : HS) : Option HS :=
  bd1 (gR S 1214 a) fun t1 =>
  if inB p0 (N t1) = true then
  bnd (wI S t1 (p0.toNatClampNeg) p1) fun S3 =>
  s_X12_readPlan_L9 N F (s_X12_readPlan_J45 N F) F a p0 p1 1 S3
  else none
set_option maxRecDepth 100000 in
set_option maxHeartbeats 4000000 in
theorem b_X12_readPlan_38 {p : Program} {l : Launch} {e : Env} {s : State} {m : MethodId} {args : Array Value} {below : List Frame} {meth : Method} {c : Code} {V : EV} {G : GS} {S' : HS} {F : Nat} (C : CX p s m args meth c RX12 cX12_readPlan 4 none V G) {k9 : Nat → Int32 → Int32 → Int32 → HS → Option HS} (hk9 : ∀ (v0 : Nat) (v1 : Int32) (v2 : Int32) (v3 : Int32) (h_v0 : v0 ∈ G.1) (k_v0 : G.2.1 v0 = 12) (S : HS) (H : Heap) (locs : List Loc) (ls : Array Slot), k9 v0 v1 v2 v3 S = some S' → HP V G S H → va_S (AG G s.heap.size) s.heap H locs → WT G S → lv_has ls 4 [(0, .ref v0), (1, .int v1), (2, .int v2), (3, .int v3)] → W p l e (RM 4 120) s m args below meth c H locs 0 0 (MQ below (QV V G S' s.heap.size) args s 0 0 (AG G s.heap.size)) (F0 m 9 ls [])) : ∀ (v0 : Nat) (v1 : Int32) (v2 : Int32) (v3 : Int32) (w0 : Nat) (w1 : Int32) (w2 : Int32) (h_v0 : v0 ∈ G.1) (k_v0 : G.2.1 v0 = 12) (h_w0 : w0 ∈ G.1) (k_w0 : G.2.1 w0 = 14) (S : HS) (H : Heap) (locs : List Loc) (ls : Array Slot), s_X12_readPlan_J38 G.2.2 F k9 v0 v1 v2 v3 w0 w1 w2 S = some S' → HP V G S H → va_S (AG G s.heap.size) s.heap H locs → WT G S → lv_has ls 4 [(0, .ref v0), (1, .int v1), (2, .int v2), (3, .int v3)] → W p l e (RM 4 120) s m args below meth c H locs 0 0 (MQ below (QV V G S' s.heap.size) args s 0 0 (AG G s.heap.size)) (F0 m 38 ls [.int w2, .int w1, .ref w0]) := by
  intro v0 v1 v2 v3 w0 w1 w2 h_v0 k_v0 h_w0 k_w0 S H locs ls hf hP hS hW hl
  have hx := C.1
  have hb := C.2.1
  unfold s_X12_readPlan_J38 at hf
  obtain ⟨h7, hf⟩ := if_s hf
  obtain ⟨S8, eS8, hf⟩ := bnd_e hf
  refine x_iast C hP hS h_w0 k_w0 h7 eS8 dX12_readPlan_38 (fun H locs hP hS => ?_)
  have hW : WT G S8 := by rw [eS8]; exact hW
  obtain ⟨x9, ex9, hf⟩ := bnd_e hf
  refine lv_iinc (v := x9) (lv' := [(3, .int x9), (0, .ref v0), (1, .int v1), (2, .int v2)]) hx hb dX12_readPlan_39 hl (k := 3) rfl ex9.symm (by decide) rfl (fun ls hl => ?_)
  refine lv_goto (tgt := 9) hx hb dX12_readPlan_42 (by decide) ?_
  exact hk9 v0 v1 v2 x9 h_v0 k_v0 S8 H locs _ hf hP hS hW (lv_sub hl [1, 2, 3, 0] rfl)
set_option maxRecDepth 100000 in
set_option maxHeartbeats 4000000 in
theorem b_X12_readPlan_9 {p : Program} {l : Launch} {e : Env} {s : State} {m : MethodId} {args : Array Value} {below : List Frame} {meth : Method} {c : Code} {V : EV} {G : GS} {S' : HS} {F : Nat} (C : CX p s m args meth c RX12 cX12_readPlan 4 none V G) {k45 : Nat → Int32 → Int32 → HS → Option HS} (hk45 : ∀ (v0 : Nat) (v1 : Int32) (v2 : Int32) (h_v0 : v0 ∈ G.1) (k_v0 : G.2.1 v0 = 12) (S : HS) (H : Heap) (locs : List Loc) (ls : Array Slot), k45 v0 v1 v2 S = some S' → HP V G S H → va_S (AG G s.heap.size) s.heap H locs → WT G S → lv_has ls 4 [(0, .ref v0), (1, .int v1), (2, .int v2)] → W p l e (RM 4 120) s m args below meth c H locs 0 0 (MQ below (QV V G S' s.heap.size) args s 0 0 (AG G s.heap.size)) (F0 m 45 ls [])) : ∀ n : Nat, ∀ (v0 : Nat) (v1 : Int32) (v2 : Int32) (v3 : Int32) (h_v0 : v0 ∈ G.1) (k_v0 : G.2.1 v0 = 12) (S : HS) (H : Heap) (locs : List Loc) (ls : Array Slot), s_X12_readPlan_L9 G.2.2 F k45 n v0 v1 v2 v3 S = some S' → HP V G S H → va_S (AG G s.heap.size) s.heap H locs → WT G S → lv_has ls 4 [(0, .ref v0), (1, .int v1), (2, .int v2), (3, .int v3)] → W p l e (RM 4 120) s m args below meth c H locs 0 0 (MQ below (QV V G S' s.heap.size) args s 0 0 (AG G s.heap.size)) (F0 m 9 ls []) := by
  intro n
  induction n with
  | zero =>
    intro v0 v1 v2 v3 h_v0 k_v0 S H locs ls hf
    rw [s_X12_readPlan_L9] at hf
    cases hf
  | succ n ih =>
    intro v0 v1 v2 v3 h_v0 k_v0 S H locs ls hf hP hS hW hl
    have hx := C.1
    have hb := C.2.1
    rw [s_X12_readPlan_L9] at hf
    refine lv_iload_n hx hb dX12_readPlan_9 rfl (lv_at hl 3 rfl) ?_
    refine lv_iconst (v := 5) hx hb dX12_readPlan_10 rfl ?_
    refine lv_icmp_ge (tgt := 45) hx hb dX12_readPlan_11 (by decide) (fun c4 => ?_) (fun c4 => ?_)
    · have hf := if_t c4 hf
      exact hk45 v0 v1 v2 h_v0 k_v0 S H locs _ hf hP hS hW (lv_sub hl [0, 1, 2] rfl)
    · have hf := if_f c4 hf
      refine lv_aload_n hx hb dX12_readPlan_14 rfl (lv_at hl 0 rfl) ?_
      refine gf_X12_86 C hP h_v0 k_v0 dX12_readPlan_15 ?_
      obtain ⟨t5, et5, hf⟩ := bd1_e hf
      obtain ⟨h_t5, k_t5⟩ := wt_r hW h_v0 k_v0 (by decide) et5
      have k_t5 : G.2.1 t5 = 14 := k_t5
      rw [et5]
      refine lv_iload_n hx hb dX12_readPlan_18 rfl (lv_at hl 1 rfl) ?_
      refine lv_iload_n hx hb dX12_readPlan_19 rfl (lv_at hl 3 rfl) ?_
      refine lv_iadd hx hb dX12_readPlan_20 ?_
      refine lv_iload_n hx hb dX12_readPlan_21 rfl (lv_at hl 2 rfl) ?_
      refine lv_if_ne (tgt := 37) hx hb dX12_readPlan_22 (by decide) (fun c6 => ?_) (fun c6 => ?_)
      · have hf := if_f c6 hf
        refine lv_iconst (v := 0) hx hb dX12_readPlan_37 rfl ?_
        exact b_X12_readPlan_38 C ih v0 v1 v2 v3 t5 (v1 + v3) 0 h_v0 k_v0 h_t5 k_t5 S H locs _ hf hP hS hW (lv_sub hl [0, 1, 2, 3] rfl)
      · have hf := if_t c6 hf
        refine lv_aload_n hx hb dX12_readPlan_25 rfl (lv_at hl 0 rfl) ?_
        refine lv_iconst (v := 4) hx hb dX12_readPlan_26 rfl ?_
        refine lv_aload_n hx hb dX12_readPlan_27 rfl (lv_at hl 0 rfl) ?_
        obtain ⟨r10, er10, hf⟩ := bd1_e hf
        refine x_aft_i (x_runV (As := []) (rest := [.int 4, .ref v0, .int (v1 + v3), .ref t5]) C hP hS (c_X12_regs (l := l) C.2.2.2.2.2.2.2.2.2.1 hW h_v0 k_v0 er10 H.size) h_v0 k_v0 (by decide) rfl rfl km_X12_regs ki_X12_regs qm_X12_212 ⟨(Nat.le_of_ble_eq_true rfl), (Nat.le_of_ble_eq_true rfl)⟩ rfl hl.1 rfl (Nat.le_of_ble_eq_true rfl) ⟨Nat.zero_le _, Nat.zero_le _⟩ dX12_readPlan_28) hS (fun H locs hP hS hW => ?_)
        obtain ⟨r11, S12, eS12, hf⟩ := bd2_e hf
        refine x_aft_i (x_runV (As := [.int 4, .int r10]) (rest := [.int (v1 + v3), .ref t5]) C hP hS (c_X12_takeTold (l := l) C.2.2.2.2.2.2.2.2.2.1 hW h_v0 k_v0 eS12 H.size) h_v0 k_v0 (by decide) rfl rfl km_X12_takeTold ki_X12_takeTold qm_X12_216 ⟨(Nat.le_of_ble_eq_true rfl), (Nat.le_of_ble_eq_true rfl)⟩ rfl hl.1 rfl (Nat.le_of_ble_eq_true rfl) ⟨Nat.zero_le _, Nat.zero_le _⟩ dX12_readPlan_31) hS (fun H locs hP hS hW => ?_)
        refine lv_goto (tgt := 38) hx hb dX12_readPlan_34 (by decide) ?_
        exact b_X12_readPlan_38 C ih v0 v1 v2 v3 t5 (v1 + v3) r11 h_v0 k_v0 h_t5 k_t5 S12 H locs _ hf hP hS hW (lv_sub hl [0, 1, 2, 3] rfl)
set_option maxRecDepth 100000 in
set_option maxHeartbeats 4000000 in
theorem b_X12_readPlan_45 {p : Program} {l : Launch} {e : Env} {s : State} {m : MethodId} {args : Array Value} {below : List Frame} {meth : Method} {c : Code} {V : EV} {G : GS} {S' : HS} {F : Nat} (C : CX p s m args meth c RX12 cX12_readPlan 4 none V G) : ∀ (v0 : Nat) (v1 : Int32) (v2 : Int32) (h_v0 : v0 ∈ G.1) (k_v0 : G.2.1 v0 = 12) (S : HS) (H : Heap) (locs : List Loc) (ls : Array Slot), s_X12_readPlan_J45 G.2.2 F v0 v1 v2 S = some S' → HP V G S H → va_S (AG G s.heap.size) s.heap H locs → WT G S → lv_has ls 4 [(0, .ref v0), (1, .int v1), (2, .int v2)] → W p l e (RM 4 120) s m args below meth c H locs 0 0 (MQ below (QV V G S' s.heap.size) args s 0 0 (AG G s.heap.size)) (F0 m 45 ls []) := by
  intro v0 v1 v2 h_v0 k_v0 S H locs ls hf hP hS hW hl
  have hx := C.1
  have hb := C.2.1
  unfold s_X12_readPlan_J45 at hf
  refine lv_iload_n hx hb dX12_readPlan_45 rfl (lv_at hl 2 rfl) ?_
  refine lv_iconst (v := 1) hx hb dX12_readPlan_46 rfl ?_
  refine lv_icmp_ne (tgt := 67) hx hb dX12_readPlan_47 (by decide) (fun c13 => ?_) (fun c13 => ?_)
  · have hf := if_f c13 hf
    refine lv_iload_n hx hb dX12_readPlan_67 rfl (lv_at hl 2 rfl) ?_
    refine lv_iconst (v := 3) hx hb dX12_readPlan_68 rfl ?_
    refine lv_icmp_ne (tgt := 89) hx hb dX12_readPlan_69 (by decide) (fun c14 => ?_) (fun c14 => ?_)
    · have hf := if_f c14 hf
      cases hf
      exact x_retv C hP hS hW dX12_readPlan_89
    · have hf := if_t c14 hf
      refine lv_aload_n hx hb dX12_readPlan_72 rfl (lv_at hl 0 rfl) ?_
      refine gf_X12_86 C hP h_v0 k_v0 dX12_readPlan_73 ?_
      obtain ⟨t15, et15, hf⟩ := bd1_e hf
      obtain ⟨h_t15, k_t15⟩ := wt_r hW h_v0 k_v0 (by decide) et15
      have k_t15 : G.2.1 t15 = 14 := k_t15
      rw [et15]
      refine lv_iload_n hx hb dX12_readPlan_76 rfl (lv_at hl 1 rfl) ?_
      refine lv_iconst (v := 1) hx hb dX12_readPlan_77 rfl ?_
      refine lv_iadd hx hb dX12_readPlan_78 ?_
      refine lv_aload_n hx hb dX12_readPlan_79 rfl (lv_at hl 0 rfl) ?_
      refine lv_iconst (v := 0) hx hb dX12_readPlan_80 rfl ?_
      refine lv_aload_n hx hb dX12_readPlan_81 rfl (lv_at hl 0 rfl) ?_
      obtain ⟨r16, er16, hf⟩ := bd1_e hf
      refine x_aft_i (x_runV (As := []) (rest := [.int 0, .ref v0, .int (v1 + 1), .ref t15]) C hP hS (c_X12_forms (l := l) C.2.2.2.2.2.2.2.2.2.1 hW h_v0 k_v0 er16 H.size) h_v0 k_v0 (by decide) rfl rfl km_X12_forms ki_X12_forms qm_X12_219 ⟨(Nat.le_of_ble_eq_true rfl), (Nat.le_of_ble_eq_true rfl)⟩ rfl hl.1 rfl (Nat.le_of_ble_eq_true rfl) ⟨Nat.zero_le _, Nat.zero_le _⟩ dX12_readPlan_82) hS (fun H locs hP hS hW => ?_)
      obtain ⟨r17, S18, eS18, hf⟩ := bd2_e hf
      refine x_aft_i (x_runV (As := [.int 0, .int r16]) (rest := [.int (v1 + 1), .ref t15]) C hP hS (c_X12_takeTold (l := l) C.2.2.2.2.2.2.2.2.2.1 hW h_v0 k_v0 eS18 H.size) h_v0 k_v0 (by decide) rfl rfl km_X12_takeTold ki_X12_takeTold qm_X12_216 ⟨(Nat.le_of_ble_eq_true rfl), (Nat.le_of_ble_eq_true rfl)⟩ rfl hl.1 rfl (Nat.le_of_ble_eq_true rfl) ⟨Nat.zero_le _, Nat.zero_le _⟩ dX12_readPlan_85) hS (fun H locs hP hS hW => ?_)
      obtain ⟨h19, hf⟩ := if_s hf
      obtain ⟨S20, eS20, hf⟩ := bnd_e hf
      refine x_iast C hP hS h_t15 k_t15 h19 eS20 dX12_readPlan_88 (fun H locs hP hS => ?_)
      have hW : WT G S20 := by rw [eS20]; exact hW
      cases hf
      exact x_retv C hP hS hW dX12_readPlan_89
  · have hf := if_t c13 hf
    refine lv_aload_n hx hb dX12_readPlan_50 rfl (lv_at hl 0 rfl) ?_
    refine gf_X12_86 C hP h_v0 k_v0 dX12_readPlan_51 ?_
    obtain ⟨t21, et21, hf⟩ := bd1_e hf
    obtain ⟨h_t21, k_t21⟩ := wt_r hW h_v0 k_v0 (by decide) et21
    have k_t21 : G.2.1 t21 = 14 := k_t21
    rw [et21]
    refine lv_iload_n hx hb dX12_readPlan_54 rfl (lv_at hl 1 rfl) ?_
    refine lv_iconst (v := 1) hx hb dX12_readPlan_55 rfl ?_
    refine lv_iadd hx hb dX12_readPlan_56 ?_
    refine lv_aload_n hx hb dX12_readPlan_57 rfl (lv_at hl 0 rfl) ?_
    refine lv_iconst (v := 0) hx hb dX12_readPlan_58 rfl ?_
    refine lv_iconst (v := 5) hx hb dX12_readPlan_59 rfl ?_
    obtain ⟨r22, S23, eS23, hf⟩ := bd2_e hf
    refine x_aft_i (x_runV (As := [.int 0, .int 5]) (rest := [.int (v1 + 1), .ref t21]) C hP hS (c_X12_takeNumber (l := l) C.2.2.2.2.2.2.2.2.2.1 hW h_v0 k_v0 eS23 H.size) h_v0 k_v0 (by decide) rfl rfl km_X12_takeNumber ki_X12_takeNumber qm_X12_162 ⟨(Nat.le_of_ble_eq_true rfl), (Nat.le_of_ble_eq_true rfl)⟩ rfl hl.1 rfl (Nat.le_of_ble_eq_true rfl) ⟨Nat.zero_le _, Nat.zero_le _⟩ dX12_readPlan_60) hS (fun H locs hP hS hW => ?_)
    obtain ⟨h24, hf⟩ := if_s hf
    obtain ⟨S25, eS25, hf⟩ := bnd_e hf
    refine x_iast C hP hS h_t21 k_t21 h24 eS25 dX12_readPlan_63 (fun H locs hP hS => ?_)
    have hW : WT G S25 := by rw [eS25]; exact hW
    refine lv_goto (tgt := 89) hx hb dX12_readPlan_64 (by decide) ?_
    cases hf
    exact x_retv C hP hS hW dX12_readPlan_89
set_option maxRecDepth 100000 in
set_option maxHeartbeats 4000000 in
theorem c_X12_readPlan {l : Launch} {V : EV} {G : GS} {S : HS} {F : Nat} {a : Nat} {p0 : Int32} {p1 : Int32} {S' : HS} (hN : G.1.Nodup) (hW : WT G S) (h_a : a ∈ G.1) (k_a : G.2.1 a = 12) (hf : s_X12_readPlan G.2.2 F a p0 p1 S = some S') : MetV l yX12_readPlan cX12_readPlan 4 4 120 V G S [.ref a, .int p0, .int p1] S' := by
  intro sz
  refine x_in RX12 rfl (by decide +kernel) hN (Nat.le_of_ble_eq_true rfl) (fun p e s m args below meth c ls hsz hargs hnm C hP hS hl => ?_)
  subst hsz
  have hx := C.1
  have hb := C.2.1
  have hl : lv_has ls 4 [(0, .ref a), (1, .int p0), (2, .int p1)] := hl
  unfold s_X12_readPlan at hf
  refine lv_aload_n hx hb dX12_readPlan_0 rfl (lv_at hl 0 rfl) ?_
  refine gf_X12_86 C hP h_a k_a dX12_readPlan_1 ?_
  obtain ⟨t1, et1, hf⟩ := bd1_e hf
  obtain ⟨h_t1, k_t1⟩ := wt_r hW h_a k_a (by decide) et1
  have k_t1 : G.2.1 t1 = 14 := k_t1
  rw [et1]
  refine lv_iload_n hx hb dX12_readPlan_4 rfl (lv_at hl 1 rfl) ?_
  refine lv_iload_n hx hb dX12_readPlan_5 rfl (lv_at hl 2 rfl) ?_
  obtain ⟨h2, hf⟩ := if_s hf
  obtain ⟨S3, eS3, hf⟩ := bnd_e hf
  refine x_iast C hP hS h_t1 k_t1 h2 eS3 dX12_readPlan_6 (fun H locs hP hS => ?_)
  have hW : WT G S3 := by rw [eS3]; exact hW
  refine lv_iconst (v := 1) hx hb dX12_readPlan_7 rfl ?_
  refine lv_istore_n (lv' := [(3, .int 1), (0, .ref a), (1, .int p0), (2, .int p1)]) hx hb dX12_readPlan_8 rfl hl (by decide) rfl (fun ls hl => ?_)
  exact b_X12_readPlan_9 C (b_X12_readPlan_45 C) F a p0 p1 1 h_a k_a S3 H locs _ hf hP hS hW (lv_sub hl [1, 2, 3, 0] rfl)
def s_X12_takeSign (N : Nat → Nat) (a : Nat) (p0 : Int32) (S : HS) : Option HS :=
  bd1 (s_X12_isSign N a p0 S) fun r1 =>
  if r1 = (0 : Int32) then
  bd1 (s_X12_wrong N a 1 S) fun S4 =>
  some S4
  else
  bnd (uI S 1207 a ((gI S 1207 a) + 1)) fun S5 =>
  some S5
set_option maxRecDepth 100000 in
set_option maxHeartbeats 4000000 in
theorem c_X12_takeSign {l : Launch} {V : EV} {G : GS} {S : HS} {a : Nat} {p0 : Int32} {S' : HS} (hN : G.1.Nodup) (hW : WT G S) (h_a : a ∈ G.1) (k_a : G.2.1 a = 12) (hf : s_X12_takeSign G.2.2 a p0 S = some S') : MetV l yX12_takeSign cX12_takeSign 2 1 29 V G S [.ref a, .int p0] S' := by
  intro sz
  refine x_in RX12 rfl (by decide +kernel) hN (Nat.le_of_ble_eq_true rfl) (fun p e s m args below meth c ls hsz hargs hnm C hP hS hl => ?_)
  subst hsz
  have hx := C.1
  have hb := C.2.1
  have hl : lv_has ls 2 [(0, .ref a), (1, .int p0)] := hl
  unfold s_X12_takeSign at hf
  refine lv_aload_n hx hb dX12_takeSign_0 rfl (lv_at hl 0 rfl) ?_
  refine lv_iload_n hx hb dX12_takeSign_1 rfl (lv_at hl 1 rfl) ?_
  obtain ⟨r1, er1, hf⟩ := bd1_e hf
  refine x_aft_z (x_runV (As := [.int p0]) (rest := []) C hP hS (c_X12_isSign (l := l) C.2.2.2.2.2.2.2.2.2.1 hW h_a k_a er1 s.heap.size) h_a k_a (by decide) rfl rfl km_X12_isSign ki_X12_isSign qm_X12_147 ⟨(Nat.le_of_ble_eq_true rfl), (Nat.le_of_ble_eq_true rfl)⟩ rfl hl.1 rfl (Nat.le_of_ble_eq_true rfl) ⟨Nat.zero_le _, Nat.zero_le _⟩ dX12_takeSign_2) hS (fun H locs hP hS hW z2 => ?_)
  refine lv_if_eq (tgt := 21) hx hb dX12_takeSign_5 (by decide) (fun c3 => ?_) (fun c3 => ?_)
  · have hf := if_t c3 hf
    refine lv_aload_n hx hb dX12_takeSign_21 rfl (lv_at hl 0 rfl) ?_
    refine lv_iconst (v := 1) hx hb dX12_takeSign_22 rfl ?_
    obtain ⟨S4, eS4, hf⟩ := bd1_e hf
    refine x_aft_v (x_runV (As := [.int 1]) (rest := []) C hP hS (c_X12_wrong (l := l) C.2.2.2.2.2.2.2.2.2.1 hW h_a k_a eS4 H.size) h_a k_a (by decide) rfl rfl km_X12_wrong ki_X12_wrong qm_X12_150 ⟨(Nat.le_of_ble_eq_true rfl), (Nat.le_of_ble_eq_true rfl)⟩ rfl hl.1 rfl (Nat.le_of_ble_eq_true rfl) ⟨Nat.zero_le _, Nat.zero_le _⟩ dX12_takeSign_23) hS (fun H locs hP hS hW => ?_)
    cases hf
    exact x_retv C hP hS hW dX12_takeSign_26
  · have hf := if_f c3 hf
    refine lv_aload_n hx hb dX12_takeSign_8 rfl (lv_at hl 0 rfl) ?_
    refine lv_dup hx hb dX12_takeSign_9 rfl ?_
    refine gf_X12_141 C hP h_a k_a dX12_takeSign_10 ?_
    refine lv_iconst (v := 1) hx hb dX12_takeSign_13 rfl ?_
    refine lv_iadd hx hb dX12_takeSign_14 ?_
    obtain ⟨S5, eS5, hf⟩ := bnd_e hf
    refine pf_X12_141 C hP hS h_a k_a eS5 dX12_takeSign_15 (fun H locs hP hS => ?_)
    have hW : WT G S5 := by rw [eS5]; exact hW
    refine lv_goto (tgt := 26) hx hb dX12_takeSign_18 (by decide) ?_
    cases hf
    exact x_retv C hP hS hW dX12_takeSign_26
def s_X12_plan_J88 (N : Nat → Nat) (F : Nat) (k11 : Nat → Int32 → HS → Option (Int32 × HS)) (v0 : Nat) (v1 : Int32) (S : HS) : Option (Int32 × HS) :=
  bd1 (s_X12_takeSign N v0 59 S) fun S13 =>
  k11 v0 v1 S13
def s_X12_plan_L11 (N : Nat → Nat) (F : Nat) (k97 : Nat → Int32 → HS → Option (Int32 × HS)) : Nat → Nat → Int32 → HS → Option (Int32 × HS)
  | 0, _, _, _ => none
  | n + 1, v0, v1, S => if (gI S 1208 v0) = (0 : Int32) then
  bd1 (gR S 1204 v0) fun t4 =>
  if inB (gI S 1207 v0) (N t4) = true then
  if (aI S t4 (gI S 1207 v0).toNatClampNeg) = (0 : Int32) then
  k97 v0 v1 S
  else
  bd1 (s_X12_wordHere N F v0 5 4 S) fun r7 =>
  if (0 : Int32) ≤ r7 then
  if v1 = (30 : Int32) then
  bd1 (s_X12_wrong N v0 5 S) fun S14 =>
  s_X12_plan_J88 N F (s_X12_plan_L11 N F k97 n) v0 v1 S14
  else
  bnd (uI S 1207 v0 ((gI S 1207 v0) + 1)) fun S10 =>
  bd1 (s_X12_readPlan N F v0 (155 + (5 * v1)) r7 S10) fun S11 =>
  bnd (v1 + Int32.ofInt 1 : Int32) fun x12 =>
  s_X12_plan_J88 N F (s_X12_plan_L11 N F k97 n) v0 x12 S11
  else
  bd1 (s_X12_wrong N v0 1 S) fun S15 =>
  s_X12_plan_J88 N F (s_X12_plan_L11 N F k97 n) v0 v1 S15
  else none
  else
  k97 v0 v1 S
def s_X12_plan_L118 (N : Nat → Nat) (F : Nat) : Nat → Nat → Int32 → Int32 → HS → Option (Int32 × HS)
  | 0, _, _, _, _ => none
  | n + 1, v0, v1, v2, S => if (5 * v1) ≤ v2 then
  some (0, S)
  else
  bd1 (gR S 1214 v0) fun t21 =>
  bd1 (gR S 1214 v0) fun t22 =>
  if inB (155 + v2) (N t22) = true then
  if inB (1 + v2) (N t21) = true then
  bnd (wI S t21 ((1 + v2).toNatClampNeg) (aI S t22 (155 + v2).toNatClampNeg)) fun S25 =>
  bnd (v2 + Int32.ofInt 1 : Int32) fun x26 =>
  s_X12_plan_L118 N F n v0 v1 x26 S25
  else none
  else none
def s_X12_plan_J97 (N : Nat → Nat) (F : Nat) (v0 : Nat) (v1 : Int32) (S : HS) : Option (Int32 × HS) :=
  if (gI S 1208 v0) ≤ (0 : Int32) then
  bd1 (gR S 1214 v0) fun t17 =>
  if inB (0 : Int32) (N t17) = true then
  bnd (wI S t17 ((0 : Int32).toNatClampNeg) v1) fun S19 =>
  s_X12_plan_L118 N F F v0 v1 0 S19
  else none
  else
  some (gI S 1208 v0, S)
def s_X12_plan (N : Nat → Nat) (F : Nat) (a : Nat) (S : HS) : Option (Int32 × HS) :=
  bnd (uI S 1200 a 0) fun S1 =>
  bd1 (s_X12_cutAll N F a S1) fun S2 =>
  s_X12_plan_L11 N F (s_X12_plan_J97 N F) F a 0 S2
set_option maxRecDepth 100000 in
set_option maxHeartbeats 4000000 in
theorem b_X12_plan_88 {p : Program} {l : Launch} {e : Env} {s : State} {m : MethodId} {args : Array Value} {below : List Frame} {meth : Method} {c : Code} {V : EV} {G : GS} {r : Int32} {S' : HS} {F : Nat} (C : CX p s m args meth c RX12 cX12_plan 3 (some .int) V G) {k11 : Nat → Int32 → HS → Option (Int32 × HS)} (hk11 : ∀ (v0 : Nat) (v1 : Int32) (h_v0 : v0 ∈ G.1) (k_v0 : G.2.1 v0 = 12) (S : HS) (H : Heap) (locs : List Loc) (ls : Array Slot), k11 v0 v1 S = some (r, S') → HP V G S H → va_S (AG G s.heap.size) s.heap H locs → WT G S → lv_has ls 3 [(0, .ref v0), (1, .int v1)] → W p l e (RM 5 151) s m args below meth c H locs 0 0 (MQ below (QI V G S' r s.heap.size) args s 0 0 (AG G s.heap.size)) (F0 m 11 ls [])) : ∀ (v0 : Nat) (v1 : Int32) (h_v0 : v0 ∈ G.1) (k_v0 : G.2.1 v0 = 12) (S : HS) (H : Heap) (locs : List Loc) (ls : Array Slot), s_X12_plan_J88 G.2.2 F k11 v0 v1 S = some (r, S') → HP V G S H → va_S (AG G s.heap.size) s.heap H locs → WT G S → lv_has ls 3 [(0, .ref v0), (1, .int v1)] → W p l e (RM 5 151) s m args below meth c H locs 0 0 (MQ below (QI V G S' r s.heap.size) args s 0 0 (AG G s.heap.size)) (F0 m 88 ls []) := by
  intro v0 v1 h_v0 k_v0 S H locs ls hf hP hS hW hl
  have hx := C.1
  have hb := C.2.1
  unfold s_X12_plan_J88 at hf
  refine lv_aload_n hx hb dX12_plan_88 rfl (lv_at hl 0 rfl) ?_
  refine lv_bipush (v := 59) hx hb dX12_plan_89 kc_bipush_59 ?_
  obtain ⟨S13, eS13, hf⟩ := bd1_e hf
  refine x_aft_v (x_runV (As := [.int 59]) (rest := []) C hP hS (c_X12_takeSign (l := l) C.2.2.2.2.2.2.2.2.2.1 hW h_v0 k_v0 eS13 H.size) h_v0 k_v0 (by decide) rfl rfl km_X12_takeSign ki_X12_takeSign qm_X12_185 ⟨(Nat.le_of_ble_eq_true rfl), (Nat.le_of_ble_eq_true rfl)⟩ rfl hl.1 rfl (Nat.le_of_ble_eq_true rfl) ⟨Nat.zero_le _, Nat.zero_le _⟩ dX12_plan_91) hS (fun H locs hP hS hW => ?_)
  refine lv_goto (tgt := 11) hx hb dX12_plan_94 (by decide) ?_
  exact hk11 v0 v1 h_v0 k_v0 S13 H locs _ hf hP hS hW (lv_sub hl [0, 1] rfl)
set_option maxRecDepth 100000 in
set_option maxHeartbeats 4000000 in
theorem b_X12_plan_11 {p : Program} {l : Launch} {e : Env} {s : State} {m : MethodId} {args : Array Value} {below : List Frame} {meth : Method} {c : Code} {V : EV} {G : GS} {r : Int32} {S' : HS} {F : Nat} (C : CX p s m args meth c RX12 cX12_plan 3 (some .int) V G) {k97 : Nat → Int32 → HS → Option (Int32 × HS)} (hk97 : ∀ (v0 : Nat) (v1 : Int32) (h_v0 : v0 ∈ G.1) (k_v0 : G.2.1 v0 = 12) (S : HS) (H : Heap) (locs : List Loc) (ls : Array Slot), k97 v0 v1 S = some (r, S') → HP V G S H → va_S (AG G s.heap.size) s.heap H locs → WT G S → lv_has ls 3 [(0, .ref v0), (1, .int v1)] → W p l e (RM 5 151) s m args below meth c H locs 0 0 (MQ below (QI V G S' r s.heap.size) args s 0 0 (AG G s.heap.size)) (F0 m 97 ls [])) : ∀ n : Nat, ∀ (v0 : Nat) (v1 : Int32) (h_v0 : v0 ∈ G.1) (k_v0 : G.2.1 v0 = 12) (S : HS) (H : Heap) (locs : List Loc) (ls : Array Slot), s_X12_plan_L11 G.2.2 F k97 n v0 v1 S = some (r, S') → HP V G S H → va_S (AG G s.heap.size) s.heap H locs → WT G S → lv_has ls 3 [(0, .ref v0), (1, .int v1)] → W p l e (RM 5 151) s m args below meth c H locs 0 0 (MQ below (QI V G S' r s.heap.size) args s 0 0 (AG G s.heap.size)) (F0 m 11 ls []) := by
  intro n
  induction n with
  | zero =>
    intro v0 v1 h_v0 k_v0 S H locs ls hf
    rw [s_X12_plan_L11] at hf
    cases hf
  | succ n ih =>
    intro v0 v1 h_v0 k_v0 S H locs ls hf hP hS hW hl
    have hx := C.1
    have hb := C.2.1
    rw [s_X12_plan_L11] at hf
    refine lv_aload_n hx hb dX12_plan_11 rfl (lv_at hl 0 rfl) ?_
    refine gf_X12_144 C hP h_v0 k_v0 dX12_plan_12 ?_
    refine lv_if_ne (tgt := 97) hx hb dX12_plan_15 (by decide) (fun c3 => ?_) (fun c3 => ?_)
    · have hf := if_f c3 hf
      exact hk97 v0 v1 h_v0 k_v0 S H locs _ hf hP hS hW (lv_sub hl [0, 1] rfl)
    · have hf := if_t c3 hf
      refine lv_aload_n hx hb dX12_plan_18 rfl (lv_at hl 0 rfl) ?_
      refine gf_X12_24 C hP h_v0 k_v0 dX12_plan_19 ?_
      obtain ⟨t4, et4, hf⟩ := bd1_e hf
      obtain ⟨h_t4, k_t4⟩ := wt_r hW h_v0 k_v0 (by decide) et4
      have k_t4 : G.2.1 t4 = 14 := k_t4
      rw [et4]
      refine lv_aload_n hx hb dX12_plan_22 rfl (lv_at hl 0 rfl) ?_
      refine gf_X12_141 C hP h_v0 k_v0 dX12_plan_23 ?_
      obtain ⟨h5, hf⟩ := if_s hf
      refine x_iald C hP h_t4 k_t4 h5 dX12_plan_26 ?_
      refine lv_if_eq (tgt := 97) hx hb dX12_plan_27 (by decide) (fun c6 => ?_) (fun c6 => ?_)
      · have hf := if_t c6 hf
        exact hk97 v0 v1 h_v0 k_v0 S H locs _ hf hP hS hW (lv_sub hl [0, 1] rfl)
      · have hf := if_f c6 hf
        refine lv_aload_n hx hb dX12_plan_30 rfl (lv_at hl 0 rfl) ?_
        refine lv_iconst (v := 5) hx hb dX12_plan_31 rfl ?_
        refine lv_iconst (v := 4) hx hb dX12_plan_32 rfl ?_
        obtain ⟨r7, er7, hf⟩ := bd1_e hf
        refine x_aft_i (x_runV (As := [.int 5, .int 4]) (rest := []) C hP hS (c_X12_wordHere (l := l) C.2.2.2.2.2.2.2.2.2.1 hW h_v0 k_v0 er7 H.size) h_v0 k_v0 (by decide) rfl rfl km_X12_wordHere ki_X12_wordHere qm_X12_166 ⟨(Nat.le_of_ble_eq_true rfl), (Nat.le_of_ble_eq_true rfl)⟩ rfl hl.1 rfl (Nat.le_of_ble_eq_true rfl) ⟨Nat.zero_le _, Nat.zero_le _⟩ dX12_plan_33) hS (fun H locs hP hS hW => ?_)
        refine lv_istore_n (lv' := [(2, .int r7), (0, .ref v0), (1, .int v1)]) hx hb dX12_plan_36 rfl hl (by decide) rfl (fun ls hl => ?_)
        refine lv_iload_n hx hb dX12_plan_37 rfl (lv_at hl 0 rfl) ?_
        refine lv_if_ge (tgt := 49) hx hb dX12_plan_38 (by decide) (fun c8 => ?_) (fun c8 => ?_)
        · have hf := if_t c8 hf
          refine lv_iload_n hx hb dX12_plan_49 rfl (lv_at hl 2 rfl) ?_
          refine lv_bipush (v := 30) hx hb dX12_plan_50 kc_bipush_30 ?_
          refine lv_icmp_ne (tgt := 63) hx hb dX12_plan_52 (by decide) (fun c9 => ?_) (fun c9 => ?_)
          · have hf := if_f c9 hf
            refine lv_aload_n hx hb dX12_plan_63 rfl (lv_at hl 1 rfl) ?_
            refine lv_dup hx hb dX12_plan_64 rfl ?_
            refine gf_X12_141 C hP h_v0 k_v0 dX12_plan_65 ?_
            refine lv_iconst (v := 1) hx hb dX12_plan_68 rfl ?_
            refine lv_iadd hx hb dX12_plan_69 ?_
            obtain ⟨S10, eS10, hf⟩ := bnd_e hf
            refine pf_X12_141 C hP hS h_v0 k_v0 eS10 dX12_plan_70 (fun H locs hP hS => ?_)
            have hW : WT G S10 := by rw [eS10]; exact hW
            refine lv_aload_n hx hb dX12_plan_73 rfl (lv_at hl 1 rfl) ?_
            refine lv_sipush (v := 155) hx hb dX12_plan_74 kc_sipush_155 ?_
            refine lv_iconst (v := 5) hx hb dX12_plan_77 rfl ?_
            refine lv_iload_n hx hb dX12_plan_78 rfl (lv_at hl 2 rfl) ?_
            refine lv_imul hx hb dX12_plan_79 ?_
            refine lv_iadd hx hb dX12_plan_80 ?_
            refine lv_iload_n hx hb dX12_plan_81 rfl (lv_at hl 0 rfl) ?_
            obtain ⟨S11, eS11, hf⟩ := bd1_e hf
            refine x_aft_v (x_runV (As := [.int (155 + (5 * v1)), .int r7]) (rest := []) C hP hS (c_X12_readPlan (l := l) C.2.2.2.2.2.2.2.2.2.1 hW h_v0 k_v0 eS11 H.size) h_v0 k_v0 (by decide) rfl rfl km_X12_readPlan ki_X12_readPlan qm_X12_209 ⟨(Nat.le_of_ble_eq_true rfl), (Nat.le_of_ble_eq_true rfl)⟩ rfl hl.1 rfl (Nat.le_of_ble_eq_true rfl) ⟨Nat.zero_le _, Nat.zero_le _⟩ dX12_plan_82) hS (fun H locs hP hS hW => ?_)
            obtain ⟨x12, ex12, hf⟩ := bnd_e hf
            refine lv_iinc (v := x12) (lv' := [(1, .int x12), (2, .int r7), (0, .ref v0)]) hx hb dX12_plan_85 hl (k := 2) rfl ex12.symm (by decide) rfl (fun ls hl => ?_)
            exact b_X12_plan_88 C ih v0 x12 h_v0 k_v0 S11 H locs _ hf hP hS hW (lv_sub hl [2, 0] rfl)
          · have hf := if_t c9 hf
            refine lv_aload_n hx hb dX12_plan_55 rfl (lv_at hl 1 rfl) ?_
            refine lv_iconst (v := 5) hx hb dX12_plan_56 rfl ?_
            obtain ⟨S14, eS14, hf⟩ := bd1_e hf
            refine x_aft_v (x_runV (As := [.int 5]) (rest := []) C hP hS (c_X12_wrong (l := l) C.2.2.2.2.2.2.2.2.2.1 hW h_v0 k_v0 eS14 H.size) h_v0 k_v0 (by decide) rfl rfl km_X12_wrong ki_X12_wrong qm_X12_150 ⟨(Nat.le_of_ble_eq_true rfl), (Nat.le_of_ble_eq_true rfl)⟩ rfl hl.1 rfl (Nat.le_of_ble_eq_true rfl) ⟨Nat.zero_le _, Nat.zero_le _⟩ dX12_plan_57) hS (fun H locs hP hS hW => ?_)
            refine lv_goto (tgt := 88) hx hb dX12_plan_60 (by decide) ?_
            exact b_X12_plan_88 C ih v0 v1 h_v0 k_v0 S14 H locs _ hf hP hS hW (lv_sub hl [1, 2] rfl)
        · have hf := if_f c8 hf
          refine lv_aload_n hx hb dX12_plan_41 rfl (lv_at hl 1 rfl) ?_
          refine lv_iconst (v := 1) hx hb dX12_plan_42 rfl ?_
          obtain ⟨S15, eS15, hf⟩ := bd1_e hf
          refine x_aft_v (x_runV (As := [.int 1]) (rest := []) C hP hS (c_X12_wrong (l := l) C.2.2.2.2.2.2.2.2.2.1 hW h_v0 k_v0 eS15 H.size) h_v0 k_v0 (by decide) rfl rfl km_X12_wrong ki_X12_wrong qm_X12_150 ⟨(Nat.le_of_ble_eq_true rfl), (Nat.le_of_ble_eq_true rfl)⟩ rfl hl.1 rfl (Nat.le_of_ble_eq_true rfl) ⟨Nat.zero_le _, Nat.zero_le _⟩ dX12_plan_43) hS (fun H locs hP hS hW => ?_)
          refine lv_goto (tgt := 88) hx hb dX12_plan_46 (by decide) ?_
          exact b_X12_plan_88 C ih v0 v1 h_v0 k_v0 S15 H locs _ hf hP hS hW (lv_sub hl [1, 2] rfl)
set_option maxRecDepth 100000 in
set_option maxHeartbeats 4000000 in
theorem b_X12_plan_118 {p : Program} {l : Launch} {e : Env} {s : State} {m : MethodId} {args : Array Value} {below : List Frame} {meth : Method} {c : Code} {V : EV} {G : GS} {r : Int32} {S' : HS} {F : Nat} (C : CX p s m args meth c RX12 cX12_plan 3 (some .int) V G) : ∀ n : Nat, ∀ (v0 : Nat) (v1 : Int32) (v2 : Int32) (h_v0 : v0 ∈ G.1) (k_v0 : G.2.1 v0 = 12) (S : HS) (H : Heap) (locs : List Loc) (ls : Array Slot), s_X12_plan_L118 G.2.2 F n v0 v1 v2 S = some (r, S') → HP V G S H → va_S (AG G s.heap.size) s.heap H locs → WT G S → lv_has ls 3 [(0, .ref v0), (1, .int v1), (2, .int v2)] → W p l e (RM 5 151) s m args below meth c H locs 0 0 (MQ below (QI V G S' r s.heap.size) args s 0 0 (AG G s.heap.size)) (F0 m 118 ls []) := by
  intro n
  induction n with
  | zero =>
    intro v0 v1 v2 h_v0 k_v0 S H locs ls hf
    rw [s_X12_plan_L118] at hf
    cases hf
  | succ n ih =>
    intro v0 v1 v2 h_v0 k_v0 S H locs ls hf hP hS hW hl
    have hx := C.1
    have hb := C.2.1
    rw [s_X12_plan_L118] at hf
    refine lv_iload_n hx hb dX12_plan_118 rfl (lv_at hl 2 rfl) ?_
    refine lv_iconst (v := 5) hx hb dX12_plan_119 rfl ?_
    refine lv_iload_n hx hb dX12_plan_120 rfl (lv_at hl 1 rfl) ?_
    refine lv_imul hx hb dX12_plan_121 ?_
    refine lv_icmp_ge (tgt := 149) hx hb dX12_plan_122 (by decide) (fun c20 => ?_) (fun c20 => ?_)
    · have hf := if_t c20 hf
      refine lv_iconst (v := 0) hx hb dX12_plan_149 rfl ?_
      cases hf
      exact x_reti C hP hS hW dX12_plan_150
    · have hf := if_f c20 hf
      refine lv_aload_n hx hb dX12_plan_125 rfl (lv_at hl 0 rfl) ?_
      refine gf_X12_86 C hP h_v0 k_v0 dX12_plan_126 ?_
      obtain ⟨t21, et21, hf⟩ := bd1_e hf
      obtain ⟨h_t21, k_t21⟩ := wt_r hW h_v0 k_v0 (by decide) et21
      have k_t21 : G.2.1 t21 = 14 := k_t21
      rw [et21]
      refine lv_iconst (v := 1) hx hb dX12_plan_129 rfl ?_
      refine lv_iload_n hx hb dX12_plan_130 rfl (lv_at hl 2 rfl) ?_
      refine lv_iadd hx hb dX12_plan_131 ?_
      refine lv_aload_n hx hb dX12_plan_132 rfl (lv_at hl 0 rfl) ?_
      refine gf_X12_86 C hP h_v0 k_v0 dX12_plan_133 ?_
      obtain ⟨t22, et22, hf⟩ := bd1_e hf
      obtain ⟨h_t22, k_t22⟩ := wt_r hW h_v0 k_v0 (by decide) et22
      have k_t22 : G.2.1 t22 = 14 := k_t22
      rw [et22]
      refine lv_sipush (v := 155) hx hb dX12_plan_136 kc_sipush_155 ?_
      refine lv_iload_n hx hb dX12_plan_139 rfl (lv_at hl 2 rfl) ?_
      refine lv_iadd hx hb dX12_plan_140 ?_
      obtain ⟨h23, hf⟩ := if_s hf
      refine x_iald C hP h_t22 k_t22 h23 dX12_plan_141 ?_
      obtain ⟨h24, hf⟩ := if_s hf
      obtain ⟨S25, eS25, hf⟩ := bnd_e hf
      refine x_iast C hP hS h_t21 k_t21 h24 eS25 dX12_plan_142 (fun H locs hP hS => ?_)
      have hW : WT G S25 := by rw [eS25]; exact hW
      obtain ⟨x26, ex26, hf⟩ := bnd_e hf
      refine lv_iinc (v := x26) (lv' := [(2, .int x26), (0, .ref v0), (1, .int v1)]) hx hb dX12_plan_143 hl (k := 2) rfl ex26.symm (by decide) rfl (fun ls hl => ?_)
      refine lv_goto (tgt := 118) hx hb dX12_plan_146 (by decide) ?_
      exact ih v0 v1 x26 h_v0 k_v0 S25 H locs _ hf hP hS hW (lv_sub hl [1, 2, 0] rfl)
set_option maxRecDepth 100000 in
set_option maxHeartbeats 4000000 in
theorem b_X12_plan_97 {p : Program} {l : Launch} {e : Env} {s : State} {m : MethodId} {args : Array Value} {below : List Frame} {meth : Method} {c : Code} {V : EV} {G : GS} {r : Int32} {S' : HS} {F : Nat} (C : CX p s m args meth c RX12 cX12_plan 3 (some .int) V G) : ∀ (v0 : Nat) (v1 : Int32) (h_v0 : v0 ∈ G.1) (k_v0 : G.2.1 v0 = 12) (S : HS) (H : Heap) (locs : List Loc) (ls : Array Slot), s_X12_plan_J97 G.2.2 F v0 v1 S = some (r, S') → HP V G S H → va_S (AG G s.heap.size) s.heap H locs → WT G S → lv_has ls 3 [(0, .ref v0), (1, .int v1)] → W p l e (RM 5 151) s m args below meth c H locs 0 0 (MQ below (QI V G S' r s.heap.size) args s 0 0 (AG G s.heap.size)) (F0 m 97 ls []) := by
  intro v0 v1 h_v0 k_v0 S H locs ls hf hP hS hW hl
  have hx := C.1
  have hb := C.2.1
  unfold s_X12_plan_J97 at hf
  refine lv_aload_n hx hb dX12_plan_97 rfl (lv_at hl 0 rfl) ?_
  refine gf_X12_144 C hP h_v0 k_v0 dX12_plan_98 ?_
  refine lv_if_le (tgt := 109) hx hb dX12_plan_101 (by decide) (fun c16 => ?_) (fun c16 => ?_)
  · have hf := if_t c16 hf
    refine lv_aload_n hx hb dX12_plan_109 rfl (lv_at hl 0 rfl) ?_
    refine gf_X12_86 C hP h_v0 k_v0 dX12_plan_110 ?_
    obtain ⟨t17, et17, hf⟩ := bd1_e hf
    obtain ⟨h_t17, k_t17⟩ := wt_r hW h_v0 k_v0 (by decide) et17
    have k_t17 : G.2.1 t17 = 14 := k_t17
    rw [et17]
    refine lv_iconst (v := 0) hx hb dX12_plan_113 rfl ?_
    refine lv_iload_n hx hb dX12_plan_114 rfl (lv_at hl 1 rfl) ?_
    obtain ⟨h18, hf⟩ := if_s hf
    obtain ⟨S19, eS19, hf⟩ := bnd_e hf
    refine x_iast C hP hS h_t17 k_t17 h18 eS19 dX12_plan_115 (fun H locs hP hS => ?_)
    have hW : WT G S19 := by rw [eS19]; exact hW
    refine lv_iconst (v := 0) hx hb dX12_plan_116 rfl ?_
    refine lv_istore_n (lv' := [(2, .int 0), (0, .ref v0), (1, .int v1)]) hx hb dX12_plan_117 rfl hl (by decide) rfl (fun ls hl => ?_)
    exact b_X12_plan_118 C F v0 v1 0 h_v0 k_v0 S19 H locs _ hf hP hS hW (lv_sub hl [1, 2, 0] rfl)
  · have hf := if_f c16 hf
    refine lv_aload_n hx hb dX12_plan_104 rfl (lv_at hl 0 rfl) ?_
    refine gf_X12_144 C hP h_v0 k_v0 dX12_plan_105 ?_
    cases hf
    exact x_reti C hP hS hW dX12_plan_108
set_option maxRecDepth 100000 in
set_option maxHeartbeats 4000000 in
theorem c_X12_plan {l : Launch} {V : EV} {G : GS} {S : HS} {F : Nat} {a : Nat} {r : Int32} {S' : HS} (hN : G.1.Nodup) (hW : WT G S) (h_a : a ∈ G.1) (k_a : G.2.1 a = 12) (hf : s_X12_plan G.2.2 F a S = some (r, S')) : MetI l yX12_plan cX12_plan 3 .int 5 151 V G S [.ref a] r S' := by
  intro sz
  refine x_in RX12 rfl (by decide +kernel) hN (Nat.le_of_ble_eq_true rfl) (fun p e s m args below meth c ls hsz hargs hnm C hP hS hl => ?_)
  subst hsz
  have hx := C.1
  have hb := C.2.1
  have hl : lv_has ls 3 [(0, .ref a)] := hl
  unfold s_X12_plan at hf
  refine lv_aload_n hx hb dX12_plan_0 rfl (lv_at hl 0 rfl) ?_
  refine lv_iconst (v := 0) hx hb dX12_plan_1 rfl ?_
  obtain ⟨S1, eS1, hf⟩ := bnd_e hf
  refine pf_X12_1 C hP hS h_a k_a eS1 dX12_plan_2 (fun H locs hP hS => ?_)
  have hW : WT G S1 := by rw [eS1]; exact hW
  refine lv_aload_n hx hb dX12_plan_5 rfl (lv_at hl 0 rfl) ?_
  obtain ⟨S2, eS2, hf⟩ := bd1_e hf
  refine x_aft_v (x_runV (As := []) (rest := []) C hP hS (c_X12_cutAll (l := l) C.2.2.2.2.2.2.2.2.2.1 hW h_a k_a eS2 H.size) h_a k_a (by decide) rfl rfl km_X12_cutAll ki_X12_cutAll qm_X12_176 ⟨(Nat.le_of_ble_eq_true rfl), (Nat.le_of_ble_eq_true rfl)⟩ rfl hl.1 rfl (Nat.le_of_ble_eq_true rfl) ⟨Nat.zero_le _, Nat.zero_le _⟩ dX12_plan_6) hS (fun H locs hP hS hW => ?_)
  refine lv_iconst (v := 0) hx hb dX12_plan_9 rfl ?_
  refine lv_istore_n (lv' := [(1, .int 0), (0, .ref a)]) hx hb dX12_plan_10 rfl hl (by decide) rfl (fun ls hl => ?_)
  exact b_X12_plan_11 C (b_X12_plan_97 C) F a 0 h_a k_a S2 H locs _ hf hP hS hW (lv_sub hl [1, 0] rfl)
def s_X12_plans_J145 (N : Nat → Nat) (F : Nat) (k67 : Nat → Int32 → Int32 → Int32 → Int32 → HS → Option (Int32 × HS)) (v0 : Nat) (v2 : Int32) (v3 : Int32) (v5 : Int32) (w0 : Int32) (w1 : Int32) (S : HS) : Option (Int32 × HS) :=
  bnd (w0 + w1 : Int32) fun x29 =>
  bd1 (gR S 1217 v0) fun t30 =>
  bd2 (s_X12_draw v0 6 S) fun r31 S32 =>
  if inB (589 : Int32) (N t30) = true then
  bnd (wI S32 t30 ((589 : Int32).toNatClampNeg) r31) fun S34 =>
  bnd (v5 + Int32.ofInt 1 : Int32) fun x35 =>
  k67 v0 v2 v3 x29 x35 S34
  else none
def s_X12_plans_L67 (N : Nat → Nat) (F : Nat) (k168 : Nat → Int32 → Int32 → HS → Option (Int32 × HS)) : Nat → Nat → Int32 → Int32 → Int32 → Int32 → HS → Option (Int32 × HS)
  | 0, _, _, _, _, _, _ => none
  | n + 1, v0, v2, v3, v4, v5, S => if v2 ≤ v5 then
  k168 v0 v3 v4 S
  else
  bd1 (s_X12_regs N v0 S) fun r15 =>
  bd2 (s_X12_draw v0 r15 S) fun r16 S17 =>
  bd1 (s_X12_regs N v0 S17) fun r18 =>
  bd2 (s_X12_draw v0 r18 S17) fun r19 S20 =>
  bd1 (s_X12_regs N v0 S20) fun r21 =>
  bd2 (s_X12_draw v0 r21 S20) fun r22 S23 =>
  bd1 (s_X12_regs N v0 S23) fun r24 =>
  bd2 (s_X12_draw v0 r24 S23) fun r25 S26 =>
  bd1 (s_X12_multiplies N F v0 588 r16 r19 r22 r25 S26) fun S27 =>
  if ((gI S27 1220 v0) &&& 8) = (0 : Int32) then
  s_X12_plans_J145 N F (s_X12_plans_L67 N F k168 n) v0 v2 v3 v5 v4 0 S27
  else
  s_X12_plans_J145 N F (s_X12_plans_L67 N F k168 n) v0 v2 v3 v5 v4 1 S27
def s_X12_plans_J168 (N : Nat → Nat) (F : Nat) (v0 : Nat) (v3 : Int32) (v4 : Int32) (S : HS) : Option (Int32 × HS) :=
  if v3 = (0 : Int32) then
  bd1 (gR S 1217 v0) fun t39 =>
  if inB (590 : Int32) (N t39) = true then
  some (aI S t39 (590 : Int32).toNatClampNeg, S)
  else none
  else
  if v3 = (1 : Int32) then
  bd1 (s_X12_nans N F v0 588 S) fun r38 =>
  some (r38, S)
  else
  some (v4, S)
def s_X12_plans (N : Nat → Nat) (F : Nat) (a : Nat) (p0 : Int32) (p1 : Int32) (p2 : Int32) (S : HS) : Option (Int32 × HS) :=
  bnd (uI S 1200 a 0) fun S1 =>
  if (s_X12_within p0 0 9999 S1) = (0 : Int32) then
  some ((-1), S1)
  else
  if (s_X12_within p1 1 99 S1) = (0 : Int32) then
  some ((-1), S1)
  else
  if (s_X12_within p2 0 2 S1) = (0 : Int32) then
  some ((-1), S1)
  else
  bd1 (s_X12_used N a S1) fun r8 =>
  if r8 < (0 : Int32) then
  some ((-1), S1)
  else
  bd1 (s_X12_regs N a S1) fun r10 =>
  if r10 = (0 : Int32) then
  some ((-1), S1)
  else
  bd1 (s_X12_triesNow N F a S1) fun S12 =>
  bnd (uJ S12 1228 a p0.toInt64) fun S13 =>
  s_X12_plans_L67 N F (s_X12_plans_J168 N F) F a p1 p2 0 0 S13
set_option maxRecDepth 100000 in
set_option maxHeartbeats 4000000 in
theorem b_X12_plans_145 {p : Program} {l : Launch} {e : Env} {s : State} {m : MethodId} {args : Array Value} {below : List Frame} {meth : Method} {c : Code} {V : EV} {G : GS} {r : Int32} {S' : HS} {F : Nat} (C : CX p s m args meth c RX12 cX12_plans 10 (some .int) V G) {k67 : Nat → Int32 → Int32 → Int32 → Int32 → HS → Option (Int32 × HS)} (hk67 : ∀ (v0 : Nat) (v2 : Int32) (v3 : Int32) (v4 : Int32) (v5 : Int32) (h_v0 : v0 ∈ G.1) (k_v0 : G.2.1 v0 = 12) (S : HS) (H : Heap) (locs : List Loc) (ls : Array Slot), k67 v0 v2 v3 v4 v5 S = some (r, S') → HP V G S H → va_S (AG G s.heap.size) s.heap H locs → WT G S → lv_has ls 10 [(0, .ref v0), (2, .int v2), (3, .int v3), (4, .int v4), (5, .int v5)] → W p l e (RM 21 709) s m args below meth c H locs 0 0 (MQ below (QI V G S' r s.heap.size) args s 0 0 (AG G s.heap.size)) (F0 m 67 ls [])) : ∀ (v0 : Nat) (v2 : Int32) (v3 : Int32) (v5 : Int32) (w0 : Int32) (w1 : Int32) (h_v0 : v0 ∈ G.1) (k_v0 : G.2.1 v0 = 12) (S : HS) (H : Heap) (locs : List Loc) (ls : Array Slot), s_X12_plans_J145 G.2.2 F k67 v0 v2 v3 v5 w0 w1 S = some (r, S') → HP V G S H → va_S (AG G s.heap.size) s.heap H locs → WT G S → lv_has ls 10 [(0, .ref v0), (2, .int v2), (3, .int v3), (5, .int v5)] → W p l e (RM 21 709) s m args below meth c H locs 0 0 (MQ below (QI V G S' r s.heap.size) args s 0 0 (AG G s.heap.size)) (F0 m 145 ls [.int w1, .int w0]) := by
  intro v0 v2 v3 v5 w0 w1 h_v0 k_v0 S H locs ls hf hP hS hW hl
  have hx := C.1
  have hb := C.2.1
  unfold s_X12_plans_J145 at hf
  refine lv_iadd hx hb dX12_plans_145 ?_
  obtain ⟨x29, ex29, hf⟩ := bnd_e hf
  refine nm_i ex29 ?_
  refine lv_istore (lv' := [(4, .int x29), (0, .ref v0), (2, .int v2), (3, .int v3), (5, .int v5)]) hx hb dX12_plans_146 hl (by decide) rfl (fun ls hl => ?_)
  refine lv_aload_n hx hb dX12_plans_148 rfl (lv_at hl 1 rfl) ?_
  refine gf_X12_95 C hP h_v0 k_v0 dX12_plans_149 ?_
  obtain ⟨t30, et30, hf⟩ := bd1_e hf
  obtain ⟨h_t30, k_t30⟩ := wt_r hW h_v0 k_v0 (by decide) et30
  have k_t30 : G.2.1 t30 = 14 := k_t30
  rw [et30]
  refine lv_sipush (v := 589) hx hb dX12_plans_152 kc_sipush_589 ?_
  refine lv_aload_n hx hb dX12_plans_155 rfl (lv_at hl 1 rfl) ?_
  refine lv_bipush (v := 6) hx hb dX12_plans_156 kc_bipush_6 ?_
  obtain ⟨r31, S32, eS32, hf⟩ := bd2_e hf
  refine x_aft_i (x_runV (As := [.int 6]) (rest := [.int 589, .ref t30]) C hP hS (c_X12_draw (l := l) C.2.2.2.2.2.2.2.2.2.1 hW h_v0 k_v0 eS32 H.size) h_v0 k_v0 (by decide) rfl rfl km_X12_draw ki_X12_draw qm_X12_478 ⟨(Nat.le_of_ble_eq_true rfl), (Nat.le_of_ble_eq_true rfl)⟩ rfl hl.1 rfl (Nat.le_of_ble_eq_true rfl) ⟨Nat.zero_le _, Nat.zero_le _⟩ dX12_plans_158) hS (fun H locs hP hS hW => ?_)
  obtain ⟨h33, hf⟩ := if_s hf
  obtain ⟨S34, eS34, hf⟩ := bnd_e hf
  refine x_iast C hP hS h_t30 k_t30 h33 eS34 dX12_plans_161 (fun H locs hP hS => ?_)
  have hW : WT G S34 := by rw [eS34]; exact hW
  obtain ⟨x35, ex35, hf⟩ := bnd_e hf
  refine lv_iinc (v := x35) (lv' := [(5, .int x35), (4, .int x29), (0, .ref v0), (2, .int v2), (3, .int v3)]) hx hb dX12_plans_162 hl (k := 4) rfl ex35.symm (by decide) rfl (fun ls hl => ?_)
  refine lv_goto (tgt := 67) hx hb dX12_plans_165 (by decide) ?_
  exact hk67 v0 v2 v3 x29 x35 h_v0 k_v0 S34 H locs _ hf hP hS hW (lv_sub hl [2, 3, 4, 1, 0] rfl)
set_option maxRecDepth 100000 in
set_option maxHeartbeats 4000000 in
theorem b_X12_plans_67 {p : Program} {l : Launch} {e : Env} {s : State} {m : MethodId} {args : Array Value} {below : List Frame} {meth : Method} {c : Code} {V : EV} {G : GS} {r : Int32} {S' : HS} {F : Nat} (C : CX p s m args meth c RX12 cX12_plans 10 (some .int) V G) {k168 : Nat → Int32 → Int32 → HS → Option (Int32 × HS)} (hk168 : ∀ (v0 : Nat) (v3 : Int32) (v4 : Int32) (h_v0 : v0 ∈ G.1) (k_v0 : G.2.1 v0 = 12) (S : HS) (H : Heap) (locs : List Loc) (ls : Array Slot), k168 v0 v3 v4 S = some (r, S') → HP V G S H → va_S (AG G s.heap.size) s.heap H locs → WT G S → lv_has ls 10 [(0, .ref v0), (3, .int v3), (4, .int v4)] → W p l e (RM 21 709) s m args below meth c H locs 0 0 (MQ below (QI V G S' r s.heap.size) args s 0 0 (AG G s.heap.size)) (F0 m 168 ls [])) : ∀ n : Nat, ∀ (v0 : Nat) (v2 : Int32) (v3 : Int32) (v4 : Int32) (v5 : Int32) (h_v0 : v0 ∈ G.1) (k_v0 : G.2.1 v0 = 12) (S : HS) (H : Heap) (locs : List Loc) (ls : Array Slot), s_X12_plans_L67 G.2.2 F k168 n v0 v2 v3 v4 v5 S = some (r, S') → HP V G S H → va_S (AG G s.heap.size) s.heap H locs → WT G S → lv_has ls 10 [(0, .ref v0), (2, .int v2), (3, .int v3), (4, .int v4), (5, .int v5)] → W p l e (RM 21 709) s m args below meth c H locs 0 0 (MQ below (QI V G S' r s.heap.size) args s 0 0 (AG G s.heap.size)) (F0 m 67 ls []) := by
  intro n
  induction n with
  | zero =>
    intro v0 v2 v3 v4 v5 h_v0 k_v0 S H locs ls hf
    rw [s_X12_plans_L67] at hf
    cases hf
  | succ n ih =>
    intro v0 v2 v3 v4 v5 h_v0 k_v0 S H locs ls hf hP hS hW hl
    have hx := C.1
    have hb := C.2.1
    rw [s_X12_plans_L67] at hf
    refine lv_iload hx hb dX12_plans_67 (lv_at hl 4 rfl) ?_
    refine lv_iload_n hx hb dX12_plans_69 rfl (lv_at hl 1 rfl) ?_
    refine lv_icmp_ge (tgt := 168) hx hb dX12_plans_70 (by decide) (fun c14 => ?_) (fun c14 => ?_)
    · have hf := if_t c14 hf
      exact hk168 v0 v3 v4 h_v0 k_v0 S H locs _ hf hP hS hW (lv_sub hl [0, 2, 3] rfl)
    · have hf := if_f c14 hf
      refine lv_aload_n hx hb dX12_plans_73 rfl (lv_at hl 0 rfl) ?_
      refine lv_aload_n hx hb dX12_plans_74 rfl (lv_at hl 0 rfl) ?_
      obtain ⟨r15, er15, hf⟩ := bd1_e hf
      refine x_aft_i (x_runV (As := []) (rest := [.ref v0]) C hP hS (c_X12_regs (l := l) C.2.2.2.2.2.2.2.2.2.1 hW h_v0 k_v0 er15 H.size) h_v0 k_v0 (by decide) rfl rfl km_X12_regs ki_X12_regs qm_X12_212 ⟨(Nat.le_of_ble_eq_true rfl), (Nat.le_of_ble_eq_true rfl)⟩ rfl hl.1 rfl (Nat.le_of_ble_eq_true rfl) ⟨Nat.zero_le _, Nat.zero_le _⟩ dX12_plans_75) hS (fun H locs hP hS hW => ?_)
      obtain ⟨r16, S17, eS17, hf⟩ := bd2_e hf
      refine x_aft_i (x_runV (As := [.int r15]) (rest := []) C hP hS (c_X12_draw (l := l) C.2.2.2.2.2.2.2.2.2.1 hW h_v0 k_v0 eS17 H.size) h_v0 k_v0 (by decide) rfl rfl km_X12_draw ki_X12_draw qm_X12_478 ⟨(Nat.le_of_ble_eq_true rfl), (Nat.le_of_ble_eq_true rfl)⟩ rfl hl.1 rfl (Nat.le_of_ble_eq_true rfl) ⟨Nat.zero_le _, Nat.zero_le _⟩ dX12_plans_78) hS (fun H locs hP hS hW => ?_)
      refine lv_istore (lv' := [(6, .int r16), (0, .ref v0), (2, .int v2), (3, .int v3), (4, .int v4), (5, .int v5)]) hx hb dX12_plans_81 hl (by decide) rfl (fun ls hl => ?_)
      refine lv_aload_n hx hb dX12_plans_83 rfl (lv_at hl 1 rfl) ?_
      refine lv_aload_n hx hb dX12_plans_84 rfl (lv_at hl 1 rfl) ?_
      obtain ⟨r18, er18, hf⟩ := bd1_e hf
      refine x_aft_i (x_runV (As := []) (rest := [.ref v0]) C hP hS (c_X12_regs (l := l) C.2.2.2.2.2.2.2.2.2.1 hW h_v0 k_v0 er18 H.size) h_v0 k_v0 (by decide) rfl rfl km_X12_regs ki_X12_regs qm_X12_212 ⟨(Nat.le_of_ble_eq_true rfl), (Nat.le_of_ble_eq_true rfl)⟩ rfl hl.1 rfl (Nat.le_of_ble_eq_true rfl) ⟨Nat.zero_le _, Nat.zero_le _⟩ dX12_plans_85) hS (fun H locs hP hS hW => ?_)
      obtain ⟨r19, S20, eS20, hf⟩ := bd2_e hf
      refine x_aft_i (x_runV (As := [.int r18]) (rest := []) C hP hS (c_X12_draw (l := l) C.2.2.2.2.2.2.2.2.2.1 hW h_v0 k_v0 eS20 H.size) h_v0 k_v0 (by decide) rfl rfl km_X12_draw ki_X12_draw qm_X12_478 ⟨(Nat.le_of_ble_eq_true rfl), (Nat.le_of_ble_eq_true rfl)⟩ rfl hl.1 rfl (Nat.le_of_ble_eq_true rfl) ⟨Nat.zero_le _, Nat.zero_le _⟩ dX12_plans_88) hS (fun H locs hP hS hW => ?_)
      refine lv_istore (lv' := [(7, .int r19), (6, .int r16), (0, .ref v0), (2, .int v2), (3, .int v3), (4, .int v4), (5, .int v5)]) hx hb dX12_plans_91 hl (by decide) rfl (fun ls hl => ?_)
      refine lv_aload_n hx hb dX12_plans_93 rfl (lv_at hl 2 rfl) ?_
      refine lv_aload_n hx hb dX12_plans_94 rfl (lv_at hl 2 rfl) ?_
      obtain ⟨r21, er21, hf⟩ := bd1_e hf
      refine x_aft_i (x_runV (As := []) (rest := [.ref v0]) C hP hS (c_X12_regs (l := l) C.2.2.2.2.2.2.2.2.2.1 hW h_v0 k_v0 er21 H.size) h_v0 k_v0 (by decide) rfl rfl km_X12_regs ki_X12_regs qm_X12_212 ⟨(Nat.le_of_ble_eq_true rfl), (Nat.le_of_ble_eq_true rfl)⟩ rfl hl.1 rfl (Nat.le_of_ble_eq_true rfl) ⟨Nat.zero_le _, Nat.zero_le _⟩ dX12_plans_95) hS (fun H locs hP hS hW => ?_)
      obtain ⟨r22, S23, eS23, hf⟩ := bd2_e hf
      refine x_aft_i (x_runV (As := [.int r21]) (rest := []) C hP hS (c_X12_draw (l := l) C.2.2.2.2.2.2.2.2.2.1 hW h_v0 k_v0 eS23 H.size) h_v0 k_v0 (by decide) rfl rfl km_X12_draw ki_X12_draw qm_X12_478 ⟨(Nat.le_of_ble_eq_true rfl), (Nat.le_of_ble_eq_true rfl)⟩ rfl hl.1 rfl (Nat.le_of_ble_eq_true rfl) ⟨Nat.zero_le _, Nat.zero_le _⟩ dX12_plans_98) hS (fun H locs hP hS hW => ?_)
      refine lv_istore (lv' := [(8, .int r22), (7, .int r19), (6, .int r16), (0, .ref v0), (2, .int v2), (3, .int v3), (4, .int v4), (5, .int v5)]) hx hb dX12_plans_101 hl (by decide) rfl (fun ls hl => ?_)
      refine lv_aload_n hx hb dX12_plans_103 rfl (lv_at hl 3 rfl) ?_
      refine lv_aload_n hx hb dX12_plans_104 rfl (lv_at hl 3 rfl) ?_
      obtain ⟨r24, er24, hf⟩ := bd1_e hf
      refine x_aft_i (x_runV (As := []) (rest := [.ref v0]) C hP hS (c_X12_regs (l := l) C.2.2.2.2.2.2.2.2.2.1 hW h_v0 k_v0 er24 H.size) h_v0 k_v0 (by decide) rfl rfl km_X12_regs ki_X12_regs qm_X12_212 ⟨(Nat.le_of_ble_eq_true rfl), (Nat.le_of_ble_eq_true rfl)⟩ rfl hl.1 rfl (Nat.le_of_ble_eq_true rfl) ⟨Nat.zero_le _, Nat.zero_le _⟩ dX12_plans_105) hS (fun H locs hP hS hW => ?_)
      obtain ⟨r25, S26, eS26, hf⟩ := bd2_e hf
      refine x_aft_i (x_runV (As := [.int r24]) (rest := []) C hP hS (c_X12_draw (l := l) C.2.2.2.2.2.2.2.2.2.1 hW h_v0 k_v0 eS26 H.size) h_v0 k_v0 (by decide) rfl rfl km_X12_draw ki_X12_draw qm_X12_478 ⟨(Nat.le_of_ble_eq_true rfl), (Nat.le_of_ble_eq_true rfl)⟩ rfl hl.1 rfl (Nat.le_of_ble_eq_true rfl) ⟨Nat.zero_le _, Nat.zero_le _⟩ dX12_plans_108) hS (fun H locs hP hS hW => ?_)
      refine lv_istore (lv' := [(9, .int r25), (8, .int r22), (7, .int r19), (6, .int r16), (0, .ref v0), (2, .int v2), (3, .int v3), (4, .int v4), (5, .int v5)]) hx hb dX12_plans_111 hl (by decide) rfl (fun ls hl => ?_)
      refine lv_aload_n hx hb dX12_plans_113 rfl (lv_at hl 4 rfl) ?_
      refine lv_sipush (v := 588) hx hb dX12_plans_114 kc_sipush_588 ?_
      refine lv_iload hx hb dX12_plans_117 (lv_at hl 3 rfl) ?_
      refine lv_iload hx hb dX12_plans_119 (lv_at hl 2 rfl) ?_
      refine lv_iload hx hb dX12_plans_121 (lv_at hl 1 rfl) ?_
      refine lv_iload hx hb dX12_plans_123 (lv_at hl 0 rfl) ?_
      obtain ⟨S27, eS27, hf⟩ := bd1_e hf
      refine x_aft_v (x_runV (As := [.int 588, .int r16, .int r19, .int r22, .int r25]) (rest := []) C hP hS (c_X12_multiplies (l := l) C.2.2.2.2.2.2.2.2.2.1 hW h_v0 k_v0 eS27 H.size) h_v0 k_v0 (by decide) rfl rfl km_X12_multiplies ki_X12_multiplies qm_X12_382 ⟨(Nat.le_of_ble_eq_true rfl), (Nat.le_of_ble_eq_true rfl)⟩ rfl hl.1 rfl (Nat.le_of_ble_eq_true rfl) ⟨Nat.zero_le _, Nat.zero_le _⟩ dX12_plans_125) hS (fun H locs hP hS hW => ?_)
      refine lv_iload hx hb dX12_plans_128 (lv_at hl 7 rfl) ?_
      refine lv_aload_n hx hb dX12_plans_130 rfl (lv_at hl 4 rfl) ?_
      refine gf_X12_315 C hP h_v0 k_v0 dX12_plans_131 ?_
      refine lv_bipush (v := 8) hx hb dX12_plans_134 kc_bipush_8 ?_
      refine lv_iand hx hb dX12_plans_136 ?_
      refine lv_if_eq (tgt := 144) hx hb dX12_plans_137 (by decide) (fun c28 => ?_) (fun c28 => ?_)
      · have hf := if_t c28 hf
        refine lv_iconst (v := 0) hx hb dX12_plans_144 rfl ?_
        exact b_X12_plans_145 C ih v0 v2 v3 v5 v4 0 h_v0 k_v0 S27 H locs _ hf hP hS hW (lv_sub hl [4, 5, 6, 8] rfl)
      · have hf := if_f c28 hf
        refine lv_iconst (v := 1) hx hb dX12_plans_140 rfl ?_
        refine lv_goto (tgt := 145) hx hb dX12_plans_141 (by decide) ?_
        exact b_X12_plans_145 C ih v0 v2 v3 v5 v4 1 h_v0 k_v0 S27 H locs _ hf hP hS hW (lv_sub hl [4, 5, 6, 8] rfl)
set_option maxRecDepth 100000 in
set_option maxHeartbeats 4000000 in
theorem b_X12_plans_168 {p : Program} {l : Launch} {e : Env} {s : State} {m : MethodId} {args : Array Value} {below : List Frame} {meth : Method} {c : Code} {V : EV} {G : GS} {r : Int32} {S' : HS} {F : Nat} (C : CX p s m args meth c RX12 cX12_plans 10 (some .int) V G) : ∀ (v0 : Nat) (v3 : Int32) (v4 : Int32) (h_v0 : v0 ∈ G.1) (k_v0 : G.2.1 v0 = 12) (S : HS) (H : Heap) (locs : List Loc) (ls : Array Slot), s_X12_plans_J168 G.2.2 F v0 v3 v4 S = some (r, S') → HP V G S H → va_S (AG G s.heap.size) s.heap H locs → WT G S → lv_has ls 10 [(0, .ref v0), (3, .int v3), (4, .int v4)] → W p l e (RM 21 709) s m args below meth c H locs 0 0 (MQ below (QI V G S' r s.heap.size) args s 0 0 (AG G s.heap.size)) (F0 m 168 ls []) := by
  intro v0 v3 v4 h_v0 k_v0 S H locs ls hf hP hS hW hl
  have hx := C.1
  have hb := C.2.1
  unfold s_X12_plans_J168 at hf
  refine lv_iload_n hx hb dX12_plans_168 rfl (lv_at hl 1 rfl) ?_
  refine lv_if_ne (tgt := 183) hx hb dX12_plans_169 (by decide) (fun c36 => ?_) (fun c36 => ?_)
  · have hf := if_f c36 hf
    refine lv_iload_n hx hb dX12_plans_183 rfl (lv_at hl 1 rfl) ?_
    refine lv_iconst (v := 1) hx hb dX12_plans_184 rfl ?_
    refine lv_icmp_ne (tgt := 198) hx hb dX12_plans_185 (by decide) (fun c37 => ?_) (fun c37 => ?_)
    · have hf := if_f c37 hf
      refine lv_iload hx hb dX12_plans_198 (lv_at hl 2 rfl) ?_
      cases hf
      exact x_reti C hP hS hW dX12_plans_200
    · have hf := if_t c37 hf
      refine lv_aload_n hx hb dX12_plans_188 rfl (lv_at hl 0 rfl) ?_
      refine lv_sipush (v := 588) hx hb dX12_plans_189 kc_sipush_588 ?_
      obtain ⟨r38, er38, hf⟩ := bd1_e hf
      refine x_aft_i (x_runV (As := [.int 588]) (rest := []) C hP hS (c_X12_nans (l := l) C.2.2.2.2.2.2.2.2.2.1 hW h_v0 k_v0 er38 H.size) h_v0 k_v0 (by decide) rfl rfl km_X12_nans ki_X12_nans qm_X12_481 ⟨(Nat.le_of_ble_eq_true rfl), (Nat.le_of_ble_eq_true rfl)⟩ rfl hl.1 rfl (Nat.le_of_ble_eq_true rfl) ⟨Nat.zero_le _, Nat.zero_le _⟩ dX12_plans_192) hS (fun H locs hP hS hW => ?_)
      refine lv_goto (tgt := 200) hx hb dX12_plans_195 (by decide) ?_
      cases hf
      exact x_reti C hP hS hW dX12_plans_200
  · have hf := if_t c36 hf
    refine lv_aload_n hx hb dX12_plans_172 rfl (lv_at hl 0 rfl) ?_
    refine gf_X12_95 C hP h_v0 k_v0 dX12_plans_173 ?_
    obtain ⟨t39, et39, hf⟩ := bd1_e hf
    obtain ⟨h_t39, k_t39⟩ := wt_r hW h_v0 k_v0 (by decide) et39
    have k_t39 : G.2.1 t39 = 14 := k_t39
    rw [et39]
    refine lv_sipush (v := 590) hx hb dX12_plans_176 kc_sipush_590 ?_
    obtain ⟨h40, hf⟩ := if_s hf
    refine x_iald C hP h_t39 k_t39 h40 dX12_plans_179 ?_
    refine lv_goto (tgt := 200) hx hb dX12_plans_180 (by decide) ?_
    cases hf
    exact x_reti C hP hS hW dX12_plans_200
set_option maxRecDepth 100000 in
set_option maxHeartbeats 4000000 in
theorem c_X12_plans {l : Launch} {V : EV} {G : GS} {S : HS} {F : Nat} {a : Nat} {p0 : Int32} {p1 : Int32} {p2 : Int32} {r : Int32} {S' : HS} (hN : G.1.Nodup) (hW : WT G S) (h_a : a ∈ G.1) (k_a : G.2.1 a = 12) (hf : s_X12_plans G.2.2 F a p0 p1 p2 S = some (r, S')) : MetI l yX12_plans cX12_plans 10 .int 21 709 V G S [.ref a, .int p0, .int p1, .int p2] r S' := by
  intro sz
  refine x_in RX12 rfl (by decide +kernel) hN (Nat.le_of_ble_eq_true rfl) (fun p e s m args below meth c ls hsz hargs hnm C hP hS hl => ?_)
  subst hsz
  have hx := C.1
  have hb := C.2.1
  have hl : lv_has ls 10 [(0, .ref a), (1, .int p0), (2, .int p1), (3, .int p2)] := hl
  unfold s_X12_plans at hf
  refine lv_aload_n hx hb dX12_plans_0 rfl (lv_at hl 0 rfl) ?_
  refine lv_iconst (v := 0) hx hb dX12_plans_1 rfl ?_
  obtain ⟨S1, eS1, hf⟩ := bnd_e hf
  refine pf_X12_1 C hP hS h_a k_a eS1 dX12_plans_2 (fun H locs hP hS => ?_)
  have hW : WT G S1 := by rw [eS1]; exact hW
  refine lv_iload_n hx hb dX12_plans_5 rfl (lv_at hl 1 rfl) ?_
  refine lv_iconst (v := 0) hx hb dX12_plans_6 rfl ?_
  refine lv_sipush (v := 9999) hx hb dX12_plans_7 kc_sipush_9999 ?_
  refine x_aft_z (x_runS (As := [.int p0, .int 0, .int 9999]) (rest := []) C hP hS (c_X12_within (l := l) C.2.2.2.2.2.2.2.2.2.1 hW rfl H.size) km_X12_within ks_X12_within qm_X12_386 ⟨(Nat.le_of_ble_eq_true rfl), (Nat.le_of_ble_eq_true rfl)⟩ rfl hl.1 rfl (Nat.le_of_ble_eq_true rfl) ⟨Nat.zero_le _, Nat.zero_le _⟩ dX12_plans_10) hS (fun H locs hP hS hW z2 => ?_)
  refine lv_if_eq (tgt := 49) hx hb dX12_plans_13 (by decide) (fun c3 => ?_) (fun c3 => ?_)
  · have hf := if_t c3 hf
    refine lv_iconst (v := (-1)) hx hb dX12_plans_49 rfl ?_
    cases hf
    exact x_reti C hP hS hW dX12_plans_50
  · have hf := if_f c3 hf
    refine lv_iload_n hx hb dX12_plans_16 rfl (lv_at hl 2 rfl) ?_
    refine lv_iconst (v := 1) hx hb dX12_plans_17 rfl ?_
    refine lv_bipush (v := 99) hx hb dX12_plans_18 kc_bipush_99 ?_
    refine x_aft_z (x_runS (As := [.int p1, .int 1, .int 99]) (rest := []) C hP hS (c_X12_within (l := l) C.2.2.2.2.2.2.2.2.2.1 hW rfl H.size) km_X12_within ks_X12_within qm_X12_386 ⟨(Nat.le_of_ble_eq_true rfl), (Nat.le_of_ble_eq_true rfl)⟩ rfl hl.1 rfl (Nat.le_of_ble_eq_true rfl) ⟨Nat.zero_le _, Nat.zero_le _⟩ dX12_plans_20) hS (fun H locs hP hS hW z4 => ?_)
    refine lv_if_eq (tgt := 49) hx hb dX12_plans_23 (by decide) (fun c5 => ?_) (fun c5 => ?_)
    · have hf := if_t c5 hf
      refine lv_iconst (v := (-1)) hx hb dX12_plans_49 rfl ?_
      cases hf
      exact x_reti C hP hS hW dX12_plans_50
    · have hf := if_f c5 hf
      refine lv_iload_n hx hb dX12_plans_26 rfl (lv_at hl 3 rfl) ?_
      refine lv_iconst (v := 0) hx hb dX12_plans_27 rfl ?_
      refine lv_iconst (v := 2) hx hb dX12_plans_28 rfl ?_
      refine x_aft_z (x_runS (As := [.int p2, .int 0, .int 2]) (rest := []) C hP hS (c_X12_within (l := l) C.2.2.2.2.2.2.2.2.2.1 hW rfl H.size) km_X12_within ks_X12_within qm_X12_386 ⟨(Nat.le_of_ble_eq_true rfl), (Nat.le_of_ble_eq_true rfl)⟩ rfl hl.1 rfl (Nat.le_of_ble_eq_true rfl) ⟨Nat.zero_le _, Nat.zero_le _⟩ dX12_plans_29) hS (fun H locs hP hS hW z6 => ?_)
      refine lv_if_eq (tgt := 49) hx hb dX12_plans_32 (by decide) (fun c7 => ?_) (fun c7 => ?_)
      · have hf := if_t c7 hf
        refine lv_iconst (v := (-1)) hx hb dX12_plans_49 rfl ?_
        cases hf
        exact x_reti C hP hS hW dX12_plans_50
      · have hf := if_f c7 hf
        refine lv_aload_n hx hb dX12_plans_35 rfl (lv_at hl 0 rfl) ?_
        obtain ⟨r8, er8, hf⟩ := bd1_e hf
        refine x_aft_i (x_runV (As := []) (rest := []) C hP hS (c_X12_used (l := l) C.2.2.2.2.2.2.2.2.2.1 hW h_a k_a er8 H.size) h_a k_a (by decide) rfl rfl km_X12_used ki_X12_used qm_X12_357 ⟨(Nat.le_of_ble_eq_true rfl), (Nat.le_of_ble_eq_true rfl)⟩ rfl hl.1 rfl (Nat.le_of_ble_eq_true rfl) ⟨Nat.zero_le _, Nat.zero_le _⟩ dX12_plans_36) hS (fun H locs hP hS hW => ?_)
        refine lv_if_lt (tgt := 49) hx hb dX12_plans_39 (by decide) (fun c9 => ?_) (fun c9 => ?_)
        · have hf := if_t c9 hf
          refine lv_iconst (v := (-1)) hx hb dX12_plans_49 rfl ?_
          cases hf
          exact x_reti C hP hS hW dX12_plans_50
        · have hf := if_f c9 hf
          refine lv_aload_n hx hb dX12_plans_42 rfl (lv_at hl 0 rfl) ?_
          obtain ⟨r10, er10, hf⟩ := bd1_e hf
          refine x_aft_i (x_runV (As := []) (rest := []) C hP hS (c_X12_regs (l := l) C.2.2.2.2.2.2.2.2.2.1 hW h_a k_a er10 H.size) h_a k_a (by decide) rfl rfl km_X12_regs ki_X12_regs qm_X12_212 ⟨(Nat.le_of_ble_eq_true rfl), (Nat.le_of_ble_eq_true rfl)⟩ rfl hl.1 rfl (Nat.le_of_ble_eq_true rfl) ⟨Nat.zero_le _, Nat.zero_le _⟩ dX12_plans_43) hS (fun H locs hP hS hW => ?_)
          refine lv_if_ne (tgt := 51) hx hb dX12_plans_46 (by decide) (fun c11 => ?_) (fun c11 => ?_)
          · have hf := if_f c11 hf
            refine lv_aload_n hx hb dX12_plans_51 rfl (lv_at hl 0 rfl) ?_
            obtain ⟨S12, eS12, hf⟩ := bd1_e hf
            refine x_aft_v (x_runV (As := []) (rest := []) C hP hS (c_X12_triesNow (l := l) C.2.2.2.2.2.2.2.2.2.1 hW h_a k_a eS12 H.size) h_a k_a (by decide) rfl rfl km_X12_triesNow ki_X12_triesNow qm_X12_397 ⟨(Nat.le_of_ble_eq_true rfl), (Nat.le_of_ble_eq_true rfl)⟩ rfl hl.1 rfl (Nat.le_of_ble_eq_true rfl) ⟨Nat.zero_le _, Nat.zero_le _⟩ dX12_plans_52) hS (fun H locs hP hS hW => ?_)
            refine lv_aload_n hx hb dX12_plans_55 rfl (lv_at hl 0 rfl) ?_
            refine lv_iload_n hx hb dX12_plans_56 rfl (lv_at hl 1 rfl) ?_
            refine lv_i2l hx hb dX12_plans_57 rfl ?_
            obtain ⟨S13, eS13, hf⟩ := bnd_e hf
            refine pf_X12_466 C hP hS h_a k_a eS13 dX12_plans_58 (fun H locs hP hS => ?_)
            have hW : WT G S13 := by rw [eS13]; exact hW
            refine lv_iconst (v := 0) hx hb dX12_plans_61 rfl ?_
            refine lv_istore (lv' := [(4, .int 0), (0, .ref a), (1, .int p0), (2, .int p1), (3, .int p2)]) hx hb dX12_plans_62 hl (by decide) rfl (fun ls hl => ?_)
            refine lv_iconst (v := 0) hx hb dX12_plans_64 rfl ?_
            refine lv_istore (lv' := [(5, .int 0), (4, .int 0), (0, .ref a), (1, .int p0), (2, .int p1), (3, .int p2)]) hx hb dX12_plans_65 hl (by decide) rfl (fun ls hl => ?_)
            exact b_X12_plans_67 C (b_X12_plans_168 C) F a p1 p2 0 0 h_a k_a S13 H locs _ hf hP hS hW (lv_sub hl [2, 4, 5, 1, 0] rfl)
          · have hf := if_t c11 hf
            refine lv_iconst (v := (-1)) hx hb dX12_plans_49 rfl ?_
            cases hf
            exact x_reti C hP hS hW dX12_plans_50
def s_X12_poly_L60 (N : Nat → Nat) (F : Nat) (k96 : Int32 → Int32 → Int32 → HS → Option (Int32 × HS)) : Nat → Nat → Int32 → Int32 → Int32 → Int32 → Int32 → HS → Option (Int32 × HS)
  | 0, _, _, _, _, _, _, _ => none
  | n + 1, v0, v1, v2, v3, v4, v5, S => if v5 < (0 : Int32) then
  k96 v2 v3 v4 S
  else
  bd1 (gR S 1217 v0) fun t17 =>
  if inB (4 + v5) (N t17) = true then
  bd2 (s_X12_sumNow N F v0 v3 v1 (aI S t17 (4 + v5).toNatClampNeg) S) fun r19 S20 =>
  bnd (v4 ||| (gI S20 1220 v0) : Int32) fun x21 =>
  bnd (v5 + Int32.ofInt (-1) : Int32) fun x22 =>
  s_X12_poly_L60 N F k96 n v0 v1 v2 r19 x21 x22 S20
  else none
def s_X12_poly_J96 (N : Nat → Nat) (F : Nat) (v2 : Int32) (v3 : Int32) (v4 : Int32) (S : HS) : Option (Int32 × HS) :=
  if v2 = (0 : Int32) then
  some (v3, S)
  else
  some (v4, S)
def s_X12_poly (N : Nat → Nat) (F : Nat) (a : Nat) (p0 : Int32) (p1 : Int32) (S : HS) : Option (Int32 × HS) :=
  bnd (uI S 1200 a 0) fun S1 =>
  bd1 (s_X12_used N a S1) fun r2 =>
  bd1 (s_X12_isBits N a r2 p0 S1) fun r3 =>
  if r3 = (0 : Int32) then
  some ((-1), S1)
  else
  bd1 (s_X12_regs N a S1) fun r6 =>
  if r6 = (0 : Int32) then
  some ((-1), S1)
  else
  if (s_X12_within p1 0 1 S1) = (0 : Int32) then
  some ((-1), S1)
  else
  bd1 (gR S1 1217 a) fun t10 =>
  bd1 (s_X12_regs N a S1) fun r11 =>
  if inB ((4 + r11) - 1) (N t10) = true then
  bnd (aI S1 t10 ((4 + r11) - 1).toNatClampNeg : Int32) fun x13 =>
  bd1 (s_X12_regs N a S1) fun r14 =>
  bnd (r14 - 2 : Int32) fun x15 =>
  s_X12_poly_L60 N F (s_X12_poly_J96 N F) F a p0 p1 x13 0 x15 S1
  else none
set_option maxRecDepth 100000 in
set_option maxHeartbeats 4000000 in
theorem b_X12_poly_60 {p : Program} {l : Launch} {e : Env} {s : State} {m : MethodId} {args : Array Value} {below : List Frame} {meth : Method} {c : Code} {V : EV} {G : GS} {r : Int32} {S' : HS} {F : Nat} (C : CX p s m args meth c RX12 cX12_poly 6 (some .int) V G) {k96 : Int32 → Int32 → Int32 → HS → Option (Int32 × HS)} (hk96 : ∀ (v2 : Int32) (v3 : Int32) (v4 : Int32) (S : HS) (H : Heap) (locs : List Loc) (ls : Array Slot), k96 v2 v3 v4 S = some (r, S') → HP V G S H → va_S (AG G s.heap.size) s.heap H locs → WT G S → lv_has ls 6 [(2, .int v2), (3, .int v3), (4, .int v4)] → W p l e (RM 21 706) s m args below meth c H locs 0 0 (MQ below (QI V G S' r s.heap.size) args s 0 0 (AG G s.heap.size)) (F0 m 96 ls [])) : ∀ n : Nat, ∀ (v0 : Nat) (v1 : Int32) (v2 : Int32) (v3 : Int32) (v4 : Int32) (v5 : Int32) (h_v0 : v0 ∈ G.1) (k_v0 : G.2.1 v0 = 12) (S : HS) (H : Heap) (locs : List Loc) (ls : Array Slot), s_X12_poly_L60 G.2.2 F k96 n v0 v1 v2 v3 v4 v5 S = some (r, S') → HP V G S H → va_S (AG G s.heap.size) s.heap H locs → WT G S → lv_has ls 6 [(0, .ref v0), (1, .int v1), (2, .int v2), (3, .int v3), (4, .int v4), (5, .int v5)] → W p l e (RM 21 706) s m args below meth c H locs 0 0 (MQ below (QI V G S' r s.heap.size) args s 0 0 (AG G s.heap.size)) (F0 m 60 ls []) := by
  intro n
  induction n with
  | zero =>
    intro v0 v1 v2 v3 v4 v5 h_v0 k_v0 S H locs ls hf
    rw [s_X12_poly_L60] at hf
    cases hf
  | succ n ih =>
    intro v0 v1 v2 v3 v4 v5 h_v0 k_v0 S H locs ls hf hP hS hW hl
    have hx := C.1
    have hb := C.2.1
    rw [s_X12_poly_L60] at hf
    refine lv_iload hx hb dX12_poly_60 (lv_at hl 5 rfl) ?_
    refine lv_if_lt (tgt := 96) hx hb dX12_poly_62 (by decide) (fun c16 => ?_) (fun c16 => ?_)
    · have hf := if_t c16 hf
      exact hk96 v2 v3 v4 S H locs _ hf hP hS hW (lv_sub hl [2, 3, 4] rfl)
    · have hf := if_f c16 hf
      refine lv_aload_n hx hb dX12_poly_65 rfl (lv_at hl 0 rfl) ?_
      refine lv_iload_n hx hb dX12_poly_66 rfl (lv_at hl 3 rfl) ?_
      refine lv_iload_n hx hb dX12_poly_67 rfl (lv_at hl 1 rfl) ?_
      refine lv_aload_n hx hb dX12_poly_68 rfl (lv_at hl 0 rfl) ?_
      refine gf_X12_95 C hP h_v0 k_v0 dX12_poly_69 ?_
      obtain ⟨t17, et17, hf⟩ := bd1_e hf
      obtain ⟨h_t17, k_t17⟩ := wt_r hW h_v0 k_v0 (by decide) et17
      have k_t17 : G.2.1 t17 = 14 := k_t17
      rw [et17]
      refine lv_iconst (v := 4) hx hb dX12_poly_72 rfl ?_
      refine lv_iload hx hb dX12_poly_73 (lv_at hl 5 rfl) ?_
      refine lv_iadd hx hb dX12_poly_75 ?_
      obtain ⟨h18, hf⟩ := if_s hf
      refine x_iald C hP h_t17 k_t17 h18 dX12_poly_76 ?_
      obtain ⟨r19, S20, eS20, hf⟩ := bd2_e hf
      refine x_aft_i (x_runV (As := [.int v3, .int v1, .int (aI S t17 (4 + v5).toNatClampNeg)]) (rest := []) C hP hS (c_X12_sumNow (l := l) C.2.2.2.2.2.2.2.2.2.1 hW h_v0 k_v0 eS20 H.size) h_v0 k_v0 (by decide) rfl rfl km_X12_sumNow ki_X12_sumNow qm_X12_415 ⟨(Nat.le_of_ble_eq_true rfl), (Nat.le_of_ble_eq_true rfl)⟩ rfl hl.1 rfl (Nat.le_of_ble_eq_true rfl) ⟨Nat.zero_le _, Nat.zero_le _⟩ dX12_poly_77) hS (fun H locs hP hS hW => ?_)
      refine lv_istore_n (lv' := [(3, .int r19), (0, .ref v0), (1, .int v1), (2, .int v2), (4, .int v4), (5, .int v5)]) hx hb dX12_poly_80 rfl hl (by decide) rfl (fun ls hl => ?_)
      refine lv_iload hx hb dX12_poly_81 (lv_at hl 4 rfl) ?_
      refine lv_aload_n hx hb dX12_poly_83 rfl (lv_at hl 1 rfl) ?_
      refine gf_X12_315 C hP h_v0 k_v0 dX12_poly_84 ?_
      refine lv_ior hx hb dX12_poly_87 ?_
      obtain ⟨x21, ex21, hf⟩ := bnd_e hf
      refine nm_i ex21 ?_
      refine lv_istore (lv' := [(4, .int x21), (3, .int r19), (0, .ref v0), (1, .int v1), (2, .int v2), (5, .int v5)]) hx hb dX12_poly_88 hl (by decide) rfl (fun ls hl => ?_)
      obtain ⟨x22, ex22, hf⟩ := bnd_e hf
      refine lv_iinc (v := x22) (lv' := [(5, .int x22), (4, .int x21), (3, .int r19), (0, .ref v0), (1, .int v1), (2, .int v2)]) hx hb dX12_poly_90 hl (k := 5) rfl ex22.symm (by decide) rfl (fun ls hl => ?_)
      refine lv_goto (tgt := 60) hx hb dX12_poly_93 (by decide) ?_
      exact ih v0 v1 v2 r19 x21 x22 h_v0 k_v0 S20 H locs _ hf hP hS hW (lv_sub hl [3, 4, 5, 2, 1, 0] rfl)
set_option maxRecDepth 100000 in
set_option maxHeartbeats 4000000 in
theorem b_X12_poly_96 {p : Program} {l : Launch} {e : Env} {s : State} {m : MethodId} {args : Array Value} {below : List Frame} {meth : Method} {c : Code} {V : EV} {G : GS} {r : Int32} {S' : HS} {F : Nat} (C : CX p s m args meth c RX12 cX12_poly 6 (some .int) V G) : ∀ (v2 : Int32) (v3 : Int32) (v4 : Int32) (S : HS) (H : Heap) (locs : List Loc) (ls : Array Slot), s_X12_poly_J96 G.2.2 F v2 v3 v4 S = some (r, S') → HP V G S H → va_S (AG G s.heap.size) s.heap H locs → WT G S → lv_has ls 6 [(2, .int v2), (3, .int v3), (4, .int v4)] → W p l e (RM 21 706) s m args below meth c H locs 0 0 (MQ below (QI V G S' r s.heap.size) args s 0 0 (AG G s.heap.size)) (F0 m 96 ls []) := by
  intro v2 v3 v4 S H locs ls hf hP hS hW hl
  have hx := C.1
  have hb := C.2.1
  unfold s_X12_poly_J96 at hf
  refine lv_iload_n hx hb dX12_poly_96 rfl (lv_at hl 0 rfl) ?_
  refine lv_if_ne (tgt := 104) hx hb dX12_poly_97 (by decide) (fun c23 => ?_) (fun c23 => ?_)
  · have hf := if_f c23 hf
    refine lv_iload hx hb dX12_poly_104 (lv_at hl 2 rfl) ?_
    cases hf
    exact x_reti C hP hS hW dX12_poly_106
  · have hf := if_t c23 hf
    refine lv_iload_n hx hb dX12_poly_100 rfl (lv_at hl 1 rfl) ?_
    refine lv_goto (tgt := 106) hx hb dX12_poly_101 (by decide) ?_
    cases hf
    exact x_reti C hP hS hW dX12_poly_106
set_option maxRecDepth 100000 in
set_option maxHeartbeats 4000000 in
theorem c_X12_poly {l : Launch} {V : EV} {G : GS} {S : HS} {F : Nat} {a : Nat} {p0 : Int32} {p1 : Int32} {r : Int32} {S' : HS} (hN : G.1.Nodup) (hW : WT G S) (h_a : a ∈ G.1) (k_a : G.2.1 a = 12) (hf : s_X12_poly G.2.2 F a p0 p1 S = some (r, S')) : MetI l yX12_poly cX12_poly 6 .int 21 706 V G S [.ref a, .int p0, .int p1] r S' := by
  intro sz
  refine x_in RX12 rfl (by decide +kernel) hN (Nat.le_of_ble_eq_true rfl) (fun p e s m args below meth c ls hsz hargs hnm C hP hS hl => ?_)
  subst hsz
  have hx := C.1
  have hb := C.2.1
  have hl : lv_has ls 6 [(0, .ref a), (1, .int p0), (2, .int p1)] := hl
  unfold s_X12_poly at hf
  refine lv_aload_n hx hb dX12_poly_0 rfl (lv_at hl 0 rfl) ?_
  refine lv_iconst (v := 0) hx hb dX12_poly_1 rfl ?_
  obtain ⟨S1, eS1, hf⟩ := bnd_e hf
  refine pf_X12_1 C hP hS h_a k_a eS1 dX12_poly_2 (fun H locs hP hS => ?_)
  have hW : WT G S1 := by rw [eS1]; exact hW
  refine lv_aload_n hx hb dX12_poly_5 rfl (lv_at hl 0 rfl) ?_
  refine lv_aload_n hx hb dX12_poly_6 rfl (lv_at hl 0 rfl) ?_
  obtain ⟨r2, er2, hf⟩ := bd1_e hf
  refine x_aft_i (x_runV (As := []) (rest := [.ref a]) C hP hS (c_X12_used (l := l) C.2.2.2.2.2.2.2.2.2.1 hW h_a k_a er2 H.size) h_a k_a (by decide) rfl rfl km_X12_used ki_X12_used qm_X12_357 ⟨(Nat.le_of_ble_eq_true rfl), (Nat.le_of_ble_eq_true rfl)⟩ rfl hl.1 rfl (Nat.le_of_ble_eq_true rfl) ⟨Nat.zero_le _, Nat.zero_le _⟩ dX12_poly_7) hS (fun H locs hP hS hW => ?_)
  refine lv_iload_n hx hb dX12_poly_10 rfl (lv_at hl 1 rfl) ?_
  obtain ⟨r3, er3, hf⟩ := bd1_e hf
  refine x_aft_z (x_runV (As := [.int r2, .int p0]) (rest := []) C hP hS (c_X12_isBits (l := l) C.2.2.2.2.2.2.2.2.2.1 hW h_a k_a er3 H.size) h_a k_a (by decide) rfl rfl km_X12_isBits ki_X12_isBits qm_X12_363 ⟨(Nat.le_of_ble_eq_true rfl), (Nat.le_of_ble_eq_true rfl)⟩ rfl hl.1 rfl (Nat.le_of_ble_eq_true rfl) ⟨Nat.zero_le _, Nat.zero_le _⟩ dX12_poly_11) hS (fun H locs hP hS hW z4 => ?_)
  refine lv_if_eq (tgt := 33) hx hb dX12_poly_14 (by decide) (fun c5 => ?_) (fun c5 => ?_)
  · have hf := if_t c5 hf
    refine lv_iconst (v := (-1)) hx hb dX12_poly_33 rfl ?_
    cases hf
    exact x_reti C hP hS hW dX12_poly_34
  · have hf := if_f c5 hf
    refine lv_aload_n hx hb dX12_poly_17 rfl (lv_at hl 0 rfl) ?_
    obtain ⟨r6, er6, hf⟩ := bd1_e hf
    refine x_aft_i (x_runV (As := []) (rest := []) C hP hS (c_X12_regs (l := l) C.2.2.2.2.2.2.2.2.2.1 hW h_a k_a er6 H.size) h_a k_a (by decide) rfl rfl km_X12_regs ki_X12_regs qm_X12_212 ⟨(Nat.le_of_ble_eq_true rfl), (Nat.le_of_ble_eq_true rfl)⟩ rfl hl.1 rfl (Nat.le_of_ble_eq_true rfl) ⟨Nat.zero_le _, Nat.zero_le _⟩ dX12_poly_18) hS (fun H locs hP hS hW => ?_)
    refine lv_if_eq (tgt := 33) hx hb dX12_poly_21 (by decide) (fun c7 => ?_) (fun c7 => ?_)
    · have hf := if_t c7 hf
      refine lv_iconst (v := (-1)) hx hb dX12_poly_33 rfl ?_
      cases hf
      exact x_reti C hP hS hW dX12_poly_34
    · have hf := if_f c7 hf
      refine lv_iload_n hx hb dX12_poly_24 rfl (lv_at hl 2 rfl) ?_
      refine lv_iconst (v := 0) hx hb dX12_poly_25 rfl ?_
      refine lv_iconst (v := 1) hx hb dX12_poly_26 rfl ?_
      refine x_aft_z (x_runS (As := [.int p1, .int 0, .int 1]) (rest := []) C hP hS (c_X12_within (l := l) C.2.2.2.2.2.2.2.2.2.1 hW rfl H.size) km_X12_within ks_X12_within qm_X12_386 ⟨(Nat.le_of_ble_eq_true rfl), (Nat.le_of_ble_eq_true rfl)⟩ rfl hl.1 rfl (Nat.le_of_ble_eq_true rfl) ⟨Nat.zero_le _, Nat.zero_le _⟩ dX12_poly_27) hS (fun H locs hP hS hW z8 => ?_)
      refine lv_if_ne (tgt := 35) hx hb dX12_poly_30 (by decide) (fun c9 => ?_) (fun c9 => ?_)
      · have hf := if_f c9 hf
        refine lv_aload_n hx hb dX12_poly_35 rfl (lv_at hl 0 rfl) ?_
        refine gf_X12_95 C hP h_a k_a dX12_poly_36 ?_
        obtain ⟨t10, et10, hf⟩ := bd1_e hf
        obtain ⟨h_t10, k_t10⟩ := wt_r hW h_a k_a (by decide) et10
        have k_t10 : G.2.1 t10 = 14 := k_t10
        rw [et10]
        refine lv_iconst (v := 4) hx hb dX12_poly_39 rfl ?_
        refine lv_aload_n hx hb dX12_poly_40 rfl (lv_at hl 0 rfl) ?_
        obtain ⟨r11, er11, hf⟩ := bd1_e hf
        refine x_aft_i (x_runV (As := []) (rest := [.int 4, .ref t10]) C hP hS (c_X12_regs (l := l) C.2.2.2.2.2.2.2.2.2.1 hW h_a k_a er11 H.size) h_a k_a (by decide) rfl rfl km_X12_regs ki_X12_regs qm_X12_212 ⟨(Nat.le_of_ble_eq_true rfl), (Nat.le_of_ble_eq_true rfl)⟩ rfl hl.1 rfl (Nat.le_of_ble_eq_true rfl) ⟨Nat.zero_le _, Nat.zero_le _⟩ dX12_poly_41) hS (fun H locs hP hS hW => ?_)
        refine lv_iadd hx hb dX12_poly_44 ?_
        refine lv_iconst (v := 1) hx hb dX12_poly_45 rfl ?_
        refine lv_isub hx hb dX12_poly_46 ?_
        obtain ⟨h12, hf⟩ := if_s hf
        refine x_iald C hP h_t10 k_t10 h12 dX12_poly_47 ?_
        obtain ⟨x13, ex13, hf⟩ := bnd_e hf
        refine nm_i ex13 ?_
        refine lv_istore_n (lv' := [(3, .int x13), (0, .ref a), (1, .int p0), (2, .int p1)]) hx hb dX12_poly_48 rfl hl (by decide) rfl (fun ls hl => ?_)
        refine lv_iconst (v := 0) hx hb dX12_poly_49 rfl ?_
        refine lv_istore (lv' := [(4, .int 0), (3, .int x13), (0, .ref a), (1, .int p0), (2, .int p1)]) hx hb dX12_poly_50 hl (by decide) rfl (fun ls hl => ?_)
        refine lv_aload_n hx hb dX12_poly_52 rfl (lv_at hl 2 rfl) ?_
        obtain ⟨r14, er14, hf⟩ := bd1_e hf
        refine x_aft_i (x_runV (As := []) (rest := []) C hP hS (c_X12_regs (l := l) C.2.2.2.2.2.2.2.2.2.1 hW h_a k_a er14 H.size) h_a k_a (by decide) rfl rfl km_X12_regs ki_X12_regs qm_X12_212 ⟨(Nat.le_of_ble_eq_true rfl), (Nat.le_of_ble_eq_true rfl)⟩ rfl hl.1 rfl (Nat.le_of_ble_eq_true rfl) ⟨Nat.zero_le _, Nat.zero_le _⟩ dX12_poly_53) hS (fun H locs hP hS hW => ?_)
        refine lv_iconst (v := 2) hx hb dX12_poly_56 rfl ?_
        refine lv_isub hx hb dX12_poly_57 ?_
        obtain ⟨x15, ex15, hf⟩ := bnd_e hf
        refine nm_i ex15 ?_
        refine lv_istore (lv' := [(5, .int x15), (4, .int 0), (3, .int x13), (0, .ref a), (1, .int p0), (2, .int p1)]) hx hb dX12_poly_58 hl (by decide) rfl (fun ls hl => ?_)
        exact b_X12_poly_60 C (b_X12_poly_96 C) F a p0 p1 x13 0 x15 h_a k_a S1 H locs _ hf hP hS hW (lv_sub hl [3, 4, 5, 2, 1, 0] rfl)
      · have hf := if_t c9 hf
        refine lv_iconst (v := (-1)) hx hb dX12_poly_33 rfl ?_
        cases hf
        exact x_reti C hP hS hW dX12_poly_34
def s_X12_raises (N : Nat → Nat) (F : Nat) (a : Nat) (p0 : Int32) (p1 : Int32) (p2 : Int32) (S : HS) : Option (Int32 × HS) :=
  bnd (uI S 1200 a 0) fun S1 =>
  bd1 (s_X12_areSmall N a p0 p1 S1) fun r2 =>
  if r2 = (0 : Int32) then
  some ((-1), S1)
  else
  if (s_X12_within p2 1 15 S1) = (0 : Int32) then
  some ((-1), S1)
  else
  bd2 (s_X12_addends N F a p0 p1 3 p2 S1) fun r7 S8 =>
  some (r7, S8)
set_option maxRecDepth 100000 in
set_option maxHeartbeats 4000000 in
theorem c_X12_raises {l : Launch} {V : EV} {G : GS} {S : HS} {F : Nat} {a : Nat} {p0 : Int32} {p1 : Int32} {p2 : Int32} {r : Int32} {S' : HS} (hN : G.1.Nodup) (hW : WT G S) (h_a : a ∈ G.1) (k_a : G.2.1 a = 12) (hf : s_X12_raises G.2.2 F a p0 p1 p2 S = some (r, S')) : MetI l yX12_raises cX12_raises 4 .int 22 742 V G S [.ref a, .int p0, .int p1, .int p2] r S' := by
  intro sz
  refine x_in RX12 rfl (by decide +kernel) hN (Nat.le_of_ble_eq_true rfl) (fun p e s m args below meth c ls hsz hargs hnm C hP hS hl => ?_)
  subst hsz
  have hx := C.1
  have hb := C.2.1
  have hl : lv_has ls 4 [(0, .ref a), (1, .int p0), (2, .int p1), (3, .int p2)] := hl
  unfold s_X12_raises at hf
  refine lv_aload_n hx hb dX12_raises_0 rfl (lv_at hl 0 rfl) ?_
  refine lv_iconst (v := 0) hx hb dX12_raises_1 rfl ?_
  obtain ⟨S1, eS1, hf⟩ := bnd_e hf
  refine pf_X12_1 C hP hS h_a k_a eS1 dX12_raises_2 (fun H locs hP hS => ?_)
  have hW : WT G S1 := by rw [eS1]; exact hW
  refine lv_aload_n hx hb dX12_raises_5 rfl (lv_at hl 0 rfl) ?_
  refine lv_iload_n hx hb dX12_raises_6 rfl (lv_at hl 1 rfl) ?_
  refine lv_iload_n hx hb dX12_raises_7 rfl (lv_at hl 2 rfl) ?_
  obtain ⟨r2, er2, hf⟩ := bd1_e hf
  refine x_aft_z (x_runV (As := [.int p0, .int p1]) (rest := []) C hP hS (c_X12_areSmall (l := l) C.2.2.2.2.2.2.2.2.2.1 hW h_a k_a er2 H.size) h_a k_a (by decide) rfl rfl km_X12_areSmall ki_X12_areSmall qm_X12_449 ⟨(Nat.le_of_ble_eq_true rfl), (Nat.le_of_ble_eq_true rfl)⟩ rfl hl.1 rfl (Nat.le_of_ble_eq_true rfl) ⟨Nat.zero_le _, Nat.zero_le _⟩ dX12_raises_8) hS (fun H locs hP hS hW z3 => ?_)
  refine lv_if_eq (tgt := 35) hx hb dX12_raises_11 (by decide) (fun c4 => ?_) (fun c4 => ?_)
  · have hf := if_t c4 hf
    refine lv_iconst (v := (-1)) hx hb dX12_raises_35 rfl ?_
    cases hf
    exact x_reti C hP hS hW dX12_raises_36
  · have hf := if_f c4 hf
    refine lv_iload_n hx hb dX12_raises_14 rfl (lv_at hl 3 rfl) ?_
    refine lv_iconst (v := 1) hx hb dX12_raises_15 rfl ?_
    refine lv_bipush (v := 15) hx hb dX12_raises_16 kc_bipush_15 ?_
    refine x_aft_z (x_runS (As := [.int p2, .int 1, .int 15]) (rest := []) C hP hS (c_X12_within (l := l) C.2.2.2.2.2.2.2.2.2.1 hW rfl H.size) km_X12_within ks_X12_within qm_X12_386 ⟨(Nat.le_of_ble_eq_true rfl), (Nat.le_of_ble_eq_true rfl)⟩ rfl hl.1 rfl (Nat.le_of_ble_eq_true rfl) ⟨Nat.zero_le _, Nat.zero_le _⟩ dX12_raises_18) hS (fun H locs hP hS hW z5 => ?_)
    refine lv_if_eq (tgt := 35) hx hb dX12_raises_21 (by decide) (fun c6 => ?_) (fun c6 => ?_)
    · have hf := if_t c6 hf
      refine lv_iconst (v := (-1)) hx hb dX12_raises_35 rfl ?_
      cases hf
      exact x_reti C hP hS hW dX12_raises_36
    · have hf := if_f c6 hf
      refine lv_aload_n hx hb dX12_raises_24 rfl (lv_at hl 0 rfl) ?_
      refine lv_iload_n hx hb dX12_raises_25 rfl (lv_at hl 1 rfl) ?_
      refine lv_iload_n hx hb dX12_raises_26 rfl (lv_at hl 2 rfl) ?_
      refine lv_iconst (v := 3) hx hb dX12_raises_27 rfl ?_
      refine lv_iload_n hx hb dX12_raises_28 rfl (lv_at hl 3 rfl) ?_
      obtain ⟨r7, S8, eS8, hf⟩ := bd2_e hf
      refine x_aft_i (x_runV (As := [.int p0, .int p1, .int 3, .int p2]) (rest := []) C hP hS (c_X12_addends (l := l) C.2.2.2.2.2.2.2.2.2.1 hW h_a k_a eS8 H.size) h_a k_a (by decide) rfl rfl km_X12_addends ki_X12_addends qm_X12_452 ⟨(Nat.le_of_ble_eq_true rfl), (Nat.le_of_ble_eq_true rfl)⟩ rfl hl.1 rfl (Nat.le_of_ble_eq_true rfl) ⟨Nat.zero_le _, Nat.zero_le _⟩ dX12_raises_29) hS (fun H locs hP hS hW => ?_)
      refine lv_goto (tgt := 36) hx hb dX12_raises_32 (by decide) ?_
      cases hf
      exact x_reti C hP hS hW dX12_raises_36
def s_X12_read (N : Nat → Nat) (a : Nat) (p0 : Int32) (S : HS) : Option Int32 :=
  bd1 (gR S 1210 a) fun t1 =>
  if inB (15 + p0) (N t1) = true then
  some (aI S t1 (15 + p0).toNatClampNeg)
  else none
set_option maxRecDepth 100000 in
set_option maxHeartbeats 4000000 in
theorem c_X12_read {l : Launch} {V : EV} {G : GS} {S : HS} {a : Nat} {p0 : Int32} {r : Int32} (hN : G.1.Nodup) (hW : WT G S) (h_a : a ∈ G.1) (k_a : G.2.1 a = 12) (hf : s_X12_read G.2.2 a p0 S = some r) : MetI l yX12_read cX12_read 2 .int 0 0 V G S [.ref a, .int p0] r S := by
  intro sz
  refine x_in RX12 rfl (by decide +kernel) hN (Nat.le_of_ble_eq_true rfl) (fun p e s m args below meth c ls hsz hargs hnm C hP hS hl => ?_)
  subst hsz
  have hx := C.1
  have hb := C.2.1
  have hl : lv_has ls 2 [(0, .ref a), (1, .int p0)] := hl
  unfold s_X12_read at hf
  refine lv_aload_n hx hb dX12_read_0 rfl (lv_at hl 0 rfl) ?_
  refine gf_X12_77 C hP h_a k_a dX12_read_1 ?_
  obtain ⟨t1, et1, hf⟩ := bd1_e hf
  obtain ⟨h_t1, k_t1⟩ := wt_r hW h_a k_a (by decide) et1
  have k_t1 : G.2.1 t1 = 14 := k_t1
  rw [et1]
  refine lv_bipush (v := 15) hx hb dX12_read_4 kc_bipush_15 ?_
  refine lv_iload_n hx hb dX12_read_6 rfl (lv_at hl 1 rfl) ?_
  refine lv_iadd hx hb dX12_read_7 ?_
  obtain ⟨h2, hf⟩ := if_s hf
  refine x_iald C hP h_t1 k_t1 h2 dX12_read_8 ?_
  cases hf
  exact x_reti C hP hS hW dX12_read_9
def s_X12_readName_J69 (N : Nat → Nat) (F : Nat) (v0 : Nat) (v1 : Int32) (v2 : Int32) (S : HS) : Option HS :=
  if (gI S 1208 v0) = (0 : Int32) then
  bd1 (gR S 1213 v0) fun t11 =>
  bd1 (gR S 1206 v0) fun t12 =>
  if inB (gI S 1207 v0) (N t12) = true then
  if inB ((10 + v1) + v2) (N t11) = true then
  bnd (wJ S t11 (((10 + v1) + v2).toNatClampNeg) (aJ S t12 (gI S 1207 v0).toNatClampNeg)) fun S15 =>
  bnd (uI S15 1207 v0 ((gI S15 1207 v0) + 1)) fun S16 =>
  some S16
  else none
  else none
  else
  some S
def s_X12_readName_J64 (N : Nat → Nat) (F : Nat) (v0 : Nat) (v1 : Int32) (v2 : Int32) (S : HS) : Option HS :=
  bd1 (s_X12_wrong N v0 3 S) fun S9 =>
  s_X12_readName_J69 N F v0 v1 v2 S9
def s_X12_readName (N : Nat → Nat) (F : Nat) (a : Nat) (p0 : Int32) (p1 : Int32) (p2 : Int32) (S : HS) : Option HS :=
  if p1 = p2 then
  bd1 (s_X12_wrong N a 5 S) fun S21 =>
  some S21
  else
  bnd (uI S 1207 a ((gI S 1207 a) + 1)) fun S2 =>
  bd1 (s_X12_isName N F a S2) fun r3 =>
  if r3 = (0 : Int32) then
  bd1 (s_X12_wrong N a 1 S2) fun S20 =>
  s_X12_readName_J69 N F a p0 p1 S20
  else
  bd1 (s_X12_read N a 0 S2) fun r6 =>
  bd1 (s_X12_nameAt N F a 10 r6 S2) fun r7 =>
  if (0 : Int32) ≤ r7 then
  s_X12_readName_J64 N F a p0 p1 S2
  else
  bd1 (s_X12_read N a 1 S2) fun r17 =>
  bd1 (s_X12_nameAt N F a 14 r17 S2) fun r18 =>
  if r18 < (0 : Int32) then
  s_X12_readName_J69 N F a p0 p1 S2
  else
  s_X12_readName_J64 N F a p0 p1 S2
set_option maxRecDepth 100000 in
set_option maxHeartbeats 4000000 in
theorem b_X12_readName_69 {p : Program} {l : Launch} {e : Env} {s : State} {m : MethodId} {args : Array Value} {below : List Frame} {meth : Method} {c : Code} {V : EV} {G : GS} {S' : HS} {F : Nat} (C : CX p s m args meth c RX12 cX12_readName 4 none V G) : ∀ (v0 : Nat) (v1 : Int32) (v2 : Int32) (h_v0 : v0 ∈ G.1) (k_v0 : G.2.1 v0 = 12) (S : HS) (H : Heap) (locs : List Loc) (ls : Array Slot), s_X12_readName_J69 G.2.2 F v0 v1 v2 S = some S' → HP V G S H → va_S (AG G s.heap.size) s.heap H locs → WT G S → lv_has ls 4 [(0, .ref v0), (1, .int v1), (2, .int v2)] → W p l e (RM 3 89) s m args below meth c H locs 0 0 (MQ below (QV V G S' s.heap.size) args s 0 0 (AG G s.heap.size)) (F0 m 69 ls []) := by
  intro v0 v1 v2 h_v0 k_v0 S H locs ls hf hP hS hW hl
  have hx := C.1
  have hb := C.2.1
  unfold s_X12_readName_J69 at hf
  refine lv_aload_n hx hb dX12_readName_69 rfl (lv_at hl 0 rfl) ?_
  refine gf_X12_144 C hP h_v0 k_v0 dX12_readName_70 ?_
  refine lv_if_ne (tgt := 106) hx hb dX12_readName_73 (by decide) (fun c10 => ?_) (fun c10 => ?_)
  · have hf := if_f c10 hf
    cases hf
    exact x_retv C hP hS hW dX12_readName_106
  · have hf := if_t c10 hf
    refine lv_aload_n hx hb dX12_readName_76 rfl (lv_at hl 0 rfl) ?_
    refine gf_X12_83 C hP h_v0 k_v0 dX12_readName_77 ?_
    obtain ⟨t11, et11, hf⟩ := bd1_e hf
    obtain ⟨h_t11, k_t11⟩ := wt_r hW h_v0 k_v0 (by decide) et11
    have k_t11 : G.2.1 t11 = 15 := k_t11
    rw [et11]
    refine lv_bipush (v := 10) hx hb dX12_readName_80 kc_bipush_10 ?_
    refine lv_iload_n hx hb dX12_readName_82 rfl (lv_at hl 1 rfl) ?_
    refine lv_iadd hx hb dX12_readName_83 ?_
    refine lv_iload_n hx hb dX12_readName_84 rfl (lv_at hl 2 rfl) ?_
    refine lv_iadd hx hb dX12_readName_85 ?_
    refine lv_aload_n hx hb dX12_readName_86 rfl (lv_at hl 0 rfl) ?_
    refine gf_X12_30 C hP h_v0 k_v0 dX12_readName_87 ?_
    obtain ⟨t12, et12, hf⟩ := bd1_e hf
    obtain ⟨h_t12, k_t12⟩ := wt_r hW h_v0 k_v0 (by decide) et12
    have k_t12 : G.2.1 t12 = 15 := k_t12
    rw [et12]
    refine lv_aload_n hx hb dX12_readName_90 rfl (lv_at hl 0 rfl) ?_
    refine gf_X12_141 C hP h_v0 k_v0 dX12_readName_91 ?_
    obtain ⟨h13, hf⟩ := if_s hf
    refine x_lald C hP h_t12 k_t12 h13 dX12_readName_94 ?_
    obtain ⟨h14, hf⟩ := if_s hf
    obtain ⟨S15, eS15, hf⟩ := bnd_e hf
    refine x_last C hP hS h_t11 k_t11 h14 eS15 dX12_readName_95 (fun H locs hP hS => ?_)
    have hW : WT G S15 := by rw [eS15]; exact hW
    refine lv_aload_n hx hb dX12_readName_96 rfl (lv_at hl 0 rfl) ?_
    refine lv_dup hx hb dX12_readName_97 rfl ?_
    refine gf_X12_141 C hP h_v0 k_v0 dX12_readName_98 ?_
    refine lv_iconst (v := 1) hx hb dX12_readName_101 rfl ?_
    refine lv_iadd hx hb dX12_readName_102 ?_
    obtain ⟨S16, eS16, hf⟩ := bnd_e hf
    refine pf_X12_141 C hP hS h_v0 k_v0 eS16 dX12_readName_103 (fun H locs hP hS => ?_)
    have hW : WT G S16 := by rw [eS16]; exact hW
    cases hf
    exact x_retv C hP hS hW dX12_readName_106
set_option maxRecDepth 100000 in
set_option maxHeartbeats 4000000 in
theorem b_X12_readName_64 {p : Program} {l : Launch} {e : Env} {s : State} {m : MethodId} {args : Array Value} {below : List Frame} {meth : Method} {c : Code} {V : EV} {G : GS} {S' : HS} {F : Nat} (C : CX p s m args meth c RX12 cX12_readName 4 none V G) : ∀ (v0 : Nat) (v1 : Int32) (v2 : Int32) (h_v0 : v0 ∈ G.1) (k_v0 : G.2.1 v0 = 12) (S : HS) (H : Heap) (locs : List Loc) (ls : Array Slot), s_X12_readName_J64 G.2.2 F v0 v1 v2 S = some S' → HP V G S H → va_S (AG G s.heap.size) s.heap H locs → WT G S → lv_has ls 4 [(0, .ref v0), (1, .int v1), (2, .int v2)] → W p l e (RM 3 89) s m args below meth c H locs 0 0 (MQ below (QV V G S' s.heap.size) args s 0 0 (AG G s.heap.size)) (F0 m 64 ls []) := by
  intro v0 v1 v2 h_v0 k_v0 S H locs ls hf hP hS hW hl
  have hx := C.1
  have hb := C.2.1
  unfold s_X12_readName_J64 at hf
  refine lv_aload_n hx hb dX12_readName_64 rfl (lv_at hl 0 rfl) ?_
  refine lv_iconst (v := 3) hx hb dX12_readName_65 rfl ?_
  obtain ⟨S9, eS9, hf⟩ := bd1_e hf
  refine x_aft_v (x_runV (As := [.int 3]) (rest := []) C hP hS (c_X12_wrong (l := l) C.2.2.2.2.2.2.2.2.2.1 hW h_v0 k_v0 eS9 H.size) h_v0 k_v0 (by decide) rfl rfl km_X12_wrong ki_X12_wrong qm_X12_150 ⟨(Nat.le_of_ble_eq_true rfl), (Nat.le_of_ble_eq_true rfl)⟩ rfl hl.1 rfl (Nat.le_of_ble_eq_true rfl) ⟨Nat.zero_le _, Nat.zero_le _⟩ dX12_readName_66) hS (fun H locs hP hS hW => ?_)
  exact b_X12_readName_69 C v0 v1 v2 h_v0 k_v0 S9 H locs _ hf hP hS hW (lv_sub hl [0, 1, 2] rfl)
set_option maxRecDepth 100000 in
set_option maxHeartbeats 4000000 in
theorem c_X12_readName {l : Launch} {V : EV} {G : GS} {S : HS} {F : Nat} {a : Nat} {p0 : Int32} {p1 : Int32} {p2 : Int32} {S' : HS} (hN : G.1.Nodup) (hW : WT G S) (h_a : a ∈ G.1) (k_a : G.2.1 a = 12) (hf : s_X12_readName G.2.2 F a p0 p1 p2 S = some S') : MetV l yX12_readName cX12_readName 4 3 89 V G S [.ref a, .int p0, .int p1, .int p2] S' := by
  intro sz
  refine x_in RX12 rfl (by decide +kernel) hN (Nat.le_of_ble_eq_true rfl) (fun p e s m args below meth c ls hsz hargs hnm C hP hS hl => ?_)
  subst hsz
  have hx := C.1
  have hb := C.2.1
  have hl : lv_has ls 4 [(0, .ref a), (1, .int p0), (2, .int p1), (3, .int p2)] := hl
  unfold s_X12_readName at hf
  refine lv_iload_n hx hb dX12_readName_0 rfl (lv_at hl 2 rfl) ?_
  refine lv_iload_n hx hb dX12_readName_1 rfl (lv_at hl 3 rfl) ?_
  refine lv_icmp_ne (tgt := 11) hx hb dX12_readName_2 (by decide) (fun c1 => ?_) (fun c1 => ?_)
  · have hf := if_f c1 hf
    refine lv_aload_n hx hb dX12_readName_11 rfl (lv_at hl 0 rfl) ?_
    refine lv_dup hx hb dX12_readName_12 rfl ?_
    refine gf_X12_141 C hP h_a k_a dX12_readName_13 ?_
    refine lv_iconst (v := 1) hx hb dX12_readName_16 rfl ?_
    refine lv_iadd hx hb dX12_readName_17 ?_
    obtain ⟨S2, eS2, hf⟩ := bnd_e hf
    refine pf_X12_141 C hP hS h_a k_a eS2 dX12_readName_18 (fun H locs hP hS => ?_)
    have hW : WT G S2 := by rw [eS2]; exact hW
    refine lv_aload_n hx hb dX12_readName_21 rfl (lv_at hl 0 rfl) ?_
    obtain ⟨r3, er3, hf⟩ := bd1_e hf
    refine x_aft_z (x_runV (As := []) (rest := []) C hP hS (c_X12_isName (l := l) C.2.2.2.2.2.2.2.2.2.1 hW h_a k_a er3 H.size) h_a k_a (by decide) rfl rfl km_X12_isName ki_X12_isName qm_X12_169 ⟨(Nat.le_of_ble_eq_true rfl), (Nat.le_of_ble_eq_true rfl)⟩ rfl hl.1 rfl (Nat.le_of_ble_eq_true rfl) ⟨Nat.zero_le _, Nat.zero_le _⟩ dX12_readName_22) hS (fun H locs hP hS hW z4 => ?_)
    refine lv_if_ne (tgt := 36) hx hb dX12_readName_25 (by decide) (fun c5 => ?_) (fun c5 => ?_)
    · have hf := if_f c5 hf
      refine lv_aload_n hx hb dX12_readName_36 rfl (lv_at hl 0 rfl) ?_
      refine lv_bipush (v := 10) hx hb dX12_readName_37 kc_bipush_10 ?_
      refine lv_aload_n hx hb dX12_readName_39 rfl (lv_at hl 0 rfl) ?_
      refine lv_iconst (v := 0) hx hb dX12_readName_40 rfl ?_
      obtain ⟨r6, er6, hf⟩ := bd1_e hf
      refine x_aft_i (x_runV (As := [.int 0]) (rest := [.int 10, .ref a]) C hP hS (c_X12_read (l := l) C.2.2.2.2.2.2.2.2.2.1 hW h_a k_a er6 H.size) h_a k_a (by decide) rfl rfl km_X12_read ki_X12_read qm_X12_188 ⟨(Nat.le_of_ble_eq_true rfl), (Nat.le_of_ble_eq_true rfl)⟩ rfl hl.1 rfl (Nat.le_of_ble_eq_true rfl) ⟨Nat.zero_le _, Nat.zero_le _⟩ dX12_readName_41) hS (fun H locs hP hS hW => ?_)
      obtain ⟨r7, er7, hf⟩ := bd1_e hf
      refine x_aft_i (x_runV (As := [.int 10, .int r6]) (rest := []) C hP hS (c_X12_nameAt (l := l) C.2.2.2.2.2.2.2.2.2.1 hW h_a k_a er7 H.size) h_a k_a (by decide) rfl rfl km_X12_nameAt ki_X12_nameAt qm_X12_173 ⟨(Nat.le_of_ble_eq_true rfl), (Nat.le_of_ble_eq_true rfl)⟩ rfl hl.1 rfl (Nat.le_of_ble_eq_true rfl) ⟨Nat.zero_le _, Nat.zero_le _⟩ dX12_readName_44) hS (fun H locs hP hS hW => ?_)
      refine lv_if_ge (tgt := 64) hx hb dX12_readName_47 (by decide) (fun c8 => ?_) (fun c8 => ?_)
      · have hf := if_t c8 hf
        exact b_X12_readName_64 C a p0 p1 h_a k_a S2 H locs _ hf hP hS hW (lv_sub hl [0, 1, 2] rfl)
      · have hf := if_f c8 hf
        refine lv_aload_n hx hb dX12_readName_50 rfl (lv_at hl 0 rfl) ?_
        refine lv_bipush (v := 14) hx hb dX12_readName_51 kc_bipush_14 ?_
        refine lv_aload_n hx hb dX12_readName_53 rfl (lv_at hl 0 rfl) ?_
        refine lv_iconst (v := 1) hx hb dX12_readName_54 rfl ?_
        obtain ⟨r17, er17, hf⟩ := bd1_e hf
        refine x_aft_i (x_runV (As := [.int 1]) (rest := [.int 14, .ref a]) C hP hS (c_X12_read (l := l) C.2.2.2.2.2.2.2.2.2.1 hW h_a k_a er17 H.size) h_a k_a (by decide) rfl rfl km_X12_read ki_X12_read qm_X12_188 ⟨(Nat.le_of_ble_eq_true rfl), (Nat.le_of_ble_eq_true rfl)⟩ rfl hl.1 rfl (Nat.le_of_ble_eq_true rfl) ⟨Nat.zero_le _, Nat.zero_le _⟩ dX12_readName_55) hS (fun H locs hP hS hW => ?_)
        obtain ⟨r18, er18, hf⟩ := bd1_e hf
        refine x_aft_i (x_runV (As := [.int 14, .int r17]) (rest := []) C hP hS (c_X12_nameAt (l := l) C.2.2.2.2.2.2.2.2.2.1 hW h_a k_a er18 H.size) h_a k_a (by decide) rfl rfl km_X12_nameAt ki_X12_nameAt qm_X12_173 ⟨(Nat.le_of_ble_eq_true rfl), (Nat.le_of_ble_eq_true rfl)⟩ rfl hl.1 rfl (Nat.le_of_ble_eq_true rfl) ⟨Nat.zero_le _, Nat.zero_le _⟩ dX12_readName_58) hS (fun H locs hP hS hW => ?_)
        refine lv_if_lt (tgt := 69) hx hb dX12_readName_61 (by decide) (fun c19 => ?_) (fun c19 => ?_)
        · have hf := if_t c19 hf
          exact b_X12_readName_69 C a p0 p1 h_a k_a S2 H locs _ hf hP hS hW (lv_sub hl [0, 1, 2] rfl)
        · have hf := if_f c19 hf
          exact b_X12_readName_64 C a p0 p1 h_a k_a S2 H locs _ hf hP hS hW (lv_sub hl [0, 1, 2] rfl)
    · have hf := if_t c5 hf
      refine lv_aload_n hx hb dX12_readName_28 rfl (lv_at hl 0 rfl) ?_
      refine lv_iconst (v := 1) hx hb dX12_readName_29 rfl ?_
      obtain ⟨S20, eS20, hf⟩ := bd1_e hf
      refine x_aft_v (x_runV (As := [.int 1]) (rest := []) C hP hS (c_X12_wrong (l := l) C.2.2.2.2.2.2.2.2.2.1 hW h_a k_a eS20 H.size) h_a k_a (by decide) rfl rfl km_X12_wrong ki_X12_wrong qm_X12_150 ⟨(Nat.le_of_ble_eq_true rfl), (Nat.le_of_ble_eq_true rfl)⟩ rfl hl.1 rfl (Nat.le_of_ble_eq_true rfl) ⟨Nat.zero_le _, Nat.zero_le _⟩ dX12_readName_30) hS (fun H locs hP hS hW => ?_)
      refine lv_goto (tgt := 69) hx hb dX12_readName_33 (by decide) ?_
      exact b_X12_readName_69 C a p0 p1 h_a k_a S20 H locs _ hf hP hS hW (lv_sub hl [0, 1, 2] rfl)
  · have hf := if_t c1 hf
    refine lv_aload_n hx hb dX12_readName_5 rfl (lv_at hl 0 rfl) ?_
    refine lv_iconst (v := 5) hx hb dX12_readName_6 rfl ?_
    obtain ⟨S21, eS21, hf⟩ := bd1_e hf
    refine x_aft_v (x_runV (As := [.int 5]) (rest := []) C hP hS (c_X12_wrong (l := l) C.2.2.2.2.2.2.2.2.2.1 hW h_a k_a eS21 s.heap.size) h_a k_a (by decide) rfl rfl km_X12_wrong ki_X12_wrong qm_X12_150 ⟨(Nat.le_of_ble_eq_true rfl), (Nat.le_of_ble_eq_true rfl)⟩ rfl hl.1 rfl (Nat.le_of_ble_eq_true rfl) ⟨Nat.zero_le _, Nat.zero_le _⟩ dX12_readName_7) hS (fun H locs hP hS hW => ?_)
    cases hf
    exact x_retv C hP hS hW dX12_readName_10
def s_X12_takeOne_J51 (N : Nat → Nat) (F : Nat) (v0 : Nat) (v3 : Int32) (w0 : Nat) (w1 : Int32) (w2 : Int32) (S : HS) : Option (Int32 × HS) :=
  bnd (uI S 1207 w0 (w1 + w2)) fun S5 =>
  if (gI S5 1208 v0) ≤ (0 : Int32) then
  some (v3, S5)
  else
  some (0, S5)
def s_X12_takeOne_J34 (N : Nat → Nat) (F : Nat) (v0 : Nat) (v3 : Int32) (S : HS) : Option (Int32 × HS) :=
  if (gI S 1208 v0) ≤ (0 : Int32) then
  s_X12_takeOne_J51 N F v0 v3 v0 (gI S 1207 v0) 1 S
  else
  s_X12_takeOne_J51 N F v0 v3 v0 (gI S 1207 v0) 0 S
def s_X12_takeOne_J17 (N : Nat → Nat) (F : Nat) (v0 : Nat) (w0 : Int32) (S : HS) : Option (Int32 × HS) :=
  if (gI S 1208 v0) = (0 : Int32) then
  if (0 : Int32) ≤ w0 then
  s_X12_takeOne_J34 N F v0 w0 S
  else
  bd1 (s_X12_wrong N v0 1 S) fun S8 =>
  s_X12_takeOne_J34 N F v0 w0 S8
  else
  s_X12_takeOne_J34 N F v0 w0 S
def s_X12_takeOne (N : Nat → Nat) (F : Nat) (a : Nat) (p0 : Int32) (p1 : Int32) (S : HS) : Option (Int32 × HS) :=
  if (gI S 1208 a) ≤ (0 : Int32) then
  bd1 (s_X12_wordHere N F a p0 p1 S) fun r2 =>
  s_X12_takeOne_J17 N F a r2 S
  else
  s_X12_takeOne_J17 N F a (-1) S
set_option maxRecDepth 100000 in
set_option maxHeartbeats 4000000 in
theorem b_X12_takeOne_51 {p : Program} {l : Launch} {e : Env} {s : State} {m : MethodId} {args : Array Value} {below : List Frame} {meth : Method} {c : Code} {V : EV} {G : GS} {r : Int32} {S' : HS} {F : Nat} (C : CX p s m args meth c RX12 cX12_takeOne 4 (some .int) V G) : ∀ (v0 : Nat) (v3 : Int32) (w0 : Nat) (w1 : Int32) (w2 : Int32) (h_v0 : v0 ∈ G.1) (k_v0 : G.2.1 v0 = 12) (h_w0 : w0 ∈ G.1) (k_w0 : G.2.1 w0 = 12) (S : HS) (H : Heap) (locs : List Loc) (ls : Array Slot), s_X12_takeOne_J51 G.2.2 F v0 v3 w0 w1 w2 S = some (r, S') → HP V G S H → va_S (AG G s.heap.size) s.heap H locs → WT G S → lv_has ls 4 [(0, .ref v0), (3, .int v3)] → W p l e (RM 2 61) s m args below meth c H locs 0 0 (MQ below (QI V G S' r s.heap.size) args s 0 0 (AG G s.heap.size)) (F0 m 51 ls [.int w2, .int w1, .ref w0]) := by
  intro v0 v3 w0 w1 w2 h_v0 k_v0 h_w0 k_w0 S H locs ls hf hP hS hW hl
  have hx := C.1
  have hb := C.2.1
  unfold s_X12_takeOne_J51 at hf
  refine lv_iadd hx hb dX12_takeOne_51 ?_
  obtain ⟨S5, eS5, hf⟩ := bnd_e hf
  refine pf_X12_141 C hP hS h_w0 k_w0 eS5 dX12_takeOne_52 (fun H locs hP hS => ?_)
  have hW : WT G S5 := by rw [eS5]; exact hW
  refine lv_aload_n hx hb dX12_takeOne_55 rfl (lv_at hl 0 rfl) ?_
  refine gf_X12_144 C hP h_v0 k_v0 dX12_takeOne_56 ?_
  refine lv_if_le (tgt := 66) hx hb dX12_takeOne_59 (by decide) (fun c6 => ?_) (fun c6 => ?_)
  · have hf := if_t c6 hf
    refine lv_iload_n hx hb dX12_takeOne_66 rfl (lv_at hl 1 rfl) ?_
    cases hf
    exact x_reti C hP hS hW dX12_takeOne_67
  · have hf := if_f c6 hf
    refine lv_iconst (v := 0) hx hb dX12_takeOne_62 rfl ?_
    refine lv_goto (tgt := 67) hx hb dX12_takeOne_63 (by decide) ?_
    cases hf
    exact x_reti C hP hS hW dX12_takeOne_67
set_option maxRecDepth 100000 in
set_option maxHeartbeats 4000000 in
theorem b_X12_takeOne_34 {p : Program} {l : Launch} {e : Env} {s : State} {m : MethodId} {args : Array Value} {below : List Frame} {meth : Method} {c : Code} {V : EV} {G : GS} {r : Int32} {S' : HS} {F : Nat} (C : CX p s m args meth c RX12 cX12_takeOne 4 (some .int) V G) : ∀ (v0 : Nat) (v3 : Int32) (h_v0 : v0 ∈ G.1) (k_v0 : G.2.1 v0 = 12) (S : HS) (H : Heap) (locs : List Loc) (ls : Array Slot), s_X12_takeOne_J34 G.2.2 F v0 v3 S = some (r, S') → HP V G S H → va_S (AG G s.heap.size) s.heap H locs → WT G S → lv_has ls 4 [(0, .ref v0), (3, .int v3)] → W p l e (RM 2 61) s m args below meth c H locs 0 0 (MQ below (QI V G S' r s.heap.size) args s 0 0 (AG G s.heap.size)) (F0 m 34 ls []) := by
  intro v0 v3 h_v0 k_v0 S H locs ls hf hP hS hW hl
  have hx := C.1
  have hb := C.2.1
  unfold s_X12_takeOne_J34 at hf
  refine lv_aload_n hx hb dX12_takeOne_34 rfl (lv_at hl 0 rfl) ?_
  refine lv_dup hx hb dX12_takeOne_35 rfl ?_
  refine gf_X12_141 C hP h_v0 k_v0 dX12_takeOne_36 ?_
  refine lv_aload_n hx hb dX12_takeOne_39 rfl (lv_at hl 0 rfl) ?_
  refine gf_X12_144 C hP h_v0 k_v0 dX12_takeOne_40 ?_
  refine lv_if_le (tgt := 50) hx hb dX12_takeOne_43 (by decide) (fun c4 => ?_) (fun c4 => ?_)
  · have hf := if_t c4 hf
    refine lv_iconst (v := 1) hx hb dX12_takeOne_50 rfl ?_
    exact b_X12_takeOne_51 C v0 v3 v0 (gI S 1207 v0) 1 h_v0 k_v0 h_v0 k_v0 S H locs _ hf hP hS hW (lv_sub hl [0, 1] rfl)
  · have hf := if_f c4 hf
    refine lv_iconst (v := 0) hx hb dX12_takeOne_46 rfl ?_
    refine lv_goto (tgt := 51) hx hb dX12_takeOne_47 (by decide) ?_
    exact b_X12_takeOne_51 C v0 v3 v0 (gI S 1207 v0) 0 h_v0 k_v0 h_v0 k_v0 S H locs _ hf hP hS hW (lv_sub hl [0, 1] rfl)
set_option maxRecDepth 100000 in
set_option maxHeartbeats 4000000 in
theorem b_X12_takeOne_17 {p : Program} {l : Launch} {e : Env} {s : State} {m : MethodId} {args : Array Value} {below : List Frame} {meth : Method} {c : Code} {V : EV} {G : GS} {r : Int32} {S' : HS} {F : Nat} (C : CX p s m args meth c RX12 cX12_takeOne 4 (some .int) V G) : ∀ (v0 : Nat) (w0 : Int32) (h_v0 : v0 ∈ G.1) (k_v0 : G.2.1 v0 = 12) (S : HS) (H : Heap) (locs : List Loc) (ls : Array Slot), s_X12_takeOne_J17 G.2.2 F v0 w0 S = some (r, S') → HP V G S H → va_S (AG G s.heap.size) s.heap H locs → WT G S → lv_has ls 4 [(0, .ref v0)] → W p l e (RM 2 61) s m args below meth c H locs 0 0 (MQ below (QI V G S' r s.heap.size) args s 0 0 (AG G s.heap.size)) (F0 m 17 ls [.int w0]) := by
  intro v0 w0 h_v0 k_v0 S H locs ls hf hP hS hW hl
  have hx := C.1
  have hb := C.2.1
  unfold s_X12_takeOne_J17 at hf
  refine lv_istore_n (lv' := [(3, .int w0), (0, .ref v0)]) hx hb dX12_takeOne_17 rfl hl (by decide) rfl (fun ls hl => ?_)
  refine lv_aload_n hx hb dX12_takeOne_18 rfl (lv_at hl 1 rfl) ?_
  refine gf_X12_144 C hP h_v0 k_v0 dX12_takeOne_19 ?_
  refine lv_if_ne (tgt := 34) hx hb dX12_takeOne_22 (by decide) (fun c3 => ?_) (fun c3 => ?_)
  · have hf := if_f c3 hf
    exact b_X12_takeOne_34 C v0 w0 h_v0 k_v0 S H locs _ hf hP hS hW (lv_sub hl [1, 0] rfl)
  · have hf := if_t c3 hf
    refine lv_iload_n hx hb dX12_takeOne_25 rfl (lv_at hl 0 rfl) ?_
    refine lv_if_ge (tgt := 34) hx hb dX12_takeOne_26 (by decide) (fun c7 => ?_) (fun c7 => ?_)
    · have hf := if_t c7 hf
      exact b_X12_takeOne_34 C v0 w0 h_v0 k_v0 S H locs _ hf hP hS hW (lv_sub hl [1, 0] rfl)
    · have hf := if_f c7 hf
      refine lv_aload_n hx hb dX12_takeOne_29 rfl (lv_at hl 1 rfl) ?_
      refine lv_iconst (v := 1) hx hb dX12_takeOne_30 rfl ?_
      obtain ⟨S8, eS8, hf⟩ := bd1_e hf
      refine x_aft_v (x_runV (As := [.int 1]) (rest := []) C hP hS (c_X12_wrong (l := l) C.2.2.2.2.2.2.2.2.2.1 hW h_v0 k_v0 eS8 H.size) h_v0 k_v0 (by decide) rfl rfl km_X12_wrong ki_X12_wrong qm_X12_150 ⟨(Nat.le_of_ble_eq_true rfl), (Nat.le_of_ble_eq_true rfl)⟩ rfl hl.1 rfl (Nat.le_of_ble_eq_true rfl) ⟨Nat.zero_le _, Nat.zero_le _⟩ dX12_takeOne_31) hS (fun H locs hP hS hW => ?_)
      exact b_X12_takeOne_34 C v0 w0 h_v0 k_v0 S8 H locs _ hf hP hS hW (lv_sub hl [1, 0] rfl)
set_option maxRecDepth 100000 in
set_option maxHeartbeats 4000000 in
theorem c_X12_takeOne {l : Launch} {V : EV} {G : GS} {S : HS} {F : Nat} {a : Nat} {p0 : Int32} {p1 : Int32} {r : Int32} {S' : HS} (hN : G.1.Nodup) (hW : WT G S) (h_a : a ∈ G.1) (k_a : G.2.1 a = 12) (hf : s_X12_takeOne G.2.2 F a p0 p1 S = some (r, S')) : MetI l yX12_takeOne cX12_takeOne 4 .int 2 61 V G S [.ref a, .int p0, .int p1] r S' := by
  intro sz
  refine x_in RX12 rfl (by decide +kernel) hN (Nat.le_of_ble_eq_true rfl) (fun p e s m args below meth c ls hsz hargs hnm C hP hS hl => ?_)
  subst hsz
  have hx := C.1
  have hb := C.2.1
  have hl : lv_has ls 4 [(0, .ref a), (1, .int p0), (2, .int p1)] := hl
  unfold s_X12_takeOne at hf
  refine lv_aload_n hx hb dX12_takeOne_0 rfl (lv_at hl 0 rfl) ?_
  refine gf_X12_144 C hP h_a k_a dX12_takeOne_1 ?_
  refine lv_if_le (tgt := 11) hx hb dX12_takeOne_4 (by decide) (fun c1 => ?_) (fun c1 => ?_)
  · have hf := if_t c1 hf
    refine lv_aload_n hx hb dX12_takeOne_11 rfl (lv_at hl 0 rfl) ?_
    refine lv_iload_n hx hb dX12_takeOne_12 rfl (lv_at hl 1 rfl) ?_
    refine lv_iload_n hx hb dX12_takeOne_13 rfl (lv_at hl 2 rfl) ?_
    obtain ⟨r2, er2, hf⟩ := bd1_e hf
    refine x_aft_i (x_runV (As := [.int p0, .int p1]) (rest := []) C hP hS (c_X12_wordHere (l := l) C.2.2.2.2.2.2.2.2.2.1 hW h_a k_a er2 s.heap.size) h_a k_a (by decide) rfl rfl km_X12_wordHere ki_X12_wordHere qm_X12_166 ⟨(Nat.le_of_ble_eq_true rfl), (Nat.le_of_ble_eq_true rfl)⟩ rfl hl.1 rfl (Nat.le_of_ble_eq_true rfl) ⟨Nat.zero_le _, Nat.zero_le _⟩ dX12_takeOne_14) hS (fun H locs hP hS hW => ?_)
    exact b_X12_takeOne_17 C a r2 h_a k_a S H locs _ hf hP hS hW (lv_sub hl [0] rfl)
  · have hf := if_f c1 hf
    refine lv_iconst (v := (-1)) hx hb dX12_takeOne_7 rfl ?_
    refine lv_goto (tgt := 17) hx hb dX12_takeOne_8 (by decide) ?_
    exact b_X12_takeOne_17 C a (-1) h_a k_a S s.heap [] _ hf hP hS hW (lv_sub hl [0] rfl)
def s_X12_takeWord (N : Nat → Nat) (a : Nat) (p0 : Int32) (S : HS) : Option HS :=
  bd2 (s_X12_hasWord N a p0 S) fun r1 S2 =>
  if r1 = (0 : Int32) then
  bd1 (s_X12_wrong N a 1 S2) fun S5 =>
  some S5
  else
  some S2
set_option maxRecDepth 100000 in
set_option maxHeartbeats 4000000 in
theorem c_X12_takeWord {l : Launch} {V : EV} {G : GS} {S : HS} {a : Nat} {p0 : Int32} {S' : HS} (hN : G.1.Nodup) (hW : WT G S) (h_a : a ∈ G.1) (k_a : G.2.1 a = 12) (hf : s_X12_takeWord G.2.2 a p0 S = some S') : MetV l yX12_takeWord cX12_takeWord 2 2 59 V G S [.ref a, .int p0] S' := by
  intro sz
  refine x_in RX12 rfl (by decide +kernel) hN (Nat.le_of_ble_eq_true rfl) (fun p e s m args below meth c ls hsz hargs hnm C hP hS hl => ?_)
  subst hsz
  have hx := C.1
  have hb := C.2.1
  have hl : lv_has ls 2 [(0, .ref a), (1, .int p0)] := hl
  unfold s_X12_takeWord at hf
  refine lv_aload_n hx hb dX12_takeWord_0 rfl (lv_at hl 0 rfl) ?_
  refine lv_iload_n hx hb dX12_takeWord_1 rfl (lv_at hl 1 rfl) ?_
  obtain ⟨r1, S2, eS2, hf⟩ := bd2_e hf
  refine x_aft_z (x_runV (As := [.int p0]) (rest := []) C hP hS (c_X12_hasWord (l := l) C.2.2.2.2.2.2.2.2.2.1 hW h_a k_a eS2 s.heap.size) h_a k_a (by decide) rfl rfl km_X12_hasWord ki_X12_hasWord qm_X12_156 ⟨(Nat.le_of_ble_eq_true rfl), (Nat.le_of_ble_eq_true rfl)⟩ rfl hl.1 rfl (Nat.le_of_ble_eq_true rfl) ⟨Nat.zero_le _, Nat.zero_le _⟩ dX12_takeWord_2) hS (fun H locs hP hS hW z3 => ?_)
  refine lv_if_ne (tgt := 13) hx hb dX12_takeWord_5 (by decide) (fun c4 => ?_) (fun c4 => ?_)
  · have hf := if_f c4 hf
    cases hf
    exact x_retv C hP hS hW dX12_takeWord_13
  · have hf := if_t c4 hf
    refine lv_aload_n hx hb dX12_takeWord_8 rfl (lv_at hl 0 rfl) ?_
    refine lv_iconst (v := 1) hx hb dX12_takeWord_9 rfl ?_
    obtain ⟨S5, eS5, hf⟩ := bd1_e hf
    refine x_aft_v (x_runV (As := [.int 1]) (rest := []) C hP hS (c_X12_wrong (l := l) C.2.2.2.2.2.2.2.2.2.1 hW h_a k_a eS5 H.size) h_a k_a (by decide) rfl rfl km_X12_wrong ki_X12_wrong qm_X12_150 ⟨(Nat.le_of_ble_eq_true rfl), (Nat.le_of_ble_eq_true rfl)⟩ rfl hl.1 rfl (Nat.le_of_ble_eq_true rfl) ⟨Nat.zero_le _, Nat.zero_le _⟩ dX12_takeWord_10) hS (fun H locs hP hS hW => ?_)
    cases hf
    exact x_retv C hP hS hW dX12_takeWord_13
def s_X12_takeAfter (N : Nat → Nat) (a : Nat) (p0 : Int32) (p1 : Int32) (p2 : Int32) (S : HS) : Option (Int32 × HS) :=
  bd1 (s_X12_takeWord N a p0 S) fun S1 =>
  bd2 (s_X12_takeNumber N a p1 p2 S1) fun r2 S3 =>
  some (r2, S3)
set_option maxRecDepth 100000 in
set_option maxHeartbeats 4000000 in
theorem c_X12_takeAfter {l : Launch} {V : EV} {G : GS} {S : HS} {a : Nat} {p0 : Int32} {p1 : Int32} {p2 : Int32} {r : Int32} {S' : HS} (hN : G.1.Nodup) (hW : WT G S) (h_a : a ∈ G.1) (k_a : G.2.1 a = 12) (hf : s_X12_takeAfter G.2.2 a p0 p1 p2 S = some (r, S')) : MetI l yX12_takeAfter cX12_takeAfter 4 .int 3 88 V G S [.ref a, .int p0, .int p1, .int p2] r S' := by
  intro sz
  refine x_in RX12 rfl (by decide +kernel) hN (Nat.le_of_ble_eq_true rfl) (fun p e s m args below meth c ls hsz hargs hnm C hP hS hl => ?_)
  subst hsz
  have hx := C.1
  have hb := C.2.1
  have hl : lv_has ls 4 [(0, .ref a), (1, .int p0), (2, .int p1), (3, .int p2)] := hl
  unfold s_X12_takeAfter at hf
  refine lv_aload_n hx hb dX12_takeAfter_0 rfl (lv_at hl 0 rfl) ?_
  refine lv_iload_n hx hb dX12_takeAfter_1 rfl (lv_at hl 1 rfl) ?_
  obtain ⟨S1, eS1, hf⟩ := bd1_e hf
  refine x_aft_v (x_runV (As := [.int p0]) (rest := []) C hP hS (c_X12_takeWord (l := l) C.2.2.2.2.2.2.2.2.2.1 hW h_a k_a eS1 s.heap.size) h_a k_a (by decide) rfl rfl km_X12_takeWord ki_X12_takeWord qm_X12_159 ⟨(Nat.le_of_ble_eq_true rfl), (Nat.le_of_ble_eq_true rfl)⟩ rfl hl.1 rfl (Nat.le_of_ble_eq_true rfl) ⟨Nat.zero_le _, Nat.zero_le _⟩ dX12_takeAfter_2) hS (fun H locs hP hS hW => ?_)
  refine lv_aload_n hx hb dX12_takeAfter_5 rfl (lv_at hl 0 rfl) ?_
  refine lv_iload_n hx hb dX12_takeAfter_6 rfl (lv_at hl 2 rfl) ?_
  refine lv_iload_n hx hb dX12_takeAfter_7 rfl (lv_at hl 3 rfl) ?_
  obtain ⟨r2, S3, eS3, hf⟩ := bd2_e hf
  refine x_aft_i (x_runV (As := [.int p1, .int p2]) (rest := []) C hP hS (c_X12_takeNumber (l := l) C.2.2.2.2.2.2.2.2.2.1 hW h_a k_a eS3 H.size) h_a k_a (by decide) rfl rfl km_X12_takeNumber ki_X12_takeNumber qm_X12_162 ⟨(Nat.le_of_ble_eq_true rfl), (Nat.le_of_ble_eq_true rfl)⟩ rfl hl.1 rfl (Nat.le_of_ble_eq_true rfl) ⟨Nat.zero_le _, Nat.zero_le _⟩ dX12_takeAfter_8) hS (fun H locs hP hS hW => ?_)
  cases hf
  exact x_reti C hP hS hW dX12_takeAfter_11
def s_X12_takePart_J165 (N : Nat → Nat) (F : Nat) (rp : Nat → Int32 → HS → Option HS) (v0 : Nat) (w0 : Nat) (w1 : Int32) (w2 : Int32) (S : HS) : Option HS :=
  bd1 (s_X12_emit N w0 w1 w2 S) fun S19 =>
  bnd (uI S19 1207 v0 ((gI S19 1207 v0) + 1)) fun S20 =>
  some S20
def s_X12_takePart_J147 (N : Nat → Nat) (F : Nat) (rp : Nat → Int32 → HS → Option HS) (v0 : Nat) (v2 : Int32) (v3 : Int32) (w0 : Nat) (w1 : Int32) (S : HS) : Option HS :=
  if v2 = (0 : Int32) then
  s_X12_takePart_J165 N F rp v0 w0 w1 v3 S
  else
  bd1 (gR S 1206 v0) fun t21 =>
  if inB (gI S 1207 v0) (N t21) = true then
  s_X12_takePart_J165 N F rp v0 w0 w1 ((aJ S t21 (gI S 1207 v0).toNatClampNeg).toInt32) S
  else none
def s_X12_takePart_J79 (N : Nat → Nat) (F : Nat) (rp : Nat → Int32 → HS → Option HS) (v0 : Nat) (v1 : Int32) (v2 : Int32) (v3 : Int32) (S : HS) : Option HS :=
  if (gI S 1208 v0) ≤ (0 : Int32) then
  bd2 (s_X12_hasWord N v0 13 S) fun r9 S10 =>
  if r9 = (0 : Int32) then
  bd2 (s_X12_hasSign N v0 40 S10) fun r13 S14 =>
  if r13 = (0 : Int32) then
  if v2 = (0 : Int32) then
  s_X12_takePart_J147 N F rp v0 v2 v3 v0 2 S14
  else
  s_X12_takePart_J147 N F rp v0 v2 v3 v0 1 S14
  else
  bd1 (s_X12_allOf N F rp v0 (v1 + 1) S14) fun S23 =>
  bd1 (s_X12_takeSign N v0 41 S23) fun S24 =>
  some S24
  else
  bd1 (rp v0 (v1 + 1) S10) fun S25 =>
  bd1 (s_X12_emit N v0 3 0 S25) fun S26 =>
  some S26
  else
  some S
def s_X12_takePart_J69 (N : Nat → Nat) (F : Nat) (rp : Nat → Int32 → HS → Option HS) (v0 : Nat) (v1 : Int32) (v2 : Int32) (v3 : Int32) (S : HS) : Option HS :=
  if v1 = (5 : Int32) then
  bd1 (s_X12_wrong N v0 5 S) fun S27 =>
  s_X12_takePart_J79 N F rp v0 v1 v2 v3 S27
  else
  s_X12_takePart_J79 N F rp v0 v1 v2 v3 S
def s_X12_takePart_J26 (N : Nat → Nat) (F : Nat) (rp : Nat → Int32 → HS → Option HS) (v0 : Nat) (v1 : Int32) (w0 : Int32) (S : HS) : Option HS :=
  bd1 (s_X12_wordHere N F v0 16 4 S) fun r5 =>
  if (0 : Int32) ≤ r5 then
  s_X12_takePart_J69 N F rp v0 v1 w0 r5 S
  else
  if w0 = (0 : Int32) then
  bd1 (s_X12_isSign N v0 40 S) fun r29 =>
  if r29 = (0 : Int32) then
  bd1 (s_X12_isWord N v0 13 S) fun r32 =>
  if r32 = (0 : Int32) then
  bd1 (s_X12_wrong N v0 1 S) fun S35 =>
  s_X12_takePart_J79 N F rp v0 v1 w0 r5 S35
  else
  s_X12_takePart_J69 N F rp v0 v1 w0 r5 S
  else
  s_X12_takePart_J69 N F rp v0 v1 w0 r5 S
  else
  s_X12_takePart_J69 N F rp v0 v1 w0 r5 S
def s_X12_takePart_body (N : Nat → Nat) (F : Nat) (rp : Nat → Int32 → HS → Option HS) (a : Nat) (p0 : Int32) (S : HS) : Option HS :=
  if (gI S 1208 a) ≤ (0 : Int32) then
  bd1 (gR S 1204 a) fun t2 =>
  if inB (gI S 1207 a) (N t2) = true then
  if (aI S t2 (gI S 1207 a).toNatClampNeg) = (2 : Int32) then
  s_X12_takePart_J26 N F rp a p0 1 S
  else
  s_X12_takePart_J26 N F rp a p0 0 S
  else none
  else
  some S
def s_X12_takePart (N : Nat → Nat) (F : Nat) : Nat → Nat → Int32 → HS → Option HS
  | 0, _, _, _ => none
  | n + 1, a, p0, S => s_X12_takePart_body N F (s_X12_takePart N F n) a p0 S
set_option maxRecDepth 100000 in
set_option maxHeartbeats 4000000 in
theorem b_X12_takePart_165 {p : Program} {l : Launch} {e : Env} {s : State} {m : MethodId} {args : Array Value} {below : List Frame} {meth : Method} {c : Code} {V : EV} {G : GS} {S' : HS} {F : Nat} {fr lo : Nat} {rp : Nat → Int32 → HS → Option HS} (hrp : ∀ (this : Nat) (q0 : Int32), ∀ {S S1 : HS}, WT G S → this ∈ G.1 → G.2.1 this = 12 → rp this q0 S = some S1 → MetV l yX12_takePart cX12_takePart 4 fr lo V G S [.ref this, .int q0] S1) (C : CX p s m args meth c RX12 cX12_takePart 4 none V G) : ∀ (v0 : Nat) (w0 : Nat) (w1 : Int32) (w2 : Int32) (h_v0 : v0 ∈ G.1) (k_v0 : G.2.1 v0 = 12) (h_w0 : w0 ∈ G.1) (k_w0 : G.2.1 w0 = 12) (S : HS) (H : Heap) (locs : List Loc) (ls : Array Slot), s_X12_takePart_J165 G.2.2 F rp v0 w0 w1 w2 S = some S' → HP V G S H → va_S (AG G s.heap.size) s.heap H locs → WT G S → lv_has ls 4 [(0, .ref v0)] → W p l e (RM (fr + 6) (lo + 178)) s m args below meth c H locs 0 0 (MQ below (QV V G S' s.heap.size) args s 0 0 (AG G s.heap.size)) (F0 m 165 ls [.int w2, .int w1, .ref w0]) := by
  intro v0 w0 w1 w2 h_v0 k_v0 h_w0 k_w0 S H locs ls hf hP hS hW hl
  have hx := C.1
  have hb := C.2.1
  unfold s_X12_takePart_J165 at hf
  obtain ⟨S19, eS19, hf⟩ := bd1_e hf
  refine x_aft_v (x_runV (As := [.int w1, .int w2]) (rest := []) C hP hS (c_X12_emit (l := l) C.2.2.2.2.2.2.2.2.2.1 hW h_w0 k_w0 eS19 H.size) h_w0 k_w0 (by decide) rfl rfl km_X12_emit ki_X12_emit qm_X12_205 ⟨(by show _ ≤ _; simp only [RM]; omega), (by show _ ≤ _; simp only [RM]; omega)⟩ rfl hl.1 rfl (Nat.le_of_ble_eq_true rfl) ⟨Nat.zero_le _, Nat.zero_le _⟩ dX12_takePart_165) hS (fun H locs hP hS hW => ?_)
  refine lv_aload_n hx hb dX12_takePart_168 rfl (lv_at hl 0 rfl) ?_
  refine lv_dup hx hb dX12_takePart_169 rfl ?_
  refine gf_X12_141 C hP h_v0 k_v0 dX12_takePart_170 ?_
  refine lv_iconst (v := 1) hx hb dX12_takePart_173 rfl ?_
  refine lv_iadd hx hb dX12_takePart_174 ?_
  obtain ⟨S20, eS20, hf⟩ := bnd_e hf
  refine pf_X12_141 C hP hS h_v0 k_v0 eS20 dX12_takePart_175 (fun H locs hP hS => ?_)
  have hW : WT G S20 := by rw [eS20]; exact hW
  cases hf
  exact x_retv C hP hS hW dX12_takePart_178
set_option maxRecDepth 100000 in
set_option maxHeartbeats 4000000 in
theorem b_X12_takePart_147 {p : Program} {l : Launch} {e : Env} {s : State} {m : MethodId} {args : Array Value} {below : List Frame} {meth : Method} {c : Code} {V : EV} {G : GS} {S' : HS} {F : Nat} {fr lo : Nat} {rp : Nat → Int32 → HS → Option HS} (hrp : ∀ (this : Nat) (q0 : Int32), ∀ {S S1 : HS}, WT G S → this ∈ G.1 → G.2.1 this = 12 → rp this q0 S = some S1 → MetV l yX12_takePart cX12_takePart 4 fr lo V G S [.ref this, .int q0] S1) (C : CX p s m args meth c RX12 cX12_takePart 4 none V G) : ∀ (v0 : Nat) (v2 : Int32) (v3 : Int32) (w0 : Nat) (w1 : Int32) (h_v0 : v0 ∈ G.1) (k_v0 : G.2.1 v0 = 12) (h_w0 : w0 ∈ G.1) (k_w0 : G.2.1 w0 = 12) (S : HS) (H : Heap) (locs : List Loc) (ls : Array Slot), s_X12_takePart_J147 G.2.2 F rp v0 v2 v3 w0 w1 S = some S' → HP V G S H → va_S (AG G s.heap.size) s.heap H locs → WT G S → lv_has ls 4 [(0, .ref v0), (2, .int v2), (3, .int v3)] → W p l e (RM (fr + 6) (lo + 178)) s m args below meth c H locs 0 0 (MQ below (QV V G S' s.heap.size) args s 0 0 (AG G s.heap.size)) (F0 m 147 ls [.int w1, .ref w0]) := by
  intro v0 v2 v3 w0 w1 h_v0 k_v0 h_w0 k_w0 S H locs ls hf hP hS hW hl
  have hx := C.1
  have hb := C.2.1
  unfold s_X12_takePart_J147 at hf
  refine lv_iload_n hx hb dX12_takePart_147 rfl (lv_at hl 1 rfl) ?_
  refine lv_if_eq (tgt := 164) hx hb dX12_takePart_148 (by decide) (fun c18 => ?_) (fun c18 => ?_)
  · have hf := if_t c18 hf
    refine lv_iload_n hx hb dX12_takePart_164 rfl (lv_at hl 2 rfl) ?_
    exact b_X12_takePart_165 hrp C v0 w0 w1 v3 h_v0 k_v0 h_w0 k_w0 S H locs _ hf hP hS hW (lv_sub hl [0] rfl)
  · have hf := if_f c18 hf
    refine lv_aload_n hx hb dX12_takePart_151 rfl (lv_at hl 0 rfl) ?_
    refine gf_X12_30 C hP h_v0 k_v0 dX12_takePart_152 ?_
    obtain ⟨t21, et21, hf⟩ := bd1_e hf
    obtain ⟨h_t21, k_t21⟩ := wt_r hW h_v0 k_v0 (by decide) et21
    have k_t21 : G.2.1 t21 = 15 := k_t21
    rw [et21]
    refine lv_aload_n hx hb dX12_takePart_155 rfl (lv_at hl 0 rfl) ?_
    refine gf_X12_141 C hP h_v0 k_v0 dX12_takePart_156 ?_
    obtain ⟨h22, hf⟩ := if_s hf
    refine x_lald C hP h_t21 k_t21 h22 dX12_takePart_159 ?_
    refine lv_l2i hx hb dX12_takePart_160 rfl ?_
    refine lv_goto (tgt := 165) hx hb dX12_takePart_161 (by decide) ?_
    exact b_X12_takePart_165 hrp C v0 w0 w1 ((aJ S t21 (gI S 1207 v0).toNatClampNeg).toInt32) h_v0 k_v0 h_w0 k_w0 S H locs _ hf hP hS hW (lv_sub hl [0] rfl)
set_option maxRecDepth 100000 in
set_option maxHeartbeats 4000000 in
theorem b_X12_takePart_79 {p : Program} {l : Launch} {e : Env} {s : State} {m : MethodId} {args : Array Value} {below : List Frame} {meth : Method} {c : Code} {V : EV} {G : GS} {S' : HS} {F : Nat} {fr lo : Nat} {rp : Nat → Int32 → HS → Option HS} (hrp : ∀ (this : Nat) (q0 : Int32), ∀ {S S1 : HS}, WT G S → this ∈ G.1 → G.2.1 this = 12 → rp this q0 S = some S1 → MetV l yX12_takePart cX12_takePart 4 fr lo V G S [.ref this, .int q0] S1) (C : CX p s m args meth c RX12 cX12_takePart 4 none V G) : ∀ (v0 : Nat) (v1 : Int32) (v2 : Int32) (v3 : Int32) (h_v0 : v0 ∈ G.1) (k_v0 : G.2.1 v0 = 12) (S : HS) (H : Heap) (locs : List Loc) (ls : Array Slot), s_X12_takePart_J79 G.2.2 F rp v0 v1 v2 v3 S = some S' → HP V G S H → va_S (AG G s.heap.size) s.heap H locs → WT G S → lv_has ls 4 [(0, .ref v0), (1, .int v1), (2, .int v2), (3, .int v3)] → W p l e (RM (fr + 6) (lo + 178)) s m args below meth c H locs 0 0 (MQ below (QV V G S' s.heap.size) args s 0 0 (AG G s.heap.size)) (F0 m 79 ls []) := by
  intro v0 v1 v2 v3 h_v0 k_v0 S H locs ls hf hP hS hW hl
  have hx := C.1
  have hb := C.2.1
  unfold s_X12_takePart_J79 at hf
  refine lv_aload_n hx hb dX12_takePart_79 rfl (lv_at hl 0 rfl) ?_
  refine gf_X12_144 C hP h_v0 k_v0 dX12_takePart_80 ?_
  refine lv_if_le (tgt := 87) hx hb dX12_takePart_83 (by decide) (fun c8 => ?_) (fun c8 => ?_)
  · have hf := if_t c8 hf
    refine lv_aload_n hx hb dX12_takePart_87 rfl (lv_at hl 0 rfl) ?_
    refine lv_bipush (v := 13) hx hb dX12_takePart_88 kc_bipush_13 ?_
    obtain ⟨r9, S10, eS10, hf⟩ := bd2_e hf
    refine x_aft_z (x_runV (As := [.int 13]) (rest := []) C hP hS (c_X12_hasWord (l := l) C.2.2.2.2.2.2.2.2.2.1 hW h_v0 k_v0 eS10 H.size) h_v0 k_v0 (by decide) rfl rfl km_X12_hasWord ki_X12_hasWord qm_X12_156 ⟨(by show _ ≤ _; simp only [RM]; omega), (by show _ ≤ _; simp only [RM]; omega)⟩ rfl hl.1 rfl (Nat.le_of_ble_eq_true rfl) ⟨Nat.zero_le _, Nat.zero_le _⟩ dX12_takePart_90) hS (fun H locs hP hS hW z11 => ?_)
    refine lv_if_eq (tgt := 112) hx hb dX12_takePart_93 (by decide) (fun c12 => ?_) (fun c12 => ?_)
    · have hf := if_t c12 hf
      refine lv_aload_n hx hb dX12_takePart_112 rfl (lv_at hl 0 rfl) ?_
      refine lv_bipush (v := 40) hx hb dX12_takePart_113 kc_bipush_40 ?_
      obtain ⟨r13, S14, eS14, hf⟩ := bd2_e hf
      refine x_aft_z (x_runV (As := [.int 40]) (rest := []) C hP hS (c_X12_hasSign (l := l) C.2.2.2.2.2.2.2.2.2.1 hW h_v0 k_v0 eS14 H.size) h_v0 k_v0 (by decide) rfl rfl km_X12_hasSign ki_X12_hasSign qm_X12_228 ⟨(by show _ ≤ _; simp only [RM]; omega), (by show _ ≤ _; simp only [RM]; omega)⟩ rfl hl.1 rfl (Nat.le_of_ble_eq_true rfl) ⟨Nat.zero_le _, Nat.zero_le _⟩ dX12_takePart_115) hS (fun H locs hP hS hW z15 => ?_)
      refine lv_if_eq (tgt := 137) hx hb dX12_takePart_118 (by decide) (fun c16 => ?_) (fun c16 => ?_)
      · have hf := if_t c16 hf
        refine lv_aload_n hx hb dX12_takePart_137 rfl (lv_at hl 0 rfl) ?_
        refine lv_iload_n hx hb dX12_takePart_138 rfl (lv_at hl 2 rfl) ?_
        refine lv_if_eq (tgt := 146) hx hb dX12_takePart_139 (by decide) (fun c17 => ?_) (fun c17 => ?_)
        · have hf := if_t c17 hf
          refine lv_iconst (v := 2) hx hb dX12_takePart_146 rfl ?_
          exact b_X12_takePart_147 hrp C v0 v2 v3 v0 2 h_v0 k_v0 h_v0 k_v0 S14 H locs _ hf hP hS hW (lv_sub hl [0, 2, 3] rfl)
        · have hf := if_f c17 hf
          refine lv_iconst (v := 1) hx hb dX12_takePart_142 rfl ?_
          refine lv_goto (tgt := 147) hx hb dX12_takePart_143 (by decide) ?_
          exact b_X12_takePart_147 hrp C v0 v2 v3 v0 1 h_v0 k_v0 h_v0 k_v0 S14 H locs _ hf hP hS hW (lv_sub hl [0, 2, 3] rfl)
      · have hf := if_f c16 hf
        refine lv_aload_n hx hb dX12_takePart_121 rfl (lv_at hl 0 rfl) ?_
        refine lv_iload_n hx hb dX12_takePart_122 rfl (lv_at hl 1 rfl) ?_
        refine lv_iconst (v := 1) hx hb dX12_takePart_123 rfl ?_
        refine lv_iadd hx hb dX12_takePart_124 ?_
        obtain ⟨S23, eS23, hf⟩ := bd1_e hf
        refine x_aft_v (x_runV (As := [.int (v1 + 1)]) (rest := []) C hP hS (c_X12_allOf (l := l) C.2.2.2.2.2.2.2.2.2.1 hW hrp h_v0 k_v0 eS23 H.size) h_v0 k_v0 (by decide) rfl rfl km_X12_allOf ki_X12_allOf qm_X12_202 ⟨(by show _ ≤ _; simp only [RM]; omega), (by show _ ≤ _; simp only [RM]; omega)⟩ rfl hl.1 rfl (Nat.le_of_ble_eq_true rfl) ⟨Nat.zero_le _, Nat.zero_le _⟩ dX12_takePart_125) hS (fun H locs hP hS hW => ?_)
        refine lv_aload_n hx hb dX12_takePart_128 rfl (lv_at hl 0 rfl) ?_
        refine lv_bipush (v := 41) hx hb dX12_takePart_129 kc_bipush_41 ?_
        obtain ⟨S24, eS24, hf⟩ := bd1_e hf
        refine x_aft_v (x_runV (As := [.int 41]) (rest := []) C hP hS (c_X12_takeSign (l := l) C.2.2.2.2.2.2.2.2.2.1 hW h_v0 k_v0 eS24 H.size) h_v0 k_v0 (by decide) rfl rfl km_X12_takeSign ki_X12_takeSign qm_X12_185 ⟨(by show _ ≤ _; simp only [RM]; omega), (by show _ ≤ _; simp only [RM]; omega)⟩ rfl hl.1 rfl (Nat.le_of_ble_eq_true rfl) ⟨Nat.zero_le _, Nat.zero_le _⟩ dX12_takePart_131) hS (fun H locs hP hS hW => ?_)
        refine lv_goto (tgt := 178) hx hb dX12_takePart_134 (by decide) ?_
        cases hf
        exact x_retv C hP hS hW dX12_takePart_178
    · have hf := if_f c12 hf
      refine lv_aload_n hx hb dX12_takePart_96 rfl (lv_at hl 0 rfl) ?_
      refine lv_iload_n hx hb dX12_takePart_97 rfl (lv_at hl 1 rfl) ?_
      refine lv_iconst (v := 1) hx hb dX12_takePart_98 rfl ?_
      refine lv_iadd hx hb dX12_takePart_99 ?_
      obtain ⟨S25, eS25, hf⟩ := bd1_e hf
      refine x_aft_v (x_runV (As := [.int (v1 + 1)]) (rest := []) C hP hS (hrp v0 (v1 + 1) hW h_v0 k_v0 eS25 H.size) h_v0 k_v0 (by decide) rfl rfl km_X12_takePart ki_X12_takePart qm_X12_234 ⟨(by show _ ≤ _; simp only [RM]; omega), (by show _ ≤ _; simp only [RM]; omega)⟩ rfl hl.1 rfl (Nat.le_of_ble_eq_true rfl) ⟨Nat.zero_le _, Nat.zero_le _⟩ dX12_takePart_100) hS (fun H locs hP hS hW => ?_)
      refine lv_aload_n hx hb dX12_takePart_103 rfl (lv_at hl 0 rfl) ?_
      refine lv_iconst (v := 3) hx hb dX12_takePart_104 rfl ?_
      refine lv_iconst (v := 0) hx hb dX12_takePart_105 rfl ?_
      obtain ⟨S26, eS26, hf⟩ := bd1_e hf
      refine x_aft_v (x_runV (As := [.int 3, .int 0]) (rest := []) C hP hS (c_X12_emit (l := l) C.2.2.2.2.2.2.2.2.2.1 hW h_v0 k_v0 eS26 H.size) h_v0 k_v0 (by decide) rfl rfl km_X12_emit ki_X12_emit qm_X12_205 ⟨(by show _ ≤ _; simp only [RM]; omega), (by show _ ≤ _; simp only [RM]; omega)⟩ rfl hl.1 rfl (Nat.le_of_ble_eq_true rfl) ⟨Nat.zero_le _, Nat.zero_le _⟩ dX12_takePart_106) hS (fun H locs hP hS hW => ?_)
      refine lv_goto (tgt := 178) hx hb dX12_takePart_109 (by decide) ?_
      cases hf
      exact x_retv C hP hS hW dX12_takePart_178
  · have hf := if_f c8 hf
    cases hf
    exact x_retv C hP hS hW dX12_takePart_86
set_option maxRecDepth 100000 in
set_option maxHeartbeats 4000000 in
theorem b_X12_takePart_69 {p : Program} {l : Launch} {e : Env} {s : State} {m : MethodId} {args : Array Value} {below : List Frame} {meth : Method} {c : Code} {V : EV} {G : GS} {S' : HS} {F : Nat} {fr lo : Nat} {rp : Nat → Int32 → HS → Option HS} (hrp : ∀ (this : Nat) (q0 : Int32), ∀ {S S1 : HS}, WT G S → this ∈ G.1 → G.2.1 this = 12 → rp this q0 S = some S1 → MetV l yX12_takePart cX12_takePart 4 fr lo V G S [.ref this, .int q0] S1) (C : CX p s m args meth c RX12 cX12_takePart 4 none V G) : ∀ (v0 : Nat) (v1 : Int32) (v2 : Int32) (v3 : Int32) (h_v0 : v0 ∈ G.1) (k_v0 : G.2.1 v0 = 12) (S : HS) (H : Heap) (locs : List Loc) (ls : Array Slot), s_X12_takePart_J69 G.2.2 F rp v0 v1 v2 v3 S = some S' → HP V G S H → va_S (AG G s.heap.size) s.heap H locs → WT G S → lv_has ls 4 [(0, .ref v0), (1, .int v1), (2, .int v2), (3, .int v3)] → W p l e (RM (fr + 6) (lo + 178)) s m args below meth c H locs 0 0 (MQ below (QV V G S' s.heap.size) args s 0 0 (AG G s.heap.size)) (F0 m 69 ls []) := by
  intro v0 v1 v2 v3 h_v0 k_v0 S H locs ls hf hP hS hW hl
  have hx := C.1
  have hb := C.2.1
  unfold s_X12_takePart_J69 at hf
  refine lv_iload_n hx hb dX12_takePart_69 rfl (lv_at hl 1 rfl) ?_
  refine lv_iconst (v := 5) hx hb dX12_takePart_70 rfl ?_
  refine lv_icmp_ne (tgt := 79) hx hb dX12_takePart_71 (by decide) (fun c7 => ?_) (fun c7 => ?_)
  · have hf := if_f c7 hf
    exact b_X12_takePart_79 hrp C v0 v1 v2 v3 h_v0 k_v0 S H locs _ hf hP hS hW (lv_sub hl [0, 1, 2, 3] rfl)
  · have hf := if_t c7 hf
    refine lv_aload_n hx hb dX12_takePart_74 rfl (lv_at hl 0 rfl) ?_
    refine lv_iconst (v := 5) hx hb dX12_takePart_75 rfl ?_
    obtain ⟨S27, eS27, hf⟩ := bd1_e hf
    refine x_aft_v (x_runV (As := [.int 5]) (rest := []) C hP hS (c_X12_wrong (l := l) C.2.2.2.2.2.2.2.2.2.1 hW h_v0 k_v0 eS27 H.size) h_v0 k_v0 (by decide) rfl rfl km_X12_wrong ki_X12_wrong qm_X12_150 ⟨(by show _ ≤ _; simp only [RM]; omega), (by show _ ≤ _; simp only [RM]; omega)⟩ rfl hl.1 rfl (Nat.le_of_ble_eq_true rfl) ⟨Nat.zero_le _, Nat.zero_le _⟩ dX12_takePart_76) hS (fun H locs hP hS hW => ?_)
    exact b_X12_takePart_79 hrp C v0 v1 v2 v3 h_v0 k_v0 S27 H locs _ hf hP hS hW (lv_sub hl [0, 1, 2, 3] rfl)
set_option maxRecDepth 100000 in
set_option maxHeartbeats 4000000 in
theorem b_X12_takePart_26 {p : Program} {l : Launch} {e : Env} {s : State} {m : MethodId} {args : Array Value} {below : List Frame} {meth : Method} {c : Code} {V : EV} {G : GS} {S' : HS} {F : Nat} {fr lo : Nat} {rp : Nat → Int32 → HS → Option HS} (hrp : ∀ (this : Nat) (q0 : Int32), ∀ {S S1 : HS}, WT G S → this ∈ G.1 → G.2.1 this = 12 → rp this q0 S = some S1 → MetV l yX12_takePart cX12_takePart 4 fr lo V G S [.ref this, .int q0] S1) (C : CX p s m args meth c RX12 cX12_takePart 4 none V G) : ∀ (v0 : Nat) (v1 : Int32) (w0 : Int32) (h_v0 : v0 ∈ G.1) (k_v0 : G.2.1 v0 = 12) (S : HS) (H : Heap) (locs : List Loc) (ls : Array Slot), s_X12_takePart_J26 G.2.2 F rp v0 v1 w0 S = some S' → HP V G S H → va_S (AG G s.heap.size) s.heap H locs → WT G S → lv_has ls 4 [(0, .ref v0), (1, .int v1)] → W p l e (RM (fr + 6) (lo + 178)) s m args below meth c H locs 0 0 (MQ below (QV V G S' s.heap.size) args s 0 0 (AG G s.heap.size)) (F0 m 26 ls [.int w0]) := by
  intro v0 v1 w0 h_v0 k_v0 S H locs ls hf hP hS hW hl
  have hx := C.1
  have hb := C.2.1
  unfold s_X12_takePart_J26 at hf
  refine lv_istore_n (lv' := [(2, .int w0), (0, .ref v0), (1, .int v1)]) hx hb dX12_takePart_26 rfl hl (by decide) rfl (fun ls hl => ?_)
  refine lv_aload_n hx hb dX12_takePart_27 rfl (lv_at hl 1 rfl) ?_
  refine lv_bipush (v := 16) hx hb dX12_takePart_28 kc_bipush_16 ?_
  refine lv_iconst (v := 4) hx hb dX12_takePart_30 rfl ?_
  obtain ⟨r5, er5, hf⟩ := bd1_e hf
  refine x_aft_i (x_runV (As := [.int 16, .int 4]) (rest := []) C hP hS (c_X12_wordHere (l := l) C.2.2.2.2.2.2.2.2.2.1 hW h_v0 k_v0 er5 H.size) h_v0 k_v0 (by decide) rfl rfl km_X12_wordHere ki_X12_wordHere qm_X12_166 ⟨(by show _ ≤ _; simp only [RM]; omega), (by show _ ≤ _; simp only [RM]; omega)⟩ rfl hl.1 rfl (Nat.le_of_ble_eq_true rfl) ⟨Nat.zero_le _, Nat.zero_le _⟩ dX12_takePart_31) hS (fun H locs hP hS hW => ?_)
  refine lv_istore_n (lv' := [(3, .int r5), (2, .int w0), (0, .ref v0), (1, .int v1)]) hx hb dX12_takePart_34 rfl hl (by decide) rfl (fun ls hl => ?_)
  refine lv_iload_n hx hb dX12_takePart_35 rfl (lv_at hl 0 rfl) ?_
  refine lv_if_ge (tgt := 69) hx hb dX12_takePart_36 (by decide) (fun c6 => ?_) (fun c6 => ?_)
  · have hf := if_t c6 hf
    exact b_X12_takePart_69 hrp C v0 v1 w0 r5 h_v0 k_v0 S H locs _ hf hP hS hW (lv_sub hl [2, 3, 1, 0] rfl)
  · have hf := if_f c6 hf
    refine lv_iload_n hx hb dX12_takePart_39 rfl (lv_at hl 1 rfl) ?_
    refine lv_if_ne (tgt := 69) hx hb dX12_takePart_40 (by decide) (fun c28 => ?_) (fun c28 => ?_)
    · have hf := if_f c28 hf
      exact b_X12_takePart_69 hrp C v0 v1 w0 r5 h_v0 k_v0 S H locs _ hf hP hS hW (lv_sub hl [2, 3, 1, 0] rfl)
    · have hf := if_t c28 hf
      refine lv_aload_n hx hb dX12_takePart_43 rfl (lv_at hl 2 rfl) ?_
      refine lv_bipush (v := 40) hx hb dX12_takePart_44 kc_bipush_40 ?_
      obtain ⟨r29, er29, hf⟩ := bd1_e hf
      refine x_aft_z (x_runV (As := [.int 40]) (rest := []) C hP hS (c_X12_isSign (l := l) C.2.2.2.2.2.2.2.2.2.1 hW h_v0 k_v0 er29 H.size) h_v0 k_v0 (by decide) rfl rfl km_X12_isSign ki_X12_isSign qm_X12_147 ⟨(by show _ ≤ _; simp only [RM]; omega), (by show _ ≤ _; simp only [RM]; omega)⟩ rfl hl.1 rfl (Nat.le_of_ble_eq_true rfl) ⟨Nat.zero_le _, Nat.zero_le _⟩ dX12_takePart_46) hS (fun H locs hP hS hW z30 => ?_)
      refine lv_if_ne (tgt := 69) hx hb dX12_takePart_49 (by decide) (fun c31 => ?_) (fun c31 => ?_)
      · have hf := if_f c31 hf
        exact b_X12_takePart_69 hrp C v0 v1 w0 r5 h_v0 k_v0 S H locs _ hf hP hS hW (lv_sub hl [2, 3, 1, 0] rfl)
      · have hf := if_t c31 hf
        refine lv_aload_n hx hb dX12_takePart_52 rfl (lv_at hl 2 rfl) ?_
        refine lv_bipush (v := 13) hx hb dX12_takePart_53 kc_bipush_13 ?_
        obtain ⟨r32, er32, hf⟩ := bd1_e hf
        refine x_aft_z (x_runV (As := [.int 13]) (rest := []) C hP hS (c_X12_isWord (l := l) C.2.2.2.2.2.2.2.2.2.1 hW h_v0 k_v0 er32 H.size) h_v0 k_v0 (by decide) rfl rfl km_X12_isWord ki_X12_isWord qm_X12_153 ⟨(by show _ ≤ _; simp only [RM]; omega), (by show _ ≤ _; simp only [RM]; omega)⟩ rfl hl.1 rfl (Nat.le_of_ble_eq_true rfl) ⟨Nat.zero_le _, Nat.zero_le _⟩ dX12_takePart_55) hS (fun H locs hP hS hW z33 => ?_)
        refine lv_if_ne (tgt := 69) hx hb dX12_takePart_58 (by decide) (fun c34 => ?_) (fun c34 => ?_)
        · have hf := if_f c34 hf
          exact b_X12_takePart_69 hrp C v0 v1 w0 r5 h_v0 k_v0 S H locs _ hf hP hS hW (lv_sub hl [2, 3, 1, 0] rfl)
        · have hf := if_t c34 hf
          refine lv_aload_n hx hb dX12_takePart_61 rfl (lv_at hl 2 rfl) ?_
          refine lv_iconst (v := 1) hx hb dX12_takePart_62 rfl ?_
          obtain ⟨S35, eS35, hf⟩ := bd1_e hf
          refine x_aft_v (x_runV (As := [.int 1]) (rest := []) C hP hS (c_X12_wrong (l := l) C.2.2.2.2.2.2.2.2.2.1 hW h_v0 k_v0 eS35 H.size) h_v0 k_v0 (by decide) rfl rfl km_X12_wrong ki_X12_wrong qm_X12_150 ⟨(by show _ ≤ _; simp only [RM]; omega), (by show _ ≤ _; simp only [RM]; omega)⟩ rfl hl.1 rfl (Nat.le_of_ble_eq_true rfl) ⟨Nat.zero_le _, Nat.zero_le _⟩ dX12_takePart_63) hS (fun H locs hP hS hW => ?_)
          refine lv_goto (tgt := 79) hx hb dX12_takePart_66 (by decide) ?_
          exact b_X12_takePart_79 hrp C v0 v1 w0 r5 h_v0 k_v0 S35 H locs _ hf hP hS hW (lv_sub hl [2, 3, 1, 0] rfl)
set_option maxRecDepth 100000 in
set_option maxHeartbeats 4000000 in
theorem c_X12_takePart_body {l : Launch} {V : EV} {G : GS} {S : HS} {F : Nat} {a : Nat} {p0 : Int32} {S' : HS} (hN : G.1.Nodup) (hW : WT G S) {fr lo : Nat} {rp : Nat → Int32 → HS → Option HS} (hrp : ∀ (this : Nat) (q0 : Int32), ∀ {S S1 : HS}, WT G S → this ∈ G.1 → G.2.1 this = 12 → rp this q0 S = some S1 → MetV l yX12_takePart cX12_takePart 4 fr lo V G S [.ref this, .int q0] S1) (h_a : a ∈ G.1) (k_a : G.2.1 a = 12) (hf : s_X12_takePart_body G.2.2 F rp a p0 S = some S') : MetV l yX12_takePart cX12_takePart 4 (fr + 6) (lo + 178) V G S [.ref a, .int p0] S' := by
  intro sz
  refine x_in RX12 rfl (by decide +kernel) hN (Nat.le_of_ble_eq_true rfl) (fun p e s m args below meth c ls hsz hargs hnm C hP hS hl => ?_)
  subst hsz
  have hx := C.1
  have hb := C.2.1
  have hl : lv_has ls 4 [(0, .ref a), (1, .int p0)] := hl
  unfold s_X12_takePart_body at hf
  refine lv_aload_n hx hb dX12_takePart_0 rfl (lv_at hl 0 rfl) ?_
  refine gf_X12_144 C hP h_a k_a dX12_takePart_1 ?_
  refine lv_if_le (tgt := 8) hx hb dX12_takePart_4 (by decide) (fun c1 => ?_) (fun c1 => ?_)
  · have hf := if_t c1 hf
    refine lv_aload_n hx hb dX12_takePart_8 rfl (lv_at hl 0 rfl) ?_
    refine gf_X12_24 C hP h_a k_a dX12_takePart_9 ?_
    obtain ⟨t2, et2, hf⟩ := bd1_e hf
    obtain ⟨h_t2, k_t2⟩ := wt_r hW h_a k_a (by decide) et2
    have k_t2 : G.2.1 t2 = 14 := k_t2
    rw [et2]
    refine lv_aload_n hx hb dX12_takePart_12 rfl (lv_at hl 0 rfl) ?_
    refine gf_X12_141 C hP h_a k_a dX12_takePart_13 ?_
    obtain ⟨h3, hf⟩ := if_s hf
    refine x_iald C hP h_t2 k_t2 h3 dX12_takePart_16 ?_
    refine lv_iconst (v := 2) hx hb dX12_takePart_17 rfl ?_
    refine lv_icmp_ne (tgt := 25) hx hb dX12_takePart_18 (by decide) (fun c4 => ?_) (fun c4 => ?_)
    · have hf := if_f c4 hf
      refine lv_iconst (v := 0) hx hb dX12_takePart_25 rfl ?_
      exact b_X12_takePart_26 hrp C a p0 0 h_a k_a S s.heap [] _ hf hP hS hW (lv_sub hl [0, 1] rfl)
    · have hf := if_t c4 hf
      refine lv_iconst (v := 1) hx hb dX12_takePart_21 rfl ?_
      refine lv_goto (tgt := 26) hx hb dX12_takePart_22 (by decide) ?_
      exact b_X12_takePart_26 hrp C a p0 1 h_a k_a S s.heap [] _ hf hP hS hW (lv_sub hl [0, 1] rfl)
  · have hf := if_f c1 hf
    cases hf
    exact x_retv C hP hS hW dX12_takePart_7
set_option maxRecDepth 100000 in
set_option maxHeartbeats 4000000 in
theorem c_X12_takePart_at {l : Launch} {V : EV} {G : GS} {F : Nat} (hN : G.1.Nodup) : ∀ n : Nat, ∀ (a : Nat) (p0 : Int32), ∀ {S S1 : HS}, WT G S → a ∈ G.1 → G.2.1 a = 12 → s_X12_takePart G.2.2 F n a p0 S = some S1 → MetV l yX12_takePart cX12_takePart 4 (6 * n) (178 * n) V G S [.ref a, .int p0] S1 := by
  intro n
  induction n with
  | zero =>
    intro a p0 S S1 _ _ _ hf
    rw [s_X12_takePart] at hf
    cases hf
  | succ n ih =>
    intro a p0 S S1 hW h_a k_a hf
    rw [s_X12_takePart] at hf
    exact c_X12_takePart_body hN hW ih h_a k_a hf
def s_X12_readLine_J146 (N : Nat → Nat) (F : Nat) (w0 : Nat) (w1 : Int32) (w2 : Int32) (w3 : Int32) (S : HS) : Option HS :=
  if inB w1 (N w0) = true then
  bnd (wI S w0 (w1.toNatClampNeg) (w2 + w3)) fun S26 =>
  some S26
  else none
def s_X12_readLine_J103 (N : Nat → Nat) (F : Nat) (S : HS) : Option HS :=
  some S
def s_X12_readLine (N : Nat → Nat) (F : Nat) (a : Nat) (S : HS) : Option HS :=
  bd1 (s_X12_isWord N a 0 S) fun r1 =>
  if r1 = (0 : Int32) then
  bd1 (s_X12_isWord N a 3 S) fun r4 =>
  if r4 = (0 : Int32) then
  bd1 (s_X12_isWord N a 4 S) fun r7 =>
  if r7 = (0 : Int32) then
  bd1 (s_X12_wrong N a 1 S) fun S19 =>
  some S19
  else
  bd1 (s_X12_read N a 2 S) fun r10 =>
  if r10 < (0 : Int32) then
  bnd (uI S 1207 a ((gI S 1207 a) + 1)) fun S12 =>
  bd1 (gR S12 1210 a) fun t13 =>
  if inB (17 : Int32) (N t13) = true then
  bnd (wI S12 t13 ((17 : Int32).toNatClampNeg) (gI S12 1212 a)) fun S15 =>
  bd1 (s_X12_allOf N F (s_X12_takePart N F 12) a 0 S15) fun S16 =>
  bd1 (s_X12_emit N a 0 0 S16) fun S17 =>
  some S17
  else none
  else
  bd1 (s_X12_wrong N a 3 S) fun S18 =>
  some S18
  else
  bd1 (s_X12_read N a 1 S) fun r20 =>
  bd1 (s_X12_readName N F a 4 r20 6 S) fun S21 =>
  bd1 (gR S21 1210 a) fun t22 =>
  if inB (16 : Int32) (N t22) = true then
  if (gI S21 1208 a) ≤ (0 : Int32) then
  s_X12_readLine_J146 N F t22 16 (aI S21 t22 (16 : Int32).toNatClampNeg) 1 S21
  else
  s_X12_readLine_J146 N F t22 16 (aI S21 t22 (16 : Int32).toNatClampNeg) 0 S21
  else none
  else
  bd1 (s_X12_read N a 0 S) fun r27 =>
  bd1 (s_X12_readName N F a 0 r27 4 S) fun S28 =>
  bd2 (s_X12_takeOne N F a 9 4 S28) fun r29 S30 =>
  bd2 (s_X12_takeAfter N a 1 2 8 S30) fun r31 S32 =>
  bd2 (s_X12_takeAfter N a 2 1 18 S32) fun r33 S34 =>
  if (gI S34 1208 a) = (0 : Int32) then
  bnd (18 + (3 * r27) : Int32) fun x36 =>
  bd1 (gR S34 1210 a) fun t37 =>
  if inB x36 (N t37) = true then
  bnd (wI S34 t37 (x36.toNatClampNeg) r29) fun S39 =>
  bd1 (gR S39 1210 a) fun t40 =>
  if inB (x36 + 1) (N t40) = true then
  bnd (wI S39 t40 ((x36 + 1).toNatClampNeg) r31) fun S42 =>
  bd1 (gR S42 1210 a) fun t43 =>
  if inB (x36 + 2) (N t43) = true then
  bnd (wI S42 t43 ((x36 + 2).toNatClampNeg) r33) fun S45 =>
  bd1 (gR S45 1210 a) fun t46 =>
  if inB (15 : Int32) (N t46) = true then
  if inB (15 : Int32) (N t46) = true then
  bnd (wI S45 t46 ((15 : Int32).toNatClampNeg) ((aI S45 t46 (15 : Int32).toNatClampNeg) + 1)) fun S49 =>
  s_X12_readLine_J103 N F S49
  else none
  else none
  else none
  else none
  else none
  else
  s_X12_readLine_J103 N F S34
set_option maxRecDepth 100000 in
set_option maxHeartbeats 4000000 in
theorem b_X12_readLine_146 {p : Program} {l : Launch} {e : Env} {s : State} {m : MethodId} {args : Array Value} {below : List Frame} {meth : Method} {c : Code} {V : EV} {G : GS} {S' : HS} {F : Nat} (C : CX p s m args meth c RX12 cX12_readLine 6 none V G) : ∀ (w0 : Nat) (w1 : Int32) (w2 : Int32) (w3 : Int32) (h_w0 : w0 ∈ G.1) (k_w0 : G.2.1 w0 = 14) (S : HS) (H : Heap) (locs : List Loc) (ls : Array Slot), s_X12_readLine_J146 G.2.2 F w0 w1 w2 w3 S = some S' → HP V G S H → va_S (AG G s.heap.size) s.heap H locs → WT G S → lv_has ls 6 [] → W p l e (RM 78 2314) s m args below meth c H locs 0 0 (MQ below (QV V G S' s.heap.size) args s 0 0 (AG G s.heap.size)) (F0 m 146 ls [.int w3, .int w2, .int w1, .ref w0]) := by
  intro w0 w1 w2 w3 h_w0 k_w0 S H locs ls hf hP hS hW hl
  have hx := C.1
  have hb := C.2.1
  unfold s_X12_readLine_J146 at hf
  refine lv_iadd hx hb dX12_readLine_146 ?_
  obtain ⟨h25, hf⟩ := if_s hf
  obtain ⟨S26, eS26, hf⟩ := bnd_e hf
  refine x_iast C hP hS h_w0 k_w0 h25 eS26 dX12_readLine_147 (fun H locs hP hS => ?_)
  have hW : WT G S26 := by rw [eS26]; exact hW
  refine lv_goto (tgt := 215) hx hb dX12_readLine_148 (by decide) ?_
  cases hf
  exact x_retv C hP hS hW dX12_readLine_215
set_option maxRecDepth 100000 in
set_option maxHeartbeats 4000000 in
theorem b_X12_readLine_103 {p : Program} {l : Launch} {e : Env} {s : State} {m : MethodId} {args : Array Value} {below : List Frame} {meth : Method} {c : Code} {V : EV} {G : GS} {S' : HS} {F : Nat} (C : CX p s m args meth c RX12 cX12_readLine 6 none V G) : ∀ (S : HS) (H : Heap) (locs : List Loc) (ls : Array Slot), s_X12_readLine_J103 G.2.2 F S = some S' → HP V G S H → va_S (AG G s.heap.size) s.heap H locs → WT G S → lv_has ls 6 [] → W p l e (RM 78 2314) s m args below meth c H locs 0 0 (MQ below (QV V G S' s.heap.size) args s 0 0 (AG G s.heap.size)) (F0 m 103 ls []) := by
  intro S H locs ls hf hP hS hW hl
  have hx := C.1
  have hb := C.2.1
  unfold s_X12_readLine_J103 at hf
  refine lv_goto (tgt := 215) hx hb dX12_readLine_103 (by decide) ?_
  cases hf
  exact x_retv C hP hS hW dX12_readLine_215
set_option maxRecDepth 100000 in
set_option maxHeartbeats 4000000 in
theorem c_X12_readLine {l : Launch} {V : EV} {G : GS} {S : HS} {F : Nat} {a : Nat} {S' : HS} (hN : G.1.Nodup) (hW : WT G S) (h_a : a ∈ G.1) (k_a : G.2.1 a = 12) (hf : s_X12_readLine G.2.2 F a S = some S') : MetV l yX12_readLine cX12_readLine 6 78 2314 V G S [.ref a] S' := by
  intro sz
  refine x_in RX12 rfl (by decide +kernel) hN (Nat.le_of_ble_eq_true rfl) (fun p e s m args below meth c ls hsz hargs hnm C hP hS hl => ?_)
  subst hsz
  have hx := C.1
  have hb := C.2.1
  have hl : lv_has ls 6 [(0, .ref a)] := hl
  unfold s_X12_readLine at hf
  refine lv_aload_n hx hb dX12_readLine_0 rfl (lv_at hl 0 rfl) ?_
  refine lv_iconst (v := 0) hx hb dX12_readLine_1 rfl ?_
  obtain ⟨r1, er1, hf⟩ := bd1_e hf
  refine x_aft_z (x_runV (As := [.int 0]) (rest := []) C hP hS (c_X12_isWord (l := l) C.2.2.2.2.2.2.2.2.2.1 hW h_a k_a er1 s.heap.size) h_a k_a (by decide) rfl rfl km_X12_isWord ki_X12_isWord qm_X12_153 ⟨(Nat.le_of_ble_eq_true rfl), (Nat.le_of_ble_eq_true rfl)⟩ rfl hl.1 rfl (Nat.le_of_ble_eq_true rfl) ⟨Nat.zero_le _, Nat.zero_le _⟩ dX12_readLine_2) hS (fun H locs hP hS hW z2 => ?_)
  refine lv_if_eq (tgt := 106) hx hb dX12_readLine_5 (by decide) (fun c3 => ?_) (fun c3 => ?_)
  · have hf := if_t c3 hf
    refine lv_aload_n hx hb dX12_readLine_106 rfl (lv_at hl 0 rfl) ?_
    refine lv_iconst (v := 3) hx hb dX12_readLine_107 rfl ?_
    obtain ⟨r4, er4, hf⟩ := bd1_e hf
    refine x_aft_z (x_runV (As := [.int 3]) (rest := []) C hP hS (c_X12_isWord (l := l) C.2.2.2.2.2.2.2.2.2.1 hW h_a k_a er4 H.size) h_a k_a (by decide) rfl rfl km_X12_isWord ki_X12_isWord qm_X12_153 ⟨(Nat.le_of_ble_eq_true rfl), (Nat.le_of_ble_eq_true rfl)⟩ rfl hl.1 rfl (Nat.le_of_ble_eq_true rfl) ⟨Nat.zero_le _, Nat.zero_le _⟩ dX12_readLine_108) hS (fun H locs hP hS hW z5 => ?_)
    refine lv_if_eq (tgt := 151) hx hb dX12_readLine_111 (by decide) (fun c6 => ?_) (fun c6 => ?_)
    · have hf := if_t c6 hf
      refine lv_aload_n hx hb dX12_readLine_151 rfl (lv_at hl 0 rfl) ?_
      refine lv_iconst (v := 4) hx hb dX12_readLine_152 rfl ?_
      obtain ⟨r7, er7, hf⟩ := bd1_e hf
      refine x_aft_z (x_runV (As := [.int 4]) (rest := []) C hP hS (c_X12_isWord (l := l) C.2.2.2.2.2.2.2.2.2.1 hW h_a k_a er7 H.size) h_a k_a (by decide) rfl rfl km_X12_isWord ki_X12_isWord qm_X12_153 ⟨(Nat.le_of_ble_eq_true rfl), (Nat.le_of_ble_eq_true rfl)⟩ rfl hl.1 rfl (Nat.le_of_ble_eq_true rfl) ⟨Nat.zero_le _, Nat.zero_le _⟩ dX12_readLine_153) hS (fun H locs hP hS hW z8 => ?_)
      refine lv_if_ne (tgt := 167) hx hb dX12_readLine_156 (by decide) (fun c9 => ?_) (fun c9 => ?_)
      · have hf := if_f c9 hf
        refine lv_aload_n hx hb dX12_readLine_167 rfl (lv_at hl 0 rfl) ?_
        refine lv_iconst (v := 2) hx hb dX12_readLine_168 rfl ?_
        obtain ⟨r10, er10, hf⟩ := bd1_e hf
        refine x_aft_i (x_runV (As := [.int 2]) (rest := []) C hP hS (c_X12_read (l := l) C.2.2.2.2.2.2.2.2.2.1 hW h_a k_a er10 H.size) h_a k_a (by decide) rfl rfl km_X12_read ki_X12_read qm_X12_188 ⟨(Nat.le_of_ble_eq_true rfl), (Nat.le_of_ble_eq_true rfl)⟩ rfl hl.1 rfl (Nat.le_of_ble_eq_true rfl) ⟨Nat.zero_le _, Nat.zero_le _⟩ dX12_readLine_169) hS (fun H locs hP hS hW => ?_)
        refine lv_if_lt (tgt := 183) hx hb dX12_readLine_172 (by decide) (fun c11 => ?_) (fun c11 => ?_)
        · have hf := if_t c11 hf
          refine lv_aload_n hx hb dX12_readLine_183 rfl (lv_at hl 0 rfl) ?_
          refine lv_dup hx hb dX12_readLine_184 rfl ?_
          refine gf_X12_141 C hP h_a k_a dX12_readLine_185 ?_
          refine lv_iconst (v := 1) hx hb dX12_readLine_188 rfl ?_
          refine lv_iadd hx hb dX12_readLine_189 ?_
          obtain ⟨S12, eS12, hf⟩ := bnd_e hf
          refine pf_X12_141 C hP hS h_a k_a eS12 dX12_readLine_190 (fun H locs hP hS => ?_)
          have hW : WT G S12 := by rw [eS12]; exact hW
          refine lv_aload_n hx hb dX12_readLine_193 rfl (lv_at hl 0 rfl) ?_
          refine gf_X12_77 C hP h_a k_a dX12_readLine_194 ?_
          obtain ⟨t13, et13, hf⟩ := bd1_e hf
          obtain ⟨h_t13, k_t13⟩ := wt_r hW h_a k_a (by decide) et13
          have k_t13 : G.2.1 t13 = 14 := k_t13
          rw [et13]
          refine lv_bipush (v := 17) hx hb dX12_readLine_197 kc_bipush_17 ?_
          refine lv_aload_n hx hb dX12_readLine_199 rfl (lv_at hl 0 rfl) ?_
          refine gf_X12_179 C hP h_a k_a dX12_readLine_200 ?_
          obtain ⟨h14, hf⟩ := if_s hf
          obtain ⟨S15, eS15, hf⟩ := bnd_e hf
          refine x_iast C hP hS h_t13 k_t13 h14 eS15 dX12_readLine_203 (fun H locs hP hS => ?_)
          have hW : WT G S15 := by rw [eS15]; exact hW
          refine lv_aload_n hx hb dX12_readLine_204 rfl (lv_at hl 0 rfl) ?_
          refine lv_iconst (v := 0) hx hb dX12_readLine_205 rfl ?_
          obtain ⟨S16, eS16, hf⟩ := bd1_e hf
          refine x_aft_v (x_runV (As := [.int 0]) (rest := []) C hP hS (c_X12_allOf (l := l) C.2.2.2.2.2.2.2.2.2.1 hW (c_X12_takePart_at C.2.2.2.2.2.2.2.2.2.1 12) h_a k_a eS16 H.size) h_a k_a (by decide) rfl rfl km_X12_allOf ki_X12_allOf qm_X12_202 ⟨(by show _ ≤ _; decide), (by show _ ≤ _; decide)⟩ rfl hl.1 rfl (Nat.le_of_ble_eq_true rfl) ⟨Nat.zero_le _, Nat.zero_le _⟩ dX12_readLine_206) hS (fun H locs hP hS hW => ?_)
          refine lv_aload_n hx hb dX12_readLine_209 rfl (lv_at hl 0 rfl) ?_
          refine lv_iconst (v := 0) hx hb dX12_readLine_210 rfl ?_
          refine lv_iconst (v := 0) hx hb dX12_readLine_211 rfl ?_
          obtain ⟨S17, eS17, hf⟩ := bd1_e hf
          refine x_aft_v (x_runV (As := [.int 0, .int 0]) (rest := []) C hP hS (c_X12_emit (l := l) C.2.2.2.2.2.2.2.2.2.1 hW h_a k_a eS17 H.size) h_a k_a (by decide) rfl rfl km_X12_emit ki_X12_emit qm_X12_205 ⟨(Nat.le_of_ble_eq_true rfl), (Nat.le_of_ble_eq_true rfl)⟩ rfl hl.1 rfl (Nat.le_of_ble_eq_true rfl) ⟨Nat.zero_le _, Nat.zero_le _⟩ dX12_readLine_212) hS (fun H locs hP hS hW => ?_)
          cases hf
          exact x_retv C hP hS hW dX12_readLine_215
        · have hf := if_f c11 hf
          refine lv_aload_n hx hb dX12_readLine_175 rfl (lv_at hl 0 rfl) ?_
          refine lv_iconst (v := 3) hx hb dX12_readLine_176 rfl ?_
          obtain ⟨S18, eS18, hf⟩ := bd1_e hf
          refine x_aft_v (x_runV (As := [.int 3]) (rest := []) C hP hS (c_X12_wrong (l := l) C.2.2.2.2.2.2.2.2.2.1 hW h_a k_a eS18 H.size) h_a k_a (by decide) rfl rfl km_X12_wrong ki_X12_wrong qm_X12_150 ⟨(Nat.le_of_ble_eq_true rfl), (Nat.le_of_ble_eq_true rfl)⟩ rfl hl.1 rfl (Nat.le_of_ble_eq_true rfl) ⟨Nat.zero_le _, Nat.zero_le _⟩ dX12_readLine_177) hS (fun H locs hP hS hW => ?_)
          refine lv_goto (tgt := 215) hx hb dX12_readLine_180 (by decide) ?_
          cases hf
          exact x_retv C hP hS hW dX12_readLine_215
      · have hf := if_t c9 hf
        refine lv_aload_n hx hb dX12_readLine_159 rfl (lv_at hl 0 rfl) ?_
        refine lv_iconst (v := 1) hx hb dX12_readLine_160 rfl ?_
        obtain ⟨S19, eS19, hf⟩ := bd1_e hf
        refine x_aft_v (x_runV (As := [.int 1]) (rest := []) C hP hS (c_X12_wrong (l := l) C.2.2.2.2.2.2.2.2.2.1 hW h_a k_a eS19 H.size) h_a k_a (by decide) rfl rfl km_X12_wrong ki_X12_wrong qm_X12_150 ⟨(Nat.le_of_ble_eq_true rfl), (Nat.le_of_ble_eq_true rfl)⟩ rfl hl.1 rfl (Nat.le_of_ble_eq_true rfl) ⟨Nat.zero_le _, Nat.zero_le _⟩ dX12_readLine_161) hS (fun H locs hP hS hW => ?_)
        refine lv_goto (tgt := 215) hx hb dX12_readLine_164 (by decide) ?_
        cases hf
        exact x_retv C hP hS hW dX12_readLine_215
    · have hf := if_f c6 hf
      refine lv_aload_n hx hb dX12_readLine_114 rfl (lv_at hl 0 rfl) ?_
      refine lv_iconst (v := 4) hx hb dX12_readLine_115 rfl ?_
      refine lv_aload_n hx hb dX12_readLine_116 rfl (lv_at hl 0 rfl) ?_
      refine lv_iconst (v := 1) hx hb dX12_readLine_117 rfl ?_
      obtain ⟨r20, er20, hf⟩ := bd1_e hf
      refine x_aft_i (x_runV (As := [.int 1]) (rest := [.int 4, .ref a]) C hP hS (c_X12_read (l := l) C.2.2.2.2.2.2.2.2.2.1 hW h_a k_a er20 H.size) h_a k_a (by decide) rfl rfl km_X12_read ki_X12_read qm_X12_188 ⟨(Nat.le_of_ble_eq_true rfl), (Nat.le_of_ble_eq_true rfl)⟩ rfl hl.1 rfl (Nat.le_of_ble_eq_true rfl) ⟨Nat.zero_le _, Nat.zero_le _⟩ dX12_readLine_118) hS (fun H locs hP hS hW => ?_)
      refine lv_bipush (v := 6) hx hb dX12_readLine_121 kc_bipush_6 ?_
      obtain ⟨S21, eS21, hf⟩ := bd1_e hf
      refine x_aft_v (x_runV (As := [.int 4, .int r20, .int 6]) (rest := []) C hP hS (c_X12_readName (l := l) C.2.2.2.2.2.2.2.2.2.1 hW h_a k_a eS21 H.size) h_a k_a (by decide) rfl rfl km_X12_readName ki_X12_readName qm_X12_191 ⟨(Nat.le_of_ble_eq_true rfl), (Nat.le_of_ble_eq_true rfl)⟩ rfl hl.1 rfl (Nat.le_of_ble_eq_true rfl) ⟨Nat.zero_le _, Nat.zero_le _⟩ dX12_readLine_123) hS (fun H locs hP hS hW => ?_)
      refine lv_aload_n hx hb dX12_readLine_126 rfl (lv_at hl 0 rfl) ?_
      refine gf_X12_77 C hP h_a k_a dX12_readLine_127 ?_
      obtain ⟨t22, et22, hf⟩ := bd1_e hf
      obtain ⟨h_t22, k_t22⟩ := wt_r hW h_a k_a (by decide) et22
      have k_t22 : G.2.1 t22 = 14 := k_t22
      rw [et22]
      refine lv_bipush (v := 16) hx hb dX12_readLine_130 kc_bipush_16 ?_
      refine lv_dup2_11 hx hb dX12_readLine_132 rfl rfl ?_
      obtain ⟨h23, hf⟩ := if_s hf
      refine x_iald C hP h_t22 k_t22 h23 dX12_readLine_133 ?_
      refine lv_aload_n hx hb dX12_readLine_134 rfl (lv_at hl 0 rfl) ?_
      refine gf_X12_144 C hP h_a k_a dX12_readLine_135 ?_
      refine lv_if_le (tgt := 145) hx hb dX12_readLine_138 (by decide) (fun c24 => ?_) (fun c24 => ?_)
      · have hf := if_t c24 hf
        refine lv_iconst (v := 1) hx hb dX12_readLine_145 rfl ?_
        exact b_X12_readLine_146 C t22 16 (aI S21 t22 (16 : Int32).toNatClampNeg) 1 h_t22 k_t22 S21 H locs _ hf hP hS hW (lv_sub hl [] rfl)
      · have hf := if_f c24 hf
        refine lv_iconst (v := 0) hx hb dX12_readLine_141 rfl ?_
        refine lv_goto (tgt := 146) hx hb dX12_readLine_142 (by decide) ?_
        exact b_X12_readLine_146 C t22 16 (aI S21 t22 (16 : Int32).toNatClampNeg) 0 h_t22 k_t22 S21 H locs _ hf hP hS hW (lv_sub hl [] rfl)
  · have hf := if_f c3 hf
    refine lv_aload_n hx hb dX12_readLine_8 rfl (lv_at hl 0 rfl) ?_
    refine lv_iconst (v := 0) hx hb dX12_readLine_9 rfl ?_
    obtain ⟨r27, er27, hf⟩ := bd1_e hf
    refine x_aft_i (x_runV (As := [.int 0]) (rest := []) C hP hS (c_X12_read (l := l) C.2.2.2.2.2.2.2.2.2.1 hW h_a k_a er27 H.size) h_a k_a (by decide) rfl rfl km_X12_read ki_X12_read qm_X12_188 ⟨(Nat.le_of_ble_eq_true rfl), (Nat.le_of_ble_eq_true rfl)⟩ rfl hl.1 rfl (Nat.le_of_ble_eq_true rfl) ⟨Nat.zero_le _, Nat.zero_le _⟩ dX12_readLine_10) hS (fun H locs hP hS hW => ?_)
    refine lv_istore_n (lv' := [(1, .int r27), (0, .ref a)]) hx hb dX12_readLine_13 rfl hl (by decide) rfl (fun ls hl => ?_)
    refine lv_aload_n hx hb dX12_readLine_14 rfl (lv_at hl 1 rfl) ?_
    refine lv_iconst (v := 0) hx hb dX12_readLine_15 rfl ?_
    refine lv_iload_n hx hb dX12_readLine_16 rfl (lv_at hl 0 rfl) ?_
    refine lv_iconst (v := 4) hx hb dX12_readLine_17 rfl ?_
    obtain ⟨S28, eS28, hf⟩ := bd1_e hf
    refine x_aft_v (x_runV (As := [.int 0, .int r27, .int 4]) (rest := []) C hP hS (c_X12_readName (l := l) C.2.2.2.2.2.2.2.2.2.1 hW h_a k_a eS28 H.size) h_a k_a (by decide) rfl rfl km_X12_readName ki_X12_readName qm_X12_191 ⟨(Nat.le_of_ble_eq_true rfl), (Nat.le_of_ble_eq_true rfl)⟩ rfl hl.1 rfl (Nat.le_of_ble_eq_true rfl) ⟨Nat.zero_le _, Nat.zero_le _⟩ dX12_readLine_18) hS (fun H locs hP hS hW => ?_)
    refine lv_aload_n hx hb dX12_readLine_21 rfl (lv_at hl 1 rfl) ?_
    refine lv_bipush (v := 9) hx hb dX12_readLine_22 kc_bipush_9 ?_
    refine lv_iconst (v := 4) hx hb dX12_readLine_24 rfl ?_
    obtain ⟨r29, S30, eS30, hf⟩ := bd2_e hf
    refine x_aft_i (x_runV (As := [.int 9, .int 4]) (rest := []) C hP hS (c_X12_takeOne (l := l) C.2.2.2.2.2.2.2.2.2.1 hW h_a k_a eS30 H.size) h_a k_a (by decide) rfl rfl km_X12_takeOne ki_X12_takeOne qm_X12_195 ⟨(Nat.le_of_ble_eq_true rfl), (Nat.le_of_ble_eq_true rfl)⟩ rfl hl.1 rfl (Nat.le_of_ble_eq_true rfl) ⟨Nat.zero_le _, Nat.zero_le _⟩ dX12_readLine_25) hS (fun H locs hP hS hW => ?_)
    refine lv_istore_n (lv' := [(2, .int r29), (1, .int r27), (0, .ref a)]) hx hb dX12_readLine_28 rfl hl (by decide) rfl (fun ls hl => ?_)
    refine lv_aload_n hx hb dX12_readLine_29 rfl (lv_at hl 2 rfl) ?_
    refine lv_iconst (v := 1) hx hb dX12_readLine_30 rfl ?_
    refine lv_iconst (v := 2) hx hb dX12_readLine_31 rfl ?_
    refine lv_bipush (v := 8) hx hb dX12_readLine_32 kc_bipush_8 ?_
    obtain ⟨r31, S32, eS32, hf⟩ := bd2_e hf
    refine x_aft_i (x_runV (As := [.int 1, .int 2, .int 8]) (rest := []) C hP hS (c_X12_takeAfter (l := l) C.2.2.2.2.2.2.2.2.2.1 hW h_a k_a eS32 H.size) h_a k_a (by decide) rfl rfl km_X12_takeAfter ki_X12_takeAfter qm_X12_198 ⟨(Nat.le_of_ble_eq_true rfl), (Nat.le_of_ble_eq_true rfl)⟩ rfl hl.1 rfl (Nat.le_of_ble_eq_true rfl) ⟨Nat.zero_le _, Nat.zero_le _⟩ dX12_readLine_34) hS (fun H locs hP hS hW => ?_)
    refine lv_istore_n (lv' := [(3, .int r31), (2, .int r29), (1, .int r27), (0, .ref a)]) hx hb dX12_readLine_37 rfl hl (by decide) rfl (fun ls hl => ?_)
    refine lv_aload_n hx hb dX12_readLine_38 rfl (lv_at hl 3 rfl) ?_
    refine lv_iconst (v := 2) hx hb dX12_readLine_39 rfl ?_
    refine lv_iconst (v := 1) hx hb dX12_readLine_40 rfl ?_
    refine lv_bipush (v := 18) hx hb dX12_readLine_41 kc_bipush_18 ?_
    obtain ⟨r33, S34, eS34, hf⟩ := bd2_e hf
    refine x_aft_i (x_runV (As := [.int 2, .int 1, .int 18]) (rest := []) C hP hS (c_X12_takeAfter (l := l) C.2.2.2.2.2.2.2.2.2.1 hW h_a k_a eS34 H.size) h_a k_a (by decide) rfl rfl km_X12_takeAfter ki_X12_takeAfter qm_X12_198 ⟨(Nat.le_of_ble_eq_true rfl), (Nat.le_of_ble_eq_true rfl)⟩ rfl hl.1 rfl (Nat.le_of_ble_eq_true rfl) ⟨Nat.zero_le _, Nat.zero_le _⟩ dX12_readLine_43) hS (fun H locs hP hS hW => ?_)
    refine lv_istore (lv' := [(4, .int r33), (3, .int r31), (2, .int r29), (1, .int r27), (0, .ref a)]) hx hb dX12_readLine_46 hl (by decide) rfl (fun ls hl => ?_)
    refine lv_aload_n hx hb dX12_readLine_48 rfl (lv_at hl 4 rfl) ?_
    refine gf_X12_144 C hP h_a k_a dX12_readLine_49 ?_
    refine lv_if_ne (tgt := 103) hx hb dX12_readLine_52 (by decide) (fun c35 => ?_) (fun c35 => ?_)
    · have hf := if_f c35 hf
      exact b_X12_readLine_103 C S34 H locs _ hf hP hS hW (lv_sub hl [] rfl)
    · have hf := if_t c35 hf
      refine lv_bipush (v := 18) hx hb dX12_readLine_55 kc_bipush_18 ?_
      refine lv_iconst (v := 3) hx hb dX12_readLine_57 rfl ?_
      refine lv_iload_n hx hb dX12_readLine_58 rfl (lv_at hl 3 rfl) ?_
      refine lv_imul hx hb dX12_readLine_59 ?_
      refine lv_iadd hx hb dX12_readLine_60 ?_
      obtain ⟨x36, ex36, hf⟩ := bnd_e hf
      refine nm_i ex36 ?_
      refine lv_istore (lv' := [(5, .int x36), (4, .int r33), (3, .int r31), (2, .int r29), (1, .int r27), (0, .ref a)]) hx hb dX12_readLine_61 hl (by decide) rfl (fun ls hl => ?_)
      refine lv_aload_n hx hb dX12_readLine_63 rfl (lv_at hl 5 rfl) ?_
      refine gf_X12_77 C hP h_a k_a dX12_readLine_64 ?_
      obtain ⟨t37, et37, hf⟩ := bd1_e hf
      obtain ⟨h_t37, k_t37⟩ := wt_r hW h_a k_a (by decide) et37
      have k_t37 : G.2.1 t37 = 14 := k_t37
      rw [et37]
      refine lv_iload hx hb dX12_readLine_67 (lv_at hl 0 rfl) ?_
      refine lv_iload_n hx hb dX12_readLine_69 rfl (lv_at hl 3 rfl) ?_
      obtain ⟨h38, hf⟩ := if_s hf
      obtain ⟨S39, eS39, hf⟩ := bnd_e hf
      refine x_iast C hP hS h_t37 k_t37 h38 eS39 dX12_readLine_70 (fun H locs hP hS => ?_)
      have hW : WT G S39 := by rw [eS39]; exact hW
      refine lv_aload_n hx hb dX12_readLine_71 rfl (lv_at hl 5 rfl) ?_
      refine gf_X12_77 C hP h_a k_a dX12_readLine_72 ?_
      obtain ⟨t40, et40, hf⟩ := bd1_e hf
      obtain ⟨h_t40, k_t40⟩ := wt_r hW h_a k_a (by decide) et40
      have k_t40 : G.2.1 t40 = 14 := k_t40
      rw [et40]
      refine lv_iload hx hb dX12_readLine_75 (lv_at hl 0 rfl) ?_
      refine lv_iconst (v := 1) hx hb dX12_readLine_77 rfl ?_
      refine lv_iadd hx hb dX12_readLine_78 ?_
      refine lv_iload_n hx hb dX12_readLine_79 rfl (lv_at hl 2 rfl) ?_
      obtain ⟨h41, hf⟩ := if_s hf
      obtain ⟨S42, eS42, hf⟩ := bnd_e hf
      refine x_iast C hP hS h_t40 k_t40 h41 eS42 dX12_readLine_80 (fun H locs hP hS => ?_)
      have hW : WT G S42 := by rw [eS42]; exact hW
      refine lv_aload_n hx hb dX12_readLine_81 rfl (lv_at hl 5 rfl) ?_
      refine gf_X12_77 C hP h_a k_a dX12_readLine_82 ?_
      obtain ⟨t43, et43, hf⟩ := bd1_e hf
      obtain ⟨h_t43, k_t43⟩ := wt_r hW h_a k_a (by decide) et43
      have k_t43 : G.2.1 t43 = 14 := k_t43
      rw [et43]
      refine lv_iload hx hb dX12_readLine_85 (lv_at hl 0 rfl) ?_
      refine lv_iconst (v := 2) hx hb dX12_readLine_87 rfl ?_
      refine lv_iadd hx hb dX12_readLine_88 ?_
      refine lv_iload hx hb dX12_readLine_89 (lv_at hl 1 rfl) ?_
      obtain ⟨h44, hf⟩ := if_s hf
      obtain ⟨S45, eS45, hf⟩ := bnd_e hf
      refine x_iast C hP hS h_t43 k_t43 h44 eS45 dX12_readLine_91 (fun H locs hP hS => ?_)
      have hW : WT G S45 := by rw [eS45]; exact hW
      refine lv_aload_n hx hb dX12_readLine_92 rfl (lv_at hl 5 rfl) ?_
      refine gf_X12_77 C hP h_a k_a dX12_readLine_93 ?_
      obtain ⟨t46, et46, hf⟩ := bd1_e hf
      obtain ⟨h_t46, k_t46⟩ := wt_r hW h_a k_a (by decide) et46
      have k_t46 : G.2.1 t46 = 14 := k_t46
      rw [et46]
      refine lv_bipush (v := 15) hx hb dX12_readLine_96 kc_bipush_15 ?_
      refine lv_dup2_11 hx hb dX12_readLine_98 rfl rfl ?_
      obtain ⟨h47, hf⟩ := if_s hf
      refine x_iald C hP h_t46 k_t46 h47 dX12_readLine_99 ?_
      refine lv_iconst (v := 1) hx hb dX12_readLine_100 rfl ?_
      refine lv_iadd hx hb dX12_readLine_101 ?_
      obtain ⟨h48, hf⟩ := if_s hf
      obtain ⟨S49, eS49, hf⟩ := bnd_e hf
      refine x_iast C hP hS h_t46 k_t46 h48 eS49 dX12_readLine_102 (fun H locs hP hS => ?_)
      have hW : WT G S49 := by rw [eS49]; exact hW
      exact b_X12_readLine_103 C S49 H locs _ hf hP hS hW (lv_sub hl [] rfl)
def s_X12_reg (N : Nat → Nat) (a : Nat) (p0 : Int32) (S : HS) : Option (Int32 × HS) :=
  bnd (uI S 1200 a 0) fun S1 =>
  bd1 (s_X12_used N a S1) fun r2 =>
  if r2 < (0 : Int32) then
  some ((-1), S1)
  else
  bd1 (s_X12_isReg N a p0 S1) fun r4 =>
  if r4 = (0 : Int32) then
  some ((-1), S1)
  else
  bd1 (gR S1 1217 a) fun t7 =>
  if inB (4 + p0) (N t7) = true then
  some (aI S1 t7 (4 + p0).toNatClampNeg, S1)
  else none
set_option maxRecDepth 100000 in
set_option maxHeartbeats 4000000 in
theorem c_X12_reg {l : Launch} {V : EV} {G : GS} {S : HS} {a : Nat} {p0 : Int32} {r : Int32} {S' : HS} (hN : G.1.Nodup) (hW : WT G S) (h_a : a ∈ G.1) (k_a : G.2.1 a = 12) (hf : s_X12_reg G.2.2 a p0 S = some (r, S')) : MetI l yX12_reg cX12_reg 2 .int 2 57 V G S [.ref a, .int p0] r S' := by
  intro sz
  refine x_in RX12 rfl (by decide +kernel) hN (Nat.le_of_ble_eq_true rfl) (fun p e s m args below meth c ls hsz hargs hnm C hP hS hl => ?_)
  subst hsz
  have hx := C.1
  have hb := C.2.1
  have hl : lv_has ls 2 [(0, .ref a), (1, .int p0)] := hl
  unfold s_X12_reg at hf
  refine lv_aload_n hx hb dX12_reg_0 rfl (lv_at hl 0 rfl) ?_
  refine lv_iconst (v := 0) hx hb dX12_reg_1 rfl ?_
  obtain ⟨S1, eS1, hf⟩ := bnd_e hf
  refine pf_X12_1 C hP hS h_a k_a eS1 dX12_reg_2 (fun H locs hP hS => ?_)
  have hW : WT G S1 := by rw [eS1]; exact hW
  refine lv_aload_n hx hb dX12_reg_5 rfl (lv_at hl 0 rfl) ?_
  obtain ⟨r2, er2, hf⟩ := bd1_e hf
  refine x_aft_i (x_runV (As := []) (rest := []) C hP hS (c_X12_used (l := l) C.2.2.2.2.2.2.2.2.2.1 hW h_a k_a er2 H.size) h_a k_a (by decide) rfl rfl km_X12_used ki_X12_used qm_X12_357 ⟨(Nat.le_of_ble_eq_true rfl), (Nat.le_of_ble_eq_true rfl)⟩ rfl hl.1 rfl (Nat.le_of_ble_eq_true rfl) ⟨Nat.zero_le _, Nat.zero_le _⟩ dX12_reg_6) hS (fun H locs hP hS hW => ?_)
  refine lv_if_lt (tgt := 31) hx hb dX12_reg_9 (by decide) (fun c3 => ?_) (fun c3 => ?_)
  · have hf := if_t c3 hf
    refine lv_iconst (v := (-1)) hx hb dX12_reg_31 rfl ?_
    cases hf
    exact x_reti C hP hS hW dX12_reg_32
  · have hf := if_f c3 hf
    refine lv_aload_n hx hb dX12_reg_12 rfl (lv_at hl 0 rfl) ?_
    refine lv_iload_n hx hb dX12_reg_13 rfl (lv_at hl 1 rfl) ?_
    obtain ⟨r4, er4, hf⟩ := bd1_e hf
    refine x_aft_z (x_runV (As := [.int p0]) (rest := []) C hP hS (c_X12_isReg (l := l) C.2.2.2.2.2.2.2.2.2.1 hW h_a k_a er4 H.size) h_a k_a (by decide) rfl rfl km_X12_isReg ki_X12_isReg qm_X12_360 ⟨(Nat.le_of_ble_eq_true rfl), (Nat.le_of_ble_eq_true rfl)⟩ rfl hl.1 rfl (Nat.le_of_ble_eq_true rfl) ⟨Nat.zero_le _, Nat.zero_le _⟩ dX12_reg_14) hS (fun H locs hP hS hW z5 => ?_)
    refine lv_if_eq (tgt := 31) hx hb dX12_reg_17 (by decide) (fun c6 => ?_) (fun c6 => ?_)
    · have hf := if_t c6 hf
      refine lv_iconst (v := (-1)) hx hb dX12_reg_31 rfl ?_
      cases hf
      exact x_reti C hP hS hW dX12_reg_32
    · have hf := if_f c6 hf
      refine lv_aload_n hx hb dX12_reg_20 rfl (lv_at hl 0 rfl) ?_
      refine gf_X12_95 C hP h_a k_a dX12_reg_21 ?_
      obtain ⟨t7, et7, hf⟩ := bd1_e hf
      obtain ⟨h_t7, k_t7⟩ := wt_r hW h_a k_a (by decide) et7
      have k_t7 : G.2.1 t7 = 14 := k_t7
      rw [et7]
      refine lv_iconst (v := 4) hx hb dX12_reg_24 rfl ?_
      refine lv_iload_n hx hb dX12_reg_25 rfl (lv_at hl 1 rfl) ?_
      refine lv_iadd hx hb dX12_reg_26 ?_
      obtain ⟨h8, hf⟩ := if_s hf
      refine x_iald C hP h_t7 k_t7 h8 dX12_reg_27 ?_
      refine lv_goto (tgt := 32) hx hb dX12_reg_28 (by decide) ?_
      cases hf
      exact x_reti C hP hS hW dX12_reg_32
