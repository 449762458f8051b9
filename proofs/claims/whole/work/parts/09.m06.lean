def s_X11_scale (N : Nat → Nat) (F : Nat) (a : Nat) (p0 : Int32) (p1 : Int32) (S : HS) : Option (Int32 × HS) :=
  bd1 (s_X11_formHolding N a p0 S) fun r1 =>
  mq r1
  (some ((-1), S))
  fun t3 =>
  if p1 < (-400 : Int32) then
  some ((-1), S)
  else
  if p1 ≤ (400 : Int32) then
  if (s_X2_isNan t3 p0 S) = (0 : Int32) then
  if (s_X2_isInfinite t3 p0 S) = (0 : Int32) then
  if (s_X2_isNought t3 p0 S) = (0 : Int32) then
  bd1 (gR S 1101 a) fun t12 =>
  bd1 (gR S 1104 a) fun t13 =>
  bd1 (s_X0_round F t12 t3 (gI S 702 t13) (s_X2_isMinus t3 p0 S) ((s_X2_weight t3 p0 S).toInt64) ((s_X2_place t3 p0 S) + p1) S) fun S15 =>
  bd1 (gR S15 1101 a) fun t16 =>
  some (gI S15 1 t16, S15)
  else
  some (p0, S)
  else
  some (p0, S)
  else
  some (gI S 207 t3, S)
  else
  some ((-1), S)
set_option maxRecDepth 100000 in
set_option maxHeartbeats 4000000 in
theorem c_X11_scale {l : Launch} {V : EV} {G : GS} {S : HS} {F : Nat} {a : Nat} {p0 : Int32} {p1 : Int32} {r : Int32} {S' : HS} (hN : G.1.Nodup) (hW : WT G S) (h_a : a ∈ G.1) (k_a : G.2.1 a = 11) (hf : s_X11_scale G.2.2 F a p0 p1 S = some (r, S')) : MetI l yX11_scale cX11_scale 4 .int 3 87 V G S [.ref a, .int p0, .int p1] r S' := by
  intro sz
  refine x_in RX11 rfl (by decide +kernel) hN (Nat.le_of_ble_eq_true rfl) (fun p e s m args below meth c ls hsz hargs hnm C hP hS hl => ?_)
  subst hsz
  have hx := C.1
  have hb := C.2.1
  have hl : lv_has ls 4 [(0, .ref a), (1, .int p0), (2, .int p1)] := hl
  unfold s_X11_scale at hf
  refine lv_aload_n hx hb dX11_scale_0 rfl (lv_at hl 0 rfl) ?_
  refine lv_iload_n hx hb dX11_scale_1 rfl (lv_at hl 1 rfl) ?_
  obtain ⟨r1, er1, hf⟩ := bd1_e hf
  refine x_aft_r (x_runV (As := [.int p0]) (rest := []) C hP hS (c_X11_formHolding (l := l) C.2.2.2.2.2.2.2.2.2.1 hW h_a k_a er1 s.heap.size) h_a k_a (by decide) rfl rfl km_X11_formHolding ki_X11_formHolding qm_X11_235 ⟨(Nat.le_of_ble_eq_true rfl), (Nat.le_of_ble_eq_true rfl)⟩ rfl hl.1 rfl (Nat.le_of_ble_eq_true rfl) ⟨Nat.zero_le _, Nat.zero_le _⟩ dX11_scale_2) hS (fun H locs hP hS hW q2 => ?_)
  cases r1 with
  | none =>
    have hf := mq_n rfl hf
    show W _ _ _ _ _ _ _ _ _ _ _ _ _ _ _ (F0 m 5 ls (.null :: []))
    refine lv_astore_nN (lv' := [(3, .null), (0, .ref a), (1, .int p0), (2, .int p1)]) hx hb dX11_scale_5 rfl hl (by decide) rfl (fun ls hl => ?_)
    refine lv_aload_nN hx hb dX11_scale_6 rfl (lv_at hl 0 rfl) ?_
    refine lv_ifnullN (tgt := 24) hx hb dX11_scale_7 (by decide) ?_
    refine lv_iconst (v := (-1)) hx hb dX11_scale_24 rfl ?_
    cases hf
    exact x_reti C hP hS hW dX11_scale_25
  | some t3 =>
    have hf := mq_s rfl hf
    obtain ⟨h_t3, k_t3⟩ := q2 _ rfl
    show W _ _ _ _ _ _ _ _ _ _ _ _ _ _ _ (F0 m 5 ls (.ref t3 :: []))
    refine lv_astore_n (lv' := [(3, .ref t3), (0, .ref a), (1, .int p0), (2, .int p1)]) hx hb dX11_scale_5 rfl hl (by decide) rfl (fun ls hl => ?_)
    refine lv_aload_n hx hb dX11_scale_6 rfl (lv_at hl 0 rfl) ?_
    refine lv_ifnull hx hb dX11_scale_7 ?_
    refine lv_iload_n hx hb dX11_scale_10 rfl (lv_at hl 3 rfl) ?_
    refine lv_sipush (v := (-400)) hx hb dX11_scale_11 kc_sipush_m400 ?_
    refine lv_icmp_lt (tgt := 24) hx hb dX11_scale_14 (by decide) (fun c4 => ?_) (fun c4 => ?_)
    · have hf := if_t c4 hf
      refine lv_iconst (v := (-1)) hx hb dX11_scale_24 rfl ?_
      cases hf
      exact x_reti C hP hS hW dX11_scale_25
    · have hf := if_f c4 hf
      refine lv_iload_n hx hb dX11_scale_17 rfl (lv_at hl 3 rfl) ?_
      refine lv_sipush (v := 400) hx hb dX11_scale_18 kc_sipush_400 ?_
      refine lv_icmp_le (tgt := 26) hx hb dX11_scale_21 (by decide) (fun c5 => ?_) (fun c5 => ?_)
      · have hf := if_t c5 hf
        refine lv_aload_n hx hb dX11_scale_26 rfl (lv_at hl 0 rfl) ?_
        refine lv_iload_n hx hb dX11_scale_27 rfl (lv_at hl 2 rfl) ?_
        refine x_aft_z (x_runV (As := [.int p0]) (rest := []) C hP hS (c_X2_isNan (l := l) C.2.2.2.2.2.2.2.2.2.1 hW h_t3 k_t3 rfl H.size) h_t3 k_t3 (by decide) rfl rfl km_X2_isNan ki_X2_isNan qm_X11_241 ⟨(Nat.le_of_ble_eq_true rfl), (Nat.le_of_ble_eq_true rfl)⟩ rfl hl.1 rfl (Nat.le_of_ble_eq_true rfl) ⟨Nat.zero_le _, Nat.zero_le _⟩ dX11_scale_28) hS (fun H locs hP hS hW z6 => ?_)
        refine lv_if_eq (tgt := 39) hx hb dX11_scale_31 (by decide) (fun c7 => ?_) (fun c7 => ?_)
        · have hf := if_t c7 hf
          refine lv_aload_n hx hb dX11_scale_39 rfl (lv_at hl 0 rfl) ?_
          refine lv_iload_n hx hb dX11_scale_40 rfl (lv_at hl 2 rfl) ?_
          refine x_aft_z (x_runV (As := [.int p0]) (rest := []) C hP hS (c_X2_isInfinite (l := l) C.2.2.2.2.2.2.2.2.2.1 hW h_t3 k_t3 rfl H.size) h_t3 k_t3 (by decide) rfl rfl km_X2_isInfinite ki_X2_isInfinite qm_X11_265 ⟨(Nat.le_of_ble_eq_true rfl), (Nat.le_of_ble_eq_true rfl)⟩ rfl hl.1 rfl (Nat.le_of_ble_eq_true rfl) ⟨Nat.zero_le _, Nat.zero_le _⟩ dX11_scale_41) hS (fun H locs hP hS hW z8 => ?_)
          refine lv_if_ne (tgt := 55) hx hb dX11_scale_44 (by decide) (fun c9 => ?_) (fun c9 => ?_)
          · have hf := if_f c9 hf
            refine lv_iload_n hx hb dX11_scale_55 rfl (lv_at hl 2 rfl) ?_
            cases hf
            exact x_reti C hP hS hW dX11_scale_56
          · have hf := if_t c9 hf
            refine lv_aload_n hx hb dX11_scale_47 rfl (lv_at hl 0 rfl) ?_
            refine lv_iload_n hx hb dX11_scale_48 rfl (lv_at hl 2 rfl) ?_
            refine x_aft_z (x_runV (As := [.int p0]) (rest := []) C hP hS (c_X2_isNought (l := l) C.2.2.2.2.2.2.2.2.2.1 hW h_t3 k_t3 rfl H.size) h_t3 k_t3 (by decide) rfl rfl km_X2_isNought ki_X2_isNought qm_X11_268 ⟨(Nat.le_of_ble_eq_true rfl), (Nat.le_of_ble_eq_true rfl)⟩ rfl hl.1 rfl (Nat.le_of_ble_eq_true rfl) ⟨Nat.zero_le _, Nat.zero_le _⟩ dX11_scale_49) hS (fun H locs hP hS hW z10 => ?_)
            refine lv_if_eq (tgt := 57) hx hb dX11_scale_52 (by decide) (fun c11 => ?_) (fun c11 => ?_)
            · have hf := if_t c11 hf
              refine lv_aload_n hx hb dX11_scale_57 rfl (lv_at hl 1 rfl) ?_
              refine gf_X11_19 C hP h_a k_a dX11_scale_58 ?_
              obtain ⟨t12, et12, hf⟩ := bd1_e hf
              obtain ⟨h_t12, k_t12⟩ := wt_r hW h_a k_a (by decide) et12
              have k_t12 : G.2.1 t12 = 0 := k_t12
              rw [et12]
              refine lv_aload_n hx hb dX11_scale_61 rfl (lv_at hl 0 rfl) ?_
              refine lv_aload_n hx hb dX11_scale_62 rfl (lv_at hl 1 rfl) ?_
              refine gf_X11_40 C hP h_a k_a dX11_scale_63 ?_
              obtain ⟨t13, et13, hf⟩ := bd1_e hf
              obtain ⟨h_t13, k_t13⟩ := wt_r hW h_a k_a (by decide) et13
              have k_t13 : G.2.1 t13 = 7 := k_t13
              rw [et13]
              refine gf_X11_193 C hP h_t13 k_t13 dX11_scale_66 ?_
              refine lv_aload_n hx hb dX11_scale_69 rfl (lv_at hl 0 rfl) ?_
              refine lv_iload_n hx hb dX11_scale_70 rfl (lv_at hl 2 rfl) ?_
              refine x_aft_z (x_runV (As := [.int p0]) (rest := [.int (gI S 702 t13), .ref t3, .ref t12]) C hP hS (c_X2_isMinus (l := l) C.2.2.2.2.2.2.2.2.2.1 hW h_t3 k_t3 rfl H.size) h_t3 k_t3 (by decide) rfl rfl km_X2_isMinus ki_X2_isMinus qm_X11_253 ⟨(Nat.le_of_ble_eq_true rfl), (Nat.le_of_ble_eq_true rfl)⟩ rfl hl.1 rfl (Nat.le_of_ble_eq_true rfl) ⟨Nat.zero_le _, Nat.zero_le _⟩ dX11_scale_71) hS (fun H locs hP hS hW z14 => ?_)
              refine lv_aload_n hx hb dX11_scale_74 rfl (lv_at hl 0 rfl) ?_
              refine lv_iload_n hx hb dX11_scale_75 rfl (lv_at hl 2 rfl) ?_
              refine x_aft_i (x_runV (As := [.int p0]) (rest := [.int (s_X2_isMinus t3 p0 S), .int (gI S 702 t13), .ref t3, .ref t12]) C hP hS (c_X2_weight (l := l) C.2.2.2.2.2.2.2.2.2.1 hW h_t3 k_t3 rfl H.size) h_t3 k_t3 (by decide) rfl rfl km_X2_weight ki_X2_weight qm_X11_271 ⟨(Nat.le_of_ble_eq_true rfl), (Nat.le_of_ble_eq_true rfl)⟩ rfl hl.1 rfl (Nat.le_of_ble_eq_true rfl) ⟨Nat.zero_le _, Nat.zero_le _⟩ dX11_scale_76) hS (fun H locs hP hS hW => ?_)
              refine lv_i2l hx hb dX11_scale_79 rfl ?_
              refine lv_aload_n hx hb dX11_scale_80 rfl (lv_at hl 0 rfl) ?_
              refine lv_iload_n hx hb dX11_scale_81 rfl (lv_at hl 2 rfl) ?_
              refine x_aft_i (x_runV (As := [.int p0]) (rest := [.long ((s_X2_weight t3 p0 S).toInt64), .int (s_X2_isMinus t3 p0 S), .int (gI S 702 t13), .ref t3, .ref t12]) C hP hS (c_X2_place (l := l) C.2.2.2.2.2.2.2.2.2.1 hW h_t3 k_t3 rfl H.size) h_t3 k_t3 (by decide) rfl rfl km_X2_place ki_X2_place qm_X11_274 ⟨(Nat.le_of_ble_eq_true rfl), (Nat.le_of_ble_eq_true rfl)⟩ rfl hl.1 rfl (Nat.le_of_ble_eq_true rfl) ⟨Nat.zero_le _, Nat.zero_le _⟩ dX11_scale_82) hS (fun H locs hP hS hW => ?_)
              refine lv_iload_n hx hb dX11_scale_85 rfl (lv_at hl 3 rfl) ?_
              refine lv_iadd hx hb dX11_scale_86 ?_
              obtain ⟨S15, eS15, hf⟩ := bd1_e hf
              refine x_aft_v (x_runV (As := [.ref t3, .int (gI S 702 t13), .int (s_X2_isMinus t3 p0 S), .long ((s_X2_weight t3 p0 S).toInt64), .int ((s_X2_place t3 p0 S) + p1)]) (rest := []) C hP hS (c_X0_round (l := l) C.2.2.2.2.2.2.2.2.2.1 hW h_t12 k_t12 h_t3 k_t3 eS15 H.size) h_t12 k_t12 (by decide) rfl rfl km_X0_round ki_X0_round qm_X11_277 ⟨(Nat.le_of_ble_eq_true rfl), (Nat.le_of_ble_eq_true rfl)⟩ rfl hl.1 rfl (Nat.le_of_ble_eq_true rfl) ⟨Nat.zero_le _, Nat.zero_le _⟩ dX11_scale_87) hS (fun H locs hP hS hW => ?_)
              refine lv_aload_n hx hb dX11_scale_90 rfl (lv_at hl 1 rfl) ?_
              refine gf_X11_19 C hP h_a k_a dX11_scale_91 ?_
              obtain ⟨t16, et16, hf⟩ := bd1_e hf
              obtain ⟨h_t16, k_t16⟩ := wt_r hW h_a k_a (by decide) et16
              have k_t16 : G.2.1 t16 = 0 := k_t16
              rw [et16]
              refine gf_X11_196 C hP h_t16 k_t16 dX11_scale_94 ?_
              cases hf
              exact x_reti C hP hS hW dX11_scale_97
            · have hf := if_f c11 hf
              refine lv_iload_n hx hb dX11_scale_55 rfl (lv_at hl 2 rfl) ?_
              cases hf
              exact x_reti C hP hS hW dX11_scale_56
        · have hf := if_f c7 hf
          refine lv_aload_n hx hb dX11_scale_34 rfl (lv_at hl 0 rfl) ?_
          refine gf_X11_159 C hP h_t3 k_t3 dX11_scale_35 ?_
          cases hf
          exact x_reti C hP hS hW dX11_scale_38
      · have hf := if_f c5 hf
        refine lv_iconst (v := (-1)) hx hb dX11_scale_24 rfl ?_
        cases hf
        exact x_reti C hP hS hW dX11_scale_25
def s_X11_see (N : Nat → Nat) (a : Nat) (p0 : Int32) (p1 : Int32) (S : HS) : Option (Int32 × HS) :=
  bd1 (s_X11_formHolding N a p0 S) fun r1 =>
  mq r1
  (some (0, S))
  fun t3 =>
  if (s_X2_isSmall t3 S) = (0 : Int32) then
  some (0, S)
  else
  if (gI S 1115 a) < (0 : Int32) then
  some (0, S)
  else
  if (gI S 1115 a) < (8 : Int32) then
  bd1 (gR S 1108 a) fun t8 =>
  if inB (gI S 1115 a) (N t8) = true then
  bnd (wI S t8 ((gI S 1115 a).toNatClampNeg) p0) fun S10 =>
  bd1 (gR S10 1109 a) fun t11 =>
  if inB (gI S10 1115 a) (N t11) = true then
  bnd (wI S10 t11 ((gI S10 1115 a).toNatClampNeg) (vp_nar .boolean p1)) fun S13 =>
  bnd (uI S13 1115 a ((gI S13 1115 a) + 1)) fun S14 =>
  some (1, S14)
  else none
  else none
  else
  some (0, S)
set_option maxRecDepth 100000 in
set_option maxHeartbeats 4000000 in
theorem c_X11_see {l : Launch} {V : EV} {G : GS} {S : HS} {a : Nat} {p0 : Int32} {p1 : Int32} {r : Int32} {S' : HS} (hN : G.1.Nodup) (hW : WT G S) (h_a : a ∈ G.1) (k_a : G.2.1 a = 11) (hf : s_X11_see G.2.2 a p0 p1 S = some (r, S')) : MetZ l yX11_see cX11_see 4 3 87 V G S [.ref a, .int p0, .int p1] r S' := by
  intro sz
  refine x_in RX11 rfl (by decide +kernel) hN (Nat.le_of_ble_eq_true rfl) (fun p e s m args below meth c ls hsz hargs hnm C hP hS hl => ?_)
  subst hsz
  have hx := C.1
  have hb := C.2.1
  have hl : lv_has ls 4 [(0, .ref a), (1, .int p0), (2, .int p1)] := hl
  unfold s_X11_see at hf
  refine lv_aload_n hx hb dX11_see_0 rfl (lv_at hl 0 rfl) ?_
  refine lv_iload_n hx hb dX11_see_1 rfl (lv_at hl 1 rfl) ?_
  obtain ⟨r1, er1, hf⟩ := bd1_e hf
  refine x_aft_r (x_runV (As := [.int p0]) (rest := []) C hP hS (c_X11_formHolding (l := l) C.2.2.2.2.2.2.2.2.2.1 hW h_a k_a er1 s.heap.size) h_a k_a (by decide) rfl rfl km_X11_formHolding ki_X11_formHolding qm_X11_235 ⟨(Nat.le_of_ble_eq_true rfl), (Nat.le_of_ble_eq_true rfl)⟩ rfl hl.1 rfl (Nat.le_of_ble_eq_true rfl) ⟨Nat.zero_le _, Nat.zero_le _⟩ dX11_see_2) hS (fun H locs hP hS hW q2 => ?_)
  cases r1 with
  | none =>
    have hf := mq_n rfl hf
    show W _ _ _ _ _ _ _ _ _ _ _ _ _ _ _ (F0 m 5 ls (.null :: []))
    refine lv_astore_nN (lv' := [(3, .null), (0, .ref a), (1, .int p0), (2, .int p1)]) hx hb dX11_see_5 rfl hl (by decide) rfl (fun ls hl => ?_)
    refine lv_aload_nN hx hb dX11_see_6 rfl (lv_at hl 0 rfl) ?_
    refine lv_ifnullN (tgt := 33) hx hb dX11_see_7 (by decide) ?_
    refine lv_iconst (v := 0) hx hb dX11_see_33 rfl ?_
    cases hf
    exact x_retZ C hP hS hW isZ_0 dX11_see_34
  | some t3 =>
    have hf := mq_s rfl hf
    obtain ⟨h_t3, k_t3⟩ := q2 _ rfl
    show W _ _ _ _ _ _ _ _ _ _ _ _ _ _ _ (F0 m 5 ls (.ref t3 :: []))
    refine lv_astore_n (lv' := [(3, .ref t3), (0, .ref a), (1, .int p0), (2, .int p1)]) hx hb dX11_see_5 rfl hl (by decide) rfl (fun ls hl => ?_)
    refine lv_aload_n hx hb dX11_see_6 rfl (lv_at hl 0 rfl) ?_
    refine lv_ifnull hx hb dX11_see_7 ?_
    refine lv_aload_n hx hb dX11_see_10 rfl (lv_at hl 0 rfl) ?_
    refine x_aft_z (x_runV (As := []) (rest := []) C hP hS (c_X2_isSmall (l := l) C.2.2.2.2.2.2.2.2.2.1 hW h_t3 k_t3 rfl H.size) h_t3 k_t3 (by decide) rfl rfl km_X2_isSmall ki_X2_isSmall qm_X11_369 ⟨(Nat.le_of_ble_eq_true rfl), (Nat.le_of_ble_eq_true rfl)⟩ rfl hl.1 rfl (Nat.le_of_ble_eq_true rfl) ⟨Nat.zero_le _, Nat.zero_le _⟩ dX11_see_11) hS (fun H locs hP hS hW z4 => ?_)
    refine lv_if_eq (tgt := 33) hx hb dX11_see_14 (by decide) (fun c5 => ?_) (fun c5 => ?_)
    · have hf := if_t c5 hf
      refine lv_iconst (v := 0) hx hb dX11_see_33 rfl ?_
      cases hf
      exact x_retZ C hP hS hW isZ_0 dX11_see_34
    · have hf := if_f c5 hf
      refine lv_aload_n hx hb dX11_see_17 rfl (lv_at hl 1 rfl) ?_
      refine gf_X11_129 C hP h_a k_a dX11_see_18 ?_
      refine lv_if_lt (tgt := 33) hx hb dX11_see_21 (by decide) (fun c6 => ?_) (fun c6 => ?_)
      · have hf := if_t c6 hf
        refine lv_iconst (v := 0) hx hb dX11_see_33 rfl ?_
        cases hf
        exact x_retZ C hP hS hW isZ_0 dX11_see_34
      · have hf := if_f c6 hf
        refine lv_aload_n hx hb dX11_see_24 rfl (lv_at hl 1 rfl) ?_
        refine gf_X11_129 C hP h_a k_a dX11_see_25 ?_
        refine lv_bipush (v := 8) hx hb dX11_see_28 kc_bipush_8 ?_
        refine lv_icmp_lt (tgt := 35) hx hb dX11_see_30 (by decide) (fun c7 => ?_) (fun c7 => ?_)
        · have hf := if_t c7 hf
          refine lv_aload_n hx hb dX11_see_35 rfl (lv_at hl 1 rfl) ?_
          refine gf_X11_55 C hP h_a k_a dX11_see_36 ?_
          obtain ⟨t8, et8, hf⟩ := bd1_e hf
          obtain ⟨h_t8, k_t8⟩ := wt_r hW h_a k_a (by decide) et8
          have k_t8 : G.2.1 t8 = 14 := k_t8
          rw [et8]
          refine lv_aload_n hx hb dX11_see_39 rfl (lv_at hl 1 rfl) ?_
          refine gf_X11_129 C hP h_a k_a dX11_see_40 ?_
          refine lv_iload_n hx hb dX11_see_43 rfl (lv_at hl 2 rfl) ?_
          obtain ⟨h9, hf⟩ := if_s hf
          obtain ⟨S10, eS10, hf⟩ := bnd_e hf
          refine x_iast C hP hS h_t8 k_t8 h9 eS10 dX11_see_44 (fun H locs hP hS => ?_)
          have hW : WT G S10 := by rw [eS10]; exact hW
          refine lv_aload_n hx hb dX11_see_45 rfl (lv_at hl 1 rfl) ?_
          refine gf_X11_59 C hP h_a k_a dX11_see_46 ?_
          obtain ⟨t11, et11, hf⟩ := bd1_e hf
          obtain ⟨h_t11, k_t11⟩ := wt_r hW h_a k_a (by decide) et11
          have k_t11 : G.2.1 t11 = 16 := k_t11
          rw [et11]
          refine lv_aload_n hx hb dX11_see_49 rfl (lv_at hl 1 rfl) ?_
          refine gf_X11_129 C hP h_a k_a dX11_see_50 ?_
          refine lv_iload_n hx hb dX11_see_53 rfl (lv_at hl 3 rfl) ?_
          obtain ⟨h12, hf⟩ := if_s hf
          obtain ⟨S13, eS13, hf⟩ := bnd_e hf
          refine x_zast C hP hS h_t11 k_t11 h12 eS13 dX11_see_54 (fun H locs hP hS => ?_)
          have hW : WT G S13 := by rw [eS13]; exact hW
          refine lv_aload_n hx hb dX11_see_55 rfl (lv_at hl 1 rfl) ?_
          refine lv_dup hx hb dX11_see_56 rfl ?_
          refine gf_X11_129 C hP h_a k_a dX11_see_57 ?_
          refine lv_iconst (v := 1) hx hb dX11_see_60 rfl ?_
          refine lv_iadd hx hb dX11_see_61 ?_
          obtain ⟨S14, eS14, hf⟩ := bnd_e hf
          refine pf_X11_129 C hP hS h_a k_a eS14 dX11_see_62 (fun H locs hP hS => ?_)
          have hW : WT G S14 := by rw [eS14]; exact hW
          refine lv_iconst (v := 1) hx hb dX11_see_65 rfl ?_
          cases hf
          exact x_retZ C hP hS hW isZ_1 dX11_see_66
        · have hf := if_f c7 hf
          refine lv_iconst (v := 0) hx hb dX11_see_33 rfl ?_
          cases hf
          exact x_retZ C hP hS hW isZ_0 dX11_see_34
def s_X11_set (N : Nat → Nat) (F : Nat) (a : Nat) (p0 : Int32) (p1 : Int32) (S : HS) : Option (Int32 × HS) :=
  bd1 (s_X11_formInUse N a S) fun r1 =>
  mq r1
  (some ((-1), S))
  fun t3 =>
  bd1 (s_X11_isRegister a p0 S) fun r4 =>
  if r4 = (0 : Int32) then
  some ((-1), S)
  else
  if (s_X2_holds t3 p1 S) = (0 : Int32) then
  some ((-1), S)
  else
  bd1 (gR S 1103 a) fun t9 =>
  bd1 (gR S 1104 a) fun t10 =>
  bd1 (s_X4_keep N F t9 t10 0 S) fun S11 =>
  bd1 (gR S11 1104 a) fun t12 =>
  bd1 (s_X7_read N t12 p0 S11) fun r13 =>
  bd1 (gR S11 1104 a) fun t14 =>
  bd1 (s_X7_put N t14 p0 p1 S11) fun S15 =>
  some (r13, S15)
set_option maxRecDepth 100000 in
set_option maxHeartbeats 4000000 in
theorem c_X11_set {l : Launch} {V : EV} {G : GS} {S : HS} {F : Nat} {a : Nat} {p0 : Int32} {p1 : Int32} {r : Int32} {S' : HS} (hN : G.1.Nodup) (hW : WT G S) (h_a : a ∈ G.1) (k_a : G.2.1 a = 11) (hf : s_X11_set G.2.2 F a p0 p1 S = some (r, S')) : MetI l yX11_set cX11_set 5 .int 2 60 V G S [.ref a, .int p0, .int p1] r S' := by
  intro sz
  refine x_in RX11 rfl (by decide +kernel) hN (Nat.le_of_ble_eq_true rfl) (fun p e s m args below meth c ls hsz hargs hnm C hP hS hl => ?_)
  subst hsz
  have hx := C.1
  have hb := C.2.1
  have hl : lv_has ls 5 [(0, .ref a), (1, .int p0), (2, .int p1)] := hl
  unfold s_X11_set at hf
  refine lv_aload_n hx hb dX11_set_0 rfl (lv_at hl 0 rfl) ?_
  obtain ⟨r1, er1, hf⟩ := bd1_e hf
  refine x_aft_r (x_runV (As := []) (rest := []) C hP hS (c_X11_formInUse (l := l) C.2.2.2.2.2.2.2.2.2.1 hW h_a k_a er1 s.heap.size) h_a k_a (by decide) rfl rfl km_X11_formInUse ki_X11_formInUse qm_X11_162 ⟨(Nat.le_of_ble_eq_true rfl), (Nat.le_of_ble_eq_true rfl)⟩ rfl hl.1 rfl (Nat.le_of_ble_eq_true rfl) ⟨Nat.zero_le _, Nat.zero_le _⟩ dX11_set_1) hS (fun H locs hP hS hW q2 => ?_)
  cases r1 with
  | none =>
    have hf := mq_n rfl hf
    show W _ _ _ _ _ _ _ _ _ _ _ _ _ _ _ (F0 m 4 ls (.null :: []))
    refine lv_astore_nN (lv' := [(3, .null), (0, .ref a), (1, .int p0), (2, .int p1)]) hx hb dX11_set_4 rfl hl (by decide) rfl (fun ls hl => ?_)
    refine lv_aload_nN hx hb dX11_set_5 rfl (lv_at hl 0 rfl) ?_
    refine lv_ifnullN (tgt := 25) hx hb dX11_set_6 (by decide) ?_
    refine lv_iconst (v := (-1)) hx hb dX11_set_25 rfl ?_
    cases hf
    exact x_reti C hP hS hW dX11_set_26
  | some t3 =>
    have hf := mq_s rfl hf
    obtain ⟨h_t3, k_t3⟩ := q2 _ rfl
    show W _ _ _ _ _ _ _ _ _ _ _ _ _ _ _ (F0 m 4 ls (.ref t3 :: []))
    refine lv_astore_n (lv' := [(3, .ref t3), (0, .ref a), (1, .int p0), (2, .int p1)]) hx hb dX11_set_4 rfl hl (by decide) rfl (fun ls hl => ?_)
    refine lv_aload_n hx hb dX11_set_5 rfl (lv_at hl 0 rfl) ?_
    refine lv_ifnull hx hb dX11_set_6 ?_
    refine lv_aload_n hx hb dX11_set_9 rfl (lv_at hl 1 rfl) ?_
    refine lv_iload_n hx hb dX11_set_10 rfl (lv_at hl 2 rfl) ?_
    obtain ⟨r4, er4, hf⟩ := bd1_e hf
    refine x_aft_z (x_runV (As := [.int p0]) (rest := []) C hP hS (c_X11_isRegister (l := l) C.2.2.2.2.2.2.2.2.2.1 hW h_a k_a er4 H.size) h_a k_a (by decide) rfl rfl km_X11_isRegister ki_X11_isRegister qm_X11_166 ⟨(Nat.le_of_ble_eq_true rfl), (Nat.le_of_ble_eq_true rfl)⟩ rfl hl.1 rfl (Nat.le_of_ble_eq_true rfl) ⟨Nat.zero_le _, Nat.zero_le _⟩ dX11_set_11) hS (fun H locs hP hS hW z5 => ?_)
    refine lv_if_eq (tgt := 25) hx hb dX11_set_14 (by decide) (fun c6 => ?_) (fun c6 => ?_)
    · have hf := if_t c6 hf
      refine lv_iconst (v := (-1)) hx hb dX11_set_25 rfl ?_
      cases hf
      exact x_reti C hP hS hW dX11_set_26
    · have hf := if_f c6 hf
      refine lv_aload_n hx hb dX11_set_17 rfl (lv_at hl 0 rfl) ?_
      refine lv_iload_n hx hb dX11_set_18 rfl (lv_at hl 3 rfl) ?_
      refine x_aft_z (x_runV (As := [.int p1]) (rest := []) C hP hS (c_X2_holds (l := l) C.2.2.2.2.2.2.2.2.2.1 hW h_t3 k_t3 rfl H.size) h_t3 k_t3 (by decide) rfl rfl km_X2_holds ki_X2_holds qm_X11_174 ⟨(Nat.le_of_ble_eq_true rfl), (Nat.le_of_ble_eq_true rfl)⟩ rfl hl.1 rfl (Nat.le_of_ble_eq_true rfl) ⟨Nat.zero_le _, Nat.zero_le _⟩ dX11_set_19) hS (fun H locs hP hS hW z7 => ?_)
      refine lv_if_ne (tgt := 27) hx hb dX11_set_22 (by decide) (fun c8 => ?_) (fun c8 => ?_)
      · have hf := if_f c8 hf
        refine lv_aload_n hx hb dX11_set_27 rfl (lv_at hl 1 rfl) ?_
        refine gf_X11_33 C hP h_a k_a dX11_set_28 ?_
        obtain ⟨t9, et9, hf⟩ := bd1_e hf
        obtain ⟨h_t9, k_t9⟩ := wt_r hW h_a k_a (by decide) et9
        have k_t9 : G.2.1 t9 = 4 := k_t9
        rw [et9]
        refine lv_aload_n hx hb dX11_set_31 rfl (lv_at hl 1 rfl) ?_
        refine gf_X11_40 C hP h_a k_a dX11_set_32 ?_
        obtain ⟨t10, et10, hf⟩ := bd1_e hf
        obtain ⟨h_t10, k_t10⟩ := wt_r hW h_a k_a (by decide) et10
        have k_t10 : G.2.1 t10 = 7 := k_t10
        rw [et10]
        refine lv_iconst (v := 0) hx hb dX11_set_35 rfl ?_
        obtain ⟨S11, eS11, hf⟩ := bd1_e hf
        refine x_aft_v (x_runV (As := [.ref t10, .int 0]) (rest := []) C hP hS (c_X4_keep (l := l) C.2.2.2.2.2.2.2.2.2.1 hW h_t9 k_t9 h_t10 k_t10 eS11 H.size) h_t9 k_t9 (by decide) rfl rfl km_X4_keep ki_X4_keep qm_X11_177 ⟨(Nat.le_of_ble_eq_true rfl), (Nat.le_of_ble_eq_true rfl)⟩ rfl hl.1 rfl (Nat.le_of_ble_eq_true rfl) ⟨Nat.zero_le _, Nat.zero_le _⟩ dX11_set_36) hS (fun H locs hP hS hW => ?_)
        refine lv_aload_n hx hb dX11_set_39 rfl (lv_at hl 1 rfl) ?_
        refine gf_X11_40 C hP h_a k_a dX11_set_40 ?_
        obtain ⟨t12, et12, hf⟩ := bd1_e hf
        obtain ⟨h_t12, k_t12⟩ := wt_r hW h_a k_a (by decide) et12
        have k_t12 : G.2.1 t12 = 7 := k_t12
        rw [et12]
        refine lv_iload_n hx hb dX11_set_43 rfl (lv_at hl 2 rfl) ?_
        obtain ⟨r13, er13, hf⟩ := bd1_e hf
        refine x_aft_i (x_runV (As := [.int p0]) (rest := []) C hP hS (c_X7_read (l := l) C.2.2.2.2.2.2.2.2.2.1 hW h_t12 k_t12 er13 H.size) h_t12 k_t12 (by decide) rfl rfl km_X7_read ki_X7_read qm_X11_170 ⟨(Nat.le_of_ble_eq_true rfl), (Nat.le_of_ble_eq_true rfl)⟩ rfl hl.1 rfl (Nat.le_of_ble_eq_true rfl) ⟨Nat.zero_le _, Nat.zero_le _⟩ dX11_set_44) hS (fun H locs hP hS hW => ?_)
        refine lv_istore (lv' := [(4, .int r13), (3, .ref t3), (0, .ref a), (1, .int p0), (2, .int p1)]) hx hb dX11_set_47 hl (by decide) rfl (fun ls hl => ?_)
        refine lv_aload_n hx hb dX11_set_49 rfl (lv_at hl 2 rfl) ?_
        refine gf_X11_40 C hP h_a k_a dX11_set_50 ?_
        obtain ⟨t14, et14, hf⟩ := bd1_e hf
        obtain ⟨h_t14, k_t14⟩ := wt_r hW h_a k_a (by decide) et14
        have k_t14 : G.2.1 t14 = 7 := k_t14
        rw [et14]
        refine lv_iload_n hx hb dX11_set_53 rfl (lv_at hl 3 rfl) ?_
        refine lv_iload_n hx hb dX11_set_54 rfl (lv_at hl 4 rfl) ?_
        obtain ⟨S15, eS15, hf⟩ := bd1_e hf
        refine x_aft_v (x_runV (As := [.int p0, .int p1]) (rest := []) C hP hS (c_X7_put (l := l) C.2.2.2.2.2.2.2.2.2.1 hW h_t14 k_t14 eS15 H.size) h_t14 k_t14 (by decide) rfl rfl km_X7_put ki_X7_put qm_X11_181 ⟨(Nat.le_of_ble_eq_true rfl), (Nat.le_of_ble_eq_true rfl)⟩ rfl hl.1 rfl (Nat.le_of_ble_eq_true rfl) ⟨Nat.zero_le _, Nat.zero_le _⟩ dX11_set_55) hS (fun H locs hP hS hW => ?_)
        refine lv_iload hx hb dX11_set_58 (lv_at hl 0 rfl) ?_
        cases hf
        exact x_reti C hP hS hW dX11_set_60
      · have hf := if_t c8 hf
        refine lv_iconst (v := (-1)) hx hb dX11_set_25 rfl ?_
        cases hf
        exact x_reti C hP hS hW dX11_set_26
def s_X11_settles_L35 (N : Nat → Nat) (F : Nat) : Nat → Nat → Int32 → Int32 → Int32 → Int32 → Int32 → HS → Option (Int32 × HS)
  | 0, _, _, _, _, _, _, _ => none
  | n + 1, v0, v1, v2, v3, v4, v5, S => if (60 : Int32) < v5 then
  some ((-1), S)
  else
  bd1 (gR S 1105 v0) fun t11 =>
  bd1 (s_X7_read N t11 v1 S) fun r12 =>
  bd1 (gR S 1105 v0) fun t13 =>
  bd2 (s_X11_fuse N F v0 t13 v1 v2 v3 v4 S) fun r14 S15 =>
  bd1 (gR S15 1105 v0) fun t16 =>
  bd1 (s_X7_read N t16 v1 S15) fun r17 =>
  if r17 = r12 then
  some (v5, S15)
  else
  bnd (v5 + Int32.ofInt 1 : Int32) fun x19 =>
  s_X11_settles_L35 N F n v0 v1 v2 v3 v4 x19 S15
def s_X11_settles (N : Nat → Nat) (F : Nat) (a : Nat) (p0 : Int32) (p1 : Int32) (p2 : Int32) (p3 : Int32) (S : HS) : Option (Int32 × HS) :=
  bd1 (s_X11_formInUse N a S) fun r1 =>
  mq r1
  (some ((-1), S))
  fun t3 =>
  bd1 (s_X11_areRegisters a p0 p1 p2 p3 S) fun r4 =>
  if r4 = (0 : Int32) then
  some ((-1), S)
  else
  bd1 (gR S 1105 a) fun t7 =>
  bd1 (gR S 1104 a) fun t8 =>
  bd1 (s_X7_copy N F t7 t8 S) fun S9 =>
  s_X11_settles_L35 N F F a p0 p1 p2 p3 0 S9
set_option maxRecDepth 100000 in
set_option maxHeartbeats 4000000 in
theorem b_X11_settles_35 {p : Program} {l : Launch} {e : Env} {s : State} {m : MethodId} {args : Array Value} {below : List Frame} {meth : Method} {c : Code} {V : EV} {G : GS} {r : Int32} {S' : HS} {F : Nat} (C : CX p s m args meth c RX11 cX11_settles 7 (some .int) V G) : ∀ n : Nat, ∀ (v0 : Nat) (v1 : Int32) (v2 : Int32) (v3 : Int32) (v4 : Int32) (v5 : Int32) (h_v0 : v0 ∈ G.1) (k_v0 : G.2.1 v0 = 11) (S : HS) (H : Heap) (locs : List Loc) (ls : Array Slot), s_X11_settles_L35 G.2.2 F n v0 v1 v2 v3 v4 v5 S = some (r, S') → HP V G S H → va_S (AG G s.heap.size) s.heap H locs → WT G S → lv_has ls 7 [(0, .ref v0), (1, .int v1), (2, .int v2), (3, .int v3), (4, .int v4), (5, .int v5)] → W p l e (RM 6 206) s m args below meth c H locs 0 0 (MQ below (QI V G S' r s.heap.size) args s 0 0 (AG G s.heap.size)) (F0 m 35 ls []) := by
  intro n
  induction n with
  | zero =>
    intro v0 v1 v2 v3 v4 v5 h_v0 k_v0 S H locs ls hf
    rw [s_X11_settles_L35] at hf
    cases hf
  | succ n ih =>
    intro v0 v1 v2 v3 v4 v5 h_v0 k_v0 S H locs ls hf hP hS hW hl
    have hx := C.1
    have hb := C.2.1
    rw [s_X11_settles_L35] at hf
    refine lv_iload hx hb dX11_settles_35 (lv_at hl 5 rfl) ?_
    refine lv_bipush (v := 60) hx hb dX11_settles_37 kc_bipush_60 ?_
    refine lv_icmp_gt (tgt := 88) hx hb dX11_settles_39 (by decide) (fun c10 => ?_) (fun c10 => ?_)
    · have hf := if_t c10 hf
      refine lv_iconst (v := (-1)) hx hb dX11_settles_88 rfl ?_
      cases hf
      exact x_reti C hP hS hW dX11_settles_89
    · have hf := if_f c10 hf
      refine lv_aload_n hx hb dX11_settles_42 rfl (lv_at hl 0 rfl) ?_
      refine gf_X11_44 C hP h_v0 k_v0 dX11_settles_43 ?_
      obtain ⟨t11, et11, hf⟩ := bd1_e hf
      obtain ⟨h_t11, k_t11⟩ := wt_r hW h_v0 k_v0 (by decide) et11
      have k_t11 : G.2.1 t11 = 7 := k_t11
      rw [et11]
      refine lv_iload_n hx hb dX11_settles_46 rfl (lv_at hl 1 rfl) ?_
      obtain ⟨r12, er12, hf⟩ := bd1_e hf
      refine x_aft_i (x_runV (As := [.int v1]) (rest := []) C hP hS (c_X7_read (l := l) C.2.2.2.2.2.2.2.2.2.1 hW h_t11 k_t11 er12 H.size) h_t11 k_t11 (by decide) rfl rfl km_X7_read ki_X7_read qm_X11_170 ⟨(Nat.le_of_ble_eq_true rfl), (Nat.le_of_ble_eq_true rfl)⟩ rfl hl.1 rfl (Nat.le_of_ble_eq_true rfl) ⟨Nat.zero_le _, Nat.zero_le _⟩ dX11_settles_47) hS (fun H locs hP hS hW => ?_)
      refine lv_istore (lv' := [(6, .int r12), (0, .ref v0), (1, .int v1), (2, .int v2), (3, .int v3), (4, .int v4), (5, .int v5)]) hx hb dX11_settles_50 hl (by decide) rfl (fun ls hl => ?_)
      refine lv_aload_n hx hb dX11_settles_52 rfl (lv_at hl 1 rfl) ?_
      refine lv_aload_n hx hb dX11_settles_53 rfl (lv_at hl 1 rfl) ?_
      refine gf_X11_44 C hP h_v0 k_v0 dX11_settles_54 ?_
      obtain ⟨t13, et13, hf⟩ := bd1_e hf
      obtain ⟨h_t13, k_t13⟩ := wt_r hW h_v0 k_v0 (by decide) et13
      have k_t13 : G.2.1 t13 = 7 := k_t13
      rw [et13]
      refine lv_iload_n hx hb dX11_settles_57 rfl (lv_at hl 2 rfl) ?_
      refine lv_iload_n hx hb dX11_settles_58 rfl (lv_at hl 3 rfl) ?_
      refine lv_iload_n hx hb dX11_settles_59 rfl (lv_at hl 4 rfl) ?_
      refine lv_iload hx hb dX11_settles_60 (lv_at hl 5 rfl) ?_
      obtain ⟨r14, S15, eS15, hf⟩ := bd2_e hf
      refine x_aft_i (x_runV (As := [.ref t13, .int v1, .int v2, .int v3, .int v4]) (rest := []) C hP hS (c_X11_fuse (l := l) C.2.2.2.2.2.2.2.2.2.1 hW h_v0 k_v0 h_t13 k_t13 eS15 H.size) h_v0 k_v0 (by decide) rfl rfl km_X11_fuse ki_X11_fuse qm_X11_189 ⟨(Nat.le_of_ble_eq_true rfl), (Nat.le_of_ble_eq_true rfl)⟩ rfl hl.1 rfl (Nat.le_of_ble_eq_true rfl) ⟨Nat.zero_le _, Nat.zero_le _⟩ dX11_settles_62) hS (fun H locs hP hS hW => ?_)
      refine lv_pop hx hb dX11_settles_65 rfl ?_
      refine lv_aload_n hx hb dX11_settles_66 rfl (lv_at hl 1 rfl) ?_
      refine gf_X11_44 C hP h_v0 k_v0 dX11_settles_67 ?_
      obtain ⟨t16, et16, hf⟩ := bd1_e hf
      obtain ⟨h_t16, k_t16⟩ := wt_r hW h_v0 k_v0 (by decide) et16
      have k_t16 : G.2.1 t16 = 7 := k_t16
      rw [et16]
      refine lv_iload_n hx hb dX11_settles_70 rfl (lv_at hl 2 rfl) ?_
      obtain ⟨r17, er17, hf⟩ := bd1_e hf
      refine x_aft_i (x_runV (As := [.int v1]) (rest := []) C hP hS (c_X7_read (l := l) C.2.2.2.2.2.2.2.2.2.1 hW h_t16 k_t16 er17 H.size) h_t16 k_t16 (by decide) rfl rfl km_X7_read ki_X7_read qm_X11_170 ⟨(Nat.le_of_ble_eq_true rfl), (Nat.le_of_ble_eq_true rfl)⟩ rfl hl.1 rfl (Nat.le_of_ble_eq_true rfl) ⟨Nat.zero_le _, Nat.zero_le _⟩ dX11_settles_71) hS (fun H locs hP hS hW => ?_)
      refine lv_iload hx hb dX11_settles_74 (lv_at hl 0 rfl) ?_
      refine lv_icmp_ne (tgt := 82) hx hb dX11_settles_76 (by decide) (fun c18 => ?_) (fun c18 => ?_)
      · have hf := if_f c18 hf
        obtain ⟨x19, ex19, hf⟩ := bnd_e hf
        refine lv_iinc (v := x19) (lv' := [(5, .int x19), (6, .int r12), (0, .ref v0), (1, .int v1), (2, .int v2), (3, .int v3), (4, .int v4)]) hx hb dX11_settles_82 hl (k := 6) rfl ex19.symm (by decide) rfl (fun ls hl => ?_)
        refine lv_goto (tgt := 35) hx hb dX11_settles_85 (by decide) ?_
        exact ih v0 v1 v2 v3 v4 x19 h_v0 k_v0 S15 H locs _ hf hP hS hW (lv_sub hl [2, 3, 4, 5, 6, 0] rfl)
      · have hf := if_t c18 hf
        refine lv_iload hx hb dX11_settles_79 (lv_at hl 6 rfl) ?_
        cases hf
        exact x_reti C hP hS hW dX11_settles_81
set_option maxRecDepth 100000 in
set_option maxHeartbeats 4000000 in
theorem c_X11_settles {l : Launch} {V : EV} {G : GS} {S : HS} {F : Nat} {a : Nat} {p0 : Int32} {p1 : Int32} {p2 : Int32} {p3 : Int32} {r : Int32} {S' : HS} (hN : G.1.Nodup) (hW : WT G S) (h_a : a ∈ G.1) (k_a : G.2.1 a = 11) (hf : s_X11_settles G.2.2 F a p0 p1 p2 p3 S = some (r, S')) : MetI l yX11_settles cX11_settles 7 .int 6 206 V G S [.ref a, .int p0, .int p1, .int p2, .int p3] r S' := by
  intro sz
  refine x_in RX11 rfl (by decide +kernel) hN (Nat.le_of_ble_eq_true rfl) (fun p e s m args below meth c ls hsz hargs hnm C hP hS hl => ?_)
  subst hsz
  have hx := C.1
  have hb := C.2.1
  have hl : lv_has ls 7 [(0, .ref a), (1, .int p0), (2, .int p1), (3, .int p2), (4, .int p3)] := hl
  unfold s_X11_settles at hf
  refine lv_aload_n hx hb dX11_settles_0 rfl (lv_at hl 0 rfl) ?_
  obtain ⟨r1, er1, hf⟩ := bd1_e hf
  refine x_aft_r (x_runV (As := []) (rest := []) C hP hS (c_X11_formInUse (l := l) C.2.2.2.2.2.2.2.2.2.1 hW h_a k_a er1 s.heap.size) h_a k_a (by decide) rfl rfl km_X11_formInUse ki_X11_formInUse qm_X11_162 ⟨(Nat.le_of_ble_eq_true rfl), (Nat.le_of_ble_eq_true rfl)⟩ rfl hl.1 rfl (Nat.le_of_ble_eq_true rfl) ⟨Nat.zero_le _, Nat.zero_le _⟩ dX11_settles_1) hS (fun H locs hP hS hW q2 => ?_)
  cases r1 with
  | none =>
    have hf := mq_n rfl hf
    show W _ _ _ _ _ _ _ _ _ _ _ _ _ _ _ (F0 m 4 ls (.null :: []))
    refine lv_ifnullN (tgt := 19) hx hb dX11_settles_4 (by decide) ?_
    refine lv_iconst (v := (-1)) hx hb dX11_settles_19 rfl ?_
    cases hf
    exact x_reti C hP hS hW dX11_settles_20
  | some t3 =>
    have hf := mq_s rfl hf
    obtain ⟨h_t3, k_t3⟩ := q2 _ rfl
    show W _ _ _ _ _ _ _ _ _ _ _ _ _ _ _ (F0 m 4 ls (.ref t3 :: []))
    refine lv_ifnull hx hb dX11_settles_4 ?_
    refine lv_aload_n hx hb dX11_settles_7 rfl (lv_at hl 0 rfl) ?_
    refine lv_iload_n hx hb dX11_settles_8 rfl (lv_at hl 1 rfl) ?_
    refine lv_iload_n hx hb dX11_settles_9 rfl (lv_at hl 2 rfl) ?_
    refine lv_iload_n hx hb dX11_settles_10 rfl (lv_at hl 3 rfl) ?_
    refine lv_iload hx hb dX11_settles_11 (lv_at hl 4 rfl) ?_
    obtain ⟨r4, er4, hf⟩ := bd1_e hf
    refine x_aft_z (x_runV (As := [.int p0, .int p1, .int p2, .int p3]) (rest := []) C hP hS (c_X11_areRegisters (l := l) C.2.2.2.2.2.2.2.2.2.1 hW h_a k_a er4 H.size) h_a k_a (by decide) rfl rfl km_X11_areRegisters ki_X11_areRegisters qm_X11_185 ⟨(Nat.le_of_ble_eq_true rfl), (Nat.le_of_ble_eq_true rfl)⟩ rfl hl.1 rfl (Nat.le_of_ble_eq_true rfl) ⟨Nat.zero_le _, Nat.zero_le _⟩ dX11_settles_13) hS (fun H locs hP hS hW z5 => ?_)
    refine lv_if_ne (tgt := 21) hx hb dX11_settles_16 (by decide) (fun c6 => ?_) (fun c6 => ?_)
    · have hf := if_f c6 hf
      refine lv_aload_n hx hb dX11_settles_21 rfl (lv_at hl 0 rfl) ?_
      refine gf_X11_44 C hP h_a k_a dX11_settles_22 ?_
      obtain ⟨t7, et7, hf⟩ := bd1_e hf
      obtain ⟨h_t7, k_t7⟩ := wt_r hW h_a k_a (by decide) et7
      have k_t7 : G.2.1 t7 = 7 := k_t7
      rw [et7]
      refine lv_aload_n hx hb dX11_settles_25 rfl (lv_at hl 0 rfl) ?_
      refine gf_X11_40 C hP h_a k_a dX11_settles_26 ?_
      obtain ⟨t8, et8, hf⟩ := bd1_e hf
      obtain ⟨h_t8, k_t8⟩ := wt_r hW h_a k_a (by decide) et8
      have k_t8 : G.2.1 t8 = 7 := k_t8
      rw [et8]
      obtain ⟨S9, eS9, hf⟩ := bd1_e hf
      refine x_aft_v (x_runV (As := [.ref t8]) (rest := []) C hP hS (c_X7_copy (l := l) C.2.2.2.2.2.2.2.2.2.1 hW h_t7 k_t7 h_t8 k_t8 eS9 H.size) h_t7 k_t7 (by decide) rfl rfl km_X7_copy ki_X7_copy qm_X11_224 ⟨(Nat.le_of_ble_eq_true rfl), (Nat.le_of_ble_eq_true rfl)⟩ rfl hl.1 rfl (Nat.le_of_ble_eq_true rfl) ⟨Nat.zero_le _, Nat.zero_le _⟩ dX11_settles_29) hS (fun H locs hP hS hW => ?_)
      refine lv_iconst (v := 0) hx hb dX11_settles_32 rfl ?_
      refine lv_istore (lv' := [(5, .int 0), (0, .ref a), (1, .int p0), (2, .int p1), (3, .int p2), (4, .int p3)]) hx hb dX11_settles_33 hl (by decide) rfl (fun ls hl => ?_)
      exact b_X11_settles_35 C F a p0 p1 p2 p3 0 h_a k_a S9 H locs _ hf hP hS hW (lv_sub hl [1, 2, 3, 4, 5, 0] rfl)
    · have hf := if_t c6 hf
      refine lv_iconst (v := (-1)) hx hb dX11_settles_19 rfl ?_
      cases hf
      exact x_reti C hP hS hW dX11_settles_20
def s_X11_side (N : Nat → Nat) (F : Nat) (a : Nat) (p0 : Int32) (p1 : Int32) (p2 : Int32) (p3 : Int32) (S : HS) : Option (Int32 × HS) :=
  bd1 (s_X11_formInUse N a S) fun r1 =>
  mq r1
  (some ((-2), S))
  fun t3 =>
  if (s_X11_isMode p3 S) = (0 : Int32) then
  some ((-2), S)
  else
  bd2 (s_X11_add N F a p0 p1 p2 p3 S) fun r6 S7 =>
  if r6 = (0 : Int32) then
  some ((-2), S7)
  else
  bd1 (gR S7 1101 a) fun t10 =>
  if (s_X2_isNan t3 (gI S7 1 t10) S7) = (0 : Int32) then
  bd1 (gR S7 1101 a) fun t13 =>
  some (gI S7 3 t13, S7)
  else
  some ((-2), S7)
set_option maxRecDepth 100000 in
set_option maxHeartbeats 4000000 in
theorem c_X11_side {l : Launch} {V : EV} {G : GS} {S : HS} {F : Nat} {a : Nat} {p0 : Int32} {p1 : Int32} {p2 : Int32} {p3 : Int32} {r : Int32} {S' : HS} (hN : G.1.Nodup) (hW : WT G S) (h_a : a ∈ G.1) (k_a : G.2.1 a = 11) (hf : s_X11_side G.2.2 F a p0 p1 p2 p3 S = some (r, S')) : MetI l yX11_side cX11_side 6 .int 6 205 V G S [.ref a, .int p0, .int p1, .int p2, .int p3] r S' := by
  intro sz
  refine x_in RX11 rfl (by decide +kernel) hN (Nat.le_of_ble_eq_true rfl) (fun p e s m args below meth c ls hsz hargs hnm C hP hS hl => ?_)
  subst hsz
  have hx := C.1
  have hb := C.2.1
  have hl : lv_has ls 6 [(0, .ref a), (1, .int p0), (2, .int p1), (3, .int p2), (4, .int p3)] := hl
  unfold s_X11_side at hf
  refine lv_aload_n hx hb dX11_side_0 rfl (lv_at hl 0 rfl) ?_
  obtain ⟨r1, er1, hf⟩ := bd1_e hf
  refine x_aft_r (x_runV (As := []) (rest := []) C hP hS (c_X11_formInUse (l := l) C.2.2.2.2.2.2.2.2.2.1 hW h_a k_a er1 s.heap.size) h_a k_a (by decide) rfl rfl km_X11_formInUse ki_X11_formInUse qm_X11_162 ⟨(Nat.le_of_ble_eq_true rfl), (Nat.le_of_ble_eq_true rfl)⟩ rfl hl.1 rfl (Nat.le_of_ble_eq_true rfl) ⟨Nat.zero_le _, Nat.zero_le _⟩ dX11_side_1) hS (fun H locs hP hS hW q2 => ?_)
  cases r1 with
  | none =>
    have hf := mq_n rfl hf
    show W _ _ _ _ _ _ _ _ _ _ _ _ _ _ _ (F0 m 4 ls (.null :: []))
    refine lv_astoreN (lv' := [(5, .null), (0, .ref a), (1, .int p0), (2, .int p1), (3, .int p2), (4, .int p3)]) hx hb dX11_side_4 hl (by decide) rfl (fun ls hl => ?_)
    refine lv_aloadN hx hb dX11_side_6 (lv_at hl 0 rfl) ?_
    refine lv_ifnullN (tgt := 46) hx hb dX11_side_8 (by decide) ?_
    refine lv_bipush (v := (-2)) hx hb dX11_side_46 kc_bipush_m2 ?_
    cases hf
    exact x_reti C hP hS hW dX11_side_48
  | some t3 =>
    have hf := mq_s rfl hf
    obtain ⟨h_t3, k_t3⟩ := q2 _ rfl
    show W _ _ _ _ _ _ _ _ _ _ _ _ _ _ _ (F0 m 4 ls (.ref t3 :: []))
    refine lv_astore (lv' := [(5, .ref t3), (0, .ref a), (1, .int p0), (2, .int p1), (3, .int p2), (4, .int p3)]) hx hb dX11_side_4 hl (by decide) rfl (fun ls hl => ?_)
    refine lv_aload hx hb dX11_side_6 (lv_at hl 0 rfl) ?_
    refine lv_ifnull hx hb dX11_side_8 ?_
    refine lv_iload hx hb dX11_side_11 (lv_at hl 5 rfl) ?_
    refine x_aft_z (x_runS (As := [.int p3]) (rest := []) C hP hS (c_X11_isMode (l := l) C.2.2.2.2.2.2.2.2.2.1 hW rfl H.size) km_X11_isMode ks_X11_isMode qm_X11_207 ⟨(Nat.le_of_ble_eq_true rfl), (Nat.le_of_ble_eq_true rfl)⟩ rfl hl.1 rfl (Nat.le_of_ble_eq_true rfl) ⟨Nat.zero_le _, Nat.zero_le _⟩ dX11_side_13) hS (fun H locs hP hS hW z4 => ?_)
    refine lv_if_eq (tgt := 46) hx hb dX11_side_16 (by decide) (fun c5 => ?_) (fun c5 => ?_)
    · have hf := if_t c5 hf
      refine lv_bipush (v := (-2)) hx hb dX11_side_46 kc_bipush_m2 ?_
      cases hf
      exact x_reti C hP hS hW dX11_side_48
    · have hf := if_f c5 hf
      refine lv_aload_n hx hb dX11_side_19 rfl (lv_at hl 1 rfl) ?_
      refine lv_iload_n hx hb dX11_side_20 rfl (lv_at hl 2 rfl) ?_
      refine lv_iload_n hx hb dX11_side_21 rfl (lv_at hl 3 rfl) ?_
      refine lv_iload_n hx hb dX11_side_22 rfl (lv_at hl 4 rfl) ?_
      refine lv_iload hx hb dX11_side_23 (lv_at hl 5 rfl) ?_
      obtain ⟨r6, S7, eS7, hf⟩ := bd2_e hf
      refine x_aft_z (x_runV (As := [.int p0, .int p1, .int p2, .int p3]) (rest := []) C hP hS (c_X11_add (l := l) C.2.2.2.2.2.2.2.2.2.1 hW h_a k_a eS7 H.size) h_a k_a (by decide) rfl rfl km_X11_add ki_X11_add qm_X11_301 ⟨(Nat.le_of_ble_eq_true rfl), (Nat.le_of_ble_eq_true rfl)⟩ rfl hl.1 rfl (Nat.le_of_ble_eq_true rfl) ⟨Nat.zero_le _, Nat.zero_le _⟩ dX11_side_25) hS (fun H locs hP hS hW z8 => ?_)
      refine lv_if_eq (tgt := 46) hx hb dX11_side_28 (by decide) (fun c9 => ?_) (fun c9 => ?_)
      · have hf := if_t c9 hf
        refine lv_bipush (v := (-2)) hx hb dX11_side_46 kc_bipush_m2 ?_
        cases hf
        exact x_reti C hP hS hW dX11_side_48
      · have hf := if_f c9 hf
        refine lv_aload hx hb dX11_side_31 (lv_at hl 0 rfl) ?_
        refine lv_aload_n hx hb dX11_side_33 rfl (lv_at hl 1 rfl) ?_
        refine gf_X11_19 C hP h_a k_a dX11_side_34 ?_
        obtain ⟨t10, et10, hf⟩ := bd1_e hf
        obtain ⟨h_t10, k_t10⟩ := wt_r hW h_a k_a (by decide) et10
        have k_t10 : G.2.1 t10 = 0 := k_t10
        rw [et10]
        refine gf_X11_196 C hP h_t10 k_t10 dX11_side_37 ?_
        refine x_aft_z (x_runV (As := [.int (gI S7 1 t10)]) (rest := []) C hP hS (c_X2_isNan (l := l) C.2.2.2.2.2.2.2.2.2.1 hW h_t3 k_t3 rfl H.size) h_t3 k_t3 (by decide) rfl rfl km_X2_isNan ki_X2_isNan qm_X11_241 ⟨(Nat.le_of_ble_eq_true rfl), (Nat.le_of_ble_eq_true rfl)⟩ rfl hl.1 rfl (Nat.le_of_ble_eq_true rfl) ⟨Nat.zero_le _, Nat.zero_le _⟩ dX11_side_40) hS (fun H locs hP hS hW z11 => ?_)
        refine lv_if_eq (tgt := 49) hx hb dX11_side_43 (by decide) (fun c12 => ?_) (fun c12 => ?_)
        · have hf := if_t c12 hf
          refine lv_aload_n hx hb dX11_side_49 rfl (lv_at hl 1 rfl) ?_
          refine gf_X11_19 C hP h_a k_a dX11_side_50 ?_
          obtain ⟨t13, et13, hf⟩ := bd1_e hf
          obtain ⟨h_t13, k_t13⟩ := wt_r hW h_a k_a (by decide) et13
          have k_t13 : G.2.1 t13 = 0 := k_t13
          rw [et13]
          refine gf_X11_316 C hP h_t13 k_t13 dX11_side_53 ?_
          cases hf
          exact x_reti C hP hS hW dX11_side_56
        · have hf := if_f c12 hf
          refine lv_bipush (v := (-2)) hx hb dX11_side_46 kc_bipush_m2 ?_
          cases hf
          exact x_reti C hP hS hW dX11_side_48
def s_X11_sort (N : Nat → Nat) (a : Nat) (p0 : Int32) (S : HS) : Option Int32 :=
  bd1 (s_X11_formHolding N a p0 S) fun r1 =>
  mq r1
  (some (-1))
  fun t3 =>
  some (s_X2_classOf t3 p0 S)
set_option maxRecDepth 100000 in
set_option maxHeartbeats 4000000 in
theorem c_X11_sort {l : Launch} {V : EV} {G : GS} {S : HS} {a : Nat} {p0 : Int32} {r : Int32} (hN : G.1.Nodup) (hW : WT G S) (h_a : a ∈ G.1) (k_a : G.2.1 a = 11) (hf : s_X11_sort G.2.2 a p0 S = some r) : MetI l yX11_sort cX11_sort 3 .int 4 116 V G S [.ref a, .int p0] r S := by
  intro sz
  refine x_in RX11 rfl (by decide +kernel) hN (Nat.le_of_ble_eq_true rfl) (fun p e s m args below meth c ls hsz hargs hnm C hP hS hl => ?_)
  subst hsz
  have hx := C.1
  have hb := C.2.1
  have hl : lv_has ls 3 [(0, .ref a), (1, .int p0)] := hl
  unfold s_X11_sort at hf
  refine lv_aload_n hx hb dX11_sort_0 rfl (lv_at hl 0 rfl) ?_
  refine lv_iload_n hx hb dX11_sort_1 rfl (lv_at hl 1 rfl) ?_
  obtain ⟨r1, er1, hf⟩ := bd1_e hf
  refine x_aft_r (x_runV (As := [.int p0]) (rest := []) C hP hS (c_X11_formHolding (l := l) C.2.2.2.2.2.2.2.2.2.1 hW h_a k_a er1 s.heap.size) h_a k_a (by decide) rfl rfl km_X11_formHolding ki_X11_formHolding qm_X11_235 ⟨(Nat.le_of_ble_eq_true rfl), (Nat.le_of_ble_eq_true rfl)⟩ rfl hl.1 rfl (Nat.le_of_ble_eq_true rfl) ⟨Nat.zero_le _, Nat.zero_le _⟩ dX11_sort_2) hS (fun H locs hP hS hW q2 => ?_)
  cases r1 with
  | none =>
    have hf := mq_n rfl hf
    show W _ _ _ _ _ _ _ _ _ _ _ _ _ _ _ (F0 m 5 ls (.null :: []))
    refine lv_astore_nN (lv' := [(2, .null), (0, .ref a), (1, .int p0)]) hx hb dX11_sort_5 rfl hl (by decide) rfl (fun ls hl => ?_)
    refine lv_aload_nN hx hb dX11_sort_6 rfl (lv_at hl 0 rfl) ?_
    refine lv_ifnonnullN hx hb dX11_sort_7 ?_
    refine lv_iconst (v := (-1)) hx hb dX11_sort_10 rfl ?_
    refine lv_goto (tgt := 19) hx hb dX11_sort_11 (by decide) ?_
    cases hf
    exact x_reti C hP hS hW dX11_sort_19
  | some t3 =>
    have hf := mq_s rfl hf
    obtain ⟨h_t3, k_t3⟩ := q2 _ rfl
    show W _ _ _ _ _ _ _ _ _ _ _ _ _ _ _ (F0 m 5 ls (.ref t3 :: []))
    refine lv_astore_n (lv' := [(2, .ref t3), (0, .ref a), (1, .int p0)]) hx hb dX11_sort_5 rfl hl (by decide) rfl (fun ls hl => ?_)
    refine lv_aload_n hx hb dX11_sort_6 rfl (lv_at hl 0 rfl) ?_
    refine lv_ifnonnull (tgt := 14) hx hb dX11_sort_7 (by decide) ?_
    refine lv_aload_n hx hb dX11_sort_14 rfl (lv_at hl 0 rfl) ?_
    refine lv_iload_n hx hb dX11_sort_15 rfl (lv_at hl 2 rfl) ?_
    refine x_aft_i (x_runV (As := [.int p0]) (rest := []) C hP hS (c_X2_classOf (l := l) C.2.2.2.2.2.2.2.2.2.1 hW h_t3 k_t3 rfl H.size) h_t3 k_t3 (by decide) rfl rfl km_X2_classOf ki_X2_classOf qm_X11_238 ⟨(Nat.le_of_ble_eq_true rfl), (Nat.le_of_ble_eq_true rfl)⟩ rfl hl.1 rfl (Nat.le_of_ble_eq_true rfl) ⟨Nat.zero_le _, Nat.zero_le _⟩ dX11_sort_16) hS (fun H locs hP hS hW => ?_)
    cases hf
    exact x_reti C hP hS hW dX11_sort_19
def s_X11_spread_J80 (N : Nat → Nat) (F : Nat) (k46 : Nat → Int32 → Int32 → Int32 → Int32 → Int32 → Int32 → Int32 → HS → Option (Int32 × HS)) (v0 : Nat) (v1 : Int32) (v2 : Int32) (v3 : Int32) (v4 : Int32) (v5 : Int32) (v7 : Int32) (w0 : Int32) (S : HS) : Option (Int32 × HS) :=
  bnd (v7 + Int32.ofInt 1 : Int32) fun x12 =>
  k46 v0 v1 v2 v3 v4 v5 w0 x12 S
def s_X11_spread_L46 (N : Nat → Nat) (F : Nat) (k88 : Nat → Int32 → Int32 → Int32 → Int32 → Int32 → Int32 → HS → Option (Int32 × HS)) : Nat → Nat → Int32 → Int32 → Int32 → Int32 → Int32 → Int32 → Int32 → HS → Option (Int32 × HS)
  | 0, _, _, _, _, _, _, _, _, _ => none
  | n + 1, v0, v1, v2, v3, v4, v5, v6, v7, S => if v5 ≤ v7 then
  k88 v0 v1 v2 v3 v4 v5 v6 S
  else
  if v6 = (0 : Int32) then
  s_X11_spread_J80 N F (s_X11_spread_L46 N F k88 n) v0 v1 v2 v3 v4 v5 v7 0 S
  else
  bd1 (gR S 1110 v0) fun t13 =>
  if inB v7 (N t13) = true then
  bd1 (gR S 1110 v0) fun t15 =>
  if inB v5 (N t15) = true then
  if (aI S t13 v7.toNatClampNeg) = (aI S t15 v5.toNatClampNeg) then
  s_X11_spread_J80 N F (s_X11_spread_L46 N F k88 n) v0 v1 v2 v3 v4 v5 v7 0 S
  else
  s_X11_spread_J80 N F (s_X11_spread_L46 N F k88 n) v0 v1 v2 v3 v4 v5 v7 1 S
  else none
  else none
def s_X11_spread_J100 (N : Nat → Nat) (F : Nat) (k6 : Nat → Int32 → Int32 → Int32 → Int32 → Int32 → HS → Option (Int32 × HS)) (v0 : Nat) (v1 : Int32) (v2 : Int32) (v3 : Int32) (v5 : Int32) (w0 : Int32) (w1 : Int32) (S : HS) : Option (Int32 × HS) :=
  bnd (w0 + w1 : Int32) fun x19 =>
  bnd (v5 + Int32.ofInt 1 : Int32) fun x20 =>
  k6 v0 v1 v2 v3 x19 x20 S
def s_X11_spread_J88 (N : Nat → Nat) (F : Nat) (k6 : Nat → Int32 → Int32 → Int32 → Int32 → Int32 → HS → Option (Int32 × HS)) (v0 : Nat) (v1 : Int32) (v2 : Int32) (v3 : Int32) (v4 : Int32) (v5 : Int32) (v6 : Int32) (S : HS) : Option (Int32 × HS) :=
  if v6 = (0 : Int32) then
  s_X11_spread_J100 N F k6 v0 v1 v2 v3 v5 v4 0 S
  else
  s_X11_spread_J100 N F k6 v0 v1 v2 v3 v5 v4 1 S
def s_X11_spread_L6 (N : Nat → Nat) (F : Nat) : Nat → Nat → Int32 → Int32 → Int32 → Int32 → Int32 → HS → Option (Int32 × HS)
  | 0, _, _, _, _, _, _, _ => none
  | n + 1, v0, v1, v2, v3, v4, v5, S => if (4 : Int32) < v5 then
  some (v4, S)
  else
  bd2 (s_X11_add N F v0 v1 v2 v3 v5 S) fun r2 S3 =>
  if r2 = (0 : Int32) then
  some ((-1), S3)
  else
  bd1 (gR S3 1110 v0) fun t6 =>
  bd1 (gR S3 1101 v0) fun t7 =>
  if inB v5 (N t6) = true then
  bnd (wI S3 t6 (v5.toNatClampNeg) (gI S3 1 t7)) fun S9 =>
  s_X11_spread_L46 N F (s_X11_spread_J88 N F (s_X11_spread_L6 N F n)) F v0 v1 v2 v3 v4 v5 1 0 S9
  else none
def s_X11_spread (N : Nat → Nat) (F : Nat) (a : Nat) (p0 : Int32) (p1 : Int32) (p2 : Int32) (S : HS) : Option (Int32 × HS) :=
  s_X11_spread_L6 N F F a p0 p1 p2 0 0 S
set_option maxRecDepth 100000 in
set_option maxHeartbeats 4000000 in
theorem b_X11_spread_80 {p : Program} {l : Launch} {e : Env} {s : State} {m : MethodId} {args : Array Value} {below : List Frame} {meth : Method} {c : Code} {V : EV} {G : GS} {r : Int32} {S' : HS} {F : Nat} (C : CX p s m args meth c RX11 cX11_spread 8 (some .int) V G) {k46 : Nat → Int32 → Int32 → Int32 → Int32 → Int32 → Int32 → Int32 → HS → Option (Int32 × HS)} (hk46 : ∀ (v0 : Nat) (v1 : Int32) (v2 : Int32) (v3 : Int32) (v4 : Int32) (v5 : Int32) (v6 : Int32) (v7 : Int32) (h_v0 : v0 ∈ G.1) (k_v0 : G.2.1 v0 = 11) (S : HS) (H : Heap) (locs : List Loc) (ls : Array Slot), k46 v0 v1 v2 v3 v4 v5 v6 v7 S = some (r, S') → HP V G S H → va_S (AG G s.heap.size) s.heap H locs → WT G S → lv_has ls 8 [(0, .ref v0), (1, .int v1), (2, .int v2), (3, .int v3), (4, .int v4), (5, .int v5), (6, .int v6), (7, .int v7)] → W p l e (RM 6 205) s m args below meth c H locs 0 0 (MQ below (QI V G S' r s.heap.size) args s 0 0 (AG G s.heap.size)) (F0 m 46 ls [])) : ∀ (v0 : Nat) (v1 : Int32) (v2 : Int32) (v3 : Int32) (v4 : Int32) (v5 : Int32) (v7 : Int32) (w0 : Int32) (h_v0 : v0 ∈ G.1) (k_v0 : G.2.1 v0 = 11) (S : HS) (H : Heap) (locs : List Loc) (ls : Array Slot), s_X11_spread_J80 G.2.2 F k46 v0 v1 v2 v3 v4 v5 v7 w0 S = some (r, S') → HP V G S H → va_S (AG G s.heap.size) s.heap H locs → WT G S → lv_has ls 8 [(0, .ref v0), (1, .int v1), (2, .int v2), (3, .int v3), (4, .int v4), (5, .int v5), (7, .int v7)] → W p l e (RM 6 205) s m args below meth c H locs 0 0 (MQ below (QI V G S' r s.heap.size) args s 0 0 (AG G s.heap.size)) (F0 m 80 ls [.int w0]) := by
  intro v0 v1 v2 v3 v4 v5 v7 w0 h_v0 k_v0 S H locs ls hf hP hS hW hl
  have hx := C.1
  have hb := C.2.1
  unfold s_X11_spread_J80 at hf
  refine lv_istore (lv' := [(6, .int w0), (0, .ref v0), (1, .int v1), (2, .int v2), (3, .int v3), (4, .int v4), (5, .int v5), (7, .int v7)]) hx hb dX11_spread_80 hl (by decide) rfl (fun ls hl => ?_)
  obtain ⟨x12, ex12, hf⟩ := bnd_e hf
  refine lv_iinc (v := x12) (lv' := [(7, .int x12), (6, .int w0), (0, .ref v0), (1, .int v1), (2, .int v2), (3, .int v3), (4, .int v4), (5, .int v5)]) hx hb dX11_spread_82 hl (k := 7) rfl ex12.symm (by decide) rfl (fun ls hl => ?_)
  refine lv_goto (tgt := 46) hx hb dX11_spread_85 (by decide) ?_
  exact hk46 v0 v1 v2 v3 v4 v5 w0 x12 h_v0 k_v0 S H locs _ hf hP hS hW (lv_sub hl [2, 3, 4, 5, 6, 7, 1, 0] rfl)
set_option maxRecDepth 100000 in
set_option maxHeartbeats 4000000 in
theorem b_X11_spread_46 {p : Program} {l : Launch} {e : Env} {s : State} {m : MethodId} {args : Array Value} {below : List Frame} {meth : Method} {c : Code} {V : EV} {G : GS} {r : Int32} {S' : HS} {F : Nat} (C : CX p s m args meth c RX11 cX11_spread 8 (some .int) V G) {k88 : Nat → Int32 → Int32 → Int32 → Int32 → Int32 → Int32 → HS → Option (Int32 × HS)} (hk88 : ∀ (v0 : Nat) (v1 : Int32) (v2 : Int32) (v3 : Int32) (v4 : Int32) (v5 : Int32) (v6 : Int32) (h_v0 : v0 ∈ G.1) (k_v0 : G.2.1 v0 = 11) (S : HS) (H : Heap) (locs : List Loc) (ls : Array Slot), k88 v0 v1 v2 v3 v4 v5 v6 S = some (r, S') → HP V G S H → va_S (AG G s.heap.size) s.heap H locs → WT G S → lv_has ls 8 [(0, .ref v0), (1, .int v1), (2, .int v2), (3, .int v3), (4, .int v4), (5, .int v5), (6, .int v6)] → W p l e (RM 6 205) s m args below meth c H locs 0 0 (MQ below (QI V G S' r s.heap.size) args s 0 0 (AG G s.heap.size)) (F0 m 88 ls [])) : ∀ n : Nat, ∀ (v0 : Nat) (v1 : Int32) (v2 : Int32) (v3 : Int32) (v4 : Int32) (v5 : Int32) (v6 : Int32) (v7 : Int32) (h_v0 : v0 ∈ G.1) (k_v0 : G.2.1 v0 = 11) (S : HS) (H : Heap) (locs : List Loc) (ls : Array Slot), s_X11_spread_L46 G.2.2 F k88 n v0 v1 v2 v3 v4 v5 v6 v7 S = some (r, S') → HP V G S H → va_S (AG G s.heap.size) s.heap H locs → WT G S → lv_has ls 8 [(0, .ref v0), (1, .int v1), (2, .int v2), (3, .int v3), (4, .int v4), (5, .int v5), (6, .int v6), (7, .int v7)] → W p l e (RM 6 205) s m args below meth c H locs 0 0 (MQ below (QI V G S' r s.heap.size) args s 0 0 (AG G s.heap.size)) (F0 m 46 ls []) := by
  intro n
  induction n with
  | zero =>
    intro v0 v1 v2 v3 v4 v5 v6 v7 h_v0 k_v0 S H locs ls hf
    rw [s_X11_spread_L46] at hf
    cases hf
  | succ n ih =>
    intro v0 v1 v2 v3 v4 v5 v6 v7 h_v0 k_v0 S H locs ls hf hP hS hW hl
    have hx := C.1
    have hb := C.2.1
    rw [s_X11_spread_L46] at hf
    refine lv_iload hx hb dX11_spread_46 (lv_at hl 7 rfl) ?_
    refine lv_iload hx hb dX11_spread_48 (lv_at hl 5 rfl) ?_
    refine lv_icmp_ge (tgt := 88) hx hb dX11_spread_50 (by decide) (fun c10 => ?_) (fun c10 => ?_)
    · have hf := if_t c10 hf
      exact hk88 v0 v1 v2 v3 v4 v5 v6 h_v0 k_v0 S H locs _ hf hP hS hW (lv_sub hl [0, 1, 2, 3, 4, 5, 6] rfl)
    · have hf := if_f c10 hf
      refine lv_iload hx hb dX11_spread_53 (lv_at hl 6 rfl) ?_
      refine lv_if_eq (tgt := 79) hx hb dX11_spread_55 (by decide) (fun c11 => ?_) (fun c11 => ?_)
      · have hf := if_t c11 hf
        refine lv_iconst (v := 0) hx hb dX11_spread_79 rfl ?_
        exact b_X11_spread_80 C ih v0 v1 v2 v3 v4 v5 v7 0 h_v0 k_v0 S H locs _ hf hP hS hW (lv_sub hl [0, 1, 2, 3, 4, 5, 7] rfl)
      · have hf := if_f c11 hf
        refine lv_aload_n hx hb dX11_spread_58 rfl (lv_at hl 0 rfl) ?_
        refine gf_X11_62 C hP h_v0 k_v0 dX11_spread_59 ?_
        obtain ⟨t13, et13, hf⟩ := bd1_e hf
        obtain ⟨h_t13, k_t13⟩ := wt_r hW h_v0 k_v0 (by decide) et13
        have k_t13 : G.2.1 t13 = 14 := k_t13
        rw [et13]
        refine lv_iload hx hb dX11_spread_62 (lv_at hl 7 rfl) ?_
        obtain ⟨h14, hf⟩ := if_s hf
        refine x_iald C hP h_t13 k_t13 h14 dX11_spread_64 ?_
        refine lv_aload_n hx hb dX11_spread_65 rfl (lv_at hl 0 rfl) ?_
        refine gf_X11_62 C hP h_v0 k_v0 dX11_spread_66 ?_
        obtain ⟨t15, et15, hf⟩ := bd1_e hf
        obtain ⟨h_t15, k_t15⟩ := wt_r hW h_v0 k_v0 (by decide) et15
        have k_t15 : G.2.1 t15 = 14 := k_t15
        rw [et15]
        refine lv_iload hx hb dX11_spread_69 (lv_at hl 5 rfl) ?_
        obtain ⟨h16, hf⟩ := if_s hf
        refine x_iald C hP h_t15 k_t15 h16 dX11_spread_71 ?_
        refine lv_icmp_eq (tgt := 79) hx hb dX11_spread_72 (by decide) (fun c17 => ?_) (fun c17 => ?_)
        · have hf := if_t c17 hf
          refine lv_iconst (v := 0) hx hb dX11_spread_79 rfl ?_
          exact b_X11_spread_80 C ih v0 v1 v2 v3 v4 v5 v7 0 h_v0 k_v0 S H locs _ hf hP hS hW (lv_sub hl [0, 1, 2, 3, 4, 5, 7] rfl)
        · have hf := if_f c17 hf
          refine lv_iconst (v := 1) hx hb dX11_spread_75 rfl ?_
          refine lv_goto (tgt := 80) hx hb dX11_spread_76 (by decide) ?_
          exact b_X11_spread_80 C ih v0 v1 v2 v3 v4 v5 v7 1 h_v0 k_v0 S H locs _ hf hP hS hW (lv_sub hl [0, 1, 2, 3, 4, 5, 7] rfl)
set_option maxRecDepth 100000 in
set_option maxHeartbeats 4000000 in
theorem b_X11_spread_100 {p : Program} {l : Launch} {e : Env} {s : State} {m : MethodId} {args : Array Value} {below : List Frame} {meth : Method} {c : Code} {V : EV} {G : GS} {r : Int32} {S' : HS} {F : Nat} (C : CX p s m args meth c RX11 cX11_spread 8 (some .int) V G) {k6 : Nat → Int32 → Int32 → Int32 → Int32 → Int32 → HS → Option (Int32 × HS)} (hk6 : ∀ (v0 : Nat) (v1 : Int32) (v2 : Int32) (v3 : Int32) (v4 : Int32) (v5 : Int32) (h_v0 : v0 ∈ G.1) (k_v0 : G.2.1 v0 = 11) (S : HS) (H : Heap) (locs : List Loc) (ls : Array Slot), k6 v0 v1 v2 v3 v4 v5 S = some (r, S') → HP V G S H → va_S (AG G s.heap.size) s.heap H locs → WT G S → lv_has ls 8 [(0, .ref v0), (1, .int v1), (2, .int v2), (3, .int v3), (4, .int v4), (5, .int v5)] → W p l e (RM 6 205) s m args below meth c H locs 0 0 (MQ below (QI V G S' r s.heap.size) args s 0 0 (AG G s.heap.size)) (F0 m 6 ls [])) : ∀ (v0 : Nat) (v1 : Int32) (v2 : Int32) (v3 : Int32) (v5 : Int32) (w0 : Int32) (w1 : Int32) (h_v0 : v0 ∈ G.1) (k_v0 : G.2.1 v0 = 11) (S : HS) (H : Heap) (locs : List Loc) (ls : Array Slot), s_X11_spread_J100 G.2.2 F k6 v0 v1 v2 v3 v5 w0 w1 S = some (r, S') → HP V G S H → va_S (AG G s.heap.size) s.heap H locs → WT G S → lv_has ls 8 [(0, .ref v0), (1, .int v1), (2, .int v2), (3, .int v3), (5, .int v5)] → W p l e (RM 6 205) s m args below meth c H locs 0 0 (MQ below (QI V G S' r s.heap.size) args s 0 0 (AG G s.heap.size)) (F0 m 100 ls [.int w1, .int w0]) := by
  intro v0 v1 v2 v3 v5 w0 w1 h_v0 k_v0 S H locs ls hf hP hS hW hl
  have hx := C.1
  have hb := C.2.1
  unfold s_X11_spread_J100 at hf
  refine lv_iadd hx hb dX11_spread_100 ?_
  obtain ⟨x19, ex19, hf⟩ := bnd_e hf
  refine nm_i ex19 ?_
  refine lv_istore (lv' := [(4, .int x19), (0, .ref v0), (1, .int v1), (2, .int v2), (3, .int v3), (5, .int v5)]) hx hb dX11_spread_101 hl (by decide) rfl (fun ls hl => ?_)
  obtain ⟨x20, ex20, hf⟩ := bnd_e hf
  refine lv_iinc (v := x20) (lv' := [(5, .int x20), (4, .int x19), (0, .ref v0), (1, .int v1), (2, .int v2), (3, .int v3)]) hx hb dX11_spread_103 hl (k := 5) rfl ex20.symm (by decide) rfl (fun ls hl => ?_)
  refine lv_goto (tgt := 6) hx hb dX11_spread_106 (by decide) ?_
  exact hk6 v0 v1 v2 v3 x19 x20 h_v0 k_v0 S H locs _ hf hP hS hW (lv_sub hl [2, 3, 4, 5, 1, 0] rfl)
set_option maxRecDepth 100000 in
set_option maxHeartbeats 4000000 in
theorem b_X11_spread_88 {p : Program} {l : Launch} {e : Env} {s : State} {m : MethodId} {args : Array Value} {below : List Frame} {meth : Method} {c : Code} {V : EV} {G : GS} {r : Int32} {S' : HS} {F : Nat} (C : CX p s m args meth c RX11 cX11_spread 8 (some .int) V G) {k6 : Nat → Int32 → Int32 → Int32 → Int32 → Int32 → HS → Option (Int32 × HS)} (hk6 : ∀ (v0 : Nat) (v1 : Int32) (v2 : Int32) (v3 : Int32) (v4 : Int32) (v5 : Int32) (h_v0 : v0 ∈ G.1) (k_v0 : G.2.1 v0 = 11) (S : HS) (H : Heap) (locs : List Loc) (ls : Array Slot), k6 v0 v1 v2 v3 v4 v5 S = some (r, S') → HP V G S H → va_S (AG G s.heap.size) s.heap H locs → WT G S → lv_has ls 8 [(0, .ref v0), (1, .int v1), (2, .int v2), (3, .int v3), (4, .int v4), (5, .int v5)] → W p l e (RM 6 205) s m args below meth c H locs 0 0 (MQ below (QI V G S' r s.heap.size) args s 0 0 (AG G s.heap.size)) (F0 m 6 ls [])) : ∀ (v0 : Nat) (v1 : Int32) (v2 : Int32) (v3 : Int32) (v4 : Int32) (v5 : Int32) (v6 : Int32) (h_v0 : v0 ∈ G.1) (k_v0 : G.2.1 v0 = 11) (S : HS) (H : Heap) (locs : List Loc) (ls : Array Slot), s_X11_spread_J88 G.2.2 F k6 v0 v1 v2 v3 v4 v5 v6 S = some (r, S') → HP V G S H → va_S (AG G s.heap.size) s.heap H locs → WT G S → lv_has ls 8 [(0, .ref v0), (1, .int v1), (2, .int v2), (3, .int v3), (4, .int v4), (5, .int v5), (6, .int v6)] → W p l e (RM 6 205) s m args below meth c H locs 0 0 (MQ below (QI V G S' r s.heap.size) args s 0 0 (AG G s.heap.size)) (F0 m 88 ls []) := by
  intro v0 v1 v2 v3 v4 v5 v6 h_v0 k_v0 S H locs ls hf hP hS hW hl
  have hx := C.1
  have hb := C.2.1
  unfold s_X11_spread_J88 at hf
  refine lv_iload hx hb dX11_spread_88 (lv_at hl 4 rfl) ?_
  refine lv_iload hx hb dX11_spread_90 (lv_at hl 6 rfl) ?_
  refine lv_if_eq (tgt := 99) hx hb dX11_spread_92 (by decide) (fun c18 => ?_) (fun c18 => ?_)
  · have hf := if_t c18 hf
    refine lv_iconst (v := 0) hx hb dX11_spread_99 rfl ?_
    exact b_X11_spread_100 C hk6 v0 v1 v2 v3 v5 v4 0 h_v0 k_v0 S H locs _ hf hP hS hW (lv_sub hl [0, 1, 2, 3, 5] rfl)
  · have hf := if_f c18 hf
    refine lv_iconst (v := 1) hx hb dX11_spread_95 rfl ?_
    refine lv_goto (tgt := 100) hx hb dX11_spread_96 (by decide) ?_
    exact b_X11_spread_100 C hk6 v0 v1 v2 v3 v5 v4 1 h_v0 k_v0 S H locs _ hf hP hS hW (lv_sub hl [0, 1, 2, 3, 5] rfl)
set_option maxRecDepth 100000 in
set_option maxHeartbeats 4000000 in
theorem b_X11_spread_6 {p : Program} {l : Launch} {e : Env} {s : State} {m : MethodId} {args : Array Value} {below : List Frame} {meth : Method} {c : Code} {V : EV} {G : GS} {r : Int32} {S' : HS} {F : Nat} (C : CX p s m args meth c RX11 cX11_spread 8 (some .int) V G) : ∀ n : Nat, ∀ (v0 : Nat) (v1 : Int32) (v2 : Int32) (v3 : Int32) (v4 : Int32) (v5 : Int32) (h_v0 : v0 ∈ G.1) (k_v0 : G.2.1 v0 = 11) (S : HS) (H : Heap) (locs : List Loc) (ls : Array Slot), s_X11_spread_L6 G.2.2 F n v0 v1 v2 v3 v4 v5 S = some (r, S') → HP V G S H → va_S (AG G s.heap.size) s.heap H locs → WT G S → lv_has ls 8 [(0, .ref v0), (1, .int v1), (2, .int v2), (3, .int v3), (4, .int v4), (5, .int v5)] → W p l e (RM 6 205) s m args below meth c H locs 0 0 (MQ below (QI V G S' r s.heap.size) args s 0 0 (AG G s.heap.size)) (F0 m 6 ls []) := by
  intro n
  induction n with
  | zero =>
    intro v0 v1 v2 v3 v4 v5 h_v0 k_v0 S H locs ls hf
    rw [s_X11_spread_L6] at hf
    cases hf
  | succ n ih =>
    intro v0 v1 v2 v3 v4 v5 h_v0 k_v0 S H locs ls hf hP hS hW hl
    have hx := C.1
    have hb := C.2.1
    rw [s_X11_spread_L6] at hf
    refine lv_iload hx hb dX11_spread_6 (lv_at hl 5 rfl) ?_
    refine lv_iconst (v := 4) hx hb dX11_spread_8 rfl ?_
    refine lv_icmp_gt (tgt := 109) hx hb dX11_spread_9 (by decide) (fun c1 => ?_) (fun c1 => ?_)
    · have hf := if_t c1 hf
      refine lv_iload hx hb dX11_spread_109 (lv_at hl 4 rfl) ?_
      cases hf
      exact x_reti C hP hS hW dX11_spread_111
    · have hf := if_f c1 hf
      refine lv_aload_n hx hb dX11_spread_12 rfl (lv_at hl 0 rfl) ?_
      refine lv_iload_n hx hb dX11_spread_13 rfl (lv_at hl 1 rfl) ?_
      refine lv_iload_n hx hb dX11_spread_14 rfl (lv_at hl 2 rfl) ?_
      refine lv_iload_n hx hb dX11_spread_15 rfl (lv_at hl 3 rfl) ?_
      refine lv_iload hx hb dX11_spread_16 (lv_at hl 5 rfl) ?_
      obtain ⟨r2, S3, eS3, hf⟩ := bd2_e hf
      refine x_aft_z (x_runV (As := [.int v1, .int v2, .int v3, .int v5]) (rest := []) C hP hS (c_X11_add (l := l) C.2.2.2.2.2.2.2.2.2.1 hW h_v0 k_v0 eS3 H.size) h_v0 k_v0 (by decide) rfl rfl km_X11_add ki_X11_add qm_X11_301 ⟨(Nat.le_of_ble_eq_true rfl), (Nat.le_of_ble_eq_true rfl)⟩ rfl hl.1 rfl (Nat.le_of_ble_eq_true rfl) ⟨Nat.zero_le _, Nat.zero_le _⟩ dX11_spread_18) hS (fun H locs hP hS hW z4 => ?_)
      refine lv_if_ne (tgt := 26) hx hb dX11_spread_21 (by decide) (fun c5 => ?_) (fun c5 => ?_)
      · have hf := if_f c5 hf
        refine lv_aload_n hx hb dX11_spread_26 rfl (lv_at hl 0 rfl) ?_
        refine gf_X11_62 C hP h_v0 k_v0 dX11_spread_27 ?_
        obtain ⟨t6, et6, hf⟩ := bd1_e hf
        obtain ⟨h_t6, k_t6⟩ := wt_r hW h_v0 k_v0 (by decide) et6
        have k_t6 : G.2.1 t6 = 14 := k_t6
        rw [et6]
        refine lv_iload hx hb dX11_spread_30 (lv_at hl 5 rfl) ?_
        refine lv_aload_n hx hb dX11_spread_32 rfl (lv_at hl 0 rfl) ?_
        refine gf_X11_19 C hP h_v0 k_v0 dX11_spread_33 ?_
        obtain ⟨t7, et7, hf⟩ := bd1_e hf
        obtain ⟨h_t7, k_t7⟩ := wt_r hW h_v0 k_v0 (by decide) et7
        have k_t7 : G.2.1 t7 = 0 := k_t7
        rw [et7]
        refine gf_X11_196 C hP h_t7 k_t7 dX11_spread_36 ?_
        obtain ⟨h8, hf⟩ := if_s hf
        obtain ⟨S9, eS9, hf⟩ := bnd_e hf
        refine x_iast C hP hS h_t6 k_t6 h8 eS9 dX11_spread_39 (fun H locs hP hS => ?_)
        have hW : WT G S9 := by rw [eS9]; exact hW
        refine lv_iconst (v := 1) hx hb dX11_spread_40 rfl ?_
        refine lv_istore (lv' := [(6, .int 1), (0, .ref v0), (1, .int v1), (2, .int v2), (3, .int v3), (4, .int v4), (5, .int v5)]) hx hb dX11_spread_41 hl (by decide) rfl (fun ls hl => ?_)
        refine lv_iconst (v := 0) hx hb dX11_spread_43 rfl ?_
        refine lv_istore (lv' := [(7, .int 0), (6, .int 1), (0, .ref v0), (1, .int v1), (2, .int v2), (3, .int v3), (4, .int v4), (5, .int v5)]) hx hb dX11_spread_44 hl (by decide) rfl (fun ls hl => ?_)
        exact b_X11_spread_46 C (b_X11_spread_88 C ih) F v0 v1 v2 v3 v4 v5 1 0 h_v0 k_v0 S9 H locs _ hf hP hS hW (lv_sub hl [2, 3, 4, 5, 6, 7, 1, 0] rfl)
      · have hf := if_t c5 hf
        refine lv_iconst (v := (-1)) hx hb dX11_spread_24 rfl ?_
        cases hf
        exact x_reti C hP hS hW dX11_spread_25
set_option maxRecDepth 100000 in
set_option maxHeartbeats 4000000 in
theorem c_X11_spread {l : Launch} {V : EV} {G : GS} {S : HS} {F : Nat} {a : Nat} {p0 : Int32} {p1 : Int32} {p2 : Int32} {r : Int32} {S' : HS} (hN : G.1.Nodup) (hW : WT G S) (h_a : a ∈ G.1) (k_a : G.2.1 a = 11) (hf : s_X11_spread G.2.2 F a p0 p1 p2 S = some (r, S')) : MetI l yX11_spread cX11_spread 8 .int 6 205 V G S [.ref a, .int p0, .int p1, .int p2] r S' := by
  intro sz
  refine x_in RX11 rfl (by decide +kernel) hN (Nat.le_of_ble_eq_true rfl) (fun p e s m args below meth c ls hsz hargs hnm C hP hS hl => ?_)
  subst hsz
  have hx := C.1
  have hb := C.2.1
  have hl : lv_has ls 8 [(0, .ref a), (1, .int p0), (2, .int p1), (3, .int p2)] := hl
  unfold s_X11_spread at hf
  refine lv_iconst (v := 0) hx hb dX11_spread_0 rfl ?_
  refine lv_istore (lv' := [(4, .int 0), (0, .ref a), (1, .int p0), (2, .int p1), (3, .int p2)]) hx hb dX11_spread_1 hl (by decide) rfl (fun ls hl => ?_)
  refine lv_iconst (v := 0) hx hb dX11_spread_3 rfl ?_
  refine lv_istore (lv' := [(5, .int 0), (4, .int 0), (0, .ref a), (1, .int p0), (2, .int p1), (3, .int p2)]) hx hb dX11_spread_4 hl (by decide) rfl (fun ls hl => ?_)
  exact b_X11_spread_6 C F a p0 p1 p2 0 0 h_a k_a S s.heap [] _ hf hP hS hW (lv_sub hl [2, 3, 4, 5, 1, 0] rfl)
def s_X11_sum (N : Nat → Nat) (F : Nat) (a : Nat) (p0 : Int32) (p1 : Int32) (p2 : Int32) (p3 : Int32) (S : HS) : Option (Int32 × HS) :=
  if (s_X11_isMode p3 S) = (0 : Int32) then
  some ((-1), S)
  else
  bd2 (s_X11_add N F a p0 p1 p2 p3 S) fun r3 S4 =>
  if r3 = (0 : Int32) then
  some ((-1), S4)
  else
  bd1 (gR S4 1101 a) fun t7 =>
  some (gI S4 1 t7, S4)
set_option maxRecDepth 100000 in
set_option maxHeartbeats 4000000 in
theorem c_X11_sum {l : Launch} {V : EV} {G : GS} {S : HS} {F : Nat} {a : Nat} {p0 : Int32} {p1 : Int32} {p2 : Int32} {p3 : Int32} {r : Int32} {S' : HS} (hN : G.1.Nodup) (hW : WT G S) (h_a : a ∈ G.1) (k_a : G.2.1 a = 11) (hf : s_X11_sum G.2.2 F a p0 p1 p2 p3 S = some (r, S')) : MetI l yX11_sum cX11_sum 5 .int 6 205 V G S [.ref a, .int p0, .int p1, .int p2, .int p3] r S' := by
  intro sz
  refine x_in RX11 rfl (by decide +kernel) hN (Nat.le_of_ble_eq_true rfl) (fun p e s m args below meth c ls hsz hargs hnm C hP hS hl => ?_)
  subst hsz
  have hx := C.1
  have hb := C.2.1
  have hl : lv_has ls 5 [(0, .ref a), (1, .int p0), (2, .int p1), (3, .int p2), (4, .int p3)] := hl
  unfold s_X11_sum at hf
  refine lv_iload hx hb dX11_sum_0 (lv_at hl 4 rfl) ?_
  refine x_aft_z (x_runS (As := [.int p3]) (rest := []) C hP hS (c_X11_isMode (l := l) C.2.2.2.2.2.2.2.2.2.1 hW rfl s.heap.size) km_X11_isMode ks_X11_isMode qm_X11_207 ⟨(Nat.le_of_ble_eq_true rfl), (Nat.le_of_ble_eq_true rfl)⟩ rfl hl.1 rfl (Nat.le_of_ble_eq_true rfl) ⟨Nat.zero_le _, Nat.zero_le _⟩ dX11_sum_2) hS (fun H locs hP hS hW z1 => ?_)
  refine lv_if_eq (tgt := 30) hx hb dX11_sum_5 (by decide) (fun c2 => ?_) (fun c2 => ?_)
  · have hf := if_t c2 hf
    refine lv_iconst (v := (-1)) hx hb dX11_sum_30 rfl ?_
    cases hf
    exact x_reti C hP hS hW dX11_sum_31
  · have hf := if_f c2 hf
    refine lv_aload_n hx hb dX11_sum_8 rfl (lv_at hl 0 rfl) ?_
    refine lv_iload_n hx hb dX11_sum_9 rfl (lv_at hl 1 rfl) ?_
    refine lv_iload_n hx hb dX11_sum_10 rfl (lv_at hl 2 rfl) ?_
    refine lv_iload_n hx hb dX11_sum_11 rfl (lv_at hl 3 rfl) ?_
    refine lv_iload hx hb dX11_sum_12 (lv_at hl 4 rfl) ?_
    obtain ⟨r3, S4, eS4, hf⟩ := bd2_e hf
    refine x_aft_z (x_runV (As := [.int p0, .int p1, .int p2, .int p3]) (rest := []) C hP hS (c_X11_add (l := l) C.2.2.2.2.2.2.2.2.2.1 hW h_a k_a eS4 H.size) h_a k_a (by decide) rfl rfl km_X11_add ki_X11_add qm_X11_301 ⟨(Nat.le_of_ble_eq_true rfl), (Nat.le_of_ble_eq_true rfl)⟩ rfl hl.1 rfl (Nat.le_of_ble_eq_true rfl) ⟨Nat.zero_le _, Nat.zero_le _⟩ dX11_sum_14) hS (fun H locs hP hS hW z5 => ?_)
    refine lv_if_eq (tgt := 30) hx hb dX11_sum_17 (by decide) (fun c6 => ?_) (fun c6 => ?_)
    · have hf := if_t c6 hf
      refine lv_iconst (v := (-1)) hx hb dX11_sum_30 rfl ?_
      cases hf
      exact x_reti C hP hS hW dX11_sum_31
    · have hf := if_f c6 hf
      refine lv_aload_n hx hb dX11_sum_20 rfl (lv_at hl 0 rfl) ?_
      refine gf_X11_19 C hP h_a k_a dX11_sum_21 ?_
      obtain ⟨t7, et7, hf⟩ := bd1_e hf
      obtain ⟨h_t7, k_t7⟩ := wt_r hW h_a k_a (by decide) et7
      have k_t7 : G.2.1 t7 = 0 := k_t7
      rw [et7]
      refine gf_X11_196 C hP h_t7 k_t7 dX11_sum_24 ?_
      refine lv_goto (tgt := 31) hx hb dX11_sum_27 (by decide) ?_
      cases hf
      exact x_reti C hP hS hW dX11_sum_31
def s_X11_swallows (N : Nat → Nat) (F : Nat) (a : Nat) (p0 : Int32) (p1 : Int32) (S : HS) : Option (Int32 × HS) :=
  bd2 (s_X11_addendsWith N F a p0 p1 1 0 S) fun r1 S2 =>
  some (r1, S2)
set_option maxRecDepth 100000 in
set_option maxHeartbeats 4000000 in
theorem c_X11_swallows {l : Launch} {V : EV} {G : GS} {S : HS} {F : Nat} {a : Nat} {p0 : Int32} {p1 : Int32} {r : Int32} {S' : HS} (hN : G.1.Nodup) (hW : WT G S) (h_a : a ∈ G.1) (k_a : G.2.1 a = 11) (hf : s_X11_swallows G.2.2 F a p0 p1 S = some (r, S')) : MetI l yX11_swallows cX11_swallows 3 .int 6 207 V G S [.ref a, .int p0, .int p1] r S' := by
  intro sz
  refine x_in RX11 rfl (by decide +kernel) hN (Nat.le_of_ble_eq_true rfl) (fun p e s m args below meth c ls hsz hargs hnm C hP hS hl => ?_)
  subst hsz
  have hx := C.1
  have hb := C.2.1
  have hl : lv_has ls 3 [(0, .ref a), (1, .int p0), (2, .int p1)] := hl
  unfold s_X11_swallows at hf
  refine lv_aload_n hx hb dX11_swallows_0 rfl (lv_at hl 0 rfl) ?_
  refine lv_iload_n hx hb dX11_swallows_1 rfl (lv_at hl 1 rfl) ?_
  refine lv_iload_n hx hb dX11_swallows_2 rfl (lv_at hl 2 rfl) ?_
  refine lv_iconst (v := 1) hx hb dX11_swallows_3 rfl ?_
  refine lv_iconst (v := 0) hx hb dX11_swallows_4 rfl ?_
  obtain ⟨r1, S2, eS2, hf⟩ := bd2_e hf
  refine x_aft_i (x_runV (As := [.int p0, .int p1, .int 1, .int 0]) (rest := []) C hP hS (c_X11_addendsWith (l := l) C.2.2.2.2.2.2.2.2.2.1 hW h_a k_a eS2 s.heap.size) h_a k_a (by decide) rfl rfl km_X11_addendsWith ki_X11_addendsWith qm_X11_335 ⟨(Nat.le_of_ble_eq_true rfl), (Nat.le_of_ble_eq_true rfl)⟩ rfl hl.1 rfl (Nat.le_of_ble_eq_true rfl) ⟨Nat.zero_le _, Nat.zero_le _⟩ dX11_swallows_5) hS (fun H locs hP hS hW => ?_)
  cases hf
  exact x_reti C hP hS hW dX11_swallows_8
def s_X11_ties (N : Nat → Nat) (F : Nat) (a : Nat) (p0 : Int32) (p1 : Int32) (S : HS) : Option (Int32 × HS) :=
  bd2 (s_X11_addendsWith N F a p0 p1 3 0 S) fun r1 S2 =>
  some (r1, S2)
set_option maxRecDepth 100000 in
set_option maxHeartbeats 4000000 in
theorem c_X11_ties {l : Launch} {V : EV} {G : GS} {S : HS} {F : Nat} {a : Nat} {p0 : Int32} {p1 : Int32} {r : Int32} {S' : HS} (hN : G.1.Nodup) (hW : WT G S) (h_a : a ∈ G.1) (k_a : G.2.1 a = 11) (hf : s_X11_ties G.2.2 F a p0 p1 S = some (r, S')) : MetI l yX11_ties cX11_ties 3 .int 6 207 V G S [.ref a, .int p0, .int p1] r S' := by
  intro sz
  refine x_in RX11 rfl (by decide +kernel) hN (Nat.le_of_ble_eq_true rfl) (fun p e s m args below meth c ls hsz hargs hnm C hP hS hl => ?_)
  subst hsz
  have hx := C.1
  have hb := C.2.1
  have hl : lv_has ls 3 [(0, .ref a), (1, .int p0), (2, .int p1)] := hl
  unfold s_X11_ties at hf
  refine lv_aload_n hx hb dX11_ties_0 rfl (lv_at hl 0 rfl) ?_
  refine lv_iload_n hx hb dX11_ties_1 rfl (lv_at hl 1 rfl) ?_
  refine lv_iload_n hx hb dX11_ties_2 rfl (lv_at hl 2 rfl) ?_
  refine lv_iconst (v := 3) hx hb dX11_ties_3 rfl ?_
  refine lv_iconst (v := 0) hx hb dX11_ties_4 rfl ?_
  obtain ⟨r1, S2, eS2, hf⟩ := bd2_e hf
  refine x_aft_i (x_runV (As := [.int p0, .int p1, .int 3, .int 0]) (rest := []) C hP hS (c_X11_addendsWith (l := l) C.2.2.2.2.2.2.2.2.2.1 hW h_a k_a eS2 s.heap.size) h_a k_a (by decide) rfl rfl km_X11_addendsWith ki_X11_addendsWith qm_X11_335 ⟨(Nat.le_of_ble_eq_true rfl), (Nat.le_of_ble_eq_true rfl)⟩ rfl hl.1 rfl (Nat.le_of_ble_eq_true rfl) ⟨Nat.zero_le _, Nat.zero_le _⟩ dX11_ties_5) hS (fun H locs hP hS hW => ?_)
  cases hf
  exact x_reti C hP hS hW dX11_ties_8
def s_X11_times (N : Nat → Nat) (F : Nat) (a : Nat) (p0 : Int32) (p1 : Int32) (p2 : Int32) (p3 : Int32) (S : HS) : Option Int32 :=
  bd1 (s_X11_formHolding N a p0 S) fun r1 =>
  mq r1
  (some (-1))
  fun t3 =>
  if (s_X2_holds t3 p1 S) = (0 : Int32) then
  some (-1)
  else
  if (s_X2_holds t3 p2 S) = (0 : Int32) then
  some (-1)
  else
  if (s_X11_isMode p3 S) = (0 : Int32) then
  some (-1)
  else
  bd1 (gR S 1102 a) fun t10 =>
  bd1 (gR S 1104 a) fun t11 =>
  bd1 (s_X1_find N F t10 (gI S 701 t11) p3 p0 p1 p2 S) fun r12 =>
  if r12 = (-1 : Int32) then
  some 0
  else
  bd1 (gR S 1102 a) fun t14 =>
  bd1 (s_X1_oftenAt N t14 r12 S) fun r15 =>
  some r15
set_option maxRecDepth 100000 in
set_option maxHeartbeats 4000000 in
theorem c_X11_times {l : Launch} {V : EV} {G : GS} {S : HS} {F : Nat} {a : Nat} {p0 : Int32} {p1 : Int32} {p2 : Int32} {p3 : Int32} {r : Int32} (hN : G.1.Nodup) (hW : WT G S) (h_a : a ∈ G.1) (k_a : G.2.1 a = 11) (hf : s_X11_times G.2.2 F a p0 p1 p2 p3 S = some r) : MetI l yX11_times cX11_times 7 .int 3 87 V G S [.ref a, .int p0, .int p1, .int p2, .int p3] r S := by
  intro sz
  refine x_in RX11 rfl (by decide +kernel) hN (Nat.le_of_ble_eq_true rfl) (fun p e s m args below meth c ls hsz hargs hnm C hP hS hl => ?_)
  subst hsz
  have hx := C.1
  have hb := C.2.1
  have hl : lv_has ls 7 [(0, .ref a), (1, .int p0), (2, .int p1), (3, .int p2), (4, .int p3)] := hl
  unfold s_X11_times at hf
  refine lv_aload_n hx hb dX11_times_0 rfl (lv_at hl 0 rfl) ?_
  refine lv_iload_n hx hb dX11_times_1 rfl (lv_at hl 1 rfl) ?_
  obtain ⟨r1, er1, hf⟩ := bd1_e hf
  refine x_aft_r (x_runV (As := [.int p0]) (rest := []) C hP hS (c_X11_formHolding (l := l) C.2.2.2.2.2.2.2.2.2.1 hW h_a k_a er1 s.heap.size) h_a k_a (by decide) rfl rfl km_X11_formHolding ki_X11_formHolding qm_X11_235 ⟨(Nat.le_of_ble_eq_true rfl), (Nat.le_of_ble_eq_true rfl)⟩ rfl hl.1 rfl (Nat.le_of_ble_eq_true rfl) ⟨Nat.zero_le _, Nat.zero_le _⟩ dX11_times_2) hS (fun H locs hP hS hW q2 => ?_)
  cases r1 with
  | none =>
    have hf := mq_n rfl hf
    show W _ _ _ _ _ _ _ _ _ _ _ _ _ _ _ (F0 m 5 ls (.null :: []))
    refine lv_astoreN (lv' := [(5, .null), (0, .ref a), (1, .int p0), (2, .int p1), (3, .int p2), (4, .int p3)]) hx hb dX11_times_5 hl (by decide) rfl (fun ls hl => ?_)
    refine lv_aloadN hx hb dX11_times_7 (lv_at hl 0 rfl) ?_
    refine lv_ifnullN (tgt := 38) hx hb dX11_times_9 (by decide) ?_
    refine lv_iconst (v := (-1)) hx hb dX11_times_38 rfl ?_
    cases hf
    exact x_reti C hP hS hW dX11_times_39
  | some t3 =>
    have hf := mq_s rfl hf
    obtain ⟨h_t3, k_t3⟩ := q2 _ rfl
    show W _ _ _ _ _ _ _ _ _ _ _ _ _ _ _ (F0 m 5 ls (.ref t3 :: []))
    refine lv_astore (lv' := [(5, .ref t3), (0, .ref a), (1, .int p0), (2, .int p1), (3, .int p2), (4, .int p3)]) hx hb dX11_times_5 hl (by decide) rfl (fun ls hl => ?_)
    refine lv_aload hx hb dX11_times_7 (lv_at hl 0 rfl) ?_
    refine lv_ifnull hx hb dX11_times_9 ?_
    refine lv_aload hx hb dX11_times_12 (lv_at hl 0 rfl) ?_
    refine lv_iload_n hx hb dX11_times_14 rfl (lv_at hl 3 rfl) ?_
    refine x_aft_z (x_runV (As := [.int p1]) (rest := []) C hP hS (c_X2_holds (l := l) C.2.2.2.2.2.2.2.2.2.1 hW h_t3 k_t3 rfl H.size) h_t3 k_t3 (by decide) rfl rfl km_X2_holds ki_X2_holds qm_X11_174 ⟨(Nat.le_of_ble_eq_true rfl), (Nat.le_of_ble_eq_true rfl)⟩ rfl hl.1 rfl (Nat.le_of_ble_eq_true rfl) ⟨Nat.zero_le _, Nat.zero_le _⟩ dX11_times_15) hS (fun H locs hP hS hW z4 => ?_)
    refine lv_if_eq (tgt := 38) hx hb dX11_times_18 (by decide) (fun c5 => ?_) (fun c5 => ?_)
    · have hf := if_t c5 hf
      refine lv_iconst (v := (-1)) hx hb dX11_times_38 rfl ?_
      cases hf
      exact x_reti C hP hS hW dX11_times_39
    · have hf := if_f c5 hf
      refine lv_aload hx hb dX11_times_21 (lv_at hl 0 rfl) ?_
      refine lv_iload_n hx hb dX11_times_23 rfl (lv_at hl 4 rfl) ?_
      refine x_aft_z (x_runV (As := [.int p2]) (rest := []) C hP hS (c_X2_holds (l := l) C.2.2.2.2.2.2.2.2.2.1 hW h_t3 k_t3 rfl H.size) h_t3 k_t3 (by decide) rfl rfl km_X2_holds ki_X2_holds qm_X11_174 ⟨(Nat.le_of_ble_eq_true rfl), (Nat.le_of_ble_eq_true rfl)⟩ rfl hl.1 rfl (Nat.le_of_ble_eq_true rfl) ⟨Nat.zero_le _, Nat.zero_le _⟩ dX11_times_24) hS (fun H locs hP hS hW z6 => ?_)
      refine lv_if_eq (tgt := 38) hx hb dX11_times_27 (by decide) (fun c7 => ?_) (fun c7 => ?_)
      · have hf := if_t c7 hf
        refine lv_iconst (v := (-1)) hx hb dX11_times_38 rfl ?_
        cases hf
        exact x_reti C hP hS hW dX11_times_39
      · have hf := if_f c7 hf
        refine lv_iload hx hb dX11_times_30 (lv_at hl 5 rfl) ?_
        refine x_aft_z (x_runS (As := [.int p3]) (rest := []) C hP hS (c_X11_isMode (l := l) C.2.2.2.2.2.2.2.2.2.1 hW rfl H.size) km_X11_isMode ks_X11_isMode qm_X11_207 ⟨(Nat.le_of_ble_eq_true rfl), (Nat.le_of_ble_eq_true rfl)⟩ rfl hl.1 rfl (Nat.le_of_ble_eq_true rfl) ⟨Nat.zero_le _, Nat.zero_le _⟩ dX11_times_32) hS (fun H locs hP hS hW z8 => ?_)
        refine lv_if_ne (tgt := 40) hx hb dX11_times_35 (by decide) (fun c9 => ?_) (fun c9 => ?_)
        · have hf := if_f c9 hf
          refine lv_aload_n hx hb dX11_times_40 rfl (lv_at hl 1 rfl) ?_
          refine gf_X11_26 C hP h_a k_a dX11_times_41 ?_
          obtain ⟨t10, et10, hf⟩ := bd1_e hf
          obtain ⟨h_t10, k_t10⟩ := wt_r hW h_a k_a (by decide) et10
          have k_t10 : G.2.1 t10 = 1 := k_t10
          rw [et10]
          refine lv_aload_n hx hb dX11_times_44 rfl (lv_at hl 1 rfl) ?_
          refine gf_X11_40 C hP h_a k_a dX11_times_45 ?_
          obtain ⟨t11, et11, hf⟩ := bd1_e hf
          obtain ⟨h_t11, k_t11⟩ := wt_r hW h_a k_a (by decide) et11
          have k_t11 : G.2.1 t11 = 7 := k_t11
          rw [et11]
          refine gf_X11_115 C hP h_t11 k_t11 dX11_times_48 ?_
          refine lv_iload hx hb dX11_times_51 (lv_at hl 5 rfl) ?_
          refine lv_iload_n hx hb dX11_times_53 rfl (lv_at hl 2 rfl) ?_
          refine lv_iload_n hx hb dX11_times_54 rfl (lv_at hl 3 rfl) ?_
          refine lv_iload_n hx hb dX11_times_55 rfl (lv_at hl 4 rfl) ?_
          obtain ⟨r12, er12, hf⟩ := bd1_e hf
          refine x_aft_i (x_runV (As := [.int (gI S 701 t11), .int p3, .int p0, .int p1, .int p2]) (rest := []) C hP hS (c_X1_find (l := l) C.2.2.2.2.2.2.2.2.2.1 hW h_t10 k_t10 er12 H.size) h_t10 k_t10 (by decide) rfl rfl km_X1_find ki_X1_find qm_X11_362 ⟨(Nat.le_of_ble_eq_true rfl), (Nat.le_of_ble_eq_true rfl)⟩ rfl hl.1 rfl (Nat.le_of_ble_eq_true rfl) ⟨Nat.zero_le _, Nat.zero_le _⟩ dX11_times_56) hS (fun H locs hP hS hW => ?_)
          refine lv_istore (lv' := [(6, .int r12), (5, .ref t3), (0, .ref a), (1, .int p0), (2, .int p1), (3, .int p2), (4, .int p3)]) hx hb dX11_times_59 hl (by decide) rfl (fun ls hl => ?_)
          refine lv_iload hx hb dX11_times_61 (lv_at hl 0 rfl) ?_
          refine lv_iconst (v := (-1)) hx hb dX11_times_63 rfl ?_
          refine lv_icmp_ne (tgt := 71) hx hb dX11_times_64 (by decide) (fun c13 => ?_) (fun c13 => ?_)
          · have hf := if_f c13 hf
            refine lv_aload_n hx hb dX11_times_71 rfl (lv_at hl 2 rfl) ?_
            refine gf_X11_26 C hP h_a k_a dX11_times_72 ?_
            obtain ⟨t14, et14, hf⟩ := bd1_e hf
            obtain ⟨h_t14, k_t14⟩ := wt_r hW h_a k_a (by decide) et14
            have k_t14 : G.2.1 t14 = 1 := k_t14
            rw [et14]
            refine lv_iload hx hb dX11_times_75 (lv_at hl 0 rfl) ?_
            obtain ⟨r15, er15, hf⟩ := bd1_e hf
            refine x_aft_i (x_runV (As := [.int r12]) (rest := []) C hP hS (c_X1_oftenAt (l := l) C.2.2.2.2.2.2.2.2.2.1 hW h_t14 k_t14 er15 H.size) h_t14 k_t14 (by decide) rfl rfl km_X1_oftenAt ki_X1_oftenAt qm_X11_359 ⟨(Nat.le_of_ble_eq_true rfl), (Nat.le_of_ble_eq_true rfl)⟩ rfl hl.1 rfl (Nat.le_of_ble_eq_true rfl) ⟨Nat.zero_le _, Nat.zero_le _⟩ dX11_times_77) hS (fun H locs hP hS hW => ?_)
            cases hf
            exact x_reti C hP hS hW dX11_times_80
          · have hf := if_t c13 hf
            refine lv_iconst (v := 0) hx hb dX11_times_67 rfl ?_
            refine lv_goto (tgt := 80) hx hb dX11_times_68 (by decide) ?_
            cases hf
            exact x_reti C hP hS hW dX11_times_80
        · have hf := if_t c9 hf
          refine lv_iconst (v := (-1)) hx hb dX11_times_38 rfl ?_
          cases hf
          exact x_reti C hP hS hW dX11_times_39
def s_X11_total_L15 (N : Nat → Nat) (F : Nat) : Nat → Nat → Nat → Int32 → Int32 → HS → Option (Int32 × HS)
  | 0, _, _, _, _, _ => none
  | n + 1, v0, v1, v2, v3, S => bd1 (gR S 1111 v0) fun t4 =>
  if (gI S 904 t4) ≤ v3 then
  some (v2, S)
  else
  bd1 (gR S 1101 v0) fun t6 =>
  bd1 (gR S 1104 v0) fun t7 =>
  bd1 (gR S 1104 v0) fun t8 =>
  bd1 (s_X7_read N t8 v3 S) fun r9 =>
  bd1 (s_X0_add F t6 v1 (gI S 702 t7) (s_X2_one v1 S) r9 v2 S) fun S10 =>
  bd1 (gR S10 1101 v0) fun t11 =>
  bnd (gI S10 1 t11 : Int32) fun x12 =>
  bnd (v3 + Int32.ofInt 1 : Int32) fun x13 =>
  s_X11_total_L15 N F n v0 v1 x12 x13 S10
def s_X11_total (N : Nat → Nat) (F : Nat) (a : Nat) (S : HS) : Option (Int32 × HS) :=
  bd1 (s_X11_formInUse N a S) fun r1 =>
  mq r1
  (some ((-1), S))
  fun t3 =>
  s_X11_total_L15 N F F a t3 0 0 S
set_option maxRecDepth 100000 in
set_option maxHeartbeats 4000000 in
theorem b_X11_total_15 {p : Program} {l : Launch} {e : Env} {s : State} {m : MethodId} {args : Array Value} {below : List Frame} {meth : Method} {c : Code} {V : EV} {G : GS} {r : Int32} {S' : HS} {F : Nat} (C : CX p s m args meth c RX11 cX11_total 4 (some .int) V G) : ∀ n : Nat, ∀ (v0 : Nat) (v1 : Nat) (v2 : Int32) (v3 : Int32) (h_v0 : v0 ∈ G.1) (k_v0 : G.2.1 v0 = 11) (h_v1 : v1 ∈ G.1) (k_v1 : G.2.1 v1 = 2) (S : HS) (H : Heap) (locs : List Loc) (ls : Array Slot), s_X11_total_L15 G.2.2 F n v0 v1 v2 v3 S = some (r, S') → HP V G S H → va_S (AG G s.heap.size) s.heap H locs → WT G S → lv_has ls 4 [(0, .ref v0), (1, .ref v1), (2, .int v2), (3, .int v3)] → W p l e (RM 5 172) s m args below meth c H locs 0 0 (MQ below (QI V G S' r s.heap.size) args s 0 0 (AG G s.heap.size)) (F0 m 15 ls []) := by
  intro n
  induction n with
  | zero =>
    intro v0 v1 v2 v3 h_v0 k_v0 h_v1 k_v1 S H locs ls hf
    rw [s_X11_total_L15] at hf
    cases hf
  | succ n ih =>
    intro v0 v1 v2 v3 h_v0 k_v0 h_v1 k_v1 S H locs ls hf hP hS hW hl
    have hx := C.1
    have hb := C.2.1
    rw [s_X11_total_L15] at hf
    refine lv_iload_n hx hb dX11_total_15 rfl (lv_at hl 3 rfl) ?_
    refine lv_aload_n hx hb dX11_total_16 rfl (lv_at hl 0 rfl) ?_
    refine gf_X11_68 C hP h_v0 k_v0 dX11_total_17 ?_
    obtain ⟨t4, et4, hf⟩ := bd1_e hf
    obtain ⟨h_t4, k_t4⟩ := wt_r hW h_v0 k_v0 (by decide) et4
    have k_t4 : G.2.1 t4 = 9 := k_t4
    rw [et4]
    refine gf_X11_319 C hP h_t4 k_t4 dX11_total_20 ?_
    refine lv_icmp_ge (tgt := 68) hx hb dX11_total_23 (by decide) (fun c5 => ?_) (fun c5 => ?_)
    · have hf := if_t c5 hf
      refine lv_iload_n hx hb dX11_total_68 rfl (lv_at hl 2 rfl) ?_
      cases hf
      exact x_reti C hP hS hW dX11_total_69
    · have hf := if_f c5 hf
      refine lv_aload_n hx hb dX11_total_26 rfl (lv_at hl 0 rfl) ?_
      refine gf_X11_19 C hP h_v0 k_v0 dX11_total_27 ?_
      obtain ⟨t6, et6, hf⟩ := bd1_e hf
      obtain ⟨h_t6, k_t6⟩ := wt_r hW h_v0 k_v0 (by decide) et6
      have k_t6 : G.2.1 t6 = 0 := k_t6
      rw [et6]
      refine lv_aload_n hx hb dX11_total_30 rfl (lv_at hl 1 rfl) ?_
      refine lv_aload_n hx hb dX11_total_31 rfl (lv_at hl 0 rfl) ?_
      refine gf_X11_40 C hP h_v0 k_v0 dX11_total_32 ?_
      obtain ⟨t7, et7, hf⟩ := bd1_e hf
      obtain ⟨h_t7, k_t7⟩ := wt_r hW h_v0 k_v0 (by decide) et7
      have k_t7 : G.2.1 t7 = 7 := k_t7
      rw [et7]
      refine gf_X11_193 C hP h_t7 k_t7 dX11_total_35 ?_
      refine lv_aload_n hx hb dX11_total_38 rfl (lv_at hl 1 rfl) ?_
      refine x_aft_i (x_runV (As := []) (rest := [.int (gI S 702 t7), .ref v1, .ref t6]) C hP hS (c_X2_one (l := l) C.2.2.2.2.2.2.2.2.2.1 hW h_v1 k_v1 rfl H.size) h_v1 k_v1 (by decide) rfl rfl km_X2_one ki_X2_one qm_X11_308 ⟨(Nat.le_of_ble_eq_true rfl), (Nat.le_of_ble_eq_true rfl)⟩ rfl hl.1 rfl (Nat.le_of_ble_eq_true rfl) ⟨Nat.zero_le _, Nat.zero_le _⟩ dX11_total_39) hS (fun H locs hP hS hW => ?_)
      refine lv_aload_n hx hb dX11_total_42 rfl (lv_at hl 0 rfl) ?_
      refine gf_X11_40 C hP h_v0 k_v0 dX11_total_43 ?_
      obtain ⟨t8, et8, hf⟩ := bd1_e hf
      obtain ⟨h_t8, k_t8⟩ := wt_r hW h_v0 k_v0 (by decide) et8
      have k_t8 : G.2.1 t8 = 7 := k_t8
      rw [et8]
      refine lv_iload_n hx hb dX11_total_46 rfl (lv_at hl 3 rfl) ?_
      obtain ⟨r9, er9, hf⟩ := bd1_e hf
      refine x_aft_i (x_runV (As := [.int v3]) (rest := [.int (s_X2_one v1 S), .int (gI S 702 t7), .ref v1, .ref t6]) C hP hS (c_X7_read (l := l) C.2.2.2.2.2.2.2.2.2.1 hW h_t8 k_t8 er9 H.size) h_t8 k_t8 (by decide) rfl rfl km_X7_read ki_X7_read qm_X11_170 ⟨(Nat.le_of_ble_eq_true rfl), (Nat.le_of_ble_eq_true rfl)⟩ rfl hl.1 rfl (Nat.le_of_ble_eq_true rfl) ⟨Nat.zero_le _, Nat.zero_le _⟩ dX11_total_47) hS (fun H locs hP hS hW => ?_)
      refine lv_iload_n hx hb dX11_total_50 rfl (lv_at hl 2 rfl) ?_
      obtain ⟨S10, eS10, hf⟩ := bd1_e hf
      refine x_aft_v (x_runV (As := [.ref v1, .int (gI S 702 t7), .int (s_X2_one v1 S), .int r9, .int v2]) (rest := []) C hP hS (c_X0_add (l := l) C.2.2.2.2.2.2.2.2.2.1 hW h_t6 k_t6 h_v1 k_v1 eS10 H.size) h_t6 k_t6 (by decide) rfl rfl km_X0_add ki_X0_add qm_X11_305 ⟨(Nat.le_of_ble_eq_true rfl), (Nat.le_of_ble_eq_true rfl)⟩ rfl hl.1 rfl (Nat.le_of_ble_eq_true rfl) ⟨Nat.zero_le _, Nat.zero_le _⟩ dX11_total_51) hS (fun H locs hP hS hW => ?_)
      refine lv_aload_n hx hb dX11_total_54 rfl (lv_at hl 0 rfl) ?_
      refine gf_X11_19 C hP h_v0 k_v0 dX11_total_55 ?_
      obtain ⟨t11, et11, hf⟩ := bd1_e hf
      obtain ⟨h_t11, k_t11⟩ := wt_r hW h_v0 k_v0 (by decide) et11
      have k_t11 : G.2.1 t11 = 0 := k_t11
      rw [et11]
      refine gf_X11_196 C hP h_t11 k_t11 dX11_total_58 ?_
      obtain ⟨x12, ex12, hf⟩ := bnd_e hf
      refine nm_i ex12 ?_
      refine lv_istore_n (lv' := [(2, .int x12), (0, .ref v0), (1, .ref v1), (3, .int v3)]) hx hb dX11_total_61 rfl hl (by decide) rfl (fun ls hl => ?_)
      obtain ⟨x13, ex13, hf⟩ := bnd_e hf
      refine lv_iinc (v := x13) (lv' := [(3, .int x13), (2, .int x12), (0, .ref v0), (1, .ref v1)]) hx hb dX11_total_62 hl (k := 3) rfl ex13.symm (by decide) rfl (fun ls hl => ?_)
      refine lv_goto (tgt := 15) hx hb dX11_total_65 (by decide) ?_
      exact ih v0 v1 x12 x13 h_v0 k_v0 h_v1 k_v1 S10 H locs _ hf hP hS hW (lv_sub hl [2, 3, 1, 0] rfl)
set_option maxRecDepth 100000 in
set_option maxHeartbeats 4000000 in
theorem c_X11_total {l : Launch} {V : EV} {G : GS} {S : HS} {F : Nat} {a : Nat} {r : Int32} {S' : HS} (hN : G.1.Nodup) (hW : WT G S) (h_a : a ∈ G.1) (k_a : G.2.1 a = 11) (hf : s_X11_total G.2.2 F a S = some (r, S')) : MetI l yX11_total cX11_total 4 .int 5 172 V G S [.ref a] r S' := by
  intro sz
  refine x_in RX11 rfl (by decide +kernel) hN (Nat.le_of_ble_eq_true rfl) (fun p e s m args below meth c ls hsz hargs hnm C hP hS hl => ?_)
  subst hsz
  have hx := C.1
  have hb := C.2.1
  have hl : lv_has ls 4 [(0, .ref a)] := hl
  unfold s_X11_total at hf
  refine lv_aload_n hx hb dX11_total_0 rfl (lv_at hl 0 rfl) ?_
  obtain ⟨r1, er1, hf⟩ := bd1_e hf
  refine x_aft_r (x_runV (As := []) (rest := []) C hP hS (c_X11_formInUse (l := l) C.2.2.2.2.2.2.2.2.2.1 hW h_a k_a er1 s.heap.size) h_a k_a (by decide) rfl rfl km_X11_formInUse ki_X11_formInUse qm_X11_162 ⟨(Nat.le_of_ble_eq_true rfl), (Nat.le_of_ble_eq_true rfl)⟩ rfl hl.1 rfl (Nat.le_of_ble_eq_true rfl) ⟨Nat.zero_le _, Nat.zero_le _⟩ dX11_total_1) hS (fun H locs hP hS hW q2 => ?_)
  cases r1 with
  | none =>
    have hf := mq_n rfl hf
    show W _ _ _ _ _ _ _ _ _ _ _ _ _ _ _ (F0 m 4 ls (.null :: []))
    refine lv_astore_nN (lv' := [(1, .null), (0, .ref a)]) hx hb dX11_total_4 rfl hl (by decide) rfl (fun ls hl => ?_)
    refine lv_aload_nN hx hb dX11_total_5 rfl (lv_at hl 0 rfl) ?_
    refine lv_ifnonnullN hx hb dX11_total_6 ?_
    refine lv_iconst (v := (-1)) hx hb dX11_total_9 rfl ?_
    cases hf
    exact x_reti C hP hS hW dX11_total_10
  | some t3 =>
    have hf := mq_s rfl hf
    obtain ⟨h_t3, k_t3⟩ := q2 _ rfl
    show W _ _ _ _ _ _ _ _ _ _ _ _ _ _ _ (F0 m 4 ls (.ref t3 :: []))
    refine lv_astore_n (lv' := [(1, .ref t3), (0, .ref a)]) hx hb dX11_total_4 rfl hl (by decide) rfl (fun ls hl => ?_)
    refine lv_aload_n hx hb dX11_total_5 rfl (lv_at hl 0 rfl) ?_
    refine lv_ifnonnull (tgt := 11) hx hb dX11_total_6 (by decide) ?_
    refine lv_iconst (v := 0) hx hb dX11_total_11 rfl ?_
    refine lv_istore_n (lv' := [(2, .int 0), (1, .ref t3), (0, .ref a)]) hx hb dX11_total_12 rfl hl (by decide) rfl (fun ls hl => ?_)
    refine lv_iconst (v := 0) hx hb dX11_total_13 rfl ?_
    refine lv_istore_n (lv' := [(3, .int 0), (2, .int 0), (1, .ref t3), (0, .ref a)]) hx hb dX11_total_14 rfl hl (by decide) rfl (fun ls hl => ?_)
    exact b_X11_total_15 C F a t3 0 0 h_a k_a h_t3 k_t3 S H locs _ hf hP hS hW (lv_sub hl [3, 2, 1, 0] rfl)
def s_X11_twice (N : Nat → Nat) (F : Nat) (a : Nat) (p0 : Int32) (p1 : Int32) (p2 : Int32) (S : HS) : Option (Int32 × HS) :=
  bd1 (s_X11_formInUse N a S) fun r1 =>
  mq r1
  (some (0, S))
  fun t3 =>
  bd1 (gR S 1104 a) fun t4 =>
  bd2 (s_X11_add N F a p0 p1 p2 (gI S 702 t4) S) fun r5 S6 =>
  if r5 = (0 : Int32) then
  some (0, S6)
  else
  bd1 (gR S6 1101 a) fun t9 =>
  bnd (gI S6 1 t9 : Int32) fun x10 =>
  bd1 (gR S6 1101 a) fun t11 =>
  bd1 (gR S6 1104 a) fun t12 =>
  bd1 (s_X0_add F t11 t3 (gI S6 702 t12) p0 p1 0 S6) fun S13 =>
  bd1 (gR S13 1101 a) fun t14 =>
  bd1 (gR S13 1104 a) fun t15 =>
  bd1 (gR S13 1101 a) fun t16 =>
  bd1 (s_X0_add F t14 t3 (gI S13 702 t15) (s_X2_one t3 S13) (gI S13 1 t16) p2 S13) fun S17 =>
  bd1 (gR S17 1101 a) fun t18 =>
  if (gI S17 1 t18) = x10 then
  some (0, S17)
  else
  some (1, S17)
set_option maxRecDepth 100000 in
set_option maxHeartbeats 4000000 in
theorem c_X11_twice {l : Launch} {V : EV} {G : GS} {S : HS} {F : Nat} {a : Nat} {p0 : Int32} {p1 : Int32} {p2 : Int32} {r : Int32} {S' : HS} (hN : G.1.Nodup) (hW : WT G S) (h_a : a ∈ G.1) (k_a : G.2.1 a = 11) (hf : s_X11_twice G.2.2 F a p0 p1 p2 S = some (r, S')) : MetZ l yX11_twice cX11_twice 6 6 205 V G S [.ref a, .int p0, .int p1, .int p2] r S' := by
  intro sz
  refine x_in RX11 rfl (by decide +kernel) hN (Nat.le_of_ble_eq_true rfl) (fun p e s m args below meth c ls hsz hargs hnm C hP hS hl => ?_)
  subst hsz
  have hx := C.1
  have hb := C.2.1
  have hl : lv_has ls 6 [(0, .ref a), (1, .int p0), (2, .int p1), (3, .int p2)] := hl
  unfold s_X11_twice at hf
  refine lv_aload_n hx hb dX11_twice_0 rfl (lv_at hl 0 rfl) ?_
  obtain ⟨r1, er1, hf⟩ := bd1_e hf
  refine x_aft_r (x_runV (As := []) (rest := []) C hP hS (c_X11_formInUse (l := l) C.2.2.2.2.2.2.2.2.2.1 hW h_a k_a er1 s.heap.size) h_a k_a (by decide) rfl rfl km_X11_formInUse ki_X11_formInUse qm_X11_162 ⟨(Nat.le_of_ble_eq_true rfl), (Nat.le_of_ble_eq_true rfl)⟩ rfl hl.1 rfl (Nat.le_of_ble_eq_true rfl) ⟨Nat.zero_le _, Nat.zero_le _⟩ dX11_twice_1) hS (fun H locs hP hS hW q2 => ?_)
  cases r1 with
  | none =>
    have hf := mq_n rfl hf
    show W _ _ _ _ _ _ _ _ _ _ _ _ _ _ _ (F0 m 4 ls (.null :: []))
    refine lv_astoreN (lv' := [(4, .null), (0, .ref a), (1, .int p0), (2, .int p1), (3, .int p2)]) hx hb dX11_twice_4 hl (by decide) rfl (fun ls hl => ?_)
    refine lv_aloadN hx hb dX11_twice_6 (lv_at hl 0 rfl) ?_
    refine lv_ifnullN (tgt := 28) hx hb dX11_twice_8 (by decide) ?_
    refine lv_iconst (v := 0) hx hb dX11_twice_28 rfl ?_
    cases hf
    exact x_retZ C hP hS hW isZ_0 dX11_twice_29
  | some t3 =>
    have hf := mq_s rfl hf
    obtain ⟨h_t3, k_t3⟩ := q2 _ rfl
    show W _ _ _ _ _ _ _ _ _ _ _ _ _ _ _ (F0 m 4 ls (.ref t3 :: []))
    refine lv_astore (lv' := [(4, .ref t3), (0, .ref a), (1, .int p0), (2, .int p1), (3, .int p2)]) hx hb dX11_twice_4 hl (by decide) rfl (fun ls hl => ?_)
    refine lv_aload hx hb dX11_twice_6 (lv_at hl 0 rfl) ?_
    refine lv_ifnull hx hb dX11_twice_8 ?_
    refine lv_aload_n hx hb dX11_twice_11 rfl (lv_at hl 1 rfl) ?_
    refine lv_iload_n hx hb dX11_twice_12 rfl (lv_at hl 2 rfl) ?_
    refine lv_iload_n hx hb dX11_twice_13 rfl (lv_at hl 3 rfl) ?_
    refine lv_iload_n hx hb dX11_twice_14 rfl (lv_at hl 4 rfl) ?_
    refine lv_aload_n hx hb dX11_twice_15 rfl (lv_at hl 1 rfl) ?_
    refine gf_X11_40 C hP h_a k_a dX11_twice_16 ?_
    obtain ⟨t4, et4, hf⟩ := bd1_e hf
    obtain ⟨h_t4, k_t4⟩ := wt_r hW h_a k_a (by decide) et4
    have k_t4 : G.2.1 t4 = 7 := k_t4
    rw [et4]
    refine gf_X11_193 C hP h_t4 k_t4 dX11_twice_19 ?_
    obtain ⟨r5, S6, eS6, hf⟩ := bd2_e hf
    refine x_aft_z (x_runV (As := [.int p0, .int p1, .int p2, .int (gI S 702 t4)]) (rest := []) C hP hS (c_X11_add (l := l) C.2.2.2.2.2.2.2.2.2.1 hW h_a k_a eS6 H.size) h_a k_a (by decide) rfl rfl km_X11_add ki_X11_add qm_X11_301 ⟨(Nat.le_of_ble_eq_true rfl), (Nat.le_of_ble_eq_true rfl)⟩ rfl hl.1 rfl (Nat.le_of_ble_eq_true rfl) ⟨Nat.zero_le _, Nat.zero_le _⟩ dX11_twice_22) hS (fun H locs hP hS hW z7 => ?_)
    refine lv_if_ne (tgt := 30) hx hb dX11_twice_25 (by decide) (fun c8 => ?_) (fun c8 => ?_)
    · have hf := if_f c8 hf
      refine lv_aload_n hx hb dX11_twice_30 rfl (lv_at hl 1 rfl) ?_
      refine gf_X11_19 C hP h_a k_a dX11_twice_31 ?_
      obtain ⟨t9, et9, hf⟩ := bd1_e hf
      obtain ⟨h_t9, k_t9⟩ := wt_r hW h_a k_a (by decide) et9
      have k_t9 : G.2.1 t9 = 0 := k_t9
      rw [et9]
      refine gf_X11_196 C hP h_t9 k_t9 dX11_twice_34 ?_
      obtain ⟨x10, ex10, hf⟩ := bnd_e hf
      refine nm_i ex10 ?_
      refine lv_istore (lv' := [(5, .int x10), (4, .ref t3), (0, .ref a), (1, .int p0), (2, .int p1), (3, .int p2)]) hx hb dX11_twice_37 hl (by decide) rfl (fun ls hl => ?_)
      refine lv_aload_n hx hb dX11_twice_39 rfl (lv_at hl 2 rfl) ?_
      refine gf_X11_19 C hP h_a k_a dX11_twice_40 ?_
      obtain ⟨t11, et11, hf⟩ := bd1_e hf
      obtain ⟨h_t11, k_t11⟩ := wt_r hW h_a k_a (by decide) et11
      have k_t11 : G.2.1 t11 = 0 := k_t11
      rw [et11]
      refine lv_aload hx hb dX11_twice_43 (lv_at hl 1 rfl) ?_
      refine lv_aload_n hx hb dX11_twice_45 rfl (lv_at hl 2 rfl) ?_
      refine gf_X11_40 C hP h_a k_a dX11_twice_46 ?_
      obtain ⟨t12, et12, hf⟩ := bd1_e hf
      obtain ⟨h_t12, k_t12⟩ := wt_r hW h_a k_a (by decide) et12
      have k_t12 : G.2.1 t12 = 7 := k_t12
      rw [et12]
      refine gf_X11_193 C hP h_t12 k_t12 dX11_twice_49 ?_
      refine lv_iload_n hx hb dX11_twice_52 rfl (lv_at hl 3 rfl) ?_
      refine lv_iload_n hx hb dX11_twice_53 rfl (lv_at hl 4 rfl) ?_
      refine lv_iconst (v := 0) hx hb dX11_twice_54 rfl ?_
      obtain ⟨S13, eS13, hf⟩ := bd1_e hf
      refine x_aft_v (x_runV (As := [.ref t3, .int (gI S6 702 t12), .int p0, .int p1, .int 0]) (rest := []) C hP hS (c_X0_add (l := l) C.2.2.2.2.2.2.2.2.2.1 hW h_t11 k_t11 h_t3 k_t3 eS13 H.size) h_t11 k_t11 (by decide) rfl rfl km_X0_add ki_X0_add qm_X11_305 ⟨(Nat.le_of_ble_eq_true rfl), (Nat.le_of_ble_eq_true rfl)⟩ rfl hl.1 rfl (Nat.le_of_ble_eq_true rfl) ⟨Nat.zero_le _, Nat.zero_le _⟩ dX11_twice_55) hS (fun H locs hP hS hW => ?_)
      refine lv_aload_n hx hb dX11_twice_58 rfl (lv_at hl 2 rfl) ?_
      refine gf_X11_19 C hP h_a k_a dX11_twice_59 ?_
      obtain ⟨t14, et14, hf⟩ := bd1_e hf
      obtain ⟨h_t14, k_t14⟩ := wt_r hW h_a k_a (by decide) et14
      have k_t14 : G.2.1 t14 = 0 := k_t14
      rw [et14]
      refine lv_aload hx hb dX11_twice_62 (lv_at hl 1 rfl) ?_
      refine lv_aload_n hx hb dX11_twice_64 rfl (lv_at hl 2 rfl) ?_
      refine gf_X11_40 C hP h_a k_a dX11_twice_65 ?_
      obtain ⟨t15, et15, hf⟩ := bd1_e hf
      obtain ⟨h_t15, k_t15⟩ := wt_r hW h_a k_a (by decide) et15
      have k_t15 : G.2.1 t15 = 7 := k_t15
      rw [et15]
      refine gf_X11_193 C hP h_t15 k_t15 dX11_twice_68 ?_
      refine lv_aload hx hb dX11_twice_71 (lv_at hl 1 rfl) ?_
      refine x_aft_i (x_runV (As := []) (rest := [.int (gI S13 702 t15), .ref t3, .ref t14]) C hP hS (c_X2_one (l := l) C.2.2.2.2.2.2.2.2.2.1 hW h_t3 k_t3 rfl H.size) h_t3 k_t3 (by decide) rfl rfl km_X2_one ki_X2_one qm_X11_308 ⟨(Nat.le_of_ble_eq_true rfl), (Nat.le_of_ble_eq_true rfl)⟩ rfl hl.1 rfl (Nat.le_of_ble_eq_true rfl) ⟨Nat.zero_le _, Nat.zero_le _⟩ dX11_twice_73) hS (fun H locs hP hS hW => ?_)
      refine lv_aload_n hx hb dX11_twice_76 rfl (lv_at hl 2 rfl) ?_
      refine gf_X11_19 C hP h_a k_a dX11_twice_77 ?_
      obtain ⟨t16, et16, hf⟩ := bd1_e hf
      obtain ⟨h_t16, k_t16⟩ := wt_r hW h_a k_a (by decide) et16
      have k_t16 : G.2.1 t16 = 0 := k_t16
      rw [et16]
      refine gf_X11_196 C hP h_t16 k_t16 dX11_twice_80 ?_
      refine lv_iload_n hx hb dX11_twice_83 rfl (lv_at hl 5 rfl) ?_
      obtain ⟨S17, eS17, hf⟩ := bd1_e hf
      refine x_aft_v (x_runV (As := [.ref t3, .int (gI S13 702 t15), .int (s_X2_one t3 S13), .int (gI S13 1 t16), .int p2]) (rest := []) C hP hS (c_X0_add (l := l) C.2.2.2.2.2.2.2.2.2.1 hW h_t14 k_t14 h_t3 k_t3 eS17 H.size) h_t14 k_t14 (by decide) rfl rfl km_X0_add ki_X0_add qm_X11_305 ⟨(Nat.le_of_ble_eq_true rfl), (Nat.le_of_ble_eq_true rfl)⟩ rfl hl.1 rfl (Nat.le_of_ble_eq_true rfl) ⟨Nat.zero_le _, Nat.zero_le _⟩ dX11_twice_84) hS (fun H locs hP hS hW => ?_)
      refine lv_aload_n hx hb dX11_twice_87 rfl (lv_at hl 2 rfl) ?_
      refine gf_X11_19 C hP h_a k_a dX11_twice_88 ?_
      obtain ⟨t18, et18, hf⟩ := bd1_e hf
      obtain ⟨h_t18, k_t18⟩ := wt_r hW h_a k_a (by decide) et18
      have k_t18 : G.2.1 t18 = 0 := k_t18
      rw [et18]
      refine gf_X11_196 C hP h_t18 k_t18 dX11_twice_91 ?_
      refine lv_iload hx hb dX11_twice_94 (lv_at hl 0 rfl) ?_
      refine lv_icmp_eq (tgt := 103) hx hb dX11_twice_96 (by decide) (fun c19 => ?_) (fun c19 => ?_)
      · have hf := if_t c19 hf
        refine lv_iconst (v := 0) hx hb dX11_twice_103 rfl ?_
        cases hf
        exact x_retZ C hP hS hW isZ_0 dX11_twice_104
      · have hf := if_f c19 hf
        refine lv_iconst (v := 1) hx hb dX11_twice_99 rfl ?_
        refine lv_goto (tgt := 104) hx hb dX11_twice_100 (by decide) ?_
        cases hf
        exact x_retZ C hP hS hW isZ_1 dX11_twice_104
    · have hf := if_t c8 hf
      refine lv_iconst (v := 0) hx hb dX11_twice_28 rfl ?_
      cases hf
      exact x_retZ C hP hS hW isZ_0 dX11_twice_29
def s_X11_undo_J33 (N : Nat → Nat) (F : Nat) (v0 : Nat) (S : HS) : Option (Int32 × HS) :=
  bnd (uI S 1115 v0 0) fun S9 =>
  some (1, S9)
def s_X11_undo (N : Nat → Nat) (F : Nat) (a : Nat) (S : HS) : Option (Int32 × HS) :=
  bd1 (gR S 1103 a) fun t1 =>
  if (gI S 403 t1) = (0 : Int32) then
  some (0, S)
  else
  bd1 (gR S 1103 a) fun t3 =>
  bd1 (gR S 1104 a) fun t4 =>
  bd2 (s_X4_takeBack N F t3 t4 S) fun r5 S6 =>
  if r5 = (0 : Int32) then
  s_X11_undo_J33 N F a S6
  else
  bd1 (gR S6 1102 a) fun t10 =>
  bd1 (s_X1_forgetLast N t10 S6) fun S11 =>
  s_X11_undo_J33 N F a S11
set_option maxRecDepth 100000 in
set_option maxHeartbeats 4000000 in
theorem b_X11_undo_33 {p : Program} {l : Launch} {e : Env} {s : State} {m : MethodId} {args : Array Value} {below : List Frame} {meth : Method} {c : Code} {V : EV} {G : GS} {r : Int32} {S' : HS} {F : Nat} (C : CX p s m args meth c RX11 cX11_undo 1 (some .boolean) V G) : ∀ (v0 : Nat) (h_v0 : v0 ∈ G.1) (k_v0 : G.2.1 v0 = 11) (S : HS) (H : Heap) (locs : List Loc) (ls : Array Slot), s_X11_undo_J33 G.2.2 F v0 S = some (r, S') → HP V G S H → va_S (AG G s.heap.size) s.heap H locs → WT G S → lv_has ls 1 [(0, .ref v0)] → W p l e (RM 2 59) s m args below meth c H locs 0 0 (MQ below (QZ V G S' r s.heap.size) args s 0 0 (AG G s.heap.size)) (F0 m 33 ls []) := by
  intro v0 h_v0 k_v0 S H locs ls hf hP hS hW hl
  have hx := C.1
  have hb := C.2.1
  unfold s_X11_undo_J33 at hf
  refine lv_aload_n hx hb dX11_undo_33 rfl (lv_at hl 0 rfl) ?_
  refine lv_iconst (v := 0) hx hb dX11_undo_34 rfl ?_
  obtain ⟨S9, eS9, hf⟩ := bnd_e hf
  refine pf_X11_129 C hP hS h_v0 k_v0 eS9 dX11_undo_35 (fun H locs hP hS => ?_)
  have hW : WT G S9 := by rw [eS9]; exact hW
  refine lv_iconst (v := 1) hx hb dX11_undo_38 rfl ?_
  cases hf
  exact x_retZ C hP hS hW isZ_1 dX11_undo_39
set_option maxRecDepth 100000 in
set_option maxHeartbeats 4000000 in
theorem c_X11_undo {l : Launch} {V : EV} {G : GS} {S : HS} {F : Nat} {a : Nat} {r : Int32} {S' : HS} (hN : G.1.Nodup) (hW : WT G S) (h_a : a ∈ G.1) (k_a : G.2.1 a = 11) (hf : s_X11_undo G.2.2 F a S = some (r, S')) : MetZ l yX11_undo cX11_undo 1 2 59 V G S [.ref a] r S' := by
  intro sz
  refine x_in RX11 rfl (by decide +kernel) hN (Nat.le_of_ble_eq_true rfl) (fun p e s m args below meth c ls hsz hargs hnm C hP hS hl => ?_)
  subst hsz
  have hx := C.1
  have hb := C.2.1
  have hl : lv_has ls 1 [(0, .ref a)] := hl
  unfold s_X11_undo at hf
  refine lv_aload_n hx hb dX11_undo_0 rfl (lv_at hl 0 rfl) ?_
  refine gf_X11_33 C hP h_a k_a dX11_undo_1 ?_
  obtain ⟨t1, et1, hf⟩ := bd1_e hf
  obtain ⟨h_t1, k_t1⟩ := wt_r hW h_a k_a (by decide) et1
  have k_t1 : G.2.1 t1 = 4 := k_t1
  rw [et1]
  refine gf_X11_126 C hP h_t1 k_t1 dX11_undo_4 ?_
  refine lv_if_ne (tgt := 12) hx hb dX11_undo_7 (by decide) (fun c2 => ?_) (fun c2 => ?_)
  · have hf := if_f c2 hf
    refine lv_aload_n hx hb dX11_undo_12 rfl (lv_at hl 0 rfl) ?_
    refine gf_X11_33 C hP h_a k_a dX11_undo_13 ?_
    obtain ⟨t3, et3, hf⟩ := bd1_e hf
    obtain ⟨h_t3, k_t3⟩ := wt_r hW h_a k_a (by decide) et3
    have k_t3 : G.2.1 t3 = 4 := k_t3
    rw [et3]
    refine lv_aload_n hx hb dX11_undo_16 rfl (lv_at hl 0 rfl) ?_
    refine gf_X11_40 C hP h_a k_a dX11_undo_17 ?_
    obtain ⟨t4, et4, hf⟩ := bd1_e hf
    obtain ⟨h_t4, k_t4⟩ := wt_r hW h_a k_a (by decide) et4
    have k_t4 : G.2.1 t4 = 7 := k_t4
    rw [et4]
    obtain ⟨r5, S6, eS6, hf⟩ := bd2_e hf
    refine x_aft_z (x_runV (As := [.ref t4]) (rest := []) C hP hS (c_X4_takeBack (l := l) C.2.2.2.2.2.2.2.2.2.1 hW h_t3 k_t3 h_t4 k_t4 eS6 s.heap.size) h_t3 k_t3 (by decide) rfl rfl km_X4_takeBack ki_X4_takeBack qm_X11_217 ⟨(Nat.le_of_ble_eq_true rfl), (Nat.le_of_ble_eq_true rfl)⟩ rfl hl.1 rfl (Nat.le_of_ble_eq_true rfl) ⟨Nat.zero_le _, Nat.zero_le _⟩ dX11_undo_20) hS (fun H locs hP hS hW z7 => ?_)
    refine lv_if_eq (tgt := 33) hx hb dX11_undo_23 (by decide) (fun c8 => ?_) (fun c8 => ?_)
    · have hf := if_t c8 hf
      exact b_X11_undo_33 C a h_a k_a S6 H locs _ hf hP hS hW (lv_sub hl [0] rfl)
    · have hf := if_f c8 hf
      refine lv_aload_n hx hb dX11_undo_26 rfl (lv_at hl 0 rfl) ?_
      refine gf_X11_26 C hP h_a k_a dX11_undo_27 ?_
      obtain ⟨t10, et10, hf⟩ := bd1_e hf
      obtain ⟨h_t10, k_t10⟩ := wt_r hW h_a k_a (by decide) et10
      have k_t10 : G.2.1 t10 = 1 := k_t10
      rw [et10]
      obtain ⟨S11, eS11, hf⟩ := bd1_e hf
      refine x_aft_v (x_runV (As := []) (rest := []) C hP hS (c_X1_forgetLast (l := l) C.2.2.2.2.2.2.2.2.2.1 hW h_t10 k_t10 eS11 H.size) h_t10 k_t10 (by decide) rfl rfl km_X1_forgetLast ki_X1_forgetLast qm_X11_221 ⟨(Nat.le_of_ble_eq_true rfl), (Nat.le_of_ble_eq_true rfl)⟩ rfl hl.1 rfl (Nat.le_of_ble_eq_true rfl) ⟨Nat.zero_le _, Nat.zero_le _⟩ dX11_undo_30) hS (fun H locs hP hS hW => ?_)
      exact b_X11_undo_33 C a h_a k_a S11 H locs _ hf hP hS hW (lv_sub hl [0] rfl)
  · have hf := if_t c2 hf
    refine lv_iconst (v := 0) hx hb dX11_undo_10 rfl ?_
    cases hf
    exact x_retZ C hP hS hW isZ_0 dX11_undo_11
def s_X11_use (N : Nat → Nat) (F : Nat) (a : Nat) (p0 : Int32) (S : HS) : Option (Int32 × HS) :=
  bd1 (gR S 1111 a) fun t1 =>
  bd1 (s_X9_formAt N t1 p0 S) fun r2 =>
  mq r2
  (some ((-1), S))
  fun t4 =>
  bd1 (gR S 1103 a) fun t5 =>
  bd1 (gR S 1104 a) fun t6 =>
  bd1 (s_X4_keep N F t5 t6 0 S) fun S7 =>
  bnd (uI S7 1115 a 0) fun S8 =>
  bd1 (gR S8 1104 a) fun t9 =>
  bd2 (s_X11_turn N F a t9 p0 S8) fun r10 S11 =>
  some (r10, S11)
set_option maxRecDepth 100000 in
set_option maxHeartbeats 4000000 in
theorem c_X11_use {l : Launch} {V : EV} {G : GS} {S : HS} {F : Nat} {a : Nat} {p0 : Int32} {r : Int32} {S' : HS} (hN : G.1.Nodup) (hW : WT G S) (h_a : a ∈ G.1) (k_a : G.2.1 a = 11) (hf : s_X11_use G.2.2 F a p0 S = some (r, S')) : MetI l yX11_use cX11_use 2 .int 5 155 V G S [.ref a, .int p0] r S' := by
  intro sz
  refine x_in RX11 rfl (by decide +kernel) hN (Nat.le_of_ble_eq_true rfl) (fun p e s m args below meth c ls hsz hargs hnm C hP hS hl => ?_)
  subst hsz
  have hx := C.1
  have hb := C.2.1
  have hl : lv_has ls 2 [(0, .ref a), (1, .int p0)] := hl
  unfold s_X11_use at hf
  refine lv_aload_n hx hb dX11_use_0 rfl (lv_at hl 0 rfl) ?_
  refine gf_X11_68 C hP h_a k_a dX11_use_1 ?_
  obtain ⟨t1, et1, hf⟩ := bd1_e hf
  obtain ⟨h_t1, k_t1⟩ := wt_r hW h_a k_a (by decide) et1
  have k_t1 : G.2.1 t1 = 9 := k_t1
  rw [et1]
  refine lv_iload_n hx hb dX11_use_4 rfl (lv_at hl 1 rfl) ?_
  obtain ⟨r2, er2, hf⟩ := bd1_e hf
  refine x_aft_r (x_runV (As := [.int p0]) (rest := []) C hP hS (c_X9_formAt (l := l) C.2.2.2.2.2.2.2.2.2.1 hW h_t1 k_t1 er2 s.heap.size) h_t1 k_t1 (by decide) rfl rfl km_X9_formAt ki_X9_formAt qm_X11_138 ⟨(Nat.le_of_ble_eq_true rfl), (Nat.le_of_ble_eq_true rfl)⟩ rfl hl.1 rfl (Nat.le_of_ble_eq_true rfl) ⟨Nat.zero_le _, Nat.zero_le _⟩ dX11_use_5) hS (fun H locs hP hS hW q3 => ?_)
  cases r2 with
  | none =>
    have hf := mq_n rfl hf
    show W _ _ _ _ _ _ _ _ _ _ _ _ _ _ _ (F0 m 8 ls (.null :: []))
    refine lv_ifnonnullN hx hb dX11_use_8 ?_
    refine lv_iconst (v := (-1)) hx hb dX11_use_11 rfl ?_
    cases hf
    exact x_reti C hP hS hW dX11_use_12
  | some t4 =>
    have hf := mq_s rfl hf
    obtain ⟨h_t4, k_t4⟩ := q3 _ rfl
    show W _ _ _ _ _ _ _ _ _ _ _ _ _ _ _ (F0 m 8 ls (.ref t4 :: []))
    refine lv_ifnonnull (tgt := 13) hx hb dX11_use_8 (by decide) ?_
    refine lv_aload_n hx hb dX11_use_13 rfl (lv_at hl 0 rfl) ?_
    refine gf_X11_33 C hP h_a k_a dX11_use_14 ?_
    obtain ⟨t5, et5, hf⟩ := bd1_e hf
    obtain ⟨h_t5, k_t5⟩ := wt_r hW h_a k_a (by decide) et5
    have k_t5 : G.2.1 t5 = 4 := k_t5
    rw [et5]
    refine lv_aload_n hx hb dX11_use_17 rfl (lv_at hl 0 rfl) ?_
    refine gf_X11_40 C hP h_a k_a dX11_use_18 ?_
    obtain ⟨t6, et6, hf⟩ := bd1_e hf
    obtain ⟨h_t6, k_t6⟩ := wt_r hW h_a k_a (by decide) et6
    have k_t6 : G.2.1 t6 = 7 := k_t6
    rw [et6]
    refine lv_iconst (v := 0) hx hb dX11_use_21 rfl ?_
    obtain ⟨S7, eS7, hf⟩ := bd1_e hf
    refine x_aft_v (x_runV (As := [.ref t6, .int 0]) (rest := []) C hP hS (c_X4_keep (l := l) C.2.2.2.2.2.2.2.2.2.1 hW h_t5 k_t5 h_t6 k_t6 eS7 H.size) h_t5 k_t5 (by decide) rfl rfl km_X4_keep ki_X4_keep qm_X11_177 ⟨(Nat.le_of_ble_eq_true rfl), (Nat.le_of_ble_eq_true rfl)⟩ rfl hl.1 rfl (Nat.le_of_ble_eq_true rfl) ⟨Nat.zero_le _, Nat.zero_le _⟩ dX11_use_22) hS (fun H locs hP hS hW => ?_)
    refine lv_aload_n hx hb dX11_use_25 rfl (lv_at hl 0 rfl) ?_
    refine lv_iconst (v := 0) hx hb dX11_use_26 rfl ?_
    obtain ⟨S8, eS8, hf⟩ := bnd_e hf
    refine pf_X11_129 C hP hS h_a k_a eS8 dX11_use_27 (fun H locs hP hS => ?_)
    have hW : WT G S8 := by rw [eS8]; exact hW
    refine lv_aload_n hx hb dX11_use_30 rfl (lv_at hl 0 rfl) ?_
    refine lv_aload_n hx hb dX11_use_31 rfl (lv_at hl 0 rfl) ?_
    refine gf_X11_40 C hP h_a k_a dX11_use_32 ?_
    obtain ⟨t9, et9, hf⟩ := bd1_e hf
    obtain ⟨h_t9, k_t9⟩ := wt_r hW h_a k_a (by decide) et9
    have k_t9 : G.2.1 t9 = 7 := k_t9
    rw [et9]
    refine lv_iload_n hx hb dX11_use_35 rfl (lv_at hl 1 rfl) ?_
    obtain ⟨r10, S11, eS11, hf⟩ := bd2_e hf
    refine x_aft_i (x_runV (As := [.ref t9, .int p0]) (rest := []) C hP hS (c_X11_turn (l := l) C.2.2.2.2.2.2.2.2.2.1 hW h_a k_a h_t9 k_t9 eS11 H.size) h_a k_a (by decide) rfl rfl km_X11_turn ki_X11_turn qm_X11_213 ⟨(Nat.le_of_ble_eq_true rfl), (Nat.le_of_ble_eq_true rfl)⟩ rfl hl.1 rfl (Nat.le_of_ble_eq_true rfl) ⟨Nat.zero_le _, Nat.zero_le _⟩ dX11_use_36) hS (fun H locs hP hS hW => ?_)
    cases hf
    exact x_reti C hP hS hW dX11_use_39
def s_X12_used (N : Nat → Nat) (a : Nat) (S : HS) : Option Int32 :=
  bd1 (gR S 1217 a) fun t1 =>
  if inB (0 : Int32) (N t1) = true then
  some (aI S t1 (0 : Int32).toNatClampNeg)
  else none
set_option maxRecDepth 100000 in
set_option maxHeartbeats 4000000 in
theorem c_X12_used {l : Launch} {V : EV} {G : GS} {S : HS} {a : Nat} {r : Int32} (hN : G.1.Nodup) (hW : WT G S) (h_a : a ∈ G.1) (k_a : G.2.1 a = 12) (hf : s_X12_used G.2.2 a S = some r) : MetI l yX12_used cX12_used 1 .int 0 0 V G S [.ref a] r S := by
  intro sz
  refine x_in RX12 rfl (by decide +kernel) hN (Nat.le_of_ble_eq_true rfl) (fun p e s m args below meth c ls hsz hargs hnm C hP hS hl => ?_)
  subst hsz
  have hx := C.1
  have hb := C.2.1
  have hl : lv_has ls 1 [(0, .ref a)] := hl
  unfold s_X12_used at hf
  refine lv_aload_n hx hb dX12_used_0 rfl (lv_at hl 0 rfl) ?_
  refine gf_X12_95 C hP h_a k_a dX12_used_1 ?_
  obtain ⟨t1, et1, hf⟩ := bd1_e hf
  obtain ⟨h_t1, k_t1⟩ := wt_r hW h_a k_a (by decide) et1
  have k_t1 : G.2.1 t1 = 14 := k_t1
  rw [et1]
  refine lv_iconst (v := 0) hx hb dX12_used_4 rfl ?_
  obtain ⟨h2, hf⟩ := if_s hf
  refine x_iald C hP h_t1 k_t1 h2 dX12_used_5 ?_
  cases hf
  exact x_reti C hP hS hW dX12_used_6
def s_X12_expOf (N : Nat → Nat) (a : Nat) (p0 : Int32) (S : HS) : Option Int32 :=
  bd1 (gR S 1210 a) fun t1 =>
  if inB ((3 + (3 * p0)) + 1) (N t1) = true then
  some (aI S t1 ((3 + (3 * p0)) + 1).toNatClampNeg)
  else none
set_option maxRecDepth 100000 in
set_option maxHeartbeats 4000000 in
theorem c_X12_expOf {l : Launch} {V : EV} {G : GS} {S : HS} {a : Nat} {p0 : Int32} {r : Int32} (hN : G.1.Nodup) (hW : WT G S) (h_a : a ∈ G.1) (k_a : G.2.1 a = 12) (hf : s_X12_expOf G.2.2 a p0 S = some r) : MetI l yX12_expOf cX12_expOf 2 .int 0 0 V G S [.ref a, .int p0] r S := by
  intro sz
  refine x_in RX12 rfl (by decide +kernel) hN (Nat.le_of_ble_eq_true rfl) (fun p e s m args below meth c ls hsz hargs hnm C hP hS hl => ?_)
  subst hsz
  have hx := C.1
  have hb := C.2.1
  have hl : lv_has ls 2 [(0, .ref a), (1, .int p0)] := hl
  unfold s_X12_expOf at hf
  refine lv_aload_n hx hb dX12_expOf_0 rfl (lv_at hl 0 rfl) ?_
  refine gf_X12_77 C hP h_a k_a dX12_expOf_1 ?_
  obtain ⟨t1, et1, hf⟩ := bd1_e hf
  obtain ⟨h_t1, k_t1⟩ := wt_r hW h_a k_a (by decide) et1
  have k_t1 : G.2.1 t1 = 14 := k_t1
  rw [et1]
  refine lv_iconst (v := 3) hx hb dX12_expOf_4 rfl ?_
  refine lv_iconst (v := 3) hx hb dX12_expOf_5 rfl ?_
  refine lv_iload_n hx hb dX12_expOf_6 rfl (lv_at hl 1 rfl) ?_
  refine lv_imul hx hb dX12_expOf_7 ?_
  refine lv_iadd hx hb dX12_expOf_8 ?_
  refine lv_iconst (v := 1) hx hb dX12_expOf_9 rfl ?_
  refine lv_iadd hx hb dX12_expOf_10 ?_
  obtain ⟨h2, hf⟩ := if_s hf
  refine x_iald C hP h_t1 k_t1 h2 dX12_expOf_11 ?_
  cases hf
  exact x_reti C hP hS hW dX12_expOf_12
def s_X12_fracOf (N : Nat → Nat) (a : Nat) (p0 : Int32) (S : HS) : Option Int32 :=
  bd1 (gR S 1210 a) fun t1 =>
  if inB ((3 + (3 * p0)) + 2) (N t1) = true then
  some (aI S t1 ((3 + (3 * p0)) + 2).toNatClampNeg)
  else none
set_option maxRecDepth 100000 in
set_option maxHeartbeats 4000000 in
theorem c_X12_fracOf {l : Launch} {V : EV} {G : GS} {S : HS} {a : Nat} {p0 : Int32} {r : Int32} (hN : G.1.Nodup) (hW : WT G S) (h_a : a ∈ G.1) (k_a : G.2.1 a = 12) (hf : s_X12_fracOf G.2.2 a p0 S = some r) : MetI l yX12_fracOf cX12_fracOf 2 .int 0 0 V G S [.ref a, .int p0] r S := by
  intro sz
  refine x_in RX12 rfl (by decide +kernel) hN (Nat.le_of_ble_eq_true rfl) (fun p e s m args below meth c ls hsz hargs hnm C hP hS hl => ?_)
  subst hsz
  have hx := C.1
  have hb := C.2.1
  have hl : lv_has ls 2 [(0, .ref a), (1, .int p0)] := hl
  unfold s_X12_fracOf at hf
  refine lv_aload_n hx hb dX12_fracOf_0 rfl (lv_at hl 0 rfl) ?_
  refine gf_X12_77 C hP h_a k_a dX12_fracOf_1 ?_
  obtain ⟨t1, et1, hf⟩ := bd1_e hf
  obtain ⟨h_t1, k_t1⟩ := wt_r hW h_a k_a (by decide) et1
  have k_t1 : G.2.1 t1 = 14 := k_t1
  rw [et1]
  refine lv_iconst (v := 3) hx hb dX12_fracOf_4 rfl ?_
  refine lv_iconst (v := 3) hx hb dX12_fracOf_5 rfl ?_
  refine lv_iload_n hx hb dX12_fracOf_6 rfl (lv_at hl 1 rfl) ?_
  refine lv_imul hx hb dX12_fracOf_7 ?_
  refine lv_iadd hx hb dX12_fracOf_8 ?_
  refine lv_iconst (v := 2) hx hb dX12_fracOf_9 rfl ?_
  refine lv_iadd hx hb dX12_fracOf_10 ?_
  obtain ⟨h2, hf⟩ := if_s hf
  refine x_iald C hP h_t1 k_t1 h2 dX12_fracOf_11 ?_
  cases hf
  exact x_reti C hP hS hW dX12_fracOf_12
def s_X12_signOf (N : Nat → Nat) (a : Nat) (p0 : Int32) (S : HS) : Option Int32 :=
  bd1 (s_X12_expOf N a p0 S) fun r1 =>
  bd1 (s_X12_fracOf N a p0 S) fun r2 =>
  some ((1 : Int32) <<< ((r1 + r2) &&& 31))
set_option maxRecDepth 100000 in
set_option maxHeartbeats 4000000 in
theorem c_X12_signOf {l : Launch} {V : EV} {G : GS} {S : HS} {a : Nat} {p0 : Int32} {r : Int32} (hN : G.1.Nodup) (hW : WT G S) (h_a : a ∈ G.1) (k_a : G.2.1 a = 12) (hf : s_X12_signOf G.2.2 a p0 S = some r) : MetI l yX12_signOf cX12_signOf 2 .int 1 29 V G S [.ref a, .int p0] r S := by
  intro sz
  refine x_in RX12 rfl (by decide +kernel) hN (Nat.le_of_ble_eq_true rfl) (fun p e s m args below meth c ls hsz hargs hnm C hP hS hl => ?_)
  subst hsz
  have hx := C.1
  have hb := C.2.1
  have hl : lv_has ls 2 [(0, .ref a), (1, .int p0)] := hl
  unfold s_X12_signOf at hf
  refine lv_iconst (v := 1) hx hb dX12_signOf_0 rfl ?_
  refine lv_aload_n hx hb dX12_signOf_1 rfl (lv_at hl 0 rfl) ?_
  refine lv_iload_n hx hb dX12_signOf_2 rfl (lv_at hl 1 rfl) ?_
  obtain ⟨r1, er1, hf⟩ := bd1_e hf
  refine x_aft_i (x_runV (As := [.int p0]) (rest := [.int 1]) C hP hS (c_X12_expOf (l := l) C.2.2.2.2.2.2.2.2.2.1 hW h_a k_a er1 s.heap.size) h_a k_a (by decide) rfl rfl km_X12_expOf ki_X12_expOf qm_X12_246 ⟨(Nat.le_of_ble_eq_true rfl), (Nat.le_of_ble_eq_true rfl)⟩ rfl hl.1 rfl (Nat.le_of_ble_eq_true rfl) ⟨Nat.zero_le _, Nat.zero_le _⟩ dX12_signOf_3) hS (fun H locs hP hS hW => ?_)
  refine lv_aload_n hx hb dX12_signOf_6 rfl (lv_at hl 0 rfl) ?_
  refine lv_iload_n hx hb dX12_signOf_7 rfl (lv_at hl 1 rfl) ?_
  obtain ⟨r2, er2, hf⟩ := bd1_e hf
  refine x_aft_i (x_runV (As := [.int p0]) (rest := [.int r1, .int 1]) C hP hS (c_X12_fracOf (l := l) C.2.2.2.2.2.2.2.2.2.1 hW h_a k_a er2 H.size) h_a k_a (by decide) rfl rfl km_X12_fracOf ki_X12_fracOf qm_X12_255 ⟨(Nat.le_of_ble_eq_true rfl), (Nat.le_of_ble_eq_true rfl)⟩ rfl hl.1 rfl (Nat.le_of_ble_eq_true rfl) ⟨Nat.zero_le _, Nat.zero_le _⟩ dX12_signOf_8) hS (fun H locs hP hS hW => ?_)
  refine lv_iadd hx hb dX12_signOf_11 ?_
  refine lv_ishl hx hb dX12_signOf_12 ?_
  cases hf
  exact x_reti C hP hS hW dX12_signOf_13
def s_X12_isBits (N : Nat → Nat) (a : Nat) (p0 : Int32) (p1 : Int32) (S : HS) : Option Int32 :=
  if p0 < (0 : Int32) then
  some 0
  else
  if p1 < (0 : Int32) then
  some 0
  else
  bd1 (s_X12_signOf N a p0 S) fun r3 =>
  if (2 * r3) ≤ p1 then
  some 0
  else
  some 1
set_option maxRecDepth 100000 in
set_option maxHeartbeats 4000000 in
theorem c_X12_isBits {l : Launch} {V : EV} {G : GS} {S : HS} {a : Nat} {p0 : Int32} {p1 : Int32} {r : Int32} (hN : G.1.Nodup) (hW : WT G S) (h_a : a ∈ G.1) (k_a : G.2.1 a = 12) (hf : s_X12_isBits G.2.2 a p0 p1 S = some r) : MetZ l yX12_isBits cX12_isBits 3 2 58 V G S [.ref a, .int p0, .int p1] r S := by
  intro sz
  refine x_in RX12 rfl (by decide +kernel) hN (Nat.le_of_ble_eq_true rfl) (fun p e s m args below meth c ls hsz hargs hnm C hP hS hl => ?_)
  subst hsz
  have hx := C.1
  have hb := C.2.1
  have hl : lv_has ls 3 [(0, .ref a), (1, .int p0), (2, .int p1)] := hl
  unfold s_X12_isBits at hf
  refine lv_iload_n hx hb dX12_isBits_0 rfl (lv_at hl 1 rfl) ?_
  refine lv_if_lt (tgt := 23) hx hb dX12_isBits_1 (by decide) (fun c1 => ?_) (fun c1 => ?_)
  · have hf := if_t c1 hf
    refine lv_iconst (v := 0) hx hb dX12_isBits_23 rfl ?_
    cases hf
    exact x_retZ C hP hS hW isZ_0 dX12_isBits_24
  · have hf := if_f c1 hf
    refine lv_iload_n hx hb dX12_isBits_4 rfl (lv_at hl 2 rfl) ?_
    refine lv_if_lt (tgt := 23) hx hb dX12_isBits_5 (by decide) (fun c2 => ?_) (fun c2 => ?_)
    · have hf := if_t c2 hf
      refine lv_iconst (v := 0) hx hb dX12_isBits_23 rfl ?_
      cases hf
      exact x_retZ C hP hS hW isZ_0 dX12_isBits_24
    · have hf := if_f c2 hf
      refine lv_iload_n hx hb dX12_isBits_8 rfl (lv_at hl 2 rfl) ?_
      refine lv_iconst (v := 2) hx hb dX12_isBits_9 rfl ?_
      refine lv_aload_n hx hb dX12_isBits_10 rfl (lv_at hl 0 rfl) ?_
      refine lv_iload_n hx hb dX12_isBits_11 rfl (lv_at hl 1 rfl) ?_
      obtain ⟨r3, er3, hf⟩ := bd1_e hf
      refine x_aft_i (x_runV (As := [.int p0]) (rest := [.int 2, .int p1]) C hP hS (c_X12_signOf (l := l) C.2.2.2.2.2.2.2.2.2.1 hW h_a k_a er3 s.heap.size) h_a k_a (by decide) rfl rfl km_X12_signOf ki_X12_signOf qm_X12_267 ⟨(Nat.le_of_ble_eq_true rfl), (Nat.le_of_ble_eq_true rfl)⟩ rfl hl.1 rfl (Nat.le_of_ble_eq_true rfl) ⟨Nat.zero_le _, Nat.zero_le _⟩ dX12_isBits_12) hS (fun H locs hP hS hW => ?_)
      refine lv_imul hx hb dX12_isBits_15 ?_
      refine lv_icmp_ge (tgt := 23) hx hb dX12_isBits_16 (by decide) (fun c4 => ?_) (fun c4 => ?_)
      · have hf := if_t c4 hf
        refine lv_iconst (v := 0) hx hb dX12_isBits_23 rfl ?_
        cases hf
        exact x_retZ C hP hS hW isZ_0 dX12_isBits_24
      · have hf := if_f c4 hf
        refine lv_iconst (v := 1) hx hb dX12_isBits_19 rfl ?_
        refine lv_goto (tgt := 24) hx hb dX12_isBits_20 (by decide) ?_
        cases hf
        exact x_retZ C hP hS hW isZ_1 dX12_isBits_24
def s_X12_sizeOf (N : Nat → Nat) (a : Nat) (p0 : Int32) (p1 : Int32) (S : HS) : Option Int32 :=
  bd1 (s_X12_signOf N a p0 S) fun r1 =>
  if ¬ r1 = 0 then
  some (p1 - p1 / r1 * r1)
  else none
set_option maxRecDepth 100000 in
set_option maxHeartbeats 4000000 in
theorem c_X12_sizeOf {l : Launch} {V : EV} {G : GS} {S : HS} {a : Nat} {p0 : Int32} {p1 : Int32} {r : Int32} (hN : G.1.Nodup) (hW : WT G S) (h_a : a ∈ G.1) (k_a : G.2.1 a = 12) (hf : s_X12_sizeOf G.2.2 a p0 p1 S = some r) : MetI l yX12_sizeOf cX12_sizeOf 3 .int 2 58 V G S [.ref a, .int p0, .int p1] r S := by
  intro sz
  refine x_in RX12 rfl (by decide +kernel) hN (Nat.le_of_ble_eq_true rfl) (fun p e s m args below meth c ls hsz hargs hnm C hP hS hl => ?_)
  subst hsz
  have hx := C.1
  have hb := C.2.1
  have hl : lv_has ls 3 [(0, .ref a), (1, .int p0), (2, .int p1)] := hl
  unfold s_X12_sizeOf at hf
  refine lv_iload_n hx hb dX12_sizeOf_0 rfl (lv_at hl 2 rfl) ?_
  refine lv_aload_n hx hb dX12_sizeOf_1 rfl (lv_at hl 0 rfl) ?_
  refine lv_iload_n hx hb dX12_sizeOf_2 rfl (lv_at hl 1 rfl) ?_
  obtain ⟨r1, er1, hf⟩ := bd1_e hf
  refine x_aft_i (x_runV (As := [.int p0]) (rest := [.int p1]) C hP hS (c_X12_signOf (l := l) C.2.2.2.2.2.2.2.2.2.1 hW h_a k_a er1 s.heap.size) h_a k_a (by decide) rfl rfl km_X12_signOf ki_X12_signOf qm_X12_267 ⟨(Nat.le_of_ble_eq_true rfl), (Nat.le_of_ble_eq_true rfl)⟩ rfl hl.1 rfl (Nat.le_of_ble_eq_true rfl) ⟨Nat.zero_le _, Nat.zero_le _⟩ dX12_sizeOf_3) hS (fun H locs hP hS hW => ?_)
  obtain ⟨h2, hf⟩ := if_s hf
  refine lv_irem hx hb dX12_sizeOf_6 h2 ?_
  cases hf
  exact x_reti C hP hS hW dX12_sizeOf_7
def s_X12_exponentOf (N : Nat → Nat) (a : Nat) (p0 : Int32) (p1 : Int32) (S : HS) : Option Int32 :=
  bd1 (s_X12_sizeOf N a p0 p1 S) fun r1 =>
  bd1 (s_X12_fracOf N a p0 S) fun r2 =>
  some (r1 >>> (r2 &&& 31))
set_option maxRecDepth 100000 in
set_option maxHeartbeats 4000000 in
theorem c_X12_exponentOf {l : Launch} {V : EV} {G : GS} {S : HS} {a : Nat} {p0 : Int32} {p1 : Int32} {r : Int32} (hN : G.1.Nodup) (hW : WT G S) (h_a : a ∈ G.1) (k_a : G.2.1 a = 12) (hf : s_X12_exponentOf G.2.2 a p0 p1 S = some r) : MetI l yX12_exponentOf cX12_exponentOf 3 .int 3 88 V G S [.ref a, .int p0, .int p1] r S := by
  intro sz
  refine x_in RX12 rfl (by decide +kernel) hN (Nat.le_of_ble_eq_true rfl) (fun p e s m args below meth c ls hsz hargs hnm C hP hS hl => ?_)
  subst hsz
  have hx := C.1
  have hb := C.2.1
  have hl : lv_has ls 3 [(0, .ref a), (1, .int p0), (2, .int p1)] := hl
  unfold s_X12_exponentOf at hf
  refine lv_aload_n hx hb dX12_exponentOf_0 rfl (lv_at hl 0 rfl) ?_
  refine lv_iload_n hx hb dX12_exponentOf_1 rfl (lv_at hl 1 rfl) ?_
  refine lv_iload_n hx hb dX12_exponentOf_2 rfl (lv_at hl 2 rfl) ?_
  obtain ⟨r1, er1, hf⟩ := bd1_e hf
  refine x_aft_i (x_runV (As := [.int p0, .int p1]) (rest := []) C hP hS (c_X12_sizeOf (l := l) C.2.2.2.2.2.2.2.2.2.1 hW h_a k_a er1 s.heap.size) h_a k_a (by decide) rfl rfl km_X12_sizeOf ki_X12_sizeOf qm_X12_270 ⟨(Nat.le_of_ble_eq_true rfl), (Nat.le_of_ble_eq_true rfl)⟩ rfl hl.1 rfl (Nat.le_of_ble_eq_true rfl) ⟨Nat.zero_le _, Nat.zero_le _⟩ dX12_exponentOf_3) hS (fun H locs hP hS hW => ?_)
  refine lv_aload_n hx hb dX12_exponentOf_6 rfl (lv_at hl 0 rfl) ?_
  refine lv_iload_n hx hb dX12_exponentOf_7 rfl (lv_at hl 1 rfl) ?_
  obtain ⟨r2, er2, hf⟩ := bd1_e hf
  refine x_aft_i (x_runV (As := [.int p0]) (rest := [.int r1]) C hP hS (c_X12_fracOf (l := l) C.2.2.2.2.2.2.2.2.2.1 hW h_a k_a er2 H.size) h_a k_a (by decide) rfl rfl km_X12_fracOf ki_X12_fracOf qm_X12_255 ⟨(Nat.le_of_ble_eq_true rfl), (Nat.le_of_ble_eq_true rfl)⟩ rfl hl.1 rfl (Nat.le_of_ble_eq_true rfl) ⟨Nat.zero_le _, Nat.zero_le _⟩ dX12_exponentOf_8) hS (fun H locs hP hS hW => ?_)
  refine lv_ishr hx hb dX12_exponentOf_11 ?_
  cases hf
  exact x_reti C hP hS hW dX12_exponentOf_12
def s_X12_topOf (N : Nat → Nat) (a : Nat) (p0 : Int32) (S : HS) : Option Int32 :=
  bd1 (s_X12_expOf N a p0 S) fun r1 =>
  some (((1 : Int32) <<< (r1 &&& 31)) - 1)
set_option maxRecDepth 100000 in
set_option maxHeartbeats 4000000 in
theorem c_X12_topOf {l : Launch} {V : EV} {G : GS} {S : HS} {a : Nat} {p0 : Int32} {r : Int32} (hN : G.1.Nodup) (hW : WT G S) (h_a : a ∈ G.1) (k_a : G.2.1 a = 12) (hf : s_X12_topOf G.2.2 a p0 S = some r) : MetI l yX12_topOf cX12_topOf 2 .int 1 29 V G S [.ref a, .int p0] r S := by
  intro sz
  refine x_in RX12 rfl (by decide +kernel) hN (Nat.le_of_ble_eq_true rfl) (fun p e s m args below meth c ls hsz hargs hnm C hP hS hl => ?_)
  subst hsz
  have hx := C.1
  have hb := C.2.1
  have hl : lv_has ls 2 [(0, .ref a), (1, .int p0)] := hl
  unfold s_X12_topOf at hf
  refine lv_iconst (v := 1) hx hb dX12_topOf_0 rfl ?_
  refine lv_aload_n hx hb dX12_topOf_1 rfl (lv_at hl 0 rfl) ?_
  refine lv_iload_n hx hb dX12_topOf_2 rfl (lv_at hl 1 rfl) ?_
  obtain ⟨r1, er1, hf⟩ := bd1_e hf
  refine x_aft_i (x_runV (As := [.int p0]) (rest := [.int 1]) C hP hS (c_X12_expOf (l := l) C.2.2.2.2.2.2.2.2.2.1 hW h_a k_a er1 s.heap.size) h_a k_a (by decide) rfl rfl km_X12_expOf ki_X12_expOf qm_X12_246 ⟨(Nat.le_of_ble_eq_true rfl), (Nat.le_of_ble_eq_true rfl)⟩ rfl hl.1 rfl (Nat.le_of_ble_eq_true rfl) ⟨Nat.zero_le _, Nat.zero_le _⟩ dX12_topOf_3) hS (fun H locs hP hS hW => ?_)
  refine lv_ishl hx hb dX12_topOf_6 ?_
  refine lv_iconst (v := 1) hx hb dX12_topOf_7 rfl ?_
  refine lv_isub hx hb dX12_topOf_8 ?_
  cases hf
  exact x_reti C hP hS hW dX12_topOf_9
def s_X12_kindOf (N : Nat → Nat) (a : Nat) (p0 : Int32) (S : HS) : Option Int32 :=
  bd1 (gR S 1210 a) fun t1 =>
  if inB (3 + (3 * p0)) (N t1) = true then
  some (aI S t1 (3 + (3 * p0)).toNatClampNeg)
  else none
set_option maxRecDepth 100000 in
set_option maxHeartbeats 4000000 in
theorem c_X12_kindOf {l : Launch} {V : EV} {G : GS} {S : HS} {a : Nat} {p0 : Int32} {r : Int32} (hN : G.1.Nodup) (hW : WT G S) (h_a : a ∈ G.1) (k_a : G.2.1 a = 12) (hf : s_X12_kindOf G.2.2 a p0 S = some r) : MetI l yX12_kindOf cX12_kindOf 2 .int 0 0 V G S [.ref a, .int p0] r S := by
  intro sz
  refine x_in RX12 rfl (by decide +kernel) hN (Nat.le_of_ble_eq_true rfl) (fun p e s m args below meth c ls hsz hargs hnm C hP hS hl => ?_)
  subst hsz
  have hx := C.1
  have hb := C.2.1
  have hl : lv_has ls 2 [(0, .ref a), (1, .int p0)] := hl
  unfold s_X12_kindOf at hf
  refine lv_aload_n hx hb dX12_kindOf_0 rfl (lv_at hl 0 rfl) ?_
  refine gf_X12_77 C hP h_a k_a dX12_kindOf_1 ?_
  obtain ⟨t1, et1, hf⟩ := bd1_e hf
  obtain ⟨h_t1, k_t1⟩ := wt_r hW h_a k_a (by decide) et1
  have k_t1 : G.2.1 t1 = 14 := k_t1
  rw [et1]
  refine lv_iconst (v := 3) hx hb dX12_kindOf_4 rfl ?_
  refine lv_iconst (v := 3) hx hb dX12_kindOf_5 rfl ?_
  refine lv_iload_n hx hb dX12_kindOf_6 rfl (lv_at hl 1 rfl) ?_
  refine lv_imul hx hb dX12_kindOf_7 ?_
  refine lv_iadd hx hb dX12_kindOf_8 ?_
  obtain ⟨h2, hf⟩ := if_s hf
  refine x_iald C hP h_t1 k_t1 h2 dX12_kindOf_9 ?_
  cases hf
  exact x_reti C hP hS hW dX12_kindOf_10
def s_X12_classOf (N : Nat → Nat) (a : Nat) (p0 : Int32) (p1 : Int32) (S : HS) : Option Int32 :=
  bd1 (s_X12_exponentOf N a p0 p1 S) fun r1 =>
  bd1 (s_X12_fracOf N a p0 S) fun r2 =>
  bnd (p1 &&& (((1 : Int32) <<< (r2 &&& 31)) - 1) : Int32) fun x3 =>
  if r1 = (0 : Int32) then
  if x3 = (0 : Int32) then
  some 0
  else
  some 1
  else
  bd1 (s_X12_topOf N a p0 S) fun r5 =>
  if r1 < r5 then
  some 2
  else
  bd1 (s_X12_kindOf N a p0 S) fun r7 =>
  if r7 = (3 : Int32) then
  some 2
  else
  if x3 = (0 : Int32) then
  some 3
  else
  some 4
set_option maxRecDepth 100000 in
set_option maxHeartbeats 4000000 in
theorem c_X12_classOf {l : Launch} {V : EV} {G : GS} {S : HS} {a : Nat} {p0 : Int32} {p1 : Int32} {r : Int32} (hN : G.1.Nodup) (hW : WT G S) (h_a : a ∈ G.1) (k_a : G.2.1 a = 12) (hf : s_X12_classOf G.2.2 a p0 p1 S = some r) : MetI l yX12_classOf cX12_classOf 5 .int 4 118 V G S [.ref a, .int p0, .int p1] r S := by
  intro sz
  refine x_in RX12 rfl (by decide +kernel) hN (Nat.le_of_ble_eq_true rfl) (fun p e s m args below meth c ls hsz hargs hnm C hP hS hl => ?_)
  subst hsz
  have hx := C.1
  have hb := C.2.1
  have hl : lv_has ls 5 [(0, .ref a), (1, .int p0), (2, .int p1)] := hl
  unfold s_X12_classOf at hf
  refine lv_aload_n hx hb dX12_classOf_0 rfl (lv_at hl 0 rfl) ?_
  refine lv_iload_n hx hb dX12_classOf_1 rfl (lv_at hl 1 rfl) ?_
  refine lv_iload_n hx hb dX12_classOf_2 rfl (lv_at hl 2 rfl) ?_
  obtain ⟨r1, er1, hf⟩ := bd1_e hf
  refine x_aft_i (x_runV (As := [.int p0, .int p1]) (rest := []) C hP hS (c_X12_exponentOf (l := l) C.2.2.2.2.2.2.2.2.2.1 hW h_a k_a er1 s.heap.size) h_a k_a (by decide) rfl rfl km_X12_exponentOf ki_X12_exponentOf qm_X12_273 ⟨(Nat.le_of_ble_eq_true rfl), (Nat.le_of_ble_eq_true rfl)⟩ rfl hl.1 rfl (Nat.le_of_ble_eq_true rfl) ⟨Nat.zero_le _, Nat.zero_le _⟩ dX12_classOf_3) hS (fun H locs hP hS hW => ?_)
  refine lv_istore_n (lv' := [(3, .int r1), (0, .ref a), (1, .int p0), (2, .int p1)]) hx hb dX12_classOf_6 rfl hl (by decide) rfl (fun ls hl => ?_)
  refine lv_iload_n hx hb dX12_classOf_7 rfl (lv_at hl 3 rfl) ?_
  refine lv_iconst (v := 1) hx hb dX12_classOf_8 rfl ?_
  refine lv_aload_n hx hb dX12_classOf_9 rfl (lv_at hl 1 rfl) ?_
  refine lv_iload_n hx hb dX12_classOf_10 rfl (lv_at hl 2 rfl) ?_
  obtain ⟨r2, er2, hf⟩ := bd1_e hf
  refine x_aft_i (x_runV (As := [.int p0]) (rest := [.int 1, .int p1]) C hP hS (c_X12_fracOf (l := l) C.2.2.2.2.2.2.2.2.2.1 hW h_a k_a er2 H.size) h_a k_a (by decide) rfl rfl km_X12_fracOf ki_X12_fracOf qm_X12_255 ⟨(Nat.le_of_ble_eq_true rfl), (Nat.le_of_ble_eq_true rfl)⟩ rfl hl.1 rfl (Nat.le_of_ble_eq_true rfl) ⟨Nat.zero_le _, Nat.zero_le _⟩ dX12_classOf_11) hS (fun H locs hP hS hW => ?_)
  refine lv_ishl hx hb dX12_classOf_14 ?_
  refine lv_iconst (v := 1) hx hb dX12_classOf_15 rfl ?_
  refine lv_isub hx hb dX12_classOf_16 ?_
  refine lv_iand hx hb dX12_classOf_17 ?_
  obtain ⟨x3, ex3, hf⟩ := bnd_e hf
  refine nm_i ex3 ?_
  refine lv_istore (lv' := [(4, .int x3), (3, .int r1), (0, .ref a), (1, .int p0), (2, .int p1)]) hx hb dX12_classOf_18 hl (by decide) rfl (fun ls hl => ?_)
  refine lv_iload_n hx hb dX12_classOf_20 rfl (lv_at hl 1 rfl) ?_
  refine lv_if_ne (tgt := 35) hx hb dX12_classOf_21 (by decide) (fun c4 => ?_) (fun c4 => ?_)
  · have hf := if_f c4 hf
    refine lv_iload_n hx hb dX12_classOf_35 rfl (lv_at hl 1 rfl) ?_
    refine lv_aload_n hx hb dX12_classOf_36 rfl (lv_at hl 2 rfl) ?_
    refine lv_iload_n hx hb dX12_classOf_37 rfl (lv_at hl 3 rfl) ?_
    obtain ⟨r5, er5, hf⟩ := bd1_e hf
    refine x_aft_i (x_runV (As := [.int p0]) (rest := [.int r1]) C hP hS (c_X12_topOf (l := l) C.2.2.2.2.2.2.2.2.2.1 hW h_a k_a er5 H.size) h_a k_a (by decide) rfl rfl km_X12_topOf ki_X12_topOf qm_X12_252 ⟨(Nat.le_of_ble_eq_true rfl), (Nat.le_of_ble_eq_true rfl)⟩ rfl hl.1 rfl (Nat.le_of_ble_eq_true rfl) ⟨Nat.zero_le _, Nat.zero_le _⟩ dX12_classOf_38) hS (fun H locs hP hS hW => ?_)
    refine lv_icmp_lt (tgt := 53) hx hb dX12_classOf_41 (by decide) (fun c6 => ?_) (fun c6 => ?_)
    · have hf := if_t c6 hf
      refine lv_iconst (v := 2) hx hb dX12_classOf_53 rfl ?_
      refine lv_goto (tgt := 67) hx hb dX12_classOf_54 (by decide) ?_
      cases hf
      exact x_reti C hP hS hW dX12_classOf_67
    · have hf := if_f c6 hf
      refine lv_aload_n hx hb dX12_classOf_44 rfl (lv_at hl 2 rfl) ?_
      refine lv_iload_n hx hb dX12_classOf_45 rfl (lv_at hl 3 rfl) ?_
      obtain ⟨r7, er7, hf⟩ := bd1_e hf
      refine x_aft_i (x_runV (As := [.int p0]) (rest := []) C hP hS (c_X12_kindOf (l := l) C.2.2.2.2.2.2.2.2.2.1 hW h_a k_a er7 H.size) h_a k_a (by decide) rfl rfl km_X12_kindOf ki_X12_kindOf qm_X12_249 ⟨(Nat.le_of_ble_eq_true rfl), (Nat.le_of_ble_eq_true rfl)⟩ rfl hl.1 rfl (Nat.le_of_ble_eq_true rfl) ⟨Nat.zero_le _, Nat.zero_le _⟩ dX12_classOf_46) hS (fun H locs hP hS hW => ?_)
      refine lv_iconst (v := 3) hx hb dX12_classOf_49 rfl ?_
      refine lv_icmp_ne (tgt := 57) hx hb dX12_classOf_50 (by decide) (fun c8 => ?_) (fun c8 => ?_)
      · have hf := if_f c8 hf
        refine lv_iload hx hb dX12_classOf_57 (lv_at hl 0 rfl) ?_
        refine lv_if_ne (tgt := 66) hx hb dX12_classOf_59 (by decide) (fun c9 => ?_) (fun c9 => ?_)
        · have hf := if_f c9 hf
          refine lv_iconst (v := 4) hx hb dX12_classOf_66 rfl ?_
          cases hf
          exact x_reti C hP hS hW dX12_classOf_67
        · have hf := if_t c9 hf
          refine lv_iconst (v := 3) hx hb dX12_classOf_62 rfl ?_
          refine lv_goto (tgt := 67) hx hb dX12_classOf_63 (by decide) ?_
          cases hf
          exact x_reti C hP hS hW dX12_classOf_67
      · have hf := if_t c8 hf
        refine lv_iconst (v := 2) hx hb dX12_classOf_53 rfl ?_
        refine lv_goto (tgt := 67) hx hb dX12_classOf_54 (by decide) ?_
        cases hf
        exact x_reti C hP hS hW dX12_classOf_67
  · have hf := if_t c4 hf
    refine lv_iload hx hb dX12_classOf_24 (lv_at hl 0 rfl) ?_
    refine lv_if_ne (tgt := 33) hx hb dX12_classOf_26 (by decide) (fun c10 => ?_) (fun c10 => ?_)
    · have hf := if_f c10 hf
      refine lv_iconst (v := 1) hx hb dX12_classOf_33 rfl ?_
      cases hf
      exact x_reti C hP hS hW dX12_classOf_34
    · have hf := if_t c10 hf
      refine lv_iconst (v := 0) hx hb dX12_classOf_29 rfl ?_
      refine lv_goto (tgt := 34) hx hb dX12_classOf_30 (by decide) ?_
      cases hf
      exact x_reti C hP hS hW dX12_classOf_34
def s_X12_isNan (N : Nat → Nat) (a : Nat) (p0 : Int32) (p1 : Int32) (S : HS) : Option Int32 :=
  bd1 (s_X12_classOf N a p0 p1 S) fun r1 =>
  if r1 = (4 : Int32) then
  some 1
  else
  some 0
set_option maxRecDepth 100000 in
set_option maxHeartbeats 4000000 in
theorem c_X12_isNan {l : Launch} {V : EV} {G : GS} {S : HS} {a : Nat} {p0 : Int32} {p1 : Int32} {r : Int32} (hN : G.1.Nodup) (hW : WT G S) (h_a : a ∈ G.1) (k_a : G.2.1 a = 12) (hf : s_X12_isNan G.2.2 a p0 p1 S = some r) : MetZ l yX12_isNan cX12_isNan 3 5 150 V G S [.ref a, .int p0, .int p1] r S := by
  intro sz
  refine x_in RX12 rfl (by decide +kernel) hN (Nat.le_of_ble_eq_true rfl) (fun p e s m args below meth c ls hsz hargs hnm C hP hS hl => ?_)
  subst hsz
  have hx := C.1
  have hb := C.2.1
  have hl : lv_has ls 3 [(0, .ref a), (1, .int p0), (2, .int p1)] := hl
  unfold s_X12_isNan at hf
  refine lv_aload_n hx hb dX12_isNan_0 rfl (lv_at hl 0 rfl) ?_
  refine lv_iload_n hx hb dX12_isNan_1 rfl (lv_at hl 1 rfl) ?_
  refine lv_iload_n hx hb dX12_isNan_2 rfl (lv_at hl 2 rfl) ?_
  obtain ⟨r1, er1, hf⟩ := bd1_e hf
  refine x_aft_i (x_runV (As := [.int p0, .int p1]) (rest := []) C hP hS (c_X12_classOf (l := l) C.2.2.2.2.2.2.2.2.2.1 hW h_a k_a er1 s.heap.size) h_a k_a (by decide) rfl rfl km_X12_classOf ki_X12_classOf qm_X12_276 ⟨(Nat.le_of_ble_eq_true rfl), (Nat.le_of_ble_eq_true rfl)⟩ rfl hl.1 rfl (Nat.le_of_ble_eq_true rfl) ⟨Nat.zero_le _, Nat.zero_le _⟩ dX12_isNan_3) hS (fun H locs hP hS hW => ?_)
  refine lv_iconst (v := 4) hx hb dX12_isNan_6 rfl ?_
  refine lv_icmp_ne (tgt := 14) hx hb dX12_isNan_7 (by decide) (fun c2 => ?_) (fun c2 => ?_)
  · have hf := if_f c2 hf
    refine lv_iconst (v := 0) hx hb dX12_isNan_14 rfl ?_
    cases hf
    exact x_retZ C hP hS hW isZ_0 dX12_isNan_15
  · have hf := if_t c2 hf
    refine lv_iconst (v := 1) hx hb dX12_isNan_10 rfl ?_
    refine lv_goto (tgt := 15) hx hb dX12_isNan_11 (by decide) ?_
    cases hf
    exact x_retZ C hP hS hW isZ_1 dX12_isNan_15
def s_X12_highOf (N : Nat → Nat) (a : Nat) (p0 : Int32) (S : HS) : Option Int32 :=
  bd1 (s_X12_kindOf N a p0 S) fun r1 =>
  if r1 = (3 : Int32) then
  bd1 (s_X12_topOf N a p0 S) fun r4 =>
  some r4
  else
  bd1 (s_X12_topOf N a p0 S) fun r3 =>
  some (r3 - 1)
set_option maxRecDepth 100000 in
set_option maxHeartbeats 4000000 in
theorem c_X12_highOf {l : Launch} {V : EV} {G : GS} {S : HS} {a : Nat} {p0 : Int32} {r : Int32} (hN : G.1.Nodup) (hW : WT G S) (h_a : a ∈ G.1) (k_a : G.2.1 a = 12) (hf : s_X12_highOf G.2.2 a p0 S = some r) : MetI l yX12_highOf cX12_highOf 2 .int 2 58 V G S [.ref a, .int p0] r S := by
  intro sz
  refine x_in RX12 rfl (by decide +kernel) hN (Nat.le_of_ble_eq_true rfl) (fun p e s m args below meth c ls hsz hargs hnm C hP hS hl => ?_)
  subst hsz
  have hx := C.1
  have hb := C.2.1
  have hl : lv_has ls 2 [(0, .ref a), (1, .int p0)] := hl
  unfold s_X12_highOf at hf
  refine lv_aload_n hx hb dX12_highOf_0 rfl (lv_at hl 0 rfl) ?_
  refine lv_iload_n hx hb dX12_highOf_1 rfl (lv_at hl 1 rfl) ?_
  obtain ⟨r1, er1, hf⟩ := bd1_e hf
  refine x_aft_i (x_runV (As := [.int p0]) (rest := []) C hP hS (c_X12_kindOf (l := l) C.2.2.2.2.2.2.2.2.2.1 hW h_a k_a er1 s.heap.size) h_a k_a (by decide) rfl rfl km_X12_kindOf ki_X12_kindOf qm_X12_249 ⟨(Nat.le_of_ble_eq_true rfl), (Nat.le_of_ble_eq_true rfl)⟩ rfl hl.1 rfl (Nat.le_of_ble_eq_true rfl) ⟨Nat.zero_le _, Nat.zero_le _⟩ dX12_highOf_2) hS (fun H locs hP hS hW => ?_)
  refine lv_iconst (v := 3) hx hb dX12_highOf_5 rfl ?_
  refine lv_icmp_ne (tgt := 17) hx hb dX12_highOf_6 (by decide) (fun c2 => ?_) (fun c2 => ?_)
  · have hf := if_f c2 hf
    refine lv_aload_n hx hb dX12_highOf_17 rfl (lv_at hl 0 rfl) ?_
    refine lv_iload_n hx hb dX12_highOf_18 rfl (lv_at hl 1 rfl) ?_
    obtain ⟨r3, er3, hf⟩ := bd1_e hf
    refine x_aft_i (x_runV (As := [.int p0]) (rest := []) C hP hS (c_X12_topOf (l := l) C.2.2.2.2.2.2.2.2.2.1 hW h_a k_a er3 H.size) h_a k_a (by decide) rfl rfl km_X12_topOf ki_X12_topOf qm_X12_252 ⟨(Nat.le_of_ble_eq_true rfl), (Nat.le_of_ble_eq_true rfl)⟩ rfl hl.1 rfl (Nat.le_of_ble_eq_true rfl) ⟨Nat.zero_le _, Nat.zero_le _⟩ dX12_highOf_19) hS (fun H locs hP hS hW => ?_)
    refine lv_iconst (v := 1) hx hb dX12_highOf_22 rfl ?_
    refine lv_isub hx hb dX12_highOf_23 ?_
    cases hf
    exact x_reti C hP hS hW dX12_highOf_24
  · have hf := if_t c2 hf
    refine lv_aload_n hx hb dX12_highOf_9 rfl (lv_at hl 0 rfl) ?_
    refine lv_iload_n hx hb dX12_highOf_10 rfl (lv_at hl 1 rfl) ?_
    obtain ⟨r4, er4, hf⟩ := bd1_e hf
    refine x_aft_i (x_runV (As := [.int p0]) (rest := []) C hP hS (c_X12_topOf (l := l) C.2.2.2.2.2.2.2.2.2.1 hW h_a k_a er4 H.size) h_a k_a (by decide) rfl rfl km_X12_topOf ki_X12_topOf qm_X12_252 ⟨(Nat.le_of_ble_eq_true rfl), (Nat.le_of_ble_eq_true rfl)⟩ rfl hl.1 rfl (Nat.le_of_ble_eq_true rfl) ⟨Nat.zero_le _, Nat.zero_le _⟩ dX12_highOf_11) hS (fun H locs hP hS hW => ?_)
    refine lv_goto (tgt := 24) hx hb dX12_highOf_14 (by decide) ?_
    cases hf
    exact x_reti C hP hS hW dX12_highOf_24
def s_X12_greatestOf (N : Nat → Nat) (a : Nat) (p0 : Int32) (S : HS) : Option Int32 :=
  bd1 (s_X12_highOf N a p0 S) fun r1 =>
  bd1 (s_X12_fracOf N a p0 S) fun r2 =>
  bd1 (s_X12_fracOf N a p0 S) fun r3 =>
  some ((r1 <<< (r2 &&& 31)) ||| (((1 : Int32) <<< (r3 &&& 31)) - 1))
set_option maxRecDepth 100000 in
set_option maxHeartbeats 4000000 in
theorem c_X12_greatestOf {l : Launch} {V : EV} {G : GS} {S : HS} {a : Nat} {p0 : Int32} {r : Int32} (hN : G.1.Nodup) (hW : WT G S) (h_a : a ∈ G.1) (k_a : G.2.1 a = 12) (hf : s_X12_greatestOf G.2.2 a p0 S = some r) : MetI l yX12_greatestOf cX12_greatestOf 2 .int 3 87 V G S [.ref a, .int p0] r S := by
  intro sz
  refine x_in RX12 rfl (by decide +kernel) hN (Nat.le_of_ble_eq_true rfl) (fun p e s m args below meth c ls hsz hargs hnm C hP hS hl => ?_)
  subst hsz
  have hx := C.1
  have hb := C.2.1
  have hl : lv_has ls 2 [(0, .ref a), (1, .int p0)] := hl
  unfold s_X12_greatestOf at hf
  refine lv_aload_n hx hb dX12_greatestOf_0 rfl (lv_at hl 0 rfl) ?_
  refine lv_iload_n hx hb dX12_greatestOf_1 rfl (lv_at hl 1 rfl) ?_
  obtain ⟨r1, er1, hf⟩ := bd1_e hf
  refine x_aft_i (x_runV (As := [.int p0]) (rest := []) C hP hS (c_X12_highOf (l := l) C.2.2.2.2.2.2.2.2.2.1 hW h_a k_a er1 s.heap.size) h_a k_a (by decide) rfl rfl km_X12_highOf ki_X12_highOf qm_X12_258 ⟨(Nat.le_of_ble_eq_true rfl), (Nat.le_of_ble_eq_true rfl)⟩ rfl hl.1 rfl (Nat.le_of_ble_eq_true rfl) ⟨Nat.zero_le _, Nat.zero_le _⟩ dX12_greatestOf_2) hS (fun H locs hP hS hW => ?_)
  refine lv_aload_n hx hb dX12_greatestOf_5 rfl (lv_at hl 0 rfl) ?_
  refine lv_iload_n hx hb dX12_greatestOf_6 rfl (lv_at hl 1 rfl) ?_
  obtain ⟨r2, er2, hf⟩ := bd1_e hf
  refine x_aft_i (x_runV (As := [.int p0]) (rest := [.int r1]) C hP hS (c_X12_fracOf (l := l) C.2.2.2.2.2.2.2.2.2.1 hW h_a k_a er2 H.size) h_a k_a (by decide) rfl rfl km_X12_fracOf ki_X12_fracOf qm_X12_255 ⟨(Nat.le_of_ble_eq_true rfl), (Nat.le_of_ble_eq_true rfl)⟩ rfl hl.1 rfl (Nat.le_of_ble_eq_true rfl) ⟨Nat.zero_le _, Nat.zero_le _⟩ dX12_greatestOf_7) hS (fun H locs hP hS hW => ?_)
  refine lv_ishl hx hb dX12_greatestOf_10 ?_
  refine lv_iconst (v := 1) hx hb dX12_greatestOf_11 rfl ?_
  refine lv_aload_n hx hb dX12_greatestOf_12 rfl (lv_at hl 0 rfl) ?_
  refine lv_iload_n hx hb dX12_greatestOf_13 rfl (lv_at hl 1 rfl) ?_
  obtain ⟨r3, er3, hf⟩ := bd1_e hf
  refine x_aft_i (x_runV (As := [.int p0]) (rest := [.int 1, .int (r1 <<< (r2 &&& 31))]) C hP hS (c_X12_fracOf (l := l) C.2.2.2.2.2.2.2.2.2.1 hW h_a k_a er3 H.size) h_a k_a (by decide) rfl rfl km_X12_fracOf ki_X12_fracOf qm_X12_255 ⟨(Nat.le_of_ble_eq_true rfl), (Nat.le_of_ble_eq_true rfl)⟩ rfl hl.1 rfl (Nat.le_of_ble_eq_true rfl) ⟨Nat.zero_le _, Nat.zero_le _⟩ dX12_greatestOf_14) hS (fun H locs hP hS hW => ?_)
  refine lv_ishl hx hb dX12_greatestOf_17 ?_
  refine lv_iconst (v := 1) hx hb dX12_greatestOf_18 rfl ?_
  refine lv_isub hx hb dX12_greatestOf_19 ?_
  refine lv_ior hx hb dX12_greatestOf_20 ?_
  cases hf
  exact x_reti C hP hS hW dX12_greatestOf_21
def s_X12_infOf (N : Nat → Nat) (a : Nat) (p0 : Int32) (S : HS) : Option Int32 :=
  bd1 (s_X12_topOf N a p0 S) fun r1 =>
  bd1 (s_X12_fracOf N a p0 S) fun r2 =>
  some (r1 <<< (r2 &&& 31))
set_option maxRecDepth 100000 in
set_option maxHeartbeats 4000000 in
theorem c_X12_infOf {l : Launch} {V : EV} {G : GS} {S : HS} {a : Nat} {p0 : Int32} {r : Int32} (hN : G.1.Nodup) (hW : WT G S) (h_a : a ∈ G.1) (k_a : G.2.1 a = 12) (hf : s_X12_infOf G.2.2 a p0 S = some r) : MetI l yX12_infOf cX12_infOf 2 .int 2 58 V G S [.ref a, .int p0] r S := by
  intro sz
  refine x_in RX12 rfl (by decide +kernel) hN (Nat.le_of_ble_eq_true rfl) (fun p e s m args below meth c ls hsz hargs hnm C hP hS hl => ?_)
  subst hsz
  have hx := C.1
  have hb := C.2.1
  have hl : lv_has ls 2 [(0, .ref a), (1, .int p0)] := hl
  unfold s_X12_infOf at hf
  refine lv_aload_n hx hb dX12_infOf_0 rfl (lv_at hl 0 rfl) ?_
  refine lv_iload_n hx hb dX12_infOf_1 rfl (lv_at hl 1 rfl) ?_
  obtain ⟨r1, er1, hf⟩ := bd1_e hf
  refine x_aft_i (x_runV (As := [.int p0]) (rest := []) C hP hS (c_X12_topOf (l := l) C.2.2.2.2.2.2.2.2.2.1 hW h_a k_a er1 s.heap.size) h_a k_a (by decide) rfl rfl km_X12_topOf ki_X12_topOf qm_X12_252 ⟨(Nat.le_of_ble_eq_true rfl), (Nat.le_of_ble_eq_true rfl)⟩ rfl hl.1 rfl (Nat.le_of_ble_eq_true rfl) ⟨Nat.zero_le _, Nat.zero_le _⟩ dX12_infOf_2) hS (fun H locs hP hS hW => ?_)
  refine lv_aload_n hx hb dX12_infOf_5 rfl (lv_at hl 0 rfl) ?_
  refine lv_iload_n hx hb dX12_infOf_6 rfl (lv_at hl 1 rfl) ?_
  obtain ⟨r2, er2, hf⟩ := bd1_e hf
  refine x_aft_i (x_runV (As := [.int p0]) (rest := [.int r1]) C hP hS (c_X12_fracOf (l := l) C.2.2.2.2.2.2.2.2.2.1 hW h_a k_a er2 H.size) h_a k_a (by decide) rfl rfl km_X12_fracOf ki_X12_fracOf qm_X12_255 ⟨(Nat.le_of_ble_eq_true rfl), (Nat.le_of_ble_eq_true rfl)⟩ rfl hl.1 rfl (Nat.le_of_ble_eq_true rfl) ⟨Nat.zero_le _, Nat.zero_le _⟩ dX12_infOf_7) hS (fun H locs hP hS hW => ?_)
  refine lv_ishl hx hb dX12_infOf_10 ?_
  cases hf
  exact x_reti C hP hS hW dX12_infOf_11
def s_X12_isMinus (N : Nat → Nat) (a : Nat) (p0 : Int32) (p1 : Int32) (S : HS) : Option Int32 :=
  bd1 (s_X12_signOf N a p0 S) fun r1 =>
  if p1 < r1 then
  some 0
  else
  some 1
set_option maxRecDepth 100000 in
set_option maxHeartbeats 4000000 in
theorem c_X12_isMinus {l : Launch} {V : EV} {G : GS} {S : HS} {a : Nat} {p0 : Int32} {p1 : Int32} {r : Int32} (hN : G.1.Nodup) (hW : WT G S) (h_a : a ∈ G.1) (k_a : G.2.1 a = 12) (hf : s_X12_isMinus G.2.2 a p0 p1 S = some r) : MetZ l yX12_isMinus cX12_isMinus 3 2 58 V G S [.ref a, .int p0, .int p1] r S := by
  intro sz
  refine x_in RX12 rfl (by decide +kernel) hN (Nat.le_of_ble_eq_true rfl) (fun p e s m args below meth c ls hsz hargs hnm C hP hS hl => ?_)
  subst hsz
  have hx := C.1
  have hb := C.2.1
  have hl : lv_has ls 3 [(0, .ref a), (1, .int p0), (2, .int p1)] := hl
  unfold s_X12_isMinus at hf
  refine lv_iload_n hx hb dX12_isMinus_0 rfl (lv_at hl 2 rfl) ?_
  refine lv_aload_n hx hb dX12_isMinus_1 rfl (lv_at hl 0 rfl) ?_
  refine lv_iload_n hx hb dX12_isMinus_2 rfl (lv_at hl 1 rfl) ?_
  obtain ⟨r1, er1, hf⟩ := bd1_e hf
  refine x_aft_i (x_runV (As := [.int p0]) (rest := [.int p1]) C hP hS (c_X12_signOf (l := l) C.2.2.2.2.2.2.2.2.2.1 hW h_a k_a er1 s.heap.size) h_a k_a (by decide) rfl rfl km_X12_signOf ki_X12_signOf qm_X12_267 ⟨(Nat.le_of_ble_eq_true rfl), (Nat.le_of_ble_eq_true rfl)⟩ rfl hl.1 rfl (Nat.le_of_ble_eq_true rfl) ⟨Nat.zero_le _, Nat.zero_le _⟩ dX12_isMinus_3) hS (fun H locs hP hS hW => ?_)
  refine lv_icmp_lt (tgt := 13) hx hb dX12_isMinus_6 (by decide) (fun c2 => ?_) (fun c2 => ?_)
  · have hf := if_t c2 hf
    refine lv_iconst (v := 0) hx hb dX12_isMinus_13 rfl ?_
    cases hf
    exact x_retZ C hP hS hW isZ_0 dX12_isMinus_14
  · have hf := if_f c2 hf
    refine lv_iconst (v := 1) hx hb dX12_isMinus_9 rfl ?_
    refine lv_goto (tgt := 14) hx hb dX12_isMinus_10 (by decide) ?_
    cases hf
    exact x_retZ C hP hS hW isZ_1 dX12_isMinus_14
def s_X12_aboveOf_J37 (N : Nat → Nat) (v0 : Nat) (v1 : Int32) (v2 : Int32) (w0 : Int32) (w1 : Int32) (S : HS) : Option Int32 :=
  if w0 = w1 then
  some v1
  else
  bd1 (s_X12_classOf N v0 v2 v1 S) fun r9 =>
  if r9 = (0 : Int32) then
  some 1
  else
  bd1 (s_X12_isMinus N v0 v2 v1 S) fun r11 =>
  if r11 = (0 : Int32) then
  some (v1 + 1)
  else
  some (v1 - 1)
def s_X12_aboveOf (N : Nat → Nat) (a : Nat) (p0 : Int32) (S : HS) : Option Int32 :=
  bd1 (s_X12_used N a S) fun r1 =>
  bd1 (s_X12_isNan N a r1 p0 S) fun r2 =>
  if r2 = (0 : Int32) then
  bd1 (s_X12_kindOf N a r1 S) fun r5 =>
  if r5 = (3 : Int32) then
  bd1 (s_X12_greatestOf N a r1 S) fun r14 =>
  s_X12_aboveOf_J37 N a p0 r1 p0 r14 S
  else
  bd1 (s_X12_infOf N a r1 S) fun r7 =>
  s_X12_aboveOf_J37 N a p0 r1 p0 r7 S
  else
  some p0
set_option maxRecDepth 100000 in
set_option maxHeartbeats 4000000 in
theorem b_X12_aboveOf_37 {p : Program} {l : Launch} {e : Env} {s : State} {m : MethodId} {args : Array Value} {below : List Frame} {meth : Method} {c : Code} {V : EV} {G : GS} {r : Int32} (C : CX p s m args meth c RX12 cX12_aboveOf 3 (some .int) V G) : ∀ (v0 : Nat) (v1 : Int32) (v2 : Int32) (w0 : Int32) (w1 : Int32) (h_v0 : v0 ∈ G.1) (k_v0 : G.2.1 v0 = 12) (S : HS) (H : Heap) (locs : List Loc) (ls : Array Slot), s_X12_aboveOf_J37 G.2.2 v0 v1 v2 w0 w1 S = some r → HP V G S H → va_S (AG G s.heap.size) s.heap H locs → WT G S → lv_has ls 3 [(0, .ref v0), (1, .int v1), (2, .int v2)] → W p l e (RM 6 180) s m args below meth c H locs 0 0 (MQ below (QI V G S r s.heap.size) args s 0 0 (AG G s.heap.size)) (F0 m 37 ls [.int w1, .int w0]) := by
  intro v0 v1 v2 w0 w1 h_v0 k_v0 S H locs ls hf hP hS hW hl
  have hx := C.1
  have hb := C.2.1
  unfold s_X12_aboveOf_J37 at hf
  refine lv_icmp_ne (tgt := 42) hx hb dX12_aboveOf_37 (by decide) (fun c8 => ?_) (fun c8 => ?_)
  · have hf := if_f c8 hf
    refine lv_aload_n hx hb dX12_aboveOf_42 rfl (lv_at hl 0 rfl) ?_
    refine lv_iload_n hx hb dX12_aboveOf_43 rfl (lv_at hl 2 rfl) ?_
    refine lv_iload_n hx hb dX12_aboveOf_44 rfl (lv_at hl 1 rfl) ?_
    obtain ⟨r9, er9, hf⟩ := bd1_e hf
    refine x_aft_i (x_runV (As := [.int v2, .int v1]) (rest := []) C hP hS (c_X12_classOf (l := l) C.2.2.2.2.2.2.2.2.2.1 hW h_v0 k_v0 er9 H.size) h_v0 k_v0 (by decide) rfl rfl km_X12_classOf ki_X12_classOf qm_X12_276 ⟨(Nat.le_of_ble_eq_true rfl), (Nat.le_of_ble_eq_true rfl)⟩ rfl hl.1 rfl (Nat.le_of_ble_eq_true rfl) ⟨Nat.zero_le _, Nat.zero_le _⟩ dX12_aboveOf_45) hS (fun H locs hP hS hW => ?_)
    refine lv_if_ne (tgt := 53) hx hb dX12_aboveOf_48 (by decide) (fun c10 => ?_) (fun c10 => ?_)
    · have hf := if_f c10 hf
      refine lv_aload_n hx hb dX12_aboveOf_53 rfl (lv_at hl 0 rfl) ?_
      refine lv_iload_n hx hb dX12_aboveOf_54 rfl (lv_at hl 2 rfl) ?_
      refine lv_iload_n hx hb dX12_aboveOf_55 rfl (lv_at hl 1 rfl) ?_
      obtain ⟨r11, er11, hf⟩ := bd1_e hf
      refine x_aft_z (x_runV (As := [.int v2, .int v1]) (rest := []) C hP hS (c_X12_isMinus (l := l) C.2.2.2.2.2.2.2.2.2.1 hW h_v0 k_v0 er11 H.size) h_v0 k_v0 (by decide) rfl rfl km_X12_isMinus ki_X12_isMinus qm_X12_283 ⟨(Nat.le_of_ble_eq_true rfl), (Nat.le_of_ble_eq_true rfl)⟩ rfl hl.1 rfl (Nat.le_of_ble_eq_true rfl) ⟨Nat.zero_le _, Nat.zero_le _⟩ dX12_aboveOf_56) hS (fun H locs hP hS hW z12 => ?_)
      refine lv_if_eq (tgt := 68) hx hb dX12_aboveOf_59 (by decide) (fun c13 => ?_) (fun c13 => ?_)
      · have hf := if_t c13 hf
        refine lv_iload_n hx hb dX12_aboveOf_68 rfl (lv_at hl 1 rfl) ?_
        refine lv_iconst (v := 1) hx hb dX12_aboveOf_69 rfl ?_
        refine lv_iadd hx hb dX12_aboveOf_70 ?_
        cases hf
        exact x_reti C hP hS hW dX12_aboveOf_71
      · have hf := if_f c13 hf
        refine lv_iload_n hx hb dX12_aboveOf_62 rfl (lv_at hl 1 rfl) ?_
        refine lv_iconst (v := 1) hx hb dX12_aboveOf_63 rfl ?_
        refine lv_isub hx hb dX12_aboveOf_64 ?_
        refine lv_goto (tgt := 71) hx hb dX12_aboveOf_65 (by decide) ?_
        cases hf
        exact x_reti C hP hS hW dX12_aboveOf_71
    · have hf := if_t c10 hf
      refine lv_iconst (v := 1) hx hb dX12_aboveOf_51 rfl ?_
      cases hf
      exact x_reti C hP hS hW dX12_aboveOf_52
  · have hf := if_t c8 hf
    refine lv_iload_n hx hb dX12_aboveOf_40 rfl (lv_at hl 1 rfl) ?_
    cases hf
    exact x_reti C hP hS hW dX12_aboveOf_41
set_option maxRecDepth 100000 in
set_option maxHeartbeats 4000000 in
theorem c_X12_aboveOf {l : Launch} {V : EV} {G : GS} {S : HS} {a : Nat} {p0 : Int32} {r : Int32} (hN : G.1.Nodup) (hW : WT G S) (h_a : a ∈ G.1) (k_a : G.2.1 a = 12) (hf : s_X12_aboveOf G.2.2 a p0 S = some r) : MetI l yX12_aboveOf cX12_aboveOf 3 .int 6 180 V G S [.ref a, .int p0] r S := by
  intro sz
  refine x_in RX12 rfl (by decide +kernel) hN (Nat.le_of_ble_eq_true rfl) (fun p e s m args below meth c ls hsz hargs hnm C hP hS hl => ?_)
  subst hsz
  have hx := C.1
  have hb := C.2.1
  have hl : lv_has ls 3 [(0, .ref a), (1, .int p0)] := hl
  unfold s_X12_aboveOf at hf
  refine lv_aload_n hx hb dX12_aboveOf_0 rfl (lv_at hl 0 rfl) ?_
  obtain ⟨r1, er1, hf⟩ := bd1_e hf
  refine x_aft_i (x_runV (As := []) (rest := []) C hP hS (c_X12_used (l := l) C.2.2.2.2.2.2.2.2.2.1 hW h_a k_a er1 s.heap.size) h_a k_a (by decide) rfl rfl km_X12_used ki_X12_used qm_X12_357 ⟨(Nat.le_of_ble_eq_true rfl), (Nat.le_of_ble_eq_true rfl)⟩ rfl hl.1 rfl (Nat.le_of_ble_eq_true rfl) ⟨Nat.zero_le _, Nat.zero_le _⟩ dX12_aboveOf_1) hS (fun H locs hP hS hW => ?_)
  refine lv_istore_n (lv' := [(2, .int r1), (0, .ref a), (1, .int p0)]) hx hb dX12_aboveOf_4 rfl hl (by decide) rfl (fun ls hl => ?_)
  refine lv_aload_n hx hb dX12_aboveOf_5 rfl (lv_at hl 1 rfl) ?_
  refine lv_iload_n hx hb dX12_aboveOf_6 rfl (lv_at hl 0 rfl) ?_
  refine lv_iload_n hx hb dX12_aboveOf_7 rfl (lv_at hl 2 rfl) ?_
  obtain ⟨r2, er2, hf⟩ := bd1_e hf
  refine x_aft_z (x_runV (As := [.int r1, .int p0]) (rest := []) C hP hS (c_X12_isNan (l := l) C.2.2.2.2.2.2.2.2.2.1 hW h_a k_a er2 H.size) h_a k_a (by decide) rfl rfl km_X12_isNan ki_X12_isNan qm_X12_279 ⟨(Nat.le_of_ble_eq_true rfl), (Nat.le_of_ble_eq_true rfl)⟩ rfl hl.1 rfl (Nat.le_of_ble_eq_true rfl) ⟨Nat.zero_le _, Nat.zero_le _⟩ dX12_aboveOf_8) hS (fun H locs hP hS hW z3 => ?_)
  refine lv_if_ne (tgt := 40) hx hb dX12_aboveOf_11 (by decide) (fun c4 => ?_) (fun c4 => ?_)
  · have hf := if_f c4 hf
    refine lv_iload_n hx hb dX12_aboveOf_40 rfl (lv_at hl 2 rfl) ?_
    cases hf
    exact x_reti C hP hS hW dX12_aboveOf_41
  · have hf := if_t c4 hf
    refine lv_iload_n hx hb dX12_aboveOf_14 rfl (lv_at hl 2 rfl) ?_
    refine lv_aload_n hx hb dX12_aboveOf_15 rfl (lv_at hl 1 rfl) ?_
    refine lv_iload_n hx hb dX12_aboveOf_16 rfl (lv_at hl 0 rfl) ?_
    obtain ⟨r5, er5, hf⟩ := bd1_e hf
    refine x_aft_i (x_runV (As := [.int r1]) (rest := [.int p0]) C hP hS (c_X12_kindOf (l := l) C.2.2.2.2.2.2.2.2.2.1 hW h_a k_a er5 H.size) h_a k_a (by decide) rfl rfl km_X12_kindOf ki_X12_kindOf qm_X12_249 ⟨(Nat.le_of_ble_eq_true rfl), (Nat.le_of_ble_eq_true rfl)⟩ rfl hl.1 rfl (Nat.le_of_ble_eq_true rfl) ⟨Nat.zero_le _, Nat.zero_le _⟩ dX12_aboveOf_17) hS (fun H locs hP hS hW => ?_)
    refine lv_iconst (v := 3) hx hb dX12_aboveOf_20 rfl ?_
    refine lv_icmp_ne (tgt := 32) hx hb dX12_aboveOf_21 (by decide) (fun c6 => ?_) (fun c6 => ?_)
    · have hf := if_f c6 hf
      refine lv_aload_n hx hb dX12_aboveOf_32 rfl (lv_at hl 1 rfl) ?_
      refine lv_iload_n hx hb dX12_aboveOf_33 rfl (lv_at hl 0 rfl) ?_
      obtain ⟨r7, er7, hf⟩ := bd1_e hf
      refine x_aft_i (x_runV (As := [.int r1]) (rest := [.int p0]) C hP hS (c_X12_infOf (l := l) C.2.2.2.2.2.2.2.2.2.1 hW h_a k_a er7 H.size) h_a k_a (by decide) rfl rfl km_X12_infOf ki_X12_infOf qm_X12_261 ⟨(Nat.le_of_ble_eq_true rfl), (Nat.le_of_ble_eq_true rfl)⟩ rfl hl.1 rfl (Nat.le_of_ble_eq_true rfl) ⟨Nat.zero_le _, Nat.zero_le _⟩ dX12_aboveOf_34) hS (fun H locs hP hS hW => ?_)
      exact b_X12_aboveOf_37 C a p0 r1 p0 r7 h_a k_a S H locs _ hf hP hS hW (lv_sub hl [1, 2, 0] rfl)
    · have hf := if_t c6 hf
      refine lv_aload_n hx hb dX12_aboveOf_24 rfl (lv_at hl 1 rfl) ?_
      refine lv_iload_n hx hb dX12_aboveOf_25 rfl (lv_at hl 0 rfl) ?_
      obtain ⟨r14, er14, hf⟩ := bd1_e hf
      refine x_aft_i (x_runV (As := [.int r1]) (rest := [.int p0]) C hP hS (c_X12_greatestOf (l := l) C.2.2.2.2.2.2.2.2.2.1 hW h_a k_a er14 H.size) h_a k_a (by decide) rfl rfl km_X12_greatestOf ki_X12_greatestOf qm_X12_327 ⟨(Nat.le_of_ble_eq_true rfl), (Nat.le_of_ble_eq_true rfl)⟩ rfl hl.1 rfl (Nat.le_of_ble_eq_true rfl) ⟨Nat.zero_le _, Nat.zero_le _⟩ dX12_aboveOf_26) hS (fun H locs hP hS hW => ?_)
      refine lv_goto (tgt := 37) hx hb dX12_aboveOf_29 (by decide) ?_
      exact b_X12_aboveOf_37 C a p0 r1 p0 r14 h_a k_a S H locs _ hf hP hS hW (lv_sub hl [1, 2, 0] rfl)
def s_X12_above (N : Nat → Nat) (a : Nat) (p0 : Int32) (S : HS) : Option (Int32 × HS) :=
  bnd (uI S 1200 a 0) fun S1 =>
  bd1 (s_X12_used N a S1) fun r2 =>
  bd1 (s_X12_isBits N a r2 p0 S1) fun r3 =>
  if r3 = (0 : Int32) then
  some ((-1), S1)
  else
  bd1 (s_X12_aboveOf N a p0 S1) fun r6 =>
  some (r6, S1)
set_option maxRecDepth 100000 in
set_option maxHeartbeats 4000000 in
theorem c_X12_above {l : Launch} {V : EV} {G : GS} {S : HS} {a : Nat} {p0 : Int32} {r : Int32} {S' : HS} (hN : G.1.Nodup) (hW : WT G S) (h_a : a ∈ G.1) (k_a : G.2.1 a = 12) (hf : s_X12_above G.2.2 a p0 S = some (r, S')) : MetI l yX12_above cX12_above 2 .int 7 210 V G S [.ref a, .int p0] r S' := by
  intro sz
  refine x_in RX12 rfl (by decide +kernel) hN (Nat.le_of_ble_eq_true rfl) (fun p e s m args below meth c ls hsz hargs hnm C hP hS hl => ?_)
  subst hsz
  have hx := C.1
  have hb := C.2.1
  have hl : lv_has ls 2 [(0, .ref a), (1, .int p0)] := hl
  unfold s_X12_above at hf
  refine lv_aload_n hx hb dX12_above_0 rfl (lv_at hl 0 rfl) ?_
  refine lv_iconst (v := 0) hx hb dX12_above_1 rfl ?_
  obtain ⟨S1, eS1, hf⟩ := bnd_e hf
  refine pf_X12_1 C hP hS h_a k_a eS1 dX12_above_2 (fun H locs hP hS => ?_)
  have hW : WT G S1 := by rw [eS1]; exact hW
  refine lv_aload_n hx hb dX12_above_5 rfl (lv_at hl 0 rfl) ?_
  refine lv_aload_n hx hb dX12_above_6 rfl (lv_at hl 0 rfl) ?_
  obtain ⟨r2, er2, hf⟩ := bd1_e hf
  refine x_aft_i (x_runV (As := []) (rest := [.ref a]) C hP hS (c_X12_used (l := l) C.2.2.2.2.2.2.2.2.2.1 hW h_a k_a er2 H.size) h_a k_a (by decide) rfl rfl km_X12_used ki_X12_used qm_X12_357 ⟨(Nat.le_of_ble_eq_true rfl), (Nat.le_of_ble_eq_true rfl)⟩ rfl hl.1 rfl (Nat.le_of_ble_eq_true rfl) ⟨Nat.zero_le _, Nat.zero_le _⟩ dX12_above_7) hS (fun H locs hP hS hW => ?_)
  refine lv_iload_n hx hb dX12_above_10 rfl (lv_at hl 1 rfl) ?_
  obtain ⟨r3, er3, hf⟩ := bd1_e hf
  refine x_aft_z (x_runV (As := [.int r2, .int p0]) (rest := []) C hP hS (c_X12_isBits (l := l) C.2.2.2.2.2.2.2.2.2.1 hW h_a k_a er3 H.size) h_a k_a (by decide) rfl rfl km_X12_isBits ki_X12_isBits qm_X12_363 ⟨(Nat.le_of_ble_eq_true rfl), (Nat.le_of_ble_eq_true rfl)⟩ rfl hl.1 rfl (Nat.le_of_ble_eq_true rfl) ⟨Nat.zero_le _, Nat.zero_le _⟩ dX12_above_11) hS (fun H locs hP hS hW z4 => ?_)
  refine lv_if_eq (tgt := 25) hx hb dX12_above_14 (by decide) (fun c5 => ?_) (fun c5 => ?_)
  · have hf := if_t c5 hf
    refine lv_iconst (v := (-1)) hx hb dX12_above_25 rfl ?_
    cases hf
    exact x_reti C hP hS hW dX12_above_26
  · have hf := if_f c5 hf
    refine lv_aload_n hx hb dX12_above_17 rfl (lv_at hl 0 rfl) ?_
    refine lv_iload_n hx hb dX12_above_18 rfl (lv_at hl 1 rfl) ?_
    obtain ⟨r6, er6, hf⟩ := bd1_e hf
    refine x_aft_i (x_runV (As := [.int p0]) (rest := []) C hP hS (c_X12_aboveOf (l := l) C.2.2.2.2.2.2.2.2.2.1 hW h_a k_a er6 H.size) h_a k_a (by decide) rfl rfl km_X12_aboveOf ki_X12_aboveOf qm_X12_409 ⟨(Nat.le_of_ble_eq_true rfl), (Nat.le_of_ble_eq_true rfl)⟩ rfl hl.1 rfl (Nat.le_of_ble_eq_true rfl) ⟨Nat.zero_le _, Nat.zero_le _⟩ dX12_above_19) hS (fun H locs hP hS hW => ?_)
    refine lv_goto (tgt := 26) hx hb dX12_above_22 (by decide) ?_
    cases hf
    exact x_reti C hP hS hW dX12_above_26
def s_X12_allBits (N : Nat → Nat) (a : Nat) (S : HS) : Option Int32 :=
  bd1 (s_X12_used N a S) fun r1 =>
  bd1 (s_X12_signOf N a r1 S) fun r2 =>
  some (2 * r2)
set_option maxRecDepth 100000 in
set_option maxHeartbeats 4000000 in
theorem c_X12_allBits {l : Launch} {V : EV} {G : GS} {S : HS} {a : Nat} {r : Int32} (hN : G.1.Nodup) (hW : WT G S) (h_a : a ∈ G.1) (k_a : G.2.1 a = 12) (hf : s_X12_allBits G.2.2 a S = some r) : MetI l yX12_allBits cX12_allBits 1 .int 2 58 V G S [.ref a] r S := by
  intro sz
  refine x_in RX12 rfl (by decide +kernel) hN (Nat.le_of_ble_eq_true rfl) (fun p e s m args below meth c ls hsz hargs hnm C hP hS hl => ?_)
  subst hsz
  have hx := C.1
  have hb := C.2.1
  have hl : lv_has ls 1 [(0, .ref a)] := hl
  unfold s_X12_allBits at hf
  refine lv_iconst (v := 2) hx hb dX12_allBits_0 rfl ?_
  refine lv_aload_n hx hb dX12_allBits_1 rfl (lv_at hl 0 rfl) ?_
  refine lv_aload_n hx hb dX12_allBits_2 rfl (lv_at hl 0 rfl) ?_
  obtain ⟨r1, er1, hf⟩ := bd1_e hf
  refine x_aft_i (x_runV (As := []) (rest := [.ref a, .int 2]) C hP hS (c_X12_used (l := l) C.2.2.2.2.2.2.2.2.2.1 hW h_a k_a er1 s.heap.size) h_a k_a (by decide) rfl rfl km_X12_used ki_X12_used qm_X12_357 ⟨(Nat.le_of_ble_eq_true rfl), (Nat.le_of_ble_eq_true rfl)⟩ rfl hl.1 rfl (Nat.le_of_ble_eq_true rfl) ⟨Nat.zero_le _, Nat.zero_le _⟩ dX12_allBits_3) hS (fun H locs hP hS hW => ?_)
  obtain ⟨r2, er2, hf⟩ := bd1_e hf
  refine x_aft_i (x_runV (As := [.int r1]) (rest := [.int 2]) C hP hS (c_X12_signOf (l := l) C.2.2.2.2.2.2.2.2.2.1 hW h_a k_a er2 H.size) h_a k_a (by decide) rfl rfl km_X12_signOf ki_X12_signOf qm_X12_267 ⟨(Nat.le_of_ble_eq_true rfl), (Nat.le_of_ble_eq_true rfl)⟩ rfl hl.1 rfl (Nat.le_of_ble_eq_true rfl) ⟨Nat.zero_le _, Nat.zero_le _⟩ dX12_allBits_6) hS (fun H locs hP hS hW => ?_)
  refine lv_imul hx hb dX12_allBits_9 ?_
  cases hf
  exact x_reti C hP hS hW dX12_allBits_10
def s_X12_sumClass (N : Nat → Nat) (a : Nat) (p0 : Int32) (p1 : Int32) (S : HS) : Option Int32 :=
  bd1 (s_X12_classOf N a p0 p1 S) fun r1 =>
  if r1 = (1 : Int32) then
  bd1 (s_X12_kindOf N a p0 S) fun r3 =>
  if r3 = (1 : Int32) then
  some 0
  else
  some r1
  else
  some r1
set_option maxRecDepth 100000 in
set_option maxHeartbeats 4000000 in
theorem c_X12_sumClass {l : Launch} {V : EV} {G : GS} {S : HS} {a : Nat} {p0 : Int32} {p1 : Int32} {r : Int32} (hN : G.1.Nodup) (hW : WT G S) (h_a : a ∈ G.1) (k_a : G.2.1 a = 12) (hf : s_X12_sumClass G.2.2 a p0 p1 S = some r) : MetI l yX12_sumClass cX12_sumClass 4 .int 5 150 V G S [.ref a, .int p0, .int p1] r S := by
  intro sz
  refine x_in RX12 rfl (by decide +kernel) hN (Nat.le_of_ble_eq_true rfl) (fun p e s m args below meth c ls hsz hargs hnm C hP hS hl => ?_)
  subst hsz
  have hx := C.1
  have hb := C.2.1
  have hl : lv_has ls 4 [(0, .ref a), (1, .int p0), (2, .int p1)] := hl
  unfold s_X12_sumClass at hf
  refine lv_aload_n hx hb dX12_sumClass_0 rfl (lv_at hl 0 rfl) ?_
  refine lv_iload_n hx hb dX12_sumClass_1 rfl (lv_at hl 1 rfl) ?_
  refine lv_iload_n hx hb dX12_sumClass_2 rfl (lv_at hl 2 rfl) ?_
  obtain ⟨r1, er1, hf⟩ := bd1_e hf
  refine x_aft_i (x_runV (As := [.int p0, .int p1]) (rest := []) C hP hS (c_X12_classOf (l := l) C.2.2.2.2.2.2.2.2.2.1 hW h_a k_a er1 s.heap.size) h_a k_a (by decide) rfl rfl km_X12_classOf ki_X12_classOf qm_X12_276 ⟨(Nat.le_of_ble_eq_true rfl), (Nat.le_of_ble_eq_true rfl)⟩ rfl hl.1 rfl (Nat.le_of_ble_eq_true rfl) ⟨Nat.zero_le _, Nat.zero_le _⟩ dX12_sumClass_3) hS (fun H locs hP hS hW => ?_)
  refine lv_istore_n (lv' := [(3, .int r1), (0, .ref a), (1, .int p0), (2, .int p1)]) hx hb dX12_sumClass_6 rfl hl (by decide) rfl (fun ls hl => ?_)
  refine lv_iload_n hx hb dX12_sumClass_7 rfl (lv_at hl 0 rfl) ?_
  refine lv_iconst (v := 1) hx hb dX12_sumClass_8 rfl ?_
  refine lv_icmp_ne (tgt := 25) hx hb dX12_sumClass_9 (by decide) (fun c2 => ?_) (fun c2 => ?_)
  · have hf := if_f c2 hf
    refine lv_iload_n hx hb dX12_sumClass_25 rfl (lv_at hl 0 rfl) ?_
    cases hf
    exact x_reti C hP hS hW dX12_sumClass_26
  · have hf := if_t c2 hf
    refine lv_aload_n hx hb dX12_sumClass_12 rfl (lv_at hl 1 rfl) ?_
    refine lv_iload_n hx hb dX12_sumClass_13 rfl (lv_at hl 2 rfl) ?_
    obtain ⟨r3, er3, hf⟩ := bd1_e hf
    refine x_aft_i (x_runV (As := [.int p0]) (rest := []) C hP hS (c_X12_kindOf (l := l) C.2.2.2.2.2.2.2.2.2.1 hW h_a k_a er3 H.size) h_a k_a (by decide) rfl rfl km_X12_kindOf ki_X12_kindOf qm_X12_249 ⟨(Nat.le_of_ble_eq_true rfl), (Nat.le_of_ble_eq_true rfl)⟩ rfl hl.1 rfl (Nat.le_of_ble_eq_true rfl) ⟨Nat.zero_le _, Nat.zero_le _⟩ dX12_sumClass_14) hS (fun H locs hP hS hW => ?_)
    refine lv_iconst (v := 1) hx hb dX12_sumClass_17 rfl ?_
    refine lv_icmp_ne (tgt := 25) hx hb dX12_sumClass_18 (by decide) (fun c4 => ?_) (fun c4 => ?_)
    · have hf := if_f c4 hf
      refine lv_iload_n hx hb dX12_sumClass_25 rfl (lv_at hl 0 rfl) ?_
      cases hf
      exact x_reti C hP hS hW dX12_sumClass_26
    · have hf := if_t c4 hf
      refine lv_iconst (v := 0) hx hb dX12_sumClass_21 rfl ?_
      refine lv_goto (tgt := 26) hx hb dX12_sumClass_22 (by decide) ?_
      cases hf
      exact x_reti C hP hS hW dX12_sumClass_26
def s_X12_nanOf (N : Nat → Nat) (a : Nat) (p0 : Int32) (S : HS) : Option Int32 :=
  bd1 (s_X12_kindOf N a p0 S) fun r1 =>
  if r1 = (3 : Int32) then
  some (-1)
  else
  bd1 (s_X12_infOf N a p0 S) fun r3 =>
  bd1 (s_X12_fracOf N a p0 S) fun r4 =>
  some (r3 ||| ((1 : Int32) <<< ((r4 - 1) &&& 31)))
set_option maxRecDepth 100000 in
set_option maxHeartbeats 4000000 in
theorem c_X12_nanOf {l : Launch} {V : EV} {G : GS} {S : HS} {a : Nat} {p0 : Int32} {r : Int32} (hN : G.1.Nodup) (hW : WT G S) (h_a : a ∈ G.1) (k_a : G.2.1 a = 12) (hf : s_X12_nanOf G.2.2 a p0 S = some r) : MetI l yX12_nanOf cX12_nanOf 2 .int 3 87 V G S [.ref a, .int p0] r S := by
  intro sz
  refine x_in RX12 rfl (by decide +kernel) hN (Nat.le_of_ble_eq_true rfl) (fun p e s m args below meth c ls hsz hargs hnm C hP hS hl => ?_)
  subst hsz
  have hx := C.1
  have hb := C.2.1
  have hl : lv_has ls 2 [(0, .ref a), (1, .int p0)] := hl
  unfold s_X12_nanOf at hf
  refine lv_aload_n hx hb dX12_nanOf_0 rfl (lv_at hl 0 rfl) ?_
  refine lv_iload_n hx hb dX12_nanOf_1 rfl (lv_at hl 1 rfl) ?_
  obtain ⟨r1, er1, hf⟩ := bd1_e hf
  refine x_aft_i (x_runV (As := [.int p0]) (rest := []) C hP hS (c_X12_kindOf (l := l) C.2.2.2.2.2.2.2.2.2.1 hW h_a k_a er1 s.heap.size) h_a k_a (by decide) rfl rfl km_X12_kindOf ki_X12_kindOf qm_X12_249 ⟨(Nat.le_of_ble_eq_true rfl), (Nat.le_of_ble_eq_true rfl)⟩ rfl hl.1 rfl (Nat.le_of_ble_eq_true rfl) ⟨Nat.zero_le _, Nat.zero_le _⟩ dX12_nanOf_2) hS (fun H locs hP hS hW => ?_)
  refine lv_iconst (v := 3) hx hb dX12_nanOf_5 rfl ?_
  refine lv_icmp_ne (tgt := 13) hx hb dX12_nanOf_6 (by decide) (fun c2 => ?_) (fun c2 => ?_)
  · have hf := if_f c2 hf
    refine lv_aload_n hx hb dX12_nanOf_13 rfl (lv_at hl 0 rfl) ?_
    refine lv_iload_n hx hb dX12_nanOf_14 rfl (lv_at hl 1 rfl) ?_
    obtain ⟨r3, er3, hf⟩ := bd1_e hf
    refine x_aft_i (x_runV (As := [.int p0]) (rest := []) C hP hS (c_X12_infOf (l := l) C.2.2.2.2.2.2.2.2.2.1 hW h_a k_a er3 H.size) h_a k_a (by decide) rfl rfl km_X12_infOf ki_X12_infOf qm_X12_261 ⟨(Nat.le_of_ble_eq_true rfl), (Nat.le_of_ble_eq_true rfl)⟩ rfl hl.1 rfl (Nat.le_of_ble_eq_true rfl) ⟨Nat.zero_le _, Nat.zero_le _⟩ dX12_nanOf_15) hS (fun H locs hP hS hW => ?_)
    refine lv_iconst (v := 1) hx hb dX12_nanOf_18 rfl ?_
    refine lv_aload_n hx hb dX12_nanOf_19 rfl (lv_at hl 0 rfl) ?_
    refine lv_iload_n hx hb dX12_nanOf_20 rfl (lv_at hl 1 rfl) ?_
    obtain ⟨r4, er4, hf⟩ := bd1_e hf
    refine x_aft_i (x_runV (As := [.int p0]) (rest := [.int 1, .int r3]) C hP hS (c_X12_fracOf (l := l) C.2.2.2.2.2.2.2.2.2.1 hW h_a k_a er4 H.size) h_a k_a (by decide) rfl rfl km_X12_fracOf ki_X12_fracOf qm_X12_255 ⟨(Nat.le_of_ble_eq_true rfl), (Nat.le_of_ble_eq_true rfl)⟩ rfl hl.1 rfl (Nat.le_of_ble_eq_true rfl) ⟨Nat.zero_le _, Nat.zero_le _⟩ dX12_nanOf_21) hS (fun H locs hP hS hW => ?_)
    refine lv_iconst (v := 1) hx hb dX12_nanOf_24 rfl ?_
    refine lv_isub hx hb dX12_nanOf_25 ?_
    refine lv_ishl hx hb dX12_nanOf_26 ?_
    refine lv_ior hx hb dX12_nanOf_27 ?_
    cases hf
    exact x_reti C hP hS hW dX12_nanOf_28
  · have hf := if_t c2 hf
    refine lv_iconst (v := (-1)) hx hb dX12_nanOf_9 rfl ?_
    refine lv_goto (tgt := 28) hx hb dX12_nanOf_10 (by decide) ?_
    cases hf
    exact x_reti C hP hS hW dX12_nanOf_28
def s_X12_tells (a : Nat) (p0 : Int32) (p1 : Int32) (S : HS) : (Int32 × HS) :=
  bnd (uI S 1220 a p1) fun S1 =>
  bnd (uI S1 1221 a 0) fun S2 =>
  bnd (uI S2 1222 a 0) fun S3 =>
  bnd (uI S3 1223 a 0) fun S4 =>
  bnd (uI S4 1224 a 0) fun S5 =>
  (p0, S5)
set_option maxRecDepth 100000 in
set_option maxHeartbeats 4000000 in
theorem c_X12_tells {l : Launch} {V : EV} {G : GS} {S : HS} {a : Nat} {p0 : Int32} {p1 : Int32} {r : Int32} {S' : HS} (hN : G.1.Nodup) (hW : WT G S) (h_a : a ∈ G.1) (k_a : G.2.1 a = 12) (hf : s_X12_tells a p0 p1 S = (r, S')) : MetI l yX12_tells cX12_tells 3 .int 0 0 V G S [.ref a, .int p0, .int p1] r S' := by
  intro sz
  refine x_in RX12 rfl (by decide +kernel) hN (Nat.le_of_ble_eq_true rfl) (fun p e s m args below meth c ls hsz hargs hnm C hP hS hl => ?_)
  subst hsz
  have hx := C.1
  have hb := C.2.1
  have hl : lv_has ls 3 [(0, .ref a), (1, .int p0), (2, .int p1)] := hl
  unfold s_X12_tells at hf
  refine lv_aload_n hx hb dX12_tells_0 rfl (lv_at hl 0 rfl) ?_
  refine lv_iload_n hx hb dX12_tells_1 rfl (lv_at hl 2 rfl) ?_
  obtain ⟨S1, eS1, hf⟩ := bnd_e hf
  refine pf_X12_315 C hP hS h_a k_a eS1 dX12_tells_2 (fun H locs hP hS => ?_)
  have hW : WT G S1 := by rw [eS1]; exact hW
  refine lv_aload_n hx hb dX12_tells_5 rfl (lv_at hl 0 rfl) ?_
  refine lv_iconst (v := 0) hx hb dX12_tells_6 rfl ?_
  obtain ⟨S2, eS2, hf⟩ := bnd_e hf
  refine pf_X12_312 C hP hS h_a k_a isZ_0 eS2 dX12_tells_7 (fun H locs hP hS => ?_)
  have hW : WT G S2 := by rw [eS2]; exact hW
  refine lv_aload_n hx hb dX12_tells_10 rfl (lv_at hl 0 rfl) ?_
  refine lv_iconst (v := 0) hx hb dX12_tells_11 rfl ?_
  obtain ⟨S3, eS3, hf⟩ := bnd_e hf
  refine pf_X12_289 C hP hS h_a k_a isZ_0 eS3 dX12_tells_12 (fun H locs hP hS => ?_)
  have hW : WT G S3 := by rw [eS3]; exact hW
  refine lv_aload_n hx hb dX12_tells_15 rfl (lv_at hl 0 rfl) ?_
  refine lv_iconst (v := 0) hx hb dX12_tells_16 rfl ?_
  obtain ⟨S4, eS4, hf⟩ := bnd_e hf
  refine pf_X12_293 C hP hS h_a k_a isZ_0 eS4 dX12_tells_17 (fun H locs hP hS => ?_)
  have hW : WT G S4 := by rw [eS4]; exact hW
  refine lv_aload_n hx hb dX12_tells_20 rfl (lv_at hl 0 rfl) ?_
  refine lv_iconst (v := 0) hx hb dX12_tells_21 rfl ?_
  obtain ⟨S5, eS5, hf⟩ := bnd_e hf
  refine pf_X12_318 C hP hS h_a k_a eS5 dX12_tells_22 (fun H locs hP hS => ?_)
  have hW : WT G S5 := by rw [eS5]; exact hW
  refine lv_iload_n hx hb dX12_tells_25 rfl (lv_at hl 1 rfl) ?_
  cases hf
  exact x_reti C hP hS hW dX12_tells_26
def s_X12_wholeOf (N : Nat → Nat) (a : Nat) (p0 : Int32) (p1 : Int32) (S : HS) : Option Int64 :=
  bd1 (s_X12_exponentOf N a p0 p1 S) fun r1 =>
  bd1 (s_X12_fracOf N a p0 S) fun r2 =>
  if r1 = (0 : Int32) then
  some (((p1 &&& (((1 : Int32) <<< (r2 &&& 31)) - 1)) + 0).toInt64)
  else
  bd1 (s_X12_fracOf N a p0 S) fun r4 =>
  some (((p1 &&& (((1 : Int32) <<< (r2 &&& 31)) - 1)) + ((1 : Int32) <<< (r4 &&& 31))).toInt64)
set_option maxRecDepth 100000 in
set_option maxHeartbeats 4000000 in
theorem c_X12_wholeOf {l : Launch} {V : EV} {G : GS} {S : HS} {a : Nat} {p0 : Int32} {p1 : Int32} {r : Int64} (hN : G.1.Nodup) (hW : WT G S) (h_a : a ∈ G.1) (k_a : G.2.1 a = 12) (hf : s_X12_wholeOf G.2.2 a p0 p1 S = some r) : MetJ l yX12_wholeOf cX12_wholeOf 4 4 118 V G S [.ref a, .int p0, .int p1] r S := by
  intro sz
  refine x_in RX12 rfl (by decide +kernel) hN (Nat.le_of_ble_eq_true rfl) (fun p e s m args below meth c ls hsz hargs hnm C hP hS hl => ?_)
  subst hsz
  have hx := C.1
  have hb := C.2.1
  have hl : lv_has ls 4 [(0, .ref a), (1, .int p0), (2, .int p1)] := hl
  unfold s_X12_wholeOf at hf
  refine lv_aload_n hx hb dX12_wholeOf_0 rfl (lv_at hl 0 rfl) ?_
  refine lv_iload_n hx hb dX12_wholeOf_1 rfl (lv_at hl 1 rfl) ?_
  refine lv_iload_n hx hb dX12_wholeOf_2 rfl (lv_at hl 2 rfl) ?_
  obtain ⟨r1, er1, hf⟩ := bd1_e hf
  refine x_aft_i (x_runV (As := [.int p0, .int p1]) (rest := []) C hP hS (c_X12_exponentOf (l := l) C.2.2.2.2.2.2.2.2.2.1 hW h_a k_a er1 s.heap.size) h_a k_a (by decide) rfl rfl km_X12_exponentOf ki_X12_exponentOf qm_X12_273 ⟨(Nat.le_of_ble_eq_true rfl), (Nat.le_of_ble_eq_true rfl)⟩ rfl hl.1 rfl (Nat.le_of_ble_eq_true rfl) ⟨Nat.zero_le _, Nat.zero_le _⟩ dX12_wholeOf_3) hS (fun H locs hP hS hW => ?_)
  refine lv_istore_n (lv' := [(3, .int r1), (0, .ref a), (1, .int p0), (2, .int p1)]) hx hb dX12_wholeOf_6 rfl hl (by decide) rfl (fun ls hl => ?_)
  refine lv_iload_n hx hb dX12_wholeOf_7 rfl (lv_at hl 3 rfl) ?_
  refine lv_iconst (v := 1) hx hb dX12_wholeOf_8 rfl ?_
  refine lv_aload_n hx hb dX12_wholeOf_9 rfl (lv_at hl 1 rfl) ?_
  refine lv_iload_n hx hb dX12_wholeOf_10 rfl (lv_at hl 2 rfl) ?_
  obtain ⟨r2, er2, hf⟩ := bd1_e hf
  refine x_aft_i (x_runV (As := [.int p0]) (rest := [.int 1, .int p1]) C hP hS (c_X12_fracOf (l := l) C.2.2.2.2.2.2.2.2.2.1 hW h_a k_a er2 H.size) h_a k_a (by decide) rfl rfl km_X12_fracOf ki_X12_fracOf qm_X12_255 ⟨(Nat.le_of_ble_eq_true rfl), (Nat.le_of_ble_eq_true rfl)⟩ rfl hl.1 rfl (Nat.le_of_ble_eq_true rfl) ⟨Nat.zero_le _, Nat.zero_le _⟩ dX12_wholeOf_11) hS (fun H locs hP hS hW => ?_)
  refine lv_ishl hx hb dX12_wholeOf_14 ?_
  refine lv_iconst (v := 1) hx hb dX12_wholeOf_15 rfl ?_
  refine lv_isub hx hb dX12_wholeOf_16 ?_
  refine lv_iand hx hb dX12_wholeOf_17 ?_
  refine lv_iload_n hx hb dX12_wholeOf_18 rfl (lv_at hl 0 rfl) ?_
  refine lv_if_ne (tgt := 26) hx hb dX12_wholeOf_19 (by decide) (fun c3 => ?_) (fun c3 => ?_)
  · have hf := if_f c3 hf
    refine lv_iconst (v := 1) hx hb dX12_wholeOf_26 rfl ?_
    refine lv_aload_n hx hb dX12_wholeOf_27 rfl (lv_at hl 1 rfl) ?_
    refine lv_iload_n hx hb dX12_wholeOf_28 rfl (lv_at hl 2 rfl) ?_
    obtain ⟨r4, er4, hf⟩ := bd1_e hf
    refine x_aft_i (x_runV (As := [.int p0]) (rest := [.int 1, .int (p1 &&& (((1 : Int32) <<< (r2 &&& 31)) - 1))]) C hP hS (c_X12_fracOf (l := l) C.2.2.2.2.2.2.2.2.2.1 hW h_a k_a er4 H.size) h_a k_a (by decide) rfl rfl km_X12_fracOf ki_X12_fracOf qm_X12_255 ⟨(Nat.le_of_ble_eq_true rfl), (Nat.le_of_ble_eq_true rfl)⟩ rfl hl.1 rfl (Nat.le_of_ble_eq_true rfl) ⟨Nat.zero_le _, Nat.zero_le _⟩ dX12_wholeOf_29) hS (fun H locs hP hS hW => ?_)
    refine lv_ishl hx hb dX12_wholeOf_32 ?_
    refine lv_iadd hx hb dX12_wholeOf_33 ?_
    refine lv_i2l hx hb dX12_wholeOf_34 rfl ?_
    cases hf
    exact x_retl C hP hS hW dX12_wholeOf_35
  · have hf := if_t c3 hf
    refine lv_iconst (v := 0) hx hb dX12_wholeOf_22 rfl ?_
    refine lv_goto (tgt := 33) hx hb dX12_wholeOf_23 (by decide) ?_
    refine lv_iadd hx hb dX12_wholeOf_33 ?_
    refine lv_i2l hx hb dX12_wholeOf_34 rfl ?_
    cases hf
    exact x_retl C hP hS hW dX12_wholeOf_35
def s_X12_biasOf (N : Nat → Nat) (a : Nat) (p0 : Int32) (S : HS) : Option Int32 :=
  bd1 (s_X12_expOf N a p0 S) fun r1 =>
  some (((1 : Int32) <<< ((r1 - 1) &&& 31)) - 1)
set_option maxRecDepth 100000 in
set_option maxHeartbeats 4000000 in
theorem c_X12_biasOf {l : Launch} {V : EV} {G : GS} {S : HS} {a : Nat} {p0 : Int32} {r : Int32} (hN : G.1.Nodup) (hW : WT G S) (h_a : a ∈ G.1) (k_a : G.2.1 a = 12) (hf : s_X12_biasOf G.2.2 a p0 S = some r) : MetI l yX12_biasOf cX12_biasOf 2 .int 1 29 V G S [.ref a, .int p0] r S := by
  intro sz
  refine x_in RX12 rfl (by decide +kernel) hN (Nat.le_of_ble_eq_true rfl) (fun p e s m args below meth c ls hsz hargs hnm C hP hS hl => ?_)
  subst hsz
  have hx := C.1
  have hb := C.2.1
  have hl : lv_has ls 2 [(0, .ref a), (1, .int p0)] := hl
  unfold s_X12_biasOf at hf
  refine lv_iconst (v := 1) hx hb dX12_biasOf_0 rfl ?_
  refine lv_aload_n hx hb dX12_biasOf_1 rfl (lv_at hl 0 rfl) ?_
  refine lv_iload_n hx hb dX12_biasOf_2 rfl (lv_at hl 1 rfl) ?_
  obtain ⟨r1, er1, hf⟩ := bd1_e hf
  refine x_aft_i (x_runV (As := [.int p0]) (rest := [.int 1]) C hP hS (c_X12_expOf (l := l) C.2.2.2.2.2.2.2.2.2.1 hW h_a k_a er1 s.heap.size) h_a k_a (by decide) rfl rfl km_X12_expOf ki_X12_expOf qm_X12_246 ⟨(Nat.le_of_ble_eq_true rfl), (Nat.le_of_ble_eq_true rfl)⟩ rfl hl.1 rfl (Nat.le_of_ble_eq_true rfl) ⟨Nat.zero_le _, Nat.zero_le _⟩ dX12_biasOf_3) hS (fun H locs hP hS hW => ?_)
  refine lv_iconst (v := 1) hx hb dX12_biasOf_6 rfl ?_
  refine lv_isub hx hb dX12_biasOf_7 ?_
  refine lv_ishl hx hb dX12_biasOf_8 ?_
  refine lv_iconst (v := 1) hx hb dX12_biasOf_9 rfl ?_
  refine lv_isub hx hb dX12_biasOf_10 ?_
  cases hf
  exact x_reti C hP hS hW dX12_biasOf_11
def s_X12_placeOf_J16 (N : Nat → Nat) (v0 : Nat) (v1 : Int32) (w0 : Int32) (S : HS) : Option Int32 :=
  bd1 (s_X12_biasOf N v0 v1 S) fun r3 =>
  bd1 (s_X12_fracOf N v0 v1 S) fun r4 =>
  some ((w0 - r3) - r4)
def s_X12_placeOf (N : Nat → Nat) (a : Nat) (p0 : Int32) (p1 : Int32) (S : HS) : Option Int32 :=
  bd1 (s_X12_exponentOf N a p0 p1 S) fun r1 =>
  if r1 = (0 : Int32) then
  s_X12_placeOf_J16 N a p0 1 S
  else
  s_X12_placeOf_J16 N a p0 r1 S
set_option maxRecDepth 100000 in
set_option maxHeartbeats 4000000 in
theorem b_X12_placeOf_16 {p : Program} {l : Launch} {e : Env} {s : State} {m : MethodId} {args : Array Value} {below : List Frame} {meth : Method} {c : Code} {V : EV} {G : GS} {r : Int32} (C : CX p s m args meth c RX12 cX12_placeOf 4 (some .int) V G) : ∀ (v0 : Nat) (v1 : Int32) (w0 : Int32) (h_v0 : v0 ∈ G.1) (k_v0 : G.2.1 v0 = 12) (S : HS) (H : Heap) (locs : List Loc) (ls : Array Slot), s_X12_placeOf_J16 G.2.2 v0 v1 w0 S = some r → HP V G S H → va_S (AG G s.heap.size) s.heap H locs → WT G S → lv_has ls 4 [(0, .ref v0), (1, .int v1)] → W p l e (RM 4 118) s m args below meth c H locs 0 0 (MQ below (QI V G S r s.heap.size) args s 0 0 (AG G s.heap.size)) (F0 m 16 ls [.int w0]) := by
  intro v0 v1 w0 h_v0 k_v0 S H locs ls hf hP hS hW hl
  have hx := C.1
  have hb := C.2.1
  unfold s_X12_placeOf_J16 at hf
  refine lv_aload_n hx hb dX12_placeOf_16 rfl (lv_at hl 0 rfl) ?_
  refine lv_iload_n hx hb dX12_placeOf_17 rfl (lv_at hl 1 rfl) ?_
  obtain ⟨r3, er3, hf⟩ := bd1_e hf
  refine x_aft_i (x_runV (As := [.int v1]) (rest := [.int w0]) C hP hS (c_X12_biasOf (l := l) C.2.2.2.2.2.2.2.2.2.1 hW h_v0 k_v0 er3 H.size) h_v0 k_v0 (by decide) rfl rfl km_X12_biasOf ki_X12_biasOf qm_X12_264 ⟨(Nat.le_of_ble_eq_true rfl), (Nat.le_of_ble_eq_true rfl)⟩ rfl hl.1 rfl (Nat.le_of_ble_eq_true rfl) ⟨Nat.zero_le _, Nat.zero_le _⟩ dX12_placeOf_18) hS (fun H locs hP hS hW => ?_)
  refine lv_isub hx hb dX12_placeOf_21 ?_
  refine lv_aload_n hx hb dX12_placeOf_22 rfl (lv_at hl 0 rfl) ?_
  refine lv_iload_n hx hb dX12_placeOf_23 rfl (lv_at hl 1 rfl) ?_
  obtain ⟨r4, er4, hf⟩ := bd1_e hf
  refine x_aft_i (x_runV (As := [.int v1]) (rest := [.int (w0 - r3)]) C hP hS (c_X12_fracOf (l := l) C.2.2.2.2.2.2.2.2.2.1 hW h_v0 k_v0 er4 H.size) h_v0 k_v0 (by decide) rfl rfl km_X12_fracOf ki_X12_fracOf qm_X12_255 ⟨(Nat.le_of_ble_eq_true rfl), (Nat.le_of_ble_eq_true rfl)⟩ rfl hl.1 rfl (Nat.le_of_ble_eq_true rfl) ⟨Nat.zero_le _, Nat.zero_le _⟩ dX12_placeOf_24) hS (fun H locs hP hS hW => ?_)
  refine lv_isub hx hb dX12_placeOf_27 ?_
  cases hf
  exact x_reti C hP hS hW dX12_placeOf_28
set_option maxRecDepth 100000 in
set_option maxHeartbeats 4000000 in
theorem c_X12_placeOf {l : Launch} {V : EV} {G : GS} {S : HS} {a : Nat} {p0 : Int32} {p1 : Int32} {r : Int32} (hN : G.1.Nodup) (hW : WT G S) (h_a : a ∈ G.1) (k_a : G.2.1 a = 12) (hf : s_X12_placeOf G.2.2 a p0 p1 S = some r) : MetI l yX12_placeOf cX12_placeOf 4 .int 4 118 V G S [.ref a, .int p0, .int p1] r S := by
  intro sz
  refine x_in RX12 rfl (by decide +kernel) hN (Nat.le_of_ble_eq_true rfl) (fun p e s m args below meth c ls hsz hargs hnm C hP hS hl => ?_)
  subst hsz
  have hx := C.1
  have hb := C.2.1
  have hl : lv_has ls 4 [(0, .ref a), (1, .int p0), (2, .int p1)] := hl
  unfold s_X12_placeOf at hf
  refine lv_aload_n hx hb dX12_placeOf_0 rfl (lv_at hl 0 rfl) ?_
  refine lv_iload_n hx hb dX12_placeOf_1 rfl (lv_at hl 1 rfl) ?_
  refine lv_iload_n hx hb dX12_placeOf_2 rfl (lv_at hl 2 rfl) ?_
  obtain ⟨r1, er1, hf⟩ := bd1_e hf
  refine x_aft_i (x_runV (As := [.int p0, .int p1]) (rest := []) C hP hS (c_X12_exponentOf (l := l) C.2.2.2.2.2.2.2.2.2.1 hW h_a k_a er1 s.heap.size) h_a k_a (by decide) rfl rfl km_X12_exponentOf ki_X12_exponentOf qm_X12_273 ⟨(Nat.le_of_ble_eq_true rfl), (Nat.le_of_ble_eq_true rfl)⟩ rfl hl.1 rfl (Nat.le_of_ble_eq_true rfl) ⟨Nat.zero_le _, Nat.zero_le _⟩ dX12_placeOf_3) hS (fun H locs hP hS hW => ?_)
  refine lv_istore_n (lv' := [(3, .int r1), (0, .ref a), (1, .int p0), (2, .int p1)]) hx hb dX12_placeOf_6 rfl hl (by decide) rfl (fun ls hl => ?_)
  refine lv_iload_n hx hb dX12_placeOf_7 rfl (lv_at hl 0 rfl) ?_
  refine lv_if_ne (tgt := 15) hx hb dX12_placeOf_8 (by decide) (fun c2 => ?_) (fun c2 => ?_)
  · have hf := if_f c2 hf
    refine lv_iload_n hx hb dX12_placeOf_15 rfl (lv_at hl 0 rfl) ?_
    exact b_X12_placeOf_16 C a p0 r1 h_a k_a S H locs _ hf hP hS hW (lv_sub hl [1, 2] rfl)
  · have hf := if_t c2 hf
    refine lv_iconst (v := 1) hx hb dX12_placeOf_11 rfl ?_
    refine lv_goto (tgt := 16) hx hb dX12_placeOf_12 (by decide) ?_
    exact b_X12_placeOf_16 C a p0 1 h_a k_a S H locs _ hf hP hS hW (lv_sub hl [1, 2] rfl)
def s_X12_lengthOf_L2 (F : Nat) : Nat → Int64 → Int32 → HS → Option Int32
  | 0, _, _, _ => none
  | n + 1, v0, v2, S => if (63 : Int32) ≤ v2 then
  some v2
  else
  if (lg_cmp (v0 >>> (v2.toInt64 &&& 63)) (0 : Int64)) ≤ (0 : Int32) then
  some v2
  else
  bnd (v2 + Int32.ofInt 1 : Int32) fun x3 =>
  s_X12_lengthOf_L2 F n v0 x3 S
def s_X12_lengthOf (F : Nat) (p0 : Int64) (S : HS) : Option Int32 :=
  s_X12_lengthOf_L2 F F p0 0 S
set_option maxRecDepth 100000 in
set_option maxHeartbeats 4000000 in
theorem b_X12_lengthOf_2 {p : Program} {l : Launch} {e : Env} {s : State} {m : MethodId} {args : Array Value} {below : List Frame} {meth : Method} {c : Code} {V : EV} {G : GS} {r : Int32} {F : Nat} (C : CX p s m args meth c RX12 cX12_lengthOf 3 (some .int) V G) : ∀ n : Nat, ∀ (v0 : Int64) (v2 : Int32) (S : HS) (H : Heap) (locs : List Loc) (ls : Array Slot), s_X12_lengthOf_L2 F n v0 v2 S = some r → HP V G S H → va_S (AG G s.heap.size) s.heap H locs → WT G S → lv_has ls 3 [(0, .long v0), (2, .int v2)] → W p l e (RM 0 0) s m args below meth c H locs 0 0 (MQ below (QI V G S r s.heap.size) args s 0 0 (AG G s.heap.size)) (F0 m 2 ls []) := by
  intro n
  induction n with
  | zero =>
    intro v0 v2 S H locs ls hf
    rw [s_X12_lengthOf_L2] at hf
    cases hf
  | succ n ih =>
    intro v0 v2 S H locs ls hf hP hS hW hl
    have hx := C.1
    have hb := C.2.1
    rw [s_X12_lengthOf_L2] at hf
    refine lv_iload_n hx hb dX12_lengthOf_2 rfl (lv_at hl 1 rfl) ?_
    refine lv_bipush (v := 63) hx hb dX12_lengthOf_3 kc_bipush_63 ?_
    refine lv_icmp_ge (tgt := 22) hx hb dX12_lengthOf_5 (by decide) (fun c1 => ?_) (fun c1 => ?_)
    · have hf := if_t c1 hf
      refine lv_iload_n hx hb dX12_lengthOf_22 rfl (lv_at hl 1 rfl) ?_
      cases hf
      exact x_reti C hP hS hW dX12_lengthOf_23
    · have hf := if_f c1 hf
      refine lv_lload_n hx hb dX12_lengthOf_8 rfl (lv_at hl 0 rfl) ?_
      refine lv_iload_n hx hb dX12_lengthOf_9 rfl (lv_at hl 1 rfl) ?_
      refine lv_lshr hx hb dX12_lengthOf_10 rfl ?_
      refine lv_lconst (v := 0) hx hb dX12_lengthOf_11 rfl ?_
      refine W.lcmp hx hb dX12_lengthOf_12 ?_
      refine lv_if_le (tgt := 22) hx hb dX12_lengthOf_13 (by decide) (fun c2 => ?_) (fun c2 => ?_)
      · have hf := if_t c2 hf
        refine lv_iload_n hx hb dX12_lengthOf_22 rfl (lv_at hl 1 rfl) ?_
        cases hf
        exact x_reti C hP hS hW dX12_lengthOf_23
      · have hf := if_f c2 hf
        obtain ⟨x3, ex3, hf⟩ := bnd_e hf
        refine lv_iinc (v := x3) (lv' := [(2, .int x3), (0, .long v0)]) hx hb dX12_lengthOf_16 hl (k := 1) rfl ex3.symm (by decide) rfl (fun ls hl => ?_)
        refine lv_goto (tgt := 2) hx hb dX12_lengthOf_19 (by decide) ?_
        exact ih v0 x3 S H locs _ hf hP hS hW (lv_sub hl [1, 0] rfl)
set_option maxRecDepth 100000 in
set_option maxHeartbeats 4000000 in
theorem c_X12_lengthOf {l : Launch} {V : EV} {G : GS} {S : HS} {F : Nat} {p0 : Int64} {r : Int32} (hN : G.1.Nodup) (hW : WT G S) (hf : s_X12_lengthOf F p0 S = some r) : MetI l yX12_lengthOf cX12_lengthOf 3 .int 0 0 V G S [.long p0] r S := by
  intro sz
  refine x_in RX12 rfl (by decide +kernel) hN (Nat.le_of_ble_eq_true rfl) (fun p e s m args below meth c ls hsz hargs hnm C hP hS hl => ?_)
  subst hsz
  have hx := C.1
  have hb := C.2.1
  have hl : lv_has ls 3 [(0, .long p0)] := hl
  unfold s_X12_lengthOf at hf
  refine lv_iconst (v := 0) hx hb dX12_lengthOf_0 rfl ?_
  refine lv_istore_n (lv' := [(2, .int 0), (0, .long p0)]) hx hb dX12_lengthOf_1 rfl hl (by decide) rfl (fun ls hl => ?_)
  exact b_X12_lengthOf_2 C F p0 0 S s.heap [] _ hf hP hS hW (lv_sub hl [1, 0] rfl)
def s_X12_cuts_J87 (v1 : Int64) (v3 : Int32) (w0 : Nat) (w1 : Int32) (S : HS) : Option (Int64 × HS) :=
  if isZ w1 = true then
  bnd (uI S 1223 w0 w1) fun S6 =>
  if v3 ≤ (62 : Int32) then
  some (v1 >>> (v3.toInt64 &&& 63), S6)
  else
  some (0, S6)
  else none
def s_X12_cuts_J44 (v0 : Nat) (v1 : Int64) (v3 : Int32) (v4 : Int32) (w0 : Nat) (w1 : Int32) (S : HS) : Option (Int64 × HS) :=
  if isZ w1 = true then
  bnd (uI S 1222 w0 w1) fun S3 =>
  if v4 = (0 : Int32) then
  if v3 ≤ (63 : Int32) then
  if (lg_cmp (v1 &&& (((1 : Int64) <<< ((v3 - 1).toInt64 &&& 63)) - 1)) (0 : Int64)) = (0 : Int32) then
  s_X12_cuts_J87 v1 v3 v0 0 S3
  else
  s_X12_cuts_J87 v1 v3 v0 1 S3
  else
  if (lg_cmp v1 (0 : Int64)) = (0 : Int32) then
  s_X12_cuts_J87 v1 v3 v0 0 S3
  else
  s_X12_cuts_J87 v1 v3 v0 1 S3
  else
  s_X12_cuts_J87 v1 v3 v0 1 S3
  else none
def s_X12_cuts (a : Nat) (p0 : Int64) (p1 : Int32) (p2 : Int32) (S : HS) : Option (Int64 × HS) :=
  if (0 : Int32) < p1 then
  if (63 : Int32) < p1 then
  s_X12_cuts_J44 a p0 p1 p2 a 0 S
  else
  if (lg_cmp ((p0 >>> ((p1 - 1).toInt64 &&& 63)) &&& 1) (1 : Int64)) = (0 : Int32) then
  s_X12_cuts_J44 a p0 p1 p2 a 1 S
  else
  s_X12_cuts_J44 a p0 p1 p2 a 0 S
  else
  bnd (uI S 1222 a 0) fun S13 =>
  if isZ p2 = true then
  bnd (uI S13 1223 a p2) fun S14 =>
  some (p0 <<< ((-p1).toInt64 &&& 63), S14)
  else none
set_option maxRecDepth 100000 in
set_option maxHeartbeats 4000000 in
theorem b_X12_cuts_87 {p : Program} {l : Launch} {e : Env} {s : State} {m : MethodId} {args : Array Value} {below : List Frame} {meth : Method} {c : Code} {V : EV} {G : GS} {r : Int64} {S' : HS} (C : CX p s m args meth c RX12 cX12_cuts 5 (some .long) V G) : ∀ (v1 : Int64) (v3 : Int32) (w0 : Nat) (w1 : Int32) (h_w0 : w0 ∈ G.1) (k_w0 : G.2.1 w0 = 12) (S : HS) (H : Heap) (locs : List Loc) (ls : Array Slot), s_X12_cuts_J87 v1 v3 w0 w1 S = some (r, S') → HP V G S H → va_S (AG G s.heap.size) s.heap H locs → WT G S → lv_has ls 5 [(1, .long v1), (3, .int v3)] → W p l e (RM 0 0) s m args below meth c H locs 0 0 (MQ below (QJ V G S' r s.heap.size) args s 0 0 (AG G s.heap.size)) (F0 m 87 ls [.int w1, .ref w0]) := by
  intro v1 v3 w0 w1 h_w0 k_w0 S H locs ls hf hP hS hW hl
  have hx := C.1
  have hb := C.2.1
  unfold s_X12_cuts_J87 at hf
  obtain ⟨h7, hf⟩ := if_s hf
  obtain ⟨S6, eS6, hf⟩ := bnd_e hf
  refine pf_X12_293 C hP hS h_w0 k_w0 h7 eS6 dX12_cuts_87 (fun H locs hP hS => ?_)
  have hW : WT G S6 := by rw [eS6]; exact hW
  refine lv_iload_n hx hb dX12_cuts_90 rfl (lv_at hl 1 rfl) ?_
  refine lv_bipush (v := 62) hx hb dX12_cuts_91 kc_bipush_62 ?_
  refine lv_icmp_le (tgt := 100) hx hb dX12_cuts_93 (by decide) (fun c8 => ?_) (fun c8 => ?_)
  · have hf := if_t c8 hf
    refine lv_lload_n hx hb dX12_cuts_100 rfl (lv_at hl 0 rfl) ?_
    refine lv_iload_n hx hb dX12_cuts_101 rfl (lv_at hl 1 rfl) ?_
    refine lv_lshr hx hb dX12_cuts_102 rfl ?_
    cases hf
    exact x_retl C hP hS hW dX12_cuts_103
  · have hf := if_f c8 hf
    refine lv_lconst (v := 0) hx hb dX12_cuts_96 rfl ?_
    refine lv_goto (tgt := 103) hx hb dX12_cuts_97 (by decide) ?_
    cases hf
    exact x_retl C hP hS hW dX12_cuts_103
set_option maxRecDepth 100000 in
set_option maxHeartbeats 4000000 in
theorem b_X12_cuts_44 {p : Program} {l : Launch} {e : Env} {s : State} {m : MethodId} {args : Array Value} {below : List Frame} {meth : Method} {c : Code} {V : EV} {G : GS} {r : Int64} {S' : HS} (C : CX p s m args meth c RX12 cX12_cuts 5 (some .long) V G) : ∀ (v0 : Nat) (v1 : Int64) (v3 : Int32) (v4 : Int32) (w0 : Nat) (w1 : Int32) (h_v0 : v0 ∈ G.1) (k_v0 : G.2.1 v0 = 12) (h_w0 : w0 ∈ G.1) (k_w0 : G.2.1 w0 = 12) (S : HS) (H : Heap) (locs : List Loc) (ls : Array Slot), s_X12_cuts_J44 v0 v1 v3 v4 w0 w1 S = some (r, S') → HP V G S H → va_S (AG G s.heap.size) s.heap H locs → WT G S → lv_has ls 5 [(0, .ref v0), (1, .long v1), (3, .int v3), (4, .int v4)] → W p l e (RM 0 0) s m args below meth c H locs 0 0 (MQ below (QJ V G S' r s.heap.size) args s 0 0 (AG G s.heap.size)) (F0 m 44 ls [.int w1, .ref w0]) := by
  intro v0 v1 v3 v4 w0 w1 h_v0 k_v0 h_w0 k_w0 S H locs ls hf hP hS hW hl
  have hx := C.1
  have hb := C.2.1
  unfold s_X12_cuts_J44 at hf
  obtain ⟨h4, hf⟩ := if_s hf
  obtain ⟨S3, eS3, hf⟩ := bnd_e hf
  refine pf_X12_289 C hP hS h_w0 k_w0 h4 eS3 dX12_cuts_44 (fun H locs hP hS => ?_)
  have hW : WT G S3 := by rw [eS3]; exact hW
  refine lv_aload_n hx hb dX12_cuts_47 rfl (lv_at hl 0 rfl) ?_
  refine lv_iload hx hb dX12_cuts_48 (lv_at hl 3 rfl) ?_
  refine lv_if_ne (tgt := 82) hx hb dX12_cuts_50 (by decide) (fun c5 => ?_) (fun c5 => ?_)
  · have hf := if_f c5 hf
    refine lv_iconst (v := 1) hx hb dX12_cuts_82 rfl ?_
    refine lv_goto (tgt := 87) hx hb dX12_cuts_83 (by decide) ?_
    exact b_X12_cuts_87 C v1 v3 v0 1 h_v0 k_v0 S3 H locs _ hf hP hS hW (lv_sub hl [1, 2] rfl)
  · have hf := if_t c5 hf
    refine lv_iload_n hx hb dX12_cuts_53 rfl (lv_at hl 2 rfl) ?_
    refine lv_bipush (v := 63) hx hb dX12_cuts_54 kc_bipush_63 ?_
    refine lv_icmp_le (tgt := 68) hx hb dX12_cuts_56 (by decide) (fun c9 => ?_) (fun c9 => ?_)
    · have hf := if_t c9 hf
      refine lv_lload_n hx hb dX12_cuts_68 rfl (lv_at hl 1 rfl) ?_
      refine lv_lconst (v := 1) hx hb dX12_cuts_69 rfl ?_
      refine lv_iload_n hx hb dX12_cuts_70 rfl (lv_at hl 2 rfl) ?_
      refine lv_iconst (v := 1) hx hb dX12_cuts_71 rfl ?_
      refine lv_isub hx hb dX12_cuts_72 ?_
      refine lv_lshl hx hb dX12_cuts_73 rfl ?_
      refine lv_lconst (v := 1) hx hb dX12_cuts_74 rfl ?_
      refine lv_lsub hx hb dX12_cuts_75 ?_
      refine lv_land hx hb dX12_cuts_76 ?_
      refine lv_lconst (v := 0) hx hb dX12_cuts_77 rfl ?_
      refine W.lcmp hx hb dX12_cuts_78 ?_
      refine lv_if_eq (tgt := 86) hx hb dX12_cuts_79 (by decide) (fun c10 => ?_) (fun c10 => ?_)
      · have hf := if_t c10 hf
        refine lv_iconst (v := 0) hx hb dX12_cuts_86 rfl ?_
        exact b_X12_cuts_87 C v1 v3 v0 0 h_v0 k_v0 S3 H locs _ hf hP hS hW (lv_sub hl [1, 2] rfl)
      · have hf := if_f c10 hf
        refine lv_iconst (v := 1) hx hb dX12_cuts_82 rfl ?_
        refine lv_goto (tgt := 87) hx hb dX12_cuts_83 (by decide) ?_
        exact b_X12_cuts_87 C v1 v3 v0 1 h_v0 k_v0 S3 H locs _ hf hP hS hW (lv_sub hl [1, 2] rfl)
    · have hf := if_f c9 hf
      refine lv_lload_n hx hb dX12_cuts_59 rfl (lv_at hl 1 rfl) ?_
      refine lv_lconst (v := 0) hx hb dX12_cuts_60 rfl ?_
      refine W.lcmp hx hb dX12_cuts_61 ?_
      refine lv_if_eq (tgt := 86) hx hb dX12_cuts_62 (by decide) (fun c11 => ?_) (fun c11 => ?_)
      · have hf := if_t c11 hf
        refine lv_iconst (v := 0) hx hb dX12_cuts_86 rfl ?_
        exact b_X12_cuts_87 C v1 v3 v0 0 h_v0 k_v0 S3 H locs _ hf hP hS hW (lv_sub hl [1, 2] rfl)
      · have hf := if_f c11 hf
        refine lv_goto (tgt := 82) hx hb dX12_cuts_65 (by decide) ?_
        refine lv_iconst (v := 1) hx hb dX12_cuts_82 rfl ?_
        refine lv_goto (tgt := 87) hx hb dX12_cuts_83 (by decide) ?_
        exact b_X12_cuts_87 C v1 v3 v0 1 h_v0 k_v0 S3 H locs _ hf hP hS hW (lv_sub hl [1, 2] rfl)
set_option maxRecDepth 100000 in
set_option maxHeartbeats 4000000 in
theorem c_X12_cuts {l : Launch} {V : EV} {G : GS} {S : HS} {a : Nat} {p0 : Int64} {p1 : Int32} {p2 : Int32} {r : Int64} {S' : HS} (hN : G.1.Nodup) (hW : WT G S) (h_a : a ∈ G.1) (k_a : G.2.1 a = 12) (hf : s_X12_cuts a p0 p1 p2 S = some (r, S')) : MetJ l yX12_cuts cX12_cuts 5 0 0 V G S [.ref a, .long p0, .int p1, .int p2] r S' := by
  intro sz
  refine x_in RX12 rfl (by decide +kernel) hN (Nat.le_of_ble_eq_true rfl) (fun p e s m args below meth c ls hsz hargs hnm C hP hS hl => ?_)
  subst hsz
  have hx := C.1
  have hb := C.2.1
  have hl : lv_has ls 5 [(0, .ref a), (1, .long p0), (3, .int p1), (4, .int p2)] := hl
  unfold s_X12_cuts at hf
  refine lv_iload_n hx hb dX12_cuts_0 rfl (lv_at hl 2 rfl) ?_
  refine lv_if_gt (tgt := 20) hx hb dX12_cuts_1 (by decide) (fun c1 => ?_) (fun c1 => ?_)
  · have hf := if_t c1 hf
    refine lv_aload_n hx hb dX12_cuts_20 rfl (lv_at hl 0 rfl) ?_
    refine lv_iload_n hx hb dX12_cuts_21 rfl (lv_at hl 2 rfl) ?_
    refine lv_bipush (v := 63) hx hb dX12_cuts_22 kc_bipush_63 ?_
    refine lv_icmp_gt (tgt := 43) hx hb dX12_cuts_24 (by decide) (fun c2 => ?_) (fun c2 => ?_)
    · have hf := if_t c2 hf
      refine lv_iconst (v := 0) hx hb dX12_cuts_43 rfl ?_
      exact b_X12_cuts_44 C a p0 p1 p2 a 0 h_a k_a h_a k_a S s.heap [] _ hf hP hS hW (lv_sub hl [0, 1, 2, 3] rfl)
    · have hf := if_f c2 hf
      refine lv_lload_n hx hb dX12_cuts_27 rfl (lv_at hl 1 rfl) ?_
      refine lv_iload_n hx hb dX12_cuts_28 rfl (lv_at hl 2 rfl) ?_
      refine lv_iconst (v := 1) hx hb dX12_cuts_29 rfl ?_
      refine lv_isub hx hb dX12_cuts_30 ?_
      refine lv_lshr hx hb dX12_cuts_31 rfl ?_
      refine lv_lconst (v := 1) hx hb dX12_cuts_32 rfl ?_
      refine lv_land hx hb dX12_cuts_33 ?_
      refine lv_lconst (v := 1) hx hb dX12_cuts_34 rfl ?_
      refine W.lcmp hx hb dX12_cuts_35 ?_
      refine lv_if_ne (tgt := 43) hx hb dX12_cuts_36 (by decide) (fun c12 => ?_) (fun c12 => ?_)
      · have hf := if_f c12 hf
        refine lv_iconst (v := 0) hx hb dX12_cuts_43 rfl ?_
        exact b_X12_cuts_44 C a p0 p1 p2 a 0 h_a k_a h_a k_a S s.heap [] _ hf hP hS hW (lv_sub hl [0, 1, 2, 3] rfl)
      · have hf := if_t c12 hf
        refine lv_iconst (v := 1) hx hb dX12_cuts_39 rfl ?_
        refine lv_goto (tgt := 44) hx hb dX12_cuts_40 (by decide) ?_
        exact b_X12_cuts_44 C a p0 p1 p2 a 1 h_a k_a h_a k_a S s.heap [] _ hf hP hS hW (lv_sub hl [0, 1, 2, 3] rfl)
  · have hf := if_f c1 hf
    refine lv_aload_n hx hb dX12_cuts_4 rfl (lv_at hl 0 rfl) ?_
    refine lv_iconst (v := 0) hx hb dX12_cuts_5 rfl ?_
    obtain ⟨S13, eS13, hf⟩ := bnd_e hf
    refine pf_X12_289 C hP hS h_a k_a isZ_0 eS13 dX12_cuts_6 (fun H locs hP hS => ?_)
    have hW : WT G S13 := by rw [eS13]; exact hW
    refine lv_aload_n hx hb dX12_cuts_9 rfl (lv_at hl 0 rfl) ?_
    refine lv_iload hx hb dX12_cuts_10 (lv_at hl 3 rfl) ?_
    obtain ⟨h15, hf⟩ := if_s hf
    obtain ⟨S14, eS14, hf⟩ := bnd_e hf
    refine pf_X12_293 C hP hS h_a k_a h15 eS14 dX12_cuts_12 (fun H locs hP hS => ?_)
    have hW : WT G S14 := by rw [eS14]; exact hW
    refine lv_lload_n hx hb dX12_cuts_15 rfl (lv_at hl 1 rfl) ?_
    refine lv_iload_n hx hb dX12_cuts_16 rfl (lv_at hl 2 rfl) ?_
    refine lv_ineg hx hb dX12_cuts_17 ?_
    refine lv_lshl hx hb dX12_cuts_18 rfl ?_
    cases hf
    exact x_retl C hP hS hW dX12_cuts_19
def s_X12_worked (p0 : Int32) (p1 : Int32) (p2 : Int32) (S : HS) : Int32 :=
  if p0 = 4 then
  p1 + p2
  else
  if p0 = 5 then
  p1 - p2
  else
  if p0 = 6 then
  p1 * p2
  else
  if p0 = 7 then
  if p2 ≤ p1 then
  0
  else
  1
  else
  if p0 = 8 then
  if p1 = p2 then
  1
  else
  0
  else
  if p0 = 9 then
  if p1 = (0 : Int32) then
  0
  else
  if p2 = (0 : Int32) then
  0
  else
  1
  else
  if p1 = (0 : Int32) then
  if p2 = (0 : Int32) then
  0
  else
  1
  else
  1
set_option maxRecDepth 100000 in
set_option maxHeartbeats 4000000 in
theorem c_X12_worked {l : Launch} {V : EV} {G : GS} {S : HS} {p0 : Int32} {p1 : Int32} {p2 : Int32} {r : Int32} (hN : G.1.Nodup) (hW : WT G S) (hf : s_X12_worked p0 p1 p2 S = r) : MetI l yX12_worked cX12_worked 3 .int 0 0 V G S [.int p0, .int p1, .int p2] r S := by
  intro sz
  refine x_in RX12 rfl (by decide +kernel) hN (Nat.le_of_ble_eq_true rfl) (fun p e s m args below meth c ls hsz hargs hnm C hP hS hl => ?_)
  subst hsz
  have hx := C.1
  have hb := C.2.1
  have hl : lv_has ls 3 [(0, .int p0), (1, .int p1), (2, .int p2)] := hl
  unfold s_X12_worked at hf
  refine lv_iload_n hx hb dX12_worked_0 rfl (lv_at hl 0 rfl) ?_
  by_cases c1 : p0 = 4
  · have hf := if_t c1 hf
    refine lv_tableIn (tgt := 40) (off := 39) hx hb dX12_worked_1 (by rw [c1]; decide) (by rw [c1]; decide) (by rw [c1]; rfl) (by decide) ?_
    refine lv_iload_n hx hb dX12_worked_40 rfl (lv_at hl 1 rfl) ?_
    refine lv_iload_n hx hb dX12_worked_41 rfl (lv_at hl 2 rfl) ?_
    refine lv_iadd hx hb dX12_worked_42 ?_
    cases hf
    exact x_reti C hP hS hW dX12_worked_43
  have hf := if_f c1 hf
  by_cases c2 : p0 = 5
  · have hf := if_t c2 hf
    refine lv_tableIn (tgt := 44) (off := 43) hx hb dX12_worked_1 (by rw [c2]; decide) (by rw [c2]; decide) (by rw [c2]; rfl) (by decide) ?_
    refine lv_iload_n hx hb dX12_worked_44 rfl (lv_at hl 1 rfl) ?_
    refine lv_iload_n hx hb dX12_worked_45 rfl (lv_at hl 2 rfl) ?_
    refine lv_isub hx hb dX12_worked_46 ?_
    cases hf
    exact x_reti C hP hS hW dX12_worked_47
  have hf := if_f c2 hf
  by_cases c3 : p0 = 6
  · have hf := if_t c3 hf
    refine lv_tableIn (tgt := 48) (off := 47) hx hb dX12_worked_1 (by rw [c3]; decide) (by rw [c3]; decide) (by rw [c3]; rfl) (by decide) ?_
    refine lv_iload_n hx hb dX12_worked_48 rfl (lv_at hl 1 rfl) ?_
    refine lv_iload_n hx hb dX12_worked_49 rfl (lv_at hl 2 rfl) ?_
    refine lv_imul hx hb dX12_worked_50 ?_
    cases hf
    exact x_reti C hP hS hW dX12_worked_51
  have hf := if_f c3 hf
  by_cases c4 : p0 = 7
  · have hf := if_t c4 hf
    refine lv_tableIn (tgt := 52) (off := 51) hx hb dX12_worked_1 (by rw [c4]; decide) (by rw [c4]; decide) (by rw [c4]; rfl) (by decide) ?_
    refine lv_iload_n hx hb dX12_worked_52 rfl (lv_at hl 1 rfl) ?_
    refine lv_iload_n hx hb dX12_worked_53 rfl (lv_at hl 2 rfl) ?_
    refine lv_icmp_ge (tgt := 61) hx hb dX12_worked_54 (by decide) (fun c5 => ?_) (fun c5 => ?_)
    · have hf := if_t c5 hf
      refine lv_iconst (v := 0) hx hb dX12_worked_61 rfl ?_
      cases hf
      exact x_reti C hP hS hW dX12_worked_62
    · have hf := if_f c5 hf
      refine lv_iconst (v := 1) hx hb dX12_worked_57 rfl ?_
      refine lv_goto (tgt := 62) hx hb dX12_worked_58 (by decide) ?_
      cases hf
      exact x_reti C hP hS hW dX12_worked_62
  have hf := if_f c4 hf
  by_cases c6 : p0 = 8
  · have hf := if_t c6 hf
    refine lv_tableIn (tgt := 63) (off := 62) hx hb dX12_worked_1 (by rw [c6]; decide) (by rw [c6]; decide) (by rw [c6]; rfl) (by decide) ?_
    refine lv_iload_n hx hb dX12_worked_63 rfl (lv_at hl 1 rfl) ?_
    refine lv_iload_n hx hb dX12_worked_64 rfl (lv_at hl 2 rfl) ?_
    refine lv_icmp_ne (tgt := 72) hx hb dX12_worked_65 (by decide) (fun c7 => ?_) (fun c7 => ?_)
    · have hf := if_f c7 hf
      refine lv_iconst (v := 0) hx hb dX12_worked_72 rfl ?_
      cases hf
      exact x_reti C hP hS hW dX12_worked_73
    · have hf := if_t c7 hf
      refine lv_iconst (v := 1) hx hb dX12_worked_68 rfl ?_
      refine lv_goto (tgt := 73) hx hb dX12_worked_69 (by decide) ?_
      cases hf
      exact x_reti C hP hS hW dX12_worked_73
  have hf := if_f c6 hf
  by_cases c8 : p0 = 9
  · have hf := if_t c8 hf
    refine lv_tableIn (tgt := 74) (off := 73) hx hb dX12_worked_1 (by rw [c8]; decide) (by rw [c8]; decide) (by rw [c8]; rfl) (by decide) ?_
    refine lv_iload_n hx hb dX12_worked_74 rfl (lv_at hl 1 rfl) ?_
    refine lv_if_eq (tgt := 86) hx hb dX12_worked_75 (by decide) (fun c9 => ?_) (fun c9 => ?_)
    · have hf := if_t c9 hf
      refine lv_iconst (v := 0) hx hb dX12_worked_86 rfl ?_
      cases hf
      exact x_reti C hP hS hW dX12_worked_87
    · have hf := if_f c9 hf
      refine lv_iload_n hx hb dX12_worked_78 rfl (lv_at hl 2 rfl) ?_
      refine lv_if_eq (tgt := 86) hx hb dX12_worked_79 (by decide) (fun c10 => ?_) (fun c10 => ?_)
      · have hf := if_t c10 hf
        refine lv_iconst (v := 0) hx hb dX12_worked_86 rfl ?_
        cases hf
        exact x_reti C hP hS hW dX12_worked_87
      · have hf := if_f c10 hf
        refine lv_iconst (v := 1) hx hb dX12_worked_82 rfl ?_
        refine lv_goto (tgt := 87) hx hb dX12_worked_83 (by decide) ?_
        cases hf
        exact x_reti C hP hS hW dX12_worked_87
  have hf := if_f c8 hf
  refine lv_tableOut (tgt := 88) hx hb dX12_worked_1 (sw_out (fun k h1 h2 e9 => by
    rcases (show k = 4 ∨ k = 5 ∨ k = 6 ∨ k = 7 ∨ k = 8 ∨ k = 9 by omega) with rfl | rfl | rfl | rfl | rfl | rfl
    · exact c1 e9
    · exact c2 e9
    · exact c3 e9
    · exact c4 e9
    · exact c6 e9
    · exact c8 e9
    )) (by decide) ?_
  refine lv_iload_n hx hb dX12_worked_88 rfl (lv_at hl 1 rfl) ?_
  refine lv_if_ne (tgt := 96) hx hb dX12_worked_89 (by decide) (fun c11 => ?_) (fun c11 => ?_)
  · have hf := if_f c11 hf
    refine lv_iconst (v := 1) hx hb dX12_worked_96 rfl ?_
    refine lv_goto (tgt := 101) hx hb dX12_worked_97 (by decide) ?_
    cases hf
    exact x_reti C hP hS hW dX12_worked_101
  · have hf := if_t c11 hf
    refine lv_iload_n hx hb dX12_worked_92 rfl (lv_at hl 2 rfl) ?_
    refine lv_if_eq (tgt := 100) hx hb dX12_worked_93 (by decide) (fun c12 => ?_) (fun c12 => ?_)
    · have hf := if_t c12 hf
      refine lv_iconst (v := 0) hx hb dX12_worked_100 rfl ?_
      cases hf
      exact x_reti C hP hS hW dX12_worked_101
    · have hf := if_f c12 hf
      refine lv_iconst (v := 1) hx hb dX12_worked_96 rfl ?_
      refine lv_goto (tgt := 101) hx hb dX12_worked_97 (by decide) ?_
      cases hf
      exact x_reti C hP hS hW dX12_worked_101
