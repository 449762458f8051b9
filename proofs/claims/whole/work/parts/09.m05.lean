def s_X11_foretold (F : Nat) (p0 : Int64) (p1 : Int64) (S : HS) : Option Int32 :=
  bnd (p0 ^^^ p1 : Int64) fun x1 =>
  bnd (p0 &&& p1 : Int64) fun x2 =>
  bnd ((p0 ||| p1) ^^^ (-1) : Int64) fun x3 =>
  bnd ((x1.toUInt64 >>> ((1 : Int32).toInt64.toUInt64 &&& Int64.toUInt64 63)).toInt64 : Int64) fun x4 =>
  bnd ((x3 <<< ((1 : Int32).toInt64 &&& 63)) ||| 1 : Int64) fun x5 =>
  bnd (x2 <<< ((1 : Int32).toInt64 &&& 63) : Int64) fun x6 =>
  bnd ((x2 &&& (x5 ^^^ (-1))) ||| (x3 &&& (x6 ^^^ (-1))) : Int64) fun x7 =>
  bnd ((x3 &&& (x5 ^^^ (-1))) ||| (x2 &&& (x6 ^^^ (-1))) : Int64) fun x8 =>
  bd1 (s_X11_bitLength F ((x4 &&& x7) ||| ((x4 ^^^ (-1)) &&& x8)) S) fun r9 =>
  some (64 - r9)
set_option maxRecDepth 100000 in
set_option maxHeartbeats 4000000 in
theorem c_X11_foretold {l : Launch} {V : EV} {G : GS} {S : HS} {F : Nat} {p0 : Int64} {p1 : Int64} {r : Int32} (hN : G.1.Nodup) (hW : WT G S) (hf : s_X11_foretold F p0 p1 S = some r) : MetI l yX11_foretold cX11_foretold 20 .int 1 33 V G S [.long p0, .long p1] r S := by
  intro sz
  refine x_in RX11 rfl (by decide +kernel) hN (Nat.le_of_ble_eq_true rfl) (fun p e s m args below meth c ls hsz hargs hnm C hP hS hl => ?_)
  subst hsz
  have hx := C.1
  have hb := C.2.1
  have hl : lv_has ls 20 [(0, .long p0), (2, .long p1)] := hl
  unfold s_X11_foretold at hf
  refine lv_lload_n hx hb dX11_foretold_0 rfl (lv_at hl 0 rfl) ?_
  refine lv_lload_n hx hb dX11_foretold_1 rfl (lv_at hl 1 rfl) ?_
  refine lv_lxor hx hb dX11_foretold_2 ?_
  obtain ⟨x1, ex1, hf⟩ := bnd_e hf
  refine nm_l ex1 ?_
  refine lv_lstore (lv' := [(4, .long x1), (0, .long p0), (2, .long p1)]) hx hb dX11_foretold_3 hl (by decide) rfl (fun ls hl => ?_)
  refine lv_lload_n hx hb dX11_foretold_5 rfl (lv_at hl 1 rfl) ?_
  refine lv_lload_n hx hb dX11_foretold_6 rfl (lv_at hl 2 rfl) ?_
  refine lv_land hx hb dX11_foretold_7 ?_
  obtain ⟨x2, ex2, hf⟩ := bnd_e hf
  refine nm_l ex2 ?_
  refine lv_lstore (lv' := [(6, .long x2), (4, .long x1), (0, .long p0), (2, .long p1)]) hx hb dX11_foretold_8 hl (by decide) rfl (fun ls hl => ?_)
  refine lv_lload_n hx hb dX11_foretold_10 rfl (lv_at hl 2 rfl) ?_
  refine lv_lload_n hx hb dX11_foretold_11 rfl (lv_at hl 3 rfl) ?_
  refine lv_lor hx hb dX11_foretold_12 ?_
  refine lv_ldc2 (v := (-1)) hx hb C.2.2.2.2.1 (C.2.2.2.2.2.1 _ qc_X11_329) dX11_foretold_13 ?_
  refine lv_lxor hx hb dX11_foretold_16 ?_
  obtain ⟨x3, ex3, hf⟩ := bnd_e hf
  refine nm_l ex3 ?_
  refine lv_lstore (lv' := [(8, .long x3), (6, .long x2), (4, .long x1), (0, .long p0), (2, .long p1)]) hx hb dX11_foretold_17 hl (by decide) rfl (fun ls hl => ?_)
  refine lv_lload hx hb dX11_foretold_19 (lv_at hl 2 rfl) ?_
  refine lv_iconst (v := 1) hx hb dX11_foretold_21 rfl ?_
  refine lv_lushr hx hb dX11_foretold_22 rfl ?_
  obtain ⟨x4, ex4, hf⟩ := bnd_e hf
  refine nm_l ex4 ?_
  refine lv_lstore (lv' := [(10, .long x4), (8, .long x3), (6, .long x2), (4, .long x1), (0, .long p0), (2, .long p1)]) hx hb dX11_foretold_23 hl (by decide) rfl (fun ls hl => ?_)
  refine lv_lload hx hb dX11_foretold_25 (lv_at hl 1 rfl) ?_
  refine lv_iconst (v := 1) hx hb dX11_foretold_27 rfl ?_
  refine lv_lshl hx hb dX11_foretold_28 rfl ?_
  refine lv_lconst (v := 1) hx hb dX11_foretold_29 rfl ?_
  refine lv_lor hx hb dX11_foretold_30 ?_
  obtain ⟨x5, ex5, hf⟩ := bnd_e hf
  refine nm_l ex5 ?_
  refine lv_lstore (lv' := [(12, .long x5), (10, .long x4), (8, .long x3), (6, .long x2), (4, .long x1), (0, .long p0), (2, .long p1)]) hx hb dX11_foretold_31 hl (by decide) rfl (fun ls hl => ?_)
  refine lv_lload hx hb dX11_foretold_33 (lv_at hl 3 rfl) ?_
  refine lv_iconst (v := 1) hx hb dX11_foretold_35 rfl ?_
  refine lv_lshl hx hb dX11_foretold_36 rfl ?_
  obtain ⟨x6, ex6, hf⟩ := bnd_e hf
  refine nm_l ex6 ?_
  refine lv_lstore (lv' := [(14, .long x6), (12, .long x5), (10, .long x4), (8, .long x3), (6, .long x2), (4, .long x1), (0, .long p0), (2, .long p1)]) hx hb dX11_foretold_37 hl (by decide) rfl (fun ls hl => ?_)
  refine lv_lload hx hb dX11_foretold_39 (lv_at hl 4 rfl) ?_
  refine lv_lload hx hb dX11_foretold_41 (lv_at hl 1 rfl) ?_
  refine lv_ldc2 (v := (-1)) hx hb C.2.2.2.2.1 (C.2.2.2.2.2.1 _ qc_X11_329) dX11_foretold_43 ?_
  refine lv_lxor hx hb dX11_foretold_46 ?_
  refine lv_land hx hb dX11_foretold_47 ?_
  refine lv_lload hx hb dX11_foretold_48 (lv_at hl 3 rfl) ?_
  refine lv_lload hx hb dX11_foretold_50 (lv_at hl 0 rfl) ?_
  refine lv_ldc2 (v := (-1)) hx hb C.2.2.2.2.1 (C.2.2.2.2.2.1 _ qc_X11_329) dX11_foretold_52 ?_
  refine lv_lxor hx hb dX11_foretold_55 ?_
  refine lv_land hx hb dX11_foretold_56 ?_
  refine lv_lor hx hb dX11_foretold_57 ?_
  obtain ⟨x7, ex7, hf⟩ := bnd_e hf
  refine nm_l ex7 ?_
  refine lv_lstore (lv' := [(16, .long x7), (14, .long x6), (12, .long x5), (10, .long x4), (8, .long x3), (6, .long x2), (4, .long x1), (0, .long p0), (2, .long p1)]) hx hb dX11_foretold_58 hl (by decide) rfl (fun ls hl => ?_)
  refine lv_lload hx hb dX11_foretold_60 (lv_at hl 4 rfl) ?_
  refine lv_lload hx hb dX11_foretold_62 (lv_at hl 2 rfl) ?_
  refine lv_ldc2 (v := (-1)) hx hb C.2.2.2.2.1 (C.2.2.2.2.2.1 _ qc_X11_329) dX11_foretold_64 ?_
  refine lv_lxor hx hb dX11_foretold_67 ?_
  refine lv_land hx hb dX11_foretold_68 ?_
  refine lv_lload hx hb dX11_foretold_69 (lv_at hl 5 rfl) ?_
  refine lv_lload hx hb dX11_foretold_71 (lv_at hl 1 rfl) ?_
  refine lv_ldc2 (v := (-1)) hx hb C.2.2.2.2.1 (C.2.2.2.2.2.1 _ qc_X11_329) dX11_foretold_73 ?_
  refine lv_lxor hx hb dX11_foretold_76 ?_
  refine lv_land hx hb dX11_foretold_77 ?_
  refine lv_lor hx hb dX11_foretold_78 ?_
  obtain ⟨x8, ex8, hf⟩ := bnd_e hf
  refine nm_l ex8 ?_
  refine lv_lstore (lv' := [(18, .long x8), (16, .long x7), (14, .long x6), (12, .long x5), (10, .long x4), (8, .long x3), (6, .long x2), (4, .long x1), (0, .long p0), (2, .long p1)]) hx hb dX11_foretold_79 hl (by decide) rfl (fun ls hl => ?_)
  refine lv_bipush (v := 64) hx hb dX11_foretold_81 kc_bipush_64 ?_
  refine lv_lload hx hb dX11_foretold_83 (lv_at hl 4 rfl) ?_
  refine lv_lload hx hb dX11_foretold_85 (lv_at hl 1 rfl) ?_
  refine lv_land hx hb dX11_foretold_87 ?_
  refine lv_lload hx hb dX11_foretold_88 (lv_at hl 4 rfl) ?_
  refine lv_ldc2 (v := (-1)) hx hb C.2.2.2.2.1 (C.2.2.2.2.2.1 _ qc_X11_329) dX11_foretold_90 ?_
  refine lv_lxor hx hb dX11_foretold_93 ?_
  refine lv_lload hx hb dX11_foretold_94 (lv_at hl 0 rfl) ?_
  refine lv_land hx hb dX11_foretold_96 ?_
  refine lv_lor hx hb dX11_foretold_97 ?_
  obtain ⟨r9, er9, hf⟩ := bd1_e hf
  refine x_aft_i (x_runS (As := [.long ((x4 &&& x7) ||| ((x4 ^^^ (-1)) &&& x8))]) (rest := [.int 64]) C hP hS (c_X11_bitLength (l := l) C.2.2.2.2.2.2.2.2.2.1 hW er9 s.heap.size) km_X11_bitLength ks_X11_bitLength qm_X11_331 ⟨(Nat.le_of_ble_eq_true rfl), (Nat.le_of_ble_eq_true rfl)⟩ rfl hl.1 rfl (Nat.le_of_ble_eq_true rfl) ⟨Nat.zero_le _, Nat.zero_le _⟩ dX11_foretold_98) hS (fun H locs hP hS hW => ?_)
  refine lv_isub hx hb dX11_foretold_101 ?_
  cases hf
  exact x_reti C hP hS hW dX11_foretold_102
def s_X11_form (N : Nat → Nat) (a : Nat) (p0 : Int32) (p1 : Int32) (S : HS) : Option Int32 :=
  bd1 (gR S 1111 a) fun t1 =>
  bd1 (s_X9_formAt N t1 p0 S) fun r2 =>
  mq r2
  (some (-1))
  fun t4 =>
  if p1 = 0 then
  some (gI S 200 t4)
  else
  if p1 = 1 then
  some (gI S 201 t4)
  else
  if p1 = 2 then
  some (gI S 202 t4)
  else
  if p1 = 3 then
  some (gI S 203 t4)
  else
  if p1 = 4 then
  some (gI S 206 t4)
  else
  if p1 = 5 then
  some (gI S 207 t4)
  else
  some (-1)
set_option maxRecDepth 100000 in
set_option maxHeartbeats 4000000 in
theorem c_X11_form {l : Launch} {V : EV} {G : GS} {S : HS} {a : Nat} {p0 : Int32} {p1 : Int32} {r : Int32} (hN : G.1.Nodup) (hW : WT G S) (h_a : a ∈ G.1) (k_a : G.2.1 a = 11) (hf : s_X11_form G.2.2 a p0 p1 S = some r) : MetI l yX11_form cX11_form 4 .int 1 29 V G S [.ref a, .int p0, .int p1] r S := by
  intro sz
  refine x_in RX11 rfl (by decide +kernel) hN (Nat.le_of_ble_eq_true rfl) (fun p e s m args below meth c ls hsz hargs hnm C hP hS hl => ?_)
  subst hsz
  have hx := C.1
  have hb := C.2.1
  have hl : lv_has ls 4 [(0, .ref a), (1, .int p0), (2, .int p1)] := hl
  unfold s_X11_form at hf
  refine lv_aload_n hx hb dX11_form_0 rfl (lv_at hl 0 rfl) ?_
  refine gf_X11_68 C hP h_a k_a dX11_form_1 ?_
  obtain ⟨t1, et1, hf⟩ := bd1_e hf
  obtain ⟨h_t1, k_t1⟩ := wt_r hW h_a k_a (by decide) et1
  have k_t1 : G.2.1 t1 = 9 := k_t1
  rw [et1]
  refine lv_iload_n hx hb dX11_form_4 rfl (lv_at hl 1 rfl) ?_
  obtain ⟨r2, er2, hf⟩ := bd1_e hf
  refine x_aft_r (x_runV (As := [.int p0]) (rest := []) C hP hS (c_X9_formAt (l := l) C.2.2.2.2.2.2.2.2.2.1 hW h_t1 k_t1 er2 s.heap.size) h_t1 k_t1 (by decide) rfl rfl km_X9_formAt ki_X9_formAt qm_X11_138 ⟨(Nat.le_of_ble_eq_true rfl), (Nat.le_of_ble_eq_true rfl)⟩ rfl hl.1 rfl (Nat.le_of_ble_eq_true rfl) ⟨Nat.zero_le _, Nat.zero_le _⟩ dX11_form_5) hS (fun H locs hP hS hW q3 => ?_)
  cases r2 with
  | none =>
    have hf := mq_n rfl hf
    show W _ _ _ _ _ _ _ _ _ _ _ _ _ _ _ (F0 m 8 ls (.null :: []))
    refine lv_astore_nN (lv' := [(3, .null), (0, .ref a), (1, .int p0), (2, .int p1)]) hx hb dX11_form_8 rfl hl (by decide) rfl (fun ls hl => ?_)
    refine lv_aload_nN hx hb dX11_form_9 rfl (lv_at hl 0 rfl) ?_
    refine lv_ifnonnullN hx hb dX11_form_10 ?_
    refine lv_iconst (v := (-1)) hx hb dX11_form_13 rfl ?_
    cases hf
    exact x_reti C hP hS hW dX11_form_14
  | some t4 =>
    have hf := mq_s rfl hf
    obtain ⟨h_t4, k_t4⟩ := q3 _ rfl
    show W _ _ _ _ _ _ _ _ _ _ _ _ _ _ _ (F0 m 8 ls (.ref t4 :: []))
    refine lv_astore_n (lv' := [(3, .ref t4), (0, .ref a), (1, .int p0), (2, .int p1)]) hx hb dX11_form_8 rfl hl (by decide) rfl (fun ls hl => ?_)
    refine lv_aload_n hx hb dX11_form_9 rfl (lv_at hl 0 rfl) ?_
    refine lv_ifnonnull (tgt := 15) hx hb dX11_form_10 (by decide) ?_
    refine lv_iload_n hx hb dX11_form_15 rfl (lv_at hl 3 rfl) ?_
    by_cases c5 : p1 = 0
    · have hf := if_t c5 hf
      refine lv_tableIn (tgt := 56) (off := 40) hx hb dX11_form_16 (by rw [c5]; decide) (by rw [c5]; decide) (by rw [c5]; rfl) (by decide) ?_
      refine lv_aload_n hx hb dX11_form_56 rfl (lv_at hl 0 rfl) ?_
      refine gf_X11_142 C hP h_t4 k_t4 dX11_form_57 ?_
      cases hf
      exact x_reti C hP hS hW dX11_form_60
    have hf := if_f c5 hf
    by_cases c6 : p1 = 1
    · have hf := if_t c6 hf
      refine lv_tableIn (tgt := 61) (off := 45) hx hb dX11_form_16 (by rw [c6]; decide) (by rw [c6]; decide) (by rw [c6]; rfl) (by decide) ?_
      refine lv_aload_n hx hb dX11_form_61 rfl (lv_at hl 0 rfl) ?_
      refine gf_X11_147 C hP h_t4 k_t4 dX11_form_62 ?_
      cases hf
      exact x_reti C hP hS hW dX11_form_65
    have hf := if_f c6 hf
    by_cases c7 : p1 = 2
    · have hf := if_t c7 hf
      refine lv_tableIn (tgt := 66) (off := 50) hx hb dX11_form_16 (by rw [c7]; decide) (by rw [c7]; decide) (by rw [c7]; rfl) (by decide) ?_
      refine lv_aload_n hx hb dX11_form_66 rfl (lv_at hl 0 rfl) ?_
      refine gf_X11_150 C hP h_t4 k_t4 dX11_form_67 ?_
      cases hf
      exact x_reti C hP hS hW dX11_form_70
    have hf := if_f c7 hf
    by_cases c8 : p1 = 3
    · have hf := if_t c8 hf
      refine lv_tableIn (tgt := 71) (off := 55) hx hb dX11_form_16 (by rw [c8]; decide) (by rw [c8]; decide) (by rw [c8]; rfl) (by decide) ?_
      refine lv_aload_n hx hb dX11_form_71 rfl (lv_at hl 0 rfl) ?_
      refine gf_X11_153 C hP h_t4 k_t4 dX11_form_72 ?_
      cases hf
      exact x_reti C hP hS hW dX11_form_75
    have hf := if_f c8 hf
    by_cases c9 : p1 = 4
    · have hf := if_t c9 hf
      refine lv_tableIn (tgt := 76) (off := 60) hx hb dX11_form_16 (by rw [c9]; decide) (by rw [c9]; decide) (by rw [c9]; rfl) (by decide) ?_
      refine lv_aload_n hx hb dX11_form_76 rfl (lv_at hl 0 rfl) ?_
      refine gf_X11_156 C hP h_t4 k_t4 dX11_form_77 ?_
      cases hf
      exact x_reti C hP hS hW dX11_form_80
    have hf := if_f c9 hf
    by_cases c10 : p1 = 5
    · have hf := if_t c10 hf
      refine lv_tableIn (tgt := 81) (off := 65) hx hb dX11_form_16 (by rw [c10]; decide) (by rw [c10]; decide) (by rw [c10]; rfl) (by decide) ?_
      refine lv_aload_n hx hb dX11_form_81 rfl (lv_at hl 0 rfl) ?_
      refine gf_X11_159 C hP h_t4 k_t4 dX11_form_82 ?_
      cases hf
      exact x_reti C hP hS hW dX11_form_85
    have hf := if_f c10 hf
    refine lv_tableOut (tgt := 86) hx hb dX11_form_16 (sw_out (fun k h1 h2 e9 => by
      rcases (show k = 0 ∨ k = 1 ∨ k = 2 ∨ k = 3 ∨ k = 4 ∨ k = 5 by omega) with rfl | rfl | rfl | rfl | rfl | rfl
      · exact c5 e9
      · exact c6 e9
      · exact c7 e9
      · exact c8 e9
      · exact c9 e9
      · exact c10 e9
      )) (by decide) ?_
    refine lv_iconst (v := (-1)) hx hb dX11_form_86 rfl ?_
    cases hf
    exact x_reti C hP hS hW dX11_form_87
def s_X11_half (N : Nat → Nat) (F : Nat) (a : Nat) (p0 : Int32) (p1 : Int32) (p2 : Int32) (S : HS) : Option (Int32 × HS) :=
  bd1 (gR S 1104 a) fun t1 =>
  bd2 (s_X11_add N F a p0 p1 p2 (gI S 702 t1) S) fun r2 S3 =>
  if r2 = (0 : Int32) then
  some (0, S3)
  else
  bd1 (gR S3 1101 a) fun t6 =>
  if (s_X0_isHalf t6 S3) = (0 : Int32) then
  some (0, S3)
  else
  some (1, S3)
set_option maxRecDepth 100000 in
set_option maxHeartbeats 4000000 in
theorem c_X11_half {l : Launch} {V : EV} {G : GS} {S : HS} {F : Nat} {a : Nat} {p0 : Int32} {p1 : Int32} {p2 : Int32} {r : Int32} {S' : HS} (hN : G.1.Nodup) (hW : WT G S) (h_a : a ∈ G.1) (k_a : G.2.1 a = 11) (hf : s_X11_half G.2.2 F a p0 p1 p2 S = some (r, S')) : MetZ l yX11_half cX11_half 4 6 205 V G S [.ref a, .int p0, .int p1, .int p2] r S' := by
  intro sz
  refine x_in RX11 rfl (by decide +kernel) hN (Nat.le_of_ble_eq_true rfl) (fun p e s m args below meth c ls hsz hargs hnm C hP hS hl => ?_)
  subst hsz
  have hx := C.1
  have hb := C.2.1
  have hl : lv_has ls 4 [(0, .ref a), (1, .int p0), (2, .int p1), (3, .int p2)] := hl
  unfold s_X11_half at hf
  refine lv_aload_n hx hb dX11_half_0 rfl (lv_at hl 0 rfl) ?_
  refine lv_iload_n hx hb dX11_half_1 rfl (lv_at hl 1 rfl) ?_
  refine lv_iload_n hx hb dX11_half_2 rfl (lv_at hl 2 rfl) ?_
  refine lv_iload_n hx hb dX11_half_3 rfl (lv_at hl 3 rfl) ?_
  refine lv_aload_n hx hb dX11_half_4 rfl (lv_at hl 0 rfl) ?_
  refine gf_X11_40 C hP h_a k_a dX11_half_5 ?_
  obtain ⟨t1, et1, hf⟩ := bd1_e hf
  obtain ⟨h_t1, k_t1⟩ := wt_r hW h_a k_a (by decide) et1
  have k_t1 : G.2.1 t1 = 7 := k_t1
  rw [et1]
  refine gf_X11_193 C hP h_t1 k_t1 dX11_half_8 ?_
  obtain ⟨r2, S3, eS3, hf⟩ := bd2_e hf
  refine x_aft_z (x_runV (As := [.int p0, .int p1, .int p2, .int (gI S 702 t1)]) (rest := []) C hP hS (c_X11_add (l := l) C.2.2.2.2.2.2.2.2.2.1 hW h_a k_a eS3 s.heap.size) h_a k_a (by decide) rfl rfl km_X11_add ki_X11_add qm_X11_301 ⟨(Nat.le_of_ble_eq_true rfl), (Nat.le_of_ble_eq_true rfl)⟩ rfl hl.1 rfl (Nat.le_of_ble_eq_true rfl) ⟨Nat.zero_le _, Nat.zero_le _⟩ dX11_half_11) hS (fun H locs hP hS hW z4 => ?_)
  refine lv_if_eq (tgt := 31) hx hb dX11_half_14 (by decide) (fun c5 => ?_) (fun c5 => ?_)
  · have hf := if_t c5 hf
    refine lv_iconst (v := 0) hx hb dX11_half_31 rfl ?_
    cases hf
    exact x_retZ C hP hS hW isZ_0 dX11_half_32
  · have hf := if_f c5 hf
    refine lv_aload_n hx hb dX11_half_17 rfl (lv_at hl 0 rfl) ?_
    refine gf_X11_19 C hP h_a k_a dX11_half_18 ?_
    obtain ⟨t6, et6, hf⟩ := bd1_e hf
    obtain ⟨h_t6, k_t6⟩ := wt_r hW h_a k_a (by decide) et6
    have k_t6 : G.2.1 t6 = 0 := k_t6
    rw [et6]
    refine x_aft_z (x_runV (As := []) (rest := []) C hP hS (c_X0_isHalf (l := l) C.2.2.2.2.2.2.2.2.2.1 hW h_t6 k_t6 rfl H.size) h_t6 k_t6 (by decide) rfl rfl km_X0_isHalf ki_X0_isHalf qm_X11_312 ⟨(Nat.le_of_ble_eq_true rfl), (Nat.le_of_ble_eq_true rfl)⟩ rfl hl.1 rfl (Nat.le_of_ble_eq_true rfl) ⟨Nat.zero_le _, Nat.zero_le _⟩ dX11_half_21) hS (fun H locs hP hS hW z7 => ?_)
    refine lv_if_eq (tgt := 31) hx hb dX11_half_24 (by decide) (fun c8 => ?_) (fun c8 => ?_)
    · have hf := if_t c8 hf
      refine lv_iconst (v := 0) hx hb dX11_half_31 rfl ?_
      cases hf
      exact x_retZ C hP hS hW isZ_0 dX11_half_32
    · have hf := if_f c8 hf
      refine lv_iconst (v := 1) hx hb dX11_half_27 rfl ?_
      refine lv_goto (tgt := 32) hx hb dX11_half_28 (by decide) ?_
      cases hf
      exact x_retZ C hP hS hW isZ_1 dX11_half_32
def s_X11_into (N : Nat → Nat) (F : Nat) (a : Nat) (p0 : Int32) (p1 : Int32) (S : HS) : Option (Int32 × HS) :=
  bd1 (s_X11_formHolding N a p1 S) fun r1 =>
  mq r1
  (bd1 (gR S 1111 a) fun t4 =>
  bd1 (s_X9_formAt N t4 p0 S) fun r5 =>
  mq r5
  (some ((-1), S))
  fun t7 =>
  some ((-1), S))
  fun t3 =>
  bd1 (gR S 1111 a) fun t8 =>
  bd1 (s_X9_formAt N t8 p0 S) fun r9 =>
  mq r9
  (some ((-1), S))
  fun t11 =>
  bd1 (gR S 1101 a) fun t12 =>
  bd1 (gR S 1104 a) fun t13 =>
  bd1 (s_X0_convert F t12 t3 t11 (gI S 702 t13) p1 S) fun S14 =>
  bd1 (gR S14 1101 a) fun t15 =>
  some (gI S14 1 t15, S14)
set_option maxRecDepth 100000 in
set_option maxHeartbeats 4000000 in
theorem c_X11_into {l : Launch} {V : EV} {G : GS} {S : HS} {F : Nat} {a : Nat} {p0 : Int32} {p1 : Int32} {r : Int32} {S' : HS} (hN : G.1.Nodup) (hW : WT G S) (h_a : a ∈ G.1) (k_a : G.2.1 a = 11) (hf : s_X11_into G.2.2 F a p0 p1 S = some (r, S')) : MetI l yX11_into cX11_into 5 .int 4 121 V G S [.ref a, .int p0, .int p1] r S' := by
  intro sz
  refine x_in RX11 rfl (by decide +kernel) hN (Nat.le_of_ble_eq_true rfl) (fun p e s m args below meth c ls hsz hargs hnm C hP hS hl => ?_)
  subst hsz
  have hx := C.1
  have hb := C.2.1
  have hl : lv_has ls 5 [(0, .ref a), (1, .int p0), (2, .int p1)] := hl
  unfold s_X11_into at hf
  refine lv_aload_n hx hb dX11_into_0 rfl (lv_at hl 0 rfl) ?_
  refine lv_iload_n hx hb dX11_into_1 rfl (lv_at hl 2 rfl) ?_
  obtain ⟨r1, er1, hf⟩ := bd1_e hf
  refine x_aft_r (x_runV (As := [.int p1]) (rest := []) C hP hS (c_X11_formHolding (l := l) C.2.2.2.2.2.2.2.2.2.1 hW h_a k_a er1 s.heap.size) h_a k_a (by decide) rfl rfl km_X11_formHolding ki_X11_formHolding qm_X11_235 ⟨(Nat.le_of_ble_eq_true rfl), (Nat.le_of_ble_eq_true rfl)⟩ rfl hl.1 rfl (Nat.le_of_ble_eq_true rfl) ⟨Nat.zero_le _, Nat.zero_le _⟩ dX11_into_2) hS (fun H locs hP hS hW q2 => ?_)
  cases r1 with
  | none =>
    have hf := mq_n rfl hf
    show W _ _ _ _ _ _ _ _ _ _ _ _ _ _ _ (F0 m 5 ls (.null :: []))
    refine lv_astore_nN (lv' := [(3, .null), (0, .ref a), (1, .int p0), (2, .int p1)]) hx hb dX11_into_5 rfl hl (by decide) rfl (fun ls hl => ?_)
    refine lv_aload_n hx hb dX11_into_6 rfl (lv_at hl 1 rfl) ?_
    refine gf_X11_68 C hP h_a k_a dX11_into_7 ?_
    obtain ⟨t4, et4, hf⟩ := bd1_e hf
    obtain ⟨h_t4, k_t4⟩ := wt_r hW h_a k_a (by decide) et4
    have k_t4 : G.2.1 t4 = 9 := k_t4
    rw [et4]
    refine lv_iload_n hx hb dX11_into_10 rfl (lv_at hl 2 rfl) ?_
    obtain ⟨r5, er5, hf⟩ := bd1_e hf
    refine x_aft_r (x_runV (As := [.int p0]) (rest := []) C hP hS (c_X9_formAt (l := l) C.2.2.2.2.2.2.2.2.2.1 hW h_t4 k_t4 er5 H.size) h_t4 k_t4 (by decide) rfl rfl km_X9_formAt ki_X9_formAt qm_X11_138 ⟨(Nat.le_of_ble_eq_true rfl), (Nat.le_of_ble_eq_true rfl)⟩ rfl hl.1 rfl (Nat.le_of_ble_eq_true rfl) ⟨Nat.zero_le _, Nat.zero_le _⟩ dX11_into_11) hS (fun H locs hP hS hW q6 => ?_)
    cases r5 with
    | none =>
      have hf := mq_n rfl hf
      show W _ _ _ _ _ _ _ _ _ _ _ _ _ _ _ (F0 m 14 ls (.null :: []))
      refine lv_astoreN (lv' := [(4, .null), (3, .null), (0, .ref a), (1, .int p0), (2, .int p1)]) hx hb dX11_into_14 hl (by decide) rfl (fun ls hl => ?_)
      refine lv_aload_nN hx hb dX11_into_16 rfl (lv_at hl 1 rfl) ?_
      refine lv_ifnullN (tgt := 25) hx hb dX11_into_17 (by decide) ?_
      refine lv_iconst (v := (-1)) hx hb dX11_into_25 rfl ?_
      cases hf
      exact x_reti C hP hS hW dX11_into_26
    | some t7 =>
      have hf := mq_s rfl hf
      obtain ⟨h_t7, k_t7⟩ := q6 _ rfl
      show W _ _ _ _ _ _ _ _ _ _ _ _ _ _ _ (F0 m 14 ls (.ref t7 :: []))
      refine lv_astore (lv' := [(4, .ref t7), (3, .null), (0, .ref a), (1, .int p0), (2, .int p1)]) hx hb dX11_into_14 hl (by decide) rfl (fun ls hl => ?_)
      refine lv_aload_nN hx hb dX11_into_16 rfl (lv_at hl 1 rfl) ?_
      refine lv_ifnullN (tgt := 25) hx hb dX11_into_17 (by decide) ?_
      refine lv_iconst (v := (-1)) hx hb dX11_into_25 rfl ?_
      cases hf
      exact x_reti C hP hS hW dX11_into_26
  | some t3 =>
    have hf := mq_s rfl hf
    obtain ⟨h_t3, k_t3⟩ := q2 _ rfl
    show W _ _ _ _ _ _ _ _ _ _ _ _ _ _ _ (F0 m 5 ls (.ref t3 :: []))
    refine lv_astore_n (lv' := [(3, .ref t3), (0, .ref a), (1, .int p0), (2, .int p1)]) hx hb dX11_into_5 rfl hl (by decide) rfl (fun ls hl => ?_)
    refine lv_aload_n hx hb dX11_into_6 rfl (lv_at hl 1 rfl) ?_
    refine gf_X11_68 C hP h_a k_a dX11_into_7 ?_
    obtain ⟨t8, et8, hf⟩ := bd1_e hf
    obtain ⟨h_t8, k_t8⟩ := wt_r hW h_a k_a (by decide) et8
    have k_t8 : G.2.1 t8 = 9 := k_t8
    rw [et8]
    refine lv_iload_n hx hb dX11_into_10 rfl (lv_at hl 2 rfl) ?_
    obtain ⟨r9, er9, hf⟩ := bd1_e hf
    refine x_aft_r (x_runV (As := [.int p0]) (rest := []) C hP hS (c_X9_formAt (l := l) C.2.2.2.2.2.2.2.2.2.1 hW h_t8 k_t8 er9 H.size) h_t8 k_t8 (by decide) rfl rfl km_X9_formAt ki_X9_formAt qm_X11_138 ⟨(Nat.le_of_ble_eq_true rfl), (Nat.le_of_ble_eq_true rfl)⟩ rfl hl.1 rfl (Nat.le_of_ble_eq_true rfl) ⟨Nat.zero_le _, Nat.zero_le _⟩ dX11_into_11) hS (fun H locs hP hS hW q10 => ?_)
    cases r9 with
    | none =>
      have hf := mq_n rfl hf
      show W _ _ _ _ _ _ _ _ _ _ _ _ _ _ _ (F0 m 14 ls (.null :: []))
      refine lv_astoreN (lv' := [(4, .null), (3, .ref t3), (0, .ref a), (1, .int p0), (2, .int p1)]) hx hb dX11_into_14 hl (by decide) rfl (fun ls hl => ?_)
      refine lv_aload_n hx hb dX11_into_16 rfl (lv_at hl 1 rfl) ?_
      refine lv_ifnull hx hb dX11_into_17 ?_
      refine lv_aloadN hx hb dX11_into_20 (lv_at hl 0 rfl) ?_
      refine lv_ifnonnullN hx hb dX11_into_22 ?_
      refine lv_iconst (v := (-1)) hx hb dX11_into_25 rfl ?_
      cases hf
      exact x_reti C hP hS hW dX11_into_26
    | some t11 =>
      have hf := mq_s rfl hf
      obtain ⟨h_t11, k_t11⟩ := q10 _ rfl
      show W _ _ _ _ _ _ _ _ _ _ _ _ _ _ _ (F0 m 14 ls (.ref t11 :: []))
      refine lv_astore (lv' := [(4, .ref t11), (3, .ref t3), (0, .ref a), (1, .int p0), (2, .int p1)]) hx hb dX11_into_14 hl (by decide) rfl (fun ls hl => ?_)
      refine lv_aload_n hx hb dX11_into_16 rfl (lv_at hl 1 rfl) ?_
      refine lv_ifnull hx hb dX11_into_17 ?_
      refine lv_aload hx hb dX11_into_20 (lv_at hl 0 rfl) ?_
      refine lv_ifnonnull (tgt := 27) hx hb dX11_into_22 (by decide) ?_
      refine lv_aload_n hx hb dX11_into_27 rfl (lv_at hl 2 rfl) ?_
      refine gf_X11_19 C hP h_a k_a dX11_into_28 ?_
      obtain ⟨t12, et12, hf⟩ := bd1_e hf
      obtain ⟨h_t12, k_t12⟩ := wt_r hW h_a k_a (by decide) et12
      have k_t12 : G.2.1 t12 = 0 := k_t12
      rw [et12]
      refine lv_aload_n hx hb dX11_into_31 rfl (lv_at hl 1 rfl) ?_
      refine lv_aload hx hb dX11_into_32 (lv_at hl 0 rfl) ?_
      refine lv_aload_n hx hb dX11_into_34 rfl (lv_at hl 2 rfl) ?_
      refine gf_X11_40 C hP h_a k_a dX11_into_35 ?_
      obtain ⟨t13, et13, hf⟩ := bd1_e hf
      obtain ⟨h_t13, k_t13⟩ := wt_r hW h_a k_a (by decide) et13
      have k_t13 : G.2.1 t13 = 7 := k_t13
      rw [et13]
      refine gf_X11_193 C hP h_t13 k_t13 dX11_into_38 ?_
      refine lv_iload_n hx hb dX11_into_41 rfl (lv_at hl 4 rfl) ?_
      obtain ⟨S14, eS14, hf⟩ := bd1_e hf
      refine x_aft_v (x_runV (As := [.ref t3, .ref t11, .int (gI S 702 t13), .int p1]) (rest := []) C hP hS (c_X0_convert (l := l) C.2.2.2.2.2.2.2.2.2.1 hW h_t12 k_t12 h_t3 k_t3 h_t11 k_t11 eS14 H.size) h_t12 k_t12 (by decide) rfl rfl km_X0_convert ki_X0_convert qm_X11_297 ⟨(Nat.le_of_ble_eq_true rfl), (Nat.le_of_ble_eq_true rfl)⟩ rfl hl.1 rfl (Nat.le_of_ble_eq_true rfl) ⟨Nat.zero_le _, Nat.zero_le _⟩ dX11_into_42) hS (fun H locs hP hS hW => ?_)
      refine lv_aload_n hx hb dX11_into_45 rfl (lv_at hl 2 rfl) ?_
      refine gf_X11_19 C hP h_a k_a dX11_into_46 ?_
      obtain ⟨t15, et15, hf⟩ := bd1_e hf
      obtain ⟨h_t15, k_t15⟩ := wt_r hW h_a k_a (by decide) et15
      have k_t15 : G.2.1 t15 = 0 := k_t15
      rw [et15]
      refine gf_X11_196 C hP h_t15 k_t15 dX11_into_49 ?_
      cases hf
      exact x_reti C hP hS hW dX11_into_52
def s_X11_inverse_J116 (N : Nat → Nat) (F : Nat) (k41 : Nat → Int32 → Nat → Int32 → Int32 → Int32 → Int32 → HS → Option (Int32 × HS)) (v0 : Nat) (v1 : Int32) (v2 : Nat) (v3 : Int32) (v4 : Int32) (v5 : Int32) (v6 : Int32) (S : HS) : Option (Int32 × HS) :=
  bnd (v6 + Int32.ofInt 1 : Int32) fun x16 =>
  k41 v0 v1 v2 v3 v4 v5 x16 S
def s_X11_inverse_L41 (N : Nat → Nat) (F : Nat) : Nat → Nat → Int32 → Nat → Int32 → Int32 → Int32 → Int32 → HS → Option (Int32 × HS)
  | 0, _, _, _, _, _, _, _, _ => none
  | n + 1, v0, v1, v2, v3, v4, v5, v6, S => if (s_X2_many v2 S) ≤ v6 then
  some (v4, S)
  else
  bd1 (gR S 1101 v0) fun t10 =>
  bd1 (gR S 1104 v0) fun t11 =>
  bd1 (s_X0_add F t10 v2 (gI S 702 t11) v6 v1 v3 S) fun S12 =>
  bd1 (gR S12 1101 v0) fun t13 =>
  if (s_X2_isNan v2 (gI S12 1 t13) S12) = (0 : Int32) then
  bd1 (gR S12 1101 v0) fun t17 =>
  if v5 ≤ (s_X2_size v2 (gI S12 1 t17) S12) then
  s_X11_inverse_J116 N F (s_X11_inverse_L41 N F n) v0 v1 v2 v3 v4 v5 v6 S12
  else
  bd1 (gR S12 1101 v0) fun t19 =>
  bnd (s_X2_size v2 (gI S12 1 t19) S12 : Int32) fun x20 =>
  s_X11_inverse_J116 N F (s_X11_inverse_L41 N F n) v0 v1 v2 v3 v6 x20 v6 S12
  else
  s_X11_inverse_J116 N F (s_X11_inverse_L41 N F n) v0 v1 v2 v3 v4 v5 v6 S12
def s_X11_inverse (N : Nat → Nat) (F : Nat) (a : Nat) (p0 : Int32) (S : HS) : Option (Int32 × HS) :=
  bd1 (s_X11_formInUse N a S) fun r1 =>
  mq r1
  (some ((-1), S))
  fun t3 =>
  bd1 (s_X11_isSmallHolding N a p0 p0 S) fun r4 =>
  if r4 = (0 : Int32) then
  some ((-1), S)
  else
  bnd (s_X2_turned t3 (s_X2_one t3 S) S : Int32) fun x7 =>
  bnd (s_X2_many t3 S : Int32) fun x8 =>
  s_X11_inverse_L41 N F F a p0 t3 x7 (-1) x8 0 S
set_option maxRecDepth 100000 in
set_option maxHeartbeats 4000000 in
theorem b_X11_inverse_116 {p : Program} {l : Launch} {e : Env} {s : State} {m : MethodId} {args : Array Value} {below : List Frame} {meth : Method} {c : Code} {V : EV} {G : GS} {r : Int32} {S' : HS} {F : Nat} (C : CX p s m args meth c RX11 cX11_inverse 7 (some .int) V G) {k41 : Nat → Int32 → Nat → Int32 → Int32 → Int32 → Int32 → HS → Option (Int32 × HS)} (hk41 : ∀ (v0 : Nat) (v1 : Int32) (v2 : Nat) (v3 : Int32) (v4 : Int32) (v5 : Int32) (v6 : Int32) (h_v0 : v0 ∈ G.1) (k_v0 : G.2.1 v0 = 11) (h_v2 : v2 ∈ G.1) (k_v2 : G.2.1 v2 = 2) (S : HS) (H : Heap) (locs : List Loc) (ls : Array Slot), k41 v0 v1 v2 v3 v4 v5 v6 S = some (r, S') → HP V G S H → va_S (AG G s.heap.size) s.heap H locs → WT G S → lv_has ls 7 [(0, .ref v0), (1, .int v1), (2, .ref v2), (3, .int v3), (4, .int v4), (5, .int v5), (6, .int v6)] → W p l e (RM 5 172) s m args below meth c H locs 0 0 (MQ below (QI V G S' r s.heap.size) args s 0 0 (AG G s.heap.size)) (F0 m 41 ls [])) : ∀ (v0 : Nat) (v1 : Int32) (v2 : Nat) (v3 : Int32) (v4 : Int32) (v5 : Int32) (v6 : Int32) (h_v0 : v0 ∈ G.1) (k_v0 : G.2.1 v0 = 11) (h_v2 : v2 ∈ G.1) (k_v2 : G.2.1 v2 = 2) (S : HS) (H : Heap) (locs : List Loc) (ls : Array Slot), s_X11_inverse_J116 G.2.2 F k41 v0 v1 v2 v3 v4 v5 v6 S = some (r, S') → HP V G S H → va_S (AG G s.heap.size) s.heap H locs → WT G S → lv_has ls 7 [(0, .ref v0), (1, .int v1), (2, .ref v2), (3, .int v3), (4, .int v4), (5, .int v5), (6, .int v6)] → W p l e (RM 5 172) s m args below meth c H locs 0 0 (MQ below (QI V G S' r s.heap.size) args s 0 0 (AG G s.heap.size)) (F0 m 116 ls []) := by
  intro v0 v1 v2 v3 v4 v5 v6 h_v0 k_v0 h_v2 k_v2 S H locs ls hf hP hS hW hl
  have hx := C.1
  have hb := C.2.1
  unfold s_X11_inverse_J116 at hf
  obtain ⟨x16, ex16, hf⟩ := bnd_e hf
  refine lv_iinc (v := x16) (lv' := [(6, .int x16), (0, .ref v0), (1, .int v1), (2, .ref v2), (3, .int v3), (4, .int v4), (5, .int v5)]) hx hb dX11_inverse_116 hl (k := 6) rfl ex16.symm (by decide) rfl (fun ls hl => ?_)
  refine lv_goto (tgt := 41) hx hb dX11_inverse_119 (by decide) ?_
  exact hk41 v0 v1 v2 v3 v4 v5 x16 h_v0 k_v0 h_v2 k_v2 S H locs _ hf hP hS hW (lv_sub hl [1, 2, 3, 4, 5, 6, 0] rfl)
set_option maxRecDepth 100000 in
set_option maxHeartbeats 4000000 in
theorem b_X11_inverse_41 {p : Program} {l : Launch} {e : Env} {s : State} {m : MethodId} {args : Array Value} {below : List Frame} {meth : Method} {c : Code} {V : EV} {G : GS} {r : Int32} {S' : HS} {F : Nat} (C : CX p s m args meth c RX11 cX11_inverse 7 (some .int) V G) : ∀ n : Nat, ∀ (v0 : Nat) (v1 : Int32) (v2 : Nat) (v3 : Int32) (v4 : Int32) (v5 : Int32) (v6 : Int32) (h_v0 : v0 ∈ G.1) (k_v0 : G.2.1 v0 = 11) (h_v2 : v2 ∈ G.1) (k_v2 : G.2.1 v2 = 2) (S : HS) (H : Heap) (locs : List Loc) (ls : Array Slot), s_X11_inverse_L41 G.2.2 F n v0 v1 v2 v3 v4 v5 v6 S = some (r, S') → HP V G S H → va_S (AG G s.heap.size) s.heap H locs → WT G S → lv_has ls 7 [(0, .ref v0), (1, .int v1), (2, .ref v2), (3, .int v3), (4, .int v4), (5, .int v5), (6, .int v6)] → W p l e (RM 5 172) s m args below meth c H locs 0 0 (MQ below (QI V G S' r s.heap.size) args s 0 0 (AG G s.heap.size)) (F0 m 41 ls []) := by
  intro n
  induction n with
  | zero =>
    intro v0 v1 v2 v3 v4 v5 v6 h_v0 k_v0 h_v2 k_v2 S H locs ls hf
    rw [s_X11_inverse_L41] at hf
    cases hf
  | succ n ih =>
    intro v0 v1 v2 v3 v4 v5 v6 h_v0 k_v0 h_v2 k_v2 S H locs ls hf hP hS hW hl
    have hx := C.1
    have hb := C.2.1
    rw [s_X11_inverse_L41] at hf
    refine lv_iload hx hb dX11_inverse_41 (lv_at hl 6 rfl) ?_
    refine lv_aload_n hx hb dX11_inverse_43 rfl (lv_at hl 2 rfl) ?_
    refine x_aft_i (x_runV (As := []) (rest := [.int v6]) C hP hS (c_X2_many (l := l) C.2.2.2.2.2.2.2.2.2.1 hW h_v2 k_v2 rfl H.size) h_v2 k_v2 (by decide) rfl rfl km_X2_many ki_X2_many qm_X11_343 ⟨(Nat.le_of_ble_eq_true rfl), (Nat.le_of_ble_eq_true rfl)⟩ rfl hl.1 rfl (Nat.le_of_ble_eq_true rfl) ⟨Nat.zero_le _, Nat.zero_le _⟩ dX11_inverse_44) hS (fun H locs hP hS hW => ?_)
    refine lv_icmp_ge (tgt := 122) hx hb dX11_inverse_47 (by decide) (fun c9 => ?_) (fun c9 => ?_)
    · have hf := if_t c9 hf
      refine lv_iload hx hb dX11_inverse_122 (lv_at hl 4 rfl) ?_
      cases hf
      exact x_reti C hP hS hW dX11_inverse_124
    · have hf := if_f c9 hf
      refine lv_aload_n hx hb dX11_inverse_50 rfl (lv_at hl 0 rfl) ?_
      refine gf_X11_19 C hP h_v0 k_v0 dX11_inverse_51 ?_
      obtain ⟨t10, et10, hf⟩ := bd1_e hf
      obtain ⟨h_t10, k_t10⟩ := wt_r hW h_v0 k_v0 (by decide) et10
      have k_t10 : G.2.1 t10 = 0 := k_t10
      rw [et10]
      refine lv_aload_n hx hb dX11_inverse_54 rfl (lv_at hl 2 rfl) ?_
      refine lv_aload_n hx hb dX11_inverse_55 rfl (lv_at hl 0 rfl) ?_
      refine gf_X11_40 C hP h_v0 k_v0 dX11_inverse_56 ?_
      obtain ⟨t11, et11, hf⟩ := bd1_e hf
      obtain ⟨h_t11, k_t11⟩ := wt_r hW h_v0 k_v0 (by decide) et11
      have k_t11 : G.2.1 t11 = 7 := k_t11
      rw [et11]
      refine gf_X11_193 C hP h_t11 k_t11 dX11_inverse_59 ?_
      refine lv_iload hx hb dX11_inverse_62 (lv_at hl 6 rfl) ?_
      refine lv_iload_n hx hb dX11_inverse_64 rfl (lv_at hl 1 rfl) ?_
      refine lv_iload_n hx hb dX11_inverse_65 rfl (lv_at hl 3 rfl) ?_
      obtain ⟨S12, eS12, hf⟩ := bd1_e hf
      refine x_aft_v (x_runV (As := [.ref v2, .int (gI S 702 t11), .int v6, .int v1, .int v3]) (rest := []) C hP hS (c_X0_add (l := l) C.2.2.2.2.2.2.2.2.2.1 hW h_t10 k_t10 h_v2 k_v2 eS12 H.size) h_t10 k_t10 (by decide) rfl rfl km_X0_add ki_X0_add qm_X11_305 ⟨(Nat.le_of_ble_eq_true rfl), (Nat.le_of_ble_eq_true rfl)⟩ rfl hl.1 rfl (Nat.le_of_ble_eq_true rfl) ⟨Nat.zero_le _, Nat.zero_le _⟩ dX11_inverse_66) hS (fun H locs hP hS hW => ?_)
      refine lv_aload_n hx hb dX11_inverse_69 rfl (lv_at hl 2 rfl) ?_
      refine lv_aload_n hx hb dX11_inverse_70 rfl (lv_at hl 0 rfl) ?_
      refine gf_X11_19 C hP h_v0 k_v0 dX11_inverse_71 ?_
      obtain ⟨t13, et13, hf⟩ := bd1_e hf
      obtain ⟨h_t13, k_t13⟩ := wt_r hW h_v0 k_v0 (by decide) et13
      have k_t13 : G.2.1 t13 = 0 := k_t13
      rw [et13]
      refine gf_X11_196 C hP h_t13 k_t13 dX11_inverse_74 ?_
      refine x_aft_z (x_runV (As := [.int (gI S12 1 t13)]) (rest := []) C hP hS (c_X2_isNan (l := l) C.2.2.2.2.2.2.2.2.2.1 hW h_v2 k_v2 rfl H.size) h_v2 k_v2 (by decide) rfl rfl km_X2_isNan ki_X2_isNan qm_X11_241 ⟨(Nat.le_of_ble_eq_true rfl), (Nat.le_of_ble_eq_true rfl)⟩ rfl hl.1 rfl (Nat.le_of_ble_eq_true rfl) ⟨Nat.zero_le _, Nat.zero_le _⟩ dX11_inverse_77) hS (fun H locs hP hS hW z14 => ?_)
      refine lv_if_ne (tgt := 116) hx hb dX11_inverse_80 (by decide) (fun c15 => ?_) (fun c15 => ?_)
      · have hf := if_f c15 hf
        exact b_X11_inverse_116 C ih v0 v1 v2 v3 v4 v5 v6 h_v0 k_v0 h_v2 k_v2 S12 H locs _ hf hP hS hW (lv_sub hl [0, 1, 2, 3, 4, 5, 6] rfl)
      · have hf := if_t c15 hf
        refine lv_aload_n hx hb dX11_inverse_83 rfl (lv_at hl 2 rfl) ?_
        refine lv_aload_n hx hb dX11_inverse_84 rfl (lv_at hl 0 rfl) ?_
        refine gf_X11_19 C hP h_v0 k_v0 dX11_inverse_85 ?_
        obtain ⟨t17, et17, hf⟩ := bd1_e hf
        obtain ⟨h_t17, k_t17⟩ := wt_r hW h_v0 k_v0 (by decide) et17
        have k_t17 : G.2.1 t17 = 0 := k_t17
        rw [et17]
        refine gf_X11_196 C hP h_t17 k_t17 dX11_inverse_88 ?_
        refine x_aft_i (x_runV (As := [.int (gI S12 1 t17)]) (rest := []) C hP hS (c_X2_size (l := l) C.2.2.2.2.2.2.2.2.2.1 hW h_v2 k_v2 rfl H.size) h_v2 k_v2 (by decide) rfl rfl km_X2_size ki_X2_size qm_X11_353 ⟨(Nat.le_of_ble_eq_true rfl), (Nat.le_of_ble_eq_true rfl)⟩ rfl hl.1 rfl (Nat.le_of_ble_eq_true rfl) ⟨Nat.zero_le _, Nat.zero_le _⟩ dX11_inverse_91) hS (fun H locs hP hS hW => ?_)
        refine lv_iload hx hb dX11_inverse_94 (lv_at hl 5 rfl) ?_
        refine lv_icmp_ge (tgt := 116) hx hb dX11_inverse_96 (by decide) (fun c18 => ?_) (fun c18 => ?_)
        · have hf := if_t c18 hf
          exact b_X11_inverse_116 C ih v0 v1 v2 v3 v4 v5 v6 h_v0 k_v0 h_v2 k_v2 S12 H locs _ hf hP hS hW (lv_sub hl [0, 1, 2, 3, 4, 5, 6] rfl)
        · have hf := if_f c18 hf
          refine lv_aload_n hx hb dX11_inverse_99 rfl (lv_at hl 2 rfl) ?_
          refine lv_aload_n hx hb dX11_inverse_100 rfl (lv_at hl 0 rfl) ?_
          refine gf_X11_19 C hP h_v0 k_v0 dX11_inverse_101 ?_
          obtain ⟨t19, et19, hf⟩ := bd1_e hf
          obtain ⟨h_t19, k_t19⟩ := wt_r hW h_v0 k_v0 (by decide) et19
          have k_t19 : G.2.1 t19 = 0 := k_t19
          rw [et19]
          refine gf_X11_196 C hP h_t19 k_t19 dX11_inverse_104 ?_
          refine x_aft_i (x_runV (As := [.int (gI S12 1 t19)]) (rest := []) C hP hS (c_X2_size (l := l) C.2.2.2.2.2.2.2.2.2.1 hW h_v2 k_v2 rfl H.size) h_v2 k_v2 (by decide) rfl rfl km_X2_size ki_X2_size qm_X11_353 ⟨(Nat.le_of_ble_eq_true rfl), (Nat.le_of_ble_eq_true rfl)⟩ rfl hl.1 rfl (Nat.le_of_ble_eq_true rfl) ⟨Nat.zero_le _, Nat.zero_le _⟩ dX11_inverse_107) hS (fun H locs hP hS hW => ?_)
          obtain ⟨x20, ex20, hf⟩ := bnd_e hf
          refine nm_i ex20 ?_
          refine lv_istore (lv' := [(5, .int x20), (0, .ref v0), (1, .int v1), (2, .ref v2), (3, .int v3), (4, .int v4), (6, .int v6)]) hx hb dX11_inverse_110 hl (by decide) rfl (fun ls hl => ?_)
          refine lv_iload hx hb dX11_inverse_112 (lv_at hl 6 rfl) ?_
          refine lv_istore (lv' := [(4, .int v6), (5, .int x20), (0, .ref v0), (1, .int v1), (2, .ref v2), (3, .int v3), (6, .int v6)]) hx hb dX11_inverse_114 hl (by decide) rfl (fun ls hl => ?_)
          exact b_X11_inverse_116 C ih v0 v1 v2 v3 v6 x20 v6 h_v0 k_v0 h_v2 k_v2 S12 H locs _ hf hP hS hW (lv_sub hl [2, 3, 4, 5, 0, 1, 6] rfl)
set_option maxRecDepth 100000 in
set_option maxHeartbeats 4000000 in
theorem c_X11_inverse {l : Launch} {V : EV} {G : GS} {S : HS} {F : Nat} {a : Nat} {p0 : Int32} {r : Int32} {S' : HS} (hN : G.1.Nodup) (hW : WT G S) (h_a : a ∈ G.1) (k_a : G.2.1 a = 11) (hf : s_X11_inverse G.2.2 F a p0 S = some (r, S')) : MetI l yX11_inverse cX11_inverse 7 .int 5 172 V G S [.ref a, .int p0] r S' := by
  intro sz
  refine x_in RX11 rfl (by decide +kernel) hN (Nat.le_of_ble_eq_true rfl) (fun p e s m args below meth c ls hsz hargs hnm C hP hS hl => ?_)
  subst hsz
  have hx := C.1
  have hb := C.2.1
  have hl : lv_has ls 7 [(0, .ref a), (1, .int p0)] := hl
  unfold s_X11_inverse at hf
  refine lv_aload_n hx hb dX11_inverse_0 rfl (lv_at hl 0 rfl) ?_
  obtain ⟨r1, er1, hf⟩ := bd1_e hf
  refine x_aft_r (x_runV (As := []) (rest := []) C hP hS (c_X11_formInUse (l := l) C.2.2.2.2.2.2.2.2.2.1 hW h_a k_a er1 s.heap.size) h_a k_a (by decide) rfl rfl km_X11_formInUse ki_X11_formInUse qm_X11_162 ⟨(Nat.le_of_ble_eq_true rfl), (Nat.le_of_ble_eq_true rfl)⟩ rfl hl.1 rfl (Nat.le_of_ble_eq_true rfl) ⟨Nat.zero_le _, Nat.zero_le _⟩ dX11_inverse_1) hS (fun H locs hP hS hW q2 => ?_)
  cases r1 with
  | none =>
    have hf := mq_n rfl hf
    show W _ _ _ _ _ _ _ _ _ _ _ _ _ _ _ (F0 m 4 ls (.null :: []))
    refine lv_astore_nN (lv' := [(2, .null), (0, .ref a), (1, .int p0)]) hx hb dX11_inverse_4 rfl hl (by decide) rfl (fun ls hl => ?_)
    refine lv_aload_nN hx hb dX11_inverse_5 rfl (lv_at hl 0 rfl) ?_
    refine lv_ifnullN (tgt := 18) hx hb dX11_inverse_6 (by decide) ?_
    refine lv_iconst (v := (-1)) hx hb dX11_inverse_18 rfl ?_
    cases hf
    exact x_reti C hP hS hW dX11_inverse_19
  | some t3 =>
    have hf := mq_s rfl hf
    obtain ⟨h_t3, k_t3⟩ := q2 _ rfl
    show W _ _ _ _ _ _ _ _ _ _ _ _ _ _ _ (F0 m 4 ls (.ref t3 :: []))
    refine lv_astore_n (lv' := [(2, .ref t3), (0, .ref a), (1, .int p0)]) hx hb dX11_inverse_4 rfl hl (by decide) rfl (fun ls hl => ?_)
    refine lv_aload_n hx hb dX11_inverse_5 rfl (lv_at hl 0 rfl) ?_
    refine lv_ifnull hx hb dX11_inverse_6 ?_
    refine lv_aload_n hx hb dX11_inverse_9 rfl (lv_at hl 1 rfl) ?_
    refine lv_iload_n hx hb dX11_inverse_10 rfl (lv_at hl 2 rfl) ?_
    refine lv_iload_n hx hb dX11_inverse_11 rfl (lv_at hl 2 rfl) ?_
    obtain ⟨r4, er4, hf⟩ := bd1_e hf
    refine x_aft_z (x_runV (As := [.int p0, .int p0]) (rest := []) C hP hS (c_X11_isSmallHolding (l := l) C.2.2.2.2.2.2.2.2.2.1 hW h_a k_a er4 H.size) h_a k_a (by decide) rfl rfl km_X11_isSmallHolding ki_X11_isSmallHolding qm_X11_339 ⟨(Nat.le_of_ble_eq_true rfl), (Nat.le_of_ble_eq_true rfl)⟩ rfl hl.1 rfl (Nat.le_of_ble_eq_true rfl) ⟨Nat.zero_le _, Nat.zero_le _⟩ dX11_inverse_12) hS (fun H locs hP hS hW z5 => ?_)
    refine lv_if_ne (tgt := 20) hx hb dX11_inverse_15 (by decide) (fun c6 => ?_) (fun c6 => ?_)
    · have hf := if_f c6 hf
      refine lv_aload_n hx hb dX11_inverse_20 rfl (lv_at hl 0 rfl) ?_
      refine lv_aload_n hx hb dX11_inverse_21 rfl (lv_at hl 0 rfl) ?_
      refine x_aft_i (x_runV (As := []) (rest := [.ref t3]) C hP hS (c_X2_one (l := l) C.2.2.2.2.2.2.2.2.2.1 hW h_t3 k_t3 rfl H.size) h_t3 k_t3 (by decide) rfl rfl km_X2_one ki_X2_one qm_X11_308 ⟨(Nat.le_of_ble_eq_true rfl), (Nat.le_of_ble_eq_true rfl)⟩ rfl hl.1 rfl (Nat.le_of_ble_eq_true rfl) ⟨Nat.zero_le _, Nat.zero_le _⟩ dX11_inverse_22) hS (fun H locs hP hS hW => ?_)
      refine x_aft_i (x_runV (As := [.int (s_X2_one t3 S)]) (rest := []) C hP hS (c_X2_turned (l := l) C.2.2.2.2.2.2.2.2.2.1 hW h_t3 k_t3 rfl H.size) h_t3 k_t3 (by decide) rfl rfl km_X2_turned ki_X2_turned qm_X11_250 ⟨(Nat.le_of_ble_eq_true rfl), (Nat.le_of_ble_eq_true rfl)⟩ rfl hl.1 rfl (Nat.le_of_ble_eq_true rfl) ⟨Nat.zero_le _, Nat.zero_le _⟩ dX11_inverse_25) hS (fun H locs hP hS hW => ?_)
      obtain ⟨x7, ex7, hf⟩ := bnd_e hf
      refine nm_i ex7 ?_
      refine lv_istore_n (lv' := [(3, .int x7), (2, .ref t3), (0, .ref a), (1, .int p0)]) hx hb dX11_inverse_28 rfl hl (by decide) rfl (fun ls hl => ?_)
      refine lv_iconst (v := (-1)) hx hb dX11_inverse_29 rfl ?_
      refine lv_istore (lv' := [(4, .int (-1)), (3, .int x7), (2, .ref t3), (0, .ref a), (1, .int p0)]) hx hb dX11_inverse_30 hl (by decide) rfl (fun ls hl => ?_)
      refine lv_aload_n hx hb dX11_inverse_32 rfl (lv_at hl 2 rfl) ?_
      refine x_aft_i (x_runV (As := []) (rest := []) C hP hS (c_X2_many (l := l) C.2.2.2.2.2.2.2.2.2.1 hW h_t3 k_t3 rfl H.size) h_t3 k_t3 (by decide) rfl rfl km_X2_many ki_X2_many qm_X11_343 ⟨(Nat.le_of_ble_eq_true rfl), (Nat.le_of_ble_eq_true rfl)⟩ rfl hl.1 rfl (Nat.le_of_ble_eq_true rfl) ⟨Nat.zero_le _, Nat.zero_le _⟩ dX11_inverse_33) hS (fun H locs hP hS hW => ?_)
      obtain ⟨x8, ex8, hf⟩ := bnd_e hf
      refine nm_i ex8 ?_
      refine lv_istore (lv' := [(5, .int x8), (4, .int (-1)), (3, .int x7), (2, .ref t3), (0, .ref a), (1, .int p0)]) hx hb dX11_inverse_36 hl (by decide) rfl (fun ls hl => ?_)
      refine lv_iconst (v := 0) hx hb dX11_inverse_38 rfl ?_
      refine lv_istore (lv' := [(6, .int 0), (5, .int x8), (4, .int (-1)), (3, .int x7), (2, .ref t3), (0, .ref a), (1, .int p0)]) hx hb dX11_inverse_39 hl (by decide) rfl (fun ls hl => ?_)
      exact b_X11_inverse_41 C F a p0 t3 x7 (-1) x8 0 h_a k_a h_t3 k_t3 S H locs _ hf hP hS hW (lv_sub hl [5, 6, 4, 3, 2, 1, 0] rfl)
    · have hf := if_t c6 hf
      refine lv_iconst (v := (-1)) hx hb dX11_inverse_18 rfl ?_
      cases hf
      exact x_reti C hP hS hW dX11_inverse_19
def s_X11_isMode (p0 : Int32) (S : HS) : Int32 :=
  if p0 < (0 : Int32) then
  0
  else
  if (6 : Int32) ≤ p0 then
  0
  else
  1
set_option maxRecDepth 100000 in
set_option maxHeartbeats 4000000 in
theorem c_X11_isMode {l : Launch} {V : EV} {G : GS} {S : HS} {p0 : Int32} {r : Int32} (hN : G.1.Nodup) (hW : WT G S) (hf : s_X11_isMode p0 S = r) : MetZ l yX11_isMode cX11_isMode 1 0 0 V G S [.int p0] r S := by
  intro sz
  refine x_in RX11 rfl (by decide +kernel) hN (Nat.le_of_ble_eq_true rfl) (fun p e s m args below meth c ls hsz hargs hnm C hP hS hl => ?_)
  subst hsz
  have hx := C.1
  have hb := C.2.1
  have hl : lv_has ls 1 [(0, .int p0)] := hl
  unfold s_X11_isMode at hf
  refine lv_iload_n hx hb dX11_isMode_0 rfl (lv_at hl 0 rfl) ?_
  refine lv_if_lt (tgt := 14) hx hb dX11_isMode_1 (by decide) (fun c1 => ?_) (fun c1 => ?_)
  · have hf := if_t c1 hf
    refine lv_iconst (v := 0) hx hb dX11_isMode_14 rfl ?_
    cases hf
    exact x_retZ C hP hS hW isZ_0 dX11_isMode_15
  · have hf := if_f c1 hf
    refine lv_iload_n hx hb dX11_isMode_4 rfl (lv_at hl 0 rfl) ?_
    refine lv_bipush (v := 6) hx hb dX11_isMode_5 kc_bipush_6 ?_
    refine lv_icmp_ge (tgt := 14) hx hb dX11_isMode_7 (by decide) (fun c2 => ?_) (fun c2 => ?_)
    · have hf := if_t c2 hf
      refine lv_iconst (v := 0) hx hb dX11_isMode_14 rfl ?_
      cases hf
      exact x_retZ C hP hS hW isZ_0 dX11_isMode_15
    · have hf := if_f c2 hf
      refine lv_iconst (v := 1) hx hb dX11_isMode_10 rfl ?_
      refine lv_goto (tgt := 15) hx hb dX11_isMode_11 (by decide) ?_
      cases hf
      exact x_retZ C hP hS hW isZ_1 dX11_isMode_15
def s_X11_join_J68 (N : Nat → Nat) (v2 : Int32) (v3 : Int32) (v4 : Nat) (w0 : Int32) (S : HS) : Option Int32 :=
  some ((w0 ||| (v2 <<< ((gI S 202 v4) &&& 31))) ||| v3)
def s_X11_join (N : Nat → Nat) (a : Nat) (p0 : Int32) (p1 : Int32) (p2 : Int32) (S : HS) : Option Int32 :=
  bd1 (s_X11_formInUse N a S) fun r1 =>
  mq r1
  (some (-1))
  fun t3 =>
  if p0 < (0 : Int32) then
  some (-1)
  else
  if (1 : Int32) < p0 then
  some (-1)
  else
  if p1 < (0 : Int32) then
  some (-1)
  else
  if p1 < ((1 : Int32) <<< ((gI S 201 t3) &&& 31)) then
  if p2 < (0 : Int32) then
  some (-1)
  else
  if p2 < ((1 : Int32) <<< ((gI S 202 t3) &&& 31)) then
  if p0 = (1 : Int32) then
  s_X11_join_J68 N p1 p2 t3 (gI S 204 t3) S
  else
  s_X11_join_J68 N p1 p2 t3 0 S
  else
  some (-1)
  else
  some (-1)
set_option maxRecDepth 100000 in
set_option maxHeartbeats 4000000 in
theorem b_X11_join_68 {p : Program} {l : Launch} {e : Env} {s : State} {m : MethodId} {args : Array Value} {below : List Frame} {meth : Method} {c : Code} {V : EV} {G : GS} {r : Int32} (C : CX p s m args meth c RX11 cX11_join 5 (some .int) V G) : ∀ (v2 : Int32) (v3 : Int32) (v4 : Nat) (w0 : Int32) (h_v4 : v4 ∈ G.1) (k_v4 : G.2.1 v4 = 2) (S : HS) (H : Heap) (locs : List Loc) (ls : Array Slot), s_X11_join_J68 G.2.2 v2 v3 v4 w0 S = some r → HP V G S H → va_S (AG G s.heap.size) s.heap H locs → WT G S → lv_has ls 5 [(2, .int v2), (3, .int v3), (4, .ref v4)] → W p l e (RM 2 57) s m args below meth c H locs 0 0 (MQ below (QI V G S r s.heap.size) args s 0 0 (AG G s.heap.size)) (F0 m 68 ls [.int w0]) := by
  intro v2 v3 v4 w0 h_v4 k_v4 S H locs ls hf hP hS hW hl
  have hx := C.1
  have hb := C.2.1
  unfold s_X11_join_J68 at hf
  refine lv_iload_n hx hb dX11_join_68 rfl (lv_at hl 0 rfl) ?_
  refine lv_aload hx hb dX11_join_69 (lv_at hl 2 rfl) ?_
  refine gf_X11_150 C hP h_v4 k_v4 dX11_join_71 ?_
  refine lv_ishl hx hb dX11_join_74 ?_
  refine lv_ior hx hb dX11_join_75 ?_
  refine lv_iload_n hx hb dX11_join_76 rfl (lv_at hl 1 rfl) ?_
  refine lv_ior hx hb dX11_join_77 ?_
  cases hf
  exact x_reti C hP hS hW dX11_join_78
set_option maxRecDepth 100000 in
set_option maxHeartbeats 4000000 in
theorem c_X11_join {l : Launch} {V : EV} {G : GS} {S : HS} {a : Nat} {p0 : Int32} {p1 : Int32} {p2 : Int32} {r : Int32} (hN : G.1.Nodup) (hW : WT G S) (h_a : a ∈ G.1) (k_a : G.2.1 a = 11) (hf : s_X11_join G.2.2 a p0 p1 p2 S = some r) : MetI l yX11_join cX11_join 5 .int 2 57 V G S [.ref a, .int p0, .int p1, .int p2] r S := by
  intro sz
  refine x_in RX11 rfl (by decide +kernel) hN (Nat.le_of_ble_eq_true rfl) (fun p e s m args below meth c ls hsz hargs hnm C hP hS hl => ?_)
  subst hsz
  have hx := C.1
  have hb := C.2.1
  have hl : lv_has ls 5 [(0, .ref a), (1, .int p0), (2, .int p1), (3, .int p2)] := hl
  unfold s_X11_join at hf
  refine lv_aload_n hx hb dX11_join_0 rfl (lv_at hl 0 rfl) ?_
  obtain ⟨r1, er1, hf⟩ := bd1_e hf
  refine x_aft_r (x_runV (As := []) (rest := []) C hP hS (c_X11_formInUse (l := l) C.2.2.2.2.2.2.2.2.2.1 hW h_a k_a er1 s.heap.size) h_a k_a (by decide) rfl rfl km_X11_formInUse ki_X11_formInUse qm_X11_162 ⟨(Nat.le_of_ble_eq_true rfl), (Nat.le_of_ble_eq_true rfl)⟩ rfl hl.1 rfl (Nat.le_of_ble_eq_true rfl) ⟨Nat.zero_le _, Nat.zero_le _⟩ dX11_join_1) hS (fun H locs hP hS hW q2 => ?_)
  cases r1 with
  | none =>
    have hf := mq_n rfl hf
    show W _ _ _ _ _ _ _ _ _ _ _ _ _ _ _ (F0 m 4 ls (.null :: []))
    refine lv_astoreN (lv' := [(4, .null), (0, .ref a), (1, .int p0), (2, .int p1), (3, .int p2)]) hx hb dX11_join_4 hl (by decide) rfl (fun ls hl => ?_)
    refine lv_aloadN hx hb dX11_join_6 (lv_at hl 0 rfl) ?_
    refine lv_ifnullN (tgt := 35) hx hb dX11_join_8 (by decide) ?_
    refine lv_iconst (v := (-1)) hx hb dX11_join_35 rfl ?_
    cases hf
    exact x_reti C hP hS hW dX11_join_36
  | some t3 =>
    have hf := mq_s rfl hf
    obtain ⟨h_t3, k_t3⟩ := q2 _ rfl
    show W _ _ _ _ _ _ _ _ _ _ _ _ _ _ _ (F0 m 4 ls (.ref t3 :: []))
    refine lv_astore (lv' := [(4, .ref t3), (0, .ref a), (1, .int p0), (2, .int p1), (3, .int p2)]) hx hb dX11_join_4 hl (by decide) rfl (fun ls hl => ?_)
    refine lv_aload hx hb dX11_join_6 (lv_at hl 0 rfl) ?_
    refine lv_ifnull hx hb dX11_join_8 ?_
    refine lv_iload_n hx hb dX11_join_11 rfl (lv_at hl 2 rfl) ?_
    refine lv_if_lt (tgt := 35) hx hb dX11_join_12 (by decide) (fun c4 => ?_) (fun c4 => ?_)
    · have hf := if_t c4 hf
      refine lv_iconst (v := (-1)) hx hb dX11_join_35 rfl ?_
      cases hf
      exact x_reti C hP hS hW dX11_join_36
    · have hf := if_f c4 hf
      refine lv_iload_n hx hb dX11_join_15 rfl (lv_at hl 2 rfl) ?_
      refine lv_iconst (v := 1) hx hb dX11_join_16 rfl ?_
      refine lv_icmp_gt (tgt := 35) hx hb dX11_join_17 (by decide) (fun c5 => ?_) (fun c5 => ?_)
      · have hf := if_t c5 hf
        refine lv_iconst (v := (-1)) hx hb dX11_join_35 rfl ?_
        cases hf
        exact x_reti C hP hS hW dX11_join_36
      · have hf := if_f c5 hf
        refine lv_iload_n hx hb dX11_join_20 rfl (lv_at hl 3 rfl) ?_
        refine lv_if_lt (tgt := 35) hx hb dX11_join_21 (by decide) (fun c6 => ?_) (fun c6 => ?_)
        · have hf := if_t c6 hf
          refine lv_iconst (v := (-1)) hx hb dX11_join_35 rfl ?_
          cases hf
          exact x_reti C hP hS hW dX11_join_36
        · have hf := if_f c6 hf
          refine lv_iload_n hx hb dX11_join_24 rfl (lv_at hl 3 rfl) ?_
          refine lv_iconst (v := 1) hx hb dX11_join_25 rfl ?_
          refine lv_aload hx hb dX11_join_26 (lv_at hl 0 rfl) ?_
          refine gf_X11_147 C hP h_t3 k_t3 dX11_join_28 ?_
          refine lv_ishl hx hb dX11_join_31 ?_
          refine lv_icmp_lt (tgt := 37) hx hb dX11_join_32 (by decide) (fun c7 => ?_) (fun c7 => ?_)
          · have hf := if_t c7 hf
            refine lv_iload_n hx hb dX11_join_37 rfl (lv_at hl 4 rfl) ?_
            refine lv_if_lt (tgt := 52) hx hb dX11_join_38 (by decide) (fun c8 => ?_) (fun c8 => ?_)
            · have hf := if_t c8 hf
              refine lv_iconst (v := (-1)) hx hb dX11_join_52 rfl ?_
              cases hf
              exact x_reti C hP hS hW dX11_join_53
            · have hf := if_f c8 hf
              refine lv_iload_n hx hb dX11_join_41 rfl (lv_at hl 4 rfl) ?_
              refine lv_iconst (v := 1) hx hb dX11_join_42 rfl ?_
              refine lv_aload hx hb dX11_join_43 (lv_at hl 0 rfl) ?_
              refine gf_X11_150 C hP h_t3 k_t3 dX11_join_45 ?_
              refine lv_ishl hx hb dX11_join_48 ?_
              refine lv_icmp_lt (tgt := 54) hx hb dX11_join_49 (by decide) (fun c9 => ?_) (fun c9 => ?_)
              · have hf := if_t c9 hf
                refine lv_iload_n hx hb dX11_join_54 rfl (lv_at hl 2 rfl) ?_
                refine lv_iconst (v := 1) hx hb dX11_join_55 rfl ?_
                refine lv_icmp_ne (tgt := 67) hx hb dX11_join_56 (by decide) (fun c10 => ?_) (fun c10 => ?_)
                · have hf := if_f c10 hf
                  refine lv_iconst (v := 0) hx hb dX11_join_67 rfl ?_
                  exact b_X11_join_68 C p1 p2 t3 0 h_t3 k_t3 S H locs _ hf hP hS hW (lv_sub hl [3, 4, 0] rfl)
                · have hf := if_t c10 hf
                  refine lv_aload hx hb dX11_join_59 (lv_at hl 0 rfl) ?_
                  refine gf_X11_262 C hP h_t3 k_t3 dX11_join_61 ?_
                  refine lv_goto (tgt := 68) hx hb dX11_join_64 (by decide) ?_
                  exact b_X11_join_68 C p1 p2 t3 (gI S 204 t3) h_t3 k_t3 S H locs _ hf hP hS hW (lv_sub hl [3, 4, 0] rfl)
              · have hf := if_f c9 hf
                refine lv_iconst (v := (-1)) hx hb dX11_join_52 rfl ?_
                cases hf
                exact x_reti C hP hS hW dX11_join_53
          · have hf := if_f c7 hf
            refine lv_iconst (v := (-1)) hx hb dX11_join_35 rfl ?_
            cases hf
            exact x_reti C hP hS hW dX11_join_36
def s_X11_judged_J86 (N : Nat → Nat) (F : Nat) (k30 : Nat → Int32 → Int32 → Int32 → Int32 → HS → Option (Int32 × HS)) (v0 : Nat) (v1 : Int32) (v2 : Int32) (v3 : Int32) (v4 : Int32) (S : HS) : Option (Int32 × HS) :=
  bnd (v4 + Int32.ofInt 1 : Int32) fun x16 =>
  k30 v0 v1 v2 v3 x16 S
def s_X11_judged_J68 (N : Nat → Nat) (F : Nat) (k30 : Nat → Int32 → Int32 → Int32 → Int32 → HS → Option (Int32 × HS)) (v0 : Nat) (v1 : Int32) (v2 : Int32) (v3 : Int32) (v4 : Int32) (v5 : Int32) (S : HS) : Option (Int32 × HS) :=
  bd1 (gR S 1105 v0) fun t14 =>
  if ((gI S 703 t14) &&& (v5 ^^^ (-1))) = (0 : Int32) then
  s_X11_judged_J86 N F k30 v0 v1 v2 v3 v4 S
  else
  bnd (v3 + Int32.ofInt 1 : Int32) fun x17 =>
  s_X11_judged_J86 N F k30 v0 v1 v2 x17 v4 S
def s_X11_judged_L30 (N : Nat → Nat) (F : Nat) (k92 : Nat → Int32 → Int32 → Int32 → HS → Option (Int32 × HS)) : Nat → Nat → Int32 → Int32 → Int32 → Int32 → HS → Option (Int32 × HS)
  | 0, _, _, _, _, _, _ => none
  | n + 1, v0, v1, v2, v3, v4, S => bd1 (gR S 1113 v0) fun t6 =>
  if (gI S 501 t6) ≤ v4 then
  k92 v0 v1 v2 v3 S
  else
  bd1 (gR S 1105 v0) fun t8 =>
  bnd (gI S 703 t8 : Int32) fun x9 =>
  bd2 (s_X11_follow N F v0 v4 S) fun r10 S11 =>
  if r10 = (0 : Int32) then
  if v2 = (-1 : Int32) then
  s_X11_judged_J68 N F (s_X11_judged_L30 N F k92 n) v0 v1 v4 v3 v4 x9 S11
  else
  s_X11_judged_J68 N F (s_X11_judged_L30 N F k92 n) v0 v1 v2 v3 v4 x9 S11
  else
  s_X11_judged_J68 N F (s_X11_judged_L30 N F k92 n) v0 v1 v2 v3 v4 x9 S11
def s_X11_judged_J92 (N : Nat → Nat) (F : Nat) (v0 : Nat) (v1 : Int32) (v2 : Int32) (v3 : Int32) (S : HS) : Option (Int32 × HS) :=
  if v1 = (0 : Int32) then
  some (v2, S)
  else
  if v1 = (1 : Int32) then
  bd1 (gR S 1105 v0) fun t21 =>
  some (gI S 703 t21, S)
  else
  some (v3, S)
def s_X11_judged (N : Nat → Nat) (F : Nat) (a : Nat) (p0 : Int32) (S : HS) : Option (Int32 × HS) :=
  if p0 < (0 : Int32) then
  some ((-2), S)
  else
  if p0 ≤ (2 : Int32) then
  bd1 (gR S 1105 a) fun t3 =>
  bd1 (gR S 1104 a) fun t4 =>
  bd1 (s_X7_copy N F t3 t4 S) fun S5 =>
  s_X11_judged_L30 N F (s_X11_judged_J92 N F) F a p0 (-1) 0 0 S5
  else
  some ((-2), S)
set_option maxRecDepth 100000 in
set_option maxHeartbeats 4000000 in
theorem b_X11_judged_86 {p : Program} {l : Launch} {e : Env} {s : State} {m : MethodId} {args : Array Value} {below : List Frame} {meth : Method} {c : Code} {V : EV} {G : GS} {r : Int32} {S' : HS} {F : Nat} (C : CX p s m args meth c RX11 cX11_judged 6 (some .int) V G) {k30 : Nat → Int32 → Int32 → Int32 → Int32 → HS → Option (Int32 × HS)} (hk30 : ∀ (v0 : Nat) (v1 : Int32) (v2 : Int32) (v3 : Int32) (v4 : Int32) (h_v0 : v0 ∈ G.1) (k_v0 : G.2.1 v0 = 11) (S : HS) (H : Heap) (locs : List Loc) (ls : Array Slot), k30 v0 v1 v2 v3 v4 S = some (r, S') → HP V G S H → va_S (AG G s.heap.size) s.heap H locs → WT G S → lv_has ls 6 [(0, .ref v0), (1, .int v1), (2, .int v2), (3, .int v3), (4, .int v4)] → W p l e (RM 7 235) s m args below meth c H locs 0 0 (MQ below (QI V G S' r s.heap.size) args s 0 0 (AG G s.heap.size)) (F0 m 30 ls [])) : ∀ (v0 : Nat) (v1 : Int32) (v2 : Int32) (v3 : Int32) (v4 : Int32) (h_v0 : v0 ∈ G.1) (k_v0 : G.2.1 v0 = 11) (S : HS) (H : Heap) (locs : List Loc) (ls : Array Slot), s_X11_judged_J86 G.2.2 F k30 v0 v1 v2 v3 v4 S = some (r, S') → HP V G S H → va_S (AG G s.heap.size) s.heap H locs → WT G S → lv_has ls 6 [(0, .ref v0), (1, .int v1), (2, .int v2), (3, .int v3), (4, .int v4)] → W p l e (RM 7 235) s m args below meth c H locs 0 0 (MQ below (QI V G S' r s.heap.size) args s 0 0 (AG G s.heap.size)) (F0 m 86 ls []) := by
  intro v0 v1 v2 v3 v4 h_v0 k_v0 S H locs ls hf hP hS hW hl
  have hx := C.1
  have hb := C.2.1
  unfold s_X11_judged_J86 at hf
  obtain ⟨x16, ex16, hf⟩ := bnd_e hf
  refine lv_iinc (v := x16) (lv' := [(4, .int x16), (0, .ref v0), (1, .int v1), (2, .int v2), (3, .int v3)]) hx hb dX11_judged_86 hl (k := 4) rfl ex16.symm (by decide) rfl (fun ls hl => ?_)
  refine lv_goto (tgt := 30) hx hb dX11_judged_89 (by decide) ?_
  exact hk30 v0 v1 v2 v3 x16 h_v0 k_v0 S H locs _ hf hP hS hW (lv_sub hl [1, 2, 3, 4, 0] rfl)
set_option maxRecDepth 100000 in
set_option maxHeartbeats 4000000 in
theorem b_X11_judged_68 {p : Program} {l : Launch} {e : Env} {s : State} {m : MethodId} {args : Array Value} {below : List Frame} {meth : Method} {c : Code} {V : EV} {G : GS} {r : Int32} {S' : HS} {F : Nat} (C : CX p s m args meth c RX11 cX11_judged 6 (some .int) V G) {k30 : Nat → Int32 → Int32 → Int32 → Int32 → HS → Option (Int32 × HS)} (hk30 : ∀ (v0 : Nat) (v1 : Int32) (v2 : Int32) (v3 : Int32) (v4 : Int32) (h_v0 : v0 ∈ G.1) (k_v0 : G.2.1 v0 = 11) (S : HS) (H : Heap) (locs : List Loc) (ls : Array Slot), k30 v0 v1 v2 v3 v4 S = some (r, S') → HP V G S H → va_S (AG G s.heap.size) s.heap H locs → WT G S → lv_has ls 6 [(0, .ref v0), (1, .int v1), (2, .int v2), (3, .int v3), (4, .int v4)] → W p l e (RM 7 235) s m args below meth c H locs 0 0 (MQ below (QI V G S' r s.heap.size) args s 0 0 (AG G s.heap.size)) (F0 m 30 ls [])) : ∀ (v0 : Nat) (v1 : Int32) (v2 : Int32) (v3 : Int32) (v4 : Int32) (v5 : Int32) (h_v0 : v0 ∈ G.1) (k_v0 : G.2.1 v0 = 11) (S : HS) (H : Heap) (locs : List Loc) (ls : Array Slot), s_X11_judged_J68 G.2.2 F k30 v0 v1 v2 v3 v4 v5 S = some (r, S') → HP V G S H → va_S (AG G s.heap.size) s.heap H locs → WT G S → lv_has ls 6 [(0, .ref v0), (1, .int v1), (2, .int v2), (3, .int v3), (4, .int v4), (5, .int v5)] → W p l e (RM 7 235) s m args below meth c H locs 0 0 (MQ below (QI V G S' r s.heap.size) args s 0 0 (AG G s.heap.size)) (F0 m 68 ls []) := by
  intro v0 v1 v2 v3 v4 v5 h_v0 k_v0 S H locs ls hf hP hS hW hl
  have hx := C.1
  have hb := C.2.1
  unfold s_X11_judged_J68 at hf
  refine lv_aload_n hx hb dX11_judged_68 rfl (lv_at hl 0 rfl) ?_
  refine gf_X11_44 C hP h_v0 k_v0 dX11_judged_69 ?_
  obtain ⟨t14, et14, hf⟩ := bd1_e hf
  obtain ⟨h_t14, k_t14⟩ := wt_r hW h_v0 k_v0 (by decide) et14
  have k_t14 : G.2.1 t14 = 7 := k_t14
  rw [et14]
  refine gf_X11_210 C hP h_t14 k_t14 dX11_judged_72 ?_
  refine lv_iload hx hb dX11_judged_75 (lv_at hl 5 rfl) ?_
  refine lv_iconst (v := (-1)) hx hb dX11_judged_77 rfl ?_
  refine lv_ixor hx hb dX11_judged_78 ?_
  refine lv_iand hx hb dX11_judged_79 ?_
  refine lv_if_eq (tgt := 86) hx hb dX11_judged_80 (by decide) (fun c15 => ?_) (fun c15 => ?_)
  · have hf := if_t c15 hf
    exact b_X11_judged_86 C hk30 v0 v1 v2 v3 v4 h_v0 k_v0 S H locs _ hf hP hS hW (lv_sub hl [0, 1, 2, 3, 4] rfl)
  · have hf := if_f c15 hf
    obtain ⟨x17, ex17, hf⟩ := bnd_e hf
    refine lv_iinc (v := x17) (lv' := [(3, .int x17), (0, .ref v0), (1, .int v1), (2, .int v2), (4, .int v4), (5, .int v5)]) hx hb dX11_judged_83 hl (k := 3) rfl ex17.symm (by decide) rfl (fun ls hl => ?_)
    exact b_X11_judged_86 C hk30 v0 v1 v2 x17 v4 h_v0 k_v0 S H locs _ hf hP hS hW (lv_sub hl [1, 2, 3, 0, 4] rfl)
set_option maxRecDepth 100000 in
set_option maxHeartbeats 4000000 in
theorem b_X11_judged_30 {p : Program} {l : Launch} {e : Env} {s : State} {m : MethodId} {args : Array Value} {below : List Frame} {meth : Method} {c : Code} {V : EV} {G : GS} {r : Int32} {S' : HS} {F : Nat} (C : CX p s m args meth c RX11 cX11_judged 6 (some .int) V G) {k92 : Nat → Int32 → Int32 → Int32 → HS → Option (Int32 × HS)} (hk92 : ∀ (v0 : Nat) (v1 : Int32) (v2 : Int32) (v3 : Int32) (h_v0 : v0 ∈ G.1) (k_v0 : G.2.1 v0 = 11) (S : HS) (H : Heap) (locs : List Loc) (ls : Array Slot), k92 v0 v1 v2 v3 S = some (r, S') → HP V G S H → va_S (AG G s.heap.size) s.heap H locs → WT G S → lv_has ls 6 [(0, .ref v0), (1, .int v1), (2, .int v2), (3, .int v3)] → W p l e (RM 7 235) s m args below meth c H locs 0 0 (MQ below (QI V G S' r s.heap.size) args s 0 0 (AG G s.heap.size)) (F0 m 92 ls [])) : ∀ n : Nat, ∀ (v0 : Nat) (v1 : Int32) (v2 : Int32) (v3 : Int32) (v4 : Int32) (h_v0 : v0 ∈ G.1) (k_v0 : G.2.1 v0 = 11) (S : HS) (H : Heap) (locs : List Loc) (ls : Array Slot), s_X11_judged_L30 G.2.2 F k92 n v0 v1 v2 v3 v4 S = some (r, S') → HP V G S H → va_S (AG G s.heap.size) s.heap H locs → WT G S → lv_has ls 6 [(0, .ref v0), (1, .int v1), (2, .int v2), (3, .int v3), (4, .int v4)] → W p l e (RM 7 235) s m args below meth c H locs 0 0 (MQ below (QI V G S' r s.heap.size) args s 0 0 (AG G s.heap.size)) (F0 m 30 ls []) := by
  intro n
  induction n with
  | zero =>
    intro v0 v1 v2 v3 v4 h_v0 k_v0 S H locs ls hf
    rw [s_X11_judged_L30] at hf
    cases hf
  | succ n ih =>
    intro v0 v1 v2 v3 v4 h_v0 k_v0 S H locs ls hf hP hS hW hl
    have hx := C.1
    have hb := C.2.1
    rw [s_X11_judged_L30] at hf
    refine lv_iload hx hb dX11_judged_30 (lv_at hl 4 rfl) ?_
    refine lv_aload_n hx hb dX11_judged_32 rfl (lv_at hl 0 rfl) ?_
    refine gf_X11_78 C hP h_v0 k_v0 dX11_judged_33 ?_
    obtain ⟨t6, et6, hf⟩ := bd1_e hf
    obtain ⟨h_t6, k_t6⟩ := wt_r hW h_v0 k_v0 (by decide) et6
    have k_t6 : G.2.1 t6 = 5 := k_t6
    rw [et6]
    refine gf_X11_122 C hP h_t6 k_t6 dX11_judged_36 ?_
    refine lv_icmp_ge (tgt := 92) hx hb dX11_judged_39 (by decide) (fun c7 => ?_) (fun c7 => ?_)
    · have hf := if_t c7 hf
      exact hk92 v0 v1 v2 v3 h_v0 k_v0 S H locs _ hf hP hS hW (lv_sub hl [0, 1, 2, 3] rfl)
    · have hf := if_f c7 hf
      refine lv_aload_n hx hb dX11_judged_42 rfl (lv_at hl 0 rfl) ?_
      refine gf_X11_44 C hP h_v0 k_v0 dX11_judged_43 ?_
      obtain ⟨t8, et8, hf⟩ := bd1_e hf
      obtain ⟨h_t8, k_t8⟩ := wt_r hW h_v0 k_v0 (by decide) et8
      have k_t8 : G.2.1 t8 = 7 := k_t8
      rw [et8]
      refine gf_X11_210 C hP h_t8 k_t8 dX11_judged_46 ?_
      obtain ⟨x9, ex9, hf⟩ := bnd_e hf
      refine nm_i ex9 ?_
      refine lv_istore (lv' := [(5, .int x9), (0, .ref v0), (1, .int v1), (2, .int v2), (3, .int v3), (4, .int v4)]) hx hb dX11_judged_49 hl (by decide) rfl (fun ls hl => ?_)
      refine lv_aload_n hx hb dX11_judged_51 rfl (lv_at hl 1 rfl) ?_
      refine lv_iload hx hb dX11_judged_52 (lv_at hl 5 rfl) ?_
      obtain ⟨r10, S11, eS11, hf⟩ := bd2_e hf
      refine x_aft_z (x_runV (As := [.int v4]) (rest := []) C hP hS (c_X11_follow (l := l) C.2.2.2.2.2.2.2.2.2.1 hW h_v0 k_v0 eS11 H.size) h_v0 k_v0 (by decide) rfl rfl km_X11_follow ki_X11_follow qm_X11_228 ⟨(Nat.le_of_ble_eq_true rfl), (Nat.le_of_ble_eq_true rfl)⟩ rfl hl.1 rfl (Nat.le_of_ble_eq_true rfl) ⟨Nat.zero_le _, Nat.zero_le _⟩ dX11_judged_54) hS (fun H locs hP hS hW z12 => ?_)
      refine lv_if_ne (tgt := 68) hx hb dX11_judged_57 (by decide) (fun c13 => ?_) (fun c13 => ?_)
      · have hf := if_f c13 hf
        exact b_X11_judged_68 C ih v0 v1 v2 v3 v4 x9 h_v0 k_v0 S11 H locs _ hf hP hS hW (lv_sub hl [1, 2, 3, 4, 5, 0] rfl)
      · have hf := if_t c13 hf
        refine lv_iload_n hx hb dX11_judged_60 rfl (lv_at hl 3 rfl) ?_
        refine lv_iconst (v := (-1)) hx hb dX11_judged_61 rfl ?_
        refine lv_icmp_ne (tgt := 68) hx hb dX11_judged_62 (by decide) (fun c18 => ?_) (fun c18 => ?_)
        · have hf := if_f c18 hf
          exact b_X11_judged_68 C ih v0 v1 v2 v3 v4 x9 h_v0 k_v0 S11 H locs _ hf hP hS hW (lv_sub hl [1, 2, 3, 4, 5, 0] rfl)
        · have hf := if_t c18 hf
          refine lv_iload hx hb dX11_judged_65 (lv_at hl 5 rfl) ?_
          refine lv_istore_n (lv' := [(2, .int v4), (5, .int x9), (0, .ref v0), (1, .int v1), (3, .int v3), (4, .int v4)]) hx hb dX11_judged_67 rfl hl (by decide) rfl (fun ls hl => ?_)
          exact b_X11_judged_68 C ih v0 v1 v4 v3 v4 x9 h_v0 k_v0 S11 H locs _ hf hP hS hW (lv_sub hl [2, 3, 0, 4, 5, 1] rfl)
set_option maxRecDepth 100000 in
set_option maxHeartbeats 4000000 in
theorem b_X11_judged_92 {p : Program} {l : Launch} {e : Env} {s : State} {m : MethodId} {args : Array Value} {below : List Frame} {meth : Method} {c : Code} {V : EV} {G : GS} {r : Int32} {S' : HS} {F : Nat} (C : CX p s m args meth c RX11 cX11_judged 6 (some .int) V G) : ∀ (v0 : Nat) (v1 : Int32) (v2 : Int32) (v3 : Int32) (h_v0 : v0 ∈ G.1) (k_v0 : G.2.1 v0 = 11) (S : HS) (H : Heap) (locs : List Loc) (ls : Array Slot), s_X11_judged_J92 G.2.2 F v0 v1 v2 v3 S = some (r, S') → HP V G S H → va_S (AG G s.heap.size) s.heap H locs → WT G S → lv_has ls 6 [(0, .ref v0), (1, .int v1), (2, .int v2), (3, .int v3)] → W p l e (RM 7 235) s m args below meth c H locs 0 0 (MQ below (QI V G S' r s.heap.size) args s 0 0 (AG G s.heap.size)) (F0 m 92 ls []) := by
  intro v0 v1 v2 v3 h_v0 k_v0 S H locs ls hf hP hS hW hl
  have hx := C.1
  have hb := C.2.1
  unfold s_X11_judged_J92 at hf
  refine lv_iload_n hx hb dX11_judged_92 rfl (lv_at hl 1 rfl) ?_
  refine lv_if_ne (tgt := 100) hx hb dX11_judged_93 (by decide) (fun c19 => ?_) (fun c19 => ?_)
  · have hf := if_f c19 hf
    refine lv_iload_n hx hb dX11_judged_100 rfl (lv_at hl 1 rfl) ?_
    refine lv_iconst (v := 1) hx hb dX11_judged_101 rfl ?_
    refine lv_icmp_ne (tgt := 115) hx hb dX11_judged_102 (by decide) (fun c20 => ?_) (fun c20 => ?_)
    · have hf := if_f c20 hf
      refine lv_iload_n hx hb dX11_judged_115 rfl (lv_at hl 3 rfl) ?_
      cases hf
      exact x_reti C hP hS hW dX11_judged_116
    · have hf := if_t c20 hf
      refine lv_aload_n hx hb dX11_judged_105 rfl (lv_at hl 0 rfl) ?_
      refine gf_X11_44 C hP h_v0 k_v0 dX11_judged_106 ?_
      obtain ⟨t21, et21, hf⟩ := bd1_e hf
      obtain ⟨h_t21, k_t21⟩ := wt_r hW h_v0 k_v0 (by decide) et21
      have k_t21 : G.2.1 t21 = 7 := k_t21
      rw [et21]
      refine gf_X11_210 C hP h_t21 k_t21 dX11_judged_109 ?_
      refine lv_goto (tgt := 116) hx hb dX11_judged_112 (by decide) ?_
      cases hf
      exact x_reti C hP hS hW dX11_judged_116
  · have hf := if_t c19 hf
    refine lv_iload_n hx hb dX11_judged_96 rfl (lv_at hl 2 rfl) ?_
    refine lv_goto (tgt := 116) hx hb dX11_judged_97 (by decide) ?_
    cases hf
    exact x_reti C hP hS hW dX11_judged_116
set_option maxRecDepth 100000 in
set_option maxHeartbeats 4000000 in
theorem c_X11_judged {l : Launch} {V : EV} {G : GS} {S : HS} {F : Nat} {a : Nat} {p0 : Int32} {r : Int32} {S' : HS} (hN : G.1.Nodup) (hW : WT G S) (h_a : a ∈ G.1) (k_a : G.2.1 a = 11) (hf : s_X11_judged G.2.2 F a p0 S = some (r, S')) : MetI l yX11_judged cX11_judged 6 .int 7 235 V G S [.ref a, .int p0] r S' := by
  intro sz
  refine x_in RX11 rfl (by decide +kernel) hN (Nat.le_of_ble_eq_true rfl) (fun p e s m args below meth c ls hsz hargs hnm C hP hS hl => ?_)
  subst hsz
  have hx := C.1
  have hb := C.2.1
  have hl : lv_has ls 6 [(0, .ref a), (1, .int p0)] := hl
  unfold s_X11_judged at hf
  refine lv_iload_n hx hb dX11_judged_0 rfl (lv_at hl 1 rfl) ?_
  refine lv_if_lt (tgt := 9) hx hb dX11_judged_1 (by decide) (fun c1 => ?_) (fun c1 => ?_)
  · have hf := if_t c1 hf
    refine lv_bipush (v := (-2)) hx hb dX11_judged_9 kc_bipush_m2 ?_
    cases hf
    exact x_reti C hP hS hW dX11_judged_11
  · have hf := if_f c1 hf
    refine lv_iload_n hx hb dX11_judged_4 rfl (lv_at hl 1 rfl) ?_
    refine lv_iconst (v := 2) hx hb dX11_judged_5 rfl ?_
    refine lv_icmp_le (tgt := 12) hx hb dX11_judged_6 (by decide) (fun c2 => ?_) (fun c2 => ?_)
    · have hf := if_t c2 hf
      refine lv_aload_n hx hb dX11_judged_12 rfl (lv_at hl 0 rfl) ?_
      refine gf_X11_44 C hP h_a k_a dX11_judged_13 ?_
      obtain ⟨t3, et3, hf⟩ := bd1_e hf
      obtain ⟨h_t3, k_t3⟩ := wt_r hW h_a k_a (by decide) et3
      have k_t3 : G.2.1 t3 = 7 := k_t3
      rw [et3]
      refine lv_aload_n hx hb dX11_judged_16 rfl (lv_at hl 0 rfl) ?_
      refine gf_X11_40 C hP h_a k_a dX11_judged_17 ?_
      obtain ⟨t4, et4, hf⟩ := bd1_e hf
      obtain ⟨h_t4, k_t4⟩ := wt_r hW h_a k_a (by decide) et4
      have k_t4 : G.2.1 t4 = 7 := k_t4
      rw [et4]
      obtain ⟨S5, eS5, hf⟩ := bd1_e hf
      refine x_aft_v (x_runV (As := [.ref t4]) (rest := []) C hP hS (c_X7_copy (l := l) C.2.2.2.2.2.2.2.2.2.1 hW h_t3 k_t3 h_t4 k_t4 eS5 s.heap.size) h_t3 k_t3 (by decide) rfl rfl km_X7_copy ki_X7_copy qm_X11_224 ⟨(Nat.le_of_ble_eq_true rfl), (Nat.le_of_ble_eq_true rfl)⟩ rfl hl.1 rfl (Nat.le_of_ble_eq_true rfl) ⟨Nat.zero_le _, Nat.zero_le _⟩ dX11_judged_20) hS (fun H locs hP hS hW => ?_)
      refine lv_iconst (v := (-1)) hx hb dX11_judged_23 rfl ?_
      refine lv_istore_n (lv' := [(2, .int (-1)), (0, .ref a), (1, .int p0)]) hx hb dX11_judged_24 rfl hl (by decide) rfl (fun ls hl => ?_)
      refine lv_iconst (v := 0) hx hb dX11_judged_25 rfl ?_
      refine lv_istore_n (lv' := [(3, .int 0), (2, .int (-1)), (0, .ref a), (1, .int p0)]) hx hb dX11_judged_26 rfl hl (by decide) rfl (fun ls hl => ?_)
      refine lv_iconst (v := 0) hx hb dX11_judged_27 rfl ?_
      refine lv_istore (lv' := [(4, .int 0), (3, .int 0), (2, .int (-1)), (0, .ref a), (1, .int p0)]) hx hb dX11_judged_28 hl (by decide) rfl (fun ls hl => ?_)
      exact b_X11_judged_30 C (b_X11_judged_92 C) F a p0 (-1) 0 0 h_a k_a S5 H locs _ hf hP hS hW (lv_sub hl [3, 4, 2, 1, 0] rfl)
    · have hf := if_f c2 hf
      refine lv_bipush (v := (-2)) hx hb dX11_judged_9 kc_bipush_m2 ?_
      cases hf
      exact x_reti C hP hS hW dX11_judged_11
def s_X11_leads (F : Nat) (a : Nat) (p0 : Int64) (p1 : Int64) (S : HS) : Option Int32 :=
  bd1 (s_X11_foretold F p0 p1 S) fun r1 =>
  some r1
set_option maxRecDepth 100000 in
set_option maxHeartbeats 4000000 in
theorem c_X11_leads {l : Launch} {V : EV} {G : GS} {S : HS} {F : Nat} {a : Nat} {p0 : Int64} {p1 : Int64} {r : Int32} (hN : G.1.Nodup) (hW : WT G S) (h_a : a ∈ G.1) (k_a : G.2.1 a = 11) (hf : s_X11_leads F a p0 p1 S = some r) : MetI l yX11_leads cX11_leads 5 .int 2 80 V G S [.ref a, .long p0, .long p1] r S := by
  intro sz
  refine x_in RX11 rfl (by decide +kernel) hN (Nat.le_of_ble_eq_true rfl) (fun p e s m args below meth c ls hsz hargs hnm C hP hS hl => ?_)
  subst hsz
  have hx := C.1
  have hb := C.2.1
  have hl : lv_has ls 5 [(0, .ref a), (1, .long p0), (3, .long p1)] := hl
  unfold s_X11_leads at hf
  refine lv_lload_n hx hb dX11_leads_0 rfl (lv_at hl 1 rfl) ?_
  refine lv_lload_n hx hb dX11_leads_1 rfl (lv_at hl 2 rfl) ?_
  obtain ⟨r1, er1, hf⟩ := bd1_e hf
  refine x_aft_i (x_runS (As := [.long p0, .long p1]) (rest := []) C hP hS (c_X11_foretold (l := l) C.2.2.2.2.2.2.2.2.2.1 hW er1 s.heap.size) km_X11_foretold ks_X11_foretold qm_X11_325 ⟨(Nat.le_of_ble_eq_true rfl), (Nat.le_of_ble_eq_true rfl)⟩ rfl hl.1 rfl (Nat.le_of_ble_eq_true rfl) ⟨Nat.zero_le _, Nat.zero_le _⟩ dX11_leads_2) hS (fun H locs hP hS hW => ?_)
  cases hf
  exact x_reti C hP hS hW dX11_leads_5
def s_X11_least_L20 (N : Nat → Nat) (F : Nat) : Nat → Nat → Nat → Int32 → HS → Option (Int32 × HS)
  | 0, _, _, _, _ => none
  | n + 1, v0, v1, v2, S => if (s_X2_many v1 S) ≤ v2 then
  some ((-1), S)
  else
  bd2 (s_X11_fitsSeen N F v0 v1 v2 S) fun r7 S8 =>
  if r7 = (0 : Int32) then
  bnd (v2 + Int32.ofInt 1 : Int32) fun x11 =>
  s_X11_least_L20 N F n v0 v1 x11 S8
  else
  some (v2, S8)
def s_X11_least (N : Nat → Nat) (F : Nat) (a : Nat) (S : HS) : Option (Int32 × HS) :=
  bd1 (s_X11_formInUse N a S) fun r1 =>
  mq r1
  (some ((-1), S))
  fun t3 =>
  if (s_X2_isSmall t3 S) = (0 : Int32) then
  some ((-1), S)
  else
  s_X11_least_L20 N F F a t3 0 S
set_option maxRecDepth 100000 in
set_option maxHeartbeats 4000000 in
theorem b_X11_least_20 {p : Program} {l : Launch} {e : Env} {s : State} {m : MethodId} {args : Array Value} {below : List Frame} {meth : Method} {c : Code} {V : EV} {G : GS} {r : Int32} {S' : HS} {F : Nat} (C : CX p s m args meth c RX11 cX11_least 3 (some .int) V G) : ∀ n : Nat, ∀ (v0 : Nat) (v1 : Nat) (v2 : Int32) (h_v0 : v0 ∈ G.1) (k_v0 : G.2.1 v0 = 11) (h_v1 : v1 ∈ G.1) (k_v1 : G.2.1 v1 = 2) (S : HS) (H : Heap) (locs : List Loc) (ls : Array Slot), s_X11_least_L20 G.2.2 F n v0 v1 v2 S = some (r, S') → HP V G S H → va_S (AG G s.heap.size) s.heap H locs → WT G S → lv_has ls 3 [(0, .ref v0), (1, .ref v1), (2, .int v2)] → W p l e (RM 6 204) s m args below meth c H locs 0 0 (MQ below (QI V G S' r s.heap.size) args s 0 0 (AG G s.heap.size)) (F0 m 20 ls []) := by
  intro n
  induction n with
  | zero =>
    intro v0 v1 v2 h_v0 k_v0 h_v1 k_v1 S H locs ls hf
    rw [s_X11_least_L20] at hf
    cases hf
  | succ n ih =>
    intro v0 v1 v2 h_v0 k_v0 h_v1 k_v1 S H locs ls hf hP hS hW hl
    have hx := C.1
    have hb := C.2.1
    rw [s_X11_least_L20] at hf
    refine lv_iload_n hx hb dX11_least_20 rfl (lv_at hl 2 rfl) ?_
    refine lv_aload_n hx hb dX11_least_21 rfl (lv_at hl 1 rfl) ?_
    refine x_aft_i (x_runV (As := []) (rest := [.int v2]) C hP hS (c_X2_many (l := l) C.2.2.2.2.2.2.2.2.2.1 hW h_v1 k_v1 rfl H.size) h_v1 k_v1 (by decide) rfl rfl km_X2_many ki_X2_many qm_X11_343 ⟨(Nat.le_of_ble_eq_true rfl), (Nat.le_of_ble_eq_true rfl)⟩ rfl hl.1 rfl (Nat.le_of_ble_eq_true rfl) ⟨Nat.zero_le _, Nat.zero_le _⟩ dX11_least_22) hS (fun H locs hP hS hW => ?_)
    refine lv_icmp_ge (tgt := 45) hx hb dX11_least_25 (by decide) (fun c6 => ?_) (fun c6 => ?_)
    · have hf := if_t c6 hf
      refine lv_iconst (v := (-1)) hx hb dX11_least_45 rfl ?_
      cases hf
      exact x_reti C hP hS hW dX11_least_46
    · have hf := if_f c6 hf
      refine lv_aload_n hx hb dX11_least_28 rfl (lv_at hl 0 rfl) ?_
      refine lv_aload_n hx hb dX11_least_29 rfl (lv_at hl 1 rfl) ?_
      refine lv_iload_n hx hb dX11_least_30 rfl (lv_at hl 2 rfl) ?_
      obtain ⟨r7, S8, eS8, hf⟩ := bd2_e hf
      refine x_aft_z (x_runV (As := [.ref v1, .int v2]) (rest := []) C hP hS (c_X11_fitsSeen (l := l) C.2.2.2.2.2.2.2.2.2.1 hW h_v0 k_v0 h_v1 k_v1 eS8 H.size) h_v0 k_v0 (by decide) rfl rfl km_X11_fitsSeen ki_X11_fitsSeen qm_X11_372 ⟨(Nat.le_of_ble_eq_true rfl), (Nat.le_of_ble_eq_true rfl)⟩ rfl hl.1 rfl (Nat.le_of_ble_eq_true rfl) ⟨Nat.zero_le _, Nat.zero_le _⟩ dX11_least_31) hS (fun H locs hP hS hW z9 => ?_)
      refine lv_if_eq (tgt := 39) hx hb dX11_least_34 (by decide) (fun c10 => ?_) (fun c10 => ?_)
      · have hf := if_t c10 hf
        obtain ⟨x11, ex11, hf⟩ := bnd_e hf
        refine lv_iinc (v := x11) (lv' := [(2, .int x11), (0, .ref v0), (1, .ref v1)]) hx hb dX11_least_39 hl (k := 2) rfl ex11.symm (by decide) rfl (fun ls hl => ?_)
        refine lv_goto (tgt := 20) hx hb dX11_least_42 (by decide) ?_
        exact ih v0 v1 x11 h_v0 k_v0 h_v1 k_v1 S8 H locs _ hf hP hS hW (lv_sub hl [1, 2, 0] rfl)
      · have hf := if_f c10 hf
        refine lv_iload_n hx hb dX11_least_37 rfl (lv_at hl 2 rfl) ?_
        cases hf
        exact x_reti C hP hS hW dX11_least_38
set_option maxRecDepth 100000 in
set_option maxHeartbeats 4000000 in
theorem c_X11_least {l : Launch} {V : EV} {G : GS} {S : HS} {F : Nat} {a : Nat} {r : Int32} {S' : HS} (hN : G.1.Nodup) (hW : WT G S) (h_a : a ∈ G.1) (k_a : G.2.1 a = 11) (hf : s_X11_least G.2.2 F a S = some (r, S')) : MetI l yX11_least cX11_least 3 .int 6 204 V G S [.ref a] r S' := by
  intro sz
  refine x_in RX11 rfl (by decide +kernel) hN (Nat.le_of_ble_eq_true rfl) (fun p e s m args below meth c ls hsz hargs hnm C hP hS hl => ?_)
  subst hsz
  have hx := C.1
  have hb := C.2.1
  have hl : lv_has ls 3 [(0, .ref a)] := hl
  unfold s_X11_least at hf
  refine lv_aload_n hx hb dX11_least_0 rfl (lv_at hl 0 rfl) ?_
  obtain ⟨r1, er1, hf⟩ := bd1_e hf
  refine x_aft_r (x_runV (As := []) (rest := []) C hP hS (c_X11_formInUse (l := l) C.2.2.2.2.2.2.2.2.2.1 hW h_a k_a er1 s.heap.size) h_a k_a (by decide) rfl rfl km_X11_formInUse ki_X11_formInUse qm_X11_162 ⟨(Nat.le_of_ble_eq_true rfl), (Nat.le_of_ble_eq_true rfl)⟩ rfl hl.1 rfl (Nat.le_of_ble_eq_true rfl) ⟨Nat.zero_le _, Nat.zero_le _⟩ dX11_least_1) hS (fun H locs hP hS hW q2 => ?_)
  cases r1 with
  | none =>
    have hf := mq_n rfl hf
    show W _ _ _ _ _ _ _ _ _ _ _ _ _ _ _ (F0 m 4 ls (.null :: []))
    refine lv_astore_nN (lv' := [(1, .null), (0, .ref a)]) hx hb dX11_least_4 rfl hl (by decide) rfl (fun ls hl => ?_)
    refine lv_aload_nN hx hb dX11_least_5 rfl (lv_at hl 0 rfl) ?_
    refine lv_ifnullN (tgt := 16) hx hb dX11_least_6 (by decide) ?_
    refine lv_iconst (v := (-1)) hx hb dX11_least_16 rfl ?_
    cases hf
    exact x_reti C hP hS hW dX11_least_17
  | some t3 =>
    have hf := mq_s rfl hf
    obtain ⟨h_t3, k_t3⟩ := q2 _ rfl
    show W _ _ _ _ _ _ _ _ _ _ _ _ _ _ _ (F0 m 4 ls (.ref t3 :: []))
    refine lv_astore_n (lv' := [(1, .ref t3), (0, .ref a)]) hx hb dX11_least_4 rfl hl (by decide) rfl (fun ls hl => ?_)
    refine lv_aload_n hx hb dX11_least_5 rfl (lv_at hl 0 rfl) ?_
    refine lv_ifnull hx hb dX11_least_6 ?_
    refine lv_aload_n hx hb dX11_least_9 rfl (lv_at hl 0 rfl) ?_
    refine x_aft_z (x_runV (As := []) (rest := []) C hP hS (c_X2_isSmall (l := l) C.2.2.2.2.2.2.2.2.2.1 hW h_t3 k_t3 rfl H.size) h_t3 k_t3 (by decide) rfl rfl km_X2_isSmall ki_X2_isSmall qm_X11_369 ⟨(Nat.le_of_ble_eq_true rfl), (Nat.le_of_ble_eq_true rfl)⟩ rfl hl.1 rfl (Nat.le_of_ble_eq_true rfl) ⟨Nat.zero_le _, Nat.zero_le _⟩ dX11_least_10) hS (fun H locs hP hS hW z4 => ?_)
    refine lv_if_ne (tgt := 18) hx hb dX11_least_13 (by decide) (fun c5 => ?_) (fun c5 => ?_)
    · have hf := if_f c5 hf
      refine lv_iconst (v := 0) hx hb dX11_least_18 rfl ?_
      refine lv_istore_n (lv' := [(2, .int 0), (1, .ref t3), (0, .ref a)]) hx hb dX11_least_19 rfl hl (by decide) rfl (fun ls hl => ?_)
      exact b_X11_least_20 C F a t3 0 h_a k_a h_t3 k_t3 S H locs _ hf hP hS hW (lv_sub hl [2, 1, 0] rfl)
    · have hf := if_t c5 hf
      refine lv_iconst (v := (-1)) hx hb dX11_least_16 rfl ?_
      cases hf
      exact x_reti C hP hS hW dX11_least_17
def s_X11_mark (N : Nat → Nat) (F : Nat) (a : Nat) (p0 : Int32) (p1 : Int32) (S : HS) : Option (Int32 × HS) :=
  if p0 < (0 : Int32) then
  some (0, S)
  else
  if p0 < (4 : Int32) then
  if p1 = (0 : Int32) then
  bd1 (gR S 1106 a) fun t15 =>
  if inB p0 (N t15) = true then
  bd1 (aR S t15 p0.toNatClampNeg) fun t17 =>
  bd1 (gR S 1104 a) fun t18 =>
  bd1 (s_X7_copy N F t17 t18 S) fun S19 =>
  bd1 (gR S19 1107 a) fun t20 =>
  if inB p0 (N t20) = true then
  bnd (wI S19 t20 (p0.toNatClampNeg) (vp_nar .boolean 1)) fun S22 =>
  some (1, S22)
  else none
  else none
  else
  bd1 (gR S 1107 a) fun t4 =>
  if inB p0 (N t4) = true then
  if (aI S t4 p0.toNatClampNeg) = (0 : Int32) then
  some (0, S)
  else
  bd1 (gR S 1104 a) fun t7 =>
  bd1 (gR S 1106 a) fun t8 =>
  if inB p0 (N t8) = true then
  bd1 (aR S t8 p0.toNatClampNeg) fun t10 =>
  bd1 (s_X7_copy N F t7 t10 S) fun S11 =>
  bd1 (gR S11 1103 a) fun t12 =>
  bnd (uI S11 403 t12 0) fun S13 =>
  bnd (uI S13 1115 a 0) fun S14 =>
  some (1, S14)
  else none
  else none
  else
  some (0, S)
set_option maxRecDepth 100000 in
set_option maxHeartbeats 4000000 in
theorem c_X11_mark {l : Launch} {V : EV} {G : GS} {S : HS} {F : Nat} {a : Nat} {p0 : Int32} {p1 : Int32} {r : Int32} {S' : HS} (hN : G.1.Nodup) (hW : WT G S) (h_a : a ∈ G.1) (k_a : G.2.1 a = 11) (hf : s_X11_mark G.2.2 F a p0 p1 S = some (r, S')) : MetZ l yX11_mark cX11_mark 3 1 30 V G S [.ref a, .int p0, .int p1] r S' := by
  intro sz
  refine x_in RX11 rfl (by decide +kernel) hN (Nat.le_of_ble_eq_true rfl) (fun p e s m args below meth c ls hsz hargs hnm C hP hS hl => ?_)
  subst hsz
  have hx := C.1
  have hb := C.2.1
  have hl : lv_has ls 3 [(0, .ref a), (1, .int p0), (2, .int p1)] := hl
  unfold s_X11_mark at hf
  refine lv_iload_n hx hb dX11_mark_0 rfl (lv_at hl 1 rfl) ?_
  refine lv_if_lt (tgt := 9) hx hb dX11_mark_1 (by decide) (fun c1 => ?_) (fun c1 => ?_)
  · have hf := if_t c1 hf
    refine lv_iconst (v := 0) hx hb dX11_mark_9 rfl ?_
    cases hf
    exact x_retZ C hP hS hW isZ_0 dX11_mark_10
  · have hf := if_f c1 hf
    refine lv_iload_n hx hb dX11_mark_4 rfl (lv_at hl 1 rfl) ?_
    refine lv_iconst (v := 4) hx hb dX11_mark_5 rfl ?_
    refine lv_icmp_lt (tgt := 11) hx hb dX11_mark_6 (by decide) (fun c2 => ?_) (fun c2 => ?_)
    · have hf := if_t c2 hf
      refine lv_iload_n hx hb dX11_mark_11 rfl (lv_at hl 2 rfl) ?_
      refine lv_if_ne (tgt := 37) hx hb dX11_mark_12 (by decide) (fun c3 => ?_) (fun c3 => ?_)
      · have hf := if_f c3 hf
        refine lv_aload_n hx hb dX11_mark_37 rfl (lv_at hl 0 rfl) ?_
        refine gf_X11_51 C hP h_a k_a dX11_mark_38 ?_
        obtain ⟨t4, et4, hf⟩ := bd1_e hf
        obtain ⟨h_t4, k_t4⟩ := wt_r hW h_a k_a (by decide) et4
        have k_t4 : G.2.1 t4 = 16 := k_t4
        rw [et4]
        refine lv_iload_n hx hb dX11_mark_41 rfl (lv_at hl 1 rfl) ?_
        obtain ⟨h5, hf⟩ := if_s hf
        refine x_zald C hP h_t4 k_t4 h5 dX11_mark_42 ?_
        refine lv_if_ne (tgt := 48) hx hb dX11_mark_43 (by decide) (fun c6 => ?_) (fun c6 => ?_)
        · have hf := if_f c6 hf
          refine lv_aload_n hx hb dX11_mark_48 rfl (lv_at hl 0 rfl) ?_
          refine gf_X11_40 C hP h_a k_a dX11_mark_49 ?_
          obtain ⟨t7, et7, hf⟩ := bd1_e hf
          obtain ⟨h_t7, k_t7⟩ := wt_r hW h_a k_a (by decide) et7
          have k_t7 : G.2.1 t7 = 7 := k_t7
          rw [et7]
          refine lv_aload_n hx hb dX11_mark_52 rfl (lv_at hl 0 rfl) ?_
          refine gf_X11_47 C hP h_a k_a dX11_mark_53 ?_
          obtain ⟨t8, et8, hf⟩ := bd1_e hf
          obtain ⟨h_t8, k_t8⟩ := wt_r hW h_a k_a (by decide) et8
          have k_t8 : G.2.1 t8 = 18 := k_t8
          rw [et8]
          refine lv_iload_n hx hb dX11_mark_56 rfl (lv_at hl 1 rfl) ?_
          obtain ⟨h9, hf⟩ := if_s hf
          refine x_Sald C hP h_t8 k_t8 h9 dX11_mark_57 ?_
          obtain ⟨t10, et10, hf⟩ := bd1_e hf
          obtain ⟨h_t10, k_t10⟩ := hW.2.2 _ h_t8 _ _ k_t8 et10
          rw [et10]
          obtain ⟨S11, eS11, hf⟩ := bd1_e hf
          refine x_aft_v (x_runV (As := [.ref t10]) (rest := []) C hP hS (c_X7_copy (l := l) C.2.2.2.2.2.2.2.2.2.1 hW h_t7 k_t7 h_t10 k_t10 eS11 s.heap.size) h_t7 k_t7 (by decide) rfl rfl km_X7_copy ki_X7_copy qm_X11_224 ⟨(Nat.le_of_ble_eq_true rfl), (Nat.le_of_ble_eq_true rfl)⟩ rfl hl.1 rfl (Nat.le_of_ble_eq_true rfl) ⟨Nat.zero_le _, Nat.zero_le _⟩ dX11_mark_58) hS (fun H locs hP hS hW => ?_)
          refine lv_aload_n hx hb dX11_mark_61 rfl (lv_at hl 0 rfl) ?_
          refine gf_X11_33 C hP h_a k_a dX11_mark_62 ?_
          obtain ⟨t12, et12, hf⟩ := bd1_e hf
          obtain ⟨h_t12, k_t12⟩ := wt_r hW h_a k_a (by decide) et12
          have k_t12 : G.2.1 t12 = 4 := k_t12
          rw [et12]
          refine lv_iconst (v := 0) hx hb dX11_mark_65 rfl ?_
          obtain ⟨S13, eS13, hf⟩ := bnd_e hf
          refine pf_X11_126 C hP hS h_t12 k_t12 eS13 dX11_mark_66 (fun H locs hP hS => ?_)
          have hW : WT G S13 := by rw [eS13]; exact hW
          refine lv_aload_n hx hb dX11_mark_69 rfl (lv_at hl 0 rfl) ?_
          refine lv_iconst (v := 0) hx hb dX11_mark_70 rfl ?_
          obtain ⟨S14, eS14, hf⟩ := bnd_e hf
          refine pf_X11_129 C hP hS h_a k_a eS14 dX11_mark_71 (fun H locs hP hS => ?_)
          have hW : WT G S14 := by rw [eS14]; exact hW
          refine lv_iconst (v := 1) hx hb dX11_mark_74 rfl ?_
          cases hf
          exact x_retZ C hP hS hW isZ_1 dX11_mark_75
        · have hf := if_t c6 hf
          refine lv_iconst (v := 0) hx hb dX11_mark_46 rfl ?_
          cases hf
          exact x_retZ C hP hS hW isZ_0 dX11_mark_47
      · have hf := if_t c3 hf
        refine lv_aload_n hx hb dX11_mark_15 rfl (lv_at hl 0 rfl) ?_
        refine gf_X11_47 C hP h_a k_a dX11_mark_16 ?_
        obtain ⟨t15, et15, hf⟩ := bd1_e hf
        obtain ⟨h_t15, k_t15⟩ := wt_r hW h_a k_a (by decide) et15
        have k_t15 : G.2.1 t15 = 18 := k_t15
        rw [et15]
        refine lv_iload_n hx hb dX11_mark_19 rfl (lv_at hl 1 rfl) ?_
        obtain ⟨h16, hf⟩ := if_s hf
        refine x_Sald C hP h_t15 k_t15 h16 dX11_mark_20 ?_
        obtain ⟨t17, et17, hf⟩ := bd1_e hf
        obtain ⟨h_t17, k_t17⟩ := hW.2.2 _ h_t15 _ _ k_t15 et17
        rw [et17]
        refine lv_aload_n hx hb dX11_mark_21 rfl (lv_at hl 0 rfl) ?_
        refine gf_X11_40 C hP h_a k_a dX11_mark_22 ?_
        obtain ⟨t18, et18, hf⟩ := bd1_e hf
        obtain ⟨h_t18, k_t18⟩ := wt_r hW h_a k_a (by decide) et18
        have k_t18 : G.2.1 t18 = 7 := k_t18
        rw [et18]
        obtain ⟨S19, eS19, hf⟩ := bd1_e hf
        refine x_aft_v (x_runV (As := [.ref t18]) (rest := []) C hP hS (c_X7_copy (l := l) C.2.2.2.2.2.2.2.2.2.1 hW h_t17 k_t17 h_t18 k_t18 eS19 s.heap.size) h_t17 k_t17 (by decide) rfl rfl km_X7_copy ki_X7_copy qm_X11_224 ⟨(Nat.le_of_ble_eq_true rfl), (Nat.le_of_ble_eq_true rfl)⟩ rfl hl.1 rfl (Nat.le_of_ble_eq_true rfl) ⟨Nat.zero_le _, Nat.zero_le _⟩ dX11_mark_25) hS (fun H locs hP hS hW => ?_)
        refine lv_aload_n hx hb dX11_mark_28 rfl (lv_at hl 0 rfl) ?_
        refine gf_X11_51 C hP h_a k_a dX11_mark_29 ?_
        obtain ⟨t20, et20, hf⟩ := bd1_e hf
        obtain ⟨h_t20, k_t20⟩ := wt_r hW h_a k_a (by decide) et20
        have k_t20 : G.2.1 t20 = 16 := k_t20
        rw [et20]
        refine lv_iload_n hx hb dX11_mark_32 rfl (lv_at hl 1 rfl) ?_
        refine lv_iconst (v := 1) hx hb dX11_mark_33 rfl ?_
        obtain ⟨h21, hf⟩ := if_s hf
        obtain ⟨S22, eS22, hf⟩ := bnd_e hf
        refine x_zast C hP hS h_t20 k_t20 h21 eS22 dX11_mark_34 (fun H locs hP hS => ?_)
        have hW : WT G S22 := by rw [eS22]; exact hW
        refine lv_iconst (v := 1) hx hb dX11_mark_35 rfl ?_
        cases hf
        exact x_retZ C hP hS hW isZ_1 dX11_mark_36
    · have hf := if_f c2 hf
      refine lv_iconst (v := 0) hx hb dX11_mark_9 rfl ?_
      cases hf
      exact x_retZ C hP hS hW isZ_0 dX11_mark_10
def s_X11_marks (N : Nat → Nat) (F : Nat) (a : Nat) (p0 : Int32) (p1 : Int32) (p2 : Int32) (p3 : Int32) (S : HS) : Option (Int32 × HS) :=
  if (s_X11_isMode p3 S) = (0 : Int32) then
  some ((-1), S)
  else
  bd2 (s_X11_add N F a p0 p1 p2 p3 S) fun r3 S4 =>
  if r3 = (0 : Int32) then
  some ((-1), S4)
  else
  bd1 (gR S4 1101 a) fun t7 =>
  some (gI S4 2 t7, S4)
set_option maxRecDepth 100000 in
set_option maxHeartbeats 4000000 in
theorem c_X11_marks {l : Launch} {V : EV} {G : GS} {S : HS} {F : Nat} {a : Nat} {p0 : Int32} {p1 : Int32} {p2 : Int32} {p3 : Int32} {r : Int32} {S' : HS} (hN : G.1.Nodup) (hW : WT G S) (h_a : a ∈ G.1) (k_a : G.2.1 a = 11) (hf : s_X11_marks G.2.2 F a p0 p1 p2 p3 S = some (r, S')) : MetI l yX11_marks cX11_marks 5 .int 6 205 V G S [.ref a, .int p0, .int p1, .int p2, .int p3] r S' := by
  intro sz
  refine x_in RX11 rfl (by decide +kernel) hN (Nat.le_of_ble_eq_true rfl) (fun p e s m args below meth c ls hsz hargs hnm C hP hS hl => ?_)
  subst hsz
  have hx := C.1
  have hb := C.2.1
  have hl : lv_has ls 5 [(0, .ref a), (1, .int p0), (2, .int p1), (3, .int p2), (4, .int p3)] := hl
  unfold s_X11_marks at hf
  refine lv_iload hx hb dX11_marks_0 (lv_at hl 4 rfl) ?_
  refine x_aft_z (x_runS (As := [.int p3]) (rest := []) C hP hS (c_X11_isMode (l := l) C.2.2.2.2.2.2.2.2.2.1 hW rfl s.heap.size) km_X11_isMode ks_X11_isMode qm_X11_207 ⟨(Nat.le_of_ble_eq_true rfl), (Nat.le_of_ble_eq_true rfl)⟩ rfl hl.1 rfl (Nat.le_of_ble_eq_true rfl) ⟨Nat.zero_le _, Nat.zero_le _⟩ dX11_marks_2) hS (fun H locs hP hS hW z1 => ?_)
  refine lv_if_eq (tgt := 30) hx hb dX11_marks_5 (by decide) (fun c2 => ?_) (fun c2 => ?_)
  · have hf := if_t c2 hf
    refine lv_iconst (v := (-1)) hx hb dX11_marks_30 rfl ?_
    cases hf
    exact x_reti C hP hS hW dX11_marks_31
  · have hf := if_f c2 hf
    refine lv_aload_n hx hb dX11_marks_8 rfl (lv_at hl 0 rfl) ?_
    refine lv_iload_n hx hb dX11_marks_9 rfl (lv_at hl 1 rfl) ?_
    refine lv_iload_n hx hb dX11_marks_10 rfl (lv_at hl 2 rfl) ?_
    refine lv_iload_n hx hb dX11_marks_11 rfl (lv_at hl 3 rfl) ?_
    refine lv_iload hx hb dX11_marks_12 (lv_at hl 4 rfl) ?_
    obtain ⟨r3, S4, eS4, hf⟩ := bd2_e hf
    refine x_aft_z (x_runV (As := [.int p0, .int p1, .int p2, .int p3]) (rest := []) C hP hS (c_X11_add (l := l) C.2.2.2.2.2.2.2.2.2.1 hW h_a k_a eS4 H.size) h_a k_a (by decide) rfl rfl km_X11_add ki_X11_add qm_X11_301 ⟨(Nat.le_of_ble_eq_true rfl), (Nat.le_of_ble_eq_true rfl)⟩ rfl hl.1 rfl (Nat.le_of_ble_eq_true rfl) ⟨Nat.zero_le _, Nat.zero_le _⟩ dX11_marks_14) hS (fun H locs hP hS hW z5 => ?_)
    refine lv_if_eq (tgt := 30) hx hb dX11_marks_17 (by decide) (fun c6 => ?_) (fun c6 => ?_)
    · have hf := if_t c6 hf
      refine lv_iconst (v := (-1)) hx hb dX11_marks_30 rfl ?_
      cases hf
      exact x_reti C hP hS hW dX11_marks_31
    · have hf := if_f c6 hf
      refine lv_aload_n hx hb dX11_marks_20 rfl (lv_at hl 0 rfl) ?_
      refine gf_X11_19 C hP h_a k_a dX11_marks_21 ?_
      obtain ⟨t7, et7, hf⟩ := bd1_e hf
      obtain ⟨h_t7, k_t7⟩ := wt_r hW h_a k_a (by decide) et7
      have k_t7 : G.2.1 t7 = 0 := k_t7
      rw [et7]
      refine gf_X11_304 C hP h_t7 k_t7 dX11_marks_24 ?_
      refine lv_goto (tgt := 31) hx hb dX11_marks_27 (by decide) ?_
      cases hf
      exact x_reti C hP hS hW dX11_marks_31
def s_X11_mode (N : Nat → Nat) (F : Nat) (a : Nat) (p0 : Int32) (S : HS) : Option (Int32 × HS) :=
  if (s_X11_isMode p0 S) = (0 : Int32) then
  some ((-1), S)
  else
  bd1 (gR S 1103 a) fun t3 =>
  bd1 (gR S 1104 a) fun t4 =>
  bd1 (s_X4_keep N F t3 t4 0 S) fun S5 =>
  bd1 (gR S5 1104 a) fun t6 =>
  bnd (gI S5 702 t6 : Int32) fun x7 =>
  bd1 (gR S5 1104 a) fun t8 =>
  bnd (uI S5 702 t8 p0) fun S9 =>
  some (x7, S9)
set_option maxRecDepth 100000 in
set_option maxHeartbeats 4000000 in
theorem c_X11_mode {l : Launch} {V : EV} {G : GS} {S : HS} {F : Nat} {a : Nat} {p0 : Int32} {r : Int32} {S' : HS} (hN : G.1.Nodup) (hW : WT G S) (h_a : a ∈ G.1) (k_a : G.2.1 a = 11) (hf : s_X11_mode G.2.2 F a p0 S = some (r, S')) : MetI l yX11_mode cX11_mode 3 .int 2 60 V G S [.ref a, .int p0] r S' := by
  intro sz
  refine x_in RX11 rfl (by decide +kernel) hN (Nat.le_of_ble_eq_true rfl) (fun p e s m args below meth c ls hsz hargs hnm C hP hS hl => ?_)
  subst hsz
  have hx := C.1
  have hb := C.2.1
  have hl : lv_has ls 3 [(0, .ref a), (1, .int p0)] := hl
  unfold s_X11_mode at hf
  refine lv_iload_n hx hb dX11_mode_0 rfl (lv_at hl 1 rfl) ?_
  refine x_aft_z (x_runS (As := [.int p0]) (rest := []) C hP hS (c_X11_isMode (l := l) C.2.2.2.2.2.2.2.2.2.1 hW rfl s.heap.size) km_X11_isMode ks_X11_isMode qm_X11_207 ⟨(Nat.le_of_ble_eq_true rfl), (Nat.le_of_ble_eq_true rfl)⟩ rfl hl.1 rfl (Nat.le_of_ble_eq_true rfl) ⟨Nat.zero_le _, Nat.zero_le _⟩ dX11_mode_1) hS (fun H locs hP hS hW z1 => ?_)
  refine lv_if_ne (tgt := 9) hx hb dX11_mode_4 (by decide) (fun c2 => ?_) (fun c2 => ?_)
  · have hf := if_f c2 hf
    refine lv_aload_n hx hb dX11_mode_9 rfl (lv_at hl 0 rfl) ?_
    refine gf_X11_33 C hP h_a k_a dX11_mode_10 ?_
    obtain ⟨t3, et3, hf⟩ := bd1_e hf
    obtain ⟨h_t3, k_t3⟩ := wt_r hW h_a k_a (by decide) et3
    have k_t3 : G.2.1 t3 = 4 := k_t3
    rw [et3]
    refine lv_aload_n hx hb dX11_mode_13 rfl (lv_at hl 0 rfl) ?_
    refine gf_X11_40 C hP h_a k_a dX11_mode_14 ?_
    obtain ⟨t4, et4, hf⟩ := bd1_e hf
    obtain ⟨h_t4, k_t4⟩ := wt_r hW h_a k_a (by decide) et4
    have k_t4 : G.2.1 t4 = 7 := k_t4
    rw [et4]
    refine lv_iconst (v := 0) hx hb dX11_mode_17 rfl ?_
    obtain ⟨S5, eS5, hf⟩ := bd1_e hf
    refine x_aft_v (x_runV (As := [.ref t4, .int 0]) (rest := []) C hP hS (c_X4_keep (l := l) C.2.2.2.2.2.2.2.2.2.1 hW h_t3 k_t3 h_t4 k_t4 eS5 H.size) h_t3 k_t3 (by decide) rfl rfl km_X4_keep ki_X4_keep qm_X11_177 ⟨(Nat.le_of_ble_eq_true rfl), (Nat.le_of_ble_eq_true rfl)⟩ rfl hl.1 rfl (Nat.le_of_ble_eq_true rfl) ⟨Nat.zero_le _, Nat.zero_le _⟩ dX11_mode_18) hS (fun H locs hP hS hW => ?_)
    refine lv_aload_n hx hb dX11_mode_21 rfl (lv_at hl 0 rfl) ?_
    refine gf_X11_40 C hP h_a k_a dX11_mode_22 ?_
    obtain ⟨t6, et6, hf⟩ := bd1_e hf
    obtain ⟨h_t6, k_t6⟩ := wt_r hW h_a k_a (by decide) et6
    have k_t6 : G.2.1 t6 = 7 := k_t6
    rw [et6]
    refine gf_X11_193 C hP h_t6 k_t6 dX11_mode_25 ?_
    obtain ⟨x7, ex7, hf⟩ := bnd_e hf
    refine nm_i ex7 ?_
    refine lv_istore_n (lv' := [(2, .int x7), (0, .ref a), (1, .int p0)]) hx hb dX11_mode_28 rfl hl (by decide) rfl (fun ls hl => ?_)
    refine lv_aload_n hx hb dX11_mode_29 rfl (lv_at hl 1 rfl) ?_
    refine gf_X11_40 C hP h_a k_a dX11_mode_30 ?_
    obtain ⟨t8, et8, hf⟩ := bd1_e hf
    obtain ⟨h_t8, k_t8⟩ := wt_r hW h_a k_a (by decide) et8
    have k_t8 : G.2.1 t8 = 7 := k_t8
    rw [et8]
    refine lv_iload_n hx hb dX11_mode_33 rfl (lv_at hl 2 rfl) ?_
    obtain ⟨S9, eS9, hf⟩ := bnd_e hf
    refine pf_X11_193 C hP hS h_t8 k_t8 eS9 dX11_mode_34 (fun H locs hP hS => ?_)
    have hW : WT G S9 := by rw [eS9]; exact hW
    refine lv_iload_n hx hb dX11_mode_37 rfl (lv_at hl 0 rfl) ?_
    cases hf
    exact x_reti C hP hS hW dX11_mode_38
  · have hf := if_t c2 hf
    refine lv_iconst (v := (-1)) hx hb dX11_mode_7 rfl ?_
    cases hf
    exact x_reti C hP hS hW dX11_mode_8
def s_X11_nansOnTrial_J33 (N : Nat → Nat) (F : Nat) (k4 : Nat → Nat → Int32 → Int32 → HS → Option Int32) (v0 : Nat) (v1 : Nat) (v2 : Int32) (v3 : Int32) (S : HS) : Option Int32 :=
  bnd (v3 + Int32.ofInt 1 : Int32) fun x7 =>
  k4 v0 v1 v2 x7 S
def s_X11_nansOnTrial_L4 (N : Nat → Nat) (F : Nat) : Nat → Nat → Nat → Int32 → Int32 → HS → Option Int32
  | 0, _, _, _, _, _ => none
  | n + 1, v0, v1, v2, v3, S => bd1 (gR S 1111 v0) fun t1 =>
  if (gI S 904 t1) ≤ v3 then
  some v2
  else
  bd1 (gR S 1105 v0) fun t3 =>
  bd1 (s_X7_read N t3 v3 S) fun r4 =>
  if (s_X2_isNan v1 r4 S) = (0 : Int32) then
  s_X11_nansOnTrial_J33 N F (s_X11_nansOnTrial_L4 N F n) v0 v1 v2 v3 S
  else
  bnd (v2 + Int32.ofInt 1 : Int32) fun x8 =>
  s_X11_nansOnTrial_J33 N F (s_X11_nansOnTrial_L4 N F n) v0 v1 x8 v3 S
def s_X11_nansOnTrial (N : Nat → Nat) (F : Nat) (a : Nat) (p0 : Nat) (S : HS) : Option Int32 :=
  s_X11_nansOnTrial_L4 N F F a p0 0 0 S
set_option maxRecDepth 100000 in
set_option maxHeartbeats 4000000 in
theorem b_X11_nansOnTrial_33 {p : Program} {l : Launch} {e : Env} {s : State} {m : MethodId} {args : Array Value} {below : List Frame} {meth : Method} {c : Code} {V : EV} {G : GS} {r : Int32} {F : Nat} (C : CX p s m args meth c RX11 cX11_nansOnTrial 4 (some .int) V G) {k4 : Nat → Nat → Int32 → Int32 → HS → Option Int32} (hk4 : ∀ (v0 : Nat) (v1 : Nat) (v2 : Int32) (v3 : Int32) (h_v0 : v0 ∈ G.1) (k_v0 : G.2.1 v0 = 11) (h_v1 : v1 ∈ G.1) (k_v1 : G.2.1 v1 = 2) (S : HS) (H : Heap) (locs : List Loc) (ls : Array Slot), k4 v0 v1 v2 v3 S = some r → HP V G S H → va_S (AG G s.heap.size) s.heap H locs → WT G S → lv_has ls 4 [(0, .ref v0), (1, .ref v1), (2, .int v2), (3, .int v3)] → W p l e (RM 2 58) s m args below meth c H locs 0 0 (MQ below (QI V G S r s.heap.size) args s 0 0 (AG G s.heap.size)) (F0 m 4 ls [])) : ∀ (v0 : Nat) (v1 : Nat) (v2 : Int32) (v3 : Int32) (h_v0 : v0 ∈ G.1) (k_v0 : G.2.1 v0 = 11) (h_v1 : v1 ∈ G.1) (k_v1 : G.2.1 v1 = 2) (S : HS) (H : Heap) (locs : List Loc) (ls : Array Slot), s_X11_nansOnTrial_J33 G.2.2 F k4 v0 v1 v2 v3 S = some r → HP V G S H → va_S (AG G s.heap.size) s.heap H locs → WT G S → lv_has ls 4 [(0, .ref v0), (1, .ref v1), (2, .int v2), (3, .int v3)] → W p l e (RM 2 58) s m args below meth c H locs 0 0 (MQ below (QI V G S r s.heap.size) args s 0 0 (AG G s.heap.size)) (F0 m 33 ls []) := by
  intro v0 v1 v2 v3 h_v0 k_v0 h_v1 k_v1 S H locs ls hf hP hS hW hl
  have hx := C.1
  have hb := C.2.1
  unfold s_X11_nansOnTrial_J33 at hf
  obtain ⟨x7, ex7, hf⟩ := bnd_e hf
  refine lv_iinc (v := x7) (lv' := [(3, .int x7), (0, .ref v0), (1, .ref v1), (2, .int v2)]) hx hb dX11_nansOnTrial_33 hl (k := 3) rfl ex7.symm (by decide) rfl (fun ls hl => ?_)
  refine lv_goto (tgt := 4) hx hb dX11_nansOnTrial_36 (by decide) ?_
  exact hk4 v0 v1 v2 x7 h_v0 k_v0 h_v1 k_v1 S H locs _ hf hP hS hW (lv_sub hl [1, 2, 3, 0] rfl)
set_option maxRecDepth 100000 in
set_option maxHeartbeats 4000000 in
theorem b_X11_nansOnTrial_4 {p : Program} {l : Launch} {e : Env} {s : State} {m : MethodId} {args : Array Value} {below : List Frame} {meth : Method} {c : Code} {V : EV} {G : GS} {r : Int32} {F : Nat} (C : CX p s m args meth c RX11 cX11_nansOnTrial 4 (some .int) V G) : ∀ n : Nat, ∀ (v0 : Nat) (v1 : Nat) (v2 : Int32) (v3 : Int32) (h_v0 : v0 ∈ G.1) (k_v0 : G.2.1 v0 = 11) (h_v1 : v1 ∈ G.1) (k_v1 : G.2.1 v1 = 2) (S : HS) (H : Heap) (locs : List Loc) (ls : Array Slot), s_X11_nansOnTrial_L4 G.2.2 F n v0 v1 v2 v3 S = some r → HP V G S H → va_S (AG G s.heap.size) s.heap H locs → WT G S → lv_has ls 4 [(0, .ref v0), (1, .ref v1), (2, .int v2), (3, .int v3)] → W p l e (RM 2 58) s m args below meth c H locs 0 0 (MQ below (QI V G S r s.heap.size) args s 0 0 (AG G s.heap.size)) (F0 m 4 ls []) := by
  intro n
  induction n with
  | zero =>
    intro v0 v1 v2 v3 h_v0 k_v0 h_v1 k_v1 S H locs ls hf
    rw [s_X11_nansOnTrial_L4] at hf
    cases hf
  | succ n ih =>
    intro v0 v1 v2 v3 h_v0 k_v0 h_v1 k_v1 S H locs ls hf hP hS hW hl
    have hx := C.1
    have hb := C.2.1
    rw [s_X11_nansOnTrial_L4] at hf
    refine lv_iload_n hx hb dX11_nansOnTrial_4 rfl (lv_at hl 3 rfl) ?_
    refine lv_aload_n hx hb dX11_nansOnTrial_5 rfl (lv_at hl 0 rfl) ?_
    refine gf_X11_68 C hP h_v0 k_v0 dX11_nansOnTrial_6 ?_
    obtain ⟨t1, et1, hf⟩ := bd1_e hf
    obtain ⟨h_t1, k_t1⟩ := wt_r hW h_v0 k_v0 (by decide) et1
    have k_t1 : G.2.1 t1 = 9 := k_t1
    rw [et1]
    refine gf_X11_319 C hP h_t1 k_t1 dX11_nansOnTrial_9 ?_
    refine lv_icmp_ge (tgt := 39) hx hb dX11_nansOnTrial_12 (by decide) (fun c2 => ?_) (fun c2 => ?_)
    · have hf := if_t c2 hf
      refine lv_iload_n hx hb dX11_nansOnTrial_39 rfl (lv_at hl 2 rfl) ?_
      cases hf
      exact x_reti C hP hS hW dX11_nansOnTrial_40
    · have hf := if_f c2 hf
      refine lv_aload_n hx hb dX11_nansOnTrial_15 rfl (lv_at hl 1 rfl) ?_
      refine lv_aload_n hx hb dX11_nansOnTrial_16 rfl (lv_at hl 0 rfl) ?_
      refine gf_X11_44 C hP h_v0 k_v0 dX11_nansOnTrial_17 ?_
      obtain ⟨t3, et3, hf⟩ := bd1_e hf
      obtain ⟨h_t3, k_t3⟩ := wt_r hW h_v0 k_v0 (by decide) et3
      have k_t3 : G.2.1 t3 = 7 := k_t3
      rw [et3]
      refine lv_iload_n hx hb dX11_nansOnTrial_20 rfl (lv_at hl 3 rfl) ?_
      obtain ⟨r4, er4, hf⟩ := bd1_e hf
      refine x_aft_i (x_runV (As := [.int v3]) (rest := [.ref v1]) C hP hS (c_X7_read (l := l) C.2.2.2.2.2.2.2.2.2.1 hW h_t3 k_t3 er4 H.size) h_t3 k_t3 (by decide) rfl rfl km_X7_read ki_X7_read qm_X11_170 ⟨(Nat.le_of_ble_eq_true rfl), (Nat.le_of_ble_eq_true rfl)⟩ rfl hl.1 rfl (Nat.le_of_ble_eq_true rfl) ⟨Nat.zero_le _, Nat.zero_le _⟩ dX11_nansOnTrial_21) hS (fun H locs hP hS hW => ?_)
      refine x_aft_z (x_runV (As := [.int r4]) (rest := []) C hP hS (c_X2_isNan (l := l) C.2.2.2.2.2.2.2.2.2.1 hW h_v1 k_v1 rfl H.size) h_v1 k_v1 (by decide) rfl rfl km_X2_isNan ki_X2_isNan qm_X11_241 ⟨(Nat.le_of_ble_eq_true rfl), (Nat.le_of_ble_eq_true rfl)⟩ rfl hl.1 rfl (Nat.le_of_ble_eq_true rfl) ⟨Nat.zero_le _, Nat.zero_le _⟩ dX11_nansOnTrial_24) hS (fun H locs hP hS hW z5 => ?_)
      refine lv_if_eq (tgt := 33) hx hb dX11_nansOnTrial_27 (by decide) (fun c6 => ?_) (fun c6 => ?_)
      · have hf := if_t c6 hf
        exact b_X11_nansOnTrial_33 C ih v0 v1 v2 v3 h_v0 k_v0 h_v1 k_v1 S H locs _ hf hP hS hW (lv_sub hl [0, 1, 2, 3] rfl)
      · have hf := if_f c6 hf
        obtain ⟨x8, ex8, hf⟩ := bnd_e hf
        refine lv_iinc (v := x8) (lv' := [(2, .int x8), (0, .ref v0), (1, .ref v1), (3, .int v3)]) hx hb dX11_nansOnTrial_30 hl (k := 2) rfl ex8.symm (by decide) rfl (fun ls hl => ?_)
        exact b_X11_nansOnTrial_33 C ih v0 v1 x8 v3 h_v0 k_v0 h_v1 k_v1 S H locs _ hf hP hS hW (lv_sub hl [1, 2, 0, 3] rfl)
set_option maxRecDepth 100000 in
set_option maxHeartbeats 4000000 in
theorem c_X11_nansOnTrial {l : Launch} {V : EV} {G : GS} {S : HS} {F : Nat} {a : Nat} {p0 : Nat} {r : Int32} (hN : G.1.Nodup) (hW : WT G S) (h_a : a ∈ G.1) (k_a : G.2.1 a = 11) (h_p0 : p0 ∈ G.1) (k_p0 : G.2.1 p0 = 2) (hf : s_X11_nansOnTrial G.2.2 F a p0 S = some r) : MetI l yX11_nansOnTrial cX11_nansOnTrial 4 .int 2 58 V G S [.ref a, .ref p0] r S := by
  intro sz
  refine x_in RX11 rfl (by decide +kernel) hN (Nat.le_of_ble_eq_true rfl) (fun p e s m args below meth c ls hsz hargs hnm C hP hS hl => ?_)
  subst hsz
  have hx := C.1
  have hb := C.2.1
  have hl : lv_has ls 4 [(0, .ref a), (1, .ref p0)] := hl
  unfold s_X11_nansOnTrial at hf
  refine lv_iconst (v := 0) hx hb dX11_nansOnTrial_0 rfl ?_
  refine lv_istore_n (lv' := [(2, .int 0), (0, .ref a), (1, .ref p0)]) hx hb dX11_nansOnTrial_1 rfl hl (by decide) rfl (fun ls hl => ?_)
  refine lv_iconst (v := 0) hx hb dX11_nansOnTrial_2 rfl ?_
  refine lv_istore_n (lv' := [(3, .int 0), (2, .int 0), (0, .ref a), (1, .ref p0)]) hx hb dX11_nansOnTrial_3 rfl hl (by decide) rfl (fun ls hl => ?_)
  exact b_X11_nansOnTrial_4 C F a p0 0 0 h_a k_a h_p0 k_p0 S s.heap [] _ hf hP hS hW (lv_sub hl [2, 3, 1, 0] rfl)
def s_X11_of_J53 (N : Nat → Nat) (F : Nat) (v0 : Nat) (w0 : Nat) (w1 : Nat) (w2 : Int32) (w3 : Int32) (w4 : Int64) (S : HS) : Option (Int32 × HS) :=
  bd1 (s_X0_round F w0 w1 w2 w3 w4 0 S) fun S10 =>
  bd1 (gR S10 1101 v0) fun t11 =>
  some (gI S10 1 t11, S10)
def s_X11_of_J41 (N : Nat → Nat) (F : Nat) (v0 : Nat) (v3 : Int64) (w0 : Nat) (w1 : Nat) (w2 : Int32) (w3 : Int32) (S : HS) : Option (Int32 × HS) :=
  if (0 : Int32) ≤ (lg_cmp v3 (0 : Int64)) then
  s_X11_of_J53 N F v0 w0 w1 w2 w3 v3 S
  else
  s_X11_of_J53 N F v0 w0 w1 w2 w3 (-v3) S
def s_X11_of (N : Nat → Nat) (F : Nat) (a : Nat) (p0 : Int32) (S : HS) : Option (Int32 × HS) :=
  bd1 (s_X11_formInUse N a S) fun r1 =>
  mq r1
  (some ((-1), S))
  fun t3 =>
  if p0 = (0 : Int32) then
  some (0, S)
  else
  bnd (p0.toInt64 : Int64) fun x5 =>
  bd1 (gR S 1101 a) fun t6 =>
  bd1 (gR S 1104 a) fun t7 =>
  if (0 : Int32) ≤ p0 then
  s_X11_of_J41 N F a x5 t6 t3 (gI S 702 t7) 0 S
  else
  s_X11_of_J41 N F a x5 t6 t3 (gI S 702 t7) 1 S
set_option maxRecDepth 100000 in
set_option maxHeartbeats 4000000 in
theorem b_X11_of_53 {p : Program} {l : Launch} {e : Env} {s : State} {m : MethodId} {args : Array Value} {below : List Frame} {meth : Method} {c : Code} {V : EV} {G : GS} {r : Int32} {S' : HS} {F : Nat} (C : CX p s m args meth c RX11 cX11_of 5 (some .int) V G) : ∀ (v0 : Nat) (w0 : Nat) (w1 : Nat) (w2 : Int32) (w3 : Int32) (w4 : Int64) (h_v0 : v0 ∈ G.1) (k_v0 : G.2.1 v0 = 11) (h_w0 : w0 ∈ G.1) (k_w0 : G.2.1 w0 = 0) (h_w1 : w1 ∈ G.1) (k_w1 : G.2.1 w1 = 2) (S : HS) (H : Heap) (locs : List Loc) (ls : Array Slot), s_X11_of_J53 G.2.2 F v0 w0 w1 w2 w3 w4 S = some (r, S') → HP V G S H → va_S (AG G s.heap.size) s.heap H locs → WT G S → lv_has ls 5 [(0, .ref v0)] → W p l e (RM 2 77) s m args below meth c H locs 0 0 (MQ below (QI V G S' r s.heap.size) args s 0 0 (AG G s.heap.size)) (F0 m 53 ls [.long w4, .int w3, .int w2, .ref w1, .ref w0]) := by
  intro v0 w0 w1 w2 w3 w4 h_v0 k_v0 h_w0 k_w0 h_w1 k_w1 S H locs ls hf hP hS hW hl
  have hx := C.1
  have hb := C.2.1
  unfold s_X11_of_J53 at hf
  refine lv_iconst (v := 0) hx hb dX11_of_53 rfl ?_
  obtain ⟨S10, eS10, hf⟩ := bd1_e hf
  refine x_aft_v (x_runV (As := [.ref w1, .int w2, .int w3, .long w4, .int 0]) (rest := []) C hP hS (c_X0_round (l := l) C.2.2.2.2.2.2.2.2.2.1 hW h_w0 k_w0 h_w1 k_w1 eS10 H.size) h_w0 k_w0 (by decide) rfl rfl km_X0_round ki_X0_round qm_X11_277 ⟨(Nat.le_of_ble_eq_true rfl), (Nat.le_of_ble_eq_true rfl)⟩ rfl hl.1 rfl (Nat.le_of_ble_eq_true rfl) ⟨Nat.zero_le _, Nat.zero_le _⟩ dX11_of_54) hS (fun H locs hP hS hW => ?_)
  refine lv_aload_n hx hb dX11_of_57 rfl (lv_at hl 0 rfl) ?_
  refine gf_X11_19 C hP h_v0 k_v0 dX11_of_58 ?_
  obtain ⟨t11, et11, hf⟩ := bd1_e hf
  obtain ⟨h_t11, k_t11⟩ := wt_r hW h_v0 k_v0 (by decide) et11
  have k_t11 : G.2.1 t11 = 0 := k_t11
  rw [et11]
  refine gf_X11_196 C hP h_t11 k_t11 dX11_of_61 ?_
  cases hf
  exact x_reti C hP hS hW dX11_of_64
set_option maxRecDepth 100000 in
set_option maxHeartbeats 4000000 in
theorem b_X11_of_41 {p : Program} {l : Launch} {e : Env} {s : State} {m : MethodId} {args : Array Value} {below : List Frame} {meth : Method} {c : Code} {V : EV} {G : GS} {r : Int32} {S' : HS} {F : Nat} (C : CX p s m args meth c RX11 cX11_of 5 (some .int) V G) : ∀ (v0 : Nat) (v3 : Int64) (w0 : Nat) (w1 : Nat) (w2 : Int32) (w3 : Int32) (h_v0 : v0 ∈ G.1) (k_v0 : G.2.1 v0 = 11) (h_w0 : w0 ∈ G.1) (k_w0 : G.2.1 w0 = 0) (h_w1 : w1 ∈ G.1) (k_w1 : G.2.1 w1 = 2) (S : HS) (H : Heap) (locs : List Loc) (ls : Array Slot), s_X11_of_J41 G.2.2 F v0 v3 w0 w1 w2 w3 S = some (r, S') → HP V G S H → va_S (AG G s.heap.size) s.heap H locs → WT G S → lv_has ls 5 [(0, .ref v0), (3, .long v3)] → W p l e (RM 2 77) s m args below meth c H locs 0 0 (MQ below (QI V G S' r s.heap.size) args s 0 0 (AG G s.heap.size)) (F0 m 41 ls [.int w3, .int w2, .ref w1, .ref w0]) := by
  intro v0 v3 w0 w1 w2 w3 h_v0 k_v0 h_w0 k_w0 h_w1 k_w1 S H locs ls hf hP hS hW hl
  have hx := C.1
  have hb := C.2.1
  unfold s_X11_of_J41 at hf
  refine lv_lload_n hx hb dX11_of_41 rfl (lv_at hl 1 rfl) ?_
  refine lv_lconst (v := 0) hx hb dX11_of_42 rfl ?_
  refine W.lcmp hx hb dX11_of_43 ?_
  refine lv_if_ge (tgt := 52) hx hb dX11_of_44 (by decide) (fun c9 => ?_) (fun c9 => ?_)
  · have hf := if_t c9 hf
    refine lv_lload_n hx hb dX11_of_52 rfl (lv_at hl 1 rfl) ?_
    exact b_X11_of_53 C v0 w0 w1 w2 w3 v3 h_v0 k_v0 h_w0 k_w0 h_w1 k_w1 S H locs _ hf hP hS hW (lv_sub hl [0] rfl)
  · have hf := if_f c9 hf
    refine lv_lload_n hx hb dX11_of_47 rfl (lv_at hl 1 rfl) ?_
    refine lv_lneg hx hb dX11_of_48 ?_
    refine lv_goto (tgt := 53) hx hb dX11_of_49 (by decide) ?_
    exact b_X11_of_53 C v0 w0 w1 w2 w3 (-v3) h_v0 k_v0 h_w0 k_w0 h_w1 k_w1 S H locs _ hf hP hS hW (lv_sub hl [0] rfl)
set_option maxRecDepth 100000 in
set_option maxHeartbeats 4000000 in
theorem c_X11_of {l : Launch} {V : EV} {G : GS} {S : HS} {F : Nat} {a : Nat} {p0 : Int32} {r : Int32} {S' : HS} (hN : G.1.Nodup) (hW : WT G S) (h_a : a ∈ G.1) (k_a : G.2.1 a = 11) (hf : s_X11_of G.2.2 F a p0 S = some (r, S')) : MetI l yX11_of cX11_of 5 .int 2 77 V G S [.ref a, .int p0] r S' := by
  intro sz
  refine x_in RX11 rfl (by decide +kernel) hN (Nat.le_of_ble_eq_true rfl) (fun p e s m args below meth c ls hsz hargs hnm C hP hS hl => ?_)
  subst hsz
  have hx := C.1
  have hb := C.2.1
  have hl : lv_has ls 5 [(0, .ref a), (1, .int p0)] := hl
  unfold s_X11_of at hf
  refine lv_aload_n hx hb dX11_of_0 rfl (lv_at hl 0 rfl) ?_
  obtain ⟨r1, er1, hf⟩ := bd1_e hf
  refine x_aft_r (x_runV (As := []) (rest := []) C hP hS (c_X11_formInUse (l := l) C.2.2.2.2.2.2.2.2.2.1 hW h_a k_a er1 s.heap.size) h_a k_a (by decide) rfl rfl km_X11_formInUse ki_X11_formInUse qm_X11_162 ⟨(Nat.le_of_ble_eq_true rfl), (Nat.le_of_ble_eq_true rfl)⟩ rfl hl.1 rfl (Nat.le_of_ble_eq_true rfl) ⟨Nat.zero_le _, Nat.zero_le _⟩ dX11_of_1) hS (fun H locs hP hS hW q2 => ?_)
  cases r1 with
  | none =>
    have hf := mq_n rfl hf
    show W _ _ _ _ _ _ _ _ _ _ _ _ _ _ _ (F0 m 4 ls (.null :: []))
    refine lv_astore_nN (lv' := [(2, .null), (0, .ref a), (1, .int p0)]) hx hb dX11_of_4 rfl hl (by decide) rfl (fun ls hl => ?_)
    refine lv_aload_nN hx hb dX11_of_5 rfl (lv_at hl 0 rfl) ?_
    refine lv_ifnonnullN hx hb dX11_of_6 ?_
    refine lv_iconst (v := (-1)) hx hb dX11_of_9 rfl ?_
    cases hf
    exact x_reti C hP hS hW dX11_of_10
  | some t3 =>
    have hf := mq_s rfl hf
    obtain ⟨h_t3, k_t3⟩ := q2 _ rfl
    show W _ _ _ _ _ _ _ _ _ _ _ _ _ _ _ (F0 m 4 ls (.ref t3 :: []))
    refine lv_astore_n (lv' := [(2, .ref t3), (0, .ref a), (1, .int p0)]) hx hb dX11_of_4 rfl hl (by decide) rfl (fun ls hl => ?_)
    refine lv_aload_n hx hb dX11_of_5 rfl (lv_at hl 0 rfl) ?_
    refine lv_ifnonnull (tgt := 11) hx hb dX11_of_6 (by decide) ?_
    refine lv_iload_n hx hb dX11_of_11 rfl (lv_at hl 2 rfl) ?_
    refine lv_if_ne (tgt := 17) hx hb dX11_of_12 (by decide) (fun c4 => ?_) (fun c4 => ?_)
    · have hf := if_f c4 hf
      refine lv_iload_n hx hb dX11_of_17 rfl (lv_at hl 2 rfl) ?_
      refine lv_i2l hx hb dX11_of_18 rfl ?_
      obtain ⟨x5, ex5, hf⟩ := bnd_e hf
      refine nm_l ex5 ?_
      refine lv_lstore_n (lv' := [(3, .long x5), (2, .ref t3), (0, .ref a), (1, .int p0)]) hx hb dX11_of_19 rfl hl (by decide) rfl (fun ls hl => ?_)
      refine lv_aload_n hx hb dX11_of_20 rfl (lv_at hl 2 rfl) ?_
      refine gf_X11_19 C hP h_a k_a dX11_of_21 ?_
      obtain ⟨t6, et6, hf⟩ := bd1_e hf
      obtain ⟨h_t6, k_t6⟩ := wt_r hW h_a k_a (by decide) et6
      have k_t6 : G.2.1 t6 = 0 := k_t6
      rw [et6]
      refine lv_aload_n hx hb dX11_of_24 rfl (lv_at hl 1 rfl) ?_
      refine lv_aload_n hx hb dX11_of_25 rfl (lv_at hl 2 rfl) ?_
      refine gf_X11_40 C hP h_a k_a dX11_of_26 ?_
      obtain ⟨t7, et7, hf⟩ := bd1_e hf
      obtain ⟨h_t7, k_t7⟩ := wt_r hW h_a k_a (by decide) et7
      have k_t7 : G.2.1 t7 = 7 := k_t7
      rw [et7]
      refine gf_X11_193 C hP h_t7 k_t7 dX11_of_29 ?_
      refine lv_iload_n hx hb dX11_of_32 rfl (lv_at hl 3 rfl) ?_
      refine lv_if_ge (tgt := 40) hx hb dX11_of_33 (by decide) (fun c8 => ?_) (fun c8 => ?_)
      · have hf := if_t c8 hf
        refine lv_iconst (v := 0) hx hb dX11_of_40 rfl ?_
        exact b_X11_of_41 C a x5 t6 t3 (gI S 702 t7) 0 h_a k_a h_t6 k_t6 h_t3 k_t3 S H locs _ hf hP hS hW (lv_sub hl [2, 0] rfl)
      · have hf := if_f c8 hf
        refine lv_iconst (v := 1) hx hb dX11_of_36 rfl ?_
        refine lv_goto (tgt := 41) hx hb dX11_of_37 (by decide) ?_
        exact b_X11_of_41 C a x5 t6 t3 (gI S 702 t7) 1 h_a k_a h_t6 k_t6 h_t3 k_t3 S H locs _ hf hP hS hW (lv_sub hl [2, 0] rfl)
    · have hf := if_t c4 hf
      refine lv_iconst (v := 0) hx hb dX11_of_15 rfl ?_
      cases hf
      exact x_reti C hP hS hW dX11_of_16
def s_X11_off_J25 (F : Nat) (v1 : Int64) (v3 : Int64) (w0 : Int32) (w1 : Int64) (S : HS) : Option Int32 :=
  bd1 (s_X11_bitLength F w1 S) fun r3 =>
  bnd (w0 - r3 : Int32) fun x4 =>
  bd1 (s_X11_foretold F v1 v3 S) fun r5 =>
  some (x4 - r5)
def s_X11_off (F : Nat) (a : Nat) (p0 : Int64) (p1 : Int64) (S : HS) : Option Int32 :=
  bnd (p0 + p1 : Int64) fun x1 =>
  if (0 : Int32) ≤ (lg_cmp x1 (0 : Int64)) then
  s_X11_off_J25 F p0 p1 64 x1 S
  else
  s_X11_off_J25 F p0 p1 64 (x1 ^^^ (-1)) S
set_option maxRecDepth 100000 in
set_option maxHeartbeats 4000000 in
theorem b_X11_off_25 {p : Program} {l : Launch} {e : Env} {s : State} {m : MethodId} {args : Array Value} {below : List Frame} {meth : Method} {c : Code} {V : EV} {G : GS} {r : Int32} {F : Nat} (C : CX p s m args meth c RX11 cX11_off 8 (some .int) V G) : ∀ (v1 : Int64) (v3 : Int64) (w0 : Int32) (w1 : Int64) (S : HS) (H : Heap) (locs : List Loc) (ls : Array Slot), s_X11_off_J25 F v1 v3 w0 w1 S = some r → HP V G S H → va_S (AG G s.heap.size) s.heap H locs → WT G S → lv_has ls 8 [(1, .long v1), (3, .long v3)] → W p l e (RM 2 80) s m args below meth c H locs 0 0 (MQ below (QI V G S r s.heap.size) args s 0 0 (AG G s.heap.size)) (F0 m 25 ls [.long w1, .int w0]) := by
  intro v1 v3 w0 w1 S H locs ls hf hP hS hW hl
  have hx := C.1
  have hb := C.2.1
  unfold s_X11_off_J25 at hf
  obtain ⟨r3, er3, hf⟩ := bd1_e hf
  refine x_aft_i (x_runS (As := [.long w1]) (rest := [.int w0]) C hP hS (c_X11_bitLength (l := l) C.2.2.2.2.2.2.2.2.2.1 hW er3 H.size) km_X11_bitLength ks_X11_bitLength qm_X11_331 ⟨(Nat.le_of_ble_eq_true rfl), (Nat.le_of_ble_eq_true rfl)⟩ rfl hl.1 rfl (Nat.le_of_ble_eq_true rfl) ⟨Nat.zero_le _, Nat.zero_le _⟩ dX11_off_25) hS (fun H locs hP hS hW => ?_)
  refine lv_isub hx hb dX11_off_28 ?_
  obtain ⟨x4, ex4, hf⟩ := bnd_e hf
  refine nm_i ex4 ?_
  refine lv_istore (lv' := [(7, .int x4), (1, .long v1), (3, .long v3)]) hx hb dX11_off_29 hl (by decide) rfl (fun ls hl => ?_)
  refine lv_iload hx hb dX11_off_31 (lv_at hl 0 rfl) ?_
  refine lv_lload_n hx hb dX11_off_33 rfl (lv_at hl 1 rfl) ?_
  refine lv_lload_n hx hb dX11_off_34 rfl (lv_at hl 2 rfl) ?_
  obtain ⟨r5, er5, hf⟩ := bd1_e hf
  refine x_aft_i (x_runS (As := [.long v1, .long v3]) (rest := [.int x4]) C hP hS (c_X11_foretold (l := l) C.2.2.2.2.2.2.2.2.2.1 hW er5 H.size) km_X11_foretold ks_X11_foretold qm_X11_325 ⟨(Nat.le_of_ble_eq_true rfl), (Nat.le_of_ble_eq_true rfl)⟩ rfl hl.1 rfl (Nat.le_of_ble_eq_true rfl) ⟨Nat.zero_le _, Nat.zero_le _⟩ dX11_off_35) hS (fun H locs hP hS hW => ?_)
  refine lv_isub hx hb dX11_off_38 ?_
  cases hf
  exact x_reti C hP hS hW dX11_off_39
set_option maxRecDepth 100000 in
set_option maxHeartbeats 4000000 in
theorem c_X11_off {l : Launch} {V : EV} {G : GS} {S : HS} {F : Nat} {a : Nat} {p0 : Int64} {p1 : Int64} {r : Int32} (hN : G.1.Nodup) (hW : WT G S) (h_a : a ∈ G.1) (k_a : G.2.1 a = 11) (hf : s_X11_off F a p0 p1 S = some r) : MetI l yX11_off cX11_off 8 .int 2 80 V G S [.ref a, .long p0, .long p1] r S := by
  intro sz
  refine x_in RX11 rfl (by decide +kernel) hN (Nat.le_of_ble_eq_true rfl) (fun p e s m args below meth c ls hsz hargs hnm C hP hS hl => ?_)
  subst hsz
  have hx := C.1
  have hb := C.2.1
  have hl : lv_has ls 8 [(0, .ref a), (1, .long p0), (3, .long p1)] := hl
  unfold s_X11_off at hf
  refine lv_lload_n hx hb dX11_off_0 rfl (lv_at hl 1 rfl) ?_
  refine lv_lload_n hx hb dX11_off_1 rfl (lv_at hl 2 rfl) ?_
  refine lv_ladd hx hb dX11_off_2 ?_
  obtain ⟨x1, ex1, hf⟩ := bnd_e hf
  refine nm_l ex1 ?_
  refine lv_lstore (lv' := [(5, .long x1), (0, .ref a), (1, .long p0), (3, .long p1)]) hx hb dX11_off_3 hl (by decide) rfl (fun ls hl => ?_)
  refine lv_bipush (v := 64) hx hb dX11_off_5 kc_bipush_64 ?_
  refine lv_lload hx hb dX11_off_7 (lv_at hl 0 rfl) ?_
  refine lv_lconst (v := 0) hx hb dX11_off_9 rfl ?_
  refine W.lcmp hx hb dX11_off_10 ?_
  refine lv_if_ge (tgt := 23) hx hb dX11_off_11 (by decide) (fun c2 => ?_) (fun c2 => ?_)
  · have hf := if_t c2 hf
    refine lv_lload hx hb dX11_off_23 (lv_at hl 0 rfl) ?_
    exact b_X11_off_25 C p0 p1 64 x1 S s.heap [] _ hf hP hS hW (lv_sub hl [2, 3] rfl)
  · have hf := if_f c2 hf
    refine lv_lload hx hb dX11_off_14 (lv_at hl 0 rfl) ?_
    refine lv_ldc2 (v := (-1)) hx hb C.2.2.2.2.1 (C.2.2.2.2.2.1 _ qc_X11_329) dX11_off_16 ?_
    refine lv_lxor hx hb dX11_off_19 ?_
    refine lv_goto (tgt := 25) hx hb dX11_off_20 (by decide) ?_
    exact b_X11_off_25 C p0 p1 64 (x1 ^^^ (-1)) S s.heap [] _ hf hP hS hW (lv_sub hl [2, 3] rfl)
def s_X11_often (N : Nat → Nat) (a : Nat) (p0 : Int32) (S : HS) : Option Int32 :=
  bd1 (gR S 1102 a) fun t1 =>
  bd1 (s_X1_oftenAt N t1 p0 S) fun r2 =>
  some r2
set_option maxRecDepth 100000 in
set_option maxHeartbeats 4000000 in
theorem c_X11_often {l : Launch} {V : EV} {G : GS} {S : HS} {a : Nat} {p0 : Int32} {r : Int32} (hN : G.1.Nodup) (hW : WT G S) (h_a : a ∈ G.1) (k_a : G.2.1 a = 11) (hf : s_X11_often G.2.2 a p0 S = some r) : MetI l yX11_often cX11_often 2 .int 1 29 V G S [.ref a, .int p0] r S := by
  intro sz
  refine x_in RX11 rfl (by decide +kernel) hN (Nat.le_of_ble_eq_true rfl) (fun p e s m args below meth c ls hsz hargs hnm C hP hS hl => ?_)
  subst hsz
  have hx := C.1
  have hb := C.2.1
  have hl : lv_has ls 2 [(0, .ref a), (1, .int p0)] := hl
  unfold s_X11_often at hf
  refine lv_aload_n hx hb dX11_often_0 rfl (lv_at hl 0 rfl) ?_
  refine gf_X11_26 C hP h_a k_a dX11_often_1 ?_
  obtain ⟨t1, et1, hf⟩ := bd1_e hf
  obtain ⟨h_t1, k_t1⟩ := wt_r hW h_a k_a (by decide) et1
  have k_t1 : G.2.1 t1 = 1 := k_t1
  rw [et1]
  refine lv_iload_n hx hb dX11_often_4 rfl (lv_at hl 1 rfl) ?_
  obtain ⟨r2, er2, hf⟩ := bd1_e hf
  refine x_aft_i (x_runV (As := [.int p0]) (rest := []) C hP hS (c_X1_oftenAt (l := l) C.2.2.2.2.2.2.2.2.2.1 hW h_t1 k_t1 er2 s.heap.size) h_t1 k_t1 (by decide) rfl rfl km_X1_oftenAt ki_X1_oftenAt qm_X11_359 ⟨(Nat.le_of_ble_eq_true rfl), (Nat.le_of_ble_eq_true rfl)⟩ rfl hl.1 rfl (Nat.le_of_ble_eq_true rfl) ⟨Nat.zero_le _, Nat.zero_le _⟩ dX11_often_5) hS (fun H locs hP hS hW => ?_)
  cases hf
  exact x_reti C hP hS hW dX11_often_8
def s_X11_order (N : Nat → Nat) (a : Nat) (p0 : Int32) (p1 : Int32) (S : HS) : Option Int32 :=
  bd1 (s_X11_formHolding N a p0 S) fun r1 =>
  mq r1
  (some (-2))
  fun t3 =>
  if (s_X2_holds t3 p1 S) = (0 : Int32) then
  some (-2)
  else
  if (s_X2_isNan t3 p0 S) = (0 : Int32) then
  if (s_X2_isNan t3 p1 S) = (0 : Int32) then
  bnd (s_X2_rank t3 p0 S : Int32) fun x10 =>
  bnd (s_X2_rank t3 p1 S : Int32) fun x11 =>
  if x11 ≤ x10 then
  if x10 ≤ x11 then
  some 0
  else
  some 1
  else
  some (-1)
  else
  some 2
  else
  some 2
set_option maxRecDepth 100000 in
set_option maxHeartbeats 4000000 in
theorem c_X11_order {l : Launch} {V : EV} {G : GS} {S : HS} {a : Nat} {p0 : Int32} {p1 : Int32} {r : Int32} (hN : G.1.Nodup) (hW : WT G S) (h_a : a ∈ G.1) (k_a : G.2.1 a = 11) (hf : s_X11_order G.2.2 a p0 p1 S = some r) : MetI l yX11_order cX11_order 6 .int 3 87 V G S [.ref a, .int p0, .int p1] r S := by
  intro sz
  refine x_in RX11 rfl (by decide +kernel) hN (Nat.le_of_ble_eq_true rfl) (fun p e s m args below meth c ls hsz hargs hnm C hP hS hl => ?_)
  subst hsz
  have hx := C.1
  have hb := C.2.1
  have hl : lv_has ls 6 [(0, .ref a), (1, .int p0), (2, .int p1)] := hl
  unfold s_X11_order at hf
  refine lv_aload_n hx hb dX11_order_0 rfl (lv_at hl 0 rfl) ?_
  refine lv_iload_n hx hb dX11_order_1 rfl (lv_at hl 1 rfl) ?_
  obtain ⟨r1, er1, hf⟩ := bd1_e hf
  refine x_aft_r (x_runV (As := [.int p0]) (rest := []) C hP hS (c_X11_formHolding (l := l) C.2.2.2.2.2.2.2.2.2.1 hW h_a k_a er1 s.heap.size) h_a k_a (by decide) rfl rfl km_X11_formHolding ki_X11_formHolding qm_X11_235 ⟨(Nat.le_of_ble_eq_true rfl), (Nat.le_of_ble_eq_true rfl)⟩ rfl hl.1 rfl (Nat.le_of_ble_eq_true rfl) ⟨Nat.zero_le _, Nat.zero_le _⟩ dX11_order_2) hS (fun H locs hP hS hW q2 => ?_)
  cases r1 with
  | none =>
    have hf := mq_n rfl hf
    show W _ _ _ _ _ _ _ _ _ _ _ _ _ _ _ (F0 m 5 ls (.null :: []))
    refine lv_astore_nN (lv' := [(3, .null), (0, .ref a), (1, .int p0), (2, .int p1)]) hx hb dX11_order_5 rfl hl (by decide) rfl (fun ls hl => ?_)
    refine lv_aload_nN hx hb dX11_order_6 rfl (lv_at hl 0 rfl) ?_
    refine lv_ifnullN (tgt := 18) hx hb dX11_order_7 (by decide) ?_
    refine lv_bipush (v := (-2)) hx hb dX11_order_18 kc_bipush_m2 ?_
    cases hf
    exact x_reti C hP hS hW dX11_order_20
  | some t3 =>
    have hf := mq_s rfl hf
    obtain ⟨h_t3, k_t3⟩ := q2 _ rfl
    show W _ _ _ _ _ _ _ _ _ _ _ _ _ _ _ (F0 m 5 ls (.ref t3 :: []))
    refine lv_astore_n (lv' := [(3, .ref t3), (0, .ref a), (1, .int p0), (2, .int p1)]) hx hb dX11_order_5 rfl hl (by decide) rfl (fun ls hl => ?_)
    refine lv_aload_n hx hb dX11_order_6 rfl (lv_at hl 0 rfl) ?_
    refine lv_ifnull hx hb dX11_order_7 ?_
    refine lv_aload_n hx hb dX11_order_10 rfl (lv_at hl 0 rfl) ?_
    refine lv_iload_n hx hb dX11_order_11 rfl (lv_at hl 3 rfl) ?_
    refine x_aft_z (x_runV (As := [.int p1]) (rest := []) C hP hS (c_X2_holds (l := l) C.2.2.2.2.2.2.2.2.2.1 hW h_t3 k_t3 rfl H.size) h_t3 k_t3 (by decide) rfl rfl km_X2_holds ki_X2_holds qm_X11_174 ⟨(Nat.le_of_ble_eq_true rfl), (Nat.le_of_ble_eq_true rfl)⟩ rfl hl.1 rfl (Nat.le_of_ble_eq_true rfl) ⟨Nat.zero_le _, Nat.zero_le _⟩ dX11_order_12) hS (fun H locs hP hS hW z4 => ?_)
    refine lv_if_ne (tgt := 21) hx hb dX11_order_15 (by decide) (fun c5 => ?_) (fun c5 => ?_)
    · have hf := if_f c5 hf
      refine lv_aload_n hx hb dX11_order_21 rfl (lv_at hl 0 rfl) ?_
      refine lv_iload_n hx hb dX11_order_22 rfl (lv_at hl 2 rfl) ?_
      refine x_aft_z (x_runV (As := [.int p0]) (rest := []) C hP hS (c_X2_isNan (l := l) C.2.2.2.2.2.2.2.2.2.1 hW h_t3 k_t3 rfl H.size) h_t3 k_t3 (by decide) rfl rfl km_X2_isNan ki_X2_isNan qm_X11_241 ⟨(Nat.le_of_ble_eq_true rfl), (Nat.le_of_ble_eq_true rfl)⟩ rfl hl.1 rfl (Nat.le_of_ble_eq_true rfl) ⟨Nat.zero_le _, Nat.zero_le _⟩ dX11_order_23) hS (fun H locs hP hS hW z6 => ?_)
      refine lv_if_ne (tgt := 37) hx hb dX11_order_26 (by decide) (fun c7 => ?_) (fun c7 => ?_)
      · have hf := if_f c7 hf
        refine lv_iconst (v := 2) hx hb dX11_order_37 rfl ?_
        cases hf
        exact x_reti C hP hS hW dX11_order_38
      · have hf := if_t c7 hf
        refine lv_aload_n hx hb dX11_order_29 rfl (lv_at hl 0 rfl) ?_
        refine lv_iload_n hx hb dX11_order_30 rfl (lv_at hl 3 rfl) ?_
        refine x_aft_z (x_runV (As := [.int p1]) (rest := []) C hP hS (c_X2_isNan (l := l) C.2.2.2.2.2.2.2.2.2.1 hW h_t3 k_t3 rfl H.size) h_t3 k_t3 (by decide) rfl rfl km_X2_isNan ki_X2_isNan qm_X11_241 ⟨(Nat.le_of_ble_eq_true rfl), (Nat.le_of_ble_eq_true rfl)⟩ rfl hl.1 rfl (Nat.le_of_ble_eq_true rfl) ⟨Nat.zero_le _, Nat.zero_le _⟩ dX11_order_31) hS (fun H locs hP hS hW z8 => ?_)
        refine lv_if_eq (tgt := 39) hx hb dX11_order_34 (by decide) (fun c9 => ?_) (fun c9 => ?_)
        · have hf := if_t c9 hf
          refine lv_aload_n hx hb dX11_order_39 rfl (lv_at hl 0 rfl) ?_
          refine lv_iload_n hx hb dX11_order_40 rfl (lv_at hl 2 rfl) ?_
          refine x_aft_i (x_runV (As := [.int p0]) (rest := []) C hP hS (c_X2_rank (l := l) C.2.2.2.2.2.2.2.2.2.1 hW h_t3 k_t3 rfl H.size) h_t3 k_t3 (by decide) rfl rfl km_X2_rank ki_X2_rank qm_X11_244 ⟨(Nat.le_of_ble_eq_true rfl), (Nat.le_of_ble_eq_true rfl)⟩ rfl hl.1 rfl (Nat.le_of_ble_eq_true rfl) ⟨Nat.zero_le _, Nat.zero_le _⟩ dX11_order_41) hS (fun H locs hP hS hW => ?_)
          obtain ⟨x10, ex10, hf⟩ := bnd_e hf
          refine nm_i ex10 ?_
          refine lv_istore (lv' := [(4, .int x10), (3, .ref t3), (0, .ref a), (1, .int p0), (2, .int p1)]) hx hb dX11_order_44 hl (by decide) rfl (fun ls hl => ?_)
          refine lv_aload_n hx hb dX11_order_46 rfl (lv_at hl 1 rfl) ?_
          refine lv_iload_n hx hb dX11_order_47 rfl (lv_at hl 4 rfl) ?_
          refine x_aft_i (x_runV (As := [.int p1]) (rest := []) C hP hS (c_X2_rank (l := l) C.2.2.2.2.2.2.2.2.2.1 hW h_t3 k_t3 rfl H.size) h_t3 k_t3 (by decide) rfl rfl km_X2_rank ki_X2_rank qm_X11_244 ⟨(Nat.le_of_ble_eq_true rfl), (Nat.le_of_ble_eq_true rfl)⟩ rfl hl.1 rfl (Nat.le_of_ble_eq_true rfl) ⟨Nat.zero_le _, Nat.zero_le _⟩ dX11_order_48) hS (fun H locs hP hS hW => ?_)
          obtain ⟨x11, ex11, hf⟩ := bnd_e hf
          refine nm_i ex11 ?_
          refine lv_istore (lv' := [(5, .int x11), (4, .int x10), (3, .ref t3), (0, .ref a), (1, .int p0), (2, .int p1)]) hx hb dX11_order_51 hl (by decide) rfl (fun ls hl => ?_)
          refine lv_iload hx hb dX11_order_53 (lv_at hl 1 rfl) ?_
          refine lv_iload hx hb dX11_order_55 (lv_at hl 0 rfl) ?_
          refine lv_icmp_ge (tgt := 64) hx hb dX11_order_57 (by decide) (fun c12 => ?_) (fun c12 => ?_)
          · have hf := if_t c12 hf
            refine lv_iload hx hb dX11_order_64 (lv_at hl 1 rfl) ?_
            refine lv_iload hx hb dX11_order_66 (lv_at hl 0 rfl) ?_
            refine lv_icmp_le (tgt := 75) hx hb dX11_order_68 (by decide) (fun c13 => ?_) (fun c13 => ?_)
            · have hf := if_t c13 hf
              refine lv_iconst (v := 0) hx hb dX11_order_75 rfl ?_
              cases hf
              exact x_reti C hP hS hW dX11_order_76
            · have hf := if_f c13 hf
              refine lv_iconst (v := 1) hx hb dX11_order_71 rfl ?_
              refine lv_goto (tgt := 76) hx hb dX11_order_72 (by decide) ?_
              cases hf
              exact x_reti C hP hS hW dX11_order_76
          · have hf := if_f c12 hf
            refine lv_iconst (v := (-1)) hx hb dX11_order_60 rfl ?_
            refine lv_goto (tgt := 76) hx hb dX11_order_61 (by decide) ?_
            cases hf
            exact x_reti C hP hS hW dX11_order_76
        · have hf := if_f c9 hf
          refine lv_iconst (v := 2) hx hb dX11_order_37 rfl ?_
          cases hf
          exact x_reti C hP hS hW dX11_order_38
    · have hf := if_t c5 hf
      refine lv_bipush (v := (-2)) hx hb dX11_order_18 kc_bipush_m2 ?_
      cases hf
      exact x_reti C hP hS hW dX11_order_20
def s_X11_part (N : Nat → Nat) (a : Nat) (p0 : Int32) (p1 : Int32) (S : HS) : Option Int32 :=
  bd1 (s_X11_formHolding N a p0 S) fun r1 =>
  mq r1
  (some (-1))
  fun t3 =>
  if p1 = 0 then
  if (s_X2_isMinus t3 p0 S) = (0 : Int32) then
  some 0
  else
  some 1
  else
  if p1 = 1 then
  some (s_X2_exponent t3 p0 S)
  else
  if p1 = 2 then
  some (s_X2_fraction t3 p0 S)
  else
  some (-1)
set_option maxRecDepth 100000 in
set_option maxHeartbeats 4000000 in
theorem c_X11_part {l : Launch} {V : EV} {G : GS} {S : HS} {a : Nat} {p0 : Int32} {p1 : Int32} {r : Int32} (hN : G.1.Nodup) (hW : WT G S) (h_a : a ∈ G.1) (k_a : G.2.1 a = 11) (hf : s_X11_part G.2.2 a p0 p1 S = some r) : MetI l yX11_part cX11_part 4 .int 3 87 V G S [.ref a, .int p0, .int p1] r S := by
  intro sz
  refine x_in RX11 rfl (by decide +kernel) hN (Nat.le_of_ble_eq_true rfl) (fun p e s m args below meth c ls hsz hargs hnm C hP hS hl => ?_)
  subst hsz
  have hx := C.1
  have hb := C.2.1
  have hl : lv_has ls 4 [(0, .ref a), (1, .int p0), (2, .int p1)] := hl
  unfold s_X11_part at hf
  refine lv_aload_n hx hb dX11_part_0 rfl (lv_at hl 0 rfl) ?_
  refine lv_iload_n hx hb dX11_part_1 rfl (lv_at hl 1 rfl) ?_
  obtain ⟨r1, er1, hf⟩ := bd1_e hf
  refine x_aft_r (x_runV (As := [.int p0]) (rest := []) C hP hS (c_X11_formHolding (l := l) C.2.2.2.2.2.2.2.2.2.1 hW h_a k_a er1 s.heap.size) h_a k_a (by decide) rfl rfl km_X11_formHolding ki_X11_formHolding qm_X11_235 ⟨(Nat.le_of_ble_eq_true rfl), (Nat.le_of_ble_eq_true rfl)⟩ rfl hl.1 rfl (Nat.le_of_ble_eq_true rfl) ⟨Nat.zero_le _, Nat.zero_le _⟩ dX11_part_2) hS (fun H locs hP hS hW q2 => ?_)
  cases r1 with
  | none =>
    have hf := mq_n rfl hf
    show W _ _ _ _ _ _ _ _ _ _ _ _ _ _ _ (F0 m 5 ls (.null :: []))
    refine lv_astore_nN (lv' := [(3, .null), (0, .ref a), (1, .int p0), (2, .int p1)]) hx hb dX11_part_5 rfl hl (by decide) rfl (fun ls hl => ?_)
    refine lv_aload_nN hx hb dX11_part_6 rfl (lv_at hl 0 rfl) ?_
    refine lv_ifnonnullN hx hb dX11_part_7 ?_
    refine lv_iconst (v := (-1)) hx hb dX11_part_10 rfl ?_
    cases hf
    exact x_reti C hP hS hW dX11_part_11
  | some t3 =>
    have hf := mq_s rfl hf
    obtain ⟨h_t3, k_t3⟩ := q2 _ rfl
    show W _ _ _ _ _ _ _ _ _ _ _ _ _ _ _ (F0 m 5 ls (.ref t3 :: []))
    refine lv_astore_n (lv' := [(3, .ref t3), (0, .ref a), (1, .int p0), (2, .int p1)]) hx hb dX11_part_5 rfl hl (by decide) rfl (fun ls hl => ?_)
    refine lv_aload_n hx hb dX11_part_6 rfl (lv_at hl 0 rfl) ?_
    refine lv_ifnonnull (tgt := 12) hx hb dX11_part_7 (by decide) ?_
    refine lv_iload_n hx hb dX11_part_12 rfl (lv_at hl 3 rfl) ?_
    by_cases c4 : p1 = 0
    · have hf := if_t c4 hf
      refine lv_tableIn (tgt := 40) (off := 27) hx hb dX11_part_13 (by rw [c4]; decide) (by rw [c4]; decide) (by rw [c4]; rfl) (by decide) ?_
      refine lv_aload_n hx hb dX11_part_40 rfl (lv_at hl 0 rfl) ?_
      refine lv_iload_n hx hb dX11_part_41 rfl (lv_at hl 2 rfl) ?_
      refine x_aft_z (x_runV (As := [.int p0]) (rest := []) C hP hS (c_X2_isMinus (l := l) C.2.2.2.2.2.2.2.2.2.1 hW h_t3 k_t3 rfl H.size) h_t3 k_t3 (by decide) rfl rfl km_X2_isMinus ki_X2_isMinus qm_X11_253 ⟨(Nat.le_of_ble_eq_true rfl), (Nat.le_of_ble_eq_true rfl)⟩ rfl hl.1 rfl (Nat.le_of_ble_eq_true rfl) ⟨Nat.zero_le _, Nat.zero_le _⟩ dX11_part_42) hS (fun H locs hP hS hW z5 => ?_)
      refine lv_if_eq (tgt := 52) hx hb dX11_part_45 (by decide) (fun c6 => ?_) (fun c6 => ?_)
      · have hf := if_t c6 hf
        refine lv_iconst (v := 0) hx hb dX11_part_52 rfl ?_
        cases hf
        exact x_reti C hP hS hW dX11_part_53
      · have hf := if_f c6 hf
        refine lv_iconst (v := 1) hx hb dX11_part_48 rfl ?_
        refine lv_goto (tgt := 53) hx hb dX11_part_49 (by decide) ?_
        cases hf
        exact x_reti C hP hS hW dX11_part_53
    have hf := if_f c4 hf
    by_cases c7 : p1 = 1
    · have hf := if_t c7 hf
      refine lv_tableIn (tgt := 54) (off := 41) hx hb dX11_part_13 (by rw [c7]; decide) (by rw [c7]; decide) (by rw [c7]; rfl) (by decide) ?_
      refine lv_aload_n hx hb dX11_part_54 rfl (lv_at hl 0 rfl) ?_
      refine lv_iload_n hx hb dX11_part_55 rfl (lv_at hl 2 rfl) ?_
      refine x_aft_i (x_runV (As := [.int p0]) (rest := []) C hP hS (c_X2_exponent (l := l) C.2.2.2.2.2.2.2.2.2.1 hW h_t3 k_t3 rfl H.size) h_t3 k_t3 (by decide) rfl rfl km_X2_exponent ki_X2_exponent qm_X11_256 ⟨(Nat.le_of_ble_eq_true rfl), (Nat.le_of_ble_eq_true rfl)⟩ rfl hl.1 rfl (Nat.le_of_ble_eq_true rfl) ⟨Nat.zero_le _, Nat.zero_le _⟩ dX11_part_56) hS (fun H locs hP hS hW => ?_)
      cases hf
      exact x_reti C hP hS hW dX11_part_59
    have hf := if_f c7 hf
    by_cases c8 : p1 = 2
    · have hf := if_t c8 hf
      refine lv_tableIn (tgt := 60) (off := 47) hx hb dX11_part_13 (by rw [c8]; decide) (by rw [c8]; decide) (by rw [c8]; rfl) (by decide) ?_
      refine lv_aload_n hx hb dX11_part_60 rfl (lv_at hl 0 rfl) ?_
      refine lv_iload_n hx hb dX11_part_61 rfl (lv_at hl 2 rfl) ?_
      refine x_aft_i (x_runV (As := [.int p0]) (rest := []) C hP hS (c_X2_fraction (l := l) C.2.2.2.2.2.2.2.2.2.1 hW h_t3 k_t3 rfl H.size) h_t3 k_t3 (by decide) rfl rfl km_X2_fraction ki_X2_fraction qm_X11_259 ⟨(Nat.le_of_ble_eq_true rfl), (Nat.le_of_ble_eq_true rfl)⟩ rfl hl.1 rfl (Nat.le_of_ble_eq_true rfl) ⟨Nat.zero_le _, Nat.zero_le _⟩ dX11_part_62) hS (fun H locs hP hS hW => ?_)
      cases hf
      exact x_reti C hP hS hW dX11_part_65
    have hf := if_f c8 hf
    refine lv_tableOut (tgt := 66) hx hb dX11_part_13 (sw_out (fun k h1 h2 e9 => by
      rcases (show k = 0 ∨ k = 1 ∨ k = 2 by omega) with rfl | rfl | rfl
      · exact c4 e9
      · exact c7 e9
      · exact c8 e9
      )) (by decide) ?_
    refine lv_iconst (v := (-1)) hx hb dX11_part_66 rfl ?_
    cases hf
    exact x_reti C hP hS hW dX11_part_67
def s_X11_plans_J162 (N : Nat → Nat) (F : Nat) (k79 : Nat → Int32 → Int32 → Nat → Int32 → Int32 → HS → Option (Int32 × HS)) (v0 : Nat) (v2 : Int32) (v3 : Int32) (v4 : Nat) (v5 : Int32) (v6 : Int32) (S : HS) : Option (Int32 × HS) :=
  bd1 (gR S 1105 v0) fun t33 =>
  bd2 (s_X11_draw v0 6 S) fun r34 S35 =>
  bnd (uI S35 702 t33 r34) fun S36 =>
  bnd (v6 + Int32.ofInt 1 : Int32) fun x37 =>
  k79 v0 v2 v3 v4 v5 x37 S36
def s_X11_plans_L79 (N : Nat → Nat) (F : Nat) (k181 : Nat → Int32 → Nat → Int32 → HS → Option (Int32 × HS)) : Nat → Nat → Int32 → Int32 → Nat → Int32 → Int32 → HS → Option (Int32 × HS)
  | 0, _, _, _, _, _, _, _ => none
  | n + 1, v0, v2, v3, v4, v5, v6, S => if v2 ≤ v6 then
  k181 v0 v3 v4 v5 S
  else
  bd1 (gR S 1111 v0) fun t17 =>
  bd2 (s_X11_draw v0 (gI S 904 t17) S) fun r18 S19 =>
  bd1 (gR S19 1111 v0) fun t20 =>
  bd2 (s_X11_draw v0 (gI S19 904 t20) S19) fun r21 S22 =>
  bd1 (gR S22 1111 v0) fun t23 =>
  bd2 (s_X11_draw v0 (gI S22 904 t23) S22) fun r24 S25 =>
  bd1 (gR S25 1111 v0) fun t26 =>
  bd2 (s_X11_draw v0 (gI S25 904 t26) S25) fun r27 S28 =>
  bd1 (gR S28 1105 v0) fun t29 =>
  bd2 (s_X11_fuse N F v0 t29 r18 r21 r24 r27 S28) fun r30 S31 =>
  if (r30 &&& 8) = (0 : Int32) then
  s_X11_plans_J162 N F (s_X11_plans_L79 N F k181 n) v0 v2 v3 v4 v5 v6 S31
  else
  bnd (v5 + Int32.ofInt 1 : Int32) fun x38 =>
  s_X11_plans_J162 N F (s_X11_plans_L79 N F k181 n) v0 v2 v3 v4 x38 v6 S31
def s_X11_plans_J181 (N : Nat → Nat) (F : Nat) (v0 : Nat) (v3 : Int32) (v4 : Nat) (v5 : Int32) (S : HS) : Option (Int32 × HS) :=
  if v3 = (0 : Int32) then
  bd1 (gR S 1105 v0) fun t42 =>
  some (gI S 703 t42, S)
  else
  if v3 = (1 : Int32) then
  bd1 (s_X11_nansOnTrial N F v0 v4 S) fun r41 =>
  some (r41, S)
  else
  some (v5, S)
def s_X11_plans (N : Nat → Nat) (F : Nat) (a : Nat) (p0 : Int32) (p1 : Int32) (p2 : Int32) (S : HS) : Option (Int32 × HS) :=
  bd1 (s_X11_formInUse N a S) fun r1 =>
  mq r1
  (some ((-1), S))
  fun t3 =>
  bd1 (gR S 1111 a) fun t4 =>
  if (gI S 904 t4) = (0 : Int32) then
  some ((-1), S)
  else
  if p0 < (0 : Int32) then
  some ((-1), S)
  else
  if p0 ≤ (9999 : Int32) then
  if p1 < (1 : Int32) then
  some ((-1), S)
  else
  if (99 : Int32) < p1 then
  some ((-1), S)
  else
  if p2 < (0 : Int32) then
  some ((-1), S)
  else
  if p2 ≤ (2 : Int32) then
  bd1 (gR S 1105 a) fun t12 =>
  bd1 (gR S 1104 a) fun t13 =>
  bd1 (s_X7_copy N F t12 t13 S) fun S14 =>
  bnd (uJ S14 1116 a p0.toInt64) fun S15 =>
  s_X11_plans_L79 N F (s_X11_plans_J181 N F) F a p1 p2 t3 0 0 S15
  else
  some ((-1), S)
  else
  some ((-1), S)
set_option maxRecDepth 100000 in
set_option maxHeartbeats 4000000 in
theorem b_X11_plans_162 {p : Program} {l : Launch} {e : Env} {s : State} {m : MethodId} {args : Array Value} {below : List Frame} {meth : Method} {c : Code} {V : EV} {G : GS} {r : Int32} {S' : HS} {F : Nat} (C : CX p s m args meth c RX11 cX11_plans 11 (some .int) V G) {k79 : Nat → Int32 → Int32 → Nat → Int32 → Int32 → HS → Option (Int32 × HS)} (hk79 : ∀ (v0 : Nat) (v2 : Int32) (v3 : Int32) (v4 : Nat) (v5 : Int32) (v6 : Int32) (h_v0 : v0 ∈ G.1) (k_v0 : G.2.1 v0 = 11) (h_v4 : v4 ∈ G.1) (k_v4 : G.2.1 v4 = 2) (S : HS) (H : Heap) (locs : List Loc) (ls : Array Slot), k79 v0 v2 v3 v4 v5 v6 S = some (r, S') → HP V G S H → va_S (AG G s.heap.size) s.heap H locs → WT G S → lv_has ls 11 [(0, .ref v0), (2, .int v2), (3, .int v3), (4, .ref v4), (5, .int v5), (6, .int v6)] → W p l e (RM 6 206) s m args below meth c H locs 0 0 (MQ below (QI V G S' r s.heap.size) args s 0 0 (AG G s.heap.size)) (F0 m 79 ls [])) : ∀ (v0 : Nat) (v2 : Int32) (v3 : Int32) (v4 : Nat) (v5 : Int32) (v6 : Int32) (h_v0 : v0 ∈ G.1) (k_v0 : G.2.1 v0 = 11) (h_v4 : v4 ∈ G.1) (k_v4 : G.2.1 v4 = 2) (S : HS) (H : Heap) (locs : List Loc) (ls : Array Slot), s_X11_plans_J162 G.2.2 F k79 v0 v2 v3 v4 v5 v6 S = some (r, S') → HP V G S H → va_S (AG G s.heap.size) s.heap H locs → WT G S → lv_has ls 11 [(0, .ref v0), (2, .int v2), (3, .int v3), (4, .ref v4), (5, .int v5), (6, .int v6)] → W p l e (RM 6 206) s m args below meth c H locs 0 0 (MQ below (QI V G S' r s.heap.size) args s 0 0 (AG G s.heap.size)) (F0 m 162 ls []) := by
  intro v0 v2 v3 v4 v5 v6 h_v0 k_v0 h_v4 k_v4 S H locs ls hf hP hS hW hl
  have hx := C.1
  have hb := C.2.1
  unfold s_X11_plans_J162 at hf
  refine lv_aload_n hx hb dX11_plans_162 rfl (lv_at hl 0 rfl) ?_
  refine gf_X11_44 C hP h_v0 k_v0 dX11_plans_163 ?_
  obtain ⟨t33, et33, hf⟩ := bd1_e hf
  obtain ⟨h_t33, k_t33⟩ := wt_r hW h_v0 k_v0 (by decide) et33
  have k_t33 : G.2.1 t33 = 7 := k_t33
  rw [et33]
  refine lv_aload_n hx hb dX11_plans_166 rfl (lv_at hl 0 rfl) ?_
  refine lv_bipush (v := 6) hx hb dX11_plans_167 kc_bipush_6 ?_
  obtain ⟨r34, S35, eS35, hf⟩ := bd2_e hf
  refine x_aft_i (x_runV (As := [.int 6]) (rest := [.ref t33]) C hP hS (c_X11_draw (l := l) C.2.2.2.2.2.2.2.2.2.1 hW h_v0 k_v0 eS35 H.size) h_v0 k_v0 (by decide) rfl rfl km_X11_draw ki_X11_draw qm_X11_380 ⟨(Nat.le_of_ble_eq_true rfl), (Nat.le_of_ble_eq_true rfl)⟩ rfl hl.1 rfl (Nat.le_of_ble_eq_true rfl) ⟨Nat.zero_le _, Nat.zero_le _⟩ dX11_plans_169) hS (fun H locs hP hS hW => ?_)
  obtain ⟨S36, eS36, hf⟩ := bnd_e hf
  refine pf_X11_193 C hP hS h_t33 k_t33 eS36 dX11_plans_172 (fun H locs hP hS => ?_)
  have hW : WT G S36 := by rw [eS36]; exact hW
  obtain ⟨x37, ex37, hf⟩ := bnd_e hf
  refine lv_iinc (v := x37) (lv' := [(6, .int x37), (0, .ref v0), (2, .int v2), (3, .int v3), (4, .ref v4), (5, .int v5)]) hx hb dX11_plans_175 hl (k := 5) rfl ex37.symm (by decide) rfl (fun ls hl => ?_)
  refine lv_goto (tgt := 79) hx hb dX11_plans_178 (by decide) ?_
  exact hk79 v0 v2 v3 v4 v5 x37 h_v0 k_v0 h_v4 k_v4 S36 H locs _ hf hP hS hW (lv_sub hl [1, 2, 3, 4, 5, 0] rfl)
set_option maxRecDepth 100000 in
set_option maxHeartbeats 4000000 in
theorem b_X11_plans_79 {p : Program} {l : Launch} {e : Env} {s : State} {m : MethodId} {args : Array Value} {below : List Frame} {meth : Method} {c : Code} {V : EV} {G : GS} {r : Int32} {S' : HS} {F : Nat} (C : CX p s m args meth c RX11 cX11_plans 11 (some .int) V G) {k181 : Nat → Int32 → Nat → Int32 → HS → Option (Int32 × HS)} (hk181 : ∀ (v0 : Nat) (v3 : Int32) (v4 : Nat) (v5 : Int32) (h_v0 : v0 ∈ G.1) (k_v0 : G.2.1 v0 = 11) (h_v4 : v4 ∈ G.1) (k_v4 : G.2.1 v4 = 2) (S : HS) (H : Heap) (locs : List Loc) (ls : Array Slot), k181 v0 v3 v4 v5 S = some (r, S') → HP V G S H → va_S (AG G s.heap.size) s.heap H locs → WT G S → lv_has ls 11 [(0, .ref v0), (3, .int v3), (4, .ref v4), (5, .int v5)] → W p l e (RM 6 206) s m args below meth c H locs 0 0 (MQ below (QI V G S' r s.heap.size) args s 0 0 (AG G s.heap.size)) (F0 m 181 ls [])) : ∀ n : Nat, ∀ (v0 : Nat) (v2 : Int32) (v3 : Int32) (v4 : Nat) (v5 : Int32) (v6 : Int32) (h_v0 : v0 ∈ G.1) (k_v0 : G.2.1 v0 = 11) (h_v4 : v4 ∈ G.1) (k_v4 : G.2.1 v4 = 2) (S : HS) (H : Heap) (locs : List Loc) (ls : Array Slot), s_X11_plans_L79 G.2.2 F k181 n v0 v2 v3 v4 v5 v6 S = some (r, S') → HP V G S H → va_S (AG G s.heap.size) s.heap H locs → WT G S → lv_has ls 11 [(0, .ref v0), (2, .int v2), (3, .int v3), (4, .ref v4), (5, .int v5), (6, .int v6)] → W p l e (RM 6 206) s m args below meth c H locs 0 0 (MQ below (QI V G S' r s.heap.size) args s 0 0 (AG G s.heap.size)) (F0 m 79 ls []) := by
  intro n
  induction n with
  | zero =>
    intro v0 v2 v3 v4 v5 v6 h_v0 k_v0 h_v4 k_v4 S H locs ls hf
    rw [s_X11_plans_L79] at hf
    cases hf
  | succ n ih =>
    intro v0 v2 v3 v4 v5 v6 h_v0 k_v0 h_v4 k_v4 S H locs ls hf hP hS hW hl
    have hx := C.1
    have hb := C.2.1
    rw [s_X11_plans_L79] at hf
    refine lv_iload hx hb dX11_plans_79 (lv_at hl 5 rfl) ?_
    refine lv_iload_n hx hb dX11_plans_81 rfl (lv_at hl 1 rfl) ?_
    refine lv_icmp_ge (tgt := 181) hx hb dX11_plans_82 (by decide) (fun c16 => ?_) (fun c16 => ?_)
    · have hf := if_t c16 hf
      exact hk181 v0 v3 v4 v5 h_v0 k_v0 h_v4 k_v4 S H locs _ hf hP hS hW (lv_sub hl [0, 2, 3, 4] rfl)
    · have hf := if_f c16 hf
      refine lv_aload_n hx hb dX11_plans_85 rfl (lv_at hl 0 rfl) ?_
      refine lv_aload_n hx hb dX11_plans_86 rfl (lv_at hl 0 rfl) ?_
      refine gf_X11_68 C hP h_v0 k_v0 dX11_plans_87 ?_
      obtain ⟨t17, et17, hf⟩ := bd1_e hf
      obtain ⟨h_t17, k_t17⟩ := wt_r hW h_v0 k_v0 (by decide) et17
      have k_t17 : G.2.1 t17 = 9 := k_t17
      rw [et17]
      refine gf_X11_319 C hP h_t17 k_t17 dX11_plans_90 ?_
      obtain ⟨r18, S19, eS19, hf⟩ := bd2_e hf
      refine x_aft_i (x_runV (As := [.int (gI S 904 t17)]) (rest := []) C hP hS (c_X11_draw (l := l) C.2.2.2.2.2.2.2.2.2.1 hW h_v0 k_v0 eS19 H.size) h_v0 k_v0 (by decide) rfl rfl km_X11_draw ki_X11_draw qm_X11_380 ⟨(Nat.le_of_ble_eq_true rfl), (Nat.le_of_ble_eq_true rfl)⟩ rfl hl.1 rfl (Nat.le_of_ble_eq_true rfl) ⟨Nat.zero_le _, Nat.zero_le _⟩ dX11_plans_93) hS (fun H locs hP hS hW => ?_)
      refine lv_istore (lv' := [(7, .int r18), (0, .ref v0), (2, .int v2), (3, .int v3), (4, .ref v4), (5, .int v5), (6, .int v6)]) hx hb dX11_plans_96 hl (by decide) rfl (fun ls hl => ?_)
      refine lv_aload_n hx hb dX11_plans_98 rfl (lv_at hl 1 rfl) ?_
      refine lv_aload_n hx hb dX11_plans_99 rfl (lv_at hl 1 rfl) ?_
      refine gf_X11_68 C hP h_v0 k_v0 dX11_plans_100 ?_
      obtain ⟨t20, et20, hf⟩ := bd1_e hf
      obtain ⟨h_t20, k_t20⟩ := wt_r hW h_v0 k_v0 (by decide) et20
      have k_t20 : G.2.1 t20 = 9 := k_t20
      rw [et20]
      refine gf_X11_319 C hP h_t20 k_t20 dX11_plans_103 ?_
      obtain ⟨r21, S22, eS22, hf⟩ := bd2_e hf
      refine x_aft_i (x_runV (As := [.int (gI S19 904 t20)]) (rest := []) C hP hS (c_X11_draw (l := l) C.2.2.2.2.2.2.2.2.2.1 hW h_v0 k_v0 eS22 H.size) h_v0 k_v0 (by decide) rfl rfl km_X11_draw ki_X11_draw qm_X11_380 ⟨(Nat.le_of_ble_eq_true rfl), (Nat.le_of_ble_eq_true rfl)⟩ rfl hl.1 rfl (Nat.le_of_ble_eq_true rfl) ⟨Nat.zero_le _, Nat.zero_le _⟩ dX11_plans_106) hS (fun H locs hP hS hW => ?_)
      refine lv_istore (lv' := [(8, .int r21), (7, .int r18), (0, .ref v0), (2, .int v2), (3, .int v3), (4, .ref v4), (5, .int v5), (6, .int v6)]) hx hb dX11_plans_109 hl (by decide) rfl (fun ls hl => ?_)
      refine lv_aload_n hx hb dX11_plans_111 rfl (lv_at hl 2 rfl) ?_
      refine lv_aload_n hx hb dX11_plans_112 rfl (lv_at hl 2 rfl) ?_
      refine gf_X11_68 C hP h_v0 k_v0 dX11_plans_113 ?_
      obtain ⟨t23, et23, hf⟩ := bd1_e hf
      obtain ⟨h_t23, k_t23⟩ := wt_r hW h_v0 k_v0 (by decide) et23
      have k_t23 : G.2.1 t23 = 9 := k_t23
      rw [et23]
      refine gf_X11_319 C hP h_t23 k_t23 dX11_plans_116 ?_
      obtain ⟨r24, S25, eS25, hf⟩ := bd2_e hf
      refine x_aft_i (x_runV (As := [.int (gI S22 904 t23)]) (rest := []) C hP hS (c_X11_draw (l := l) C.2.2.2.2.2.2.2.2.2.1 hW h_v0 k_v0 eS25 H.size) h_v0 k_v0 (by decide) rfl rfl km_X11_draw ki_X11_draw qm_X11_380 ⟨(Nat.le_of_ble_eq_true rfl), (Nat.le_of_ble_eq_true rfl)⟩ rfl hl.1 rfl (Nat.le_of_ble_eq_true rfl) ⟨Nat.zero_le _, Nat.zero_le _⟩ dX11_plans_119) hS (fun H locs hP hS hW => ?_)
      refine lv_istore (lv' := [(9, .int r24), (8, .int r21), (7, .int r18), (0, .ref v0), (2, .int v2), (3, .int v3), (4, .ref v4), (5, .int v5), (6, .int v6)]) hx hb dX11_plans_122 hl (by decide) rfl (fun ls hl => ?_)
      refine lv_aload_n hx hb dX11_plans_124 rfl (lv_at hl 3 rfl) ?_
      refine lv_aload_n hx hb dX11_plans_125 rfl (lv_at hl 3 rfl) ?_
      refine gf_X11_68 C hP h_v0 k_v0 dX11_plans_126 ?_
      obtain ⟨t26, et26, hf⟩ := bd1_e hf
      obtain ⟨h_t26, k_t26⟩ := wt_r hW h_v0 k_v0 (by decide) et26
      have k_t26 : G.2.1 t26 = 9 := k_t26
      rw [et26]
      refine gf_X11_319 C hP h_t26 k_t26 dX11_plans_129 ?_
      obtain ⟨r27, S28, eS28, hf⟩ := bd2_e hf
      refine x_aft_i (x_runV (As := [.int (gI S25 904 t26)]) (rest := []) C hP hS (c_X11_draw (l := l) C.2.2.2.2.2.2.2.2.2.1 hW h_v0 k_v0 eS28 H.size) h_v0 k_v0 (by decide) rfl rfl km_X11_draw ki_X11_draw qm_X11_380 ⟨(Nat.le_of_ble_eq_true rfl), (Nat.le_of_ble_eq_true rfl)⟩ rfl hl.1 rfl (Nat.le_of_ble_eq_true rfl) ⟨Nat.zero_le _, Nat.zero_le _⟩ dX11_plans_132) hS (fun H locs hP hS hW => ?_)
      refine lv_istore (lv' := [(10, .int r27), (9, .int r24), (8, .int r21), (7, .int r18), (0, .ref v0), (2, .int v2), (3, .int v3), (4, .ref v4), (5, .int v5), (6, .int v6)]) hx hb dX11_plans_135 hl (by decide) rfl (fun ls hl => ?_)
      refine lv_aload_n hx hb dX11_plans_137 rfl (lv_at hl 4 rfl) ?_
      refine lv_aload_n hx hb dX11_plans_138 rfl (lv_at hl 4 rfl) ?_
      refine gf_X11_44 C hP h_v0 k_v0 dX11_plans_139 ?_
      obtain ⟨t29, et29, hf⟩ := bd1_e hf
      obtain ⟨h_t29, k_t29⟩ := wt_r hW h_v0 k_v0 (by decide) et29
      have k_t29 : G.2.1 t29 = 7 := k_t29
      rw [et29]
      refine lv_iload hx hb dX11_plans_142 (lv_at hl 3 rfl) ?_
      refine lv_iload hx hb dX11_plans_144 (lv_at hl 2 rfl) ?_
      refine lv_iload hx hb dX11_plans_146 (lv_at hl 1 rfl) ?_
      refine lv_iload hx hb dX11_plans_148 (lv_at hl 0 rfl) ?_
      obtain ⟨r30, S31, eS31, hf⟩ := bd2_e hf
      refine x_aft_i (x_runV (As := [.ref t29, .int r18, .int r21, .int r24, .int r27]) (rest := []) C hP hS (c_X11_fuse (l := l) C.2.2.2.2.2.2.2.2.2.1 hW h_v0 k_v0 h_t29 k_t29 eS31 H.size) h_v0 k_v0 (by decide) rfl rfl km_X11_fuse ki_X11_fuse qm_X11_189 ⟨(Nat.le_of_ble_eq_true rfl), (Nat.le_of_ble_eq_true rfl)⟩ rfl hl.1 rfl (Nat.le_of_ble_eq_true rfl) ⟨Nat.zero_le _, Nat.zero_le _⟩ dX11_plans_150) hS (fun H locs hP hS hW => ?_)
      refine lv_bipush (v := 8) hx hb dX11_plans_153 kc_bipush_8 ?_
      refine lv_iand hx hb dX11_plans_155 ?_
      refine lv_if_eq (tgt := 162) hx hb dX11_plans_156 (by decide) (fun c32 => ?_) (fun c32 => ?_)
      · have hf := if_t c32 hf
        exact b_X11_plans_162 C ih v0 v2 v3 v4 v5 v6 h_v0 k_v0 h_v4 k_v4 S31 H locs _ hf hP hS hW (lv_sub hl [4, 5, 6, 7, 8, 9] rfl)
      · have hf := if_f c32 hf
        obtain ⟨x38, ex38, hf⟩ := bnd_e hf
        refine lv_iinc (v := x38) (lv' := [(5, .int x38), (10, .int r27), (9, .int r24), (8, .int r21), (7, .int r18), (0, .ref v0), (2, .int v2), (3, .int v3), (4, .ref v4), (6, .int v6)]) hx hb dX11_plans_159 hl (k := 8) rfl ex38.symm (by decide) rfl (fun ls hl => ?_)
        exact b_X11_plans_162 C ih v0 v2 v3 v4 x38 v6 h_v0 k_v0 h_v4 k_v4 S31 H locs _ hf hP hS hW (lv_sub hl [5, 6, 7, 8, 0, 9] rfl)
set_option maxRecDepth 100000 in
set_option maxHeartbeats 4000000 in
theorem b_X11_plans_181 {p : Program} {l : Launch} {e : Env} {s : State} {m : MethodId} {args : Array Value} {below : List Frame} {meth : Method} {c : Code} {V : EV} {G : GS} {r : Int32} {S' : HS} {F : Nat} (C : CX p s m args meth c RX11 cX11_plans 11 (some .int) V G) : ∀ (v0 : Nat) (v3 : Int32) (v4 : Nat) (v5 : Int32) (h_v0 : v0 ∈ G.1) (k_v0 : G.2.1 v0 = 11) (h_v4 : v4 ∈ G.1) (k_v4 : G.2.1 v4 = 2) (S : HS) (H : Heap) (locs : List Loc) (ls : Array Slot), s_X11_plans_J181 G.2.2 F v0 v3 v4 v5 S = some (r, S') → HP V G S H → va_S (AG G s.heap.size) s.heap H locs → WT G S → lv_has ls 11 [(0, .ref v0), (3, .int v3), (4, .ref v4), (5, .int v5)] → W p l e (RM 6 206) s m args below meth c H locs 0 0 (MQ below (QI V G S' r s.heap.size) args s 0 0 (AG G s.heap.size)) (F0 m 181 ls []) := by
  intro v0 v3 v4 v5 h_v0 k_v0 h_v4 k_v4 S H locs ls hf hP hS hW hl
  have hx := C.1
  have hb := C.2.1
  unfold s_X11_plans_J181 at hf
  refine lv_iload_n hx hb dX11_plans_181 rfl (lv_at hl 1 rfl) ?_
  refine lv_if_ne (tgt := 195) hx hb dX11_plans_182 (by decide) (fun c39 => ?_) (fun c39 => ?_)
  · have hf := if_f c39 hf
    refine lv_iload_n hx hb dX11_plans_195 rfl (lv_at hl 1 rfl) ?_
    refine lv_iconst (v := 1) hx hb dX11_plans_196 rfl ?_
    refine lv_icmp_ne (tgt := 209) hx hb dX11_plans_197 (by decide) (fun c40 => ?_) (fun c40 => ?_)
    · have hf := if_f c40 hf
      refine lv_iload hx hb dX11_plans_209 (lv_at hl 3 rfl) ?_
      cases hf
      exact x_reti C hP hS hW dX11_plans_211
    · have hf := if_t c40 hf
      refine lv_aload_n hx hb dX11_plans_200 rfl (lv_at hl 0 rfl) ?_
      refine lv_aload hx hb dX11_plans_201 (lv_at hl 2 rfl) ?_
      obtain ⟨r41, er41, hf⟩ := bd1_e hf
      refine x_aft_i (x_runV (As := [.ref v4]) (rest := []) C hP hS (c_X11_nansOnTrial (l := l) C.2.2.2.2.2.2.2.2.2.1 hW h_v0 k_v0 h_v4 k_v4 er41 H.size) h_v0 k_v0 (by decide) rfl rfl km_X11_nansOnTrial ki_X11_nansOnTrial qm_X11_383 ⟨(Nat.le_of_ble_eq_true rfl), (Nat.le_of_ble_eq_true rfl)⟩ rfl hl.1 rfl (Nat.le_of_ble_eq_true rfl) ⟨Nat.zero_le _, Nat.zero_le _⟩ dX11_plans_203) hS (fun H locs hP hS hW => ?_)
      refine lv_goto (tgt := 211) hx hb dX11_plans_206 (by decide) ?_
      cases hf
      exact x_reti C hP hS hW dX11_plans_211
  · have hf := if_t c39 hf
    refine lv_aload_n hx hb dX11_plans_185 rfl (lv_at hl 0 rfl) ?_
    refine gf_X11_44 C hP h_v0 k_v0 dX11_plans_186 ?_
    obtain ⟨t42, et42, hf⟩ := bd1_e hf
    obtain ⟨h_t42, k_t42⟩ := wt_r hW h_v0 k_v0 (by decide) et42
    have k_t42 : G.2.1 t42 = 7 := k_t42
    rw [et42]
    refine gf_X11_210 C hP h_t42 k_t42 dX11_plans_189 ?_
    refine lv_goto (tgt := 211) hx hb dX11_plans_192 (by decide) ?_
    cases hf
    exact x_reti C hP hS hW dX11_plans_211
set_option maxRecDepth 100000 in
set_option maxHeartbeats 4000000 in
theorem c_X11_plans {l : Launch} {V : EV} {G : GS} {S : HS} {F : Nat} {a : Nat} {p0 : Int32} {p1 : Int32} {p2 : Int32} {r : Int32} {S' : HS} (hN : G.1.Nodup) (hW : WT G S) (h_a : a ∈ G.1) (k_a : G.2.1 a = 11) (hf : s_X11_plans G.2.2 F a p0 p1 p2 S = some (r, S')) : MetI l yX11_plans cX11_plans 11 .int 6 206 V G S [.ref a, .int p0, .int p1, .int p2] r S' := by
  intro sz
  refine x_in RX11 rfl (by decide +kernel) hN (Nat.le_of_ble_eq_true rfl) (fun p e s m args below meth c ls hsz hargs hnm C hP hS hl => ?_)
  subst hsz
  have hx := C.1
  have hb := C.2.1
  have hl : lv_has ls 11 [(0, .ref a), (1, .int p0), (2, .int p1), (3, .int p2)] := hl
  unfold s_X11_plans at hf
  refine lv_aload_n hx hb dX11_plans_0 rfl (lv_at hl 0 rfl) ?_
  obtain ⟨r1, er1, hf⟩ := bd1_e hf
  refine x_aft_r (x_runV (As := []) (rest := []) C hP hS (c_X11_formInUse (l := l) C.2.2.2.2.2.2.2.2.2.1 hW h_a k_a er1 s.heap.size) h_a k_a (by decide) rfl rfl km_X11_formInUse ki_X11_formInUse qm_X11_162 ⟨(Nat.le_of_ble_eq_true rfl), (Nat.le_of_ble_eq_true rfl)⟩ rfl hl.1 rfl (Nat.le_of_ble_eq_true rfl) ⟨Nat.zero_le _, Nat.zero_le _⟩ dX11_plans_1) hS (fun H locs hP hS hW q2 => ?_)
  cases r1 with
  | none =>
    have hf := mq_n rfl hf
    show W _ _ _ _ _ _ _ _ _ _ _ _ _ _ _ (F0 m 4 ls (.null :: []))
    refine lv_astoreN (lv' := [(4, .null), (0, .ref a), (1, .int p0), (2, .int p1), (3, .int p2)]) hx hb dX11_plans_4 hl (by decide) rfl (fun ls hl => ?_)
    refine lv_aloadN hx hb dX11_plans_6 (lv_at hl 0 rfl) ?_
    refine lv_ifnullN (tgt := 32) hx hb dX11_plans_8 (by decide) ?_
    refine lv_iconst (v := (-1)) hx hb dX11_plans_32 rfl ?_
    cases hf
    exact x_reti C hP hS hW dX11_plans_33
  | some t3 =>
    have hf := mq_s rfl hf
    obtain ⟨h_t3, k_t3⟩ := q2 _ rfl
    show W _ _ _ _ _ _ _ _ _ _ _ _ _ _ _ (F0 m 4 ls (.ref t3 :: []))
    refine lv_astore (lv' := [(4, .ref t3), (0, .ref a), (1, .int p0), (2, .int p1), (3, .int p2)]) hx hb dX11_plans_4 hl (by decide) rfl (fun ls hl => ?_)
    refine lv_aload hx hb dX11_plans_6 (lv_at hl 0 rfl) ?_
    refine lv_ifnull hx hb dX11_plans_8 ?_
    refine lv_aload_n hx hb dX11_plans_11 rfl (lv_at hl 1 rfl) ?_
    refine gf_X11_68 C hP h_a k_a dX11_plans_12 ?_
    obtain ⟨t4, et4, hf⟩ := bd1_e hf
    obtain ⟨h_t4, k_t4⟩ := wt_r hW h_a k_a (by decide) et4
    have k_t4 : G.2.1 t4 = 9 := k_t4
    rw [et4]
    refine gf_X11_319 C hP h_t4 k_t4 dX11_plans_15 ?_
    refine lv_if_eq (tgt := 32) hx hb dX11_plans_18 (by decide) (fun c5 => ?_) (fun c5 => ?_)
    · have hf := if_t c5 hf
      refine lv_iconst (v := (-1)) hx hb dX11_plans_32 rfl ?_
      cases hf
      exact x_reti C hP hS hW dX11_plans_33
    · have hf := if_f c5 hf
      refine lv_iload_n hx hb dX11_plans_21 rfl (lv_at hl 2 rfl) ?_
      refine lv_if_lt (tgt := 32) hx hb dX11_plans_22 (by decide) (fun c6 => ?_) (fun c6 => ?_)
      · have hf := if_t c6 hf
        refine lv_iconst (v := (-1)) hx hb dX11_plans_32 rfl ?_
        cases hf
        exact x_reti C hP hS hW dX11_plans_33
      · have hf := if_f c6 hf
        refine lv_iload_n hx hb dX11_plans_25 rfl (lv_at hl 2 rfl) ?_
        refine lv_sipush (v := 9999) hx hb dX11_plans_26 kc_sipush_9999 ?_
        refine lv_icmp_le (tgt := 34) hx hb dX11_plans_29 (by decide) (fun c7 => ?_) (fun c7 => ?_)
        · have hf := if_t c7 hf
          refine lv_iload_n hx hb dX11_plans_34 rfl (lv_at hl 3 rfl) ?_
          refine lv_iconst (v := 1) hx hb dX11_plans_35 rfl ?_
          refine lv_icmp_lt (tgt := 54) hx hb dX11_plans_36 (by decide) (fun c8 => ?_) (fun c8 => ?_)
          · have hf := if_t c8 hf
            refine lv_iconst (v := (-1)) hx hb dX11_plans_54 rfl ?_
            cases hf
            exact x_reti C hP hS hW dX11_plans_55
          · have hf := if_f c8 hf
            refine lv_iload_n hx hb dX11_plans_39 rfl (lv_at hl 3 rfl) ?_
            refine lv_bipush (v := 99) hx hb dX11_plans_40 kc_bipush_99 ?_
            refine lv_icmp_gt (tgt := 54) hx hb dX11_plans_42 (by decide) (fun c9 => ?_) (fun c9 => ?_)
            · have hf := if_t c9 hf
              refine lv_iconst (v := (-1)) hx hb dX11_plans_54 rfl ?_
              cases hf
              exact x_reti C hP hS hW dX11_plans_55
            · have hf := if_f c9 hf
              refine lv_iload_n hx hb dX11_plans_45 rfl (lv_at hl 4 rfl) ?_
              refine lv_if_lt (tgt := 54) hx hb dX11_plans_46 (by decide) (fun c10 => ?_) (fun c10 => ?_)
              · have hf := if_t c10 hf
                refine lv_iconst (v := (-1)) hx hb dX11_plans_54 rfl ?_
                cases hf
                exact x_reti C hP hS hW dX11_plans_55
              · have hf := if_f c10 hf
                refine lv_iload_n hx hb dX11_plans_49 rfl (lv_at hl 4 rfl) ?_
                refine lv_iconst (v := 2) hx hb dX11_plans_50 rfl ?_
                refine lv_icmp_le (tgt := 56) hx hb dX11_plans_51 (by decide) (fun c11 => ?_) (fun c11 => ?_)
                · have hf := if_t c11 hf
                  refine lv_aload_n hx hb dX11_plans_56 rfl (lv_at hl 1 rfl) ?_
                  refine gf_X11_44 C hP h_a k_a dX11_plans_57 ?_
                  obtain ⟨t12, et12, hf⟩ := bd1_e hf
                  obtain ⟨h_t12, k_t12⟩ := wt_r hW h_a k_a (by decide) et12
                  have k_t12 : G.2.1 t12 = 7 := k_t12
                  rw [et12]
                  refine lv_aload_n hx hb dX11_plans_60 rfl (lv_at hl 1 rfl) ?_
                  refine gf_X11_40 C hP h_a k_a dX11_plans_61 ?_
                  obtain ⟨t13, et13, hf⟩ := bd1_e hf
                  obtain ⟨h_t13, k_t13⟩ := wt_r hW h_a k_a (by decide) et13
                  have k_t13 : G.2.1 t13 = 7 := k_t13
                  rw [et13]
                  obtain ⟨S14, eS14, hf⟩ := bd1_e hf
                  refine x_aft_v (x_runV (As := [.ref t13]) (rest := []) C hP hS (c_X7_copy (l := l) C.2.2.2.2.2.2.2.2.2.1 hW h_t12 k_t12 h_t13 k_t13 eS14 H.size) h_t12 k_t12 (by decide) rfl rfl km_X7_copy ki_X7_copy qm_X11_224 ⟨(Nat.le_of_ble_eq_true rfl), (Nat.le_of_ble_eq_true rfl)⟩ rfl hl.1 rfl (Nat.le_of_ble_eq_true rfl) ⟨Nat.zero_le _, Nat.zero_le _⟩ dX11_plans_64) hS (fun H locs hP hS hW => ?_)
                  refine lv_aload_n hx hb dX11_plans_67 rfl (lv_at hl 1 rfl) ?_
                  refine lv_iload_n hx hb dX11_plans_68 rfl (lv_at hl 2 rfl) ?_
                  refine lv_i2l hx hb dX11_plans_69 rfl ?_
                  obtain ⟨S15, eS15, hf⟩ := bnd_e hf
                  refine pf_X11_376 C hP hS h_a k_a eS15 dX11_plans_70 (fun H locs hP hS => ?_)
                  have hW : WT G S15 := by rw [eS15]; exact hW
                  refine lv_iconst (v := 0) hx hb dX11_plans_73 rfl ?_
                  refine lv_istore (lv' := [(5, .int 0), (4, .ref t3), (0, .ref a), (1, .int p0), (2, .int p1), (3, .int p2)]) hx hb dX11_plans_74 hl (by decide) rfl (fun ls hl => ?_)
                  refine lv_iconst (v := 0) hx hb dX11_plans_76 rfl ?_
                  refine lv_istore (lv' := [(6, .int 0), (5, .int 0), (4, .ref t3), (0, .ref a), (1, .int p0), (2, .int p1), (3, .int p2)]) hx hb dX11_plans_77 hl (by decide) rfl (fun ls hl => ?_)
                  exact b_X11_plans_79 C (b_X11_plans_181 C) F a p1 p2 t3 0 0 h_a k_a h_t3 k_t3 S15 H locs _ hf hP hS hW (lv_sub hl [3, 5, 6, 2, 1, 0] rfl)
                · have hf := if_f c11 hf
                  refine lv_iconst (v := (-1)) hx hb dX11_plans_54 rfl ?_
                  cases hf
                  exact x_reti C hP hS hW dX11_plans_55
        · have hf := if_f c7 hf
          refine lv_iconst (v := (-1)) hx hb dX11_plans_32 rfl ?_
          cases hf
          exact x_reti C hP hS hW dX11_plans_33
def s_X11_poly_L63 (N : Nat → Nat) (F : Nat) (k122 : Int32 → Int32 → Int32 → HS → Option (Int32 × HS)) : Nat → Nat → Int32 → Int32 → Nat → Int32 → Int32 → Int32 → HS → Option (Int32 × HS)
  | 0, _, _, _, _, _, _, _, _ => none
  | n + 1, v0, v1, v2, v3, v4, v5, v6, S => if v6 < (0 : Int32) then
  k122 v2 v4 v5 S
  else
  bd1 (gR S 1101 v0) fun t14 =>
  bd1 (gR S 1104 v0) fun t15 =>
  bd1 (gR S 1104 v0) fun t16 =>
  bd1 (s_X7_read N t16 v6 S) fun r17 =>
  bd1 (s_X0_add F t14 v3 (gI S 702 t15) v4 v1 r17 S) fun S18 =>
  bd1 (gR S18 1101 v0) fun t19 =>
  bnd (gI S18 1 t19 : Int32) fun x20 =>
  bd1 (gR S18 1101 v0) fun t21 =>
  bnd (v5 ||| (gI S18 2 t21) : Int32) fun x22 =>
  bnd (v6 + Int32.ofInt (-1) : Int32) fun x23 =>
  s_X11_poly_L63 N F k122 n v0 v1 v2 v3 x20 x22 x23 S18
def s_X11_poly_J122 (N : Nat → Nat) (F : Nat) (v2 : Int32) (v4 : Int32) (v5 : Int32) (S : HS) : Option (Int32 × HS) :=
  if v2 = (0 : Int32) then
  some (v4, S)
  else
  some (v5, S)
def s_X11_poly (N : Nat → Nat) (F : Nat) (a : Nat) (p0 : Int32) (p1 : Int32) (S : HS) : Option (Int32 × HS) :=
  bd1 (s_X11_formHolding N a p0 S) fun r1 =>
  mq r1
  (some ((-1), S))
  fun t3 =>
  if p1 < (0 : Int32) then
  some ((-1), S)
  else
  if (1 : Int32) < p1 then
  some ((-1), S)
  else
  bd1 (gR S 1111 a) fun t6 =>
  if (gI S 904 t6) = (0 : Int32) then
  some ((-1), S)
  else
  bd1 (gR S 1104 a) fun t8 =>
  bd1 (gR S 1111 a) fun t9 =>
  bd1 (s_X7_read N t8 ((gI S 904 t9) - 1) S) fun r10 =>
  bd1 (gR S 1111 a) fun t11 =>
  bnd ((gI S 904 t11) - 2 : Int32) fun x12 =>
  s_X11_poly_L63 N F (s_X11_poly_J122 N F) F a p0 p1 t3 r10 0 x12 S
set_option maxRecDepth 100000 in
set_option maxHeartbeats 4000000 in
theorem b_X11_poly_63 {p : Program} {l : Launch} {e : Env} {s : State} {m : MethodId} {args : Array Value} {below : List Frame} {meth : Method} {c : Code} {V : EV} {G : GS} {r : Int32} {S' : HS} {F : Nat} (C : CX p s m args meth c RX11 cX11_poly 7 (some .int) V G) {k122 : Int32 → Int32 → Int32 → HS → Option (Int32 × HS)} (hk122 : ∀ (v2 : Int32) (v4 : Int32) (v5 : Int32) (S : HS) (H : Heap) (locs : List Loc) (ls : Array Slot), k122 v2 v4 v5 S = some (r, S') → HP V G S H → va_S (AG G s.heap.size) s.heap H locs → WT G S → lv_has ls 7 [(2, .int v2), (4, .int v4), (5, .int v5)] → W p l e (RM 5 172) s m args below meth c H locs 0 0 (MQ below (QI V G S' r s.heap.size) args s 0 0 (AG G s.heap.size)) (F0 m 122 ls [])) : ∀ n : Nat, ∀ (v0 : Nat) (v1 : Int32) (v2 : Int32) (v3 : Nat) (v4 : Int32) (v5 : Int32) (v6 : Int32) (h_v0 : v0 ∈ G.1) (k_v0 : G.2.1 v0 = 11) (h_v3 : v3 ∈ G.1) (k_v3 : G.2.1 v3 = 2) (S : HS) (H : Heap) (locs : List Loc) (ls : Array Slot), s_X11_poly_L63 G.2.2 F k122 n v0 v1 v2 v3 v4 v5 v6 S = some (r, S') → HP V G S H → va_S (AG G s.heap.size) s.heap H locs → WT G S → lv_has ls 7 [(0, .ref v0), (1, .int v1), (2, .int v2), (3, .ref v3), (4, .int v4), (5, .int v5), (6, .int v6)] → W p l e (RM 5 172) s m args below meth c H locs 0 0 (MQ below (QI V G S' r s.heap.size) args s 0 0 (AG G s.heap.size)) (F0 m 63 ls []) := by
  intro n
  induction n with
  | zero =>
    intro v0 v1 v2 v3 v4 v5 v6 h_v0 k_v0 h_v3 k_v3 S H locs ls hf
    rw [s_X11_poly_L63] at hf
    cases hf
  | succ n ih =>
    intro v0 v1 v2 v3 v4 v5 v6 h_v0 k_v0 h_v3 k_v3 S H locs ls hf hP hS hW hl
    have hx := C.1
    have hb := C.2.1
    rw [s_X11_poly_L63] at hf
    refine lv_iload hx hb dX11_poly_63 (lv_at hl 6 rfl) ?_
    refine lv_if_lt (tgt := 122) hx hb dX11_poly_65 (by decide) (fun c13 => ?_) (fun c13 => ?_)
    · have hf := if_t c13 hf
      exact hk122 v2 v4 v5 S H locs _ hf hP hS hW (lv_sub hl [2, 4, 5] rfl)
    · have hf := if_f c13 hf
      refine lv_aload_n hx hb dX11_poly_68 rfl (lv_at hl 0 rfl) ?_
      refine gf_X11_19 C hP h_v0 k_v0 dX11_poly_69 ?_
      obtain ⟨t14, et14, hf⟩ := bd1_e hf
      obtain ⟨h_t14, k_t14⟩ := wt_r hW h_v0 k_v0 (by decide) et14
      have k_t14 : G.2.1 t14 = 0 := k_t14
      rw [et14]
      refine lv_aload_n hx hb dX11_poly_72 rfl (lv_at hl 3 rfl) ?_
      refine lv_aload_n hx hb dX11_poly_73 rfl (lv_at hl 0 rfl) ?_
      refine gf_X11_40 C hP h_v0 k_v0 dX11_poly_74 ?_
      obtain ⟨t15, et15, hf⟩ := bd1_e hf
      obtain ⟨h_t15, k_t15⟩ := wt_r hW h_v0 k_v0 (by decide) et15
      have k_t15 : G.2.1 t15 = 7 := k_t15
      rw [et15]
      refine gf_X11_193 C hP h_t15 k_t15 dX11_poly_77 ?_
      refine lv_iload hx hb dX11_poly_80 (lv_at hl 4 rfl) ?_
      refine lv_iload_n hx hb dX11_poly_82 rfl (lv_at hl 1 rfl) ?_
      refine lv_aload_n hx hb dX11_poly_83 rfl (lv_at hl 0 rfl) ?_
      refine gf_X11_40 C hP h_v0 k_v0 dX11_poly_84 ?_
      obtain ⟨t16, et16, hf⟩ := bd1_e hf
      obtain ⟨h_t16, k_t16⟩ := wt_r hW h_v0 k_v0 (by decide) et16
      have k_t16 : G.2.1 t16 = 7 := k_t16
      rw [et16]
      refine lv_iload hx hb dX11_poly_87 (lv_at hl 6 rfl) ?_
      obtain ⟨r17, er17, hf⟩ := bd1_e hf
      refine x_aft_i (x_runV (As := [.int v6]) (rest := [.int v1, .int v4, .int (gI S 702 t15), .ref v3, .ref t14]) C hP hS (c_X7_read (l := l) C.2.2.2.2.2.2.2.2.2.1 hW h_t16 k_t16 er17 H.size) h_t16 k_t16 (by decide) rfl rfl km_X7_read ki_X7_read qm_X11_170 ⟨(Nat.le_of_ble_eq_true rfl), (Nat.le_of_ble_eq_true rfl)⟩ rfl hl.1 rfl (Nat.le_of_ble_eq_true rfl) ⟨Nat.zero_le _, Nat.zero_le _⟩ dX11_poly_89) hS (fun H locs hP hS hW => ?_)
      obtain ⟨S18, eS18, hf⟩ := bd1_e hf
      refine x_aft_v (x_runV (As := [.ref v3, .int (gI S 702 t15), .int v4, .int v1, .int r17]) (rest := []) C hP hS (c_X0_add (l := l) C.2.2.2.2.2.2.2.2.2.1 hW h_t14 k_t14 h_v3 k_v3 eS18 H.size) h_t14 k_t14 (by decide) rfl rfl km_X0_add ki_X0_add qm_X11_305 ⟨(Nat.le_of_ble_eq_true rfl), (Nat.le_of_ble_eq_true rfl)⟩ rfl hl.1 rfl (Nat.le_of_ble_eq_true rfl) ⟨Nat.zero_le _, Nat.zero_le _⟩ dX11_poly_92) hS (fun H locs hP hS hW => ?_)
      refine lv_aload_n hx hb dX11_poly_95 rfl (lv_at hl 0 rfl) ?_
      refine gf_X11_19 C hP h_v0 k_v0 dX11_poly_96 ?_
      obtain ⟨t19, et19, hf⟩ := bd1_e hf
      obtain ⟨h_t19, k_t19⟩ := wt_r hW h_v0 k_v0 (by decide) et19
      have k_t19 : G.2.1 t19 = 0 := k_t19
      rw [et19]
      refine gf_X11_196 C hP h_t19 k_t19 dX11_poly_99 ?_
      obtain ⟨x20, ex20, hf⟩ := bnd_e hf
      refine nm_i ex20 ?_
      refine lv_istore (lv' := [(4, .int x20), (0, .ref v0), (1, .int v1), (2, .int v2), (3, .ref v3), (5, .int v5), (6, .int v6)]) hx hb dX11_poly_102 hl (by decide) rfl (fun ls hl => ?_)
      refine lv_iload hx hb dX11_poly_104 (lv_at hl 5 rfl) ?_
      refine lv_aload_n hx hb dX11_poly_106 rfl (lv_at hl 1 rfl) ?_
      refine gf_X11_19 C hP h_v0 k_v0 dX11_poly_107 ?_
      obtain ⟨t21, et21, hf⟩ := bd1_e hf
      obtain ⟨h_t21, k_t21⟩ := wt_r hW h_v0 k_v0 (by decide) et21
      have k_t21 : G.2.1 t21 = 0 := k_t21
      rw [et21]
      refine gf_X11_304 C hP h_t21 k_t21 dX11_poly_110 ?_
      refine lv_ior hx hb dX11_poly_113 ?_
      obtain ⟨x22, ex22, hf⟩ := bnd_e hf
      refine nm_i ex22 ?_
      refine lv_istore (lv' := [(5, .int x22), (4, .int x20), (0, .ref v0), (1, .int v1), (2, .int v2), (3, .ref v3), (6, .int v6)]) hx hb dX11_poly_114 hl (by decide) rfl (fun ls hl => ?_)
      obtain ⟨x23, ex23, hf⟩ := bnd_e hf
      refine lv_iinc (v := x23) (lv' := [(6, .int x23), (5, .int x22), (4, .int x20), (0, .ref v0), (1, .int v1), (2, .int v2), (3, .ref v3)]) hx hb dX11_poly_116 hl (k := 6) rfl ex23.symm (by decide) rfl (fun ls hl => ?_)
      refine lv_goto (tgt := 63) hx hb dX11_poly_119 (by decide) ?_
      exact ih v0 v1 v2 v3 x20 x22 x23 h_v0 k_v0 h_v3 k_v3 S18 H locs _ hf hP hS hW (lv_sub hl [3, 4, 5, 6, 2, 1, 0] rfl)
set_option maxRecDepth 100000 in
set_option maxHeartbeats 4000000 in
theorem b_X11_poly_122 {p : Program} {l : Launch} {e : Env} {s : State} {m : MethodId} {args : Array Value} {below : List Frame} {meth : Method} {c : Code} {V : EV} {G : GS} {r : Int32} {S' : HS} {F : Nat} (C : CX p s m args meth c RX11 cX11_poly 7 (some .int) V G) : ∀ (v2 : Int32) (v4 : Int32) (v5 : Int32) (S : HS) (H : Heap) (locs : List Loc) (ls : Array Slot), s_X11_poly_J122 G.2.2 F v2 v4 v5 S = some (r, S') → HP V G S H → va_S (AG G s.heap.size) s.heap H locs → WT G S → lv_has ls 7 [(2, .int v2), (4, .int v4), (5, .int v5)] → W p l e (RM 5 172) s m args below meth c H locs 0 0 (MQ below (QI V G S' r s.heap.size) args s 0 0 (AG G s.heap.size)) (F0 m 122 ls []) := by
  intro v2 v4 v5 S H locs ls hf hP hS hW hl
  have hx := C.1
  have hb := C.2.1
  unfold s_X11_poly_J122 at hf
  refine lv_iload_n hx hb dX11_poly_122 rfl (lv_at hl 0 rfl) ?_
  refine lv_if_ne (tgt := 131) hx hb dX11_poly_123 (by decide) (fun c24 => ?_) (fun c24 => ?_)
  · have hf := if_f c24 hf
    refine lv_iload hx hb dX11_poly_131 (lv_at hl 2 rfl) ?_
    cases hf
    exact x_reti C hP hS hW dX11_poly_133
  · have hf := if_t c24 hf
    refine lv_iload hx hb dX11_poly_126 (lv_at hl 1 rfl) ?_
    refine lv_goto (tgt := 133) hx hb dX11_poly_128 (by decide) ?_
    cases hf
    exact x_reti C hP hS hW dX11_poly_133
set_option maxRecDepth 100000 in
set_option maxHeartbeats 4000000 in
theorem c_X11_poly {l : Launch} {V : EV} {G : GS} {S : HS} {F : Nat} {a : Nat} {p0 : Int32} {p1 : Int32} {r : Int32} {S' : HS} (hN : G.1.Nodup) (hW : WT G S) (h_a : a ∈ G.1) (k_a : G.2.1 a = 11) (hf : s_X11_poly G.2.2 F a p0 p1 S = some (r, S')) : MetI l yX11_poly cX11_poly 7 .int 5 172 V G S [.ref a, .int p0, .int p1] r S' := by
  intro sz
  refine x_in RX11 rfl (by decide +kernel) hN (Nat.le_of_ble_eq_true rfl) (fun p e s m args below meth c ls hsz hargs hnm C hP hS hl => ?_)
  subst hsz
  have hx := C.1
  have hb := C.2.1
  have hl : lv_has ls 7 [(0, .ref a), (1, .int p0), (2, .int p1)] := hl
  unfold s_X11_poly at hf
  refine lv_aload_n hx hb dX11_poly_0 rfl (lv_at hl 0 rfl) ?_
  refine lv_iload_n hx hb dX11_poly_1 rfl (lv_at hl 1 rfl) ?_
  obtain ⟨r1, er1, hf⟩ := bd1_e hf
  refine x_aft_r (x_runV (As := [.int p0]) (rest := []) C hP hS (c_X11_formHolding (l := l) C.2.2.2.2.2.2.2.2.2.1 hW h_a k_a er1 s.heap.size) h_a k_a (by decide) rfl rfl km_X11_formHolding ki_X11_formHolding qm_X11_235 ⟨(Nat.le_of_ble_eq_true rfl), (Nat.le_of_ble_eq_true rfl)⟩ rfl hl.1 rfl (Nat.le_of_ble_eq_true rfl) ⟨Nat.zero_le _, Nat.zero_le _⟩ dX11_poly_2) hS (fun H locs hP hS hW q2 => ?_)
  cases r1 with
  | none =>
    have hf := mq_n rfl hf
    show W _ _ _ _ _ _ _ _ _ _ _ _ _ _ _ (F0 m 5 ls (.null :: []))
    refine lv_astore_nN (lv' := [(3, .null), (0, .ref a), (1, .int p0), (2, .int p1)]) hx hb dX11_poly_5 rfl hl (by decide) rfl (fun ls hl => ?_)
    refine lv_aload_nN hx hb dX11_poly_6 rfl (lv_at hl 0 rfl) ?_
    refine lv_ifnullN (tgt := 29) hx hb dX11_poly_7 (by decide) ?_
    refine lv_iconst (v := (-1)) hx hb dX11_poly_29 rfl ?_
    cases hf
    exact x_reti C hP hS hW dX11_poly_30
  | some t3 =>
    have hf := mq_s rfl hf
    obtain ⟨h_t3, k_t3⟩ := q2 _ rfl
    show W _ _ _ _ _ _ _ _ _ _ _ _ _ _ _ (F0 m 5 ls (.ref t3 :: []))
    refine lv_astore_n (lv' := [(3, .ref t3), (0, .ref a), (1, .int p0), (2, .int p1)]) hx hb dX11_poly_5 rfl hl (by decide) rfl (fun ls hl => ?_)
    refine lv_aload_n hx hb dX11_poly_6 rfl (lv_at hl 0 rfl) ?_
    refine lv_ifnull hx hb dX11_poly_7 ?_
    refine lv_iload_n hx hb dX11_poly_10 rfl (lv_at hl 3 rfl) ?_
    refine lv_if_lt (tgt := 29) hx hb dX11_poly_11 (by decide) (fun c4 => ?_) (fun c4 => ?_)
    · have hf := if_t c4 hf
      refine lv_iconst (v := (-1)) hx hb dX11_poly_29 rfl ?_
      cases hf
      exact x_reti C hP hS hW dX11_poly_30
    · have hf := if_f c4 hf
      refine lv_iload_n hx hb dX11_poly_14 rfl (lv_at hl 3 rfl) ?_
      refine lv_iconst (v := 1) hx hb dX11_poly_15 rfl ?_
      refine lv_icmp_gt (tgt := 29) hx hb dX11_poly_16 (by decide) (fun c5 => ?_) (fun c5 => ?_)
      · have hf := if_t c5 hf
        refine lv_iconst (v := (-1)) hx hb dX11_poly_29 rfl ?_
        cases hf
        exact x_reti C hP hS hW dX11_poly_30
      · have hf := if_f c5 hf
        refine lv_aload_n hx hb dX11_poly_19 rfl (lv_at hl 1 rfl) ?_
        refine gf_X11_68 C hP h_a k_a dX11_poly_20 ?_
        obtain ⟨t6, et6, hf⟩ := bd1_e hf
        obtain ⟨h_t6, k_t6⟩ := wt_r hW h_a k_a (by decide) et6
        have k_t6 : G.2.1 t6 = 9 := k_t6
        rw [et6]
        refine gf_X11_319 C hP h_t6 k_t6 dX11_poly_23 ?_
        refine lv_if_ne (tgt := 31) hx hb dX11_poly_26 (by decide) (fun c7 => ?_) (fun c7 => ?_)
        · have hf := if_f c7 hf
          refine lv_aload_n hx hb dX11_poly_31 rfl (lv_at hl 1 rfl) ?_
          refine gf_X11_40 C hP h_a k_a dX11_poly_32 ?_
          obtain ⟨t8, et8, hf⟩ := bd1_e hf
          obtain ⟨h_t8, k_t8⟩ := wt_r hW h_a k_a (by decide) et8
          have k_t8 : G.2.1 t8 = 7 := k_t8
          rw [et8]
          refine lv_aload_n hx hb dX11_poly_35 rfl (lv_at hl 1 rfl) ?_
          refine gf_X11_68 C hP h_a k_a dX11_poly_36 ?_
          obtain ⟨t9, et9, hf⟩ := bd1_e hf
          obtain ⟨h_t9, k_t9⟩ := wt_r hW h_a k_a (by decide) et9
          have k_t9 : G.2.1 t9 = 9 := k_t9
          rw [et9]
          refine gf_X11_319 C hP h_t9 k_t9 dX11_poly_39 ?_
          refine lv_iconst (v := 1) hx hb dX11_poly_42 rfl ?_
          refine lv_isub hx hb dX11_poly_43 ?_
          obtain ⟨r10, er10, hf⟩ := bd1_e hf
          refine x_aft_i (x_runV (As := [.int ((gI S 904 t9) - 1)]) (rest := []) C hP hS (c_X7_read (l := l) C.2.2.2.2.2.2.2.2.2.1 hW h_t8 k_t8 er10 H.size) h_t8 k_t8 (by decide) rfl rfl km_X7_read ki_X7_read qm_X11_170 ⟨(Nat.le_of_ble_eq_true rfl), (Nat.le_of_ble_eq_true rfl)⟩ rfl hl.1 rfl (Nat.le_of_ble_eq_true rfl) ⟨Nat.zero_le _, Nat.zero_le _⟩ dX11_poly_44) hS (fun H locs hP hS hW => ?_)
          refine lv_istore (lv' := [(4, .int r10), (3, .ref t3), (0, .ref a), (1, .int p0), (2, .int p1)]) hx hb dX11_poly_47 hl (by decide) rfl (fun ls hl => ?_)
          refine lv_iconst (v := 0) hx hb dX11_poly_49 rfl ?_
          refine lv_istore (lv' := [(5, .int 0), (4, .int r10), (3, .ref t3), (0, .ref a), (1, .int p0), (2, .int p1)]) hx hb dX11_poly_50 hl (by decide) rfl (fun ls hl => ?_)
          refine lv_aload_n hx hb dX11_poly_52 rfl (lv_at hl 3 rfl) ?_
          refine gf_X11_68 C hP h_a k_a dX11_poly_53 ?_
          obtain ⟨t11, et11, hf⟩ := bd1_e hf
          obtain ⟨h_t11, k_t11⟩ := wt_r hW h_a k_a (by decide) et11
          have k_t11 : G.2.1 t11 = 9 := k_t11
          rw [et11]
          refine gf_X11_319 C hP h_t11 k_t11 dX11_poly_56 ?_
          refine lv_iconst (v := 2) hx hb dX11_poly_59 rfl ?_
          refine lv_isub hx hb dX11_poly_60 ?_
          obtain ⟨x12, ex12, hf⟩ := bnd_e hf
          refine nm_i ex12 ?_
          refine lv_istore (lv' := [(6, .int x12), (5, .int 0), (4, .int r10), (3, .ref t3), (0, .ref a), (1, .int p0), (2, .int p1)]) hx hb dX11_poly_61 hl (by decide) rfl (fun ls hl => ?_)
          exact b_X11_poly_63 C (b_X11_poly_122 C) F a p0 p1 t3 r10 0 x12 h_a k_a h_t3 k_t3 S H locs _ hf hP hS hW (lv_sub hl [4, 5, 6, 3, 2, 1, 0] rfl)
        · have hf := if_t c7 hf
          refine lv_iconst (v := (-1)) hx hb dX11_poly_29 rfl ?_
          cases hf
          exact x_reti C hP hS hW dX11_poly_30
def s_X11_raises (N : Nat → Nat) (F : Nat) (a : Nat) (p0 : Int32) (p1 : Int32) (p2 : Int32) (S : HS) : Option (Int32 × HS) :=
  if p2 < (1 : Int32) then
  some ((-1), S)
  else
  if p2 ≤ (15 : Int32) then
  bd2 (s_X11_addendsWith N F a p0 p1 2 p2 S) fun r3 S4 =>
  some (r3, S4)
  else
  some ((-1), S)
set_option maxRecDepth 100000 in
set_option maxHeartbeats 4000000 in
theorem c_X11_raises {l : Launch} {V : EV} {G : GS} {S : HS} {F : Nat} {a : Nat} {p0 : Int32} {p1 : Int32} {p2 : Int32} {r : Int32} {S' : HS} (hN : G.1.Nodup) (hW : WT G S) (h_a : a ∈ G.1) (k_a : G.2.1 a = 11) (hf : s_X11_raises G.2.2 F a p0 p1 p2 S = some (r, S')) : MetI l yX11_raises cX11_raises 4 .int 6 207 V G S [.ref a, .int p0, .int p1, .int p2] r S' := by
  intro sz
  refine x_in RX11 rfl (by decide +kernel) hN (Nat.le_of_ble_eq_true rfl) (fun p e s m args below meth c ls hsz hargs hnm C hP hS hl => ?_)
  subst hsz
  have hx := C.1
  have hb := C.2.1
  have hl : lv_has ls 4 [(0, .ref a), (1, .int p0), (2, .int p1), (3, .int p2)] := hl
  unfold s_X11_raises at hf
  refine lv_iload_n hx hb dX11_raises_0 rfl (lv_at hl 3 rfl) ?_
  refine lv_iconst (v := 1) hx hb dX11_raises_1 rfl ?_
  refine lv_icmp_lt (tgt := 11) hx hb dX11_raises_2 (by decide) (fun c1 => ?_) (fun c1 => ?_)
  · have hf := if_t c1 hf
    refine lv_iconst (v := (-1)) hx hb dX11_raises_11 rfl ?_
    refine lv_goto (tgt := 23) hx hb dX11_raises_12 (by decide) ?_
    cases hf
    exact x_reti C hP hS hW dX11_raises_23
  · have hf := if_f c1 hf
    refine lv_iload_n hx hb dX11_raises_5 rfl (lv_at hl 3 rfl) ?_
    refine lv_bipush (v := 15) hx hb dX11_raises_6 kc_bipush_15 ?_
    refine lv_icmp_le (tgt := 15) hx hb dX11_raises_8 (by decide) (fun c2 => ?_) (fun c2 => ?_)
    · have hf := if_t c2 hf
      refine lv_aload_n hx hb dX11_raises_15 rfl (lv_at hl 0 rfl) ?_
      refine lv_iload_n hx hb dX11_raises_16 rfl (lv_at hl 1 rfl) ?_
      refine lv_iload_n hx hb dX11_raises_17 rfl (lv_at hl 2 rfl) ?_
      refine lv_iconst (v := 2) hx hb dX11_raises_18 rfl ?_
      refine lv_iload_n hx hb dX11_raises_19 rfl (lv_at hl 3 rfl) ?_
      obtain ⟨r3, S4, eS4, hf⟩ := bd2_e hf
      refine x_aft_i (x_runV (As := [.int p0, .int p1, .int 2, .int p2]) (rest := []) C hP hS (c_X11_addendsWith (l := l) C.2.2.2.2.2.2.2.2.2.1 hW h_a k_a eS4 s.heap.size) h_a k_a (by decide) rfl rfl km_X11_addendsWith ki_X11_addendsWith qm_X11_335 ⟨(Nat.le_of_ble_eq_true rfl), (Nat.le_of_ble_eq_true rfl)⟩ rfl hl.1 rfl (Nat.le_of_ble_eq_true rfl) ⟨Nat.zero_le _, Nat.zero_le _⟩ dX11_raises_20) hS (fun H locs hP hS hW => ?_)
      cases hf
      exact x_reti C hP hS hW dX11_raises_23
    · have hf := if_f c2 hf
      refine lv_iconst (v := (-1)) hx hb dX11_raises_11 rfl ?_
      refine lv_goto (tgt := 23) hx hb dX11_raises_12 (by decide) ?_
      cases hf
      exact x_reti C hP hS hW dX11_raises_23
def s_X11_reg (N : Nat → Nat) (a : Nat) (p0 : Int32) (S : HS) : Option Int32 :=
  bd1 (s_X11_formInUse N a S) fun r1 =>
  mq r1
  (some (-1))
  fun t3 =>
  bd1 (s_X11_isRegister a p0 S) fun r4 =>
  if r4 = (0 : Int32) then
  some (-1)
  else
  bd1 (gR S 1104 a) fun t7 =>
  bd1 (s_X7_read N t7 p0 S) fun r8 =>
  some r8
set_option maxRecDepth 100000 in
set_option maxHeartbeats 4000000 in
theorem c_X11_reg {l : Launch} {V : EV} {G : GS} {S : HS} {a : Nat} {p0 : Int32} {r : Int32} (hN : G.1.Nodup) (hW : WT G S) (h_a : a ∈ G.1) (k_a : G.2.1 a = 11) (hf : s_X11_reg G.2.2 a p0 S = some r) : MetI l yX11_reg cX11_reg 2 .int 2 57 V G S [.ref a, .int p0] r S := by
  intro sz
  refine x_in RX11 rfl (by decide +kernel) hN (Nat.le_of_ble_eq_true rfl) (fun p e s m args below meth c ls hsz hargs hnm C hP hS hl => ?_)
  subst hsz
  have hx := C.1
  have hb := C.2.1
  have hl : lv_has ls 2 [(0, .ref a), (1, .int p0)] := hl
  unfold s_X11_reg at hf
  refine lv_aload_n hx hb dX11_reg_0 rfl (lv_at hl 0 rfl) ?_
  obtain ⟨r1, er1, hf⟩ := bd1_e hf
  refine x_aft_r (x_runV (As := []) (rest := []) C hP hS (c_X11_formInUse (l := l) C.2.2.2.2.2.2.2.2.2.1 hW h_a k_a er1 s.heap.size) h_a k_a (by decide) rfl rfl km_X11_formInUse ki_X11_formInUse qm_X11_162 ⟨(Nat.le_of_ble_eq_true rfl), (Nat.le_of_ble_eq_true rfl)⟩ rfl hl.1 rfl (Nat.le_of_ble_eq_true rfl) ⟨Nat.zero_le _, Nat.zero_le _⟩ dX11_reg_1) hS (fun H locs hP hS hW q2 => ?_)
  cases r1 with
  | none =>
    have hf := mq_n rfl hf
    show W _ _ _ _ _ _ _ _ _ _ _ _ _ _ _ (F0 m 4 ls (.null :: []))
    refine lv_ifnullN (tgt := 15) hx hb dX11_reg_4 (by decide) ?_
    refine lv_iconst (v := (-1)) hx hb dX11_reg_15 rfl ?_
    refine lv_goto (tgt := 27) hx hb dX11_reg_16 (by decide) ?_
    cases hf
    exact x_reti C hP hS hW dX11_reg_27
  | some t3 =>
    have hf := mq_s rfl hf
    obtain ⟨h_t3, k_t3⟩ := q2 _ rfl
    show W _ _ _ _ _ _ _ _ _ _ _ _ _ _ _ (F0 m 4 ls (.ref t3 :: []))
    refine lv_ifnull hx hb dX11_reg_4 ?_
    refine lv_aload_n hx hb dX11_reg_7 rfl (lv_at hl 0 rfl) ?_
    refine lv_iload_n hx hb dX11_reg_8 rfl (lv_at hl 1 rfl) ?_
    obtain ⟨r4, er4, hf⟩ := bd1_e hf
    refine x_aft_z (x_runV (As := [.int p0]) (rest := []) C hP hS (c_X11_isRegister (l := l) C.2.2.2.2.2.2.2.2.2.1 hW h_a k_a er4 H.size) h_a k_a (by decide) rfl rfl km_X11_isRegister ki_X11_isRegister qm_X11_166 ⟨(Nat.le_of_ble_eq_true rfl), (Nat.le_of_ble_eq_true rfl)⟩ rfl hl.1 rfl (Nat.le_of_ble_eq_true rfl) ⟨Nat.zero_le _, Nat.zero_le _⟩ dX11_reg_9) hS (fun H locs hP hS hW z5 => ?_)
    refine lv_if_ne (tgt := 19) hx hb dX11_reg_12 (by decide) (fun c6 => ?_) (fun c6 => ?_)
    · have hf := if_f c6 hf
      refine lv_aload_n hx hb dX11_reg_19 rfl (lv_at hl 0 rfl) ?_
      refine gf_X11_40 C hP h_a k_a dX11_reg_20 ?_
      obtain ⟨t7, et7, hf⟩ := bd1_e hf
      obtain ⟨h_t7, k_t7⟩ := wt_r hW h_a k_a (by decide) et7
      have k_t7 : G.2.1 t7 = 7 := k_t7
      rw [et7]
      refine lv_iload_n hx hb dX11_reg_23 rfl (lv_at hl 1 rfl) ?_
      obtain ⟨r8, er8, hf⟩ := bd1_e hf
      refine x_aft_i (x_runV (As := [.int p0]) (rest := []) C hP hS (c_X7_read (l := l) C.2.2.2.2.2.2.2.2.2.1 hW h_t7 k_t7 er8 H.size) h_t7 k_t7 (by decide) rfl rfl km_X7_read ki_X7_read qm_X11_170 ⟨(Nat.le_of_ble_eq_true rfl), (Nat.le_of_ble_eq_true rfl)⟩ rfl hl.1 rfl (Nat.le_of_ble_eq_true rfl) ⟨Nat.zero_le _, Nat.zero_le _⟩ dX11_reg_24) hS (fun H locs hP hS hW => ?_)
      cases hf
      exact x_reti C hP hS hW dX11_reg_27
    · have hf := if_t c6 hf
      refine lv_iconst (v := (-1)) hx hb dX11_reg_15 rfl ?_
      refine lv_goto (tgt := 27) hx hb dX11_reg_16 (by decide) ?_
      cases hf
      exact x_reti C hP hS hW dX11_reg_27
def s_X11_remains (N : Nat → Nat) (F : Nat) (a : Nat) (p0 : Int32) (p1 : Int32) (S : HS) : Option (Int32 × HS) :=
  bd1 (s_X11_formInUse N a S) fun r1 =>
  mq r1
  (some ((-1), S))
  fun t3 =>
  bd1 (gR S 1104 a) fun t4 =>
  bd2 (s_X11_add N F a p0 p1 0 (gI S 702 t4) S) fun r5 S6 =>
  if r5 = (0 : Int32) then
  some ((-1), S6)
  else
  bd1 (gR S6 1101 a) fun t9 =>
  bd1 (gR S6 1104 a) fun t10 =>
  bd1 (gR S6 1101 a) fun t11 =>
  bd1 (s_X0_add F t9 t3 (gI S6 702 t10) p0 p1 (s_X2_turned t3 (gI S6 1 t11) S6) S6) fun S12 =>
  bd1 (gR S12 1101 a) fun t13 =>
  some (gI S12 1 t13, S12)
set_option maxRecDepth 100000 in
set_option maxHeartbeats 4000000 in
theorem c_X11_remains {l : Launch} {V : EV} {G : GS} {S : HS} {F : Nat} {a : Nat} {p0 : Int32} {p1 : Int32} {r : Int32} {S' : HS} (hN : G.1.Nodup) (hW : WT G S) (h_a : a ∈ G.1) (k_a : G.2.1 a = 11) (hf : s_X11_remains G.2.2 F a p0 p1 S = some (r, S')) : MetI l yX11_remains cX11_remains 4 .int 6 205 V G S [.ref a, .int p0, .int p1] r S' := by
  intro sz
  refine x_in RX11 rfl (by decide +kernel) hN (Nat.le_of_ble_eq_true rfl) (fun p e s m args below meth c ls hsz hargs hnm C hP hS hl => ?_)
  subst hsz
  have hx := C.1
  have hb := C.2.1
  have hl : lv_has ls 4 [(0, .ref a), (1, .int p0), (2, .int p1)] := hl
  unfold s_X11_remains at hf
  refine lv_aload_n hx hb dX11_remains_0 rfl (lv_at hl 0 rfl) ?_
  obtain ⟨r1, er1, hf⟩ := bd1_e hf
  refine x_aft_r (x_runV (As := []) (rest := []) C hP hS (c_X11_formInUse (l := l) C.2.2.2.2.2.2.2.2.2.1 hW h_a k_a er1 s.heap.size) h_a k_a (by decide) rfl rfl km_X11_formInUse ki_X11_formInUse qm_X11_162 ⟨(Nat.le_of_ble_eq_true rfl), (Nat.le_of_ble_eq_true rfl)⟩ rfl hl.1 rfl (Nat.le_of_ble_eq_true rfl) ⟨Nat.zero_le _, Nat.zero_le _⟩ dX11_remains_1) hS (fun H locs hP hS hW q2 => ?_)
  cases r1 with
  | none =>
    have hf := mq_n rfl hf
    show W _ _ _ _ _ _ _ _ _ _ _ _ _ _ _ (F0 m 4 ls (.null :: []))
    refine lv_astore_nN (lv' := [(3, .null), (0, .ref a), (1, .int p0), (2, .int p1)]) hx hb dX11_remains_4 rfl hl (by decide) rfl (fun ls hl => ?_)
    refine lv_aload_nN hx hb dX11_remains_5 rfl (lv_at hl 0 rfl) ?_
    refine lv_ifnullN (tgt := 26) hx hb dX11_remains_6 (by decide) ?_
    refine lv_iconst (v := (-1)) hx hb dX11_remains_26 rfl ?_
    cases hf
    exact x_reti C hP hS hW dX11_remains_27
  | some t3 =>
    have hf := mq_s rfl hf
    obtain ⟨h_t3, k_t3⟩ := q2 _ rfl
    show W _ _ _ _ _ _ _ _ _ _ _ _ _ _ _ (F0 m 4 ls (.ref t3 :: []))
    refine lv_astore_n (lv' := [(3, .ref t3), (0, .ref a), (1, .int p0), (2, .int p1)]) hx hb dX11_remains_4 rfl hl (by decide) rfl (fun ls hl => ?_)
    refine lv_aload_n hx hb dX11_remains_5 rfl (lv_at hl 0 rfl) ?_
    refine lv_ifnull hx hb dX11_remains_6 ?_
    refine lv_aload_n hx hb dX11_remains_9 rfl (lv_at hl 1 rfl) ?_
    refine lv_iload_n hx hb dX11_remains_10 rfl (lv_at hl 2 rfl) ?_
    refine lv_iload_n hx hb dX11_remains_11 rfl (lv_at hl 3 rfl) ?_
    refine lv_iconst (v := 0) hx hb dX11_remains_12 rfl ?_
    refine lv_aload_n hx hb dX11_remains_13 rfl (lv_at hl 1 rfl) ?_
    refine gf_X11_40 C hP h_a k_a dX11_remains_14 ?_
    obtain ⟨t4, et4, hf⟩ := bd1_e hf
    obtain ⟨h_t4, k_t4⟩ := wt_r hW h_a k_a (by decide) et4
    have k_t4 : G.2.1 t4 = 7 := k_t4
    rw [et4]
    refine gf_X11_193 C hP h_t4 k_t4 dX11_remains_17 ?_
    obtain ⟨r5, S6, eS6, hf⟩ := bd2_e hf
    refine x_aft_z (x_runV (As := [.int p0, .int p1, .int 0, .int (gI S 702 t4)]) (rest := []) C hP hS (c_X11_add (l := l) C.2.2.2.2.2.2.2.2.2.1 hW h_a k_a eS6 H.size) h_a k_a (by decide) rfl rfl km_X11_add ki_X11_add qm_X11_301 ⟨(Nat.le_of_ble_eq_true rfl), (Nat.le_of_ble_eq_true rfl)⟩ rfl hl.1 rfl (Nat.le_of_ble_eq_true rfl) ⟨Nat.zero_le _, Nat.zero_le _⟩ dX11_remains_20) hS (fun H locs hP hS hW z7 => ?_)
    refine lv_if_ne (tgt := 28) hx hb dX11_remains_23 (by decide) (fun c8 => ?_) (fun c8 => ?_)
    · have hf := if_f c8 hf
      refine lv_aload_n hx hb dX11_remains_28 rfl (lv_at hl 1 rfl) ?_
      refine gf_X11_19 C hP h_a k_a dX11_remains_29 ?_
      obtain ⟨t9, et9, hf⟩ := bd1_e hf
      obtain ⟨h_t9, k_t9⟩ := wt_r hW h_a k_a (by decide) et9
      have k_t9 : G.2.1 t9 = 0 := k_t9
      rw [et9]
      refine lv_aload_n hx hb dX11_remains_32 rfl (lv_at hl 0 rfl) ?_
      refine lv_aload_n hx hb dX11_remains_33 rfl (lv_at hl 1 rfl) ?_
      refine gf_X11_40 C hP h_a k_a dX11_remains_34 ?_
      obtain ⟨t10, et10, hf⟩ := bd1_e hf
      obtain ⟨h_t10, k_t10⟩ := wt_r hW h_a k_a (by decide) et10
      have k_t10 : G.2.1 t10 = 7 := k_t10
      rw [et10]
      refine gf_X11_193 C hP h_t10 k_t10 dX11_remains_37 ?_
      refine lv_iload_n hx hb dX11_remains_40 rfl (lv_at hl 2 rfl) ?_
      refine lv_iload_n hx hb dX11_remains_41 rfl (lv_at hl 3 rfl) ?_
      refine lv_aload_n hx hb dX11_remains_42 rfl (lv_at hl 0 rfl) ?_
      refine lv_aload_n hx hb dX11_remains_43 rfl (lv_at hl 1 rfl) ?_
      refine gf_X11_19 C hP h_a k_a dX11_remains_44 ?_
      obtain ⟨t11, et11, hf⟩ := bd1_e hf
      obtain ⟨h_t11, k_t11⟩ := wt_r hW h_a k_a (by decide) et11
      have k_t11 : G.2.1 t11 = 0 := k_t11
      rw [et11]
      refine gf_X11_196 C hP h_t11 k_t11 dX11_remains_47 ?_
      refine x_aft_i (x_runV (As := [.int (gI S6 1 t11)]) (rest := [.int p1, .int p0, .int (gI S6 702 t10), .ref t3, .ref t9]) C hP hS (c_X2_turned (l := l) C.2.2.2.2.2.2.2.2.2.1 hW h_t3 k_t3 rfl H.size) h_t3 k_t3 (by decide) rfl rfl km_X2_turned ki_X2_turned qm_X11_250 ⟨(Nat.le_of_ble_eq_true rfl), (Nat.le_of_ble_eq_true rfl)⟩ rfl hl.1 rfl (Nat.le_of_ble_eq_true rfl) ⟨Nat.zero_le _, Nat.zero_le _⟩ dX11_remains_50) hS (fun H locs hP hS hW => ?_)
      obtain ⟨S12, eS12, hf⟩ := bd1_e hf
      refine x_aft_v (x_runV (As := [.ref t3, .int (gI S6 702 t10), .int p0, .int p1, .int (s_X2_turned t3 (gI S6 1 t11) S6)]) (rest := []) C hP hS (c_X0_add (l := l) C.2.2.2.2.2.2.2.2.2.1 hW h_t9 k_t9 h_t3 k_t3 eS12 H.size) h_t9 k_t9 (by decide) rfl rfl km_X0_add ki_X0_add qm_X11_305 ⟨(Nat.le_of_ble_eq_true rfl), (Nat.le_of_ble_eq_true rfl)⟩ rfl hl.1 rfl (Nat.le_of_ble_eq_true rfl) ⟨Nat.zero_le _, Nat.zero_le _⟩ dX11_remains_53) hS (fun H locs hP hS hW => ?_)
      refine lv_aload_n hx hb dX11_remains_56 rfl (lv_at hl 1 rfl) ?_
      refine gf_X11_19 C hP h_a k_a dX11_remains_57 ?_
      obtain ⟨t13, et13, hf⟩ := bd1_e hf
      obtain ⟨h_t13, k_t13⟩ := wt_r hW h_a k_a (by decide) et13
      have k_t13 : G.2.1 t13 = 0 := k_t13
      rw [et13]
      refine gf_X11_196 C hP h_t13 k_t13 dX11_remains_60 ?_
      cases hf
      exact x_reti C hP hS hW dX11_remains_63
    · have hf := if_t c8 hf
      refine lv_iconst (v := (-1)) hx hb dX11_remains_26 rfl ?_
      cases hf
      exact x_reti C hP hS hW dX11_remains_27
def s_X11_results (a : Nat) (S : HS) : Option Int32 :=
  bd1 (gR S 1102 a) fun t1 =>
  some (gI S 111 t1)
set_option maxRecDepth 100000 in
set_option maxHeartbeats 4000000 in
theorem c_X11_results {l : Launch} {V : EV} {G : GS} {S : HS} {a : Nat} {r : Int32} (hN : G.1.Nodup) (hW : WT G S) (h_a : a ∈ G.1) (k_a : G.2.1 a = 11) (hf : s_X11_results a S = some r) : MetI l yX11_results cX11_results 1 .int 0 0 V G S [.ref a] r S := by
  intro sz
  refine x_in RX11 rfl (by decide +kernel) hN (Nat.le_of_ble_eq_true rfl) (fun p e s m args below meth c ls hsz hargs hnm C hP hS hl => ?_)
  subst hsz
  have hx := C.1
  have hb := C.2.1
  have hl : lv_has ls 1 [(0, .ref a)] := hl
  unfold s_X11_results at hf
  refine lv_aload_n hx hb dX11_results_0 rfl (lv_at hl 0 rfl) ?_
  refine gf_X11_26 C hP h_a k_a dX11_results_1 ?_
  obtain ⟨t1, et1, hf⟩ := bd1_e hf
  obtain ⟨h_t1, k_t1⟩ := wt_r hW h_a k_a (by decide) et1
  have k_t1 : G.2.1 t1 = 1 := k_t1
  rw [et1]
  refine gf_X11_366 C hP h_t1 k_t1 dX11_results_4 ?_
  cases hf
  exact x_reti C hP hS hW dX11_results_7
def s_X11_root_J88 (N : Nat → Nat) (F : Nat) (k32 : Nat → Nat → Int32 → Int32 → HS → Option (Int32 × HS)) (v0 : Nat) (v2 : Nat) (v3 : Int32) (v4 : Int32) (S : HS) : Option (Int32 × HS) :=
  bnd (v4 + Int32.ofInt (-1) : Int32) fun x16 =>
  k32 v0 v2 v3 x16 S
def s_X11_root_L32 (N : Nat → Nat) (F : Nat) : Nat → Nat → Nat → Int32 → Int32 → HS → Option (Int32 × HS)
  | 0, _, _, _, _, _ => none
  | n + 1, v0, v2, v3, v4, S => if v4 < (0 : Int32) then
  some ((-1), S)
  else
  bd1 (gR S 1101 v0) fun t10 =>
  bd1 (gR S 1104 v0) fun t11 =>
  bd1 (s_X0_add F t10 v2 (gI S 702 t11) v4 v4 v3 S) fun S12 =>
  bd1 (gR S12 1101 v0) fun t13 =>
  if (s_X2_isNan v2 (gI S12 1 t13) S12) = (0 : Int32) then
  bd1 (gR S12 1101 v0) fun t17 =>
  if (0 : Int32) < (s_X2_rank v2 (gI S12 1 t17) S12) then
  s_X11_root_J88 N F (s_X11_root_L32 N F n) v0 v2 v3 v4 S12
  else
  some (v4, S12)
  else
  s_X11_root_J88 N F (s_X11_root_L32 N F n) v0 v2 v3 v4 S12
def s_X11_root (N : Nat → Nat) (F : Nat) (a : Nat) (p0 : Int32) (S : HS) : Option (Int32 × HS) :=
  bd1 (s_X11_formInUse N a S) fun r1 =>
  mq r1
  (some ((-1), S))
  fun t3 =>
  bd1 (s_X11_isSmallHolding N a p0 p0 S) fun r4 =>
  if r4 = (0 : Int32) then
  some ((-1), S)
  else
  bnd (s_X2_turned t3 p0 S : Int32) fun x7 =>
  bnd (s_X2_top t3 S : Int32) fun x8 =>
  s_X11_root_L32 N F F a t3 x7 x8 S
set_option maxRecDepth 100000 in
set_option maxHeartbeats 4000000 in
theorem b_X11_root_88 {p : Program} {l : Launch} {e : Env} {s : State} {m : MethodId} {args : Array Value} {below : List Frame} {meth : Method} {c : Code} {V : EV} {G : GS} {r : Int32} {S' : HS} {F : Nat} (C : CX p s m args meth c RX11 cX11_root 5 (some .int) V G) {k32 : Nat → Nat → Int32 → Int32 → HS → Option (Int32 × HS)} (hk32 : ∀ (v0 : Nat) (v2 : Nat) (v3 : Int32) (v4 : Int32) (h_v0 : v0 ∈ G.1) (k_v0 : G.2.1 v0 = 11) (h_v2 : v2 ∈ G.1) (k_v2 : G.2.1 v2 = 2) (S : HS) (H : Heap) (locs : List Loc) (ls : Array Slot), k32 v0 v2 v3 v4 S = some (r, S') → HP V G S H → va_S (AG G s.heap.size) s.heap H locs → WT G S → lv_has ls 5 [(0, .ref v0), (2, .ref v2), (3, .int v3), (4, .int v4)] → W p l e (RM 5 172) s m args below meth c H locs 0 0 (MQ below (QI V G S' r s.heap.size) args s 0 0 (AG G s.heap.size)) (F0 m 32 ls [])) : ∀ (v0 : Nat) (v2 : Nat) (v3 : Int32) (v4 : Int32) (h_v0 : v0 ∈ G.1) (k_v0 : G.2.1 v0 = 11) (h_v2 : v2 ∈ G.1) (k_v2 : G.2.1 v2 = 2) (S : HS) (H : Heap) (locs : List Loc) (ls : Array Slot), s_X11_root_J88 G.2.2 F k32 v0 v2 v3 v4 S = some (r, S') → HP V G S H → va_S (AG G s.heap.size) s.heap H locs → WT G S → lv_has ls 5 [(0, .ref v0), (2, .ref v2), (3, .int v3), (4, .int v4)] → W p l e (RM 5 172) s m args below meth c H locs 0 0 (MQ below (QI V G S' r s.heap.size) args s 0 0 (AG G s.heap.size)) (F0 m 88 ls []) := by
  intro v0 v2 v3 v4 h_v0 k_v0 h_v2 k_v2 S H locs ls hf hP hS hW hl
  have hx := C.1
  have hb := C.2.1
  unfold s_X11_root_J88 at hf
  obtain ⟨x16, ex16, hf⟩ := bnd_e hf
  refine lv_iinc (v := x16) (lv' := [(4, .int x16), (0, .ref v0), (2, .ref v2), (3, .int v3)]) hx hb dX11_root_88 hl (k := 3) rfl ex16.symm (by decide) rfl (fun ls hl => ?_)
  refine lv_goto (tgt := 32) hx hb dX11_root_91 (by decide) ?_
  exact hk32 v0 v2 v3 x16 h_v0 k_v0 h_v2 k_v2 S H locs _ hf hP hS hW (lv_sub hl [1, 2, 3, 0] rfl)
set_option maxRecDepth 100000 in
set_option maxHeartbeats 4000000 in
theorem b_X11_root_32 {p : Program} {l : Launch} {e : Env} {s : State} {m : MethodId} {args : Array Value} {below : List Frame} {meth : Method} {c : Code} {V : EV} {G : GS} {r : Int32} {S' : HS} {F : Nat} (C : CX p s m args meth c RX11 cX11_root 5 (some .int) V G) : ∀ n : Nat, ∀ (v0 : Nat) (v2 : Nat) (v3 : Int32) (v4 : Int32) (h_v0 : v0 ∈ G.1) (k_v0 : G.2.1 v0 = 11) (h_v2 : v2 ∈ G.1) (k_v2 : G.2.1 v2 = 2) (S : HS) (H : Heap) (locs : List Loc) (ls : Array Slot), s_X11_root_L32 G.2.2 F n v0 v2 v3 v4 S = some (r, S') → HP V G S H → va_S (AG G s.heap.size) s.heap H locs → WT G S → lv_has ls 5 [(0, .ref v0), (2, .ref v2), (3, .int v3), (4, .int v4)] → W p l e (RM 5 172) s m args below meth c H locs 0 0 (MQ below (QI V G S' r s.heap.size) args s 0 0 (AG G s.heap.size)) (F0 m 32 ls []) := by
  intro n
  induction n with
  | zero =>
    intro v0 v2 v3 v4 h_v0 k_v0 h_v2 k_v2 S H locs ls hf
    rw [s_X11_root_L32] at hf
    cases hf
  | succ n ih =>
    intro v0 v2 v3 v4 h_v0 k_v0 h_v2 k_v2 S H locs ls hf hP hS hW hl
    have hx := C.1
    have hb := C.2.1
    rw [s_X11_root_L32] at hf
    refine lv_iload hx hb dX11_root_32 (lv_at hl 3 rfl) ?_
    refine lv_if_lt (tgt := 94) hx hb dX11_root_34 (by decide) (fun c9 => ?_) (fun c9 => ?_)
    · have hf := if_t c9 hf
      refine lv_iconst (v := (-1)) hx hb dX11_root_94 rfl ?_
      cases hf
      exact x_reti C hP hS hW dX11_root_95
    · have hf := if_f c9 hf
      refine lv_aload_n hx hb dX11_root_37 rfl (lv_at hl 0 rfl) ?_
      refine gf_X11_19 C hP h_v0 k_v0 dX11_root_38 ?_
      obtain ⟨t10, et10, hf⟩ := bd1_e hf
      obtain ⟨h_t10, k_t10⟩ := wt_r hW h_v0 k_v0 (by decide) et10
      have k_t10 : G.2.1 t10 = 0 := k_t10
      rw [et10]
      refine lv_aload_n hx hb dX11_root_41 rfl (lv_at hl 1 rfl) ?_
      refine lv_aload_n hx hb dX11_root_42 rfl (lv_at hl 0 rfl) ?_
      refine gf_X11_40 C hP h_v0 k_v0 dX11_root_43 ?_
      obtain ⟨t11, et11, hf⟩ := bd1_e hf
      obtain ⟨h_t11, k_t11⟩ := wt_r hW h_v0 k_v0 (by decide) et11
      have k_t11 : G.2.1 t11 = 7 := k_t11
      rw [et11]
      refine gf_X11_193 C hP h_t11 k_t11 dX11_root_46 ?_
      refine lv_iload hx hb dX11_root_49 (lv_at hl 3 rfl) ?_
      refine lv_iload hx hb dX11_root_51 (lv_at hl 3 rfl) ?_
      refine lv_iload_n hx hb dX11_root_53 rfl (lv_at hl 2 rfl) ?_
      obtain ⟨S12, eS12, hf⟩ := bd1_e hf
      refine x_aft_v (x_runV (As := [.ref v2, .int (gI S 702 t11), .int v4, .int v4, .int v3]) (rest := []) C hP hS (c_X0_add (l := l) C.2.2.2.2.2.2.2.2.2.1 hW h_t10 k_t10 h_v2 k_v2 eS12 H.size) h_t10 k_t10 (by decide) rfl rfl km_X0_add ki_X0_add qm_X11_305 ⟨(Nat.le_of_ble_eq_true rfl), (Nat.le_of_ble_eq_true rfl)⟩ rfl hl.1 rfl (Nat.le_of_ble_eq_true rfl) ⟨Nat.zero_le _, Nat.zero_le _⟩ dX11_root_54) hS (fun H locs hP hS hW => ?_)
      refine lv_aload_n hx hb dX11_root_57 rfl (lv_at hl 1 rfl) ?_
      refine lv_aload_n hx hb dX11_root_58 rfl (lv_at hl 0 rfl) ?_
      refine gf_X11_19 C hP h_v0 k_v0 dX11_root_59 ?_
      obtain ⟨t13, et13, hf⟩ := bd1_e hf
      obtain ⟨h_t13, k_t13⟩ := wt_r hW h_v0 k_v0 (by decide) et13
      have k_t13 : G.2.1 t13 = 0 := k_t13
      rw [et13]
      refine gf_X11_196 C hP h_t13 k_t13 dX11_root_62 ?_
      refine x_aft_z (x_runV (As := [.int (gI S12 1 t13)]) (rest := []) C hP hS (c_X2_isNan (l := l) C.2.2.2.2.2.2.2.2.2.1 hW h_v2 k_v2 rfl H.size) h_v2 k_v2 (by decide) rfl rfl km_X2_isNan ki_X2_isNan qm_X11_241 ⟨(Nat.le_of_ble_eq_true rfl), (Nat.le_of_ble_eq_true rfl)⟩ rfl hl.1 rfl (Nat.le_of_ble_eq_true rfl) ⟨Nat.zero_le _, Nat.zero_le _⟩ dX11_root_65) hS (fun H locs hP hS hW z14 => ?_)
      refine lv_if_ne (tgt := 88) hx hb dX11_root_68 (by decide) (fun c15 => ?_) (fun c15 => ?_)
      · have hf := if_f c15 hf
        exact b_X11_root_88 C ih v0 v2 v3 v4 h_v0 k_v0 h_v2 k_v2 S12 H locs _ hf hP hS hW (lv_sub hl [0, 1, 2, 3] rfl)
      · have hf := if_t c15 hf
        refine lv_aload_n hx hb dX11_root_71 rfl (lv_at hl 1 rfl) ?_
        refine lv_aload_n hx hb dX11_root_72 rfl (lv_at hl 0 rfl) ?_
        refine gf_X11_19 C hP h_v0 k_v0 dX11_root_73 ?_
        obtain ⟨t17, et17, hf⟩ := bd1_e hf
        obtain ⟨h_t17, k_t17⟩ := wt_r hW h_v0 k_v0 (by decide) et17
        have k_t17 : G.2.1 t17 = 0 := k_t17
        rw [et17]
        refine gf_X11_196 C hP h_t17 k_t17 dX11_root_76 ?_
        refine x_aft_i (x_runV (As := [.int (gI S12 1 t17)]) (rest := []) C hP hS (c_X2_rank (l := l) C.2.2.2.2.2.2.2.2.2.1 hW h_v2 k_v2 rfl H.size) h_v2 k_v2 (by decide) rfl rfl km_X2_rank ki_X2_rank qm_X11_244 ⟨(Nat.le_of_ble_eq_true rfl), (Nat.le_of_ble_eq_true rfl)⟩ rfl hl.1 rfl (Nat.le_of_ble_eq_true rfl) ⟨Nat.zero_le _, Nat.zero_le _⟩ dX11_root_79) hS (fun H locs hP hS hW => ?_)
        refine lv_if_gt (tgt := 88) hx hb dX11_root_82 (by decide) (fun c18 => ?_) (fun c18 => ?_)
        · have hf := if_t c18 hf
          exact b_X11_root_88 C ih v0 v2 v3 v4 h_v0 k_v0 h_v2 k_v2 S12 H locs _ hf hP hS hW (lv_sub hl [0, 1, 2, 3] rfl)
        · have hf := if_f c18 hf
          refine lv_iload hx hb dX11_root_85 (lv_at hl 3 rfl) ?_
          cases hf
          exact x_reti C hP hS hW dX11_root_87
set_option maxRecDepth 100000 in
set_option maxHeartbeats 4000000 in
theorem c_X11_root {l : Launch} {V : EV} {G : GS} {S : HS} {F : Nat} {a : Nat} {p0 : Int32} {r : Int32} {S' : HS} (hN : G.1.Nodup) (hW : WT G S) (h_a : a ∈ G.1) (k_a : G.2.1 a = 11) (hf : s_X11_root G.2.2 F a p0 S = some (r, S')) : MetI l yX11_root cX11_root 5 .int 5 172 V G S [.ref a, .int p0] r S' := by
  intro sz
  refine x_in RX11 rfl (by decide +kernel) hN (Nat.le_of_ble_eq_true rfl) (fun p e s m args below meth c ls hsz hargs hnm C hP hS hl => ?_)
  subst hsz
  have hx := C.1
  have hb := C.2.1
  have hl : lv_has ls 5 [(0, .ref a), (1, .int p0)] := hl
  unfold s_X11_root at hf
  refine lv_aload_n hx hb dX11_root_0 rfl (lv_at hl 0 rfl) ?_
  obtain ⟨r1, er1, hf⟩ := bd1_e hf
  refine x_aft_r (x_runV (As := []) (rest := []) C hP hS (c_X11_formInUse (l := l) C.2.2.2.2.2.2.2.2.2.1 hW h_a k_a er1 s.heap.size) h_a k_a (by decide) rfl rfl km_X11_formInUse ki_X11_formInUse qm_X11_162 ⟨(Nat.le_of_ble_eq_true rfl), (Nat.le_of_ble_eq_true rfl)⟩ rfl hl.1 rfl (Nat.le_of_ble_eq_true rfl) ⟨Nat.zero_le _, Nat.zero_le _⟩ dX11_root_1) hS (fun H locs hP hS hW q2 => ?_)
  cases r1 with
  | none =>
    have hf := mq_n rfl hf
    show W _ _ _ _ _ _ _ _ _ _ _ _ _ _ _ (F0 m 4 ls (.null :: []))
    refine lv_astore_nN (lv' := [(2, .null), (0, .ref a), (1, .int p0)]) hx hb dX11_root_4 rfl hl (by decide) rfl (fun ls hl => ?_)
    refine lv_aload_nN hx hb dX11_root_5 rfl (lv_at hl 0 rfl) ?_
    refine lv_ifnullN (tgt := 18) hx hb dX11_root_6 (by decide) ?_
    refine lv_iconst (v := (-1)) hx hb dX11_root_18 rfl ?_
    cases hf
    exact x_reti C hP hS hW dX11_root_19
  | some t3 =>
    have hf := mq_s rfl hf
    obtain ⟨h_t3, k_t3⟩ := q2 _ rfl
    show W _ _ _ _ _ _ _ _ _ _ _ _ _ _ _ (F0 m 4 ls (.ref t3 :: []))
    refine lv_astore_n (lv' := [(2, .ref t3), (0, .ref a), (1, .int p0)]) hx hb dX11_root_4 rfl hl (by decide) rfl (fun ls hl => ?_)
    refine lv_aload_n hx hb dX11_root_5 rfl (lv_at hl 0 rfl) ?_
    refine lv_ifnull hx hb dX11_root_6 ?_
    refine lv_aload_n hx hb dX11_root_9 rfl (lv_at hl 1 rfl) ?_
    refine lv_iload_n hx hb dX11_root_10 rfl (lv_at hl 2 rfl) ?_
    refine lv_iload_n hx hb dX11_root_11 rfl (lv_at hl 2 rfl) ?_
    obtain ⟨r4, er4, hf⟩ := bd1_e hf
    refine x_aft_z (x_runV (As := [.int p0, .int p0]) (rest := []) C hP hS (c_X11_isSmallHolding (l := l) C.2.2.2.2.2.2.2.2.2.1 hW h_a k_a er4 H.size) h_a k_a (by decide) rfl rfl km_X11_isSmallHolding ki_X11_isSmallHolding qm_X11_339 ⟨(Nat.le_of_ble_eq_true rfl), (Nat.le_of_ble_eq_true rfl)⟩ rfl hl.1 rfl (Nat.le_of_ble_eq_true rfl) ⟨Nat.zero_le _, Nat.zero_le _⟩ dX11_root_12) hS (fun H locs hP hS hW z5 => ?_)
    refine lv_if_ne (tgt := 20) hx hb dX11_root_15 (by decide) (fun c6 => ?_) (fun c6 => ?_)
    · have hf := if_f c6 hf
      refine lv_aload_n hx hb dX11_root_20 rfl (lv_at hl 0 rfl) ?_
      refine lv_iload_n hx hb dX11_root_21 rfl (lv_at hl 2 rfl) ?_
      refine x_aft_i (x_runV (As := [.int p0]) (rest := []) C hP hS (c_X2_turned (l := l) C.2.2.2.2.2.2.2.2.2.1 hW h_t3 k_t3 rfl H.size) h_t3 k_t3 (by decide) rfl rfl km_X2_turned ki_X2_turned qm_X11_250 ⟨(Nat.le_of_ble_eq_true rfl), (Nat.le_of_ble_eq_true rfl)⟩ rfl hl.1 rfl (Nat.le_of_ble_eq_true rfl) ⟨Nat.zero_le _, Nat.zero_le _⟩ dX11_root_22) hS (fun H locs hP hS hW => ?_)
      obtain ⟨x7, ex7, hf⟩ := bnd_e hf
      refine nm_i ex7 ?_
      refine lv_istore_n (lv' := [(3, .int x7), (2, .ref t3), (0, .ref a), (1, .int p0)]) hx hb dX11_root_25 rfl hl (by decide) rfl (fun ls hl => ?_)
      refine lv_aload_n hx hb dX11_root_26 rfl (lv_at hl 1 rfl) ?_
      refine x_aft_i (x_runV (As := []) (rest := []) C hP hS (c_X2_top (l := l) C.2.2.2.2.2.2.2.2.2.1 hW h_t3 k_t3 rfl H.size) h_t3 k_t3 (by decide) rfl rfl km_X2_top ki_X2_top qm_X11_350 ⟨(Nat.le_of_ble_eq_true rfl), (Nat.le_of_ble_eq_true rfl)⟩ rfl hl.1 rfl (Nat.le_of_ble_eq_true rfl) ⟨Nat.zero_le _, Nat.zero_le _⟩ dX11_root_27) hS (fun H locs hP hS hW => ?_)
      obtain ⟨x8, ex8, hf⟩ := bnd_e hf
      refine nm_i ex8 ?_
      refine lv_istore (lv' := [(4, .int x8), (3, .int x7), (2, .ref t3), (0, .ref a), (1, .int p0)]) hx hb dX11_root_30 hl (by decide) rfl (fun ls hl => ?_)
      exact b_X11_root_32 C F a t3 x7 x8 h_a k_a h_t3 k_t3 S H locs _ hf hP hS hW (lv_sub hl [3, 2, 1, 0] rfl)
    · have hf := if_t c6 hf
      refine lv_iconst (v := (-1)) hx hb dX11_root_18 rfl ?_
      cases hf
      exact x_reti C hP hS hW dX11_root_19
