section LAWK
variable {p : Program} {l : Launch} {e : Env} {s : State} {m : MethodId} {args : Array Value} {below : List Frame} {meth : Method} {c : Code} {H : Heap} {locs : List Loc} {cells slots : Nat} {Q : State → Prop} {V : EV} {b L x y o n : Nat} {xs : Nat → Int32} {i : Int32} {ls : Array Slot}
set_option maxRecDepth 100000 in
set_option maxHeartbeats 4000000 in
theorem k_exact (LC : LCX p s m args meth c V b L xs i n cells slots) (I : INV V s.heap.size x y o n H) (hS : va_S (AG G00 s.heap.size) s.heap H locs) (hl : lv_has ls 7 (LL b x y o i)) (kk : KK p l e s m args below meth c Q V x y o b i n cells slots) : W p l e room_1 s m args below meth c H locs cells slots Q (F0 m 936 ls []) := by
  obtain ⟨C0, hXs, hbl, hn, hin, hce, hsl⟩ := LC
  obtain ⟨GX, GM, SX, SM, A, B, f, hI, hPX, hPM, hPO, hWX, hWM, ⟨h_x, k_x⟩, ⟨h_y, k_y⟩, nX, nM, dX, dM, oX, oM, dO⟩ := I
  have hx := C0.1
  have hb := C0.2.1
  have hbA : ¬ AG G00 s.heap.size b := fun z => z.elim (fun z => nomatch z) (fun z => Nat.not_le.mpr hbl z)
  have cX := cx_w C0 nX (fun q h => (dX q h).1)
  have cM := cx_w C0 nM dM
  have aX := ag_00 (fun q h => (dX q h).1)
  have aM := ag_00 dM
  have fc : cells ≤ room_1.cells := Nat.le_trans (Nat.le_add_right _ _) hce
  have fs : slots ≤ room_1.slots := Nat.le_trans (Nat.le_add_right _ _) hsl
  obtain ⟨v, S', S2', e1, e2, hs⟩ := q_exact hn hI (SCi xs i 1) (SCi xs i 2) (SCi xs i 3)
  refine lv_aload_n hx hb dL_law_936 rfl (lv_at hl 1 rfl) ?_
  refine lv_aload_n hx hb dL_law_937 rfl (lv_at hl 0 rfl) ?_
  refine lv_iload hx hb dL_law_938 (lv_at hl 4 rfl) ?_
  refine lv_iconst (v := 1) hx hb dL_law_940 rfl ?_
  refine lv_iadd hx hb dL_law_941 ?_
  refine va_sld hx hb hXs hbl hbA hS (hin 1 (by decide) (by decide)) dL_law_942 ?_
  refine lv_aload_n hx hb dL_law_943 rfl (lv_at hl 0 rfl) ?_
  refine lv_iload hx hb dL_law_944 (lv_at hl 4 rfl) ?_
  refine lv_iconst (v := 2) hx hb dL_law_946 rfl ?_
  refine lv_iadd hx hb dL_law_947 ?_
  refine va_sld hx hb hXs hbl hbA hS (hin 2 (by decide) (by decide)) dL_law_948 ?_
  refine lv_aload_n hx hb dL_law_949 rfl (lv_at hl 0 rfl) ?_
  refine lv_iload hx hb dL_law_950 (lv_at hl 4 rfl) ?_
  refine lv_iconst (v := 3) hx hb dL_law_952 rfl ?_
  refine lv_iadd hx hb dL_law_953 ?_
  refine va_sld hx hb hXs hbl hbA hS (hin 3 (by decide) (by decide)) dL_law_954 ?_
  refine z_aft_z aX (x_runV (As := [.int (SCi xs i 1), .int (SCi xs i 2), .int (SCi xs i 3)]) (rest := []) cX hPX (by rw [aX]; exact hS) (c_X11_exact (l := l) nX hWX h_x k_x e1 H.size) h_x k_x (by decide) rfl rfl km_X11_exact ki_X11_exact qm_L_102 ⟨(Nat.le_of_ble_eq_true rfl), (Nat.le_of_ble_eq_true rfl)⟩ rfl hl.1 rfl (Nat.le_of_ble_eq_true rfl) ⟨fc, fs⟩ dL_law_955) hS (fun H1 locs1 hPX hS hWX hk => ?_)
  have hPM := hp_dis hPM hk (fun q h1 h2 => (dX q h2).2 h1)
  have hPO := ho_dis hPO hk oX
  refine lv_aload_n hx hb dL_law_958 rfl (lv_at hl 2 rfl) ?_
  refine lv_aload_n hx hb dL_law_959 rfl (lv_at hl 0 rfl) ?_
  refine lv_iload hx hb dL_law_960 (lv_at hl 4 rfl) ?_
  refine lv_iconst (v := 1) hx hb dL_law_962 rfl ?_
  refine lv_iadd hx hb dL_law_963 ?_
  refine va_sld hx hb hXs hbl hbA hS (hin 1 (by decide) (by decide)) dL_law_964 ?_
  refine lv_aload_n hx hb dL_law_965 rfl (lv_at hl 0 rfl) ?_
  refine lv_iload hx hb dL_law_966 (lv_at hl 4 rfl) ?_
  refine lv_iconst (v := 2) hx hb dL_law_968 rfl ?_
  refine lv_iadd hx hb dL_law_969 ?_
  refine va_sld hx hb hXs hbl hbA hS (hin 2 (by decide) (by decide)) dL_law_970 ?_
  refine lv_aload_n hx hb dL_law_971 rfl (lv_at hl 0 rfl) ?_
  refine lv_iload hx hb dL_law_972 (lv_at hl 4 rfl) ?_
  refine lv_iconst (v := 3) hx hb dL_law_974 rfl ?_
  refine lv_iadd hx hb dL_law_975 ?_
  refine va_sld hx hb hXs hbl hbA hS (hin 3 (by decide) (by decide)) dL_law_976 ?_
  refine z_aft_z aM (x_runV (As := [.int (SCi xs i 1), .int (SCi xs i 2), .int (SCi xs i 3)]) (rest := [.int v]) cM hPM (by rw [aM]; exact hS) (c_X12_exact (l := l) nM hWM h_y k_y e2 H1.size) h_y k_y (by decide) rfl rfl km_X12_exact ki_X12_exact qm_L_106 ⟨(Nat.le_of_ble_eq_true rfl), (Nat.le_of_ble_eq_true rfl)⟩ rfl hl.1 rfl (Nat.le_of_ble_eq_true rfl) ⟨fc, fs⟩ dL_law_977) hS (fun H2 locs2 hPM hS hWM hk => ?_)
  have hPX := hp_dis hPX hk (fun q h1 => (dX q h1).2)
  have hPO := ho_dis hPO hk oM
  refine lv_icmp_eq (tgt := 2429) hx hb dL_law_980 (by decide) (fun _ => ?_) (fun c9 => absurd rfl c9)
  exact kk _ _ _ _ _ ⟨GX, GM, S', S2', A, B, f, hs, hPX, hPM, hPO, hWX, hWM, ⟨h_x, k_x⟩, ⟨h_y, k_y⟩, nX, nM, dX, dM, oX, oM, dO⟩ hS hl (Nat.le_add_right _ _) (Nat.le_add_right _ _)
set_option maxRecDepth 100000 in
set_option maxHeartbeats 4000000 in
theorem k_spread (LC : LCX p s m args meth c V b L xs i n cells slots) (I : INV V s.heap.size x y o n H) (hS : va_S (AG G00 s.heap.size) s.heap H locs) (hl : lv_has ls 7 (LL b x y o i)) (kk : KK p l e s m args below meth c Q V x y o b i n cells slots) : W p l e room_1 s m args below meth c H locs cells slots Q (F0 m 985 ls []) := by
  obtain ⟨C0, hXs, hbl, hn, hin, hce, hsl⟩ := LC
  obtain ⟨GX, GM, SX, SM, A, B, f, hI, hPX, hPM, hPO, hWX, hWM, ⟨h_x, k_x⟩, ⟨h_y, k_y⟩, nX, nM, dX, dM, oX, oM, dO⟩ := I
  have hx := C0.1
  have hb := C0.2.1
  have hbA : ¬ AG G00 s.heap.size b := fun z => z.elim (fun z => nomatch z) (fun z => Nat.not_le.mpr hbl z)
  have cX := cx_w C0 nX (fun q h => (dX q h).1)
  have cM := cx_w C0 nM dM
  have aX := ag_00 (fun q h => (dX q h).1)
  have aM := ag_00 dM
  have fc : cells ≤ room_1.cells := Nat.le_trans (Nat.le_add_right _ _) hce
  have fs : slots ≤ room_1.slots := Nat.le_trans (Nat.le_add_right _ _) hsl
  obtain ⟨v, S', S2', e1, e2, hs⟩ := q_spread hn hI (SCi xs i 1) (SCi xs i 2) (SCi xs i 3)
  refine lv_aload_n hx hb dL_law_985 rfl (lv_at hl 1 rfl) ?_
  refine lv_aload_n hx hb dL_law_986 rfl (lv_at hl 0 rfl) ?_
  refine lv_iload hx hb dL_law_987 (lv_at hl 4 rfl) ?_
  refine lv_iconst (v := 1) hx hb dL_law_989 rfl ?_
  refine lv_iadd hx hb dL_law_990 ?_
  refine va_sld hx hb hXs hbl hbA hS (hin 1 (by decide) (by decide)) dL_law_991 ?_
  refine lv_aload_n hx hb dL_law_992 rfl (lv_at hl 0 rfl) ?_
  refine lv_iload hx hb dL_law_993 (lv_at hl 4 rfl) ?_
  refine lv_iconst (v := 2) hx hb dL_law_995 rfl ?_
  refine lv_iadd hx hb dL_law_996 ?_
  refine va_sld hx hb hXs hbl hbA hS (hin 2 (by decide) (by decide)) dL_law_997 ?_
  refine lv_aload_n hx hb dL_law_998 rfl (lv_at hl 0 rfl) ?_
  refine lv_iload hx hb dL_law_999 (lv_at hl 4 rfl) ?_
  refine lv_iconst (v := 3) hx hb dL_law_1001 rfl ?_
  refine lv_iadd hx hb dL_law_1002 ?_
  refine va_sld hx hb hXs hbl hbA hS (hin 3 (by decide) (by decide)) dL_law_1003 ?_
  refine z_aft_i aX (x_runV (As := [.int (SCi xs i 1), .int (SCi xs i 2), .int (SCi xs i 3)]) (rest := []) cX hPX (by rw [aX]; exact hS) (c_X11_spread (l := l) nX hWX h_x k_x e1 H.size) h_x k_x (by decide) rfl rfl km_X11_spread ki_X11_spread qm_L_107 ⟨(Nat.le_of_ble_eq_true rfl), (Nat.le_of_ble_eq_true rfl)⟩ rfl hl.1 rfl (Nat.le_of_ble_eq_true rfl) ⟨fc, fs⟩ dL_law_1004) hS (fun H1 locs1 hPX hS hWX hk => ?_)
  have hPM := hp_dis hPM hk (fun q h1 h2 => (dX q h2).2 h1)
  have hPO := ho_dis hPO hk oX
  refine lv_aload_n hx hb dL_law_1007 rfl (lv_at hl 2 rfl) ?_
  refine lv_aload_n hx hb dL_law_1008 rfl (lv_at hl 0 rfl) ?_
  refine lv_iload hx hb dL_law_1009 (lv_at hl 4 rfl) ?_
  refine lv_iconst (v := 1) hx hb dL_law_1011 rfl ?_
  refine lv_iadd hx hb dL_law_1012 ?_
  refine va_sld hx hb hXs hbl hbA hS (hin 1 (by decide) (by decide)) dL_law_1013 ?_
  refine lv_aload_n hx hb dL_law_1014 rfl (lv_at hl 0 rfl) ?_
  refine lv_iload hx hb dL_law_1015 (lv_at hl 4 rfl) ?_
  refine lv_iconst (v := 2) hx hb dL_law_1017 rfl ?_
  refine lv_iadd hx hb dL_law_1018 ?_
  refine va_sld hx hb hXs hbl hbA hS (hin 2 (by decide) (by decide)) dL_law_1019 ?_
  refine lv_aload_n hx hb dL_law_1020 rfl (lv_at hl 0 rfl) ?_
  refine lv_iload hx hb dL_law_1021 (lv_at hl 4 rfl) ?_
  refine lv_iconst (v := 3) hx hb dL_law_1023 rfl ?_
  refine lv_iadd hx hb dL_law_1024 ?_
  refine va_sld hx hb hXs hbl hbA hS (hin 3 (by decide) (by decide)) dL_law_1025 ?_
  refine z_aft_i aM (x_runV (As := [.int (SCi xs i 1), .int (SCi xs i 2), .int (SCi xs i 3)]) (rest := [.int v]) cM hPM (by rw [aM]; exact hS) (c_X12_spread (l := l) nM hWM h_y k_y e2 H1.size) h_y k_y (by decide) rfl rfl km_X12_spread ki_X12_spread qm_L_110 ⟨(Nat.le_of_ble_eq_true rfl), (Nat.le_of_ble_eq_true rfl)⟩ rfl hl.1 rfl (Nat.le_of_ble_eq_true rfl) ⟨fc, fs⟩ dL_law_1026) hS (fun H2 locs2 hPM hS hWM hk => ?_)
  have hPX := hp_dis hPX hk (fun q h1 => (dX q h1).2)
  have hPO := ho_dis hPO hk oM
  refine lv_icmp_eq (tgt := 2429) hx hb dL_law_1029 (by decide) (fun _ => ?_) (fun c9 => absurd rfl c9)
  exact kk _ _ _ _ _ ⟨GX, GM, S', S2', A, B, f, hs, hPX, hPM, hPO, hWX, hWM, ⟨h_x, k_x⟩, ⟨h_y, k_y⟩, nX, nM, dX, dM, oX, oM, dO⟩ hS hl (Nat.le_add_right _ _) (Nat.le_add_right _ _)
set_option maxRecDepth 100000 in
set_option maxHeartbeats 4000000 in
theorem k_twice (LC : LCX p s m args meth c V b L xs i n cells slots) (I : INV V s.heap.size x y o n H) (hS : va_S (AG G00 s.heap.size) s.heap H locs) (hl : lv_has ls 7 (LL b x y o i)) (kk : KK p l e s m args below meth c Q V x y o b i n cells slots) : W p l e room_1 s m args below meth c H locs cells slots Q (F0 m 1034 ls []) := by
  obtain ⟨C0, hXs, hbl, hn, hin, hce, hsl⟩ := LC
  obtain ⟨GX, GM, SX, SM, A, B, f, hI, hPX, hPM, hPO, hWX, hWM, ⟨h_x, k_x⟩, ⟨h_y, k_y⟩, nX, nM, dX, dM, oX, oM, dO⟩ := I
  have hx := C0.1
  have hb := C0.2.1
  have hbA : ¬ AG G00 s.heap.size b := fun z => z.elim (fun z => nomatch z) (fun z => Nat.not_le.mpr hbl z)
  have cX := cx_w C0 nX (fun q h => (dX q h).1)
  have cM := cx_w C0 nM dM
  have aX := ag_00 (fun q h => (dX q h).1)
  have aM := ag_00 dM
  have fc : cells ≤ room_1.cells := Nat.le_trans (Nat.le_add_right _ _) hce
  have fs : slots ≤ room_1.slots := Nat.le_trans (Nat.le_add_right _ _) hsl
  obtain ⟨v, S', S2', e1, e2, hs⟩ := q_twice hn hI (SCi xs i 1) (SCi xs i 2) (SCi xs i 3)
  refine lv_aload_n hx hb dL_law_1034 rfl (lv_at hl 1 rfl) ?_
  refine lv_aload_n hx hb dL_law_1035 rfl (lv_at hl 0 rfl) ?_
  refine lv_iload hx hb dL_law_1036 (lv_at hl 4 rfl) ?_
  refine lv_iconst (v := 1) hx hb dL_law_1038 rfl ?_
  refine lv_iadd hx hb dL_law_1039 ?_
  refine va_sld hx hb hXs hbl hbA hS (hin 1 (by decide) (by decide)) dL_law_1040 ?_
  refine lv_aload_n hx hb dL_law_1041 rfl (lv_at hl 0 rfl) ?_
  refine lv_iload hx hb dL_law_1042 (lv_at hl 4 rfl) ?_
  refine lv_iconst (v := 2) hx hb dL_law_1044 rfl ?_
  refine lv_iadd hx hb dL_law_1045 ?_
  refine va_sld hx hb hXs hbl hbA hS (hin 2 (by decide) (by decide)) dL_law_1046 ?_
  refine lv_aload_n hx hb dL_law_1047 rfl (lv_at hl 0 rfl) ?_
  refine lv_iload hx hb dL_law_1048 (lv_at hl 4 rfl) ?_
  refine lv_iconst (v := 3) hx hb dL_law_1050 rfl ?_
  refine lv_iadd hx hb dL_law_1051 ?_
  refine va_sld hx hb hXs hbl hbA hS (hin 3 (by decide) (by decide)) dL_law_1052 ?_
  refine z_aft_z aX (x_runV (As := [.int (SCi xs i 1), .int (SCi xs i 2), .int (SCi xs i 3)]) (rest := []) cX hPX (by rw [aX]; exact hS) (c_X11_twice (l := l) nX hWX h_x k_x e1 H.size) h_x k_x (by decide) rfl rfl km_X11_twice ki_X11_twice qm_L_111 ⟨(Nat.le_of_ble_eq_true rfl), (Nat.le_of_ble_eq_true rfl)⟩ rfl hl.1 rfl (Nat.le_of_ble_eq_true rfl) ⟨fc, fs⟩ dL_law_1053) hS (fun H1 locs1 hPX hS hWX hk => ?_)
  have hPM := hp_dis hPM hk (fun q h1 h2 => (dX q h2).2 h1)
  have hPO := ho_dis hPO hk oX
  refine lv_aload_n hx hb dL_law_1056 rfl (lv_at hl 2 rfl) ?_
  refine lv_aload_n hx hb dL_law_1057 rfl (lv_at hl 0 rfl) ?_
  refine lv_iload hx hb dL_law_1058 (lv_at hl 4 rfl) ?_
  refine lv_iconst (v := 1) hx hb dL_law_1060 rfl ?_
  refine lv_iadd hx hb dL_law_1061 ?_
  refine va_sld hx hb hXs hbl hbA hS (hin 1 (by decide) (by decide)) dL_law_1062 ?_
  refine lv_aload_n hx hb dL_law_1063 rfl (lv_at hl 0 rfl) ?_
  refine lv_iload hx hb dL_law_1064 (lv_at hl 4 rfl) ?_
  refine lv_iconst (v := 2) hx hb dL_law_1066 rfl ?_
  refine lv_iadd hx hb dL_law_1067 ?_
  refine va_sld hx hb hXs hbl hbA hS (hin 2 (by decide) (by decide)) dL_law_1068 ?_
  refine lv_aload_n hx hb dL_law_1069 rfl (lv_at hl 0 rfl) ?_
  refine lv_iload hx hb dL_law_1070 (lv_at hl 4 rfl) ?_
  refine lv_iconst (v := 3) hx hb dL_law_1072 rfl ?_
  refine lv_iadd hx hb dL_law_1073 ?_
  refine va_sld hx hb hXs hbl hbA hS (hin 3 (by decide) (by decide)) dL_law_1074 ?_
  refine z_aft_z aM (x_runV (As := [.int (SCi xs i 1), .int (SCi xs i 2), .int (SCi xs i 3)]) (rest := [.int v]) cM hPM (by rw [aM]; exact hS) (c_X12_twice (l := l) nM hWM h_y k_y e2 H1.size) h_y k_y (by decide) rfl rfl km_X12_twice ki_X12_twice qm_L_114 ⟨(Nat.le_of_ble_eq_true rfl), (Nat.le_of_ble_eq_true rfl)⟩ rfl hl.1 rfl (Nat.le_of_ble_eq_true rfl) ⟨fc, fs⟩ dL_law_1075) hS (fun H2 locs2 hPM hS hWM hk => ?_)
  have hPX := hp_dis hPX hk (fun q h1 => (dX q h1).2)
  have hPO := ho_dis hPO hk oM
  refine lv_icmp_eq (tgt := 2429) hx hb dL_law_1078 (by decide) (fun _ => ?_) (fun c9 => absurd rfl c9)
  exact kk _ _ _ _ _ ⟨GX, GM, S', S2', A, B, f, hs, hPX, hPM, hPO, hWX, hWM, ⟨h_x, k_x⟩, ⟨h_y, k_y⟩, nX, nM, dX, dM, oX, oM, dO⟩ hS hl (Nat.le_add_right _ _) (Nat.le_add_right _ _)
set_option maxRecDepth 100000 in
set_option maxHeartbeats 4000000 in
theorem k_remains (LC : LCX p s m args meth c V b L xs i n cells slots) (I : INV V s.heap.size x y o n H) (hS : va_S (AG G00 s.heap.size) s.heap H locs) (hl : lv_has ls 7 (LL b x y o i)) (kk : KK p l e s m args below meth c Q V x y o b i n cells slots) : W p l e room_1 s m args below meth c H locs cells slots Q (F0 m 1083 ls []) := by
  obtain ⟨C0, hXs, hbl, hn, hin, hce, hsl⟩ := LC
  obtain ⟨GX, GM, SX, SM, A, B, f, hI, hPX, hPM, hPO, hWX, hWM, ⟨h_x, k_x⟩, ⟨h_y, k_y⟩, nX, nM, dX, dM, oX, oM, dO⟩ := I
  have hx := C0.1
  have hb := C0.2.1
  have hbA : ¬ AG G00 s.heap.size b := fun z => z.elim (fun z => nomatch z) (fun z => Nat.not_le.mpr hbl z)
  have cX := cx_w C0 nX (fun q h => (dX q h).1)
  have cM := cx_w C0 nM dM
  have aX := ag_00 (fun q h => (dX q h).1)
  have aM := ag_00 dM
  have fc : cells ≤ room_1.cells := Nat.le_trans (Nat.le_add_right _ _) hce
  have fs : slots ≤ room_1.slots := Nat.le_trans (Nat.le_add_right _ _) hsl
  obtain ⟨v, S', S2', e1, e2, hs⟩ := q_remains hn hI (SCi xs i 1) (SCi xs i 2)
  refine lv_aload_n hx hb dL_law_1083 rfl (lv_at hl 1 rfl) ?_
  refine lv_aload_n hx hb dL_law_1084 rfl (lv_at hl 0 rfl) ?_
  refine lv_iload hx hb dL_law_1085 (lv_at hl 4 rfl) ?_
  refine lv_iconst (v := 1) hx hb dL_law_1087 rfl ?_
  refine lv_iadd hx hb dL_law_1088 ?_
  refine va_sld hx hb hXs hbl hbA hS (hin 1 (by decide) (by decide)) dL_law_1089 ?_
  refine lv_aload_n hx hb dL_law_1090 rfl (lv_at hl 0 rfl) ?_
  refine lv_iload hx hb dL_law_1091 (lv_at hl 4 rfl) ?_
  refine lv_iconst (v := 2) hx hb dL_law_1093 rfl ?_
  refine lv_iadd hx hb dL_law_1094 ?_
  refine va_sld hx hb hXs hbl hbA hS (hin 2 (by decide) (by decide)) dL_law_1095 ?_
  refine z_aft_i aX (x_runV (As := [.int (SCi xs i 1), .int (SCi xs i 2)]) (rest := []) cX hPX (by rw [aX]; exact hS) (c_X11_remains (l := l) nX hWX h_x k_x e1 H.size) h_x k_x (by decide) rfl rfl km_X11_remains ki_X11_remains qm_L_115 ⟨(Nat.le_of_ble_eq_true rfl), (Nat.le_of_ble_eq_true rfl)⟩ rfl hl.1 rfl (Nat.le_of_ble_eq_true rfl) ⟨fc, fs⟩ dL_law_1096) hS (fun H1 locs1 hPX hS hWX hk => ?_)
  have hPM := hp_dis hPM hk (fun q h1 h2 => (dX q h2).2 h1)
  have hPO := ho_dis hPO hk oX
  refine lv_aload_n hx hb dL_law_1099 rfl (lv_at hl 2 rfl) ?_
  refine lv_aload_n hx hb dL_law_1100 rfl (lv_at hl 0 rfl) ?_
  refine lv_iload hx hb dL_law_1101 (lv_at hl 4 rfl) ?_
  refine lv_iconst (v := 1) hx hb dL_law_1103 rfl ?_
  refine lv_iadd hx hb dL_law_1104 ?_
  refine va_sld hx hb hXs hbl hbA hS (hin 1 (by decide) (by decide)) dL_law_1105 ?_
  refine lv_aload_n hx hb dL_law_1106 rfl (lv_at hl 0 rfl) ?_
  refine lv_iload hx hb dL_law_1107 (lv_at hl 4 rfl) ?_
  refine lv_iconst (v := 2) hx hb dL_law_1109 rfl ?_
  refine lv_iadd hx hb dL_law_1110 ?_
  refine va_sld hx hb hXs hbl hbA hS (hin 2 (by decide) (by decide)) dL_law_1111 ?_
  refine z_aft_i aM (x_runV (As := [.int (SCi xs i 1), .int (SCi xs i 2)]) (rest := [.int v]) cM hPM (by rw [aM]; exact hS) (c_X12_remains (l := l) nM hWM h_y k_y e2 H1.size) h_y k_y (by decide) rfl rfl km_X12_remains ki_X12_remains qm_L_118 ⟨(Nat.le_of_ble_eq_true rfl), (Nat.le_of_ble_eq_true rfl)⟩ rfl hl.1 rfl (Nat.le_of_ble_eq_true rfl) ⟨fc, fs⟩ dL_law_1112) hS (fun H2 locs2 hPM hS hWM hk => ?_)
  have hPX := hp_dis hPX hk (fun q h1 => (dX q h1).2)
  have hPO := ho_dis hPO hk oM
  refine lv_icmp_eq (tgt := 2429) hx hb dL_law_1115 (by decide) (fun _ => ?_) (fun c9 => absurd rfl c9)
  exact kk _ _ _ _ _ ⟨GX, GM, S', S2', A, B, f, hs, hPX, hPM, hPO, hWX, hWM, ⟨h_x, k_x⟩, ⟨h_y, k_y⟩, nX, nM, dX, dM, oX, oM, dO⟩ hS hl (Nat.le_add_right _ _) (Nat.le_add_right _ _)
set_option maxRecDepth 100000 in
set_option maxHeartbeats 4000000 in
theorem k_half (LC : LCX p s m args meth c V b L xs i n cells slots) (I : INV V s.heap.size x y o n H) (hS : va_S (AG G00 s.heap.size) s.heap H locs) (hl : lv_has ls 7 (LL b x y o i)) (kk : KK p l e s m args below meth c Q V x y o b i n cells slots) : W p l e room_1 s m args below meth c H locs cells slots Q (F0 m 1120 ls []) := by
  obtain ⟨C0, hXs, hbl, hn, hin, hce, hsl⟩ := LC
  obtain ⟨GX, GM, SX, SM, A, B, f, hI, hPX, hPM, hPO, hWX, hWM, ⟨h_x, k_x⟩, ⟨h_y, k_y⟩, nX, nM, dX, dM, oX, oM, dO⟩ := I
  have hx := C0.1
  have hb := C0.2.1
  have hbA : ¬ AG G00 s.heap.size b := fun z => z.elim (fun z => nomatch z) (fun z => Nat.not_le.mpr hbl z)
  have cX := cx_w C0 nX (fun q h => (dX q h).1)
  have cM := cx_w C0 nM dM
  have aX := ag_00 (fun q h => (dX q h).1)
  have aM := ag_00 dM
  have fc : cells ≤ room_1.cells := Nat.le_trans (Nat.le_add_right _ _) hce
  have fs : slots ≤ room_1.slots := Nat.le_trans (Nat.le_add_right _ _) hsl
  obtain ⟨v, S', S2', e1, e2, hs⟩ := q_half hn hI (SCi xs i 1) (SCi xs i 2) (SCi xs i 3)
  refine lv_aload_n hx hb dL_law_1120 rfl (lv_at hl 1 rfl) ?_
  refine lv_aload_n hx hb dL_law_1121 rfl (lv_at hl 0 rfl) ?_
  refine lv_iload hx hb dL_law_1122 (lv_at hl 4 rfl) ?_
  refine lv_iconst (v := 1) hx hb dL_law_1124 rfl ?_
  refine lv_iadd hx hb dL_law_1125 ?_
  refine va_sld hx hb hXs hbl hbA hS (hin 1 (by decide) (by decide)) dL_law_1126 ?_
  refine lv_aload_n hx hb dL_law_1127 rfl (lv_at hl 0 rfl) ?_
  refine lv_iload hx hb dL_law_1128 (lv_at hl 4 rfl) ?_
  refine lv_iconst (v := 2) hx hb dL_law_1130 rfl ?_
  refine lv_iadd hx hb dL_law_1131 ?_
  refine va_sld hx hb hXs hbl hbA hS (hin 2 (by decide) (by decide)) dL_law_1132 ?_
  refine lv_aload_n hx hb dL_law_1133 rfl (lv_at hl 0 rfl) ?_
  refine lv_iload hx hb dL_law_1134 (lv_at hl 4 rfl) ?_
  refine lv_iconst (v := 3) hx hb dL_law_1136 rfl ?_
  refine lv_iadd hx hb dL_law_1137 ?_
  refine va_sld hx hb hXs hbl hbA hS (hin 3 (by decide) (by decide)) dL_law_1138 ?_
  refine z_aft_z aX (x_runV (As := [.int (SCi xs i 1), .int (SCi xs i 2), .int (SCi xs i 3)]) (rest := []) cX hPX (by rw [aX]; exact hS) (c_X11_half (l := l) nX hWX h_x k_x e1 H.size) h_x k_x (by decide) rfl rfl km_X11_half ki_X11_half qm_L_119 ⟨(Nat.le_of_ble_eq_true rfl), (Nat.le_of_ble_eq_true rfl)⟩ rfl hl.1 rfl (Nat.le_of_ble_eq_true rfl) ⟨fc, fs⟩ dL_law_1139) hS (fun H1 locs1 hPX hS hWX hk => ?_)
  have hPM := hp_dis hPM hk (fun q h1 h2 => (dX q h2).2 h1)
  have hPO := ho_dis hPO hk oX
  refine lv_aload_n hx hb dL_law_1142 rfl (lv_at hl 2 rfl) ?_
  refine lv_aload_n hx hb dL_law_1143 rfl (lv_at hl 0 rfl) ?_
  refine lv_iload hx hb dL_law_1144 (lv_at hl 4 rfl) ?_
  refine lv_iconst (v := 1) hx hb dL_law_1146 rfl ?_
  refine lv_iadd hx hb dL_law_1147 ?_
  refine va_sld hx hb hXs hbl hbA hS (hin 1 (by decide) (by decide)) dL_law_1148 ?_
  refine lv_aload_n hx hb dL_law_1149 rfl (lv_at hl 0 rfl) ?_
  refine lv_iload hx hb dL_law_1150 (lv_at hl 4 rfl) ?_
  refine lv_iconst (v := 2) hx hb dL_law_1152 rfl ?_
  refine lv_iadd hx hb dL_law_1153 ?_
  refine va_sld hx hb hXs hbl hbA hS (hin 2 (by decide) (by decide)) dL_law_1154 ?_
  refine lv_aload_n hx hb dL_law_1155 rfl (lv_at hl 0 rfl) ?_
  refine lv_iload hx hb dL_law_1156 (lv_at hl 4 rfl) ?_
  refine lv_iconst (v := 3) hx hb dL_law_1158 rfl ?_
  refine lv_iadd hx hb dL_law_1159 ?_
  refine va_sld hx hb hXs hbl hbA hS (hin 3 (by decide) (by decide)) dL_law_1160 ?_
  refine z_aft_z aM (x_runV (As := [.int (SCi xs i 1), .int (SCi xs i 2), .int (SCi xs i 3)]) (rest := [.int v]) cM hPM (by rw [aM]; exact hS) (c_X12_half (l := l) nM hWM h_y k_y e2 H1.size) h_y k_y (by decide) rfl rfl km_X12_half ki_X12_half qm_L_122 ⟨(Nat.le_of_ble_eq_true rfl), (Nat.le_of_ble_eq_true rfl)⟩ rfl hl.1 rfl (Nat.le_of_ble_eq_true rfl) ⟨fc, fs⟩ dL_law_1161) hS (fun H2 locs2 hPM hS hWM hk => ?_)
  have hPX := hp_dis hPX hk (fun q h1 => (dX q h1).2)
  have hPO := ho_dis hPO hk oM
  refine lv_icmp_eq (tgt := 2429) hx hb dL_law_1164 (by decide) (fun _ => ?_) (fun c9 => absurd rfl c9)
  exact kk _ _ _ _ _ ⟨GX, GM, S', S2', A, B, f, hs, hPX, hPM, hPO, hWX, hWM, ⟨h_x, k_x⟩, ⟨h_y, k_y⟩, nX, nM, dX, dM, oX, oM, dO⟩ hS hl (Nat.le_add_right _ _) (Nat.le_add_right _ _)
set_option maxRecDepth 100000 in
set_option maxHeartbeats 4000000 in
theorem k_part (LC : LCX p s m args meth c V b L xs i n cells slots) (I : INV V s.heap.size x y o n H) (hS : va_S (AG G00 s.heap.size) s.heap H locs) (hl : lv_has ls 7 (LL b x y o i)) (kk : KK p l e s m args below meth c Q V x y o b i n cells slots) : W p l e room_1 s m args below meth c H locs cells slots Q (F0 m 1169 ls []) := by
  obtain ⟨C0, hXs, hbl, hn, hin, hce, hsl⟩ := LC
  obtain ⟨GX, GM, SX, SM, A, B, f, hI, hPX, hPM, hPO, hWX, hWM, ⟨h_x, k_x⟩, ⟨h_y, k_y⟩, nX, nM, dX, dM, oX, oM, dO⟩ := I
  have hx := C0.1
  have hb := C0.2.1
  have hbA : ¬ AG G00 s.heap.size b := fun z => z.elim (fun z => nomatch z) (fun z => Nat.not_le.mpr hbl z)
  have cX := cx_w C0 nX (fun q h => (dX q h).1)
  have cM := cx_w C0 nM dM
  have aX := ag_00 (fun q h => (dX q h).1)
  have aM := ag_00 dM
  have fc : cells ≤ room_1.cells := Nat.le_trans (Nat.le_add_right _ _) hce
  have fs : slots ≤ room_1.slots := Nat.le_trans (Nat.le_add_right _ _) hsl
  obtain ⟨v, S2', e1, e2, hs⟩ := q_part hn hI (SCi xs i 1) (SCi xs i 2)
  refine lv_aload_n hx hb dL_law_1169 rfl (lv_at hl 1 rfl) ?_
  refine lv_aload_n hx hb dL_law_1170 rfl (lv_at hl 0 rfl) ?_
  refine lv_iload hx hb dL_law_1171 (lv_at hl 4 rfl) ?_
  refine lv_iconst (v := 1) hx hb dL_law_1173 rfl ?_
  refine lv_iadd hx hb dL_law_1174 ?_
  refine va_sld hx hb hXs hbl hbA hS (hin 1 (by decide) (by decide)) dL_law_1175 ?_
  refine lv_aload_n hx hb dL_law_1176 rfl (lv_at hl 0 rfl) ?_
  refine lv_iload hx hb dL_law_1177 (lv_at hl 4 rfl) ?_
  refine lv_iconst (v := 2) hx hb dL_law_1179 rfl ?_
  refine lv_iadd hx hb dL_law_1180 ?_
  refine va_sld hx hb hXs hbl hbA hS (hin 2 (by decide) (by decide)) dL_law_1181 ?_
  refine z_aft_i aX (x_runV (As := [.int (SCi xs i 1), .int (SCi xs i 2)]) (rest := []) cX hPX (by rw [aX]; exact hS) (c_X11_part (l := l) nX hWX h_x k_x e1 H.size) h_x k_x (by decide) rfl rfl km_X11_part ki_X11_part qm_L_123 ⟨(Nat.le_of_ble_eq_true rfl), (Nat.le_of_ble_eq_true rfl)⟩ rfl hl.1 rfl (Nat.le_of_ble_eq_true rfl) ⟨fc, fs⟩ dL_law_1182) hS (fun H1 locs1 hPX hS hWX hk => ?_)
  have hPM := hp_dis hPM hk (fun q h1 h2 => (dX q h2).2 h1)
  have hPO := ho_dis hPO hk oX
  refine lv_aload_n hx hb dL_law_1185 rfl (lv_at hl 2 rfl) ?_
  refine lv_aload_n hx hb dL_law_1186 rfl (lv_at hl 0 rfl) ?_
  refine lv_iload hx hb dL_law_1187 (lv_at hl 4 rfl) ?_
  refine lv_iconst (v := 1) hx hb dL_law_1189 rfl ?_
  refine lv_iadd hx hb dL_law_1190 ?_
  refine va_sld hx hb hXs hbl hbA hS (hin 1 (by decide) (by decide)) dL_law_1191 ?_
  refine lv_aload_n hx hb dL_law_1192 rfl (lv_at hl 0 rfl) ?_
  refine lv_iload hx hb dL_law_1193 (lv_at hl 4 rfl) ?_
  refine lv_iconst (v := 2) hx hb dL_law_1195 rfl ?_
  refine lv_iadd hx hb dL_law_1196 ?_
  refine va_sld hx hb hXs hbl hbA hS (hin 2 (by decide) (by decide)) dL_law_1197 ?_
  refine z_aft_i aM (x_runV (As := [.int (SCi xs i 1), .int (SCi xs i 2)]) (rest := [.int v]) cM hPM (by rw [aM]; exact hS) (c_X12_part (l := l) nM hWM h_y k_y e2 H1.size) h_y k_y (by decide) rfl rfl km_X12_part ki_X12_part qm_L_126 ⟨(Nat.le_of_ble_eq_true rfl), (Nat.le_of_ble_eq_true rfl)⟩ rfl hl.1 rfl (Nat.le_of_ble_eq_true rfl) ⟨fc, fs⟩ dL_law_1198) hS (fun H2 locs2 hPM hS hWM hk => ?_)
  have hPX := hp_dis hPX hk (fun q h1 => (dX q h1).2)
  have hPO := ho_dis hPO hk oM
  refine lv_icmp_eq (tgt := 2429) hx hb dL_law_1201 (by decide) (fun _ => ?_) (fun c9 => absurd rfl c9)
  exact kk _ _ _ _ _ ⟨GX, GM, SX, S2', A, B, f, hs, hPX, hPM, hPO, hWX, hWM, ⟨h_x, k_x⟩, ⟨h_y, k_y⟩, nX, nM, dX, dM, oX, oM, dO⟩ hS hl (Nat.le_add_right _ _) (Nat.le_add_right _ _)
set_option maxRecDepth 100000 in
set_option maxHeartbeats 4000000 in
theorem k_join (LC : LCX p s m args meth c V b L xs i n cells slots) (I : INV V s.heap.size x y o n H) (hS : va_S (AG G00 s.heap.size) s.heap H locs) (hl : lv_has ls 7 (LL b x y o i)) (kk : KK p l e s m args below meth c Q V x y o b i n cells slots) : W p l e room_1 s m args below meth c H locs cells slots Q (F0 m 1206 ls []) := by
  obtain ⟨C0, hXs, hbl, hn, hin, hce, hsl⟩ := LC
  obtain ⟨GX, GM, SX, SM, A, B, f, hI, hPX, hPM, hPO, hWX, hWM, ⟨h_x, k_x⟩, ⟨h_y, k_y⟩, nX, nM, dX, dM, oX, oM, dO⟩ := I
  have hx := C0.1
  have hb := C0.2.1
  have hbA : ¬ AG G00 s.heap.size b := fun z => z.elim (fun z => nomatch z) (fun z => Nat.not_le.mpr hbl z)
  have cX := cx_w C0 nX (fun q h => (dX q h).1)
  have cM := cx_w C0 nM dM
  have aX := ag_00 (fun q h => (dX q h).1)
  have aM := ag_00 dM
  have fc : cells ≤ room_1.cells := Nat.le_trans (Nat.le_add_right _ _) hce
  have fs : slots ≤ room_1.slots := Nat.le_trans (Nat.le_add_right _ _) hsl
  obtain ⟨v, S2', e1, e2, hs⟩ := q_join hn hI (SCi xs i 1) (SCi xs i 2) (SCi xs i 3)
  refine lv_aload_n hx hb dL_law_1206 rfl (lv_at hl 1 rfl) ?_
  refine lv_aload_n hx hb dL_law_1207 rfl (lv_at hl 0 rfl) ?_
  refine lv_iload hx hb dL_law_1208 (lv_at hl 4 rfl) ?_
  refine lv_iconst (v := 1) hx hb dL_law_1210 rfl ?_
  refine lv_iadd hx hb dL_law_1211 ?_
  refine va_sld hx hb hXs hbl hbA hS (hin 1 (by decide) (by decide)) dL_law_1212 ?_
  refine lv_aload_n hx hb dL_law_1213 rfl (lv_at hl 0 rfl) ?_
  refine lv_iload hx hb dL_law_1214 (lv_at hl 4 rfl) ?_
  refine lv_iconst (v := 2) hx hb dL_law_1216 rfl ?_
  refine lv_iadd hx hb dL_law_1217 ?_
  refine va_sld hx hb hXs hbl hbA hS (hin 2 (by decide) (by decide)) dL_law_1218 ?_
  refine lv_aload_n hx hb dL_law_1219 rfl (lv_at hl 0 rfl) ?_
  refine lv_iload hx hb dL_law_1220 (lv_at hl 4 rfl) ?_
  refine lv_iconst (v := 3) hx hb dL_law_1222 rfl ?_
  refine lv_iadd hx hb dL_law_1223 ?_
  refine va_sld hx hb hXs hbl hbA hS (hin 3 (by decide) (by decide)) dL_law_1224 ?_
  refine z_aft_i aX (x_runV (As := [.int (SCi xs i 1), .int (SCi xs i 2), .int (SCi xs i 3)]) (rest := []) cX hPX (by rw [aX]; exact hS) (c_X11_join (l := l) nX hWX h_x k_x e1 H.size) h_x k_x (by decide) rfl rfl km_X11_join ki_X11_join qm_L_127 ⟨(Nat.le_of_ble_eq_true rfl), (Nat.le_of_ble_eq_true rfl)⟩ rfl hl.1 rfl (Nat.le_of_ble_eq_true rfl) ⟨fc, fs⟩ dL_law_1225) hS (fun H1 locs1 hPX hS hWX hk => ?_)
  have hPM := hp_dis hPM hk (fun q h1 h2 => (dX q h2).2 h1)
  have hPO := ho_dis hPO hk oX
  refine lv_aload_n hx hb dL_law_1228 rfl (lv_at hl 2 rfl) ?_
  refine lv_aload_n hx hb dL_law_1229 rfl (lv_at hl 0 rfl) ?_
  refine lv_iload hx hb dL_law_1230 (lv_at hl 4 rfl) ?_
  refine lv_iconst (v := 1) hx hb dL_law_1232 rfl ?_
  refine lv_iadd hx hb dL_law_1233 ?_
  refine va_sld hx hb hXs hbl hbA hS (hin 1 (by decide) (by decide)) dL_law_1234 ?_
  refine lv_aload_n hx hb dL_law_1235 rfl (lv_at hl 0 rfl) ?_
  refine lv_iload hx hb dL_law_1236 (lv_at hl 4 rfl) ?_
  refine lv_iconst (v := 2) hx hb dL_law_1238 rfl ?_
  refine lv_iadd hx hb dL_law_1239 ?_
  refine va_sld hx hb hXs hbl hbA hS (hin 2 (by decide) (by decide)) dL_law_1240 ?_
  refine lv_aload_n hx hb dL_law_1241 rfl (lv_at hl 0 rfl) ?_
  refine lv_iload hx hb dL_law_1242 (lv_at hl 4 rfl) ?_
  refine lv_iconst (v := 3) hx hb dL_law_1244 rfl ?_
  refine lv_iadd hx hb dL_law_1245 ?_
  refine va_sld hx hb hXs hbl hbA hS (hin 3 (by decide) (by decide)) dL_law_1246 ?_
  refine z_aft_i aM (x_runV (As := [.int (SCi xs i 1), .int (SCi xs i 2), .int (SCi xs i 3)]) (rest := [.int v]) cM hPM (by rw [aM]; exact hS) (c_X12_join (l := l) nM hWM h_y k_y e2 H1.size) h_y k_y (by decide) rfl rfl km_X12_join ki_X12_join qm_L_130 ⟨(Nat.le_of_ble_eq_true rfl), (Nat.le_of_ble_eq_true rfl)⟩ rfl hl.1 rfl (Nat.le_of_ble_eq_true rfl) ⟨fc, fs⟩ dL_law_1247) hS (fun H2 locs2 hPM hS hWM hk => ?_)
  have hPX := hp_dis hPX hk (fun q h1 => (dX q h1).2)
  have hPO := ho_dis hPO hk oM
  refine lv_icmp_eq (tgt := 2429) hx hb dL_law_1250 (by decide) (fun _ => ?_) (fun c9 => absurd rfl c9)
  exact kk _ _ _ _ _ ⟨GX, GM, SX, S2', A, B, f, hs, hPX, hPM, hPO, hWX, hWM, ⟨h_x, k_x⟩, ⟨h_y, k_y⟩, nX, nM, dX, dM, oX, oM, dO⟩ hS hl (Nat.le_add_right _ _) (Nat.le_add_right _ _)
set_option maxRecDepth 100000 in
set_option maxHeartbeats 4000000 in
theorem k_scale (LC : LCX p s m args meth c V b L xs i n cells slots) (I : INV V s.heap.size x y o n H) (hS : va_S (AG G00 s.heap.size) s.heap H locs) (hl : lv_has ls 7 (LL b x y o i)) (kk : KK p l e s m args below meth c Q V x y o b i n cells slots) : W p l e room_1 s m args below meth c H locs cells slots Q (F0 m 1255 ls []) := by
  obtain ⟨C0, hXs, hbl, hn, hin, hce, hsl⟩ := LC
  obtain ⟨GX, GM, SX, SM, A, B, f, hI, hPX, hPM, hPO, hWX, hWM, ⟨h_x, k_x⟩, ⟨h_y, k_y⟩, nX, nM, dX, dM, oX, oM, dO⟩ := I
  have hx := C0.1
  have hb := C0.2.1
  have hbA : ¬ AG G00 s.heap.size b := fun z => z.elim (fun z => nomatch z) (fun z => Nat.not_le.mpr hbl z)
  have cX := cx_w C0 nX (fun q h => (dX q h).1)
  have cM := cx_w C0 nM dM
  have aX := ag_00 (fun q h => (dX q h).1)
  have aM := ag_00 dM
  have fc : cells ≤ room_1.cells := Nat.le_trans (Nat.le_add_right _ _) hce
  have fs : slots ≤ room_1.slots := Nat.le_trans (Nat.le_add_right _ _) hsl
  obtain ⟨v, S', S2', e1, e2, hs⟩ := q_scale hn hI (SCi xs i 1) (SCi xs i 2)
  refine lv_aload_n hx hb dL_law_1255 rfl (lv_at hl 1 rfl) ?_
  refine lv_aload_n hx hb dL_law_1256 rfl (lv_at hl 0 rfl) ?_
  refine lv_iload hx hb dL_law_1257 (lv_at hl 4 rfl) ?_
  refine lv_iconst (v := 1) hx hb dL_law_1259 rfl ?_
  refine lv_iadd hx hb dL_law_1260 ?_
  refine va_sld hx hb hXs hbl hbA hS (hin 1 (by decide) (by decide)) dL_law_1261 ?_
  refine lv_aload_n hx hb dL_law_1262 rfl (lv_at hl 0 rfl) ?_
  refine lv_iload hx hb dL_law_1263 (lv_at hl 4 rfl) ?_
  refine lv_iconst (v := 2) hx hb dL_law_1265 rfl ?_
  refine lv_iadd hx hb dL_law_1266 ?_
  refine va_sld hx hb hXs hbl hbA hS (hin 2 (by decide) (by decide)) dL_law_1267 ?_
  refine z_aft_i aX (x_runV (As := [.int (SCi xs i 1), .int (SCi xs i 2)]) (rest := []) cX hPX (by rw [aX]; exact hS) (c_X11_scale (l := l) nX hWX h_x k_x e1 H.size) h_x k_x (by decide) rfl rfl km_X11_scale ki_X11_scale qm_L_131 ⟨(Nat.le_of_ble_eq_true rfl), (Nat.le_of_ble_eq_true rfl)⟩ rfl hl.1 rfl (Nat.le_of_ble_eq_true rfl) ⟨fc, fs⟩ dL_law_1268) hS (fun H1 locs1 hPX hS hWX hk => ?_)
  have hPM := hp_dis hPM hk (fun q h1 h2 => (dX q h2).2 h1)
  have hPO := ho_dis hPO hk oX
  refine lv_aload_n hx hb dL_law_1271 rfl (lv_at hl 2 rfl) ?_
  refine lv_aload_n hx hb dL_law_1272 rfl (lv_at hl 0 rfl) ?_
  refine lv_iload hx hb dL_law_1273 (lv_at hl 4 rfl) ?_
  refine lv_iconst (v := 1) hx hb dL_law_1275 rfl ?_
  refine lv_iadd hx hb dL_law_1276 ?_
  refine va_sld hx hb hXs hbl hbA hS (hin 1 (by decide) (by decide)) dL_law_1277 ?_
  refine lv_aload_n hx hb dL_law_1278 rfl (lv_at hl 0 rfl) ?_
  refine lv_iload hx hb dL_law_1279 (lv_at hl 4 rfl) ?_
  refine lv_iconst (v := 2) hx hb dL_law_1281 rfl ?_
  refine lv_iadd hx hb dL_law_1282 ?_
  refine va_sld hx hb hXs hbl hbA hS (hin 2 (by decide) (by decide)) dL_law_1283 ?_
  refine z_aft_i aM (x_runV (As := [.int (SCi xs i 1), .int (SCi xs i 2)]) (rest := [.int v]) cM hPM (by rw [aM]; exact hS) (c_X12_scale (l := l) nM hWM h_y k_y e2 H1.size) h_y k_y (by decide) rfl rfl km_X12_scale ki_X12_scale qm_L_134 ⟨(Nat.le_of_ble_eq_true rfl), (Nat.le_of_ble_eq_true rfl)⟩ rfl hl.1 rfl (Nat.le_of_ble_eq_true rfl) ⟨fc, fs⟩ dL_law_1284) hS (fun H2 locs2 hPM hS hWM hk => ?_)
  have hPX := hp_dis hPX hk (fun q h1 => (dX q h1).2)
  have hPO := ho_dis hPO hk oM
  refine lv_icmp_eq (tgt := 2429) hx hb dL_law_1287 (by decide) (fun _ => ?_) (fun c9 => absurd rfl c9)
  exact kk _ _ _ _ _ ⟨GX, GM, S', S2', A, B, f, hs, hPX, hPM, hPO, hWX, hWM, ⟨h_x, k_x⟩, ⟨h_y, k_y⟩, nX, nM, dX, dM, oX, oM, dO⟩ hS hl (Nat.le_add_right _ _) (Nat.le_add_right _ _)
set_option maxRecDepth 100000 in
set_option maxHeartbeats 4000000 in
theorem k_side (LC : LCX p s m args meth c V b L xs i n cells slots) (I : INV V s.heap.size x y o n H) (hS : va_S (AG G00 s.heap.size) s.heap H locs) (hl : lv_has ls 7 (LL b x y o i)) (kk : KK p l e s m args below meth c Q V x y o b i n cells slots) : W p l e room_1 s m args below meth c H locs cells slots Q (F0 m 1292 ls []) := by
  obtain ⟨C0, hXs, hbl, hn, hin, hce, hsl⟩ := LC
  obtain ⟨GX, GM, SX, SM, A, B, f, hI, hPX, hPM, hPO, hWX, hWM, ⟨h_x, k_x⟩, ⟨h_y, k_y⟩, nX, nM, dX, dM, oX, oM, dO⟩ := I
  have hx := C0.1
  have hb := C0.2.1
  have hbA : ¬ AG G00 s.heap.size b := fun z => z.elim (fun z => nomatch z) (fun z => Nat.not_le.mpr hbl z)
  have cX := cx_w C0 nX (fun q h => (dX q h).1)
  have cM := cx_w C0 nM dM
  have aX := ag_00 (fun q h => (dX q h).1)
  have aM := ag_00 dM
  have fc : cells ≤ room_1.cells := Nat.le_trans (Nat.le_add_right _ _) hce
  have fs : slots ≤ room_1.slots := Nat.le_trans (Nat.le_add_right _ _) hsl
  obtain ⟨v, S', S2', e1, e2, hs⟩ := q_side hn hI (SCi xs i 1) (SCi xs i 2) (SCi xs i 3) (SCi xs i 4)
  refine lv_aload_n hx hb dL_law_1292 rfl (lv_at hl 1 rfl) ?_
  refine lv_aload_n hx hb dL_law_1293 rfl (lv_at hl 0 rfl) ?_
  refine lv_iload hx hb dL_law_1294 (lv_at hl 4 rfl) ?_
  refine lv_iconst (v := 1) hx hb dL_law_1296 rfl ?_
  refine lv_iadd hx hb dL_law_1297 ?_
  refine va_sld hx hb hXs hbl hbA hS (hin 1 (by decide) (by decide)) dL_law_1298 ?_
  refine lv_aload_n hx hb dL_law_1299 rfl (lv_at hl 0 rfl) ?_
  refine lv_iload hx hb dL_law_1300 (lv_at hl 4 rfl) ?_
  refine lv_iconst (v := 2) hx hb dL_law_1302 rfl ?_
  refine lv_iadd hx hb dL_law_1303 ?_
  refine va_sld hx hb hXs hbl hbA hS (hin 2 (by decide) (by decide)) dL_law_1304 ?_
  refine lv_aload_n hx hb dL_law_1305 rfl (lv_at hl 0 rfl) ?_
  refine lv_iload hx hb dL_law_1306 (lv_at hl 4 rfl) ?_
  refine lv_iconst (v := 3) hx hb dL_law_1308 rfl ?_
  refine lv_iadd hx hb dL_law_1309 ?_
  refine va_sld hx hb hXs hbl hbA hS (hin 3 (by decide) (by decide)) dL_law_1310 ?_
  refine lv_aload_n hx hb dL_law_1311 rfl (lv_at hl 0 rfl) ?_
  refine lv_iload hx hb dL_law_1312 (lv_at hl 4 rfl) ?_
  refine lv_iconst (v := 4) hx hb dL_law_1314 rfl ?_
  refine lv_iadd hx hb dL_law_1315 ?_
  refine va_sld hx hb hXs hbl hbA hS (hin 4 (by decide) (by decide)) dL_law_1316 ?_
  refine z_aft_i aX (x_runV (As := [.int (SCi xs i 1), .int (SCi xs i 2), .int (SCi xs i 3), .int (SCi xs i 4)]) (rest := []) cX hPX (by rw [aX]; exact hS) (c_X11_side (l := l) nX hWX h_x k_x e1 H.size) h_x k_x (by decide) rfl rfl km_X11_side ki_X11_side qm_L_135 ⟨(Nat.le_of_ble_eq_true rfl), (Nat.le_of_ble_eq_true rfl)⟩ rfl hl.1 rfl (Nat.le_of_ble_eq_true rfl) ⟨fc, fs⟩ dL_law_1317) hS (fun H1 locs1 hPX hS hWX hk => ?_)
  have hPM := hp_dis hPM hk (fun q h1 h2 => (dX q h2).2 h1)
  have hPO := ho_dis hPO hk oX
  refine lv_aload_n hx hb dL_law_1320 rfl (lv_at hl 2 rfl) ?_
  refine lv_aload_n hx hb dL_law_1321 rfl (lv_at hl 0 rfl) ?_
  refine lv_iload hx hb dL_law_1322 (lv_at hl 4 rfl) ?_
  refine lv_iconst (v := 1) hx hb dL_law_1324 rfl ?_
  refine lv_iadd hx hb dL_law_1325 ?_
  refine va_sld hx hb hXs hbl hbA hS (hin 1 (by decide) (by decide)) dL_law_1326 ?_
  refine lv_aload_n hx hb dL_law_1327 rfl (lv_at hl 0 rfl) ?_
  refine lv_iload hx hb dL_law_1328 (lv_at hl 4 rfl) ?_
  refine lv_iconst (v := 2) hx hb dL_law_1330 rfl ?_
  refine lv_iadd hx hb dL_law_1331 ?_
  refine va_sld hx hb hXs hbl hbA hS (hin 2 (by decide) (by decide)) dL_law_1332 ?_
  refine lv_aload_n hx hb dL_law_1333 rfl (lv_at hl 0 rfl) ?_
  refine lv_iload hx hb dL_law_1334 (lv_at hl 4 rfl) ?_
  refine lv_iconst (v := 3) hx hb dL_law_1336 rfl ?_
  refine lv_iadd hx hb dL_law_1337 ?_
  refine va_sld hx hb hXs hbl hbA hS (hin 3 (by decide) (by decide)) dL_law_1338 ?_
  refine lv_aload_n hx hb dL_law_1339 rfl (lv_at hl 0 rfl) ?_
  refine lv_iload hx hb dL_law_1340 (lv_at hl 4 rfl) ?_
  refine lv_iconst (v := 4) hx hb dL_law_1342 rfl ?_
  refine lv_iadd hx hb dL_law_1343 ?_
  refine va_sld hx hb hXs hbl hbA hS (hin 4 (by decide) (by decide)) dL_law_1344 ?_
  refine z_aft_i aM (x_runV (As := [.int (SCi xs i 1), .int (SCi xs i 2), .int (SCi xs i 3), .int (SCi xs i 4)]) (rest := [.int v]) cM hPM (by rw [aM]; exact hS) (c_X12_side (l := l) nM hWM h_y k_y e2 H1.size) h_y k_y (by decide) rfl rfl km_X12_side ki_X12_side qm_L_138 ⟨(Nat.le_of_ble_eq_true rfl), (Nat.le_of_ble_eq_true rfl)⟩ rfl hl.1 rfl (Nat.le_of_ble_eq_true rfl) ⟨fc, fs⟩ dL_law_1345) hS (fun H2 locs2 hPM hS hWM hk => ?_)
  have hPX := hp_dis hPX hk (fun q h1 => (dX q h1).2)
  have hPO := ho_dis hPO hk oM
  refine lv_icmp_eq (tgt := 2429) hx hb dL_law_1348 (by decide) (fun _ => ?_) (fun c9 => absurd rfl c9)
  exact kk _ _ _ _ _ ⟨GX, GM, S', S2', A, B, f, hs, hPX, hPM, hPO, hWX, hWM, ⟨h_x, k_x⟩, ⟨h_y, k_y⟩, nX, nM, dX, dM, oX, oM, dO⟩ hS hl (Nat.le_add_right _ _) (Nat.le_add_right _ _)
set_option maxRecDepth 100000 in
set_option maxHeartbeats 4000000 in
theorem k_apart (LC : LCX p s m args meth c V b L xs i n cells slots) (I : INV V s.heap.size x y o n H) (hS : va_S (AG G00 s.heap.size) s.heap H locs) (hl : lv_has ls 7 (LL b x y o i)) (kk : KK p l e s m args below meth c Q V x y o b i n cells slots) : W p l e room_1 s m args below meth c H locs cells slots Q (F0 m 1353 ls []) := by
  obtain ⟨C0, hXs, hbl, hn, hin, hce, hsl⟩ := LC
  obtain ⟨GX, GM, SX, SM, A, B, f, hI, hPX, hPM, hPO, hWX, hWM, ⟨h_x, k_x⟩, ⟨h_y, k_y⟩, nX, nM, dX, dM, oX, oM, dO⟩ := I
  have hx := C0.1
  have hb := C0.2.1
  have hbA : ¬ AG G00 s.heap.size b := fun z => z.elim (fun z => nomatch z) (fun z => Nat.not_le.mpr hbl z)
  have cX := cx_w C0 nX (fun q h => (dX q h).1)
  have cM := cx_w C0 nM dM
  have aX := ag_00 (fun q h => (dX q h).1)
  have aM := ag_00 dM
  have fc : cells ≤ room_1.cells := Nat.le_trans (Nat.le_add_right _ _) hce
  have fs : slots ≤ room_1.slots := Nat.le_trans (Nat.le_add_right _ _) hsl
  obtain ⟨v, S2', e1, e2, hs⟩ := q_apart hn hI (SCi xs i 1) (SCi xs i 2)
  refine lv_aload_n hx hb dL_law_1353 rfl (lv_at hl 1 rfl) ?_
  refine lv_aload_n hx hb dL_law_1354 rfl (lv_at hl 0 rfl) ?_
  refine lv_iload hx hb dL_law_1355 (lv_at hl 4 rfl) ?_
  refine lv_iconst (v := 1) hx hb dL_law_1357 rfl ?_
  refine lv_iadd hx hb dL_law_1358 ?_
  refine va_sld hx hb hXs hbl hbA hS (hin 1 (by decide) (by decide)) dL_law_1359 ?_
  refine lv_aload_n hx hb dL_law_1360 rfl (lv_at hl 0 rfl) ?_
  refine lv_iload hx hb dL_law_1361 (lv_at hl 4 rfl) ?_
  refine lv_iconst (v := 2) hx hb dL_law_1363 rfl ?_
  refine lv_iadd hx hb dL_law_1364 ?_
  refine va_sld hx hb hXs hbl hbA hS (hin 2 (by decide) (by decide)) dL_law_1365 ?_
  refine z_aft_i aX (x_runV (As := [.int (SCi xs i 1), .int (SCi xs i 2)]) (rest := []) cX hPX (by rw [aX]; exact hS) (c_X11_apart (l := l) nX hWX h_x k_x e1 H.size) h_x k_x (by decide) rfl rfl km_X11_apart ki_X11_apart qm_L_139 ⟨(Nat.le_of_ble_eq_true rfl), (Nat.le_of_ble_eq_true rfl)⟩ rfl hl.1 rfl (Nat.le_of_ble_eq_true rfl) ⟨fc, fs⟩ dL_law_1366) hS (fun H1 locs1 hPX hS hWX hk => ?_)
  have hPM := hp_dis hPM hk (fun q h1 h2 => (dX q h2).2 h1)
  have hPO := ho_dis hPO hk oX
  refine lv_aload_n hx hb dL_law_1369 rfl (lv_at hl 2 rfl) ?_
  refine lv_aload_n hx hb dL_law_1370 rfl (lv_at hl 0 rfl) ?_
  refine lv_iload hx hb dL_law_1371 (lv_at hl 4 rfl) ?_
  refine lv_iconst (v := 1) hx hb dL_law_1373 rfl ?_
  refine lv_iadd hx hb dL_law_1374 ?_
  refine va_sld hx hb hXs hbl hbA hS (hin 1 (by decide) (by decide)) dL_law_1375 ?_
  refine lv_aload_n hx hb dL_law_1376 rfl (lv_at hl 0 rfl) ?_
  refine lv_iload hx hb dL_law_1377 (lv_at hl 4 rfl) ?_
  refine lv_iconst (v := 2) hx hb dL_law_1379 rfl ?_
  refine lv_iadd hx hb dL_law_1380 ?_
  refine va_sld hx hb hXs hbl hbA hS (hin 2 (by decide) (by decide)) dL_law_1381 ?_
  refine z_aft_i aM (x_runV (As := [.int (SCi xs i 1), .int (SCi xs i 2)]) (rest := [.int v]) cM hPM (by rw [aM]; exact hS) (c_X12_apart (l := l) nM hWM h_y k_y e2 H1.size) h_y k_y (by decide) rfl rfl km_X12_apart ki_X12_apart qm_L_142 ⟨(Nat.le_of_ble_eq_true rfl), (Nat.le_of_ble_eq_true rfl)⟩ rfl hl.1 rfl (Nat.le_of_ble_eq_true rfl) ⟨fc, fs⟩ dL_law_1382) hS (fun H2 locs2 hPM hS hWM hk => ?_)
  have hPX := hp_dis hPX hk (fun q h1 => (dX q h1).2)
  have hPO := ho_dis hPO hk oM
  refine lv_icmp_eq (tgt := 2429) hx hb dL_law_1385 (by decide) (fun _ => ?_) (fun c9 => absurd rfl c9)
  exact kk _ _ _ _ _ ⟨GX, GM, SX, S2', A, B, f, hs, hPX, hPM, hPO, hWX, hWM, ⟨h_x, k_x⟩, ⟨h_y, k_y⟩, nX, nM, dX, dM, oX, oM, dO⟩ hS hl (Nat.le_add_right _ _) (Nat.le_add_right _ _)
set_option maxRecDepth 100000 in
set_option maxHeartbeats 4000000 in
theorem k_poly (LC : LCX p s m args meth c V b L xs i n cells slots) (I : INV V s.heap.size x y o n H) (hS : va_S (AG G00 s.heap.size) s.heap H locs) (hl : lv_has ls 7 (LL b x y o i)) (kk : KK p l e s m args below meth c Q V x y o b i n cells slots) : W p l e room_1 s m args below meth c H locs cells slots Q (F0 m 1390 ls []) := by
  obtain ⟨C0, hXs, hbl, hn, hin, hce, hsl⟩ := LC
  obtain ⟨GX, GM, SX, SM, A, B, f, hI, hPX, hPM, hPO, hWX, hWM, ⟨h_x, k_x⟩, ⟨h_y, k_y⟩, nX, nM, dX, dM, oX, oM, dO⟩ := I
  have hx := C0.1
  have hb := C0.2.1
  have hbA : ¬ AG G00 s.heap.size b := fun z => z.elim (fun z => nomatch z) (fun z => Nat.not_le.mpr hbl z)
  have cX := cx_w C0 nX (fun q h => (dX q h).1)
  have cM := cx_w C0 nM dM
  have aX := ag_00 (fun q h => (dX q h).1)
  have aM := ag_00 dM
  have fc : cells ≤ room_1.cells := Nat.le_trans (Nat.le_add_right _ _) hce
  have fs : slots ≤ room_1.slots := Nat.le_trans (Nat.le_add_right _ _) hsl
  obtain ⟨v, S', S2', e1, e2, hs⟩ := q_poly hn hI (SCi xs i 1) (SCi xs i 2)
  refine lv_aload_n hx hb dL_law_1390 rfl (lv_at hl 1 rfl) ?_
  refine lv_aload_n hx hb dL_law_1391 rfl (lv_at hl 0 rfl) ?_
  refine lv_iload hx hb dL_law_1392 (lv_at hl 4 rfl) ?_
  refine lv_iconst (v := 1) hx hb dL_law_1394 rfl ?_
  refine lv_iadd hx hb dL_law_1395 ?_
  refine va_sld hx hb hXs hbl hbA hS (hin 1 (by decide) (by decide)) dL_law_1396 ?_
  refine lv_aload_n hx hb dL_law_1397 rfl (lv_at hl 0 rfl) ?_
  refine lv_iload hx hb dL_law_1398 (lv_at hl 4 rfl) ?_
  refine lv_iconst (v := 2) hx hb dL_law_1400 rfl ?_
  refine lv_iadd hx hb dL_law_1401 ?_
  refine va_sld hx hb hXs hbl hbA hS (hin 2 (by decide) (by decide)) dL_law_1402 ?_
  refine z_aft_i aX (x_runV (As := [.int (SCi xs i 1), .int (SCi xs i 2)]) (rest := []) cX hPX (by rw [aX]; exact hS) (c_X11_poly (l := l) nX hWX h_x k_x e1 H.size) h_x k_x (by decide) rfl rfl km_X11_poly ki_X11_poly qm_L_143 ⟨(Nat.le_of_ble_eq_true rfl), (Nat.le_of_ble_eq_true rfl)⟩ rfl hl.1 rfl (Nat.le_of_ble_eq_true rfl) ⟨fc, fs⟩ dL_law_1403) hS (fun H1 locs1 hPX hS hWX hk => ?_)
  have hPM := hp_dis hPM hk (fun q h1 h2 => (dX q h2).2 h1)
  have hPO := ho_dis hPO hk oX
  refine lv_aload_n hx hb dL_law_1406 rfl (lv_at hl 2 rfl) ?_
  refine lv_aload_n hx hb dL_law_1407 rfl (lv_at hl 0 rfl) ?_
  refine lv_iload hx hb dL_law_1408 (lv_at hl 4 rfl) ?_
  refine lv_iconst (v := 1) hx hb dL_law_1410 rfl ?_
  refine lv_iadd hx hb dL_law_1411 ?_
  refine va_sld hx hb hXs hbl hbA hS (hin 1 (by decide) (by decide)) dL_law_1412 ?_
  refine lv_aload_n hx hb dL_law_1413 rfl (lv_at hl 0 rfl) ?_
  refine lv_iload hx hb dL_law_1414 (lv_at hl 4 rfl) ?_
  refine lv_iconst (v := 2) hx hb dL_law_1416 rfl ?_
  refine lv_iadd hx hb dL_law_1417 ?_
  refine va_sld hx hb hXs hbl hbA hS (hin 2 (by decide) (by decide)) dL_law_1418 ?_
  refine z_aft_i aM (x_runV (As := [.int (SCi xs i 1), .int (SCi xs i 2)]) (rest := [.int v]) cM hPM (by rw [aM]; exact hS) (c_X12_poly (l := l) nM hWM h_y k_y e2 H1.size) h_y k_y (by decide) rfl rfl km_X12_poly ki_X12_poly qm_L_146 ⟨(Nat.le_of_ble_eq_true rfl), (Nat.le_of_ble_eq_true rfl)⟩ rfl hl.1 rfl (Nat.le_of_ble_eq_true rfl) ⟨fc, fs⟩ dL_law_1419) hS (fun H2 locs2 hPM hS hWM hk => ?_)
  have hPX := hp_dis hPX hk (fun q h1 => (dX q h1).2)
  have hPO := ho_dis hPO hk oM
  refine lv_icmp_eq (tgt := 2429) hx hb dL_law_1422 (by decide) (fun _ => ?_) (fun c9 => absurd rfl c9)
  exact kk _ _ _ _ _ ⟨GX, GM, S', S2', A, B, f, hs, hPX, hPM, hPO, hWX, hWM, ⟨h_x, k_x⟩, ⟨h_y, k_y⟩, nX, nM, dX, dM, oX, oM, dO⟩ hS hl (Nat.le_add_right _ _) (Nat.le_add_right _ _)
set_option maxRecDepth 100000 in
set_option maxHeartbeats 4000000 in
theorem k_total (LC : LCX p s m args meth c V b L xs i n cells slots) (I : INV V s.heap.size x y o n H) (hS : va_S (AG G00 s.heap.size) s.heap H locs) (hl : lv_has ls 7 (LL b x y o i)) (kk : KK p l e s m args below meth c Q V x y o b i n cells slots) : W p l e room_1 s m args below meth c H locs cells slots Q (F0 m 1427 ls []) := by
  obtain ⟨C0, hXs, hbl, hn, hin, hce, hsl⟩ := LC
  obtain ⟨GX, GM, SX, SM, A, B, f, hI, hPX, hPM, hPO, hWX, hWM, ⟨h_x, k_x⟩, ⟨h_y, k_y⟩, nX, nM, dX, dM, oX, oM, dO⟩ := I
  have hx := C0.1
  have hb := C0.2.1
  have hbA : ¬ AG G00 s.heap.size b := fun z => z.elim (fun z => nomatch z) (fun z => Nat.not_le.mpr hbl z)
  have cX := cx_w C0 nX (fun q h => (dX q h).1)
  have cM := cx_w C0 nM dM
  have aX := ag_00 (fun q h => (dX q h).1)
  have aM := ag_00 dM
  have fc : cells ≤ room_1.cells := Nat.le_trans (Nat.le_add_right _ _) hce
  have fs : slots ≤ room_1.slots := Nat.le_trans (Nat.le_add_right _ _) hsl
  obtain ⟨v, S', S2', e1, e2, hs⟩ := q_total hn hI 
  refine lv_aload_n hx hb dL_law_1427 rfl (lv_at hl 1 rfl) ?_
  refine z_aft_i aX (x_runV (As := []) (rest := []) cX hPX (by rw [aX]; exact hS) (c_X11_total (l := l) nX hWX h_x k_x e1 H.size) h_x k_x (by decide) rfl rfl km_X11_total ki_X11_total qm_L_147 ⟨(Nat.le_of_ble_eq_true rfl), (Nat.le_of_ble_eq_true rfl)⟩ rfl hl.1 rfl (Nat.le_of_ble_eq_true rfl) ⟨fc, fs⟩ dL_law_1428) hS (fun H1 locs1 hPX hS hWX hk => ?_)
  have hPM := hp_dis hPM hk (fun q h1 h2 => (dX q h2).2 h1)
  have hPO := ho_dis hPO hk oX
  refine lv_aload_n hx hb dL_law_1431 rfl (lv_at hl 2 rfl) ?_
  refine z_aft_i aM (x_runV (As := []) (rest := [.int v]) cM hPM (by rw [aM]; exact hS) (c_X12_total (l := l) nM hWM h_y k_y e2 H1.size) h_y k_y (by decide) rfl rfl km_X12_total ki_X12_total qm_L_150 ⟨(Nat.le_of_ble_eq_true rfl), (Nat.le_of_ble_eq_true rfl)⟩ rfl hl.1 rfl (Nat.le_of_ble_eq_true rfl) ⟨fc, fs⟩ dL_law_1432) hS (fun H2 locs2 hPM hS hWM hk => ?_)
  have hPX := hp_dis hPX hk (fun q h1 => (dX q h1).2)
  have hPO := ho_dis hPO hk oM
  refine lv_icmp_eq (tgt := 2429) hx hb dL_law_1435 (by decide) (fun _ => ?_) (fun c9 => absurd rfl c9)
  exact kk _ _ _ _ _ ⟨GX, GM, S', S2', A, B, f, hs, hPX, hPM, hPO, hWX, hWM, ⟨h_x, k_x⟩, ⟨h_y, k_y⟩, nX, nM, dX, dM, oX, oM, dO⟩ hS hl (Nat.le_add_right _ _) (Nat.le_add_right _ _)
set_option maxRecDepth 100000 in
set_option maxHeartbeats 4000000 in
theorem k_settles (LC : LCX p s m args meth c V b L xs i n cells slots) (I : INV V s.heap.size x y o n H) (hS : va_S (AG G00 s.heap.size) s.heap H locs) (hl : lv_has ls 7 (LL b x y o i)) (kk : KK p l e s m args below meth c Q V x y o b i n cells slots) : W p l e room_1 s m args below meth c H locs cells slots Q (F0 m 1440 ls []) := by
  obtain ⟨C0, hXs, hbl, hn, hin, hce, hsl⟩ := LC
  obtain ⟨GX, GM, SX, SM, A, B, f, hI, hPX, hPM, hPO, hWX, hWM, ⟨h_x, k_x⟩, ⟨h_y, k_y⟩, nX, nM, dX, dM, oX, oM, dO⟩ := I
  have hx := C0.1
  have hb := C0.2.1
  have hbA : ¬ AG G00 s.heap.size b := fun z => z.elim (fun z => nomatch z) (fun z => Nat.not_le.mpr hbl z)
  have cX := cx_w C0 nX (fun q h => (dX q h).1)
  have cM := cx_w C0 nM dM
  have aX := ag_00 (fun q h => (dX q h).1)
  have aM := ag_00 dM
  have fc : cells ≤ room_1.cells := Nat.le_trans (Nat.le_add_right _ _) hce
  have fs : slots ≤ room_1.slots := Nat.le_trans (Nat.le_add_right _ _) hsl
  obtain ⟨v, S', S2', e1, e2, hs⟩ := q_settles hn hI (SCi xs i 1) (SCi xs i 2) (SCi xs i 3) (SCi xs i 4)
  refine lv_aload_n hx hb dL_law_1440 rfl (lv_at hl 1 rfl) ?_
  refine lv_aload_n hx hb dL_law_1441 rfl (lv_at hl 0 rfl) ?_
  refine lv_iload hx hb dL_law_1442 (lv_at hl 4 rfl) ?_
  refine lv_iconst (v := 1) hx hb dL_law_1444 rfl ?_
  refine lv_iadd hx hb dL_law_1445 ?_
  refine va_sld hx hb hXs hbl hbA hS (hin 1 (by decide) (by decide)) dL_law_1446 ?_
  refine lv_aload_n hx hb dL_law_1447 rfl (lv_at hl 0 rfl) ?_
  refine lv_iload hx hb dL_law_1448 (lv_at hl 4 rfl) ?_
  refine lv_iconst (v := 2) hx hb dL_law_1450 rfl ?_
  refine lv_iadd hx hb dL_law_1451 ?_
  refine va_sld hx hb hXs hbl hbA hS (hin 2 (by decide) (by decide)) dL_law_1452 ?_
  refine lv_aload_n hx hb dL_law_1453 rfl (lv_at hl 0 rfl) ?_
  refine lv_iload hx hb dL_law_1454 (lv_at hl 4 rfl) ?_
  refine lv_iconst (v := 3) hx hb dL_law_1456 rfl ?_
  refine lv_iadd hx hb dL_law_1457 ?_
  refine va_sld hx hb hXs hbl hbA hS (hin 3 (by decide) (by decide)) dL_law_1458 ?_
  refine lv_aload_n hx hb dL_law_1459 rfl (lv_at hl 0 rfl) ?_
  refine lv_iload hx hb dL_law_1460 (lv_at hl 4 rfl) ?_
  refine lv_iconst (v := 4) hx hb dL_law_1462 rfl ?_
  refine lv_iadd hx hb dL_law_1463 ?_
  refine va_sld hx hb hXs hbl hbA hS (hin 4 (by decide) (by decide)) dL_law_1464 ?_
  refine z_aft_i aX (x_runV (As := [.int (SCi xs i 1), .int (SCi xs i 2), .int (SCi xs i 3), .int (SCi xs i 4)]) (rest := []) cX hPX (by rw [aX]; exact hS) (c_X11_settles (l := l) nX hWX h_x k_x e1 H.size) h_x k_x (by decide) rfl rfl km_X11_settles ki_X11_settles qm_L_151 ⟨(Nat.le_of_ble_eq_true rfl), (Nat.le_of_ble_eq_true rfl)⟩ rfl hl.1 rfl (Nat.le_of_ble_eq_true rfl) ⟨fc, fs⟩ dL_law_1465) hS (fun H1 locs1 hPX hS hWX hk => ?_)
  have hPM := hp_dis hPM hk (fun q h1 h2 => (dX q h2).2 h1)
  have hPO := ho_dis hPO hk oX
  refine lv_aload_n hx hb dL_law_1468 rfl (lv_at hl 2 rfl) ?_
  refine lv_aload_n hx hb dL_law_1469 rfl (lv_at hl 0 rfl) ?_
  refine lv_iload hx hb dL_law_1470 (lv_at hl 4 rfl) ?_
  refine lv_iconst (v := 1) hx hb dL_law_1472 rfl ?_
  refine lv_iadd hx hb dL_law_1473 ?_
  refine va_sld hx hb hXs hbl hbA hS (hin 1 (by decide) (by decide)) dL_law_1474 ?_
  refine lv_aload_n hx hb dL_law_1475 rfl (lv_at hl 0 rfl) ?_
  refine lv_iload hx hb dL_law_1476 (lv_at hl 4 rfl) ?_
  refine lv_iconst (v := 2) hx hb dL_law_1478 rfl ?_
  refine lv_iadd hx hb dL_law_1479 ?_
  refine va_sld hx hb hXs hbl hbA hS (hin 2 (by decide) (by decide)) dL_law_1480 ?_
  refine lv_aload_n hx hb dL_law_1481 rfl (lv_at hl 0 rfl) ?_
  refine lv_iload hx hb dL_law_1482 (lv_at hl 4 rfl) ?_
  refine lv_iconst (v := 3) hx hb dL_law_1484 rfl ?_
  refine lv_iadd hx hb dL_law_1485 ?_
  refine va_sld hx hb hXs hbl hbA hS (hin 3 (by decide) (by decide)) dL_law_1486 ?_
  refine lv_aload_n hx hb dL_law_1487 rfl (lv_at hl 0 rfl) ?_
  refine lv_iload hx hb dL_law_1488 (lv_at hl 4 rfl) ?_
  refine lv_iconst (v := 4) hx hb dL_law_1490 rfl ?_
  refine lv_iadd hx hb dL_law_1491 ?_
  refine va_sld hx hb hXs hbl hbA hS (hin 4 (by decide) (by decide)) dL_law_1492 ?_
  refine z_aft_i aM (x_runV (As := [.int (SCi xs i 1), .int (SCi xs i 2), .int (SCi xs i 3), .int (SCi xs i 4)]) (rest := [.int v]) cM hPM (by rw [aM]; exact hS) (c_X12_settles (l := l) nM hWM h_y k_y e2 H1.size) h_y k_y (by decide) rfl rfl km_X12_settles ki_X12_settles qm_L_154 ⟨(Nat.le_of_ble_eq_true rfl), (Nat.le_of_ble_eq_true rfl)⟩ rfl hl.1 rfl (Nat.le_of_ble_eq_true rfl) ⟨fc, fs⟩ dL_law_1493) hS (fun H2 locs2 hPM hS hWM hk => ?_)
  have hPX := hp_dis hPX hk (fun q h1 => (dX q h1).2)
  have hPO := ho_dis hPO hk oM
  refine lv_icmp_eq (tgt := 2429) hx hb dL_law_1496 (by decide) (fun _ => ?_) (fun c9 => absurd rfl c9)
  exact kk _ _ _ _ _ ⟨GX, GM, S', S2', A, B, f, hs, hPX, hPM, hPO, hWX, hWM, ⟨h_x, k_x⟩, ⟨h_y, k_y⟩, nX, nM, dX, dM, oX, oM, dO⟩ hS hl (Nat.le_add_right _ _) (Nat.le_add_right _ _)
set_option maxRecDepth 100000 in
set_option maxHeartbeats 4000000 in
theorem k_gap (hst : l.stackTraces = false) (LC : LCX p s m args meth c V b L xs i n cells slots) (I : INV V s.heap.size x y o n H) (hS : va_S (AG G00 s.heap.size) s.heap H locs) (hl : lv_has ls 7 (LL b x y o i)) (kk : KK p l e s m args below meth c Q V x y o b i n cells slots) : W p l e room_1 s m args below meth c H locs cells slots Q (F0 m 1501 ls []) := by
  obtain ⟨C0, hXs, hbl, hn, hin, hce, hsl⟩ := LC
  obtain ⟨GX, GM, SX, SM, A, B, f, hI, hPX, hPM, hPO, hWX, hWM, ⟨h_x, k_x⟩, ⟨h_y, k_y⟩, nX, nM, dX, dM, oX, oM, dO⟩ := I
  have hx := C0.1
  have hb := C0.2.1
  have hbA : ¬ AG G00 s.heap.size b := fun z => z.elim (fun z => nomatch z) (fun z => Nat.not_le.mpr hbl z)
  have cX := cx_w C0 nX (fun q h => (dX q h).1)
  have cM := cx_w C0 nM dM
  have aX := ag_00 (fun q h => (dX q h).1)
  have aM := ag_00 dM
  have fc : cells ≤ room_1.cells := Nat.le_trans (Nat.le_add_right _ _) hce
  have fs : slots ≤ room_1.slots := Nat.le_trans (Nat.le_add_right _ _) hsl
  obtain ⟨w, S2', e1, e2, e3, hs⟩ := q_gap hn hI (SCi xs i 1) (SCi xs i 2) (SCi xs i 3)
  refine lv_aload_n hx hb dL_law_1501 rfl (lv_at hl 1 rfl) ?_
  refine lv_aload_n hx hb dL_law_1502 rfl (lv_at hl 0 rfl) ?_
  refine lv_iload hx hb dL_law_1503 (lv_at hl 4 rfl) ?_
  refine lv_iconst (v := 1) hx hb dL_law_1505 rfl ?_
  refine lv_iadd hx hb dL_law_1506 ?_
  refine va_sld hx hb hXs hbl hbA hS (hin 1 (by decide) (by decide)) dL_law_1507 ?_
  refine lv_aload_n hx hb dL_law_1508 rfl (lv_at hl 0 rfl) ?_
  refine lv_iload hx hb dL_law_1509 (lv_at hl 4 rfl) ?_
  refine lv_iconst (v := 2) hx hb dL_law_1511 rfl ?_
  refine lv_iadd hx hb dL_law_1512 ?_
  refine va_sld hx hb hXs hbl hbA hS (hin 2 (by decide) (by decide)) dL_law_1513 ?_
  refine lv_aload_n hx hb dL_law_1514 rfl (lv_at hl 0 rfl) ?_
  refine lv_iload hx hb dL_law_1515 (lv_at hl 4 rfl) ?_
  refine lv_iconst (v := 3) hx hb dL_law_1517 rfl ?_
  refine lv_iadd hx hb dL_law_1518 ?_
  refine va_sld hx hb hXs hbl hbA hS (hin 3 (by decide) (by decide)) dL_law_1519 ?_
  refine lv_aload_n hx hb dL_law_1520 rfl (lv_at hl 3 rfl) ?_
  have hcw : Cond.codeWith yL_gap cL_gap 6 (some .int) hhg ∈ TB := tb_mem 1381 (by decide +kernel) (by decide +kernel)
  have hst2 : Cond.static yL_gap ∈ TB := tb_mem 1380 (by decide +kernel) (by decide +kernel)
  have hlk : Cond.methodLink RL 155 yL_gap ∈ TB := tb_mem 1379 (by decide +kernel) (by decide +kernel)
  have hini : Cond.initialized RL ∈ TB := ini_L
  have hgd : GoodIn TB (Cond.codeWith yL_gap cL_gap 6 (some .int) hhg :: TB) := fun w9 h9 => (List.mem_cons.mp h9).elim (fun z => z ▸ tb_all _ hcw) (tb_all _)
  have hfix : CallFix p m c cL_law 7 s args TB RL := ⟨C0.1, C0.2.1, C0.2.2.2.1, C0.2.2.2.2.1, C0.2.2.2.2.2.1⟩
  have hpre : PreS s H (PREg V GX SX o f H.size [.ref x, .int (SCi xs i 1), .int (SCi xs i 2), .int (SCi xs i 3), .ref o]) [.ref x, .int (SCi xs i 1), .int (SCi xs i 2), .int (SCi xs i 3), .ref o] := ⟨preg_blind, preg_at C0 hPX hPO (fun q h => (dX q h).1) dO hS _⟩
  have hrun := vx_runSX (rest := []) (cells := cells) (slots := slots) (locs := locs) (g := F0 m 1521 ls _) hfix (c_L_gap (l := l) (f := f) _ _ _ hst nX hWX h_x k_x oX e1 H.size) (n := 5) (index := 155) (R := room_1) ⟨⟨rfl, rfl, (Nat.le_of_ble_eq_true rfl), (Nat.le_of_ble_eq_true rfl), pay_in C0.2.2.2.2.2.1 hgd, List.mem_cons_self⟩, C0.2.2.2.2.2.1 _ hcw, C0.2.2.2.2.2.1 _ hini, ⟨by decide +kernel, by decide +kernel⟩, fun sig h9 => par_len (show (parseMethodDescriptor yL_gap.desc).map (fun d => d.parameters.length) = some 5 by decide +kernel) h9, C0.2.2.2.2.2.1 _ hlk, C0.2.2.2.2.2.1 _ hst2⟩ hpre rfl rfl hl.1 rfl (lv_room (Nat.le_of_ble_eq_true rfl)) dL_law_1521 ⟨Nat.le_trans (Nat.add_le_add_left (Nat.le_of_ble_eq_true rfl) _) hce, Nat.le_trans (Nat.add_le_add_left (Nat.le_of_ble_eq_true rfl) _) hsl⟩ (p := p) (l := l) (e := e) (below := below) (meth := meth)
  have hag : ∀ q, AGo GX o H.size q → AG G00 s.heap.size q := fun q h => Or.inr (h.elim (fun z => z.elim (fun z => (dX q z).1) (fun z => Nat.le_trans hS.1 z)) (fun z => z ▸ dO))
  refine vx_calli hrun hS (fun q _ h => hag q h) (fun q h => hag q h) (fun q _ h => h.elim) (fun E ce q9 u t H1 locs1 ht hvm hu => hu.elim) (fun r g t H1 locs1 ht hvm hr hB hz hk hS => ?_)
  have hPX : HP V GX SX H1 := by rw [← ht]; exact hB.1.1
  have hWX := hB.1.2
  have hPO : HO V o g H1 := by rw [← ht]; exact hB.2
  have hPM := hp_kept hPM (H1 := H1) (fun q h => hk q (hp_lt hPM h) (fun z => z.elim (fun z => z.elim (fun z => (dX q z).2 h) (fun z => Nat.not_le.mpr (hp_lt hPM h) z)) (fun z => oM (z ▸ h))))
  refine lv_istore (lv' := (5, .int r) :: LL b x y o i) hx hb dL_law_1524 hl (by decide) rfl (fun ls hl => ?_)
  refine lv_aload_n hx hb dL_law_1526 rfl (lv_at hl 3 rfl) ?_
  refine lv_aload_n hx hb dL_law_1527 rfl (lv_at hl 1 rfl) ?_
  refine lv_iload hx hb dL_law_1528 (lv_at hl 5 rfl) ?_
  refine lv_iconst (v := 1) hx hb dL_law_1530 rfl ?_
  refine lv_iadd hx hb dL_law_1531 ?_
  refine va_sld hx hb hXs hbl hbA hS (hin 1 (by decide) (by decide)) dL_law_1532 ?_
  refine lv_aload_n hx hb dL_law_1533 rfl (lv_at hl 1 rfl) ?_
  refine lv_iload hx hb dL_law_1534 (lv_at hl 5 rfl) ?_
  refine lv_iconst (v := 2) hx hb dL_law_1536 rfl ?_
  refine lv_iadd hx hb dL_law_1537 ?_
  refine va_sld hx hb hXs hbl hbA hS (hin 2 (by decide) (by decide)) dL_law_1538 ?_
  refine lv_aload_n hx hb dL_law_1539 rfl (lv_at hl 1 rfl) ?_
  refine lv_iload hx hb dL_law_1540 (lv_at hl 5 rfl) ?_
  refine lv_iconst (v := 3) hx hb dL_law_1542 rfl ?_
  refine lv_iadd hx hb dL_law_1543 ?_
  refine va_sld hx hb hXs hbl hbA hS (hin 3 (by decide) (by decide)) dL_law_1544 ?_
  refine z_aft_i aM (x_runV (As := [.int (SCi xs i 1), .int (SCi xs i 2), .int (SCi xs i 3)]) (rest := []) cM hPM (by rw [aM]; exact hS) (c_X12_gap (l := l) nM hWM h_y k_y e2 H1.size) h_y k_y (by decide) rfl rfl km_X12_gap ki_X12_gap qm_L_160 ⟨(Nat.le_of_ble_eq_true rfl), (Nat.le_of_ble_eq_true rfl)⟩ rfl hl.1 rfl (Nat.le_of_ble_eq_true rfl) ⟨Nat.le_trans (Nat.add_le_add_left (Nat.le_of_ble_eq_true rfl) _) hce, Nat.le_trans (Nat.add_le_add_left (Nat.le_of_ble_eq_true rfl) _) hsl⟩ dL_law_1545) hS (fun H2 locs2 hPM hS hWM hk => ?_)
  have hPX := hp_dis hPX hk (fun q h1 => (dX q h1).2)
  have hPO := ho_dis hPO hk oM
  refine lv_istore (lv' := (6, .int (w.getD 0)) :: (5, .int r) :: LL b x y o i) hx hb dL_law_1548 hl (by decide) rfl (fun ls hl => ?_)
  refine lv_aload_n hx hb dL_law_1550 rfl (lv_at hl 4 rfl) ?_
  refine z_aft_i aM (x_runV (As := []) (rest := []) cM hPM (by rw [aM]; exact hS) (c_X12_thrown (l := l) nM hWM h_y k_y rfl H2.size) h_y k_y (by decide) rfl rfl km_X12_thrown ki_X12_thrown qm_L_161 ⟨(Nat.le_of_ble_eq_true rfl), (Nat.le_of_ble_eq_true rfl)⟩ rfl hl.1 rfl (Nat.le_of_ble_eq_true rfl) ⟨Nat.le_trans (Nat.add_le_add_left (Nat.le_of_ble_eq_true rfl) _) hce, Nat.le_trans (Nat.add_le_add_left (Nat.le_of_ble_eq_true rfl) _) hsl⟩ dL_law_1551) hS (fun H3 locs3 hPM hS hWM hk => ?_)
  have hPX := hp_dis hPX hk (fun q h1 => (dX q h1).2)
  have hPO := ho_dis hPO hk oM
  refine lv_iload hx hb dL_law_1554 (lv_at hl 1 rfl) ?_
  have er : s_X12_thrown y S2' = r := e3.trans hr.1.symm
  refine lv_icmp_eq (tgt := 1561) hx hb dL_law_1556 (by decide) (fun _ => ?_) (fun c9 => absurd er c9)
  refine lv_iload hx hb dL_law_1561 (lv_at hl 1 rfl) ?_
  have last : W p l e room_1 s m args below meth c H3 locs3 (cells + 1) (slots + 6) Q (F0 m 1578 ls []) := by
    refine lv_goto (tgt := 2429) hx hb dL_law_1578 (by decide) ?_
    exact kk _ _ _ _ _ ⟨GX, GM, SX, S2', A, B, g, hs, hPX, hPM, hPO, hWX, hWM, ⟨h_x, k_x⟩, ⟨h_y, k_y⟩, nX, nM, dX, dM, oX, oM, dO⟩ hS (lv_sub hl [2, 3, 4, 5, 6] rfl) (Nat.add_le_add_left (Nat.le_of_ble_eq_true rfl) _) (Nat.add_le_add_left (Nat.le_of_ble_eq_true rfl) _)
  refine lv_if_ne (tgt := 1578) hx hb dL_law_1563 (by decide) (fun _ => last) (fun k0' => ?_)
  cases w with
  | none => exact absurd (Eq.trans hr.1.symm k0') (show ¬ b2 (!(none : Option Int32).isSome) = 0 by decide)
  | some v =>
    have hv := hr.2 v rfl
    refine lv_aload_n hx hb dL_law_1566 rfl (lv_at hl 5 rfl) ?_
    refine lv_iconst (v := 0) hx hb dL_law_1567 rfl ?_
    refine va_lald hx hb C0.2.2.2.2.2.2.1 hPO 0 2 rfl rfl (inB_in (by decide)) dL_law_1568 ?_
    refine lv_iload hx hb dL_law_1569 (lv_at hl 0 rfl) ?_
    refine lv_i2l hx hb dL_law_1571 rfl ?_
    refine W.lcmp hx hb dL_law_1572 ?_
    refine lv_if_eq (tgt := 1578) hx hb dL_law_1573 (by decide) (fun _ => last) (fun c9 => absurd ?_ c9)
    show lg_cmp (g 0) v.toInt64 = 0
    rw [hv]; exact lg_self _
set_option maxRecDepth 100000 in
set_option maxHeartbeats 4000000 in
theorem k_leads (LC : LCX p s m args meth c V b L xs i n cells slots) (I : INV V s.heap.size x y o n H) (hS : va_S (AG G00 s.heap.size) s.heap H locs) (hl : lv_has ls 7 (LL b x y o i)) (kk : KK p l e s m args below meth c Q V x y o b i n cells slots) : W p l e room_1 s m args below meth c H locs cells slots Q (F0 m 1581 ls []) := by
  obtain ⟨C0, hXs, hbl, hn, hin, hce, hsl⟩ := LC
  obtain ⟨GX, GM, SX, SM, A, B, f, hI, hPX, hPM, hPO, hWX, hWM, ⟨h_x, k_x⟩, ⟨h_y, k_y⟩, nX, nM, dX, dM, oX, oM, dO⟩ := I
  have hx := C0.1
  have hb := C0.2.1
  have hbA : ¬ AG G00 s.heap.size b := fun z => z.elim (fun z => nomatch z) (fun z => Nat.not_le.mpr hbl z)
  have cX := cx_w C0 nX (fun q h => (dX q h).1)
  have cM := cx_w C0 nM dM
  have aX := ag_00 (fun q h => (dX q h).1)
  have aM := ag_00 dM
  have fc : cells ≤ room_1.cells := Nat.le_trans (Nat.le_add_right _ _) hce
  have fs : slots ≤ room_1.slots := Nat.le_trans (Nat.le_add_right _ _) hsl
  obtain ⟨v, S2', e1, e2, hs⟩ := q_leads hn hI (SCl xs i 1 2) (SCl xs i 3 4)
  refine lv_aload_n hx hb dL_law_1581 rfl (lv_at hl 1 rfl) ?_
  refine lv_aload_n hx hb dL_law_1582 rfl (lv_at hl 0 rfl) ?_
  refine lv_iload hx hb dL_law_1583 (lv_at hl 4 rfl) ?_
  refine lv_iconst (v := 1) hx hb dL_law_1585 rfl ?_
  refine lv_iadd hx hb dL_law_1586 ?_
  refine va_sld hx hb hXs hbl hbA hS (hin 1 (by decide) (by decide)) dL_law_1587 ?_
  refine lv_i2l hx hb dL_law_1588 rfl ?_
  refine lv_bipush (v := 32) hx hb dL_law_1589 kc_bipush_32 ?_
  refine lv_lshl hx hb dL_law_1591 rfl ?_
  refine lv_aload_n hx hb dL_law_1592 rfl (lv_at hl 0 rfl) ?_
  refine lv_iload hx hb dL_law_1593 (lv_at hl 4 rfl) ?_
  refine lv_iconst (v := 2) hx hb dL_law_1595 rfl ?_
  refine lv_iadd hx hb dL_law_1596 ?_
  refine va_sld hx hb hXs hbl hbA hS (hin 2 (by decide) (by decide)) dL_law_1597 ?_
  refine lv_i2l hx hb dL_law_1598 rfl ?_
  refine lv_ldc2 (v := 4294967295) hx hb C0.2.2.2.2.1 (C0.2.2.2.2.2.1 _ qc_L_23) dL_law_1599 ?_
  refine lv_land hx hb dL_law_1602 ?_
  refine lv_lor hx hb dL_law_1603 ?_
  refine lv_aload_n hx hb dL_law_1604 rfl (lv_at hl 0 rfl) ?_
  refine lv_iload hx hb dL_law_1605 (lv_at hl 4 rfl) ?_
  refine lv_iconst (v := 3) hx hb dL_law_1607 rfl ?_
  refine lv_iadd hx hb dL_law_1608 ?_
  refine va_sld hx hb hXs hbl hbA hS (hin 3 (by decide) (by decide)) dL_law_1609 ?_
  refine lv_i2l hx hb dL_law_1610 rfl ?_
  refine lv_bipush (v := 32) hx hb dL_law_1611 kc_bipush_32 ?_
  refine lv_lshl hx hb dL_law_1613 rfl ?_
  refine lv_aload_n hx hb dL_law_1614 rfl (lv_at hl 0 rfl) ?_
  refine lv_iload hx hb dL_law_1615 (lv_at hl 4 rfl) ?_
  refine lv_iconst (v := 4) hx hb dL_law_1617 rfl ?_
  refine lv_iadd hx hb dL_law_1618 ?_
  refine va_sld hx hb hXs hbl hbA hS (hin 4 (by decide) (by decide)) dL_law_1619 ?_
  refine lv_i2l hx hb dL_law_1620 rfl ?_
  refine lv_ldc2 (v := 4294967295) hx hb C0.2.2.2.2.1 (C0.2.2.2.2.2.1 _ qc_L_23) dL_law_1621 ?_
  refine lv_land hx hb dL_law_1624 ?_
  refine lv_lor hx hb dL_law_1625 ?_
  refine z_aft_i aX (x_runV (As := [.long (SCl xs i 1 2), .long (SCl xs i 3 4)]) (rest := []) cX hPX (by rw [aX]; exact hS) (c_X11_leads (l := l) nX hWX h_x k_x e1 H.size) h_x k_x (by decide) rfl rfl km_X11_leads ki_X11_leads qm_L_164 ⟨(Nat.le_of_ble_eq_true rfl), (Nat.le_of_ble_eq_true rfl)⟩ rfl hl.1 rfl (Nat.le_of_ble_eq_true rfl) ⟨fc, fs⟩ dL_law_1626) hS (fun H1 locs1 hPX hS hWX hk => ?_)
  have hPM := hp_dis hPM hk (fun q h1 h2 => (dX q h2).2 h1)
  have hPO := ho_dis hPO hk oX
  refine lv_aload_n hx hb dL_law_1629 rfl (lv_at hl 2 rfl) ?_
  refine lv_aload_n hx hb dL_law_1630 rfl (lv_at hl 0 rfl) ?_
  refine lv_iload hx hb dL_law_1631 (lv_at hl 4 rfl) ?_
  refine lv_iconst (v := 1) hx hb dL_law_1633 rfl ?_
  refine lv_iadd hx hb dL_law_1634 ?_
  refine va_sld hx hb hXs hbl hbA hS (hin 1 (by decide) (by decide)) dL_law_1635 ?_
  refine lv_i2l hx hb dL_law_1636 rfl ?_
  refine lv_bipush (v := 32) hx hb dL_law_1637 kc_bipush_32 ?_
  refine lv_lshl hx hb dL_law_1639 rfl ?_
  refine lv_aload_n hx hb dL_law_1640 rfl (lv_at hl 0 rfl) ?_
  refine lv_iload hx hb dL_law_1641 (lv_at hl 4 rfl) ?_
  refine lv_iconst (v := 2) hx hb dL_law_1643 rfl ?_
  refine lv_iadd hx hb dL_law_1644 ?_
  refine va_sld hx hb hXs hbl hbA hS (hin 2 (by decide) (by decide)) dL_law_1645 ?_
  refine lv_i2l hx hb dL_law_1646 rfl ?_
  refine lv_ldc2 (v := 4294967295) hx hb C0.2.2.2.2.1 (C0.2.2.2.2.2.1 _ qc_L_23) dL_law_1647 ?_
  refine lv_land hx hb dL_law_1650 ?_
  refine lv_lor hx hb dL_law_1651 ?_
  refine lv_aload_n hx hb dL_law_1652 rfl (lv_at hl 0 rfl) ?_
  refine lv_iload hx hb dL_law_1653 (lv_at hl 4 rfl) ?_
  refine lv_iconst (v := 3) hx hb dL_law_1655 rfl ?_
  refine lv_iadd hx hb dL_law_1656 ?_
  refine va_sld hx hb hXs hbl hbA hS (hin 3 (by decide) (by decide)) dL_law_1657 ?_
  refine lv_i2l hx hb dL_law_1658 rfl ?_
  refine lv_bipush (v := 32) hx hb dL_law_1659 kc_bipush_32 ?_
  refine lv_lshl hx hb dL_law_1661 rfl ?_
  refine lv_aload_n hx hb dL_law_1662 rfl (lv_at hl 0 rfl) ?_
  refine lv_iload hx hb dL_law_1663 (lv_at hl 4 rfl) ?_
  refine lv_iconst (v := 4) hx hb dL_law_1665 rfl ?_
  refine lv_iadd hx hb dL_law_1666 ?_
  refine va_sld hx hb hXs hbl hbA hS (hin 4 (by decide) (by decide)) dL_law_1667 ?_
  refine lv_i2l hx hb dL_law_1668 rfl ?_
  refine lv_ldc2 (v := 4294967295) hx hb C0.2.2.2.2.1 (C0.2.2.2.2.2.1 _ qc_L_23) dL_law_1669 ?_
  refine lv_land hx hb dL_law_1672 ?_
  refine lv_lor hx hb dL_law_1673 ?_
  refine z_aft_i aM (x_runV (As := [.long (SCl xs i 1 2), .long (SCl xs i 3 4)]) (rest := [.int v]) cM hPM (by rw [aM]; exact hS) (c_X12_leads (l := l) nM hWM h_y k_y e2 H1.size) h_y k_y (by decide) rfl rfl km_X12_leads ki_X12_leads qm_L_168 ⟨(Nat.le_of_ble_eq_true rfl), (Nat.le_of_ble_eq_true rfl)⟩ rfl hl.1 rfl (Nat.le_of_ble_eq_true rfl) ⟨fc, fs⟩ dL_law_1674) hS (fun H2 locs2 hPM hS hWM hk => ?_)
  have hPX := hp_dis hPX hk (fun q h1 => (dX q h1).2)
  have hPO := ho_dis hPO hk oM
  refine lv_icmp_eq (tgt := 2429) hx hb dL_law_1677 (by decide) (fun _ => ?_) (fun c9 => absurd rfl c9)
  exact kk _ _ _ _ _ ⟨GX, GM, SX, S2', A, B, f, hs, hPX, hPM, hPO, hWX, hWM, ⟨h_x, k_x⟩, ⟨h_y, k_y⟩, nX, nM, dX, dM, oX, oM, dO⟩ hS hl (Nat.le_add_right _ _) (Nat.le_add_right _ _)
set_option maxRecDepth 100000 in
set_option maxHeartbeats 4000000 in
theorem k_off (LC : LCX p s m args meth c V b L xs i n cells slots) (I : INV V s.heap.size x y o n H) (hS : va_S (AG G00 s.heap.size) s.heap H locs) (hl : lv_has ls 7 (LL b x y o i)) (kk : KK p l e s m args below meth c Q V x y o b i n cells slots) : W p l e room_1 s m args below meth c H locs cells slots Q (F0 m 1682 ls []) := by
  obtain ⟨C0, hXs, hbl, hn, hin, hce, hsl⟩ := LC
  obtain ⟨GX, GM, SX, SM, A, B, f, hI, hPX, hPM, hPO, hWX, hWM, ⟨h_x, k_x⟩, ⟨h_y, k_y⟩, nX, nM, dX, dM, oX, oM, dO⟩ := I
  have hx := C0.1
  have hb := C0.2.1
  have hbA : ¬ AG G00 s.heap.size b := fun z => z.elim (fun z => nomatch z) (fun z => Nat.not_le.mpr hbl z)
  have cX := cx_w C0 nX (fun q h => (dX q h).1)
  have cM := cx_w C0 nM dM
  have aX := ag_00 (fun q h => (dX q h).1)
  have aM := ag_00 dM
  have fc : cells ≤ room_1.cells := Nat.le_trans (Nat.le_add_right _ _) hce
  have fs : slots ≤ room_1.slots := Nat.le_trans (Nat.le_add_right _ _) hsl
  obtain ⟨v, S2', e1, e2, hs⟩ := q_off hn hI (SCl xs i 1 2) (SCl xs i 3 4)
  refine lv_aload_n hx hb dL_law_1682 rfl (lv_at hl 1 rfl) ?_
  refine lv_aload_n hx hb dL_law_1683 rfl (lv_at hl 0 rfl) ?_
  refine lv_iload hx hb dL_law_1684 (lv_at hl 4 rfl) ?_
  refine lv_iconst (v := 1) hx hb dL_law_1686 rfl ?_
  refine lv_iadd hx hb dL_law_1687 ?_
  refine va_sld hx hb hXs hbl hbA hS (hin 1 (by decide) (by decide)) dL_law_1688 ?_
  refine lv_i2l hx hb dL_law_1689 rfl ?_
  refine lv_bipush (v := 32) hx hb dL_law_1690 kc_bipush_32 ?_
  refine lv_lshl hx hb dL_law_1692 rfl ?_
  refine lv_aload_n hx hb dL_law_1693 rfl (lv_at hl 0 rfl) ?_
  refine lv_iload hx hb dL_law_1694 (lv_at hl 4 rfl) ?_
  refine lv_iconst (v := 2) hx hb dL_law_1696 rfl ?_
  refine lv_iadd hx hb dL_law_1697 ?_
  refine va_sld hx hb hXs hbl hbA hS (hin 2 (by decide) (by decide)) dL_law_1698 ?_
  refine lv_i2l hx hb dL_law_1699 rfl ?_
  refine lv_ldc2 (v := 4294967295) hx hb C0.2.2.2.2.1 (C0.2.2.2.2.2.1 _ qc_L_23) dL_law_1700 ?_
  refine lv_land hx hb dL_law_1703 ?_
  refine lv_lor hx hb dL_law_1704 ?_
  refine lv_aload_n hx hb dL_law_1705 rfl (lv_at hl 0 rfl) ?_
  refine lv_iload hx hb dL_law_1706 (lv_at hl 4 rfl) ?_
  refine lv_iconst (v := 3) hx hb dL_law_1708 rfl ?_
  refine lv_iadd hx hb dL_law_1709 ?_
  refine va_sld hx hb hXs hbl hbA hS (hin 3 (by decide) (by decide)) dL_law_1710 ?_
  refine lv_i2l hx hb dL_law_1711 rfl ?_
  refine lv_bipush (v := 32) hx hb dL_law_1712 kc_bipush_32 ?_
  refine lv_lshl hx hb dL_law_1714 rfl ?_
  refine lv_aload_n hx hb dL_law_1715 rfl (lv_at hl 0 rfl) ?_
  refine lv_iload hx hb dL_law_1716 (lv_at hl 4 rfl) ?_
  refine lv_iconst (v := 4) hx hb dL_law_1718 rfl ?_
  refine lv_iadd hx hb dL_law_1719 ?_
  refine va_sld hx hb hXs hbl hbA hS (hin 4 (by decide) (by decide)) dL_law_1720 ?_
  refine lv_i2l hx hb dL_law_1721 rfl ?_
  refine lv_ldc2 (v := 4294967295) hx hb C0.2.2.2.2.1 (C0.2.2.2.2.2.1 _ qc_L_23) dL_law_1722 ?_
  refine lv_land hx hb dL_law_1725 ?_
  refine lv_lor hx hb dL_law_1726 ?_
  refine z_aft_i aX (x_runV (As := [.long (SCl xs i 1 2), .long (SCl xs i 3 4)]) (rest := []) cX hPX (by rw [aX]; exact hS) (c_X11_off (l := l) nX hWX h_x k_x e1 H.size) h_x k_x (by decide) rfl rfl km_X11_off ki_X11_off qm_L_169 ⟨(Nat.le_of_ble_eq_true rfl), (Nat.le_of_ble_eq_true rfl)⟩ rfl hl.1 rfl (Nat.le_of_ble_eq_true rfl) ⟨fc, fs⟩ dL_law_1727) hS (fun H1 locs1 hPX hS hWX hk => ?_)
  have hPM := hp_dis hPM hk (fun q h1 h2 => (dX q h2).2 h1)
  have hPO := ho_dis hPO hk oX
  refine lv_aload_n hx hb dL_law_1730 rfl (lv_at hl 2 rfl) ?_
  refine lv_aload_n hx hb dL_law_1731 rfl (lv_at hl 0 rfl) ?_
  refine lv_iload hx hb dL_law_1732 (lv_at hl 4 rfl) ?_
  refine lv_iconst (v := 1) hx hb dL_law_1734 rfl ?_
  refine lv_iadd hx hb dL_law_1735 ?_
  refine va_sld hx hb hXs hbl hbA hS (hin 1 (by decide) (by decide)) dL_law_1736 ?_
  refine lv_i2l hx hb dL_law_1737 rfl ?_
  refine lv_bipush (v := 32) hx hb dL_law_1738 kc_bipush_32 ?_
  refine lv_lshl hx hb dL_law_1740 rfl ?_
  refine lv_aload_n hx hb dL_law_1741 rfl (lv_at hl 0 rfl) ?_
  refine lv_iload hx hb dL_law_1742 (lv_at hl 4 rfl) ?_
  refine lv_iconst (v := 2) hx hb dL_law_1744 rfl ?_
  refine lv_iadd hx hb dL_law_1745 ?_
  refine va_sld hx hb hXs hbl hbA hS (hin 2 (by decide) (by decide)) dL_law_1746 ?_
  refine lv_i2l hx hb dL_law_1747 rfl ?_
  refine lv_ldc2 (v := 4294967295) hx hb C0.2.2.2.2.1 (C0.2.2.2.2.2.1 _ qc_L_23) dL_law_1748 ?_
  refine lv_land hx hb dL_law_1751 ?_
  refine lv_lor hx hb dL_law_1752 ?_
  refine lv_aload_n hx hb dL_law_1753 rfl (lv_at hl 0 rfl) ?_
  refine lv_iload hx hb dL_law_1754 (lv_at hl 4 rfl) ?_
  refine lv_iconst (v := 3) hx hb dL_law_1756 rfl ?_
  refine lv_iadd hx hb dL_law_1757 ?_
  refine va_sld hx hb hXs hbl hbA hS (hin 3 (by decide) (by decide)) dL_law_1758 ?_
  refine lv_i2l hx hb dL_law_1759 rfl ?_
  refine lv_bipush (v := 32) hx hb dL_law_1760 kc_bipush_32 ?_
  refine lv_lshl hx hb dL_law_1762 rfl ?_
  refine lv_aload_n hx hb dL_law_1763 rfl (lv_at hl 0 rfl) ?_
  refine lv_iload hx hb dL_law_1764 (lv_at hl 4 rfl) ?_
  refine lv_iconst (v := 4) hx hb dL_law_1766 rfl ?_
  refine lv_iadd hx hb dL_law_1767 ?_
  refine va_sld hx hb hXs hbl hbA hS (hin 4 (by decide) (by decide)) dL_law_1768 ?_
  refine lv_i2l hx hb dL_law_1769 rfl ?_
  refine lv_ldc2 (v := 4294967295) hx hb C0.2.2.2.2.1 (C0.2.2.2.2.2.1 _ qc_L_23) dL_law_1770 ?_
  refine lv_land hx hb dL_law_1773 ?_
  refine lv_lor hx hb dL_law_1774 ?_
  refine z_aft_i aM (x_runV (As := [.long (SCl xs i 1 2), .long (SCl xs i 3 4)]) (rest := [.int v]) cM hPM (by rw [aM]; exact hS) (c_X12_off (l := l) nM hWM h_y k_y e2 H1.size) h_y k_y (by decide) rfl rfl km_X12_off ki_X12_off qm_L_172 ⟨(Nat.le_of_ble_eq_true rfl), (Nat.le_of_ble_eq_true rfl)⟩ rfl hl.1 rfl (Nat.le_of_ble_eq_true rfl) ⟨fc, fs⟩ dL_law_1775) hS (fun H2 locs2 hPM hS hWM hk => ?_)
  have hPX := hp_dis hPX hk (fun q h1 => (dX q h1).2)
  have hPO := ho_dis hPO hk oM
  refine lv_icmp_eq (tgt := 2429) hx hb dL_law_1778 (by decide) (fun _ => ?_) (fun c9 => absurd rfl c9)
  exact kk _ _ _ _ _ ⟨GX, GM, SX, S2', A, B, f, hs, hPX, hPM, hPO, hWX, hWM, ⟨h_x, k_x⟩, ⟨h_y, k_y⟩, nX, nM, dX, dM, oX, oM, dO⟩ hS hl (Nat.le_add_right _ _) (Nat.le_add_right _ _)
set_option maxRecDepth 100000 in
set_option maxHeartbeats 4000000 in
theorem k_whole (hst : l.stackTraces = false) (LC : LCX p s m args meth c V b L xs i n cells slots) (I : INV V s.heap.size x y o n H) (hS : va_S (AG G00 s.heap.size) s.heap H locs) (hl : lv_has ls 7 (LL b x y o i)) (kk : KK p l e s m args below meth c Q V x y o b i n cells slots) : W p l e room_1 s m args below meth c H locs cells slots Q (F0 m 1783 ls []) := by
  obtain ⟨C0, hXs, hbl, hn, hin, hce, hsl⟩ := LC
  obtain ⟨GX, GM, SX, SM, A, B, f, hI, hPX, hPM, hPO, hWX, hWM, ⟨h_x, k_x⟩, ⟨h_y, k_y⟩, nX, nM, dX, dM, oX, oM, dO⟩ := I
  have hx := C0.1
  have hb := C0.2.1
  have hbA : ¬ AG G00 s.heap.size b := fun z => z.elim (fun z => nomatch z) (fun z => Nat.not_le.mpr hbl z)
  have cX := cx_w C0 nX (fun q h => (dX q h).1)
  have cM := cx_w C0 nM dM
  have aX := ag_00 (fun q h => (dX q h).1)
  have aM := ag_00 dM
  have fc : cells ≤ room_1.cells := Nat.le_trans (Nat.le_add_right _ _) hce
  have fs : slots ≤ room_1.slots := Nat.le_trans (Nat.le_add_right _ _) hsl
  obtain ⟨w, S', S2', e1, e2, e3, hs⟩ := q_whole hn hI (SCi xs i 1)
  refine lv_aload_n hx hb dL_law_1783 rfl (lv_at hl 1 rfl) ?_
  refine lv_aload_n hx hb dL_law_1784 rfl (lv_at hl 0 rfl) ?_
  refine lv_iload hx hb dL_law_1785 (lv_at hl 4 rfl) ?_
  refine lv_iconst (v := 1) hx hb dL_law_1787 rfl ?_
  refine lv_iadd hx hb dL_law_1788 ?_
  refine va_sld hx hb hXs hbl hbA hS (hin 1 (by decide) (by decide)) dL_law_1789 ?_
  refine lv_aload_n hx hb dL_law_1790 rfl (lv_at hl 3 rfl) ?_
  have hcw : Cond.codeWith yL_whole cL_whole 4 (some .int) hhw ∈ TB := tb_mem 1455 (by decide +kernel) (by decide +kernel)
  have hst2 : Cond.static yL_whole ∈ TB := tb_mem 1454 (by decide +kernel) (by decide +kernel)
  have hlk : Cond.methodLink RL 173 yL_whole ∈ TB := tb_mem 1453 (by decide +kernel) (by decide +kernel)
  have hini : Cond.initialized RL ∈ TB := ini_L
  have hgd : GoodIn TB (Cond.codeWith yL_whole cL_whole 4 (some .int) hhw :: TB) := fun w9 h9 => (List.mem_cons.mp h9).elim (fun z => z ▸ tb_all _ hcw) (tb_all _)
  have hfix : CallFix p m c cL_law 7 s args TB RL := ⟨C0.1, C0.2.1, C0.2.2.2.1, C0.2.2.2.2.1, C0.2.2.2.2.2.1⟩
  have hpre : PreS s H (PREg V GX SX o f H.size [.ref x, .int (SCi xs i 1), .ref o]) [.ref x, .int (SCi xs i 1), .ref o] := ⟨preg_blind, preg_at C0 hPX hPO (fun q h => (dX q h).1) dO hS _⟩
  have hrun := vx_runSX (rest := []) (cells := cells) (slots := slots) (locs := locs) (g := F0 m 1791 ls _) hfix (c_L_whole (l := l) (f := f) _ hst nX hWX h_x k_x oX e1 H.size) (n := 3) (index := 173) (R := room_1) ⟨⟨rfl, rfl, (Nat.le_of_ble_eq_true rfl), (Nat.le_of_ble_eq_true rfl), pay_in C0.2.2.2.2.2.1 hgd, List.mem_cons_self⟩, C0.2.2.2.2.2.1 _ hcw, C0.2.2.2.2.2.1 _ hini, ⟨by decide +kernel, by decide +kernel⟩, fun sig h9 => par_len (show (parseMethodDescriptor yL_whole.desc).map (fun d => d.parameters.length) = some 3 by decide +kernel) h9, C0.2.2.2.2.2.1 _ hlk, C0.2.2.2.2.2.1 _ hst2⟩ hpre rfl rfl hl.1 rfl (lv_room (Nat.le_of_ble_eq_true rfl)) dL_law_1791 ⟨Nat.le_trans (Nat.add_le_add_left (Nat.le_of_ble_eq_true rfl) _) hce, Nat.le_trans (Nat.add_le_add_left (Nat.le_of_ble_eq_true rfl) _) hsl⟩ (p := p) (l := l) (e := e) (below := below) (meth := meth)
  have hag : ∀ q, AGo GX o H.size q → AG G00 s.heap.size q := fun q h => Or.inr (h.elim (fun z => z.elim (fun z => (dX q z).1) (fun z => Nat.le_trans hS.1 z)) (fun z => z ▸ dO))
  refine vx_calli hrun hS (fun q _ h => hag q h) (fun q h => hag q h) (fun q _ h => h.elim) (fun E ce q9 u t H1 locs1 ht hvm hu => hu.elim) (fun r g t H1 locs1 ht hvm hr hB hz hk hS => ?_)
  have hPX : HP V GX S' H1 := by rw [← ht]; exact hB.1.1
  have hWX := hB.1.2
  have hPO : HO V o g H1 := by rw [← ht]; exact hB.2
  have hPM := hp_kept hPM (H1 := H1) (fun q h => hk q (hp_lt hPM h) (fun z => z.elim (fun z => z.elim (fun z => (dX q z).2 h) (fun z => Nat.not_le.mpr (hp_lt hPM h) z)) (fun z => oM (z ▸ h))))
  refine lv_istore (lv' := (5, .int r) :: LL b x y o i) hx hb dL_law_1794 hl (by decide) rfl (fun ls hl => ?_)
  refine lv_aload_n hx hb dL_law_1796 rfl (lv_at hl 3 rfl) ?_
  refine lv_aload_n hx hb dL_law_1797 rfl (lv_at hl 1 rfl) ?_
  refine lv_iload hx hb dL_law_1798 (lv_at hl 5 rfl) ?_
  refine lv_iconst (v := 1) hx hb dL_law_1800 rfl ?_
  refine lv_iadd hx hb dL_law_1801 ?_
  refine va_sld hx hb hXs hbl hbA hS (hin 1 (by decide) (by decide)) dL_law_1802 ?_
  refine z_aft_i aM (x_runV (As := [.int (SCi xs i 1)]) (rest := []) cM hPM (by rw [aM]; exact hS) (c_X12_whole (l := l) nM hWM h_y k_y e2 H1.size) h_y k_y (by decide) rfl rfl km_X12_whole ki_X12_whole qm_L_176 ⟨(Nat.le_of_ble_eq_true rfl), (Nat.le_of_ble_eq_true rfl)⟩ rfl hl.1 rfl (Nat.le_of_ble_eq_true rfl) ⟨Nat.le_trans (Nat.add_le_add_left (Nat.le_of_ble_eq_true rfl) _) hce, Nat.le_trans (Nat.add_le_add_left (Nat.le_of_ble_eq_true rfl) _) hsl⟩ dL_law_1803) hS (fun H2 locs2 hPM hS hWM hk => ?_)
  have hPX := hp_dis hPX hk (fun q h1 => (dX q h1).2)
  have hPO := ho_dis hPO hk oM
  refine lv_istore (lv' := (6, .int (w.getD 0)) :: (5, .int r) :: LL b x y o i) hx hb dL_law_1806 hl (by decide) rfl (fun ls hl => ?_)
  refine lv_aload_n hx hb dL_law_1808 rfl (lv_at hl 4 rfl) ?_
  refine z_aft_i aM (x_runV (As := []) (rest := []) cM hPM (by rw [aM]; exact hS) (c_X12_thrown (l := l) nM hWM h_y k_y rfl H2.size) h_y k_y (by decide) rfl rfl km_X12_thrown ki_X12_thrown qm_L_161 ⟨(Nat.le_of_ble_eq_true rfl), (Nat.le_of_ble_eq_true rfl)⟩ rfl hl.1 rfl (Nat.le_of_ble_eq_true rfl) ⟨Nat.le_trans (Nat.add_le_add_left (Nat.le_of_ble_eq_true rfl) _) hce, Nat.le_trans (Nat.add_le_add_left (Nat.le_of_ble_eq_true rfl) _) hsl⟩ dL_law_1809) hS (fun H3 locs3 hPM hS hWM hk => ?_)
  have hPX := hp_dis hPX hk (fun q h1 => (dX q h1).2)
  have hPO := ho_dis hPO hk oM
  refine lv_iload hx hb dL_law_1812 (lv_at hl 1 rfl) ?_
  have er : s_X12_thrown y S2' = r := e3.trans hr.1.symm
  refine lv_icmp_eq (tgt := 1819) hx hb dL_law_1814 (by decide) (fun _ => ?_) (fun c9 => absurd er c9)
  refine lv_iload hx hb dL_law_1819 (lv_at hl 1 rfl) ?_
  have last : W p l e room_1 s m args below meth c H3 locs3 (cells + 1) (slots + 6) Q (F0 m 1836 ls []) := by
    refine lv_goto (tgt := 2429) hx hb dL_law_1836 (by decide) ?_
    exact kk _ _ _ _ _ ⟨GX, GM, S', S2', A, B, g, hs, hPX, hPM, hPO, hWX, hWM, ⟨h_x, k_x⟩, ⟨h_y, k_y⟩, nX, nM, dX, dM, oX, oM, dO⟩ hS (lv_sub hl [2, 3, 4, 5, 6] rfl) (Nat.add_le_add_left (Nat.le_of_ble_eq_true rfl) _) (Nat.add_le_add_left (Nat.le_of_ble_eq_true rfl) _)
  refine lv_if_ne (tgt := 1836) hx hb dL_law_1821 (by decide) (fun _ => last) (fun k0' => ?_)
  cases w with
  | none => exact absurd (Eq.trans hr.1.symm k0') (show ¬ b2 (!(none : Option Int32).isSome) = 0 by decide)
  | some v =>
    have hv := hr.2 v rfl
    refine lv_aload_n hx hb dL_law_1824 rfl (lv_at hl 5 rfl) ?_
    refine lv_iconst (v := 0) hx hb dL_law_1825 rfl ?_
    refine va_lald hx hb C0.2.2.2.2.2.2.1 hPO 0 2 rfl rfl (inB_in (by decide)) dL_law_1826 ?_
    refine lv_iload hx hb dL_law_1827 (lv_at hl 0 rfl) ?_
    refine lv_i2l hx hb dL_law_1829 rfl ?_
    refine W.lcmp hx hb dL_law_1830 ?_
    refine lv_if_eq (tgt := 1836) hx hb dL_law_1831 (by decide) (fun _ => last) (fun c9 => absurd ?_ c9)
    show lg_cmp (g 0) v.toInt64 = 0
    rw [hv]; exact lg_self _
set_option maxRecDepth 100000 in
set_option maxHeartbeats 4000000 in
theorem k_of (LC : LCX p s m args meth c V b L xs i n cells slots) (I : INV V s.heap.size x y o n H) (hS : va_S (AG G00 s.heap.size) s.heap H locs) (hl : lv_has ls 7 (LL b x y o i)) (kk : KK p l e s m args below meth c Q V x y o b i n cells slots) : W p l e room_1 s m args below meth c H locs cells slots Q (F0 m 1839 ls []) := by
  obtain ⟨C0, hXs, hbl, hn, hin, hce, hsl⟩ := LC
  obtain ⟨GX, GM, SX, SM, A, B, f, hI, hPX, hPM, hPO, hWX, hWM, ⟨h_x, k_x⟩, ⟨h_y, k_y⟩, nX, nM, dX, dM, oX, oM, dO⟩ := I
  have hx := C0.1
  have hb := C0.2.1
  have hbA : ¬ AG G00 s.heap.size b := fun z => z.elim (fun z => nomatch z) (fun z => Nat.not_le.mpr hbl z)
  have cX := cx_w C0 nX (fun q h => (dX q h).1)
  have cM := cx_w C0 nM dM
  have aX := ag_00 (fun q h => (dX q h).1)
  have aM := ag_00 dM
  have fc : cells ≤ room_1.cells := Nat.le_trans (Nat.le_add_right _ _) hce
  have fs : slots ≤ room_1.slots := Nat.le_trans (Nat.le_add_right _ _) hsl
  obtain ⟨v, S', S2', e1, e2, hs⟩ := q_of hn hI (SCi xs i 1)
  refine lv_aload_n hx hb dL_law_1839 rfl (lv_at hl 1 rfl) ?_
  refine lv_aload_n hx hb dL_law_1840 rfl (lv_at hl 0 rfl) ?_
  refine lv_iload hx hb dL_law_1841 (lv_at hl 4 rfl) ?_
  refine lv_iconst (v := 1) hx hb dL_law_1843 rfl ?_
  refine lv_iadd hx hb dL_law_1844 ?_
  refine va_sld hx hb hXs hbl hbA hS (hin 1 (by decide) (by decide)) dL_law_1845 ?_
  refine z_aft_i aX (x_runV (As := [.int (SCi xs i 1)]) (rest := []) cX hPX (by rw [aX]; exact hS) (c_X11_of (l := l) nX hWX h_x k_x e1 H.size) h_x k_x (by decide) rfl rfl km_X11_of ki_X11_of qm_L_177 ⟨(Nat.le_of_ble_eq_true rfl), (Nat.le_of_ble_eq_true rfl)⟩ rfl hl.1 rfl (Nat.le_of_ble_eq_true rfl) ⟨fc, fs⟩ dL_law_1846) hS (fun H1 locs1 hPX hS hWX hk => ?_)
  have hPM := hp_dis hPM hk (fun q h1 h2 => (dX q h2).2 h1)
  have hPO := ho_dis hPO hk oX
  refine lv_aload_n hx hb dL_law_1849 rfl (lv_at hl 2 rfl) ?_
  refine lv_aload_n hx hb dL_law_1850 rfl (lv_at hl 0 rfl) ?_
  refine lv_iload hx hb dL_law_1851 (lv_at hl 4 rfl) ?_
  refine lv_iconst (v := 1) hx hb dL_law_1853 rfl ?_
  refine lv_iadd hx hb dL_law_1854 ?_
  refine va_sld hx hb hXs hbl hbA hS (hin 1 (by decide) (by decide)) dL_law_1855 ?_
  refine z_aft_i aM (x_runV (As := [.int (SCi xs i 1)]) (rest := [.int v]) cM hPM (by rw [aM]; exact hS) (c_X12_of (l := l) nM hWM h_y k_y e2 H1.size) h_y k_y (by decide) rfl rfl km_X12_of ki_X12_of qm_L_180 ⟨(Nat.le_of_ble_eq_true rfl), (Nat.le_of_ble_eq_true rfl)⟩ rfl hl.1 rfl (Nat.le_of_ble_eq_true rfl) ⟨fc, fs⟩ dL_law_1856) hS (fun H2 locs2 hPM hS hWM hk => ?_)
  have hPX := hp_dis hPX hk (fun q h1 => (dX q h1).2)
  have hPO := ho_dis hPO hk oM
  refine lv_icmp_eq (tgt := 2429) hx hb dL_law_1859 (by decide) (fun _ => ?_) (fun c9 => absurd rfl c9)
  exact kk _ _ _ _ _ ⟨GX, GM, S', S2', A, B, f, hs, hPX, hPM, hPO, hWX, hWM, ⟨h_x, k_x⟩, ⟨h_y, k_y⟩, nX, nM, dX, dM, oX, oM, dO⟩ hS hl (Nat.le_add_right _ _) (Nat.le_add_right _ _)
end LAWK
