section LAWK
variable {p : Program} {l : Launch} {e : Env} {s : State} {m : MethodId} {args : Array Value} {below : List Frame} {meth : Method} {c : Code} {H : Heap} {locs : List Loc} {cells slots : Nat} {Q : State → Prop} {V : EV} {b L x y o n : Nat} {xs : Nat → Int32} {i : Int32} {ls : Array Slot}
set_option maxRecDepth 100000 in
set_option maxHeartbeats 4000000 in
theorem k_into (LC : LCX p s m args meth c V b L xs i n cells slots) (I : INV V s.heap.size x y o n H) (hS : va_S (AG G00 s.heap.size) s.heap H locs) (hl : lv_has ls 7 (LL b x y o i)) (kk : KK p l e s m args below meth c Q V x y o b i n cells slots) : W p l e room_1 s m args below meth c H locs cells slots Q (F0 m 1864 ls []) := by
  obtain ⟨C0, hXs, hbl, hn, hin, hce, hsl⟩ := LC
  obtain ⟨GX, GM, SX, SM, A, B, f, hI, hPX, hPM, hPO, hWX, hWM, ⟨h_x, k_x⟩, ⟨h_y, k_y⟩, nX, nM, dX, dM, oX, oM, dO⟩ := I
  have hx := C0.1
  have hb := C0.2.1
  have hbA : ¬ AG G00 s.heap.size b := fun z => z.elim (fun z => nomatch z) (fun z => Nat.not_le.mpr hbl z)
  have cX := cx_w C0 nX (fun q h => (dX q h).1)
  have cM := cx_w C0 nM dM
  have aX := ag_00 (fun q h => (dX q h).1)
  have aM := ag_00 dM
  have fc : cells ≤ room_1.cells := Nat.le_trans (Nat.le_add_right _ _) hce
  have fs : slots ≤ room_1.slots := Nat.le_trans (Nat.le_add_right _ _) hsl
  obtain ⟨v, S', S2', e1, e2, hs⟩ := q_into hn hI (SCi xs i 1) (SCi xs i 2)
  refine lv_aload_n hx hb dL_law_1864 rfl (lv_at hl 1 rfl) ?_
  refine lv_aload_n hx hb dL_law_1865 rfl (lv_at hl 0 rfl) ?_
  refine lv_iload hx hb dL_law_1866 (lv_at hl 4 rfl) ?_
  refine lv_iconst (v := 1) hx hb dL_law_1868 rfl ?_
  refine lv_iadd hx hb dL_law_1869 ?_
  refine va_sld hx hb hXs hbl hbA hS (hin 1 (by decide) (by decide)) dL_law_1870 ?_
  refine lv_aload_n hx hb dL_law_1871 rfl (lv_at hl 0 rfl) ?_
  refine lv_iload hx hb dL_law_1872 (lv_at hl 4 rfl) ?_
  refine lv_iconst (v := 2) hx hb dL_law_1874 rfl ?_
  refine lv_iadd hx hb dL_law_1875 ?_
  refine va_sld hx hb hXs hbl hbA hS (hin 2 (by decide) (by decide)) dL_law_1876 ?_
  refine z_aft_i aX (x_runV (As := [.int (SCi xs i 1), .int (SCi xs i 2)]) (rest := []) cX hPX (by rw [aX]; exact hS) (c_X11_into (l := l) nX hWX h_x k_x e1 H.size) h_x k_x (by decide) rfl rfl km_X11_into ki_X11_into qm_L_181 ⟨(Nat.le_of_ble_eq_true rfl), (Nat.le_of_ble_eq_true rfl)⟩ rfl hl.1 rfl (Nat.le_of_ble_eq_true rfl) ⟨fc, fs⟩ dL_law_1877) hS (fun H1 locs1 hPX hS hWX hk => ?_)
  have hPM := hp_dis hPM hk (fun q h1 h2 => (dX q h2).2 h1)
  have hPO := ho_dis hPO hk oX
  refine lv_aload_n hx hb dL_law_1880 rfl (lv_at hl 2 rfl) ?_
  refine lv_aload_n hx hb dL_law_1881 rfl (lv_at hl 0 rfl) ?_
  refine lv_iload hx hb dL_law_1882 (lv_at hl 4 rfl) ?_
  refine lv_iconst (v := 1) hx hb dL_law_1884 rfl ?_
  refine lv_iadd hx hb dL_law_1885 ?_
  refine va_sld hx hb hXs hbl hbA hS (hin 1 (by decide) (by decide)) dL_law_1886 ?_
  refine lv_aload_n hx hb dL_law_1887 rfl (lv_at hl 0 rfl) ?_
  refine lv_iload hx hb dL_law_1888 (lv_at hl 4 rfl) ?_
  refine lv_iconst (v := 2) hx hb dL_law_1890 rfl ?_
  refine lv_iadd hx hb dL_law_1891 ?_
  refine va_sld hx hb hXs hbl hbA hS (hin 2 (by decide) (by decide)) dL_law_1892 ?_
  refine z_aft_i aM (x_runV (As := [.int (SCi xs i 1), .int (SCi xs i 2)]) (rest := [.int v]) cM hPM (by rw [aM]; exact hS) (c_X12_into (l := l) nM hWM h_y k_y e2 H1.size) h_y k_y (by decide) rfl rfl km_X12_into ki_X12_into qm_L_184 ⟨(Nat.le_of_ble_eq_true rfl), (Nat.le_of_ble_eq_true rfl)⟩ rfl hl.1 rfl (Nat.le_of_ble_eq_true rfl) ⟨fc, fs⟩ dL_law_1893) hS (fun H2 locs2 hPM hS hWM hk => ?_)
  have hPX := hp_dis hPX hk (fun q h1 => (dX q h1).2)
  have hPO := ho_dis hPO hk oM
  refine lv_icmp_eq (tgt := 2429) hx hb dL_law_1896 (by decide) (fun _ => ?_) (fun c9 => absurd rfl c9)
  exact kk _ _ _ _ _ ⟨GX, GM, S', S2', A, B, f, hs, hPX, hPM, hPO, hWX, hWM, ⟨h_x, k_x⟩, ⟨h_y, k_y⟩, nX, nM, dX, dM, oX, oM, dO⟩ hS hl (Nat.le_add_right _ _) (Nat.le_add_right _ _)
set_option maxRecDepth 100000 in
set_option maxHeartbeats 4000000 in
theorem k_exacts (LC : LCX p s m args meth c V b L xs i n cells slots) (I : INV V s.heap.size x y o n H) (hS : va_S (AG G00 s.heap.size) s.heap H locs) (hl : lv_has ls 7 (LL b x y o i)) (kk : KK p l e s m args below meth c Q V x y o b i n cells slots) : W p l e room_1 s m args below meth c H locs cells slots Q (F0 m 1901 ls []) := by
  obtain ⟨C0, hXs, hbl, hn, hin, hce, hsl⟩ := LC
  obtain ⟨GX, GM, SX, SM, A, B, f, hI, hPX, hPM, hPO, hWX, hWM, ⟨h_x, k_x⟩, ⟨h_y, k_y⟩, nX, nM, dX, dM, oX, oM, dO⟩ := I
  have hx := C0.1
  have hb := C0.2.1
  have hbA : ¬ AG G00 s.heap.size b := fun z => z.elim (fun z => nomatch z) (fun z => Nat.not_le.mpr hbl z)
  have cX := cx_w C0 nX (fun q h => (dX q h).1)
  have cM := cx_w C0 nM dM
  have aX := ag_00 (fun q h => (dX q h).1)
  have aM := ag_00 dM
  have fc : cells ≤ room_1.cells := Nat.le_trans (Nat.le_add_right _ _) hce
  have fs : slots ≤ room_1.slots := Nat.le_trans (Nat.le_add_right _ _) hsl
  obtain ⟨v, S', S2', e1, e2, hs⟩ := q_exacts hn hI (SCi xs i 1) (SCi xs i 2)
  refine lv_aload_n hx hb dL_law_1901 rfl (lv_at hl 1 rfl) ?_
  refine lv_aload_n hx hb dL_law_1902 rfl (lv_at hl 0 rfl) ?_
  refine lv_iload hx hb dL_law_1903 (lv_at hl 4 rfl) ?_
  refine lv_iconst (v := 1) hx hb dL_law_1905 rfl ?_
  refine lv_iadd hx hb dL_law_1906 ?_
  refine va_sld hx hb hXs hbl hbA hS (hin 1 (by decide) (by decide)) dL_law_1907 ?_
  refine lv_aload_n hx hb dL_law_1908 rfl (lv_at hl 0 rfl) ?_
  refine lv_iload hx hb dL_law_1909 (lv_at hl 4 rfl) ?_
  refine lv_iconst (v := 2) hx hb dL_law_1911 rfl ?_
  refine lv_iadd hx hb dL_law_1912 ?_
  refine va_sld hx hb hXs hbl hbA hS (hin 2 (by decide) (by decide)) dL_law_1913 ?_
  refine z_aft_i aX (x_runV (As := [.int (SCi xs i 1), .int (SCi xs i 2)]) (rest := []) cX hPX (by rw [aX]; exact hS) (c_X11_exacts (l := l) nX hWX h_x k_x e1 H.size) h_x k_x (by decide) rfl rfl km_X11_exacts ki_X11_exacts qm_L_185 ⟨(Nat.le_of_ble_eq_true rfl), (Nat.le_of_ble_eq_true rfl)⟩ rfl hl.1 rfl (Nat.le_of_ble_eq_true rfl) ⟨fc, fs⟩ dL_law_1914) hS (fun H1 locs1 hPX hS hWX hk => ?_)
  have hPM := hp_dis hPM hk (fun q h1 h2 => (dX q h2).2 h1)
  have hPO := ho_dis hPO hk oX
  refine lv_aload_n hx hb dL_law_1917 rfl (lv_at hl 2 rfl) ?_
  refine lv_aload_n hx hb dL_law_1918 rfl (lv_at hl 0 rfl) ?_
  refine lv_iload hx hb dL_law_1919 (lv_at hl 4 rfl) ?_
  refine lv_iconst (v := 1) hx hb dL_law_1921 rfl ?_
  refine lv_iadd hx hb dL_law_1922 ?_
  refine va_sld hx hb hXs hbl hbA hS (hin 1 (by decide) (by decide)) dL_law_1923 ?_
  refine lv_aload_n hx hb dL_law_1924 rfl (lv_at hl 0 rfl) ?_
  refine lv_iload hx hb dL_law_1925 (lv_at hl 4 rfl) ?_
  refine lv_iconst (v := 2) hx hb dL_law_1927 rfl ?_
  refine lv_iadd hx hb dL_law_1928 ?_
  refine va_sld hx hb hXs hbl hbA hS (hin 2 (by decide) (by decide)) dL_law_1929 ?_
  refine z_aft_i aM (x_runV (As := [.int (SCi xs i 1), .int (SCi xs i 2)]) (rest := [.int v]) cM hPM (by rw [aM]; exact hS) (c_X12_exacts (l := l) nM hWM h_y k_y e2 H1.size) h_y k_y (by decide) rfl rfl km_X12_exacts ki_X12_exacts qm_L_188 ⟨(Nat.le_of_ble_eq_true rfl), (Nat.le_of_ble_eq_true rfl)⟩ rfl hl.1 rfl (Nat.le_of_ble_eq_true rfl) ⟨fc, fs⟩ dL_law_1930) hS (fun H2 locs2 hPM hS hWM hk => ?_)
  have hPX := hp_dis hPX hk (fun q h1 => (dX q h1).2)
  have hPO := ho_dis hPO hk oM
  refine lv_icmp_eq (tgt := 2429) hx hb dL_law_1933 (by decide) (fun _ => ?_) (fun c9 => absurd rfl c9)
  exact kk _ _ _ _ _ ⟨GX, GM, S', S2', A, B, f, hs, hPX, hPM, hPO, hWX, hWM, ⟨h_x, k_x⟩, ⟨h_y, k_y⟩, nX, nM, dX, dM, oX, oM, dO⟩ hS hl (Nat.le_add_right _ _) (Nat.le_add_right _ _)
set_option maxRecDepth 100000 in
set_option maxHeartbeats 4000000 in
theorem k_swallows (LC : LCX p s m args meth c V b L xs i n cells slots) (I : INV V s.heap.size x y o n H) (hS : va_S (AG G00 s.heap.size) s.heap H locs) (hl : lv_has ls 7 (LL b x y o i)) (kk : KK p l e s m args below meth c Q V x y o b i n cells slots) : W p l e room_1 s m args below meth c H locs cells slots Q (F0 m 1938 ls []) := by
  obtain ⟨C0, hXs, hbl, hn, hin, hce, hsl⟩ := LC
  obtain ⟨GX, GM, SX, SM, A, B, f, hI, hPX, hPM, hPO, hWX, hWM, ⟨h_x, k_x⟩, ⟨h_y, k_y⟩, nX, nM, dX, dM, oX, oM, dO⟩ := I
  have hx := C0.1
  have hb := C0.2.1
  have hbA : ¬ AG G00 s.heap.size b := fun z => z.elim (fun z => nomatch z) (fun z => Nat.not_le.mpr hbl z)
  have cX := cx_w C0 nX (fun q h => (dX q h).1)
  have cM := cx_w C0 nM dM
  have aX := ag_00 (fun q h => (dX q h).1)
  have aM := ag_00 dM
  have fc : cells ≤ room_1.cells := Nat.le_trans (Nat.le_add_right _ _) hce
  have fs : slots ≤ room_1.slots := Nat.le_trans (Nat.le_add_right _ _) hsl
  obtain ⟨v, S', S2', e1, e2, hs⟩ := q_swallows hn hI (SCi xs i 1) (SCi xs i 2)
  refine lv_aload_n hx hb dL_law_1938 rfl (lv_at hl 1 rfl) ?_
  refine lv_aload_n hx hb dL_law_1939 rfl (lv_at hl 0 rfl) ?_
  refine lv_iload hx hb dL_law_1940 (lv_at hl 4 rfl) ?_
  refine lv_iconst (v := 1) hx hb dL_law_1942 rfl ?_
  refine lv_iadd hx hb dL_law_1943 ?_
  refine va_sld hx hb hXs hbl hbA hS (hin 1 (by decide) (by decide)) dL_law_1944 ?_
  refine lv_aload_n hx hb dL_law_1945 rfl (lv_at hl 0 rfl) ?_
  refine lv_iload hx hb dL_law_1946 (lv_at hl 4 rfl) ?_
  refine lv_iconst (v := 2) hx hb dL_law_1948 rfl ?_
  refine lv_iadd hx hb dL_law_1949 ?_
  refine va_sld hx hb hXs hbl hbA hS (hin 2 (by decide) (by decide)) dL_law_1950 ?_
  refine z_aft_i aX (x_runV (As := [.int (SCi xs i 1), .int (SCi xs i 2)]) (rest := []) cX hPX (by rw [aX]; exact hS) (c_X11_swallows (l := l) nX hWX h_x k_x e1 H.size) h_x k_x (by decide) rfl rfl km_X11_swallows ki_X11_swallows qm_L_189 ⟨(Nat.le_of_ble_eq_true rfl), (Nat.le_of_ble_eq_true rfl)⟩ rfl hl.1 rfl (Nat.le_of_ble_eq_true rfl) ⟨fc, fs⟩ dL_law_1951) hS (fun H1 locs1 hPX hS hWX hk => ?_)
  have hPM := hp_dis hPM hk (fun q h1 h2 => (dX q h2).2 h1)
  have hPO := ho_dis hPO hk oX
  refine lv_aload_n hx hb dL_law_1954 rfl (lv_at hl 2 rfl) ?_
  refine lv_aload_n hx hb dL_law_1955 rfl (lv_at hl 0 rfl) ?_
  refine lv_iload hx hb dL_law_1956 (lv_at hl 4 rfl) ?_
  refine lv_iconst (v := 1) hx hb dL_law_1958 rfl ?_
  refine lv_iadd hx hb dL_law_1959 ?_
  refine va_sld hx hb hXs hbl hbA hS (hin 1 (by decide) (by decide)) dL_law_1960 ?_
  refine lv_aload_n hx hb dL_law_1961 rfl (lv_at hl 0 rfl) ?_
  refine lv_iload hx hb dL_law_1962 (lv_at hl 4 rfl) ?_
  refine lv_iconst (v := 2) hx hb dL_law_1964 rfl ?_
  refine lv_iadd hx hb dL_law_1965 ?_
  refine va_sld hx hb hXs hbl hbA hS (hin 2 (by decide) (by decide)) dL_law_1966 ?_
  refine z_aft_i aM (x_runV (As := [.int (SCi xs i 1), .int (SCi xs i 2)]) (rest := [.int v]) cM hPM (by rw [aM]; exact hS) (c_X12_swallows (l := l) nM hWM h_y k_y e2 H1.size) h_y k_y (by decide) rfl rfl km_X12_swallows ki_X12_swallows qm_L_192 ⟨(Nat.le_of_ble_eq_true rfl), (Nat.le_of_ble_eq_true rfl)⟩ rfl hl.1 rfl (Nat.le_of_ble_eq_true rfl) ⟨fc, fs⟩ dL_law_1967) hS (fun H2 locs2 hPM hS hWM hk => ?_)
  have hPX := hp_dis hPX hk (fun q h1 => (dX q h1).2)
  have hPO := ho_dis hPO hk oM
  refine lv_icmp_eq (tgt := 2429) hx hb dL_law_1970 (by decide) (fun _ => ?_) (fun c9 => absurd rfl c9)
  exact kk _ _ _ _ _ ⟨GX, GM, S', S2', A, B, f, hs, hPX, hPM, hPO, hWX, hWM, ⟨h_x, k_x⟩, ⟨h_y, k_y⟩, nX, nM, dX, dM, oX, oM, dO⟩ hS hl (Nat.le_add_right _ _) (Nat.le_add_right _ _)
set_option maxRecDepth 100000 in
set_option maxHeartbeats 4000000 in
theorem k_raises (LC : LCX p s m args meth c V b L xs i n cells slots) (I : INV V s.heap.size x y o n H) (hS : va_S (AG G00 s.heap.size) s.heap H locs) (hl : lv_has ls 7 (LL b x y o i)) (kk : KK p l e s m args below meth c Q V x y o b i n cells slots) : W p l e room_1 s m args below meth c H locs cells slots Q (F0 m 1975 ls []) := by
  obtain ⟨C0, hXs, hbl, hn, hin, hce, hsl⟩ := LC
  obtain ⟨GX, GM, SX, SM, A, B, f, hI, hPX, hPM, hPO, hWX, hWM, ⟨h_x, k_x⟩, ⟨h_y, k_y⟩, nX, nM, dX, dM, oX, oM, dO⟩ := I
  have hx := C0.1
  have hb := C0.2.1
  have hbA : ¬ AG G00 s.heap.size b := fun z => z.elim (fun z => nomatch z) (fun z => Nat.not_le.mpr hbl z)
  have cX := cx_w C0 nX (fun q h => (dX q h).1)
  have cM := cx_w C0 nM dM
  have aX := ag_00 (fun q h => (dX q h).1)
  have aM := ag_00 dM
  have fc : cells ≤ room_1.cells := Nat.le_trans (Nat.le_add_right _ _) hce
  have fs : slots ≤ room_1.slots := Nat.le_trans (Nat.le_add_right _ _) hsl
  obtain ⟨v, S', S2', e1, e2, hs⟩ := q_raises hn hI (SCi xs i 1) (SCi xs i 2) (SCi xs i 3)
  refine lv_aload_n hx hb dL_law_1975 rfl (lv_at hl 1 rfl) ?_
  refine lv_aload_n hx hb dL_law_1976 rfl (lv_at hl 0 rfl) ?_
  refine lv_iload hx hb dL_law_1977 (lv_at hl 4 rfl) ?_
  refine lv_iconst (v := 1) hx hb dL_law_1979 rfl ?_
  refine lv_iadd hx hb dL_law_1980 ?_
  refine va_sld hx hb hXs hbl hbA hS (hin 1 (by decide) (by decide)) dL_law_1981 ?_
  refine lv_aload_n hx hb dL_law_1982 rfl (lv_at hl 0 rfl) ?_
  refine lv_iload hx hb dL_law_1983 (lv_at hl 4 rfl) ?_
  refine lv_iconst (v := 2) hx hb dL_law_1985 rfl ?_
  refine lv_iadd hx hb dL_law_1986 ?_
  refine va_sld hx hb hXs hbl hbA hS (hin 2 (by decide) (by decide)) dL_law_1987 ?_
  refine lv_aload_n hx hb dL_law_1988 rfl (lv_at hl 0 rfl) ?_
  refine lv_iload hx hb dL_law_1989 (lv_at hl 4 rfl) ?_
  refine lv_iconst (v := 3) hx hb dL_law_1991 rfl ?_
  refine lv_iadd hx hb dL_law_1992 ?_
  refine va_sld hx hb hXs hbl hbA hS (hin 3 (by decide) (by decide)) dL_law_1993 ?_
  refine z_aft_i aX (x_runV (As := [.int (SCi xs i 1), .int (SCi xs i 2), .int (SCi xs i 3)]) (rest := []) cX hPX (by rw [aX]; exact hS) (c_X11_raises (l := l) nX hWX h_x k_x e1 H.size) h_x k_x (by decide) rfl rfl km_X11_raises ki_X11_raises qm_L_193 ⟨(Nat.le_of_ble_eq_true rfl), (Nat.le_of_ble_eq_true rfl)⟩ rfl hl.1 rfl (Nat.le_of_ble_eq_true rfl) ⟨fc, fs⟩ dL_law_1994) hS (fun H1 locs1 hPX hS hWX hk => ?_)
  have hPM := hp_dis hPM hk (fun q h1 h2 => (dX q h2).2 h1)
  have hPO := ho_dis hPO hk oX
  refine lv_aload_n hx hb dL_law_1997 rfl (lv_at hl 2 rfl) ?_
  refine lv_aload_n hx hb dL_law_1998 rfl (lv_at hl 0 rfl) ?_
  refine lv_iload hx hb dL_law_1999 (lv_at hl 4 rfl) ?_
  refine lv_iconst (v := 1) hx hb dL_law_2001 rfl ?_
  refine lv_iadd hx hb dL_law_2002 ?_
  refine va_sld hx hb hXs hbl hbA hS (hin 1 (by decide) (by decide)) dL_law_2003 ?_
  refine lv_aload_n hx hb dL_law_2004 rfl (lv_at hl 0 rfl) ?_
  refine lv_iload hx hb dL_law_2005 (lv_at hl 4 rfl) ?_
  refine lv_iconst (v := 2) hx hb dL_law_2007 rfl ?_
  refine lv_iadd hx hb dL_law_2008 ?_
  refine va_sld hx hb hXs hbl hbA hS (hin 2 (by decide) (by decide)) dL_law_2009 ?_
  refine lv_aload_n hx hb dL_law_2010 rfl (lv_at hl 0 rfl) ?_
  refine lv_iload hx hb dL_law_2011 (lv_at hl 4 rfl) ?_
  refine lv_iconst (v := 3) hx hb dL_law_2013 rfl ?_
  refine lv_iadd hx hb dL_law_2014 ?_
  refine va_sld hx hb hXs hbl hbA hS (hin 3 (by decide) (by decide)) dL_law_2015 ?_
  refine z_aft_i aM (x_runV (As := [.int (SCi xs i 1), .int (SCi xs i 2), .int (SCi xs i 3)]) (rest := [.int v]) cM hPM (by rw [aM]; exact hS) (c_X12_raises (l := l) nM hWM h_y k_y e2 H1.size) h_y k_y (by decide) rfl rfl km_X12_raises ki_X12_raises qm_L_196 ⟨(Nat.le_of_ble_eq_true rfl), (Nat.le_of_ble_eq_true rfl)⟩ rfl hl.1 rfl (Nat.le_of_ble_eq_true rfl) ⟨fc, fs⟩ dL_law_2016) hS (fun H2 locs2 hPM hS hWM hk => ?_)
  have hPX := hp_dis hPX hk (fun q h1 => (dX q h1).2)
  have hPO := ho_dis hPO hk oM
  refine lv_icmp_eq (tgt := 2429) hx hb dL_law_2019 (by decide) (fun _ => ?_) (fun c9 => absurd rfl c9)
  exact kk _ _ _ _ _ ⟨GX, GM, S', S2', A, B, f, hs, hPX, hPM, hPO, hWX, hWM, ⟨h_x, k_x⟩, ⟨h_y, k_y⟩, nX, nM, dX, dM, oX, oM, dO⟩ hS hl (Nat.le_add_right _ _) (Nat.le_add_right _ _)
set_option maxRecDepth 100000 in
set_option maxHeartbeats 4000000 in
theorem k_ties (LC : LCX p s m args meth c V b L xs i n cells slots) (I : INV V s.heap.size x y o n H) (hS : va_S (AG G00 s.heap.size) s.heap H locs) (hl : lv_has ls 7 (LL b x y o i)) (kk : KK p l e s m args below meth c Q V x y o b i n cells slots) : W p l e room_1 s m args below meth c H locs cells slots Q (F0 m 2024 ls []) := by
  obtain ⟨C0, hXs, hbl, hn, hin, hce, hsl⟩ := LC
  obtain ⟨GX, GM, SX, SM, A, B, f, hI, hPX, hPM, hPO, hWX, hWM, ⟨h_x, k_x⟩, ⟨h_y, k_y⟩, nX, nM, dX, dM, oX, oM, dO⟩ := I
  have hx := C0.1
  have hb := C0.2.1
  have hbA : ¬ AG G00 s.heap.size b := fun z => z.elim (fun z => nomatch z) (fun z => Nat.not_le.mpr hbl z)
  have cX := cx_w C0 nX (fun q h => (dX q h).1)
  have cM := cx_w C0 nM dM
  have aX := ag_00 (fun q h => (dX q h).1)
  have aM := ag_00 dM
  have fc : cells ≤ room_1.cells := Nat.le_trans (Nat.le_add_right _ _) hce
  have fs : slots ≤ room_1.slots := Nat.le_trans (Nat.le_add_right _ _) hsl
  obtain ⟨v, S', S2', e1, e2, hs⟩ := q_ties hn hI (SCi xs i 1) (SCi xs i 2)
  refine lv_aload_n hx hb dL_law_2024 rfl (lv_at hl 1 rfl) ?_
  refine lv_aload_n hx hb dL_law_2025 rfl (lv_at hl 0 rfl) ?_
  refine lv_iload hx hb dL_law_2026 (lv_at hl 4 rfl) ?_
  refine lv_iconst (v := 1) hx hb dL_law_2028 rfl ?_
  refine lv_iadd hx hb dL_law_2029 ?_
  refine va_sld hx hb hXs hbl hbA hS (hin 1 (by decide) (by decide)) dL_law_2030 ?_
  refine lv_aload_n hx hb dL_law_2031 rfl (lv_at hl 0 rfl) ?_
  refine lv_iload hx hb dL_law_2032 (lv_at hl 4 rfl) ?_
  refine lv_iconst (v := 2) hx hb dL_law_2034 rfl ?_
  refine lv_iadd hx hb dL_law_2035 ?_
  refine va_sld hx hb hXs hbl hbA hS (hin 2 (by decide) (by decide)) dL_law_2036 ?_
  refine z_aft_i aX (x_runV (As := [.int (SCi xs i 1), .int (SCi xs i 2)]) (rest := []) cX hPX (by rw [aX]; exact hS) (c_X11_ties (l := l) nX hWX h_x k_x e1 H.size) h_x k_x (by decide) rfl rfl km_X11_ties ki_X11_ties qm_L_197 ⟨(Nat.le_of_ble_eq_true rfl), (Nat.le_of_ble_eq_true rfl)⟩ rfl hl.1 rfl (Nat.le_of_ble_eq_true rfl) ⟨fc, fs⟩ dL_law_2037) hS (fun H1 locs1 hPX hS hWX hk => ?_)
  have hPM := hp_dis hPM hk (fun q h1 h2 => (dX q h2).2 h1)
  have hPO := ho_dis hPO hk oX
  refine lv_aload_n hx hb dL_law_2040 rfl (lv_at hl 2 rfl) ?_
  refine lv_aload_n hx hb dL_law_2041 rfl (lv_at hl 0 rfl) ?_
  refine lv_iload hx hb dL_law_2042 (lv_at hl 4 rfl) ?_
  refine lv_iconst (v := 1) hx hb dL_law_2044 rfl ?_
  refine lv_iadd hx hb dL_law_2045 ?_
  refine va_sld hx hb hXs hbl hbA hS (hin 1 (by decide) (by decide)) dL_law_2046 ?_
  refine lv_aload_n hx hb dL_law_2047 rfl (lv_at hl 0 rfl) ?_
  refine lv_iload hx hb dL_law_2048 (lv_at hl 4 rfl) ?_
  refine lv_iconst (v := 2) hx hb dL_law_2050 rfl ?_
  refine lv_iadd hx hb dL_law_2051 ?_
  refine va_sld hx hb hXs hbl hbA hS (hin 2 (by decide) (by decide)) dL_law_2052 ?_
  refine z_aft_i aM (x_runV (As := [.int (SCi xs i 1), .int (SCi xs i 2)]) (rest := [.int v]) cM hPM (by rw [aM]; exact hS) (c_X12_ties (l := l) nM hWM h_y k_y e2 H1.size) h_y k_y (by decide) rfl rfl km_X12_ties ki_X12_ties qm_L_200 ⟨(Nat.le_of_ble_eq_true rfl), (Nat.le_of_ble_eq_true rfl)⟩ rfl hl.1 rfl (Nat.le_of_ble_eq_true rfl) ⟨fc, fs⟩ dL_law_2053) hS (fun H2 locs2 hPM hS hWM hk => ?_)
  have hPX := hp_dis hPX hk (fun q h1 => (dX q h1).2)
  have hPO := ho_dis hPO hk oM
  refine lv_icmp_eq (tgt := 2429) hx hb dL_law_2056 (by decide) (fun _ => ?_) (fun c9 => absurd rfl c9)
  exact kk _ _ _ _ _ ⟨GX, GM, S', S2', A, B, f, hs, hPX, hPM, hPO, hWX, hWM, ⟨h_x, k_x⟩, ⟨h_y, k_y⟩, nX, nM, dX, dM, oX, oM, dO⟩ hS hl (Nat.le_add_right _ _) (Nat.le_add_right _ _)
set_option maxRecDepth 100000 in
set_option maxHeartbeats 4000000 in
theorem k_root (LC : LCX p s m args meth c V b L xs i n cells slots) (I : INV V s.heap.size x y o n H) (hS : va_S (AG G00 s.heap.size) s.heap H locs) (hl : lv_has ls 7 (LL b x y o i)) (kk : KK p l e s m args below meth c Q V x y o b i n cells slots) : W p l e room_1 s m args below meth c H locs cells slots Q (F0 m 2061 ls []) := by
  obtain ⟨C0, hXs, hbl, hn, hin, hce, hsl⟩ := LC
  obtain ⟨GX, GM, SX, SM, A, B, f, hI, hPX, hPM, hPO, hWX, hWM, ⟨h_x, k_x⟩, ⟨h_y, k_y⟩, nX, nM, dX, dM, oX, oM, dO⟩ := I
  have hx := C0.1
  have hb := C0.2.1
  have hbA : ¬ AG G00 s.heap.size b := fun z => z.elim (fun z => nomatch z) (fun z => Nat.not_le.mpr hbl z)
  have cX := cx_w C0 nX (fun q h => (dX q h).1)
  have cM := cx_w C0 nM dM
  have aX := ag_00 (fun q h => (dX q h).1)
  have aM := ag_00 dM
  have fc : cells ≤ room_1.cells := Nat.le_trans (Nat.le_add_right _ _) hce
  have fs : slots ≤ room_1.slots := Nat.le_trans (Nat.le_add_right _ _) hsl
  obtain ⟨v, S', S2', e1, e2, hs⟩ := q_root hn hI (SCi xs i 1)
  refine lv_aload_n hx hb dL_law_2061 rfl (lv_at hl 1 rfl) ?_
  refine lv_aload_n hx hb dL_law_2062 rfl (lv_at hl 0 rfl) ?_
  refine lv_iload hx hb dL_law_2063 (lv_at hl 4 rfl) ?_
  refine lv_iconst (v := 1) hx hb dL_law_2065 rfl ?_
  refine lv_iadd hx hb dL_law_2066 ?_
  refine va_sld hx hb hXs hbl hbA hS (hin 1 (by decide) (by decide)) dL_law_2067 ?_
  refine z_aft_i aX (x_runV (As := [.int (SCi xs i 1)]) (rest := []) cX hPX (by rw [aX]; exact hS) (c_X11_root (l := l) nX hWX h_x k_x e1 H.size) h_x k_x (by decide) rfl rfl km_X11_root ki_X11_root qm_L_201 ⟨(Nat.le_of_ble_eq_true rfl), (Nat.le_of_ble_eq_true rfl)⟩ rfl hl.1 rfl (Nat.le_of_ble_eq_true rfl) ⟨fc, fs⟩ dL_law_2068) hS (fun H1 locs1 hPX hS hWX hk => ?_)
  have hPM := hp_dis hPM hk (fun q h1 h2 => (dX q h2).2 h1)
  have hPO := ho_dis hPO hk oX
  refine lv_aload_n hx hb dL_law_2071 rfl (lv_at hl 2 rfl) ?_
  refine lv_aload_n hx hb dL_law_2072 rfl (lv_at hl 0 rfl) ?_
  refine lv_iload hx hb dL_law_2073 (lv_at hl 4 rfl) ?_
  refine lv_iconst (v := 1) hx hb dL_law_2075 rfl ?_
  refine lv_iadd hx hb dL_law_2076 ?_
  refine va_sld hx hb hXs hbl hbA hS (hin 1 (by decide) (by decide)) dL_law_2077 ?_
  refine z_aft_i aM (x_runV (As := [.int (SCi xs i 1)]) (rest := [.int v]) cM hPM (by rw [aM]; exact hS) (c_X12_root (l := l) nM hWM h_y k_y e2 H1.size) h_y k_y (by decide) rfl rfl km_X12_root ki_X12_root qm_L_204 ⟨(Nat.le_of_ble_eq_true rfl), (Nat.le_of_ble_eq_true rfl)⟩ rfl hl.1 rfl (Nat.le_of_ble_eq_true rfl) ⟨fc, fs⟩ dL_law_2078) hS (fun H2 locs2 hPM hS hWM hk => ?_)
  have hPX := hp_dis hPX hk (fun q h1 => (dX q h1).2)
  have hPO := ho_dis hPO hk oM
  refine lv_icmp_eq (tgt := 2429) hx hb dL_law_2081 (by decide) (fun _ => ?_) (fun c9 => absurd rfl c9)
  exact kk _ _ _ _ _ ⟨GX, GM, S', S2', A, B, f, hs, hPX, hPM, hPO, hWX, hWM, ⟨h_x, k_x⟩, ⟨h_y, k_y⟩, nX, nM, dX, dM, oX, oM, dO⟩ hS hl (Nat.le_add_right _ _) (Nat.le_add_right _ _)
set_option maxRecDepth 100000 in
set_option maxHeartbeats 4000000 in
theorem k_inverse (LC : LCX p s m args meth c V b L xs i n cells slots) (I : INV V s.heap.size x y o n H) (hS : va_S (AG G00 s.heap.size) s.heap H locs) (hl : lv_has ls 7 (LL b x y o i)) (kk : KK p l e s m args below meth c Q V x y o b i n cells slots) : W p l e room_1 s m args below meth c H locs cells slots Q (F0 m 2086 ls []) := by
  obtain ⟨C0, hXs, hbl, hn, hin, hce, hsl⟩ := LC
  obtain ⟨GX, GM, SX, SM, A, B, f, hI, hPX, hPM, hPO, hWX, hWM, ⟨h_x, k_x⟩, ⟨h_y, k_y⟩, nX, nM, dX, dM, oX, oM, dO⟩ := I
  have hx := C0.1
  have hb := C0.2.1
  have hbA : ¬ AG G00 s.heap.size b := fun z => z.elim (fun z => nomatch z) (fun z => Nat.not_le.mpr hbl z)
  have cX := cx_w C0 nX (fun q h => (dX q h).1)
  have cM := cx_w C0 nM dM
  have aX := ag_00 (fun q h => (dX q h).1)
  have aM := ag_00 dM
  have fc : cells ≤ room_1.cells := Nat.le_trans (Nat.le_add_right _ _) hce
  have fs : slots ≤ room_1.slots := Nat.le_trans (Nat.le_add_right _ _) hsl
  obtain ⟨v, S', S2', e1, e2, hs⟩ := q_inverse hn hI (SCi xs i 1)
  refine lv_aload_n hx hb dL_law_2086 rfl (lv_at hl 1 rfl) ?_
  refine lv_aload_n hx hb dL_law_2087 rfl (lv_at hl 0 rfl) ?_
  refine lv_iload hx hb dL_law_2088 (lv_at hl 4 rfl) ?_
  refine lv_iconst (v := 1) hx hb dL_law_2090 rfl ?_
  refine lv_iadd hx hb dL_law_2091 ?_
  refine va_sld hx hb hXs hbl hbA hS (hin 1 (by decide) (by decide)) dL_law_2092 ?_
  refine z_aft_i aX (x_runV (As := [.int (SCi xs i 1)]) (rest := []) cX hPX (by rw [aX]; exact hS) (c_X11_inverse (l := l) nX hWX h_x k_x e1 H.size) h_x k_x (by decide) rfl rfl km_X11_inverse ki_X11_inverse qm_L_205 ⟨(Nat.le_of_ble_eq_true rfl), (Nat.le_of_ble_eq_true rfl)⟩ rfl hl.1 rfl (Nat.le_of_ble_eq_true rfl) ⟨fc, fs⟩ dL_law_2093) hS (fun H1 locs1 hPX hS hWX hk => ?_)
  have hPM := hp_dis hPM hk (fun q h1 h2 => (dX q h2).2 h1)
  have hPO := ho_dis hPO hk oX
  refine lv_aload_n hx hb dL_law_2096 rfl (lv_at hl 2 rfl) ?_
  refine lv_aload_n hx hb dL_law_2097 rfl (lv_at hl 0 rfl) ?_
  refine lv_iload hx hb dL_law_2098 (lv_at hl 4 rfl) ?_
  refine lv_iconst (v := 1) hx hb dL_law_2100 rfl ?_
  refine lv_iadd hx hb dL_law_2101 ?_
  refine va_sld hx hb hXs hbl hbA hS (hin 1 (by decide) (by decide)) dL_law_2102 ?_
  refine z_aft_i aM (x_runV (As := [.int (SCi xs i 1)]) (rest := [.int v]) cM hPM (by rw [aM]; exact hS) (c_X12_inverse (l := l) nM hWM h_y k_y e2 H1.size) h_y k_y (by decide) rfl rfl km_X12_inverse ki_X12_inverse qm_L_208 ⟨(Nat.le_of_ble_eq_true rfl), (Nat.le_of_ble_eq_true rfl)⟩ rfl hl.1 rfl (Nat.le_of_ble_eq_true rfl) ⟨fc, fs⟩ dL_law_2103) hS (fun H2 locs2 hPM hS hWM hk => ?_)
  have hPX := hp_dis hPX hk (fun q h1 => (dX q h1).2)
  have hPO := ho_dis hPO hk oM
  refine lv_icmp_eq (tgt := 2429) hx hb dL_law_2106 (by decide) (fun _ => ?_) (fun c9 => absurd rfl c9)
  exact kk _ _ _ _ _ ⟨GX, GM, S', S2', A, B, f, hs, hPX, hPM, hPO, hWX, hWM, ⟨h_x, k_x⟩, ⟨h_y, k_y⟩, nX, nM, dX, dM, oX, oM, dO⟩ hS hl (Nat.le_add_right _ _) (Nat.le_add_right _ _)
set_option maxRecDepth 100000 in
set_option maxHeartbeats 4000000 in
theorem k_asked (LC : LCX p s m args meth c V b L xs i n cells slots) (I : INV V s.heap.size x y o n H) (hS : va_S (AG G00 s.heap.size) s.heap H locs) (hl : lv_has ls 7 (LL b x y o i)) (kk : KK p l e s m args below meth c Q V x y o b i n cells slots) : W p l e room_1 s m args below meth c H locs cells slots Q (F0 m 2111 ls []) := by
  obtain ⟨C0, hXs, hbl, hn, hin, hce, hsl⟩ := LC
  obtain ⟨GX, GM, SX, SM, A, B, f, hI, hPX, hPM, hPO, hWX, hWM, ⟨h_x, k_x⟩, ⟨h_y, k_y⟩, nX, nM, dX, dM, oX, oM, dO⟩ := I
  have hx := C0.1
  have hb := C0.2.1
  have hbA : ¬ AG G00 s.heap.size b := fun z => z.elim (fun z => nomatch z) (fun z => Nat.not_le.mpr hbl z)
  have cX := cx_w C0 nX (fun q h => (dX q h).1)
  have cM := cx_w C0 nM dM
  have aX := ag_00 (fun q h => (dX q h).1)
  have aM := ag_00 dM
  have fc : cells ≤ room_1.cells := Nat.le_trans (Nat.le_add_right _ _) hce
  have fs : slots ≤ room_1.slots := Nat.le_trans (Nat.le_add_right _ _) hsl
  obtain ⟨v, S2', e1, e2, hs⟩ := q_asked hn hI 
  refine lv_aload_n hx hb dL_law_2111 rfl (lv_at hl 1 rfl) ?_
  refine z_aft_i aX (x_runV (As := []) (rest := []) cX hPX (by rw [aX]; exact hS) (c_X11_asked (l := l) nX hWX h_x k_x e1 H.size) h_x k_x (by decide) rfl rfl km_X11_asked ki_X11_asked qm_L_209 ⟨(Nat.le_of_ble_eq_true rfl), (Nat.le_of_ble_eq_true rfl)⟩ rfl hl.1 rfl (Nat.le_of_ble_eq_true rfl) ⟨fc, fs⟩ dL_law_2112) hS (fun H1 locs1 hPX hS hWX hk => ?_)
  have hPM := hp_dis hPM hk (fun q h1 h2 => (dX q h2).2 h1)
  have hPO := ho_dis hPO hk oX
  refine lv_aload_n hx hb dL_law_2115 rfl (lv_at hl 2 rfl) ?_
  refine z_aft_i aM (x_runV (As := []) (rest := [.int v]) cM hPM (by rw [aM]; exact hS) (c_X12_asked (l := l) nM hWM h_y k_y e2 H1.size) h_y k_y (by decide) rfl rfl km_X12_asked ki_X12_asked qm_L_212 ⟨(Nat.le_of_ble_eq_true rfl), (Nat.le_of_ble_eq_true rfl)⟩ rfl hl.1 rfl (Nat.le_of_ble_eq_true rfl) ⟨fc, fs⟩ dL_law_2116) hS (fun H2 locs2 hPM hS hWM hk => ?_)
  have hPX := hp_dis hPX hk (fun q h1 => (dX q h1).2)
  have hPO := ho_dis hPO hk oM
  refine lv_icmp_eq (tgt := 2429) hx hb dL_law_2119 (by decide) (fun _ => ?_) (fun c9 => absurd rfl c9)
  exact kk _ _ _ _ _ ⟨GX, GM, SX, S2', A, B, f, hs, hPX, hPM, hPO, hWX, hWM, ⟨h_x, k_x⟩, ⟨h_y, k_y⟩, nX, nM, dX, dM, oX, oM, dO⟩ hS hl (Nat.le_add_right _ _) (Nat.le_add_right _ _)
set_option maxRecDepth 100000 in
set_option maxHeartbeats 4000000 in
theorem k_often (LC : LCX p s m args meth c V b L xs i n cells slots) (I : INV V s.heap.size x y o n H) (hS : va_S (AG G00 s.heap.size) s.heap H locs) (hl : lv_has ls 7 (LL b x y o i)) (kk : KK p l e s m args below meth c Q V x y o b i n cells slots) : W p l e room_1 s m args below meth c H locs cells slots Q (F0 m 2124 ls []) := by
  obtain ⟨C0, hXs, hbl, hn, hin, hce, hsl⟩ := LC
  obtain ⟨GX, GM, SX, SM, A, B, f, hI, hPX, hPM, hPO, hWX, hWM, ⟨h_x, k_x⟩, ⟨h_y, k_y⟩, nX, nM, dX, dM, oX, oM, dO⟩ := I
  have hx := C0.1
  have hb := C0.2.1
  have hbA : ¬ AG G00 s.heap.size b := fun z => z.elim (fun z => nomatch z) (fun z => Nat.not_le.mpr hbl z)
  have cX := cx_w C0 nX (fun q h => (dX q h).1)
  have cM := cx_w C0 nM dM
  have aX := ag_00 (fun q h => (dX q h).1)
  have aM := ag_00 dM
  have fc : cells ≤ room_1.cells := Nat.le_trans (Nat.le_add_right _ _) hce
  have fs : slots ≤ room_1.slots := Nat.le_trans (Nat.le_add_right _ _) hsl
  obtain ⟨v, S2', e1, e2, hs⟩ := q_often hn hI (SCi xs i 1)
  refine lv_aload_n hx hb dL_law_2124 rfl (lv_at hl 1 rfl) ?_
  refine lv_aload_n hx hb dL_law_2125 rfl (lv_at hl 0 rfl) ?_
  refine lv_iload hx hb dL_law_2126 (lv_at hl 4 rfl) ?_
  refine lv_iconst (v := 1) hx hb dL_law_2128 rfl ?_
  refine lv_iadd hx hb dL_law_2129 ?_
  refine va_sld hx hb hXs hbl hbA hS (hin 1 (by decide) (by decide)) dL_law_2130 ?_
  refine z_aft_i aX (x_runV (As := [.int (SCi xs i 1)]) (rest := []) cX hPX (by rw [aX]; exact hS) (c_X11_often (l := l) nX hWX h_x k_x e1 H.size) h_x k_x (by decide) rfl rfl km_X11_often ki_X11_often qm_L_213 ⟨(Nat.le_of_ble_eq_true rfl), (Nat.le_of_ble_eq_true rfl)⟩ rfl hl.1 rfl (Nat.le_of_ble_eq_true rfl) ⟨fc, fs⟩ dL_law_2131) hS (fun H1 locs1 hPX hS hWX hk => ?_)
  have hPM := hp_dis hPM hk (fun q h1 h2 => (dX q h2).2 h1)
  have hPO := ho_dis hPO hk oX
  refine lv_aload_n hx hb dL_law_2134 rfl (lv_at hl 2 rfl) ?_
  refine lv_aload_n hx hb dL_law_2135 rfl (lv_at hl 0 rfl) ?_
  refine lv_iload hx hb dL_law_2136 (lv_at hl 4 rfl) ?_
  refine lv_iconst (v := 1) hx hb dL_law_2138 rfl ?_
  refine lv_iadd hx hb dL_law_2139 ?_
  refine va_sld hx hb hXs hbl hbA hS (hin 1 (by decide) (by decide)) dL_law_2140 ?_
  refine z_aft_i aM (x_runV (As := [.int (SCi xs i 1)]) (rest := [.int v]) cM hPM (by rw [aM]; exact hS) (c_X12_often (l := l) nM hWM h_y k_y e2 H1.size) h_y k_y (by decide) rfl rfl km_X12_often ki_X12_often qm_L_216 ⟨(Nat.le_of_ble_eq_true rfl), (Nat.le_of_ble_eq_true rfl)⟩ rfl hl.1 rfl (Nat.le_of_ble_eq_true rfl) ⟨fc, fs⟩ dL_law_2141) hS (fun H2 locs2 hPM hS hWM hk => ?_)
  have hPX := hp_dis hPX hk (fun q h1 => (dX q h1).2)
  have hPO := ho_dis hPO hk oM
  refine lv_icmp_eq (tgt := 2429) hx hb dL_law_2144 (by decide) (fun _ => ?_) (fun c9 => absurd rfl c9)
  exact kk _ _ _ _ _ ⟨GX, GM, SX, S2', A, B, f, hs, hPX, hPM, hPO, hWX, hWM, ⟨h_x, k_x⟩, ⟨h_y, k_y⟩, nX, nM, dX, dM, oX, oM, dO⟩ hS hl (Nat.le_add_right _ _) (Nat.le_add_right _ _)
set_option maxRecDepth 100000 in
set_option maxHeartbeats 4000000 in
theorem k_times (LC : LCX p s m args meth c V b L xs i n cells slots) (I : INV V s.heap.size x y o n H) (hS : va_S (AG G00 s.heap.size) s.heap H locs) (hl : lv_has ls 7 (LL b x y o i)) (kk : KK p l e s m args below meth c Q V x y o b i n cells slots) : W p l e room_1 s m args below meth c H locs cells slots Q (F0 m 2149 ls []) := by
  obtain ⟨C0, hXs, hbl, hn, hin, hce, hsl⟩ := LC
  obtain ⟨GX, GM, SX, SM, A, B, f, hI, hPX, hPM, hPO, hWX, hWM, ⟨h_x, k_x⟩, ⟨h_y, k_y⟩, nX, nM, dX, dM, oX, oM, dO⟩ := I
  have hx := C0.1
  have hb := C0.2.1
  have hbA : ¬ AG G00 s.heap.size b := fun z => z.elim (fun z => nomatch z) (fun z => Nat.not_le.mpr hbl z)
  have cX := cx_w C0 nX (fun q h => (dX q h).1)
  have cM := cx_w C0 nM dM
  have aX := ag_00 (fun q h => (dX q h).1)
  have aM := ag_00 dM
  have fc : cells ≤ room_1.cells := Nat.le_trans (Nat.le_add_right _ _) hce
  have fs : slots ≤ room_1.slots := Nat.le_trans (Nat.le_add_right _ _) hsl
  obtain ⟨v, S2', e1, e2, hs⟩ := q_times hn hI (SCi xs i 1) (SCi xs i 2) (SCi xs i 3) (SCi xs i 4)
  refine lv_aload_n hx hb dL_law_2149 rfl (lv_at hl 1 rfl) ?_
  refine lv_aload_n hx hb dL_law_2150 rfl (lv_at hl 0 rfl) ?_
  refine lv_iload hx hb dL_law_2151 (lv_at hl 4 rfl) ?_
  refine lv_iconst (v := 1) hx hb dL_law_2153 rfl ?_
  refine lv_iadd hx hb dL_law_2154 ?_
  refine va_sld hx hb hXs hbl hbA hS (hin 1 (by decide) (by decide)) dL_law_2155 ?_
  refine lv_aload_n hx hb dL_law_2156 rfl (lv_at hl 0 rfl) ?_
  refine lv_iload hx hb dL_law_2157 (lv_at hl 4 rfl) ?_
  refine lv_iconst (v := 2) hx hb dL_law_2159 rfl ?_
  refine lv_iadd hx hb dL_law_2160 ?_
  refine va_sld hx hb hXs hbl hbA hS (hin 2 (by decide) (by decide)) dL_law_2161 ?_
  refine lv_aload_n hx hb dL_law_2162 rfl (lv_at hl 0 rfl) ?_
  refine lv_iload hx hb dL_law_2163 (lv_at hl 4 rfl) ?_
  refine lv_iconst (v := 3) hx hb dL_law_2165 rfl ?_
  refine lv_iadd hx hb dL_law_2166 ?_
  refine va_sld hx hb hXs hbl hbA hS (hin 3 (by decide) (by decide)) dL_law_2167 ?_
  refine lv_aload_n hx hb dL_law_2168 rfl (lv_at hl 0 rfl) ?_
  refine lv_iload hx hb dL_law_2169 (lv_at hl 4 rfl) ?_
  refine lv_iconst (v := 4) hx hb dL_law_2171 rfl ?_
  refine lv_iadd hx hb dL_law_2172 ?_
  refine va_sld hx hb hXs hbl hbA hS (hin 4 (by decide) (by decide)) dL_law_2173 ?_
  refine z_aft_i aX (x_runV (As := [.int (SCi xs i 1), .int (SCi xs i 2), .int (SCi xs i 3), .int (SCi xs i 4)]) (rest := []) cX hPX (by rw [aX]; exact hS) (c_X11_times (l := l) nX hWX h_x k_x e1 H.size) h_x k_x (by decide) rfl rfl km_X11_times ki_X11_times qm_L_217 ⟨(Nat.le_of_ble_eq_true rfl), (Nat.le_of_ble_eq_true rfl)⟩ rfl hl.1 rfl (Nat.le_of_ble_eq_true rfl) ⟨fc, fs⟩ dL_law_2174) hS (fun H1 locs1 hPX hS hWX hk => ?_)
  have hPM := hp_dis hPM hk (fun q h1 h2 => (dX q h2).2 h1)
  have hPO := ho_dis hPO hk oX
  refine lv_aload_n hx hb dL_law_2177 rfl (lv_at hl 2 rfl) ?_
  refine lv_aload_n hx hb dL_law_2178 rfl (lv_at hl 0 rfl) ?_
  refine lv_iload hx hb dL_law_2179 (lv_at hl 4 rfl) ?_
  refine lv_iconst (v := 1) hx hb dL_law_2181 rfl ?_
  refine lv_iadd hx hb dL_law_2182 ?_
  refine va_sld hx hb hXs hbl hbA hS (hin 1 (by decide) (by decide)) dL_law_2183 ?_
  refine lv_aload_n hx hb dL_law_2184 rfl (lv_at hl 0 rfl) ?_
  refine lv_iload hx hb dL_law_2185 (lv_at hl 4 rfl) ?_
  refine lv_iconst (v := 2) hx hb dL_law_2187 rfl ?_
  refine lv_iadd hx hb dL_law_2188 ?_
  refine va_sld hx hb hXs hbl hbA hS (hin 2 (by decide) (by decide)) dL_law_2189 ?_
  refine lv_aload_n hx hb dL_law_2190 rfl (lv_at hl 0 rfl) ?_
  refine lv_iload hx hb dL_law_2191 (lv_at hl 4 rfl) ?_
  refine lv_iconst (v := 3) hx hb dL_law_2193 rfl ?_
  refine lv_iadd hx hb dL_law_2194 ?_
  refine va_sld hx hb hXs hbl hbA hS (hin 3 (by decide) (by decide)) dL_law_2195 ?_
  refine lv_aload_n hx hb dL_law_2196 rfl (lv_at hl 0 rfl) ?_
  refine lv_iload hx hb dL_law_2197 (lv_at hl 4 rfl) ?_
  refine lv_iconst (v := 4) hx hb dL_law_2199 rfl ?_
  refine lv_iadd hx hb dL_law_2200 ?_
  refine va_sld hx hb hXs hbl hbA hS (hin 4 (by decide) (by decide)) dL_law_2201 ?_
  refine z_aft_i aM (x_runV (As := [.int (SCi xs i 1), .int (SCi xs i 2), .int (SCi xs i 3), .int (SCi xs i 4)]) (rest := [.int v]) cM hPM (by rw [aM]; exact hS) (c_X12_times (l := l) nM hWM h_y k_y e2 H1.size) h_y k_y (by decide) rfl rfl km_X12_times ki_X12_times qm_L_220 ⟨(Nat.le_of_ble_eq_true rfl), (Nat.le_of_ble_eq_true rfl)⟩ rfl hl.1 rfl (Nat.le_of_ble_eq_true rfl) ⟨fc, fs⟩ dL_law_2202) hS (fun H2 locs2 hPM hS hWM hk => ?_)
  have hPX := hp_dis hPX hk (fun q h1 => (dX q h1).2)
  have hPO := ho_dis hPO hk oM
  refine lv_icmp_eq (tgt := 2429) hx hb dL_law_2205 (by decide) (fun _ => ?_) (fun c9 => absurd rfl c9)
  exact kk _ _ _ _ _ ⟨GX, GM, SX, S2', A, B, f, hs, hPX, hPM, hPO, hWX, hWM, ⟨h_x, k_x⟩, ⟨h_y, k_y⟩, nX, nM, dX, dM, oX, oM, dO⟩ hS hl (Nat.le_add_right _ _) (Nat.le_add_right _ _)
set_option maxRecDepth 100000 in
set_option maxHeartbeats 4000000 in
theorem k_results (LC : LCX p s m args meth c V b L xs i n cells slots) (I : INV V s.heap.size x y o n H) (hS : va_S (AG G00 s.heap.size) s.heap H locs) (hl : lv_has ls 7 (LL b x y o i)) (kk : KK p l e s m args below meth c Q V x y o b i n cells slots) : W p l e room_1 s m args below meth c H locs cells slots Q (F0 m 2210 ls []) := by
  obtain ⟨C0, hXs, hbl, hn, hin, hce, hsl⟩ := LC
  obtain ⟨GX, GM, SX, SM, A, B, f, hI, hPX, hPM, hPO, hWX, hWM, ⟨h_x, k_x⟩, ⟨h_y, k_y⟩, nX, nM, dX, dM, oX, oM, dO⟩ := I
  have hx := C0.1
  have hb := C0.2.1
  have hbA : ¬ AG G00 s.heap.size b := fun z => z.elim (fun z => nomatch z) (fun z => Nat.not_le.mpr hbl z)
  have cX := cx_w C0 nX (fun q h => (dX q h).1)
  have cM := cx_w C0 nM dM
  have aX := ag_00 (fun q h => (dX q h).1)
  have aM := ag_00 dM
  have fc : cells ≤ room_1.cells := Nat.le_trans (Nat.le_add_right _ _) hce
  have fs : slots ≤ room_1.slots := Nat.le_trans (Nat.le_add_right _ _) hsl
  obtain ⟨v, S2', e1, e2, hs⟩ := q_results hn hI 
  refine lv_aload_n hx hb dL_law_2210 rfl (lv_at hl 1 rfl) ?_
  refine z_aft_i aX (x_runV (As := []) (rest := []) cX hPX (by rw [aX]; exact hS) (c_X11_results (l := l) nX hWX h_x k_x e1 H.size) h_x k_x (by decide) rfl rfl km_X11_results ki_X11_results qm_L_221 ⟨(Nat.le_of_ble_eq_true rfl), (Nat.le_of_ble_eq_true rfl)⟩ rfl hl.1 rfl (Nat.le_of_ble_eq_true rfl) ⟨fc, fs⟩ dL_law_2211) hS (fun H1 locs1 hPX hS hWX hk => ?_)
  have hPM := hp_dis hPM hk (fun q h1 h2 => (dX q h2).2 h1)
  have hPO := ho_dis hPO hk oX
  refine lv_aload_n hx hb dL_law_2214 rfl (lv_at hl 2 rfl) ?_
  refine z_aft_i aM (x_runV (As := []) (rest := [.int v]) cM hPM (by rw [aM]; exact hS) (c_X12_results (l := l) nM hWM h_y k_y e2 H1.size) h_y k_y (by decide) rfl rfl km_X12_results ki_X12_results qm_L_224 ⟨(Nat.le_of_ble_eq_true rfl), (Nat.le_of_ble_eq_true rfl)⟩ rfl hl.1 rfl (Nat.le_of_ble_eq_true rfl) ⟨fc, fs⟩ dL_law_2215) hS (fun H2 locs2 hPM hS hWM hk => ?_)
  have hPX := hp_dis hPX hk (fun q h1 => (dX q h1).2)
  have hPO := ho_dis hPO hk oM
  refine lv_icmp_eq (tgt := 2429) hx hb dL_law_2218 (by decide) (fun _ => ?_) (fun c9 => absurd rfl c9)
  exact kk _ _ _ _ _ ⟨GX, GM, SX, S2', A, B, f, hs, hPX, hPM, hPO, hWX, hWM, ⟨h_x, k_x⟩, ⟨h_y, k_y⟩, nX, nM, dX, dM, oX, oM, dO⟩ hS hl (Nat.le_add_right _ _) (Nat.le_add_right _ _)
set_option maxRecDepth 100000 in
set_option maxHeartbeats 4000000 in
theorem k_see (LC : LCX p s m args meth c V b L xs i n cells slots) (I : INV V s.heap.size x y o n H) (hS : va_S (AG G00 s.heap.size) s.heap H locs) (hl : lv_has ls 7 (LL b x y o i)) (kk : KK p l e s m args below meth c Q V x y o b i n cells slots) : W p l e room_1 s m args below meth c H locs cells slots Q (F0 m 2223 ls []) := by
  obtain ⟨C0, hXs, hbl, hn, hin, hce, hsl⟩ := LC
  obtain ⟨GX, GM, SX, SM, A, B, f, hI, hPX, hPM, hPO, hWX, hWM, ⟨h_x, k_x⟩, ⟨h_y, k_y⟩, nX, nM, dX, dM, oX, oM, dO⟩ := I
  have hx := C0.1
  have hb := C0.2.1
  have hbA : ¬ AG G00 s.heap.size b := fun z => z.elim (fun z => nomatch z) (fun z => Nat.not_le.mpr hbl z)
  have cX := cx_w C0 nX (fun q h => (dX q h).1)
  have cM := cx_w C0 nM dM
  have aX := ag_00 (fun q h => (dX q h).1)
  have aM := ag_00 dM
  have fc : cells ≤ room_1.cells := Nat.le_trans (Nat.le_add_right _ _) hce
  have fs : slots ≤ room_1.slots := Nat.le_trans (Nat.le_add_right _ _) hsl
  by_cases hz : SCi xs i 2 = 0
  · obtain ⟨v, S', S2', e1, e2, hs⟩ := q_see hn hI (SCi xs i 1) false
    refine lv_aload_n hx hb dL_law_2223 rfl (lv_at hl 1 rfl) ?_
    refine lv_aload_n hx hb dL_law_2224 rfl (lv_at hl 0 rfl) ?_
    refine lv_iload hx hb dL_law_2225 (lv_at hl 4 rfl) ?_
    refine lv_iconst (v := 1) hx hb dL_law_2227 rfl ?_
    refine lv_iadd hx hb dL_law_2228 ?_
    refine va_sld hx hb hXs hbl hbA hS (hin 1 (by decide) (by decide)) dL_law_2229 ?_
    refine lv_aload_n hx hb dL_law_2230 rfl (lv_at hl 0 rfl) ?_
    refine lv_iload hx hb dL_law_2231 (lv_at hl 4 rfl) ?_
    refine lv_iconst (v := 2) hx hb dL_law_2233 rfl ?_
    refine lv_iadd hx hb dL_law_2234 ?_
    refine va_sld hx hb hXs hbl hbA hS (hin 2 (by decide) (by decide)) dL_law_2235 ?_
    refine lv_if_eq (tgt := 2243) hx hb dL_law_2236 (by decide) (fun _ => ?_) (fun z9 => absurd hz z9)
    refine lv_iconst (v := 0) hx hb dL_law_2243 rfl ?_
    refine z_aft_z aX (x_runV (As := [.int (SCi xs i 1), .int (b2 false)]) (rest := []) cX hPX (by rw [aX]; exact hS) (c_X11_see (l := l) nX hWX h_x k_x e1 H.size) h_x k_x (by decide) rfl rfl km_X11_see ki_X11_see qm_L_225 ⟨(Nat.le_of_ble_eq_true rfl), (Nat.le_of_ble_eq_true rfl)⟩ rfl hl.1 rfl (Nat.le_of_ble_eq_true rfl) ⟨fc, fs⟩ dL_law_2244) hS (fun H1 locs1 hPX hS hWX hk => ?_)
    have hPM := hp_dis hPM hk (fun q h1 h2 => (dX q h2).2 h1)
    have hPO := ho_dis hPO hk oX
    refine lv_aload_n hx hb dL_law_2247 rfl (lv_at hl 2 rfl) ?_
    refine lv_aload_n hx hb dL_law_2248 rfl (lv_at hl 0 rfl) ?_
    refine lv_iload hx hb dL_law_2249 (lv_at hl 4 rfl) ?_
    refine lv_iconst (v := 1) hx hb dL_law_2251 rfl ?_
    refine lv_iadd hx hb dL_law_2252 ?_
    refine va_sld hx hb hXs hbl hbA hS (hin 1 (by decide) (by decide)) dL_law_2253 ?_
    refine lv_aload_n hx hb dL_law_2254 rfl (lv_at hl 0 rfl) ?_
    refine lv_iload hx hb dL_law_2255 (lv_at hl 4 rfl) ?_
    refine lv_iconst (v := 2) hx hb dL_law_2257 rfl ?_
    refine lv_iadd hx hb dL_law_2258 ?_
    refine va_sld hx hb hXs hbl hbA hS (hin 2 (by decide) (by decide)) dL_law_2259 ?_
    refine lv_if_eq (tgt := 2267) hx hb dL_law_2260 (by decide) (fun _ => ?_) (fun z9 => absurd hz z9)
    refine lv_iconst (v := 0) hx hb dL_law_2267 rfl ?_
    refine z_aft_z aM (x_runV (As := [.int (SCi xs i 1), .int (b2 false)]) (rest := [.int v]) cM hPM (by rw [aM]; exact hS) (c_X12_see (l := l) nM hWM h_y k_y e2 H1.size) h_y k_y (by decide) rfl rfl km_X12_see ki_X12_see qm_L_229 ⟨(Nat.le_of_ble_eq_true rfl), (Nat.le_of_ble_eq_true rfl)⟩ rfl hl.1 rfl (Nat.le_of_ble_eq_true rfl) ⟨fc, fs⟩ dL_law_2268) hS (fun H2 locs2 hPM hS hWM hk => ?_)
    have hPX := hp_dis hPX hk (fun q h1 => (dX q h1).2)
    have hPO := ho_dis hPO hk oM
    refine lv_icmp_eq (tgt := 2429) hx hb dL_law_2271 (by decide) (fun _ => ?_) (fun c9 => absurd rfl c9)
    exact kk _ _ _ _ _ ⟨GX, GM, S', S2', A, B, f, hs, hPX, hPM, hPO, hWX, hWM, ⟨h_x, k_x⟩, ⟨h_y, k_y⟩, nX, nM, dX, dM, oX, oM, dO⟩ hS hl (Nat.le_add_right _ _) (Nat.le_add_right _ _)
  · obtain ⟨v, S', S2', e1, e2, hs⟩ := q_see hn hI (SCi xs i 1) true
    refine lv_aload_n hx hb dL_law_2223 rfl (lv_at hl 1 rfl) ?_
    refine lv_aload_n hx hb dL_law_2224 rfl (lv_at hl 0 rfl) ?_
    refine lv_iload hx hb dL_law_2225 (lv_at hl 4 rfl) ?_
    refine lv_iconst (v := 1) hx hb dL_law_2227 rfl ?_
    refine lv_iadd hx hb dL_law_2228 ?_
    refine va_sld hx hb hXs hbl hbA hS (hin 1 (by decide) (by decide)) dL_law_2229 ?_
    refine lv_aload_n hx hb dL_law_2230 rfl (lv_at hl 0 rfl) ?_
    refine lv_iload hx hb dL_law_2231 (lv_at hl 4 rfl) ?_
    refine lv_iconst (v := 2) hx hb dL_law_2233 rfl ?_
    refine lv_iadd hx hb dL_law_2234 ?_
    refine va_sld hx hb hXs hbl hbA hS (hin 2 (by decide) (by decide)) dL_law_2235 ?_
    refine lv_if_eq (tgt := 2243) hx hb dL_law_2236 (by decide) (fun z9 => absurd z9 hz) (fun _ => ?_)
    refine lv_iconst (v := 1) hx hb dL_law_2239 rfl ?_
    refine lv_goto (tgt := 2244) hx hb dL_law_2240 (by decide) ?_
    refine z_aft_z aX (x_runV (As := [.int (SCi xs i 1), .int (b2 true)]) (rest := []) cX hPX (by rw [aX]; exact hS) (c_X11_see (l := l) nX hWX h_x k_x e1 H.size) h_x k_x (by decide) rfl rfl km_X11_see ki_X11_see qm_L_225 ⟨(Nat.le_of_ble_eq_true rfl), (Nat.le_of_ble_eq_true rfl)⟩ rfl hl.1 rfl (Nat.le_of_ble_eq_true rfl) ⟨fc, fs⟩ dL_law_2244) hS (fun H1 locs1 hPX hS hWX hk => ?_)
    have hPM := hp_dis hPM hk (fun q h1 h2 => (dX q h2).2 h1)
    have hPO := ho_dis hPO hk oX
    refine lv_aload_n hx hb dL_law_2247 rfl (lv_at hl 2 rfl) ?_
    refine lv_aload_n hx hb dL_law_2248 rfl (lv_at hl 0 rfl) ?_
    refine lv_iload hx hb dL_law_2249 (lv_at hl 4 rfl) ?_
    refine lv_iconst (v := 1) hx hb dL_law_2251 rfl ?_
    refine lv_iadd hx hb dL_law_2252 ?_
    refine va_sld hx hb hXs hbl hbA hS (hin 1 (by decide) (by decide)) dL_law_2253 ?_
    refine lv_aload_n hx hb dL_law_2254 rfl (lv_at hl 0 rfl) ?_
    refine lv_iload hx hb dL_law_2255 (lv_at hl 4 rfl) ?_
    refine lv_iconst (v := 2) hx hb dL_law_2257 rfl ?_
    refine lv_iadd hx hb dL_law_2258 ?_
    refine va_sld hx hb hXs hbl hbA hS (hin 2 (by decide) (by decide)) dL_law_2259 ?_
    refine lv_if_eq (tgt := 2267) hx hb dL_law_2260 (by decide) (fun z9 => absurd z9 hz) (fun _ => ?_)
    refine lv_iconst (v := 1) hx hb dL_law_2263 rfl ?_
    refine lv_goto (tgt := 2268) hx hb dL_law_2264 (by decide) ?_
    refine z_aft_z aM (x_runV (As := [.int (SCi xs i 1), .int (b2 true)]) (rest := [.int v]) cM hPM (by rw [aM]; exact hS) (c_X12_see (l := l) nM hWM h_y k_y e2 H1.size) h_y k_y (by decide) rfl rfl km_X12_see ki_X12_see qm_L_229 ⟨(Nat.le_of_ble_eq_true rfl), (Nat.le_of_ble_eq_true rfl)⟩ rfl hl.1 rfl (Nat.le_of_ble_eq_true rfl) ⟨fc, fs⟩ dL_law_2268) hS (fun H2 locs2 hPM hS hWM hk => ?_)
    have hPX := hp_dis hPX hk (fun q h1 => (dX q h1).2)
    have hPO := ho_dis hPO hk oM
    refine lv_icmp_eq (tgt := 2429) hx hb dL_law_2271 (by decide) (fun _ => ?_) (fun c9 => absurd rfl c9)
    exact kk _ _ _ _ _ ⟨GX, GM, S', S2', A, B, f, hs, hPX, hPM, hPO, hWX, hWM, ⟨h_x, k_x⟩, ⟨h_y, k_y⟩, nX, nM, dX, dM, oX, oM, dO⟩ hS hl (Nat.le_add_right _ _) (Nat.le_add_right _ _)
set_option maxRecDepth 100000 in
set_option maxHeartbeats 4000000 in
theorem k_fit (LC : LCX p s m args meth c V b L xs i n cells slots) (I : INV V s.heap.size x y o n H) (hS : va_S (AG G00 s.heap.size) s.heap H locs) (hl : lv_has ls 7 (LL b x y o i)) (kk : KK p l e s m args below meth c Q V x y o b i n cells slots) : W p l e room_1 s m args below meth c H locs cells slots Q (F0 m 2276 ls []) := by
  obtain ⟨C0, hXs, hbl, hn, hin, hce, hsl⟩ := LC
  obtain ⟨GX, GM, SX, SM, A, B, f, hI, hPX, hPM, hPO, hWX, hWM, ⟨h_x, k_x⟩, ⟨h_y, k_y⟩, nX, nM, dX, dM, oX, oM, dO⟩ := I
  have hx := C0.1
  have hb := C0.2.1
  have hbA : ¬ AG G00 s.heap.size b := fun z => z.elim (fun z => nomatch z) (fun z => Nat.not_le.mpr hbl z)
  have cX := cx_w C0 nX (fun q h => (dX q h).1)
  have cM := cx_w C0 nM dM
  have aX := ag_00 (fun q h => (dX q h).1)
  have aM := ag_00 dM
  have fc : cells ≤ room_1.cells := Nat.le_trans (Nat.le_add_right _ _) hce
  have fs : slots ≤ room_1.slots := Nat.le_trans (Nat.le_add_right _ _) hsl
  obtain ⟨v, S', S2', e1, e2, hs⟩ := q_fit hn hI 
  refine lv_aload_n hx hb dL_law_2276 rfl (lv_at hl 1 rfl) ?_
  refine z_aft_i aX (x_runV (As := []) (rest := []) cX hPX (by rw [aX]; exact hS) (c_X11_fit (l := l) nX hWX h_x k_x e1 H.size) h_x k_x (by decide) rfl rfl km_X11_fit ki_X11_fit qm_L_230 ⟨(Nat.le_of_ble_eq_true rfl), (Nat.le_of_ble_eq_true rfl)⟩ rfl hl.1 rfl (Nat.le_of_ble_eq_true rfl) ⟨fc, fs⟩ dL_law_2277) hS (fun H1 locs1 hPX hS hWX hk => ?_)
  have hPM := hp_dis hPM hk (fun q h1 h2 => (dX q h2).2 h1)
  have hPO := ho_dis hPO hk oX
  refine lv_aload_n hx hb dL_law_2280 rfl (lv_at hl 2 rfl) ?_
  refine z_aft_i aM (x_runV (As := []) (rest := [.int v]) cM hPM (by rw [aM]; exact hS) (c_X12_fit (l := l) nM hWM h_y k_y e2 H1.size) h_y k_y (by decide) rfl rfl km_X12_fit ki_X12_fit qm_L_233 ⟨(Nat.le_of_ble_eq_true rfl), (Nat.le_of_ble_eq_true rfl)⟩ rfl hl.1 rfl (Nat.le_of_ble_eq_true rfl) ⟨fc, fs⟩ dL_law_2281) hS (fun H2 locs2 hPM hS hWM hk => ?_)
  have hPX := hp_dis hPX hk (fun q h1 => (dX q h1).2)
  have hPO := ho_dis hPO hk oM
  refine lv_icmp_eq (tgt := 2429) hx hb dL_law_2284 (by decide) (fun _ => ?_) (fun c9 => absurd rfl c9)
  exact kk _ _ _ _ _ ⟨GX, GM, S', S2', A, B, f, hs, hPX, hPM, hPO, hWX, hWM, ⟨h_x, k_x⟩, ⟨h_y, k_y⟩, nX, nM, dX, dM, oX, oM, dO⟩ hS hl (Nat.le_add_right _ _) (Nat.le_add_right _ _)
set_option maxRecDepth 100000 in
set_option maxHeartbeats 4000000 in
theorem k_least (LC : LCX p s m args meth c V b L xs i n cells slots) (I : INV V s.heap.size x y o n H) (hS : va_S (AG G00 s.heap.size) s.heap H locs) (hl : lv_has ls 7 (LL b x y o i)) (kk : KK p l e s m args below meth c Q V x y o b i n cells slots) : W p l e room_1 s m args below meth c H locs cells slots Q (F0 m 2289 ls []) := by
  obtain ⟨C0, hXs, hbl, hn, hin, hce, hsl⟩ := LC
  obtain ⟨GX, GM, SX, SM, A, B, f, hI, hPX, hPM, hPO, hWX, hWM, ⟨h_x, k_x⟩, ⟨h_y, k_y⟩, nX, nM, dX, dM, oX, oM, dO⟩ := I
  have hx := C0.1
  have hb := C0.2.1
  have hbA : ¬ AG G00 s.heap.size b := fun z => z.elim (fun z => nomatch z) (fun z => Nat.not_le.mpr hbl z)
  have cX := cx_w C0 nX (fun q h => (dX q h).1)
  have cM := cx_w C0 nM dM
  have aX := ag_00 (fun q h => (dX q h).1)
  have aM := ag_00 dM
  have fc : cells ≤ room_1.cells := Nat.le_trans (Nat.le_add_right _ _) hce
  have fs : slots ≤ room_1.slots := Nat.le_trans (Nat.le_add_right _ _) hsl
  obtain ⟨v, S', S2', e1, e2, hs⟩ := q_least hn hI 
  refine lv_aload_n hx hb dL_law_2289 rfl (lv_at hl 1 rfl) ?_
  refine z_aft_i aX (x_runV (As := []) (rest := []) cX hPX (by rw [aX]; exact hS) (c_X11_least (l := l) nX hWX h_x k_x e1 H.size) h_x k_x (by decide) rfl rfl km_X11_least ki_X11_least qm_L_234 ⟨(Nat.le_of_ble_eq_true rfl), (Nat.le_of_ble_eq_true rfl)⟩ rfl hl.1 rfl (Nat.le_of_ble_eq_true rfl) ⟨fc, fs⟩ dL_law_2290) hS (fun H1 locs1 hPX hS hWX hk => ?_)
  have hPM := hp_dis hPM hk (fun q h1 h2 => (dX q h2).2 h1)
  have hPO := ho_dis hPO hk oX
  refine lv_aload_n hx hb dL_law_2293 rfl (lv_at hl 2 rfl) ?_
  refine z_aft_i aM (x_runV (As := []) (rest := [.int v]) cM hPM (by rw [aM]; exact hS) (c_X12_least (l := l) nM hWM h_y k_y e2 H1.size) h_y k_y (by decide) rfl rfl km_X12_least ki_X12_least qm_L_237 ⟨(Nat.le_of_ble_eq_true rfl), (Nat.le_of_ble_eq_true rfl)⟩ rfl hl.1 rfl (Nat.le_of_ble_eq_true rfl) ⟨fc, fs⟩ dL_law_2294) hS (fun H2 locs2 hPM hS hWM hk => ?_)
  have hPX := hp_dis hPX hk (fun q h1 => (dX q h1).2)
  have hPO := ho_dis hPO hk oM
  refine lv_icmp_eq (tgt := 2429) hx hb dL_law_2297 (by decide) (fun _ => ?_) (fun c9 => absurd rfl c9)
  exact kk _ _ _ _ _ ⟨GX, GM, S', S2', A, B, f, hs, hPX, hPM, hPO, hWX, hWM, ⟨h_x, k_x⟩, ⟨h_y, k_y⟩, nX, nM, dX, dM, oX, oM, dO⟩ hS hl (Nat.le_add_right _ _) (Nat.le_add_right _ _)
set_option maxRecDepth 100000 in
set_option maxHeartbeats 4000000 in
theorem k_plans (LC : LCX p s m args meth c V b L xs i n cells slots) (I : INV V s.heap.size x y o n H) (hS : va_S (AG G00 s.heap.size) s.heap H locs) (hl : lv_has ls 7 (LL b x y o i)) (kk : KK p l e s m args below meth c Q V x y o b i n cells slots) : W p l e room_1 s m args below meth c H locs cells slots Q (F0 m 2302 ls []) := by
  obtain ⟨C0, hXs, hbl, hn, hin, hce, hsl⟩ := LC
  obtain ⟨GX, GM, SX, SM, A, B, f, hI, hPX, hPM, hPO, hWX, hWM, ⟨h_x, k_x⟩, ⟨h_y, k_y⟩, nX, nM, dX, dM, oX, oM, dO⟩ := I
  have hx := C0.1
  have hb := C0.2.1
  have hbA : ¬ AG G00 s.heap.size b := fun z => z.elim (fun z => nomatch z) (fun z => Nat.not_le.mpr hbl z)
  have cX := cx_w C0 nX (fun q h => (dX q h).1)
  have cM := cx_w C0 nM dM
  have aX := ag_00 (fun q h => (dX q h).1)
  have aM := ag_00 dM
  have fc : cells ≤ room_1.cells := Nat.le_trans (Nat.le_add_right _ _) hce
  have fs : slots ≤ room_1.slots := Nat.le_trans (Nat.le_add_right _ _) hsl
  obtain ⟨v, S', S2', e1, e2, hs⟩ := q_plans hn hI (SCi xs i 1) (SCi xs i 2) (SCi xs i 3)
  refine lv_aload_n hx hb dL_law_2302 rfl (lv_at hl 1 rfl) ?_
  refine lv_aload_n hx hb dL_law_2303 rfl (lv_at hl 0 rfl) ?_
  refine lv_iload hx hb dL_law_2304 (lv_at hl 4 rfl) ?_
  refine lv_iconst (v := 1) hx hb dL_law_2306 rfl ?_
  refine lv_iadd hx hb dL_law_2307 ?_
  refine va_sld hx hb hXs hbl hbA hS (hin 1 (by decide) (by decide)) dL_law_2308 ?_
  refine lv_aload_n hx hb dL_law_2309 rfl (lv_at hl 0 rfl) ?_
  refine lv_iload hx hb dL_law_2310 (lv_at hl 4 rfl) ?_
  refine lv_iconst (v := 2) hx hb dL_law_2312 rfl ?_
  refine lv_iadd hx hb dL_law_2313 ?_
  refine va_sld hx hb hXs hbl hbA hS (hin 2 (by decide) (by decide)) dL_law_2314 ?_
  refine lv_aload_n hx hb dL_law_2315 rfl (lv_at hl 0 rfl) ?_
  refine lv_iload hx hb dL_law_2316 (lv_at hl 4 rfl) ?_
  refine lv_iconst (v := 3) hx hb dL_law_2318 rfl ?_
  refine lv_iadd hx hb dL_law_2319 ?_
  refine va_sld hx hb hXs hbl hbA hS (hin 3 (by decide) (by decide)) dL_law_2320 ?_
  refine z_aft_i aX (x_runV (As := [.int (SCi xs i 1), .int (SCi xs i 2), .int (SCi xs i 3)]) (rest := []) cX hPX (by rw [aX]; exact hS) (c_X11_plans (l := l) nX hWX h_x k_x e1 H.size) h_x k_x (by decide) rfl rfl km_X11_plans ki_X11_plans qm_L_238 ⟨(Nat.le_of_ble_eq_true rfl), (Nat.le_of_ble_eq_true rfl)⟩ rfl hl.1 rfl (Nat.le_of_ble_eq_true rfl) ⟨fc, fs⟩ dL_law_2321) hS (fun H1 locs1 hPX hS hWX hk => ?_)
  have hPM := hp_dis hPM hk (fun q h1 h2 => (dX q h2).2 h1)
  have hPO := ho_dis hPO hk oX
  refine lv_aload_n hx hb dL_law_2324 rfl (lv_at hl 2 rfl) ?_
  refine lv_aload_n hx hb dL_law_2325 rfl (lv_at hl 0 rfl) ?_
  refine lv_iload hx hb dL_law_2326 (lv_at hl 4 rfl) ?_
  refine lv_iconst (v := 1) hx hb dL_law_2328 rfl ?_
  refine lv_iadd hx hb dL_law_2329 ?_
  refine va_sld hx hb hXs hbl hbA hS (hin 1 (by decide) (by decide)) dL_law_2330 ?_
  refine lv_aload_n hx hb dL_law_2331 rfl (lv_at hl 0 rfl) ?_
  refine lv_iload hx hb dL_law_2332 (lv_at hl 4 rfl) ?_
  refine lv_iconst (v := 2) hx hb dL_law_2334 rfl ?_
  refine lv_iadd hx hb dL_law_2335 ?_
  refine va_sld hx hb hXs hbl hbA hS (hin 2 (by decide) (by decide)) dL_law_2336 ?_
  refine lv_aload_n hx hb dL_law_2337 rfl (lv_at hl 0 rfl) ?_
  refine lv_iload hx hb dL_law_2338 (lv_at hl 4 rfl) ?_
  refine lv_iconst (v := 3) hx hb dL_law_2340 rfl ?_
  refine lv_iadd hx hb dL_law_2341 ?_
  refine va_sld hx hb hXs hbl hbA hS (hin 3 (by decide) (by decide)) dL_law_2342 ?_
  refine z_aft_i aM (x_runV (As := [.int (SCi xs i 1), .int (SCi xs i 2), .int (SCi xs i 3)]) (rest := [.int v]) cM hPM (by rw [aM]; exact hS) (c_X12_plans (l := l) nM hWM h_y k_y e2 H1.size) h_y k_y (by decide) rfl rfl km_X12_plans ki_X12_plans qm_L_241 ⟨(Nat.le_of_ble_eq_true rfl), (Nat.le_of_ble_eq_true rfl)⟩ rfl hl.1 rfl (Nat.le_of_ble_eq_true rfl) ⟨fc, fs⟩ dL_law_2343) hS (fun H2 locs2 hPM hS hWM hk => ?_)
  have hPX := hp_dis hPX hk (fun q h1 => (dX q h1).2)
  have hPO := ho_dis hPO hk oM
  refine lv_icmp_eq (tgt := 2429) hx hb dL_law_2346 (by decide) (fun _ => ?_) (fun c9 => absurd rfl c9)
  exact kk _ _ _ _ _ ⟨GX, GM, S', S2', A, B, f, hs, hPX, hPM, hPO, hWX, hWM, ⟨h_x, k_x⟩, ⟨h_y, k_y⟩, nX, nM, dX, dM, oX, oM, dO⟩ hS hl (Nat.le_add_right _ _) (Nat.le_add_right _ _)
set_option maxRecDepth 100000 in
set_option maxHeartbeats 4000000 in
theorem k_mark (LC : LCX p s m args meth c V b L xs i n cells slots) (I : INV V s.heap.size x y o n H) (hS : va_S (AG G00 s.heap.size) s.heap H locs) (hl : lv_has ls 7 (LL b x y o i)) (kk : KK p l e s m args below meth c Q V x y o b i n cells slots) : W p l e room_1 s m args below meth c H locs cells slots Q (F0 m 2351 ls []) := by
  obtain ⟨C0, hXs, hbl, hn, hin, hce, hsl⟩ := LC
  obtain ⟨GX, GM, SX, SM, A, B, f, hI, hPX, hPM, hPO, hWX, hWM, ⟨h_x, k_x⟩, ⟨h_y, k_y⟩, nX, nM, dX, dM, oX, oM, dO⟩ := I
  have hx := C0.1
  have hb := C0.2.1
  have hbA : ¬ AG G00 s.heap.size b := fun z => z.elim (fun z => nomatch z) (fun z => Nat.not_le.mpr hbl z)
  have cX := cx_w C0 nX (fun q h => (dX q h).1)
  have cM := cx_w C0 nM dM
  have aX := ag_00 (fun q h => (dX q h).1)
  have aM := ag_00 dM
  have fc : cells ≤ room_1.cells := Nat.le_trans (Nat.le_add_right _ _) hce
  have fs : slots ≤ room_1.slots := Nat.le_trans (Nat.le_add_right _ _) hsl
  by_cases hz : SCi xs i 2 = 0
  · obtain ⟨v, S', S2', e1, e2, hs⟩ := q_mark hn hI (SCi xs i 1) false
    refine lv_aload_n hx hb dL_law_2351 rfl (lv_at hl 1 rfl) ?_
    refine lv_aload_n hx hb dL_law_2352 rfl (lv_at hl 0 rfl) ?_
    refine lv_iload hx hb dL_law_2353 (lv_at hl 4 rfl) ?_
    refine lv_iconst (v := 1) hx hb dL_law_2355 rfl ?_
    refine lv_iadd hx hb dL_law_2356 ?_
    refine va_sld hx hb hXs hbl hbA hS (hin 1 (by decide) (by decide)) dL_law_2357 ?_
    refine lv_aload_n hx hb dL_law_2358 rfl (lv_at hl 0 rfl) ?_
    refine lv_iload hx hb dL_law_2359 (lv_at hl 4 rfl) ?_
    refine lv_iconst (v := 2) hx hb dL_law_2361 rfl ?_
    refine lv_iadd hx hb dL_law_2362 ?_
    refine va_sld hx hb hXs hbl hbA hS (hin 2 (by decide) (by decide)) dL_law_2363 ?_
    refine lv_if_eq (tgt := 2371) hx hb dL_law_2364 (by decide) (fun _ => ?_) (fun z9 => absurd hz z9)
    refine lv_iconst (v := 0) hx hb dL_law_2371 rfl ?_
    refine z_aft_z aX (x_runV (As := [.int (SCi xs i 1), .int (b2 false)]) (rest := []) cX hPX (by rw [aX]; exact hS) (c_X11_mark (l := l) nX hWX h_x k_x e1 H.size) h_x k_x (by decide) rfl rfl km_X11_mark ki_X11_mark qm_L_242 ⟨(Nat.le_of_ble_eq_true rfl), (Nat.le_of_ble_eq_true rfl)⟩ rfl hl.1 rfl (Nat.le_of_ble_eq_true rfl) ⟨fc, fs⟩ dL_law_2372) hS (fun H1 locs1 hPX hS hWX hk => ?_)
    have hPM := hp_dis hPM hk (fun q h1 h2 => (dX q h2).2 h1)
    have hPO := ho_dis hPO hk oX
    refine lv_aload_n hx hb dL_law_2375 rfl (lv_at hl 2 rfl) ?_
    refine lv_aload_n hx hb dL_law_2376 rfl (lv_at hl 0 rfl) ?_
    refine lv_iload hx hb dL_law_2377 (lv_at hl 4 rfl) ?_
    refine lv_iconst (v := 1) hx hb dL_law_2379 rfl ?_
    refine lv_iadd hx hb dL_law_2380 ?_
    refine va_sld hx hb hXs hbl hbA hS (hin 1 (by decide) (by decide)) dL_law_2381 ?_
    refine lv_aload_n hx hb dL_law_2382 rfl (lv_at hl 0 rfl) ?_
    refine lv_iload hx hb dL_law_2383 (lv_at hl 4 rfl) ?_
    refine lv_iconst (v := 2) hx hb dL_law_2385 rfl ?_
    refine lv_iadd hx hb dL_law_2386 ?_
    refine va_sld hx hb hXs hbl hbA hS (hin 2 (by decide) (by decide)) dL_law_2387 ?_
    refine lv_if_eq (tgt := 2395) hx hb dL_law_2388 (by decide) (fun _ => ?_) (fun z9 => absurd hz z9)
    refine lv_iconst (v := 0) hx hb dL_law_2395 rfl ?_
    refine z_aft_z aM (x_runV (As := [.int (SCi xs i 1), .int (b2 false)]) (rest := [.int v]) cM hPM (by rw [aM]; exact hS) (c_X12_mark (l := l) nM hWM h_y k_y e2 H1.size) h_y k_y (by decide) rfl rfl km_X12_mark ki_X12_mark qm_L_245 ⟨(Nat.le_of_ble_eq_true rfl), (Nat.le_of_ble_eq_true rfl)⟩ rfl hl.1 rfl (Nat.le_of_ble_eq_true rfl) ⟨fc, fs⟩ dL_law_2396) hS (fun H2 locs2 hPM hS hWM hk => ?_)
    have hPX := hp_dis hPX hk (fun q h1 => (dX q h1).2)
    have hPO := ho_dis hPO hk oM
    refine lv_icmp_eq (tgt := 2429) hx hb dL_law_2399 (by decide) (fun _ => ?_) (fun c9 => absurd rfl c9)
    exact kk _ _ _ _ _ ⟨GX, GM, S', S2', A, B, f, hs, hPX, hPM, hPO, hWX, hWM, ⟨h_x, k_x⟩, ⟨h_y, k_y⟩, nX, nM, dX, dM, oX, oM, dO⟩ hS hl (Nat.le_add_right _ _) (Nat.le_add_right _ _)
  · obtain ⟨v, S', S2', e1, e2, hs⟩ := q_mark hn hI (SCi xs i 1) true
    refine lv_aload_n hx hb dL_law_2351 rfl (lv_at hl 1 rfl) ?_
    refine lv_aload_n hx hb dL_law_2352 rfl (lv_at hl 0 rfl) ?_
    refine lv_iload hx hb dL_law_2353 (lv_at hl 4 rfl) ?_
    refine lv_iconst (v := 1) hx hb dL_law_2355 rfl ?_
    refine lv_iadd hx hb dL_law_2356 ?_
    refine va_sld hx hb hXs hbl hbA hS (hin 1 (by decide) (by decide)) dL_law_2357 ?_
    refine lv_aload_n hx hb dL_law_2358 rfl (lv_at hl 0 rfl) ?_
    refine lv_iload hx hb dL_law_2359 (lv_at hl 4 rfl) ?_
    refine lv_iconst (v := 2) hx hb dL_law_2361 rfl ?_
    refine lv_iadd hx hb dL_law_2362 ?_
    refine va_sld hx hb hXs hbl hbA hS (hin 2 (by decide) (by decide)) dL_law_2363 ?_
    refine lv_if_eq (tgt := 2371) hx hb dL_law_2364 (by decide) (fun z9 => absurd z9 hz) (fun _ => ?_)
    refine lv_iconst (v := 1) hx hb dL_law_2367 rfl ?_
    refine lv_goto (tgt := 2372) hx hb dL_law_2368 (by decide) ?_
    refine z_aft_z aX (x_runV (As := [.int (SCi xs i 1), .int (b2 true)]) (rest := []) cX hPX (by rw [aX]; exact hS) (c_X11_mark (l := l) nX hWX h_x k_x e1 H.size) h_x k_x (by decide) rfl rfl km_X11_mark ki_X11_mark qm_L_242 ⟨(Nat.le_of_ble_eq_true rfl), (Nat.le_of_ble_eq_true rfl)⟩ rfl hl.1 rfl (Nat.le_of_ble_eq_true rfl) ⟨fc, fs⟩ dL_law_2372) hS (fun H1 locs1 hPX hS hWX hk => ?_)
    have hPM := hp_dis hPM hk (fun q h1 h2 => (dX q h2).2 h1)
    have hPO := ho_dis hPO hk oX
    refine lv_aload_n hx hb dL_law_2375 rfl (lv_at hl 2 rfl) ?_
    refine lv_aload_n hx hb dL_law_2376 rfl (lv_at hl 0 rfl) ?_
    refine lv_iload hx hb dL_law_2377 (lv_at hl 4 rfl) ?_
    refine lv_iconst (v := 1) hx hb dL_law_2379 rfl ?_
    refine lv_iadd hx hb dL_law_2380 ?_
    refine va_sld hx hb hXs hbl hbA hS (hin 1 (by decide) (by decide)) dL_law_2381 ?_
    refine lv_aload_n hx hb dL_law_2382 rfl (lv_at hl 0 rfl) ?_
    refine lv_iload hx hb dL_law_2383 (lv_at hl 4 rfl) ?_
    refine lv_iconst (v := 2) hx hb dL_law_2385 rfl ?_
    refine lv_iadd hx hb dL_law_2386 ?_
    refine va_sld hx hb hXs hbl hbA hS (hin 2 (by decide) (by decide)) dL_law_2387 ?_
    refine lv_if_eq (tgt := 2395) hx hb dL_law_2388 (by decide) (fun z9 => absurd z9 hz) (fun _ => ?_)
    refine lv_iconst (v := 1) hx hb dL_law_2391 rfl ?_
    refine lv_goto (tgt := 2396) hx hb dL_law_2392 (by decide) ?_
    refine z_aft_z aM (x_runV (As := [.int (SCi xs i 1), .int (b2 true)]) (rest := [.int v]) cM hPM (by rw [aM]; exact hS) (c_X12_mark (l := l) nM hWM h_y k_y e2 H1.size) h_y k_y (by decide) rfl rfl km_X12_mark ki_X12_mark qm_L_245 ⟨(Nat.le_of_ble_eq_true rfl), (Nat.le_of_ble_eq_true rfl)⟩ rfl hl.1 rfl (Nat.le_of_ble_eq_true rfl) ⟨fc, fs⟩ dL_law_2396) hS (fun H2 locs2 hPM hS hWM hk => ?_)
    have hPX := hp_dis hPX hk (fun q h1 => (dX q h1).2)
    have hPO := ho_dis hPO hk oM
    refine lv_icmp_eq (tgt := 2429) hx hb dL_law_2399 (by decide) (fun _ => ?_) (fun c9 => absurd rfl c9)
    exact kk _ _ _ _ _ ⟨GX, GM, S', S2', A, B, f, hs, hPX, hPM, hPO, hWX, hWM, ⟨h_x, k_x⟩, ⟨h_y, k_y⟩, nX, nM, dX, dM, oX, oM, dO⟩ hS hl (Nat.le_add_right _ _) (Nat.le_add_right _ _)
set_option maxRecDepth 100000 in
set_option maxHeartbeats 4000000 in
theorem k_count (LC : LCX p s m args meth c V b L xs i n cells slots) (I : INV V s.heap.size x y o n H) (hS : va_S (AG G00 s.heap.size) s.heap H locs) (hl : lv_has ls 7 (LL b x y o i)) (kk : KK p l e s m args below meth c Q V x y o b i n cells slots) : W p l e room_1 s m args below meth c H locs cells slots Q (F0 m 2404 ls []) := by
  obtain ⟨C0, hXs, hbl, hn, hin, hce, hsl⟩ := LC
  obtain ⟨GX, GM, SX, SM, A, B, f, hI, hPX, hPM, hPO, hWX, hWM, ⟨h_x, k_x⟩, ⟨h_y, k_y⟩, nX, nM, dX, dM, oX, oM, dO⟩ := I
  have hx := C0.1
  have hb := C0.2.1
  have hbA : ¬ AG G00 s.heap.size b := fun z => z.elim (fun z => nomatch z) (fun z => Nat.not_le.mpr hbl z)
  have cX := cx_w C0 nX (fun q h => (dX q h).1)
  have cM := cx_w C0 nM dM
  have aX := ag_00 (fun q h => (dX q h).1)
  have aM := ag_00 dM
  have fc : cells ≤ room_1.cells := Nat.le_trans (Nat.le_add_right _ _) hce
  have fs : slots ≤ room_1.slots := Nat.le_trans (Nat.le_add_right _ _) hsl
  obtain ⟨v, S2', e1, e2, hs⟩ := q_count hn hI (SCi xs i 1)
  refine lv_aload_n hx hb dL_law_2404 rfl (lv_at hl 1 rfl) ?_
  refine lv_aload_n hx hb dL_law_2405 rfl (lv_at hl 0 rfl) ?_
  refine lv_iload hx hb dL_law_2406 (lv_at hl 4 rfl) ?_
  refine lv_iconst (v := 1) hx hb dL_law_2408 rfl ?_
  refine lv_iadd hx hb dL_law_2409 ?_
  refine va_sld hx hb hXs hbl hbA hS (hin 1 (by decide) (by decide)) dL_law_2410 ?_
  refine z_aft_i aX (x_runV (As := [.int (SCi xs i 1)]) (rest := []) cX hPX (by rw [aX]; exact hS) (c_X11_count (l := l) nX hWX h_x k_x e1 H.size) h_x k_x (by decide) rfl rfl km_X11_count ki_X11_count qm_L_246 ⟨(Nat.le_of_ble_eq_true rfl), (Nat.le_of_ble_eq_true rfl)⟩ rfl hl.1 rfl (Nat.le_of_ble_eq_true rfl) ⟨fc, fs⟩ dL_law_2411) hS (fun H1 locs1 hPX hS hWX hk => ?_)
  have hPM := hp_dis hPM hk (fun q h1 h2 => (dX q h2).2 h1)
  have hPO := ho_dis hPO hk oX
  refine lv_aload_n hx hb dL_law_2414 rfl (lv_at hl 2 rfl) ?_
  refine lv_aload_n hx hb dL_law_2415 rfl (lv_at hl 0 rfl) ?_
  refine lv_iload hx hb dL_law_2416 (lv_at hl 4 rfl) ?_
  refine lv_iconst (v := 1) hx hb dL_law_2418 rfl ?_
  refine lv_iadd hx hb dL_law_2419 ?_
  refine va_sld hx hb hXs hbl hbA hS (hin 1 (by decide) (by decide)) dL_law_2420 ?_
  refine z_aft_i aM (x_runV (As := [.int (SCi xs i 1)]) (rest := [.int v]) cM hPM (by rw [aM]; exact hS) (c_X12_count (l := l) nM hWM h_y k_y e2 H1.size) h_y k_y (by decide) rfl rfl km_X12_count ki_X12_count qm_L_249 ⟨(Nat.le_of_ble_eq_true rfl), (Nat.le_of_ble_eq_true rfl)⟩ rfl hl.1 rfl (Nat.le_of_ble_eq_true rfl) ⟨fc, fs⟩ dL_law_2421) hS (fun H2 locs2 hPM hS hWM hk => ?_)
  have hPX := hp_dis hPX hk (fun q h1 => (dX q h1).2)
  have hPO := ho_dis hPO hk oM
  refine lv_icmp_eq (tgt := 2429) hx hb dL_law_2424 (by decide) (fun _ => ?_) (fun c9 => absurd rfl c9)
  exact kk _ _ _ _ _ ⟨GX, GM, SX, S2', A, B, f, hs, hPX, hPM, hPO, hWX, hWM, ⟨h_x, k_x⟩, ⟨h_y, k_y⟩, nX, nM, dX, dM, oX, oM, dO⟩ hS hl (Nat.le_add_right _ _) (Nat.le_add_right _ _)
end LAWK
