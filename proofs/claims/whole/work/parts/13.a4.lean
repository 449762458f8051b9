section STARTX
variable {p : Program} {e : Env} {s : State} {m : MethodId} {below : List Frame} {meth : Method} {c : Code} {V : EV} {b L : Nat} {xs : Nat → Int32}
set_option maxRecDepth 100000 in
set_option maxHeartbeats 4000000 in
theorem law_start (l : Launch) (hst : l.stackTraces = false) (C0 : CX p s m #[Value.ref b] meth c RL cL_law 7 ret V G00) (hXs : va_X b L xs s s.heap) (hbl : b < s.heap.size) (hL : L ≤ 3584) {ls : Array Slot} (hl : lv_has ls 7 [(0, .ref b)]) : W p l e room_1 s m #[Value.ref b] below meth c s.heap [] 0 0 (lw_Z below #[Value.ref b] s) (F0 m 0 ls []) := by
  have hx := C0.1
  have hb := C0.2.1
  have hS0 : va_S (AG G00 s.heap.size) s.heap s.heap [] := va_S.rf
  -- the class's object
  refine x_new (ci := 11) C0 hp_00 hS0 wt_00 (by decide) rfl inTB_11 tyX11 tyX11_ok qcl_L_8 qin_11 qini_11 (by decide +kernel) (Nat.le_of_ble_eq_true rfl) (Nat.le_of_ble_eq_true rfl) dL_law_0 (fun x H hqx hgx agx CX1 hPX hS hWX => ?_)
  rw [agx] at hS
  have h_x : x ∈ (pushG G00 x 11 0).1 := push_q
  have k_x : (pushG G00 x 11 0).2.1 x = 11 := push_kq
  have xl : x < H.size := hp_lt hPX h_x
  refine lv_dup hx hb dL_law_3 rfl ?_
  refine z_aft_vw (mc := 81) (ms := 6288) (P := fun G' S' => ∃ A, RX G'.2.2 S' x A 0 0 0 T0) agx (y_runI (rm := RMA 3 85 81 6288) (As := []) (rest := [.ref x]) CX1 hPX (by rw [agx]; exact hS) (c_X11_init (l := l) CX1.2.2.2.2.2.2.2.2.2.1 hWX h_x k_x (x_start h_x (vw_new _ _ _ _ _) (fun G' S' h9 => h9)) H.size) km_X11_init kn_X11_init rfl qm_L_19 ⟨Nat.le_of_ble_eq_true rfl, Nat.le_of_ble_eq_true rfl⟩ rfl hl.1 rfl (Nat.le_of_ble_eq_true rfl) ⟨Nat.le_of_ble_eq_true rfl, Nat.le_of_ble_eq_true rfl⟩ dL_law_4) hS (fun GX' SX H1 locs hA hg hPX hS hWX hk => ?_)
  obtain ⟨A, hRX⟩ := hA
  have h_x9 := (hg.1 x h_x).1
  have k_x9 : GX'.2.1 x = 11 := (hg.1 x h_x).2.1.trans k_x
  have gX : ∀ q, q ∈ GX'.1 → s.heap.size ≤ q := fun q h => (hg.2.1 q h).elim (fun z => (List.mem_append.mp z).elim (fun z => by cases z) (fun z => by rw [List.mem_singleton.mp z]; exact hgx)) (fun z => Nat.le_trans (Nat.le_of_lt (Nat.lt_of_le_of_lt hgx xl)) z)
  clear hk
  have nX := hg.2.2
  refine lv_astore_n (lv' := [(1, .ref x), (0, .ref b)]) hx hb dL_law_7 rfl hl (by decide) rfl (fun ls hl => ?_)
  -- the model's object, first beside the class's
  have CX2 := cx_w C0 nX gX
  have aX := ag_00 gX
  refine x_new (ci := 12) CX2 hPX (by rw [aX]; exact hS) hWX (by decide) rfl inTB_12 tyX12 tyX12_ok qcl_L_20 qin_12 qini_12 (by decide +kernel) (Nat.le_of_ble_eq_true rfl) (Nat.le_of_ble_eq_true rfl) dL_law_8 (fun y H2 hqy hgy agy CX3 hP2 hS hWX2 => ?_)
  rw [agy, aX] at hS
  obtain ⟨hPX, hPM⟩ := hp_split hqy (by decide) hP2
  have gM : ∀ q, q ∈ (pushG G00 y 12 0).1 → q = y := fun q h => (List.mem_append.mp h).elim (fun z => by cases z) (fun z => List.mem_singleton.mp z)
  have h_y : y ∈ (pushG G00 y 12 0).1 := push_q
  have k_y : (pushG G00 y 12 0).2.1 y = 12 := push_kq
  have nM : (pushG G00 y 12 0).1.Nodup := by show ([] ++ [y] : List Nat).Nodup; simp
  have gM2 : ∀ q, q ∈ (pushG G00 y 12 0).1 → s.heap.size ≤ q := fun q h => by rw [gM q h]; exact hgy
  have CM := cx_w C0 nM gM2
  have aM := ag_00 gM2
  have hWM : WT (pushG G00 y 12 0) (zap y S00) := push_wt (fun z => by cases z) wt_00
  refine lv_dup hx hb dL_law_11 rfl ?_
  refine z_aft_vw (mc := 16) (ms := 8479) (P := fun G' S' => ∃ B, RY G'.2.2 S' y B T0) aM (y_runI (rm := RMA 2 57 16 8479) (As := []) (rest := [.ref y]) CM hPM (by rw [aM]; exact hS) (c_X12_init (l := l) nM hWM h_y k_y (y_start (F := 3000) (Nat.le_refl _) h_y (by rw [gI_zap, if_pos rfl])) H2.size) km_X12_init kn_X12_init rfl qm_L_22 ⟨Nat.le_of_ble_eq_true rfl, Nat.le_of_ble_eq_true rfl⟩ rfl hl.1 rfl (Nat.le_of_ble_eq_true rfl) ⟨Nat.le_of_ble_eq_true rfl, Nat.le_of_ble_eq_true rfl⟩ dL_law_12) hS (fun GM' SM H3 locs hB hgm hPM3 hS hWM hk => ?_)
  obtain ⟨B, hRY⟩ := hB
  have h_y9 := (hgm.1 y h_y).1
  have k_y9 : GM'.2.1 y = 12 := (hgm.1 y h_y).2.1.trans k_y
  have ylt : y < H2.size := hp_lt hPM h_y
  have xlt : ∀ q, q ∈ GX'.1 → q < H2.size := fun q h => hp_lt hPX h
  have mem : ∀ q, q ∈ GM'.1 → q = y ∨ H2.size ≤ q := fun q h => (hgm.2.1 q h).elim (fun z => Or.inl (gM q z)) Or.inr
  have dM : ∀ q, q ∈ GM'.1 → s.heap.size ≤ q := fun q h => (mem q h).elim (fun z => by rw [z]; exact hgy) (fun z => Nat.le_trans (Nat.le_of_lt (Nat.lt_of_le_of_lt hgy ylt)) z)
  have dX : ∀ q, q ∈ GX'.1 → s.heap.size ≤ q ∧ q ∉ GM'.1 := fun q h => ⟨gX q h, fun z => (mem q z).elim (fun z => hqy (z ▸ h)) (fun z => Nat.not_le.mpr (xlt q h) z)⟩
  have hPX := hp_dis hPX hk (fun q h z => hqy (gM q z ▸ h))
  refine lv_astore_n (lv' := [(2, .ref y), (1, .ref x), (0, .ref b)]) hx hb dL_law_15 rfl hl (by decide) rfl (fun ls hl => ?_)
  refine lv_iconst (v := 1) hx hb dL_law_16 rfl ?_
  refine x_out C0 hPX hPM3 nX hgm.2.2 dX dM hS (Nat.le_of_ble_eq_true rfl) (Nat.le_of_ble_eq_true rfl) (fun o H4 hPX hPM hPO oX oM dO hS => ?_)
  refine lv_astore_n (lv' := [(3, .ref o), (2, .ref y), (1, .ref x), (0, .ref b)]) hx hb dL_law_19 rfl hl (by decide) rfl (fun ls hl => ?_)
  refine lv_iconst (v := 0) hx hb dL_law_20 rfl ?_
  refine lv_istore (lv' := [(4, .int 0), (3, .ref o), (2, .ref y), (1, .ref x), (0, .ref b)]) hx hb dL_law_21 hl (by decide) rfl (fun ls hl => ?_)
  have hI : INV V s.heap.size x y o 0 H4 := ⟨GX', GM', SX, SM, A, B, fun _ => 0, ⟨0, 0, 0, T0, hRX, hRY, T0_ok, Nat.le_refl _⟩, hPX, hPM, hPO, hWX, hWM, ⟨h_x9, k_x9⟩, ⟨h_y9, k_y9⟩, nX, hgm.2.2, dX, dM, oX, oM, dO⟩
  exact law_loop hst C0 hXs hbl hL (cells0 := 100) (slots0 := 14814) (Nat.le_of_ble_eq_true rfl) (Nat.le_of_ble_eq_true rfl) 512 0 H4 locs ls _ _ rfl hI hS (lv_sub hl [4, 3, 2, 1, 0] rfl) (Nat.le_of_ble_eq_true rfl) (Nat.le_of_ble_eq_true rfl)
end STARTX
