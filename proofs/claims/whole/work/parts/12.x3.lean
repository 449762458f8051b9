set_option maxRecDepth 100000 in
set_option maxHeartbeats 4000000 in
theorem c_X11_gap {l : Launch} {V : EV} {G : GS} {S : HS} {a : Nat} {p0 p1 p2 : Int32} {o : Option Int32} (hst : l.stackTraces = false) (hN : G.1.Nodup) (hW : WT G S) (h_a : a ∈ G.1) (k_a : G.2.1 a = 11) (hf : g_X11_gap G.2.2 a p0 p1 p2 S = some o) : MetX l yX11_gap cX11_gap 5 6 111 V G S [.ref a, .int p0, .int p1, .int p2] o S := by
  intro sz
  refine x_inX RX11 rfl (by decide +kernel) hN (Nat.le_of_ble_eq_true rfl) (fun p e s m args below meth c ls hsz hargs hnm htab C hP hS hl => ?_)
  subst hsz
  have hx := C.1
  have hb := C.2.1
  have hl : lv_has ls 5 [(0, .ref a), (1, .int p0), (2, .int p1), (3, .int p2)] := hl
  unfold g_X11_gap at hf
  refine lv_aload_n hx hb dX11_gap_0 rfl (lv_at hl 0 rfl) ?_
  refine lv_iload_n hx hb dX11_gap_1 rfl (lv_at hl 1 rfl) ?_
  obtain ⟨r1, er1, hf⟩ := bd1_e hf
  refine x_aft_r (x_runV (As := [.int p0]) (rest := []) C hP hS (c_X11_formHolding (l := l) C.2.2.2.2.2.2.2.2.2.1 hW h_a k_a er1 s.heap.size) h_a k_a (by decide) rfl rfl km_X11_formHolding ki_X11_formHolding qm_X11_235 ⟨(Nat.le_of_ble_eq_true rfl), (Nat.le_of_ble_eq_true rfl)⟩ rfl hl.1 rfl (Nat.le_of_ble_eq_true rfl) ⟨Nat.zero_le _, Nat.zero_le _⟩ dX11_gap_2) hS (fun H locs hP hS hW q2 => ?_)
  have thr : ∀ (pc : Nat) (H : Heap) (locs : List Loc) (ls : Array Slot), o = none → (pc = 30 ∨ pc = 65) → HP V G S H → va_S (AG G s.heap.size) s.heap H locs → ls.size = 5 → W p l e (RMX 6 111) s m args below meth c H locs 0 0 (vx_MQ below (QX V G S o s.heap.size) (XX V G S o s.heap.size) args s 1 6 (AG G s.heap.size)) (F0 m pc ls []) := by
    intro pc H locs ls ho hpc hP hS hz
    rcases hpc with rfl | rfl
    · exact x_throw C hst htab hP hS hW hz ho dX11_gap_30 dX11_gap_33 dX11_gap_34 dX11_gap_37 ⟨by decide, by decide, by decide, by decide⟩
    · exact x_throw C hst htab hP hS hW hz ho dX11_gap_65 dX11_gap_68 dX11_gap_69 dX11_gap_72 ⟨by decide, by decide, by decide, by decide⟩
  cases r1 with
  | none =>
    have hf := mq_n rfl hf
    show W _ _ _ _ _ _ _ _ _ _ _ _ _ _ _ (F0 m 5 ls (.null :: []))
    refine lv_astoreN (lv' := [(4, .null), (0, .ref a), (1, .int p0), (2, .int p1), (3, .int p2)]) hx hb dX11_gap_5 hl (by decide) rfl (fun ls hl => ?_)
    refine lv_aloadN hx hb dX11_gap_7 (lv_at hl 0 rfl) ?_
    refine lv_ifnullN (tgt := 30) hx hb dX11_gap_9 (by decide) ?_
    cases hf
    exact thr 30 _ _ _ rfl (Or.inl rfl) hP hS hl.1
  | some t =>
    have hf := mq_s rfl hf
    obtain ⟨h_t, k_t⟩ := q2 _ rfl
    show W _ _ _ _ _ _ _ _ _ _ _ _ _ _ _ (F0 m 5 ls (.ref t :: []))
    refine lv_astore (lv' := [(4, .ref t), (0, .ref a), (1, .int p0), (2, .int p1), (3, .int p2)]) hx hb dX11_gap_5 hl (by decide) rfl (fun ls hl => ?_)
    refine lv_aload hx hb dX11_gap_7 (lv_at hl 0 rfl) ?_
    refine lv_ifnull hx hb dX11_gap_9 ?_
    refine lv_aload hx hb dX11_gap_12 (lv_at hl 0 rfl) ?_
    refine lv_iload_n hx hb dX11_gap_14 rfl (lv_at hl 3 rfl) ?_
    refine x_aft_z (x_runV (As := [.int p1]) (rest := []) C hP hS (c_X2_holds (l := l) C.2.2.2.2.2.2.2.2.2.1 hW h_t k_t rfl H.size) h_t k_t (by decide) rfl rfl km_X2_holds ki_X2_holds qm_X11_174 ⟨(Nat.le_of_ble_eq_true rfl), (Nat.le_of_ble_eq_true rfl)⟩ rfl hl.1 rfl (Nat.le_of_ble_eq_true rfl) ⟨Nat.zero_le _, Nat.zero_le _⟩ dX11_gap_15) hS (fun H locs hP hS hW z => ?_)
    refine lv_if_eq (tgt := 30) hx hb dX11_gap_18 (by decide) (fun k => ?_) (fun k => ?_)
    · have hf := if_t k hf
      cases hf
      exact thr 30 _ _ _ rfl (by decide) hP hS hl.1
    · have hf := if_f k hf
      refine lv_aload hx hb dX11_gap_21 (lv_at hl 0 rfl) ?_
      refine lv_iload_n hx hb dX11_gap_23 rfl (lv_at hl 4 rfl) ?_
      refine x_aft_z (x_runV (As := [.int p2]) (rest := []) C hP hS (c_X2_holds (l := l) C.2.2.2.2.2.2.2.2.2.1 hW h_t k_t rfl H.size) h_t k_t (by decide) rfl rfl km_X2_holds ki_X2_holds qm_X11_174 ⟨(Nat.le_of_ble_eq_true rfl), (Nat.le_of_ble_eq_true rfl)⟩ rfl hl.1 rfl (Nat.le_of_ble_eq_true rfl) ⟨Nat.zero_le _, Nat.zero_le _⟩ dX11_gap_24) hS (fun H locs hP hS hW z => ?_)
      refine lv_if_ne (tgt := 38) hx hb dX11_gap_27 (by decide) (fun k => ?_) (fun k => ?_)
      · have hf := if_f k hf
        refine lv_aload hx hb dX11_gap_38 (lv_at hl 0 rfl) ?_
        refine lv_iload_n hx hb dX11_gap_40 rfl (lv_at hl 2 rfl) ?_
        refine x_aft_z (x_runV (As := [.int p0]) (rest := []) C hP hS (c_X2_hasPlaces (l := l) C.2.2.2.2.2.2.2.2.2.1 hW h_t k_t rfl H.size) h_t k_t (by decide) rfl rfl km_X2_hasPlaces ki_X2_hasPlaces qm_X11_322 ⟨(Nat.le_of_ble_eq_true rfl), (Nat.le_of_ble_eq_true rfl)⟩ rfl hl.1 rfl (Nat.le_of_ble_eq_true rfl) ⟨Nat.zero_le _, Nat.zero_le _⟩ dX11_gap_41) hS (fun H locs hP hS hW z => ?_)
        refine lv_if_eq (tgt := 65) hx hb dX11_gap_44 (by decide) (fun k => ?_) (fun k => ?_)
        · have hf := if_t k hf
          cases hf
          exact thr 65 _ _ _ rfl (by decide) hP hS hl.1
        · have hf := if_f k hf
          refine lv_aload hx hb dX11_gap_47 (lv_at hl 0 rfl) ?_
          refine lv_iload_n hx hb dX11_gap_49 rfl (lv_at hl 3 rfl) ?_
          refine x_aft_z (x_runV (As := [.int p1]) (rest := []) C hP hS (c_X2_hasPlaces (l := l) C.2.2.2.2.2.2.2.2.2.1 hW h_t k_t rfl H.size) h_t k_t (by decide) rfl rfl km_X2_hasPlaces ki_X2_hasPlaces qm_X11_322 ⟨(Nat.le_of_ble_eq_true rfl), (Nat.le_of_ble_eq_true rfl)⟩ rfl hl.1 rfl (Nat.le_of_ble_eq_true rfl) ⟨Nat.zero_le _, Nat.zero_le _⟩ dX11_gap_50) hS (fun H locs hP hS hW z => ?_)
          refine lv_if_eq (tgt := 65) hx hb dX11_gap_53 (by decide) (fun k => ?_) (fun k => ?_)
          · have hf := if_t k hf
            cases hf
            exact thr 65 _ _ _ rfl (by decide) hP hS hl.1
          · have hf := if_f k hf
            refine lv_aload hx hb dX11_gap_56 (lv_at hl 0 rfl) ?_
            refine lv_iload_n hx hb dX11_gap_58 rfl (lv_at hl 4 rfl) ?_
            refine x_aft_z (x_runV (As := [.int p2]) (rest := []) C hP hS (c_X2_hasPlaces (l := l) C.2.2.2.2.2.2.2.2.2.1 hW h_t k_t rfl H.size) h_t k_t (by decide) rfl rfl km_X2_hasPlaces ki_X2_hasPlaces qm_X11_322 ⟨(Nat.le_of_ble_eq_true rfl), (Nat.le_of_ble_eq_true rfl)⟩ rfl hl.1 rfl (Nat.le_of_ble_eq_true rfl) ⟨Nat.zero_le _, Nat.zero_le _⟩ dX11_gap_59) hS (fun H locs hP hS hW z => ?_)
            refine lv_if_ne (tgt := 73) hx hb dX11_gap_62 (by decide) (fun k => ?_) (fun k => ?_)
            · have hf := if_f k hf
              refine lv_aload hx hb dX11_gap_73 (lv_at hl 0 rfl) ?_
              refine lv_iload_n hx hb dX11_gap_75 rfl (lv_at hl 2 rfl) ?_
              refine x_aft_i (x_runV (As := [.int p0]) (rest := []) C hP hS (c_X2_place (l := l) C.2.2.2.2.2.2.2.2.2.1 hW h_t k_t rfl H.size) h_t k_t (by decide) rfl rfl km_X2_place ki_X2_place qm_X11_274 ⟨(Nat.le_of_ble_eq_true rfl), (Nat.le_of_ble_eq_true rfl)⟩ rfl hl.1 rfl (Nat.le_of_ble_eq_true rfl) ⟨Nat.zero_le _, Nat.zero_le _⟩ dX11_gap_76) hS (fun H locs hP hS hW => ?_)
              refine lv_aload hx hb dX11_gap_79 (lv_at hl 0 rfl) ?_
              refine lv_iload_n hx hb dX11_gap_81 rfl (lv_at hl 3 rfl) ?_
              refine x_aft_i (x_runV (As := [.int p1]) (rest := [.int (s_X2_place t p0 S)]) C hP hS (c_X2_place (l := l) C.2.2.2.2.2.2.2.2.2.1 hW h_t k_t rfl H.size) h_t k_t (by decide) rfl rfl km_X2_place ki_X2_place qm_X11_274 ⟨(Nat.le_of_ble_eq_true rfl), (Nat.le_of_ble_eq_true rfl)⟩ rfl hl.1 rfl (Nat.le_of_ble_eq_true rfl) ⟨Nat.zero_le _, Nat.zero_le _⟩ dX11_gap_82) hS (fun H locs hP hS hW => ?_)
              refine lv_iadd hx hb dX11_gap_85 ?_
              refine lv_aload hx hb dX11_gap_86 (lv_at hl 0 rfl) ?_
              refine lv_iload_n hx hb dX11_gap_88 rfl (lv_at hl 4 rfl) ?_
              refine x_aft_i (x_runV (As := [.int p2]) (rest := [.int (s_X2_place t p0 S + s_X2_place t p1 S)]) C hP hS (c_X2_place (l := l) C.2.2.2.2.2.2.2.2.2.1 hW h_t k_t rfl H.size) h_t k_t (by decide) rfl rfl km_X2_place ki_X2_place qm_X11_274 ⟨(Nat.le_of_ble_eq_true rfl), (Nat.le_of_ble_eq_true rfl)⟩ rfl hl.1 rfl (Nat.le_of_ble_eq_true rfl) ⟨Nat.zero_le _, Nat.zero_le _⟩ dX11_gap_89) hS (fun H locs hP hS hW => ?_)
              refine lv_isub hx hb dX11_gap_92 ?_
              cases hf
              exact x_retX C hP hS hW rfl dX11_gap_93
            · have hf := if_t k hf
              cases hf
              exact thr 65 _ _ _ rfl (by decide) hP hS hl.1
      · have hf := if_t k hf
        cases hf
        exact thr 30 _ _ _ rfl (by decide) hP hS hl.1
set_option maxRecDepth 100000 in
set_option maxHeartbeats 4000000 in
theorem c_X11_whole {l : Launch} {V : EV} {G : GS} {S : HS} {F a : Nat} {p0 : Int32} {o : Option Int32} {S' : HS} (hst : l.stackTraces = false) (hN : G.1.Nodup) (hW : WT G S) (h_a : a ∈ G.1) (k_a : G.2.1 a = 11) (hf : g_X11_whole G.2.2 F a p0 S = some (o, S')) : MetX l yX11_whole cX11_whole 8 6 111 V G S [.ref a, .int p0] o S' := by
  intro sz
  refine x_inX RX11 rfl (by decide +kernel) hN (Nat.le_of_ble_eq_true rfl) (fun p e s m args below meth c ls hsz hargs hnm htab C hP hS hl => ?_)
  subst hsz
  have hx := C.1
  have hb := C.2.1
  have hl : lv_has ls 8 [(0, .ref a), (1, .int p0)] := hl
  unfold g_X11_whole at hf
  refine lv_aload_n hx hb dX11_whole_0 rfl (lv_at hl 0 rfl) ?_
  refine lv_iload_n hx hb dX11_whole_1 rfl (lv_at hl 1 rfl) ?_
  obtain ⟨r1, er1, hf⟩ := bd1_e hf
  refine x_aft_r (x_runV (As := [.int p0]) (rest := []) C hP hS (c_X11_formHolding (l := l) C.2.2.2.2.2.2.2.2.2.1 hW h_a k_a er1 s.heap.size) h_a k_a (by decide) rfl rfl km_X11_formHolding ki_X11_formHolding qm_X11_235 ⟨(Nat.le_of_ble_eq_true rfl), (Nat.le_of_ble_eq_true rfl)⟩ rfl hl.1 rfl (Nat.le_of_ble_eq_true rfl) ⟨Nat.zero_le _, Nat.zero_le _⟩ dX11_whole_2) hS (fun H locs hP hS hW q2 => ?_)
  have thr : ∀ (pc : Nat) (S1 : HS) (H : Heap) (locs : List Loc) (ls : Array Slot), WT G S1 → o = none → (pc = 26 ∨ pc = 103) → HP V G S1 H → va_S (AG G s.heap.size) s.heap H locs → ls.size = 8 → W p l e (RMX 6 111) s m args below meth c H locs 0 0 (vx_MQ below (QX V G S1 o s.heap.size) (XX V G S1 o s.heap.size) args s 1 6 (AG G s.heap.size)) (F0 m pc ls []) := by
    intro pc S1 H locs ls hW ho hpc hP hS hz
    rcases hpc with rfl | rfl
    · exact x_throw C hst htab hP hS hW hz ho dX11_whole_26 dX11_whole_29 dX11_whole_30 dX11_whole_33 ⟨by decide, by decide, by decide, by decide⟩
    · exact x_throw C hst htab hP hS hW hz ho dX11_whole_103 dX11_whole_106 dX11_whole_107 dX11_whole_110 ⟨by decide, by decide, by decide, by decide⟩
  have last : ∀ (t : Nat) (w : Int32) (z : Int64) (S1 : HS) (H : Heap) (locs : List Loc) (ls : Array Slot), g_X11_whole_end w z S1 = some (o, S') → WT G S1 → HP V G S1 H → va_S (AG G s.heap.size) s.heap H locs → lv_has ls 8 [(3, .int w), (2, .ref t), (0, .ref a), (1, .int p0)] → W p l e (RMX 6 111) s m args below meth c H locs 0 0 (vx_MQ below (QX V G S' o s.heap.size) (XX V G S' o s.heap.size) args s 1 6 (AG G s.heap.size)) (F0 m 78 ls [.long z]) := by
    intro t w z S1 H locs ls hf hW hP hS hl
    unfold g_X11_whole_end at hf
    refine lv_lstore (lv' := [(4, .long z), (3, .int w), (2, .ref t), (0, .ref a), (1, .int p0)]) hx hb dX11_whole_78 hl (by decide) rfl (fun ls hl => ?_)
    refine lv_iload_n hx hb dX11_whole_80 rfl (lv_at hl 1 rfl) ?_
    have fin : ∀ (y : Int64) (ls : Array Slot), (if (0 : Int32) < lg_cmp z y then some (none, S1) else some (some (if w = (0 : Int32) then z else -z).toInt32, S1)) = some (o, S') → lv_has ls 8 [(4, .long z), (3, .int w), (2, .ref t), (0, .ref a), (1, .int p0)] → W p l e (RMX 6 111) s m args below meth c H locs 0 0 (vx_MQ below (QX V G S' o s.heap.size) (XX V G S' o s.heap.size) args s 1 6 (AG G s.heap.size)) (F0 m 93 ls [.long y]) := by
      intro y ls hf hl
      refine lv_lstore (lv' := [(6, .long y), (4, .long z), (3, .int w), (2, .ref t), (0, .ref a), (1, .int p0)]) hx hb dX11_whole_93 hl (by decide) rfl (fun ls hl => ?_)
      refine lv_lload hx hb dX11_whole_95 (lv_at hl 1 rfl) ?_
      refine lv_lload hx hb dX11_whole_97 (lv_at hl 0 rfl) ?_
      refine W.lcmp hx hb dX11_whole_99 ?_
      refine lv_if_le (tgt := 111) hx hb dX11_whole_100 (by decide) (fun k => ?_) (fun k => ?_)
      · have hf := if_f (Int32.not_lt.mpr k) hf
        refine lv_iload_n hx hb dX11_whole_111 rfl (lv_at hl 2 rfl) ?_
        refine lv_if_eq (tgt := 121) hx hb dX11_whole_112 (by decide) (fun k2 => ?_) (fun k2 => ?_)
        · refine lv_lload hx hb dX11_whole_121 (lv_at hl 1 rfl) ?_
          refine lv_l2i hx hb dX11_whole_123 rfl ?_
          rw [if_pos k2] at hf
          cases hf
          exact x_retX C hP hS hW rfl dX11_whole_124
        · refine lv_lload hx hb dX11_whole_115 (lv_at hl 1 rfl) ?_
          refine lv_lneg hx hb dX11_whole_117 ?_
          refine lv_goto (tgt := 123) hx hb dX11_whole_118 (by decide) ?_
          refine lv_l2i hx hb dX11_whole_123 rfl ?_
          rw [if_neg k2] at hf
          cases hf
          exact x_retX C hP hS hW rfl dX11_whole_124
      · have hf := if_t (Int32.not_le.mp k) hf
        cases hf
        exact thr 103 _ _ _ _ hW rfl (by decide) hP hS hl.1
    refine lv_if_eq (tgt := 90) hx hb dX11_whole_81 (by decide) (fun k => ?_) (fun k => ?_)
    · refine lv_ldc2 (v := 2147483647) hx hb C.2.2.2.2.1 (C.2.2.2.2.2.1 _ qc_X11_295) dX11_whole_90 ?_
      exact fin _ _ (by rw [if_pos k] at hf; exact hf) hl
    · refine lv_ldc2 (v := 2147483648) hx hb C.2.2.2.2.1 (C.2.2.2.2.2.1 _ qc_X11_293) dX11_whole_84 ?_
      refine lv_goto (tgt := 93) hx hb dX11_whole_87 (by decide) ?_
      exact fin _ _ (by rw [if_neg k] at hf; exact hf) hl
  cases r1 with
  | none =>
    have hf := mq_n rfl hf
    show W _ _ _ _ _ _ _ _ _ _ _ _ _ _ _ (F0 m 5 ls (.null :: []))
    refine lv_astore_nN (lv' := [(2, .null), (0, .ref a), (1, .int p0)]) hx hb dX11_whole_5 rfl hl (by decide) rfl (fun ls hl => ?_)
    refine lv_aload_nN hx hb dX11_whole_6 rfl (lv_at hl 0 rfl) ?_
    refine lv_ifnullN (tgt := 26) hx hb dX11_whole_7 (by decide) ?_
    cases hf
    exact thr 26 _ _ _ _ hW rfl (Or.inl rfl) hP hS hl.1
  | some t =>
    have hf := mq_s rfl hf
    obtain ⟨h_t, k_t⟩ := q2 _ rfl
    show W _ _ _ _ _ _ _ _ _ _ _ _ _ _ _ (F0 m 5 ls (.ref t :: []))
    refine lv_astore_n (lv' := [(2, .ref t), (0, .ref a), (1, .int p0)]) hx hb dX11_whole_5 rfl hl (by decide) rfl (fun ls hl => ?_)
    refine lv_aload_n hx hb dX11_whole_6 rfl (lv_at hl 0 rfl) ?_
    refine lv_ifnull hx hb dX11_whole_7 ?_
    refine lv_aload_n hx hb dX11_whole_10 rfl (lv_at hl 0 rfl) ?_
    refine lv_iload_n hx hb dX11_whole_11 rfl (lv_at hl 2 rfl) ?_
    refine x_aft_z (x_runV (As := [.int p0]) (rest := []) C hP hS (c_X2_isNan (l := l) C.2.2.2.2.2.2.2.2.2.1 hW h_t k_t rfl H.size) h_t k_t (by decide) rfl rfl km_X2_isNan ki_X2_isNan qm_X11_241 ⟨(Nat.le_of_ble_eq_true rfl), (Nat.le_of_ble_eq_true rfl)⟩ rfl hl.1 rfl (Nat.le_of_ble_eq_true rfl) ⟨Nat.zero_le _, Nat.zero_le _⟩ dX11_whole_12) hS (fun H locs hP hS hW z => ?_)
    refine lv_if_ne (tgt := 26) hx hb dX11_whole_15 (by decide) (fun k => ?_) (fun k => ?_)
    · have hf := if_t k hf
      cases hf
      exact thr 26 _ _ _ _ hW rfl (Or.inl rfl) hP hS hl.1
    have hf := if_f (not_not_intro k) hf
    refine lv_aload_n hx hb dX11_whole_18 rfl (lv_at hl 0 rfl) ?_
    refine lv_iload_n hx hb dX11_whole_19 rfl (lv_at hl 2 rfl) ?_
    refine x_aft_z (x_runV (As := [.int p0]) (rest := []) C hP hS (c_X2_isInfinite (l := l) C.2.2.2.2.2.2.2.2.2.1 hW h_t k_t rfl H.size) h_t k_t (by decide) rfl rfl km_X2_isInfinite ki_X2_isInfinite qm_X11_265 ⟨(Nat.le_of_ble_eq_true rfl), (Nat.le_of_ble_eq_true rfl)⟩ rfl hl.1 rfl (Nat.le_of_ble_eq_true rfl) ⟨Nat.zero_le _, Nat.zero_le _⟩ dX11_whole_20) hS (fun H locs hP hS hW z => ?_)
    refine lv_if_eq (tgt := 34) hx hb dX11_whole_23 (by decide) (fun k => ?_) (fun k => ?_)
    rotate_left
    · have hf := if_t k hf
      cases hf
      exact thr 26 _ _ _ _ hW rfl (Or.inl rfl) hP hS hl.1
    have hf := if_f (not_not_intro k) hf
    refine lv_aload_n hx hb dX11_whole_34 rfl (lv_at hl 0 rfl) ?_
    refine lv_iload_n hx hb dX11_whole_35 rfl (lv_at hl 2 rfl) ?_
    refine x_aft_z (x_runV (As := [.int p0]) (rest := []) C hP hS (c_X2_isMinus (l := l) C.2.2.2.2.2.2.2.2.2.1 hW h_t k_t rfl H.size) h_t k_t (by decide) rfl rfl km_X2_isMinus ki_X2_isMinus qm_X11_253 ⟨(Nat.le_of_ble_eq_true rfl), (Nat.le_of_ble_eq_true rfl)⟩ rfl hl.1 rfl (Nat.le_of_ble_eq_true rfl) ⟨Nat.zero_le _, Nat.zero_le _⟩ dX11_whole_36) hS (fun H locs hP hS hW z => ?_)
    refine lv_istore_n (lv' := [(3, .int (s_X2_isMinus t p0 S)), (2, .ref t), (0, .ref a), (1, .int p0)]) hx hb dX11_whole_39 rfl hl (by decide) rfl (fun ls hl => ?_)
    refine lv_aload_n hx hb dX11_whole_40 rfl (lv_at hl 1 rfl) ?_
    refine lv_iload_n hx hb dX11_whole_41 rfl (lv_at hl 3 rfl) ?_
    refine x_aft_z (x_runV (As := [.int p0]) (rest := []) C hP hS (c_X2_isNought (l := l) C.2.2.2.2.2.2.2.2.2.1 hW h_t k_t rfl H.size) h_t k_t (by decide) rfl rfl km_X2_isNought ki_X2_isNought qm_X11_268 ⟨(Nat.le_of_ble_eq_true rfl), (Nat.le_of_ble_eq_true rfl)⟩ rfl hl.1 rfl (Nat.le_of_ble_eq_true rfl) ⟨Nat.zero_le _, Nat.zero_le _⟩ dX11_whole_42) hS (fun H locs hP hS hW z => ?_)
    refine lv_if_eq (tgt := 52) hx hb dX11_whole_45 (by decide) (fun k => ?_) (fun k => ?_)
    rotate_left
    · have hf := if_f k hf
      refine lv_lconst (v := 0) hx hb dX11_whole_48 rfl ?_
      refine lv_goto (tgt := 78) hx hb dX11_whole_49 (by decide) ?_
      exact last t _ _ S _ _ _ hf hW hP hS hl
    have hf := if_t k hf
    obtain ⟨t1, e1, hf⟩ := bd1_e hf
    obtain ⟨t2, e2, hf⟩ := bd1_e hf
    obtain ⟨z9, S1, e3, hf⟩ := bd2_e hf
    obtain ⟨h_1, k_1⟩ := wt_r hW h_a k_a (by decide) e1
    have k_1 : G.2.1 t1 = 0 := k_1
    obtain ⟨h_2, k_2⟩ := wt_r hW h_a k_a (by decide) e2
    have k_2 : G.2.1 t2 = 7 := k_2
    refine lv_aload_n hx hb dX11_whole_52 rfl (lv_at hl 2 rfl) ?_
    refine gf_X11_19 C hP h_a k_a dX11_whole_53 ?_
    rw [e1]
    refine lv_aload_n hx hb dX11_whole_56 rfl (lv_at hl 2 rfl) ?_
    refine gf_X11_40 C hP h_a k_a dX11_whole_57 ?_
    rw [e2]
    refine gf_X11_193 C hP h_2 k_2 dX11_whole_60 ?_
    refine lv_iload_n hx hb dX11_whole_63 rfl (lv_at hl 0 rfl) ?_
    refine lv_aload_n hx hb dX11_whole_64 rfl (lv_at hl 1 rfl) ?_
    refine lv_iload_n hx hb dX11_whole_65 rfl (lv_at hl 3 rfl) ?_
    refine x_aft_i (x_runV (As := [.int p0]) (rest := [.int (s_X2_isMinus t p0 S), .int (gI S 702 t2), .ref t1]) C hP hS (c_X2_weight (l := l) C.2.2.2.2.2.2.2.2.2.1 hW h_t k_t rfl H.size) h_t k_t (by decide) rfl rfl km_X2_weight ki_X2_weight qm_X11_271 ⟨(Nat.le_of_ble_eq_true rfl), (Nat.le_of_ble_eq_true rfl)⟩ rfl hl.1 rfl (Nat.le_of_ble_eq_true rfl) ⟨Nat.zero_le _, Nat.zero_le _⟩ dX11_whole_66) hS (fun H locs hP hS hW => ?_)
    refine lv_i2l hx hb dX11_whole_69 rfl ?_
    refine lv_aload_n hx hb dX11_whole_70 rfl (lv_at hl 1 rfl) ?_
    refine lv_iload_n hx hb dX11_whole_71 rfl (lv_at hl 3 rfl) ?_
    refine x_aft_i (x_runV (As := [.int p0]) (rest := [.long (s_X2_weight t p0 S).toInt64, .int (s_X2_isMinus t p0 S), .int (gI S 702 t2), .ref t1]) C hP hS (c_X2_place (l := l) C.2.2.2.2.2.2.2.2.2.1 hW h_t k_t rfl H.size) h_t k_t (by decide) rfl rfl km_X2_place ki_X2_place qm_X11_274 ⟨(Nat.le_of_ble_eq_true rfl), (Nat.le_of_ble_eq_true rfl)⟩ rfl hl.1 rfl (Nat.le_of_ble_eq_true rfl) ⟨Nat.zero_le _, Nat.zero_le _⟩ dX11_whole_72) hS (fun H locs hP hS hW => ?_)
    refine x_aft_l (x_runV (As := [.int (gI S 702 t2), .int (s_X2_isMinus t p0 S), .long (s_X2_weight t p0 S).toInt64, .int (s_X2_place t p0 S)]) (rest := []) C hP hS (c_X0_wholes (l := l) C.2.2.2.2.2.2.2.2.2.1 hW h_1 k_1 e3 H.size) h_1 k_1 (by decide) rfl rfl km_X0_wholes ki_X0_wholes qm_X11_289 ⟨(Nat.le_of_ble_eq_true rfl), (Nat.le_of_ble_eq_true rfl)⟩ rfl hl.1 rfl (Nat.le_of_ble_eq_true rfl) ⟨Nat.zero_le _, Nat.zero_le _⟩ dX11_whole_75) hS (fun H locs hP hS hW => ?_)
    exact last t _ _ S1 _ _ _ hf hW hP hS hl
