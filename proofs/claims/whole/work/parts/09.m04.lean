def s_X9_empty (a : Nat) (S : HS) : HS :=
  bnd (uI S 903 a 0) fun S1 =>
  bnd (uI S1 904 a 0) fun S2 =>
  bnd (uI S2 905 a 0) fun S3 =>
  bnd (uI S3 906 a 0) fun S4 =>
  S4
set_option maxRecDepth 100000 in
set_option maxHeartbeats 4000000 in
theorem c_X9_empty {l : Launch} {V : EV} {G : GS} {S : HS} {a : Nat} {S' : HS} (hN : G.1.Nodup) (hW : WT G S) (h_a : a ∈ G.1) (k_a : G.2.1 a = 9) (hf : s_X9_empty a S = S') : MetV l yX9_empty cX9_empty 1 0 0 V G S [.ref a] S' := by
  intro sz
  refine x_in RX9 rfl (by decide +kernel) hN (Nat.le_of_ble_eq_true rfl) (fun p e s m args below meth c ls hsz hargs hnm C hP hS hl => ?_)
  subst hsz
  have hx := C.1
  have hb := C.2.1
  have hl : lv_has ls 1 [(0, .ref a)] := hl
  unfold s_X9_empty at hf
  refine lv_aload_n hx hb dX9_empty_0 rfl (lv_at hl 0 rfl) ?_
  refine lv_iconst (v := 0) hx hb dX9_empty_1 rfl ?_
  obtain ⟨S1, eS1, hf⟩ := bnd_e hf
  refine pf_X9_24 C hP hS h_a k_a eS1 dX9_empty_2 (fun H locs hP hS => ?_)
  have hW : WT G S1 := by rw [eS1]; exact hW
  refine lv_aload_n hx hb dX9_empty_5 rfl (lv_at hl 0 rfl) ?_
  refine lv_iconst (v := 0) hx hb dX9_empty_6 rfl ?_
  obtain ⟨S2, eS2, hf⟩ := bnd_e hf
  refine pf_X9_28 C hP hS h_a k_a eS2 dX9_empty_7 (fun H locs hP hS => ?_)
  have hW : WT G S2 := by rw [eS2]; exact hW
  refine lv_aload_n hx hb dX9_empty_10 rfl (lv_at hl 0 rfl) ?_
  refine lv_iconst (v := 0) hx hb dX9_empty_11 rfl ?_
  obtain ⟨S3, eS3, hf⟩ := bnd_e hf
  refine pf_X9_31 C hP hS h_a k_a isZ_0 eS3 dX9_empty_12 (fun H locs hP hS => ?_)
  have hW : WT G S3 := by rw [eS3]; exact hW
  refine lv_aload_n hx hb dX9_empty_15 rfl (lv_at hl 0 rfl) ?_
  refine lv_iconst (v := 0) hx hb dX9_empty_16 rfl ?_
  obtain ⟨S4, eS4, hf⟩ := bnd_e hf
  refine pf_X9_35 C hP hS h_a k_a eS4 dX9_empty_17 (fun H locs hP hS => ?_)
  have hW : WT G S4 := by rw [eS4]; exact hW
  cases hf
  exact x_retv C hP hS hW dX9_empty_20
def s_X9_formAt (N : Nat → Nat) (a : Nat) (p0 : Int32) (S : HS) : Option (Option Nat) :=
  if p0 < (0 : Int32) then
  some none
  else
  if (gI S 903 a) ≤ p0 then
  some none
  else
  if (4 : Int32) ≤ p0 then
  some none
  else
  bd1 (gR S 900 a) fun t4 =>
  if inB p0 (N t4) = true then
  bd1 (aR S t4 p0.toNatClampNeg) fun t6 =>
  some (some t6)
  else none
set_option maxRecDepth 100000 in
set_option maxHeartbeats 4000000 in
theorem c_X9_formAt {l : Launch} {V : EV} {G : GS} {S : HS} {a : Nat} {p0 : Int32} {r : Option Nat} (hN : G.1.Nodup) (hW : WT G S) (h_a : a ∈ G.1) (k_a : G.2.1 a = 9) (hf : s_X9_formAt G.2.2 a p0 S = some r) : MetR 2 l yX9_formAt cX9_formAt 2 (.object "FusedUnit$Form") 0 0 V G S [.ref a, .int p0] r S := by
  intro sz
  refine x_in RX9 rfl (by decide +kernel) hN (Nat.le_of_ble_eq_true rfl) (fun p e s m args below meth c ls hsz hargs hnm C hP hS hl => ?_)
  subst hsz
  have hx := C.1
  have hb := C.2.1
  have hl : lv_has ls 2 [(0, .ref a), (1, .int p0)] := hl
  unfold s_X9_formAt at hf
  refine lv_iload_n hx hb dX9_formAt_0 rfl (lv_at hl 1 rfl) ?_
  refine lv_if_lt (tgt := 26) hx hb dX9_formAt_1 (by decide) (fun c1 => ?_) (fun c1 => ?_)
  · have hf := if_t c1 hf
    refine lv_null hx hb dX9_formAt_26 ?_
    cases hf
    exact x_retr C hP hS hW (v := none) rfl (fun u hu => by cases hu) dX9_formAt_27
  · have hf := if_f c1 hf
    refine lv_iload_n hx hb dX9_formAt_4 rfl (lv_at hl 1 rfl) ?_
    refine lv_aload_n hx hb dX9_formAt_5 rfl (lv_at hl 0 rfl) ?_
    refine gf_X9_24 C hP h_a k_a dX9_formAt_6 ?_
    refine lv_icmp_ge (tgt := 26) hx hb dX9_formAt_9 (by decide) (fun c2 => ?_) (fun c2 => ?_)
    · have hf := if_t c2 hf
      refine lv_null hx hb dX9_formAt_26 ?_
      cases hf
      exact x_retr C hP hS hW (v := none) rfl (fun u hu => by cases hu) dX9_formAt_27
    · have hf := if_f c2 hf
      refine lv_iload_n hx hb dX9_formAt_12 rfl (lv_at hl 1 rfl) ?_
      refine lv_iconst (v := 4) hx hb dX9_formAt_13 rfl ?_
      refine lv_icmp_ge (tgt := 26) hx hb dX9_formAt_14 (by decide) (fun c3 => ?_) (fun c3 => ?_)
      · have hf := if_t c3 hf
        refine lv_null hx hb dX9_formAt_26 ?_
        cases hf
        exact x_retr C hP hS hW (v := none) rfl (fun u hu => by cases hu) dX9_formAt_27
      · have hf := if_f c3 hf
        refine lv_aload_n hx hb dX9_formAt_17 rfl (lv_at hl 0 rfl) ?_
        refine gf_X9_11 C hP h_a k_a dX9_formAt_18 ?_
        obtain ⟨t4, et4, hf⟩ := bd1_e hf
        obtain ⟨h_t4, k_t4⟩ := wt_r hW h_a k_a (by decide) et4
        have k_t4 : G.2.1 t4 = 17 := k_t4
        rw [et4]
        refine lv_iload_n hx hb dX9_formAt_21 rfl (lv_at hl 1 rfl) ?_
        obtain ⟨h5, hf⟩ := if_s hf
        refine x_Fald C hP h_t4 k_t4 h5 dX9_formAt_22 ?_
        obtain ⟨t6, et6, hf⟩ := bd1_e hf
        obtain ⟨h_t6, k_t6⟩ := hW.2.1 _ h_t4 _ _ k_t4 et6
        rw [et6]
        refine lv_goto (tgt := 27) hx hb dX9_formAt_23 (by decide) ?_
        cases hf
        exact x_retr C hP hS hW rfl (fun u hu => by cases hu; exact ⟨h_t6, k_t6⟩) dX9_formAt_27
def s_X9_isTold (N : Nat → Nat) (F : Nat) (a : Nat) (p0 : Int64) (S : HS) : Option Int32 :=
  bd1 (s_X9_formNamed N F a p0 S) fun r1 =>
  if r1 = (-1 : Int32) then
  bd1 (s_X9_registerNamed N F a p0 S) fun r3 =>
  if r3 = (-1 : Int32) then
  some 0
  else
  some 1
  else
  some 1
set_option maxRecDepth 100000 in
set_option maxHeartbeats 4000000 in
theorem c_X9_isTold {l : Launch} {V : EV} {G : GS} {S : HS} {F : Nat} {a : Nat} {p0 : Int64} {r : Int32} (hN : G.1.Nodup) (hW : WT G S) (h_a : a ∈ G.1) (k_a : G.2.1 a = 9) (hf : s_X9_isTold G.2.2 F a p0 S = some r) : MetZ l yX9_isTold cX9_isTold 3 1 31 V G S [.ref a, .long p0] r S := by
  intro sz
  refine x_in RX9 rfl (by decide +kernel) hN (Nat.le_of_ble_eq_true rfl) (fun p e s m args below meth c ls hsz hargs hnm C hP hS hl => ?_)
  subst hsz
  have hx := C.1
  have hb := C.2.1
  have hl : lv_has ls 3 [(0, .ref a), (1, .long p0)] := hl
  unfold s_X9_isTold at hf
  refine lv_aload_n hx hb dX9_isTold_0 rfl (lv_at hl 0 rfl) ?_
  refine lv_lload_n hx hb dX9_isTold_1 rfl (lv_at hl 1 rfl) ?_
  obtain ⟨r1, er1, hf⟩ := bd1_e hf
  refine x_aft_i (x_runV (As := [.long p0]) (rest := []) C hP hS (c_X9_formNamed (l := l) C.2.2.2.2.2.2.2.2.2.1 hW h_a k_a er1 s.heap.size) h_a k_a (by decide) rfl rfl km_X9_formNamed ki_X9_formNamed qm_X9_38 ⟨(Nat.le_of_ble_eq_true rfl), (Nat.le_of_ble_eq_true rfl)⟩ rfl hl.1 rfl (Nat.le_of_ble_eq_true rfl) ⟨Nat.zero_le _, Nat.zero_le _⟩ dX9_isTold_2) hS (fun H locs hP hS hW => ?_)
  refine lv_iconst (v := (-1)) hx hb dX9_isTold_5 rfl ?_
  refine lv_icmp_ne (tgt := 18) hx hb dX9_isTold_6 (by decide) (fun c2 => ?_) (fun c2 => ?_)
  · have hf := if_f c2 hf
    refine lv_iconst (v := 1) hx hb dX9_isTold_18 rfl ?_
    refine lv_goto (tgt := 23) hx hb dX9_isTold_19 (by decide) ?_
    cases hf
    exact x_retZ C hP hS hW isZ_1 dX9_isTold_23
  · have hf := if_t c2 hf
    refine lv_aload_n hx hb dX9_isTold_9 rfl (lv_at hl 0 rfl) ?_
    refine lv_lload_n hx hb dX9_isTold_10 rfl (lv_at hl 1 rfl) ?_
    obtain ⟨r3, er3, hf⟩ := bd1_e hf
    refine x_aft_i (x_runV (As := [.long p0]) (rest := []) C hP hS (c_X9_registerNamed (l := l) C.2.2.2.2.2.2.2.2.2.1 hW h_a k_a er3 H.size) h_a k_a (by decide) rfl rfl km_X9_registerNamed ki_X9_registerNamed qm_X9_42 ⟨(Nat.le_of_ble_eq_true rfl), (Nat.le_of_ble_eq_true rfl)⟩ rfl hl.1 rfl (Nat.le_of_ble_eq_true rfl) ⟨Nat.zero_le _, Nat.zero_le _⟩ dX9_isTold_11) hS (fun H locs hP hS hW => ?_)
    refine lv_iconst (v := (-1)) hx hb dX9_isTold_14 rfl ?_
    refine lv_icmp_eq (tgt := 22) hx hb dX9_isTold_15 (by decide) (fun c4 => ?_) (fun c4 => ?_)
    · have hf := if_t c4 hf
      refine lv_iconst (v := 0) hx hb dX9_isTold_22 rfl ?_
      cases hf
      exact x_retZ C hP hS hW isZ_0 dX9_isTold_23
    · have hf := if_f c4 hf
      refine lv_iconst (v := 1) hx hb dX9_isTold_18 rfl ?_
      refine lv_goto (tgt := 23) hx hb dX9_isTold_19 (by decide) ?_
      cases hf
      exact x_retZ C hP hS hW isZ_1 dX9_isTold_23
def s_X9_tellForm (N : Nat → Nat) (a : Nat) (p0 : Int64) (p1 : Nat) (S : HS) : Option HS :=
  if (gI S 903 a) < (0 : Int32) then
  some S
  else
  if (4 : Int32) ≤ (gI S 903 a) then
  some S
  else
  bd1 (gR S 901 a) fun t3 =>
  if inB (gI S 903 a) (N t3) = true then
  bnd (wJ S t3 ((gI S 903 a).toNatClampNeg) p0) fun S5 =>
  bd1 (gR S5 900 a) fun t6 =>
  if inB (gI S5 903 a) (N t6) = true then
  bnd (wR S5 t6 ((gI S5 903 a).toNatClampNeg) (some p1)) fun S8 =>
  bnd (uI S8 903 a ((gI S8 903 a) + 1)) fun S9 =>
  some S9
  else none
  else none
set_option maxRecDepth 100000 in
set_option maxHeartbeats 4000000 in
theorem c_X9_tellForm {l : Launch} {V : EV} {G : GS} {S : HS} {a : Nat} {p0 : Int64} {p1 : Nat} {S' : HS} (hN : G.1.Nodup) (hW : WT G S) (h_a : a ∈ G.1) (k_a : G.2.1 a = 9) (h_p1 : p1 ∈ G.1) (k_p1 : G.2.1 p1 = 2) (hf : s_X9_tellForm G.2.2 a p0 p1 S = some S') : MetV l yX9_tellForm cX9_tellForm 4 0 0 V G S [.ref a, .long p0, .ref p1] S' := by
  intro sz
  refine x_in RX9 rfl (by decide +kernel) hN (Nat.le_of_ble_eq_true rfl) (fun p e s m args below meth c ls hsz hargs hnm C hP hS hl => ?_)
  subst hsz
  have hx := C.1
  have hb := C.2.1
  have hl : lv_has ls 4 [(0, .ref a), (1, .long p0), (3, .ref p1)] := hl
  unfold s_X9_tellForm at hf
  refine lv_aload_n hx hb dX9_tellForm_0 rfl (lv_at hl 0 rfl) ?_
  refine gf_X9_24 C hP h_a k_a dX9_tellForm_1 ?_
  refine lv_if_lt (tgt := 45) hx hb dX9_tellForm_4 (by decide) (fun c1 => ?_) (fun c1 => ?_)
  · have hf := if_t c1 hf
    cases hf
    exact x_retv C hP hS hW dX9_tellForm_45
  · have hf := if_f c1 hf
    refine lv_aload_n hx hb dX9_tellForm_7 rfl (lv_at hl 0 rfl) ?_
    refine gf_X9_24 C hP h_a k_a dX9_tellForm_8 ?_
    refine lv_iconst (v := 4) hx hb dX9_tellForm_11 rfl ?_
    refine lv_icmp_ge (tgt := 45) hx hb dX9_tellForm_12 (by decide) (fun c2 => ?_) (fun c2 => ?_)
    · have hf := if_t c2 hf
      cases hf
      exact x_retv C hP hS hW dX9_tellForm_45
    · have hf := if_f c2 hf
      refine lv_aload_n hx hb dX9_tellForm_15 rfl (lv_at hl 0 rfl) ?_
      refine gf_X9_17 C hP h_a k_a dX9_tellForm_16 ?_
      obtain ⟨t3, et3, hf⟩ := bd1_e hf
      obtain ⟨h_t3, k_t3⟩ := wt_r hW h_a k_a (by decide) et3
      have k_t3 : G.2.1 t3 = 15 := k_t3
      rw [et3]
      refine lv_aload_n hx hb dX9_tellForm_19 rfl (lv_at hl 0 rfl) ?_
      refine gf_X9_24 C hP h_a k_a dX9_tellForm_20 ?_
      refine lv_lload_n hx hb dX9_tellForm_23 rfl (lv_at hl 1 rfl) ?_
      obtain ⟨h4, hf⟩ := if_s hf
      obtain ⟨S5, eS5, hf⟩ := bnd_e hf
      refine x_last C hP hS h_t3 k_t3 h4 eS5 dX9_tellForm_24 (fun H locs hP hS => ?_)
      have hW : WT G S5 := by rw [eS5]; exact hW
      refine lv_aload_n hx hb dX9_tellForm_25 rfl (lv_at hl 0 rfl) ?_
      refine gf_X9_11 C hP h_a k_a dX9_tellForm_26 ?_
      obtain ⟨t6, et6, hf⟩ := bd1_e hf
      obtain ⟨h_t6, k_t6⟩ := wt_r hW h_a k_a (by decide) et6
      have k_t6 : G.2.1 t6 = 17 := k_t6
      rw [et6]
      refine lv_aload_n hx hb dX9_tellForm_29 rfl (lv_at hl 0 rfl) ?_
      refine gf_X9_24 C hP h_a k_a dX9_tellForm_30 ?_
      refine lv_aload_n hx hb dX9_tellForm_33 rfl (lv_at hl 2 rfl) ?_
      obtain ⟨h7, hf⟩ := if_s hf
      obtain ⟨S8, eS8, hf⟩ := bnd_e hf
      refine x_Fast C hP hS h_t6 k_t6 h_p1 k_p1 h7 eS8 dX9_tellForm_34 (fun H locs hP hS => ?_)
      have hW : WT G S8 := by rw [eS8]; exact wt_wRF hW k_t6 ⟨h_p1, k_p1⟩
      refine lv_aload_n hx hb dX9_tellForm_35 rfl (lv_at hl 0 rfl) ?_
      refine lv_dup hx hb dX9_tellForm_36 rfl ?_
      refine gf_X9_24 C hP h_a k_a dX9_tellForm_37 ?_
      refine lv_iconst (v := 1) hx hb dX9_tellForm_40 rfl ?_
      refine lv_iadd hx hb dX9_tellForm_41 ?_
      obtain ⟨S9, eS9, hf⟩ := bnd_e hf
      refine pf_X9_24 C hP hS h_a k_a eS9 dX9_tellForm_42 (fun H locs hP hS => ?_)
      have hW : WT G S9 := by rw [eS9]; exact hW
      cases hf
      exact x_retv C hP hS hW dX9_tellForm_45
def s_X9_tellRegister (N : Nat → Nat) (a : Nat) (p0 : Int64) (S : HS) : Option HS :=
  if (gI S 904 a) < (0 : Int32) then
  some S
  else
  if (6 : Int32) ≤ (gI S 904 a) then
  some S
  else
  bd1 (gR S 902 a) fun t3 =>
  if inB (gI S 904 a) (N t3) = true then
  bnd (wJ S t3 ((gI S 904 a).toNatClampNeg) p0) fun S5 =>
  bnd (uI S5 904 a ((gI S5 904 a) + 1)) fun S6 =>
  some S6
  else none
set_option maxRecDepth 100000 in
set_option maxHeartbeats 4000000 in
theorem c_X9_tellRegister {l : Launch} {V : EV} {G : GS} {S : HS} {a : Nat} {p0 : Int64} {S' : HS} (hN : G.1.Nodup) (hW : WT G S) (h_a : a ∈ G.1) (k_a : G.2.1 a = 9) (hf : s_X9_tellRegister G.2.2 a p0 S = some S') : MetV l yX9_tellRegister cX9_tellRegister 3 0 0 V G S [.ref a, .long p0] S' := by
  intro sz
  refine x_in RX9 rfl (by decide +kernel) hN (Nat.le_of_ble_eq_true rfl) (fun p e s m args below meth c ls hsz hargs hnm C hP hS hl => ?_)
  subst hsz
  have hx := C.1
  have hb := C.2.1
  have hl : lv_has ls 3 [(0, .ref a), (1, .long p0)] := hl
  unfold s_X9_tellRegister at hf
  refine lv_aload_n hx hb dX9_tellRegister_0 rfl (lv_at hl 0 rfl) ?_
  refine gf_X9_28 C hP h_a k_a dX9_tellRegister_1 ?_
  refine lv_if_lt (tgt := 36) hx hb dX9_tellRegister_4 (by decide) (fun c1 => ?_) (fun c1 => ?_)
  · have hf := if_t c1 hf
    cases hf
    exact x_retv C hP hS hW dX9_tellRegister_36
  · have hf := if_f c1 hf
    refine lv_aload_n hx hb dX9_tellRegister_7 rfl (lv_at hl 0 rfl) ?_
    refine gf_X9_28 C hP h_a k_a dX9_tellRegister_8 ?_
    refine lv_bipush (v := 6) hx hb dX9_tellRegister_11 kc_bipush_6 ?_
    refine lv_icmp_ge (tgt := 36) hx hb dX9_tellRegister_13 (by decide) (fun c2 => ?_) (fun c2 => ?_)
    · have hf := if_t c2 hf
      cases hf
      exact x_retv C hP hS hW dX9_tellRegister_36
    · have hf := if_f c2 hf
      refine lv_aload_n hx hb dX9_tellRegister_16 rfl (lv_at hl 0 rfl) ?_
      refine gf_X9_21 C hP h_a k_a dX9_tellRegister_17 ?_
      obtain ⟨t3, et3, hf⟩ := bd1_e hf
      obtain ⟨h_t3, k_t3⟩ := wt_r hW h_a k_a (by decide) et3
      have k_t3 : G.2.1 t3 = 15 := k_t3
      rw [et3]
      refine lv_aload_n hx hb dX9_tellRegister_20 rfl (lv_at hl 0 rfl) ?_
      refine gf_X9_28 C hP h_a k_a dX9_tellRegister_21 ?_
      refine lv_lload_n hx hb dX9_tellRegister_24 rfl (lv_at hl 1 rfl) ?_
      obtain ⟨h4, hf⟩ := if_s hf
      obtain ⟨S5, eS5, hf⟩ := bnd_e hf
      refine x_last C hP hS h_t3 k_t3 h4 eS5 dX9_tellRegister_25 (fun H locs hP hS => ?_)
      have hW : WT G S5 := by rw [eS5]; exact hW
      refine lv_aload_n hx hb dX9_tellRegister_26 rfl (lv_at hl 0 rfl) ?_
      refine lv_dup hx hb dX9_tellRegister_27 rfl ?_
      refine gf_X9_28 C hP h_a k_a dX9_tellRegister_28 ?_
      refine lv_iconst (v := 1) hx hb dX9_tellRegister_31 rfl ?_
      refine lv_iadd hx hb dX9_tellRegister_32 ?_
      obtain ⟨S6, eS6, hf⟩ := bnd_e hf
      refine pf_X9_28 C hP hS h_a k_a eS6 dX9_tellRegister_33 (fun H locs hP hS => ?_)
      have hW : WT G S6 := by rw [eS6]; exact hW
      cases hf
      exact x_retv C hP hS hW dX9_tellRegister_36
def s_X10_init (a : Nat) (p0 : Nat) (p1 : Nat) (S : HS) : HS :=
  bnd (uR S 1000 a (some p0)) fun S1 =>
  bnd (uR S1 1001 a (some p1)) fun S2 =>
  S2
set_option maxRecDepth 100000 in
set_option maxHeartbeats 4000000 in
theorem c_X10_init {l : Launch} {V : EV} {G : GS} {S : HS} {a : Nat} {p0 : Nat} {p1 : Nat} {S' : HS} (hN : G.1.Nodup) (hW : WT G S) (h_a : a ∈ G.1) (k_a : G.2.1 a = 10) (h_p0 : p0 ∈ G.1) (k_p0 : G.2.1 p0 = 8) (h_p1 : p1 ∈ G.1) (k_p1 : G.2.1 p1 = 9) (hf : s_X10_init a p0 p1 S = S') : MetV l yX10_init cX10_init 3 1 28 V G S [.ref a, .ref p0, .ref p1] S' := by
  intro sz
  refine x_in RX10 rfl (by decide +kernel) hN (Nat.le_of_ble_eq_true rfl) (fun p e s m args below meth c ls hsz hargs hnm C hP hS hl => ?_)
  subst hsz
  have hx := C.1
  have hb := C.2.1
  have hin : meth.name = "<init>" := hnm
  have hl : lv_has ls 3 [(0, .ref a), (1, .ref p0), (2, .ref p1)] := hl
  unfold s_X10_init at hf
  refine lv_aload_n hx hb dX10_init_0 rfl (lv_at hl 0 rfl) ?_
  refine x_obj C qobj_X10_3 qobji qobjc hl.1 dX10_init_1 (by show _ ≤ _; decide) (by show _ ≤ _; decide) ?_
  refine lv_aload_n hx hb dX10_init_4 rfl (lv_at hl 0 rfl) ?_
  refine lv_aload_n hx hb dX10_init_5 rfl (lv_at hl 1 rfl) ?_
  obtain ⟨S1, eS1, hf⟩ := bnd_e hf
  refine pf_X10_9 C hP hS h_a k_a hin eS1 dX10_init_6 (fun H locs hP hS => ?_)
  have hW : WT G S1 := by rw [eS1]; exact wt_uR hW ⟨h_p0, k_p0⟩
  refine lv_aload_n hx hb dX10_init_9 rfl (lv_at hl 0 rfl) ?_
  refine lv_aload_n hx hb dX10_init_10 rfl (lv_at hl 2 rfl) ?_
  obtain ⟨S2, eS2, hf⟩ := bnd_e hf
  refine pf_X10_15 C hP hS h_a k_a hin eS2 dX10_init_11 (fun H locs hP hS => ?_)
  have hW : WT G S2 := by rw [eS2]; exact wt_uR hW ⟨h_p1, k_p1⟩
  cases hf
  exact x_retv C hP hS hW dX10_init_14
def s_X10_passKind_J33 (N : Nat → Nat) (F : Nat) (v0 : Nat) (v1 : Int32) (S : HS) : Option (Int32 × HS) :=
  bd1 (gR S 1000 v0) fun t6 =>
  bnd (s_X8_blame t6 1 S) fun S7 =>
  some (v1, S7)
def s_X10_passKind (N : Nat → Nat) (F : Nat) (a : Nat) (S : HS) : Option (Int32 × HS) :=
  bd1 (gR S 1000 a) fun t1 =>
  bd1 (s_X8_kindNamed F t1 S) fun r2 =>
  bd1 (gR S 1000 a) fun t3 =>
  if (s_X8_isRight t3 S) = (0 : Int32) then
  s_X10_passKind_J33 N F a r2 S
  else
  if r2 = (-1 : Int32) then
  s_X10_passKind_J33 N F a r2 S
  else
  bd1 (gR S 1000 a) fun t9 =>
  bd1 (s_X8_advance N F t9 S) fun S10 =>
  some (r2, S10)
set_option maxRecDepth 100000 in
set_option maxHeartbeats 4000000 in
theorem b_X10_passKind_33 {p : Program} {l : Launch} {e : Env} {s : State} {m : MethodId} {args : Array Value} {below : List Frame} {meth : Method} {c : Code} {V : EV} {G : GS} {r : Int32} {S' : HS} {F : Nat} (C : CX p s m args meth c RX10 cX10_passKind 2 (some .int) V G) : ∀ (v0 : Nat) (v1 : Int32) (h_v0 : v0 ∈ G.1) (k_v0 : G.2.1 v0 = 10) (S : HS) (H : Heap) (locs : List Loc) (ls : Array Slot), s_X10_passKind_J33 G.2.2 F v0 v1 S = some (r, S') → HP V G S H → va_S (AG G s.heap.size) s.heap H locs → WT G S → lv_has ls 2 [(0, .ref v0), (1, .int v1)] → W p l e (RM 13 491) s m args below meth c H locs 0 0 (MQ below (QI V G S' r s.heap.size) args s 0 0 (AG G s.heap.size)) (F0 m 33 ls []) := by
  intro v0 v1 h_v0 k_v0 S H locs ls hf hP hS hW hl
  have hx := C.1
  have hb := C.2.1
  unfold s_X10_passKind_J33 at hf
  refine lv_aload_n hx hb dX10_passKind_33 rfl (lv_at hl 0 rfl) ?_
  refine gf_X10_9 C hP h_v0 k_v0 dX10_passKind_34 ?_
  obtain ⟨t6, et6, hf⟩ := bd1_e hf
  obtain ⟨h_t6, k_t6⟩ := wt_r hW h_v0 k_v0 (by decide) et6
  have k_t6 : G.2.1 t6 = 8 := k_t6
  rw [et6]
  refine lv_iconst (v := 1) hx hb dX10_passKind_37 rfl ?_
  obtain ⟨S7, eS7, hf⟩ := bnd_e hf
  refine x_aft_v (x_runV (As := [.int 1]) (rest := []) C hP hS (c_X8_blame (l := l) C.2.2.2.2.2.2.2.2.2.1 hW h_t6 k_t6 eS7.symm H.size) h_t6 k_t6 (by decide) rfl rfl km_X8_blame ki_X8_blame qm_X10_47 ⟨(Nat.le_of_ble_eq_true rfl), (Nat.le_of_ble_eq_true rfl)⟩ rfl hl.1 rfl (Nat.le_of_ble_eq_true rfl) ⟨Nat.zero_le _, Nat.zero_le _⟩ dX10_passKind_38) hS (fun H locs hP hS hW => ?_)
  refine lv_iload_n hx hb dX10_passKind_41 rfl (lv_at hl 1 rfl) ?_
  cases hf
  exact x_reti C hP hS hW dX10_passKind_42
set_option maxRecDepth 100000 in
set_option maxHeartbeats 4000000 in
theorem c_X10_passKind {l : Launch} {V : EV} {G : GS} {S : HS} {F : Nat} {a : Nat} {r : Int32} {S' : HS} (hN : G.1.Nodup) (hW : WT G S) (h_a : a ∈ G.1) (k_a : G.2.1 a = 10) (hf : s_X10_passKind G.2.2 F a S = some (r, S')) : MetI l yX10_passKind cX10_passKind 2 .int 13 491 V G S [.ref a] r S' := by
  intro sz
  refine x_in RX10 rfl (by decide +kernel) hN (Nat.le_of_ble_eq_true rfl) (fun p e s m args below meth c ls hsz hargs hnm C hP hS hl => ?_)
  subst hsz
  have hx := C.1
  have hb := C.2.1
  have hl : lv_has ls 2 [(0, .ref a)] := hl
  unfold s_X10_passKind at hf
  refine lv_aload_n hx hb dX10_passKind_0 rfl (lv_at hl 0 rfl) ?_
  refine gf_X10_9 C hP h_a k_a dX10_passKind_1 ?_
  obtain ⟨t1, et1, hf⟩ := bd1_e hf
  obtain ⟨h_t1, k_t1⟩ := wt_r hW h_a k_a (by decide) et1
  have k_t1 : G.2.1 t1 = 8 := k_t1
  rw [et1]
  obtain ⟨r2, er2, hf⟩ := bd1_e hf
  refine x_aft_i (x_runV (As := []) (rest := []) C hP hS (c_X8_kindNamed (l := l) C.2.2.2.2.2.2.2.2.2.1 hW h_t1 k_t1 er2 s.heap.size) h_t1 k_t1 (by decide) rfl rfl km_X8_kindNamed ki_X8_kindNamed qm_X10_129 ⟨(Nat.le_of_ble_eq_true rfl), (Nat.le_of_ble_eq_true rfl)⟩ rfl hl.1 rfl (Nat.le_of_ble_eq_true rfl) ⟨Nat.zero_le _, Nat.zero_le _⟩ dX10_passKind_4) hS (fun H locs hP hS hW => ?_)
  refine lv_istore_n (lv' := [(1, .int r2), (0, .ref a)]) hx hb dX10_passKind_7 rfl hl (by decide) rfl (fun ls hl => ?_)
  refine lv_aload_n hx hb dX10_passKind_8 rfl (lv_at hl 1 rfl) ?_
  refine gf_X10_9 C hP h_a k_a dX10_passKind_9 ?_
  obtain ⟨t3, et3, hf⟩ := bd1_e hf
  obtain ⟨h_t3, k_t3⟩ := wt_r hW h_a k_a (by decide) et3
  have k_t3 : G.2.1 t3 = 8 := k_t3
  rw [et3]
  refine x_aft_z (x_runV (As := []) (rest := []) C hP hS (c_X8_isRight (l := l) C.2.2.2.2.2.2.2.2.2.1 hW h_t3 k_t3 rfl H.size) h_t3 k_t3 (by decide) rfl rfl km_X8_isRight ki_X8_isRight qm_X10_84 ⟨(Nat.le_of_ble_eq_true rfl), (Nat.le_of_ble_eq_true rfl)⟩ rfl hl.1 rfl (Nat.le_of_ble_eq_true rfl) ⟨Nat.zero_le _, Nat.zero_le _⟩ dX10_passKind_12) hS (fun H locs hP hS hW z4 => ?_)
  refine lv_if_eq (tgt := 33) hx hb dX10_passKind_15 (by decide) (fun c5 => ?_) (fun c5 => ?_)
  · have hf := if_t c5 hf
    exact b_X10_passKind_33 C a r2 h_a k_a S H locs _ hf hP hS hW (lv_sub hl [1, 0] rfl)
  · have hf := if_f c5 hf
    refine lv_iload_n hx hb dX10_passKind_18 rfl (lv_at hl 0 rfl) ?_
    refine lv_iconst (v := (-1)) hx hb dX10_passKind_19 rfl ?_
    refine lv_icmp_eq (tgt := 33) hx hb dX10_passKind_20 (by decide) (fun c8 => ?_) (fun c8 => ?_)
    · have hf := if_t c8 hf
      exact b_X10_passKind_33 C a r2 h_a k_a S H locs _ hf hP hS hW (lv_sub hl [1, 0] rfl)
    · have hf := if_f c8 hf
      refine lv_aload_n hx hb dX10_passKind_23 rfl (lv_at hl 1 rfl) ?_
      refine gf_X10_9 C hP h_a k_a dX10_passKind_24 ?_
      obtain ⟨t9, et9, hf⟩ := bd1_e hf
      obtain ⟨h_t9, k_t9⟩ := wt_r hW h_a k_a (by decide) et9
      have k_t9 : G.2.1 t9 = 8 := k_t9
      rw [et9]
      obtain ⟨S10, eS10, hf⟩ := bd1_e hf
      refine x_aft_v (x_runV (As := []) (rest := []) C hP hS (c_X8_advance (l := l) C.2.2.2.2.2.2.2.2.2.1 hW h_t9 k_t9 eS10 H.size) h_t9 k_t9 (by decide) rfl rfl km_X8_advance ki_X8_advance qm_X10_57 ⟨(Nat.le_of_ble_eq_true rfl), (Nat.le_of_ble_eq_true rfl)⟩ rfl hl.1 rfl (Nat.le_of_ble_eq_true rfl) ⟨Nat.zero_le _, Nat.zero_le _⟩ dX10_passKind_27) hS (fun H locs hP hS hW => ?_)
      refine lv_goto (tgt := 41) hx hb dX10_passKind_30 (by decide) ?_
      refine lv_iload_n hx hb dX10_passKind_41 rfl (lv_at hl 0 rfl) ?_
      cases hf
      exact x_reti C hP hS hW dX10_passKind_42
def s_X10_passNewName_J28 (N : Nat → Nat) (F : Nat) (v0 : Nat) (v1 : Int64) (S : HS) : Option (Int64 × HS) :=
  bd1 (gR S 1000 v0) fun t6 =>
  bnd (s_X8_blame t6 1 S) fun S7 =>
  some (v1, S7)
def s_X10_passNewName (N : Nat → Nat) (F : Nat) (a : Nat) (S : HS) : Option (Int64 × HS) :=
  bd1 (gR S 1000 a) fun t1 =>
  bnd (gJ S 805 t1 : Int64) fun x2 =>
  bd1 (gR S 1000 a) fun t3 =>
  if (s_X8_isRight t3 S) = (0 : Int32) then
  s_X10_passNewName_J28 N F a x2 S
  else
  bd1 (gR S 1000 a) fun t8 =>
  bd1 (s_X8_isName F t8 S) fun r9 =>
  if r9 = (0 : Int32) then
  s_X10_passNewName_J28 N F a x2 S
  else
  bd1 (gR S 1001 a) fun t12 =>
  bd1 (s_X9_isTold N F t12 x2 S) fun r13 =>
  if r13 = (0 : Int32) then
  bd1 (gR S 1000 a) fun t16 =>
  bd1 (s_X8_advance N F t16 S) fun S17 =>
  some (x2, S17)
  else
  bd1 (gR S 1000 a) fun t18 =>
  bnd (s_X8_blame t18 3 S) fun S19 =>
  some (x2, S19)
set_option maxRecDepth 100000 in
set_option maxHeartbeats 4000000 in
theorem b_X10_passNewName_28 {p : Program} {l : Launch} {e : Env} {s : State} {m : MethodId} {args : Array Value} {below : List Frame} {meth : Method} {c : Code} {V : EV} {G : GS} {r : Int64} {S' : HS} {F : Nat} (C : CX p s m args meth c RX10 cX10_passNewName 3 (some .long) V G) : ∀ (v0 : Nat) (v1 : Int64) (h_v0 : v0 ∈ G.1) (k_v0 : G.2.1 v0 = 10) (S : HS) (H : Heap) (locs : List Loc) (ls : Array Slot), s_X10_passNewName_J28 G.2.2 F v0 v1 S = some (r, S') → HP V G S H → va_S (AG G s.heap.size) s.heap H locs → WT G S → lv_has ls 3 [(0, .ref v0), (1, .long v1)] → W p l e (RM 14 520) s m args below meth c H locs 0 0 (MQ below (QJ V G S' r s.heap.size) args s 0 0 (AG G s.heap.size)) (F0 m 28 ls []) := by
  intro v0 v1 h_v0 k_v0 S H locs ls hf hP hS hW hl
  have hx := C.1
  have hb := C.2.1
  unfold s_X10_passNewName_J28 at hf
  refine lv_aload_n hx hb dX10_passNewName_28 rfl (lv_at hl 0 rfl) ?_
  refine gf_X10_9 C hP h_v0 k_v0 dX10_passNewName_29 ?_
  obtain ⟨t6, et6, hf⟩ := bd1_e hf
  obtain ⟨h_t6, k_t6⟩ := wt_r hW h_v0 k_v0 (by decide) et6
  have k_t6 : G.2.1 t6 = 8 := k_t6
  rw [et6]
  refine lv_iconst (v := 1) hx hb dX10_passNewName_32 rfl ?_
  obtain ⟨S7, eS7, hf⟩ := bnd_e hf
  refine x_aft_v (x_runV (As := [.int 1]) (rest := []) C hP hS (c_X8_blame (l := l) C.2.2.2.2.2.2.2.2.2.1 hW h_t6 k_t6 eS7.symm H.size) h_t6 k_t6 (by decide) rfl rfl km_X8_blame ki_X8_blame qm_X10_47 ⟨(Nat.le_of_ble_eq_true rfl), (Nat.le_of_ble_eq_true rfl)⟩ rfl hl.1 rfl (Nat.le_of_ble_eq_true rfl) ⟨Nat.zero_le _, Nat.zero_le _⟩ dX10_passNewName_33) hS (fun H locs hP hS hW => ?_)
  refine lv_goto (tgt := 68) hx hb dX10_passNewName_36 (by decide) ?_
  refine lv_lload_n hx hb dX10_passNewName_68 rfl (lv_at hl 1 rfl) ?_
  cases hf
  exact x_retl C hP hS hW dX10_passNewName_69
set_option maxRecDepth 100000 in
set_option maxHeartbeats 4000000 in
theorem c_X10_passNewName {l : Launch} {V : EV} {G : GS} {S : HS} {F : Nat} {a : Nat} {r : Int64} {S' : HS} (hN : G.1.Nodup) (hW : WT G S) (h_a : a ∈ G.1) (k_a : G.2.1 a = 10) (hf : s_X10_passNewName G.2.2 F a S = some (r, S')) : MetJ l yX10_passNewName cX10_passNewName 3 14 520 V G S [.ref a] r S' := by
  intro sz
  refine x_in RX10 rfl (by decide +kernel) hN (Nat.le_of_ble_eq_true rfl) (fun p e s m args below meth c ls hsz hargs hnm C hP hS hl => ?_)
  subst hsz
  have hx := C.1
  have hb := C.2.1
  have hl : lv_has ls 3 [(0, .ref a)] := hl
  unfold s_X10_passNewName at hf
  refine lv_aload_n hx hb dX10_passNewName_0 rfl (lv_at hl 0 rfl) ?_
  refine gf_X10_9 C hP h_a k_a dX10_passNewName_1 ?_
  obtain ⟨t1, et1, hf⟩ := bd1_e hf
  obtain ⟨h_t1, k_t1⟩ := wt_r hW h_a k_a (by decide) et1
  have k_t1 : G.2.1 t1 = 8 := k_t1
  rw [et1]
  refine gf_X10_118 C hP h_t1 k_t1 dX10_passNewName_4 ?_
  obtain ⟨x2, ex2, hf⟩ := bnd_e hf
  refine nm_l ex2 ?_
  refine lv_lstore_n (lv' := [(1, .long x2), (0, .ref a)]) hx hb dX10_passNewName_7 rfl hl (by decide) rfl (fun ls hl => ?_)
  refine lv_aload_n hx hb dX10_passNewName_8 rfl (lv_at hl 1 rfl) ?_
  refine gf_X10_9 C hP h_a k_a dX10_passNewName_9 ?_
  obtain ⟨t3, et3, hf⟩ := bd1_e hf
  obtain ⟨h_t3, k_t3⟩ := wt_r hW h_a k_a (by decide) et3
  have k_t3 : G.2.1 t3 = 8 := k_t3
  rw [et3]
  refine x_aft_z (x_runV (As := []) (rest := []) C hP hS (c_X8_isRight (l := l) C.2.2.2.2.2.2.2.2.2.1 hW h_t3 k_t3 rfl s.heap.size) h_t3 k_t3 (by decide) rfl rfl km_X8_isRight ki_X8_isRight qm_X10_84 ⟨(Nat.le_of_ble_eq_true rfl), (Nat.le_of_ble_eq_true rfl)⟩ rfl hl.1 rfl (Nat.le_of_ble_eq_true rfl) ⟨Nat.zero_le _, Nat.zero_le _⟩ dX10_passNewName_12) hS (fun H locs hP hS hW z4 => ?_)
  refine lv_if_eq (tgt := 28) hx hb dX10_passNewName_15 (by decide) (fun c5 => ?_) (fun c5 => ?_)
  · have hf := if_t c5 hf
    exact b_X10_passNewName_28 C a x2 h_a k_a S H locs _ hf hP hS hW (lv_sub hl [1, 0] rfl)
  · have hf := if_f c5 hf
    refine lv_aload_n hx hb dX10_passNewName_18 rfl (lv_at hl 1 rfl) ?_
    refine gf_X10_9 C hP h_a k_a dX10_passNewName_19 ?_
    obtain ⟨t8, et8, hf⟩ := bd1_e hf
    obtain ⟨h_t8, k_t8⟩ := wt_r hW h_a k_a (by decide) et8
    have k_t8 : G.2.1 t8 = 8 := k_t8
    rw [et8]
    obtain ⟨r9, er9, hf⟩ := bd1_e hf
    refine x_aft_z (x_runV (As := []) (rest := []) C hP hS (c_X8_isName (l := l) C.2.2.2.2.2.2.2.2.2.1 hW h_t8 k_t8 er9 H.size) h_t8 k_t8 (by decide) rfl rfl km_X8_isName ki_X8_isName qm_X10_122 ⟨(Nat.le_of_ble_eq_true rfl), (Nat.le_of_ble_eq_true rfl)⟩ rfl hl.1 rfl (Nat.le_of_ble_eq_true rfl) ⟨Nat.zero_le _, Nat.zero_le _⟩ dX10_passNewName_22) hS (fun H locs hP hS hW z10 => ?_)
    refine lv_if_ne (tgt := 39) hx hb dX10_passNewName_25 (by decide) (fun c11 => ?_) (fun c11 => ?_)
    · have hf := if_f c11 hf
      refine lv_aload_n hx hb dX10_passNewName_39 rfl (lv_at hl 1 rfl) ?_
      refine gf_X10_15 C hP h_a k_a dX10_passNewName_40 ?_
      obtain ⟨t12, et12, hf⟩ := bd1_e hf
      obtain ⟨h_t12, k_t12⟩ := wt_r hW h_a k_a (by decide) et12
      have k_t12 : G.2.1 t12 = 9 := k_t12
      rw [et12]
      refine lv_lload_n hx hb dX10_passNewName_43 rfl (lv_at hl 0 rfl) ?_
      obtain ⟨r13, er13, hf⟩ := bd1_e hf
      refine x_aft_z (x_runV (As := [.long x2]) (rest := []) C hP hS (c_X9_isTold (l := l) C.2.2.2.2.2.2.2.2.2.1 hW h_t12 k_t12 er13 H.size) h_t12 k_t12 (by decide) rfl rfl km_X9_isTold ki_X9_isTold qm_X10_125 ⟨(Nat.le_of_ble_eq_true rfl), (Nat.le_of_ble_eq_true rfl)⟩ rfl hl.1 rfl (Nat.le_of_ble_eq_true rfl) ⟨Nat.zero_le _, Nat.zero_le _⟩ dX10_passNewName_44) hS (fun H locs hP hS hW z14 => ?_)
      refine lv_if_eq (tgt := 61) hx hb dX10_passNewName_47 (by decide) (fun c15 => ?_) (fun c15 => ?_)
      · have hf := if_t c15 hf
        refine lv_aload_n hx hb dX10_passNewName_61 rfl (lv_at hl 1 rfl) ?_
        refine gf_X10_9 C hP h_a k_a dX10_passNewName_62 ?_
        obtain ⟨t16, et16, hf⟩ := bd1_e hf
        obtain ⟨h_t16, k_t16⟩ := wt_r hW h_a k_a (by decide) et16
        have k_t16 : G.2.1 t16 = 8 := k_t16
        rw [et16]
        obtain ⟨S17, eS17, hf⟩ := bd1_e hf
        refine x_aft_v (x_runV (As := []) (rest := []) C hP hS (c_X8_advance (l := l) C.2.2.2.2.2.2.2.2.2.1 hW h_t16 k_t16 eS17 H.size) h_t16 k_t16 (by decide) rfl rfl km_X8_advance ki_X8_advance qm_X10_57 ⟨(Nat.le_of_ble_eq_true rfl), (Nat.le_of_ble_eq_true rfl)⟩ rfl hl.1 rfl (Nat.le_of_ble_eq_true rfl) ⟨Nat.zero_le _, Nat.zero_le _⟩ dX10_passNewName_65) hS (fun H locs hP hS hW => ?_)
        refine lv_lload_n hx hb dX10_passNewName_68 rfl (lv_at hl 0 rfl) ?_
        cases hf
        exact x_retl C hP hS hW dX10_passNewName_69
      · have hf := if_f c15 hf
        refine lv_aload_n hx hb dX10_passNewName_50 rfl (lv_at hl 1 rfl) ?_
        refine gf_X10_9 C hP h_a k_a dX10_passNewName_51 ?_
        obtain ⟨t18, et18, hf⟩ := bd1_e hf
        obtain ⟨h_t18, k_t18⟩ := wt_r hW h_a k_a (by decide) et18
        have k_t18 : G.2.1 t18 = 8 := k_t18
        rw [et18]
        refine lv_iconst (v := 3) hx hb dX10_passNewName_54 rfl ?_
        obtain ⟨S19, eS19, hf⟩ := bnd_e hf
        refine x_aft_v (x_runV (As := [.int 3]) (rest := []) C hP hS (c_X8_blame (l := l) C.2.2.2.2.2.2.2.2.2.1 hW h_t18 k_t18 eS19.symm H.size) h_t18 k_t18 (by decide) rfl rfl km_X8_blame ki_X8_blame qm_X10_47 ⟨(Nat.le_of_ble_eq_true rfl), (Nat.le_of_ble_eq_true rfl)⟩ rfl hl.1 rfl (Nat.le_of_ble_eq_true rfl) ⟨Nat.zero_le _, Nat.zero_le _⟩ dX10_passNewName_55) hS (fun H locs hP hS hW => ?_)
        refine lv_goto (tgt := 68) hx hb dX10_passNewName_58 (by decide) ?_
        refine lv_lload_n hx hb dX10_passNewName_68 rfl (lv_at hl 0 rfl) ?_
        cases hf
        exact x_retl C hP hS hW dX10_passNewName_69
    · have hf := if_t c11 hf
      exact b_X10_passNewName_28 C a x2 h_a k_a S H locs _ hf hP hS hW (lv_sub hl [1, 0] rfl)
def s_X10_readRegister (N : Nat → Nat) (F : Nat) (a : Nat) (S : HS) : Option HS :=
  bd1 (gR S 1001 a) fun t1 =>
  if (gI S 904 t1) = (6 : Int32) then
  bd1 (gR S 1000 a) fun t14 =>
  bnd (s_X8_blame t14 5 S) fun S15 =>
  some S15
  else
  bd1 (gR S 1000 a) fun t3 =>
  bd1 (s_X8_advance N F t3 S) fun S4 =>
  bd2 (s_X10_passNewName N F a S4) fun r5 S6 =>
  bd1 (gR S6 1000 a) fun t7 =>
  bd1 (s_X8_passSign N F t7 59 S6) fun S8 =>
  bd1 (gR S8 1000 a) fun t9 =>
  if (s_X8_isRight t9 S8) = (0 : Int32) then
  some S8
  else
  bd1 (gR S8 1001 a) fun t12 =>
  bd1 (s_X9_tellRegister N t12 r5 S8) fun S13 =>
  some S13
set_option maxRecDepth 100000 in
set_option maxHeartbeats 4000000 in
theorem c_X10_readRegister {l : Launch} {V : EV} {G : GS} {S : HS} {F : Nat} {a : Nat} {S' : HS} (hN : G.1.Nodup) (hW : WT G S) (h_a : a ∈ G.1) (k_a : G.2.1 a = 10) (hf : s_X10_readRegister G.2.2 F a S = some S') : MetV l yX10_readRegister cX10_readRegister 3 15 550 V G S [.ref a] S' := by
  intro sz
  refine x_in RX10 rfl (by decide +kernel) hN (Nat.le_of_ble_eq_true rfl) (fun p e s m args below meth c ls hsz hargs hnm C hP hS hl => ?_)
  subst hsz
  have hx := C.1
  have hb := C.2.1
  have hl : lv_has ls 3 [(0, .ref a)] := hl
  unfold s_X10_readRegister at hf
  refine lv_aload_n hx hb dX10_readRegister_0 rfl (lv_at hl 0 rfl) ?_
  refine gf_X10_15 C hP h_a k_a dX10_readRegister_1 ?_
  obtain ⟨t1, et1, hf⟩ := bd1_e hf
  obtain ⟨h_t1, k_t1⟩ := wt_r hW h_a k_a (by decide) et1
  have k_t1 : G.2.1 t1 = 9 := k_t1
  rw [et1]
  refine gf_X10_96 C hP h_t1 k_t1 dX10_readRegister_4 ?_
  refine lv_bipush (v := 6) hx hb dX10_readRegister_7 kc_bipush_6 ?_
  refine lv_icmp_ne (tgt := 21) hx hb dX10_readRegister_9 (by decide) (fun c2 => ?_) (fun c2 => ?_)
  · have hf := if_f c2 hf
    refine lv_aload_n hx hb dX10_readRegister_21 rfl (lv_at hl 0 rfl) ?_
    refine gf_X10_9 C hP h_a k_a dX10_readRegister_22 ?_
    obtain ⟨t3, et3, hf⟩ := bd1_e hf
    obtain ⟨h_t3, k_t3⟩ := wt_r hW h_a k_a (by decide) et3
    have k_t3 : G.2.1 t3 = 8 := k_t3
    rw [et3]
    obtain ⟨S4, eS4, hf⟩ := bd1_e hf
    refine x_aft_v (x_runV (As := []) (rest := []) C hP hS (c_X8_advance (l := l) C.2.2.2.2.2.2.2.2.2.1 hW h_t3 k_t3 eS4 s.heap.size) h_t3 k_t3 (by decide) rfl rfl km_X8_advance ki_X8_advance qm_X10_57 ⟨(Nat.le_of_ble_eq_true rfl), (Nat.le_of_ble_eq_true rfl)⟩ rfl hl.1 rfl (Nat.le_of_ble_eq_true rfl) ⟨Nat.zero_le _, Nat.zero_le _⟩ dX10_readRegister_25) hS (fun H locs hP hS hW => ?_)
    refine lv_aload_n hx hb dX10_readRegister_28 rfl (lv_at hl 0 rfl) ?_
    obtain ⟨r5, S6, eS6, hf⟩ := bd2_e hf
    refine x_aft_l (x_runV (As := []) (rest := []) C hP hS (c_X10_passNewName (l := l) C.2.2.2.2.2.2.2.2.2.1 hW h_a k_a eS6 H.size) h_a k_a (by decide) rfl rfl km_X10_passNewName ki_X10_passNewName qm_X10_60 ⟨(Nat.le_of_ble_eq_true rfl), (Nat.le_of_ble_eq_true rfl)⟩ rfl hl.1 rfl (Nat.le_of_ble_eq_true rfl) ⟨Nat.zero_le _, Nat.zero_le _⟩ dX10_readRegister_29) hS (fun H locs hP hS hW => ?_)
    refine lv_lstore_n (lv' := [(1, .long r5), (0, .ref a)]) hx hb dX10_readRegister_32 rfl hl (by decide) rfl (fun ls hl => ?_)
    refine lv_aload_n hx hb dX10_readRegister_33 rfl (lv_at hl 1 rfl) ?_
    refine gf_X10_9 C hP h_a k_a dX10_readRegister_34 ?_
    obtain ⟨t7, et7, hf⟩ := bd1_e hf
    obtain ⟨h_t7, k_t7⟩ := wt_r hW h_a k_a (by decide) et7
    have k_t7 : G.2.1 t7 = 8 := k_t7
    rw [et7]
    refine lv_bipush (v := 59) hx hb dX10_readRegister_37 kc_bipush_59 ?_
    obtain ⟨S8, eS8, hf⟩ := bd1_e hf
    refine x_aft_v (x_runV (As := [.int 59]) (rest := []) C hP hS (c_X8_passSign (l := l) C.2.2.2.2.2.2.2.2.2.1 hW h_t7 k_t7 eS8 H.size) h_t7 k_t7 (by decide) rfl rfl km_X8_passSign ki_X8_passSign qm_X10_80 ⟨(Nat.le_of_ble_eq_true rfl), (Nat.le_of_ble_eq_true rfl)⟩ rfl hl.1 rfl (Nat.le_of_ble_eq_true rfl) ⟨Nat.zero_le _, Nat.zero_le _⟩ dX10_readRegister_39) hS (fun H locs hP hS hW => ?_)
    refine lv_aload_n hx hb dX10_readRegister_42 rfl (lv_at hl 1 rfl) ?_
    refine gf_X10_9 C hP h_a k_a dX10_readRegister_43 ?_
    obtain ⟨t9, et9, hf⟩ := bd1_e hf
    obtain ⟨h_t9, k_t9⟩ := wt_r hW h_a k_a (by decide) et9
    have k_t9 : G.2.1 t9 = 8 := k_t9
    rw [et9]
    refine x_aft_z (x_runV (As := []) (rest := []) C hP hS (c_X8_isRight (l := l) C.2.2.2.2.2.2.2.2.2.1 hW h_t9 k_t9 rfl H.size) h_t9 k_t9 (by decide) rfl rfl km_X8_isRight ki_X8_isRight qm_X10_84 ⟨(Nat.le_of_ble_eq_true rfl), (Nat.le_of_ble_eq_true rfl)⟩ rfl hl.1 rfl (Nat.le_of_ble_eq_true rfl) ⟨Nat.zero_le _, Nat.zero_le _⟩ dX10_readRegister_46) hS (fun H locs hP hS hW z10 => ?_)
    refine lv_if_eq (tgt := 60) hx hb dX10_readRegister_49 (by decide) (fun c11 => ?_) (fun c11 => ?_)
    · have hf := if_t c11 hf
      cases hf
      exact x_retv C hP hS hW dX10_readRegister_60
    · have hf := if_f c11 hf
      refine lv_aload_n hx hb dX10_readRegister_52 rfl (lv_at hl 1 rfl) ?_
      refine gf_X10_15 C hP h_a k_a dX10_readRegister_53 ?_
      obtain ⟨t12, et12, hf⟩ := bd1_e hf
      obtain ⟨h_t12, k_t12⟩ := wt_r hW h_a k_a (by decide) et12
      have k_t12 : G.2.1 t12 = 9 := k_t12
      rw [et12]
      refine lv_lload_n hx hb dX10_readRegister_56 rfl (lv_at hl 0 rfl) ?_
      obtain ⟨S13, eS13, hf⟩ := bd1_e hf
      refine x_aft_v (x_runV (As := [.long r5]) (rest := []) C hP hS (c_X9_tellRegister (l := l) C.2.2.2.2.2.2.2.2.2.1 hW h_t12 k_t12 eS13 H.size) h_t12 k_t12 (by decide) rfl rfl km_X9_tellRegister ki_X9_tellRegister qm_X10_99 ⟨(Nat.le_of_ble_eq_true rfl), (Nat.le_of_ble_eq_true rfl)⟩ rfl hl.1 rfl (Nat.le_of_ble_eq_true rfl) ⟨Nat.zero_le _, Nat.zero_le _⟩ dX10_readRegister_57) hS (fun H locs hP hS hW => ?_)
      cases hf
      exact x_retv C hP hS hW dX10_readRegister_60
  · have hf := if_t c2 hf
    refine lv_aload_n hx hb dX10_readRegister_12 rfl (lv_at hl 0 rfl) ?_
    refine gf_X10_9 C hP h_a k_a dX10_readRegister_13 ?_
    obtain ⟨t14, et14, hf⟩ := bd1_e hf
    obtain ⟨h_t14, k_t14⟩ := wt_r hW h_a k_a (by decide) et14
    have k_t14 : G.2.1 t14 = 8 := k_t14
    rw [et14]
    refine lv_iconst (v := 5) hx hb dX10_readRegister_16 rfl ?_
    obtain ⟨S15, eS15, hf⟩ := bnd_e hf
    refine x_aft_v (x_runV (As := [.int 5]) (rest := []) C hP hS (c_X8_blame (l := l) C.2.2.2.2.2.2.2.2.2.1 hW h_t14 k_t14 eS15.symm s.heap.size) h_t14 k_t14 (by decide) rfl rfl km_X8_blame ki_X8_blame qm_X10_47 ⟨(Nat.le_of_ble_eq_true rfl), (Nat.le_of_ble_eq_true rfl)⟩ rfl hl.1 rfl (Nat.le_of_ble_eq_true rfl) ⟨Nat.zero_le _, Nat.zero_le _⟩ dX10_readRegister_17) hS (fun H locs hP hS hW => ?_)
    cases hf
    exact x_retv C hP hS hW dX10_readRegister_20
def s_X11_formInUse (N : Nat → Nat) (a : Nat) (S : HS) : Option (Option Nat) :=
  bd1 (gR S 1111 a) fun t1 =>
  bd1 (gR S 1104 a) fun t2 =>
  bd1 (s_X9_formAt N t1 (gI S 701 t2) S) fun r3 =>
  mq r3
  (some none)
  fun t5 =>
  some (some t5)
set_option maxRecDepth 100000 in
set_option maxHeartbeats 4000000 in
theorem c_X11_formInUse {l : Launch} {V : EV} {G : GS} {S : HS} {a : Nat} {r : Option Nat} (hN : G.1.Nodup) (hW : WT G S) (h_a : a ∈ G.1) (k_a : G.2.1 a = 11) (hf : s_X11_formInUse G.2.2 a S = some r) : MetR 2 l yX11_formInUse cX11_formInUse 1 (.object "FusedUnit$Form") 1 29 V G S [.ref a] r S := by
  intro sz
  refine x_in RX11 rfl (by decide +kernel) hN (Nat.le_of_ble_eq_true rfl) (fun p e s m args below meth c ls hsz hargs hnm C hP hS hl => ?_)
  subst hsz
  have hx := C.1
  have hb := C.2.1
  have hl : lv_has ls 1 [(0, .ref a)] := hl
  unfold s_X11_formInUse at hf
  refine lv_aload_n hx hb dX11_formInUse_0 rfl (lv_at hl 0 rfl) ?_
  refine gf_X11_68 C hP h_a k_a dX11_formInUse_1 ?_
  obtain ⟨t1, et1, hf⟩ := bd1_e hf
  obtain ⟨h_t1, k_t1⟩ := wt_r hW h_a k_a (by decide) et1
  have k_t1 : G.2.1 t1 = 9 := k_t1
  rw [et1]
  refine lv_aload_n hx hb dX11_formInUse_4 rfl (lv_at hl 0 rfl) ?_
  refine gf_X11_40 C hP h_a k_a dX11_formInUse_5 ?_
  obtain ⟨t2, et2, hf⟩ := bd1_e hf
  obtain ⟨h_t2, k_t2⟩ := wt_r hW h_a k_a (by decide) et2
  have k_t2 : G.2.1 t2 = 7 := k_t2
  rw [et2]
  refine gf_X11_115 C hP h_t2 k_t2 dX11_formInUse_8 ?_
  obtain ⟨r3, er3, hf⟩ := bd1_e hf
  refine x_aft_r (x_runV (As := [.int (gI S 701 t2)]) (rest := []) C hP hS (c_X9_formAt (l := l) C.2.2.2.2.2.2.2.2.2.1 hW h_t1 k_t1 er3 s.heap.size) h_t1 k_t1 (by decide) rfl rfl km_X9_formAt ki_X9_formAt qm_X11_138 ⟨(Nat.le_of_ble_eq_true rfl), (Nat.le_of_ble_eq_true rfl)⟩ rfl hl.1 rfl (Nat.le_of_ble_eq_true rfl) ⟨Nat.zero_le _, Nat.zero_le _⟩ dX11_formInUse_11) hS (fun H locs hP hS hW q4 => ?_)
  cases r3 with
  | none =>
    have hf := mq_n rfl hf
    show W _ _ _ _ _ _ _ _ _ _ _ _ _ _ _ (F0 m 14 ls (.null :: []))
    cases hf
    exact x_retr C hP hS hW (v := none) rfl (fun u hu => by cases hu) dX11_formInUse_14
  | some t5 =>
    have hf := mq_s rfl hf
    obtain ⟨h_t5, k_t5⟩ := q4 _ rfl
    show W _ _ _ _ _ _ _ _ _ _ _ _ _ _ _ (F0 m 14 ls (.ref t5 :: []))
    cases hf
    exact x_retr C hP hS hW rfl (fun u hu => by cases hu; exact ⟨h_t5, k_t5⟩) dX11_formInUse_14
def s_X11_formHolding (N : Nat → Nat) (a : Nat) (p0 : Int32) (S : HS) : Option (Option Nat) :=
  bd1 (s_X11_formInUse N a S) fun r1 =>
  mq r1
  (some none)
  fun t3 =>
  if (s_X2_holds t3 p0 S) = (0 : Int32) then
  some none
  else
  some (some t3)
set_option maxRecDepth 100000 in
set_option maxHeartbeats 4000000 in
theorem c_X11_formHolding {l : Launch} {V : EV} {G : GS} {S : HS} {a : Nat} {p0 : Int32} {r : Option Nat} (hN : G.1.Nodup) (hW : WT G S) (h_a : a ∈ G.1) (k_a : G.2.1 a = 11) (hf : s_X11_formHolding G.2.2 a p0 S = some r) : MetR 2 l yX11_formHolding cX11_formHolding 3 (.object "FusedUnit$Form") 2 57 V G S [.ref a, .int p0] r S := by
  intro sz
  refine x_in RX11 rfl (by decide +kernel) hN (Nat.le_of_ble_eq_true rfl) (fun p e s m args below meth c ls hsz hargs hnm C hP hS hl => ?_)
  subst hsz
  have hx := C.1
  have hb := C.2.1
  have hl : lv_has ls 3 [(0, .ref a), (1, .int p0)] := hl
  unfold s_X11_formHolding at hf
  refine lv_aload_n hx hb dX11_formHolding_0 rfl (lv_at hl 0 rfl) ?_
  obtain ⟨r1, er1, hf⟩ := bd1_e hf
  refine x_aft_r (x_runV (As := []) (rest := []) C hP hS (c_X11_formInUse (l := l) C.2.2.2.2.2.2.2.2.2.1 hW h_a k_a er1 s.heap.size) h_a k_a (by decide) rfl rfl km_X11_formInUse ki_X11_formInUse qm_X11_162 ⟨(Nat.le_of_ble_eq_true rfl), (Nat.le_of_ble_eq_true rfl)⟩ rfl hl.1 rfl (Nat.le_of_ble_eq_true rfl) ⟨Nat.zero_le _, Nat.zero_le _⟩ dX11_formHolding_1) hS (fun H locs hP hS hW q2 => ?_)
  cases r1 with
  | none =>
    have hf := mq_n rfl hf
    show W _ _ _ _ _ _ _ _ _ _ _ _ _ _ _ (F0 m 4 ls (.null :: []))
    refine lv_astore_nN (lv' := [(2, .null), (0, .ref a), (1, .int p0)]) hx hb dX11_formHolding_4 rfl hl (by decide) rfl (fun ls hl => ?_)
    refine lv_aload_nN hx hb dX11_formHolding_5 rfl (lv_at hl 0 rfl) ?_
    refine lv_ifnullN (tgt := 17) hx hb dX11_formHolding_6 (by decide) ?_
    refine lv_null hx hb dX11_formHolding_17 ?_
    refine lv_goto (tgt := 22) hx hb dX11_formHolding_18 (by decide) ?_
    cases hf
    exact x_retr C hP hS hW (v := none) rfl (fun u hu => by cases hu) dX11_formHolding_22
  | some t3 =>
    have hf := mq_s rfl hf
    obtain ⟨h_t3, k_t3⟩ := q2 _ rfl
    show W _ _ _ _ _ _ _ _ _ _ _ _ _ _ _ (F0 m 4 ls (.ref t3 :: []))
    refine lv_astore_n (lv' := [(2, .ref t3), (0, .ref a), (1, .int p0)]) hx hb dX11_formHolding_4 rfl hl (by decide) rfl (fun ls hl => ?_)
    refine lv_aload_n hx hb dX11_formHolding_5 rfl (lv_at hl 0 rfl) ?_
    refine lv_ifnull hx hb dX11_formHolding_6 ?_
    refine lv_aload_n hx hb dX11_formHolding_9 rfl (lv_at hl 0 rfl) ?_
    refine lv_iload_n hx hb dX11_formHolding_10 rfl (lv_at hl 2 rfl) ?_
    refine x_aft_z (x_runV (As := [.int p0]) (rest := []) C hP hS (c_X2_holds (l := l) C.2.2.2.2.2.2.2.2.2.1 hW h_t3 k_t3 rfl H.size) h_t3 k_t3 (by decide) rfl rfl km_X2_holds ki_X2_holds qm_X11_174 ⟨(Nat.le_of_ble_eq_true rfl), (Nat.le_of_ble_eq_true rfl)⟩ rfl hl.1 rfl (Nat.le_of_ble_eq_true rfl) ⟨Nat.zero_le _, Nat.zero_le _⟩ dX11_formHolding_11) hS (fun H locs hP hS hW z4 => ?_)
    refine lv_if_ne (tgt := 21) hx hb dX11_formHolding_14 (by decide) (fun c5 => ?_) (fun c5 => ?_)
    · have hf := if_f c5 hf
      refine lv_aload_n hx hb dX11_formHolding_21 rfl (lv_at hl 0 rfl) ?_
      cases hf
      exact x_retr C hP hS hW rfl (fun u hu => by cases hu; exact ⟨h_t3, k_t3⟩) dX11_formHolding_22
    · have hf := if_t c5 hf
      refine lv_null hx hb dX11_formHolding_17 ?_
      refine lv_goto (tgt := 22) hx hb dX11_formHolding_18 (by decide) ?_
      cases hf
      exact x_retr C hP hS hW (v := none) rfl (fun u hu => by cases hu) dX11_formHolding_22
def s_X11_above (N : Nat → Nat) (a : Nat) (p0 : Int32) (S : HS) : Option Int32 :=
  bd1 (s_X11_formHolding N a p0 S) fun r1 =>
  mq r1
  (some (-1))
  fun t3 =>
  some (s_X2_next t3 p0 S)
set_option maxRecDepth 100000 in
set_option maxHeartbeats 4000000 in
theorem c_X11_above {l : Launch} {V : EV} {G : GS} {S : HS} {a : Nat} {p0 : Int32} {r : Int32} (hN : G.1.Nodup) (hW : WT G S) (h_a : a ∈ G.1) (k_a : G.2.1 a = 11) (hf : s_X11_above G.2.2 a p0 S = some r) : MetI l yX11_above cX11_above 3 .int 3 87 V G S [.ref a, .int p0] r S := by
  intro sz
  refine x_in RX11 rfl (by decide +kernel) hN (Nat.le_of_ble_eq_true rfl) (fun p e s m args below meth c ls hsz hargs hnm C hP hS hl => ?_)
  subst hsz
  have hx := C.1
  have hb := C.2.1
  have hl : lv_has ls 3 [(0, .ref a), (1, .int p0)] := hl
  unfold s_X11_above at hf
  refine lv_aload_n hx hb dX11_above_0 rfl (lv_at hl 0 rfl) ?_
  refine lv_iload_n hx hb dX11_above_1 rfl (lv_at hl 1 rfl) ?_
  obtain ⟨r1, er1, hf⟩ := bd1_e hf
  refine x_aft_r (x_runV (As := [.int p0]) (rest := []) C hP hS (c_X11_formHolding (l := l) C.2.2.2.2.2.2.2.2.2.1 hW h_a k_a er1 s.heap.size) h_a k_a (by decide) rfl rfl km_X11_formHolding ki_X11_formHolding qm_X11_235 ⟨(Nat.le_of_ble_eq_true rfl), (Nat.le_of_ble_eq_true rfl)⟩ rfl hl.1 rfl (Nat.le_of_ble_eq_true rfl) ⟨Nat.zero_le _, Nat.zero_le _⟩ dX11_above_2) hS (fun H locs hP hS hW q2 => ?_)
  cases r1 with
  | none =>
    have hf := mq_n rfl hf
    show W _ _ _ _ _ _ _ _ _ _ _ _ _ _ _ (F0 m 5 ls (.null :: []))
    refine lv_astore_nN (lv' := [(2, .null), (0, .ref a), (1, .int p0)]) hx hb dX11_above_5 rfl hl (by decide) rfl (fun ls hl => ?_)
    refine lv_aload_nN hx hb dX11_above_6 rfl (lv_at hl 0 rfl) ?_
    refine lv_ifnonnullN hx hb dX11_above_7 ?_
    refine lv_iconst (v := (-1)) hx hb dX11_above_10 rfl ?_
    refine lv_goto (tgt := 19) hx hb dX11_above_11 (by decide) ?_
    cases hf
    exact x_reti C hP hS hW dX11_above_19
  | some t3 =>
    have hf := mq_s rfl hf
    obtain ⟨h_t3, k_t3⟩ := q2 _ rfl
    show W _ _ _ _ _ _ _ _ _ _ _ _ _ _ _ (F0 m 5 ls (.ref t3 :: []))
    refine lv_astore_n (lv' := [(2, .ref t3), (0, .ref a), (1, .int p0)]) hx hb dX11_above_5 rfl hl (by decide) rfl (fun ls hl => ?_)
    refine lv_aload_n hx hb dX11_above_6 rfl (lv_at hl 0 rfl) ?_
    refine lv_ifnonnull (tgt := 14) hx hb dX11_above_7 (by decide) ?_
    refine lv_aload_n hx hb dX11_above_14 rfl (lv_at hl 0 rfl) ?_
    refine lv_iload_n hx hb dX11_above_15 rfl (lv_at hl 2 rfl) ?_
    refine x_aft_i (x_runV (As := [.int p0]) (rest := []) C hP hS (c_X2_next (l := l) C.2.2.2.2.2.2.2.2.2.1 hW h_t3 k_t3 rfl H.size) h_t3 k_t3 (by decide) rfl rfl km_X2_next ki_X2_next qm_X11_247 ⟨(Nat.le_of_ble_eq_true rfl), (Nat.le_of_ble_eq_true rfl)⟩ rfl hl.1 rfl (Nat.le_of_ble_eq_true rfl) ⟨Nat.zero_le _, Nat.zero_le _⟩ dX11_above_16) hS (fun H locs hP hS hW => ?_)
    cases hf
    exact x_reti C hP hS hW dX11_above_19
def s_X11_add (N : Nat → Nat) (F : Nat) (a : Nat) (p0 : Int32) (p1 : Int32) (p2 : Int32) (p3 : Int32) (S : HS) : Option (Int32 × HS) :=
  bd1 (s_X11_formHolding N a p0 S) fun r1 =>
  mq r1
  (some (0, S))
  fun t3 =>
  if (s_X2_holds t3 p1 S) = (0 : Int32) then
  some (0, S)
  else
  if (s_X2_holds t3 p2 S) = (0 : Int32) then
  some (0, S)
  else
  bd1 (gR S 1101 a) fun t8 =>
  bd1 (s_X0_add F t8 t3 p3 p0 p1 p2 S) fun S9 =>
  some (1, S9)
set_option maxRecDepth 100000 in
set_option maxHeartbeats 4000000 in
theorem c_X11_add {l : Launch} {V : EV} {G : GS} {S : HS} {F : Nat} {a : Nat} {p0 : Int32} {p1 : Int32} {p2 : Int32} {p3 : Int32} {r : Int32} {S' : HS} (hN : G.1.Nodup) (hW : WT G S) (h_a : a ∈ G.1) (k_a : G.2.1 a = 11) (hf : s_X11_add G.2.2 F a p0 p1 p2 p3 S = some (r, S')) : MetZ l yX11_add cX11_add 6 5 172 V G S [.ref a, .int p0, .int p1, .int p2, .int p3] r S' := by
  intro sz
  refine x_in RX11 rfl (by decide +kernel) hN (Nat.le_of_ble_eq_true rfl) (fun p e s m args below meth c ls hsz hargs hnm C hP hS hl => ?_)
  subst hsz
  have hx := C.1
  have hb := C.2.1
  have hl : lv_has ls 6 [(0, .ref a), (1, .int p0), (2, .int p1), (3, .int p2), (4, .int p3)] := hl
  unfold s_X11_add at hf
  refine lv_aload_n hx hb dX11_add_0 rfl (lv_at hl 0 rfl) ?_
  refine lv_iload_n hx hb dX11_add_1 rfl (lv_at hl 1 rfl) ?_
  obtain ⟨r1, er1, hf⟩ := bd1_e hf
  refine x_aft_r (x_runV (As := [.int p0]) (rest := []) C hP hS (c_X11_formHolding (l := l) C.2.2.2.2.2.2.2.2.2.1 hW h_a k_a er1 s.heap.size) h_a k_a (by decide) rfl rfl km_X11_formHolding ki_X11_formHolding qm_X11_235 ⟨(Nat.le_of_ble_eq_true rfl), (Nat.le_of_ble_eq_true rfl)⟩ rfl hl.1 rfl (Nat.le_of_ble_eq_true rfl) ⟨Nat.zero_le _, Nat.zero_le _⟩ dX11_add_2) hS (fun H locs hP hS hW q2 => ?_)
  cases r1 with
  | none =>
    have hf := mq_n rfl hf
    show W _ _ _ _ _ _ _ _ _ _ _ _ _ _ _ (F0 m 5 ls (.null :: []))
    refine lv_astoreN (lv' := [(5, .null), (0, .ref a), (1, .int p0), (2, .int p1), (3, .int p2), (4, .int p3)]) hx hb dX11_add_5 hl (by decide) rfl (fun ls hl => ?_)
    refine lv_aloadN hx hb dX11_add_7 (lv_at hl 0 rfl) ?_
    refine lv_ifnullN (tgt := 30) hx hb dX11_add_9 (by decide) ?_
    refine lv_iconst (v := 0) hx hb dX11_add_30 rfl ?_
    cases hf
    exact x_retZ C hP hS hW isZ_0 dX11_add_31
  | some t3 =>
    have hf := mq_s rfl hf
    obtain ⟨h_t3, k_t3⟩ := q2 _ rfl
    show W _ _ _ _ _ _ _ _ _ _ _ _ _ _ _ (F0 m 5 ls (.ref t3 :: []))
    refine lv_astore (lv' := [(5, .ref t3), (0, .ref a), (1, .int p0), (2, .int p1), (3, .int p2), (4, .int p3)]) hx hb dX11_add_5 hl (by decide) rfl (fun ls hl => ?_)
    refine lv_aload hx hb dX11_add_7 (lv_at hl 0 rfl) ?_
    refine lv_ifnull hx hb dX11_add_9 ?_
    refine lv_aload hx hb dX11_add_12 (lv_at hl 0 rfl) ?_
    refine lv_iload_n hx hb dX11_add_14 rfl (lv_at hl 3 rfl) ?_
    refine x_aft_z (x_runV (As := [.int p1]) (rest := []) C hP hS (c_X2_holds (l := l) C.2.2.2.2.2.2.2.2.2.1 hW h_t3 k_t3 rfl H.size) h_t3 k_t3 (by decide) rfl rfl km_X2_holds ki_X2_holds qm_X11_174 ⟨(Nat.le_of_ble_eq_true rfl), (Nat.le_of_ble_eq_true rfl)⟩ rfl hl.1 rfl (Nat.le_of_ble_eq_true rfl) ⟨Nat.zero_le _, Nat.zero_le _⟩ dX11_add_15) hS (fun H locs hP hS hW z4 => ?_)
    refine lv_if_eq (tgt := 30) hx hb dX11_add_18 (by decide) (fun c5 => ?_) (fun c5 => ?_)
    · have hf := if_t c5 hf
      refine lv_iconst (v := 0) hx hb dX11_add_30 rfl ?_
      cases hf
      exact x_retZ C hP hS hW isZ_0 dX11_add_31
    · have hf := if_f c5 hf
      refine lv_aload hx hb dX11_add_21 (lv_at hl 0 rfl) ?_
      refine lv_iload_n hx hb dX11_add_23 rfl (lv_at hl 4 rfl) ?_
      refine x_aft_z (x_runV (As := [.int p2]) (rest := []) C hP hS (c_X2_holds (l := l) C.2.2.2.2.2.2.2.2.2.1 hW h_t3 k_t3 rfl H.size) h_t3 k_t3 (by decide) rfl rfl km_X2_holds ki_X2_holds qm_X11_174 ⟨(Nat.le_of_ble_eq_true rfl), (Nat.le_of_ble_eq_true rfl)⟩ rfl hl.1 rfl (Nat.le_of_ble_eq_true rfl) ⟨Nat.zero_le _, Nat.zero_le _⟩ dX11_add_24) hS (fun H locs hP hS hW z6 => ?_)
      refine lv_if_ne (tgt := 32) hx hb dX11_add_27 (by decide) (fun c7 => ?_) (fun c7 => ?_)
      · have hf := if_f c7 hf
        refine lv_aload_n hx hb dX11_add_32 rfl (lv_at hl 1 rfl) ?_
        refine gf_X11_19 C hP h_a k_a dX11_add_33 ?_
        obtain ⟨t8, et8, hf⟩ := bd1_e hf
        obtain ⟨h_t8, k_t8⟩ := wt_r hW h_a k_a (by decide) et8
        have k_t8 : G.2.1 t8 = 0 := k_t8
        rw [et8]
        refine lv_aload hx hb dX11_add_36 (lv_at hl 0 rfl) ?_
        refine lv_iload hx hb dX11_add_38 (lv_at hl 5 rfl) ?_
        refine lv_iload_n hx hb dX11_add_40 rfl (lv_at hl 2 rfl) ?_
        refine lv_iload_n hx hb dX11_add_41 rfl (lv_at hl 3 rfl) ?_
        refine lv_iload_n hx hb dX11_add_42 rfl (lv_at hl 4 rfl) ?_
        obtain ⟨S9, eS9, hf⟩ := bd1_e hf
        refine x_aft_v (x_runV (As := [.ref t3, .int p3, .int p0, .int p1, .int p2]) (rest := []) C hP hS (c_X0_add (l := l) C.2.2.2.2.2.2.2.2.2.1 hW h_t8 k_t8 h_t3 k_t3 eS9 H.size) h_t8 k_t8 (by decide) rfl rfl km_X0_add ki_X0_add qm_X11_305 ⟨(Nat.le_of_ble_eq_true rfl), (Nat.le_of_ble_eq_true rfl)⟩ rfl hl.1 rfl (Nat.le_of_ble_eq_true rfl) ⟨Nat.zero_le _, Nat.zero_le _⟩ dX11_add_43) hS (fun H locs hP hS hW => ?_)
        refine lv_iconst (v := 1) hx hb dX11_add_46 rfl ?_
        cases hf
        exact x_retZ C hP hS hW isZ_1 dX11_add_47
      · have hf := if_t c7 hf
        refine lv_iconst (v := 0) hx hb dX11_add_30 rfl ?_
        cases hf
        exact x_retZ C hP hS hW isZ_0 dX11_add_31
def s_X11_isSmallHolding (N : Nat → Nat) (a : Nat) (p0 : Int32) (p1 : Int32) (S : HS) : Option Int32 :=
  bd1 (s_X11_formHolding N a p0 S) fun r1 =>
  mq r1
  (some 0)
  fun t3 =>
  if (s_X2_holds t3 p1 S) = (0 : Int32) then
  some 0
  else
  if (s_X2_isSmall t3 S) = (0 : Int32) then
  some 0
  else
  some 1
set_option maxRecDepth 100000 in
set_option maxHeartbeats 4000000 in
theorem c_X11_isSmallHolding {l : Launch} {V : EV} {G : GS} {S : HS} {a : Nat} {p0 : Int32} {p1 : Int32} {r : Int32} (hN : G.1.Nodup) (hW : WT G S) (h_a : a ∈ G.1) (k_a : G.2.1 a = 11) (hf : s_X11_isSmallHolding G.2.2 a p0 p1 S = some r) : MetZ l yX11_isSmallHolding cX11_isSmallHolding 4 3 87 V G S [.ref a, .int p0, .int p1] r S := by
  intro sz
  refine x_in RX11 rfl (by decide +kernel) hN (Nat.le_of_ble_eq_true rfl) (fun p e s m args below meth c ls hsz hargs hnm C hP hS hl => ?_)
  subst hsz
  have hx := C.1
  have hb := C.2.1
  have hl : lv_has ls 4 [(0, .ref a), (1, .int p0), (2, .int p1)] := hl
  unfold s_X11_isSmallHolding at hf
  refine lv_aload_n hx hb dX11_isSmallHolding_0 rfl (lv_at hl 0 rfl) ?_
  refine lv_iload_n hx hb dX11_isSmallHolding_1 rfl (lv_at hl 1 rfl) ?_
  obtain ⟨r1, er1, hf⟩ := bd1_e hf
  refine x_aft_r (x_runV (As := [.int p0]) (rest := []) C hP hS (c_X11_formHolding (l := l) C.2.2.2.2.2.2.2.2.2.1 hW h_a k_a er1 s.heap.size) h_a k_a (by decide) rfl rfl km_X11_formHolding ki_X11_formHolding qm_X11_235 ⟨(Nat.le_of_ble_eq_true rfl), (Nat.le_of_ble_eq_true rfl)⟩ rfl hl.1 rfl (Nat.le_of_ble_eq_true rfl) ⟨Nat.zero_le _, Nat.zero_le _⟩ dX11_isSmallHolding_2) hS (fun H locs hP hS hW q2 => ?_)
  cases r1 with
  | none =>
    have hf := mq_n rfl hf
    show W _ _ _ _ _ _ _ _ _ _ _ _ _ _ _ (F0 m 5 ls (.null :: []))
    refine lv_astore_nN (lv' := [(3, .null), (0, .ref a), (1, .int p0), (2, .int p1)]) hx hb dX11_isSmallHolding_5 rfl hl (by decide) rfl (fun ls hl => ?_)
    refine lv_aload_nN hx hb dX11_isSmallHolding_6 rfl (lv_at hl 0 rfl) ?_
    refine lv_ifnullN (tgt := 29) hx hb dX11_isSmallHolding_7 (by decide) ?_
    refine lv_iconst (v := 0) hx hb dX11_isSmallHolding_29 rfl ?_
    cases hf
    exact x_retZ C hP hS hW isZ_0 dX11_isSmallHolding_30
  | some t3 =>
    have hf := mq_s rfl hf
    obtain ⟨h_t3, k_t3⟩ := q2 _ rfl
    show W _ _ _ _ _ _ _ _ _ _ _ _ _ _ _ (F0 m 5 ls (.ref t3 :: []))
    refine lv_astore_n (lv' := [(3, .ref t3), (0, .ref a), (1, .int p0), (2, .int p1)]) hx hb dX11_isSmallHolding_5 rfl hl (by decide) rfl (fun ls hl => ?_)
    refine lv_aload_n hx hb dX11_isSmallHolding_6 rfl (lv_at hl 0 rfl) ?_
    refine lv_ifnull hx hb dX11_isSmallHolding_7 ?_
    refine lv_aload_n hx hb dX11_isSmallHolding_10 rfl (lv_at hl 0 rfl) ?_
    refine lv_iload_n hx hb dX11_isSmallHolding_11 rfl (lv_at hl 3 rfl) ?_
    refine x_aft_z (x_runV (As := [.int p1]) (rest := []) C hP hS (c_X2_holds (l := l) C.2.2.2.2.2.2.2.2.2.1 hW h_t3 k_t3 rfl H.size) h_t3 k_t3 (by decide) rfl rfl km_X2_holds ki_X2_holds qm_X11_174 ⟨(Nat.le_of_ble_eq_true rfl), (Nat.le_of_ble_eq_true rfl)⟩ rfl hl.1 rfl (Nat.le_of_ble_eq_true rfl) ⟨Nat.zero_le _, Nat.zero_le _⟩ dX11_isSmallHolding_12) hS (fun H locs hP hS hW z4 => ?_)
    refine lv_if_eq (tgt := 29) hx hb dX11_isSmallHolding_15 (by decide) (fun c5 => ?_) (fun c5 => ?_)
    · have hf := if_t c5 hf
      refine lv_iconst (v := 0) hx hb dX11_isSmallHolding_29 rfl ?_
      cases hf
      exact x_retZ C hP hS hW isZ_0 dX11_isSmallHolding_30
    · have hf := if_f c5 hf
      refine lv_aload_n hx hb dX11_isSmallHolding_18 rfl (lv_at hl 0 rfl) ?_
      refine x_aft_z (x_runV (As := []) (rest := []) C hP hS (c_X2_isSmall (l := l) C.2.2.2.2.2.2.2.2.2.1 hW h_t3 k_t3 rfl H.size) h_t3 k_t3 (by decide) rfl rfl km_X2_isSmall ki_X2_isSmall qm_X11_369 ⟨(Nat.le_of_ble_eq_true rfl), (Nat.le_of_ble_eq_true rfl)⟩ rfl hl.1 rfl (Nat.le_of_ble_eq_true rfl) ⟨Nat.zero_le _, Nat.zero_le _⟩ dX11_isSmallHolding_19) hS (fun H locs hP hS hW z6 => ?_)
      refine lv_if_eq (tgt := 29) hx hb dX11_isSmallHolding_22 (by decide) (fun c7 => ?_) (fun c7 => ?_)
      · have hf := if_t c7 hf
        refine lv_iconst (v := 0) hx hb dX11_isSmallHolding_29 rfl ?_
        cases hf
        exact x_retZ C hP hS hW isZ_0 dX11_isSmallHolding_30
      · have hf := if_f c7 hf
        refine lv_iconst (v := 1) hx hb dX11_isSmallHolding_25 rfl ?_
        refine lv_goto (tgt := 30) hx hb dX11_isSmallHolding_26 (by decide) ?_
        cases hf
        exact x_retZ C hP hS hW isZ_1 dX11_isSmallHolding_30
def s_X11_lastSumHas (a : Nat) (p0 : Int32) (p1 : Int32) (p2 : Int32) (S : HS) : Option Int32 :=
  if p0 = 0 then
  bd1 (gR S 1101 a) fun t2 =>
  if ((gI S 2 t2) &&& 8) = (0 : Int32) then
  some 1
  else
  some 0
  else
  if p0 = 1 then
  bd1 (gR S 1101 a) fun t5 =>
  if (gI S 1 t5) = p1 then
  some 1
  else
  some 0
  else
  if p0 = 2 then
  bd1 (gR S 1101 a) fun t8 =>
  if ((gI S 2 t8) &&& p2) = p2 then
  some 1
  else
  some 0
  else
  bd1 (gR S 1101 a) fun t10 =>
  some (s_X0_isHalf t10 S)
set_option maxRecDepth 100000 in
set_option maxHeartbeats 4000000 in
theorem c_X11_lastSumHas {l : Launch} {V : EV} {G : GS} {S : HS} {a : Nat} {p0 : Int32} {p1 : Int32} {p2 : Int32} {r : Int32} (hN : G.1.Nodup) (hW : WT G S) (h_a : a ∈ G.1) (k_a : G.2.1 a = 11) (hf : s_X11_lastSumHas a p0 p1 p2 S = some r) : MetZ l yX11_lastSumHas cX11_lastSumHas 4 1 28 V G S [.ref a, .int p0, .int p1, .int p2] r S := by
  intro sz
  refine x_in RX11 rfl (by decide +kernel) hN (Nat.le_of_ble_eq_true rfl) (fun p e s m args below meth c ls hsz hargs hnm C hP hS hl => ?_)
  subst hsz
  have hx := C.1
  have hb := C.2.1
  have hl : lv_has ls 4 [(0, .ref a), (1, .int p0), (2, .int p1), (3, .int p2)] := hl
  unfold s_X11_lastSumHas at hf
  refine lv_iload_n hx hb dX11_lastSumHas_0 rfl (lv_at hl 1 rfl) ?_
  by_cases c1 : p0 = 0
  · have hf := if_t c1 hf
    refine lv_tableIn (tgt := 28) (off := 27) hx hb dX11_lastSumHas_1 (by rw [c1]; decide) (by rw [c1]; decide) (by rw [c1]; rfl) (by decide) ?_
    refine lv_aload_n hx hb dX11_lastSumHas_28 rfl (lv_at hl 0 rfl) ?_
    refine gf_X11_19 C hP h_a k_a dX11_lastSumHas_29 ?_
    obtain ⟨t2, et2, hf⟩ := bd1_e hf
    obtain ⟨h_t2, k_t2⟩ := wt_r hW h_a k_a (by decide) et2
    have k_t2 : G.2.1 t2 = 0 := k_t2
    rw [et2]
    refine gf_X11_304 C hP h_t2 k_t2 dX11_lastSumHas_32 ?_
    refine lv_bipush (v := 8) hx hb dX11_lastSumHas_35 kc_bipush_8 ?_
    refine lv_iand hx hb dX11_lastSumHas_37 ?_
    refine lv_if_ne (tgt := 45) hx hb dX11_lastSumHas_38 (by decide) (fun c3 => ?_) (fun c3 => ?_)
    · have hf := if_f c3 hf
      refine lv_iconst (v := 0) hx hb dX11_lastSumHas_45 rfl ?_
      cases hf
      exact x_retZ C hP hS hW isZ_0 dX11_lastSumHas_46
    · have hf := if_t c3 hf
      refine lv_iconst (v := 1) hx hb dX11_lastSumHas_41 rfl ?_
      refine lv_goto (tgt := 46) hx hb dX11_lastSumHas_42 (by decide) ?_
      cases hf
      exact x_retZ C hP hS hW isZ_1 dX11_lastSumHas_46
  have hf := if_f c1 hf
  by_cases c4 : p0 = 1
  · have hf := if_t c4 hf
    refine lv_tableIn (tgt := 47) (off := 46) hx hb dX11_lastSumHas_1 (by rw [c4]; decide) (by rw [c4]; decide) (by rw [c4]; rfl) (by decide) ?_
    refine lv_aload_n hx hb dX11_lastSumHas_47 rfl (lv_at hl 0 rfl) ?_
    refine gf_X11_19 C hP h_a k_a dX11_lastSumHas_48 ?_
    obtain ⟨t5, et5, hf⟩ := bd1_e hf
    obtain ⟨h_t5, k_t5⟩ := wt_r hW h_a k_a (by decide) et5
    have k_t5 : G.2.1 t5 = 0 := k_t5
    rw [et5]
    refine gf_X11_196 C hP h_t5 k_t5 dX11_lastSumHas_51 ?_
    refine lv_iload_n hx hb dX11_lastSumHas_54 rfl (lv_at hl 2 rfl) ?_
    refine lv_icmp_ne (tgt := 62) hx hb dX11_lastSumHas_55 (by decide) (fun c6 => ?_) (fun c6 => ?_)
    · have hf := if_f c6 hf
      refine lv_iconst (v := 0) hx hb dX11_lastSumHas_62 rfl ?_
      cases hf
      exact x_retZ C hP hS hW isZ_0 dX11_lastSumHas_63
    · have hf := if_t c6 hf
      refine lv_iconst (v := 1) hx hb dX11_lastSumHas_58 rfl ?_
      refine lv_goto (tgt := 63) hx hb dX11_lastSumHas_59 (by decide) ?_
      cases hf
      exact x_retZ C hP hS hW isZ_1 dX11_lastSumHas_63
  have hf := if_f c4 hf
  by_cases c7 : p0 = 2
  · have hf := if_t c7 hf
    refine lv_tableIn (tgt := 64) (off := 63) hx hb dX11_lastSumHas_1 (by rw [c7]; decide) (by rw [c7]; decide) (by rw [c7]; rfl) (by decide) ?_
    refine lv_aload_n hx hb dX11_lastSumHas_64 rfl (lv_at hl 0 rfl) ?_
    refine gf_X11_19 C hP h_a k_a dX11_lastSumHas_65 ?_
    obtain ⟨t8, et8, hf⟩ := bd1_e hf
    obtain ⟨h_t8, k_t8⟩ := wt_r hW h_a k_a (by decide) et8
    have k_t8 : G.2.1 t8 = 0 := k_t8
    rw [et8]
    refine gf_X11_304 C hP h_t8 k_t8 dX11_lastSumHas_68 ?_
    refine lv_iload_n hx hb dX11_lastSumHas_71 rfl (lv_at hl 3 rfl) ?_
    refine lv_iand hx hb dX11_lastSumHas_72 ?_
    refine lv_iload_n hx hb dX11_lastSumHas_73 rfl (lv_at hl 3 rfl) ?_
    refine lv_icmp_ne (tgt := 81) hx hb dX11_lastSumHas_74 (by decide) (fun c9 => ?_) (fun c9 => ?_)
    · have hf := if_f c9 hf
      refine lv_iconst (v := 0) hx hb dX11_lastSumHas_81 rfl ?_
      cases hf
      exact x_retZ C hP hS hW isZ_0 dX11_lastSumHas_82
    · have hf := if_t c9 hf
      refine lv_iconst (v := 1) hx hb dX11_lastSumHas_77 rfl ?_
      refine lv_goto (tgt := 82) hx hb dX11_lastSumHas_78 (by decide) ?_
      cases hf
      exact x_retZ C hP hS hW isZ_1 dX11_lastSumHas_82
  have hf := if_f c7 hf
  refine lv_tableOut (tgt := 83) hx hb dX11_lastSumHas_1 (sw_out (fun k h1 h2 e9 => by
    rcases (show k = 0 ∨ k = 1 ∨ k = 2 by omega) with rfl | rfl | rfl
    · exact c1 e9
    · exact c4 e9
    · exact c7 e9
    )) (by decide) ?_
  refine lv_aload_n hx hb dX11_lastSumHas_83 rfl (lv_at hl 0 rfl) ?_
  refine gf_X11_19 C hP h_a k_a dX11_lastSumHas_84 ?_
  obtain ⟨t10, et10, hf⟩ := bd1_e hf
  obtain ⟨h_t10, k_t10⟩ := wt_r hW h_a k_a (by decide) et10
  have k_t10 : G.2.1 t10 = 0 := k_t10
  rw [et10]
  refine x_aft_z (x_runV (As := []) (rest := []) C hP hS (c_X0_isHalf (l := l) C.2.2.2.2.2.2.2.2.2.1 hW h_t10 k_t10 rfl s.heap.size) h_t10 k_t10 (by decide) rfl rfl km_X0_isHalf ki_X0_isHalf qm_X11_312 ⟨(Nat.le_of_ble_eq_true rfl), (Nat.le_of_ble_eq_true rfl)⟩ rfl hl.1 rfl (Nat.le_of_ble_eq_true rfl) ⟨Nat.zero_le _, Nat.zero_le _⟩ dX11_lastSumHas_87) hS (fun H locs hP hS hW z11 => ?_)
  cases hf
  exact x_retZ C hP hS hW z11 dX11_lastSumHas_90
def s_X11_addendsWith_J73 (N : Nat → Nat) (F : Nat) (k28 : Nat → Int32 → Int32 → Int32 → Int32 → Nat → Int32 → Int32 → HS → Option (Int32 × HS)) (v0 : Nat) (v1 : Int32) (v2 : Int32) (v3 : Int32) (v4 : Int32) (v5 : Nat) (v6 : Int32) (v7 : Int32) (S : HS) : Option (Int32 × HS) :=
  bnd (v7 + Int32.ofInt 1 : Int32) fun x14 =>
  k28 v0 v1 v2 v3 v4 v5 v6 x14 S
def s_X11_addendsWith_L28 (N : Nat → Nat) (F : Nat) : Nat → Nat → Int32 → Int32 → Int32 → Int32 → Nat → Int32 → Int32 → HS → Option (Int32 × HS)
  | 0, _, _, _, _, _, _, _, _, _ => none
  | n + 1, v0, v1, v2, v3, v4, v5, v6, v7, S => if (s_X2_many v5 S) ≤ v7 then
  some (v6, S)
  else
  bd1 (gR S 1101 v0) fun t8 =>
  bd1 (gR S 1104 v0) fun t9 =>
  bd1 (s_X0_add F t8 v5 (gI S 702 t9) v1 v2 v7 S) fun S10 =>
  bd1 (s_X11_lastSumHas v0 v3 v7 v4 S10) fun r11 =>
  if r11 = (0 : Int32) then
  s_X11_addendsWith_J73 N F (s_X11_addendsWith_L28 N F n) v0 v1 v2 v3 v4 v5 v6 v7 S10
  else
  bnd (v6 + Int32.ofInt 1 : Int32) fun x15 =>
  s_X11_addendsWith_J73 N F (s_X11_addendsWith_L28 N F n) v0 v1 v2 v3 v4 v5 x15 v7 S10
def s_X11_addendsWith (N : Nat → Nat) (F : Nat) (a : Nat) (p0 : Int32) (p1 : Int32) (p2 : Int32) (p3 : Int32) (S : HS) : Option (Int32 × HS) :=
  bd1 (s_X11_formInUse N a S) fun r1 =>
  mq r1
  (some ((-1), S))
  fun t3 =>
  bd1 (s_X11_isSmallHolding N a p0 p1 S) fun r4 =>
  if r4 = (0 : Int32) then
  some ((-1), S)
  else
  s_X11_addendsWith_L28 N F F a p0 p1 p2 p3 t3 0 0 S
set_option maxRecDepth 100000 in
set_option maxHeartbeats 4000000 in
theorem b_X11_addendsWith_73 {p : Program} {l : Launch} {e : Env} {s : State} {m : MethodId} {args : Array Value} {below : List Frame} {meth : Method} {c : Code} {V : EV} {G : GS} {r : Int32} {S' : HS} {F : Nat} (C : CX p s m args meth c RX11 cX11_addendsWith 8 (some .int) V G) {k28 : Nat → Int32 → Int32 → Int32 → Int32 → Nat → Int32 → Int32 → HS → Option (Int32 × HS)} (hk28 : ∀ (v0 : Nat) (v1 : Int32) (v2 : Int32) (v3 : Int32) (v4 : Int32) (v5 : Nat) (v6 : Int32) (v7 : Int32) (h_v0 : v0 ∈ G.1) (k_v0 : G.2.1 v0 = 11) (h_v5 : v5 ∈ G.1) (k_v5 : G.2.1 v5 = 2) (S : HS) (H : Heap) (locs : List Loc) (ls : Array Slot), k28 v0 v1 v2 v3 v4 v5 v6 v7 S = some (r, S') → HP V G S H → va_S (AG G s.heap.size) s.heap H locs → WT G S → lv_has ls 8 [(0, .ref v0), (1, .int v1), (2, .int v2), (3, .int v3), (4, .int v4), (5, .ref v5), (6, .int v6), (7, .int v7)] → W p l e (RM 5 172) s m args below meth c H locs 0 0 (MQ below (QI V G S' r s.heap.size) args s 0 0 (AG G s.heap.size)) (F0 m 28 ls [])) : ∀ (v0 : Nat) (v1 : Int32) (v2 : Int32) (v3 : Int32) (v4 : Int32) (v5 : Nat) (v6 : Int32) (v7 : Int32) (h_v0 : v0 ∈ G.1) (k_v0 : G.2.1 v0 = 11) (h_v5 : v5 ∈ G.1) (k_v5 : G.2.1 v5 = 2) (S : HS) (H : Heap) (locs : List Loc) (ls : Array Slot), s_X11_addendsWith_J73 G.2.2 F k28 v0 v1 v2 v3 v4 v5 v6 v7 S = some (r, S') → HP V G S H → va_S (AG G s.heap.size) s.heap H locs → WT G S → lv_has ls 8 [(0, .ref v0), (1, .int v1), (2, .int v2), (3, .int v3), (4, .int v4), (5, .ref v5), (6, .int v6), (7, .int v7)] → W p l e (RM 5 172) s m args below meth c H locs 0 0 (MQ below (QI V G S' r s.heap.size) args s 0 0 (AG G s.heap.size)) (F0 m 73 ls []) := by
  intro v0 v1 v2 v3 v4 v5 v6 v7 h_v0 k_v0 h_v5 k_v5 S H locs ls hf hP hS hW hl
  have hx := C.1
  have hb := C.2.1
  unfold s_X11_addendsWith_J73 at hf
  obtain ⟨x14, ex14, hf⟩ := bnd_e hf
  refine lv_iinc (v := x14) (lv' := [(7, .int x14), (0, .ref v0), (1, .int v1), (2, .int v2), (3, .int v3), (4, .int v4), (5, .ref v5), (6, .int v6)]) hx hb dX11_addendsWith_73 hl (k := 7) rfl ex14.symm (by decide) rfl (fun ls hl => ?_)
  refine lv_goto (tgt := 28) hx hb dX11_addendsWith_76 (by decide) ?_
  exact hk28 v0 v1 v2 v3 v4 v5 v6 x14 h_v0 k_v0 h_v5 k_v5 S H locs _ hf hP hS hW (lv_sub hl [1, 2, 3, 4, 5, 6, 7, 0] rfl)
set_option maxRecDepth 100000 in
set_option maxHeartbeats 4000000 in
theorem b_X11_addendsWith_28 {p : Program} {l : Launch} {e : Env} {s : State} {m : MethodId} {args : Array Value} {below : List Frame} {meth : Method} {c : Code} {V : EV} {G : GS} {r : Int32} {S' : HS} {F : Nat} (C : CX p s m args meth c RX11 cX11_addendsWith 8 (some .int) V G) : ∀ n : Nat, ∀ (v0 : Nat) (v1 : Int32) (v2 : Int32) (v3 : Int32) (v4 : Int32) (v5 : Nat) (v6 : Int32) (v7 : Int32) (h_v0 : v0 ∈ G.1) (k_v0 : G.2.1 v0 = 11) (h_v5 : v5 ∈ G.1) (k_v5 : G.2.1 v5 = 2) (S : HS) (H : Heap) (locs : List Loc) (ls : Array Slot), s_X11_addendsWith_L28 G.2.2 F n v0 v1 v2 v3 v4 v5 v6 v7 S = some (r, S') → HP V G S H → va_S (AG G s.heap.size) s.heap H locs → WT G S → lv_has ls 8 [(0, .ref v0), (1, .int v1), (2, .int v2), (3, .int v3), (4, .int v4), (5, .ref v5), (6, .int v6), (7, .int v7)] → W p l e (RM 5 172) s m args below meth c H locs 0 0 (MQ below (QI V G S' r s.heap.size) args s 0 0 (AG G s.heap.size)) (F0 m 28 ls []) := by
  intro n
  induction n with
  | zero =>
    intro v0 v1 v2 v3 v4 v5 v6 v7 h_v0 k_v0 h_v5 k_v5 S H locs ls hf
    rw [s_X11_addendsWith_L28] at hf
    cases hf
  | succ n ih =>
    intro v0 v1 v2 v3 v4 v5 v6 v7 h_v0 k_v0 h_v5 k_v5 S H locs ls hf hP hS hW hl
    have hx := C.1
    have hb := C.2.1
    rw [s_X11_addendsWith_L28] at hf
    refine lv_iload hx hb dX11_addendsWith_28 (lv_at hl 7 rfl) ?_
    refine lv_aload hx hb dX11_addendsWith_30 (lv_at hl 5 rfl) ?_
    refine x_aft_i (x_runV (As := []) (rest := [.int v7]) C hP hS (c_X2_many (l := l) C.2.2.2.2.2.2.2.2.2.1 hW h_v5 k_v5 rfl H.size) h_v5 k_v5 (by decide) rfl rfl km_X2_many ki_X2_many qm_X11_343 ⟨(Nat.le_of_ble_eq_true rfl), (Nat.le_of_ble_eq_true rfl)⟩ rfl hl.1 rfl (Nat.le_of_ble_eq_true rfl) ⟨Nat.zero_le _, Nat.zero_le _⟩ dX11_addendsWith_32) hS (fun H locs hP hS hW => ?_)
    refine lv_icmp_ge (tgt := 79) hx hb dX11_addendsWith_35 (by decide) (fun c7 => ?_) (fun c7 => ?_)
    · have hf := if_t c7 hf
      refine lv_iload hx hb dX11_addendsWith_79 (lv_at hl 6 rfl) ?_
      cases hf
      exact x_reti C hP hS hW dX11_addendsWith_81
    · have hf := if_f c7 hf
      refine lv_aload_n hx hb dX11_addendsWith_38 rfl (lv_at hl 0 rfl) ?_
      refine gf_X11_19 C hP h_v0 k_v0 dX11_addendsWith_39 ?_
      obtain ⟨t8, et8, hf⟩ := bd1_e hf
      obtain ⟨h_t8, k_t8⟩ := wt_r hW h_v0 k_v0 (by decide) et8
      have k_t8 : G.2.1 t8 = 0 := k_t8
      rw [et8]
      refine lv_aload hx hb dX11_addendsWith_42 (lv_at hl 5 rfl) ?_
      refine lv_aload_n hx hb dX11_addendsWith_44 rfl (lv_at hl 0 rfl) ?_
      refine gf_X11_40 C hP h_v0 k_v0 dX11_addendsWith_45 ?_
      obtain ⟨t9, et9, hf⟩ := bd1_e hf
      obtain ⟨h_t9, k_t9⟩ := wt_r hW h_v0 k_v0 (by decide) et9
      have k_t9 : G.2.1 t9 = 7 := k_t9
      rw [et9]
      refine gf_X11_193 C hP h_t9 k_t9 dX11_addendsWith_48 ?_
      refine lv_iload_n hx hb dX11_addendsWith_51 rfl (lv_at hl 1 rfl) ?_
      refine lv_iload_n hx hb dX11_addendsWith_52 rfl (lv_at hl 2 rfl) ?_
      refine lv_iload hx hb dX11_addendsWith_53 (lv_at hl 7 rfl) ?_
      obtain ⟨S10, eS10, hf⟩ := bd1_e hf
      refine x_aft_v (x_runV (As := [.ref v5, .int (gI S 702 t9), .int v1, .int v2, .int v7]) (rest := []) C hP hS (c_X0_add (l := l) C.2.2.2.2.2.2.2.2.2.1 hW h_t8 k_t8 h_v5 k_v5 eS10 H.size) h_t8 k_t8 (by decide) rfl rfl km_X0_add ki_X0_add qm_X11_305 ⟨(Nat.le_of_ble_eq_true rfl), (Nat.le_of_ble_eq_true rfl)⟩ rfl hl.1 rfl (Nat.le_of_ble_eq_true rfl) ⟨Nat.zero_le _, Nat.zero_le _⟩ dX11_addendsWith_55) hS (fun H locs hP hS hW => ?_)
      refine lv_aload_n hx hb dX11_addendsWith_58 rfl (lv_at hl 0 rfl) ?_
      refine lv_iload_n hx hb dX11_addendsWith_59 rfl (lv_at hl 3 rfl) ?_
      refine lv_iload hx hb dX11_addendsWith_60 (lv_at hl 7 rfl) ?_
      refine lv_iload hx hb dX11_addendsWith_62 (lv_at hl 4 rfl) ?_
      obtain ⟨r11, er11, hf⟩ := bd1_e hf
      refine x_aft_z (x_runV (As := [.int v3, .int v7, .int v4]) (rest := []) C hP hS (c_X11_lastSumHas (l := l) C.2.2.2.2.2.2.2.2.2.1 hW h_v0 k_v0 er11 H.size) h_v0 k_v0 (by decide) rfl rfl km_X11_lastSumHas ki_X11_lastSumHas qm_X11_346 ⟨(Nat.le_of_ble_eq_true rfl), (Nat.le_of_ble_eq_true rfl)⟩ rfl hl.1 rfl (Nat.le_of_ble_eq_true rfl) ⟨Nat.zero_le _, Nat.zero_le _⟩ dX11_addendsWith_64) hS (fun H locs hP hS hW z12 => ?_)
      refine lv_if_eq (tgt := 73) hx hb dX11_addendsWith_67 (by decide) (fun c13 => ?_) (fun c13 => ?_)
      · have hf := if_t c13 hf
        exact b_X11_addendsWith_73 C ih v0 v1 v2 v3 v4 v5 v6 v7 h_v0 k_v0 h_v5 k_v5 S10 H locs _ hf hP hS hW (lv_sub hl [0, 1, 2, 3, 4, 5, 6, 7] rfl)
      · have hf := if_f c13 hf
        obtain ⟨x15, ex15, hf⟩ := bnd_e hf
        refine lv_iinc (v := x15) (lv' := [(6, .int x15), (0, .ref v0), (1, .int v1), (2, .int v2), (3, .int v3), (4, .int v4), (5, .ref v5), (7, .int v7)]) hx hb dX11_addendsWith_70 hl (k := 6) rfl ex15.symm (by decide) rfl (fun ls hl => ?_)
        exact b_X11_addendsWith_73 C ih v0 v1 v2 v3 v4 v5 x15 v7 h_v0 k_v0 h_v5 k_v5 S10 H locs _ hf hP hS hW (lv_sub hl [1, 2, 3, 4, 5, 6, 0, 7] rfl)
set_option maxRecDepth 100000 in
set_option maxHeartbeats 4000000 in
theorem c_X11_addendsWith {l : Launch} {V : EV} {G : GS} {S : HS} {F : Nat} {a : Nat} {p0 : Int32} {p1 : Int32} {p2 : Int32} {p3 : Int32} {r : Int32} {S' : HS} (hN : G.1.Nodup) (hW : WT G S) (h_a : a ∈ G.1) (k_a : G.2.1 a = 11) (hf : s_X11_addendsWith G.2.2 F a p0 p1 p2 p3 S = some (r, S')) : MetI l yX11_addendsWith cX11_addendsWith 8 .int 5 172 V G S [.ref a, .int p0, .int p1, .int p2, .int p3] r S' := by
  intro sz
  refine x_in RX11 rfl (by decide +kernel) hN (Nat.le_of_ble_eq_true rfl) (fun p e s m args below meth c ls hsz hargs hnm C hP hS hl => ?_)
  subst hsz
  have hx := C.1
  have hb := C.2.1
  have hl : lv_has ls 8 [(0, .ref a), (1, .int p0), (2, .int p1), (3, .int p2), (4, .int p3)] := hl
  unfold s_X11_addendsWith at hf
  refine lv_aload_n hx hb dX11_addendsWith_0 rfl (lv_at hl 0 rfl) ?_
  obtain ⟨r1, er1, hf⟩ := bd1_e hf
  refine x_aft_r (x_runV (As := []) (rest := []) C hP hS (c_X11_formInUse (l := l) C.2.2.2.2.2.2.2.2.2.1 hW h_a k_a er1 s.heap.size) h_a k_a (by decide) rfl rfl km_X11_formInUse ki_X11_formInUse qm_X11_162 ⟨(Nat.le_of_ble_eq_true rfl), (Nat.le_of_ble_eq_true rfl)⟩ rfl hl.1 rfl (Nat.le_of_ble_eq_true rfl) ⟨Nat.zero_le _, Nat.zero_le _⟩ dX11_addendsWith_1) hS (fun H locs hP hS hW q2 => ?_)
  cases r1 with
  | none =>
    have hf := mq_n rfl hf
    show W _ _ _ _ _ _ _ _ _ _ _ _ _ _ _ (F0 m 4 ls (.null :: []))
    refine lv_astoreN (lv' := [(5, .null), (0, .ref a), (1, .int p0), (2, .int p1), (3, .int p2), (4, .int p3)]) hx hb dX11_addendsWith_4 hl (by decide) rfl (fun ls hl => ?_)
    refine lv_aloadN hx hb dX11_addendsWith_6 (lv_at hl 0 rfl) ?_
    refine lv_ifnullN (tgt := 20) hx hb dX11_addendsWith_8 (by decide) ?_
    refine lv_iconst (v := (-1)) hx hb dX11_addendsWith_20 rfl ?_
    cases hf
    exact x_reti C hP hS hW dX11_addendsWith_21
  | some t3 =>
    have hf := mq_s rfl hf
    obtain ⟨h_t3, k_t3⟩ := q2 _ rfl
    show W _ _ _ _ _ _ _ _ _ _ _ _ _ _ _ (F0 m 4 ls (.ref t3 :: []))
    refine lv_astore (lv' := [(5, .ref t3), (0, .ref a), (1, .int p0), (2, .int p1), (3, .int p2), (4, .int p3)]) hx hb dX11_addendsWith_4 hl (by decide) rfl (fun ls hl => ?_)
    refine lv_aload hx hb dX11_addendsWith_6 (lv_at hl 0 rfl) ?_
    refine lv_ifnull hx hb dX11_addendsWith_8 ?_
    refine lv_aload_n hx hb dX11_addendsWith_11 rfl (lv_at hl 1 rfl) ?_
    refine lv_iload_n hx hb dX11_addendsWith_12 rfl (lv_at hl 2 rfl) ?_
    refine lv_iload_n hx hb dX11_addendsWith_13 rfl (lv_at hl 3 rfl) ?_
    obtain ⟨r4, er4, hf⟩ := bd1_e hf
    refine x_aft_z (x_runV (As := [.int p0, .int p1]) (rest := []) C hP hS (c_X11_isSmallHolding (l := l) C.2.2.2.2.2.2.2.2.2.1 hW h_a k_a er4 H.size) h_a k_a (by decide) rfl rfl km_X11_isSmallHolding ki_X11_isSmallHolding qm_X11_339 ⟨(Nat.le_of_ble_eq_true rfl), (Nat.le_of_ble_eq_true rfl)⟩ rfl hl.1 rfl (Nat.le_of_ble_eq_true rfl) ⟨Nat.zero_le _, Nat.zero_le _⟩ dX11_addendsWith_14) hS (fun H locs hP hS hW z5 => ?_)
    refine lv_if_ne (tgt := 22) hx hb dX11_addendsWith_17 (by decide) (fun c6 => ?_) (fun c6 => ?_)
    · have hf := if_f c6 hf
      refine lv_iconst (v := 0) hx hb dX11_addendsWith_22 rfl ?_
      refine lv_istore (lv' := [(6, .int 0), (5, .ref t3), (0, .ref a), (1, .int p0), (2, .int p1), (3, .int p2), (4, .int p3)]) hx hb dX11_addendsWith_23 hl (by decide) rfl (fun ls hl => ?_)
      refine lv_iconst (v := 0) hx hb dX11_addendsWith_25 rfl ?_
      refine lv_istore (lv' := [(7, .int 0), (6, .int 0), (5, .ref t3), (0, .ref a), (1, .int p0), (2, .int p1), (3, .int p2), (4, .int p3)]) hx hb dX11_addendsWith_26 hl (by decide) rfl (fun ls hl => ?_)
      exact b_X11_addendsWith_28 C F a p0 p1 p2 p3 t3 0 0 h_a k_a h_t3 k_t3 S H locs _ hf hP hS hW (lv_sub hl [3, 4, 5, 6, 7, 2, 1, 0] rfl)
    · have hf := if_t c6 hf
      refine lv_iconst (v := (-1)) hx hb dX11_addendsWith_20 rfl ?_
      cases hf
      exact x_reti C hP hS hW dX11_addendsWith_21
def s_X11_apart (N : Nat → Nat) (a : Nat) (p0 : Int32) (p1 : Int32) (S : HS) : Option Int32 :=
  bd1 (s_X11_formHolding N a p0 S) fun r1 =>
  mq r1
  (some (-1))
  fun t3 =>
  if (s_X2_holds t3 p1 S) = (0 : Int32) then
  some (-1)
  else
  if (s_X2_isNan t3 p0 S) = (0 : Int32) then
  if (s_X2_isNan t3 p1 S) = (0 : Int32) then
  some (if (0 : Int32) ≤ ((s_X2_rank t3 p0 S) - (s_X2_rank t3 p1 S)) then (s_X2_rank t3 p0 S) - (s_X2_rank t3 p1 S) else 0 - ((s_X2_rank t3 p0 S) - (s_X2_rank t3 p1 S)))
  else
  some (-1)
  else
  some (-1)
set_option maxRecDepth 100000 in
set_option maxHeartbeats 4000000 in
theorem c_X11_apart {l : Launch} {V : EV} {G : GS} {S : HS} {a : Nat} {p0 : Int32} {p1 : Int32} {r : Int32} (hN : G.1.Nodup) (hW : WT G S) (h_a : a ∈ G.1) (k_a : G.2.1 a = 11) (hf : s_X11_apart G.2.2 a p0 p1 S = some r) : MetI l yX11_apart cX11_apart 4 .int 3 87 V G S [.ref a, .int p0, .int p1] r S := by
  intro sz
  refine x_in RX11 rfl (by decide +kernel) hN (Nat.le_of_ble_eq_true rfl) (fun p e s m args below meth c ls hsz hargs hnm C hP hS hl => ?_)
  subst hsz
  have hx := C.1
  have hb := C.2.1
  have hl : lv_has ls 4 [(0, .ref a), (1, .int p0), (2, .int p1)] := hl
  unfold s_X11_apart at hf
  refine lv_aload_n hx hb dX11_apart_0 rfl (lv_at hl 0 rfl) ?_
  refine lv_iload_n hx hb dX11_apart_1 rfl (lv_at hl 1 rfl) ?_
  obtain ⟨r1, er1, hf⟩ := bd1_e hf
  refine x_aft_r (x_runV (As := [.int p0]) (rest := []) C hP hS (c_X11_formHolding (l := l) C.2.2.2.2.2.2.2.2.2.1 hW h_a k_a er1 s.heap.size) h_a k_a (by decide) rfl rfl km_X11_formHolding ki_X11_formHolding qm_X11_235 ⟨(Nat.le_of_ble_eq_true rfl), (Nat.le_of_ble_eq_true rfl)⟩ rfl hl.1 rfl (Nat.le_of_ble_eq_true rfl) ⟨Nat.zero_le _, Nat.zero_le _⟩ dX11_apart_2) hS (fun H locs hP hS hW q2 => ?_)
  cases r1 with
  | none =>
    have hf := mq_n rfl hf
    show W _ _ _ _ _ _ _ _ _ _ _ _ _ _ _ (F0 m 5 ls (.null :: []))
    refine lv_astore_nN (lv' := [(3, .null), (0, .ref a), (1, .int p0), (2, .int p1)]) hx hb dX11_apart_5 rfl hl (by decide) rfl (fun ls hl => ?_)
    refine lv_aload_nN hx hb dX11_apart_6 rfl (lv_at hl 0 rfl) ?_
    refine lv_ifnullN (tgt := 34) hx hb dX11_apart_7 (by decide) ?_
    refine lv_iconst (v := (-1)) hx hb dX11_apart_34 rfl ?_
    cases hf
    exact x_reti C hP hS hW dX11_apart_35
  | some t3 =>
    have hf := mq_s rfl hf
    obtain ⟨h_t3, k_t3⟩ := q2 _ rfl
    show W _ _ _ _ _ _ _ _ _ _ _ _ _ _ _ (F0 m 5 ls (.ref t3 :: []))
    refine lv_astore_n (lv' := [(3, .ref t3), (0, .ref a), (1, .int p0), (2, .int p1)]) hx hb dX11_apart_5 rfl hl (by decide) rfl (fun ls hl => ?_)
    refine lv_aload_n hx hb dX11_apart_6 rfl (lv_at hl 0 rfl) ?_
    refine lv_ifnull hx hb dX11_apart_7 ?_
    refine lv_aload_n hx hb dX11_apart_10 rfl (lv_at hl 0 rfl) ?_
    refine lv_iload_n hx hb dX11_apart_11 rfl (lv_at hl 3 rfl) ?_
    refine x_aft_z (x_runV (As := [.int p1]) (rest := []) C hP hS (c_X2_holds (l := l) C.2.2.2.2.2.2.2.2.2.1 hW h_t3 k_t3 rfl H.size) h_t3 k_t3 (by decide) rfl rfl km_X2_holds ki_X2_holds qm_X11_174 ⟨(Nat.le_of_ble_eq_true rfl), (Nat.le_of_ble_eq_true rfl)⟩ rfl hl.1 rfl (Nat.le_of_ble_eq_true rfl) ⟨Nat.zero_le _, Nat.zero_le _⟩ dX11_apart_12) hS (fun H locs hP hS hW z4 => ?_)
    refine lv_if_eq (tgt := 34) hx hb dX11_apart_15 (by decide) (fun c5 => ?_) (fun c5 => ?_)
    · have hf := if_t c5 hf
      refine lv_iconst (v := (-1)) hx hb dX11_apart_34 rfl ?_
      cases hf
      exact x_reti C hP hS hW dX11_apart_35
    · have hf := if_f c5 hf
      refine lv_aload_n hx hb dX11_apart_18 rfl (lv_at hl 0 rfl) ?_
      refine lv_iload_n hx hb dX11_apart_19 rfl (lv_at hl 2 rfl) ?_
      refine x_aft_z (x_runV (As := [.int p0]) (rest := []) C hP hS (c_X2_isNan (l := l) C.2.2.2.2.2.2.2.2.2.1 hW h_t3 k_t3 rfl H.size) h_t3 k_t3 (by decide) rfl rfl km_X2_isNan ki_X2_isNan qm_X11_241 ⟨(Nat.le_of_ble_eq_true rfl), (Nat.le_of_ble_eq_true rfl)⟩ rfl hl.1 rfl (Nat.le_of_ble_eq_true rfl) ⟨Nat.zero_le _, Nat.zero_le _⟩ dX11_apart_20) hS (fun H locs hP hS hW z6 => ?_)
      refine lv_if_ne (tgt := 34) hx hb dX11_apart_23 (by decide) (fun c7 => ?_) (fun c7 => ?_)
      · have hf := if_f c7 hf
        refine lv_iconst (v := (-1)) hx hb dX11_apart_34 rfl ?_
        cases hf
        exact x_reti C hP hS hW dX11_apart_35
      · have hf := if_t c7 hf
        refine lv_aload_n hx hb dX11_apart_26 rfl (lv_at hl 0 rfl) ?_
        refine lv_iload_n hx hb dX11_apart_27 rfl (lv_at hl 3 rfl) ?_
        refine x_aft_z (x_runV (As := [.int p1]) (rest := []) C hP hS (c_X2_isNan (l := l) C.2.2.2.2.2.2.2.2.2.1 hW h_t3 k_t3 rfl H.size) h_t3 k_t3 (by decide) rfl rfl km_X2_isNan ki_X2_isNan qm_X11_241 ⟨(Nat.le_of_ble_eq_true rfl), (Nat.le_of_ble_eq_true rfl)⟩ rfl hl.1 rfl (Nat.le_of_ble_eq_true rfl) ⟨Nat.zero_le _, Nat.zero_le _⟩ dX11_apart_28) hS (fun H locs hP hS hW z8 => ?_)
        refine lv_if_eq (tgt := 36) hx hb dX11_apart_31 (by decide) (fun c9 => ?_) (fun c9 => ?_)
        · have hf := if_t c9 hf
          refine lv_aload_n hx hb dX11_apart_36 rfl (lv_at hl 0 rfl) ?_
          refine lv_iload_n hx hb dX11_apart_37 rfl (lv_at hl 2 rfl) ?_
          refine x_aft_i (x_runV (As := [.int p0]) (rest := []) C hP hS (c_X2_rank (l := l) C.2.2.2.2.2.2.2.2.2.1 hW h_t3 k_t3 rfl H.size) h_t3 k_t3 (by decide) rfl rfl km_X2_rank ki_X2_rank qm_X11_244 ⟨(Nat.le_of_ble_eq_true rfl), (Nat.le_of_ble_eq_true rfl)⟩ rfl hl.1 rfl (Nat.le_of_ble_eq_true rfl) ⟨Nat.zero_le _, Nat.zero_le _⟩ dX11_apart_38) hS (fun H locs hP hS hW => ?_)
          refine lv_aload_n hx hb dX11_apart_41 rfl (lv_at hl 0 rfl) ?_
          refine lv_iload_n hx hb dX11_apart_42 rfl (lv_at hl 3 rfl) ?_
          refine x_aft_i (x_runV (As := [.int p1]) (rest := [.int (s_X2_rank t3 p0 S)]) C hP hS (c_X2_rank (l := l) C.2.2.2.2.2.2.2.2.2.1 hW h_t3 k_t3 rfl H.size) h_t3 k_t3 (by decide) rfl rfl km_X2_rank ki_X2_rank qm_X11_244 ⟨(Nat.le_of_ble_eq_true rfl), (Nat.le_of_ble_eq_true rfl)⟩ rfl hl.1 rfl (Nat.le_of_ble_eq_true rfl) ⟨Nat.zero_le _, Nat.zero_le _⟩ dX11_apart_43) hS (fun H locs hP hS hW => ?_)
          refine lv_isub hx hb dX11_apart_46 ?_
          refine va_mabs hx hb (C.2.2.2.1.trans hl.1.symm) C.2.2.2.2.1 (qmath_X11_281 C) (C.2.2.2.2.2.1 _ ks_J9_abs_0f7a4) (C.2.2.2.2.2.1 _ km_J9_abs_0f7a4.2.1) (C.2.2.2.2.2.1 _ km_J9_abs_0f7a4.1) (Nat.le_of_ble_eq_true rfl) (Nat.le_of_ble_eq_true rfl) (Nat.zero_le _) (Nat.zero_le _) dX11_apart_47 ?_
          cases hf
          exact x_reti C hP hS hW dX11_apart_50
        · have hf := if_f c9 hf
          refine lv_iconst (v := (-1)) hx hb dX11_apart_34 rfl ?_
          cases hf
          exact x_reti C hP hS hW dX11_apart_35
def s_X11_isRegister (a : Nat) (p0 : Int32) (S : HS) : Option Int32 :=
  if p0 < (0 : Int32) then
  some 0
  else
  bd1 (gR S 1111 a) fun t2 =>
  if (gI S 904 t2) ≤ p0 then
  some 0
  else
  some 1
set_option maxRecDepth 100000 in
set_option maxHeartbeats 4000000 in
theorem c_X11_isRegister {l : Launch} {V : EV} {G : GS} {S : HS} {a : Nat} {p0 : Int32} {r : Int32} (hN : G.1.Nodup) (hW : WT G S) (h_a : a ∈ G.1) (k_a : G.2.1 a = 11) (hf : s_X11_isRegister a p0 S = some r) : MetZ l yX11_isRegister cX11_isRegister 2 0 0 V G S [.ref a, .int p0] r S := by
  intro sz
  refine x_in RX11 rfl (by decide +kernel) hN (Nat.le_of_ble_eq_true rfl) (fun p e s m args below meth c ls hsz hargs hnm C hP hS hl => ?_)
  subst hsz
  have hx := C.1
  have hb := C.2.1
  have hl : lv_has ls 2 [(0, .ref a), (1, .int p0)] := hl
  unfold s_X11_isRegister at hf
  refine lv_iload_n hx hb dX11_isRegister_0 rfl (lv_at hl 1 rfl) ?_
  refine lv_if_lt (tgt := 19) hx hb dX11_isRegister_1 (by decide) (fun c1 => ?_) (fun c1 => ?_)
  · have hf := if_t c1 hf
    refine lv_iconst (v := 0) hx hb dX11_isRegister_19 rfl ?_
    cases hf
    exact x_retZ C hP hS hW isZ_0 dX11_isRegister_20
  · have hf := if_f c1 hf
    refine lv_iload_n hx hb dX11_isRegister_4 rfl (lv_at hl 1 rfl) ?_
    refine lv_aload_n hx hb dX11_isRegister_5 rfl (lv_at hl 0 rfl) ?_
    refine gf_X11_68 C hP h_a k_a dX11_isRegister_6 ?_
    obtain ⟨t2, et2, hf⟩ := bd1_e hf
    obtain ⟨h_t2, k_t2⟩ := wt_r hW h_a k_a (by decide) et2
    have k_t2 : G.2.1 t2 = 9 := k_t2
    rw [et2]
    refine gf_X11_319 C hP h_t2 k_t2 dX11_isRegister_9 ?_
    refine lv_icmp_ge (tgt := 19) hx hb dX11_isRegister_12 (by decide) (fun c3 => ?_) (fun c3 => ?_)
    · have hf := if_t c3 hf
      refine lv_iconst (v := 0) hx hb dX11_isRegister_19 rfl ?_
      cases hf
      exact x_retZ C hP hS hW isZ_0 dX11_isRegister_20
    · have hf := if_f c3 hf
      refine lv_iconst (v := 1) hx hb dX11_isRegister_15 rfl ?_
      refine lv_goto (tgt := 20) hx hb dX11_isRegister_16 (by decide) ?_
      cases hf
      exact x_retZ C hP hS hW isZ_1 dX11_isRegister_20
def s_X11_areRegisters (a : Nat) (p0 : Int32) (p1 : Int32) (p2 : Int32) (p3 : Int32) (S : HS) : Option Int32 :=
  bd1 (s_X11_isRegister a p0 S) fun r1 =>
  if r1 = (0 : Int32) then
  some 0
  else
  bd1 (s_X11_isRegister a p1 S) fun r4 =>
  if r4 = (0 : Int32) then
  some 0
  else
  bd1 (s_X11_isRegister a p2 S) fun r7 =>
  if r7 = (0 : Int32) then
  some 0
  else
  bd1 (s_X11_isRegister a p3 S) fun r10 =>
  if r10 = (0 : Int32) then
  some 0
  else
  some 1
set_option maxRecDepth 100000 in
set_option maxHeartbeats 4000000 in
theorem c_X11_areRegisters {l : Launch} {V : EV} {G : GS} {S : HS} {a : Nat} {p0 : Int32} {p1 : Int32} {p2 : Int32} {p3 : Int32} {r : Int32} (hN : G.1.Nodup) (hW : WT G S) (h_a : a ∈ G.1) (k_a : G.2.1 a = 11) (hf : s_X11_areRegisters a p0 p1 p2 p3 S = some r) : MetZ l yX11_areRegisters cX11_areRegisters 5 1 29 V G S [.ref a, .int p0, .int p1, .int p2, .int p3] r S := by
  intro sz
  refine x_in RX11 rfl (by decide +kernel) hN (Nat.le_of_ble_eq_true rfl) (fun p e s m args below meth c ls hsz hargs hnm C hP hS hl => ?_)
  subst hsz
  have hx := C.1
  have hb := C.2.1
  have hl : lv_has ls 5 [(0, .ref a), (1, .int p0), (2, .int p1), (3, .int p2), (4, .int p3)] := hl
  unfold s_X11_areRegisters at hf
  refine lv_aload_n hx hb dX11_areRegisters_0 rfl (lv_at hl 0 rfl) ?_
  refine lv_iload_n hx hb dX11_areRegisters_1 rfl (lv_at hl 1 rfl) ?_
  obtain ⟨r1, er1, hf⟩ := bd1_e hf
  refine x_aft_z (x_runV (As := [.int p0]) (rest := []) C hP hS (c_X11_isRegister (l := l) C.2.2.2.2.2.2.2.2.2.1 hW h_a k_a er1 s.heap.size) h_a k_a (by decide) rfl rfl km_X11_isRegister ki_X11_isRegister qm_X11_166 ⟨(Nat.le_of_ble_eq_true rfl), (Nat.le_of_ble_eq_true rfl)⟩ rfl hl.1 rfl (Nat.le_of_ble_eq_true rfl) ⟨Nat.zero_le _, Nat.zero_le _⟩ dX11_areRegisters_2) hS (fun H locs hP hS hW z2 => ?_)
  refine lv_if_eq (tgt := 37) hx hb dX11_areRegisters_5 (by decide) (fun c3 => ?_) (fun c3 => ?_)
  · have hf := if_t c3 hf
    refine lv_iconst (v := 0) hx hb dX11_areRegisters_37 rfl ?_
    cases hf
    exact x_retZ C hP hS hW isZ_0 dX11_areRegisters_38
  · have hf := if_f c3 hf
    refine lv_aload_n hx hb dX11_areRegisters_8 rfl (lv_at hl 0 rfl) ?_
    refine lv_iload_n hx hb dX11_areRegisters_9 rfl (lv_at hl 2 rfl) ?_
    obtain ⟨r4, er4, hf⟩ := bd1_e hf
    refine x_aft_z (x_runV (As := [.int p1]) (rest := []) C hP hS (c_X11_isRegister (l := l) C.2.2.2.2.2.2.2.2.2.1 hW h_a k_a er4 H.size) h_a k_a (by decide) rfl rfl km_X11_isRegister ki_X11_isRegister qm_X11_166 ⟨(Nat.le_of_ble_eq_true rfl), (Nat.le_of_ble_eq_true rfl)⟩ rfl hl.1 rfl (Nat.le_of_ble_eq_true rfl) ⟨Nat.zero_le _, Nat.zero_le _⟩ dX11_areRegisters_10) hS (fun H locs hP hS hW z5 => ?_)
    refine lv_if_eq (tgt := 37) hx hb dX11_areRegisters_13 (by decide) (fun c6 => ?_) (fun c6 => ?_)
    · have hf := if_t c6 hf
      refine lv_iconst (v := 0) hx hb dX11_areRegisters_37 rfl ?_
      cases hf
      exact x_retZ C hP hS hW isZ_0 dX11_areRegisters_38
    · have hf := if_f c6 hf
      refine lv_aload_n hx hb dX11_areRegisters_16 rfl (lv_at hl 0 rfl) ?_
      refine lv_iload_n hx hb dX11_areRegisters_17 rfl (lv_at hl 3 rfl) ?_
      obtain ⟨r7, er7, hf⟩ := bd1_e hf
      refine x_aft_z (x_runV (As := [.int p2]) (rest := []) C hP hS (c_X11_isRegister (l := l) C.2.2.2.2.2.2.2.2.2.1 hW h_a k_a er7 H.size) h_a k_a (by decide) rfl rfl km_X11_isRegister ki_X11_isRegister qm_X11_166 ⟨(Nat.le_of_ble_eq_true rfl), (Nat.le_of_ble_eq_true rfl)⟩ rfl hl.1 rfl (Nat.le_of_ble_eq_true rfl) ⟨Nat.zero_le _, Nat.zero_le _⟩ dX11_areRegisters_18) hS (fun H locs hP hS hW z8 => ?_)
      refine lv_if_eq (tgt := 37) hx hb dX11_areRegisters_21 (by decide) (fun c9 => ?_) (fun c9 => ?_)
      · have hf := if_t c9 hf
        refine lv_iconst (v := 0) hx hb dX11_areRegisters_37 rfl ?_
        cases hf
        exact x_retZ C hP hS hW isZ_0 dX11_areRegisters_38
      · have hf := if_f c9 hf
        refine lv_aload_n hx hb dX11_areRegisters_24 rfl (lv_at hl 0 rfl) ?_
        refine lv_iload hx hb dX11_areRegisters_25 (lv_at hl 4 rfl) ?_
        obtain ⟨r10, er10, hf⟩ := bd1_e hf
        refine x_aft_z (x_runV (As := [.int p3]) (rest := []) C hP hS (c_X11_isRegister (l := l) C.2.2.2.2.2.2.2.2.2.1 hW h_a k_a er10 H.size) h_a k_a (by decide) rfl rfl km_X11_isRegister ki_X11_isRegister qm_X11_166 ⟨(Nat.le_of_ble_eq_true rfl), (Nat.le_of_ble_eq_true rfl)⟩ rfl hl.1 rfl (Nat.le_of_ble_eq_true rfl) ⟨Nat.zero_le _, Nat.zero_le _⟩ dX11_areRegisters_27) hS (fun H locs hP hS hW z11 => ?_)
        refine lv_if_eq (tgt := 37) hx hb dX11_areRegisters_30 (by decide) (fun c12 => ?_) (fun c12 => ?_)
        · have hf := if_t c12 hf
          refine lv_iconst (v := 0) hx hb dX11_areRegisters_37 rfl ?_
          cases hf
          exact x_retZ C hP hS hW isZ_0 dX11_areRegisters_38
        · have hf := if_f c12 hf
          refine lv_iconst (v := 1) hx hb dX11_areRegisters_33 rfl ?_
          refine lv_goto (tgt := 38) hx hb dX11_areRegisters_34 (by decide) ?_
          cases hf
          exact x_retZ C hP hS hW isZ_1 dX11_areRegisters_38
def s_X11_asked (a : Nat) (S : HS) : Option Int32 :=
  bd1 (gR S 1102 a) fun t1 =>
  some (gI S 109 t1)
set_option maxRecDepth 100000 in
set_option maxHeartbeats 4000000 in
theorem c_X11_asked {l : Launch} {V : EV} {G : GS} {S : HS} {a : Nat} {r : Int32} (hN : G.1.Nodup) (hW : WT G S) (h_a : a ∈ G.1) (k_a : G.2.1 a = 11) (hf : s_X11_asked a S = some r) : MetI l yX11_asked cX11_asked 1 .int 0 0 V G S [.ref a] r S := by
  intro sz
  refine x_in RX11 rfl (by decide +kernel) hN (Nat.le_of_ble_eq_true rfl) (fun p e s m args below meth c ls hsz hargs hnm C hP hS hl => ?_)
  subst hsz
  have hx := C.1
  have hb := C.2.1
  have hl : lv_has ls 1 [(0, .ref a)] := hl
  unfold s_X11_asked at hf
  refine lv_aload_n hx hb dX11_asked_0 rfl (lv_at hl 0 rfl) ?_
  refine gf_X11_26 C hP h_a k_a dX11_asked_1 ?_
  obtain ⟨t1, et1, hf⟩ := bd1_e hf
  obtain ⟨h_t1, k_t1⟩ := wt_r hW h_a k_a (by decide) et1
  have k_t1 : G.2.1 t1 = 1 := k_t1
  rw [et1]
  refine gf_X11_356 C hP h_t1 k_t1 dX11_asked_4 ?_
  cases hf
  exact x_reti C hP hS hW dX11_asked_7
def s_X11_begin_L73 (N : Nat → Nat) (F : Nat) : Nat → Nat → Int32 → HS → Option HS
  | 0, _, _, _ => none
  | n + 1, v0, v1, S => if (4 : Int32) ≤ v1 then
  some S
  else
  bd1 (gR S 1107 v0) fun t18 =>
  if inB v1 (N t18) = true then
  bnd (wI S t18 (v1.toNatClampNeg) (vp_nar .boolean 0)) fun S20 =>
  bnd (v1 + Int32.ofInt 1 : Int32) fun x21 =>
  s_X11_begin_L73 N F n v0 x21 S20
  else none
def s_X11_begin_J26 (N : Nat → Nat) (F : Nat) (v0 : Nat) (w0 : Nat) (w1 : Int32) (S : HS) : Option HS :=
  bnd (uI S 701 w0 w1) fun S6 =>
  bd1 (gR S6 1101 v0) fun t7 =>
  bd1 (gR S6 1111 v0) fun t8 =>
  bnd (uI S6 0 t7 (gI S6 906 t8)) fun S9 =>
  bd1 (gR S9 1113 v0) fun t10 =>
  bnd (uI S9 501 t10 0) fun S11 =>
  bd1 (gR S11 1102 v0) fun t12 =>
  bnd (s_X1_empty t12 S11) fun S13 =>
  bd1 (gR S13 1103 v0) fun t14 =>
  bnd (uI S13 403 t14 0) fun S15 =>
  bnd (uI S15 1115 v0 0) fun S16 =>
  s_X11_begin_L73 N F F v0 0 S16
def s_X11_begin (N : Nat → Nat) (F : Nat) (a : Nat) (S : HS) : Option HS :=
  bd1 (gR S 1104 a) fun t1 =>
  bd1 (s_X7_empty N F t1 S) fun S2 =>
  bd1 (gR S2 1104 a) fun t3 =>
  bd1 (gR S2 1111 a) fun t4 =>
  if (gI S2 903 t4) ≤ (0 : Int32) then
  s_X11_begin_J26 N F a t3 (-1) S2
  else
  s_X11_begin_J26 N F a t3 0 S2
set_option maxRecDepth 100000 in
set_option maxHeartbeats 4000000 in
theorem b_X11_begin_73 {p : Program} {l : Launch} {e : Env} {s : State} {m : MethodId} {args : Array Value} {below : List Frame} {meth : Method} {c : Code} {V : EV} {G : GS} {S' : HS} {F : Nat} (C : CX p s m args meth c RX11 cX11_begin 2 none V G) : ∀ n : Nat, ∀ (v0 : Nat) (v1 : Int32) (h_v0 : v0 ∈ G.1) (k_v0 : G.2.1 v0 = 11) (S : HS) (H : Heap) (locs : List Loc) (ls : Array Slot), s_X11_begin_L73 G.2.2 F n v0 v1 S = some S' → HP V G S H → va_S (AG G s.heap.size) s.heap H locs → WT G S → lv_has ls 2 [(0, .ref v0), (1, .int v1)] → W p l e (RM 1 29) s m args below meth c H locs 0 0 (MQ below (QV V G S' s.heap.size) args s 0 0 (AG G s.heap.size)) (F0 m 73 ls []) := by
  intro n
  induction n with
  | zero =>
    intro v0 v1 h_v0 k_v0 S H locs ls hf
    rw [s_X11_begin_L73] at hf
    cases hf
  | succ n ih =>
    intro v0 v1 h_v0 k_v0 S H locs ls hf hP hS hW hl
    have hx := C.1
    have hb := C.2.1
    rw [s_X11_begin_L73] at hf
    refine lv_iload_n hx hb dX11_begin_73 rfl (lv_at hl 1 rfl) ?_
    refine lv_iconst (v := 4) hx hb dX11_begin_74 rfl ?_
    refine lv_icmp_ge (tgt := 91) hx hb dX11_begin_75 (by decide) (fun c17 => ?_) (fun c17 => ?_)
    · have hf := if_t c17 hf
      cases hf
      exact x_retv C hP hS hW dX11_begin_91
    · have hf := if_f c17 hf
      refine lv_aload_n hx hb dX11_begin_78 rfl (lv_at hl 0 rfl) ?_
      refine gf_X11_51 C hP h_v0 k_v0 dX11_begin_79 ?_
      obtain ⟨t18, et18, hf⟩ := bd1_e hf
      obtain ⟨h_t18, k_t18⟩ := wt_r hW h_v0 k_v0 (by decide) et18
      have k_t18 : G.2.1 t18 = 16 := k_t18
      rw [et18]
      refine lv_iload_n hx hb dX11_begin_82 rfl (lv_at hl 1 rfl) ?_
      refine lv_iconst (v := 0) hx hb dX11_begin_83 rfl ?_
      obtain ⟨h19, hf⟩ := if_s hf
      obtain ⟨S20, eS20, hf⟩ := bnd_e hf
      refine x_zast C hP hS h_t18 k_t18 h19 eS20 dX11_begin_84 (fun H locs hP hS => ?_)
      have hW : WT G S20 := by rw [eS20]; exact hW
      obtain ⟨x21, ex21, hf⟩ := bnd_e hf
      refine lv_iinc (v := x21) (lv' := [(1, .int x21), (0, .ref v0)]) hx hb dX11_begin_85 hl (k := 1) rfl ex21.symm (by decide) rfl (fun ls hl => ?_)
      refine lv_goto (tgt := 73) hx hb dX11_begin_88 (by decide) ?_
      exact ih v0 x21 h_v0 k_v0 S20 H locs _ hf hP hS hW (lv_sub hl [1, 0] rfl)
set_option maxRecDepth 100000 in
set_option maxHeartbeats 4000000 in
theorem b_X11_begin_26 {p : Program} {l : Launch} {e : Env} {s : State} {m : MethodId} {args : Array Value} {below : List Frame} {meth : Method} {c : Code} {V : EV} {G : GS} {S' : HS} {F : Nat} (C : CX p s m args meth c RX11 cX11_begin 2 none V G) : ∀ (v0 : Nat) (w0 : Nat) (w1 : Int32) (h_v0 : v0 ∈ G.1) (k_v0 : G.2.1 v0 = 11) (h_w0 : w0 ∈ G.1) (k_w0 : G.2.1 w0 = 7) (S : HS) (H : Heap) (locs : List Loc) (ls : Array Slot), s_X11_begin_J26 G.2.2 F v0 w0 w1 S = some S' → HP V G S H → va_S (AG G s.heap.size) s.heap H locs → WT G S → lv_has ls 2 [(0, .ref v0)] → W p l e (RM 1 29) s m args below meth c H locs 0 0 (MQ below (QV V G S' s.heap.size) args s 0 0 (AG G s.heap.size)) (F0 m 26 ls [.int w1, .ref w0]) := by
  intro v0 w0 w1 h_v0 k_v0 h_w0 k_w0 S H locs ls hf hP hS hW hl
  have hx := C.1
  have hb := C.2.1
  unfold s_X11_begin_J26 at hf
  obtain ⟨S6, eS6, hf⟩ := bnd_e hf
  refine pf_X11_115 C hP hS h_w0 k_w0 eS6 dX11_begin_26 (fun H locs hP hS => ?_)
  have hW : WT G S6 := by rw [eS6]; exact hW
  refine lv_aload_n hx hb dX11_begin_29 rfl (lv_at hl 0 rfl) ?_
  refine gf_X11_19 C hP h_v0 k_v0 dX11_begin_30 ?_
  obtain ⟨t7, et7, hf⟩ := bd1_e hf
  obtain ⟨h_t7, k_t7⟩ := wt_r hW h_v0 k_v0 (by decide) et7
  have k_t7 : G.2.1 t7 = 0 := k_t7
  rw [et7]
  refine lv_aload_n hx hb dX11_begin_33 rfl (lv_at hl 0 rfl) ?_
  refine gf_X11_68 C hP h_v0 k_v0 dX11_begin_34 ?_
  obtain ⟨t8, et8, hf⟩ := bd1_e hf
  obtain ⟨h_t8, k_t8⟩ := wt_r hW h_v0 k_v0 (by decide) et8
  have k_t8 : G.2.1 t8 = 9 := k_t8
  rw [et8]
  refine gf_X11_118 C hP h_t8 k_t8 dX11_begin_37 ?_
  obtain ⟨S9, eS9, hf⟩ := bnd_e hf
  refine pf_X11_121 C hP hS h_t7 k_t7 eS9 dX11_begin_40 (fun H locs hP hS => ?_)
  have hW : WT G S9 := by rw [eS9]; exact hW
  refine lv_aload_n hx hb dX11_begin_43 rfl (lv_at hl 0 rfl) ?_
  refine gf_X11_78 C hP h_v0 k_v0 dX11_begin_44 ?_
  obtain ⟨t10, et10, hf⟩ := bd1_e hf
  obtain ⟨h_t10, k_t10⟩ := wt_r hW h_v0 k_v0 (by decide) et10
  have k_t10 : G.2.1 t10 = 5 := k_t10
  rw [et10]
  refine lv_iconst (v := 0) hx hb dX11_begin_47 rfl ?_
  obtain ⟨S11, eS11, hf⟩ := bnd_e hf
  refine pf_X11_122 C hP hS h_t10 k_t10 eS11 dX11_begin_48 (fun H locs hP hS => ?_)
  have hW : WT G S11 := by rw [eS11]; exact hW
  refine lv_aload_n hx hb dX11_begin_51 rfl (lv_at hl 0 rfl) ?_
  refine gf_X11_26 C hP h_v0 k_v0 dX11_begin_52 ?_
  obtain ⟨t12, et12, hf⟩ := bd1_e hf
  obtain ⟨h_t12, k_t12⟩ := wt_r hW h_v0 k_v0 (by decide) et12
  have k_t12 : G.2.1 t12 = 1 := k_t12
  rw [et12]
  obtain ⟨S13, eS13, hf⟩ := bnd_e hf
  refine x_aft_v (x_runV (As := []) (rest := []) C hP hS (c_X1_empty (l := l) C.2.2.2.2.2.2.2.2.2.1 hW h_t12 k_t12 eS13.symm H.size) h_t12 k_t12 (by decide) rfl rfl km_X1_empty ki_X1_empty qm_X11_125 ⟨(Nat.le_of_ble_eq_true rfl), (Nat.le_of_ble_eq_true rfl)⟩ rfl hl.1 rfl (Nat.le_of_ble_eq_true rfl) ⟨Nat.zero_le _, Nat.zero_le _⟩ dX11_begin_55) hS (fun H locs hP hS hW => ?_)
  refine lv_aload_n hx hb dX11_begin_58 rfl (lv_at hl 0 rfl) ?_
  refine gf_X11_33 C hP h_v0 k_v0 dX11_begin_59 ?_
  obtain ⟨t14, et14, hf⟩ := bd1_e hf
  obtain ⟨h_t14, k_t14⟩ := wt_r hW h_v0 k_v0 (by decide) et14
  have k_t14 : G.2.1 t14 = 4 := k_t14
  rw [et14]
  refine lv_iconst (v := 0) hx hb dX11_begin_62 rfl ?_
  obtain ⟨S15, eS15, hf⟩ := bnd_e hf
  refine pf_X11_126 C hP hS h_t14 k_t14 eS15 dX11_begin_63 (fun H locs hP hS => ?_)
  have hW : WT G S15 := by rw [eS15]; exact hW
  refine lv_aload_n hx hb dX11_begin_66 rfl (lv_at hl 0 rfl) ?_
  refine lv_iconst (v := 0) hx hb dX11_begin_67 rfl ?_
  obtain ⟨S16, eS16, hf⟩ := bnd_e hf
  refine pf_X11_129 C hP hS h_v0 k_v0 eS16 dX11_begin_68 (fun H locs hP hS => ?_)
  have hW : WT G S16 := by rw [eS16]; exact hW
  refine lv_iconst (v := 0) hx hb dX11_begin_71 rfl ?_
  refine lv_istore_n (lv' := [(1, .int 0), (0, .ref v0)]) hx hb dX11_begin_72 rfl hl (by decide) rfl (fun ls hl => ?_)
  exact b_X11_begin_73 C F v0 0 h_v0 k_v0 S16 H locs _ hf hP hS hW (lv_sub hl [1, 0] rfl)
set_option maxRecDepth 100000 in
set_option maxHeartbeats 4000000 in
theorem c_X11_begin {l : Launch} {V : EV} {G : GS} {S : HS} {F : Nat} {a : Nat} {S' : HS} (hN : G.1.Nodup) (hW : WT G S) (h_a : a ∈ G.1) (k_a : G.2.1 a = 11) (hf : s_X11_begin G.2.2 F a S = some S') : MetV l yX11_begin cX11_begin 2 1 29 V G S [.ref a] S' := by
  intro sz
  refine x_in RX11 rfl (by decide +kernel) hN (Nat.le_of_ble_eq_true rfl) (fun p e s m args below meth c ls hsz hargs hnm C hP hS hl => ?_)
  subst hsz
  have hx := C.1
  have hb := C.2.1
  have hl : lv_has ls 2 [(0, .ref a)] := hl
  unfold s_X11_begin at hf
  refine lv_aload_n hx hb dX11_begin_0 rfl (lv_at hl 0 rfl) ?_
  refine gf_X11_40 C hP h_a k_a dX11_begin_1 ?_
  obtain ⟨t1, et1, hf⟩ := bd1_e hf
  obtain ⟨h_t1, k_t1⟩ := wt_r hW h_a k_a (by decide) et1
  have k_t1 : G.2.1 t1 = 7 := k_t1
  rw [et1]
  obtain ⟨S2, eS2, hf⟩ := bd1_e hf
  refine x_aft_v (x_runV (As := []) (rest := []) C hP hS (c_X7_empty (l := l) C.2.2.2.2.2.2.2.2.2.1 hW h_t1 k_t1 eS2 s.heap.size) h_t1 k_t1 (by decide) rfl rfl km_X7_empty ki_X7_empty qm_X11_111 ⟨(Nat.le_of_ble_eq_true rfl), (Nat.le_of_ble_eq_true rfl)⟩ rfl hl.1 rfl (Nat.le_of_ble_eq_true rfl) ⟨Nat.zero_le _, Nat.zero_le _⟩ dX11_begin_4) hS (fun H locs hP hS hW => ?_)
  refine lv_aload_n hx hb dX11_begin_7 rfl (lv_at hl 0 rfl) ?_
  refine gf_X11_40 C hP h_a k_a dX11_begin_8 ?_
  obtain ⟨t3, et3, hf⟩ := bd1_e hf
  obtain ⟨h_t3, k_t3⟩ := wt_r hW h_a k_a (by decide) et3
  have k_t3 : G.2.1 t3 = 7 := k_t3
  rw [et3]
  refine lv_aload_n hx hb dX11_begin_11 rfl (lv_at hl 0 rfl) ?_
  refine gf_X11_68 C hP h_a k_a dX11_begin_12 ?_
  obtain ⟨t4, et4, hf⟩ := bd1_e hf
  obtain ⟨h_t4, k_t4⟩ := wt_r hW h_a k_a (by decide) et4
  have k_t4 : G.2.1 t4 = 9 := k_t4
  rw [et4]
  refine gf_X11_112 C hP h_t4 k_t4 dX11_begin_15 ?_
  refine lv_if_le (tgt := 25) hx hb dX11_begin_18 (by decide) (fun c5 => ?_) (fun c5 => ?_)
  · have hf := if_t c5 hf
    refine lv_iconst (v := (-1)) hx hb dX11_begin_25 rfl ?_
    exact b_X11_begin_26 C a t3 (-1) h_a k_a h_t3 k_t3 S2 H locs _ hf hP hS hW (lv_sub hl [0] rfl)
  · have hf := if_f c5 hf
    refine lv_iconst (v := 0) hx hb dX11_begin_21 rfl ?_
    refine lv_goto (tgt := 26) hx hb dX11_begin_22 (by decide) ?_
    exact b_X11_begin_26 C a t3 0 h_a k_a h_t3 k_t3 S2 H locs _ hf hP hS hW (lv_sub hl [0] rfl)
def s_X11_below (N : Nat → Nat) (a : Nat) (p0 : Int32) (S : HS) : Option Int32 :=
  bd1 (s_X11_formHolding N a p0 S) fun r1 =>
  mq r1
  (some (-1))
  fun t3 =>
  some (s_X2_turned t3 (s_X2_next t3 (s_X2_turned t3 p0 S) S) S)
set_option maxRecDepth 100000 in
set_option maxHeartbeats 4000000 in
theorem c_X11_below {l : Launch} {V : EV} {G : GS} {S : HS} {a : Nat} {p0 : Int32} {r : Int32} (hN : G.1.Nodup) (hW : WT G S) (h_a : a ∈ G.1) (k_a : G.2.1 a = 11) (hf : s_X11_below G.2.2 a p0 S = some r) : MetI l yX11_below cX11_below 3 .int 3 87 V G S [.ref a, .int p0] r S := by
  intro sz
  refine x_in RX11 rfl (by decide +kernel) hN (Nat.le_of_ble_eq_true rfl) (fun p e s m args below meth c ls hsz hargs hnm C hP hS hl => ?_)
  subst hsz
  have hx := C.1
  have hb := C.2.1
  have hl : lv_has ls 3 [(0, .ref a), (1, .int p0)] := hl
  unfold s_X11_below at hf
  refine lv_aload_n hx hb dX11_below_0 rfl (lv_at hl 0 rfl) ?_
  refine lv_iload_n hx hb dX11_below_1 rfl (lv_at hl 1 rfl) ?_
  obtain ⟨r1, er1, hf⟩ := bd1_e hf
  refine x_aft_r (x_runV (As := [.int p0]) (rest := []) C hP hS (c_X11_formHolding (l := l) C.2.2.2.2.2.2.2.2.2.1 hW h_a k_a er1 s.heap.size) h_a k_a (by decide) rfl rfl km_X11_formHolding ki_X11_formHolding qm_X11_235 ⟨(Nat.le_of_ble_eq_true rfl), (Nat.le_of_ble_eq_true rfl)⟩ rfl hl.1 rfl (Nat.le_of_ble_eq_true rfl) ⟨Nat.zero_le _, Nat.zero_le _⟩ dX11_below_2) hS (fun H locs hP hS hW q2 => ?_)
  cases r1 with
  | none =>
    have hf := mq_n rfl hf
    show W _ _ _ _ _ _ _ _ _ _ _ _ _ _ _ (F0 m 5 ls (.null :: []))
    refine lv_astore_nN (lv' := [(2, .null), (0, .ref a), (1, .int p0)]) hx hb dX11_below_5 rfl hl (by decide) rfl (fun ls hl => ?_)
    refine lv_aload_nN hx hb dX11_below_6 rfl (lv_at hl 0 rfl) ?_
    refine lv_ifnonnullN hx hb dX11_below_7 ?_
    refine lv_iconst (v := (-1)) hx hb dX11_below_10 rfl ?_
    refine lv_goto (tgt := 27) hx hb dX11_below_11 (by decide) ?_
    cases hf
    exact x_reti C hP hS hW dX11_below_27
  | some t3 =>
    have hf := mq_s rfl hf
    obtain ⟨h_t3, k_t3⟩ := q2 _ rfl
    show W _ _ _ _ _ _ _ _ _ _ _ _ _ _ _ (F0 m 5 ls (.ref t3 :: []))
    refine lv_astore_n (lv' := [(2, .ref t3), (0, .ref a), (1, .int p0)]) hx hb dX11_below_5 rfl hl (by decide) rfl (fun ls hl => ?_)
    refine lv_aload_n hx hb dX11_below_6 rfl (lv_at hl 0 rfl) ?_
    refine lv_ifnonnull (tgt := 14) hx hb dX11_below_7 (by decide) ?_
    refine lv_aload_n hx hb dX11_below_14 rfl (lv_at hl 0 rfl) ?_
    refine lv_aload_n hx hb dX11_below_15 rfl (lv_at hl 0 rfl) ?_
    refine lv_aload_n hx hb dX11_below_16 rfl (lv_at hl 0 rfl) ?_
    refine lv_iload_n hx hb dX11_below_17 rfl (lv_at hl 2 rfl) ?_
    refine x_aft_i (x_runV (As := [.int p0]) (rest := [.ref t3, .ref t3]) C hP hS (c_X2_turned (l := l) C.2.2.2.2.2.2.2.2.2.1 hW h_t3 k_t3 rfl H.size) h_t3 k_t3 (by decide) rfl rfl km_X2_turned ki_X2_turned qm_X11_250 ⟨(Nat.le_of_ble_eq_true rfl), (Nat.le_of_ble_eq_true rfl)⟩ rfl hl.1 rfl (Nat.le_of_ble_eq_true rfl) ⟨Nat.zero_le _, Nat.zero_le _⟩ dX11_below_18) hS (fun H locs hP hS hW => ?_)
    refine x_aft_i (x_runV (As := [.int (s_X2_turned t3 p0 S)]) (rest := [.ref t3]) C hP hS (c_X2_next (l := l) C.2.2.2.2.2.2.2.2.2.1 hW h_t3 k_t3 rfl H.size) h_t3 k_t3 (by decide) rfl rfl km_X2_next ki_X2_next qm_X11_247 ⟨(Nat.le_of_ble_eq_true rfl), (Nat.le_of_ble_eq_true rfl)⟩ rfl hl.1 rfl (Nat.le_of_ble_eq_true rfl) ⟨Nat.zero_le _, Nat.zero_le _⟩ dX11_below_21) hS (fun H locs hP hS hW => ?_)
    refine x_aft_i (x_runV (As := [.int (s_X2_next t3 (s_X2_turned t3 p0 S) S)]) (rest := []) C hP hS (c_X2_turned (l := l) C.2.2.2.2.2.2.2.2.2.1 hW h_t3 k_t3 rfl H.size) h_t3 k_t3 (by decide) rfl rfl km_X2_turned ki_X2_turned qm_X11_250 ⟨(Nat.le_of_ble_eq_true rfl), (Nat.le_of_ble_eq_true rfl)⟩ rfl hl.1 rfl (Nat.le_of_ble_eq_true rfl) ⟨Nat.zero_le _, Nat.zero_le _⟩ dX11_below_24) hS (fun H locs hP hS hW => ?_)
    cases hf
    exact x_reti C hP hS hW dX11_below_27
def s_X11_clear (N : Nat → Nat) (F : Nat) (a : Nat) (S : HS) : Option (Int32 × HS) :=
  bd1 (gR S 1103 a) fun t1 =>
  bd1 (gR S 1104 a) fun t2 =>
  bd1 (s_X4_keep N F t1 t2 0 S) fun S3 =>
  bd1 (gR S3 1104 a) fun t4 =>
  bnd (gI S3 703 t4 : Int32) fun x5 =>
  bd1 (gR S3 1104 a) fun t6 =>
  bnd (uI S3 703 t6 0) fun S7 =>
  some (x5, S7)
set_option maxRecDepth 100000 in
set_option maxHeartbeats 4000000 in
theorem c_X11_clear {l : Launch} {V : EV} {G : GS} {S : HS} {F : Nat} {a : Nat} {r : Int32} {S' : HS} (hN : G.1.Nodup) (hW : WT G S) (h_a : a ∈ G.1) (k_a : G.2.1 a = 11) (hf : s_X11_clear G.2.2 F a S = some (r, S')) : MetI l yX11_clear cX11_clear 2 .int 2 60 V G S [.ref a] r S' := by
  intro sz
  refine x_in RX11 rfl (by decide +kernel) hN (Nat.le_of_ble_eq_true rfl) (fun p e s m args below meth c ls hsz hargs hnm C hP hS hl => ?_)
  subst hsz
  have hx := C.1
  have hb := C.2.1
  have hl : lv_has ls 2 [(0, .ref a)] := hl
  unfold s_X11_clear at hf
  refine lv_aload_n hx hb dX11_clear_0 rfl (lv_at hl 0 rfl) ?_
  refine gf_X11_33 C hP h_a k_a dX11_clear_1 ?_
  obtain ⟨t1, et1, hf⟩ := bd1_e hf
  obtain ⟨h_t1, k_t1⟩ := wt_r hW h_a k_a (by decide) et1
  have k_t1 : G.2.1 t1 = 4 := k_t1
  rw [et1]
  refine lv_aload_n hx hb dX11_clear_4 rfl (lv_at hl 0 rfl) ?_
  refine gf_X11_40 C hP h_a k_a dX11_clear_5 ?_
  obtain ⟨t2, et2, hf⟩ := bd1_e hf
  obtain ⟨h_t2, k_t2⟩ := wt_r hW h_a k_a (by decide) et2
  have k_t2 : G.2.1 t2 = 7 := k_t2
  rw [et2]
  refine lv_iconst (v := 0) hx hb dX11_clear_8 rfl ?_
  obtain ⟨S3, eS3, hf⟩ := bd1_e hf
  refine x_aft_v (x_runV (As := [.ref t2, .int 0]) (rest := []) C hP hS (c_X4_keep (l := l) C.2.2.2.2.2.2.2.2.2.1 hW h_t1 k_t1 h_t2 k_t2 eS3 s.heap.size) h_t1 k_t1 (by decide) rfl rfl km_X4_keep ki_X4_keep qm_X11_177 ⟨(Nat.le_of_ble_eq_true rfl), (Nat.le_of_ble_eq_true rfl)⟩ rfl hl.1 rfl (Nat.le_of_ble_eq_true rfl) ⟨Nat.zero_le _, Nat.zero_le _⟩ dX11_clear_9) hS (fun H locs hP hS hW => ?_)
  refine lv_aload_n hx hb dX11_clear_12 rfl (lv_at hl 0 rfl) ?_
  refine gf_X11_40 C hP h_a k_a dX11_clear_13 ?_
  obtain ⟨t4, et4, hf⟩ := bd1_e hf
  obtain ⟨h_t4, k_t4⟩ := wt_r hW h_a k_a (by decide) et4
  have k_t4 : G.2.1 t4 = 7 := k_t4
  rw [et4]
  refine gf_X11_210 C hP h_t4 k_t4 dX11_clear_16 ?_
  obtain ⟨x5, ex5, hf⟩ := bnd_e hf
  refine nm_i ex5 ?_
  refine lv_istore_n (lv' := [(1, .int x5), (0, .ref a)]) hx hb dX11_clear_19 rfl hl (by decide) rfl (fun ls hl => ?_)
  refine lv_aload_n hx hb dX11_clear_20 rfl (lv_at hl 1 rfl) ?_
  refine gf_X11_40 C hP h_a k_a dX11_clear_21 ?_
  obtain ⟨t6, et6, hf⟩ := bd1_e hf
  obtain ⟨h_t6, k_t6⟩ := wt_r hW h_a k_a (by decide) et6
  have k_t6 : G.2.1 t6 = 7 := k_t6
  rw [et6]
  refine lv_iconst (v := 0) hx hb dX11_clear_24 rfl ?_
  obtain ⟨S7, eS7, hf⟩ := bnd_e hf
  refine pf_X11_210 C hP hS h_t6 k_t6 eS7 dX11_clear_25 (fun H locs hP hS => ?_)
  have hW : WT G S7 := by rw [eS7]; exact hW
  refine lv_iload_n hx hb dX11_clear_28 rfl (lv_at hl 0 rfl) ?_
  cases hf
  exact x_reti C hP hS hW dX11_clear_29
def s_X11_count (a : Nat) (p0 : Int32) (S : HS) : Option Int32 :=
  if p0 = 0 then
  bd1 (gR S 1111 a) fun t2 =>
  some (gI S 903 t2)
  else
  if p0 = 1 then
  bd1 (gR S 1111 a) fun t4 =>
  some (gI S 904 t4)
  else
  if p0 = 2 then
  bd1 (gR S 1104 a) fun t6 =>
  some (gI S 701 t6)
  else
  if p0 = 3 then
  bd1 (gR S 1104 a) fun t8 =>
  some (gI S 702 t8)
  else
  if p0 = 4 then
  bd1 (gR S 1104 a) fun t10 =>
  some (gI S 703 t10)
  else
  if p0 = 5 then
  bd1 (gR S 1113 a) fun t12 =>
  some (gI S 501 t12)
  else
  if p0 = 6 then
  some (gI S 1115 a)
  else
  if p0 = 7 then
  bd1 (gR S 1103 a) fun t15 =>
  some (gI S 403 t15)
  else
  if p0 = 8 then
  bd1 (gR S 1100 a) fun t17 =>
  some (gI S 801 t17)
  else
  some (-1)
set_option maxRecDepth 100000 in
set_option maxHeartbeats 4000000 in
theorem c_X11_count {l : Launch} {V : EV} {G : GS} {S : HS} {a : Nat} {p0 : Int32} {r : Int32} (hN : G.1.Nodup) (hW : WT G S) (h_a : a ∈ G.1) (k_a : G.2.1 a = 11) (hf : s_X11_count a p0 S = some r) : MetI l yX11_count cX11_count 2 .int 0 0 V G S [.ref a, .int p0] r S := by
  intro sz
  refine x_in RX11 rfl (by decide +kernel) hN (Nat.le_of_ble_eq_true rfl) (fun p e s m args below meth c ls hsz hargs hnm C hP hS hl => ?_)
  subst hsz
  have hx := C.1
  have hb := C.2.1
  have hl : lv_has ls 2 [(0, .ref a), (1, .int p0)] := hl
  unfold s_X11_count at hf
  refine lv_iload_n hx hb dX11_count_0 rfl (lv_at hl 1 rfl) ?_
  by_cases c1 : p0 = 0
  · have hf := if_t c1 hf
    refine lv_tableIn (tgt := 52) (off := 51) hx hb dX11_count_1 (by rw [c1]; decide) (by rw [c1]; decide) (by rw [c1]; rfl) (by decide) ?_
    refine lv_aload_n hx hb dX11_count_52 rfl (lv_at hl 0 rfl) ?_
    refine gf_X11_68 C hP h_a k_a dX11_count_53 ?_
    obtain ⟨t2, et2, hf⟩ := bd1_e hf
    obtain ⟨h_t2, k_t2⟩ := wt_r hW h_a k_a (by decide) et2
    have k_t2 : G.2.1 t2 = 9 := k_t2
    rw [et2]
    refine gf_X11_112 C hP h_t2 k_t2 dX11_count_56 ?_
    cases hf
    exact x_reti C hP hS hW dX11_count_59
  have hf := if_f c1 hf
  by_cases c3 : p0 = 1
  · have hf := if_t c3 hf
    refine lv_tableIn (tgt := 60) (off := 59) hx hb dX11_count_1 (by rw [c3]; decide) (by rw [c3]; decide) (by rw [c3]; rfl) (by decide) ?_
    refine lv_aload_n hx hb dX11_count_60 rfl (lv_at hl 0 rfl) ?_
    refine gf_X11_68 C hP h_a k_a dX11_count_61 ?_
    obtain ⟨t4, et4, hf⟩ := bd1_e hf
    obtain ⟨h_t4, k_t4⟩ := wt_r hW h_a k_a (by decide) et4
    have k_t4 : G.2.1 t4 = 9 := k_t4
    rw [et4]
    refine gf_X11_319 C hP h_t4 k_t4 dX11_count_64 ?_
    cases hf
    exact x_reti C hP hS hW dX11_count_67
  have hf := if_f c3 hf
  by_cases c5 : p0 = 2
  · have hf := if_t c5 hf
    refine lv_tableIn (tgt := 68) (off := 67) hx hb dX11_count_1 (by rw [c5]; decide) (by rw [c5]; decide) (by rw [c5]; rfl) (by decide) ?_
    refine lv_aload_n hx hb dX11_count_68 rfl (lv_at hl 0 rfl) ?_
    refine gf_X11_40 C hP h_a k_a dX11_count_69 ?_
    obtain ⟨t6, et6, hf⟩ := bd1_e hf
    obtain ⟨h_t6, k_t6⟩ := wt_r hW h_a k_a (by decide) et6
    have k_t6 : G.2.1 t6 = 7 := k_t6
    rw [et6]
    refine gf_X11_115 C hP h_t6 k_t6 dX11_count_72 ?_
    cases hf
    exact x_reti C hP hS hW dX11_count_75
  have hf := if_f c5 hf
  by_cases c7 : p0 = 3
  · have hf := if_t c7 hf
    refine lv_tableIn (tgt := 76) (off := 75) hx hb dX11_count_1 (by rw [c7]; decide) (by rw [c7]; decide) (by rw [c7]; rfl) (by decide) ?_
    refine lv_aload_n hx hb dX11_count_76 rfl (lv_at hl 0 rfl) ?_
    refine gf_X11_40 C hP h_a k_a dX11_count_77 ?_
    obtain ⟨t8, et8, hf⟩ := bd1_e hf
    obtain ⟨h_t8, k_t8⟩ := wt_r hW h_a k_a (by decide) et8
    have k_t8 : G.2.1 t8 = 7 := k_t8
    rw [et8]
    refine gf_X11_193 C hP h_t8 k_t8 dX11_count_80 ?_
    cases hf
    exact x_reti C hP hS hW dX11_count_83
  have hf := if_f c7 hf
  by_cases c9 : p0 = 4
  · have hf := if_t c9 hf
    refine lv_tableIn (tgt := 84) (off := 83) hx hb dX11_count_1 (by rw [c9]; decide) (by rw [c9]; decide) (by rw [c9]; rfl) (by decide) ?_
    refine lv_aload_n hx hb dX11_count_84 rfl (lv_at hl 0 rfl) ?_
    refine gf_X11_40 C hP h_a k_a dX11_count_85 ?_
    obtain ⟨t10, et10, hf⟩ := bd1_e hf
    obtain ⟨h_t10, k_t10⟩ := wt_r hW h_a k_a (by decide) et10
    have k_t10 : G.2.1 t10 = 7 := k_t10
    rw [et10]
    refine gf_X11_210 C hP h_t10 k_t10 dX11_count_88 ?_
    cases hf
    exact x_reti C hP hS hW dX11_count_91
  have hf := if_f c9 hf
  by_cases c11 : p0 = 5
  · have hf := if_t c11 hf
    refine lv_tableIn (tgt := 92) (off := 91) hx hb dX11_count_1 (by rw [c11]; decide) (by rw [c11]; decide) (by rw [c11]; rfl) (by decide) ?_
    refine lv_aload_n hx hb dX11_count_92 rfl (lv_at hl 0 rfl) ?_
    refine gf_X11_78 C hP h_a k_a dX11_count_93 ?_
    obtain ⟨t12, et12, hf⟩ := bd1_e hf
    obtain ⟨h_t12, k_t12⟩ := wt_r hW h_a k_a (by decide) et12
    have k_t12 : G.2.1 t12 = 5 := k_t12
    rw [et12]
    refine gf_X11_122 C hP h_t12 k_t12 dX11_count_96 ?_
    cases hf
    exact x_reti C hP hS hW dX11_count_99
  have hf := if_f c11 hf
  by_cases c13 : p0 = 6
  · have hf := if_t c13 hf
    refine lv_tableIn (tgt := 100) (off := 99) hx hb dX11_count_1 (by rw [c13]; decide) (by rw [c13]; decide) (by rw [c13]; rfl) (by decide) ?_
    refine lv_aload_n hx hb dX11_count_100 rfl (lv_at hl 0 rfl) ?_
    refine gf_X11_129 C hP h_a k_a dX11_count_101 ?_
    cases hf
    exact x_reti C hP hS hW dX11_count_104
  have hf := if_f c13 hf
  by_cases c14 : p0 = 7
  · have hf := if_t c14 hf
    refine lv_tableIn (tgt := 105) (off := 104) hx hb dX11_count_1 (by rw [c14]; decide) (by rw [c14]; decide) (by rw [c14]; rfl) (by decide) ?_
    refine lv_aload_n hx hb dX11_count_105 rfl (lv_at hl 0 rfl) ?_
    refine gf_X11_33 C hP h_a k_a dX11_count_106 ?_
    obtain ⟨t15, et15, hf⟩ := bd1_e hf
    obtain ⟨h_t15, k_t15⟩ := wt_r hW h_a k_a (by decide) et15
    have k_t15 : G.2.1 t15 = 4 := k_t15
    rw [et15]
    refine gf_X11_126 C hP h_t15 k_t15 dX11_count_109 ?_
    cases hf
    exact x_reti C hP hS hW dX11_count_112
  have hf := if_f c14 hf
  by_cases c16 : p0 = 8
  · have hf := if_t c16 hf
    refine lv_tableIn (tgt := 113) (off := 112) hx hb dX11_count_1 (by rw [c16]; decide) (by rw [c16]; decide) (by rw [c16]; rfl) (by decide) ?_
    refine lv_aload_n hx hb dX11_count_113 rfl (lv_at hl 0 rfl) ?_
    refine gf_X11_10 C hP h_a k_a dX11_count_114 ?_
    obtain ⟨t17, et17, hf⟩ := bd1_e hf
    obtain ⟨h_t17, k_t17⟩ := wt_r hW h_a k_a (by decide) et17
    have k_t17 : G.2.1 t17 = 8 := k_t17
    rw [et17]
    refine gf_X11_89 C hP h_t17 k_t17 dX11_count_117 ?_
    cases hf
    exact x_reti C hP hS hW dX11_count_120
  have hf := if_f c16 hf
  refine lv_tableOut (tgt := 121) hx hb dX11_count_1 (sw_out (fun k h1 h2 e9 => by
    rcases (show k = 0 ∨ k = 1 ∨ k = 2 ∨ k = 3 ∨ k = 4 ∨ k = 5 ∨ k = 6 ∨ k = 7 ∨ k = 8 by omega) with rfl | rfl | rfl | rfl | rfl | rfl | rfl | rfl | rfl
    · exact c1 e9
    · exact c3 e9
    · exact c5 e9
    · exact c7 e9
    · exact c9 e9
    · exact c11 e9
    · exact c13 e9
    · exact c14 e9
    · exact c16 e9
    )) (by decide) ?_
  refine lv_iconst (v := (-1)) hx hb dX11_count_121 rfl ?_
  cases hf
  exact x_reti C hP hS hW dX11_count_122
def s_X11_draw (a : Nat) (p0 : Int32) (S : HS) : Option (Int32 × HS) :=
  bnd (uJ S 1116 a ((((gJ S 1116 a) * 1103515245) + 12345) &&& 2147483647)) fun S1 =>
  if (0 : Int32) < p0 then
  if ¬ p0.toInt64 = 0 then
  some ((((gJ S1 1116 a) / 65536) - ((gJ S1 1116 a) / 65536) / p0.toInt64 * p0.toInt64).toInt32, S1)
  else none
  else
  some (0, S1)
set_option maxRecDepth 100000 in
set_option maxHeartbeats 4000000 in
theorem c_X11_draw {l : Launch} {V : EV} {G : GS} {S : HS} {a : Nat} {p0 : Int32} {r : Int32} {S' : HS} (hN : G.1.Nodup) (hW : WT G S) (h_a : a ∈ G.1) (k_a : G.2.1 a = 11) (hf : s_X11_draw a p0 S = some (r, S')) : MetI l yX11_draw cX11_draw 2 .int 0 0 V G S [.ref a, .int p0] r S' := by
  intro sz
  refine x_in RX11 rfl (by decide +kernel) hN (Nat.le_of_ble_eq_true rfl) (fun p e s m args below meth c ls hsz hargs hnm C hP hS hl => ?_)
  subst hsz
  have hx := C.1
  have hb := C.2.1
  have hl : lv_has ls 2 [(0, .ref a), (1, .int p0)] := hl
  unfold s_X11_draw at hf
  refine lv_aload_n hx hb dX11_draw_0 rfl (lv_at hl 0 rfl) ?_
  refine lv_aload_n hx hb dX11_draw_1 rfl (lv_at hl 0 rfl) ?_
  refine gf_X11_376 C hP h_a k_a dX11_draw_2 ?_
  refine lv_ldc2 (v := 1103515245) hx hb C.2.2.2.2.1 (C.2.2.2.2.2.1 _ qc_X11_387) dX11_draw_5 ?_
  refine lv_lmul hx hb dX11_draw_8 ?_
  refine lv_ldc2 (v := 12345) hx hb C.2.2.2.2.1 (C.2.2.2.2.2.1 _ qc_X11_389) dX11_draw_9 ?_
  refine lv_ladd hx hb dX11_draw_12 ?_
  refine lv_ldc2 (v := 2147483647) hx hb C.2.2.2.2.1 (C.2.2.2.2.2.1 _ qc_X11_295) dX11_draw_13 ?_
  refine lv_land hx hb dX11_draw_16 ?_
  obtain ⟨S1, eS1, hf⟩ := bnd_e hf
  refine pf_X11_376 C hP hS h_a k_a eS1 dX11_draw_17 (fun H locs hP hS => ?_)
  have hW : WT G S1 := by rw [eS1]; exact hW
  refine lv_iload_n hx hb dX11_draw_20 rfl (lv_at hl 1 rfl) ?_
  refine lv_if_gt (tgt := 28) hx hb dX11_draw_21 (by decide) (fun c2 => ?_) (fun c2 => ?_)
  · have hf := if_t c2 hf
    refine lv_aload_n hx hb dX11_draw_28 rfl (lv_at hl 0 rfl) ?_
    refine gf_X11_376 C hP h_a k_a dX11_draw_29 ?_
    refine lv_ldc2 (v := 65536) hx hb C.2.2.2.2.1 (C.2.2.2.2.2.1 _ qc_X11_391) dX11_draw_32 ?_
    refine lv_ldiv hx hb dX11_draw_35 (by decide) ?_
    refine lv_iload_n hx hb dX11_draw_36 rfl (lv_at hl 1 rfl) ?_
    refine lv_i2l hx hb dX11_draw_37 rfl ?_
    obtain ⟨h3, hf⟩ := if_s hf
    refine lv_lrem hx hb dX11_draw_38 h3 ?_
    refine lv_l2i hx hb dX11_draw_39 rfl ?_
    cases hf
    exact x_reti C hP hS hW dX11_draw_40
  · have hf := if_f c2 hf
    refine lv_iconst (v := 0) hx hb dX11_draw_24 rfl ?_
    refine lv_goto (tgt := 40) hx hb dX11_draw_25 (by decide) ?_
    cases hf
    exact x_reti C hP hS hW dX11_draw_40
def s_X11_exact (N : Nat → Nat) (F : Nat) (a : Nat) (p0 : Int32) (p1 : Int32) (p2 : Int32) (S : HS) : Option (Int32 × HS) :=
  bd1 (gR S 1104 a) fun t1 =>
  bd2 (s_X11_add N F a p0 p1 p2 (gI S 702 t1) S) fun r2 S3 =>
  if r2 = (0 : Int32) then
  some (0, S3)
  else
  bd1 (gR S3 1101 a) fun t6 =>
  if ((gI S3 2 t6) &&& 8) = (0 : Int32) then
  some (1, S3)
  else
  some (0, S3)
set_option maxRecDepth 100000 in
set_option maxHeartbeats 4000000 in
theorem c_X11_exact {l : Launch} {V : EV} {G : GS} {S : HS} {F : Nat} {a : Nat} {p0 : Int32} {p1 : Int32} {p2 : Int32} {r : Int32} {S' : HS} (hN : G.1.Nodup) (hW : WT G S) (h_a : a ∈ G.1) (k_a : G.2.1 a = 11) (hf : s_X11_exact G.2.2 F a p0 p1 p2 S = some (r, S')) : MetZ l yX11_exact cX11_exact 4 6 205 V G S [.ref a, .int p0, .int p1, .int p2] r S' := by
  intro sz
  refine x_in RX11 rfl (by decide +kernel) hN (Nat.le_of_ble_eq_true rfl) (fun p e s m args below meth c ls hsz hargs hnm C hP hS hl => ?_)
  subst hsz
  have hx := C.1
  have hb := C.2.1
  have hl : lv_has ls 4 [(0, .ref a), (1, .int p0), (2, .int p1), (3, .int p2)] := hl
  unfold s_X11_exact at hf
  refine lv_aload_n hx hb dX11_exact_0 rfl (lv_at hl 0 rfl) ?_
  refine lv_iload_n hx hb dX11_exact_1 rfl (lv_at hl 1 rfl) ?_
  refine lv_iload_n hx hb dX11_exact_2 rfl (lv_at hl 2 rfl) ?_
  refine lv_iload_n hx hb dX11_exact_3 rfl (lv_at hl 3 rfl) ?_
  refine lv_aload_n hx hb dX11_exact_4 rfl (lv_at hl 0 rfl) ?_
  refine gf_X11_40 C hP h_a k_a dX11_exact_5 ?_
  obtain ⟨t1, et1, hf⟩ := bd1_e hf
  obtain ⟨h_t1, k_t1⟩ := wt_r hW h_a k_a (by decide) et1
  have k_t1 : G.2.1 t1 = 7 := k_t1
  rw [et1]
  refine gf_X11_193 C hP h_t1 k_t1 dX11_exact_8 ?_
  obtain ⟨r2, S3, eS3, hf⟩ := bd2_e hf
  refine x_aft_z (x_runV (As := [.int p0, .int p1, .int p2, .int (gI S 702 t1)]) (rest := []) C hP hS (c_X11_add (l := l) C.2.2.2.2.2.2.2.2.2.1 hW h_a k_a eS3 s.heap.size) h_a k_a (by decide) rfl rfl km_X11_add ki_X11_add qm_X11_301 ⟨(Nat.le_of_ble_eq_true rfl), (Nat.le_of_ble_eq_true rfl)⟩ rfl hl.1 rfl (Nat.le_of_ble_eq_true rfl) ⟨Nat.zero_le _, Nat.zero_le _⟩ dX11_exact_11) hS (fun H locs hP hS hW z4 => ?_)
  refine lv_if_eq (tgt := 34) hx hb dX11_exact_14 (by decide) (fun c5 => ?_) (fun c5 => ?_)
  · have hf := if_t c5 hf
    refine lv_iconst (v := 0) hx hb dX11_exact_34 rfl ?_
    cases hf
    exact x_retZ C hP hS hW isZ_0 dX11_exact_35
  · have hf := if_f c5 hf
    refine lv_aload_n hx hb dX11_exact_17 rfl (lv_at hl 0 rfl) ?_
    refine gf_X11_19 C hP h_a k_a dX11_exact_18 ?_
    obtain ⟨t6, et6, hf⟩ := bd1_e hf
    obtain ⟨h_t6, k_t6⟩ := wt_r hW h_a k_a (by decide) et6
    have k_t6 : G.2.1 t6 = 0 := k_t6
    rw [et6]
    refine gf_X11_304 C hP h_t6 k_t6 dX11_exact_21 ?_
    refine lv_bipush (v := 8) hx hb dX11_exact_24 kc_bipush_8 ?_
    refine lv_iand hx hb dX11_exact_26 ?_
    refine lv_if_ne (tgt := 34) hx hb dX11_exact_27 (by decide) (fun c7 => ?_) (fun c7 => ?_)
    · have hf := if_f c7 hf
      refine lv_iconst (v := 0) hx hb dX11_exact_34 rfl ?_
      cases hf
      exact x_retZ C hP hS hW isZ_0 dX11_exact_35
    · have hf := if_t c7 hf
      refine lv_iconst (v := 1) hx hb dX11_exact_30 rfl ?_
      refine lv_goto (tgt := 35) hx hb dX11_exact_31 (by decide) ?_
      cases hf
      exact x_retZ C hP hS hW isZ_1 dX11_exact_35
def s_X11_exacts (N : Nat → Nat) (F : Nat) (a : Nat) (p0 : Int32) (p1 : Int32) (S : HS) : Option (Int32 × HS) :=
  bd2 (s_X11_addendsWith N F a p0 p1 0 0 S) fun r1 S2 =>
  some (r1, S2)
set_option maxRecDepth 100000 in
set_option maxHeartbeats 4000000 in
theorem c_X11_exacts {l : Launch} {V : EV} {G : GS} {S : HS} {F : Nat} {a : Nat} {p0 : Int32} {p1 : Int32} {r : Int32} {S' : HS} (hN : G.1.Nodup) (hW : WT G S) (h_a : a ∈ G.1) (k_a : G.2.1 a = 11) (hf : s_X11_exacts G.2.2 F a p0 p1 S = some (r, S')) : MetI l yX11_exacts cX11_exacts 3 .int 6 207 V G S [.ref a, .int p0, .int p1] r S' := by
  intro sz
  refine x_in RX11 rfl (by decide +kernel) hN (Nat.le_of_ble_eq_true rfl) (fun p e s m args below meth c ls hsz hargs hnm C hP hS hl => ?_)
  subst hsz
  have hx := C.1
  have hb := C.2.1
  have hl : lv_has ls 3 [(0, .ref a), (1, .int p0), (2, .int p1)] := hl
  unfold s_X11_exacts at hf
  refine lv_aload_n hx hb dX11_exacts_0 rfl (lv_at hl 0 rfl) ?_
  refine lv_iload_n hx hb dX11_exacts_1 rfl (lv_at hl 1 rfl) ?_
  refine lv_iload_n hx hb dX11_exacts_2 rfl (lv_at hl 2 rfl) ?_
  refine lv_iconst (v := 0) hx hb dX11_exacts_3 rfl ?_
  refine lv_iconst (v := 0) hx hb dX11_exacts_4 rfl ?_
  obtain ⟨r1, S2, eS2, hf⟩ := bd2_e hf
  refine x_aft_i (x_runV (As := [.int p0, .int p1, .int 0, .int 0]) (rest := []) C hP hS (c_X11_addendsWith (l := l) C.2.2.2.2.2.2.2.2.2.1 hW h_a k_a eS2 s.heap.size) h_a k_a (by decide) rfl rfl km_X11_addendsWith ki_X11_addendsWith qm_X11_335 ⟨(Nat.le_of_ble_eq_true rfl), (Nat.le_of_ble_eq_true rfl)⟩ rfl hl.1 rfl (Nat.le_of_ble_eq_true rfl) ⟨Nat.zero_le _, Nat.zero_le _⟩ dX11_exacts_5) hS (fun H locs hP hS hW => ?_)
  cases hf
  exact x_reti C hP hS hW dX11_exacts_8
def s_X11_feed (N : Nat → Nat) (F : Nat) (a : Nat) (p0 : Int64) (p1 : Int64) (p2 : Int64) (S : HS) : Option (Int32 × HS) :=
  bd1 (gR S 1100 a) fun t1 =>
  bd1 (s_X8_takeBytes N F t1 p0 S) fun S2 =>
  bd1 (gR S2 1100 a) fun t3 =>
  bd1 (s_X8_takeBytes N F t3 p1 S2) fun S4 =>
  bd1 (gR S4 1100 a) fun t5 =>
  bd1 (s_X8_takeBytes N F t5 p2 S4) fun S6 =>
  bd1 (gR S6 1100 a) fun t7 =>
  some (gI S6 801 t7, S6)
set_option maxRecDepth 100000 in
set_option maxHeartbeats 4000000 in
theorem c_X11_feed {l : Launch} {V : EV} {G : GS} {S : HS} {F : Nat} {a : Nat} {p0 : Int64} {p1 : Int64} {p2 : Int64} {r : Int32} {S' : HS} (hN : G.1.Nodup) (hW : WT G S) (h_a : a ∈ G.1) (k_a : G.2.1 a = 11) (hf : s_X11_feed G.2.2 F a p0 p1 p2 S = some (r, S')) : MetI l yX11_feed cX11_feed 7 .int 1 33 V G S [.ref a, .long p0, .long p1, .long p2] r S' := by
  intro sz
  refine x_in RX11 rfl (by decide +kernel) hN (Nat.le_of_ble_eq_true rfl) (fun p e s m args below meth c ls hsz hargs hnm C hP hS hl => ?_)
  subst hsz
  have hx := C.1
  have hb := C.2.1
  have hl : lv_has ls 7 [(0, .ref a), (1, .long p0), (3, .long p1), (5, .long p2)] := hl
  unfold s_X11_feed at hf
  refine lv_aload_n hx hb dX11_feed_0 rfl (lv_at hl 0 rfl) ?_
  refine gf_X11_10 C hP h_a k_a dX11_feed_1 ?_
  obtain ⟨t1, et1, hf⟩ := bd1_e hf
  obtain ⟨h_t1, k_t1⟩ := wt_r hW h_a k_a (by decide) et1
  have k_t1 : G.2.1 t1 = 8 := k_t1
  rw [et1]
  refine lv_lload_n hx hb dX11_feed_4 rfl (lv_at hl 1 rfl) ?_
  obtain ⟨S2, eS2, hf⟩ := bd1_e hf
  refine x_aft_v (x_runV (As := [.long p0]) (rest := []) C hP hS (c_X8_takeBytes (l := l) C.2.2.2.2.2.2.2.2.2.1 hW h_t1 k_t1 eS2 s.heap.size) h_t1 k_t1 (by decide) rfl rfl km_X8_takeBytes ki_X8_takeBytes qm_X11_85 ⟨(Nat.le_of_ble_eq_true rfl), (Nat.le_of_ble_eq_true rfl)⟩ rfl hl.1 rfl (Nat.le_of_ble_eq_true rfl) ⟨Nat.zero_le _, Nat.zero_le _⟩ dX11_feed_5) hS (fun H locs hP hS hW => ?_)
  refine lv_aload_n hx hb dX11_feed_8 rfl (lv_at hl 0 rfl) ?_
  refine gf_X11_10 C hP h_a k_a dX11_feed_9 ?_
  obtain ⟨t3, et3, hf⟩ := bd1_e hf
  obtain ⟨h_t3, k_t3⟩ := wt_r hW h_a k_a (by decide) et3
  have k_t3 : G.2.1 t3 = 8 := k_t3
  rw [et3]
  refine lv_lload_n hx hb dX11_feed_12 rfl (lv_at hl 2 rfl) ?_
  obtain ⟨S4, eS4, hf⟩ := bd1_e hf
  refine x_aft_v (x_runV (As := [.long p1]) (rest := []) C hP hS (c_X8_takeBytes (l := l) C.2.2.2.2.2.2.2.2.2.1 hW h_t3 k_t3 eS4 H.size) h_t3 k_t3 (by decide) rfl rfl km_X8_takeBytes ki_X8_takeBytes qm_X11_85 ⟨(Nat.le_of_ble_eq_true rfl), (Nat.le_of_ble_eq_true rfl)⟩ rfl hl.1 rfl (Nat.le_of_ble_eq_true rfl) ⟨Nat.zero_le _, Nat.zero_le _⟩ dX11_feed_13) hS (fun H locs hP hS hW => ?_)
  refine lv_aload_n hx hb dX11_feed_16 rfl (lv_at hl 0 rfl) ?_
  refine gf_X11_10 C hP h_a k_a dX11_feed_17 ?_
  obtain ⟨t5, et5, hf⟩ := bd1_e hf
  obtain ⟨h_t5, k_t5⟩ := wt_r hW h_a k_a (by decide) et5
  have k_t5 : G.2.1 t5 = 8 := k_t5
  rw [et5]
  refine lv_lload hx hb dX11_feed_20 (lv_at hl 3 rfl) ?_
  obtain ⟨S6, eS6, hf⟩ := bd1_e hf
  refine x_aft_v (x_runV (As := [.long p2]) (rest := []) C hP hS (c_X8_takeBytes (l := l) C.2.2.2.2.2.2.2.2.2.1 hW h_t5 k_t5 eS6 H.size) h_t5 k_t5 (by decide) rfl rfl km_X8_takeBytes ki_X8_takeBytes qm_X11_85 ⟨(Nat.le_of_ble_eq_true rfl), (Nat.le_of_ble_eq_true rfl)⟩ rfl hl.1 rfl (Nat.le_of_ble_eq_true rfl) ⟨Nat.zero_le _, Nat.zero_le _⟩ dX11_feed_22) hS (fun H locs hP hS hW => ?_)
  refine lv_aload_n hx hb dX11_feed_25 rfl (lv_at hl 0 rfl) ?_
  refine gf_X11_10 C hP h_a k_a dX11_feed_26 ?_
  obtain ⟨t7, et7, hf⟩ := bd1_e hf
  obtain ⟨h_t7, k_t7⟩ := wt_r hW h_a k_a (by decide) et7
  have k_t7 : G.2.1 t7 = 8 := k_t7
  rw [et7]
  refine gf_X11_89 C hP h_t7 k_t7 dX11_feed_29 ?_
  cases hf
  exact x_reti C hP hS hW dX11_feed_32
def s_X11_fitsSeen_J72 (N : Nat → Nat) (F : Nat) (k2 : Nat → Nat → Int32 → Int32 → HS → Option (Int32 × HS)) (v0 : Nat) (v1 : Nat) (v2 : Int32) (v3 : Int32) (w0 : Int32) (S : HS) : Option (Int32 × HS) :=
  bd1 (gR S 1109 v0) fun t11 =>
  if inB v3 (N t11) = true then
  if w0 = (aI S t11 v3.toNatClampNeg) then
  bnd (v3 + Int32.ofInt 1 : Int32) fun x14 =>
  k2 v0 v1 v2 x14 S
  else
  some (0, S)
  else none
def s_X11_fitsSeen_L2 (N : Nat → Nat) (F : Nat) : Nat → Nat → Nat → Int32 → Int32 → HS → Option (Int32 × HS)
  | 0, _, _, _, _, _ => none
  | n + 1, v0, v1, v2, v3, S => if (gI S 1115 v0) ≤ v3 then
  some (1, S)
  else
  if (8 : Int32) ≤ v3 then
  some (1, S)
  else
  bd1 (gR S 1101 v0) fun t3 =>
  bd1 (gR S 1104 v0) fun t4 =>
  bd1 (gR S 1108 v0) fun t5 =>
  if inB v3 (N t5) = true then
  bd1 (s_X0_add F t3 v1 (gI S 702 t4) v2 v2 (aI S t5 v3.toNatClampNeg) S) fun S7 =>
  bd1 (gR S7 1101 v0) fun t8 =>
  if (s_X2_isNan v1 (gI S7 1 t8) S7) = (0 : Int32) then
  bd1 (gR S7 1101 v0) fun t15 =>
  if (s_X2_rank v1 (gI S7 1 t15) S7) < (0 : Int32) then
  s_X11_fitsSeen_J72 N F (s_X11_fitsSeen_L2 N F n) v0 v1 v2 v3 0 S7
  else
  s_X11_fitsSeen_J72 N F (s_X11_fitsSeen_L2 N F n) v0 v1 v2 v3 1 S7
  else
  s_X11_fitsSeen_J72 N F (s_X11_fitsSeen_L2 N F n) v0 v1 v2 v3 0 S7
  else none
def s_X11_fitsSeen (N : Nat → Nat) (F : Nat) (a : Nat) (p0 : Nat) (p1 : Int32) (S : HS) : Option (Int32 × HS) :=
  s_X11_fitsSeen_L2 N F F a p0 p1 0 S
set_option maxRecDepth 100000 in
set_option maxHeartbeats 4000000 in
theorem b_X11_fitsSeen_72 {p : Program} {l : Launch} {e : Env} {s : State} {m : MethodId} {args : Array Value} {below : List Frame} {meth : Method} {c : Code} {V : EV} {G : GS} {r : Int32} {S' : HS} {F : Nat} (C : CX p s m args meth c RX11 cX11_fitsSeen 5 (some .boolean) V G) {k2 : Nat → Nat → Int32 → Int32 → HS → Option (Int32 × HS)} (hk2 : ∀ (v0 : Nat) (v1 : Nat) (v2 : Int32) (v3 : Int32) (h_v0 : v0 ∈ G.1) (k_v0 : G.2.1 v0 = 11) (h_v1 : v1 ∈ G.1) (k_v1 : G.2.1 v1 = 2) (S : HS) (H : Heap) (locs : List Loc) (ls : Array Slot), k2 v0 v1 v2 v3 S = some (r, S') → HP V G S H → va_S (AG G s.heap.size) s.heap H locs → WT G S → lv_has ls 5 [(0, .ref v0), (1, .ref v1), (2, .int v2), (3, .int v3)] → W p l e (RM 5 172) s m args below meth c H locs 0 0 (MQ below (QZ V G S' r s.heap.size) args s 0 0 (AG G s.heap.size)) (F0 m 2 ls [])) : ∀ (v0 : Nat) (v1 : Nat) (v2 : Int32) (v3 : Int32) (w0 : Int32) (h_v0 : v0 ∈ G.1) (k_v0 : G.2.1 v0 = 11) (h_v1 : v1 ∈ G.1) (k_v1 : G.2.1 v1 = 2) (S : HS) (H : Heap) (locs : List Loc) (ls : Array Slot), s_X11_fitsSeen_J72 G.2.2 F k2 v0 v1 v2 v3 w0 S = some (r, S') → HP V G S H → va_S (AG G s.heap.size) s.heap H locs → WT G S → lv_has ls 5 [(0, .ref v0), (1, .ref v1), (2, .int v2), (3, .int v3)] → W p l e (RM 5 172) s m args below meth c H locs 0 0 (MQ below (QZ V G S' r s.heap.size) args s 0 0 (AG G s.heap.size)) (F0 m 72 ls [.int w0]) := by
  intro v0 v1 v2 v3 w0 h_v0 k_v0 h_v1 k_v1 S H locs ls hf hP hS hW hl
  have hx := C.1
  have hb := C.2.1
  unfold s_X11_fitsSeen_J72 at hf
  refine lv_istore (lv' := [(4, .int w0), (0, .ref v0), (1, .ref v1), (2, .int v2), (3, .int v3)]) hx hb dX11_fitsSeen_72 hl (by decide) rfl (fun ls hl => ?_)
  refine lv_iload hx hb dX11_fitsSeen_74 (lv_at hl 0 rfl) ?_
  refine lv_aload_n hx hb dX11_fitsSeen_76 rfl (lv_at hl 1 rfl) ?_
  refine gf_X11_59 C hP h_v0 k_v0 dX11_fitsSeen_77 ?_
  obtain ⟨t11, et11, hf⟩ := bd1_e hf
  obtain ⟨h_t11, k_t11⟩ := wt_r hW h_v0 k_v0 (by decide) et11
  have k_t11 : G.2.1 t11 = 16 := k_t11
  rw [et11]
  refine lv_iload_n hx hb dX11_fitsSeen_80 rfl (lv_at hl 4 rfl) ?_
  obtain ⟨h12, hf⟩ := if_s hf
  refine x_zald C hP h_t11 k_t11 h12 dX11_fitsSeen_81 ?_
  refine lv_icmp_eq (tgt := 87) hx hb dX11_fitsSeen_82 (by decide) (fun c13 => ?_) (fun c13 => ?_)
  · have hf := if_t c13 hf
    obtain ⟨x14, ex14, hf⟩ := bnd_e hf
    refine lv_iinc (v := x14) (lv' := [(3, .int x14), (4, .int w0), (0, .ref v0), (1, .ref v1), (2, .int v2)]) hx hb dX11_fitsSeen_87 hl (k := 4) rfl ex14.symm (by decide) rfl (fun ls hl => ?_)
    refine lv_goto (tgt := 2) hx hb dX11_fitsSeen_90 (by decide) ?_
    exact hk2 v0 v1 v2 x14 h_v0 k_v0 h_v1 k_v1 S H locs _ hf hP hS hW (lv_sub hl [2, 3, 4, 0] rfl)
  · have hf := if_f c13 hf
    refine lv_iconst (v := 0) hx hb dX11_fitsSeen_85 rfl ?_
    cases hf
    exact x_retZ C hP hS hW isZ_0 dX11_fitsSeen_86
set_option maxRecDepth 100000 in
set_option maxHeartbeats 4000000 in
theorem b_X11_fitsSeen_2 {p : Program} {l : Launch} {e : Env} {s : State} {m : MethodId} {args : Array Value} {below : List Frame} {meth : Method} {c : Code} {V : EV} {G : GS} {r : Int32} {S' : HS} {F : Nat} (C : CX p s m args meth c RX11 cX11_fitsSeen 5 (some .boolean) V G) : ∀ n : Nat, ∀ (v0 : Nat) (v1 : Nat) (v2 : Int32) (v3 : Int32) (h_v0 : v0 ∈ G.1) (k_v0 : G.2.1 v0 = 11) (h_v1 : v1 ∈ G.1) (k_v1 : G.2.1 v1 = 2) (S : HS) (H : Heap) (locs : List Loc) (ls : Array Slot), s_X11_fitsSeen_L2 G.2.2 F n v0 v1 v2 v3 S = some (r, S') → HP V G S H → va_S (AG G s.heap.size) s.heap H locs → WT G S → lv_has ls 5 [(0, .ref v0), (1, .ref v1), (2, .int v2), (3, .int v3)] → W p l e (RM 5 172) s m args below meth c H locs 0 0 (MQ below (QZ V G S' r s.heap.size) args s 0 0 (AG G s.heap.size)) (F0 m 2 ls []) := by
  intro n
  induction n with
  | zero =>
    intro v0 v1 v2 v3 h_v0 k_v0 h_v1 k_v1 S H locs ls hf
    rw [s_X11_fitsSeen_L2] at hf
    cases hf
  | succ n ih =>
    intro v0 v1 v2 v3 h_v0 k_v0 h_v1 k_v1 S H locs ls hf hP hS hW hl
    have hx := C.1
    have hb := C.2.1
    rw [s_X11_fitsSeen_L2] at hf
    refine lv_iload_n hx hb dX11_fitsSeen_2 rfl (lv_at hl 3 rfl) ?_
    refine lv_aload_n hx hb dX11_fitsSeen_3 rfl (lv_at hl 0 rfl) ?_
    refine gf_X11_129 C hP h_v0 k_v0 dX11_fitsSeen_4 ?_
    refine lv_icmp_ge (tgt := 93) hx hb dX11_fitsSeen_7 (by decide) (fun c1 => ?_) (fun c1 => ?_)
    · have hf := if_t c1 hf
      refine lv_iconst (v := 1) hx hb dX11_fitsSeen_93 rfl ?_
      cases hf
      exact x_retZ C hP hS hW isZ_1 dX11_fitsSeen_94
    · have hf := if_f c1 hf
      refine lv_iload_n hx hb dX11_fitsSeen_10 rfl (lv_at hl 3 rfl) ?_
      refine lv_bipush (v := 8) hx hb dX11_fitsSeen_11 kc_bipush_8 ?_
      refine lv_icmp_ge (tgt := 93) hx hb dX11_fitsSeen_13 (by decide) (fun c2 => ?_) (fun c2 => ?_)
      · have hf := if_t c2 hf
        refine lv_iconst (v := 1) hx hb dX11_fitsSeen_93 rfl ?_
        cases hf
        exact x_retZ C hP hS hW isZ_1 dX11_fitsSeen_94
      · have hf := if_f c2 hf
        refine lv_aload_n hx hb dX11_fitsSeen_16 rfl (lv_at hl 0 rfl) ?_
        refine gf_X11_19 C hP h_v0 k_v0 dX11_fitsSeen_17 ?_
        obtain ⟨t3, et3, hf⟩ := bd1_e hf
        obtain ⟨h_t3, k_t3⟩ := wt_r hW h_v0 k_v0 (by decide) et3
        have k_t3 : G.2.1 t3 = 0 := k_t3
        rw [et3]
        refine lv_aload_n hx hb dX11_fitsSeen_20 rfl (lv_at hl 1 rfl) ?_
        refine lv_aload_n hx hb dX11_fitsSeen_21 rfl (lv_at hl 0 rfl) ?_
        refine gf_X11_40 C hP h_v0 k_v0 dX11_fitsSeen_22 ?_
        obtain ⟨t4, et4, hf⟩ := bd1_e hf
        obtain ⟨h_t4, k_t4⟩ := wt_r hW h_v0 k_v0 (by decide) et4
        have k_t4 : G.2.1 t4 = 7 := k_t4
        rw [et4]
        refine gf_X11_193 C hP h_t4 k_t4 dX11_fitsSeen_25 ?_
        refine lv_iload_n hx hb dX11_fitsSeen_28 rfl (lv_at hl 2 rfl) ?_
        refine lv_iload_n hx hb dX11_fitsSeen_29 rfl (lv_at hl 2 rfl) ?_
        refine lv_aload_n hx hb dX11_fitsSeen_30 rfl (lv_at hl 0 rfl) ?_
        refine gf_X11_55 C hP h_v0 k_v0 dX11_fitsSeen_31 ?_
        obtain ⟨t5, et5, hf⟩ := bd1_e hf
        obtain ⟨h_t5, k_t5⟩ := wt_r hW h_v0 k_v0 (by decide) et5
        have k_t5 : G.2.1 t5 = 14 := k_t5
        rw [et5]
        refine lv_iload_n hx hb dX11_fitsSeen_34 rfl (lv_at hl 3 rfl) ?_
        obtain ⟨h6, hf⟩ := if_s hf
        refine x_iald C hP h_t5 k_t5 h6 dX11_fitsSeen_35 ?_
        obtain ⟨S7, eS7, hf⟩ := bd1_e hf
        refine x_aft_v (x_runV (As := [.ref v1, .int (gI S 702 t4), .int v2, .int v2, .int (aI S t5 v3.toNatClampNeg)]) (rest := []) C hP hS (c_X0_add (l := l) C.2.2.2.2.2.2.2.2.2.1 hW h_t3 k_t3 h_v1 k_v1 eS7 H.size) h_t3 k_t3 (by decide) rfl rfl km_X0_add ki_X0_add qm_X11_305 ⟨(Nat.le_of_ble_eq_true rfl), (Nat.le_of_ble_eq_true rfl)⟩ rfl hl.1 rfl (Nat.le_of_ble_eq_true rfl) ⟨Nat.zero_le _, Nat.zero_le _⟩ dX11_fitsSeen_36) hS (fun H locs hP hS hW => ?_)
        refine lv_aload_n hx hb dX11_fitsSeen_39 rfl (lv_at hl 1 rfl) ?_
        refine lv_aload_n hx hb dX11_fitsSeen_40 rfl (lv_at hl 0 rfl) ?_
        refine gf_X11_19 C hP h_v0 k_v0 dX11_fitsSeen_41 ?_
        obtain ⟨t8, et8, hf⟩ := bd1_e hf
        obtain ⟨h_t8, k_t8⟩ := wt_r hW h_v0 k_v0 (by decide) et8
        have k_t8 : G.2.1 t8 = 0 := k_t8
        rw [et8]
        refine gf_X11_196 C hP h_t8 k_t8 dX11_fitsSeen_44 ?_
        refine x_aft_z (x_runV (As := [.int (gI S7 1 t8)]) (rest := []) C hP hS (c_X2_isNan (l := l) C.2.2.2.2.2.2.2.2.2.1 hW h_v1 k_v1 rfl H.size) h_v1 k_v1 (by decide) rfl rfl km_X2_isNan ki_X2_isNan qm_X11_241 ⟨(Nat.le_of_ble_eq_true rfl), (Nat.le_of_ble_eq_true rfl)⟩ rfl hl.1 rfl (Nat.le_of_ble_eq_true rfl) ⟨Nat.zero_le _, Nat.zero_le _⟩ dX11_fitsSeen_47) hS (fun H locs hP hS hW z9 => ?_)
        refine lv_if_ne (tgt := 71) hx hb dX11_fitsSeen_50 (by decide) (fun c10 => ?_) (fun c10 => ?_)
        · have hf := if_f c10 hf
          refine lv_iconst (v := 0) hx hb dX11_fitsSeen_71 rfl ?_
          exact b_X11_fitsSeen_72 C ih v0 v1 v2 v3 0 h_v0 k_v0 h_v1 k_v1 S7 H locs _ hf hP hS hW (lv_sub hl [0, 1, 2, 3] rfl)
        · have hf := if_t c10 hf
          refine lv_aload_n hx hb dX11_fitsSeen_53 rfl (lv_at hl 1 rfl) ?_
          refine lv_aload_n hx hb dX11_fitsSeen_54 rfl (lv_at hl 0 rfl) ?_
          refine gf_X11_19 C hP h_v0 k_v0 dX11_fitsSeen_55 ?_
          obtain ⟨t15, et15, hf⟩ := bd1_e hf
          obtain ⟨h_t15, k_t15⟩ := wt_r hW h_v0 k_v0 (by decide) et15
          have k_t15 : G.2.1 t15 = 0 := k_t15
          rw [et15]
          refine gf_X11_196 C hP h_t15 k_t15 dX11_fitsSeen_58 ?_
          refine x_aft_i (x_runV (As := [.int (gI S7 1 t15)]) (rest := []) C hP hS (c_X2_rank (l := l) C.2.2.2.2.2.2.2.2.2.1 hW h_v1 k_v1 rfl H.size) h_v1 k_v1 (by decide) rfl rfl km_X2_rank ki_X2_rank qm_X11_244 ⟨(Nat.le_of_ble_eq_true rfl), (Nat.le_of_ble_eq_true rfl)⟩ rfl hl.1 rfl (Nat.le_of_ble_eq_true rfl) ⟨Nat.zero_le _, Nat.zero_le _⟩ dX11_fitsSeen_61) hS (fun H locs hP hS hW => ?_)
          refine lv_if_lt (tgt := 71) hx hb dX11_fitsSeen_64 (by decide) (fun c16 => ?_) (fun c16 => ?_)
          · have hf := if_t c16 hf
            refine lv_iconst (v := 0) hx hb dX11_fitsSeen_71 rfl ?_
            exact b_X11_fitsSeen_72 C ih v0 v1 v2 v3 0 h_v0 k_v0 h_v1 k_v1 S7 H locs _ hf hP hS hW (lv_sub hl [0, 1, 2, 3] rfl)
          · have hf := if_f c16 hf
            refine lv_iconst (v := 1) hx hb dX11_fitsSeen_67 rfl ?_
            refine lv_goto (tgt := 72) hx hb dX11_fitsSeen_68 (by decide) ?_
            exact b_X11_fitsSeen_72 C ih v0 v1 v2 v3 1 h_v0 k_v0 h_v1 k_v1 S7 H locs _ hf hP hS hW (lv_sub hl [0, 1, 2, 3] rfl)
set_option maxRecDepth 100000 in
set_option maxHeartbeats 4000000 in
theorem c_X11_fitsSeen {l : Launch} {V : EV} {G : GS} {S : HS} {F : Nat} {a : Nat} {p0 : Nat} {p1 : Int32} {r : Int32} {S' : HS} (hN : G.1.Nodup) (hW : WT G S) (h_a : a ∈ G.1) (k_a : G.2.1 a = 11) (h_p0 : p0 ∈ G.1) (k_p0 : G.2.1 p0 = 2) (hf : s_X11_fitsSeen G.2.2 F a p0 p1 S = some (r, S')) : MetZ l yX11_fitsSeen cX11_fitsSeen 5 5 172 V G S [.ref a, .ref p0, .int p1] r S' := by
  intro sz
  refine x_in RX11 rfl (by decide +kernel) hN (Nat.le_of_ble_eq_true rfl) (fun p e s m args below meth c ls hsz hargs hnm C hP hS hl => ?_)
  subst hsz
  have hx := C.1
  have hb := C.2.1
  have hl : lv_has ls 5 [(0, .ref a), (1, .ref p0), (2, .int p1)] := hl
  unfold s_X11_fitsSeen at hf
  refine lv_iconst (v := 0) hx hb dX11_fitsSeen_0 rfl ?_
  refine lv_istore_n (lv' := [(3, .int 0), (0, .ref a), (1, .ref p0), (2, .int p1)]) hx hb dX11_fitsSeen_1 rfl hl (by decide) rfl (fun ls hl => ?_)
  exact b_X11_fitsSeen_2 C F a p0 p1 0 h_a k_a h_p0 k_p0 S s.heap [] _ hf hP hS hW (lv_sub hl [1, 2, 3, 0] rfl)
def s_X11_fit_J42 (N : Nat → Nat) (F : Nat) (k22 : Nat → Nat → Int32 → Int32 → HS → Option (Int32 × HS)) (v0 : Nat) (v1 : Nat) (v2 : Int32) (v3 : Int32) (S : HS) : Option (Int32 × HS) :=
  bnd (v3 + Int32.ofInt 1 : Int32) fun x11 =>
  k22 v0 v1 v2 x11 S
def s_X11_fit_L22 (N : Nat → Nat) (F : Nat) : Nat → Nat → Nat → Int32 → Int32 → HS → Option (Int32 × HS)
  | 0, _, _, _, _, _ => none
  | n + 1, v0, v1, v2, v3, S => if (s_X2_many v1 S) ≤ v3 then
  some (v2, S)
  else
  bd2 (s_X11_fitsSeen N F v0 v1 v3 S) fun r7 S8 =>
  if r7 = (0 : Int32) then
  s_X11_fit_J42 N F (s_X11_fit_L22 N F n) v0 v1 v2 v3 S8
  else
  bnd (v2 + Int32.ofInt 1 : Int32) fun x12 =>
  s_X11_fit_J42 N F (s_X11_fit_L22 N F n) v0 v1 x12 v3 S8
def s_X11_fit (N : Nat → Nat) (F : Nat) (a : Nat) (S : HS) : Option (Int32 × HS) :=
  bd1 (s_X11_formInUse N a S) fun r1 =>
  mq r1
  (some ((-1), S))
  fun t3 =>
  if (s_X2_isSmall t3 S) = (0 : Int32) then
  some ((-1), S)
  else
  s_X11_fit_L22 N F F a t3 0 0 S
set_option maxRecDepth 100000 in
set_option maxHeartbeats 4000000 in
theorem b_X11_fit_42 {p : Program} {l : Launch} {e : Env} {s : State} {m : MethodId} {args : Array Value} {below : List Frame} {meth : Method} {c : Code} {V : EV} {G : GS} {r : Int32} {S' : HS} {F : Nat} (C : CX p s m args meth c RX11 cX11_fit 4 (some .int) V G) {k22 : Nat → Nat → Int32 → Int32 → HS → Option (Int32 × HS)} (hk22 : ∀ (v0 : Nat) (v1 : Nat) (v2 : Int32) (v3 : Int32) (h_v0 : v0 ∈ G.1) (k_v0 : G.2.1 v0 = 11) (h_v1 : v1 ∈ G.1) (k_v1 : G.2.1 v1 = 2) (S : HS) (H : Heap) (locs : List Loc) (ls : Array Slot), k22 v0 v1 v2 v3 S = some (r, S') → HP V G S H → va_S (AG G s.heap.size) s.heap H locs → WT G S → lv_has ls 4 [(0, .ref v0), (1, .ref v1), (2, .int v2), (3, .int v3)] → W p l e (RM 6 204) s m args below meth c H locs 0 0 (MQ below (QI V G S' r s.heap.size) args s 0 0 (AG G s.heap.size)) (F0 m 22 ls [])) : ∀ (v0 : Nat) (v1 : Nat) (v2 : Int32) (v3 : Int32) (h_v0 : v0 ∈ G.1) (k_v0 : G.2.1 v0 = 11) (h_v1 : v1 ∈ G.1) (k_v1 : G.2.1 v1 = 2) (S : HS) (H : Heap) (locs : List Loc) (ls : Array Slot), s_X11_fit_J42 G.2.2 F k22 v0 v1 v2 v3 S = some (r, S') → HP V G S H → va_S (AG G s.heap.size) s.heap H locs → WT G S → lv_has ls 4 [(0, .ref v0), (1, .ref v1), (2, .int v2), (3, .int v3)] → W p l e (RM 6 204) s m args below meth c H locs 0 0 (MQ below (QI V G S' r s.heap.size) args s 0 0 (AG G s.heap.size)) (F0 m 42 ls []) := by
  intro v0 v1 v2 v3 h_v0 k_v0 h_v1 k_v1 S H locs ls hf hP hS hW hl
  have hx := C.1
  have hb := C.2.1
  unfold s_X11_fit_J42 at hf
  obtain ⟨x11, ex11, hf⟩ := bnd_e hf
  refine lv_iinc (v := x11) (lv' := [(3, .int x11), (0, .ref v0), (1, .ref v1), (2, .int v2)]) hx hb dX11_fit_42 hl (k := 3) rfl ex11.symm (by decide) rfl (fun ls hl => ?_)
  refine lv_goto (tgt := 22) hx hb dX11_fit_45 (by decide) ?_
  exact hk22 v0 v1 v2 x11 h_v0 k_v0 h_v1 k_v1 S H locs _ hf hP hS hW (lv_sub hl [1, 2, 3, 0] rfl)
set_option maxRecDepth 100000 in
set_option maxHeartbeats 4000000 in
theorem b_X11_fit_22 {p : Program} {l : Launch} {e : Env} {s : State} {m : MethodId} {args : Array Value} {below : List Frame} {meth : Method} {c : Code} {V : EV} {G : GS} {r : Int32} {S' : HS} {F : Nat} (C : CX p s m args meth c RX11 cX11_fit 4 (some .int) V G) : ∀ n : Nat, ∀ (v0 : Nat) (v1 : Nat) (v2 : Int32) (v3 : Int32) (h_v0 : v0 ∈ G.1) (k_v0 : G.2.1 v0 = 11) (h_v1 : v1 ∈ G.1) (k_v1 : G.2.1 v1 = 2) (S : HS) (H : Heap) (locs : List Loc) (ls : Array Slot), s_X11_fit_L22 G.2.2 F n v0 v1 v2 v3 S = some (r, S') → HP V G S H → va_S (AG G s.heap.size) s.heap H locs → WT G S → lv_has ls 4 [(0, .ref v0), (1, .ref v1), (2, .int v2), (3, .int v3)] → W p l e (RM 6 204) s m args below meth c H locs 0 0 (MQ below (QI V G S' r s.heap.size) args s 0 0 (AG G s.heap.size)) (F0 m 22 ls []) := by
  intro n
  induction n with
  | zero =>
    intro v0 v1 v2 v3 h_v0 k_v0 h_v1 k_v1 S H locs ls hf
    rw [s_X11_fit_L22] at hf
    cases hf
  | succ n ih =>
    intro v0 v1 v2 v3 h_v0 k_v0 h_v1 k_v1 S H locs ls hf hP hS hW hl
    have hx := C.1
    have hb := C.2.1
    rw [s_X11_fit_L22] at hf
    refine lv_iload_n hx hb dX11_fit_22 rfl (lv_at hl 3 rfl) ?_
    refine lv_aload_n hx hb dX11_fit_23 rfl (lv_at hl 1 rfl) ?_
    refine x_aft_i (x_runV (As := []) (rest := [.int v3]) C hP hS (c_X2_many (l := l) C.2.2.2.2.2.2.2.2.2.1 hW h_v1 k_v1 rfl H.size) h_v1 k_v1 (by decide) rfl rfl km_X2_many ki_X2_many qm_X11_343 ⟨(Nat.le_of_ble_eq_true rfl), (Nat.le_of_ble_eq_true rfl)⟩ rfl hl.1 rfl (Nat.le_of_ble_eq_true rfl) ⟨Nat.zero_le _, Nat.zero_le _⟩ dX11_fit_24) hS (fun H locs hP hS hW => ?_)
    refine lv_icmp_ge (tgt := 48) hx hb dX11_fit_27 (by decide) (fun c6 => ?_) (fun c6 => ?_)
    · have hf := if_t c6 hf
      refine lv_iload_n hx hb dX11_fit_48 rfl (lv_at hl 2 rfl) ?_
      cases hf
      exact x_reti C hP hS hW dX11_fit_49
    · have hf := if_f c6 hf
      refine lv_aload_n hx hb dX11_fit_30 rfl (lv_at hl 0 rfl) ?_
      refine lv_aload_n hx hb dX11_fit_31 rfl (lv_at hl 1 rfl) ?_
      refine lv_iload_n hx hb dX11_fit_32 rfl (lv_at hl 3 rfl) ?_
      obtain ⟨r7, S8, eS8, hf⟩ := bd2_e hf
      refine x_aft_z (x_runV (As := [.ref v1, .int v3]) (rest := []) C hP hS (c_X11_fitsSeen (l := l) C.2.2.2.2.2.2.2.2.2.1 hW h_v0 k_v0 h_v1 k_v1 eS8 H.size) h_v0 k_v0 (by decide) rfl rfl km_X11_fitsSeen ki_X11_fitsSeen qm_X11_372 ⟨(Nat.le_of_ble_eq_true rfl), (Nat.le_of_ble_eq_true rfl)⟩ rfl hl.1 rfl (Nat.le_of_ble_eq_true rfl) ⟨Nat.zero_le _, Nat.zero_le _⟩ dX11_fit_33) hS (fun H locs hP hS hW z9 => ?_)
      refine lv_if_eq (tgt := 42) hx hb dX11_fit_36 (by decide) (fun c10 => ?_) (fun c10 => ?_)
      · have hf := if_t c10 hf
        exact b_X11_fit_42 C ih v0 v1 v2 v3 h_v0 k_v0 h_v1 k_v1 S8 H locs _ hf hP hS hW (lv_sub hl [0, 1, 2, 3] rfl)
      · have hf := if_f c10 hf
        obtain ⟨x12, ex12, hf⟩ := bnd_e hf
        refine lv_iinc (v := x12) (lv' := [(2, .int x12), (0, .ref v0), (1, .ref v1), (3, .int v3)]) hx hb dX11_fit_39 hl (k := 2) rfl ex12.symm (by decide) rfl (fun ls hl => ?_)
        exact b_X11_fit_42 C ih v0 v1 x12 v3 h_v0 k_v0 h_v1 k_v1 S8 H locs _ hf hP hS hW (lv_sub hl [1, 2, 0, 3] rfl)
set_option maxRecDepth 100000 in
set_option maxHeartbeats 4000000 in
theorem c_X11_fit {l : Launch} {V : EV} {G : GS} {S : HS} {F : Nat} {a : Nat} {r : Int32} {S' : HS} (hN : G.1.Nodup) (hW : WT G S) (h_a : a ∈ G.1) (k_a : G.2.1 a = 11) (hf : s_X11_fit G.2.2 F a S = some (r, S')) : MetI l yX11_fit cX11_fit 4 .int 6 204 V G S [.ref a] r S' := by
  intro sz
  refine x_in RX11 rfl (by decide +kernel) hN (Nat.le_of_ble_eq_true rfl) (fun p e s m args below meth c ls hsz hargs hnm C hP hS hl => ?_)
  subst hsz
  have hx := C.1
  have hb := C.2.1
  have hl : lv_has ls 4 [(0, .ref a)] := hl
  unfold s_X11_fit at hf
  refine lv_aload_n hx hb dX11_fit_0 rfl (lv_at hl 0 rfl) ?_
  obtain ⟨r1, er1, hf⟩ := bd1_e hf
  refine x_aft_r (x_runV (As := []) (rest := []) C hP hS (c_X11_formInUse (l := l) C.2.2.2.2.2.2.2.2.2.1 hW h_a k_a er1 s.heap.size) h_a k_a (by decide) rfl rfl km_X11_formInUse ki_X11_formInUse qm_X11_162 ⟨(Nat.le_of_ble_eq_true rfl), (Nat.le_of_ble_eq_true rfl)⟩ rfl hl.1 rfl (Nat.le_of_ble_eq_true rfl) ⟨Nat.zero_le _, Nat.zero_le _⟩ dX11_fit_1) hS (fun H locs hP hS hW q2 => ?_)
  cases r1 with
  | none =>
    have hf := mq_n rfl hf
    show W _ _ _ _ _ _ _ _ _ _ _ _ _ _ _ (F0 m 4 ls (.null :: []))
    refine lv_astore_nN (lv' := [(1, .null), (0, .ref a)]) hx hb dX11_fit_4 rfl hl (by decide) rfl (fun ls hl => ?_)
    refine lv_aload_nN hx hb dX11_fit_5 rfl (lv_at hl 0 rfl) ?_
    refine lv_ifnullN (tgt := 16) hx hb dX11_fit_6 (by decide) ?_
    refine lv_iconst (v := (-1)) hx hb dX11_fit_16 rfl ?_
    cases hf
    exact x_reti C hP hS hW dX11_fit_17
  | some t3 =>
    have hf := mq_s rfl hf
    obtain ⟨h_t3, k_t3⟩ := q2 _ rfl
    show W _ _ _ _ _ _ _ _ _ _ _ _ _ _ _ (F0 m 4 ls (.ref t3 :: []))
    refine lv_astore_n (lv' := [(1, .ref t3), (0, .ref a)]) hx hb dX11_fit_4 rfl hl (by decide) rfl (fun ls hl => ?_)
    refine lv_aload_n hx hb dX11_fit_5 rfl (lv_at hl 0 rfl) ?_
    refine lv_ifnull hx hb dX11_fit_6 ?_
    refine lv_aload_n hx hb dX11_fit_9 rfl (lv_at hl 0 rfl) ?_
    refine x_aft_z (x_runV (As := []) (rest := []) C hP hS (c_X2_isSmall (l := l) C.2.2.2.2.2.2.2.2.2.1 hW h_t3 k_t3 rfl H.size) h_t3 k_t3 (by decide) rfl rfl km_X2_isSmall ki_X2_isSmall qm_X11_369 ⟨(Nat.le_of_ble_eq_true rfl), (Nat.le_of_ble_eq_true rfl)⟩ rfl hl.1 rfl (Nat.le_of_ble_eq_true rfl) ⟨Nat.zero_le _, Nat.zero_le _⟩ dX11_fit_10) hS (fun H locs hP hS hW z4 => ?_)
    refine lv_if_ne (tgt := 18) hx hb dX11_fit_13 (by decide) (fun c5 => ?_) (fun c5 => ?_)
    · have hf := if_f c5 hf
      refine lv_iconst (v := 0) hx hb dX11_fit_18 rfl ?_
      refine lv_istore_n (lv' := [(2, .int 0), (1, .ref t3), (0, .ref a)]) hx hb dX11_fit_19 rfl hl (by decide) rfl (fun ls hl => ?_)
      refine lv_iconst (v := 0) hx hb dX11_fit_20 rfl ?_
      refine lv_istore_n (lv' := [(3, .int 0), (2, .int 0), (1, .ref t3), (0, .ref a)]) hx hb dX11_fit_21 rfl hl (by decide) rfl (fun ls hl => ?_)
      exact b_X11_fit_22 C F a t3 0 0 h_a k_a h_t3 k_t3 S H locs _ hf hP hS hW (lv_sub hl [3, 2, 1, 0] rfl)
    · have hf := if_t c5 hf
      refine lv_iconst (v := (-1)) hx hb dX11_fit_16 rfl ?_
      cases hf
      exact x_reti C hP hS hW dX11_fit_17
def s_X11_fuse (N : Nat → Nat) (F : Nat) (a : Nat) (p0 : Nat) (p1 : Int32) (p2 : Int32) (p3 : Int32) (p4 : Int32) (S : HS) : Option (Int32 × HS) :=
  bd1 (gR S 1111 a) fun t1 =>
  bd1 (s_X9_formAt N t1 (gI S 701 p0) S) fun r2 =>
  mq r2
  (some (0, S))
  fun t4 =>
  bd1 (gR S 1101 a) fun t5 =>
  bd1 (s_X7_read N p0 p2 S) fun r6 =>
  bd1 (s_X7_read N p0 p3 S) fun r7 =>
  bd1 (s_X7_read N p0 p4 S) fun r8 =>
  bd1 (s_X0_add F t5 t4 (gI S 702 p0) r6 r7 r8 S) fun S9 =>
  bd1 (gR S9 1101 a) fun t10 =>
  bd1 (s_X7_put N p0 p1 (gI S9 1 t10) S9) fun S11 =>
  bd1 (gR S11 1101 a) fun t12 =>
  bnd (uI S11 703 p0 ((gI S11 703 p0) ||| (gI S11 2 t12))) fun S13 =>
  bd1 (gR S13 1101 a) fun t14 =>
  some (gI S13 2 t14, S13)
set_option maxRecDepth 100000 in
set_option maxHeartbeats 4000000 in
theorem c_X11_fuse {l : Launch} {V : EV} {G : GS} {S : HS} {F : Nat} {a : Nat} {p0 : Nat} {p1 : Int32} {p2 : Int32} {p3 : Int32} {p4 : Int32} {r : Int32} {S' : HS} (hN : G.1.Nodup) (hW : WT G S) (h_a : a ∈ G.1) (k_a : G.2.1 a = 11) (h_p0 : p0 ∈ G.1) (k_p0 : G.2.1 p0 = 7) (hf : s_X11_fuse G.2.2 F a p0 p1 p2 p3 p4 S = some (r, S')) : MetI l yX11_fuse cX11_fuse 7 .int 5 172 V G S [.ref a, .ref p0, .int p1, .int p2, .int p3, .int p4] r S' := by
  intro sz
  refine x_in RX11 rfl (by decide +kernel) hN (Nat.le_of_ble_eq_true rfl) (fun p e s m args below meth c ls hsz hargs hnm C hP hS hl => ?_)
  subst hsz
  have hx := C.1
  have hb := C.2.1
  have hl : lv_has ls 7 [(0, .ref a), (1, .ref p0), (2, .int p1), (3, .int p2), (4, .int p3), (5, .int p4)] := hl
  unfold s_X11_fuse at hf
  refine lv_aload_n hx hb dX11_fuse_0 rfl (lv_at hl 0 rfl) ?_
  refine gf_X11_68 C hP h_a k_a dX11_fuse_1 ?_
  obtain ⟨t1, et1, hf⟩ := bd1_e hf
  obtain ⟨h_t1, k_t1⟩ := wt_r hW h_a k_a (by decide) et1
  have k_t1 : G.2.1 t1 = 9 := k_t1
  rw [et1]
  refine lv_aload_n hx hb dX11_fuse_4 rfl (lv_at hl 1 rfl) ?_
  refine gf_X11_115 C hP h_p0 k_p0 dX11_fuse_5 ?_
  obtain ⟨r2, er2, hf⟩ := bd1_e hf
  refine x_aft_r (x_runV (As := [.int (gI S 701 p0)]) (rest := []) C hP hS (c_X9_formAt (l := l) C.2.2.2.2.2.2.2.2.2.1 hW h_t1 k_t1 er2 s.heap.size) h_t1 k_t1 (by decide) rfl rfl km_X9_formAt ki_X9_formAt qm_X11_138 ⟨(Nat.le_of_ble_eq_true rfl), (Nat.le_of_ble_eq_true rfl)⟩ rfl hl.1 rfl (Nat.le_of_ble_eq_true rfl) ⟨Nat.zero_le _, Nat.zero_le _⟩ dX11_fuse_8) hS (fun H locs hP hS hW q3 => ?_)
  cases r2 with
  | none =>
    have hf := mq_n rfl hf
    show W _ _ _ _ _ _ _ _ _ _ _ _ _ _ _ (F0 m 11 ls (.null :: []))
    refine lv_astoreN (lv' := [(6, .null), (0, .ref a), (1, .ref p0), (2, .int p1), (3, .int p2), (4, .int p3), (5, .int p4)]) hx hb dX11_fuse_11 hl (by decide) rfl (fun ls hl => ?_)
    refine lv_aloadN hx hb dX11_fuse_13 (lv_at hl 0 rfl) ?_
    refine lv_ifnonnullN hx hb dX11_fuse_15 ?_
    refine lv_iconst (v := 0) hx hb dX11_fuse_18 rfl ?_
    cases hf
    exact x_reti C hP hS hW dX11_fuse_19
  | some t4 =>
    have hf := mq_s rfl hf
    obtain ⟨h_t4, k_t4⟩ := q3 _ rfl
    show W _ _ _ _ _ _ _ _ _ _ _ _ _ _ _ (F0 m 11 ls (.ref t4 :: []))
    refine lv_astore (lv' := [(6, .ref t4), (0, .ref a), (1, .ref p0), (2, .int p1), (3, .int p2), (4, .int p3), (5, .int p4)]) hx hb dX11_fuse_11 hl (by decide) rfl (fun ls hl => ?_)
    refine lv_aload hx hb dX11_fuse_13 (lv_at hl 0 rfl) ?_
    refine lv_ifnonnull (tgt := 20) hx hb dX11_fuse_15 (by decide) ?_
    refine lv_aload_n hx hb dX11_fuse_20 rfl (lv_at hl 1 rfl) ?_
    refine gf_X11_19 C hP h_a k_a dX11_fuse_21 ?_
    obtain ⟨t5, et5, hf⟩ := bd1_e hf
    obtain ⟨h_t5, k_t5⟩ := wt_r hW h_a k_a (by decide) et5
    have k_t5 : G.2.1 t5 = 0 := k_t5
    rw [et5]
    refine lv_aload hx hb dX11_fuse_24 (lv_at hl 0 rfl) ?_
    refine lv_aload_n hx hb dX11_fuse_26 rfl (lv_at hl 2 rfl) ?_
    refine gf_X11_193 C hP h_p0 k_p0 dX11_fuse_27 ?_
    refine lv_aload_n hx hb dX11_fuse_30 rfl (lv_at hl 2 rfl) ?_
    refine lv_iload_n hx hb dX11_fuse_31 rfl (lv_at hl 4 rfl) ?_
    obtain ⟨r6, er6, hf⟩ := bd1_e hf
    refine x_aft_i (x_runV (As := [.int p2]) (rest := [.int (gI S 702 p0), .ref t4, .ref t5]) C hP hS (c_X7_read (l := l) C.2.2.2.2.2.2.2.2.2.1 hW h_p0 k_p0 er6 H.size) h_p0 k_p0 (by decide) rfl rfl km_X7_read ki_X7_read qm_X11_170 ⟨(Nat.le_of_ble_eq_true rfl), (Nat.le_of_ble_eq_true rfl)⟩ rfl hl.1 rfl (Nat.le_of_ble_eq_true rfl) ⟨Nat.zero_le _, Nat.zero_le _⟩ dX11_fuse_32) hS (fun H locs hP hS hW => ?_)
    refine lv_aload_n hx hb dX11_fuse_35 rfl (lv_at hl 2 rfl) ?_
    refine lv_iload hx hb dX11_fuse_36 (lv_at hl 5 rfl) ?_
    obtain ⟨r7, er7, hf⟩ := bd1_e hf
    refine x_aft_i (x_runV (As := [.int p3]) (rest := [.int r6, .int (gI S 702 p0), .ref t4, .ref t5]) C hP hS (c_X7_read (l := l) C.2.2.2.2.2.2.2.2.2.1 hW h_p0 k_p0 er7 H.size) h_p0 k_p0 (by decide) rfl rfl km_X7_read ki_X7_read qm_X11_170 ⟨(Nat.le_of_ble_eq_true rfl), (Nat.le_of_ble_eq_true rfl)⟩ rfl hl.1 rfl (Nat.le_of_ble_eq_true rfl) ⟨Nat.zero_le _, Nat.zero_le _⟩ dX11_fuse_38) hS (fun H locs hP hS hW => ?_)
    refine lv_aload_n hx hb dX11_fuse_41 rfl (lv_at hl 2 rfl) ?_
    refine lv_iload hx hb dX11_fuse_42 (lv_at hl 6 rfl) ?_
    obtain ⟨r8, er8, hf⟩ := bd1_e hf
    refine x_aft_i (x_runV (As := [.int p4]) (rest := [.int r7, .int r6, .int (gI S 702 p0), .ref t4, .ref t5]) C hP hS (c_X7_read (l := l) C.2.2.2.2.2.2.2.2.2.1 hW h_p0 k_p0 er8 H.size) h_p0 k_p0 (by decide) rfl rfl km_X7_read ki_X7_read qm_X11_170 ⟨(Nat.le_of_ble_eq_true rfl), (Nat.le_of_ble_eq_true rfl)⟩ rfl hl.1 rfl (Nat.le_of_ble_eq_true rfl) ⟨Nat.zero_le _, Nat.zero_le _⟩ dX11_fuse_44) hS (fun H locs hP hS hW => ?_)
    obtain ⟨S9, eS9, hf⟩ := bd1_e hf
    refine x_aft_v (x_runV (As := [.ref t4, .int (gI S 702 p0), .int r6, .int r7, .int r8]) (rest := []) C hP hS (c_X0_add (l := l) C.2.2.2.2.2.2.2.2.2.1 hW h_t5 k_t5 h_t4 k_t4 eS9 H.size) h_t5 k_t5 (by decide) rfl rfl km_X0_add ki_X0_add qm_X11_305 ⟨(Nat.le_of_ble_eq_true rfl), (Nat.le_of_ble_eq_true rfl)⟩ rfl hl.1 rfl (Nat.le_of_ble_eq_true rfl) ⟨Nat.zero_le _, Nat.zero_le _⟩ dX11_fuse_47) hS (fun H locs hP hS hW => ?_)
    refine lv_aload_n hx hb dX11_fuse_50 rfl (lv_at hl 2 rfl) ?_
    refine lv_iload_n hx hb dX11_fuse_51 rfl (lv_at hl 3 rfl) ?_
    refine lv_aload_n hx hb dX11_fuse_52 rfl (lv_at hl 1 rfl) ?_
    refine gf_X11_19 C hP h_a k_a dX11_fuse_53 ?_
    obtain ⟨t10, et10, hf⟩ := bd1_e hf
    obtain ⟨h_t10, k_t10⟩ := wt_r hW h_a k_a (by decide) et10
    have k_t10 : G.2.1 t10 = 0 := k_t10
    rw [et10]
    refine gf_X11_196 C hP h_t10 k_t10 dX11_fuse_56 ?_
    obtain ⟨S11, eS11, hf⟩ := bd1_e hf
    refine x_aft_v (x_runV (As := [.int p1, .int (gI S9 1 t10)]) (rest := []) C hP hS (c_X7_put (l := l) C.2.2.2.2.2.2.2.2.2.1 hW h_p0 k_p0 eS11 H.size) h_p0 k_p0 (by decide) rfl rfl km_X7_put ki_X7_put qm_X11_181 ⟨(Nat.le_of_ble_eq_true rfl), (Nat.le_of_ble_eq_true rfl)⟩ rfl hl.1 rfl (Nat.le_of_ble_eq_true rfl) ⟨Nat.zero_le _, Nat.zero_le _⟩ dX11_fuse_59) hS (fun H locs hP hS hW => ?_)
    refine lv_aload_n hx hb dX11_fuse_62 rfl (lv_at hl 2 rfl) ?_
    refine lv_dup hx hb dX11_fuse_63 rfl ?_
    refine gf_X11_210 C hP h_p0 k_p0 dX11_fuse_64 ?_
    refine lv_aload_n hx hb dX11_fuse_67 rfl (lv_at hl 1 rfl) ?_
    refine gf_X11_19 C hP h_a k_a dX11_fuse_68 ?_
    obtain ⟨t12, et12, hf⟩ := bd1_e hf
    obtain ⟨h_t12, k_t12⟩ := wt_r hW h_a k_a (by decide) et12
    have k_t12 : G.2.1 t12 = 0 := k_t12
    rw [et12]
    refine gf_X11_304 C hP h_t12 k_t12 dX11_fuse_71 ?_
    refine lv_ior hx hb dX11_fuse_74 ?_
    obtain ⟨S13, eS13, hf⟩ := bnd_e hf
    refine pf_X11_210 C hP hS h_p0 k_p0 eS13 dX11_fuse_75 (fun H locs hP hS => ?_)
    have hW : WT G S13 := by rw [eS13]; exact hW
    refine lv_aload_n hx hb dX11_fuse_78 rfl (lv_at hl 1 rfl) ?_
    refine gf_X11_19 C hP h_a k_a dX11_fuse_79 ?_
    obtain ⟨t14, et14, hf⟩ := bd1_e hf
    obtain ⟨h_t14, k_t14⟩ := wt_r hW h_a k_a (by decide) et14
    have k_t14 : G.2.1 t14 = 0 := k_t14
    rw [et14]
    refine gf_X11_304 C hP h_t14 k_t14 dX11_fuse_82 ?_
    cases hf
    exact x_reti C hP hS hW dX11_fuse_85
def s_X11_resultKey (p0 : Nat) (p1 : Int32) (p2 : Int32) (S : HS) : Int32 :=
  if (s_X2_isNought p0 p2 S) = (0 : Int32) then
  if (s_X2_isNan p0 p2 S) = (0 : Int32) then
  (p1 <<< ((27 : Int32) &&& 31)) ||| p2
  else
  (-2)
  else
  (-1)
set_option maxRecDepth 100000 in
set_option maxHeartbeats 4000000 in
theorem c_X11_resultKey {l : Launch} {V : EV} {G : GS} {S : HS} {p0 : Nat} {p1 : Int32} {p2 : Int32} {r : Int32} (hN : G.1.Nodup) (hW : WT G S) (h_p0 : p0 ∈ G.1) (k_p0 : G.2.1 p0 = 2) (hf : s_X11_resultKey p0 p1 p2 S = r) : MetI l yX11_resultKey cX11_resultKey 3 .int 2 58 V G S [.ref p0, .int p1, .int p2] r S := by
  intro sz
  refine x_in RX11 rfl (by decide +kernel) hN (Nat.le_of_ble_eq_true rfl) (fun p e s m args below meth c ls hsz hargs hnm C hP hS hl => ?_)
  subst hsz
  have hx := C.1
  have hb := C.2.1
  have hl : lv_has ls 3 [(0, .ref p0), (1, .int p1), (2, .int p2)] := hl
  unfold s_X11_resultKey at hf
  refine lv_aload_n hx hb dX11_resultKey_0 rfl (lv_at hl 0 rfl) ?_
  refine lv_iload_n hx hb dX11_resultKey_1 rfl (lv_at hl 2 rfl) ?_
  refine x_aft_z (x_runV (As := [.int p2]) (rest := []) C hP hS (c_X2_isNought (l := l) C.2.2.2.2.2.2.2.2.2.1 hW h_p0 k_p0 rfl s.heap.size) h_p0 k_p0 (by decide) rfl rfl km_X2_isNought ki_X2_isNought qm_X11_268 ⟨(Nat.le_of_ble_eq_true rfl), (Nat.le_of_ble_eq_true rfl)⟩ rfl hl.1 rfl (Nat.le_of_ble_eq_true rfl) ⟨Nat.zero_le _, Nat.zero_le _⟩ dX11_resultKey_2) hS (fun H locs hP hS hW z1 => ?_)
  refine lv_if_eq (tgt := 10) hx hb dX11_resultKey_5 (by decide) (fun c2 => ?_) (fun c2 => ?_)
  · have hf := if_t c2 hf
    refine lv_aload_n hx hb dX11_resultKey_10 rfl (lv_at hl 0 rfl) ?_
    refine lv_iload_n hx hb dX11_resultKey_11 rfl (lv_at hl 2 rfl) ?_
    refine x_aft_z (x_runV (As := [.int p2]) (rest := []) C hP hS (c_X2_isNan (l := l) C.2.2.2.2.2.2.2.2.2.1 hW h_p0 k_p0 rfl H.size) h_p0 k_p0 (by decide) rfl rfl km_X2_isNan ki_X2_isNan qm_X11_241 ⟨(Nat.le_of_ble_eq_true rfl), (Nat.le_of_ble_eq_true rfl)⟩ rfl hl.1 rfl (Nat.le_of_ble_eq_true rfl) ⟨Nat.zero_le _, Nat.zero_le _⟩ dX11_resultKey_12) hS (fun H locs hP hS hW z3 => ?_)
    refine lv_if_eq (tgt := 23) hx hb dX11_resultKey_15 (by decide) (fun c4 => ?_) (fun c4 => ?_)
    · have hf := if_t c4 hf
      refine lv_iload_n hx hb dX11_resultKey_23 rfl (lv_at hl 1 rfl) ?_
      refine lv_bipush (v := 27) hx hb dX11_resultKey_24 kc_bipush_27 ?_
      refine lv_ishl hx hb dX11_resultKey_26 ?_
      refine lv_iload_n hx hb dX11_resultKey_27 rfl (lv_at hl 2 rfl) ?_
      refine lv_ior hx hb dX11_resultKey_28 ?_
      cases hf
      exact x_reti C hP hS hW dX11_resultKey_29
    · have hf := if_f c4 hf
      refine lv_bipush (v := (-2)) hx hb dX11_resultKey_18 kc_bipush_m2 ?_
      refine lv_goto (tgt := 29) hx hb dX11_resultKey_20 (by decide) ?_
      cases hf
      exact x_reti C hP hS hW dX11_resultKey_29
  · have hf := if_f c2 hf
    refine lv_iconst (v := (-1)) hx hb dX11_resultKey_8 rfl ?_
    cases hf
    exact x_reti C hP hS hW dX11_resultKey_9
def s_X11_fma (N : Nat → Nat) (F : Nat) (a : Nat) (p0 : Int32) (p1 : Int32) (p2 : Int32) (p3 : Int32) (S : HS) : Option (Int32 × HS) :=
  bd1 (s_X11_formInUse N a S) fun r1 =>
  mq r1
  (some ((-1), S))
  fun t3 =>
  bd1 (s_X11_areRegisters a p0 p1 p2 p3 S) fun r4 =>
  if r4 = (0 : Int32) then
  some ((-1), S)
  else
  bd1 (gR S 1103 a) fun t7 =>
  bd1 (gR S 1104 a) fun t8 =>
  bd1 (s_X4_keep N F t7 t8 1 S) fun S9 =>
  bd1 (gR S9 1104 a) fun t10 =>
  bd1 (s_X7_read N t10 p1 S9) fun r11 =>
  bd1 (gR S9 1104 a) fun t12 =>
  bd1 (s_X7_read N t12 p2 S9) fun r13 =>
  bd1 (gR S9 1104 a) fun t14 =>
  bd1 (s_X7_read N t14 p3 S9) fun r15 =>
  bd1 (gR S9 1104 a) fun t16 =>
  bd2 (s_X11_fuse N F a t16 p0 p1 p2 p3 S9) fun r17 S18 =>
  bd1 (gR S18 1102 a) fun t19 =>
  bd1 (gR S18 1104 a) fun t20 =>
  bd1 (gR S18 1104 a) fun t21 =>
  bd1 (gR S18 1104 a) fun t22 =>
  bd1 (gR S18 1101 a) fun t23 =>
  bd1 (s_X1_note N F t19 (gI S18 701 t20) (gI S18 702 t21) r11 r13 r15 (s_X11_resultKey t3 (gI S18 701 t22) (gI S18 1 t23) S18) S18) fun S24 =>
  some (r17, S24)
set_option maxRecDepth 100000 in
set_option maxHeartbeats 4000000 in
theorem c_X11_fma {l : Launch} {V : EV} {G : GS} {S : HS} {F : Nat} {a : Nat} {p0 : Int32} {p1 : Int32} {p2 : Int32} {p3 : Int32} {r : Int32} {S' : HS} (hN : G.1.Nodup) (hW : WT G S) (h_a : a ∈ G.1) (k_a : G.2.1 a = 11) (hf : s_X11_fma G.2.2 F a p0 p1 p2 p3 S = some (r, S')) : MetI l yX11_fma cX11_fma 10 .int 6 206 V G S [.ref a, .int p0, .int p1, .int p2, .int p3] r S' := by
  intro sz
  refine x_in RX11 rfl (by decide +kernel) hN (Nat.le_of_ble_eq_true rfl) (fun p e s m args below meth c ls hsz hargs hnm C hP hS hl => ?_)
  subst hsz
  have hx := C.1
  have hb := C.2.1
  have hl : lv_has ls 10 [(0, .ref a), (1, .int p0), (2, .int p1), (3, .int p2), (4, .int p3)] := hl
  unfold s_X11_fma at hf
  refine lv_aload_n hx hb dX11_fma_0 rfl (lv_at hl 0 rfl) ?_
  obtain ⟨r1, er1, hf⟩ := bd1_e hf
  refine x_aft_r (x_runV (As := []) (rest := []) C hP hS (c_X11_formInUse (l := l) C.2.2.2.2.2.2.2.2.2.1 hW h_a k_a er1 s.heap.size) h_a k_a (by decide) rfl rfl km_X11_formInUse ki_X11_formInUse qm_X11_162 ⟨(Nat.le_of_ble_eq_true rfl), (Nat.le_of_ble_eq_true rfl)⟩ rfl hl.1 rfl (Nat.le_of_ble_eq_true rfl) ⟨Nat.zero_le _, Nat.zero_le _⟩ dX11_fma_1) hS (fun H locs hP hS hW q2 => ?_)
  cases r1 with
  | none =>
    have hf := mq_n rfl hf
    show W _ _ _ _ _ _ _ _ _ _ _ _ _ _ _ (F0 m 4 ls (.null :: []))
    refine lv_astoreN (lv' := [(5, .null), (0, .ref a), (1, .int p0), (2, .int p1), (3, .int p2), (4, .int p3)]) hx hb dX11_fma_4 hl (by decide) rfl (fun ls hl => ?_)
    refine lv_aloadN hx hb dX11_fma_6 (lv_at hl 0 rfl) ?_
    refine lv_ifnullN (tgt := 23) hx hb dX11_fma_8 (by decide) ?_
    refine lv_iconst (v := (-1)) hx hb dX11_fma_23 rfl ?_
    cases hf
    exact x_reti C hP hS hW dX11_fma_24
  | some t3 =>
    have hf := mq_s rfl hf
    obtain ⟨h_t3, k_t3⟩ := q2 _ rfl
    show W _ _ _ _ _ _ _ _ _ _ _ _ _ _ _ (F0 m 4 ls (.ref t3 :: []))
    refine lv_astore (lv' := [(5, .ref t3), (0, .ref a), (1, .int p0), (2, .int p1), (3, .int p2), (4, .int p3)]) hx hb dX11_fma_4 hl (by decide) rfl (fun ls hl => ?_)
    refine lv_aload hx hb dX11_fma_6 (lv_at hl 0 rfl) ?_
    refine lv_ifnull hx hb dX11_fma_8 ?_
    refine lv_aload_n hx hb dX11_fma_11 rfl (lv_at hl 1 rfl) ?_
    refine lv_iload_n hx hb dX11_fma_12 rfl (lv_at hl 2 rfl) ?_
    refine lv_iload_n hx hb dX11_fma_13 rfl (lv_at hl 3 rfl) ?_
    refine lv_iload_n hx hb dX11_fma_14 rfl (lv_at hl 4 rfl) ?_
    refine lv_iload hx hb dX11_fma_15 (lv_at hl 5 rfl) ?_
    obtain ⟨r4, er4, hf⟩ := bd1_e hf
    refine x_aft_z (x_runV (As := [.int p0, .int p1, .int p2, .int p3]) (rest := []) C hP hS (c_X11_areRegisters (l := l) C.2.2.2.2.2.2.2.2.2.1 hW h_a k_a er4 H.size) h_a k_a (by decide) rfl rfl km_X11_areRegisters ki_X11_areRegisters qm_X11_185 ⟨(Nat.le_of_ble_eq_true rfl), (Nat.le_of_ble_eq_true rfl)⟩ rfl hl.1 rfl (Nat.le_of_ble_eq_true rfl) ⟨Nat.zero_le _, Nat.zero_le _⟩ dX11_fma_17) hS (fun H locs hP hS hW z5 => ?_)
    refine lv_if_ne (tgt := 25) hx hb dX11_fma_20 (by decide) (fun c6 => ?_) (fun c6 => ?_)
    · have hf := if_f c6 hf
      refine lv_aload_n hx hb dX11_fma_25 rfl (lv_at hl 1 rfl) ?_
      refine gf_X11_33 C hP h_a k_a dX11_fma_26 ?_
      obtain ⟨t7, et7, hf⟩ := bd1_e hf
      obtain ⟨h_t7, k_t7⟩ := wt_r hW h_a k_a (by decide) et7
      have k_t7 : G.2.1 t7 = 4 := k_t7
      rw [et7]
      refine lv_aload_n hx hb dX11_fma_29 rfl (lv_at hl 1 rfl) ?_
      refine gf_X11_40 C hP h_a k_a dX11_fma_30 ?_
      obtain ⟨t8, et8, hf⟩ := bd1_e hf
      obtain ⟨h_t8, k_t8⟩ := wt_r hW h_a k_a (by decide) et8
      have k_t8 : G.2.1 t8 = 7 := k_t8
      rw [et8]
      refine lv_iconst (v := 1) hx hb dX11_fma_33 rfl ?_
      obtain ⟨S9, eS9, hf⟩ := bd1_e hf
      refine x_aft_v (x_runV (As := [.ref t8, .int 1]) (rest := []) C hP hS (c_X4_keep (l := l) C.2.2.2.2.2.2.2.2.2.1 hW h_t7 k_t7 h_t8 k_t8 eS9 H.size) h_t7 k_t7 (by decide) rfl rfl km_X4_keep ki_X4_keep qm_X11_177 ⟨(Nat.le_of_ble_eq_true rfl), (Nat.le_of_ble_eq_true rfl)⟩ rfl hl.1 rfl (Nat.le_of_ble_eq_true rfl) ⟨Nat.zero_le _, Nat.zero_le _⟩ dX11_fma_34) hS (fun H locs hP hS hW => ?_)
      refine lv_aload_n hx hb dX11_fma_37 rfl (lv_at hl 1 rfl) ?_
      refine gf_X11_40 C hP h_a k_a dX11_fma_38 ?_
      obtain ⟨t10, et10, hf⟩ := bd1_e hf
      obtain ⟨h_t10, k_t10⟩ := wt_r hW h_a k_a (by decide) et10
      have k_t10 : G.2.1 t10 = 7 := k_t10
      rw [et10]
      refine lv_iload_n hx hb dX11_fma_41 rfl (lv_at hl 3 rfl) ?_
      obtain ⟨r11, er11, hf⟩ := bd1_e hf
      refine x_aft_i (x_runV (As := [.int p1]) (rest := []) C hP hS (c_X7_read (l := l) C.2.2.2.2.2.2.2.2.2.1 hW h_t10 k_t10 er11 H.size) h_t10 k_t10 (by decide) rfl rfl km_X7_read ki_X7_read qm_X11_170 ⟨(Nat.le_of_ble_eq_true rfl), (Nat.le_of_ble_eq_true rfl)⟩ rfl hl.1 rfl (Nat.le_of_ble_eq_true rfl) ⟨Nat.zero_le _, Nat.zero_le _⟩ dX11_fma_42) hS (fun H locs hP hS hW => ?_)
      refine lv_istore (lv' := [(6, .int r11), (5, .ref t3), (0, .ref a), (1, .int p0), (2, .int p1), (3, .int p2), (4, .int p3)]) hx hb dX11_fma_45 hl (by decide) rfl (fun ls hl => ?_)
      refine lv_aload_n hx hb dX11_fma_47 rfl (lv_at hl 2 rfl) ?_
      refine gf_X11_40 C hP h_a k_a dX11_fma_48 ?_
      obtain ⟨t12, et12, hf⟩ := bd1_e hf
      obtain ⟨h_t12, k_t12⟩ := wt_r hW h_a k_a (by decide) et12
      have k_t12 : G.2.1 t12 = 7 := k_t12
      rw [et12]
      refine lv_iload_n hx hb dX11_fma_51 rfl (lv_at hl 5 rfl) ?_
      obtain ⟨r13, er13, hf⟩ := bd1_e hf
      refine x_aft_i (x_runV (As := [.int p2]) (rest := []) C hP hS (c_X7_read (l := l) C.2.2.2.2.2.2.2.2.2.1 hW h_t12 k_t12 er13 H.size) h_t12 k_t12 (by decide) rfl rfl km_X7_read ki_X7_read qm_X11_170 ⟨(Nat.le_of_ble_eq_true rfl), (Nat.le_of_ble_eq_true rfl)⟩ rfl hl.1 rfl (Nat.le_of_ble_eq_true rfl) ⟨Nat.zero_le _, Nat.zero_le _⟩ dX11_fma_52) hS (fun H locs hP hS hW => ?_)
      refine lv_istore (lv' := [(7, .int r13), (6, .int r11), (5, .ref t3), (0, .ref a), (1, .int p0), (2, .int p1), (3, .int p2), (4, .int p3)]) hx hb dX11_fma_55 hl (by decide) rfl (fun ls hl => ?_)
      refine lv_aload_n hx hb dX11_fma_57 rfl (lv_at hl 3 rfl) ?_
      refine gf_X11_40 C hP h_a k_a dX11_fma_58 ?_
      obtain ⟨t14, et14, hf⟩ := bd1_e hf
      obtain ⟨h_t14, k_t14⟩ := wt_r hW h_a k_a (by decide) et14
      have k_t14 : G.2.1 t14 = 7 := k_t14
      rw [et14]
      refine lv_iload hx hb dX11_fma_61 (lv_at hl 7 rfl) ?_
      obtain ⟨r15, er15, hf⟩ := bd1_e hf
      refine x_aft_i (x_runV (As := [.int p3]) (rest := []) C hP hS (c_X7_read (l := l) C.2.2.2.2.2.2.2.2.2.1 hW h_t14 k_t14 er15 H.size) h_t14 k_t14 (by decide) rfl rfl km_X7_read ki_X7_read qm_X11_170 ⟨(Nat.le_of_ble_eq_true rfl), (Nat.le_of_ble_eq_true rfl)⟩ rfl hl.1 rfl (Nat.le_of_ble_eq_true rfl) ⟨Nat.zero_le _, Nat.zero_le _⟩ dX11_fma_63) hS (fun H locs hP hS hW => ?_)
      refine lv_istore (lv' := [(8, .int r15), (7, .int r13), (6, .int r11), (5, .ref t3), (0, .ref a), (1, .int p0), (2, .int p1), (3, .int p2), (4, .int p3)]) hx hb dX11_fma_66 hl (by decide) rfl (fun ls hl => ?_)
      refine lv_aload_n hx hb dX11_fma_68 rfl (lv_at hl 4 rfl) ?_
      refine lv_aload_n hx hb dX11_fma_69 rfl (lv_at hl 4 rfl) ?_
      refine gf_X11_40 C hP h_a k_a dX11_fma_70 ?_
      obtain ⟨t16, et16, hf⟩ := bd1_e hf
      obtain ⟨h_t16, k_t16⟩ := wt_r hW h_a k_a (by decide) et16
      have k_t16 : G.2.1 t16 = 7 := k_t16
      rw [et16]
      refine lv_iload_n hx hb dX11_fma_73 rfl (lv_at hl 5 rfl) ?_
      refine lv_iload_n hx hb dX11_fma_74 rfl (lv_at hl 6 rfl) ?_
      refine lv_iload_n hx hb dX11_fma_75 rfl (lv_at hl 7 rfl) ?_
      refine lv_iload hx hb dX11_fma_76 (lv_at hl 8 rfl) ?_
      obtain ⟨r17, S18, eS18, hf⟩ := bd2_e hf
      refine x_aft_i (x_runV (As := [.ref t16, .int p0, .int p1, .int p2, .int p3]) (rest := []) C hP hS (c_X11_fuse (l := l) C.2.2.2.2.2.2.2.2.2.1 hW h_a k_a h_t16 k_t16 eS18 H.size) h_a k_a (by decide) rfl rfl km_X11_fuse ki_X11_fuse qm_X11_189 ⟨(Nat.le_of_ble_eq_true rfl), (Nat.le_of_ble_eq_true rfl)⟩ rfl hl.1 rfl (Nat.le_of_ble_eq_true rfl) ⟨Nat.zero_le _, Nat.zero_le _⟩ dX11_fma_78) hS (fun H locs hP hS hW => ?_)
      refine lv_istore (lv' := [(9, .int r17), (8, .int r15), (7, .int r13), (6, .int r11), (5, .ref t3), (0, .ref a), (1, .int p0), (2, .int p1), (3, .int p2), (4, .int p3)]) hx hb dX11_fma_81 hl (by decide) rfl (fun ls hl => ?_)
      refine lv_aload_n hx hb dX11_fma_83 rfl (lv_at hl 5 rfl) ?_
      refine gf_X11_26 C hP h_a k_a dX11_fma_84 ?_
      obtain ⟨t19, et19, hf⟩ := bd1_e hf
      obtain ⟨h_t19, k_t19⟩ := wt_r hW h_a k_a (by decide) et19
      have k_t19 : G.2.1 t19 = 1 := k_t19
      rw [et19]
      refine lv_aload_n hx hb dX11_fma_87 rfl (lv_at hl 5 rfl) ?_
      refine gf_X11_40 C hP h_a k_a dX11_fma_88 ?_
      obtain ⟨t20, et20, hf⟩ := bd1_e hf
      obtain ⟨h_t20, k_t20⟩ := wt_r hW h_a k_a (by decide) et20
      have k_t20 : G.2.1 t20 = 7 := k_t20
      rw [et20]
      refine gf_X11_115 C hP h_t20 k_t20 dX11_fma_91 ?_
      refine lv_aload_n hx hb dX11_fma_94 rfl (lv_at hl 5 rfl) ?_
      refine gf_X11_40 C hP h_a k_a dX11_fma_95 ?_
      obtain ⟨t21, et21, hf⟩ := bd1_e hf
      obtain ⟨h_t21, k_t21⟩ := wt_r hW h_a k_a (by decide) et21
      have k_t21 : G.2.1 t21 = 7 := k_t21
      rw [et21]
      refine gf_X11_193 C hP h_t21 k_t21 dX11_fma_98 ?_
      refine lv_iload hx hb dX11_fma_101 (lv_at hl 3 rfl) ?_
      refine lv_iload hx hb dX11_fma_103 (lv_at hl 2 rfl) ?_
      refine lv_iload hx hb dX11_fma_105 (lv_at hl 1 rfl) ?_
      refine lv_aload hx hb dX11_fma_107 (lv_at hl 4 rfl) ?_
      refine lv_aload_n hx hb dX11_fma_109 rfl (lv_at hl 5 rfl) ?_
      refine gf_X11_40 C hP h_a k_a dX11_fma_110 ?_
      obtain ⟨t22, et22, hf⟩ := bd1_e hf
      obtain ⟨h_t22, k_t22⟩ := wt_r hW h_a k_a (by decide) et22
      have k_t22 : G.2.1 t22 = 7 := k_t22
      rw [et22]
      refine gf_X11_115 C hP h_t22 k_t22 dX11_fma_113 ?_
      refine lv_aload_n hx hb dX11_fma_116 rfl (lv_at hl 5 rfl) ?_
      refine gf_X11_19 C hP h_a k_a dX11_fma_117 ?_
      obtain ⟨t23, et23, hf⟩ := bd1_e hf
      obtain ⟨h_t23, k_t23⟩ := wt_r hW h_a k_a (by decide) et23
      have k_t23 : G.2.1 t23 = 0 := k_t23
      rw [et23]
      refine gf_X11_196 C hP h_t23 k_t23 dX11_fma_120 ?_
      refine x_aft_i (x_runS (As := [.ref t3, .int (gI S18 701 t22), .int (gI S18 1 t23)]) (rest := [.int r15, .int r13, .int r11, .int (gI S18 702 t21), .int (gI S18 701 t20), .ref t19]) C hP hS (c_X11_resultKey (l := l) C.2.2.2.2.2.2.2.2.2.1 hW h_t3 k_t3 rfl H.size) km_X11_resultKey ks_X11_resultKey qm_X11_199 ⟨(Nat.le_of_ble_eq_true rfl), (Nat.le_of_ble_eq_true rfl)⟩ rfl hl.1 rfl (Nat.le_of_ble_eq_true rfl) ⟨Nat.zero_le _, Nat.zero_le _⟩ dX11_fma_123) hS (fun H locs hP hS hW => ?_)
      obtain ⟨S24, eS24, hf⟩ := bd1_e hf
      refine x_aft_v (x_runV (As := [.int (gI S18 701 t20), .int (gI S18 702 t21), .int r11, .int r13, .int r15, .int (s_X11_resultKey t3 (gI S18 701 t22) (gI S18 1 t23) S18)]) (rest := []) C hP hS (c_X1_note (l := l) C.2.2.2.2.2.2.2.2.2.1 hW h_t19 k_t19 eS24 H.size) h_t19 k_t19 (by decide) rfl rfl km_X1_note ki_X1_note qm_X11_203 ⟨(Nat.le_of_ble_eq_true rfl), (Nat.le_of_ble_eq_true rfl)⟩ rfl hl.1 rfl (Nat.le_of_ble_eq_true rfl) ⟨Nat.zero_le _, Nat.zero_le _⟩ dX11_fma_126) hS (fun H locs hP hS hW => ?_)
      refine lv_iload hx hb dX11_fma_129 (lv_at hl 0 rfl) ?_
      cases hf
      exact x_reti C hP hS hW dX11_fma_131
    · have hf := if_t c6 hf
      refine lv_iconst (v := (-1)) hx hb dX11_fma_23 rfl ?_
      cases hf
      exact x_reti C hP hS hW dX11_fma_24
def s_X11_turn_L39 (N : Nat → Nat) (F : Nat) (k102 : Nat → Int32 → Int32 → HS → Option (Int32 × HS)) : Nat → Nat → Nat → Int32 → Nat → Nat → Int32 → Int32 → HS → Option (Int32 × HS)
  | 0, _, _, _, _, _, _, _, _ => none
  | n + 1, v0, v1, v2, v3, v4, v5, v6, S => bd1 (gR S 1111 v0) fun t13 =>
  if (gI S 904 t13) ≤ v6 then
  k102 v1 v2 v5 S
  else
  bd1 (gR S 1101 v0) fun t15 =>
  bd1 (s_X7_read N v1 v6 S) fun r16 =>
  bd1 (s_X0_convert F t15 v3 v4 (gI S 702 v1) r16 S) fun S17 =>
  bd1 (gR S17 1101 v0) fun t18 =>
  bd1 (s_X7_put N v1 v6 (gI S17 1 t18) S17) fun S19 =>
  bd1 (gR S19 1101 v0) fun t20 =>
  bnd (v5 ||| (gI S19 2 t20) : Int32) fun x21 =>
  bnd (v6 + Int32.ofInt 1 : Int32) fun x22 =>
  s_X11_turn_L39 N F k102 n v0 v1 v2 v3 v4 x21 x22 S19
def s_X11_turn_J102 (N : Nat → Nat) (F : Nat) (v1 : Nat) (v2 : Int32) (v5 : Int32) (S : HS) : Option (Int32 × HS) :=
  bnd (uI S 701 v1 v2) fun S23 =>
  bnd (uI S23 703 v1 ((gI S23 703 v1) ||| v5)) fun S24 =>
  some (v5, S24)
def s_X11_turn (N : Nat → Nat) (F : Nat) (a : Nat) (p0 : Nat) (p1 : Int32) (S : HS) : Option (Int32 × HS) :=
  bd1 (gR S 1111 a) fun t1 =>
  bd1 (s_X9_formAt N t1 (gI S 701 p0) S) fun r2 =>
  mq r2
  (bd1 (gR S 1111 a) fun t5 =>
  bd1 (s_X9_formAt N t5 p1 S) fun r6 =>
  mq r6
  (some (0, S))
  fun t8 =>
  some (0, S))
  fun t4 =>
  bd1 (gR S 1111 a) fun t9 =>
  bd1 (s_X9_formAt N t9 p1 S) fun r10 =>
  mq r10
  (some (0, S))
  fun t12 =>
  s_X11_turn_L39 N F (s_X11_turn_J102 N F) F a p0 p1 t4 t12 0 0 S
set_option maxRecDepth 100000 in
set_option maxHeartbeats 4000000 in
theorem b_X11_turn_39 {p : Program} {l : Launch} {e : Env} {s : State} {m : MethodId} {args : Array Value} {below : List Frame} {meth : Method} {c : Code} {V : EV} {G : GS} {r : Int32} {S' : HS} {F : Nat} (C : CX p s m args meth c RX11 cX11_turn 7 (some .int) V G) {k102 : Nat → Int32 → Int32 → HS → Option (Int32 × HS)} (hk102 : ∀ (v1 : Nat) (v2 : Int32) (v5 : Int32) (h_v1 : v1 ∈ G.1) (k_v1 : G.2.1 v1 = 7) (S : HS) (H : Heap) (locs : List Loc) (ls : Array Slot), k102 v1 v2 v5 S = some (r, S') → HP V G S H → va_S (AG G s.heap.size) s.heap H locs → WT G S → lv_has ls 7 [(1, .ref v1), (2, .int v2), (5, .int v5)] → W p l e (RM 4 121) s m args below meth c H locs 0 0 (MQ below (QI V G S' r s.heap.size) args s 0 0 (AG G s.heap.size)) (F0 m 102 ls [])) : ∀ n : Nat, ∀ (v0 : Nat) (v1 : Nat) (v2 : Int32) (v3 : Nat) (v4 : Nat) (v5 : Int32) (v6 : Int32) (h_v0 : v0 ∈ G.1) (k_v0 : G.2.1 v0 = 11) (h_v1 : v1 ∈ G.1) (k_v1 : G.2.1 v1 = 7) (h_v3 : v3 ∈ G.1) (k_v3 : G.2.1 v3 = 2) (h_v4 : v4 ∈ G.1) (k_v4 : G.2.1 v4 = 2) (S : HS) (H : Heap) (locs : List Loc) (ls : Array Slot), s_X11_turn_L39 G.2.2 F k102 n v0 v1 v2 v3 v4 v5 v6 S = some (r, S') → HP V G S H → va_S (AG G s.heap.size) s.heap H locs → WT G S → lv_has ls 7 [(0, .ref v0), (1, .ref v1), (2, .int v2), (3, .ref v3), (4, .ref v4), (5, .int v5), (6, .int v6)] → W p l e (RM 4 121) s m args below meth c H locs 0 0 (MQ below (QI V G S' r s.heap.size) args s 0 0 (AG G s.heap.size)) (F0 m 39 ls []) := by
  intro n
  induction n with
  | zero =>
    intro v0 v1 v2 v3 v4 v5 v6 h_v0 k_v0 h_v1 k_v1 h_v3 k_v3 h_v4 k_v4 S H locs ls hf
    rw [s_X11_turn_L39] at hf
    cases hf
  | succ n ih =>
    intro v0 v1 v2 v3 v4 v5 v6 h_v0 k_v0 h_v1 k_v1 h_v3 k_v3 h_v4 k_v4 S H locs ls hf hP hS hW hl
    have hx := C.1
    have hb := C.2.1
    rw [s_X11_turn_L39] at hf
    refine lv_iload hx hb dX11_turn_39 (lv_at hl 6 rfl) ?_
    refine lv_aload_n hx hb dX11_turn_41 rfl (lv_at hl 0 rfl) ?_
    refine gf_X11_68 C hP h_v0 k_v0 dX11_turn_42 ?_
    obtain ⟨t13, et13, hf⟩ := bd1_e hf
    obtain ⟨h_t13, k_t13⟩ := wt_r hW h_v0 k_v0 (by decide) et13
    have k_t13 : G.2.1 t13 = 9 := k_t13
    rw [et13]
    refine gf_X11_319 C hP h_t13 k_t13 dX11_turn_45 ?_
    refine lv_icmp_ge (tgt := 102) hx hb dX11_turn_48 (by decide) (fun c14 => ?_) (fun c14 => ?_)
    · have hf := if_t c14 hf
      exact hk102 v1 v2 v5 h_v1 k_v1 S H locs _ hf hP hS hW (lv_sub hl [1, 2, 5] rfl)
    · have hf := if_f c14 hf
      refine lv_aload_n hx hb dX11_turn_51 rfl (lv_at hl 0 rfl) ?_
      refine gf_X11_19 C hP h_v0 k_v0 dX11_turn_52 ?_
      obtain ⟨t15, et15, hf⟩ := bd1_e hf
      obtain ⟨h_t15, k_t15⟩ := wt_r hW h_v0 k_v0 (by decide) et15
      have k_t15 : G.2.1 t15 = 0 := k_t15
      rw [et15]
      refine lv_aload_n hx hb dX11_turn_55 rfl (lv_at hl 3 rfl) ?_
      refine lv_aload hx hb dX11_turn_56 (lv_at hl 4 rfl) ?_
      refine lv_aload_n hx hb dX11_turn_58 rfl (lv_at hl 1 rfl) ?_
      refine gf_X11_193 C hP h_v1 k_v1 dX11_turn_59 ?_
      refine lv_aload_n hx hb dX11_turn_62 rfl (lv_at hl 1 rfl) ?_
      refine lv_iload hx hb dX11_turn_63 (lv_at hl 6 rfl) ?_
      obtain ⟨r16, er16, hf⟩ := bd1_e hf
      refine x_aft_i (x_runV (As := [.int v6]) (rest := [.int (gI S 702 v1), .ref v4, .ref v3, .ref t15]) C hP hS (c_X7_read (l := l) C.2.2.2.2.2.2.2.2.2.1 hW h_v1 k_v1 er16 H.size) h_v1 k_v1 (by decide) rfl rfl km_X7_read ki_X7_read qm_X11_170 ⟨(Nat.le_of_ble_eq_true rfl), (Nat.le_of_ble_eq_true rfl)⟩ rfl hl.1 rfl (Nat.le_of_ble_eq_true rfl) ⟨Nat.zero_le _, Nat.zero_le _⟩ dX11_turn_65) hS (fun H locs hP hS hW => ?_)
      obtain ⟨S17, eS17, hf⟩ := bd1_e hf
      refine x_aft_v (x_runV (As := [.ref v3, .ref v4, .int (gI S 702 v1), .int r16]) (rest := []) C hP hS (c_X0_convert (l := l) C.2.2.2.2.2.2.2.2.2.1 hW h_t15 k_t15 h_v3 k_v3 h_v4 k_v4 eS17 H.size) h_t15 k_t15 (by decide) rfl rfl km_X0_convert ki_X0_convert qm_X11_297 ⟨(Nat.le_of_ble_eq_true rfl), (Nat.le_of_ble_eq_true rfl)⟩ rfl hl.1 rfl (Nat.le_of_ble_eq_true rfl) ⟨Nat.zero_le _, Nat.zero_le _⟩ dX11_turn_68) hS (fun H locs hP hS hW => ?_)
      refine lv_aload_n hx hb dX11_turn_71 rfl (lv_at hl 1 rfl) ?_
      refine lv_iload hx hb dX11_turn_72 (lv_at hl 6 rfl) ?_
      refine lv_aload_n hx hb dX11_turn_74 rfl (lv_at hl 0 rfl) ?_
      refine gf_X11_19 C hP h_v0 k_v0 dX11_turn_75 ?_
      obtain ⟨t18, et18, hf⟩ := bd1_e hf
      obtain ⟨h_t18, k_t18⟩ := wt_r hW h_v0 k_v0 (by decide) et18
      have k_t18 : G.2.1 t18 = 0 := k_t18
      rw [et18]
      refine gf_X11_196 C hP h_t18 k_t18 dX11_turn_78 ?_
      obtain ⟨S19, eS19, hf⟩ := bd1_e hf
      refine x_aft_v (x_runV (As := [.int v6, .int (gI S17 1 t18)]) (rest := []) C hP hS (c_X7_put (l := l) C.2.2.2.2.2.2.2.2.2.1 hW h_v1 k_v1 eS19 H.size) h_v1 k_v1 (by decide) rfl rfl km_X7_put ki_X7_put qm_X11_181 ⟨(Nat.le_of_ble_eq_true rfl), (Nat.le_of_ble_eq_true rfl)⟩ rfl hl.1 rfl (Nat.le_of_ble_eq_true rfl) ⟨Nat.zero_le _, Nat.zero_le _⟩ dX11_turn_81) hS (fun H locs hP hS hW => ?_)
      refine lv_iload hx hb dX11_turn_84 (lv_at hl 5 rfl) ?_
      refine lv_aload_n hx hb dX11_turn_86 rfl (lv_at hl 0 rfl) ?_
      refine gf_X11_19 C hP h_v0 k_v0 dX11_turn_87 ?_
      obtain ⟨t20, et20, hf⟩ := bd1_e hf
      obtain ⟨h_t20, k_t20⟩ := wt_r hW h_v0 k_v0 (by decide) et20
      have k_t20 : G.2.1 t20 = 0 := k_t20
      rw [et20]
      refine gf_X11_304 C hP h_t20 k_t20 dX11_turn_90 ?_
      refine lv_ior hx hb dX11_turn_93 ?_
      obtain ⟨x21, ex21, hf⟩ := bnd_e hf
      refine nm_i ex21 ?_
      refine lv_istore (lv' := [(5, .int x21), (0, .ref v0), (1, .ref v1), (2, .int v2), (3, .ref v3), (4, .ref v4), (6, .int v6)]) hx hb dX11_turn_94 hl (by decide) rfl (fun ls hl => ?_)
      obtain ⟨x22, ex22, hf⟩ := bnd_e hf
      refine lv_iinc (v := x22) (lv' := [(6, .int x22), (5, .int x21), (0, .ref v0), (1, .ref v1), (2, .int v2), (3, .ref v3), (4, .ref v4)]) hx hb dX11_turn_96 hl (k := 6) rfl ex22.symm (by decide) rfl (fun ls hl => ?_)
      refine lv_goto (tgt := 39) hx hb dX11_turn_99 (by decide) ?_
      exact ih v0 v1 v2 v3 v4 x21 x22 h_v0 k_v0 h_v1 k_v1 h_v3 k_v3 h_v4 k_v4 S19 H locs _ hf hP hS hW (lv_sub hl [2, 3, 4, 5, 6, 1, 0] rfl)
set_option maxRecDepth 100000 in
set_option maxHeartbeats 4000000 in
theorem b_X11_turn_102 {p : Program} {l : Launch} {e : Env} {s : State} {m : MethodId} {args : Array Value} {below : List Frame} {meth : Method} {c : Code} {V : EV} {G : GS} {r : Int32} {S' : HS} {F : Nat} (C : CX p s m args meth c RX11 cX11_turn 7 (some .int) V G) : ∀ (v1 : Nat) (v2 : Int32) (v5 : Int32) (h_v1 : v1 ∈ G.1) (k_v1 : G.2.1 v1 = 7) (S : HS) (H : Heap) (locs : List Loc) (ls : Array Slot), s_X11_turn_J102 G.2.2 F v1 v2 v5 S = some (r, S') → HP V G S H → va_S (AG G s.heap.size) s.heap H locs → WT G S → lv_has ls 7 [(1, .ref v1), (2, .int v2), (5, .int v5)] → W p l e (RM 4 121) s m args below meth c H locs 0 0 (MQ below (QI V G S' r s.heap.size) args s 0 0 (AG G s.heap.size)) (F0 m 102 ls []) := by
  intro v1 v2 v5 h_v1 k_v1 S H locs ls hf hP hS hW hl
  have hx := C.1
  have hb := C.2.1
  unfold s_X11_turn_J102 at hf
  refine lv_aload_n hx hb dX11_turn_102 rfl (lv_at hl 0 rfl) ?_
  refine lv_iload_n hx hb dX11_turn_103 rfl (lv_at hl 1 rfl) ?_
  obtain ⟨S23, eS23, hf⟩ := bnd_e hf
  refine pf_X11_115 C hP hS h_v1 k_v1 eS23 dX11_turn_104 (fun H locs hP hS => ?_)
  have hW : WT G S23 := by rw [eS23]; exact hW
  refine lv_aload_n hx hb dX11_turn_107 rfl (lv_at hl 0 rfl) ?_
  refine lv_dup hx hb dX11_turn_108 rfl ?_
  refine gf_X11_210 C hP h_v1 k_v1 dX11_turn_109 ?_
  refine lv_iload hx hb dX11_turn_112 (lv_at hl 2 rfl) ?_
  refine lv_ior hx hb dX11_turn_114 ?_
  obtain ⟨S24, eS24, hf⟩ := bnd_e hf
  refine pf_X11_210 C hP hS h_v1 k_v1 eS24 dX11_turn_115 (fun H locs hP hS => ?_)
  have hW : WT G S24 := by rw [eS24]; exact hW
  refine lv_iload hx hb dX11_turn_118 (lv_at hl 2 rfl) ?_
  cases hf
  exact x_reti C hP hS hW dX11_turn_120
set_option maxRecDepth 100000 in
set_option maxHeartbeats 4000000 in
theorem c_X11_turn {l : Launch} {V : EV} {G : GS} {S : HS} {F : Nat} {a : Nat} {p0 : Nat} {p1 : Int32} {r : Int32} {S' : HS} (hN : G.1.Nodup) (hW : WT G S) (h_a : a ∈ G.1) (k_a : G.2.1 a = 11) (h_p0 : p0 ∈ G.1) (k_p0 : G.2.1 p0 = 7) (hf : s_X11_turn G.2.2 F a p0 p1 S = some (r, S')) : MetI l yX11_turn cX11_turn 7 .int 4 121 V G S [.ref a, .ref p0, .int p1] r S' := by
  intro sz
  refine x_in RX11 rfl (by decide +kernel) hN (Nat.le_of_ble_eq_true rfl) (fun p e s m args below meth c ls hsz hargs hnm C hP hS hl => ?_)
  subst hsz
  have hx := C.1
  have hb := C.2.1
  have hl : lv_has ls 7 [(0, .ref a), (1, .ref p0), (2, .int p1)] := hl
  unfold s_X11_turn at hf
  refine lv_aload_n hx hb dX11_turn_0 rfl (lv_at hl 0 rfl) ?_
  refine gf_X11_68 C hP h_a k_a dX11_turn_1 ?_
  obtain ⟨t1, et1, hf⟩ := bd1_e hf
  obtain ⟨h_t1, k_t1⟩ := wt_r hW h_a k_a (by decide) et1
  have k_t1 : G.2.1 t1 = 9 := k_t1
  rw [et1]
  refine lv_aload_n hx hb dX11_turn_4 rfl (lv_at hl 1 rfl) ?_
  refine gf_X11_115 C hP h_p0 k_p0 dX11_turn_5 ?_
  obtain ⟨r2, er2, hf⟩ := bd1_e hf
  refine x_aft_r (x_runV (As := [.int (gI S 701 p0)]) (rest := []) C hP hS (c_X9_formAt (l := l) C.2.2.2.2.2.2.2.2.2.1 hW h_t1 k_t1 er2 s.heap.size) h_t1 k_t1 (by decide) rfl rfl km_X9_formAt ki_X9_formAt qm_X11_138 ⟨(Nat.le_of_ble_eq_true rfl), (Nat.le_of_ble_eq_true rfl)⟩ rfl hl.1 rfl (Nat.le_of_ble_eq_true rfl) ⟨Nat.zero_le _, Nat.zero_le _⟩ dX11_turn_8) hS (fun H locs hP hS hW q3 => ?_)
  cases r2 with
  | none =>
    have hf := mq_n rfl hf
    show W _ _ _ _ _ _ _ _ _ _ _ _ _ _ _ (F0 m 11 ls (.null :: []))
    refine lv_astore_nN (lv' := [(3, .null), (0, .ref a), (1, .ref p0), (2, .int p1)]) hx hb dX11_turn_11 rfl hl (by decide) rfl (fun ls hl => ?_)
    refine lv_aload_n hx hb dX11_turn_12 rfl (lv_at hl 1 rfl) ?_
    refine gf_X11_68 C hP h_a k_a dX11_turn_13 ?_
    obtain ⟨t5, et5, hf⟩ := bd1_e hf
    obtain ⟨h_t5, k_t5⟩ := wt_r hW h_a k_a (by decide) et5
    have k_t5 : G.2.1 t5 = 9 := k_t5
    rw [et5]
    refine lv_iload_n hx hb dX11_turn_16 rfl (lv_at hl 3 rfl) ?_
    obtain ⟨r6, er6, hf⟩ := bd1_e hf
    refine x_aft_r (x_runV (As := [.int p1]) (rest := []) C hP hS (c_X9_formAt (l := l) C.2.2.2.2.2.2.2.2.2.1 hW h_t5 k_t5 er6 H.size) h_t5 k_t5 (by decide) rfl rfl km_X9_formAt ki_X9_formAt qm_X11_138 ⟨(Nat.le_of_ble_eq_true rfl), (Nat.le_of_ble_eq_true rfl)⟩ rfl hl.1 rfl (Nat.le_of_ble_eq_true rfl) ⟨Nat.zero_le _, Nat.zero_le _⟩ dX11_turn_17) hS (fun H locs hP hS hW q7 => ?_)
    cases r6 with
    | none =>
      have hf := mq_n rfl hf
      show W _ _ _ _ _ _ _ _ _ _ _ _ _ _ _ (F0 m 20 ls (.null :: []))
      refine lv_astoreN (lv' := [(4, .null), (3, .null), (0, .ref a), (1, .ref p0), (2, .int p1)]) hx hb dX11_turn_20 hl (by decide) rfl (fun ls hl => ?_)
      refine lv_aload_nN hx hb dX11_turn_22 rfl (lv_at hl 1 rfl) ?_
      refine lv_ifnullN (tgt := 31) hx hb dX11_turn_23 (by decide) ?_
      refine lv_iconst (v := 0) hx hb dX11_turn_31 rfl ?_
      cases hf
      exact x_reti C hP hS hW dX11_turn_32
    | some t8 =>
      have hf := mq_s rfl hf
      obtain ⟨h_t8, k_t8⟩ := q7 _ rfl
      show W _ _ _ _ _ _ _ _ _ _ _ _ _ _ _ (F0 m 20 ls (.ref t8 :: []))
      refine lv_astore (lv' := [(4, .ref t8), (3, .null), (0, .ref a), (1, .ref p0), (2, .int p1)]) hx hb dX11_turn_20 hl (by decide) rfl (fun ls hl => ?_)
      refine lv_aload_nN hx hb dX11_turn_22 rfl (lv_at hl 1 rfl) ?_
      refine lv_ifnullN (tgt := 31) hx hb dX11_turn_23 (by decide) ?_
      refine lv_iconst (v := 0) hx hb dX11_turn_31 rfl ?_
      cases hf
      exact x_reti C hP hS hW dX11_turn_32
  | some t4 =>
    have hf := mq_s rfl hf
    obtain ⟨h_t4, k_t4⟩ := q3 _ rfl
    show W _ _ _ _ _ _ _ _ _ _ _ _ _ _ _ (F0 m 11 ls (.ref t4 :: []))
    refine lv_astore_n (lv' := [(3, .ref t4), (0, .ref a), (1, .ref p0), (2, .int p1)]) hx hb dX11_turn_11 rfl hl (by decide) rfl (fun ls hl => ?_)
    refine lv_aload_n hx hb dX11_turn_12 rfl (lv_at hl 1 rfl) ?_
    refine gf_X11_68 C hP h_a k_a dX11_turn_13 ?_
    obtain ⟨t9, et9, hf⟩ := bd1_e hf
    obtain ⟨h_t9, k_t9⟩ := wt_r hW h_a k_a (by decide) et9
    have k_t9 : G.2.1 t9 = 9 := k_t9
    rw [et9]
    refine lv_iload_n hx hb dX11_turn_16 rfl (lv_at hl 3 rfl) ?_
    obtain ⟨r10, er10, hf⟩ := bd1_e hf
    refine x_aft_r (x_runV (As := [.int p1]) (rest := []) C hP hS (c_X9_formAt (l := l) C.2.2.2.2.2.2.2.2.2.1 hW h_t9 k_t9 er10 H.size) h_t9 k_t9 (by decide) rfl rfl km_X9_formAt ki_X9_formAt qm_X11_138 ⟨(Nat.le_of_ble_eq_true rfl), (Nat.le_of_ble_eq_true rfl)⟩ rfl hl.1 rfl (Nat.le_of_ble_eq_true rfl) ⟨Nat.zero_le _, Nat.zero_le _⟩ dX11_turn_17) hS (fun H locs hP hS hW q11 => ?_)
    cases r10 with
    | none =>
      have hf := mq_n rfl hf
      show W _ _ _ _ _ _ _ _ _ _ _ _ _ _ _ (F0 m 20 ls (.null :: []))
      refine lv_astoreN (lv' := [(4, .null), (3, .ref t4), (0, .ref a), (1, .ref p0), (2, .int p1)]) hx hb dX11_turn_20 hl (by decide) rfl (fun ls hl => ?_)
      refine lv_aload_n hx hb dX11_turn_22 rfl (lv_at hl 1 rfl) ?_
      refine lv_ifnull hx hb dX11_turn_23 ?_
      refine lv_aloadN hx hb dX11_turn_26 (lv_at hl 0 rfl) ?_
      refine lv_ifnonnullN hx hb dX11_turn_28 ?_
      refine lv_iconst (v := 0) hx hb dX11_turn_31 rfl ?_
      cases hf
      exact x_reti C hP hS hW dX11_turn_32
    | some t12 =>
      have hf := mq_s rfl hf
      obtain ⟨h_t12, k_t12⟩ := q11 _ rfl
      show W _ _ _ _ _ _ _ _ _ _ _ _ _ _ _ (F0 m 20 ls (.ref t12 :: []))
      refine lv_astore (lv' := [(4, .ref t12), (3, .ref t4), (0, .ref a), (1, .ref p0), (2, .int p1)]) hx hb dX11_turn_20 hl (by decide) rfl (fun ls hl => ?_)
      refine lv_aload_n hx hb dX11_turn_22 rfl (lv_at hl 1 rfl) ?_
      refine lv_ifnull hx hb dX11_turn_23 ?_
      refine lv_aload hx hb dX11_turn_26 (lv_at hl 0 rfl) ?_
      refine lv_ifnonnull (tgt := 33) hx hb dX11_turn_28 (by decide) ?_
      refine lv_iconst (v := 0) hx hb dX11_turn_33 rfl ?_
      refine lv_istore (lv' := [(5, .int 0), (4, .ref t12), (3, .ref t4), (0, .ref a), (1, .ref p0), (2, .int p1)]) hx hb dX11_turn_34 hl (by decide) rfl (fun ls hl => ?_)
      refine lv_iconst (v := 0) hx hb dX11_turn_36 rfl ?_
      refine lv_istore (lv' := [(6, .int 0), (5, .int 0), (4, .ref t12), (3, .ref t4), (0, .ref a), (1, .ref p0), (2, .int p1)]) hx hb dX11_turn_37 hl (by decide) rfl (fun ls hl => ?_)
      exact b_X11_turn_39 C (b_X11_turn_102 C) F a p0 p1 t4 t12 0 0 h_a k_a h_p0 k_p0 h_t4 k_t4 h_t12 k_t12 S H locs _ hf hP hS hW (lv_sub hl [4, 5, 6, 3, 2, 1, 0] rfl)
def s_X11_follow (N : Nat → Nat) (F : Nat) (a : Nat) (p0 : Int32) (S : HS) : Option (Int32 × HS) :=
  bd1 (gR S 1113 a) fun t1 =>
  bd1 (s_X5_word N t1 p0 0 S) fun r2 =>
  if r2 = 0 then
  bd1 (gR S 1111 a) fun t4 =>
  bd1 (gR S 1105 a) fun t5 =>
  bd1 (s_X9_formAt N t4 (gI S 701 t5) S) fun r6 =>
  mq r6
  (some (0, S))
  fun t8 =>
  bd1 (gR S 1105 a) fun t9 =>
  bd1 (gR S 1113 a) fun t10 =>
  bd1 (s_X5_word N t10 p0 1 S) fun r11 =>
  bd1 (gR S 1113 a) fun t12 =>
  bd1 (s_X5_word N t12 p0 2 S) fun r13 =>
  bd1 (gR S 1113 a) fun t14 =>
  bd1 (s_X5_word N t14 p0 3 S) fun r15 =>
  bd1 (gR S 1113 a) fun t16 =>
  bd1 (s_X5_word N t16 p0 4 S) fun r17 =>
  bd2 (s_X11_fuse N F a t9 r11 r13 r15 r17 S) fun r18 S19 =>
  some (1, S19)
  else
  if r2 = 1 then
  bd1 (gR S 1105 a) fun t21 =>
  bd1 (gR S 1113 a) fun t22 =>
  bd1 (s_X5_word N t22 p0 1 S) fun r23 =>
  bnd (uI S 702 t21 r23) fun S24 =>
  some (1, S24)
  else
  if r2 = 2 then
  bd1 (gR S 1105 a) fun t26 =>
  bnd (uI S 703 t26 0) fun S27 =>
  some (1, S27)
  else
  bd1 (gR S 1105 a) fun t28 =>
  bd1 (gR S 1113 a) fun t29 =>
  bd1 (s_X5_word N t29 p0 1 S) fun r30 =>
  bd2 (s_X11_turn N F a t28 r30 S) fun r31 S32 =>
  some (1, S32)
set_option maxRecDepth 100000 in
set_option maxHeartbeats 4000000 in
theorem c_X11_follow {l : Launch} {V : EV} {G : GS} {S : HS} {F : Nat} {a : Nat} {p0 : Int32} {r : Int32} {S' : HS} (hN : G.1.Nodup) (hW : WT G S) (h_a : a ∈ G.1) (k_a : G.2.1 a = 11) (hf : s_X11_follow G.2.2 F a p0 S = some (r, S')) : MetZ l yX11_follow cX11_follow 2 6 206 V G S [.ref a, .int p0] r S' := by
  intro sz
  refine x_in RX11 rfl (by decide +kernel) hN (Nat.le_of_ble_eq_true rfl) (fun p e s m args below meth c ls hsz hargs hnm C hP hS hl => ?_)
  subst hsz
  have hx := C.1
  have hb := C.2.1
  have hl : lv_has ls 2 [(0, .ref a), (1, .int p0)] := hl
  unfold s_X11_follow at hf
  refine lv_aload_n hx hb dX11_follow_0 rfl (lv_at hl 0 rfl) ?_
  refine gf_X11_78 C hP h_a k_a dX11_follow_1 ?_
  obtain ⟨t1, et1, hf⟩ := bd1_e hf
  obtain ⟨h_t1, k_t1⟩ := wt_r hW h_a k_a (by decide) et1
  have k_t1 : G.2.1 t1 = 5 := k_t1
  rw [et1]
  refine lv_iload_n hx hb dX11_follow_4 rfl (lv_at hl 1 rfl) ?_
  refine lv_iconst (v := 0) hx hb dX11_follow_5 rfl ?_
  obtain ⟨r2, er2, hf⟩ := bd1_e hf
  refine x_aft_i (x_runV (As := [.int p0, .int 0]) (rest := []) C hP hS (c_X5_word (l := l) C.2.2.2.2.2.2.2.2.2.1 hW h_t1 k_t1 er2 s.heap.size) h_t1 k_t1 (by decide) rfl rfl km_X5_word ki_X5_word qm_X11_231 ⟨(Nat.le_of_ble_eq_true rfl), (Nat.le_of_ble_eq_true rfl)⟩ rfl hl.1 rfl (Nat.le_of_ble_eq_true rfl) ⟨Nat.zero_le _, Nat.zero_le _⟩ dX11_follow_6) hS (fun H locs hP hS hW => ?_)
  by_cases c3 : r2 = 0
  · have hf := if_t c3 hf
    refine lv_tableIn (tgt := 36) (off := 27) hx hb dX11_follow_9 (by rw [c3]; decide) (by rw [c3]; decide) (by rw [c3]; rfl) (by decide) ?_
    refine lv_aload_n hx hb dX11_follow_36 rfl (lv_at hl 0 rfl) ?_
    refine gf_X11_68 C hP h_a k_a dX11_follow_37 ?_
    obtain ⟨t4, et4, hf⟩ := bd1_e hf
    obtain ⟨h_t4, k_t4⟩ := wt_r hW h_a k_a (by decide) et4
    have k_t4 : G.2.1 t4 = 9 := k_t4
    rw [et4]
    refine lv_aload_n hx hb dX11_follow_40 rfl (lv_at hl 0 rfl) ?_
    refine gf_X11_44 C hP h_a k_a dX11_follow_41 ?_
    obtain ⟨t5, et5, hf⟩ := bd1_e hf
    obtain ⟨h_t5, k_t5⟩ := wt_r hW h_a k_a (by decide) et5
    have k_t5 : G.2.1 t5 = 7 := k_t5
    rw [et5]
    refine gf_X11_115 C hP h_t5 k_t5 dX11_follow_44 ?_
    obtain ⟨r6, er6, hf⟩ := bd1_e hf
    refine x_aft_r (x_runV (As := [.int (gI S 701 t5)]) (rest := []) C hP hS (c_X9_formAt (l := l) C.2.2.2.2.2.2.2.2.2.1 hW h_t4 k_t4 er6 H.size) h_t4 k_t4 (by decide) rfl rfl km_X9_formAt ki_X9_formAt qm_X11_138 ⟨(Nat.le_of_ble_eq_true rfl), (Nat.le_of_ble_eq_true rfl)⟩ rfl hl.1 rfl (Nat.le_of_ble_eq_true rfl) ⟨Nat.zero_le _, Nat.zero_le _⟩ dX11_follow_47) hS (fun H locs hP hS hW q7 => ?_)
    cases r6 with
    | none =>
      have hf := mq_n rfl hf
      show W _ _ _ _ _ _ _ _ _ _ _ _ _ _ _ (F0 m 50 ls (.null :: []))
      refine lv_ifnonnullN hx hb dX11_follow_50 ?_
      refine lv_iconst (v := 0) hx hb dX11_follow_53 rfl ?_
      cases hf
      exact x_retZ C hP hS hW isZ_0 dX11_follow_54
    | some t8 =>
      have hf := mq_s rfl hf
      obtain ⟨h_t8, k_t8⟩ := q7 _ rfl
      show W _ _ _ _ _ _ _ _ _ _ _ _ _ _ _ (F0 m 50 ls (.ref t8 :: []))
      refine lv_ifnonnull (tgt := 55) hx hb dX11_follow_50 (by decide) ?_
      refine lv_aload_n hx hb dX11_follow_55 rfl (lv_at hl 0 rfl) ?_
      refine lv_aload_n hx hb dX11_follow_56 rfl (lv_at hl 0 rfl) ?_
      refine gf_X11_44 C hP h_a k_a dX11_follow_57 ?_
      obtain ⟨t9, et9, hf⟩ := bd1_e hf
      obtain ⟨h_t9, k_t9⟩ := wt_r hW h_a k_a (by decide) et9
      have k_t9 : G.2.1 t9 = 7 := k_t9
      rw [et9]
      refine lv_aload_n hx hb dX11_follow_60 rfl (lv_at hl 0 rfl) ?_
      refine gf_X11_78 C hP h_a k_a dX11_follow_61 ?_
      obtain ⟨t10, et10, hf⟩ := bd1_e hf
      obtain ⟨h_t10, k_t10⟩ := wt_r hW h_a k_a (by decide) et10
      have k_t10 : G.2.1 t10 = 5 := k_t10
      rw [et10]
      refine lv_iload_n hx hb dX11_follow_64 rfl (lv_at hl 1 rfl) ?_
      refine lv_iconst (v := 1) hx hb dX11_follow_65 rfl ?_
      obtain ⟨r11, er11, hf⟩ := bd1_e hf
      refine x_aft_i (x_runV (As := [.int p0, .int 1]) (rest := [.ref t9, .ref a]) C hP hS (c_X5_word (l := l) C.2.2.2.2.2.2.2.2.2.1 hW h_t10 k_t10 er11 H.size) h_t10 k_t10 (by decide) rfl rfl km_X5_word ki_X5_word qm_X11_231 ⟨(Nat.le_of_ble_eq_true rfl), (Nat.le_of_ble_eq_true rfl)⟩ rfl hl.1 rfl (Nat.le_of_ble_eq_true rfl) ⟨Nat.zero_le _, Nat.zero_le _⟩ dX11_follow_66) hS (fun H locs hP hS hW => ?_)
      refine lv_aload_n hx hb dX11_follow_69 rfl (lv_at hl 0 rfl) ?_
      refine gf_X11_78 C hP h_a k_a dX11_follow_70 ?_
      obtain ⟨t12, et12, hf⟩ := bd1_e hf
      obtain ⟨h_t12, k_t12⟩ := wt_r hW h_a k_a (by decide) et12
      have k_t12 : G.2.1 t12 = 5 := k_t12
      rw [et12]
      refine lv_iload_n hx hb dX11_follow_73 rfl (lv_at hl 1 rfl) ?_
      refine lv_iconst (v := 2) hx hb dX11_follow_74 rfl ?_
      obtain ⟨r13, er13, hf⟩ := bd1_e hf
      refine x_aft_i (x_runV (As := [.int p0, .int 2]) (rest := [.int r11, .ref t9, .ref a]) C hP hS (c_X5_word (l := l) C.2.2.2.2.2.2.2.2.2.1 hW h_t12 k_t12 er13 H.size) h_t12 k_t12 (by decide) rfl rfl km_X5_word ki_X5_word qm_X11_231 ⟨(Nat.le_of_ble_eq_true rfl), (Nat.le_of_ble_eq_true rfl)⟩ rfl hl.1 rfl (Nat.le_of_ble_eq_true rfl) ⟨Nat.zero_le _, Nat.zero_le _⟩ dX11_follow_75) hS (fun H locs hP hS hW => ?_)
      refine lv_aload_n hx hb dX11_follow_78 rfl (lv_at hl 0 rfl) ?_
      refine gf_X11_78 C hP h_a k_a dX11_follow_79 ?_
      obtain ⟨t14, et14, hf⟩ := bd1_e hf
      obtain ⟨h_t14, k_t14⟩ := wt_r hW h_a k_a (by decide) et14
      have k_t14 : G.2.1 t14 = 5 := k_t14
      rw [et14]
      refine lv_iload_n hx hb dX11_follow_82 rfl (lv_at hl 1 rfl) ?_
      refine lv_iconst (v := 3) hx hb dX11_follow_83 rfl ?_
      obtain ⟨r15, er15, hf⟩ := bd1_e hf
      refine x_aft_i (x_runV (As := [.int p0, .int 3]) (rest := [.int r13, .int r11, .ref t9, .ref a]) C hP hS (c_X5_word (l := l) C.2.2.2.2.2.2.2.2.2.1 hW h_t14 k_t14 er15 H.size) h_t14 k_t14 (by decide) rfl rfl km_X5_word ki_X5_word qm_X11_231 ⟨(Nat.le_of_ble_eq_true rfl), (Nat.le_of_ble_eq_true rfl)⟩ rfl hl.1 rfl (Nat.le_of_ble_eq_true rfl) ⟨Nat.zero_le _, Nat.zero_le _⟩ dX11_follow_84) hS (fun H locs hP hS hW => ?_)
      refine lv_aload_n hx hb dX11_follow_87 rfl (lv_at hl 0 rfl) ?_
      refine gf_X11_78 C hP h_a k_a dX11_follow_88 ?_
      obtain ⟨t16, et16, hf⟩ := bd1_e hf
      obtain ⟨h_t16, k_t16⟩ := wt_r hW h_a k_a (by decide) et16
      have k_t16 : G.2.1 t16 = 5 := k_t16
      rw [et16]
      refine lv_iload_n hx hb dX11_follow_91 rfl (lv_at hl 1 rfl) ?_
      refine lv_iconst (v := 4) hx hb dX11_follow_92 rfl ?_
      obtain ⟨r17, er17, hf⟩ := bd1_e hf
      refine x_aft_i (x_runV (As := [.int p0, .int 4]) (rest := [.int r15, .int r13, .int r11, .ref t9, .ref a]) C hP hS (c_X5_word (l := l) C.2.2.2.2.2.2.2.2.2.1 hW h_t16 k_t16 er17 H.size) h_t16 k_t16 (by decide) rfl rfl km_X5_word ki_X5_word qm_X11_231 ⟨(Nat.le_of_ble_eq_true rfl), (Nat.le_of_ble_eq_true rfl)⟩ rfl hl.1 rfl (Nat.le_of_ble_eq_true rfl) ⟨Nat.zero_le _, Nat.zero_le _⟩ dX11_follow_93) hS (fun H locs hP hS hW => ?_)
      obtain ⟨r18, S19, eS19, hf⟩ := bd2_e hf
      refine x_aft_i (x_runV (As := [.ref t9, .int r11, .int r13, .int r15, .int r17]) (rest := []) C hP hS (c_X11_fuse (l := l) C.2.2.2.2.2.2.2.2.2.1 hW h_a k_a h_t9 k_t9 eS19 H.size) h_a k_a (by decide) rfl rfl km_X11_fuse ki_X11_fuse qm_X11_189 ⟨(Nat.le_of_ble_eq_true rfl), (Nat.le_of_ble_eq_true rfl)⟩ rfl hl.1 rfl (Nat.le_of_ble_eq_true rfl) ⟨Nat.zero_le _, Nat.zero_le _⟩ dX11_follow_96) hS (fun H locs hP hS hW => ?_)
      refine lv_pop hx hb dX11_follow_99 rfl ?_
      refine lv_iconst (v := 1) hx hb dX11_follow_100 rfl ?_
      cases hf
      exact x_retZ C hP hS hW isZ_1 dX11_follow_101
  have hf := if_f c3 hf
  by_cases c20 : r2 = 1
  · have hf := if_t c20 hf
    refine lv_tableIn (tgt := 102) (off := 93) hx hb dX11_follow_9 (by rw [c20]; decide) (by rw [c20]; decide) (by rw [c20]; rfl) (by decide) ?_
    refine lv_aload_n hx hb dX11_follow_102 rfl (lv_at hl 0 rfl) ?_
    refine gf_X11_44 C hP h_a k_a dX11_follow_103 ?_
    obtain ⟨t21, et21, hf⟩ := bd1_e hf
    obtain ⟨h_t21, k_t21⟩ := wt_r hW h_a k_a (by decide) et21
    have k_t21 : G.2.1 t21 = 7 := k_t21
    rw [et21]
    refine lv_aload_n hx hb dX11_follow_106 rfl (lv_at hl 0 rfl) ?_
    refine gf_X11_78 C hP h_a k_a dX11_follow_107 ?_
    obtain ⟨t22, et22, hf⟩ := bd1_e hf
    obtain ⟨h_t22, k_t22⟩ := wt_r hW h_a k_a (by decide) et22
    have k_t22 : G.2.1 t22 = 5 := k_t22
    rw [et22]
    refine lv_iload_n hx hb dX11_follow_110 rfl (lv_at hl 1 rfl) ?_
    refine lv_iconst (v := 1) hx hb dX11_follow_111 rfl ?_
    obtain ⟨r23, er23, hf⟩ := bd1_e hf
    refine x_aft_i (x_runV (As := [.int p0, .int 1]) (rest := [.ref t21]) C hP hS (c_X5_word (l := l) C.2.2.2.2.2.2.2.2.2.1 hW h_t22 k_t22 er23 H.size) h_t22 k_t22 (by decide) rfl rfl km_X5_word ki_X5_word qm_X11_231 ⟨(Nat.le_of_ble_eq_true rfl), (Nat.le_of_ble_eq_true rfl)⟩ rfl hl.1 rfl (Nat.le_of_ble_eq_true rfl) ⟨Nat.zero_le _, Nat.zero_le _⟩ dX11_follow_112) hS (fun H locs hP hS hW => ?_)
    obtain ⟨S24, eS24, hf⟩ := bnd_e hf
    refine pf_X11_193 C hP hS h_t21 k_t21 eS24 dX11_follow_115 (fun H locs hP hS => ?_)
    have hW : WT G S24 := by rw [eS24]; exact hW
    refine lv_iconst (v := 1) hx hb dX11_follow_118 rfl ?_
    cases hf
    exact x_retZ C hP hS hW isZ_1 dX11_follow_119
  have hf := if_f c20 hf
  by_cases c25 : r2 = 2
  · have hf := if_t c25 hf
    refine lv_tableIn (tgt := 120) (off := 111) hx hb dX11_follow_9 (by rw [c25]; decide) (by rw [c25]; decide) (by rw [c25]; rfl) (by decide) ?_
    refine lv_aload_n hx hb dX11_follow_120 rfl (lv_at hl 0 rfl) ?_
    refine gf_X11_44 C hP h_a k_a dX11_follow_121 ?_
    obtain ⟨t26, et26, hf⟩ := bd1_e hf
    obtain ⟨h_t26, k_t26⟩ := wt_r hW h_a k_a (by decide) et26
    have k_t26 : G.2.1 t26 = 7 := k_t26
    rw [et26]
    refine lv_iconst (v := 0) hx hb dX11_follow_124 rfl ?_
    obtain ⟨S27, eS27, hf⟩ := bnd_e hf
    refine pf_X11_210 C hP hS h_t26 k_t26 eS27 dX11_follow_125 (fun H locs hP hS => ?_)
    have hW : WT G S27 := by rw [eS27]; exact hW
    refine lv_iconst (v := 1) hx hb dX11_follow_128 rfl ?_
    cases hf
    exact x_retZ C hP hS hW isZ_1 dX11_follow_129
  have hf := if_f c25 hf
  refine lv_tableOut (tgt := 130) hx hb dX11_follow_9 (sw_out (fun k h1 h2 e9 => by
    rcases (show k = 0 ∨ k = 1 ∨ k = 2 by omega) with rfl | rfl | rfl
    · exact c3 e9
    · exact c20 e9
    · exact c25 e9
    )) (by decide) ?_
  refine lv_aload_n hx hb dX11_follow_130 rfl (lv_at hl 0 rfl) ?_
  refine lv_aload_n hx hb dX11_follow_131 rfl (lv_at hl 0 rfl) ?_
  refine gf_X11_44 C hP h_a k_a dX11_follow_132 ?_
  obtain ⟨t28, et28, hf⟩ := bd1_e hf
  obtain ⟨h_t28, k_t28⟩ := wt_r hW h_a k_a (by decide) et28
  have k_t28 : G.2.1 t28 = 7 := k_t28
  rw [et28]
  refine lv_aload_n hx hb dX11_follow_135 rfl (lv_at hl 0 rfl) ?_
  refine gf_X11_78 C hP h_a k_a dX11_follow_136 ?_
  obtain ⟨t29, et29, hf⟩ := bd1_e hf
  obtain ⟨h_t29, k_t29⟩ := wt_r hW h_a k_a (by decide) et29
  have k_t29 : G.2.1 t29 = 5 := k_t29
  rw [et29]
  refine lv_iload_n hx hb dX11_follow_139 rfl (lv_at hl 1 rfl) ?_
  refine lv_iconst (v := 1) hx hb dX11_follow_140 rfl ?_
  obtain ⟨r30, er30, hf⟩ := bd1_e hf
  refine x_aft_i (x_runV (As := [.int p0, .int 1]) (rest := [.ref t28, .ref a]) C hP hS (c_X5_word (l := l) C.2.2.2.2.2.2.2.2.2.1 hW h_t29 k_t29 er30 H.size) h_t29 k_t29 (by decide) rfl rfl km_X5_word ki_X5_word qm_X11_231 ⟨(Nat.le_of_ble_eq_true rfl), (Nat.le_of_ble_eq_true rfl)⟩ rfl hl.1 rfl (Nat.le_of_ble_eq_true rfl) ⟨Nat.zero_le _, Nat.zero_le _⟩ dX11_follow_141) hS (fun H locs hP hS hW => ?_)
  obtain ⟨r31, S32, eS32, hf⟩ := bd2_e hf
  refine x_aft_i (x_runV (As := [.ref t28, .int r30]) (rest := []) C hP hS (c_X11_turn (l := l) C.2.2.2.2.2.2.2.2.2.1 hW h_a k_a h_t28 k_t28 eS32 H.size) h_a k_a (by decide) rfl rfl km_X11_turn ki_X11_turn qm_X11_213 ⟨(Nat.le_of_ble_eq_true rfl), (Nat.le_of_ble_eq_true rfl)⟩ rfl hl.1 rfl (Nat.le_of_ble_eq_true rfl) ⟨Nat.zero_le _, Nat.zero_le _⟩ dX11_follow_144) hS (fun H locs hP hS hW => ?_)
  refine lv_pop hx hb dX11_follow_147 rfl ?_
  refine lv_iconst (v := 1) hx hb dX11_follow_148 rfl ?_
  cases hf
  exact x_retZ C hP hS hW isZ_1 dX11_follow_149
