def s_X3_readEither_J106 (N : Nat → Nat) (F : Nat) (rp : Nat → Int32 → HS → Option (Int32 × HS)) (k8 : Nat → Int32 → Int32 → Int32 → HS → Option (Int32 × HS)) (v0 : Nat) (v1 : Int32) (v3 : Int32) (w0 : Int32) (S : HS) : Option (Int32 × HS) :=
  bnd (s_X3_asFact w0 S : Int32) fun x17 =>
  bnd (v3 + Int32.ofInt 1 : Int32) fun x18 =>
  k8 v0 v1 x17 x18 S
def s_X3_readEither_J56 (N : Nat → Nat) (F : Nat) (rp : Nat → Int32 → HS → Option (Int32 × HS)) (k8 : Nat → Int32 → Int32 → Int32 → HS → Option (Int32 × HS)) (v0 : Nat) (v1 : Int32) (v2 : Int32) (v3 : Int32) (v4 : Int32) (S : HS) : Option (Int32 × HS) :=
  bd1 (gR S 300 v0) fun t11 =>
  bd1 (s_X8_advance N F t11 S) fun S12 =>
  bd2 (s_X3_readTest N F rp v0 v1 S12) fun r13 S14 =>
  if v4 = (0 : Int32) then
  if v2 = (0 : Int32) then
  if r13 = (0 : Int32) then
  s_X3_readEither_J106 N F rp k8 v0 v1 v3 0 S14
  else
  s_X3_readEither_J106 N F rp k8 v0 v1 v3 1 S14
  else
  s_X3_readEither_J106 N F rp k8 v0 v1 v3 1 S14
  else
  if v2 = (0 : Int32) then
  s_X3_readEither_J106 N F rp k8 v0 v1 v3 0 S14
  else
  if r13 = (0 : Int32) then
  s_X3_readEither_J106 N F rp k8 v0 v1 v3 0 S14
  else
  s_X3_readEither_J106 N F rp k8 v0 v1 v3 1 S14
def s_X3_readEither_L8 (N : Nat → Nat) (F : Nat) (rp : Nat → Int32 → HS → Option (Int32 × HS)) (k53 : Int32 → HS → Option (Int32 × HS)) : Nat → Nat → Int32 → Int32 → Int32 → HS → Option (Int32 × HS)
  | 0, _, _, _, _, _ => none
  | n + 1, v0, v1, v2, v3, S => if (1000 : Int32) < v3 then
  some (v2, S)
  else
  bd1 (gR S 300 v0) fun t4 =>
  if (s_X8_isRight t4 S) = (0 : Int32) then
  some (v2, S)
  else
  bd1 (gR S 300 v0) fun t7 =>
  bd1 (s_X8_isWord F t7 11 S) fun r8 =>
  if r8 = (0 : Int32) then
  bd1 (gR S 300 v0) fun t22 =>
  bd1 (s_X8_isWord F t22 12 S) fun r23 =>
  if r23 = (0 : Int32) then
  k53 v2 S
  else
  s_X3_readEither_J56 N F rp (s_X3_readEither_L8 N F rp k53 n) v0 v1 v2 v3 r8 S
  else
  s_X3_readEither_J56 N F rp (s_X3_readEither_L8 N F rp k53 n) v0 v1 v2 v3 r8 S
def s_X3_readEither_J53 (N : Nat → Nat) (F : Nat) (rp : Nat → Int32 → HS → Option (Int32 × HS)) (v2 : Int32) (S : HS) : Option (Int32 × HS) :=
  some (v2, S)
def s_X3_readEither (N : Nat → Nat) (F : Nat) (rp : Nat → Int32 → HS → Option (Int32 × HS)) (a : Nat) (p0 : Int32) (S : HS) : Option (Int32 × HS) :=
  bd2 (s_X3_readTest N F rp a p0 S) fun r1 S2 =>
  s_X3_readEither_L8 N F rp (s_X3_readEither_J53 N F rp) F a p0 r1 0 S2
set_option maxRecDepth 100000 in
set_option maxHeartbeats 4000000 in
theorem b_X3_readEither_106 {p : Program} {l : Launch} {e : Env} {s : State} {m : MethodId} {args : Array Value} {below : List Frame} {meth : Method} {c : Code} {V : EV} {G : GS} {r : Int32} {S' : HS} {F : Nat} {fr lo : Nat} {rp : Nat → Int32 → HS → Option (Int32 × HS)} (hrp : ∀ (this : Nat) (q0 : Int32), ∀ {S S1 : HS} {r : Int32}, WT G S → this ∈ G.1 → G.2.1 this = 3 → rp this q0 S = some (r, S1) → MetI l yX3_readPart cX3_readPart 7 .int fr lo V G S [.ref this, .int q0] r S1) (C : CX p s m args meth c RX3 cX3_readEither 6 (some .int) V G) {k8 : Nat → Int32 → Int32 → Int32 → HS → Option (Int32 × HS)} (hk8 : ∀ (v0 : Nat) (v1 : Int32) (v2 : Int32) (v3 : Int32) (h_v0 : v0 ∈ G.1) (k_v0 : G.2.1 v0 = 3) (S : HS) (H : Heap) (locs : List Loc) (ls : Array Slot), k8 v0 v1 v2 v3 S = some (r, S') → HP V G S H → va_S (AG G s.heap.size) s.heap H locs → WT G S → lv_has ls 6 [(0, .ref v0), (1, .int v1), (2, .int v2), (3, .int v3)] → W p l e (RM (fr + 16) (lo + 585)) s m args below meth c H locs 0 0 (MQ below (QI V G S' r s.heap.size) args s 0 0 (AG G s.heap.size)) (F0 m 8 ls [])) : ∀ (v0 : Nat) (v1 : Int32) (v3 : Int32) (w0 : Int32) (h_v0 : v0 ∈ G.1) (k_v0 : G.2.1 v0 = 3) (S : HS) (H : Heap) (locs : List Loc) (ls : Array Slot), s_X3_readEither_J106 G.2.2 F rp k8 v0 v1 v3 w0 S = some (r, S') → HP V G S H → va_S (AG G s.heap.size) s.heap H locs → WT G S → lv_has ls 6 [(0, .ref v0), (1, .int v1), (3, .int v3)] → W p l e (RM (fr + 16) (lo + 585)) s m args below meth c H locs 0 0 (MQ below (QI V G S' r s.heap.size) args s 0 0 (AG G s.heap.size)) (F0 m 106 ls [.int w0]) := by
  intro v0 v1 v3 w0 h_v0 k_v0 S H locs ls hf hP hS hW hl
  have hx := C.1
  have hb := C.2.1
  unfold s_X3_readEither_J106 at hf
  refine x_aft_i (x_runS (As := [.int w0]) (rest := []) C hP hS (c_X3_asFact (l := l) C.2.2.2.2.2.2.2.2.2.1 hW rfl H.size) km_X3_asFact ks_X3_asFact qm_X3_50 ⟨(by show _ ≤ _; simp only [RM]; omega), (by show _ ≤ _; simp only [RM]; omega)⟩ rfl hl.1 rfl (Nat.le_of_ble_eq_true rfl) ⟨Nat.zero_le _, Nat.zero_le _⟩ dX3_readEither_106) hS (fun H locs hP hS hW => ?_)
  obtain ⟨x17, ex17, hf⟩ := bnd_e hf
  refine nm_i ex17 ?_
  refine lv_istore_n (lv' := [(2, .int x17), (0, .ref v0), (1, .int v1), (3, .int v3)]) hx hb dX3_readEither_109 rfl hl (by decide) rfl (fun ls hl => ?_)
  obtain ⟨x18, ex18, hf⟩ := bnd_e hf
  refine lv_iinc (v := x18) (lv' := [(3, .int x18), (2, .int x17), (0, .ref v0), (1, .int v1)]) hx hb dX3_readEither_110 hl (k := 3) rfl ex18.symm (by decide) rfl (fun ls hl => ?_)
  refine lv_goto (tgt := 8) hx hb dX3_readEither_113 (by decide) ?_
  exact hk8 v0 v1 x17 x18 h_v0 k_v0 S H locs _ hf hP hS hW (lv_sub hl [2, 3, 1, 0] rfl)
set_option maxRecDepth 100000 in
set_option maxHeartbeats 4000000 in
theorem b_X3_readEither_56 {p : Program} {l : Launch} {e : Env} {s : State} {m : MethodId} {args : Array Value} {below : List Frame} {meth : Method} {c : Code} {V : EV} {G : GS} {r : Int32} {S' : HS} {F : Nat} {fr lo : Nat} {rp : Nat → Int32 → HS → Option (Int32 × HS)} (hrp : ∀ (this : Nat) (q0 : Int32), ∀ {S S1 : HS} {r : Int32}, WT G S → this ∈ G.1 → G.2.1 this = 3 → rp this q0 S = some (r, S1) → MetI l yX3_readPart cX3_readPart 7 .int fr lo V G S [.ref this, .int q0] r S1) (C : CX p s m args meth c RX3 cX3_readEither 6 (some .int) V G) {k8 : Nat → Int32 → Int32 → Int32 → HS → Option (Int32 × HS)} (hk8 : ∀ (v0 : Nat) (v1 : Int32) (v2 : Int32) (v3 : Int32) (h_v0 : v0 ∈ G.1) (k_v0 : G.2.1 v0 = 3) (S : HS) (H : Heap) (locs : List Loc) (ls : Array Slot), k8 v0 v1 v2 v3 S = some (r, S') → HP V G S H → va_S (AG G s.heap.size) s.heap H locs → WT G S → lv_has ls 6 [(0, .ref v0), (1, .int v1), (2, .int v2), (3, .int v3)] → W p l e (RM (fr + 16) (lo + 585)) s m args below meth c H locs 0 0 (MQ below (QI V G S' r s.heap.size) args s 0 0 (AG G s.heap.size)) (F0 m 8 ls [])) : ∀ (v0 : Nat) (v1 : Int32) (v2 : Int32) (v3 : Int32) (v4 : Int32) (h_v0 : v0 ∈ G.1) (k_v0 : G.2.1 v0 = 3) (S : HS) (H : Heap) (locs : List Loc) (ls : Array Slot), s_X3_readEither_J56 G.2.2 F rp k8 v0 v1 v2 v3 v4 S = some (r, S') → HP V G S H → va_S (AG G s.heap.size) s.heap H locs → WT G S → lv_has ls 6 [(0, .ref v0), (1, .int v1), (2, .int v2), (3, .int v3), (4, .int v4)] → W p l e (RM (fr + 16) (lo + 585)) s m args below meth c H locs 0 0 (MQ below (QI V G S' r s.heap.size) args s 0 0 (AG G s.heap.size)) (F0 m 56 ls []) := by
  intro v0 v1 v2 v3 v4 h_v0 k_v0 S H locs ls hf hP hS hW hl
  have hx := C.1
  have hb := C.2.1
  unfold s_X3_readEither_J56 at hf
  refine lv_aload_n hx hb dX3_readEither_56 rfl (lv_at hl 0 rfl) ?_
  refine gf_X3_9 C hP h_v0 k_v0 dX3_readEither_57 ?_
  obtain ⟨t11, et11, hf⟩ := bd1_e hf
  obtain ⟨h_t11, k_t11⟩ := wt_r hW h_v0 k_v0 (by decide) et11
  have k_t11 : G.2.1 t11 = 8 := k_t11
  rw [et11]
  obtain ⟨S12, eS12, hf⟩ := bd1_e hf
  refine x_aft_v (x_runV (As := []) (rest := []) C hP hS (c_X8_advance (l := l) C.2.2.2.2.2.2.2.2.2.1 hW h_t11 k_t11 eS12 H.size) h_t11 k_t11 (by decide) rfl rfl km_X8_advance ki_X8_advance qm_X3_47 ⟨(by show _ ≤ _; simp only [RM]; omega), (by show _ ≤ _; simp only [RM]; omega)⟩ rfl hl.1 rfl (Nat.le_of_ble_eq_true rfl) ⟨Nat.zero_le _, Nat.zero_le _⟩ dX3_readEither_60) hS (fun H locs hP hS hW => ?_)
  refine lv_aload_n hx hb dX3_readEither_63 rfl (lv_at hl 0 rfl) ?_
  refine lv_iload_n hx hb dX3_readEither_64 rfl (lv_at hl 1 rfl) ?_
  obtain ⟨r13, S14, eS14, hf⟩ := bd2_e hf
  refine x_aft_i (x_runV (As := [.int v1]) (rest := []) C hP hS (c_X3_readTest (l := l) C.2.2.2.2.2.2.2.2.2.1 hW hrp h_v0 k_v0 eS14 H.size) h_v0 k_v0 (by decide) rfl rfl km_X3_readTest ki_X3_readTest qm_X3_36 ⟨(by show _ ≤ _; simp only [RM]; omega), (by show _ ≤ _; simp only [RM]; omega)⟩ rfl hl.1 rfl (Nat.le_of_ble_eq_true rfl) ⟨Nat.zero_le _, Nat.zero_le _⟩ dX3_readEither_65) hS (fun H locs hP hS hW => ?_)
  refine lv_istore (lv' := [(5, .int r13), (0, .ref v0), (1, .int v1), (2, .int v2), (3, .int v3), (4, .int v4)]) hx hb dX3_readEither_68 hl (by decide) rfl (fun ls hl => ?_)
  refine lv_iload hx hb dX3_readEither_70 (lv_at hl 5 rfl) ?_
  refine lv_if_eq (tgt := 92) hx hb dX3_readEither_72 (by decide) (fun c15 => ?_) (fun c15 => ?_)
  · have hf := if_t c15 hf
    refine lv_iload_n hx hb dX3_readEither_92 rfl (lv_at hl 3 rfl) ?_
    refine lv_if_ne (tgt := 101) hx hb dX3_readEither_93 (by decide) (fun c16 => ?_) (fun c16 => ?_)
    · have hf := if_f c16 hf
      refine lv_iconst (v := 1) hx hb dX3_readEither_101 rfl ?_
      refine lv_goto (tgt := 106) hx hb dX3_readEither_102 (by decide) ?_
      exact b_X3_readEither_106 hrp C hk8 v0 v1 v3 1 h_v0 k_v0 S14 H locs _ hf hP hS hW (lv_sub hl [1, 2, 4] rfl)
    · have hf := if_t c16 hf
      refine lv_iload hx hb dX3_readEither_96 (lv_at hl 0 rfl) ?_
      refine lv_if_eq (tgt := 105) hx hb dX3_readEither_98 (by decide) (fun c19 => ?_) (fun c19 => ?_)
      · have hf := if_t c19 hf
        refine lv_iconst (v := 0) hx hb dX3_readEither_105 rfl ?_
        exact b_X3_readEither_106 hrp C hk8 v0 v1 v3 0 h_v0 k_v0 S14 H locs _ hf hP hS hW (lv_sub hl [1, 2, 4] rfl)
      · have hf := if_f c19 hf
        refine lv_iconst (v := 1) hx hb dX3_readEither_101 rfl ?_
        refine lv_goto (tgt := 106) hx hb dX3_readEither_102 (by decide) ?_
        exact b_X3_readEither_106 hrp C hk8 v0 v1 v3 1 h_v0 k_v0 S14 H locs _ hf hP hS hW (lv_sub hl [1, 2, 4] rfl)
  · have hf := if_f c15 hf
    refine lv_iload_n hx hb dX3_readEither_75 rfl (lv_at hl 3 rfl) ?_
    refine lv_if_eq (tgt := 88) hx hb dX3_readEither_76 (by decide) (fun c20 => ?_) (fun c20 => ?_)
    · have hf := if_t c20 hf
      refine lv_iconst (v := 0) hx hb dX3_readEither_88 rfl ?_
      refine lv_goto (tgt := 106) hx hb dX3_readEither_89 (by decide) ?_
      exact b_X3_readEither_106 hrp C hk8 v0 v1 v3 0 h_v0 k_v0 S14 H locs _ hf hP hS hW (lv_sub hl [1, 2, 4] rfl)
    · have hf := if_f c20 hf
      refine lv_iload hx hb dX3_readEither_79 (lv_at hl 0 rfl) ?_
      refine lv_if_eq (tgt := 88) hx hb dX3_readEither_81 (by decide) (fun c21 => ?_) (fun c21 => ?_)
      · have hf := if_t c21 hf
        refine lv_iconst (v := 0) hx hb dX3_readEither_88 rfl ?_
        refine lv_goto (tgt := 106) hx hb dX3_readEither_89 (by decide) ?_
        exact b_X3_readEither_106 hrp C hk8 v0 v1 v3 0 h_v0 k_v0 S14 H locs _ hf hP hS hW (lv_sub hl [1, 2, 4] rfl)
      · have hf := if_f c21 hf
        refine lv_iconst (v := 1) hx hb dX3_readEither_84 rfl ?_
        refine lv_goto (tgt := 106) hx hb dX3_readEither_85 (by decide) ?_
        exact b_X3_readEither_106 hrp C hk8 v0 v1 v3 1 h_v0 k_v0 S14 H locs _ hf hP hS hW (lv_sub hl [1, 2, 4] rfl)
set_option maxRecDepth 100000 in
set_option maxHeartbeats 4000000 in
theorem b_X3_readEither_8 {p : Program} {l : Launch} {e : Env} {s : State} {m : MethodId} {args : Array Value} {below : List Frame} {meth : Method} {c : Code} {V : EV} {G : GS} {r : Int32} {S' : HS} {F : Nat} {fr lo : Nat} {rp : Nat → Int32 → HS → Option (Int32 × HS)} (hrp : ∀ (this : Nat) (q0 : Int32), ∀ {S S1 : HS} {r : Int32}, WT G S → this ∈ G.1 → G.2.1 this = 3 → rp this q0 S = some (r, S1) → MetI l yX3_readPart cX3_readPart 7 .int fr lo V G S [.ref this, .int q0] r S1) (C : CX p s m args meth c RX3 cX3_readEither 6 (some .int) V G) {k53 : Int32 → HS → Option (Int32 × HS)} (hk53 : ∀ (v2 : Int32) (S : HS) (H : Heap) (locs : List Loc) (ls : Array Slot), k53 v2 S = some (r, S') → HP V G S H → va_S (AG G s.heap.size) s.heap H locs → WT G S → lv_has ls 6 [(2, .int v2)] → W p l e (RM (fr + 16) (lo + 585)) s m args below meth c H locs 0 0 (MQ below (QI V G S' r s.heap.size) args s 0 0 (AG G s.heap.size)) (F0 m 53 ls [])) : ∀ n : Nat, ∀ (v0 : Nat) (v1 : Int32) (v2 : Int32) (v3 : Int32) (h_v0 : v0 ∈ G.1) (k_v0 : G.2.1 v0 = 3) (S : HS) (H : Heap) (locs : List Loc) (ls : Array Slot), s_X3_readEither_L8 G.2.2 F rp k53 n v0 v1 v2 v3 S = some (r, S') → HP V G S H → va_S (AG G s.heap.size) s.heap H locs → WT G S → lv_has ls 6 [(0, .ref v0), (1, .int v1), (2, .int v2), (3, .int v3)] → W p l e (RM (fr + 16) (lo + 585)) s m args below meth c H locs 0 0 (MQ below (QI V G S' r s.heap.size) args s 0 0 (AG G s.heap.size)) (F0 m 8 ls []) := by
  intro n
  induction n with
  | zero =>
    intro v0 v1 v2 v3 h_v0 k_v0 S H locs ls hf
    rw [s_X3_readEither_L8] at hf
    cases hf
  | succ n ih =>
    intro v0 v1 v2 v3 h_v0 k_v0 S H locs ls hf hP hS hW hl
    have hx := C.1
    have hb := C.2.1
    rw [s_X3_readEither_L8] at hf
    refine lv_iload_n hx hb dX3_readEither_8 rfl (lv_at hl 3 rfl) ?_
    refine lv_sipush (v := 1000) hx hb dX3_readEither_9 kc_sipush_1000 ?_
    refine lv_icmp_gt (tgt := 116) hx hb dX3_readEither_12 (by decide) (fun c3 => ?_) (fun c3 => ?_)
    · have hf := if_t c3 hf
      refine lv_iload_n hx hb dX3_readEither_116 rfl (lv_at hl 2 rfl) ?_
      cases hf
      exact x_reti C hP hS hW dX3_readEither_117
    · have hf := if_f c3 hf
      refine lv_aload_n hx hb dX3_readEither_15 rfl (lv_at hl 0 rfl) ?_
      refine gf_X3_9 C hP h_v0 k_v0 dX3_readEither_16 ?_
      obtain ⟨t4, et4, hf⟩ := bd1_e hf
      obtain ⟨h_t4, k_t4⟩ := wt_r hW h_v0 k_v0 (by decide) et4
      have k_t4 : G.2.1 t4 = 8 := k_t4
      rw [et4]
      refine x_aft_z (x_runV (As := []) (rest := []) C hP hS (c_X8_isRight (l := l) C.2.2.2.2.2.2.2.2.2.1 hW h_t4 k_t4 rfl H.size) h_t4 k_t4 (by decide) rfl rfl km_X8_isRight ki_X8_isRight qm_X3_21 ⟨(by show _ ≤ _; simp only [RM]; omega), (by show _ ≤ _; simp only [RM]; omega)⟩ rfl hl.1 rfl (Nat.le_of_ble_eq_true rfl) ⟨Nat.zero_le _, Nat.zero_le _⟩ dX3_readEither_19) hS (fun H locs hP hS hW z5 => ?_)
      refine lv_if_eq (tgt := 116) hx hb dX3_readEither_22 (by decide) (fun c6 => ?_) (fun c6 => ?_)
      · have hf := if_t c6 hf
        refine lv_iload_n hx hb dX3_readEither_116 rfl (lv_at hl 2 rfl) ?_
        cases hf
        exact x_reti C hP hS hW dX3_readEither_117
      · have hf := if_f c6 hf
        refine lv_aload_n hx hb dX3_readEither_25 rfl (lv_at hl 0 rfl) ?_
        refine gf_X3_9 C hP h_v0 k_v0 dX3_readEither_26 ?_
        obtain ⟨t7, et7, hf⟩ := bd1_e hf
        obtain ⟨h_t7, k_t7⟩ := wt_r hW h_v0 k_v0 (by decide) et7
        have k_t7 : G.2.1 t7 = 8 := k_t7
        rw [et7]
        refine va_ldcS hx hb C.2.2.2.2.1 (C.2.2.2.2.2.2.2.2.1.1.2 (RX3, 39, "and", 11) (List.mem_of_getElem? (i := 27) rfl)) dX3_readEither_29 ?_
        obtain ⟨r8, er8, hf⟩ := bd1_e hf
        refine x_aft_z (x_runV (As := [.ref (V.2.2.1 11)]) (rest := []) C hP hS (c_X8_isWord (l := l) C.2.2.2.2.2.2.2.2.2.1 hW h_t7 k_t7 (by decide) er8 H.size) h_t7 k_t7 (by decide) rfl rfl km_X8_isWord ki_X8_isWord qm_X3_41 ⟨(by show _ ≤ _; simp only [RM]; omega), (by show _ ≤ _; simp only [RM]; omega)⟩ rfl hl.1 rfl (Nat.le_of_ble_eq_true rfl) ⟨Nat.zero_le _, Nat.zero_le _⟩ dX3_readEither_31) hS (fun H locs hP hS hW z9 => ?_)
        refine lv_istore (lv' := [(4, .int r8), (0, .ref v0), (1, .int v1), (2, .int v2), (3, .int v3)]) hx hb dX3_readEither_34 hl (by decide) rfl (fun ls hl => ?_)
        refine lv_iload hx hb dX3_readEither_36 (lv_at hl 0 rfl) ?_
        refine lv_if_ne (tgt := 56) hx hb dX3_readEither_38 (by decide) (fun c10 => ?_) (fun c10 => ?_)
        · have hf := if_f c10 hf
          exact b_X3_readEither_56 hrp C ih v0 v1 v2 v3 r8 h_v0 k_v0 S H locs _ hf hP hS hW (lv_sub hl [1, 2, 3, 4, 0] rfl)
        · have hf := if_t c10 hf
          refine lv_aload_n hx hb dX3_readEither_41 rfl (lv_at hl 1 rfl) ?_
          refine gf_X3_9 C hP h_v0 k_v0 dX3_readEither_42 ?_
          obtain ⟨t22, et22, hf⟩ := bd1_e hf
          obtain ⟨h_t22, k_t22⟩ := wt_r hW h_v0 k_v0 (by decide) et22
          have k_t22 : G.2.1 t22 = 8 := k_t22
          rw [et22]
          refine va_ldcS hx hb C.2.2.2.2.1 (C.2.2.2.2.2.2.2.2.1.1.2 (RX3, 45, "or", 12) (List.mem_of_getElem? (i := 28) rfl)) dX3_readEither_45 ?_
          obtain ⟨r23, er23, hf⟩ := bd1_e hf
          refine x_aft_z (x_runV (As := [.ref (V.2.2.1 12)]) (rest := []) C hP hS (c_X8_isWord (l := l) C.2.2.2.2.2.2.2.2.2.1 hW h_t22 k_t22 (by decide) er23 H.size) h_t22 k_t22 (by decide) rfl rfl km_X8_isWord ki_X8_isWord qm_X3_41 ⟨(by show _ ≤ _; simp only [RM]; omega), (by show _ ≤ _; simp only [RM]; omega)⟩ rfl hl.1 rfl (Nat.le_of_ble_eq_true rfl) ⟨Nat.zero_le _, Nat.zero_le _⟩ dX3_readEither_47) hS (fun H locs hP hS hW z24 => ?_)
          refine lv_if_ne (tgt := 56) hx hb dX3_readEither_50 (by decide) (fun c25 => ?_) (fun c25 => ?_)
          · have hf := if_f c25 hf
            exact b_X3_readEither_56 hrp C ih v0 v1 v2 v3 r8 h_v0 k_v0 S H locs _ hf hP hS hW (lv_sub hl [1, 2, 3, 4, 0] rfl)
          · have hf := if_t c25 hf
            exact hk53 v2 S H locs _ hf hP hS hW (lv_sub hl [3] rfl)
set_option maxRecDepth 100000 in
set_option maxHeartbeats 4000000 in
theorem b_X3_readEither_53 {p : Program} {l : Launch} {e : Env} {s : State} {m : MethodId} {args : Array Value} {below : List Frame} {meth : Method} {c : Code} {V : EV} {G : GS} {r : Int32} {S' : HS} {F : Nat} {fr lo : Nat} {rp : Nat → Int32 → HS → Option (Int32 × HS)} (hrp : ∀ (this : Nat) (q0 : Int32), ∀ {S S1 : HS} {r : Int32}, WT G S → this ∈ G.1 → G.2.1 this = 3 → rp this q0 S = some (r, S1) → MetI l yX3_readPart cX3_readPart 7 .int fr lo V G S [.ref this, .int q0] r S1) (C : CX p s m args meth c RX3 cX3_readEither 6 (some .int) V G) : ∀ (v2 : Int32) (S : HS) (H : Heap) (locs : List Loc) (ls : Array Slot), s_X3_readEither_J53 G.2.2 F rp v2 S = some (r, S') → HP V G S H → va_S (AG G s.heap.size) s.heap H locs → WT G S → lv_has ls 6 [(2, .int v2)] → W p l e (RM (fr + 16) (lo + 585)) s m args below meth c H locs 0 0 (MQ below (QI V G S' r s.heap.size) args s 0 0 (AG G s.heap.size)) (F0 m 53 ls []) := by
  intro v2 S H locs ls hf hP hS hW hl
  have hx := C.1
  have hb := C.2.1
  unfold s_X3_readEither_J53 at hf
  refine lv_goto (tgt := 116) hx hb dX3_readEither_53 (by decide) ?_
  refine lv_iload_n hx hb dX3_readEither_116 rfl (lv_at hl 0 rfl) ?_
  cases hf
  exact x_reti C hP hS hW dX3_readEither_117
set_option maxRecDepth 100000 in
set_option maxHeartbeats 4000000 in
theorem c_X3_readEither {l : Launch} {V : EV} {G : GS} {S : HS} {F : Nat} {a : Nat} {p0 : Int32} {r : Int32} {S' : HS} (hN : G.1.Nodup) (hW : WT G S) {fr lo : Nat} {rp : Nat → Int32 → HS → Option (Int32 × HS)} (hrp : ∀ (this : Nat) (q0 : Int32), ∀ {S S1 : HS} {r : Int32}, WT G S → this ∈ G.1 → G.2.1 this = 3 → rp this q0 S = some (r, S1) → MetI l yX3_readPart cX3_readPart 7 .int fr lo V G S [.ref this, .int q0] r S1) (h_a : a ∈ G.1) (k_a : G.2.1 a = 3) (hf : s_X3_readEither G.2.2 F rp a p0 S = some (r, S')) : MetI l yX3_readEither cX3_readEither 6 .int (fr + 16) (lo + 585) V G S [.ref a, .int p0] r S' := by
  intro sz
  refine x_in RX3 rfl (by decide +kernel) hN (Nat.le_of_ble_eq_true rfl) (fun p e s m args below meth c ls hsz hargs hnm C hP hS hl => ?_)
  subst hsz
  have hx := C.1
  have hb := C.2.1
  have hl : lv_has ls 6 [(0, .ref a), (1, .int p0)] := hl
  unfold s_X3_readEither at hf
  refine lv_aload_n hx hb dX3_readEither_0 rfl (lv_at hl 0 rfl) ?_
  refine lv_iload_n hx hb dX3_readEither_1 rfl (lv_at hl 1 rfl) ?_
  obtain ⟨r1, S2, eS2, hf⟩ := bd2_e hf
  refine x_aft_i (x_runV (As := [.int p0]) (rest := []) C hP hS (c_X3_readTest (l := l) C.2.2.2.2.2.2.2.2.2.1 hW hrp h_a k_a eS2 s.heap.size) h_a k_a (by decide) rfl rfl km_X3_readTest ki_X3_readTest qm_X3_36 ⟨(by show _ ≤ _; simp only [RM]; omega), (by show _ ≤ _; simp only [RM]; omega)⟩ rfl hl.1 rfl (Nat.le_of_ble_eq_true rfl) ⟨Nat.zero_le _, Nat.zero_le _⟩ dX3_readEither_2) hS (fun H locs hP hS hW => ?_)
  refine lv_istore_n (lv' := [(2, .int r1), (0, .ref a), (1, .int p0)]) hx hb dX3_readEither_5 rfl hl (by decide) rfl (fun ls hl => ?_)
  refine lv_iconst (v := 0) hx hb dX3_readEither_6 rfl ?_
  refine lv_istore_n (lv' := [(3, .int 0), (2, .int r1), (0, .ref a), (1, .int p0)]) hx hb dX3_readEither_7 rfl hl (by decide) rfl (fun ls hl => ?_)
  exact b_X3_readEither_8 hrp C (b_X3_readEither_53 hrp C) F a p0 r1 0 h_a k_a S2 H locs _ hf hP hS hW (lv_sub hl [2, 3, 1, 0] rfl)
def s_X8_readFrom (N : Nat → Nat) (F : Nat) (a : Nat) (p0 : Int32) (S : HS) : Option HS :=
  bnd (uI S 804 a p0) fun S1 =>
  bd1 (s_X8_advance N F a S1) fun S2 =>
  some S2
set_option maxRecDepth 100000 in
set_option maxHeartbeats 4000000 in
theorem c_X8_readFrom {l : Launch} {V : EV} {G : GS} {S : HS} {F : Nat} {a : Nat} {p0 : Int32} {S' : HS} (hN : G.1.Nodup) (hW : WT G S) (h_a : a ∈ G.1) (k_a : G.2.1 a = 8) (hf : s_X8_readFrom G.2.2 F a p0 S = some S') : MetV l yX8_readFrom cX8_readFrom 2 13 489 V G S [.ref a, .int p0] S' := by
  intro sz
  refine x_in RX8 rfl (by decide +kernel) hN (Nat.le_of_ble_eq_true rfl) (fun p e s m args below meth c ls hsz hargs hnm C hP hS hl => ?_)
  subst hsz
  have hx := C.1
  have hb := C.2.1
  have hl : lv_has ls 2 [(0, .ref a), (1, .int p0)] := hl
  unfold s_X8_readFrom at hf
  refine lv_aload_n hx hb dX8_readFrom_0 rfl (lv_at hl 0 rfl) ?_
  refine lv_iload_n hx hb dX8_readFrom_1 rfl (lv_at hl 1 rfl) ?_
  obtain ⟨S1, eS1, hf⟩ := bnd_e hf
  refine pf_X8_26 C hP hS h_a k_a eS1 dX8_readFrom_2 (fun H locs hP hS => ?_)
  have hW : WT G S1 := by rw [eS1]; exact hW
  refine lv_aload_n hx hb dX8_readFrom_5 rfl (lv_at hl 0 rfl) ?_
  obtain ⟨S2, eS2, hf⟩ := bd1_e hf
  refine x_aft_v (x_runV (As := []) (rest := []) C hP hS (c_X8_advance (l := l) C.2.2.2.2.2.2.2.2.2.1 hW h_a k_a eS2 H.size) h_a k_a (by decide) rfl rfl km_X8_advance ki_X8_advance qm_X8_29 ⟨(Nat.le_of_ble_eq_true rfl), (Nat.le_of_ble_eq_true rfl)⟩ rfl hl.1 rfl (Nat.le_of_ble_eq_true rfl) ⟨Nat.zero_le _, Nat.zero_le _⟩ dX8_readFrom_6) hS (fun H locs hP hS hW => ?_)
  cases hf
  exact x_retv C hP hS hW dX8_readFrom_9
def s_X8_blame (a : Nat) (p0 : Int32) (S : HS) : HS :=
  if (gI S 807 a) = (0 : Int32) then
  bnd (uI S 807 a (p0 + (16 * (gI S 803 a)))) fun S2 =>
  S2
  else
  S
set_option maxRecDepth 100000 in
set_option maxHeartbeats 4000000 in
theorem c_X8_blame {l : Launch} {V : EV} {G : GS} {S : HS} {a : Nat} {p0 : Int32} {S' : HS} (hN : G.1.Nodup) (hW : WT G S) (h_a : a ∈ G.1) (k_a : G.2.1 a = 8) (hf : s_X8_blame a p0 S = S') : MetV l yX8_blame cX8_blame 2 0 0 V G S [.ref a, .int p0] S' := by
  intro sz
  refine x_in RX8 rfl (by decide +kernel) hN (Nat.le_of_ble_eq_true rfl) (fun p e s m args below meth c ls hsz hargs hnm C hP hS hl => ?_)
  subst hsz
  have hx := C.1
  have hb := C.2.1
  have hl : lv_has ls 2 [(0, .ref a), (1, .int p0)] := hl
  unfold s_X8_blame at hf
  refine lv_aload_n hx hb dX8_blame_0 rfl (lv_at hl 0 rfl) ?_
  refine gf_X8_19 C hP h_a k_a dX8_blame_1 ?_
  refine lv_if_ne (tgt := 20) hx hb dX8_blame_4 (by decide) (fun c1 => ?_) (fun c1 => ?_)
  · have hf := if_f c1 hf
    cases hf
    exact x_retv C hP hS hW dX8_blame_20
  · have hf := if_t c1 hf
    refine lv_aload_n hx hb dX8_blame_7 rfl (lv_at hl 0 rfl) ?_
    refine lv_iload_n hx hb dX8_blame_8 rfl (lv_at hl 1 rfl) ?_
    refine lv_bipush (v := 16) hx hb dX8_blame_9 kc_bipush_16 ?_
    refine lv_aload_n hx hb dX8_blame_11 rfl (lv_at hl 0 rfl) ?_
    refine gf_X8_32 C hP h_a k_a dX8_blame_12 ?_
    refine lv_imul hx hb dX8_blame_15 ?_
    refine lv_iadd hx hb dX8_blame_16 ?_
    obtain ⟨S2, eS2, hf⟩ := bnd_e hf
    refine pf_X8_19 C hP hS h_a k_a eS2 dX8_blame_17 (fun H locs hP hS => ?_)
    have hW : WT G S2 := by rw [eS2]; exact hW
    cases hf
    exact x_retv C hP hS hW dX8_blame_20
def s_X3_readPart_J57 (N : Nat → Nat) (F : Nat) (rp : Nat → Int32 → HS → Option (Int32 × HS)) (v0 : Nat) (S : HS) : Option (Int32 × HS) :=
  bd1 (gR S 300 v0) fun t8 =>
  bnd (s_X8_blame t8 1 S) fun S9 =>
  some (0, S9)
def s_X3_readPart_J126 (N : Nat → Nat) (F : Nat) (rp : Nat → Int32 → HS → Option (Int32 × HS)) (w0 : Int32) (S : HS) : Option (Int32 × HS) :=
  some (s_X3_asFact w0 S, S)
def s_X3_readPart_J67 (N : Nat → Nat) (F : Nat) (rp : Nat → Int32 → HS → Option (Int32 × HS)) (v0 : Nat) (v1 : Int32) (v2 : Int32) (v3 : Int32) (S : HS) : Option (Int32 × HS) :=
  if v1 < (5 : Int32) then
  bd1 (gR S 300 v0) fun t12 =>
  bnd (gI S 802 t12 : Int32) fun x13 =>
  bd1 (gR S 300 v0) fun t14 =>
  bnd (gI S 806 t14 : Int32) fun x15 =>
  bd1 (gR S 300 v0) fun t16 =>
  bd1 (s_X8_advance N F t16 S) fun S17 =>
  if v3 = (0 : Int32) then
  if x13 = (40 : Int32) then
  bd2 (s_X3_readEither N F rp v0 (v1 + 1) S17) fun r21 S22 =>
  bd1 (gR S22 300 v0) fun t23 =>
  if (gI S22 802 t23) = (41 : Int32) then
  bd1 (gR S22 300 v0) fun t27 =>
  bd1 (s_X8_advance N F t27 S22) fun S28 =>
  some (r21, S28)
  else
  bd1 (gR S22 300 v0) fun t25 =>
  bnd (s_X8_blame t25 1 S22) fun S26 =>
  some (r21, S26)
  else
  if x13 = (2 : Int32) then
  some (x15, S17)
  else
  some (((gI S17 301 v0) >>> (v2 &&& 31)) &&& 1, S17)
  else
  bd2 (rp v0 (v1 + 1) S17) fun r29 S30 =>
  if r29 = (0 : Int32) then
  s_X3_readPart_J126 N F rp 1 S30
  else
  s_X3_readPart_J126 N F rp 0 S30
  else
  bd1 (gR S 300 v0) fun t32 =>
  bnd (s_X8_blame t32 5 S) fun S33 =>
  some (0, S33)
def s_X3_readPart_body (N : Nat → Nat) (F : Nat) (rp : Nat → Int32 → HS → Option (Int32 × HS)) (a : Nat) (p0 : Int32) (S : HS) : Option (Int32 × HS) :=
  bd1 (s_X3_factNamed F a S) fun r1 =>
  bd1 (gR S 300 a) fun t2 =>
  bd1 (s_X8_isWord F t2 10 S) fun r3 =>
  bd1 (gR S 300 a) fun t5 =>
  if (s_X8_isRight t5 S) = (0 : Int32) then
  s_X3_readPart_J57 N F rp a S
  else
  if r3 = (0 : Int32) then
  if r1 = (-1 : Int32) then
  bd1 (gR S 300 a) fun t35 =>
  if (gI S 802 t35) = (2 : Int32) then
  s_X3_readPart_J67 N F rp a p0 r1 r3 S
  else
  bd1 (gR S 300 a) fun t37 =>
  if (gI S 802 t37) = (40 : Int32) then
  s_X3_readPart_J67 N F rp a p0 r1 r3 S
  else
  s_X3_readPart_J57 N F rp a S
  else
  s_X3_readPart_J67 N F rp a p0 r1 r3 S
  else
  s_X3_readPart_J67 N F rp a p0 r1 r3 S
def s_X3_readPart (N : Nat → Nat) (F : Nat) : Nat → Nat → Int32 → HS → Option (Int32 × HS)
  | 0, _, _, _ => none
  | n + 1, a, p0, S => s_X3_readPart_body N F (s_X3_readPart N F n) a p0 S
set_option maxRecDepth 100000 in
set_option maxHeartbeats 4000000 in
theorem b_X3_readPart_57 {p : Program} {l : Launch} {e : Env} {s : State} {m : MethodId} {args : Array Value} {below : List Frame} {meth : Method} {c : Code} {V : EV} {G : GS} {r : Int32} {S' : HS} {F : Nat} {fr lo : Nat} {rp : Nat → Int32 → HS → Option (Int32 × HS)} (hrp : ∀ (this : Nat) (q0 : Int32), ∀ {S S1 : HS} {r : Int32}, WT G S → this ∈ G.1 → G.2.1 this = 3 → rp this q0 S = some (r, S1) → MetI l yX3_readPart cX3_readPart 7 .int fr lo V G S [.ref this, .int q0] r S1) (C : CX p s m args meth c RX3 cX3_readPart 7 (some .int) V G) : ∀ (v0 : Nat) (h_v0 : v0 ∈ G.1) (k_v0 : G.2.1 v0 = 3) (S : HS) (H : Heap) (locs : List Loc) (ls : Array Slot), s_X3_readPart_J57 G.2.2 F rp v0 S = some (r, S') → HP V G S H → va_S (AG G s.heap.size) s.heap H locs → WT G S → lv_has ls 7 [(0, .ref v0)] → W p l e (RM (fr + 17) (lo + 618)) s m args below meth c H locs 0 0 (MQ below (QI V G S' r s.heap.size) args s 0 0 (AG G s.heap.size)) (F0 m 57 ls []) := by
  intro v0 h_v0 k_v0 S H locs ls hf hP hS hW hl
  have hx := C.1
  have hb := C.2.1
  unfold s_X3_readPart_J57 at hf
  refine lv_aload_n hx hb dX3_readPart_57 rfl (lv_at hl 0 rfl) ?_
  refine gf_X3_9 C hP h_v0 k_v0 dX3_readPart_58 ?_
  obtain ⟨t8, et8, hf⟩ := bd1_e hf
  obtain ⟨h_t8, k_t8⟩ := wt_r hW h_v0 k_v0 (by decide) et8
  have k_t8 : G.2.1 t8 = 8 := k_t8
  rw [et8]
  refine lv_iconst (v := 1) hx hb dX3_readPart_61 rfl ?_
  obtain ⟨S9, eS9, hf⟩ := bnd_e hf
  refine x_aft_v (x_runV (As := [.int 1]) (rest := []) C hP hS (c_X8_blame (l := l) C.2.2.2.2.2.2.2.2.2.1 hW h_t8 k_t8 eS9.symm H.size) h_t8 k_t8 (by decide) rfl rfl km_X8_blame ki_X8_blame qm_X3_72 ⟨(by show _ ≤ _; simp only [RM]; omega), (by show _ ≤ _; simp only [RM]; omega)⟩ rfl hl.1 rfl (Nat.le_of_ble_eq_true rfl) ⟨Nat.zero_le _, Nat.zero_le _⟩ dX3_readPart_62) hS (fun H locs hP hS hW => ?_)
  refine lv_iconst (v := 0) hx hb dX3_readPart_65 rfl ?_
  cases hf
  exact x_reti C hP hS hW dX3_readPart_66
set_option maxRecDepth 100000 in
set_option maxHeartbeats 4000000 in
theorem b_X3_readPart_126 {p : Program} {l : Launch} {e : Env} {s : State} {m : MethodId} {args : Array Value} {below : List Frame} {meth : Method} {c : Code} {V : EV} {G : GS} {r : Int32} {S' : HS} {F : Nat} {fr lo : Nat} {rp : Nat → Int32 → HS → Option (Int32 × HS)} (hrp : ∀ (this : Nat) (q0 : Int32), ∀ {S S1 : HS} {r : Int32}, WT G S → this ∈ G.1 → G.2.1 this = 3 → rp this q0 S = some (r, S1) → MetI l yX3_readPart cX3_readPart 7 .int fr lo V G S [.ref this, .int q0] r S1) (C : CX p s m args meth c RX3 cX3_readPart 7 (some .int) V G) : ∀ (w0 : Int32) (S : HS) (H : Heap) (locs : List Loc) (ls : Array Slot), s_X3_readPart_J126 G.2.2 F rp w0 S = some (r, S') → HP V G S H → va_S (AG G s.heap.size) s.heap H locs → WT G S → lv_has ls 7 [] → W p l e (RM (fr + 17) (lo + 618)) s m args below meth c H locs 0 0 (MQ below (QI V G S' r s.heap.size) args s 0 0 (AG G s.heap.size)) (F0 m 126 ls [.int w0]) := by
  intro w0 S H locs ls hf hP hS hW hl
  have hx := C.1
  have hb := C.2.1
  unfold s_X3_readPart_J126 at hf
  refine x_aft_i (x_runS (As := [.int w0]) (rest := []) C hP hS (c_X3_asFact (l := l) C.2.2.2.2.2.2.2.2.2.1 hW rfl H.size) km_X3_asFact ks_X3_asFact qm_X3_50 ⟨(by show _ ≤ _; simp only [RM]; omega), (by show _ ≤ _; simp only [RM]; omega)⟩ rfl hl.1 rfl (Nat.le_of_ble_eq_true rfl) ⟨Nat.zero_le _, Nat.zero_le _⟩ dX3_readPart_126) hS (fun H locs hP hS hW => ?_)
  cases hf
  exact x_reti C hP hS hW dX3_readPart_129
set_option maxRecDepth 100000 in
set_option maxHeartbeats 4000000 in
theorem b_X3_readPart_67 {p : Program} {l : Launch} {e : Env} {s : State} {m : MethodId} {args : Array Value} {below : List Frame} {meth : Method} {c : Code} {V : EV} {G : GS} {r : Int32} {S' : HS} {F : Nat} {fr lo : Nat} {rp : Nat → Int32 → HS → Option (Int32 × HS)} (hrp : ∀ (this : Nat) (q0 : Int32), ∀ {S S1 : HS} {r : Int32}, WT G S → this ∈ G.1 → G.2.1 this = 3 → rp this q0 S = some (r, S1) → MetI l yX3_readPart cX3_readPart 7 .int fr lo V G S [.ref this, .int q0] r S1) (C : CX p s m args meth c RX3 cX3_readPart 7 (some .int) V G) : ∀ (v0 : Nat) (v1 : Int32) (v2 : Int32) (v3 : Int32) (h_v0 : v0 ∈ G.1) (k_v0 : G.2.1 v0 = 3) (S : HS) (H : Heap) (locs : List Loc) (ls : Array Slot), s_X3_readPart_J67 G.2.2 F rp v0 v1 v2 v3 S = some (r, S') → HP V G S H → va_S (AG G s.heap.size) s.heap H locs → WT G S → lv_has ls 7 [(0, .ref v0), (1, .int v1), (2, .int v2), (3, .int v3)] → W p l e (RM (fr + 17) (lo + 618)) s m args below meth c H locs 0 0 (MQ below (QI V G S' r s.heap.size) args s 0 0 (AG G s.heap.size)) (F0 m 67 ls []) := by
  intro v0 v1 v2 v3 h_v0 k_v0 S H locs ls hf hP hS hW hl
  have hx := C.1
  have hb := C.2.1
  unfold s_X3_readPart_J67 at hf
  refine lv_iload_n hx hb dX3_readPart_67 rfl (lv_at hl 1 rfl) ?_
  refine lv_iconst (v := 5) hx hb dX3_readPart_68 rfl ?_
  refine lv_icmp_lt (tgt := 82) hx hb dX3_readPart_69 (by decide) (fun c11 => ?_) (fun c11 => ?_)
  · have hf := if_t c11 hf
    refine lv_aload_n hx hb dX3_readPart_82 rfl (lv_at hl 0 rfl) ?_
    refine gf_X3_9 C hP h_v0 k_v0 dX3_readPart_83 ?_
    obtain ⟨t12, et12, hf⟩ := bd1_e hf
    obtain ⟨h_t12, k_t12⟩ := wt_r hW h_v0 k_v0 (by decide) et12
    have k_t12 : G.2.1 t12 = 8 := k_t12
    rw [et12]
    refine gf_X3_57 C hP h_t12 k_t12 dX3_readPart_86 ?_
    obtain ⟨x13, ex13, hf⟩ := bnd_e hf
    refine nm_i ex13 ?_
    refine lv_istore (lv' := [(4, .int x13), (0, .ref v0), (1, .int v1), (2, .int v2), (3, .int v3)]) hx hb dX3_readPart_89 hl (by decide) rfl (fun ls hl => ?_)
    refine lv_aload_n hx hb dX3_readPart_91 rfl (lv_at hl 1 rfl) ?_
    refine gf_X3_9 C hP h_v0 k_v0 dX3_readPart_92 ?_
    obtain ⟨t14, et14, hf⟩ := bd1_e hf
    obtain ⟨h_t14, k_t14⟩ := wt_r hW h_v0 k_v0 (by decide) et14
    have k_t14 : G.2.1 t14 = 8 := k_t14
    rw [et14]
    refine gf_X3_75 C hP h_t14 k_t14 dX3_readPart_95 ?_
    obtain ⟨x15, ex15, hf⟩ := bnd_e hf
    refine nm_i ex15 ?_
    refine lv_istore (lv' := [(5, .int x15), (4, .int x13), (0, .ref v0), (1, .int v1), (2, .int v2), (3, .int v3)]) hx hb dX3_readPart_98 hl (by decide) rfl (fun ls hl => ?_)
    refine lv_aload_n hx hb dX3_readPart_100 rfl (lv_at hl 2 rfl) ?_
    refine gf_X3_9 C hP h_v0 k_v0 dX3_readPart_101 ?_
    obtain ⟨t16, et16, hf⟩ := bd1_e hf
    obtain ⟨h_t16, k_t16⟩ := wt_r hW h_v0 k_v0 (by decide) et16
    have k_t16 : G.2.1 t16 = 8 := k_t16
    rw [et16]
    obtain ⟨S17, eS17, hf⟩ := bd1_e hf
    refine x_aft_v (x_runV (As := []) (rest := []) C hP hS (c_X8_advance (l := l) C.2.2.2.2.2.2.2.2.2.1 hW h_t16 k_t16 eS17 H.size) h_t16 k_t16 (by decide) rfl rfl km_X8_advance ki_X8_advance qm_X3_47 ⟨(by show _ ≤ _; simp only [RM]; omega), (by show _ ≤ _; simp only [RM]; omega)⟩ rfl hl.1 rfl (Nat.le_of_ble_eq_true rfl) ⟨Nat.zero_le _, Nat.zero_le _⟩ dX3_readPart_104) hS (fun H locs hP hS hW => ?_)
    refine lv_iload_n hx hb dX3_readPart_107 rfl (lv_at hl 5 rfl) ?_
    refine lv_if_eq (tgt := 130) hx hb dX3_readPart_108 (by decide) (fun c18 => ?_) (fun c18 => ?_)
    · have hf := if_t c18 hf
      refine lv_iload hx hb dX3_readPart_130 (lv_at hl 1 rfl) ?_
      refine lv_bipush (v := 40) hx hb dX3_readPart_132 kc_bipush_40 ?_
      refine lv_icmp_ne (tgt := 179) hx hb dX3_readPart_134 (by decide) (fun c19 => ?_) (fun c19 => ?_)
      · have hf := if_f c19 hf
        refine lv_iload hx hb dX3_readPart_179 (lv_at hl 1 rfl) ?_
        refine lv_iconst (v := 2) hx hb dX3_readPart_181 rfl ?_
        refine lv_icmp_ne (tgt := 190) hx hb dX3_readPart_182 (by decide) (fun c20 => ?_) (fun c20 => ?_)
        · have hf := if_f c20 hf
          refine lv_aload_n hx hb dX3_readPart_190 rfl (lv_at hl 2 rfl) ?_
          refine gf_X3_25 C hP h_v0 k_v0 dX3_readPart_191 ?_
          refine lv_iload_n hx hb dX3_readPart_194 rfl (lv_at hl 4 rfl) ?_
          refine lv_ishr hx hb dX3_readPart_195 ?_
          refine lv_iconst (v := 1) hx hb dX3_readPart_196 rfl ?_
          refine lv_iand hx hb dX3_readPart_197 ?_
          cases hf
          exact x_reti C hP hS hW dX3_readPart_198
        · have hf := if_t c20 hf
          refine lv_iload hx hb dX3_readPart_185 (lv_at hl 0 rfl) ?_
          refine lv_goto (tgt := 198) hx hb dX3_readPart_187 (by decide) ?_
          cases hf
          exact x_reti C hP hS hW dX3_readPart_198
      · have hf := if_t c19 hf
        refine lv_aload_n hx hb dX3_readPart_137 rfl (lv_at hl 2 rfl) ?_
        refine lv_iload_n hx hb dX3_readPart_138 rfl (lv_at hl 3 rfl) ?_
        refine lv_iconst (v := 1) hx hb dX3_readPart_139 rfl ?_
        refine lv_iadd hx hb dX3_readPart_140 ?_
        obtain ⟨r21, S22, eS22, hf⟩ := bd2_e hf
        refine x_aft_i (x_runV (As := [.int (v1 + 1)]) (rest := []) C hP hS (c_X3_readEither (l := l) C.2.2.2.2.2.2.2.2.2.1 hW hrp h_v0 k_v0 eS22 H.size) h_v0 k_v0 (by decide) rfl rfl km_X3_readEither ki_X3_readEither qm_X3_32 ⟨(by show _ ≤ _; simp only [RM]; omega), (by show _ ≤ _; simp only [RM]; omega)⟩ rfl hl.1 rfl (Nat.le_of_ble_eq_true rfl) ⟨Nat.zero_le _, Nat.zero_le _⟩ dX3_readPart_141) hS (fun H locs hP hS hW => ?_)
        refine lv_istore (lv' := [(6, .int r21), (5, .int x15), (4, .int x13), (0, .ref v0), (1, .int v1), (2, .int v2), (3, .int v3)]) hx hb dX3_readPart_144 hl (by decide) rfl (fun ls hl => ?_)
        refine lv_aload_n hx hb dX3_readPart_146 rfl (lv_at hl 3 rfl) ?_
        refine gf_X3_9 C hP h_v0 k_v0 dX3_readPart_147 ?_
        obtain ⟨t23, et23, hf⟩ := bd1_e hf
        obtain ⟨h_t23, k_t23⟩ := wt_r hW h_v0 k_v0 (by decide) et23
        have k_t23 : G.2.1 t23 = 8 := k_t23
        rw [et23]
        refine gf_X3_57 C hP h_t23 k_t23 dX3_readPart_150 ?_
        refine lv_bipush (v := 41) hx hb dX3_readPart_153 kc_bipush_41 ?_
        refine lv_icmp_ne (tgt := 168) hx hb dX3_readPart_155 (by decide) (fun c24 => ?_) (fun c24 => ?_)
        · have hf := if_f c24 hf
          refine lv_aload_n hx hb dX3_readPart_168 rfl (lv_at hl 3 rfl) ?_
          refine gf_X3_9 C hP h_v0 k_v0 dX3_readPart_169 ?_
          obtain ⟨t25, et25, hf⟩ := bd1_e hf
          obtain ⟨h_t25, k_t25⟩ := wt_r hW h_v0 k_v0 (by decide) et25
          have k_t25 : G.2.1 t25 = 8 := k_t25
          rw [et25]
          refine lv_iconst (v := 1) hx hb dX3_readPart_172 rfl ?_
          obtain ⟨S26, eS26, hf⟩ := bnd_e hf
          refine x_aft_v (x_runV (As := [.int 1]) (rest := []) C hP hS (c_X8_blame (l := l) C.2.2.2.2.2.2.2.2.2.1 hW h_t25 k_t25 eS26.symm H.size) h_t25 k_t25 (by decide) rfl rfl km_X8_blame ki_X8_blame qm_X3_72 ⟨(by show _ ≤ _; simp only [RM]; omega), (by show _ ≤ _; simp only [RM]; omega)⟩ rfl hl.1 rfl (Nat.le_of_ble_eq_true rfl) ⟨Nat.zero_le _, Nat.zero_le _⟩ dX3_readPart_173) hS (fun H locs hP hS hW => ?_)
          refine lv_iload hx hb dX3_readPart_176 (lv_at hl 0 rfl) ?_
          cases hf
          exact x_reti C hP hS hW dX3_readPart_178
        · have hf := if_t c24 hf
          refine lv_aload_n hx hb dX3_readPart_158 rfl (lv_at hl 3 rfl) ?_
          refine gf_X3_9 C hP h_v0 k_v0 dX3_readPart_159 ?_
          obtain ⟨t27, et27, hf⟩ := bd1_e hf
          obtain ⟨h_t27, k_t27⟩ := wt_r hW h_v0 k_v0 (by decide) et27
          have k_t27 : G.2.1 t27 = 8 := k_t27
          rw [et27]
          obtain ⟨S28, eS28, hf⟩ := bd1_e hf
          refine x_aft_v (x_runV (As := []) (rest := []) C hP hS (c_X8_advance (l := l) C.2.2.2.2.2.2.2.2.2.1 hW h_t27 k_t27 eS28 H.size) h_t27 k_t27 (by decide) rfl rfl km_X8_advance ki_X8_advance qm_X3_47 ⟨(by show _ ≤ _; simp only [RM]; omega), (by show _ ≤ _; simp only [RM]; omega)⟩ rfl hl.1 rfl (Nat.le_of_ble_eq_true rfl) ⟨Nat.zero_le _, Nat.zero_le _⟩ dX3_readPart_162) hS (fun H locs hP hS hW => ?_)
          refine lv_goto (tgt := 176) hx hb dX3_readPart_165 (by decide) ?_
          refine lv_iload hx hb dX3_readPart_176 (lv_at hl 0 rfl) ?_
          cases hf
          exact x_reti C hP hS hW dX3_readPart_178
    · have hf := if_f c18 hf
      refine lv_aload_n hx hb dX3_readPart_111 rfl (lv_at hl 2 rfl) ?_
      refine lv_iload_n hx hb dX3_readPart_112 rfl (lv_at hl 3 rfl) ?_
      refine lv_iconst (v := 1) hx hb dX3_readPart_113 rfl ?_
      refine lv_iadd hx hb dX3_readPart_114 ?_
      obtain ⟨r29, S30, eS30, hf⟩ := bd2_e hf
      refine x_aft_i (x_runV (As := [.int (v1 + 1)]) (rest := []) C hP hS (hrp v0 (v1 + 1) hW h_v0 k_v0 eS30 H.size) h_v0 k_v0 (by decide) rfl rfl km_X3_readPart ki_X3_readPart qm_X3_63 ⟨(by show _ ≤ _; simp only [RM]; omega), (by show _ ≤ _; simp only [RM]; omega)⟩ rfl hl.1 rfl (Nat.le_of_ble_eq_true rfl) ⟨Nat.zero_le _, Nat.zero_le _⟩ dX3_readPart_115) hS (fun H locs hP hS hW => ?_)
      refine lv_if_ne (tgt := 125) hx hb dX3_readPart_118 (by decide) (fun c31 => ?_) (fun c31 => ?_)
      · have hf := if_f c31 hf
        refine lv_iconst (v := 0) hx hb dX3_readPart_125 rfl ?_
        exact b_X3_readPart_126 hrp C 0 S30 H locs _ hf hP hS hW (lv_sub hl [] rfl)
      · have hf := if_t c31 hf
        refine lv_iconst (v := 1) hx hb dX3_readPart_121 rfl ?_
        refine lv_goto (tgt := 126) hx hb dX3_readPart_122 (by decide) ?_
        exact b_X3_readPart_126 hrp C 1 S30 H locs _ hf hP hS hW (lv_sub hl [] rfl)
  · have hf := if_f c11 hf
    refine lv_aload_n hx hb dX3_readPart_72 rfl (lv_at hl 0 rfl) ?_
    refine gf_X3_9 C hP h_v0 k_v0 dX3_readPart_73 ?_
    obtain ⟨t32, et32, hf⟩ := bd1_e hf
    obtain ⟨h_t32, k_t32⟩ := wt_r hW h_v0 k_v0 (by decide) et32
    have k_t32 : G.2.1 t32 = 8 := k_t32
    rw [et32]
    refine lv_iconst (v := 5) hx hb dX3_readPart_76 rfl ?_
    obtain ⟨S33, eS33, hf⟩ := bnd_e hf
    refine x_aft_v (x_runV (As := [.int 5]) (rest := []) C hP hS (c_X8_blame (l := l) C.2.2.2.2.2.2.2.2.2.1 hW h_t32 k_t32 eS33.symm H.size) h_t32 k_t32 (by decide) rfl rfl km_X8_blame ki_X8_blame qm_X3_72 ⟨(by show _ ≤ _; simp only [RM]; omega), (by show _ ≤ _; simp only [RM]; omega)⟩ rfl hl.1 rfl (Nat.le_of_ble_eq_true rfl) ⟨Nat.zero_le _, Nat.zero_le _⟩ dX3_readPart_77) hS (fun H locs hP hS hW => ?_)
    refine lv_iconst (v := 0) hx hb dX3_readPart_80 rfl ?_
    cases hf
    exact x_reti C hP hS hW dX3_readPart_81
set_option maxRecDepth 100000 in
set_option maxHeartbeats 4000000 in
theorem c_X3_readPart_body {l : Launch} {V : EV} {G : GS} {S : HS} {F : Nat} {a : Nat} {p0 : Int32} {r : Int32} {S' : HS} (hN : G.1.Nodup) (hW : WT G S) {fr lo : Nat} {rp : Nat → Int32 → HS → Option (Int32 × HS)} (hrp : ∀ (this : Nat) (q0 : Int32), ∀ {S S1 : HS} {r : Int32}, WT G S → this ∈ G.1 → G.2.1 this = 3 → rp this q0 S = some (r, S1) → MetI l yX3_readPart cX3_readPart 7 .int fr lo V G S [.ref this, .int q0] r S1) (h_a : a ∈ G.1) (k_a : G.2.1 a = 3) (hf : s_X3_readPart_body G.2.2 F rp a p0 S = some (r, S')) : MetI l yX3_readPart cX3_readPart 7 .int (fr + 17) (lo + 618) V G S [.ref a, .int p0] r S' := by
  intro sz
  refine x_in RX3 rfl (by decide +kernel) hN (Nat.le_of_ble_eq_true rfl) (fun p e s m args below meth c ls hsz hargs hnm C hP hS hl => ?_)
  subst hsz
  have hx := C.1
  have hb := C.2.1
  have hl : lv_has ls 7 [(0, .ref a), (1, .int p0)] := hl
  unfold s_X3_readPart_body at hf
  refine lv_aload_n hx hb dX3_readPart_0 rfl (lv_at hl 0 rfl) ?_
  obtain ⟨r1, er1, hf⟩ := bd1_e hf
  refine x_aft_i (x_runV (As := []) (rest := []) C hP hS (c_X3_factNamed (l := l) C.2.2.2.2.2.2.2.2.2.1 hW h_a k_a er1 s.heap.size) h_a k_a (by decide) rfl rfl km_X3_factNamed ki_X3_factNamed qm_X3_66 ⟨(by show _ ≤ _; simp only [RM]; omega), (by show _ ≤ _; simp only [RM]; omega)⟩ rfl hl.1 rfl (Nat.le_of_ble_eq_true rfl) ⟨Nat.zero_le _, Nat.zero_le _⟩ dX3_readPart_1) hS (fun H locs hP hS hW => ?_)
  refine lv_istore_n (lv' := [(2, .int r1), (0, .ref a), (1, .int p0)]) hx hb dX3_readPart_4 rfl hl (by decide) rfl (fun ls hl => ?_)
  refine lv_aload_n hx hb dX3_readPart_5 rfl (lv_at hl 1 rfl) ?_
  refine gf_X3_9 C hP h_a k_a dX3_readPart_6 ?_
  obtain ⟨t2, et2, hf⟩ := bd1_e hf
  obtain ⟨h_t2, k_t2⟩ := wt_r hW h_a k_a (by decide) et2
  have k_t2 : G.2.1 t2 = 8 := k_t2
  rw [et2]
  refine va_ldcS hx hb C.2.2.2.2.1 (C.2.2.2.2.2.2.2.2.1.1.2 (RX3, 70, "not", 10) (List.mem_of_getElem? (i := 26) rfl)) dX3_readPart_9 ?_
  obtain ⟨r3, er3, hf⟩ := bd1_e hf
  refine x_aft_z (x_runV (As := [.ref (V.2.2.1 10)]) (rest := []) C hP hS (c_X8_isWord (l := l) C.2.2.2.2.2.2.2.2.2.1 hW h_t2 k_t2 (by decide) er3 H.size) h_t2 k_t2 (by decide) rfl rfl km_X8_isWord ki_X8_isWord qm_X3_41 ⟨(by show _ ≤ _; simp only [RM]; omega), (by show _ ≤ _; simp only [RM]; omega)⟩ rfl hl.1 rfl (Nat.le_of_ble_eq_true rfl) ⟨Nat.zero_le _, Nat.zero_le _⟩ dX3_readPart_11) hS (fun H locs hP hS hW z4 => ?_)
  refine lv_istore_n (lv' := [(3, .int r3), (2, .int r1), (0, .ref a), (1, .int p0)]) hx hb dX3_readPart_14 rfl hl (by decide) rfl (fun ls hl => ?_)
  refine lv_aload_n hx hb dX3_readPart_15 rfl (lv_at hl 2 rfl) ?_
  refine gf_X3_9 C hP h_a k_a dX3_readPart_16 ?_
  obtain ⟨t5, et5, hf⟩ := bd1_e hf
  obtain ⟨h_t5, k_t5⟩ := wt_r hW h_a k_a (by decide) et5
  have k_t5 : G.2.1 t5 = 8 := k_t5
  rw [et5]
  refine x_aft_z (x_runV (As := []) (rest := []) C hP hS (c_X8_isRight (l := l) C.2.2.2.2.2.2.2.2.2.1 hW h_t5 k_t5 rfl H.size) h_t5 k_t5 (by decide) rfl rfl km_X8_isRight ki_X8_isRight qm_X3_21 ⟨(by show _ ≤ _; simp only [RM]; omega), (by show _ ≤ _; simp only [RM]; omega)⟩ rfl hl.1 rfl (Nat.le_of_ble_eq_true rfl) ⟨Nat.zero_le _, Nat.zero_le _⟩ dX3_readPart_19) hS (fun H locs hP hS hW z6 => ?_)
  refine lv_if_eq (tgt := 57) hx hb dX3_readPart_22 (by decide) (fun c7 => ?_) (fun c7 => ?_)
  · have hf := if_t c7 hf
    exact b_X3_readPart_57 hrp C a h_a k_a S H locs _ hf hP hS hW (lv_sub hl [2] rfl)
  · have hf := if_f c7 hf
    refine lv_iload_n hx hb dX3_readPart_25 rfl (lv_at hl 0 rfl) ?_
    refine lv_if_ne (tgt := 67) hx hb dX3_readPart_26 (by decide) (fun c10 => ?_) (fun c10 => ?_)
    · have hf := if_f c10 hf
      exact b_X3_readPart_67 hrp C a p0 r1 r3 h_a k_a S H locs _ hf hP hS hW (lv_sub hl [2, 3, 1, 0] rfl)
    · have hf := if_t c10 hf
      refine lv_iload_n hx hb dX3_readPart_29 rfl (lv_at hl 1 rfl) ?_
      refine lv_iconst (v := (-1)) hx hb dX3_readPart_30 rfl ?_
      refine lv_icmp_ne (tgt := 67) hx hb dX3_readPart_31 (by decide) (fun c34 => ?_) (fun c34 => ?_)
      · have hf := if_f c34 hf
        exact b_X3_readPart_67 hrp C a p0 r1 r3 h_a k_a S H locs _ hf hP hS hW (lv_sub hl [2, 3, 1, 0] rfl)
      · have hf := if_t c34 hf
        refine lv_aload_n hx hb dX3_readPart_34 rfl (lv_at hl 2 rfl) ?_
        refine gf_X3_9 C hP h_a k_a dX3_readPart_35 ?_
        obtain ⟨t35, et35, hf⟩ := bd1_e hf
        obtain ⟨h_t35, k_t35⟩ := wt_r hW h_a k_a (by decide) et35
        have k_t35 : G.2.1 t35 = 8 := k_t35
        rw [et35]
        refine gf_X3_57 C hP h_t35 k_t35 dX3_readPart_38 ?_
        refine lv_iconst (v := 2) hx hb dX3_readPart_41 rfl ?_
        refine lv_icmp_eq (tgt := 67) hx hb dX3_readPart_42 (by decide) (fun c36 => ?_) (fun c36 => ?_)
        · have hf := if_t c36 hf
          exact b_X3_readPart_67 hrp C a p0 r1 r3 h_a k_a S H locs _ hf hP hS hW (lv_sub hl [2, 3, 1, 0] rfl)
        · have hf := if_f c36 hf
          refine lv_aload_n hx hb dX3_readPart_45 rfl (lv_at hl 2 rfl) ?_
          refine gf_X3_9 C hP h_a k_a dX3_readPart_46 ?_
          obtain ⟨t37, et37, hf⟩ := bd1_e hf
          obtain ⟨h_t37, k_t37⟩ := wt_r hW h_a k_a (by decide) et37
          have k_t37 : G.2.1 t37 = 8 := k_t37
          rw [et37]
          refine gf_X3_57 C hP h_t37 k_t37 dX3_readPart_49 ?_
          refine lv_bipush (v := 40) hx hb dX3_readPart_52 kc_bipush_40 ?_
          refine lv_icmp_eq (tgt := 67) hx hb dX3_readPart_54 (by decide) (fun c38 => ?_) (fun c38 => ?_)
          · have hf := if_t c38 hf
            exact b_X3_readPart_67 hrp C a p0 r1 r3 h_a k_a S H locs _ hf hP hS hW (lv_sub hl [2, 3, 1, 0] rfl)
          · have hf := if_f c38 hf
            exact b_X3_readPart_57 hrp C a h_a k_a S H locs _ hf hP hS hW (lv_sub hl [2] rfl)
set_option maxRecDepth 100000 in
set_option maxHeartbeats 4000000 in
theorem c_X3_readPart_at {l : Launch} {V : EV} {G : GS} {F : Nat} (hN : G.1.Nodup) : ∀ n : Nat, ∀ (a : Nat) (p0 : Int32), ∀ {S S1 : HS} {r : Int32}, WT G S → a ∈ G.1 → G.2.1 a = 3 → s_X3_readPart G.2.2 F n a p0 S = some (r, S1) → MetI l yX3_readPart cX3_readPart 7 .int (17 * n) (618 * n) V G S [.ref a, .int p0] r S1 := by
  intro n
  induction n with
  | zero =>
    intro a p0 S S1 r _ _ _ hf
    rw [s_X3_readPart] at hf
    cases hf
  | succ n ih =>
    intro a p0 S S1 r hW h_a k_a hf
    rw [s_X3_readPart] at hf
    exact c_X3_readPart_body hN hW ih h_a k_a hf
def s_X3_readLaw_J55 (N : Nat → Nat) (F : Nat) (k12 : Nat → Int32 → Int32 → Int32 → HS → Option (Int32 × HS)) (v0 : Nat) (v1 : Int32) (v2 : Int32) (v3 : Int32) (S : HS) : Option (Int32 × HS) :=
  bnd (v3 + Int32.ofInt 1 : Int32) fun x13 =>
  k12 v0 v1 v2 x13 S
def s_X3_readLaw_L12 (N : Nat → Nat) (F : Nat) : Nat → Nat → Int32 → Int32 → Int32 → HS → Option (Int32 × HS)
  | 0, _, _, _, _, _ => none
  | n + 1, v0, v1, v2, v3, S => if (16 : Int32) ≤ v3 then
  some (v2, S)
  else
  bd1 (gR S 300 v0) fun t4 =>
  if (s_X8_isRight t4 S) = (0 : Int32) then
  some (v2, S)
  else
  bnd (uI S 301 v0 v3) fun S7 =>
  bd1 (gR S7 300 v0) fun t8 =>
  bd1 (s_X8_readFrom N F t8 v1 S7) fun S9 =>
  bd2 (s_X3_readEither N F (s_X3_readPart N F 12) v0 0 S9) fun r10 S11 =>
  if r10 = (0 : Int32) then
  s_X3_readLaw_J55 N F (s_X3_readLaw_L12 N F n) v0 v1 v2 v3 S11
  else
  bnd (v2 ||| ((1 : Int32) <<< (v3 &&& 31)) : Int32) fun x14 =>
  s_X3_readLaw_J55 N F (s_X3_readLaw_L12 N F n) v0 v1 x14 v3 S11
def s_X3_readLaw (N : Nat → Nat) (F : Nat) (a : Nat) (S : HS) : Option (Int32 × HS) :=
  bd1 (gR S 300 a) fun t1 =>
  bnd (gI S 803 t1 : Int32) fun x2 =>
  s_X3_readLaw_L12 N F F a x2 0 0 S
set_option maxRecDepth 100000 in
set_option maxHeartbeats 4000000 in
theorem b_X3_readLaw_55 {p : Program} {l : Launch} {e : Env} {s : State} {m : MethodId} {args : Array Value} {below : List Frame} {meth : Method} {c : Code} {V : EV} {G : GS} {r : Int32} {S' : HS} {F : Nat} (C : CX p s m args meth c RX3 cX3_readLaw 4 (some .int) V G) {k12 : Nat → Int32 → Int32 → Int32 → HS → Option (Int32 × HS)} (hk12 : ∀ (v0 : Nat) (v1 : Int32) (v2 : Int32) (v3 : Int32) (h_v0 : v0 ∈ G.1) (k_v0 : G.2.1 v0 = 3) (S : HS) (H : Heap) (locs : List Loc) (ls : Array Slot), k12 v0 v1 v2 v3 S = some (r, S') → HP V G S H → va_S (AG G s.heap.size) s.heap H locs → WT G S → lv_has ls 4 [(0, .ref v0), (1, .int v1), (2, .int v2), (3, .int v3)] → W p l e (RM 221 8034) s m args below meth c H locs 0 0 (MQ below (QI V G S' r s.heap.size) args s 0 0 (AG G s.heap.size)) (F0 m 12 ls [])) : ∀ (v0 : Nat) (v1 : Int32) (v2 : Int32) (v3 : Int32) (h_v0 : v0 ∈ G.1) (k_v0 : G.2.1 v0 = 3) (S : HS) (H : Heap) (locs : List Loc) (ls : Array Slot), s_X3_readLaw_J55 G.2.2 F k12 v0 v1 v2 v3 S = some (r, S') → HP V G S H → va_S (AG G s.heap.size) s.heap H locs → WT G S → lv_has ls 4 [(0, .ref v0), (1, .int v1), (2, .int v2), (3, .int v3)] → W p l e (RM 221 8034) s m args below meth c H locs 0 0 (MQ below (QI V G S' r s.heap.size) args s 0 0 (AG G s.heap.size)) (F0 m 55 ls []) := by
  intro v0 v1 v2 v3 h_v0 k_v0 S H locs ls hf hP hS hW hl
  have hx := C.1
  have hb := C.2.1
  unfold s_X3_readLaw_J55 at hf
  obtain ⟨x13, ex13, hf⟩ := bnd_e hf
  refine lv_iinc (v := x13) (lv' := [(3, .int x13), (0, .ref v0), (1, .int v1), (2, .int v2)]) hx hb dX3_readLaw_55 hl (k := 3) rfl ex13.symm (by decide) rfl (fun ls hl => ?_)
  refine lv_goto (tgt := 12) hx hb dX3_readLaw_58 (by decide) ?_
  exact hk12 v0 v1 v2 x13 h_v0 k_v0 S H locs _ hf hP hS hW (lv_sub hl [1, 2, 3, 0] rfl)
set_option maxRecDepth 100000 in
set_option maxHeartbeats 4000000 in
theorem b_X3_readLaw_12 {p : Program} {l : Launch} {e : Env} {s : State} {m : MethodId} {args : Array Value} {below : List Frame} {meth : Method} {c : Code} {V : EV} {G : GS} {r : Int32} {S' : HS} {F : Nat} (C : CX p s m args meth c RX3 cX3_readLaw 4 (some .int) V G) : ∀ n : Nat, ∀ (v0 : Nat) (v1 : Int32) (v2 : Int32) (v3 : Int32) (h_v0 : v0 ∈ G.1) (k_v0 : G.2.1 v0 = 3) (S : HS) (H : Heap) (locs : List Loc) (ls : Array Slot), s_X3_readLaw_L12 G.2.2 F n v0 v1 v2 v3 S = some (r, S') → HP V G S H → va_S (AG G s.heap.size) s.heap H locs → WT G S → lv_has ls 4 [(0, .ref v0), (1, .int v1), (2, .int v2), (3, .int v3)] → W p l e (RM 221 8034) s m args below meth c H locs 0 0 (MQ below (QI V G S' r s.heap.size) args s 0 0 (AG G s.heap.size)) (F0 m 12 ls []) := by
  intro n
  induction n with
  | zero =>
    intro v0 v1 v2 v3 h_v0 k_v0 S H locs ls hf
    rw [s_X3_readLaw_L12] at hf
    cases hf
  | succ n ih =>
    intro v0 v1 v2 v3 h_v0 k_v0 S H locs ls hf hP hS hW hl
    have hx := C.1
    have hb := C.2.1
    rw [s_X3_readLaw_L12] at hf
    refine lv_iload_n hx hb dX3_readLaw_12 rfl (lv_at hl 3 rfl) ?_
    refine lv_bipush (v := 16) hx hb dX3_readLaw_13 kc_bipush_16 ?_
    refine lv_icmp_ge (tgt := 61) hx hb dX3_readLaw_15 (by decide) (fun c3 => ?_) (fun c3 => ?_)
    · have hf := if_t c3 hf
      refine lv_iload_n hx hb dX3_readLaw_61 rfl (lv_at hl 2 rfl) ?_
      cases hf
      exact x_reti C hP hS hW dX3_readLaw_62
    · have hf := if_f c3 hf
      refine lv_aload_n hx hb dX3_readLaw_18 rfl (lv_at hl 0 rfl) ?_
      refine gf_X3_9 C hP h_v0 k_v0 dX3_readLaw_19 ?_
      obtain ⟨t4, et4, hf⟩ := bd1_e hf
      obtain ⟨h_t4, k_t4⟩ := wt_r hW h_v0 k_v0 (by decide) et4
      have k_t4 : G.2.1 t4 = 8 := k_t4
      rw [et4]
      refine x_aft_z (x_runV (As := []) (rest := []) C hP hS (c_X8_isRight (l := l) C.2.2.2.2.2.2.2.2.2.1 hW h_t4 k_t4 rfl H.size) h_t4 k_t4 (by decide) rfl rfl km_X8_isRight ki_X8_isRight qm_X3_21 ⟨(Nat.le_of_ble_eq_true rfl), (Nat.le_of_ble_eq_true rfl)⟩ rfl hl.1 rfl (Nat.le_of_ble_eq_true rfl) ⟨Nat.zero_le _, Nat.zero_le _⟩ dX3_readLaw_22) hS (fun H locs hP hS hW z5 => ?_)
      refine lv_if_eq (tgt := 61) hx hb dX3_readLaw_25 (by decide) (fun c6 => ?_) (fun c6 => ?_)
      · have hf := if_t c6 hf
        refine lv_iload_n hx hb dX3_readLaw_61 rfl (lv_at hl 2 rfl) ?_
        cases hf
        exact x_reti C hP hS hW dX3_readLaw_62
      · have hf := if_f c6 hf
        refine lv_aload_n hx hb dX3_readLaw_28 rfl (lv_at hl 0 rfl) ?_
        refine lv_iload_n hx hb dX3_readLaw_29 rfl (lv_at hl 3 rfl) ?_
        obtain ⟨S7, eS7, hf⟩ := bnd_e hf
        refine pf_X3_25 C hP hS h_v0 k_v0 eS7 dX3_readLaw_30 (fun H locs hP hS => ?_)
        have hW : WT G S7 := by rw [eS7]; exact hW
        refine lv_aload_n hx hb dX3_readLaw_33 rfl (lv_at hl 0 rfl) ?_
        refine gf_X3_9 C hP h_v0 k_v0 dX3_readLaw_34 ?_
        obtain ⟨t8, et8, hf⟩ := bd1_e hf
        obtain ⟨h_t8, k_t8⟩ := wt_r hW h_v0 k_v0 (by decide) et8
        have k_t8 : G.2.1 t8 = 8 := k_t8
        rw [et8]
        refine lv_iload_n hx hb dX3_readLaw_37 rfl (lv_at hl 1 rfl) ?_
        obtain ⟨S9, eS9, hf⟩ := bd1_e hf
        refine x_aft_v (x_runV (As := [.int v1]) (rest := []) C hP hS (c_X8_readFrom (l := l) C.2.2.2.2.2.2.2.2.2.1 hW h_t8 k_t8 eS9 H.size) h_t8 k_t8 (by decide) rfl rfl km_X8_readFrom ki_X8_readFrom qm_X3_28 ⟨(Nat.le_of_ble_eq_true rfl), (Nat.le_of_ble_eq_true rfl)⟩ rfl hl.1 rfl (Nat.le_of_ble_eq_true rfl) ⟨Nat.zero_le _, Nat.zero_le _⟩ dX3_readLaw_38) hS (fun H locs hP hS hW => ?_)
        refine lv_aload_n hx hb dX3_readLaw_41 rfl (lv_at hl 0 rfl) ?_
        refine lv_iconst (v := 0) hx hb dX3_readLaw_42 rfl ?_
        obtain ⟨r10, S11, eS11, hf⟩ := bd2_e hf
        refine x_aft_i (x_runV (As := [.int 0]) (rest := []) C hP hS (c_X3_readEither (l := l) C.2.2.2.2.2.2.2.2.2.1 hW (c_X3_readPart_at C.2.2.2.2.2.2.2.2.2.1 12) h_v0 k_v0 eS11 H.size) h_v0 k_v0 (by decide) rfl rfl km_X3_readEither ki_X3_readEither qm_X3_32 ⟨(by show _ ≤ _; decide), (by show _ ≤ _; decide)⟩ rfl hl.1 rfl (Nat.le_of_ble_eq_true rfl) ⟨Nat.zero_le _, Nat.zero_le _⟩ dX3_readLaw_43) hS (fun H locs hP hS hW => ?_)
        refine lv_if_eq (tgt := 55) hx hb dX3_readLaw_46 (by decide) (fun c12 => ?_) (fun c12 => ?_)
        · have hf := if_t c12 hf
          exact b_X3_readLaw_55 C ih v0 v1 v2 v3 h_v0 k_v0 S11 H locs _ hf hP hS hW (lv_sub hl [0, 1, 2, 3] rfl)
        · have hf := if_f c12 hf
          refine lv_iload_n hx hb dX3_readLaw_49 rfl (lv_at hl 2 rfl) ?_
          refine lv_iconst (v := 1) hx hb dX3_readLaw_50 rfl ?_
          refine lv_iload_n hx hb dX3_readLaw_51 rfl (lv_at hl 3 rfl) ?_
          refine lv_ishl hx hb dX3_readLaw_52 ?_
          refine lv_ior hx hb dX3_readLaw_53 ?_
          obtain ⟨x14, ex14, hf⟩ := bnd_e hf
          refine nm_i ex14 ?_
          refine lv_istore_n (lv' := [(2, .int x14), (0, .ref v0), (1, .int v1), (3, .int v3)]) hx hb dX3_readLaw_54 rfl hl (by decide) rfl (fun ls hl => ?_)
          exact b_X3_readLaw_55 C ih v0 v1 x14 v3 h_v0 k_v0 S11 H locs _ hf hP hS hW (lv_sub hl [1, 2, 0, 3] rfl)
set_option maxRecDepth 100000 in
set_option maxHeartbeats 4000000 in
theorem c_X3_readLaw {l : Launch} {V : EV} {G : GS} {S : HS} {F : Nat} {a : Nat} {r : Int32} {S' : HS} (hN : G.1.Nodup) (hW : WT G S) (h_a : a ∈ G.1) (k_a : G.2.1 a = 3) (hf : s_X3_readLaw G.2.2 F a S = some (r, S')) : MetI l yX3_readLaw cX3_readLaw 4 .int 221 8034 V G S [.ref a] r S' := by
  intro sz
  refine x_in RX3 rfl (by decide +kernel) hN (Nat.le_of_ble_eq_true rfl) (fun p e s m args below meth c ls hsz hargs hnm C hP hS hl => ?_)
  subst hsz
  have hx := C.1
  have hb := C.2.1
  have hl : lv_has ls 4 [(0, .ref a)] := hl
  unfold s_X3_readLaw at hf
  refine lv_aload_n hx hb dX3_readLaw_0 rfl (lv_at hl 0 rfl) ?_
  refine gf_X3_9 C hP h_a k_a dX3_readLaw_1 ?_
  obtain ⟨t1, et1, hf⟩ := bd1_e hf
  obtain ⟨h_t1, k_t1⟩ := wt_r hW h_a k_a (by decide) et1
  have k_t1 : G.2.1 t1 = 8 := k_t1
  rw [et1]
  refine gf_X3_15 C hP h_t1 k_t1 dX3_readLaw_4 ?_
  obtain ⟨x2, ex2, hf⟩ := bnd_e hf
  refine nm_i ex2 ?_
  refine lv_istore_n (lv' := [(1, .int x2), (0, .ref a)]) hx hb dX3_readLaw_7 rfl hl (by decide) rfl (fun ls hl => ?_)
  refine lv_iconst (v := 0) hx hb dX3_readLaw_8 rfl ?_
  refine lv_istore_n (lv' := [(2, .int 0), (1, .int x2), (0, .ref a)]) hx hb dX3_readLaw_9 rfl hl (by decide) rfl (fun ls hl => ?_)
  refine lv_iconst (v := 0) hx hb dX3_readLaw_10 rfl ?_
  refine lv_istore_n (lv' := [(3, .int 0), (2, .int 0), (1, .int x2), (0, .ref a)]) hx hb dX3_readLaw_11 rfl hl (by decide) rfl (fun ls hl => ?_)
  exact b_X3_readLaw_12 C F a x2 0 0 h_a k_a S s.heap [] _ hf hP hS hW (lv_sub hl [3, 2, 1, 0] rfl)
def s_X7_copy_L26 (N : Nat → Nat) (F : Nat) : Nat → Nat → Nat → Int32 → HS → Option HS
  | 0, _, _, _, _ => none
  | n + 1, v0, v1, v2, S => if (6 : Int32) ≤ v2 then
  some S
  else
  bd1 (gR S 700 v0) fun t5 =>
  bd1 (gR S 700 v1) fun t6 =>
  if inB v2 (N t6) = true then
  if inB v2 (N t5) = true then
  bnd (wI S t5 (v2.toNatClampNeg) (aI S t6 v2.toNatClampNeg)) fun S9 =>
  bnd (v2 + Int32.ofInt 1 : Int32) fun x10 =>
  s_X7_copy_L26 N F n v0 v1 x10 S9
  else none
  else none
def s_X7_copy (N : Nat → Nat) (F : Nat) (a : Nat) (p0 : Nat) (S : HS) : Option HS :=
  bnd (uI S 701 a (gI S 701 p0)) fun S1 =>
  bnd (uI S1 702 a (gI S1 702 p0)) fun S2 =>
  bnd (uI S2 703 a (gI S2 703 p0)) fun S3 =>
  s_X7_copy_L26 N F F a p0 0 S3
set_option maxRecDepth 100000 in
set_option maxHeartbeats 4000000 in
theorem b_X7_copy_26 {p : Program} {l : Launch} {e : Env} {s : State} {m : MethodId} {args : Array Value} {below : List Frame} {meth : Method} {c : Code} {V : EV} {G : GS} {S' : HS} {F : Nat} (C : CX p s m args meth c RX7 cX7_copy 3 none V G) : ∀ n : Nat, ∀ (v0 : Nat) (v1 : Nat) (v2 : Int32) (h_v0 : v0 ∈ G.1) (k_v0 : G.2.1 v0 = 7) (h_v1 : v1 ∈ G.1) (k_v1 : G.2.1 v1 = 7) (S : HS) (H : Heap) (locs : List Loc) (ls : Array Slot), s_X7_copy_L26 G.2.2 F n v0 v1 v2 S = some S' → HP V G S H → va_S (AG G s.heap.size) s.heap H locs → WT G S → lv_has ls 3 [(0, .ref v0), (1, .ref v1), (2, .int v2)] → W p l e (RM 0 0) s m args below meth c H locs 0 0 (MQ below (QV V G S' s.heap.size) args s 0 0 (AG G s.heap.size)) (F0 m 26 ls []) := by
  intro n
  induction n with
  | zero =>
    intro v0 v1 v2 h_v0 k_v0 h_v1 k_v1 S H locs ls hf
    rw [s_X7_copy_L26] at hf
    cases hf
  | succ n ih =>
    intro v0 v1 v2 h_v0 k_v0 h_v1 k_v1 S H locs ls hf hP hS hW hl
    have hx := C.1
    have hb := C.2.1
    rw [s_X7_copy_L26] at hf
    refine lv_iload_n hx hb dX7_copy_26 rfl (lv_at hl 2 rfl) ?_
    refine lv_bipush (v := 6) hx hb dX7_copy_27 kc_bipush_6 ?_
    refine lv_icmp_ge (tgt := 50) hx hb dX7_copy_29 (by decide) (fun c4 => ?_) (fun c4 => ?_)
    · have hf := if_t c4 hf
      cases hf
      exact x_retv C hP hS hW dX7_copy_50
    · have hf := if_f c4 hf
      refine lv_aload_n hx hb dX7_copy_32 rfl (lv_at hl 0 rfl) ?_
      refine gf_X7_9 C hP h_v0 k_v0 dX7_copy_33 ?_
      obtain ⟨t5, et5, hf⟩ := bd1_e hf
      obtain ⟨h_t5, k_t5⟩ := wt_r hW h_v0 k_v0 (by decide) et5
      have k_t5 : G.2.1 t5 = 14 := k_t5
      rw [et5]
      refine lv_iload_n hx hb dX7_copy_36 rfl (lv_at hl 2 rfl) ?_
      refine lv_aload_n hx hb dX7_copy_37 rfl (lv_at hl 1 rfl) ?_
      refine gf_X7_9 C hP h_v1 k_v1 dX7_copy_38 ?_
      obtain ⟨t6, et6, hf⟩ := bd1_e hf
      obtain ⟨h_t6, k_t6⟩ := wt_r hW h_v1 k_v1 (by decide) et6
      have k_t6 : G.2.1 t6 = 14 := k_t6
      rw [et6]
      refine lv_iload_n hx hb dX7_copy_41 rfl (lv_at hl 2 rfl) ?_
      obtain ⟨h7, hf⟩ := if_s hf
      refine x_iald C hP h_t6 k_t6 h7 dX7_copy_42 ?_
      obtain ⟨h8, hf⟩ := if_s hf
      obtain ⟨S9, eS9, hf⟩ := bnd_e hf
      refine x_iast C hP hS h_t5 k_t5 h8 eS9 dX7_copy_43 (fun H locs hP hS => ?_)
      have hW : WT G S9 := by rw [eS9]; exact hW
      obtain ⟨x10, ex10, hf⟩ := bnd_e hf
      refine lv_iinc (v := x10) (lv' := [(2, .int x10), (0, .ref v0), (1, .ref v1)]) hx hb dX7_copy_44 hl (k := 2) rfl ex10.symm (by decide) rfl (fun ls hl => ?_)
      refine lv_goto (tgt := 26) hx hb dX7_copy_47 (by decide) ?_
      exact ih v0 v1 x10 h_v0 k_v0 h_v1 k_v1 S9 H locs _ hf hP hS hW (lv_sub hl [1, 2, 0] rfl)
set_option maxRecDepth 100000 in
set_option maxHeartbeats 4000000 in
theorem c_X7_copy {l : Launch} {V : EV} {G : GS} {S : HS} {F : Nat} {a : Nat} {p0 : Nat} {S' : HS} (hN : G.1.Nodup) (hW : WT G S) (h_a : a ∈ G.1) (k_a : G.2.1 a = 7) (h_p0 : p0 ∈ G.1) (k_p0 : G.2.1 p0 = 7) (hf : s_X7_copy G.2.2 F a p0 S = some S') : MetV l yX7_copy cX7_copy 3 0 0 V G S [.ref a, .ref p0] S' := by
  intro sz
  refine x_in RX7 rfl (by decide +kernel) hN (Nat.le_of_ble_eq_true rfl) (fun p e s m args below meth c ls hsz hargs hnm C hP hS hl => ?_)
  subst hsz
  have hx := C.1
  have hb := C.2.1
  have hl : lv_has ls 3 [(0, .ref a), (1, .ref p0)] := hl
  unfold s_X7_copy at hf
  refine lv_aload_n hx hb dX7_copy_0 rfl (lv_at hl 0 rfl) ?_
  refine lv_aload_n hx hb dX7_copy_1 rfl (lv_at hl 1 rfl) ?_
  refine gf_X7_15 C hP h_p0 k_p0 dX7_copy_2 ?_
  obtain ⟨S1, eS1, hf⟩ := bnd_e hf
  refine pf_X7_15 C hP hS h_a k_a eS1 dX7_copy_5 (fun H locs hP hS => ?_)
  have hW : WT G S1 := by rw [eS1]; exact hW
  refine lv_aload_n hx hb dX7_copy_8 rfl (lv_at hl 0 rfl) ?_
  refine lv_aload_n hx hb dX7_copy_9 rfl (lv_at hl 1 rfl) ?_
  refine gf_X7_19 C hP h_p0 k_p0 dX7_copy_10 ?_
  obtain ⟨S2, eS2, hf⟩ := bnd_e hf
  refine pf_X7_19 C hP hS h_a k_a eS2 dX7_copy_13 (fun H locs hP hS => ?_)
  have hW : WT G S2 := by rw [eS2]; exact hW
  refine lv_aload_n hx hb dX7_copy_16 rfl (lv_at hl 0 rfl) ?_
  refine lv_aload_n hx hb dX7_copy_17 rfl (lv_at hl 1 rfl) ?_
  refine gf_X7_22 C hP h_p0 k_p0 dX7_copy_18 ?_
  obtain ⟨S3, eS3, hf⟩ := bnd_e hf
  refine pf_X7_22 C hP hS h_a k_a eS3 dX7_copy_21 (fun H locs hP hS => ?_)
  have hW : WT G S3 := by rw [eS3]; exact hW
  refine lv_iconst (v := 0) hx hb dX7_copy_24 rfl ?_
  refine lv_istore_n (lv' := [(2, .int 0), (0, .ref a), (1, .ref p0)]) hx hb dX7_copy_25 rfl hl (by decide) rfl (fun ls hl => ?_)
  exact b_X7_copy_26 C F a p0 0 h_a k_a h_p0 k_p0 S3 H locs _ hf hP hS hW (lv_sub hl [1, 2, 0] rfl)
def s_X4_keep (N : Nat → Nat) (F : Nat) (a : Nat) (p0 : Nat) (p1 : Int32) (S : HS) : Option HS :=
  bd1 (gR S 400 a) fun t1 =>
  if inB ((gI S 402 a) &&& 15) (N t1) = true then
  bd1 (aR S t1 ((gI S 402 a) &&& 15).toNatClampNeg) fun t3 =>
  bd1 (s_X7_copy N F t3 p0 S) fun S4 =>
  bd1 (gR S4 401 a) fun t5 =>
  if inB ((gI S4 402 a) &&& 15) (N t5) = true then
  bnd (wI S4 t5 (((gI S4 402 a) &&& 15).toNatClampNeg) (vp_nar .boolean p1)) fun S7 =>
  bnd (uI S7 402 a ((gI S7 402 a) + 1)) fun S8 =>
  bnd (uI S8 403 a (if (16 : Int32) < ((gI S8 403 a) + 1) then 16 else (gI S8 403 a) + 1)) fun S9 =>
  some S9
  else none
  else none
set_option maxRecDepth 100000 in
set_option maxHeartbeats 4000000 in
theorem c_X4_keep {l : Launch} {V : EV} {G : GS} {S : HS} {F : Nat} {a : Nat} {p0 : Nat} {p1 : Int32} {S' : HS} (hN : G.1.Nodup) (hW : WT G S) (h_a : a ∈ G.1) (k_a : G.2.1 a = 4) (h_p0 : p0 ∈ G.1) (k_p0 : G.2.1 p0 = 7) (hf : s_X4_keep G.2.2 F a p0 p1 S = some S') : MetV l yX4_keep cX4_keep 3 1 30 V G S [.ref a, .ref p0, .int p1] S' := by
  intro sz
  refine x_in RX4 rfl (by decide +kernel) hN (Nat.le_of_ble_eq_true rfl) (fun p e s m args below meth c ls hsz hargs hnm C hP hS hl => ?_)
  subst hsz
  have hx := C.1
  have hb := C.2.1
  have hl : lv_has ls 3 [(0, .ref a), (1, .ref p0), (2, .int p1)] := hl
  unfold s_X4_keep at hf
  refine lv_aload_n hx hb dX4_keep_0 rfl (lv_at hl 0 rfl) ?_
  refine gf_X4_11 C hP h_a k_a dX4_keep_1 ?_
  obtain ⟨t1, et1, hf⟩ := bd1_e hf
  obtain ⟨h_t1, k_t1⟩ := wt_r hW h_a k_a (by decide) et1
  have k_t1 : G.2.1 t1 = 18 := k_t1
  rw [et1]
  refine lv_aload_n hx hb dX4_keep_4 rfl (lv_at hl 0 rfl) ?_
  refine gf_X4_22 C hP h_a k_a dX4_keep_5 ?_
  refine lv_bipush (v := 15) hx hb dX4_keep_8 kc_bipush_15 ?_
  refine lv_iand hx hb dX4_keep_10 ?_
  obtain ⟨h2, hf⟩ := if_s hf
  refine x_Sald C hP h_t1 k_t1 h2 dX4_keep_11 ?_
  obtain ⟨t3, et3, hf⟩ := bd1_e hf
  obtain ⟨h_t3, k_t3⟩ := hW.2.2 _ h_t1 _ _ k_t1 et3
  rw [et3]
  refine lv_aload_n hx hb dX4_keep_12 rfl (lv_at hl 1 rfl) ?_
  obtain ⟨S4, eS4, hf⟩ := bd1_e hf
  refine x_aft_v (x_runV (As := [.ref p0]) (rest := []) C hP hS (c_X7_copy (l := l) C.2.2.2.2.2.2.2.2.2.1 hW h_t3 k_t3 h_p0 k_p0 eS4 s.heap.size) h_t3 k_t3 (by decide) rfl rfl km_X7_copy ki_X7_copy qm_X4_26 ⟨(Nat.le_of_ble_eq_true rfl), (Nat.le_of_ble_eq_true rfl)⟩ rfl hl.1 rfl (Nat.le_of_ble_eq_true rfl) ⟨Nat.zero_le _, Nat.zero_le _⟩ dX4_keep_13) hS (fun H locs hP hS hW => ?_)
  refine lv_aload_n hx hb dX4_keep_16 rfl (lv_at hl 0 rfl) ?_
  refine gf_X4_17 C hP h_a k_a dX4_keep_17 ?_
  obtain ⟨t5, et5, hf⟩ := bd1_e hf
  obtain ⟨h_t5, k_t5⟩ := wt_r hW h_a k_a (by decide) et5
  have k_t5 : G.2.1 t5 = 16 := k_t5
  rw [et5]
  refine lv_aload_n hx hb dX4_keep_20 rfl (lv_at hl 0 rfl) ?_
  refine gf_X4_22 C hP h_a k_a dX4_keep_21 ?_
  refine lv_bipush (v := 15) hx hb dX4_keep_24 kc_bipush_15 ?_
  refine lv_iand hx hb dX4_keep_26 ?_
  refine lv_iload_n hx hb dX4_keep_27 rfl (lv_at hl 2 rfl) ?_
  obtain ⟨h6, hf⟩ := if_s hf
  obtain ⟨S7, eS7, hf⟩ := bnd_e hf
  refine x_zast C hP hS h_t5 k_t5 h6 eS7 dX4_keep_28 (fun H locs hP hS => ?_)
  have hW : WT G S7 := by rw [eS7]; exact hW
  refine lv_aload_n hx hb dX4_keep_29 rfl (lv_at hl 0 rfl) ?_
  refine lv_dup hx hb dX4_keep_30 rfl ?_
  refine gf_X4_22 C hP h_a k_a dX4_keep_31 ?_
  refine lv_iconst (v := 1) hx hb dX4_keep_34 rfl ?_
  refine lv_iadd hx hb dX4_keep_35 ?_
  obtain ⟨S8, eS8, hf⟩ := bnd_e hf
  refine pf_X4_22 C hP hS h_a k_a eS8 dX4_keep_36 (fun H locs hP hS => ?_)
  have hW : WT G S8 := by rw [eS8]; exact hW
  refine lv_aload_n hx hb dX4_keep_39 rfl (lv_at hl 0 rfl) ?_
  refine lv_aload_n hx hb dX4_keep_40 rfl (lv_at hl 0 rfl) ?_
  refine gf_X4_30 C hP h_a k_a dX4_keep_41 ?_
  refine lv_iconst (v := 1) hx hb dX4_keep_44 rfl ?_
  refine lv_iadd hx hb dX4_keep_45 ?_
  refine lv_bipush (v := 16) hx hb dX4_keep_46 kc_bipush_16 ?_
  refine va_mmin hx hb (C.2.2.2.1.trans hl.1.symm) C.2.2.2.2.1 (qmath_X4_33 C) (C.2.2.2.2.2.1 _ ks_J9_min_7cf53) (C.2.2.2.2.2.1 _ km_J9_min_7cf53.2.1) (C.2.2.2.2.2.1 _ km_J9_min_7cf53.1) (Nat.le_of_ble_eq_true rfl) (Nat.le_of_ble_eq_true rfl) (Nat.zero_le _) (Nat.zero_le _) dX4_keep_48 ?_
  obtain ⟨S9, eS9, hf⟩ := bnd_e hf
  refine pf_X4_30 C hP hS h_a k_a eS9 dX4_keep_51 (fun H locs hP hS => ?_)
  have hW : WT G S9 := by rw [eS9]; exact hW
  cases hf
  exact x_retv C hP hS hW dX4_keep_54
def s_X4_takeBack (N : Nat → Nat) (F : Nat) (a : Nat) (p0 : Nat) (S : HS) : Option (Int32 × HS) :=
  bnd (uI S 402 a ((gI S 402 a) - 1)) fun S1 =>
  bnd (uI S1 403 a ((gI S1 403 a) - 1)) fun S2 =>
  bd1 (gR S2 400 a) fun t3 =>
  if inB ((gI S2 402 a) &&& 15) (N t3) = true then
  bd1 (aR S2 t3 ((gI S2 402 a) &&& 15).toNatClampNeg) fun t5 =>
  bd1 (s_X7_copy N F p0 t5 S2) fun S6 =>
  bd1 (gR S6 401 a) fun t7 =>
  if inB ((gI S6 402 a) &&& 15) (N t7) = true then
  if isZ (aI S6 t7 ((gI S6 402 a) &&& 15).toNatClampNeg) = true then
  some (aI S6 t7 ((gI S6 402 a) &&& 15).toNatClampNeg, S6)
  else none
  else none
  else none
set_option maxRecDepth 100000 in
set_option maxHeartbeats 4000000 in
theorem c_X4_takeBack {l : Launch} {V : EV} {G : GS} {S : HS} {F : Nat} {a : Nat} {p0 : Nat} {r : Int32} {S' : HS} (hN : G.1.Nodup) (hW : WT G S) (h_a : a ∈ G.1) (k_a : G.2.1 a = 4) (h_p0 : p0 ∈ G.1) (k_p0 : G.2.1 p0 = 7) (hf : s_X4_takeBack G.2.2 F a p0 S = some (r, S')) : MetZ l yX4_takeBack cX4_takeBack 2 1 30 V G S [.ref a, .ref p0] r S' := by
  intro sz
  refine x_in RX4 rfl (by decide +kernel) hN (Nat.le_of_ble_eq_true rfl) (fun p e s m args below meth c ls hsz hargs hnm C hP hS hl => ?_)
  subst hsz
  have hx := C.1
  have hb := C.2.1
  have hl : lv_has ls 2 [(0, .ref a), (1, .ref p0)] := hl
  unfold s_X4_takeBack at hf
  refine lv_aload_n hx hb dX4_takeBack_0 rfl (lv_at hl 0 rfl) ?_
  refine lv_dup hx hb dX4_takeBack_1 rfl ?_
  refine gf_X4_22 C hP h_a k_a dX4_takeBack_2 ?_
  refine lv_iconst (v := 1) hx hb dX4_takeBack_5 rfl ?_
  refine lv_isub hx hb dX4_takeBack_6 ?_
  obtain ⟨S1, eS1, hf⟩ := bnd_e hf
  refine pf_X4_22 C hP hS h_a k_a eS1 dX4_takeBack_7 (fun H locs hP hS => ?_)
  have hW : WT G S1 := by rw [eS1]; exact hW
  refine lv_aload_n hx hb dX4_takeBack_10 rfl (lv_at hl 0 rfl) ?_
  refine lv_dup hx hb dX4_takeBack_11 rfl ?_
  refine gf_X4_30 C hP h_a k_a dX4_takeBack_12 ?_
  refine lv_iconst (v := 1) hx hb dX4_takeBack_15 rfl ?_
  refine lv_isub hx hb dX4_takeBack_16 ?_
  obtain ⟨S2, eS2, hf⟩ := bnd_e hf
  refine pf_X4_30 C hP hS h_a k_a eS2 dX4_takeBack_17 (fun H locs hP hS => ?_)
  have hW : WT G S2 := by rw [eS2]; exact hW
  refine lv_aload_n hx hb dX4_takeBack_20 rfl (lv_at hl 1 rfl) ?_
  refine lv_aload_n hx hb dX4_takeBack_21 rfl (lv_at hl 0 rfl) ?_
  refine gf_X4_11 C hP h_a k_a dX4_takeBack_22 ?_
  obtain ⟨t3, et3, hf⟩ := bd1_e hf
  obtain ⟨h_t3, k_t3⟩ := wt_r hW h_a k_a (by decide) et3
  have k_t3 : G.2.1 t3 = 18 := k_t3
  rw [et3]
  refine lv_aload_n hx hb dX4_takeBack_25 rfl (lv_at hl 0 rfl) ?_
  refine gf_X4_22 C hP h_a k_a dX4_takeBack_26 ?_
  refine lv_bipush (v := 15) hx hb dX4_takeBack_29 kc_bipush_15 ?_
  refine lv_iand hx hb dX4_takeBack_31 ?_
  obtain ⟨h4, hf⟩ := if_s hf
  refine x_Sald C hP h_t3 k_t3 h4 dX4_takeBack_32 ?_
  obtain ⟨t5, et5, hf⟩ := bd1_e hf
  obtain ⟨h_t5, k_t5⟩ := hW.2.2 _ h_t3 _ _ k_t3 et5
  rw [et5]
  obtain ⟨S6, eS6, hf⟩ := bd1_e hf
  refine x_aft_v (x_runV (As := [.ref t5]) (rest := []) C hP hS (c_X7_copy (l := l) C.2.2.2.2.2.2.2.2.2.1 hW h_p0 k_p0 h_t5 k_t5 eS6 H.size) h_p0 k_p0 (by decide) rfl rfl km_X7_copy ki_X7_copy qm_X4_26 ⟨(Nat.le_of_ble_eq_true rfl), (Nat.le_of_ble_eq_true rfl)⟩ rfl hl.1 rfl (Nat.le_of_ble_eq_true rfl) ⟨Nat.zero_le _, Nat.zero_le _⟩ dX4_takeBack_33) hS (fun H locs hP hS hW => ?_)
  refine lv_aload_n hx hb dX4_takeBack_36 rfl (lv_at hl 0 rfl) ?_
  refine gf_X4_17 C hP h_a k_a dX4_takeBack_37 ?_
  obtain ⟨t7, et7, hf⟩ := bd1_e hf
  obtain ⟨h_t7, k_t7⟩ := wt_r hW h_a k_a (by decide) et7
  have k_t7 : G.2.1 t7 = 16 := k_t7
  rw [et7]
  refine lv_aload_n hx hb dX4_takeBack_40 rfl (lv_at hl 0 rfl) ?_
  refine gf_X4_22 C hP h_a k_a dX4_takeBack_41 ?_
  refine lv_bipush (v := 15) hx hb dX4_takeBack_44 kc_bipush_15 ?_
  refine lv_iand hx hb dX4_takeBack_46 ?_
  obtain ⟨h8, hf⟩ := if_s hf
  refine x_zald C hP h_t7 k_t7 h8 dX4_takeBack_47 ?_
  obtain ⟨h9, hf⟩ := if_s hf
  cases hf
  exact x_retZ C hP hS hW h9 dX4_takeBack_48
def s_X5_put (N : Nat → Nat) (a : Nat) (p0 : Int32) (p1 : Int32) (S : HS) : Option HS :=
  if (gI S 501 a) < (0 : Int32) then
  some S
  else
  if (30 : Int32) ≤ (gI S 501 a) then
  some S
  else
  if p0 < (0 : Int32) then
  some S
  else
  if (5 : Int32) ≤ p0 then
  some S
  else
  bd1 (gR S 500 a) fun t5 =>
  if inB (((gI S 501 a) * 5) + p0) (N t5) = true then
  bnd (wI S t5 ((((gI S 501 a) * 5) + p0).toNatClampNeg) p1) fun S7 =>
  some S7
  else none
set_option maxRecDepth 100000 in
set_option maxHeartbeats 4000000 in
theorem c_X5_put {l : Launch} {V : EV} {G : GS} {S : HS} {a : Nat} {p0 : Int32} {p1 : Int32} {S' : HS} (hN : G.1.Nodup) (hW : WT G S) (h_a : a ∈ G.1) (k_a : G.2.1 a = 5) (hf : s_X5_put G.2.2 a p0 p1 S = some S') : MetV l yX5_put cX5_put 3 0 0 V G S [.ref a, .int p0, .int p1] S' := by
  intro sz
  refine x_in RX5 rfl (by decide +kernel) hN (Nat.le_of_ble_eq_true rfl) (fun p e s m args below meth c ls hsz hargs hnm C hP hS hl => ?_)
  subst hsz
  have hx := C.1
  have hb := C.2.1
  have hl : lv_has ls 3 [(0, .ref a), (1, .int p0), (2, .int p1)] := hl
  unfold s_X5_put at hf
  refine lv_aload_n hx hb dX5_put_0 rfl (lv_at hl 0 rfl) ?_
  refine gf_X5_15 C hP h_a k_a dX5_put_1 ?_
  refine lv_if_lt (tgt := 39) hx hb dX5_put_4 (by decide) (fun c1 => ?_) (fun c1 => ?_)
  · have hf := if_t c1 hf
    cases hf
    exact x_retv C hP hS hW dX5_put_39
  · have hf := if_f c1 hf
    refine lv_aload_n hx hb dX5_put_7 rfl (lv_at hl 0 rfl) ?_
    refine gf_X5_15 C hP h_a k_a dX5_put_8 ?_
    refine lv_bipush (v := 30) hx hb dX5_put_11 kc_bipush_30 ?_
    refine lv_icmp_ge (tgt := 39) hx hb dX5_put_13 (by decide) (fun c2 => ?_) (fun c2 => ?_)
    · have hf := if_t c2 hf
      cases hf
      exact x_retv C hP hS hW dX5_put_39
    · have hf := if_f c2 hf
      refine lv_iload_n hx hb dX5_put_16 rfl (lv_at hl 1 rfl) ?_
      refine lv_if_lt (tgt := 39) hx hb dX5_put_17 (by decide) (fun c3 => ?_) (fun c3 => ?_)
      · have hf := if_t c3 hf
        cases hf
        exact x_retv C hP hS hW dX5_put_39
      · have hf := if_f c3 hf
        refine lv_iload_n hx hb dX5_put_20 rfl (lv_at hl 1 rfl) ?_
        refine lv_iconst (v := 5) hx hb dX5_put_21 rfl ?_
        refine lv_icmp_ge (tgt := 39) hx hb dX5_put_22 (by decide) (fun c4 => ?_) (fun c4 => ?_)
        · have hf := if_t c4 hf
          cases hf
          exact x_retv C hP hS hW dX5_put_39
        · have hf := if_f c4 hf
          refine lv_aload_n hx hb dX5_put_25 rfl (lv_at hl 0 rfl) ?_
          refine gf_X5_11 C hP h_a k_a dX5_put_26 ?_
          obtain ⟨t5, et5, hf⟩ := bd1_e hf
          obtain ⟨h_t5, k_t5⟩ := wt_r hW h_a k_a (by decide) et5
          have k_t5 : G.2.1 t5 = 14 := k_t5
          rw [et5]
          refine lv_aload_n hx hb dX5_put_29 rfl (lv_at hl 0 rfl) ?_
          refine gf_X5_15 C hP h_a k_a dX5_put_30 ?_
          refine lv_iconst (v := 5) hx hb dX5_put_33 rfl ?_
          refine lv_imul hx hb dX5_put_34 ?_
          refine lv_iload_n hx hb dX5_put_35 rfl (lv_at hl 1 rfl) ?_
          refine lv_iadd hx hb dX5_put_36 ?_
          refine lv_iload_n hx hb dX5_put_37 rfl (lv_at hl 2 rfl) ?_
          obtain ⟨h6, hf⟩ := if_s hf
          obtain ⟨S7, eS7, hf⟩ := bnd_e hf
          refine x_iast C hP hS h_t5 k_t5 h6 eS7 dX5_put_38 (fun H locs hP hS => ?_)
          have hW : WT G S7 := by rw [eS7]; exact hW
          cases hf
          exact x_retv C hP hS hW dX5_put_39
def s_X5_word_J24 (N : Nat → Nat) (v0 : Nat) (v1 : Int32) (v2 : Int32) (w0 : Int32) (S : HS) : Option Int32 :=
  if w0 = (0 : Int32) then
  some 0
  else
  bd1 (gR S 500 v0) fun t3 =>
  if inB ((v1 * 5) + v2) (N t3) = true then
  some (aI S t3 ((v1 * 5) + v2).toNatClampNeg)
  else none
def s_X5_word (N : Nat → Nat) (a : Nat) (p0 : Int32) (p1 : Int32) (S : HS) : Option Int32 :=
  if p0 < (0 : Int32) then
  s_X5_word_J24 N a p0 p1 0 S
  else
  if (30 : Int32) ≤ p0 then
  s_X5_word_J24 N a p0 p1 0 S
  else
  if p1 < (0 : Int32) then
  s_X5_word_J24 N a p0 p1 0 S
  else
  if (5 : Int32) ≤ p1 then
  s_X5_word_J24 N a p0 p1 0 S
  else
  s_X5_word_J24 N a p0 p1 1 S
set_option maxRecDepth 100000 in
set_option maxHeartbeats 4000000 in
theorem b_X5_word_24 {p : Program} {l : Launch} {e : Env} {s : State} {m : MethodId} {args : Array Value} {below : List Frame} {meth : Method} {c : Code} {V : EV} {G : GS} {r : Int32} (C : CX p s m args meth c RX5 cX5_word 4 (some .int) V G) : ∀ (v0 : Nat) (v1 : Int32) (v2 : Int32) (w0 : Int32) (h_v0 : v0 ∈ G.1) (k_v0 : G.2.1 v0 = 5) (S : HS) (H : Heap) (locs : List Loc) (ls : Array Slot), s_X5_word_J24 G.2.2 v0 v1 v2 w0 S = some r → HP V G S H → va_S (AG G s.heap.size) s.heap H locs → WT G S → lv_has ls 4 [(0, .ref v0), (1, .int v1), (2, .int v2)] → W p l e (RM 0 0) s m args below meth c H locs 0 0 (MQ below (QI V G S r s.heap.size) args s 0 0 (AG G s.heap.size)) (F0 m 24 ls [.int w0]) := by
  intro v0 v1 v2 w0 h_v0 k_v0 S H locs ls hf hP hS hW hl
  have hx := C.1
  have hb := C.2.1
  unfold s_X5_word_J24 at hf
  refine lv_istore_n (lv' := [(3, .int w0), (0, .ref v0), (1, .int v1), (2, .int v2)]) hx hb dX5_word_24 rfl hl (by decide) rfl (fun ls hl => ?_)
  refine lv_iload_n hx hb dX5_word_25 rfl (lv_at hl 0 rfl) ?_
  refine lv_if_eq (tgt := 42) hx hb dX5_word_26 (by decide) (fun c2 => ?_) (fun c2 => ?_)
  · have hf := if_t c2 hf
    refine lv_iconst (v := 0) hx hb dX5_word_42 rfl ?_
    cases hf
    exact x_reti C hP hS hW dX5_word_43
  · have hf := if_f c2 hf
    refine lv_aload_n hx hb dX5_word_29 rfl (lv_at hl 1 rfl) ?_
    refine gf_X5_11 C hP h_v0 k_v0 dX5_word_30 ?_
    obtain ⟨t3, et3, hf⟩ := bd1_e hf
    obtain ⟨h_t3, k_t3⟩ := wt_r hW h_v0 k_v0 (by decide) et3
    have k_t3 : G.2.1 t3 = 14 := k_t3
    rw [et3]
    refine lv_iload_n hx hb dX5_word_33 rfl (lv_at hl 2 rfl) ?_
    refine lv_iconst (v := 5) hx hb dX5_word_34 rfl ?_
    refine lv_imul hx hb dX5_word_35 ?_
    refine lv_iload_n hx hb dX5_word_36 rfl (lv_at hl 3 rfl) ?_
    refine lv_iadd hx hb dX5_word_37 ?_
    obtain ⟨h4, hf⟩ := if_s hf
    refine x_iald C hP h_t3 k_t3 h4 dX5_word_38 ?_
    refine lv_goto (tgt := 43) hx hb dX5_word_39 (by decide) ?_
    cases hf
    exact x_reti C hP hS hW dX5_word_43
set_option maxRecDepth 100000 in
set_option maxHeartbeats 4000000 in
theorem c_X5_word {l : Launch} {V : EV} {G : GS} {S : HS} {a : Nat} {p0 : Int32} {p1 : Int32} {r : Int32} (hN : G.1.Nodup) (hW : WT G S) (h_a : a ∈ G.1) (k_a : G.2.1 a = 5) (hf : s_X5_word G.2.2 a p0 p1 S = some r) : MetI l yX5_word cX5_word 4 .int 0 0 V G S [.ref a, .int p0, .int p1] r S := by
  intro sz
  refine x_in RX5 rfl (by decide +kernel) hN (Nat.le_of_ble_eq_true rfl) (fun p e s m args below meth c ls hsz hargs hnm C hP hS hl => ?_)
  subst hsz
  have hx := C.1
  have hb := C.2.1
  have hl : lv_has ls 4 [(0, .ref a), (1, .int p0), (2, .int p1)] := hl
  unfold s_X5_word at hf
  refine lv_iload_n hx hb dX5_word_0 rfl (lv_at hl 1 rfl) ?_
  refine lv_if_lt (tgt := 23) hx hb dX5_word_1 (by decide) (fun c1 => ?_) (fun c1 => ?_)
  · have hf := if_t c1 hf
    refine lv_iconst (v := 0) hx hb dX5_word_23 rfl ?_
    exact b_X5_word_24 C a p0 p1 0 h_a k_a S s.heap [] _ hf hP hS hW (lv_sub hl [0, 1, 2] rfl)
  · have hf := if_f c1 hf
    refine lv_iload_n hx hb dX5_word_4 rfl (lv_at hl 1 rfl) ?_
    refine lv_bipush (v := 30) hx hb dX5_word_5 kc_bipush_30 ?_
    refine lv_icmp_ge (tgt := 23) hx hb dX5_word_7 (by decide) (fun c5 => ?_) (fun c5 => ?_)
    · have hf := if_t c5 hf
      refine lv_iconst (v := 0) hx hb dX5_word_23 rfl ?_
      exact b_X5_word_24 C a p0 p1 0 h_a k_a S s.heap [] _ hf hP hS hW (lv_sub hl [0, 1, 2] rfl)
    · have hf := if_f c5 hf
      refine lv_iload_n hx hb dX5_word_10 rfl (lv_at hl 2 rfl) ?_
      refine lv_if_lt (tgt := 23) hx hb dX5_word_11 (by decide) (fun c6 => ?_) (fun c6 => ?_)
      · have hf := if_t c6 hf
        refine lv_iconst (v := 0) hx hb dX5_word_23 rfl ?_
        exact b_X5_word_24 C a p0 p1 0 h_a k_a S s.heap [] _ hf hP hS hW (lv_sub hl [0, 1, 2] rfl)
      · have hf := if_f c6 hf
        refine lv_iload_n hx hb dX5_word_14 rfl (lv_at hl 2 rfl) ?_
        refine lv_iconst (v := 5) hx hb dX5_word_15 rfl ?_
        refine lv_icmp_ge (tgt := 23) hx hb dX5_word_16 (by decide) (fun c7 => ?_) (fun c7 => ?_)
        · have hf := if_t c7 hf
          refine lv_iconst (v := 0) hx hb dX5_word_23 rfl ?_
          exact b_X5_word_24 C a p0 p1 0 h_a k_a S s.heap [] _ hf hP hS hW (lv_sub hl [0, 1, 2] rfl)
        · have hf := if_f c7 hf
          refine lv_iconst (v := 1) hx hb dX5_word_19 rfl ?_
          refine lv_goto (tgt := 24) hx hb dX5_word_20 (by decide) ?_
          exact b_X5_word_24 C a p0 p1 1 h_a k_a S s.heap [] _ hf hP hS hW (lv_sub hl [0, 1, 2] rfl)
def s_X6_init (a : Nat) (p0 : Nat) (p1 : Nat) (p2 : Nat) (S : HS) : HS :=
  bnd (uR S 600 a (some p0)) fun S1 =>
  bnd (uR S1 601 a (some p1)) fun S2 =>
  bnd (uR S2 602 a (some p2)) fun S3 =>
  S3
set_option maxRecDepth 100000 in
set_option maxHeartbeats 4000000 in
theorem c_X6_init {l : Launch} {V : EV} {G : GS} {S : HS} {a : Nat} {p0 : Nat} {p1 : Nat} {p2 : Nat} {S' : HS} (hN : G.1.Nodup) (hW : WT G S) (h_a : a ∈ G.1) (k_a : G.2.1 a = 6) (h_p0 : p0 ∈ G.1) (k_p0 : G.2.1 p0 = 8) (h_p1 : p1 ∈ G.1) (k_p1 : G.2.1 p1 = 9) (h_p2 : p2 ∈ G.1) (k_p2 : G.2.1 p2 = 5) (hf : s_X6_init a p0 p1 p2 S = S') : MetV l yX6_init cX6_init 4 1 28 V G S [.ref a, .ref p0, .ref p1, .ref p2] S' := by
  intro sz
  refine x_in RX6 rfl (by decide +kernel) hN (Nat.le_of_ble_eq_true rfl) (fun p e s m args below meth c ls hsz hargs hnm C hP hS hl => ?_)
  subst hsz
  have hx := C.1
  have hb := C.2.1
  have hin : meth.name = "<init>" := hnm
  have hl : lv_has ls 4 [(0, .ref a), (1, .ref p0), (2, .ref p1), (3, .ref p2)] := hl
  unfold s_X6_init at hf
  refine lv_aload_n hx hb dX6_init_0 rfl (lv_at hl 0 rfl) ?_
  refine x_obj C qobj_X6_3 qobji qobjc hl.1 dX6_init_1 (by show _ ≤ _; decide) (by show _ ≤ _; decide) ?_
  refine lv_aload_n hx hb dX6_init_4 rfl (lv_at hl 0 rfl) ?_
  refine lv_aload_n hx hb dX6_init_5 rfl (lv_at hl 1 rfl) ?_
  obtain ⟨S1, eS1, hf⟩ := bnd_e hf
  refine pf_X6_9 C hP hS h_a k_a hin eS1 dX6_init_6 (fun H locs hP hS => ?_)
  have hW : WT G S1 := by rw [eS1]; exact wt_uR hW ⟨h_p0, k_p0⟩
  refine lv_aload_n hx hb dX6_init_9 rfl (lv_at hl 0 rfl) ?_
  refine lv_aload_n hx hb dX6_init_10 rfl (lv_at hl 2 rfl) ?_
  obtain ⟨S2, eS2, hf⟩ := bnd_e hf
  refine pf_X6_15 C hP hS h_a k_a hin eS2 dX6_init_11 (fun H locs hP hS => ?_)
  have hW : WT G S2 := by rw [eS2]; exact wt_uR hW ⟨h_p1, k_p1⟩
  refine lv_aload_n hx hb dX6_init_14 rfl (lv_at hl 0 rfl) ?_
  refine lv_aload_n hx hb dX6_init_15 rfl (lv_at hl 3 rfl) ?_
  obtain ⟨S3, eS3, hf⟩ := bnd_e hf
  refine pf_X6_19 C hP hS h_a k_a hin eS3 dX6_init_16 (fun H locs hP hS => ?_)
  have hW : WT G S3 := by rw [eS3]; exact wt_uR hW ⟨h_p2, k_p2⟩
  cases hf
  exact x_retv C hP hS hW dX6_init_19
def s_X6_lineWord (F : Nat) (a : Nat) (S : HS) : Option Int32 :=
  bd1 (gR S 600 a) fun t1 =>
  bd1 (s_X8_isWord F t1 4 S) fun r2 =>
  if r2 = (0 : Int32) then
  bd1 (gR S 600 a) fun t5 =>
  bd1 (s_X8_isWord F t5 5 S) fun r6 =>
  if r6 = (0 : Int32) then
  bd1 (gR S 600 a) fun t9 =>
  bd1 (s_X8_isWord F t9 6 S) fun r10 =>
  if r10 = (0 : Int32) then
  bd1 (gR S 600 a) fun t13 =>
  bd1 (s_X8_isWord F t13 7 S) fun r14 =>
  if r14 = (0 : Int32) then
  some (-1)
  else
  some 3
  else
  some 2
  else
  some 1
  else
  some 0
set_option maxRecDepth 100000 in
set_option maxHeartbeats 4000000 in
theorem c_X6_lineWord {l : Launch} {V : EV} {G : GS} {S : HS} {F : Nat} {a : Nat} {r : Int32} (hN : G.1.Nodup) (hW : WT G S) (h_a : a ∈ G.1) (k_a : G.2.1 a = 6) (hf : s_X6_lineWord F a S = some r) : MetI l yX6_lineWord cX6_lineWord 1 .int 12 463 V G S [.ref a] r S := by
  intro sz
  refine x_in RX6 rfl (by decide +kernel) hN (Nat.le_of_ble_eq_true rfl) (fun p e s m args below meth c ls hsz hargs hnm C hP hS hl => ?_)
  subst hsz
  have hx := C.1
  have hb := C.2.1
  have hl : lv_has ls 1 [(0, .ref a)] := hl
  unfold s_X6_lineWord at hf
  refine lv_aload_n hx hb dX6_lineWord_0 rfl (lv_at hl 0 rfl) ?_
  refine gf_X6_9 C hP h_a k_a dX6_lineWord_1 ?_
  obtain ⟨t1, et1, hf⟩ := bd1_e hf
  obtain ⟨h_t1, k_t1⟩ := wt_r hW h_a k_a (by decide) et1
  have k_t1 : G.2.1 t1 = 8 := k_t1
  rw [et1]
  refine va_ldcS hx hb C.2.2.2.2.1 (C.2.2.2.2.2.2.2.2.1.1.2 (RX6, 70, "fma", 4) (List.mem_of_getElem? (i := 29) rfl)) dX6_lineWord_4 ?_
  obtain ⟨r2, er2, hf⟩ := bd1_e hf
  refine x_aft_z (x_runV (As := [.ref (V.2.2.1 4)]) (rest := []) C hP hS (c_X8_isWord (l := l) C.2.2.2.2.2.2.2.2.2.1 hW h_t1 k_t1 (by decide) er2 s.heap.size) h_t1 k_t1 (by decide) rfl rfl km_X8_isWord ki_X8_isWord qm_X6_72 ⟨(Nat.le_of_ble_eq_true rfl), (Nat.le_of_ble_eq_true rfl)⟩ rfl hl.1 rfl (Nat.le_of_ble_eq_true rfl) ⟨Nat.zero_le _, Nat.zero_le _⟩ dX6_lineWord_6) hS (fun H locs hP hS hW z3 => ?_)
  refine lv_if_eq (tgt := 14) hx hb dX6_lineWord_9 (by decide) (fun c4 => ?_) (fun c4 => ?_)
  · have hf := if_t c4 hf
    refine lv_aload_n hx hb dX6_lineWord_14 rfl (lv_at hl 0 rfl) ?_
    refine gf_X6_9 C hP h_a k_a dX6_lineWord_15 ?_
    obtain ⟨t5, et5, hf⟩ := bd1_e hf
    obtain ⟨h_t5, k_t5⟩ := wt_r hW h_a k_a (by decide) et5
    have k_t5 : G.2.1 t5 = 8 := k_t5
    rw [et5]
    refine va_ldcS hx hb C.2.2.2.2.1 (C.2.2.2.2.2.2.2.2.1.1.2 (RX6, 76, "mode", 5) (List.mem_of_getElem? (i := 30) rfl)) dX6_lineWord_18 ?_
    obtain ⟨r6, er6, hf⟩ := bd1_e hf
    refine x_aft_z (x_runV (As := [.ref (V.2.2.1 5)]) (rest := []) C hP hS (c_X8_isWord (l := l) C.2.2.2.2.2.2.2.2.2.1 hW h_t5 k_t5 (by decide) er6 H.size) h_t5 k_t5 (by decide) rfl rfl km_X8_isWord ki_X8_isWord qm_X6_72 ⟨(Nat.le_of_ble_eq_true rfl), (Nat.le_of_ble_eq_true rfl)⟩ rfl hl.1 rfl (Nat.le_of_ble_eq_true rfl) ⟨Nat.zero_le _, Nat.zero_le _⟩ dX6_lineWord_20) hS (fun H locs hP hS hW z7 => ?_)
    refine lv_if_eq (tgt := 28) hx hb dX6_lineWord_23 (by decide) (fun c8 => ?_) (fun c8 => ?_)
    · have hf := if_t c8 hf
      refine lv_aload_n hx hb dX6_lineWord_28 rfl (lv_at hl 0 rfl) ?_
      refine gf_X6_9 C hP h_a k_a dX6_lineWord_29 ?_
      obtain ⟨t9, et9, hf⟩ := bd1_e hf
      obtain ⟨h_t9, k_t9⟩ := wt_r hW h_a k_a (by decide) et9
      have k_t9 : G.2.1 t9 = 8 := k_t9
      rw [et9]
      refine va_ldcS hx hb C.2.2.2.2.1 (C.2.2.2.2.2.2.2.2.1.1.2 (RX6, 78, "clear", 6) (List.mem_of_getElem? (i := 31) rfl)) dX6_lineWord_32 ?_
      obtain ⟨r10, er10, hf⟩ := bd1_e hf
      refine x_aft_z (x_runV (As := [.ref (V.2.2.1 6)]) (rest := []) C hP hS (c_X8_isWord (l := l) C.2.2.2.2.2.2.2.2.2.1 hW h_t9 k_t9 (by decide) er10 H.size) h_t9 k_t9 (by decide) rfl rfl km_X8_isWord ki_X8_isWord qm_X6_72 ⟨(Nat.le_of_ble_eq_true rfl), (Nat.le_of_ble_eq_true rfl)⟩ rfl hl.1 rfl (Nat.le_of_ble_eq_true rfl) ⟨Nat.zero_le _, Nat.zero_le _⟩ dX6_lineWord_34) hS (fun H locs hP hS hW z11 => ?_)
      refine lv_if_eq (tgt := 42) hx hb dX6_lineWord_37 (by decide) (fun c12 => ?_) (fun c12 => ?_)
      · have hf := if_t c12 hf
        refine lv_aload_n hx hb dX6_lineWord_42 rfl (lv_at hl 0 rfl) ?_
        refine gf_X6_9 C hP h_a k_a dX6_lineWord_43 ?_
        obtain ⟨t13, et13, hf⟩ := bd1_e hf
        obtain ⟨h_t13, k_t13⟩ := wt_r hW h_a k_a (by decide) et13
        have k_t13 : G.2.1 t13 = 8 := k_t13
        rw [et13]
        refine va_ldcS hx hb C.2.2.2.2.1 (C.2.2.2.2.2.2.2.2.1.1.2 (RX6, 80, "use", 7) (List.mem_of_getElem? (i := 32) rfl)) dX6_lineWord_46 ?_
        obtain ⟨r14, er14, hf⟩ := bd1_e hf
        refine x_aft_z (x_runV (As := [.ref (V.2.2.1 7)]) (rest := []) C hP hS (c_X8_isWord (l := l) C.2.2.2.2.2.2.2.2.2.1 hW h_t13 k_t13 (by decide) er14 H.size) h_t13 k_t13 (by decide) rfl rfl km_X8_isWord ki_X8_isWord qm_X6_72 ⟨(Nat.le_of_ble_eq_true rfl), (Nat.le_of_ble_eq_true rfl)⟩ rfl hl.1 rfl (Nat.le_of_ble_eq_true rfl) ⟨Nat.zero_le _, Nat.zero_le _⟩ dX6_lineWord_48) hS (fun H locs hP hS hW z15 => ?_)
        refine lv_if_eq (tgt := 58) hx hb dX6_lineWord_51 (by decide) (fun c16 => ?_) (fun c16 => ?_)
        · have hf := if_t c16 hf
          refine lv_iconst (v := (-1)) hx hb dX6_lineWord_58 rfl ?_
          cases hf
          exact x_reti C hP hS hW dX6_lineWord_59
        · have hf := if_f c16 hf
          refine lv_iconst (v := 3) hx hb dX6_lineWord_54 rfl ?_
          refine lv_goto (tgt := 59) hx hb dX6_lineWord_55 (by decide) ?_
          cases hf
          exact x_reti C hP hS hW dX6_lineWord_59
      · have hf := if_f c12 hf
        refine lv_iconst (v := 2) hx hb dX6_lineWord_40 rfl ?_
        cases hf
        exact x_reti C hP hS hW dX6_lineWord_41
    · have hf := if_f c8 hf
      refine lv_iconst (v := 1) hx hb dX6_lineWord_26 rfl ?_
      cases hf
      exact x_reti C hP hS hW dX6_lineWord_27
  · have hf := if_f c4 hf
    refine lv_iconst (v := 0) hx hb dX6_lineWord_12 rfl ?_
    cases hf
    exact x_reti C hP hS hW dX6_lineWord_13
def s_X9_formNamed_L2 (N : Nat → Nat) (F : Nat) : Nat → Nat → Int64 → Int32 → HS → Option Int32
  | 0, _, _, _, _ => none
  | n + 1, v0, v1, v3, S => if (gI S 903 v0) ≤ v3 then
  some (-1)
  else
  if (4 : Int32) ≤ v3 then
  some (-1)
  else
  bd1 (gR S 901 v0) fun t3 =>
  if inB v3 (N t3) = true then
  if (lg_cmp (aJ S t3 v3.toNatClampNeg) v1) = (0 : Int32) then
  some v3
  else
  bnd (v3 + Int32.ofInt 1 : Int32) fun x6 =>
  s_X9_formNamed_L2 N F n v0 v1 x6 S
  else none
def s_X9_formNamed (N : Nat → Nat) (F : Nat) (a : Nat) (p0 : Int64) (S : HS) : Option Int32 :=
  s_X9_formNamed_L2 N F F a p0 0 S
set_option maxRecDepth 100000 in
set_option maxHeartbeats 4000000 in
theorem b_X9_formNamed_2 {p : Program} {l : Launch} {e : Env} {s : State} {m : MethodId} {args : Array Value} {below : List Frame} {meth : Method} {c : Code} {V : EV} {G : GS} {r : Int32} {F : Nat} (C : CX p s m args meth c RX9 cX9_formNamed 4 (some .int) V G) : ∀ n : Nat, ∀ (v0 : Nat) (v1 : Int64) (v3 : Int32) (h_v0 : v0 ∈ G.1) (k_v0 : G.2.1 v0 = 9) (S : HS) (H : Heap) (locs : List Loc) (ls : Array Slot), s_X9_formNamed_L2 G.2.2 F n v0 v1 v3 S = some r → HP V G S H → va_S (AG G s.heap.size) s.heap H locs → WT G S → lv_has ls 4 [(0, .ref v0), (1, .long v1), (3, .int v3)] → W p l e (RM 0 0) s m args below meth c H locs 0 0 (MQ below (QI V G S r s.heap.size) args s 0 0 (AG G s.heap.size)) (F0 m 2 ls []) := by
  intro n
  induction n with
  | zero =>
    intro v0 v1 v3 h_v0 k_v0 S H locs ls hf
    rw [s_X9_formNamed_L2] at hf
    cases hf
  | succ n ih =>
    intro v0 v1 v3 h_v0 k_v0 S H locs ls hf hP hS hW hl
    have hx := C.1
    have hb := C.2.1
    rw [s_X9_formNamed_L2] at hf
    refine lv_iload_n hx hb dX9_formNamed_2 rfl (lv_at hl 2 rfl) ?_
    refine lv_aload_n hx hb dX9_formNamed_3 rfl (lv_at hl 0 rfl) ?_
    refine gf_X9_24 C hP h_v0 k_v0 dX9_formNamed_4 ?_
    refine lv_icmp_ge (tgt := 34) hx hb dX9_formNamed_7 (by decide) (fun c1 => ?_) (fun c1 => ?_)
    · have hf := if_t c1 hf
      refine lv_iconst (v := (-1)) hx hb dX9_formNamed_34 rfl ?_
      cases hf
      exact x_reti C hP hS hW dX9_formNamed_35
    · have hf := if_f c1 hf
      refine lv_iload_n hx hb dX9_formNamed_10 rfl (lv_at hl 2 rfl) ?_
      refine lv_iconst (v := 4) hx hb dX9_formNamed_11 rfl ?_
      refine lv_icmp_ge (tgt := 34) hx hb dX9_formNamed_12 (by decide) (fun c2 => ?_) (fun c2 => ?_)
      · have hf := if_t c2 hf
        refine lv_iconst (v := (-1)) hx hb dX9_formNamed_34 rfl ?_
        cases hf
        exact x_reti C hP hS hW dX9_formNamed_35
      · have hf := if_f c2 hf
        refine lv_aload_n hx hb dX9_formNamed_15 rfl (lv_at hl 0 rfl) ?_
        refine gf_X9_17 C hP h_v0 k_v0 dX9_formNamed_16 ?_
        obtain ⟨t3, et3, hf⟩ := bd1_e hf
        obtain ⟨h_t3, k_t3⟩ := wt_r hW h_v0 k_v0 (by decide) et3
        have k_t3 : G.2.1 t3 = 15 := k_t3
        rw [et3]
        refine lv_iload_n hx hb dX9_formNamed_19 rfl (lv_at hl 2 rfl) ?_
        obtain ⟨h4, hf⟩ := if_s hf
        refine x_lald C hP h_t3 k_t3 h4 dX9_formNamed_20 ?_
        refine lv_lload_n hx hb dX9_formNamed_21 rfl (lv_at hl 1 rfl) ?_
        refine W.lcmp hx hb dX9_formNamed_22 ?_
        refine lv_if_ne (tgt := 28) hx hb dX9_formNamed_23 (by decide) (fun c5 => ?_) (fun c5 => ?_)
        · have hf := if_f c5 hf
          obtain ⟨x6, ex6, hf⟩ := bnd_e hf
          refine lv_iinc (v := x6) (lv' := [(3, .int x6), (0, .ref v0), (1, .long v1)]) hx hb dX9_formNamed_28 hl (k := 2) rfl ex6.symm (by decide) rfl (fun ls hl => ?_)
          refine lv_goto (tgt := 2) hx hb dX9_formNamed_31 (by decide) ?_
          exact ih v0 v1 x6 h_v0 k_v0 S H locs _ hf hP hS hW (lv_sub hl [1, 2, 0] rfl)
        · have hf := if_t c5 hf
          refine lv_iload_n hx hb dX9_formNamed_26 rfl (lv_at hl 2 rfl) ?_
          cases hf
          exact x_reti C hP hS hW dX9_formNamed_27
set_option maxRecDepth 100000 in
set_option maxHeartbeats 4000000 in
theorem c_X9_formNamed {l : Launch} {V : EV} {G : GS} {S : HS} {F : Nat} {a : Nat} {p0 : Int64} {r : Int32} (hN : G.1.Nodup) (hW : WT G S) (h_a : a ∈ G.1) (k_a : G.2.1 a = 9) (hf : s_X9_formNamed G.2.2 F a p0 S = some r) : MetI l yX9_formNamed cX9_formNamed 4 .int 0 0 V G S [.ref a, .long p0] r S := by
  intro sz
  refine x_in RX9 rfl (by decide +kernel) hN (Nat.le_of_ble_eq_true rfl) (fun p e s m args below meth c ls hsz hargs hnm C hP hS hl => ?_)
  subst hsz
  have hx := C.1
  have hb := C.2.1
  have hl : lv_has ls 4 [(0, .ref a), (1, .long p0)] := hl
  unfold s_X9_formNamed at hf
  refine lv_iconst (v := 0) hx hb dX9_formNamed_0 rfl ?_
  refine lv_istore_n (lv' := [(3, .int 0), (0, .ref a), (1, .long p0)]) hx hb dX9_formNamed_1 rfl hl (by decide) rfl (fun ls hl => ?_)
  exact b_X9_formNamed_2 C F a p0 0 h_a k_a S s.heap [] _ hf hP hS hW (lv_sub hl [1, 2, 0] rfl)
def s_X8_isWordOfLines_J32 (F : Nat) (v0 : Nat) (w0 : Int32) (S : HS) : Option Int32 :=
  if w0 = (0 : Int32) then
  bd1 (s_X8_isWord F v0 4 S) fun r5 =>
  if r5 = (0 : Int32) then
  bd1 (s_X8_isWord F v0 5 S) fun r8 =>
  if r8 = (0 : Int32) then
  bd1 (s_X8_isWord F v0 6 S) fun r11 =>
  if r11 = (0 : Int32) then
  bd1 (s_X8_isWord F v0 7 S) fun r14 =>
  if r14 = (0 : Int32) then
  some 0
  else
  some 1
  else
  some 1
  else
  some 1
  else
  some 1
  else
  some 1
def s_X8_isWordOfLines (F : Nat) (a : Nat) (S : HS) : Option Int32 :=
  bd1 (s_X8_isWord F a 1 S) fun r1 =>
  if r1 = (0 : Int32) then
  bd1 (s_X8_isWord F a 2 S) fun r17 =>
  if r17 = (0 : Int32) then
  bd1 (s_X8_isWord F a 3 S) fun r20 =>
  if r20 = (0 : Int32) then
  s_X8_isWordOfLines_J32 F a 0 S
  else
  s_X8_isWordOfLines_J32 F a 1 S
  else
  s_X8_isWordOfLines_J32 F a 1 S
  else
  s_X8_isWordOfLines_J32 F a 1 S
set_option maxRecDepth 100000 in
set_option maxHeartbeats 4000000 in
theorem b_X8_isWordOfLines_32 {p : Program} {l : Launch} {e : Env} {s : State} {m : MethodId} {args : Array Value} {below : List Frame} {meth : Method} {c : Code} {V : EV} {G : GS} {r : Int32} {F : Nat} (C : CX p s m args meth c RX8 cX8_isWordOfLines 2 (some .boolean) V G) : ∀ (v0 : Nat) (w0 : Int32) (h_v0 : v0 ∈ G.1) (k_v0 : G.2.1 v0 = 8) (S : HS) (H : Heap) (locs : List Loc) (ls : Array Slot), s_X8_isWordOfLines_J32 F v0 w0 S = some r → HP V G S H → va_S (AG G s.heap.size) s.heap H locs → WT G S → lv_has ls 2 [(0, .ref v0)] → W p l e (RM 12 463) s m args below meth c H locs 0 0 (MQ below (QZ V G S r s.heap.size) args s 0 0 (AG G s.heap.size)) (F0 m 32 ls [.int w0]) := by
  intro v0 w0 h_v0 k_v0 S H locs ls hf hP hS hW hl
  have hx := C.1
  have hb := C.2.1
  unfold s_X8_isWordOfLines_J32 at hf
  refine lv_istore_n (lv' := [(1, .int w0), (0, .ref v0)]) hx hb dX8_isWordOfLines_32 rfl hl (by decide) rfl (fun ls hl => ?_)
  refine lv_iload_n hx hb dX8_isWordOfLines_33 rfl (lv_at hl 0 rfl) ?_
  refine lv_if_ne (tgt := 73) hx hb dX8_isWordOfLines_34 (by decide) (fun c4 => ?_) (fun c4 => ?_)
  · have hf := if_f c4 hf
    refine lv_iconst (v := 1) hx hb dX8_isWordOfLines_73 rfl ?_
    refine lv_goto (tgt := 78) hx hb dX8_isWordOfLines_74 (by decide) ?_
    cases hf
    exact x_retZ C hP hS hW isZ_1 dX8_isWordOfLines_78
  · have hf := if_t c4 hf
    refine lv_aload_n hx hb dX8_isWordOfLines_37 rfl (lv_at hl 1 rfl) ?_
    refine va_ldcS hx hb C.2.2.2.2.1 (C.2.2.2.2.2.2.2.2.1.1.2 (RX8, 100, "fma", 4) (List.mem_of_getElem? (i := 5) rfl)) dX8_isWordOfLines_38 ?_
    obtain ⟨r5, er5, hf⟩ := bd1_e hf
    refine x_aft_z (x_runV (As := [.ref (V.2.2.1 4)]) (rest := []) C hP hS (c_X8_isWord (l := l) C.2.2.2.2.2.2.2.2.2.1 hW h_v0 k_v0 (by decide) er5 H.size) h_v0 k_v0 (by decide) rfl rfl km_X8_isWord ki_X8_isWord qm_X8_92 ⟨(Nat.le_of_ble_eq_true rfl), (Nat.le_of_ble_eq_true rfl)⟩ rfl hl.1 rfl (Nat.le_of_ble_eq_true rfl) ⟨Nat.zero_le _, Nat.zero_le _⟩ dX8_isWordOfLines_40) hS (fun H locs hP hS hW z6 => ?_)
    refine lv_if_ne (tgt := 73) hx hb dX8_isWordOfLines_43 (by decide) (fun c7 => ?_) (fun c7 => ?_)
    · have hf := if_f c7 hf
      refine lv_iconst (v := 1) hx hb dX8_isWordOfLines_73 rfl ?_
      refine lv_goto (tgt := 78) hx hb dX8_isWordOfLines_74 (by decide) ?_
      cases hf
      exact x_retZ C hP hS hW isZ_1 dX8_isWordOfLines_78
    · have hf := if_t c7 hf
      refine lv_aload_n hx hb dX8_isWordOfLines_46 rfl (lv_at hl 1 rfl) ?_
      refine va_ldcS hx hb C.2.2.2.2.1 (C.2.2.2.2.2.2.2.2.1.1.2 (RX8, 102, "mode", 5) (List.mem_of_getElem? (i := 6) rfl)) dX8_isWordOfLines_47 ?_
      obtain ⟨r8, er8, hf⟩ := bd1_e hf
      refine x_aft_z (x_runV (As := [.ref (V.2.2.1 5)]) (rest := []) C hP hS (c_X8_isWord (l := l) C.2.2.2.2.2.2.2.2.2.1 hW h_v0 k_v0 (by decide) er8 H.size) h_v0 k_v0 (by decide) rfl rfl km_X8_isWord ki_X8_isWord qm_X8_92 ⟨(Nat.le_of_ble_eq_true rfl), (Nat.le_of_ble_eq_true rfl)⟩ rfl hl.1 rfl (Nat.le_of_ble_eq_true rfl) ⟨Nat.zero_le _, Nat.zero_le _⟩ dX8_isWordOfLines_49) hS (fun H locs hP hS hW z9 => ?_)
      refine lv_if_ne (tgt := 73) hx hb dX8_isWordOfLines_52 (by decide) (fun c10 => ?_) (fun c10 => ?_)
      · have hf := if_f c10 hf
        refine lv_iconst (v := 1) hx hb dX8_isWordOfLines_73 rfl ?_
        refine lv_goto (tgt := 78) hx hb dX8_isWordOfLines_74 (by decide) ?_
        cases hf
        exact x_retZ C hP hS hW isZ_1 dX8_isWordOfLines_78
      · have hf := if_t c10 hf
        refine lv_aload_n hx hb dX8_isWordOfLines_55 rfl (lv_at hl 1 rfl) ?_
        refine va_ldcS hx hb C.2.2.2.2.1 (C.2.2.2.2.2.2.2.2.1.1.2 (RX8, 104, "clear", 6) (List.mem_of_getElem? (i := 7) rfl)) dX8_isWordOfLines_56 ?_
        obtain ⟨r11, er11, hf⟩ := bd1_e hf
        refine x_aft_z (x_runV (As := [.ref (V.2.2.1 6)]) (rest := []) C hP hS (c_X8_isWord (l := l) C.2.2.2.2.2.2.2.2.2.1 hW h_v0 k_v0 (by decide) er11 H.size) h_v0 k_v0 (by decide) rfl rfl km_X8_isWord ki_X8_isWord qm_X8_92 ⟨(Nat.le_of_ble_eq_true rfl), (Nat.le_of_ble_eq_true rfl)⟩ rfl hl.1 rfl (Nat.le_of_ble_eq_true rfl) ⟨Nat.zero_le _, Nat.zero_le _⟩ dX8_isWordOfLines_58) hS (fun H locs hP hS hW z12 => ?_)
        refine lv_if_ne (tgt := 73) hx hb dX8_isWordOfLines_61 (by decide) (fun c13 => ?_) (fun c13 => ?_)
        · have hf := if_f c13 hf
          refine lv_iconst (v := 1) hx hb dX8_isWordOfLines_73 rfl ?_
          refine lv_goto (tgt := 78) hx hb dX8_isWordOfLines_74 (by decide) ?_
          cases hf
          exact x_retZ C hP hS hW isZ_1 dX8_isWordOfLines_78
        · have hf := if_t c13 hf
          refine lv_aload_n hx hb dX8_isWordOfLines_64 rfl (lv_at hl 1 rfl) ?_
          refine va_ldcS hx hb C.2.2.2.2.1 (C.2.2.2.2.2.2.2.2.1.1.2 (RX8, 106, "use", 7) (List.mem_of_getElem? (i := 8) rfl)) dX8_isWordOfLines_65 ?_
          obtain ⟨r14, er14, hf⟩ := bd1_e hf
          refine x_aft_z (x_runV (As := [.ref (V.2.2.1 7)]) (rest := []) C hP hS (c_X8_isWord (l := l) C.2.2.2.2.2.2.2.2.2.1 hW h_v0 k_v0 (by decide) er14 H.size) h_v0 k_v0 (by decide) rfl rfl km_X8_isWord ki_X8_isWord qm_X8_92 ⟨(Nat.le_of_ble_eq_true rfl), (Nat.le_of_ble_eq_true rfl)⟩ rfl hl.1 rfl (Nat.le_of_ble_eq_true rfl) ⟨Nat.zero_le _, Nat.zero_le _⟩ dX8_isWordOfLines_67) hS (fun H locs hP hS hW z15 => ?_)
          refine lv_if_eq (tgt := 77) hx hb dX8_isWordOfLines_70 (by decide) (fun c16 => ?_) (fun c16 => ?_)
          · have hf := if_t c16 hf
            refine lv_iconst (v := 0) hx hb dX8_isWordOfLines_77 rfl ?_
            cases hf
            exact x_retZ C hP hS hW isZ_0 dX8_isWordOfLines_78
          · have hf := if_f c16 hf
            refine lv_iconst (v := 1) hx hb dX8_isWordOfLines_73 rfl ?_
            refine lv_goto (tgt := 78) hx hb dX8_isWordOfLines_74 (by decide) ?_
            cases hf
            exact x_retZ C hP hS hW isZ_1 dX8_isWordOfLines_78
set_option maxRecDepth 100000 in
set_option maxHeartbeats 4000000 in
theorem c_X8_isWordOfLines {l : Launch} {V : EV} {G : GS} {S : HS} {F : Nat} {a : Nat} {r : Int32} (hN : G.1.Nodup) (hW : WT G S) (h_a : a ∈ G.1) (k_a : G.2.1 a = 8) (hf : s_X8_isWordOfLines F a S = some r) : MetZ l yX8_isWordOfLines cX8_isWordOfLines 2 12 463 V G S [.ref a] r S := by
  intro sz
  refine x_in RX8 rfl (by decide +kernel) hN (Nat.le_of_ble_eq_true rfl) (fun p e s m args below meth c ls hsz hargs hnm C hP hS hl => ?_)
  subst hsz
  have hx := C.1
  have hb := C.2.1
  have hl : lv_has ls 2 [(0, .ref a)] := hl
  unfold s_X8_isWordOfLines at hf
  refine lv_aload_n hx hb dX8_isWordOfLines_0 rfl (lv_at hl 0 rfl) ?_
  refine va_ldcS hx hb C.2.2.2.2.1 (C.2.2.2.2.2.2.2.2.1.1.2 (RX8, 90, "form", 1) (List.mem_of_getElem? (i := 2) rfl)) dX8_isWordOfLines_1 ?_
  obtain ⟨r1, er1, hf⟩ := bd1_e hf
  refine x_aft_z (x_runV (As := [.ref (V.2.2.1 1)]) (rest := []) C hP hS (c_X8_isWord (l := l) C.2.2.2.2.2.2.2.2.2.1 hW h_a k_a (by decide) er1 s.heap.size) h_a k_a (by decide) rfl rfl km_X8_isWord ki_X8_isWord qm_X8_92 ⟨(Nat.le_of_ble_eq_true rfl), (Nat.le_of_ble_eq_true rfl)⟩ rfl hl.1 rfl (Nat.le_of_ble_eq_true rfl) ⟨Nat.zero_le _, Nat.zero_le _⟩ dX8_isWordOfLines_3) hS (fun H locs hP hS hW z2 => ?_)
  refine lv_if_ne (tgt := 27) hx hb dX8_isWordOfLines_6 (by decide) (fun c3 => ?_) (fun c3 => ?_)
  · have hf := if_f c3 hf
    refine lv_iconst (v := 1) hx hb dX8_isWordOfLines_27 rfl ?_
    refine lv_goto (tgt := 32) hx hb dX8_isWordOfLines_28 (by decide) ?_
    exact b_X8_isWordOfLines_32 C a 1 h_a k_a S H locs _ hf hP hS hW (lv_sub hl [0] rfl)
  · have hf := if_t c3 hf
    refine lv_aload_n hx hb dX8_isWordOfLines_9 rfl (lv_at hl 0 rfl) ?_
    refine va_ldcS hx hb C.2.2.2.2.1 (C.2.2.2.2.2.2.2.2.1.1.2 (RX8, 96, "reg", 2) (List.mem_of_getElem? (i := 3) rfl)) dX8_isWordOfLines_10 ?_
    obtain ⟨r17, er17, hf⟩ := bd1_e hf
    refine x_aft_z (x_runV (As := [.ref (V.2.2.1 2)]) (rest := []) C hP hS (c_X8_isWord (l := l) C.2.2.2.2.2.2.2.2.2.1 hW h_a k_a (by decide) er17 H.size) h_a k_a (by decide) rfl rfl km_X8_isWord ki_X8_isWord qm_X8_92 ⟨(Nat.le_of_ble_eq_true rfl), (Nat.le_of_ble_eq_true rfl)⟩ rfl hl.1 rfl (Nat.le_of_ble_eq_true rfl) ⟨Nat.zero_le _, Nat.zero_le _⟩ dX8_isWordOfLines_12) hS (fun H locs hP hS hW z18 => ?_)
    refine lv_if_ne (tgt := 27) hx hb dX8_isWordOfLines_15 (by decide) (fun c19 => ?_) (fun c19 => ?_)
    · have hf := if_f c19 hf
      refine lv_iconst (v := 1) hx hb dX8_isWordOfLines_27 rfl ?_
      refine lv_goto (tgt := 32) hx hb dX8_isWordOfLines_28 (by decide) ?_
      exact b_X8_isWordOfLines_32 C a 1 h_a k_a S H locs _ hf hP hS hW (lv_sub hl [0] rfl)
    · have hf := if_t c19 hf
      refine lv_aload_n hx hb dX8_isWordOfLines_18 rfl (lv_at hl 0 rfl) ?_
      refine va_ldcS hx hb C.2.2.2.2.1 (C.2.2.2.2.2.2.2.2.1.1.2 (RX8, 98, "own", 3) (List.mem_of_getElem? (i := 4) rfl)) dX8_isWordOfLines_19 ?_
      obtain ⟨r20, er20, hf⟩ := bd1_e hf
      refine x_aft_z (x_runV (As := [.ref (V.2.2.1 3)]) (rest := []) C hP hS (c_X8_isWord (l := l) C.2.2.2.2.2.2.2.2.2.1 hW h_a k_a (by decide) er20 H.size) h_a k_a (by decide) rfl rfl km_X8_isWord ki_X8_isWord qm_X8_92 ⟨(Nat.le_of_ble_eq_true rfl), (Nat.le_of_ble_eq_true rfl)⟩ rfl hl.1 rfl (Nat.le_of_ble_eq_true rfl) ⟨Nat.zero_le _, Nat.zero_le _⟩ dX8_isWordOfLines_21) hS (fun H locs hP hS hW z21 => ?_)
      refine lv_if_eq (tgt := 31) hx hb dX8_isWordOfLines_24 (by decide) (fun c22 => ?_) (fun c22 => ?_)
      · have hf := if_t c22 hf
        refine lv_iconst (v := 0) hx hb dX8_isWordOfLines_31 rfl ?_
        exact b_X8_isWordOfLines_32 C a 0 h_a k_a S H locs _ hf hP hS hW (lv_sub hl [0] rfl)
      · have hf := if_f c22 hf
        refine lv_iconst (v := 1) hx hb dX8_isWordOfLines_27 rfl ?_
        refine lv_goto (tgt := 32) hx hb dX8_isWordOfLines_28 (by decide) ?_
        exact b_X8_isWordOfLines_32 C a 1 h_a k_a S H locs _ hf hP hS hW (lv_sub hl [0] rfl)
def s_X8_isWordWithin (F : Nat) (a : Nat) (S : HS) : Option Int32 :=
  bd1 (s_X8_isWord F a 8 S) fun r1 =>
  if r1 = (0 : Int32) then
  bd1 (s_X8_isWord F a 9 S) fun r4 =>
  if r4 = (0 : Int32) then
  bd1 (s_X8_isWord F a 10 S) fun r7 =>
  if r7 = (0 : Int32) then
  bd1 (s_X8_isWord F a 11 S) fun r10 =>
  if r10 = (0 : Int32) then
  bd1 (s_X8_isWord F a 12 S) fun r13 =>
  if r13 = (0 : Int32) then
  some 0
  else
  some 1
  else
  some 1
  else
  some 1
  else
  some 1
  else
  some 1
set_option maxRecDepth 100000 in
set_option maxHeartbeats 4000000 in
theorem c_X8_isWordWithin {l : Launch} {V : EV} {G : GS} {S : HS} {F : Nat} {a : Nat} {r : Int32} (hN : G.1.Nodup) (hW : WT G S) (h_a : a ∈ G.1) (k_a : G.2.1 a = 8) (hf : s_X8_isWordWithin F a S = some r) : MetZ l yX8_isWordWithin cX8_isWordWithin 1 12 463 V G S [.ref a] r S := by
  intro sz
  refine x_in RX8 rfl (by decide +kernel) hN (Nat.le_of_ble_eq_true rfl) (fun p e s m args below meth c ls hsz hargs hnm C hP hS hl => ?_)
  subst hsz
  have hx := C.1
  have hb := C.2.1
  have hl : lv_has ls 1 [(0, .ref a)] := hl
  unfold s_X8_isWordWithin at hf
  refine lv_aload_n hx hb dX8_isWordWithin_0 rfl (lv_at hl 0 rfl) ?_
  refine va_ldcS hx hb C.2.2.2.2.1 (C.2.2.2.2.2.2.2.2.1.1.2 (RX8, 108, "exp", 8) (List.mem_of_getElem? (i := 9) rfl)) dX8_isWordWithin_1 ?_
  obtain ⟨r1, er1, hf⟩ := bd1_e hf
  refine x_aft_z (x_runV (As := [.ref (V.2.2.1 8)]) (rest := []) C hP hS (c_X8_isWord (l := l) C.2.2.2.2.2.2.2.2.2.1 hW h_a k_a (by decide) er1 s.heap.size) h_a k_a (by decide) rfl rfl km_X8_isWord ki_X8_isWord qm_X8_92 ⟨(Nat.le_of_ble_eq_true rfl), (Nat.le_of_ble_eq_true rfl)⟩ rfl hl.1 rfl (Nat.le_of_ble_eq_true rfl) ⟨Nat.zero_le _, Nat.zero_le _⟩ dX8_isWordWithin_3) hS (fun H locs hP hS hW z2 => ?_)
  refine lv_if_ne (tgt := 45) hx hb dX8_isWordWithin_6 (by decide) (fun c3 => ?_) (fun c3 => ?_)
  · have hf := if_f c3 hf
    refine lv_iconst (v := 1) hx hb dX8_isWordWithin_45 rfl ?_
    refine lv_goto (tgt := 50) hx hb dX8_isWordWithin_46 (by decide) ?_
    cases hf
    exact x_retZ C hP hS hW isZ_1 dX8_isWordWithin_50
  · have hf := if_t c3 hf
    refine lv_aload_n hx hb dX8_isWordWithin_9 rfl (lv_at hl 0 rfl) ?_
    refine va_ldcS hx hb C.2.2.2.2.1 (C.2.2.2.2.2.2.2.2.1.1.2 (RX8, 110, "frac", 9) (List.mem_of_getElem? (i := 10) rfl)) dX8_isWordWithin_10 ?_
    obtain ⟨r4, er4, hf⟩ := bd1_e hf
    refine x_aft_z (x_runV (As := [.ref (V.2.2.1 9)]) (rest := []) C hP hS (c_X8_isWord (l := l) C.2.2.2.2.2.2.2.2.2.1 hW h_a k_a (by decide) er4 H.size) h_a k_a (by decide) rfl rfl km_X8_isWord ki_X8_isWord qm_X8_92 ⟨(Nat.le_of_ble_eq_true rfl), (Nat.le_of_ble_eq_true rfl)⟩ rfl hl.1 rfl (Nat.le_of_ble_eq_true rfl) ⟨Nat.zero_le _, Nat.zero_le _⟩ dX8_isWordWithin_12) hS (fun H locs hP hS hW z5 => ?_)
    refine lv_if_ne (tgt := 45) hx hb dX8_isWordWithin_15 (by decide) (fun c6 => ?_) (fun c6 => ?_)
    · have hf := if_f c6 hf
      refine lv_iconst (v := 1) hx hb dX8_isWordWithin_45 rfl ?_
      refine lv_goto (tgt := 50) hx hb dX8_isWordWithin_46 (by decide) ?_
      cases hf
      exact x_retZ C hP hS hW isZ_1 dX8_isWordWithin_50
    · have hf := if_t c6 hf
      refine lv_aload_n hx hb dX8_isWordWithin_18 rfl (lv_at hl 0 rfl) ?_
      refine va_ldcS hx hb C.2.2.2.2.1 (C.2.2.2.2.2.2.2.2.1.1.2 (RX8, 112, "not", 10) (List.mem_of_getElem? (i := 11) rfl)) dX8_isWordWithin_19 ?_
      obtain ⟨r7, er7, hf⟩ := bd1_e hf
      refine x_aft_z (x_runV (As := [.ref (V.2.2.1 10)]) (rest := []) C hP hS (c_X8_isWord (l := l) C.2.2.2.2.2.2.2.2.2.1 hW h_a k_a (by decide) er7 H.size) h_a k_a (by decide) rfl rfl km_X8_isWord ki_X8_isWord qm_X8_92 ⟨(Nat.le_of_ble_eq_true rfl), (Nat.le_of_ble_eq_true rfl)⟩ rfl hl.1 rfl (Nat.le_of_ble_eq_true rfl) ⟨Nat.zero_le _, Nat.zero_le _⟩ dX8_isWordWithin_21) hS (fun H locs hP hS hW z8 => ?_)
      refine lv_if_ne (tgt := 45) hx hb dX8_isWordWithin_24 (by decide) (fun c9 => ?_) (fun c9 => ?_)
      · have hf := if_f c9 hf
        refine lv_iconst (v := 1) hx hb dX8_isWordWithin_45 rfl ?_
        refine lv_goto (tgt := 50) hx hb dX8_isWordWithin_46 (by decide) ?_
        cases hf
        exact x_retZ C hP hS hW isZ_1 dX8_isWordWithin_50
      · have hf := if_t c9 hf
        refine lv_aload_n hx hb dX8_isWordWithin_27 rfl (lv_at hl 0 rfl) ?_
        refine va_ldcS hx hb C.2.2.2.2.1 (C.2.2.2.2.2.2.2.2.1.1.2 (RX8, 114, "and", 11) (List.mem_of_getElem? (i := 12) rfl)) dX8_isWordWithin_28 ?_
        obtain ⟨r10, er10, hf⟩ := bd1_e hf
        refine x_aft_z (x_runV (As := [.ref (V.2.2.1 11)]) (rest := []) C hP hS (c_X8_isWord (l := l) C.2.2.2.2.2.2.2.2.2.1 hW h_a k_a (by decide) er10 H.size) h_a k_a (by decide) rfl rfl km_X8_isWord ki_X8_isWord qm_X8_92 ⟨(Nat.le_of_ble_eq_true rfl), (Nat.le_of_ble_eq_true rfl)⟩ rfl hl.1 rfl (Nat.le_of_ble_eq_true rfl) ⟨Nat.zero_le _, Nat.zero_le _⟩ dX8_isWordWithin_30) hS (fun H locs hP hS hW z11 => ?_)
        refine lv_if_ne (tgt := 45) hx hb dX8_isWordWithin_33 (by decide) (fun c12 => ?_) (fun c12 => ?_)
        · have hf := if_f c12 hf
          refine lv_iconst (v := 1) hx hb dX8_isWordWithin_45 rfl ?_
          refine lv_goto (tgt := 50) hx hb dX8_isWordWithin_46 (by decide) ?_
          cases hf
          exact x_retZ C hP hS hW isZ_1 dX8_isWordWithin_50
        · have hf := if_t c12 hf
          refine lv_aload_n hx hb dX8_isWordWithin_36 rfl (lv_at hl 0 rfl) ?_
          refine va_ldcS hx hb C.2.2.2.2.1 (C.2.2.2.2.2.2.2.2.1.1.2 (RX8, 116, "or", 12) (List.mem_of_getElem? (i := 13) rfl)) dX8_isWordWithin_37 ?_
          obtain ⟨r13, er13, hf⟩ := bd1_e hf
          refine x_aft_z (x_runV (As := [.ref (V.2.2.1 12)]) (rest := []) C hP hS (c_X8_isWord (l := l) C.2.2.2.2.2.2.2.2.2.1 hW h_a k_a (by decide) er13 H.size) h_a k_a (by decide) rfl rfl km_X8_isWord ki_X8_isWord qm_X8_92 ⟨(Nat.le_of_ble_eq_true rfl), (Nat.le_of_ble_eq_true rfl)⟩ rfl hl.1 rfl (Nat.le_of_ble_eq_true rfl) ⟨Nat.zero_le _, Nat.zero_le _⟩ dX8_isWordWithin_39) hS (fun H locs hP hS hW z14 => ?_)
          refine lv_if_eq (tgt := 49) hx hb dX8_isWordWithin_42 (by decide) (fun c15 => ?_) (fun c15 => ?_)
          · have hf := if_t c15 hf
            refine lv_iconst (v := 0) hx hb dX8_isWordWithin_49 rfl ?_
            cases hf
            exact x_retZ C hP hS hW isZ_0 dX8_isWordWithin_50
          · have hf := if_f c15 hf
            refine lv_iconst (v := 1) hx hb dX8_isWordWithin_45 rfl ?_
            refine lv_goto (tgt := 50) hx hb dX8_isWordWithin_46 (by decide) ?_
            cases hf
            exact x_retZ C hP hS hW isZ_1 dX8_isWordWithin_50
def s_X8_kindNamed (F : Nat) (a : Nat) (S : HS) : Option Int32 :=
  bd1 (s_X8_isWord F a 13 S) fun r1 =>
  if r1 = (0 : Int32) then
  bd1 (s_X8_isWord F a 14 S) fun r4 =>
  if r4 = (0 : Int32) then
  bd1 (s_X8_isWord F a 15 S) fun r7 =>
  if r7 = (0 : Int32) then
  bd1 (s_X8_isWord F a 16 S) fun r10 =>
  if r10 = (0 : Int32) then
  some (-1)
  else
  some 3
  else
  some 2
  else
  some 1
  else
  some 0
set_option maxRecDepth 100000 in
set_option maxHeartbeats 4000000 in
theorem c_X8_kindNamed {l : Launch} {V : EV} {G : GS} {S : HS} {F : Nat} {a : Nat} {r : Int32} (hN : G.1.Nodup) (hW : WT G S) (h_a : a ∈ G.1) (k_a : G.2.1 a = 8) (hf : s_X8_kindNamed F a S = some r) : MetI l yX8_kindNamed cX8_kindNamed 1 .int 12 463 V G S [.ref a] r S := by
  intro sz
  refine x_in RX8 rfl (by decide +kernel) hN (Nat.le_of_ble_eq_true rfl) (fun p e s m args below meth c ls hsz hargs hnm C hP hS hl => ?_)
  subst hsz
  have hx := C.1
  have hb := C.2.1
  have hl : lv_has ls 1 [(0, .ref a)] := hl
  unfold s_X8_kindNamed at hf
  refine lv_aload_n hx hb dX8_kindNamed_0 rfl (lv_at hl 0 rfl) ?_
  refine va_ldcS hx hb C.2.2.2.2.1 (C.2.2.2.2.2.2.2.2.1.1.2 (RX8, 118, "plain", 13) (List.mem_of_getElem? (i := 14) rfl)) dX8_kindNamed_1 ?_
  obtain ⟨r1, er1, hf⟩ := bd1_e hf
  refine x_aft_z (x_runV (As := [.ref (V.2.2.1 13)]) (rest := []) C hP hS (c_X8_isWord (l := l) C.2.2.2.2.2.2.2.2.2.1 hW h_a k_a (by decide) er1 s.heap.size) h_a k_a (by decide) rfl rfl km_X8_isWord ki_X8_isWord qm_X8_92 ⟨(Nat.le_of_ble_eq_true rfl), (Nat.le_of_ble_eq_true rfl)⟩ rfl hl.1 rfl (Nat.le_of_ble_eq_true rfl) ⟨Nat.zero_le _, Nat.zero_le _⟩ dX8_kindNamed_3) hS (fun H locs hP hS hW z2 => ?_)
  refine lv_if_eq (tgt := 11) hx hb dX8_kindNamed_6 (by decide) (fun c3 => ?_) (fun c3 => ?_)
  · have hf := if_t c3 hf
    refine lv_aload_n hx hb dX8_kindNamed_11 rfl (lv_at hl 0 rfl) ?_
    refine va_ldcS hx hb C.2.2.2.2.1 (C.2.2.2.2.2.2.2.2.1.1.2 (RX8, 120, "flush", 14) (List.mem_of_getElem? (i := 15) rfl)) dX8_kindNamed_12 ?_
    obtain ⟨r4, er4, hf⟩ := bd1_e hf
    refine x_aft_z (x_runV (As := [.ref (V.2.2.1 14)]) (rest := []) C hP hS (c_X8_isWord (l := l) C.2.2.2.2.2.2.2.2.2.1 hW h_a k_a (by decide) er4 H.size) h_a k_a (by decide) rfl rfl km_X8_isWord ki_X8_isWord qm_X8_92 ⟨(Nat.le_of_ble_eq_true rfl), (Nat.le_of_ble_eq_true rfl)⟩ rfl hl.1 rfl (Nat.le_of_ble_eq_true rfl) ⟨Nat.zero_le _, Nat.zero_le _⟩ dX8_kindNamed_14) hS (fun H locs hP hS hW z5 => ?_)
    refine lv_if_eq (tgt := 22) hx hb dX8_kindNamed_17 (by decide) (fun c6 => ?_) (fun c6 => ?_)
    · have hf := if_t c6 hf
      refine lv_aload_n hx hb dX8_kindNamed_22 rfl (lv_at hl 0 rfl) ?_
      refine va_ldcS hx hb C.2.2.2.2.1 (C.2.2.2.2.2.2.2.2.1.1.2 (RX8, 122, "sat", 15) (List.mem_of_getElem? (i := 16) rfl)) dX8_kindNamed_23 ?_
      obtain ⟨r7, er7, hf⟩ := bd1_e hf
      refine x_aft_z (x_runV (As := [.ref (V.2.2.1 15)]) (rest := []) C hP hS (c_X8_isWord (l := l) C.2.2.2.2.2.2.2.2.2.1 hW h_a k_a (by decide) er7 H.size) h_a k_a (by decide) rfl rfl km_X8_isWord ki_X8_isWord qm_X8_92 ⟨(Nat.le_of_ble_eq_true rfl), (Nat.le_of_ble_eq_true rfl)⟩ rfl hl.1 rfl (Nat.le_of_ble_eq_true rfl) ⟨Nat.zero_le _, Nat.zero_le _⟩ dX8_kindNamed_25) hS (fun H locs hP hS hW z8 => ?_)
      refine lv_if_eq (tgt := 33) hx hb dX8_kindNamed_28 (by decide) (fun c9 => ?_) (fun c9 => ?_)
      · have hf := if_t c9 hf
        refine lv_aload_n hx hb dX8_kindNamed_33 rfl (lv_at hl 0 rfl) ?_
        refine va_ldcS hx hb C.2.2.2.2.1 (C.2.2.2.2.2.2.2.2.1.1.2 (RX8, 124, "whole", 16) (List.mem_of_getElem? (i := 17) rfl)) dX8_kindNamed_34 ?_
        obtain ⟨r10, er10, hf⟩ := bd1_e hf
        refine x_aft_z (x_runV (As := [.ref (V.2.2.1 16)]) (rest := []) C hP hS (c_X8_isWord (l := l) C.2.2.2.2.2.2.2.2.2.1 hW h_a k_a (by decide) er10 H.size) h_a k_a (by decide) rfl rfl km_X8_isWord ki_X8_isWord qm_X8_92 ⟨(Nat.le_of_ble_eq_true rfl), (Nat.le_of_ble_eq_true rfl)⟩ rfl hl.1 rfl (Nat.le_of_ble_eq_true rfl) ⟨Nat.zero_le _, Nat.zero_le _⟩ dX8_kindNamed_36) hS (fun H locs hP hS hW z11 => ?_)
        refine lv_if_eq (tgt := 46) hx hb dX8_kindNamed_39 (by decide) (fun c12 => ?_) (fun c12 => ?_)
        · have hf := if_t c12 hf
          refine lv_iconst (v := (-1)) hx hb dX8_kindNamed_46 rfl ?_
          cases hf
          exact x_reti C hP hS hW dX8_kindNamed_47
        · have hf := if_f c12 hf
          refine lv_iconst (v := 3) hx hb dX8_kindNamed_42 rfl ?_
          refine lv_goto (tgt := 47) hx hb dX8_kindNamed_43 (by decide) ?_
          cases hf
          exact x_reti C hP hS hW dX8_kindNamed_47
      · have hf := if_f c9 hf
        refine lv_iconst (v := 2) hx hb dX8_kindNamed_31 rfl ?_
        cases hf
        exact x_reti C hP hS hW dX8_kindNamed_32
    · have hf := if_f c6 hf
      refine lv_iconst (v := 1) hx hb dX8_kindNamed_20 rfl ?_
      cases hf
      exact x_reti C hP hS hW dX8_kindNamed_21
  · have hf := if_f c3 hf
    refine lv_iconst (v := 0) hx hb dX8_kindNamed_9 rfl ?_
    cases hf
    exact x_reti C hP hS hW dX8_kindNamed_10
def s_X8_isName (F : Nat) (a : Nat) (S : HS) : Option Int32 :=
  if (gI S 802 a) = (1 : Int32) then
  bd1 (s_X8_isWordOfLines F a S) fun r2 =>
  if r2 = (0 : Int32) then
  bd1 (s_X8_isWordWithin F a S) fun r5 =>
  if r5 = (0 : Int32) then
  bd1 (s_X8_kindNamed F a S) fun r8 =>
  if r8 = (-1 : Int32) then
  some 1
  else
  some 0
  else
  some 0
  else
  some 0
  else
  some 0
set_option maxRecDepth 100000 in
set_option maxHeartbeats 4000000 in
theorem c_X8_isName {l : Launch} {V : EV} {G : GS} {S : HS} {F : Nat} {a : Nat} {r : Int32} (hN : G.1.Nodup) (hW : WT G S) (h_a : a ∈ G.1) (k_a : G.2.1 a = 8) (hf : s_X8_isName F a S = some r) : MetZ l yX8_isName cX8_isName 1 13 492 V G S [.ref a] r S := by
  intro sz
  refine x_in RX8 rfl (by decide +kernel) hN (Nat.le_of_ble_eq_true rfl) (fun p e s m args below meth c ls hsz hargs hnm C hP hS hl => ?_)
  subst hsz
  have hx := C.1
  have hb := C.2.1
  have hl : lv_has ls 1 [(0, .ref a)] := hl
  unfold s_X8_isName at hf
  refine lv_aload_n hx hb dX8_isName_0 rfl (lv_at hl 0 rfl) ?_
  refine gf_X8_39 C hP h_a k_a dX8_isName_1 ?_
  refine lv_iconst (v := 1) hx hb dX8_isName_4 rfl ?_
  refine lv_icmp_ne (tgt := 34) hx hb dX8_isName_5 (by decide) (fun c1 => ?_) (fun c1 => ?_)
  · have hf := if_f c1 hf
    refine lv_iconst (v := 0) hx hb dX8_isName_34 rfl ?_
    cases hf
    exact x_retZ C hP hS hW isZ_0 dX8_isName_35
  · have hf := if_t c1 hf
    refine lv_aload_n hx hb dX8_isName_8 rfl (lv_at hl 0 rfl) ?_
    obtain ⟨r2, er2, hf⟩ := bd1_e hf
    refine x_aft_z (x_runV (As := []) (rest := []) C hP hS (c_X8_isWordOfLines (l := l) C.2.2.2.2.2.2.2.2.2.1 hW h_a k_a er2 s.heap.size) h_a k_a (by decide) rfl rfl km_X8_isWordOfLines ki_X8_isWordOfLines qm_X8_80 ⟨(Nat.le_of_ble_eq_true rfl), (Nat.le_of_ble_eq_true rfl)⟩ rfl hl.1 rfl (Nat.le_of_ble_eq_true rfl) ⟨Nat.zero_le _, Nat.zero_le _⟩ dX8_isName_9) hS (fun H locs hP hS hW z3 => ?_)
    refine lv_if_ne (tgt := 34) hx hb dX8_isName_12 (by decide) (fun c4 => ?_) (fun c4 => ?_)
    · have hf := if_f c4 hf
      refine lv_iconst (v := 0) hx hb dX8_isName_34 rfl ?_
      cases hf
      exact x_retZ C hP hS hW isZ_0 dX8_isName_35
    · have hf := if_t c4 hf
      refine lv_aload_n hx hb dX8_isName_15 rfl (lv_at hl 0 rfl) ?_
      obtain ⟨r5, er5, hf⟩ := bd1_e hf
      refine x_aft_z (x_runV (As := []) (rest := []) C hP hS (c_X8_isWordWithin (l := l) C.2.2.2.2.2.2.2.2.2.1 hW h_a k_a er5 H.size) h_a k_a (by decide) rfl rfl km_X8_isWordWithin ki_X8_isWordWithin qm_X8_84 ⟨(Nat.le_of_ble_eq_true rfl), (Nat.le_of_ble_eq_true rfl)⟩ rfl hl.1 rfl (Nat.le_of_ble_eq_true rfl) ⟨Nat.zero_le _, Nat.zero_le _⟩ dX8_isName_16) hS (fun H locs hP hS hW z6 => ?_)
      refine lv_if_ne (tgt := 34) hx hb dX8_isName_19 (by decide) (fun c7 => ?_) (fun c7 => ?_)
      · have hf := if_f c7 hf
        refine lv_iconst (v := 0) hx hb dX8_isName_34 rfl ?_
        cases hf
        exact x_retZ C hP hS hW isZ_0 dX8_isName_35
      · have hf := if_t c7 hf
        refine lv_aload_n hx hb dX8_isName_22 rfl (lv_at hl 0 rfl) ?_
        obtain ⟨r8, er8, hf⟩ := bd1_e hf
        refine x_aft_i (x_runV (As := []) (rest := []) C hP hS (c_X8_kindNamed (l := l) C.2.2.2.2.2.2.2.2.2.1 hW h_a k_a er8 H.size) h_a k_a (by decide) rfl rfl km_X8_kindNamed ki_X8_kindNamed qm_X8_87 ⟨(Nat.le_of_ble_eq_true rfl), (Nat.le_of_ble_eq_true rfl)⟩ rfl hl.1 rfl (Nat.le_of_ble_eq_true rfl) ⟨Nat.zero_le _, Nat.zero_le _⟩ dX8_isName_23) hS (fun H locs hP hS hW => ?_)
        refine lv_iconst (v := (-1)) hx hb dX8_isName_26 rfl ?_
        refine lv_icmp_ne (tgt := 34) hx hb dX8_isName_27 (by decide) (fun c9 => ?_) (fun c9 => ?_)
        · have hf := if_f c9 hf
          refine lv_iconst (v := 0) hx hb dX8_isName_34 rfl ?_
          cases hf
          exact x_retZ C hP hS hW isZ_0 dX8_isName_35
        · have hf := if_t c9 hf
          refine lv_iconst (v := 1) hx hb dX8_isName_30 rfl ?_
          refine lv_goto (tgt := 35) hx hb dX8_isName_31 (by decide) ?_
          cases hf
          exact x_retZ C hP hS hW isZ_1 dX8_isName_35
def s_X6_passKnown_J20 (N : Nat → Nat) (F : Nat) (v0 : Nat) (v1 : Int32) (S : HS) : Option (Int32 × HS) :=
  bd1 (gR S 600 v0) fun t4 =>
  bnd (s_X8_blame t4 1 S) fun S5 =>
  some (v1, S5)
def s_X6_passKnown (N : Nat → Nat) (F : Nat) (a : Nat) (p0 : Int32) (S : HS) : Option (Int32 × HS) :=
  bd1 (gR S 600 a) fun t1 =>
  if (s_X8_isRight t1 S) = (0 : Int32) then
  s_X6_passKnown_J20 N F a p0 S
  else
  bd1 (gR S 600 a) fun t6 =>
  bd1 (s_X8_isName F t6 S) fun r7 =>
  if r7 = (0 : Int32) then
  s_X6_passKnown_J20 N F a p0 S
  else
  if p0 = (-1 : Int32) then
  bd1 (gR S 600 a) fun t13 =>
  bnd (s_X8_blame t13 2 S) fun S14 =>
  some (p0, S14)
  else
  bd1 (gR S 600 a) fun t11 =>
  bd1 (s_X8_advance N F t11 S) fun S12 =>
  some (p0, S12)
set_option maxRecDepth 100000 in
set_option maxHeartbeats 4000000 in
theorem b_X6_passKnown_20 {p : Program} {l : Launch} {e : Env} {s : State} {m : MethodId} {args : Array Value} {below : List Frame} {meth : Method} {c : Code} {V : EV} {G : GS} {r : Int32} {S' : HS} {F : Nat} (C : CX p s m args meth c RX6 cX6_passKnown 2 (some .int) V G) : ∀ (v0 : Nat) (v1 : Int32) (h_v0 : v0 ∈ G.1) (k_v0 : G.2.1 v0 = 6) (S : HS) (H : Heap) (locs : List Loc) (ls : Array Slot), s_X6_passKnown_J20 G.2.2 F v0 v1 S = some (r, S') → HP V G S H → va_S (AG G s.heap.size) s.heap H locs → WT G S → lv_has ls 2 [(0, .ref v0), (1, .int v1)] → W p l e (RM 14 520) s m args below meth c H locs 0 0 (MQ below (QI V G S' r s.heap.size) args s 0 0 (AG G s.heap.size)) (F0 m 20 ls []) := by
  intro v0 v1 h_v0 k_v0 S H locs ls hf hP hS hW hl
  have hx := C.1
  have hb := C.2.1
  unfold s_X6_passKnown_J20 at hf
  refine lv_aload_n hx hb dX6_passKnown_20 rfl (lv_at hl 0 rfl) ?_
  refine gf_X6_9 C hP h_v0 k_v0 dX6_passKnown_21 ?_
  obtain ⟨t4, et4, hf⟩ := bd1_e hf
  obtain ⟨h_t4, k_t4⟩ := wt_r hW h_v0 k_v0 (by decide) et4
  have k_t4 : G.2.1 t4 = 8 := k_t4
  rw [et4]
  refine lv_iconst (v := 1) hx hb dX6_passKnown_24 rfl ?_
  obtain ⟨S5, eS5, hf⟩ := bnd_e hf
  refine x_aft_v (x_runV (As := [.int 1]) (rest := []) C hP hS (c_X8_blame (l := l) C.2.2.2.2.2.2.2.2.2.1 hW h_t4 k_t4 eS5.symm H.size) h_t4 k_t4 (by decide) rfl rfl km_X8_blame ki_X8_blame qm_X6_39 ⟨(Nat.le_of_ble_eq_true rfl), (Nat.le_of_ble_eq_true rfl)⟩ rfl hl.1 rfl (Nat.le_of_ble_eq_true rfl) ⟨Nat.zero_le _, Nat.zero_le _⟩ dX6_passKnown_25) hS (fun H locs hP hS hW => ?_)
  refine lv_goto (tgt := 54) hx hb dX6_passKnown_28 (by decide) ?_
  refine lv_iload_n hx hb dX6_passKnown_54 rfl (lv_at hl 1 rfl) ?_
  cases hf
  exact x_reti C hP hS hW dX6_passKnown_55
set_option maxRecDepth 100000 in
set_option maxHeartbeats 4000000 in
theorem c_X6_passKnown {l : Launch} {V : EV} {G : GS} {S : HS} {F : Nat} {a : Nat} {p0 : Int32} {r : Int32} {S' : HS} (hN : G.1.Nodup) (hW : WT G S) (h_a : a ∈ G.1) (k_a : G.2.1 a = 6) (hf : s_X6_passKnown G.2.2 F a p0 S = some (r, S')) : MetI l yX6_passKnown cX6_passKnown 2 .int 14 520 V G S [.ref a, .int p0] r S' := by
  intro sz
  refine x_in RX6 rfl (by decide +kernel) hN (Nat.le_of_ble_eq_true rfl) (fun p e s m args below meth c ls hsz hargs hnm C hP hS hl => ?_)
  subst hsz
  have hx := C.1
  have hb := C.2.1
  have hl : lv_has ls 2 [(0, .ref a), (1, .int p0)] := hl
  unfold s_X6_passKnown at hf
  refine lv_aload_n hx hb dX6_passKnown_0 rfl (lv_at hl 0 rfl) ?_
  refine gf_X6_9 C hP h_a k_a dX6_passKnown_1 ?_
  obtain ⟨t1, et1, hf⟩ := bd1_e hf
  obtain ⟨h_t1, k_t1⟩ := wt_r hW h_a k_a (by decide) et1
  have k_t1 : G.2.1 t1 = 8 := k_t1
  rw [et1]
  refine x_aft_z (x_runV (As := []) (rest := []) C hP hS (c_X8_isRight (l := l) C.2.2.2.2.2.2.2.2.2.1 hW h_t1 k_t1 rfl s.heap.size) h_t1 k_t1 (by decide) rfl rfl km_X8_isRight ki_X8_isRight qm_X6_99 ⟨(Nat.le_of_ble_eq_true rfl), (Nat.le_of_ble_eq_true rfl)⟩ rfl hl.1 rfl (Nat.le_of_ble_eq_true rfl) ⟨Nat.zero_le _, Nat.zero_le _⟩ dX6_passKnown_4) hS (fun H locs hP hS hW z2 => ?_)
  refine lv_if_eq (tgt := 20) hx hb dX6_passKnown_7 (by decide) (fun c3 => ?_) (fun c3 => ?_)
  · have hf := if_t c3 hf
    exact b_X6_passKnown_20 C a p0 h_a k_a S H locs _ hf hP hS hW (lv_sub hl [0, 1] rfl)
  · have hf := if_f c3 hf
    refine lv_aload_n hx hb dX6_passKnown_10 rfl (lv_at hl 0 rfl) ?_
    refine gf_X6_9 C hP h_a k_a dX6_passKnown_11 ?_
    obtain ⟨t6, et6, hf⟩ := bd1_e hf
    obtain ⟨h_t6, k_t6⟩ := wt_r hW h_a k_a (by decide) et6
    have k_t6 : G.2.1 t6 = 8 := k_t6
    rw [et6]
    obtain ⟨r7, er7, hf⟩ := bd1_e hf
    refine x_aft_z (x_runV (As := []) (rest := []) C hP hS (c_X8_isName (l := l) C.2.2.2.2.2.2.2.2.2.1 hW h_t6 k_t6 er7 H.size) h_t6 k_t6 (by decide) rfl rfl km_X8_isName ki_X8_isName qm_X6_102 ⟨(Nat.le_of_ble_eq_true rfl), (Nat.le_of_ble_eq_true rfl)⟩ rfl hl.1 rfl (Nat.le_of_ble_eq_true rfl) ⟨Nat.zero_le _, Nat.zero_le _⟩ dX6_passKnown_14) hS (fun H locs hP hS hW z8 => ?_)
    refine lv_if_ne (tgt := 31) hx hb dX6_passKnown_17 (by decide) (fun c9 => ?_) (fun c9 => ?_)
    · have hf := if_f c9 hf
      refine lv_iload_n hx hb dX6_passKnown_31 rfl (lv_at hl 1 rfl) ?_
      refine lv_iconst (v := (-1)) hx hb dX6_passKnown_32 rfl ?_
      refine lv_icmp_ne (tgt := 47) hx hb dX6_passKnown_33 (by decide) (fun c10 => ?_) (fun c10 => ?_)
      · have hf := if_f c10 hf
        refine lv_aload_n hx hb dX6_passKnown_47 rfl (lv_at hl 0 rfl) ?_
        refine gf_X6_9 C hP h_a k_a dX6_passKnown_48 ?_
        obtain ⟨t11, et11, hf⟩ := bd1_e hf
        obtain ⟨h_t11, k_t11⟩ := wt_r hW h_a k_a (by decide) et11
        have k_t11 : G.2.1 t11 = 8 := k_t11
        rw [et11]
        obtain ⟨S12, eS12, hf⟩ := bd1_e hf
        refine x_aft_v (x_runV (As := []) (rest := []) C hP hS (c_X8_advance (l := l) C.2.2.2.2.2.2.2.2.2.1 hW h_t11 k_t11 eS12 H.size) h_t11 k_t11 (by decide) rfl rfl km_X8_advance ki_X8_advance qm_X6_49 ⟨(Nat.le_of_ble_eq_true rfl), (Nat.le_of_ble_eq_true rfl)⟩ rfl hl.1 rfl (Nat.le_of_ble_eq_true rfl) ⟨Nat.zero_le _, Nat.zero_le _⟩ dX6_passKnown_51) hS (fun H locs hP hS hW => ?_)
        refine lv_iload_n hx hb dX6_passKnown_54 rfl (lv_at hl 1 rfl) ?_
        cases hf
        exact x_reti C hP hS hW dX6_passKnown_55
      · have hf := if_t c10 hf
        refine lv_aload_n hx hb dX6_passKnown_36 rfl (lv_at hl 0 rfl) ?_
        refine gf_X6_9 C hP h_a k_a dX6_passKnown_37 ?_
        obtain ⟨t13, et13, hf⟩ := bd1_e hf
        obtain ⟨h_t13, k_t13⟩ := wt_r hW h_a k_a (by decide) et13
        have k_t13 : G.2.1 t13 = 8 := k_t13
        rw [et13]
        refine lv_iconst (v := 2) hx hb dX6_passKnown_40 rfl ?_
        obtain ⟨S14, eS14, hf⟩ := bnd_e hf
        refine x_aft_v (x_runV (As := [.int 2]) (rest := []) C hP hS (c_X8_blame (l := l) C.2.2.2.2.2.2.2.2.2.1 hW h_t13 k_t13 eS14.symm H.size) h_t13 k_t13 (by decide) rfl rfl km_X8_blame ki_X8_blame qm_X6_39 ⟨(Nat.le_of_ble_eq_true rfl), (Nat.le_of_ble_eq_true rfl)⟩ rfl hl.1 rfl (Nat.le_of_ble_eq_true rfl) ⟨Nat.zero_le _, Nat.zero_le _⟩ dX6_passKnown_41) hS (fun H locs hP hS hW => ?_)
        refine lv_goto (tgt := 54) hx hb dX6_passKnown_44 (by decide) ?_
        refine lv_iload_n hx hb dX6_passKnown_54 rfl (lv_at hl 1 rfl) ?_
        cases hf
        exact x_reti C hP hS hW dX6_passKnown_55
    · have hf := if_t c9 hf
      exact b_X6_passKnown_20 C a p0 h_a k_a S H locs _ hf hP hS hW (lv_sub hl [0, 1] rfl)
def s_X6_passForm (N : Nat → Nat) (F : Nat) (a : Nat) (S : HS) : Option (Int32 × HS) :=
  bd1 (gR S 601 a) fun t1 =>
  bd1 (gR S 600 a) fun t2 =>
  bd1 (s_X9_formNamed N F t1 (gJ S 805 t2) S) fun r3 =>
  bd2 (s_X6_passKnown N F a r3 S) fun r4 S5 =>
  some (r4, S5)
set_option maxRecDepth 100000 in
set_option maxHeartbeats 4000000 in
theorem c_X6_passForm {l : Launch} {V : EV} {G : GS} {S : HS} {F : Nat} {a : Nat} {r : Int32} {S' : HS} (hN : G.1.Nodup) (hW : WT G S) (h_a : a ∈ G.1) (k_a : G.2.1 a = 6) (hf : s_X6_passForm G.2.2 F a S = some (r, S')) : MetI l yX6_passForm cX6_passForm 1 .int 15 549 V G S [.ref a] r S' := by
  intro sz
  refine x_in RX6 rfl (by decide +kernel) hN (Nat.le_of_ble_eq_true rfl) (fun p e s m args below meth c ls hsz hargs hnm C hP hS hl => ?_)
  subst hsz
  have hx := C.1
  have hb := C.2.1
  have hl : lv_has ls 1 [(0, .ref a)] := hl
  unfold s_X6_passForm at hf
  refine lv_aload_n hx hb dX6_passForm_0 rfl (lv_at hl 0 rfl) ?_
  refine lv_aload_n hx hb dX6_passForm_1 rfl (lv_at hl 0 rfl) ?_
  refine gf_X6_15 C hP h_a k_a dX6_passForm_2 ?_
  obtain ⟨t1, et1, hf⟩ := bd1_e hf
  obtain ⟨h_t1, k_t1⟩ := wt_r hW h_a k_a (by decide) et1
  have k_t1 : G.2.1 t1 = 9 := k_t1
  rw [et1]
  refine lv_aload_n hx hb dX6_passForm_5 rfl (lv_at hl 0 rfl) ?_
  refine gf_X6_9 C hP h_a k_a dX6_passForm_6 ?_
  obtain ⟨t2, et2, hf⟩ := bd1_e hf
  obtain ⟨h_t2, k_t2⟩ := wt_r hW h_a k_a (by decide) et2
  have k_t2 : G.2.1 t2 = 8 := k_t2
  rw [et2]
  refine gf_X6_82 C hP h_t2 k_t2 dX6_passForm_9 ?_
  obtain ⟨r3, er3, hf⟩ := bd1_e hf
  refine x_aft_i (x_runV (As := [.long (gJ S 805 t2)]) (rest := [.ref a]) C hP hS (c_X9_formNamed (l := l) C.2.2.2.2.2.2.2.2.2.1 hW h_t1 k_t1 er3 s.heap.size) h_t1 k_t1 (by decide) rfl rfl km_X9_formNamed ki_X9_formNamed qm_X6_96 ⟨(Nat.le_of_ble_eq_true rfl), (Nat.le_of_ble_eq_true rfl)⟩ rfl hl.1 rfl (Nat.le_of_ble_eq_true rfl) ⟨Nat.zero_le _, Nat.zero_le _⟩ dX6_passForm_12) hS (fun H locs hP hS hW => ?_)
  obtain ⟨r4, S5, eS5, hf⟩ := bd2_e hf
  refine x_aft_i (x_runV (As := [.int r3]) (rest := []) C hP hS (c_X6_passKnown (l := l) C.2.2.2.2.2.2.2.2.2.1 hW h_a k_a eS5 H.size) h_a k_a (by decide) rfl rfl km_X6_passKnown ki_X6_passKnown qm_X6_92 ⟨(Nat.le_of_ble_eq_true rfl), (Nat.le_of_ble_eq_true rfl)⟩ rfl hl.1 rfl (Nat.le_of_ble_eq_true rfl) ⟨Nat.zero_le _, Nat.zero_le _⟩ dX6_passForm_15) hS (fun H locs hP hS hW => ?_)
  cases hf
  exact x_reti C hP hS hW dX6_passForm_18
def s_X9_registerNamed_L2 (N : Nat → Nat) (F : Nat) : Nat → Nat → Int64 → Int32 → HS → Option Int32
  | 0, _, _, _, _ => none
  | n + 1, v0, v1, v3, S => if (gI S 904 v0) ≤ v3 then
  some (-1)
  else
  if (6 : Int32) ≤ v3 then
  some (-1)
  else
  bd1 (gR S 902 v0) fun t3 =>
  if inB v3 (N t3) = true then
  if (lg_cmp (aJ S t3 v3.toNatClampNeg) v1) = (0 : Int32) then
  some v3
  else
  bnd (v3 + Int32.ofInt 1 : Int32) fun x6 =>
  s_X9_registerNamed_L2 N F n v0 v1 x6 S
  else none
def s_X9_registerNamed (N : Nat → Nat) (F : Nat) (a : Nat) (p0 : Int64) (S : HS) : Option Int32 :=
  s_X9_registerNamed_L2 N F F a p0 0 S
set_option maxRecDepth 100000 in
set_option maxHeartbeats 4000000 in
theorem b_X9_registerNamed_2 {p : Program} {l : Launch} {e : Env} {s : State} {m : MethodId} {args : Array Value} {below : List Frame} {meth : Method} {c : Code} {V : EV} {G : GS} {r : Int32} {F : Nat} (C : CX p s m args meth c RX9 cX9_registerNamed 4 (some .int) V G) : ∀ n : Nat, ∀ (v0 : Nat) (v1 : Int64) (v3 : Int32) (h_v0 : v0 ∈ G.1) (k_v0 : G.2.1 v0 = 9) (S : HS) (H : Heap) (locs : List Loc) (ls : Array Slot), s_X9_registerNamed_L2 G.2.2 F n v0 v1 v3 S = some r → HP V G S H → va_S (AG G s.heap.size) s.heap H locs → WT G S → lv_has ls 4 [(0, .ref v0), (1, .long v1), (3, .int v3)] → W p l e (RM 0 0) s m args below meth c H locs 0 0 (MQ below (QI V G S r s.heap.size) args s 0 0 (AG G s.heap.size)) (F0 m 2 ls []) := by
  intro n
  induction n with
  | zero =>
    intro v0 v1 v3 h_v0 k_v0 S H locs ls hf
    rw [s_X9_registerNamed_L2] at hf
    cases hf
  | succ n ih =>
    intro v0 v1 v3 h_v0 k_v0 S H locs ls hf hP hS hW hl
    have hx := C.1
    have hb := C.2.1
    rw [s_X9_registerNamed_L2] at hf
    refine lv_iload_n hx hb dX9_registerNamed_2 rfl (lv_at hl 2 rfl) ?_
    refine lv_aload_n hx hb dX9_registerNamed_3 rfl (lv_at hl 0 rfl) ?_
    refine gf_X9_28 C hP h_v0 k_v0 dX9_registerNamed_4 ?_
    refine lv_icmp_ge (tgt := 35) hx hb dX9_registerNamed_7 (by decide) (fun c1 => ?_) (fun c1 => ?_)
    · have hf := if_t c1 hf
      refine lv_iconst (v := (-1)) hx hb dX9_registerNamed_35 rfl ?_
      cases hf
      exact x_reti C hP hS hW dX9_registerNamed_36
    · have hf := if_f c1 hf
      refine lv_iload_n hx hb dX9_registerNamed_10 rfl (lv_at hl 2 rfl) ?_
      refine lv_bipush (v := 6) hx hb dX9_registerNamed_11 kc_bipush_6 ?_
      refine lv_icmp_ge (tgt := 35) hx hb dX9_registerNamed_13 (by decide) (fun c2 => ?_) (fun c2 => ?_)
      · have hf := if_t c2 hf
        refine lv_iconst (v := (-1)) hx hb dX9_registerNamed_35 rfl ?_
        cases hf
        exact x_reti C hP hS hW dX9_registerNamed_36
      · have hf := if_f c2 hf
        refine lv_aload_n hx hb dX9_registerNamed_16 rfl (lv_at hl 0 rfl) ?_
        refine gf_X9_21 C hP h_v0 k_v0 dX9_registerNamed_17 ?_
        obtain ⟨t3, et3, hf⟩ := bd1_e hf
        obtain ⟨h_t3, k_t3⟩ := wt_r hW h_v0 k_v0 (by decide) et3
        have k_t3 : G.2.1 t3 = 15 := k_t3
        rw [et3]
        refine lv_iload_n hx hb dX9_registerNamed_20 rfl (lv_at hl 2 rfl) ?_
        obtain ⟨h4, hf⟩ := if_s hf
        refine x_lald C hP h_t3 k_t3 h4 dX9_registerNamed_21 ?_
        refine lv_lload_n hx hb dX9_registerNamed_22 rfl (lv_at hl 1 rfl) ?_
        refine W.lcmp hx hb dX9_registerNamed_23 ?_
        refine lv_if_ne (tgt := 29) hx hb dX9_registerNamed_24 (by decide) (fun c5 => ?_) (fun c5 => ?_)
        · have hf := if_f c5 hf
          obtain ⟨x6, ex6, hf⟩ := bnd_e hf
          refine lv_iinc (v := x6) (lv' := [(3, .int x6), (0, .ref v0), (1, .long v1)]) hx hb dX9_registerNamed_29 hl (k := 2) rfl ex6.symm (by decide) rfl (fun ls hl => ?_)
          refine lv_goto (tgt := 2) hx hb dX9_registerNamed_32 (by decide) ?_
          exact ih v0 v1 x6 h_v0 k_v0 S H locs _ hf hP hS hW (lv_sub hl [1, 2, 0] rfl)
        · have hf := if_t c5 hf
          refine lv_iload_n hx hb dX9_registerNamed_27 rfl (lv_at hl 2 rfl) ?_
          cases hf
          exact x_reti C hP hS hW dX9_registerNamed_28
set_option maxRecDepth 100000 in
set_option maxHeartbeats 4000000 in
theorem c_X9_registerNamed {l : Launch} {V : EV} {G : GS} {S : HS} {F : Nat} {a : Nat} {p0 : Int64} {r : Int32} (hN : G.1.Nodup) (hW : WT G S) (h_a : a ∈ G.1) (k_a : G.2.1 a = 9) (hf : s_X9_registerNamed G.2.2 F a p0 S = some r) : MetI l yX9_registerNamed cX9_registerNamed 4 .int 0 0 V G S [.ref a, .long p0] r S := by
  intro sz
  refine x_in RX9 rfl (by decide +kernel) hN (Nat.le_of_ble_eq_true rfl) (fun p e s m args below meth c ls hsz hargs hnm C hP hS hl => ?_)
  subst hsz
  have hx := C.1
  have hb := C.2.1
  have hl : lv_has ls 4 [(0, .ref a), (1, .long p0)] := hl
  unfold s_X9_registerNamed at hf
  refine lv_iconst (v := 0) hx hb dX9_registerNamed_0 rfl ?_
  refine lv_istore_n (lv' := [(3, .int 0), (0, .ref a), (1, .long p0)]) hx hb dX9_registerNamed_1 rfl hl (by decide) rfl (fun ls hl => ?_)
  exact b_X9_registerNamed_2 C F a p0 0 h_a k_a S s.heap [] _ hf hP hS hW (lv_sub hl [1, 2, 0] rfl)
def s_X6_passRegister (N : Nat → Nat) (F : Nat) (a : Nat) (S : HS) : Option (Int32 × HS) :=
  bd1 (gR S 601 a) fun t1 =>
  bd1 (gR S 600 a) fun t2 =>
  bd1 (s_X9_registerNamed N F t1 (gJ S 805 t2) S) fun r3 =>
  bd2 (s_X6_passKnown N F a r3 S) fun r4 S5 =>
  some (r4, S5)
set_option maxRecDepth 100000 in
set_option maxHeartbeats 4000000 in
theorem c_X6_passRegister {l : Launch} {V : EV} {G : GS} {S : HS} {F : Nat} {a : Nat} {r : Int32} {S' : HS} (hN : G.1.Nodup) (hW : WT G S) (h_a : a ∈ G.1) (k_a : G.2.1 a = 6) (hf : s_X6_passRegister G.2.2 F a S = some (r, S')) : MetI l yX6_passRegister cX6_passRegister 1 .int 15 549 V G S [.ref a] r S' := by
  intro sz
  refine x_in RX6 rfl (by decide +kernel) hN (Nat.le_of_ble_eq_true rfl) (fun p e s m args below meth c ls hsz hargs hnm C hP hS hl => ?_)
  subst hsz
  have hx := C.1
  have hb := C.2.1
  have hl : lv_has ls 1 [(0, .ref a)] := hl
  unfold s_X6_passRegister at hf
  refine lv_aload_n hx hb dX6_passRegister_0 rfl (lv_at hl 0 rfl) ?_
  refine lv_aload_n hx hb dX6_passRegister_1 rfl (lv_at hl 0 rfl) ?_
  refine gf_X6_15 C hP h_a k_a dX6_passRegister_2 ?_
  obtain ⟨t1, et1, hf⟩ := bd1_e hf
  obtain ⟨h_t1, k_t1⟩ := wt_r hW h_a k_a (by decide) et1
  have k_t1 : G.2.1 t1 = 9 := k_t1
  rw [et1]
  refine lv_aload_n hx hb dX6_passRegister_5 rfl (lv_at hl 0 rfl) ?_
  refine gf_X6_9 C hP h_a k_a dX6_passRegister_6 ?_
  obtain ⟨t2, et2, hf⟩ := bd1_e hf
  obtain ⟨h_t2, k_t2⟩ := wt_r hW h_a k_a (by decide) et2
  have k_t2 : G.2.1 t2 = 8 := k_t2
  rw [et2]
  refine gf_X6_82 C hP h_t2 k_t2 dX6_passRegister_9 ?_
  obtain ⟨r3, er3, hf⟩ := bd1_e hf
  refine x_aft_i (x_runV (As := [.long (gJ S 805 t2)]) (rest := [.ref a]) C hP hS (c_X9_registerNamed (l := l) C.2.2.2.2.2.2.2.2.2.1 hW h_t1 k_t1 er3 s.heap.size) h_t1 k_t1 (by decide) rfl rfl km_X9_registerNamed ki_X9_registerNamed qm_X6_86 ⟨(Nat.le_of_ble_eq_true rfl), (Nat.le_of_ble_eq_true rfl)⟩ rfl hl.1 rfl (Nat.le_of_ble_eq_true rfl) ⟨Nat.zero_le _, Nat.zero_le _⟩ dX6_passRegister_12) hS (fun H locs hP hS hW => ?_)
  obtain ⟨r4, S5, eS5, hf⟩ := bd2_e hf
  refine x_aft_i (x_runV (As := [.int r3]) (rest := []) C hP hS (c_X6_passKnown (l := l) C.2.2.2.2.2.2.2.2.2.1 hW h_a k_a eS5 H.size) h_a k_a (by decide) rfl rfl km_X6_passKnown ki_X6_passKnown qm_X6_92 ⟨(Nat.le_of_ble_eq_true rfl), (Nat.le_of_ble_eq_true rfl)⟩ rfl hl.1 rfl (Nat.le_of_ble_eq_true rfl) ⟨Nat.zero_le _, Nat.zero_le _⟩ dX6_passRegister_15) hS (fun H locs hP hS hW => ?_)
  cases hf
  exact x_reti C hP hS hW dX6_passRegister_18
def s_X8_begin (N : Nat → Nat) (F : Nat) (a : Nat) (S : HS) : Option HS :=
  bnd (uI S 807 a 0) fun S1 =>
  bd1 (s_X8_readFrom N F a 0 S1) fun S2 =>
  some S2
set_option maxRecDepth 100000 in
set_option maxHeartbeats 4000000 in
theorem c_X8_begin {l : Launch} {V : EV} {G : GS} {S : HS} {F : Nat} {a : Nat} {S' : HS} (hN : G.1.Nodup) (hW : WT G S) (h_a : a ∈ G.1) (k_a : G.2.1 a = 8) (hf : s_X8_begin G.2.2 F a S = some S') : MetV l yX8_begin cX8_begin 1 14 518 V G S [.ref a] S' := by
  intro sz
  refine x_in RX8 rfl (by decide +kernel) hN (Nat.le_of_ble_eq_true rfl) (fun p e s m args below meth c ls hsz hargs hnm C hP hS hl => ?_)
  subst hsz
  have hx := C.1
  have hb := C.2.1
  have hl : lv_has ls 1 [(0, .ref a)] := hl
  unfold s_X8_begin at hf
  refine lv_aload_n hx hb dX8_begin_0 rfl (lv_at hl 0 rfl) ?_
  refine lv_iconst (v := 0) hx hb dX8_begin_1 rfl ?_
  obtain ⟨S1, eS1, hf⟩ := bnd_e hf
  refine pf_X8_19 C hP hS h_a k_a eS1 dX8_begin_2 (fun H locs hP hS => ?_)
  have hW : WT G S1 := by rw [eS1]; exact hW
  refine lv_aload_n hx hb dX8_begin_5 rfl (lv_at hl 0 rfl) ?_
  refine lv_iconst (v := 0) hx hb dX8_begin_6 rfl ?_
  obtain ⟨S2, eS2, hf⟩ := bd1_e hf
  refine x_aft_v (x_runV (As := [.int 0]) (rest := []) C hP hS (c_X8_readFrom (l := l) C.2.2.2.2.2.2.2.2.2.1 hW h_a k_a eS2 H.size) h_a k_a (by decide) rfl rfl km_X8_readFrom ki_X8_readFrom qm_X8_22 ⟨(Nat.le_of_ble_eq_true rfl), (Nat.le_of_ble_eq_true rfl)⟩ rfl hl.1 rfl (Nat.le_of_ble_eq_true rfl) ⟨Nat.zero_le _, Nat.zero_le _⟩ dX8_begin_7) hS (fun H locs hP hS hW => ?_)
  cases hf
  exact x_retv C hP hS hW dX8_begin_10
def s_X8_goesOn (a : Nat) (S : HS) : Int32 :=
  if (gI S 807 a) = (0 : Int32) then
  if (gI S 802 a) = (0 : Int32) then
  0
  else
  1
  else
  0
set_option maxRecDepth 100000 in
set_option maxHeartbeats 4000000 in
theorem c_X8_goesOn {l : Launch} {V : EV} {G : GS} {S : HS} {a : Nat} {r : Int32} (hN : G.1.Nodup) (hW : WT G S) (h_a : a ∈ G.1) (k_a : G.2.1 a = 8) (hf : s_X8_goesOn a S = r) : MetZ l yX8_goesOn cX8_goesOn 1 0 0 V G S [.ref a] r S := by
  intro sz
  refine x_in RX8 rfl (by decide +kernel) hN (Nat.le_of_ble_eq_true rfl) (fun p e s m args below meth c ls hsz hargs hnm C hP hS hl => ?_)
  subst hsz
  have hx := C.1
  have hb := C.2.1
  have hl : lv_has ls 1 [(0, .ref a)] := hl
  unfold s_X8_goesOn at hf
  refine lv_aload_n hx hb dX8_goesOn_0 rfl (lv_at hl 0 rfl) ?_
  refine gf_X8_19 C hP h_a k_a dX8_goesOn_1 ?_
  refine lv_if_ne (tgt := 18) hx hb dX8_goesOn_4 (by decide) (fun c1 => ?_) (fun c1 => ?_)
  · have hf := if_f c1 hf
    refine lv_iconst (v := 0) hx hb dX8_goesOn_18 rfl ?_
    cases hf
    exact x_retZ C hP hS hW isZ_0 dX8_goesOn_19
  · have hf := if_t c1 hf
    refine lv_aload_n hx hb dX8_goesOn_7 rfl (lv_at hl 0 rfl) ?_
    refine gf_X8_39 C hP h_a k_a dX8_goesOn_8 ?_
    refine lv_if_eq (tgt := 18) hx hb dX8_goesOn_11 (by decide) (fun c2 => ?_) (fun c2 => ?_)
    · have hf := if_t c2 hf
      refine lv_iconst (v := 0) hx hb dX8_goesOn_18 rfl ?_
      cases hf
      exact x_retZ C hP hS hW isZ_0 dX8_goesOn_19
    · have hf := if_f c2 hf
      refine lv_iconst (v := 1) hx hb dX8_goesOn_14 rfl ?_
      refine lv_goto (tgt := 19) hx hb dX8_goesOn_15 (by decide) ?_
      cases hf
      exact x_retZ C hP hS hW isZ_1 dX8_goesOn_19
def s_X8_passNumber_J15 (N : Nat → Nat) (F : Nat) (v0 : Nat) (v1 : Int32) (S : HS) : Option (Int32 × HS) :=
  bnd (s_X8_blame v0 1 S) fun S3 =>
  some (v1, S3)
def s_X8_passNumber_J37 (N : Nat → Nat) (F : Nat) (v0 : Nat) (v1 : Int32) (S : HS) : Option (Int32 × HS) :=
  bnd (s_X8_blame v0 4 S) fun S7 =>
  some (v1, S7)
def s_X8_passNumber (N : Nat → Nat) (F : Nat) (a : Nat) (p0 : Int32) (p1 : Int32) (S : HS) : Option (Int32 × HS) :=
  if (s_X8_isRight a S) = (0 : Int32) then
  s_X8_passNumber_J15 N F a p0 S
  else
  if (gI S 802 a) = (2 : Int32) then
  bnd (gI S 806 a : Int32) fun x5 =>
  if x5 < p0 then
  s_X8_passNumber_J37 N F a p0 S
  else
  if x5 ≤ p1 then
  bd1 (s_X8_advance N F a S) fun S9 =>
  some (x5, S9)
  else
  s_X8_passNumber_J37 N F a p0 S
  else
  s_X8_passNumber_J15 N F a p0 S
set_option maxRecDepth 100000 in
set_option maxHeartbeats 4000000 in
theorem b_X8_passNumber_15 {p : Program} {l : Launch} {e : Env} {s : State} {m : MethodId} {args : Array Value} {below : List Frame} {meth : Method} {c : Code} {V : EV} {G : GS} {r : Int32} {S' : HS} {F : Nat} (C : CX p s m args meth c RX8 cX8_passNumber 4 (some .int) V G) : ∀ (v0 : Nat) (v1 : Int32) (h_v0 : v0 ∈ G.1) (k_v0 : G.2.1 v0 = 8) (S : HS) (H : Heap) (locs : List Loc) (ls : Array Slot), s_X8_passNumber_J15 G.2.2 F v0 v1 S = some (r, S') → HP V G S H → va_S (AG G s.heap.size) s.heap H locs → WT G S → lv_has ls 4 [(0, .ref v0), (1, .int v1)] → W p l e (RM 13 489) s m args below meth c H locs 0 0 (MQ below (QI V G S' r s.heap.size) args s 0 0 (AG G s.heap.size)) (F0 m 15 ls []) := by
  intro v0 v1 h_v0 k_v0 S H locs ls hf hP hS hW hl
  have hx := C.1
  have hb := C.2.1
  unfold s_X8_passNumber_J15 at hf
  refine lv_aload_n hx hb dX8_passNumber_15 rfl (lv_at hl 0 rfl) ?_
  refine lv_iconst (v := 1) hx hb dX8_passNumber_16 rfl ?_
  obtain ⟨S3, eS3, hf⟩ := bnd_e hf
  refine x_aft_v (x_runV (As := [.int 1]) (rest := []) C hP hS (c_X8_blame (l := l) C.2.2.2.2.2.2.2.2.2.1 hW h_v0 k_v0 eS3.symm H.size) h_v0 k_v0 (by decide) rfl rfl km_X8_blame ki_X8_blame qm_X8_129 ⟨(Nat.le_of_ble_eq_true rfl), (Nat.le_of_ble_eq_true rfl)⟩ rfl hl.1 rfl (Nat.le_of_ble_eq_true rfl) ⟨Nat.zero_le _, Nat.zero_le _⟩ dX8_passNumber_17) hS (fun H locs hP hS hW => ?_)
  refine lv_iload_n hx hb dX8_passNumber_20 rfl (lv_at hl 1 rfl) ?_
  cases hf
  exact x_reti C hP hS hW dX8_passNumber_21
set_option maxRecDepth 100000 in
set_option maxHeartbeats 4000000 in
theorem b_X8_passNumber_37 {p : Program} {l : Launch} {e : Env} {s : State} {m : MethodId} {args : Array Value} {below : List Frame} {meth : Method} {c : Code} {V : EV} {G : GS} {r : Int32} {S' : HS} {F : Nat} (C : CX p s m args meth c RX8 cX8_passNumber 4 (some .int) V G) : ∀ (v0 : Nat) (v1 : Int32) (h_v0 : v0 ∈ G.1) (k_v0 : G.2.1 v0 = 8) (S : HS) (H : Heap) (locs : List Loc) (ls : Array Slot), s_X8_passNumber_J37 G.2.2 F v0 v1 S = some (r, S') → HP V G S H → va_S (AG G s.heap.size) s.heap H locs → WT G S → lv_has ls 4 [(0, .ref v0), (1, .int v1)] → W p l e (RM 13 489) s m args below meth c H locs 0 0 (MQ below (QI V G S' r s.heap.size) args s 0 0 (AG G s.heap.size)) (F0 m 37 ls []) := by
  intro v0 v1 h_v0 k_v0 S H locs ls hf hP hS hW hl
  have hx := C.1
  have hb := C.2.1
  unfold s_X8_passNumber_J37 at hf
  refine lv_aload_n hx hb dX8_passNumber_37 rfl (lv_at hl 0 rfl) ?_
  refine lv_iconst (v := 4) hx hb dX8_passNumber_38 rfl ?_
  obtain ⟨S7, eS7, hf⟩ := bnd_e hf
  refine x_aft_v (x_runV (As := [.int 4]) (rest := []) C hP hS (c_X8_blame (l := l) C.2.2.2.2.2.2.2.2.2.1 hW h_v0 k_v0 eS7.symm H.size) h_v0 k_v0 (by decide) rfl rfl km_X8_blame ki_X8_blame qm_X8_129 ⟨(Nat.le_of_ble_eq_true rfl), (Nat.le_of_ble_eq_true rfl)⟩ rfl hl.1 rfl (Nat.le_of_ble_eq_true rfl) ⟨Nat.zero_le _, Nat.zero_le _⟩ dX8_passNumber_39) hS (fun H locs hP hS hW => ?_)
  refine lv_iload_n hx hb dX8_passNumber_42 rfl (lv_at hl 1 rfl) ?_
  cases hf
  exact x_reti C hP hS hW dX8_passNumber_43
set_option maxRecDepth 100000 in
set_option maxHeartbeats 4000000 in
theorem c_X8_passNumber {l : Launch} {V : EV} {G : GS} {S : HS} {F : Nat} {a : Nat} {p0 : Int32} {p1 : Int32} {r : Int32} {S' : HS} (hN : G.1.Nodup) (hW : WT G S) (h_a : a ∈ G.1) (k_a : G.2.1 a = 8) (hf : s_X8_passNumber G.2.2 F a p0 p1 S = some (r, S')) : MetI l yX8_passNumber cX8_passNumber 4 .int 13 489 V G S [.ref a, .int p0, .int p1] r S' := by
  intro sz
  refine x_in RX8 rfl (by decide +kernel) hN (Nat.le_of_ble_eq_true rfl) (fun p e s m args below meth c ls hsz hargs hnm C hP hS hl => ?_)
  subst hsz
  have hx := C.1
  have hb := C.2.1
  have hl : lv_has ls 4 [(0, .ref a), (1, .int p0), (2, .int p1)] := hl
  unfold s_X8_passNumber at hf
  refine lv_aload_n hx hb dX8_passNumber_0 rfl (lv_at hl 0 rfl) ?_
  refine x_aft_z (x_runV (As := []) (rest := []) C hP hS (c_X8_isRight (l := l) C.2.2.2.2.2.2.2.2.2.1 hW h_a k_a rfl s.heap.size) h_a k_a (by decide) rfl rfl km_X8_isRight ki_X8_isRight qm_X8_126 ⟨(Nat.le_of_ble_eq_true rfl), (Nat.le_of_ble_eq_true rfl)⟩ rfl hl.1 rfl (Nat.le_of_ble_eq_true rfl) ⟨Nat.zero_le _, Nat.zero_le _⟩ dX8_passNumber_1) hS (fun H locs hP hS hW z1 => ?_)
  refine lv_if_eq (tgt := 15) hx hb dX8_passNumber_4 (by decide) (fun c2 => ?_) (fun c2 => ?_)
  · have hf := if_t c2 hf
    exact b_X8_passNumber_15 C a p0 h_a k_a S H locs _ hf hP hS hW (lv_sub hl [0, 1] rfl)
  · have hf := if_f c2 hf
    refine lv_aload_n hx hb dX8_passNumber_7 rfl (lv_at hl 0 rfl) ?_
    refine gf_X8_39 C hP h_a k_a dX8_passNumber_8 ?_
    refine lv_iconst (v := 2) hx hb dX8_passNumber_11 rfl ?_
    refine lv_icmp_eq (tgt := 22) hx hb dX8_passNumber_12 (by decide) (fun c4 => ?_) (fun c4 => ?_)
    · have hf := if_t c4 hf
      refine lv_aload_n hx hb dX8_passNumber_22 rfl (lv_at hl 0 rfl) ?_
      refine gf_X8_65 C hP h_a k_a dX8_passNumber_23 ?_
      obtain ⟨x5, ex5, hf⟩ := bnd_e hf
      refine nm_i ex5 ?_
      refine lv_istore_n (lv' := [(3, .int x5), (0, .ref a), (1, .int p0), (2, .int p1)]) hx hb dX8_passNumber_26 rfl hl (by decide) rfl (fun ls hl => ?_)
      refine lv_iload_n hx hb dX8_passNumber_27 rfl (lv_at hl 0 rfl) ?_
      refine lv_iload_n hx hb dX8_passNumber_28 rfl (lv_at hl 2 rfl) ?_
      refine lv_icmp_lt (tgt := 37) hx hb dX8_passNumber_29 (by decide) (fun c6 => ?_) (fun c6 => ?_)
      · have hf := if_t c6 hf
        exact b_X8_passNumber_37 C a p0 h_a k_a S H locs _ hf hP hS hW (lv_sub hl [1, 2] rfl)
      · have hf := if_f c6 hf
        refine lv_iload_n hx hb dX8_passNumber_32 rfl (lv_at hl 0 rfl) ?_
        refine lv_iload_n hx hb dX8_passNumber_33 rfl (lv_at hl 3 rfl) ?_
        refine lv_icmp_le (tgt := 44) hx hb dX8_passNumber_34 (by decide) (fun c8 => ?_) (fun c8 => ?_)
        · have hf := if_t c8 hf
          refine lv_aload_n hx hb dX8_passNumber_44 rfl (lv_at hl 1 rfl) ?_
          obtain ⟨S9, eS9, hf⟩ := bd1_e hf
          refine x_aft_v (x_runV (As := []) (rest := []) C hP hS (c_X8_advance (l := l) C.2.2.2.2.2.2.2.2.2.1 hW h_a k_a eS9 H.size) h_a k_a (by decide) rfl rfl km_X8_advance ki_X8_advance qm_X8_29 ⟨(Nat.le_of_ble_eq_true rfl), (Nat.le_of_ble_eq_true rfl)⟩ rfl hl.1 rfl (Nat.le_of_ble_eq_true rfl) ⟨Nat.zero_le _, Nat.zero_le _⟩ dX8_passNumber_45) hS (fun H locs hP hS hW => ?_)
          refine lv_iload_n hx hb dX8_passNumber_48 rfl (lv_at hl 0 rfl) ?_
          cases hf
          exact x_reti C hP hS hW dX8_passNumber_49
        · have hf := if_f c8 hf
          exact b_X8_passNumber_37 C a p0 h_a k_a S H locs _ hf hP hS hW (lv_sub hl [1, 2] rfl)
    · have hf := if_f c4 hf
      exact b_X8_passNumber_15 C a p0 h_a k_a S H locs _ hf hP hS hW (lv_sub hl [0, 1] rfl)
def s_X8_passSign_J22 (N : Nat → Nat) (F : Nat) (v0 : Nat) (S : HS) : Option HS :=
  bnd (s_X8_blame v0 1 S) fun S3 =>
  some S3
def s_X8_passSign (N : Nat → Nat) (F : Nat) (a : Nat) (p0 : Int32) (S : HS) : Option HS :=
  if (s_X8_isRight a S) = (0 : Int32) then
  s_X8_passSign_J22 N F a S
  else
  if (gI S 802 a) = p0 then
  bd1 (s_X8_advance N F a S) fun S5 =>
  some S5
  else
  s_X8_passSign_J22 N F a S
set_option maxRecDepth 100000 in
set_option maxHeartbeats 4000000 in
theorem b_X8_passSign_22 {p : Program} {l : Launch} {e : Env} {s : State} {m : MethodId} {args : Array Value} {below : List Frame} {meth : Method} {c : Code} {V : EV} {G : GS} {S' : HS} {F : Nat} (C : CX p s m args meth c RX8 cX8_passSign 2 none V G) : ∀ (v0 : Nat) (h_v0 : v0 ∈ G.1) (k_v0 : G.2.1 v0 = 8) (S : HS) (H : Heap) (locs : List Loc) (ls : Array Slot), s_X8_passSign_J22 G.2.2 F v0 S = some S' → HP V G S H → va_S (AG G s.heap.size) s.heap H locs → WT G S → lv_has ls 2 [(0, .ref v0)] → W p l e (RM 13 489) s m args below meth c H locs 0 0 (MQ below (QV V G S' s.heap.size) args s 0 0 (AG G s.heap.size)) (F0 m 22 ls []) := by
  intro v0 h_v0 k_v0 S H locs ls hf hP hS hW hl
  have hx := C.1
  have hb := C.2.1
  unfold s_X8_passSign_J22 at hf
  refine lv_aload_n hx hb dX8_passSign_22 rfl (lv_at hl 0 rfl) ?_
  refine lv_iconst (v := 1) hx hb dX8_passSign_23 rfl ?_
  obtain ⟨S3, eS3, hf⟩ := bnd_e hf
  refine x_aft_v (x_runV (As := [.int 1]) (rest := []) C hP hS (c_X8_blame (l := l) C.2.2.2.2.2.2.2.2.2.1 hW h_v0 k_v0 eS3.symm H.size) h_v0 k_v0 (by decide) rfl rfl km_X8_blame ki_X8_blame qm_X8_129 ⟨(Nat.le_of_ble_eq_true rfl), (Nat.le_of_ble_eq_true rfl)⟩ rfl hl.1 rfl (Nat.le_of_ble_eq_true rfl) ⟨Nat.zero_le _, Nat.zero_le _⟩ dX8_passSign_24) hS (fun H locs hP hS hW => ?_)
  cases hf
  exact x_retv C hP hS hW dX8_passSign_27
set_option maxRecDepth 100000 in
set_option maxHeartbeats 4000000 in
theorem c_X8_passSign {l : Launch} {V : EV} {G : GS} {S : HS} {F : Nat} {a : Nat} {p0 : Int32} {S' : HS} (hN : G.1.Nodup) (hW : WT G S) (h_a : a ∈ G.1) (k_a : G.2.1 a = 8) (hf : s_X8_passSign G.2.2 F a p0 S = some S') : MetV l yX8_passSign cX8_passSign 2 13 489 V G S [.ref a, .int p0] S' := by
  intro sz
  refine x_in RX8 rfl (by decide +kernel) hN (Nat.le_of_ble_eq_true rfl) (fun p e s m args below meth c ls hsz hargs hnm C hP hS hl => ?_)
  subst hsz
  have hx := C.1
  have hb := C.2.1
  have hl : lv_has ls 2 [(0, .ref a), (1, .int p0)] := hl
  unfold s_X8_passSign at hf
  refine lv_aload_n hx hb dX8_passSign_0 rfl (lv_at hl 0 rfl) ?_
  refine x_aft_z (x_runV (As := []) (rest := []) C hP hS (c_X8_isRight (l := l) C.2.2.2.2.2.2.2.2.2.1 hW h_a k_a rfl s.heap.size) h_a k_a (by decide) rfl rfl km_X8_isRight ki_X8_isRight qm_X8_126 ⟨(Nat.le_of_ble_eq_true rfl), (Nat.le_of_ble_eq_true rfl)⟩ rfl hl.1 rfl (Nat.le_of_ble_eq_true rfl) ⟨Nat.zero_le _, Nat.zero_le _⟩ dX8_passSign_1) hS (fun H locs hP hS hW z1 => ?_)
  refine lv_if_eq (tgt := 22) hx hb dX8_passSign_4 (by decide) (fun c2 => ?_) (fun c2 => ?_)
  · have hf := if_t c2 hf
    exact b_X8_passSign_22 C a h_a k_a S H locs _ hf hP hS hW (lv_sub hl [0] rfl)
  · have hf := if_f c2 hf
    refine lv_aload_n hx hb dX8_passSign_7 rfl (lv_at hl 0 rfl) ?_
    refine gf_X8_39 C hP h_a k_a dX8_passSign_8 ?_
    refine lv_iload_n hx hb dX8_passSign_11 rfl (lv_at hl 1 rfl) ?_
    refine lv_icmp_ne (tgt := 22) hx hb dX8_passSign_12 (by decide) (fun c4 => ?_) (fun c4 => ?_)
    · have hf := if_f c4 hf
      exact b_X8_passSign_22 C a h_a k_a S H locs _ hf hP hS hW (lv_sub hl [0] rfl)
    · have hf := if_t c4 hf
      refine lv_aload_n hx hb dX8_passSign_15 rfl (lv_at hl 0 rfl) ?_
      obtain ⟨S5, eS5, hf⟩ := bd1_e hf
      refine x_aft_v (x_runV (As := []) (rest := []) C hP hS (c_X8_advance (l := l) C.2.2.2.2.2.2.2.2.2.1 hW h_a k_a eS5 H.size) h_a k_a (by decide) rfl rfl km_X8_advance ki_X8_advance qm_X8_29 ⟨(Nat.le_of_ble_eq_true rfl), (Nat.le_of_ble_eq_true rfl)⟩ rfl hl.1 rfl (Nat.le_of_ble_eq_true rfl) ⟨Nat.zero_le _, Nat.zero_le _⟩ dX8_passSign_16) hS (fun H locs hP hS hW => ?_)
      refine lv_goto (tgt := 27) hx hb dX8_passSign_19 (by decide) ?_
      cases hf
      exact x_retv C hP hS hW dX8_passSign_27
def s_X6_readLine_J130 (N : Nat → Nat) (F : Nat) (v0 : Nat) (S : HS) : Option HS :=
  bd1 (gR S 600 v0) fun t12 =>
  bd1 (s_X8_passSign N F t12 59 S) fun S13 =>
  bd1 (gR S13 602 v0) fun t14 =>
  bnd (uI S13 501 t14 ((gI S13 501 t14) + 1)) fun S15 =>
  some S15
def s_X6_readLine_L62 (N : Nat → Nat) (F : Nat) (k85 : Nat → HS → Option HS) : Nat → Nat → Int32 → HS → Option HS
  | 0, _, _, _ => none
  | n + 1, v0, v2, S => if (4 : Int32) < v2 then
  k85 v0 S
  else
  bd1 (gR S 602 v0) fun t26 =>
  bd2 (s_X6_passRegister N F v0 S) fun r27 S28 =>
  bd1 (s_X5_put N t26 v2 r27 S28) fun S29 =>
  bnd (v2 + Int32.ofInt 1 : Int32) fun x30 =>
  s_X6_readLine_L62 N F k85 n v0 x30 S29
def s_X6_readLine_J85 (N : Nat → Nat) (F : Nat) (v0 : Nat) (S : HS) : Option HS :=
  s_X6_readLine_J130 N F v0 S
def s_X6_readLine (N : Nat → Nat) (F : Nat) (a : Nat) (S : HS) : Option HS :=
  bd1 (s_X6_lineWord F a S) fun r1 =>
  if r1 = (-1 : Int32) then
  bd1 (gR S 600 a) fun t33 =>
  bnd (s_X8_blame t33 1 S) fun S34 =>
  some S34
  else
  bd1 (gR S 602 a) fun t3 =>
  if (gI S 501 t3) = (30 : Int32) then
  bd1 (gR S 600 a) fun t31 =>
  bnd (s_X8_blame t31 5 S) fun S32 =>
  some S32
  else
  bd1 (gR S 600 a) fun t5 =>
  bd1 (s_X8_advance N F t5 S) fun S6 =>
  bd1 (gR S6 602 a) fun t7 =>
  bd1 (s_X5_put N t7 0 r1 S6) fun S8 =>
  if r1 = (0 : Int32) then
  s_X6_readLine_L62 N F (s_X6_readLine_J85 N F) F a 1 S8
  else
  if r1 = (1 : Int32) then
  bd1 (gR S8 602 a) fun t20 =>
  bd1 (gR S8 600 a) fun t21 =>
  bd2 (s_X8_passNumber N F t21 0 5 S8) fun r22 S23 =>
  bd1 (s_X5_put N t20 1 r22 S23) fun S24 =>
  s_X6_readLine_J130 N F a S24
  else
  if r1 = (3 : Int32) then
  bd1 (gR S8 602 a) fun t16 =>
  bd2 (s_X6_passForm N F a S8) fun r17 S18 =>
  bd1 (s_X5_put N t16 1 r17 S18) fun S19 =>
  s_X6_readLine_J130 N F a S19
  else
  s_X6_readLine_J130 N F a S8
set_option maxRecDepth 100000 in
set_option maxHeartbeats 4000000 in
theorem b_X6_readLine_130 {p : Program} {l : Launch} {e : Env} {s : State} {m : MethodId} {args : Array Value} {below : List Frame} {meth : Method} {c : Code} {V : EV} {G : GS} {S' : HS} {F : Nat} (C : CX p s m args meth c RX6 cX6_readLine 3 none V G) : ∀ (v0 : Nat) (h_v0 : v0 ∈ G.1) (k_v0 : G.2.1 v0 = 6) (S : HS) (H : Heap) (locs : List Loc) (ls : Array Slot), s_X6_readLine_J130 G.2.2 F v0 S = some S' → HP V G S H → va_S (AG G s.heap.size) s.heap H locs → WT G S → lv_has ls 3 [(0, .ref v0)] → W p l e (RM 16 577) s m args below meth c H locs 0 0 (MQ below (QV V G S' s.heap.size) args s 0 0 (AG G s.heap.size)) (F0 m 130 ls []) := by
  intro v0 h_v0 k_v0 S H locs ls hf hP hS hW hl
  have hx := C.1
  have hb := C.2.1
  unfold s_X6_readLine_J130 at hf
  refine lv_aload_n hx hb dX6_readLine_130 rfl (lv_at hl 0 rfl) ?_
  refine gf_X6_9 C hP h_v0 k_v0 dX6_readLine_131 ?_
  obtain ⟨t12, et12, hf⟩ := bd1_e hf
  obtain ⟨h_t12, k_t12⟩ := wt_r hW h_v0 k_v0 (by decide) et12
  have k_t12 : G.2.1 t12 = 8 := k_t12
  rw [et12]
  refine lv_bipush (v := 59) hx hb dX6_readLine_134 kc_bipush_59 ?_
  obtain ⟨S13, eS13, hf⟩ := bd1_e hf
  refine x_aft_v (x_runV (As := [.int 59]) (rest := []) C hP hS (c_X8_passSign (l := l) C.2.2.2.2.2.2.2.2.2.1 hW h_t12 k_t12 eS13 H.size) h_t12 k_t12 (by decide) rfl rfl km_X8_passSign ki_X8_passSign qm_X6_66 ⟨(Nat.le_of_ble_eq_true rfl), (Nat.le_of_ble_eq_true rfl)⟩ rfl hl.1 rfl (Nat.le_of_ble_eq_true rfl) ⟨Nat.zero_le _, Nat.zero_le _⟩ dX6_readLine_136) hS (fun H locs hP hS hW => ?_)
  refine lv_aload_n hx hb dX6_readLine_139 rfl (lv_at hl 0 rfl) ?_
  refine gf_X6_19 C hP h_v0 k_v0 dX6_readLine_140 ?_
  obtain ⟨t14, et14, hf⟩ := bd1_e hf
  obtain ⟨h_t14, k_t14⟩ := wt_r hW h_v0 k_v0 (by decide) et14
  have k_t14 : G.2.1 t14 = 5 := k_t14
  rw [et14]
  refine lv_dup hx hb dX6_readLine_143 rfl ?_
  refine gf_X6_43 C hP h_t14 k_t14 dX6_readLine_144 ?_
  refine lv_iconst (v := 1) hx hb dX6_readLine_147 rfl ?_
  refine lv_iadd hx hb dX6_readLine_148 ?_
  obtain ⟨S15, eS15, hf⟩ := bnd_e hf
  refine pf_X6_43 C hP hS h_t14 k_t14 eS15 dX6_readLine_149 (fun H locs hP hS => ?_)
  have hW : WT G S15 := by rw [eS15]; exact hW
  cases hf
  exact x_retv C hP hS hW dX6_readLine_152
set_option maxRecDepth 100000 in
set_option maxHeartbeats 4000000 in
theorem b_X6_readLine_62 {p : Program} {l : Launch} {e : Env} {s : State} {m : MethodId} {args : Array Value} {below : List Frame} {meth : Method} {c : Code} {V : EV} {G : GS} {S' : HS} {F : Nat} (C : CX p s m args meth c RX6 cX6_readLine 3 none V G) {k85 : Nat → HS → Option HS} (hk85 : ∀ (v0 : Nat) (h_v0 : v0 ∈ G.1) (k_v0 : G.2.1 v0 = 6) (S : HS) (H : Heap) (locs : List Loc) (ls : Array Slot), k85 v0 S = some S' → HP V G S H → va_S (AG G s.heap.size) s.heap H locs → WT G S → lv_has ls 3 [(0, .ref v0)] → W p l e (RM 16 577) s m args below meth c H locs 0 0 (MQ below (QV V G S' s.heap.size) args s 0 0 (AG G s.heap.size)) (F0 m 85 ls [])) : ∀ n : Nat, ∀ (v0 : Nat) (v2 : Int32) (h_v0 : v0 ∈ G.1) (k_v0 : G.2.1 v0 = 6) (S : HS) (H : Heap) (locs : List Loc) (ls : Array Slot), s_X6_readLine_L62 G.2.2 F k85 n v0 v2 S = some S' → HP V G S H → va_S (AG G s.heap.size) s.heap H locs → WT G S → lv_has ls 3 [(0, .ref v0), (2, .int v2)] → W p l e (RM 16 577) s m args below meth c H locs 0 0 (MQ below (QV V G S' s.heap.size) args s 0 0 (AG G s.heap.size)) (F0 m 62 ls []) := by
  intro n
  induction n with
  | zero =>
    intro v0 v2 h_v0 k_v0 S H locs ls hf
    rw [s_X6_readLine_L62] at hf
    cases hf
  | succ n ih =>
    intro v0 v2 h_v0 k_v0 S H locs ls hf hP hS hW hl
    have hx := C.1
    have hb := C.2.1
    rw [s_X6_readLine_L62] at hf
    refine lv_iload_n hx hb dX6_readLine_62 rfl (lv_at hl 1 rfl) ?_
    refine lv_iconst (v := 4) hx hb dX6_readLine_63 rfl ?_
    refine lv_icmp_gt (tgt := 85) hx hb dX6_readLine_64 (by decide) (fun c25 => ?_) (fun c25 => ?_)
    · have hf := if_t c25 hf
      exact hk85 v0 h_v0 k_v0 S H locs _ hf hP hS hW (lv_sub hl [0] rfl)
    · have hf := if_f c25 hf
      refine lv_aload_n hx hb dX6_readLine_67 rfl (lv_at hl 0 rfl) ?_
      refine gf_X6_19 C hP h_v0 k_v0 dX6_readLine_68 ?_
      obtain ⟨t26, et26, hf⟩ := bd1_e hf
      obtain ⟨h_t26, k_t26⟩ := wt_r hW h_v0 k_v0 (by decide) et26
      have k_t26 : G.2.1 t26 = 5 := k_t26
      rw [et26]
      refine lv_iload_n hx hb dX6_readLine_71 rfl (lv_at hl 1 rfl) ?_
      refine lv_aload_n hx hb dX6_readLine_72 rfl (lv_at hl 0 rfl) ?_
      obtain ⟨r27, S28, eS28, hf⟩ := bd2_e hf
      refine x_aft_i (x_runV (As := []) (rest := [.int v2, .ref t26]) C hP hS (c_X6_passRegister (l := l) C.2.2.2.2.2.2.2.2.2.1 hW h_v0 k_v0 eS28 H.size) h_v0 k_v0 (by decide) rfl rfl km_X6_passRegister ki_X6_passRegister qm_X6_56 ⟨(Nat.le_of_ble_eq_true rfl), (Nat.le_of_ble_eq_true rfl)⟩ rfl hl.1 rfl (Nat.le_of_ble_eq_true rfl) ⟨Nat.zero_le _, Nat.zero_le _⟩ dX6_readLine_73) hS (fun H locs hP hS hW => ?_)
      obtain ⟨S29, eS29, hf⟩ := bd1_e hf
      refine x_aft_v (x_runV (As := [.int v2, .int r27]) (rest := []) C hP hS (c_X5_put (l := l) C.2.2.2.2.2.2.2.2.2.1 hW h_t26 k_t26 eS29 H.size) h_t26 k_t26 (by decide) rfl rfl km_X5_put ki_X5_put qm_X6_52 ⟨(Nat.le_of_ble_eq_true rfl), (Nat.le_of_ble_eq_true rfl)⟩ rfl hl.1 rfl (Nat.le_of_ble_eq_true rfl) ⟨Nat.zero_le _, Nat.zero_le _⟩ dX6_readLine_76) hS (fun H locs hP hS hW => ?_)
      obtain ⟨x30, ex30, hf⟩ := bnd_e hf
      refine lv_iinc (v := x30) (lv' := [(2, .int x30), (0, .ref v0)]) hx hb dX6_readLine_79 hl (k := 1) rfl ex30.symm (by decide) rfl (fun ls hl => ?_)
      refine lv_goto (tgt := 62) hx hb dX6_readLine_82 (by decide) ?_
      exact ih v0 x30 h_v0 k_v0 S29 H locs _ hf hP hS hW (lv_sub hl [1, 0] rfl)
set_option maxRecDepth 100000 in
set_option maxHeartbeats 4000000 in
theorem b_X6_readLine_85 {p : Program} {l : Launch} {e : Env} {s : State} {m : MethodId} {args : Array Value} {below : List Frame} {meth : Method} {c : Code} {V : EV} {G : GS} {S' : HS} {F : Nat} (C : CX p s m args meth c RX6 cX6_readLine 3 none V G) : ∀ (v0 : Nat) (h_v0 : v0 ∈ G.1) (k_v0 : G.2.1 v0 = 6) (S : HS) (H : Heap) (locs : List Loc) (ls : Array Slot), s_X6_readLine_J85 G.2.2 F v0 S = some S' → HP V G S H → va_S (AG G s.heap.size) s.heap H locs → WT G S → lv_has ls 3 [(0, .ref v0)] → W p l e (RM 16 577) s m args below meth c H locs 0 0 (MQ below (QV V G S' s.heap.size) args s 0 0 (AG G s.heap.size)) (F0 m 85 ls []) := by
  intro v0 h_v0 k_v0 S H locs ls hf hP hS hW hl
  have hx := C.1
  have hb := C.2.1
  unfold s_X6_readLine_J85 at hf
  refine lv_goto (tgt := 130) hx hb dX6_readLine_85 (by decide) ?_
  exact b_X6_readLine_130 C v0 h_v0 k_v0 S H locs _ hf hP hS hW (lv_sub hl [0] rfl)
set_option maxRecDepth 100000 in
set_option maxHeartbeats 4000000 in
theorem c_X6_readLine {l : Launch} {V : EV} {G : GS} {S : HS} {F : Nat} {a : Nat} {S' : HS} (hN : G.1.Nodup) (hW : WT G S) (h_a : a ∈ G.1) (k_a : G.2.1 a = 6) (hf : s_X6_readLine G.2.2 F a S = some S') : MetV l yX6_readLine cX6_readLine 3 16 577 V G S [.ref a] S' := by
  intro sz
  refine x_in RX6 rfl (by decide +kernel) hN (Nat.le_of_ble_eq_true rfl) (fun p e s m args below meth c ls hsz hargs hnm C hP hS hl => ?_)
  subst hsz
  have hx := C.1
  have hb := C.2.1
  have hl : lv_has ls 3 [(0, .ref a)] := hl
  unfold s_X6_readLine at hf
  refine lv_aload_n hx hb dX6_readLine_0 rfl (lv_at hl 0 rfl) ?_
  obtain ⟨r1, er1, hf⟩ := bd1_e hf
  refine x_aft_i (x_runV (As := []) (rest := []) C hP hS (c_X6_lineWord (l := l) C.2.2.2.2.2.2.2.2.2.1 hW h_a k_a er1 s.heap.size) h_a k_a (by decide) rfl rfl km_X6_lineWord ki_X6_lineWord qm_X6_35 ⟨(Nat.le_of_ble_eq_true rfl), (Nat.le_of_ble_eq_true rfl)⟩ rfl hl.1 rfl (Nat.le_of_ble_eq_true rfl) ⟨Nat.zero_le _, Nat.zero_le _⟩ dX6_readLine_1) hS (fun H locs hP hS hW => ?_)
  refine lv_istore_n (lv' := [(1, .int r1), (0, .ref a)]) hx hb dX6_readLine_4 rfl hl (by decide) rfl (fun ls hl => ?_)
  refine lv_iload_n hx hb dX6_readLine_5 rfl (lv_at hl 0 rfl) ?_
  refine lv_iconst (v := (-1)) hx hb dX6_readLine_6 rfl ?_
  refine lv_icmp_ne (tgt := 19) hx hb dX6_readLine_7 (by decide) (fun c2 => ?_) (fun c2 => ?_)
  · have hf := if_f c2 hf
    refine lv_aload_n hx hb dX6_readLine_19 rfl (lv_at hl 1 rfl) ?_
    refine gf_X6_19 C hP h_a k_a dX6_readLine_20 ?_
    obtain ⟨t3, et3, hf⟩ := bd1_e hf
    obtain ⟨h_t3, k_t3⟩ := wt_r hW h_a k_a (by decide) et3
    have k_t3 : G.2.1 t3 = 5 := k_t3
    rw [et3]
    refine gf_X6_43 C hP h_t3 k_t3 dX6_readLine_23 ?_
    refine lv_bipush (v := 30) hx hb dX6_readLine_26 kc_bipush_30 ?_
    refine lv_icmp_ne (tgt := 40) hx hb dX6_readLine_28 (by decide) (fun c4 => ?_) (fun c4 => ?_)
    · have hf := if_f c4 hf
      refine lv_aload_n hx hb dX6_readLine_40 rfl (lv_at hl 1 rfl) ?_
      refine gf_X6_9 C hP h_a k_a dX6_readLine_41 ?_
      obtain ⟨t5, et5, hf⟩ := bd1_e hf
      obtain ⟨h_t5, k_t5⟩ := wt_r hW h_a k_a (by decide) et5
      have k_t5 : G.2.1 t5 = 8 := k_t5
      rw [et5]
      obtain ⟨S6, eS6, hf⟩ := bd1_e hf
      refine x_aft_v (x_runV (As := []) (rest := []) C hP hS (c_X8_advance (l := l) C.2.2.2.2.2.2.2.2.2.1 hW h_t5 k_t5 eS6 H.size) h_t5 k_t5 (by decide) rfl rfl km_X8_advance ki_X8_advance qm_X6_49 ⟨(Nat.le_of_ble_eq_true rfl), (Nat.le_of_ble_eq_true rfl)⟩ rfl hl.1 rfl (Nat.le_of_ble_eq_true rfl) ⟨Nat.zero_le _, Nat.zero_le _⟩ dX6_readLine_44) hS (fun H locs hP hS hW => ?_)
      refine lv_aload_n hx hb dX6_readLine_47 rfl (lv_at hl 1 rfl) ?_
      refine gf_X6_19 C hP h_a k_a dX6_readLine_48 ?_
      obtain ⟨t7, et7, hf⟩ := bd1_e hf
      obtain ⟨h_t7, k_t7⟩ := wt_r hW h_a k_a (by decide) et7
      have k_t7 : G.2.1 t7 = 5 := k_t7
      rw [et7]
      refine lv_iconst (v := 0) hx hb dX6_readLine_51 rfl ?_
      refine lv_iload_n hx hb dX6_readLine_52 rfl (lv_at hl 0 rfl) ?_
      obtain ⟨S8, eS8, hf⟩ := bd1_e hf
      refine x_aft_v (x_runV (As := [.int 0, .int r1]) (rest := []) C hP hS (c_X5_put (l := l) C.2.2.2.2.2.2.2.2.2.1 hW h_t7 k_t7 eS8 H.size) h_t7 k_t7 (by decide) rfl rfl km_X5_put ki_X5_put qm_X6_52 ⟨(Nat.le_of_ble_eq_true rfl), (Nat.le_of_ble_eq_true rfl)⟩ rfl hl.1 rfl (Nat.le_of_ble_eq_true rfl) ⟨Nat.zero_le _, Nat.zero_le _⟩ dX6_readLine_53) hS (fun H locs hP hS hW => ?_)
      refine lv_iload_n hx hb dX6_readLine_56 rfl (lv_at hl 0 rfl) ?_
      refine lv_if_ne (tgt := 88) hx hb dX6_readLine_57 (by decide) (fun c9 => ?_) (fun c9 => ?_)
      · have hf := if_f c9 hf
        refine lv_iload_n hx hb dX6_readLine_88 rfl (lv_at hl 0 rfl) ?_
        refine lv_iconst (v := 1) hx hb dX6_readLine_89 rfl ?_
        refine lv_icmp_ne (tgt := 113) hx hb dX6_readLine_90 (by decide) (fun c10 => ?_) (fun c10 => ?_)
        · have hf := if_f c10 hf
          refine lv_iload_n hx hb dX6_readLine_113 rfl (lv_at hl 0 rfl) ?_
          refine lv_iconst (v := 3) hx hb dX6_readLine_114 rfl ?_
          refine lv_icmp_ne (tgt := 130) hx hb dX6_readLine_115 (by decide) (fun c11 => ?_) (fun c11 => ?_)
          · have hf := if_f c11 hf
            exact b_X6_readLine_130 C a h_a k_a S8 H locs _ hf hP hS hW (lv_sub hl [1] rfl)
          · have hf := if_t c11 hf
            refine lv_aload_n hx hb dX6_readLine_118 rfl (lv_at hl 1 rfl) ?_
            refine gf_X6_19 C hP h_a k_a dX6_readLine_119 ?_
            obtain ⟨t16, et16, hf⟩ := bd1_e hf
            obtain ⟨h_t16, k_t16⟩ := wt_r hW h_a k_a (by decide) et16
            have k_t16 : G.2.1 t16 = 5 := k_t16
            rw [et16]
            refine lv_iconst (v := 1) hx hb dX6_readLine_122 rfl ?_
            refine lv_aload_n hx hb dX6_readLine_123 rfl (lv_at hl 1 rfl) ?_
            obtain ⟨r17, S18, eS18, hf⟩ := bd2_e hf
            refine x_aft_i (x_runV (As := []) (rest := [.int 1, .ref t16]) C hP hS (c_X6_passForm (l := l) C.2.2.2.2.2.2.2.2.2.1 hW h_a k_a eS18 H.size) h_a k_a (by decide) rfl rfl km_X6_passForm ki_X6_passForm qm_X6_63 ⟨(Nat.le_of_ble_eq_true rfl), (Nat.le_of_ble_eq_true rfl)⟩ rfl hl.1 rfl (Nat.le_of_ble_eq_true rfl) ⟨Nat.zero_le _, Nat.zero_le _⟩ dX6_readLine_124) hS (fun H locs hP hS hW => ?_)
            obtain ⟨S19, eS19, hf⟩ := bd1_e hf
            refine x_aft_v (x_runV (As := [.int 1, .int r17]) (rest := []) C hP hS (c_X5_put (l := l) C.2.2.2.2.2.2.2.2.2.1 hW h_t16 k_t16 eS19 H.size) h_t16 k_t16 (by decide) rfl rfl km_X5_put ki_X5_put qm_X6_52 ⟨(Nat.le_of_ble_eq_true rfl), (Nat.le_of_ble_eq_true rfl)⟩ rfl hl.1 rfl (Nat.le_of_ble_eq_true rfl) ⟨Nat.zero_le _, Nat.zero_le _⟩ dX6_readLine_127) hS (fun H locs hP hS hW => ?_)
            exact b_X6_readLine_130 C a h_a k_a S19 H locs _ hf hP hS hW (lv_sub hl [1] rfl)
        · have hf := if_t c10 hf
          refine lv_aload_n hx hb dX6_readLine_93 rfl (lv_at hl 1 rfl) ?_
          refine gf_X6_19 C hP h_a k_a dX6_readLine_94 ?_
          obtain ⟨t20, et20, hf⟩ := bd1_e hf
          obtain ⟨h_t20, k_t20⟩ := wt_r hW h_a k_a (by decide) et20
          have k_t20 : G.2.1 t20 = 5 := k_t20
          rw [et20]
          refine lv_iconst (v := 1) hx hb dX6_readLine_97 rfl ?_
          refine lv_aload_n hx hb dX6_readLine_98 rfl (lv_at hl 1 rfl) ?_
          refine gf_X6_9 C hP h_a k_a dX6_readLine_99 ?_
          obtain ⟨t21, et21, hf⟩ := bd1_e hf
          obtain ⟨h_t21, k_t21⟩ := wt_r hW h_a k_a (by decide) et21
          have k_t21 : G.2.1 t21 = 8 := k_t21
          rw [et21]
          refine lv_iconst (v := 0) hx hb dX6_readLine_102 rfl ?_
          refine lv_iconst (v := 5) hx hb dX6_readLine_103 rfl ?_
          obtain ⟨r22, S23, eS23, hf⟩ := bd2_e hf
          refine x_aft_i (x_runV (As := [.int 0, .int 5]) (rest := [.int 1, .ref t20]) C hP hS (c_X8_passNumber (l := l) C.2.2.2.2.2.2.2.2.2.1 hW h_t21 k_t21 eS23 H.size) h_t21 k_t21 (by decide) rfl rfl km_X8_passNumber ki_X8_passNumber qm_X6_59 ⟨(Nat.le_of_ble_eq_true rfl), (Nat.le_of_ble_eq_true rfl)⟩ rfl hl.1 rfl (Nat.le_of_ble_eq_true rfl) ⟨Nat.zero_le _, Nat.zero_le _⟩ dX6_readLine_104) hS (fun H locs hP hS hW => ?_)
          obtain ⟨S24, eS24, hf⟩ := bd1_e hf
          refine x_aft_v (x_runV (As := [.int 1, .int r22]) (rest := []) C hP hS (c_X5_put (l := l) C.2.2.2.2.2.2.2.2.2.1 hW h_t20 k_t20 eS24 H.size) h_t20 k_t20 (by decide) rfl rfl km_X5_put ki_X5_put qm_X6_52 ⟨(Nat.le_of_ble_eq_true rfl), (Nat.le_of_ble_eq_true rfl)⟩ rfl hl.1 rfl (Nat.le_of_ble_eq_true rfl) ⟨Nat.zero_le _, Nat.zero_le _⟩ dX6_readLine_107) hS (fun H locs hP hS hW => ?_)
          refine lv_goto (tgt := 130) hx hb dX6_readLine_110 (by decide) ?_
          exact b_X6_readLine_130 C a h_a k_a S24 H locs _ hf hP hS hW (lv_sub hl [1] rfl)
      · have hf := if_t c9 hf
        refine lv_iconst (v := 1) hx hb dX6_readLine_60 rfl ?_
        refine lv_istore_n (lv' := [(2, .int 1), (1, .int r1), (0, .ref a)]) hx hb dX6_readLine_61 rfl hl (by decide) rfl (fun ls hl => ?_)
        exact b_X6_readLine_62 C (b_X6_readLine_85 C) F a 1 h_a k_a S8 H locs _ hf hP hS hW (lv_sub hl [2, 0] rfl)
    · have hf := if_t c4 hf
      refine lv_aload_n hx hb dX6_readLine_31 rfl (lv_at hl 1 rfl) ?_
      refine gf_X6_9 C hP h_a k_a dX6_readLine_32 ?_
      obtain ⟨t31, et31, hf⟩ := bd1_e hf
      obtain ⟨h_t31, k_t31⟩ := wt_r hW h_a k_a (by decide) et31
      have k_t31 : G.2.1 t31 = 8 := k_t31
      rw [et31]
      refine lv_iconst (v := 5) hx hb dX6_readLine_35 rfl ?_
      obtain ⟨S32, eS32, hf⟩ := bnd_e hf
      refine x_aft_v (x_runV (As := [.int 5]) (rest := []) C hP hS (c_X8_blame (l := l) C.2.2.2.2.2.2.2.2.2.1 hW h_t31 k_t31 eS32.symm H.size) h_t31 k_t31 (by decide) rfl rfl km_X8_blame ki_X8_blame qm_X6_39 ⟨(Nat.le_of_ble_eq_true rfl), (Nat.le_of_ble_eq_true rfl)⟩ rfl hl.1 rfl (Nat.le_of_ble_eq_true rfl) ⟨Nat.zero_le _, Nat.zero_le _⟩ dX6_readLine_36) hS (fun H locs hP hS hW => ?_)
      cases hf
      exact x_retv C hP hS hW dX6_readLine_39
  · have hf := if_t c2 hf
    refine lv_aload_n hx hb dX6_readLine_10 rfl (lv_at hl 1 rfl) ?_
    refine gf_X6_9 C hP h_a k_a dX6_readLine_11 ?_
    obtain ⟨t33, et33, hf⟩ := bd1_e hf
    obtain ⟨h_t33, k_t33⟩ := wt_r hW h_a k_a (by decide) et33
    have k_t33 : G.2.1 t33 = 8 := k_t33
    rw [et33]
    refine lv_iconst (v := 1) hx hb dX6_readLine_14 rfl ?_
    obtain ⟨S34, eS34, hf⟩ := bnd_e hf
    refine x_aft_v (x_runV (As := [.int 1]) (rest := []) C hP hS (c_X8_blame (l := l) C.2.2.2.2.2.2.2.2.2.1 hW h_t33 k_t33 eS34.symm H.size) h_t33 k_t33 (by decide) rfl rfl km_X8_blame ki_X8_blame qm_X6_39 ⟨(Nat.le_of_ble_eq_true rfl), (Nat.le_of_ble_eq_true rfl)⟩ rfl hl.1 rfl (Nat.le_of_ble_eq_true rfl) ⟨Nat.zero_le _, Nat.zero_le _⟩ dX6_readLine_15) hS (fun H locs hP hS hW => ?_)
    cases hf
    exact x_retv C hP hS hW dX6_readLine_18
def s_X6_readAll_L9 (N : Nat → Nat) (F : Nat) : Nat → Nat → Int32 → HS → Option HS
  | 0, _, _, _ => none
  | n + 1, v0, v1, S => if (1000 : Int32) < v1 then
  some S
  else
  bd1 (gR S 600 v0) fun t4 =>
  if (s_X8_goesOn t4 S) = (0 : Int32) then
  some S
  else
  bd1 (s_X6_readLine N F v0 S) fun S7 =>
  bnd (v1 + Int32.ofInt 1 : Int32) fun x8 =>
  s_X6_readAll_L9 N F n v0 x8 S7
def s_X6_readAll (N : Nat → Nat) (F : Nat) (a : Nat) (S : HS) : Option HS :=
  bd1 (gR S 600 a) fun t1 =>
  bd1 (s_X8_begin N F t1 S) fun S2 =>
  s_X6_readAll_L9 N F F a 0 S2
set_option maxRecDepth 100000 in
set_option maxHeartbeats 4000000 in
theorem b_X6_readAll_9 {p : Program} {l : Launch} {e : Env} {s : State} {m : MethodId} {args : Array Value} {below : List Frame} {meth : Method} {c : Code} {V : EV} {G : GS} {S' : HS} {F : Nat} (C : CX p s m args meth c RX6 cX6_readAll 2 none V G) : ∀ n : Nat, ∀ (v0 : Nat) (v1 : Int32) (h_v0 : v0 ∈ G.1) (k_v0 : G.2.1 v0 = 6) (S : HS) (H : Heap) (locs : List Loc) (ls : Array Slot), s_X6_readAll_L9 G.2.2 F n v0 v1 S = some S' → HP V G S H → va_S (AG G s.heap.size) s.heap H locs → WT G S → lv_has ls 2 [(0, .ref v0), (1, .int v1)] → W p l e (RM 17 607) s m args below meth c H locs 0 0 (MQ below (QV V G S' s.heap.size) args s 0 0 (AG G s.heap.size)) (F0 m 9 ls []) := by
  intro n
  induction n with
  | zero =>
    intro v0 v1 h_v0 k_v0 S H locs ls hf
    rw [s_X6_readAll_L9] at hf
    cases hf
  | succ n ih =>
    intro v0 v1 h_v0 k_v0 S H locs ls hf hP hS hW hl
    have hx := C.1
    have hb := C.2.1
    rw [s_X6_readAll_L9] at hf
    refine lv_iload_n hx hb dX6_readAll_9 rfl (lv_at hl 1 rfl) ?_
    refine lv_sipush (v := 1000) hx hb dX6_readAll_10 kc_sipush_1000 ?_
    refine lv_icmp_gt (tgt := 36) hx hb dX6_readAll_13 (by decide) (fun c3 => ?_) (fun c3 => ?_)
    · have hf := if_t c3 hf
      cases hf
      exact x_retv C hP hS hW dX6_readAll_36
    · have hf := if_f c3 hf
      refine lv_aload_n hx hb dX6_readAll_16 rfl (lv_at hl 0 rfl) ?_
      refine gf_X6_9 C hP h_v0 k_v0 dX6_readAll_17 ?_
      obtain ⟨t4, et4, hf⟩ := bd1_e hf
      obtain ⟨h_t4, k_t4⟩ := wt_r hW h_v0 k_v0 (by decide) et4
      have k_t4 : G.2.1 t4 = 8 := k_t4
      rw [et4]
      refine x_aft_z (x_runV (As := []) (rest := []) C hP hS (c_X8_goesOn (l := l) C.2.2.2.2.2.2.2.2.2.1 hW h_t4 k_t4 rfl H.size) h_t4 k_t4 (by decide) rfl rfl km_X8_goesOn ki_X8_goesOn qm_X6_28 ⟨(Nat.le_of_ble_eq_true rfl), (Nat.le_of_ble_eq_true rfl)⟩ rfl hl.1 rfl (Nat.le_of_ble_eq_true rfl) ⟨Nat.zero_le _, Nat.zero_le _⟩ dX6_readAll_20) hS (fun H locs hP hS hW z5 => ?_)
      refine lv_if_eq (tgt := 36) hx hb dX6_readAll_23 (by decide) (fun c6 => ?_) (fun c6 => ?_)
      · have hf := if_t c6 hf
        cases hf
        exact x_retv C hP hS hW dX6_readAll_36
      · have hf := if_f c6 hf
        refine lv_aload_n hx hb dX6_readAll_26 rfl (lv_at hl 0 rfl) ?_
        obtain ⟨S7, eS7, hf⟩ := bd1_e hf
        refine x_aft_v (x_runV (As := []) (rest := []) C hP hS (c_X6_readLine (l := l) C.2.2.2.2.2.2.2.2.2.1 hW h_v0 k_v0 eS7 H.size) h_v0 k_v0 (by decide) rfl rfl km_X6_readLine ki_X6_readLine qm_X6_32 ⟨(Nat.le_of_ble_eq_true rfl), (Nat.le_of_ble_eq_true rfl)⟩ rfl hl.1 rfl (Nat.le_of_ble_eq_true rfl) ⟨Nat.zero_le _, Nat.zero_le _⟩ dX6_readAll_27) hS (fun H locs hP hS hW => ?_)
        obtain ⟨x8, ex8, hf⟩ := bnd_e hf
        refine lv_iinc (v := x8) (lv' := [(1, .int x8), (0, .ref v0)]) hx hb dX6_readAll_30 hl (k := 1) rfl ex8.symm (by decide) rfl (fun ls hl => ?_)
        refine lv_goto (tgt := 9) hx hb dX6_readAll_33 (by decide) ?_
        exact ih v0 x8 h_v0 k_v0 S7 H locs _ hf hP hS hW (lv_sub hl [1, 0] rfl)
set_option maxRecDepth 100000 in
set_option maxHeartbeats 4000000 in
theorem c_X6_readAll {l : Launch} {V : EV} {G : GS} {S : HS} {F : Nat} {a : Nat} {S' : HS} (hN : G.1.Nodup) (hW : WT G S) (h_a : a ∈ G.1) (k_a : G.2.1 a = 6) (hf : s_X6_readAll G.2.2 F a S = some S') : MetV l yX6_readAll cX6_readAll 2 17 607 V G S [.ref a] S' := by
  intro sz
  refine x_in RX6 rfl (by decide +kernel) hN (Nat.le_of_ble_eq_true rfl) (fun p e s m args below meth c ls hsz hargs hnm C hP hS hl => ?_)
  subst hsz
  have hx := C.1
  have hb := C.2.1
  have hl : lv_has ls 2 [(0, .ref a)] := hl
  unfold s_X6_readAll at hf
  refine lv_aload_n hx hb dX6_readAll_0 rfl (lv_at hl 0 rfl) ?_
  refine gf_X6_9 C hP h_a k_a dX6_readAll_1 ?_
  obtain ⟨t1, et1, hf⟩ := bd1_e hf
  obtain ⟨h_t1, k_t1⟩ := wt_r hW h_a k_a (by decide) et1
  have k_t1 : G.2.1 t1 = 8 := k_t1
  rw [et1]
  obtain ⟨S2, eS2, hf⟩ := bd1_e hf
  refine x_aft_v (x_runV (As := []) (rest := []) C hP hS (c_X8_begin (l := l) C.2.2.2.2.2.2.2.2.2.1 hW h_t1 k_t1 eS2 s.heap.size) h_t1 k_t1 (by decide) rfl rfl km_X8_begin ki_X8_begin qm_X6_23 ⟨(Nat.le_of_ble_eq_true rfl), (Nat.le_of_ble_eq_true rfl)⟩ rfl hl.1 rfl (Nat.le_of_ble_eq_true rfl) ⟨Nat.zero_le _, Nat.zero_le _⟩ dX6_readAll_4) hS (fun H locs hP hS hW => ?_)
  refine lv_iconst (v := 0) hx hb dX6_readAll_7 rfl ?_
  refine lv_istore_n (lv' := [(1, .int 0), (0, .ref a)]) hx hb dX6_readAll_8 rfl hl (by decide) rfl (fun ls hl => ?_)
  exact b_X6_readAll_9 C F a 0 h_a k_a S2 H locs _ hf hP hS hW (lv_sub hl [1, 0] rfl)
def s_X7_empty_L12 (N : Nat → Nat) (F : Nat) : Nat → Nat → Int32 → HS → Option HS
  | 0, _, _, _ => none
  | n + 1, v0, v1, S => if (6 : Int32) ≤ v1 then
  some S
  else
  bd1 (gR S 700 v0) fun t4 =>
  if inB v1 (N t4) = true then
  bnd (wI S t4 (v1.toNatClampNeg) 0) fun S6 =>
  bnd (v1 + Int32.ofInt 1 : Int32) fun x7 =>
  s_X7_empty_L12 N F n v0 x7 S6
  else none
def s_X7_empty (N : Nat → Nat) (F : Nat) (a : Nat) (S : HS) : Option HS :=
  bnd (uI S 702 a 0) fun S1 =>
  bnd (uI S1 703 a 0) fun S2 =>
  s_X7_empty_L12 N F F a 0 S2
set_option maxRecDepth 100000 in
set_option maxHeartbeats 4000000 in
theorem b_X7_empty_12 {p : Program} {l : Launch} {e : Env} {s : State} {m : MethodId} {args : Array Value} {below : List Frame} {meth : Method} {c : Code} {V : EV} {G : GS} {S' : HS} {F : Nat} (C : CX p s m args meth c RX7 cX7_empty 2 none V G) : ∀ n : Nat, ∀ (v0 : Nat) (v1 : Int32) (h_v0 : v0 ∈ G.1) (k_v0 : G.2.1 v0 = 7) (S : HS) (H : Heap) (locs : List Loc) (ls : Array Slot), s_X7_empty_L12 G.2.2 F n v0 v1 S = some S' → HP V G S H → va_S (AG G s.heap.size) s.heap H locs → WT G S → lv_has ls 2 [(0, .ref v0), (1, .int v1)] → W p l e (RM 0 0) s m args below meth c H locs 0 0 (MQ below (QV V G S' s.heap.size) args s 0 0 (AG G s.heap.size)) (F0 m 12 ls []) := by
  intro n
  induction n with
  | zero =>
    intro v0 v1 h_v0 k_v0 S H locs ls hf
    rw [s_X7_empty_L12] at hf
    cases hf
  | succ n ih =>
    intro v0 v1 h_v0 k_v0 S H locs ls hf hP hS hW hl
    have hx := C.1
    have hb := C.2.1
    rw [s_X7_empty_L12] at hf
    refine lv_iload_n hx hb dX7_empty_12 rfl (lv_at hl 1 rfl) ?_
    refine lv_bipush (v := 6) hx hb dX7_empty_13 kc_bipush_6 ?_
    refine lv_icmp_ge (tgt := 31) hx hb dX7_empty_15 (by decide) (fun c3 => ?_) (fun c3 => ?_)
    · have hf := if_t c3 hf
      cases hf
      exact x_retv C hP hS hW dX7_empty_31
    · have hf := if_f c3 hf
      refine lv_aload_n hx hb dX7_empty_18 rfl (lv_at hl 0 rfl) ?_
      refine gf_X7_9 C hP h_v0 k_v0 dX7_empty_19 ?_
      obtain ⟨t4, et4, hf⟩ := bd1_e hf
      obtain ⟨h_t4, k_t4⟩ := wt_r hW h_v0 k_v0 (by decide) et4
      have k_t4 : G.2.1 t4 = 14 := k_t4
      rw [et4]
      refine lv_iload_n hx hb dX7_empty_22 rfl (lv_at hl 1 rfl) ?_
      refine lv_iconst (v := 0) hx hb dX7_empty_23 rfl ?_
      obtain ⟨h5, hf⟩ := if_s hf
      obtain ⟨S6, eS6, hf⟩ := bnd_e hf
      refine x_iast C hP hS h_t4 k_t4 h5 eS6 dX7_empty_24 (fun H locs hP hS => ?_)
      have hW : WT G S6 := by rw [eS6]; exact hW
      obtain ⟨x7, ex7, hf⟩ := bnd_e hf
      refine lv_iinc (v := x7) (lv' := [(1, .int x7), (0, .ref v0)]) hx hb dX7_empty_25 hl (k := 1) rfl ex7.symm (by decide) rfl (fun ls hl => ?_)
      refine lv_goto (tgt := 12) hx hb dX7_empty_28 (by decide) ?_
      exact ih v0 x7 h_v0 k_v0 S6 H locs _ hf hP hS hW (lv_sub hl [1, 0] rfl)
set_option maxRecDepth 100000 in
set_option maxHeartbeats 4000000 in
theorem c_X7_empty {l : Launch} {V : EV} {G : GS} {S : HS} {F : Nat} {a : Nat} {S' : HS} (hN : G.1.Nodup) (hW : WT G S) (h_a : a ∈ G.1) (k_a : G.2.1 a = 7) (hf : s_X7_empty G.2.2 F a S = some S') : MetV l yX7_empty cX7_empty 2 0 0 V G S [.ref a] S' := by
  intro sz
  refine x_in RX7 rfl (by decide +kernel) hN (Nat.le_of_ble_eq_true rfl) (fun p e s m args below meth c ls hsz hargs hnm C hP hS hl => ?_)
  subst hsz
  have hx := C.1
  have hb := C.2.1
  have hl : lv_has ls 2 [(0, .ref a)] := hl
  unfold s_X7_empty at hf
  refine lv_aload_n hx hb dX7_empty_0 rfl (lv_at hl 0 rfl) ?_
  refine lv_iconst (v := 0) hx hb dX7_empty_1 rfl ?_
  obtain ⟨S1, eS1, hf⟩ := bnd_e hf
  refine pf_X7_19 C hP hS h_a k_a eS1 dX7_empty_2 (fun H locs hP hS => ?_)
  have hW : WT G S1 := by rw [eS1]; exact hW
  refine lv_aload_n hx hb dX7_empty_5 rfl (lv_at hl 0 rfl) ?_
  refine lv_iconst (v := 0) hx hb dX7_empty_6 rfl ?_
  obtain ⟨S2, eS2, hf⟩ := bnd_e hf
  refine pf_X7_22 C hP hS h_a k_a eS2 dX7_empty_7 (fun H locs hP hS => ?_)
  have hW : WT G S2 := by rw [eS2]; exact hW
  refine lv_iconst (v := 0) hx hb dX7_empty_10 rfl ?_
  refine lv_istore_n (lv' := [(1, .int 0), (0, .ref a)]) hx hb dX7_empty_11 rfl hl (by decide) rfl (fun ls hl => ?_)
  exact b_X7_empty_12 C F a 0 h_a k_a S2 H locs _ hf hP hS hW (lv_sub hl [1, 0] rfl)
def s_X7_put (N : Nat → Nat) (a : Nat) (p0 : Int32) (p1 : Int32) (S : HS) : Option HS :=
  if p0 < (0 : Int32) then
  some S
  else
  if (6 : Int32) ≤ p0 then
  some S
  else
  bd1 (gR S 700 a) fun t3 =>
  if inB p0 (N t3) = true then
  bnd (wI S t3 (p0.toNatClampNeg) p1) fun S5 =>
  some S5
  else none
set_option maxRecDepth 100000 in
set_option maxHeartbeats 4000000 in
theorem c_X7_put {l : Launch} {V : EV} {G : GS} {S : HS} {a : Nat} {p0 : Int32} {p1 : Int32} {S' : HS} (hN : G.1.Nodup) (hW : WT G S) (h_a : a ∈ G.1) (k_a : G.2.1 a = 7) (hf : s_X7_put G.2.2 a p0 p1 S = some S') : MetV l yX7_put cX7_put 3 0 0 V G S [.ref a, .int p0, .int p1] S' := by
  intro sz
  refine x_in RX7 rfl (by decide +kernel) hN (Nat.le_of_ble_eq_true rfl) (fun p e s m args below meth c ls hsz hargs hnm C hP hS hl => ?_)
  subst hsz
  have hx := C.1
  have hb := C.2.1
  have hl : lv_has ls 3 [(0, .ref a), (1, .int p0), (2, .int p1)] := hl
  unfold s_X7_put at hf
  refine lv_iload_n hx hb dX7_put_0 rfl (lv_at hl 1 rfl) ?_
  refine lv_if_lt (tgt := 17) hx hb dX7_put_1 (by decide) (fun c1 => ?_) (fun c1 => ?_)
  · have hf := if_t c1 hf
    cases hf
    exact x_retv C hP hS hW dX7_put_17
  · have hf := if_f c1 hf
    refine lv_iload_n hx hb dX7_put_4 rfl (lv_at hl 1 rfl) ?_
    refine lv_bipush (v := 6) hx hb dX7_put_5 kc_bipush_6 ?_
    refine lv_icmp_ge (tgt := 17) hx hb dX7_put_7 (by decide) (fun c2 => ?_) (fun c2 => ?_)
    · have hf := if_t c2 hf
      cases hf
      exact x_retv C hP hS hW dX7_put_17
    · have hf := if_f c2 hf
      refine lv_aload_n hx hb dX7_put_10 rfl (lv_at hl 0 rfl) ?_
      refine gf_X7_9 C hP h_a k_a dX7_put_11 ?_
      obtain ⟨t3, et3, hf⟩ := bd1_e hf
      obtain ⟨h_t3, k_t3⟩ := wt_r hW h_a k_a (by decide) et3
      have k_t3 : G.2.1 t3 = 14 := k_t3
      rw [et3]
      refine lv_iload_n hx hb dX7_put_14 rfl (lv_at hl 1 rfl) ?_
      refine lv_iload_n hx hb dX7_put_15 rfl (lv_at hl 2 rfl) ?_
      obtain ⟨h4, hf⟩ := if_s hf
      obtain ⟨S5, eS5, hf⟩ := bnd_e hf
      refine x_iast C hP hS h_t3 k_t3 h4 eS5 dX7_put_16 (fun H locs hP hS => ?_)
      have hW : WT G S5 := by rw [eS5]; exact hW
      cases hf
      exact x_retv C hP hS hW dX7_put_17
def s_X7_read (N : Nat → Nat) (a : Nat) (p0 : Int32) (S : HS) : Option Int32 :=
  if p0 < (0 : Int32) then
  some 0
  else
  if (6 : Int32) ≤ p0 then
  some 0
  else
  bd1 (gR S 700 a) fun t3 =>
  if inB p0 (N t3) = true then
  some (aI S t3 p0.toNatClampNeg)
  else none
set_option maxRecDepth 100000 in
set_option maxHeartbeats 4000000 in
theorem c_X7_read {l : Launch} {V : EV} {G : GS} {S : HS} {a : Nat} {p0 : Int32} {r : Int32} (hN : G.1.Nodup) (hW : WT G S) (h_a : a ∈ G.1) (k_a : G.2.1 a = 7) (hf : s_X7_read G.2.2 a p0 S = some r) : MetI l yX7_read cX7_read 2 .int 0 0 V G S [.ref a, .int p0] r S := by
  intro sz
  refine x_in RX7 rfl (by decide +kernel) hN (Nat.le_of_ble_eq_true rfl) (fun p e s m args below meth c ls hsz hargs hnm C hP hS hl => ?_)
  subst hsz
  have hx := C.1
  have hb := C.2.1
  have hl : lv_has ls 2 [(0, .ref a), (1, .int p0)] := hl
  unfold s_X7_read at hf
  refine lv_iload_n hx hb dX7_read_0 rfl (lv_at hl 1 rfl) ?_
  refine lv_if_lt (tgt := 19) hx hb dX7_read_1 (by decide) (fun c1 => ?_) (fun c1 => ?_)
  · have hf := if_t c1 hf
    refine lv_iconst (v := 0) hx hb dX7_read_19 rfl ?_
    cases hf
    exact x_reti C hP hS hW dX7_read_20
  · have hf := if_f c1 hf
    refine lv_iload_n hx hb dX7_read_4 rfl (lv_at hl 1 rfl) ?_
    refine lv_bipush (v := 6) hx hb dX7_read_5 kc_bipush_6 ?_
    refine lv_icmp_ge (tgt := 19) hx hb dX7_read_7 (by decide) (fun c2 => ?_) (fun c2 => ?_)
    · have hf := if_t c2 hf
      refine lv_iconst (v := 0) hx hb dX7_read_19 rfl ?_
      cases hf
      exact x_reti C hP hS hW dX7_read_20
    · have hf := if_f c2 hf
      refine lv_aload_n hx hb dX7_read_10 rfl (lv_at hl 0 rfl) ?_
      refine gf_X7_9 C hP h_a k_a dX7_read_11 ?_
      obtain ⟨t3, et3, hf⟩ := bd1_e hf
      obtain ⟨h_t3, k_t3⟩ := wt_r hW h_a k_a (by decide) et3
      have k_t3 : G.2.1 t3 = 14 := k_t3
      rw [et3]
      refine lv_iload_n hx hb dX7_read_14 rfl (lv_at hl 1 rfl) ?_
      obtain ⟨h4, hf⟩ := if_s hf
      refine x_iald C hP h_t3 k_t3 h4 dX7_read_15 ?_
      refine lv_goto (tgt := 20) hx hb dX7_read_16 (by decide) ?_
      cases hf
      exact x_reti C hP hS hW dX7_read_20
def s_X8_empty (a : Nat) (S : HS) : HS :=
  bnd (uI S 801 a 0) fun S1 =>
  S1
set_option maxRecDepth 100000 in
set_option maxHeartbeats 4000000 in
theorem c_X8_empty {l : Launch} {V : EV} {G : GS} {S : HS} {a : Nat} {S' : HS} (hN : G.1.Nodup) (hW : WT G S) (h_a : a ∈ G.1) (k_a : G.2.1 a = 8) (hf : s_X8_empty a S = S') : MetV l yX8_empty cX8_empty 1 0 0 V G S [.ref a] S' := by
  intro sz
  refine x_in RX8 rfl (by decide +kernel) hN (Nat.le_of_ble_eq_true rfl) (fun p e s m args below meth c ls hsz hargs hnm C hP hS hl => ?_)
  subst hsz
  have hx := C.1
  have hb := C.2.1
  have hl : lv_has ls 1 [(0, .ref a)] := hl
  unfold s_X8_empty at hf
  refine lv_aload_n hx hb dX8_empty_0 rfl (lv_at hl 0 rfl) ?_
  refine lv_iconst (v := 0) hx hb dX8_empty_1 rfl ?_
  obtain ⟨S1, eS1, hf⟩ := bnd_e hf
  refine pf_X8_15 C hP hS h_a k_a eS1 dX8_empty_2 (fun H locs hP hS => ?_)
  have hW : WT G S1 := by rw [eS1]; exact hW
  cases hf
  exact x_retv C hP hS hW dX8_empty_5
def s_X8_passWord_J22 (N : Nat → Nat) (F : Nat) (v0 : Nat) (S : HS) : Option HS :=
  bnd (s_X8_blame v0 1 S) fun S3 =>
  some S3
def s_X8_passWord (N : Nat → Nat) (F : Nat) (a : Nat) (p0 : Nat) (S : HS) : Option HS :=
  if (s_X8_isRight a S) = (0 : Int32) then
  s_X8_passWord_J22 N F a S
  else
  bd1 (s_X8_isWord F a p0 S) fun r4 =>
  if r4 = (0 : Int32) then
  s_X8_passWord_J22 N F a S
  else
  bd1 (s_X8_advance N F a S) fun S7 =>
  some S7
set_option maxRecDepth 100000 in
set_option maxHeartbeats 4000000 in
theorem b_X8_passWord_22 {p : Program} {l : Launch} {e : Env} {s : State} {m : MethodId} {args : Array Value} {below : List Frame} {meth : Method} {c : Code} {V : EV} {G : GS} {S' : HS} {F : Nat} (C : CX p s m args meth c RX8 cX8_passWord 2 none V G) : ∀ (v0 : Nat) (h_v0 : v0 ∈ G.1) (k_v0 : G.2.1 v0 = 8) (S : HS) (H : Heap) (locs : List Loc) (ls : Array Slot), s_X8_passWord_J22 G.2.2 F v0 S = some S' → HP V G S H → va_S (AG G s.heap.size) s.heap H locs → WT G S → lv_has ls 2 [(0, .ref v0)] → W p l e (RM 13 489) s m args below meth c H locs 0 0 (MQ below (QV V G S' s.heap.size) args s 0 0 (AG G s.heap.size)) (F0 m 22 ls []) := by
  intro v0 h_v0 k_v0 S H locs ls hf hP hS hW hl
  have hx := C.1
  have hb := C.2.1
  unfold s_X8_passWord_J22 at hf
  refine lv_aload_n hx hb dX8_passWord_22 rfl (lv_at hl 0 rfl) ?_
  refine lv_iconst (v := 1) hx hb dX8_passWord_23 rfl ?_
  obtain ⟨S3, eS3, hf⟩ := bnd_e hf
  refine x_aft_v (x_runV (As := [.int 1]) (rest := []) C hP hS (c_X8_blame (l := l) C.2.2.2.2.2.2.2.2.2.1 hW h_v0 k_v0 eS3.symm H.size) h_v0 k_v0 (by decide) rfl rfl km_X8_blame ki_X8_blame qm_X8_129 ⟨(Nat.le_of_ble_eq_true rfl), (Nat.le_of_ble_eq_true rfl)⟩ rfl hl.1 rfl (Nat.le_of_ble_eq_true rfl) ⟨Nat.zero_le _, Nat.zero_le _⟩ dX8_passWord_24) hS (fun H locs hP hS hW => ?_)
  cases hf
  exact x_retv C hP hS hW dX8_passWord_27
set_option maxRecDepth 100000 in
set_option maxHeartbeats 4000000 in
theorem c_X8_passWord {l : Launch} {V : EV} {G : GS} {S : HS} {F : Nat} {a : Nat} {p0 : Nat} {S' : HS} (hN : G.1.Nodup) (hW : WT G S) (h_a : a ∈ G.1) (k_a : G.2.1 a = 8) (h_p0 : p0 < nSC) (hf : s_X8_passWord G.2.2 F a p0 S = some S') : MetV l yX8_passWord cX8_passWord 2 13 489 V G S [.ref a, .ref (V.2.2.1 p0)] S' := by
  intro sz
  refine x_in RX8 rfl (by decide +kernel) hN (Nat.le_of_ble_eq_true rfl) (fun p e s m args below meth c ls hsz hargs hnm C hP hS hl => ?_)
  subst hsz
  have hx := C.1
  have hb := C.2.1
  have hl : lv_has ls 2 [(0, .ref a), (1, .ref (V.2.2.1 p0))] := hl
  unfold s_X8_passWord at hf
  refine lv_aload_n hx hb dX8_passWord_0 rfl (lv_at hl 0 rfl) ?_
  refine x_aft_z (x_runV (As := []) (rest := []) C hP hS (c_X8_isRight (l := l) C.2.2.2.2.2.2.2.2.2.1 hW h_a k_a rfl s.heap.size) h_a k_a (by decide) rfl rfl km_X8_isRight ki_X8_isRight qm_X8_126 ⟨(Nat.le_of_ble_eq_true rfl), (Nat.le_of_ble_eq_true rfl)⟩ rfl hl.1 rfl (Nat.le_of_ble_eq_true rfl) ⟨Nat.zero_le _, Nat.zero_le _⟩ dX8_passWord_1) hS (fun H locs hP hS hW z1 => ?_)
  refine lv_if_eq (tgt := 22) hx hb dX8_passWord_4 (by decide) (fun c2 => ?_) (fun c2 => ?_)
  · have hf := if_t c2 hf
    exact b_X8_passWord_22 C a h_a k_a S H locs _ hf hP hS hW (lv_sub hl [0] rfl)
  · have hf := if_f c2 hf
    refine lv_aload_n hx hb dX8_passWord_7 rfl (lv_at hl 0 rfl) ?_
    refine lv_aload_n hx hb dX8_passWord_8 rfl (lv_at hl 1 rfl) ?_
    obtain ⟨r4, er4, hf⟩ := bd1_e hf
    refine x_aft_z (x_runV (As := [.ref (V.2.2.1 p0)]) (rest := []) C hP hS (c_X8_isWord (l := l) C.2.2.2.2.2.2.2.2.2.1 hW h_a k_a h_p0 er4 H.size) h_a k_a (by decide) rfl rfl km_X8_isWord ki_X8_isWord qm_X8_92 ⟨(Nat.le_of_ble_eq_true rfl), (Nat.le_of_ble_eq_true rfl)⟩ rfl hl.1 rfl (Nat.le_of_ble_eq_true rfl) ⟨Nat.zero_le _, Nat.zero_le _⟩ dX8_passWord_9) hS (fun H locs hP hS hW z5 => ?_)
    refine lv_if_eq (tgt := 22) hx hb dX8_passWord_12 (by decide) (fun c6 => ?_) (fun c6 => ?_)
    · have hf := if_t c6 hf
      exact b_X8_passWord_22 C a h_a k_a S H locs _ hf hP hS hW (lv_sub hl [0] rfl)
    · have hf := if_f c6 hf
      refine lv_aload_n hx hb dX8_passWord_15 rfl (lv_at hl 0 rfl) ?_
      obtain ⟨S7, eS7, hf⟩ := bd1_e hf
      refine x_aft_v (x_runV (As := []) (rest := []) C hP hS (c_X8_advance (l := l) C.2.2.2.2.2.2.2.2.2.1 hW h_a k_a eS7 H.size) h_a k_a (by decide) rfl rfl km_X8_advance ki_X8_advance qm_X8_29 ⟨(Nat.le_of_ble_eq_true rfl), (Nat.le_of_ble_eq_true rfl)⟩ rfl hl.1 rfl (Nat.le_of_ble_eq_true rfl) ⟨Nat.zero_le _, Nat.zero_le _⟩ dX8_passWord_16) hS (fun H locs hP hS hW => ?_)
      refine lv_goto (tgt := 27) hx hb dX8_passWord_19 (by decide) ?_
      cases hf
      exact x_retv C hP hS hW dX8_passWord_27
def s_X8_takeBytes_J89 (N : Nat → Nat) (F : Nat) (k3 : Nat → Int64 → Int32 → HS → Option HS) (v0 : Nat) (v1 : Int64) (v3 : Int32) (S : HS) : Option HS :=
  bnd (v3 + Int32.ofInt (-8) : Int32) fun x5 =>
  k3 v0 v1 x5 S
def s_X8_takeBytes_J43 (N : Nat → Nat) (F : Nat) (k3 : Nat → Int64 → Int32 → HS → Option HS) (v0 : Nat) (v1 : Int64) (v3 : Int32) (v4 : Int32) (w0 : Int32) (S : HS) : Option HS :=
  if w0 = (0 : Int32) then
  s_X8_takeBytes_J89 N F k3 v0 v1 v3 S
  else
  if (gI S 801 v0) < (0 : Int32) then
  s_X8_takeBytes_J89 N F k3 v0 v1 v3 S
  else
  if (1000 : Int32) ≤ (gI S 801 v0) then
  s_X8_takeBytes_J89 N F k3 v0 v1 v3 S
  else
  bd1 (gR S 800 v0) fun t8 =>
  if inB (gI S 801 v0) (N t8) = true then
  bnd (wI S t8 ((gI S 801 v0).toNatClampNeg) (vp_nar .char ((v4.toUInt32 % 65536).toInt32))) fun S10 =>
  bnd (uI S10 801 v0 ((gI S10 801 v0) + 1)) fun S11 =>
  s_X8_takeBytes_J89 N F k3 v0 v1 v3 S11
  else none
def s_X8_takeBytes_L3 (N : Nat → Nat) (F : Nat) : Nat → Nat → Int64 → Int32 → HS → Option HS
  | 0, _, _, _, _ => none
  | n + 1, v0, v1, v3, S => if v3 < (0 : Int32) then
  some S
  else
  bnd ((((v1.toUInt64 >>> (v3.toInt64.toUInt64 &&& Int64.toUInt64 63)).toInt64).toInt32) &&& 255 : Int32) fun x2 =>
  if x2 = (10 : Int32) then
  s_X8_takeBytes_J43 N F (s_X8_takeBytes_L3 N F n) v0 v1 v3 x2 1 S
  else
  if x2 < (32 : Int32) then
  s_X8_takeBytes_J43 N F (s_X8_takeBytes_L3 N F n) v0 v1 v3 x2 0 S
  else
  if (126 : Int32) < x2 then
  s_X8_takeBytes_J43 N F (s_X8_takeBytes_L3 N F n) v0 v1 v3 x2 0 S
  else
  s_X8_takeBytes_J43 N F (s_X8_takeBytes_L3 N F n) v0 v1 v3 x2 1 S
def s_X8_takeBytes (N : Nat → Nat) (F : Nat) (a : Nat) (p0 : Int64) (S : HS) : Option HS :=
  s_X8_takeBytes_L3 N F F a p0 56 S
set_option maxRecDepth 100000 in
set_option maxHeartbeats 4000000 in
theorem b_X8_takeBytes_89 {p : Program} {l : Launch} {e : Env} {s : State} {m : MethodId} {args : Array Value} {below : List Frame} {meth : Method} {c : Code} {V : EV} {G : GS} {S' : HS} {F : Nat} (C : CX p s m args meth c RX8 cX8_takeBytes 6 none V G) {k3 : Nat → Int64 → Int32 → HS → Option HS} (hk3 : ∀ (v0 : Nat) (v1 : Int64) (v3 : Int32) (h_v0 : v0 ∈ G.1) (k_v0 : G.2.1 v0 = 8) (S : HS) (H : Heap) (locs : List Loc) (ls : Array Slot), k3 v0 v1 v3 S = some S' → HP V G S H → va_S (AG G s.heap.size) s.heap H locs → WT G S → lv_has ls 6 [(0, .ref v0), (1, .long v1), (3, .int v3)] → W p l e (RM 0 0) s m args below meth c H locs 0 0 (MQ below (QV V G S' s.heap.size) args s 0 0 (AG G s.heap.size)) (F0 m 3 ls [])) : ∀ (v0 : Nat) (v1 : Int64) (v3 : Int32) (h_v0 : v0 ∈ G.1) (k_v0 : G.2.1 v0 = 8) (S : HS) (H : Heap) (locs : List Loc) (ls : Array Slot), s_X8_takeBytes_J89 G.2.2 F k3 v0 v1 v3 S = some S' → HP V G S H → va_S (AG G s.heap.size) s.heap H locs → WT G S → lv_has ls 6 [(0, .ref v0), (1, .long v1), (3, .int v3)] → W p l e (RM 0 0) s m args below meth c H locs 0 0 (MQ below (QV V G S' s.heap.size) args s 0 0 (AG G s.heap.size)) (F0 m 89 ls []) := by
  intro v0 v1 v3 h_v0 k_v0 S H locs ls hf hP hS hW hl
  have hx := C.1
  have hb := C.2.1
  unfold s_X8_takeBytes_J89 at hf
  obtain ⟨x5, ex5, hf⟩ := bnd_e hf
  refine lv_iinc (v := x5) (lv' := [(3, .int x5), (0, .ref v0), (1, .long v1)]) hx hb dX8_takeBytes_89 hl (k := 2) rfl ex5.symm (by decide) rfl (fun ls hl => ?_)
  refine lv_goto (tgt := 3) hx hb dX8_takeBytes_92 (by decide) ?_
  exact hk3 v0 v1 x5 h_v0 k_v0 S H locs _ hf hP hS hW (lv_sub hl [1, 2, 0] rfl)
set_option maxRecDepth 100000 in
set_option maxHeartbeats 4000000 in
theorem b_X8_takeBytes_43 {p : Program} {l : Launch} {e : Env} {s : State} {m : MethodId} {args : Array Value} {below : List Frame} {meth : Method} {c : Code} {V : EV} {G : GS} {S' : HS} {F : Nat} (C : CX p s m args meth c RX8 cX8_takeBytes 6 none V G) {k3 : Nat → Int64 → Int32 → HS → Option HS} (hk3 : ∀ (v0 : Nat) (v1 : Int64) (v3 : Int32) (h_v0 : v0 ∈ G.1) (k_v0 : G.2.1 v0 = 8) (S : HS) (H : Heap) (locs : List Loc) (ls : Array Slot), k3 v0 v1 v3 S = some S' → HP V G S H → va_S (AG G s.heap.size) s.heap H locs → WT G S → lv_has ls 6 [(0, .ref v0), (1, .long v1), (3, .int v3)] → W p l e (RM 0 0) s m args below meth c H locs 0 0 (MQ below (QV V G S' s.heap.size) args s 0 0 (AG G s.heap.size)) (F0 m 3 ls [])) : ∀ (v0 : Nat) (v1 : Int64) (v3 : Int32) (v4 : Int32) (w0 : Int32) (h_v0 : v0 ∈ G.1) (k_v0 : G.2.1 v0 = 8) (S : HS) (H : Heap) (locs : List Loc) (ls : Array Slot), s_X8_takeBytes_J43 G.2.2 F k3 v0 v1 v3 v4 w0 S = some S' → HP V G S H → va_S (AG G s.heap.size) s.heap H locs → WT G S → lv_has ls 6 [(0, .ref v0), (1, .long v1), (3, .int v3), (4, .int v4)] → W p l e (RM 0 0) s m args below meth c H locs 0 0 (MQ below (QV V G S' s.heap.size) args s 0 0 (AG G s.heap.size)) (F0 m 43 ls [.int w0]) := by
  intro v0 v1 v3 v4 w0 h_v0 k_v0 S H locs ls hf hP hS hW hl
  have hx := C.1
  have hb := C.2.1
  unfold s_X8_takeBytes_J43 at hf
  refine lv_istore (lv' := [(5, .int w0), (0, .ref v0), (1, .long v1), (3, .int v3), (4, .int v4)]) hx hb dX8_takeBytes_43 hl (by decide) rfl (fun ls hl => ?_)
  refine lv_iload hx hb dX8_takeBytes_45 (lv_at hl 0 rfl) ?_
  refine lv_if_eq (tgt := 89) hx hb dX8_takeBytes_47 (by decide) (fun c4 => ?_) (fun c4 => ?_)
  · have hf := if_t c4 hf
    exact b_X8_takeBytes_89 C hk3 v0 v1 v3 h_v0 k_v0 S H locs _ hf hP hS hW (lv_sub hl [1, 2, 3] rfl)
  · have hf := if_f c4 hf
    refine lv_aload_n hx hb dX8_takeBytes_50 rfl (lv_at hl 1 rfl) ?_
    refine gf_X8_15 C hP h_v0 k_v0 dX8_takeBytes_51 ?_
    refine lv_if_lt (tgt := 89) hx hb dX8_takeBytes_54 (by decide) (fun c6 => ?_) (fun c6 => ?_)
    · have hf := if_t c6 hf
      exact b_X8_takeBytes_89 C hk3 v0 v1 v3 h_v0 k_v0 S H locs _ hf hP hS hW (lv_sub hl [1, 2, 3] rfl)
    · have hf := if_f c6 hf
      refine lv_aload_n hx hb dX8_takeBytes_57 rfl (lv_at hl 1 rfl) ?_
      refine gf_X8_15 C hP h_v0 k_v0 dX8_takeBytes_58 ?_
      refine lv_sipush (v := 1000) hx hb dX8_takeBytes_61 kc_sipush_1000 ?_
      refine lv_icmp_ge (tgt := 89) hx hb dX8_takeBytes_64 (by decide) (fun c7 => ?_) (fun c7 => ?_)
      · have hf := if_t c7 hf
        exact b_X8_takeBytes_89 C hk3 v0 v1 v3 h_v0 k_v0 S H locs _ hf hP hS hW (lv_sub hl [1, 2, 3] rfl)
      · have hf := if_f c7 hf
        refine lv_aload_n hx hb dX8_takeBytes_67 rfl (lv_at hl 1 rfl) ?_
        refine gf_X8_9 C hP h_v0 k_v0 dX8_takeBytes_68 ?_
        obtain ⟨t8, et8, hf⟩ := bd1_e hf
        obtain ⟨h_t8, k_t8⟩ := wt_r hW h_v0 k_v0 (by decide) et8
        have k_t8 : G.2.1 t8 = 13 := k_t8
        rw [et8]
        refine lv_aload_n hx hb dX8_takeBytes_71 rfl (lv_at hl 1 rfl) ?_
        refine gf_X8_15 C hP h_v0 k_v0 dX8_takeBytes_72 ?_
        refine lv_iload hx hb dX8_takeBytes_75 (lv_at hl 4 rfl) ?_
        refine lv_i2c hx hb dX8_takeBytes_77 rfl ?_
        obtain ⟨h9, hf⟩ := if_s hf
        obtain ⟨S10, eS10, hf⟩ := bnd_e hf
        refine x_cast C hP hS h_t8 k_t8 h9 eS10 dX8_takeBytes_78 (fun H locs hP hS => ?_)
        have hW : WT G S10 := by rw [eS10]; exact hW
        refine lv_aload_n hx hb dX8_takeBytes_79 rfl (lv_at hl 1 rfl) ?_
        refine lv_dup hx hb dX8_takeBytes_80 rfl ?_
        refine gf_X8_15 C hP h_v0 k_v0 dX8_takeBytes_81 ?_
        refine lv_iconst (v := 1) hx hb dX8_takeBytes_84 rfl ?_
        refine lv_iadd hx hb dX8_takeBytes_85 ?_
        obtain ⟨S11, eS11, hf⟩ := bnd_e hf
        refine pf_X8_15 C hP hS h_v0 k_v0 eS11 dX8_takeBytes_86 (fun H locs hP hS => ?_)
        have hW : WT G S11 := by rw [eS11]; exact hW
        exact b_X8_takeBytes_89 C hk3 v0 v1 v3 h_v0 k_v0 S11 H locs _ hf hP hS hW (lv_sub hl [1, 2, 3] rfl)
set_option maxRecDepth 100000 in
set_option maxHeartbeats 4000000 in
theorem b_X8_takeBytes_3 {p : Program} {l : Launch} {e : Env} {s : State} {m : MethodId} {args : Array Value} {below : List Frame} {meth : Method} {c : Code} {V : EV} {G : GS} {S' : HS} {F : Nat} (C : CX p s m args meth c RX8 cX8_takeBytes 6 none V G) : ∀ n : Nat, ∀ (v0 : Nat) (v1 : Int64) (v3 : Int32) (h_v0 : v0 ∈ G.1) (k_v0 : G.2.1 v0 = 8) (S : HS) (H : Heap) (locs : List Loc) (ls : Array Slot), s_X8_takeBytes_L3 G.2.2 F n v0 v1 v3 S = some S' → HP V G S H → va_S (AG G s.heap.size) s.heap H locs → WT G S → lv_has ls 6 [(0, .ref v0), (1, .long v1), (3, .int v3)] → W p l e (RM 0 0) s m args below meth c H locs 0 0 (MQ below (QV V G S' s.heap.size) args s 0 0 (AG G s.heap.size)) (F0 m 3 ls []) := by
  intro n
  induction n with
  | zero =>
    intro v0 v1 v3 h_v0 k_v0 S H locs ls hf
    rw [s_X8_takeBytes_L3] at hf
    cases hf
  | succ n ih =>
    intro v0 v1 v3 h_v0 k_v0 S H locs ls hf hP hS hW hl
    have hx := C.1
    have hb := C.2.1
    rw [s_X8_takeBytes_L3] at hf
    refine lv_iload_n hx hb dX8_takeBytes_3 rfl (lv_at hl 2 rfl) ?_
    refine lv_if_lt (tgt := 95) hx hb dX8_takeBytes_4 (by decide) (fun c1 => ?_) (fun c1 => ?_)
    · have hf := if_t c1 hf
      cases hf
      exact x_retv C hP hS hW dX8_takeBytes_95
    · have hf := if_f c1 hf
      refine lv_lload_n hx hb dX8_takeBytes_7 rfl (lv_at hl 1 rfl) ?_
      refine lv_iload_n hx hb dX8_takeBytes_8 rfl (lv_at hl 2 rfl) ?_
      refine lv_lushr hx hb dX8_takeBytes_9 rfl ?_
      refine lv_l2i hx hb dX8_takeBytes_10 rfl ?_
      refine lv_sipush (v := 255) hx hb dX8_takeBytes_11 kc_sipush_255 ?_
      refine lv_iand hx hb dX8_takeBytes_14 ?_
      obtain ⟨x2, ex2, hf⟩ := bnd_e hf
      refine nm_i ex2 ?_
      refine lv_istore (lv' := [(4, .int x2), (0, .ref v0), (1, .long v1), (3, .int v3)]) hx hb dX8_takeBytes_15 hl (by decide) rfl (fun ls hl => ?_)
      refine lv_iload hx hb dX8_takeBytes_17 (lv_at hl 0 rfl) ?_
      refine lv_bipush (v := 10) hx hb dX8_takeBytes_19 kc_bipush_10 ?_
      refine lv_icmp_eq (tgt := 38) hx hb dX8_takeBytes_21 (by decide) (fun c3 => ?_) (fun c3 => ?_)
      · have hf := if_t c3 hf
        refine lv_iconst (v := 1) hx hb dX8_takeBytes_38 rfl ?_
        refine lv_goto (tgt := 43) hx hb dX8_takeBytes_39 (by decide) ?_
        exact b_X8_takeBytes_43 C ih v0 v1 v3 x2 1 h_v0 k_v0 S H locs _ hf hP hS hW (lv_sub hl [1, 2, 3, 0] rfl)
      · have hf := if_f c3 hf
        refine lv_iload hx hb dX8_takeBytes_24 (lv_at hl 0 rfl) ?_
        refine lv_bipush (v := 32) hx hb dX8_takeBytes_26 kc_bipush_32 ?_
        refine lv_icmp_lt (tgt := 42) hx hb dX8_takeBytes_28 (by decide) (fun c12 => ?_) (fun c12 => ?_)
        · have hf := if_t c12 hf
          refine lv_iconst (v := 0) hx hb dX8_takeBytes_42 rfl ?_
          exact b_X8_takeBytes_43 C ih v0 v1 v3 x2 0 h_v0 k_v0 S H locs _ hf hP hS hW (lv_sub hl [1, 2, 3, 0] rfl)
        · have hf := if_f c12 hf
          refine lv_iload hx hb dX8_takeBytes_31 (lv_at hl 0 rfl) ?_
          refine lv_bipush (v := 126) hx hb dX8_takeBytes_33 kc_bipush_126 ?_
          refine lv_icmp_gt (tgt := 42) hx hb dX8_takeBytes_35 (by decide) (fun c13 => ?_) (fun c13 => ?_)
          · have hf := if_t c13 hf
            refine lv_iconst (v := 0) hx hb dX8_takeBytes_42 rfl ?_
            exact b_X8_takeBytes_43 C ih v0 v1 v3 x2 0 h_v0 k_v0 S H locs _ hf hP hS hW (lv_sub hl [1, 2, 3, 0] rfl)
          · have hf := if_f c13 hf
            refine lv_iconst (v := 1) hx hb dX8_takeBytes_38 rfl ?_
            refine lv_goto (tgt := 43) hx hb dX8_takeBytes_39 (by decide) ?_
            exact b_X8_takeBytes_43 C ih v0 v1 v3 x2 1 h_v0 k_v0 S H locs _ hf hP hS hW (lv_sub hl [1, 2, 3, 0] rfl)
set_option maxRecDepth 100000 in
set_option maxHeartbeats 4000000 in
theorem c_X8_takeBytes {l : Launch} {V : EV} {G : GS} {S : HS} {F : Nat} {a : Nat} {p0 : Int64} {S' : HS} (hN : G.1.Nodup) (hW : WT G S) (h_a : a ∈ G.1) (k_a : G.2.1 a = 8) (hf : s_X8_takeBytes G.2.2 F a p0 S = some S') : MetV l yX8_takeBytes cX8_takeBytes 6 0 0 V G S [.ref a, .long p0] S' := by
  intro sz
  refine x_in RX8 rfl (by decide +kernel) hN (Nat.le_of_ble_eq_true rfl) (fun p e s m args below meth c ls hsz hargs hnm C hP hS hl => ?_)
  subst hsz
  have hx := C.1
  have hb := C.2.1
  have hl : lv_has ls 6 [(0, .ref a), (1, .long p0)] := hl
  unfold s_X8_takeBytes at hf
  refine lv_bipush (v := 56) hx hb dX8_takeBytes_0 kc_bipush_56 ?_
  refine lv_istore_n (lv' := [(3, .int 56), (0, .ref a), (1, .long p0)]) hx hb dX8_takeBytes_2 rfl hl (by decide) rfl (fun ls hl => ?_)
  exact b_X8_takeBytes_3 C F a p0 56 h_a k_a S s.heap [] _ hf hP hS hW (lv_sub hl [1, 2, 0] rfl)
