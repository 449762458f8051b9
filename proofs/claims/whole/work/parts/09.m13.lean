def s_X12_whole_J176 (N : Nat → Nat) (F : Nat) (v0 : Nat) (v7 : Int64) (w0 : Nat) (w1 : Int32) (S : HS) : Option (Int32 × HS) :=
  bnd (uI S 1200 w0 w1) fun S26 =>
  if (gI S26 1200 v0) ≤ (0 : Int32) then
  some (v7.toInt32, S26)
  else
  some (0, S26)
def s_X12_whole_J150 (N : Nat → Nat) (F : Nat) (v0 : Nat) (w0 : Int64) (S : HS) : Option (Int32 × HS) :=
  if (0 : Int32) < (lg_cmp w0 (2147483647 : Int64)) then
  s_X12_whole_J176 N F v0 w0 v0 1 S
  else
  if (0 : Int32) ≤ (lg_cmp w0 (-2147483648 : Int64)) then
  s_X12_whole_J176 N F v0 w0 v0 0 S
  else
  s_X12_whole_J176 N F v0 w0 v0 1 S
def s_X12_whole_J135 (N : Nat → Nat) (F : Nat) (v0 : Nat) (v3 : Int32) (w0 : Int64) (w1 : Int64) (S : HS) : Option (Int32 × HS) :=
  bnd (w0 + w1 : Int64) fun x23 =>
  if v3 = (0 : Int32) then
  s_X12_whole_J150 N F v0 x23 S
  else
  s_X12_whole_J150 N F v0 (-x23) S
def s_X12_whole_J124 (N : Nat → Nat) (F : Nat) (v0 : Nat) (v3 : Int32) (w0 : Int64) (w1 : Nat) (w2 : Int32) (w3 : Int32) (w4 : Int32) (S : HS) : Option (Int32 × HS) :=
  bd2 (s_X12_isUp N F w1 w2 w3 w4 S) fun r19 S20 =>
  if r19 = (0 : Int32) then
  s_X12_whole_J135 N F v0 v3 w0 0 S20
  else
  s_X12_whole_J135 N F v0 v3 w0 1 S20
def s_X12_whole_J30 (N : Nat → Nat) (F : Nat) (v0 : Nat) (v1 : Int32) (v2 : Int32) (w0 : Nat) (w1 : Int32) (S : HS) : Option (Int32 × HS) :=
  bnd (uI S 1200 w0 w1) fun S5 =>
  if (0 : Int32) < (gI S5 1200 v0) then
  some (0, S5)
  else
  bd1 (s_X12_classOf N v0 v2 v1 S5) fun r7 =>
  if r7 = (0 : Int32) then
  some (0, S5)
  else
  bd1 (s_X12_isMinus N v0 v2 v1 S5) fun r9 =>
  bd1 (s_X12_wholeOf N v0 v2 v1 S5) fun r11 =>
  bd1 (s_X12_placeOf N v0 v2 v1 S5) fun r12 =>
  if r12 ≤ (40 : Int32) then
  bd2 (s_X12_cuts v0 r11 (-r12) 0 S5) fun r14 S15 =>
  bd1 (gR S15 1217 v0) fun t16 =>
  if inB (1 : Int32) (N t16) = true then
  if (lg_cmp (r14 &&& 1) (1 : Int64)) = (0 : Int32) then
  s_X12_whole_J124 N F v0 r9 r14 v0 (aI S15 t16 (1 : Int32).toNatClampNeg) r9 1 S15
  else
  s_X12_whole_J124 N F v0 r9 r14 v0 (aI S15 t16 (1 : Int32).toNatClampNeg) r9 0 S15
  else none
  else
  bnd (uI S5 1200 v0 1) fun S29 =>
  some (0, S29)
def s_X12_whole (N : Nat → Nat) (F : Nat) (a : Nat) (p0 : Int32) (S : HS) : Option (Int32 × HS) :=
  bd1 (s_X12_used N a S) fun r1 =>
  bd1 (s_X12_isBits N a r1 p0 S) fun r2 =>
  if r2 = (0 : Int32) then
  s_X12_whole_J30 N F a p0 r1 a 1 S
  else
  bd1 (s_X12_classOf N a r1 p0 S) fun r30 =>
  if (3 : Int32) ≤ r30 then
  s_X12_whole_J30 N F a p0 r1 a 1 S
  else
  s_X12_whole_J30 N F a p0 r1 a 0 S
set_option maxRecDepth 100000 in
set_option maxHeartbeats 4000000 in
theorem b_X12_whole_176 {p : Program} {l : Launch} {e : Env} {s : State} {m : MethodId} {args : Array Value} {below : List Frame} {meth : Method} {c : Code} {V : EV} {G : GS} {r : Int32} {S' : HS} {F : Nat} (C : CX p s m args meth c RX12 cX12_whole 9 (some .int) V G) : ∀ (v0 : Nat) (v7 : Int64) (w0 : Nat) (w1 : Int32) (h_v0 : v0 ∈ G.1) (k_v0 : G.2.1 v0 = 12) (h_w0 : w0 ∈ G.1) (k_w0 : G.2.1 w0 = 12) (S : HS) (H : Heap) (locs : List Loc) (ls : Array Slot), s_X12_whole_J176 G.2.2 F v0 v7 w0 w1 S = some (r, S') → HP V G S H → va_S (AG G s.heap.size) s.heap H locs → WT G S → lv_has ls 9 [(0, .ref v0), (7, .long v7)] → W p l e (RM 5 150) s m args below meth c H locs 0 0 (MQ below (QI V G S' r s.heap.size) args s 0 0 (AG G s.heap.size)) (F0 m 176 ls [.int w1, .ref w0]) := by
  intro v0 v7 w0 w1 h_v0 k_v0 h_w0 k_w0 S H locs ls hf hP hS hW hl
  have hx := C.1
  have hb := C.2.1
  unfold s_X12_whole_J176 at hf
  obtain ⟨S26, eS26, hf⟩ := bnd_e hf
  refine pf_X12_1 C hP hS h_w0 k_w0 eS26 dX12_whole_176 (fun H locs hP hS => ?_)
  have hW : WT G S26 := by rw [eS26]; exact hW
  refine lv_aload_n hx hb dX12_whole_179 rfl (lv_at hl 0 rfl) ?_
  refine gf_X12_1 C hP h_v0 k_v0 dX12_whole_180 ?_
  refine lv_if_le (tgt := 190) hx hb dX12_whole_183 (by decide) (fun c27 => ?_) (fun c27 => ?_)
  · have hf := if_t c27 hf
    refine lv_lload hx hb dX12_whole_190 (lv_at hl 1 rfl) ?_
    refine lv_l2i hx hb dX12_whole_192 rfl ?_
    cases hf
    exact x_reti C hP hS hW dX12_whole_193
  · have hf := if_f c27 hf
    refine lv_iconst (v := 0) hx hb dX12_whole_186 rfl ?_
    refine lv_goto (tgt := 193) hx hb dX12_whole_187 (by decide) ?_
    cases hf
    exact x_reti C hP hS hW dX12_whole_193
set_option maxRecDepth 100000 in
set_option maxHeartbeats 4000000 in
theorem b_X12_whole_150 {p : Program} {l : Launch} {e : Env} {s : State} {m : MethodId} {args : Array Value} {below : List Frame} {meth : Method} {c : Code} {V : EV} {G : GS} {r : Int32} {S' : HS} {F : Nat} (C : CX p s m args meth c RX12 cX12_whole 9 (some .int) V G) : ∀ (v0 : Nat) (w0 : Int64) (h_v0 : v0 ∈ G.1) (k_v0 : G.2.1 v0 = 12) (S : HS) (H : Heap) (locs : List Loc) (ls : Array Slot), s_X12_whole_J150 G.2.2 F v0 w0 S = some (r, S') → HP V G S H → va_S (AG G s.heap.size) s.heap H locs → WT G S → lv_has ls 9 [(0, .ref v0)] → W p l e (RM 5 150) s m args below meth c H locs 0 0 (MQ below (QI V G S' r s.heap.size) args s 0 0 (AG G s.heap.size)) (F0 m 150 ls [.long w0]) := by
  intro v0 w0 h_v0 k_v0 S H locs ls hf hP hS hW hl
  have hx := C.1
  have hb := C.2.1
  unfold s_X12_whole_J150 at hf
  refine lv_lstore (lv' := [(7, .long w0), (0, .ref v0)]) hx hb dX12_whole_150 hl (by decide) rfl (fun ls hl => ?_)
  refine lv_aload_n hx hb dX12_whole_152 rfl (lv_at hl 1 rfl) ?_
  refine lv_lload hx hb dX12_whole_153 (lv_at hl 0 rfl) ?_
  refine lv_ldc2 (v := 2147483647) hx hb C.2.2.2.2.1 (C.2.2.2.2.2.1 _ qc_X12_439) dX12_whole_155 ?_
  refine W.lcmp hx hb dX12_whole_158 ?_
  refine lv_if_gt (tgt := 171) hx hb dX12_whole_159 (by decide) (fun c25 => ?_) (fun c25 => ?_)
  · have hf := if_t c25 hf
    refine lv_iconst (v := 1) hx hb dX12_whole_171 rfl ?_
    refine lv_goto (tgt := 176) hx hb dX12_whole_172 (by decide) ?_
    exact b_X12_whole_176 C v0 w0 v0 1 h_v0 k_v0 h_v0 k_v0 S H locs _ hf hP hS hW (lv_sub hl [1, 0] rfl)
  · have hf := if_f c25 hf
    refine lv_lload hx hb dX12_whole_162 (lv_at hl 0 rfl) ?_
    refine lv_ldc2 (v := (-2147483648)) hx hb C.2.2.2.2.1 (C.2.2.2.2.2.1 _ qc_X12_441) dX12_whole_164 ?_
    refine W.lcmp hx hb dX12_whole_167 ?_
    refine lv_if_ge (tgt := 175) hx hb dX12_whole_168 (by decide) (fun c28 => ?_) (fun c28 => ?_)
    · have hf := if_t c28 hf
      refine lv_iconst (v := 0) hx hb dX12_whole_175 rfl ?_
      exact b_X12_whole_176 C v0 w0 v0 0 h_v0 k_v0 h_v0 k_v0 S H locs _ hf hP hS hW (lv_sub hl [1, 0] rfl)
    · have hf := if_f c28 hf
      refine lv_iconst (v := 1) hx hb dX12_whole_171 rfl ?_
      refine lv_goto (tgt := 176) hx hb dX12_whole_172 (by decide) ?_
      exact b_X12_whole_176 C v0 w0 v0 1 h_v0 k_v0 h_v0 k_v0 S H locs _ hf hP hS hW (lv_sub hl [1, 0] rfl)
set_option maxRecDepth 100000 in
set_option maxHeartbeats 4000000 in
theorem b_X12_whole_135 {p : Program} {l : Launch} {e : Env} {s : State} {m : MethodId} {args : Array Value} {below : List Frame} {meth : Method} {c : Code} {V : EV} {G : GS} {r : Int32} {S' : HS} {F : Nat} (C : CX p s m args meth c RX12 cX12_whole 9 (some .int) V G) : ∀ (v0 : Nat) (v3 : Int32) (w0 : Int64) (w1 : Int64) (h_v0 : v0 ∈ G.1) (k_v0 : G.2.1 v0 = 12) (S : HS) (H : Heap) (locs : List Loc) (ls : Array Slot), s_X12_whole_J135 G.2.2 F v0 v3 w0 w1 S = some (r, S') → HP V G S H → va_S (AG G s.heap.size) s.heap H locs → WT G S → lv_has ls 9 [(0, .ref v0), (3, .int v3)] → W p l e (RM 5 150) s m args below meth c H locs 0 0 (MQ below (QI V G S' r s.heap.size) args s 0 0 (AG G s.heap.size)) (F0 m 135 ls [.long w1, .long w0]) := by
  intro v0 v3 w0 w1 h_v0 k_v0 S H locs ls hf hP hS hW hl
  have hx := C.1
  have hb := C.2.1
  unfold s_X12_whole_J135 at hf
  refine lv_ladd hx hb dX12_whole_135 ?_
  obtain ⟨x23, ex23, hf⟩ := bnd_e hf
  refine nm_l ex23 ?_
  refine lv_lstore (lv' := [(7, .long x23), (0, .ref v0), (3, .int v3)]) hx hb dX12_whole_136 hl (by decide) rfl (fun ls hl => ?_)
  refine lv_iload_n hx hb dX12_whole_138 rfl (lv_at hl 2 rfl) ?_
  refine lv_if_eq (tgt := 148) hx hb dX12_whole_139 (by decide) (fun c24 => ?_) (fun c24 => ?_)
  · have hf := if_t c24 hf
    refine lv_lload hx hb dX12_whole_148 (lv_at hl 0 rfl) ?_
    exact b_X12_whole_150 C v0 x23 h_v0 k_v0 S H locs _ hf hP hS hW (lv_sub hl [1] rfl)
  · have hf := if_f c24 hf
    refine lv_lload hx hb dX12_whole_142 (lv_at hl 0 rfl) ?_
    refine lv_lneg hx hb dX12_whole_144 ?_
    refine lv_goto (tgt := 150) hx hb dX12_whole_145 (by decide) ?_
    exact b_X12_whole_150 C v0 (-x23) h_v0 k_v0 S H locs _ hf hP hS hW (lv_sub hl [1] rfl)
set_option maxRecDepth 100000 in
set_option maxHeartbeats 4000000 in
theorem b_X12_whole_124 {p : Program} {l : Launch} {e : Env} {s : State} {m : MethodId} {args : Array Value} {below : List Frame} {meth : Method} {c : Code} {V : EV} {G : GS} {r : Int32} {S' : HS} {F : Nat} (C : CX p s m args meth c RX12 cX12_whole 9 (some .int) V G) : ∀ (v0 : Nat) (v3 : Int32) (w0 : Int64) (w1 : Nat) (w2 : Int32) (w3 : Int32) (w4 : Int32) (h_v0 : v0 ∈ G.1) (k_v0 : G.2.1 v0 = 12) (h_w1 : w1 ∈ G.1) (k_w1 : G.2.1 w1 = 12) (S : HS) (H : Heap) (locs : List Loc) (ls : Array Slot), s_X12_whole_J124 G.2.2 F v0 v3 w0 w1 w2 w3 w4 S = some (r, S') → HP V G S H → va_S (AG G s.heap.size) s.heap H locs → WT G S → lv_has ls 9 [(0, .ref v0), (3, .int v3)] → W p l e (RM 5 150) s m args below meth c H locs 0 0 (MQ below (QI V G S' r s.heap.size) args s 0 0 (AG G s.heap.size)) (F0 m 124 ls [.int w4, .int w3, .int w2, .ref w1, .long w0]) := by
  intro v0 v3 w0 w1 w2 w3 w4 h_v0 k_v0 h_w1 k_w1 S H locs ls hf hP hS hW hl
  have hx := C.1
  have hb := C.2.1
  unfold s_X12_whole_J124 at hf
  obtain ⟨r19, S20, eS20, hf⟩ := bd2_e hf
  refine x_aft_z (x_runV (As := [.int w2, .int w3, .int w4]) (rest := [.long w0]) C hP hS (c_X12_isUp (l := l) C.2.2.2.2.2.2.2.2.2.1 hW h_w1 k_w1 eS20 H.size) h_w1 k_w1 (by decide) rfl rfl km_X12_isUp ki_X12_isUp qm_X12_308 ⟨(Nat.le_of_ble_eq_true rfl), (Nat.le_of_ble_eq_true rfl)⟩ rfl hl.1 rfl (Nat.le_of_ble_eq_true rfl) ⟨Nat.zero_le _, Nat.zero_le _⟩ dX12_whole_124) hS (fun H locs hP hS hW z21 => ?_)
  refine lv_if_eq (tgt := 134) hx hb dX12_whole_127 (by decide) (fun c22 => ?_) (fun c22 => ?_)
  · have hf := if_t c22 hf
    refine lv_lconst (v := 0) hx hb dX12_whole_134 rfl ?_
    exact b_X12_whole_135 C v0 v3 w0 0 h_v0 k_v0 S20 H locs _ hf hP hS hW (lv_sub hl [0, 1] rfl)
  · have hf := if_f c22 hf
    refine lv_lconst (v := 1) hx hb dX12_whole_130 rfl ?_
    refine lv_goto (tgt := 135) hx hb dX12_whole_131 (by decide) ?_
    exact b_X12_whole_135 C v0 v3 w0 1 h_v0 k_v0 S20 H locs _ hf hP hS hW (lv_sub hl [0, 1] rfl)
set_option maxRecDepth 100000 in
set_option maxHeartbeats 4000000 in
theorem b_X12_whole_30 {p : Program} {l : Launch} {e : Env} {s : State} {m : MethodId} {args : Array Value} {below : List Frame} {meth : Method} {c : Code} {V : EV} {G : GS} {r : Int32} {S' : HS} {F : Nat} (C : CX p s m args meth c RX12 cX12_whole 9 (some .int) V G) : ∀ (v0 : Nat) (v1 : Int32) (v2 : Int32) (w0 : Nat) (w1 : Int32) (h_v0 : v0 ∈ G.1) (k_v0 : G.2.1 v0 = 12) (h_w0 : w0 ∈ G.1) (k_w0 : G.2.1 w0 = 12) (S : HS) (H : Heap) (locs : List Loc) (ls : Array Slot), s_X12_whole_J30 G.2.2 F v0 v1 v2 w0 w1 S = some (r, S') → HP V G S H → va_S (AG G s.heap.size) s.heap H locs → WT G S → lv_has ls 9 [(0, .ref v0), (1, .int v1), (2, .int v2)] → W p l e (RM 5 150) s m args below meth c H locs 0 0 (MQ below (QI V G S' r s.heap.size) args s 0 0 (AG G s.heap.size)) (F0 m 30 ls [.int w1, .ref w0]) := by
  intro v0 v1 v2 w0 w1 h_v0 k_v0 h_w0 k_w0 S H locs ls hf hP hS hW hl
  have hx := C.1
  have hb := C.2.1
  unfold s_X12_whole_J30 at hf
  obtain ⟨S5, eS5, hf⟩ := bnd_e hf
  refine pf_X12_1 C hP hS h_w0 k_w0 eS5 dX12_whole_30 (fun H locs hP hS => ?_)
  have hW : WT G S5 := by rw [eS5]; exact hW
  refine lv_aload_n hx hb dX12_whole_33 rfl (lv_at hl 0 rfl) ?_
  refine gf_X12_1 C hP h_v0 k_v0 dX12_whole_34 ?_
  refine lv_if_gt (tgt := 49) hx hb dX12_whole_37 (by decide) (fun c6 => ?_) (fun c6 => ?_)
  · have hf := if_t c6 hf
    refine lv_iconst (v := 0) hx hb dX12_whole_49 rfl ?_
    cases hf
    exact x_reti C hP hS hW dX12_whole_50
  · have hf := if_f c6 hf
    refine lv_aload_n hx hb dX12_whole_40 rfl (lv_at hl 0 rfl) ?_
    refine lv_iload_n hx hb dX12_whole_41 rfl (lv_at hl 2 rfl) ?_
    refine lv_iload_n hx hb dX12_whole_42 rfl (lv_at hl 1 rfl) ?_
    obtain ⟨r7, er7, hf⟩ := bd1_e hf
    refine x_aft_i (x_runV (As := [.int v2, .int v1]) (rest := []) C hP hS (c_X12_classOf (l := l) C.2.2.2.2.2.2.2.2.2.1 hW h_v0 k_v0 er7 H.size) h_v0 k_v0 (by decide) rfl rfl km_X12_classOf ki_X12_classOf qm_X12_276 ⟨(Nat.le_of_ble_eq_true rfl), (Nat.le_of_ble_eq_true rfl)⟩ rfl hl.1 rfl (Nat.le_of_ble_eq_true rfl) ⟨Nat.zero_le _, Nat.zero_le _⟩ dX12_whole_43) hS (fun H locs hP hS hW => ?_)
    refine lv_if_ne (tgt := 51) hx hb dX12_whole_46 (by decide) (fun c8 => ?_) (fun c8 => ?_)
    · have hf := if_f c8 hf
      refine lv_aload_n hx hb dX12_whole_51 rfl (lv_at hl 0 rfl) ?_
      refine lv_iload_n hx hb dX12_whole_52 rfl (lv_at hl 2 rfl) ?_
      refine lv_iload_n hx hb dX12_whole_53 rfl (lv_at hl 1 rfl) ?_
      obtain ⟨r9, er9, hf⟩ := bd1_e hf
      refine x_aft_z (x_runV (As := [.int v2, .int v1]) (rest := []) C hP hS (c_X12_isMinus (l := l) C.2.2.2.2.2.2.2.2.2.1 hW h_v0 k_v0 er9 H.size) h_v0 k_v0 (by decide) rfl rfl km_X12_isMinus ki_X12_isMinus qm_X12_283 ⟨(Nat.le_of_ble_eq_true rfl), (Nat.le_of_ble_eq_true rfl)⟩ rfl hl.1 rfl (Nat.le_of_ble_eq_true rfl) ⟨Nat.zero_le _, Nat.zero_le _⟩ dX12_whole_54) hS (fun H locs hP hS hW z10 => ?_)
      refine lv_istore_n (lv' := [(3, .int r9), (0, .ref v0), (1, .int v1), (2, .int v2)]) hx hb dX12_whole_57 rfl hl (by decide) rfl (fun ls hl => ?_)
      refine lv_aload_n hx hb dX12_whole_58 rfl (lv_at hl 1 rfl) ?_
      refine lv_iload_n hx hb dX12_whole_59 rfl (lv_at hl 3 rfl) ?_
      refine lv_iload_n hx hb dX12_whole_60 rfl (lv_at hl 2 rfl) ?_
      obtain ⟨r11, er11, hf⟩ := bd1_e hf
      refine x_aft_l (x_runV (As := [.int v2, .int v1]) (rest := []) C hP hS (c_X12_wholeOf (l := l) C.2.2.2.2.2.2.2.2.2.1 hW h_v0 k_v0 er11 H.size) h_v0 k_v0 (by decide) rfl rfl km_X12_wholeOf ki_X12_wholeOf qm_X12_347 ⟨(Nat.le_of_ble_eq_true rfl), (Nat.le_of_ble_eq_true rfl)⟩ rfl hl.1 rfl (Nat.le_of_ble_eq_true rfl) ⟨Nat.zero_le _, Nat.zero_le _⟩ dX12_whole_61) hS (fun H locs hP hS hW => ?_)
      refine lv_lstore (lv' := [(4, .long r11), (3, .int r9), (0, .ref v0), (1, .int v1), (2, .int v2)]) hx hb dX12_whole_64 hl (by decide) rfl (fun ls hl => ?_)
      refine lv_aload_n hx hb dX12_whole_66 rfl (lv_at hl 2 rfl) ?_
      refine lv_iload_n hx hb dX12_whole_67 rfl (lv_at hl 4 rfl) ?_
      refine lv_iload_n hx hb dX12_whole_68 rfl (lv_at hl 3 rfl) ?_
      obtain ⟨r12, er12, hf⟩ := bd1_e hf
      refine x_aft_i (x_runV (As := [.int v2, .int v1]) (rest := []) C hP hS (c_X12_placeOf (l := l) C.2.2.2.2.2.2.2.2.2.1 hW h_v0 k_v0 er12 H.size) h_v0 k_v0 (by decide) rfl rfl km_X12_placeOf ki_X12_placeOf qm_X12_351 ⟨(Nat.le_of_ble_eq_true rfl), (Nat.le_of_ble_eq_true rfl)⟩ rfl hl.1 rfl (Nat.le_of_ble_eq_true rfl) ⟨Nat.zero_le _, Nat.zero_le _⟩ dX12_whole_69) hS (fun H locs hP hS hW => ?_)
      refine lv_istore (lv' := [(6, .int r12), (4, .long r11), (3, .int r9), (0, .ref v0), (1, .int v1), (2, .int v2)]) hx hb dX12_whole_72 hl (by decide) rfl (fun ls hl => ?_)
      refine lv_iload hx hb dX12_whole_74 (lv_at hl 0 rfl) ?_
      refine lv_bipush (v := 40) hx hb dX12_whole_76 kc_bipush_40 ?_
      refine lv_icmp_le (tgt := 88) hx hb dX12_whole_78 (by decide) (fun c13 => ?_) (fun c13 => ?_)
      · have hf := if_t c13 hf
        refine lv_aload_n hx hb dX12_whole_88 rfl (lv_at hl 3 rfl) ?_
        refine lv_lload hx hb dX12_whole_89 (lv_at hl 1 rfl) ?_
        refine lv_iload hx hb dX12_whole_91 (lv_at hl 0 rfl) ?_
        refine lv_ineg hx hb dX12_whole_93 ?_
        refine lv_iconst (v := 0) hx hb dX12_whole_94 rfl ?_
        obtain ⟨r14, S15, eS15, hf⟩ := bd2_e hf
        refine x_aft_l (x_runV (As := [.long r11, .int (-r12), .int 0]) (rest := []) C hP hS (c_X12_cuts (l := l) C.2.2.2.2.2.2.2.2.2.1 hW h_v0 k_v0 eS15 H.size) h_v0 k_v0 (by decide) rfl rfl km_X12_cuts ki_X12_cuts qm_X12_304 ⟨(Nat.le_of_ble_eq_true rfl), (Nat.le_of_ble_eq_true rfl)⟩ rfl hl.1 rfl (Nat.le_of_ble_eq_true rfl) ⟨Nat.zero_le _, Nat.zero_le _⟩ dX12_whole_95) hS (fun H locs hP hS hW => ?_)
        refine lv_lstore (lv' := [(7, .long r14), (6, .int r12), (4, .long r11), (3, .int r9), (0, .ref v0), (1, .int v1), (2, .int v2)]) hx hb dX12_whole_98 hl (by decide) rfl (fun ls hl => ?_)
        refine lv_lload hx hb dX12_whole_100 (lv_at hl 0 rfl) ?_
        refine lv_aload_n hx hb dX12_whole_102 rfl (lv_at hl 4 rfl) ?_
        refine lv_aload_n hx hb dX12_whole_103 rfl (lv_at hl 4 rfl) ?_
        refine gf_X12_95 C hP h_v0 k_v0 dX12_whole_104 ?_
        obtain ⟨t16, et16, hf⟩ := bd1_e hf
        obtain ⟨h_t16, k_t16⟩ := wt_r hW h_v0 k_v0 (by decide) et16
        have k_t16 : G.2.1 t16 = 14 := k_t16
        rw [et16]
        refine lv_iconst (v := 1) hx hb dX12_whole_107 rfl ?_
        obtain ⟨h17, hf⟩ := if_s hf
        refine x_iald C hP h_t16 k_t16 h17 dX12_whole_108 ?_
        refine lv_iload_n hx hb dX12_whole_109 rfl (lv_at hl 3 rfl) ?_
        refine lv_lload hx hb dX12_whole_110 (lv_at hl 0 rfl) ?_
        refine lv_lconst (v := 1) hx hb dX12_whole_112 rfl ?_
        refine lv_land hx hb dX12_whole_113 ?_
        refine lv_lconst (v := 1) hx hb dX12_whole_114 rfl ?_
        refine W.lcmp hx hb dX12_whole_115 ?_
        refine lv_if_ne (tgt := 123) hx hb dX12_whole_116 (by decide) (fun c18 => ?_) (fun c18 => ?_)
        · have hf := if_f c18 hf
          refine lv_iconst (v := 0) hx hb dX12_whole_123 rfl ?_
          exact b_X12_whole_124 C v0 r9 r14 v0 (aI S15 t16 (1 : Int32).toNatClampNeg) r9 0 h_v0 k_v0 h_v0 k_v0 S15 H locs _ hf hP hS hW (lv_sub hl [4, 3] rfl)
        · have hf := if_t c18 hf
          refine lv_iconst (v := 1) hx hb dX12_whole_119 rfl ?_
          refine lv_goto (tgt := 124) hx hb dX12_whole_120 (by decide) ?_
          exact b_X12_whole_124 C v0 r9 r14 v0 (aI S15 t16 (1 : Int32).toNatClampNeg) r9 1 h_v0 k_v0 h_v0 k_v0 S15 H locs _ hf hP hS hW (lv_sub hl [4, 3] rfl)
      · have hf := if_f c13 hf
        refine lv_aload_n hx hb dX12_whole_81 rfl (lv_at hl 3 rfl) ?_
        refine lv_iconst (v := 1) hx hb dX12_whole_82 rfl ?_
        obtain ⟨S29, eS29, hf⟩ := bnd_e hf
        refine pf_X12_1 C hP hS h_v0 k_v0 eS29 dX12_whole_83 (fun H locs hP hS => ?_)
        have hW : WT G S29 := by rw [eS29]; exact hW
        refine lv_iconst (v := 0) hx hb dX12_whole_86 rfl ?_
        cases hf
        exact x_reti C hP hS hW dX12_whole_87
    · have hf := if_t c8 hf
      refine lv_iconst (v := 0) hx hb dX12_whole_49 rfl ?_
      cases hf
      exact x_reti C hP hS hW dX12_whole_50
set_option maxRecDepth 100000 in
set_option maxHeartbeats 4000000 in
theorem c_X12_whole {l : Launch} {V : EV} {G : GS} {S : HS} {F : Nat} {a : Nat} {p0 : Int32} {r : Int32} {S' : HS} (hN : G.1.Nodup) (hW : WT G S) (h_a : a ∈ G.1) (k_a : G.2.1 a = 12) (hf : s_X12_whole G.2.2 F a p0 S = some (r, S')) : MetI l yX12_whole cX12_whole 9 .int 5 150 V G S [.ref a, .int p0] r S' := by
  intro sz
  refine x_in RX12 rfl (by decide +kernel) hN (Nat.le_of_ble_eq_true rfl) (fun p e s m args below meth c ls hsz hargs hnm C hP hS hl => ?_)
  subst hsz
  have hx := C.1
  have hb := C.2.1
  have hl : lv_has ls 9 [(0, .ref a), (1, .int p0)] := hl
  unfold s_X12_whole at hf
  refine lv_aload_n hx hb dX12_whole_0 rfl (lv_at hl 0 rfl) ?_
  obtain ⟨r1, er1, hf⟩ := bd1_e hf
  refine x_aft_i (x_runV (As := []) (rest := []) C hP hS (c_X12_used (l := l) C.2.2.2.2.2.2.2.2.2.1 hW h_a k_a er1 s.heap.size) h_a k_a (by decide) rfl rfl km_X12_used ki_X12_used qm_X12_357 ⟨(Nat.le_of_ble_eq_true rfl), (Nat.le_of_ble_eq_true rfl)⟩ rfl hl.1 rfl (Nat.le_of_ble_eq_true rfl) ⟨Nat.zero_le _, Nat.zero_le _⟩ dX12_whole_1) hS (fun H locs hP hS hW => ?_)
  refine lv_istore_n (lv' := [(2, .int r1), (0, .ref a), (1, .int p0)]) hx hb dX12_whole_4 rfl hl (by decide) rfl (fun ls hl => ?_)
  refine lv_aload_n hx hb dX12_whole_5 rfl (lv_at hl 1 rfl) ?_
  refine lv_aload_n hx hb dX12_whole_6 rfl (lv_at hl 1 rfl) ?_
  refine lv_iload_n hx hb dX12_whole_7 rfl (lv_at hl 0 rfl) ?_
  refine lv_iload_n hx hb dX12_whole_8 rfl (lv_at hl 2 rfl) ?_
  obtain ⟨r2, er2, hf⟩ := bd1_e hf
  refine x_aft_z (x_runV (As := [.int r1, .int p0]) (rest := [.ref a]) C hP hS (c_X12_isBits (l := l) C.2.2.2.2.2.2.2.2.2.1 hW h_a k_a er2 H.size) h_a k_a (by decide) rfl rfl km_X12_isBits ki_X12_isBits qm_X12_363 ⟨(Nat.le_of_ble_eq_true rfl), (Nat.le_of_ble_eq_true rfl)⟩ rfl hl.1 rfl (Nat.le_of_ble_eq_true rfl) ⟨Nat.zero_le _, Nat.zero_le _⟩ dX12_whole_9) hS (fun H locs hP hS hW z3 => ?_)
  refine lv_if_eq (tgt := 29) hx hb dX12_whole_12 (by decide) (fun c4 => ?_) (fun c4 => ?_)
  · have hf := if_t c4 hf
    refine lv_iconst (v := 1) hx hb dX12_whole_29 rfl ?_
    exact b_X12_whole_30 C a p0 r1 a 1 h_a k_a h_a k_a S H locs _ hf hP hS hW (lv_sub hl [1, 2, 0] rfl)
  · have hf := if_f c4 hf
    refine lv_aload_n hx hb dX12_whole_15 rfl (lv_at hl 1 rfl) ?_
    refine lv_iload_n hx hb dX12_whole_16 rfl (lv_at hl 0 rfl) ?_
    refine lv_iload_n hx hb dX12_whole_17 rfl (lv_at hl 2 rfl) ?_
    obtain ⟨r30, er30, hf⟩ := bd1_e hf
    refine x_aft_i (x_runV (As := [.int r1, .int p0]) (rest := [.ref a]) C hP hS (c_X12_classOf (l := l) C.2.2.2.2.2.2.2.2.2.1 hW h_a k_a er30 H.size) h_a k_a (by decide) rfl rfl km_X12_classOf ki_X12_classOf qm_X12_276 ⟨(Nat.le_of_ble_eq_true rfl), (Nat.le_of_ble_eq_true rfl)⟩ rfl hl.1 rfl (Nat.le_of_ble_eq_true rfl) ⟨Nat.zero_le _, Nat.zero_le _⟩ dX12_whole_18) hS (fun H locs hP hS hW => ?_)
    refine lv_iconst (v := 3) hx hb dX12_whole_21 rfl ?_
    refine lv_icmp_ge (tgt := 29) hx hb dX12_whole_22 (by decide) (fun c31 => ?_) (fun c31 => ?_)
    · have hf := if_t c31 hf
      refine lv_iconst (v := 1) hx hb dX12_whole_29 rfl ?_
      exact b_X12_whole_30 C a p0 r1 a 1 h_a k_a h_a k_a S H locs _ hf hP hS hW (lv_sub hl [1, 2, 0] rfl)
    · have hf := if_f c31 hf
      refine lv_iconst (v := 0) hx hb dX12_whole_25 rfl ?_
      refine lv_goto (tgt := 30) hx hb dX12_whole_26 (by decide) ?_
      exact b_X12_whole_30 C a p0 r1 a 0 h_a k_a h_a k_a S H locs _ hf hP hS hW (lv_sub hl [1, 2, 0] rfl)
def w_X1_init (a : Nat) (G : GS) (S : HS) (P : GS → HS → Prop) : Prop :=
  ∀ q1 : Nat, q1 ∉ G.1 → bnd (pushG G q1 14 512) fun G2 => bnd (zap q1 S) fun S3 =>
  bnd (uR S3 100 a (some q1)) fun S4 =>
  ∀ q5 : Nat, q5 ∉ G2.1 → bnd (pushG G2 q5 14 512) fun G6 => bnd (zap q5 S4) fun S7 =>
  bnd (uR S7 101 a (some q5)) fun S8 =>
  ∀ q9 : Nat, q9 ∉ G6.1 → bnd (pushG G6 q9 14 512) fun G10 => bnd (zap q9 S8) fun S11 =>
  bnd (uR S11 102 a (some q9)) fun S12 =>
  ∀ q13 : Nat, q13 ∉ G10.1 → bnd (pushG G10 q13 14 512) fun G14 => bnd (zap q13 S12) fun S15 =>
  bnd (uR S15 103 a (some q13)) fun S16 =>
  ∀ q17 : Nat, q17 ∉ G14.1 → bnd (pushG G14 q17 14 512) fun G18 => bnd (zap q17 S16) fun S19 =>
  bnd (uR S19 104 a (some q17)) fun S20 =>
  ∀ q21 : Nat, q21 ∉ G18.1 → bnd (pushG G18 q21 14 512) fun G22 => bnd (zap q21 S20) fun S23 =>
  bnd (uR S23 105 a (some q21)) fun S24 =>
  ∀ q25 : Nat, q25 ∉ G22.1 → bnd (pushG G22 q25 16 512) fun G26 => bnd (zap q25 S24) fun S27 =>
  bnd (uR S27 106 a (some q25)) fun S28 =>
  ∀ q29 : Nat, q29 ∉ G26.1 → bnd (pushG G26 q29 14 512) fun G30 => bnd (zap q29 S28) fun S31 =>
  bnd (uR S31 107 a (some q29)) fun S32 =>
  ∀ q33 : Nat, q33 ∉ G30.1 → bnd (pushG G30 q33 14 512) fun G34 => bnd (zap q33 S32) fun S35 =>
  bnd (uR S35 108 a (some q33)) fun S36 =>
  P G34 S36
set_option maxRecDepth 100000 in
set_option maxHeartbeats 4000000 in
theorem c_X1_init {l : Launch} {V : EV} {G : GS} {S : HS} {a : Nat} {P : GS → HS → Prop} (hN : G.1.Nodup) (hW : WT G S) (h_a : a ∈ G.1) (k_a : G.2.1 a = 1) (hf : w_X1_init a G S P) : MetVW l yX1_init cX1_init 1 1 28 9 4608 V G S [.ref a] P := by
  intro sz
  refine x_in RX1 rfl (by decide +kernel) hN (Nat.le_of_ble_eq_true rfl) (fun p e s m args below meth c ls hsz hargs hnm C hP hS hl => ?_)
  subst hsz
  have hx := C.1
  have hb := C.2.1
  have hin : meth.name = "<init>" := hnm
  have hA : AG G s.heap.size = AG G s.heap.size := rfl
  have hX : GX G s.heap.size G := gx_rf hN
  have hl : lv_has ls 1 [(0, .ref a)] := hl
  unfold w_X1_init at hf
  refine lv_aload_n hx hb dX1_init_0 rfl (lv_at hl 0 rfl) ?_
  refine x_obj C qobj_X1_3 qobji qobjc hl.1 dX1_init_1 (by show _ ≤ _; decide) (by show _ ≤ _; decide) ?_
  refine lv_aload_n hx hb dX1_init_4 rfl (lv_at hl 0 rfl) ?_
  refine lv_sipush (v := 512) hx hb dX1_init_5 kc_sipush_512 ?_
  refine x_newarr (ty := .int) (N' := 512) (a0 := (512, .inl (fun _ => 0))) C hP hS hW rfl qarr_I 1 14 rfl (arr_I 512) (by decide) (by decide) (by decide) zap_I (by show _ ≤ 9; omega) (by show _ ≤ 4608; omega) dX1_init_8 (fun q1 H hq1 hsz hag C hP hS hW => ?_)
  have hX := gx_push hX hq1 hsz C.2.2.2.2.2.2.2.2.2.1
  have hA := hag.trans hA
  have hf := hf q1 hq1
  obtain ⟨G2, eG2, hf⟩ := bnd_ep hf
  obtain ⟨S3, eS3, hf⟩ := bnd_ep hf
  rw [← eG2, ← eS3] at hP hW
  rw [← eG2] at hA hX C hS
  have k_a : G2.2.1 a = 1 := by rw [eG2, push_k h_a hq1]; exact k_a
  have h_a : a ∈ G2.1 := by rw [eG2]; exact push_in h_a
  have h_q1 : q1 ∈ G2.1 := by rw [eG2]; exact push_q
  have k_q1 : G2.2.1 q1 = 14 := by rw [eG2]; exact push_kq
  obtain ⟨S4, eS4, hf⟩ := bnd_ep hf
  refine pf_X1_9 C hP hS h_a k_a hin eS4 dX1_init_10 (fun H locs hP hS => ?_)
  have hW : WT G2 S4 := by rw [eS4]; exact wt_uR hW ⟨h_q1, k_q1⟩
  refine lv_aload_n hx hb dX1_init_13 rfl (lv_at hl 0 rfl) ?_
  refine lv_sipush (v := 512) hx hb dX1_init_14 kc_sipush_512 ?_
  refine x_newarr (ty := .int) (N' := 512) (a0 := (512, .inl (fun _ => 0))) C hP hS hW rfl qarr_I 1 14 rfl (arr_I 512) (by decide) (by decide) (by decide) zap_I (by show _ ≤ 9; omega) (by show _ ≤ 4608; omega) dX1_init_17 (fun q5 H hq5 hsz hag C hP hS hW => ?_)
  have hX := gx_push hX hq5 hsz C.2.2.2.2.2.2.2.2.2.1
  have hA := hag.trans hA
  have hf := hf q5 hq5
  obtain ⟨G6, eG6, hf⟩ := bnd_ep hf
  obtain ⟨S7, eS7, hf⟩ := bnd_ep hf
  rw [← eG6, ← eS7] at hP hW
  rw [← eG6] at hA hX C hS
  have k_a : G6.2.1 a = 1 := by rw [eG6, push_k h_a hq5]; exact k_a
  have h_a : a ∈ G6.1 := by rw [eG6]; exact push_in h_a
  have h_q5 : q5 ∈ G6.1 := by rw [eG6]; exact push_q
  have k_q5 : G6.2.1 q5 = 14 := by rw [eG6]; exact push_kq
  obtain ⟨S8, eS8, hf⟩ := bnd_ep hf
  refine pf_X1_15 C hP hS h_a k_a hin eS8 dX1_init_19 (fun H locs hP hS => ?_)
  have hW : WT G6 S8 := by rw [eS8]; exact wt_uR hW ⟨h_q5, k_q5⟩
  refine lv_aload_n hx hb dX1_init_22 rfl (lv_at hl 0 rfl) ?_
  refine lv_sipush (v := 512) hx hb dX1_init_23 kc_sipush_512 ?_
  refine x_newarr (ty := .int) (N' := 512) (a0 := (512, .inl (fun _ => 0))) C hP hS hW rfl qarr_I 1 14 rfl (arr_I 512) (by decide) (by decide) (by decide) zap_I (by show _ ≤ 9; omega) (by show _ ≤ 4608; omega) dX1_init_26 (fun q9 H hq9 hsz hag C hP hS hW => ?_)
  have hX := gx_push hX hq9 hsz C.2.2.2.2.2.2.2.2.2.1
  have hA := hag.trans hA
  have hf := hf q9 hq9
  obtain ⟨G10, eG10, hf⟩ := bnd_ep hf
  obtain ⟨S11, eS11, hf⟩ := bnd_ep hf
  rw [← eG10, ← eS11] at hP hW
  rw [← eG10] at hA hX C hS
  have k_a : G10.2.1 a = 1 := by rw [eG10, push_k h_a hq9]; exact k_a
  have h_a : a ∈ G10.1 := by rw [eG10]; exact push_in h_a
  have h_q9 : q9 ∈ G10.1 := by rw [eG10]; exact push_q
  have k_q9 : G10.2.1 q9 = 14 := by rw [eG10]; exact push_kq
  obtain ⟨S12, eS12, hf⟩ := bnd_ep hf
  refine pf_X1_18 C hP hS h_a k_a hin eS12 dX1_init_28 (fun H locs hP hS => ?_)
  have hW : WT G10 S12 := by rw [eS12]; exact wt_uR hW ⟨h_q9, k_q9⟩
  refine lv_aload_n hx hb dX1_init_31 rfl (lv_at hl 0 rfl) ?_
  refine lv_sipush (v := 512) hx hb dX1_init_32 kc_sipush_512 ?_
  refine x_newarr (ty := .int) (N' := 512) (a0 := (512, .inl (fun _ => 0))) C hP hS hW rfl qarr_I 1 14 rfl (arr_I 512) (by decide) (by decide) (by decide) zap_I (by show _ ≤ 9; omega) (by show _ ≤ 4608; omega) dX1_init_35 (fun q13 H hq13 hsz hag C hP hS hW => ?_)
  have hX := gx_push hX hq13 hsz C.2.2.2.2.2.2.2.2.2.1
  have hA := hag.trans hA
  have hf := hf q13 hq13
  obtain ⟨G14, eG14, hf⟩ := bnd_ep hf
  obtain ⟨S15, eS15, hf⟩ := bnd_ep hf
  rw [← eG14, ← eS15] at hP hW
  rw [← eG14] at hA hX C hS
  have k_a : G14.2.1 a = 1 := by rw [eG14, push_k h_a hq13]; exact k_a
  have h_a : a ∈ G14.1 := by rw [eG14]; exact push_in h_a
  have h_q13 : q13 ∈ G14.1 := by rw [eG14]; exact push_q
  have k_q13 : G14.2.1 q13 = 14 := by rw [eG14]; exact push_kq
  obtain ⟨S16, eS16, hf⟩ := bnd_ep hf
  refine pf_X1_21 C hP hS h_a k_a hin eS16 dX1_init_37 (fun H locs hP hS => ?_)
  have hW : WT G14 S16 := by rw [eS16]; exact wt_uR hW ⟨h_q13, k_q13⟩
  refine lv_aload_n hx hb dX1_init_40 rfl (lv_at hl 0 rfl) ?_
  refine lv_sipush (v := 512) hx hb dX1_init_41 kc_sipush_512 ?_
  refine x_newarr (ty := .int) (N' := 512) (a0 := (512, .inl (fun _ => 0))) C hP hS hW rfl qarr_I 1 14 rfl (arr_I 512) (by decide) (by decide) (by decide) zap_I (by show _ ≤ 9; omega) (by show _ ≤ 4608; omega) dX1_init_44 (fun q17 H hq17 hsz hag C hP hS hW => ?_)
  have hX := gx_push hX hq17 hsz C.2.2.2.2.2.2.2.2.2.1
  have hA := hag.trans hA
  have hf := hf q17 hq17
  obtain ⟨G18, eG18, hf⟩ := bnd_ep hf
  obtain ⟨S19, eS19, hf⟩ := bnd_ep hf
  rw [← eG18, ← eS19] at hP hW
  rw [← eG18] at hA hX C hS
  have k_a : G18.2.1 a = 1 := by rw [eG18, push_k h_a hq17]; exact k_a
  have h_a : a ∈ G18.1 := by rw [eG18]; exact push_in h_a
  have h_q17 : q17 ∈ G18.1 := by rw [eG18]; exact push_q
  have k_q17 : G18.2.1 q17 = 14 := by rw [eG18]; exact push_kq
  obtain ⟨S20, eS20, hf⟩ := bnd_ep hf
  refine pf_X1_24 C hP hS h_a k_a hin eS20 dX1_init_46 (fun H locs hP hS => ?_)
  have hW : WT G18 S20 := by rw [eS20]; exact wt_uR hW ⟨h_q17, k_q17⟩
  refine lv_aload_n hx hb dX1_init_49 rfl (lv_at hl 0 rfl) ?_
  refine lv_sipush (v := 512) hx hb dX1_init_50 kc_sipush_512 ?_
  refine x_newarr (ty := .int) (N' := 512) (a0 := (512, .inl (fun _ => 0))) C hP hS hW rfl qarr_I 1 14 rfl (arr_I 512) (by decide) (by decide) (by decide) zap_I (by show _ ≤ 9; omega) (by show _ ≤ 4608; omega) dX1_init_53 (fun q21 H hq21 hsz hag C hP hS hW => ?_)
  have hX := gx_push hX hq21 hsz C.2.2.2.2.2.2.2.2.2.1
  have hA := hag.trans hA
  have hf := hf q21 hq21
  obtain ⟨G22, eG22, hf⟩ := bnd_ep hf
  obtain ⟨S23, eS23, hf⟩ := bnd_ep hf
  rw [← eG22, ← eS23] at hP hW
  rw [← eG22] at hA hX C hS
  have k_a : G22.2.1 a = 1 := by rw [eG22, push_k h_a hq21]; exact k_a
  have h_a : a ∈ G22.1 := by rw [eG22]; exact push_in h_a
  have h_q21 : q21 ∈ G22.1 := by rw [eG22]; exact push_q
  have k_q21 : G22.2.1 q21 = 14 := by rw [eG22]; exact push_kq
  obtain ⟨S24, eS24, hf⟩ := bnd_ep hf
  refine pf_X1_27 C hP hS h_a k_a hin eS24 dX1_init_55 (fun H locs hP hS => ?_)
  have hW : WT G22 S24 := by rw [eS24]; exact wt_uR hW ⟨h_q21, k_q21⟩
  refine lv_aload_n hx hb dX1_init_58 rfl (lv_at hl 0 rfl) ?_
  refine lv_sipush (v := 512) hx hb dX1_init_59 kc_sipush_512 ?_
  refine x_newarr (ty := .boolean) (N' := 512) (a0 := (512, .inl (fun _ => 0))) C hP hS hW rfl qarr_Z 3 16 rfl (arr_Z 512) (by decide) (by decide) (by decide) zap_Z (by show _ ≤ 9; omega) (by show _ ≤ 4608; omega) dX1_init_62 (fun q25 H hq25 hsz hag C hP hS hW => ?_)
  have hX := gx_push hX hq25 hsz C.2.2.2.2.2.2.2.2.2.1
  have hA := hag.trans hA
  have hf := hf q25 hq25
  obtain ⟨G26, eG26, hf⟩ := bnd_ep hf
  obtain ⟨S27, eS27, hf⟩ := bnd_ep hf
  rw [← eG26, ← eS27] at hP hW
  rw [← eG26] at hA hX C hS
  have k_a : G26.2.1 a = 1 := by rw [eG26, push_k h_a hq25]; exact k_a
  have h_a : a ∈ G26.1 := by rw [eG26]; exact push_in h_a
  have h_q25 : q25 ∈ G26.1 := by rw [eG26]; exact push_q
  have k_q25 : G26.2.1 q25 = 16 := by rw [eG26]; exact push_kq
  obtain ⟨S28, eS28, hf⟩ := bnd_ep hf
  refine pf_X1_30 C hP hS h_a k_a hin eS28 dX1_init_64 (fun H locs hP hS => ?_)
  have hW : WT G26 S28 := by rw [eS28]; exact wt_uR hW ⟨h_q25, k_q25⟩
  refine lv_aload_n hx hb dX1_init_67 rfl (lv_at hl 0 rfl) ?_
  refine lv_sipush (v := 512) hx hb dX1_init_68 kc_sipush_512 ?_
  refine x_newarr (ty := .int) (N' := 512) (a0 := (512, .inl (fun _ => 0))) C hP hS hW rfl qarr_I 1 14 rfl (arr_I 512) (by decide) (by decide) (by decide) zap_I (by show _ ≤ 9; omega) (by show _ ≤ 4608; omega) dX1_init_71 (fun q29 H hq29 hsz hag C hP hS hW => ?_)
  have hX := gx_push hX hq29 hsz C.2.2.2.2.2.2.2.2.2.1
  have hA := hag.trans hA
  have hf := hf q29 hq29
  obtain ⟨G30, eG30, hf⟩ := bnd_ep hf
  obtain ⟨S31, eS31, hf⟩ := bnd_ep hf
  rw [← eG30, ← eS31] at hP hW
  rw [← eG30] at hA hX C hS
  have k_a : G30.2.1 a = 1 := by rw [eG30, push_k h_a hq29]; exact k_a
  have h_a : a ∈ G30.1 := by rw [eG30]; exact push_in h_a
  have h_q29 : q29 ∈ G30.1 := by rw [eG30]; exact push_q
  have k_q29 : G30.2.1 q29 = 14 := by rw [eG30]; exact push_kq
  obtain ⟨S32, eS32, hf⟩ := bnd_ep hf
  refine pf_X1_34 C hP hS h_a k_a hin eS32 dX1_init_73 (fun H locs hP hS => ?_)
  have hW : WT G30 S32 := by rw [eS32]; exact wt_uR hW ⟨h_q29, k_q29⟩
  refine lv_aload_n hx hb dX1_init_76 rfl (lv_at hl 0 rfl) ?_
  refine lv_sipush (v := 512) hx hb dX1_init_77 kc_sipush_512 ?_
  refine x_newarr (ty := .int) (N' := 512) (a0 := (512, .inl (fun _ => 0))) C hP hS hW rfl qarr_I 1 14 rfl (arr_I 512) (by decide) (by decide) (by decide) zap_I (by show _ ≤ 9; omega) (by show _ ≤ 4608; omega) dX1_init_80 (fun q33 H hq33 hsz hag C hP hS hW => ?_)
  have hX := gx_push hX hq33 hsz C.2.2.2.2.2.2.2.2.2.1
  have hA := hag.trans hA
  have hf := hf q33 hq33
  obtain ⟨G34, eG34, hf⟩ := bnd_ep hf
  obtain ⟨S35, eS35, hf⟩ := bnd_ep hf
  rw [← eG34, ← eS35] at hP hW
  rw [← eG34] at hA hX C hS
  have k_a : G34.2.1 a = 1 := by rw [eG34, push_k h_a hq33]; exact k_a
  have h_a : a ∈ G34.1 := by rw [eG34]; exact push_in h_a
  have h_q33 : q33 ∈ G34.1 := by rw [eG34]; exact push_q
  have k_q33 : G34.2.1 q33 = 14 := by rw [eG34]; exact push_kq
  obtain ⟨S36, eS36, hf⟩ := bnd_ep hf
  refine pf_X1_37 C hP hS h_a k_a hin eS36 dX1_init_82 (fun H locs hP hS => ?_)
  have hW : WT G34 S36 := by rw [eS36]; exact wt_uR hW ⟨h_q33, k_q33⟩
  exact x_retvw C hA hX hP hS hW hf (by show _ ≤ 9; omega) (by show _ ≤ 4608; omega) dX1_init_85
def w_X7_init (a : Nat) (G : GS) (S : HS) (P : GS → HS → Prop) : Prop :=
  ∀ q1 : Nat, q1 ∉ G.1 → bnd (pushG G q1 14 6) fun G2 => bnd (zap q1 S) fun S3 =>
  bnd (uR S3 700 a (some q1)) fun S4 =>
  bnd (uI S4 701 a (-1)) fun S5 =>
  bnd (uI S5 702 a 0) fun S6 =>
  P G2 S6
set_option maxRecDepth 100000 in
set_option maxHeartbeats 4000000 in
theorem c_X7_init {l : Launch} {V : EV} {G : GS} {S : HS} {a : Nat} {P : GS → HS → Prop} (hN : G.1.Nodup) (hW : WT G S) (h_a : a ∈ G.1) (k_a : G.2.1 a = 7) (hf : w_X7_init a G S P) : MetVW l yX7_init cX7_init 1 1 28 1 6 V G S [.ref a] P := by
  intro sz
  refine x_in RX7 rfl (by decide +kernel) hN (Nat.le_of_ble_eq_true rfl) (fun p e s m args below meth c ls hsz hargs hnm C hP hS hl => ?_)
  subst hsz
  have hx := C.1
  have hb := C.2.1
  have hin : meth.name = "<init>" := hnm
  have hA : AG G s.heap.size = AG G s.heap.size := rfl
  have hX : GX G s.heap.size G := gx_rf hN
  have hl : lv_has ls 1 [(0, .ref a)] := hl
  unfold w_X7_init at hf
  refine lv_aload_n hx hb dX7_init_0 rfl (lv_at hl 0 rfl) ?_
  refine x_obj C qobj_X7_3 qobji qobjc hl.1 dX7_init_1 (by show _ ≤ _; decide) (by show _ ≤ _; decide) ?_
  refine lv_aload_n hx hb dX7_init_4 rfl (lv_at hl 0 rfl) ?_
  refine lv_bipush (v := 6) hx hb dX7_init_5 kc_bipush_6 ?_
  refine x_newarr (ty := .int) (N' := 6) (a0 := (6, .inl (fun _ => 0))) C hP hS hW rfl qarr_I 1 14 rfl (arr_I 6) (by decide) (by decide) (by decide) zap_I (by show _ ≤ 1; omega) (by show _ ≤ 6; omega) dX7_init_7 (fun q1 H hq1 hsz hag C hP hS hW => ?_)
  have hX := gx_push hX hq1 hsz C.2.2.2.2.2.2.2.2.2.1
  have hA := hag.trans hA
  have hf := hf q1 hq1
  obtain ⟨G2, eG2, hf⟩ := bnd_ep hf
  obtain ⟨S3, eS3, hf⟩ := bnd_ep hf
  rw [← eG2, ← eS3] at hP hW
  rw [← eG2] at hA hX C hS
  have k_a : G2.2.1 a = 7 := by rw [eG2, push_k h_a hq1]; exact k_a
  have h_a : a ∈ G2.1 := by rw [eG2]; exact push_in h_a
  have h_q1 : q1 ∈ G2.1 := by rw [eG2]; exact push_q
  have k_q1 : G2.2.1 q1 = 14 := by rw [eG2]; exact push_kq
  obtain ⟨S4, eS4, hf⟩ := bnd_ep hf
  refine pf_X7_9 C hP hS h_a k_a hin eS4 dX7_init_9 (fun H locs hP hS => ?_)
  have hW : WT G2 S4 := by rw [eS4]; exact wt_uR hW ⟨h_q1, k_q1⟩
  refine lv_aload_n hx hb dX7_init_12 rfl (lv_at hl 0 rfl) ?_
  refine lv_iconst (v := (-1)) hx hb dX7_init_13 rfl ?_
  obtain ⟨S5, eS5, hf⟩ := bnd_ep hf
  refine pf_X7_15 C hP hS h_a k_a eS5 dX7_init_14 (fun H locs hP hS => ?_)
  have hW : WT G2 S5 := by rw [eS5]; exact hW
  refine lv_aload_n hx hb dX7_init_17 rfl (lv_at hl 0 rfl) ?_
  refine lv_iconst (v := 0) hx hb dX7_init_18 rfl ?_
  obtain ⟨S6, eS6, hf⟩ := bnd_ep hf
  refine pf_X7_19 C hP hS h_a k_a eS6 dX7_init_19 (fun H locs hP hS => ?_)
  have hW : WT G2 S6 := by rw [eS6]; exact hW
  exact x_retvw C hA hX hP hS hW hf (by show _ ≤ 1; omega) (by show _ ≤ 6; omega) dX7_init_22
def w_X4_init_L23 (P : GS → HS → Prop) : Nat → Nat → Int32 → GS → HS → Prop
  | 0, _, _, _, _ => False
  | n + 1, v0, v1, G, S => if (16 : Int32) ≤ v1 then
  P G S
  else
  bd1p (gR S 400 v0) fun t10 =>
  ∀ q11 : Nat, q11 ∉ G.1 → bnd (pushG G q11 7 0) fun G12 => bnd (zap q11 S) fun S13 =>
  w_X7_init q11 G12 S13 (fun G14 S15 =>
  if inB v1 (G14.2.2 t10) = true then
  bnd (wR S15 t10 (v1.toNatClampNeg) (some q11)) fun S18 =>
  bnd (v1 + Int32.ofInt 1 : Int32) fun x19 =>
  w_X4_init_L23 P n v0 x19 G14 S18
  else False)
def w_X4_init (a : Nat) (G : GS) (S : HS) (P : GS → HS → Prop) : Prop :=
  ∀ q1 : Nat, q1 ∉ G.1 → bnd (pushG G q1 18 16) fun G2 => bnd (zap q1 S) fun S3 =>
  bnd (uR S3 400 a (some q1)) fun S4 =>
  ∀ q5 : Nat, q5 ∉ G2.1 → bnd (pushG G2 q5 16 16) fun G6 => bnd (zap q5 S4) fun S7 =>
  bnd (uR S7 401 a (some q5)) fun S8 =>
  w_X4_init_L23 P 17 a 0 G6 S8
set_option maxRecDepth 100000 in
set_option maxHeartbeats 4000000 in
theorem b_X4_init_23 {p : Program} {l : Launch} {e : Env} {s : State} {m : MethodId} {args : Array Value} {below : List Frame} {meth : Method} {c : Code} {V : EV} {G0 : GS} {P : GS → HS → Prop} : ∀ n : Nat, ∀ (v0 : Nat) (v1 : Int32) (G : GS) (h_v0 : v0 ∈ G.1) (k_v0 : G.2.1 v0 = 4) (S : HS) (H : Heap) (locs : List Loc) (ls : Array Slot) (cells slots : Nat), CX p s m args meth c RX4 cX4_init 2 none V G → AG G s.heap.size = AG G0 s.heap.size → GX G0 s.heap.size G → w_X4_init_L23 P n v0 v1 G S → HP V G S H → va_S (AG G s.heap.size) s.heap H locs → WT G S → lv_has ls 2 [(0, .ref v0), (1, .int v1)] → cells + 2 * n ≤ 36 → slots + 10 * n ≤ 202 → W p l e (RMA 2 56 36 202) s m args below meth c H locs cells slots (MQ below (QVW V G0 s.heap.size P) args s 36 202 (AG G0 s.heap.size)) (F0 m 23 ls []) := by
  intro n
  induction n with
  | zero =>
    intro v0 v1 G h_v0 k_v0 S H locs ls cells slots _ _ _ hf
    rw [w_X4_init_L23] at hf
    exact hf.elim
  | succ n ih =>
    intro v0 v1 G h_v0 k_v0 S H locs ls cells slots C hA hX hf hP hS hW hl hcl hsl
    have hx := C.1
    have hb := C.2.1
    rw [w_X4_init_L23] at hf
    refine lv_iload_n hx hb dX4_init_23 rfl (lv_at hl 1 rfl) ?_
    refine lv_bipush (v := 16) hx hb dX4_init_24 kc_bipush_16 ?_
    refine lv_icmp_ge (tgt := 48) hx hb dX4_init_26 (by decide) (fun c9 => ?_) (fun c9 => ?_)
    · have hf := if_tp c9 hf
      exact x_retvw C hA hX hP hS hW hf (by show _ ≤ 36; omega) (by show _ ≤ 202; omega) dX4_init_48
    · have hf := if_fp c9 hf
      refine lv_aload_n hx hb dX4_init_29 rfl (lv_at hl 0 rfl) ?_
      refine gf_X4_11 C hP h_v0 k_v0 dX4_init_30 ?_
      obtain ⟨t10, et10, hf⟩ := bd1_ep hf
      obtain ⟨h_t10, k_t10⟩ := wt_r hW h_v0 k_v0 (by decide) et10
      have k_t10 : G.2.1 t10 = 18 := k_t10
      rw [et10]
      refine lv_iload_n hx hb dX4_init_33 rfl (lv_at hl 1 rfl) ?_
      refine x_new (ci := 7) C hP hS hW (by decide) rfl inTB_7 tyX7 tyX7_ok qcl_X4_9 qin_7 qini_7 (by decide +kernel) (by show _ ≤ 36; omega) (by show _ ≤ 202; omega) dX4_init_34 (fun q11 H hq11 hsz hag C hP hS hW => ?_)
      have hX := gx_push hX hq11 hsz C.2.2.2.2.2.2.2.2.2.1
      have hA := hag.trans hA
      have hf := hf q11 hq11
      obtain ⟨G12, eG12, hf⟩ := bnd_ep hf
      obtain ⟨S13, eS13, hf⟩ := bnd_ep hf
      rw [← eG12, ← eS13] at hP hW
      rw [← eG12] at hA hX C hS
      have k_v0 : G12.2.1 v0 = 4 := by rw [eG12, push_k h_v0 hq11]; exact k_v0
      have h_v0 : v0 ∈ G12.1 := by rw [eG12]; exact push_in h_v0
      have k_t10 : G12.2.1 t10 = 18 := by rw [eG12, push_k h_t10 hq11]; exact k_t10
      have h_t10 : t10 ∈ G12.1 := by rw [eG12]; exact push_in h_t10
      have h_q11 : q11 ∈ G12.1 := by rw [eG12]; exact push_q
      have k_q11 : G12.2.1 q11 = 7 := by rw [eG12]; exact push_kq
      refine lv_dup hx hb dX4_init_37 rfl ?_
      refine y_aft_v (mc := 1) (ms := 6) C hX (y_runI (rm := (RMA 1 28 1 6)) (As := []) (rest := [.ref q11, .int v1, .ref t10]) C hP hS (c_X7_init (l := l) C.2.2.2.2.2.2.2.2.2.1 hW h_q11 k_q11 hf H.size) km_X7_init kn_X7_init rfl qm_X4_21 ⟨(by show _ ≤ _; decide), (by show _ ≤ _; decide)⟩ rfl hl.1 rfl (Nat.le_of_ble_eq_true rfl) ⟨(by show _ + 1 ≤ 36; omega), (by show _ + 6 ≤ 202; omega)⟩ dX4_init_38) hS (fun G14 S15 H locs hf hold hag hX C hP hS hW => ?_)
      have hA := hag.trans hA
      have k_v0 : G14.2.1 v0 = 4 := (hold _ h_v0).2.trans k_v0
      have h_v0 : v0 ∈ G14.1 := (hold _ h_v0).1
      have k_t10 : G14.2.1 t10 = 18 := (hold _ h_t10).2.trans k_t10
      have h_t10 : t10 ∈ G14.1 := (hold _ h_t10).1
      have k_q11 : G14.2.1 q11 = 7 := (hold _ h_q11).2.trans k_q11
      have h_q11 : q11 ∈ G14.1 := (hold _ h_q11).1
      obtain ⟨h17, hf⟩ := if_sp hf
      obtain ⟨S18, eS18, hf⟩ := bnd_ep hf
      refine x_Sast C hP hS h_t10 k_t10 h_q11 k_q11 h17 eS18 dX4_init_41 (fun H locs hP hS => ?_)
      have hW : WT G14 S18 := by rw [eS18]; exact wt_wRS hW k_t10 ⟨h_q11, k_q11⟩
      obtain ⟨x19, ex19, hf⟩ := bnd_ep hf
      refine lv_iinc (v := x19) (lv' := [(1, .int x19), (0, .ref v0)]) hx hb dX4_init_42 hl (k := 1) rfl ex19.symm (by decide) rfl (fun ls hl => ?_)
      refine lv_goto (tgt := 23) hx hb dX4_init_45 (by decide) ?_
      exact ih v0 x19 G14 h_v0 k_v0 S18 H locs _ _ _ C hA hX hf hP hS hW (lv_sub hl [1, 0] rfl) (by omega) (by omega)
set_option maxRecDepth 100000 in
set_option maxHeartbeats 4000000 in
theorem c_X4_init {l : Launch} {V : EV} {G : GS} {S : HS} {a : Nat} {P : GS → HS → Prop} (hN : G.1.Nodup) (hW : WT G S) (h_a : a ∈ G.1) (k_a : G.2.1 a = 4) (hf : w_X4_init a G S P) : MetVW l yX4_init cX4_init 2 2 56 36 202 V G S [.ref a] P := by
  intro sz
  refine x_in RX4 rfl (by decide +kernel) hN (Nat.le_of_ble_eq_true rfl) (fun p e s m args below meth c ls hsz hargs hnm C hP hS hl => ?_)
  subst hsz
  have hx := C.1
  have hb := C.2.1
  have hin : meth.name = "<init>" := hnm
  have hA : AG G s.heap.size = AG G s.heap.size := rfl
  have hX : GX G s.heap.size G := gx_rf hN
  have hl : lv_has ls 2 [(0, .ref a)] := hl
  unfold w_X4_init at hf
  refine lv_aload_n hx hb dX4_init_0 rfl (lv_at hl 0 rfl) ?_
  refine x_obj C qobj_X4_3 qobji qobjc hl.1 dX4_init_1 (by show _ ≤ _; decide) (by show _ ≤ _; decide) ?_
  refine lv_aload_n hx hb dX4_init_4 rfl (lv_at hl 0 rfl) ?_
  refine lv_bipush (v := 16) hx hb dX4_init_5 kc_bipush_16 ?_
  refine x_newref (N' := 16) C hP hS hW qcl_X4_9 (qao_S C) 5 18 rfl (by decide) (by decide) (by decide) zap_S (by show _ ≤ 36; omega) (by show _ ≤ 202; omega) dX4_init_7 (fun q1 H hq1 hsz hag C hP hS hW => ?_)
  have hX := gx_push hX hq1 hsz C.2.2.2.2.2.2.2.2.2.1
  have hA := hag.trans hA
  have hf := hf q1 hq1
  obtain ⟨G2, eG2, hf⟩ := bnd_ep hf
  obtain ⟨S3, eS3, hf⟩ := bnd_ep hf
  rw [← eG2, ← eS3] at hP hW
  rw [← eG2] at hA hX C hS
  have k_a : G2.2.1 a = 4 := by rw [eG2, push_k h_a hq1]; exact k_a
  have h_a : a ∈ G2.1 := by rw [eG2]; exact push_in h_a
  have h_q1 : q1 ∈ G2.1 := by rw [eG2]; exact push_q
  have k_q1 : G2.2.1 q1 = 18 := by rw [eG2]; exact push_kq
  obtain ⟨S4, eS4, hf⟩ := bnd_ep hf
  refine pf_X4_11 C hP hS h_a k_a hin eS4 dX4_init_10 (fun H locs hP hS => ?_)
  have hW : WT G2 S4 := by rw [eS4]; exact wt_uR hW ⟨h_q1, k_q1⟩
  refine lv_aload_n hx hb dX4_init_13 rfl (lv_at hl 0 rfl) ?_
  refine lv_bipush (v := 16) hx hb dX4_init_14 kc_bipush_16 ?_
  refine x_newarr (ty := .boolean) (N' := 16) (a0 := (16, .inl (fun _ => 0))) C hP hS hW rfl qarr_Z 3 16 rfl (arr_Z 16) (by decide) (by decide) (by decide) zap_Z (by show _ ≤ 36; omega) (by show _ ≤ 202; omega) dX4_init_16 (fun q5 H hq5 hsz hag C hP hS hW => ?_)
  have hX := gx_push hX hq5 hsz C.2.2.2.2.2.2.2.2.2.1
  have hA := hag.trans hA
  have hf := hf q5 hq5
  obtain ⟨G6, eG6, hf⟩ := bnd_ep hf
  obtain ⟨S7, eS7, hf⟩ := bnd_ep hf
  rw [← eG6, ← eS7] at hP hW
  rw [← eG6] at hA hX C hS
  have k_a : G6.2.1 a = 4 := by rw [eG6, push_k h_a hq5]; exact k_a
  have h_a : a ∈ G6.1 := by rw [eG6]; exact push_in h_a
  have h_q5 : q5 ∈ G6.1 := by rw [eG6]; exact push_q
  have k_q5 : G6.2.1 q5 = 16 := by rw [eG6]; exact push_kq
  obtain ⟨S8, eS8, hf⟩ := bnd_ep hf
  refine pf_X4_17 C hP hS h_a k_a hin eS8 dX4_init_18 (fun H locs hP hS => ?_)
  have hW : WT G6 S8 := by rw [eS8]; exact wt_uR hW ⟨h_q5, k_q5⟩
  refine lv_iconst (v := 0) hx hb dX4_init_21 rfl ?_
  refine lv_istore_n (lv' := [(1, .int 0), (0, .ref a)]) hx hb dX4_init_22 rfl hl (by decide) rfl (fun ls hl => ?_)
  exact b_X4_init_23 17 a 0 G6 h_a k_a S8 H locs _ _ _ C hA hX hf hP hS hW (lv_sub hl [1, 0] rfl) (by omega) (by omega)
def w_X5_init (a : Nat) (G : GS) (S : HS) (P : GS → HS → Prop) : Prop :=
  ∀ q1 : Nat, q1 ∉ G.1 → bnd (pushG G q1 14 150) fun G2 => bnd (zap q1 S) fun S3 =>
  bnd (uR S3 500 a (some q1)) fun S4 =>
  P G2 S4
set_option maxRecDepth 100000 in
set_option maxHeartbeats 4000000 in
theorem c_X5_init {l : Launch} {V : EV} {G : GS} {S : HS} {a : Nat} {P : GS → HS → Prop} (hN : G.1.Nodup) (hW : WT G S) (h_a : a ∈ G.1) (k_a : G.2.1 a = 5) (hf : w_X5_init a G S P) : MetVW l yX5_init cX5_init 1 1 28 1 150 V G S [.ref a] P := by
  intro sz
  refine x_in RX5 rfl (by decide +kernel) hN (Nat.le_of_ble_eq_true rfl) (fun p e s m args below meth c ls hsz hargs hnm C hP hS hl => ?_)
  subst hsz
  have hx := C.1
  have hb := C.2.1
  have hin : meth.name = "<init>" := hnm
  have hA : AG G s.heap.size = AG G s.heap.size := rfl
  have hX : GX G s.heap.size G := gx_rf hN
  have hl : lv_has ls 1 [(0, .ref a)] := hl
  unfold w_X5_init at hf
  refine lv_aload_n hx hb dX5_init_0 rfl (lv_at hl 0 rfl) ?_
  refine x_obj C qobj_X5_3 qobji qobjc hl.1 dX5_init_1 (by show _ ≤ _; decide) (by show _ ≤ _; decide) ?_
  refine lv_aload_n hx hb dX5_init_4 rfl (lv_at hl 0 rfl) ?_
  refine lv_sipush (v := 150) hx hb dX5_init_5 kc_sipush_150 ?_
  refine x_newarr (ty := .int) (N' := 150) (a0 := (150, .inl (fun _ => 0))) C hP hS hW rfl qarr_I 1 14 rfl (arr_I 150) (by decide) (by decide) (by decide) zap_I (by show _ ≤ 1; omega) (by show _ ≤ 150; omega) dX5_init_8 (fun q1 H hq1 hsz hag C hP hS hW => ?_)
  have hX := gx_push hX hq1 hsz C.2.2.2.2.2.2.2.2.2.1
  have hA := hag.trans hA
  have hf := hf q1 hq1
  obtain ⟨G2, eG2, hf⟩ := bnd_ep hf
  obtain ⟨S3, eS3, hf⟩ := bnd_ep hf
  rw [← eG2, ← eS3] at hP hW
  rw [← eG2] at hA hX C hS
  have k_a : G2.2.1 a = 5 := by rw [eG2, push_k h_a hq1]; exact k_a
  have h_a : a ∈ G2.1 := by rw [eG2]; exact push_in h_a
  have h_q1 : q1 ∈ G2.1 := by rw [eG2]; exact push_q
  have k_q1 : G2.2.1 q1 = 14 := by rw [eG2]; exact push_kq
  obtain ⟨S4, eS4, hf⟩ := bnd_ep hf
  refine pf_X5_11 C hP hS h_a k_a hin eS4 dX5_init_10 (fun H locs hP hS => ?_)
  have hW : WT G2 S4 := by rw [eS4]; exact wt_uR hW ⟨h_q1, k_q1⟩
  exact x_retvw C hA hX hP hS hW hf (by show _ ≤ 1; omega) (by show _ ≤ 150; omega) dX5_init_13
def w_X8_init (a : Nat) (G : GS) (S : HS) (P : GS → HS → Prop) : Prop :=
  ∀ q1 : Nat, q1 ∉ G.1 → bnd (pushG G q1 13 1000) fun G2 => bnd (zap q1 S) fun S3 =>
  bnd (uR S3 800 a (some q1)) fun S4 =>
  P G2 S4
set_option maxRecDepth 100000 in
set_option maxHeartbeats 4000000 in
theorem c_X8_init {l : Launch} {V : EV} {G : GS} {S : HS} {a : Nat} {P : GS → HS → Prop} (hN : G.1.Nodup) (hW : WT G S) (h_a : a ∈ G.1) (k_a : G.2.1 a = 8) (hf : w_X8_init a G S P) : MetVW l yX8_init cX8_init 1 1 28 1 1000 V G S [.ref a] P := by
  intro sz
  refine x_in RX8 rfl (by decide +kernel) hN (Nat.le_of_ble_eq_true rfl) (fun p e s m args below meth c ls hsz hargs hnm C hP hS hl => ?_)
  subst hsz
  have hx := C.1
  have hb := C.2.1
  have hin : meth.name = "<init>" := hnm
  have hA : AG G s.heap.size = AG G s.heap.size := rfl
  have hX : GX G s.heap.size G := gx_rf hN
  have hl : lv_has ls 1 [(0, .ref a)] := hl
  unfold w_X8_init at hf
  refine lv_aload_n hx hb dX8_init_0 rfl (lv_at hl 0 rfl) ?_
  refine x_obj C qobj_X8_3 qobji qobjc hl.1 dX8_init_1 (by show _ ≤ _; decide) (by show _ ≤ _; decide) ?_
  refine lv_aload_n hx hb dX8_init_4 rfl (lv_at hl 0 rfl) ?_
  refine lv_sipush (v := 1000) hx hb dX8_init_5 kc_sipush_1000 ?_
  refine x_newarr (ty := .char) (N' := 1000) (a0 := (1000, .inl (fun _ => 0))) C hP hS hW rfl qarr_C 0 13 rfl (arr_C 1000) (by decide) (by decide) (by decide) zap_C (by show _ ≤ 1; omega) (by show _ ≤ 1000; omega) dX8_init_8 (fun q1 H hq1 hsz hag C hP hS hW => ?_)
  have hX := gx_push hX hq1 hsz C.2.2.2.2.2.2.2.2.2.1
  have hA := hag.trans hA
  have hf := hf q1 hq1
  obtain ⟨G2, eG2, hf⟩ := bnd_ep hf
  obtain ⟨S3, eS3, hf⟩ := bnd_ep hf
  rw [← eG2, ← eS3] at hP hW
  rw [← eG2] at hA hX C hS
  have k_a : G2.2.1 a = 8 := by rw [eG2, push_k h_a hq1]; exact k_a
  have h_a : a ∈ G2.1 := by rw [eG2]; exact push_in h_a
  have h_q1 : q1 ∈ G2.1 := by rw [eG2]; exact push_q
  have k_q1 : G2.2.1 q1 = 13 := by rw [eG2]; exact push_kq
  obtain ⟨S4, eS4, hf⟩ := bnd_ep hf
  refine pf_X8_9 C hP hS h_a k_a hin eS4 dX8_init_10 (fun H locs hP hS => ?_)
  have hW : WT G2 S4 := by rw [eS4]; exact wt_uR hW ⟨h_q1, k_q1⟩
  exact x_retvw C hA hX hP hS hW hf (by show _ ≤ 1; omega) (by show _ ≤ 1000; omega) dX8_init_13
def w_X9_init (a : Nat) (G : GS) (S : HS) (P : GS → HS → Prop) : Prop :=
  ∀ q1 : Nat, q1 ∉ G.1 → bnd (pushG G q1 17 4) fun G2 => bnd (zap q1 S) fun S3 =>
  bnd (uR S3 900 a (some q1)) fun S4 =>
  ∀ q5 : Nat, q5 ∉ G2.1 → bnd (pushG G2 q5 15 4) fun G6 => bnd (zap q5 S4) fun S7 =>
  bnd (uR S7 901 a (some q5)) fun S8 =>
  ∀ q9 : Nat, q9 ∉ G6.1 → bnd (pushG G6 q9 15 6) fun G10 => bnd (zap q9 S8) fun S11 =>
  bnd (uR S11 902 a (some q9)) fun S12 =>
  P G10 S12
set_option maxRecDepth 100000 in
set_option maxHeartbeats 4000000 in
theorem c_X9_init {l : Launch} {V : EV} {G : GS} {S : HS} {a : Nat} {P : GS → HS → Prop} (hN : G.1.Nodup) (hW : WT G S) (h_a : a ∈ G.1) (k_a : G.2.1 a = 9) (hf : w_X9_init a G S P) : MetVW l yX9_init cX9_init 1 1 28 3 14 V G S [.ref a] P := by
  intro sz
  refine x_in RX9 rfl (by decide +kernel) hN (Nat.le_of_ble_eq_true rfl) (fun p e s m args below meth c ls hsz hargs hnm C hP hS hl => ?_)
  subst hsz
  have hx := C.1
  have hb := C.2.1
  have hin : meth.name = "<init>" := hnm
  have hA : AG G s.heap.size = AG G s.heap.size := rfl
  have hX : GX G s.heap.size G := gx_rf hN
  have hl : lv_has ls 1 [(0, .ref a)] := hl
  unfold w_X9_init at hf
  refine lv_aload_n hx hb dX9_init_0 rfl (lv_at hl 0 rfl) ?_
  refine x_obj C qobj_X9_3 qobji qobjc hl.1 dX9_init_1 (by show _ ≤ _; decide) (by show _ ≤ _; decide) ?_
  refine lv_aload_n hx hb dX9_init_4 rfl (lv_at hl 0 rfl) ?_
  refine lv_iconst (v := 4) hx hb dX9_init_5 rfl ?_
  refine x_newref (N' := 4) C hP hS hW qcl_X9_9 (qao_F C) 4 17 rfl (by decide) (by decide) (by decide) zap_F (by show _ ≤ 3; omega) (by show _ ≤ 14; omega) dX9_init_6 (fun q1 H hq1 hsz hag C hP hS hW => ?_)
  have hX := gx_push hX hq1 hsz C.2.2.2.2.2.2.2.2.2.1
  have hA := hag.trans hA
  have hf := hf q1 hq1
  obtain ⟨G2, eG2, hf⟩ := bnd_ep hf
  obtain ⟨S3, eS3, hf⟩ := bnd_ep hf
  rw [← eG2, ← eS3] at hP hW
  rw [← eG2] at hA hX C hS
  have k_a : G2.2.1 a = 9 := by rw [eG2, push_k h_a hq1]; exact k_a
  have h_a : a ∈ G2.1 := by rw [eG2]; exact push_in h_a
  have h_q1 : q1 ∈ G2.1 := by rw [eG2]; exact push_q
  have k_q1 : G2.2.1 q1 = 17 := by rw [eG2]; exact push_kq
  obtain ⟨S4, eS4, hf⟩ := bnd_ep hf
  refine pf_X9_11 C hP hS h_a k_a hin eS4 dX9_init_9 (fun H locs hP hS => ?_)
  have hW : WT G2 S4 := by rw [eS4]; exact wt_uR hW ⟨h_q1, k_q1⟩
  refine lv_aload_n hx hb dX9_init_12 rfl (lv_at hl 0 rfl) ?_
  refine lv_iconst (v := 4) hx hb dX9_init_13 rfl ?_
  refine x_newarr (ty := .long) (N' := 4) (a0 := (4, .inr (.inl (fun _ => 0)))) C hP hS hW rfl qarr_J 2 15 rfl (arr_J 4) (by decide) (by decide) (by decide) zap_J (by show _ ≤ 3; omega) (by show _ ≤ 14; omega) dX9_init_14 (fun q5 H hq5 hsz hag C hP hS hW => ?_)
  have hX := gx_push hX hq5 hsz C.2.2.2.2.2.2.2.2.2.1
  have hA := hag.trans hA
  have hf := hf q5 hq5
  obtain ⟨G6, eG6, hf⟩ := bnd_ep hf
  obtain ⟨S7, eS7, hf⟩ := bnd_ep hf
  rw [← eG6, ← eS7] at hP hW
  rw [← eG6] at hA hX C hS
  have k_a : G6.2.1 a = 9 := by rw [eG6, push_k h_a hq5]; exact k_a
  have h_a : a ∈ G6.1 := by rw [eG6]; exact push_in h_a
  have h_q5 : q5 ∈ G6.1 := by rw [eG6]; exact push_q
  have k_q5 : G6.2.1 q5 = 15 := by rw [eG6]; exact push_kq
  obtain ⟨S8, eS8, hf⟩ := bnd_ep hf
  refine pf_X9_17 C hP hS h_a k_a hin eS8 dX9_init_16 (fun H locs hP hS => ?_)
  have hW : WT G6 S8 := by rw [eS8]; exact wt_uR hW ⟨h_q5, k_q5⟩
  refine lv_aload_n hx hb dX9_init_19 rfl (lv_at hl 0 rfl) ?_
  refine lv_bipush (v := 6) hx hb dX9_init_20 kc_bipush_6 ?_
  refine x_newarr (ty := .long) (N' := 6) (a0 := (6, .inr (.inl (fun _ => 0)))) C hP hS hW rfl qarr_J 2 15 rfl (arr_J 6) (by decide) (by decide) (by decide) zap_J (by show _ ≤ 3; omega) (by show _ ≤ 14; omega) dX9_init_22 (fun q9 H hq9 hsz hag C hP hS hW => ?_)
  have hX := gx_push hX hq9 hsz C.2.2.2.2.2.2.2.2.2.1
  have hA := hag.trans hA
  have hf := hf q9 hq9
  obtain ⟨G10, eG10, hf⟩ := bnd_ep hf
  obtain ⟨S11, eS11, hf⟩ := bnd_ep hf
  rw [← eG10, ← eS11] at hP hW
  rw [← eG10] at hA hX C hS
  have k_a : G10.2.1 a = 9 := by rw [eG10, push_k h_a hq9]; exact k_a
  have h_a : a ∈ G10.1 := by rw [eG10]; exact push_in h_a
  have h_q9 : q9 ∈ G10.1 := by rw [eG10]; exact push_q
  have k_q9 : G10.2.1 q9 = 15 := by rw [eG10]; exact push_kq
  obtain ⟨S12, eS12, hf⟩ := bnd_ep hf
  refine pf_X9_21 C hP hS h_a k_a hin eS12 dX9_init_24 (fun H locs hP hS => ?_)
  have hW : WT G10 S12 := by rw [eS12]; exact wt_uR hW ⟨h_q9, k_q9⟩
  exact x_retvw C hA hX hP hS hW hf (by show _ ≤ 3; omega) (by show _ ≤ 14; omega) dX9_init_27
def w_X10_readForm (F : Nat) (a : Nat) (G : GS) (S : HS) (P : GS → HS → Prop) : Prop :=
  bd1p (gR S 1001 a) fun t1 =>
  if (gI S 903 t1) = (4 : Int32) then
  bd1p (gR S 1000 a) fun t30 =>
  bnd (s_X8_blame t30 5 S) fun S31 =>
  P G S31
  else
  bd1p (gR S 1000 a) fun t3 =>
  bd1p (s_X8_advance G.2.2 F t3 S) fun S4 =>
  bd2p (s_X10_passNewName G.2.2 F a S4) fun r5 S6 =>
  bd2p (s_X10_passKind G.2.2 F a S6) fun r7 S8 =>
  bd1p (gR S8 1000 a) fun t9 =>
  bd1p (s_X8_passWord G.2.2 F t9 8 S8) fun S10 =>
  bd1p (gR S10 1000 a) fun t11 =>
  bd2p (s_X8_passNumber G.2.2 F t11 2 8 S10) fun r12 S13 =>
  bd1p (gR S13 1000 a) fun t14 =>
  bd1p (s_X8_passWord G.2.2 F t14 9 S13) fun S15 =>
  bd1p (gR S15 1000 a) fun t16 =>
  bd2p (s_X8_passNumber G.2.2 F t16 1 18 S15) fun r17 S18 =>
  bd1p (gR S18 1000 a) fun t19 =>
  bd1p (s_X8_passSign G.2.2 F t19 59 S18) fun S20 =>
  bd1p (gR S20 1000 a) fun t21 =>
  if (s_X8_isRight t21 S20) = (0 : Int32) then
  P G S20
  else
  bd1p (gR S20 1001 a) fun t24 =>
  ∀ q25 : Nat, q25 ∉ G.1 → bnd (pushG G q25 2 0) fun G26 => bnd (zap q25 S20) fun S27 =>
  bnd (s_X2_init q25 r7 r12 r17 S27) fun S28 =>
  bd1p (s_X9_tellForm G26.2.2 t24 r5 q25 S28) fun S29 =>
  P G26 S29
set_option maxRecDepth 100000 in
set_option maxHeartbeats 4000000 in
theorem c_X10_readForm {l : Launch} {V : EV} {G : GS} {S : HS} {F : Nat} {a : Nat} {P : GS → HS → Prop} (hN : G.1.Nodup) (hW : WT G S) (h_a : a ∈ G.1) (k_a : G.2.1 a = 10) (hf : w_X10_readForm F a G S P) : MetVW l yX10_readForm cX10_readForm 6 15 550 1 8 V G S [.ref a] P := by
  intro sz
  refine x_in RX10 rfl (by decide +kernel) hN (Nat.le_of_ble_eq_true rfl) (fun p e s m args below meth c ls hsz hargs hnm C hP hS hl => ?_)
  subst hsz
  have hx := C.1
  have hb := C.2.1
  have hA : AG G s.heap.size = AG G s.heap.size := rfl
  have hX : GX G s.heap.size G := gx_rf hN
  have hl : lv_has ls 6 [(0, .ref a)] := hl
  unfold w_X10_readForm at hf
  refine lv_aload_n hx hb dX10_readForm_0 rfl (lv_at hl 0 rfl) ?_
  refine gf_X10_15 C hP h_a k_a dX10_readForm_1 ?_
  obtain ⟨t1, et1, hf⟩ := bd1_ep hf
  obtain ⟨h_t1, k_t1⟩ := wt_r hW h_a k_a (by decide) et1
  have k_t1 : G.2.1 t1 = 9 := k_t1
  rw [et1]
  refine gf_X10_51 C hP h_t1 k_t1 dX10_readForm_4 ?_
  refine lv_iconst (v := 4) hx hb dX10_readForm_7 rfl ?_
  refine lv_icmp_ne (tgt := 20) hx hb dX10_readForm_8 (by decide) (fun c2 => ?_) (fun c2 => ?_)
  · have hf := if_fp c2 hf
    refine lv_aload_n hx hb dX10_readForm_20 rfl (lv_at hl 0 rfl) ?_
    refine gf_X10_9 C hP h_a k_a dX10_readForm_21 ?_
    obtain ⟨t3, et3, hf⟩ := bd1_ep hf
    obtain ⟨h_t3, k_t3⟩ := wt_r hW h_a k_a (by decide) et3
    have k_t3 : G.2.1 t3 = 8 := k_t3
    rw [et3]
    obtain ⟨S4, eS4, hf⟩ := bd1_ep hf
    refine x_aft_v (x_runV (As := []) (rest := []) C hP hS (c_X8_advance (l := l) C.2.2.2.2.2.2.2.2.2.1 hW h_t3 k_t3 eS4 s.heap.size) h_t3 k_t3 (by decide) rfl rfl km_X8_advance ki_X8_advance qm_X10_57 ⟨(by show _ ≤ _; decide), (by show _ ≤ _; decide)⟩ rfl hl.1 rfl (Nat.le_of_ble_eq_true rfl) ⟨(by show _ ≤ 1; omega), (by show _ ≤ 8; omega)⟩ dX10_readForm_24) hS (fun H locs hP hS hW => ?_)
    refine lv_aload_n hx hb dX10_readForm_27 rfl (lv_at hl 0 rfl) ?_
    obtain ⟨r5, S6, eS6, hf⟩ := bd2_ep hf
    refine x_aft_l (x_runV (As := []) (rest := []) C hP hS (c_X10_passNewName (l := l) C.2.2.2.2.2.2.2.2.2.1 hW h_a k_a eS6 H.size) h_a k_a (by decide) rfl rfl km_X10_passNewName ki_X10_passNewName qm_X10_60 ⟨(by show _ ≤ _; decide), (by show _ ≤ _; decide)⟩ rfl hl.1 rfl (Nat.le_of_ble_eq_true rfl) ⟨(by show _ ≤ 1; omega), (by show _ ≤ 8; omega)⟩ dX10_readForm_28) hS (fun H locs hP hS hW => ?_)
    refine lv_lstore_n (lv' := [(1, .long r5), (0, .ref a)]) hx hb dX10_readForm_31 rfl hl (by decide) rfl (fun ls hl => ?_)
    refine lv_aload_n hx hb dX10_readForm_32 rfl (lv_at hl 1 rfl) ?_
    obtain ⟨r7, S8, eS8, hf⟩ := bd2_ep hf
    refine x_aft_i (x_runV (As := []) (rest := []) C hP hS (c_X10_passKind (l := l) C.2.2.2.2.2.2.2.2.2.1 hW h_a k_a eS8 H.size) h_a k_a (by decide) rfl rfl km_X10_passKind ki_X10_passKind qm_X10_64 ⟨(by show _ ≤ _; decide), (by show _ ≤ _; decide)⟩ rfl hl.1 rfl (Nat.le_of_ble_eq_true rfl) ⟨(by show _ ≤ 1; omega), (by show _ ≤ 8; omega)⟩ dX10_readForm_33) hS (fun H locs hP hS hW => ?_)
    refine lv_istore_n (lv' := [(3, .int r7), (1, .long r5), (0, .ref a)]) hx hb dX10_readForm_36 rfl hl (by decide) rfl (fun ls hl => ?_)
    refine lv_aload_n hx hb dX10_readForm_37 rfl (lv_at hl 2 rfl) ?_
    refine gf_X10_9 C hP h_a k_a dX10_readForm_38 ?_
    obtain ⟨t9, et9, hf⟩ := bd1_ep hf
    obtain ⟨h_t9, k_t9⟩ := wt_r hW h_a k_a (by decide) et9
    have k_t9 : G.2.1 t9 = 8 := k_t9
    rw [et9]
    refine va_ldcS hx hb C.2.2.2.2.1 (C.2.2.2.2.2.2.2.2.1.1.2 (RX10, 68, "exp", 8) (List.mem_of_getElem? (i := 18) rfl)) dX10_readForm_41 ?_
    obtain ⟨S10, eS10, hf⟩ := bd1_ep hf
    refine x_aft_v (x_runV (As := [.ref (V.2.2.1 8)]) (rest := []) C hP hS (c_X8_passWord (l := l) C.2.2.2.2.2.2.2.2.2.1 hW h_t9 k_t9 (by decide) eS10 H.size) h_t9 k_t9 (by decide) rfl rfl km_X8_passWord ki_X8_passWord qm_X10_70 ⟨(by show _ ≤ _; decide), (by show _ ≤ _; decide)⟩ rfl hl.1 rfl (Nat.le_of_ble_eq_true rfl) ⟨(by show _ ≤ 1; omega), (by show _ ≤ 8; omega)⟩ dX10_readForm_43) hS (fun H locs hP hS hW => ?_)
    refine lv_aload_n hx hb dX10_readForm_46 rfl (lv_at hl 2 rfl) ?_
    refine gf_X10_9 C hP h_a k_a dX10_readForm_47 ?_
    obtain ⟨t11, et11, hf⟩ := bd1_ep hf
    obtain ⟨h_t11, k_t11⟩ := wt_r hW h_a k_a (by decide) et11
    have k_t11 : G.2.1 t11 = 8 := k_t11
    rw [et11]
    refine lv_iconst (v := 2) hx hb dX10_readForm_50 rfl ?_
    refine lv_bipush (v := 8) hx hb dX10_readForm_51 kc_bipush_8 ?_
    obtain ⟨r12, S13, eS13, hf⟩ := bd2_ep hf
    refine x_aft_i (x_runV (As := [.int 2, .int 8]) (rest := []) C hP hS (c_X8_passNumber (l := l) C.2.2.2.2.2.2.2.2.2.1 hW h_t11 k_t11 eS13 H.size) h_t11 k_t11 (by decide) rfl rfl km_X8_passNumber ki_X8_passNumber qm_X10_74 ⟨(by show _ ≤ _; decide), (by show _ ≤ _; decide)⟩ rfl hl.1 rfl (Nat.le_of_ble_eq_true rfl) ⟨(by show _ ≤ 1; omega), (by show _ ≤ 8; omega)⟩ dX10_readForm_53) hS (fun H locs hP hS hW => ?_)
    refine lv_istore (lv' := [(4, .int r12), (3, .int r7), (1, .long r5), (0, .ref a)]) hx hb dX10_readForm_56 hl (by decide) rfl (fun ls hl => ?_)
    refine lv_aload_n hx hb dX10_readForm_58 rfl (lv_at hl 3 rfl) ?_
    refine gf_X10_9 C hP h_a k_a dX10_readForm_59 ?_
    obtain ⟨t14, et14, hf⟩ := bd1_ep hf
    obtain ⟨h_t14, k_t14⟩ := wt_r hW h_a k_a (by decide) et14
    have k_t14 : G.2.1 t14 = 8 := k_t14
    rw [et14]
    refine va_ldcS hx hb C.2.2.2.2.1 (C.2.2.2.2.2.2.2.2.1.1.2 (RX10, 78, "frac", 9) (List.mem_of_getElem? (i := 19) rfl)) dX10_readForm_62 ?_
    obtain ⟨S15, eS15, hf⟩ := bd1_ep hf
    refine x_aft_v (x_runV (As := [.ref (V.2.2.1 9)]) (rest := []) C hP hS (c_X8_passWord (l := l) C.2.2.2.2.2.2.2.2.2.1 hW h_t14 k_t14 (by decide) eS15 H.size) h_t14 k_t14 (by decide) rfl rfl km_X8_passWord ki_X8_passWord qm_X10_70 ⟨(by show _ ≤ _; decide), (by show _ ≤ _; decide)⟩ rfl hl.1 rfl (Nat.le_of_ble_eq_true rfl) ⟨(by show _ ≤ 1; omega), (by show _ ≤ 8; omega)⟩ dX10_readForm_64) hS (fun H locs hP hS hW => ?_)
    refine lv_aload_n hx hb dX10_readForm_67 rfl (lv_at hl 3 rfl) ?_
    refine gf_X10_9 C hP h_a k_a dX10_readForm_68 ?_
    obtain ⟨t16, et16, hf⟩ := bd1_ep hf
    obtain ⟨h_t16, k_t16⟩ := wt_r hW h_a k_a (by decide) et16
    have k_t16 : G.2.1 t16 = 8 := k_t16
    rw [et16]
    refine lv_iconst (v := 1) hx hb dX10_readForm_71 rfl ?_
    refine lv_bipush (v := 18) hx hb dX10_readForm_72 kc_bipush_18 ?_
    obtain ⟨r17, S18, eS18, hf⟩ := bd2_ep hf
    refine x_aft_i (x_runV (As := [.int 1, .int 18]) (rest := []) C hP hS (c_X8_passNumber (l := l) C.2.2.2.2.2.2.2.2.2.1 hW h_t16 k_t16 eS18 H.size) h_t16 k_t16 (by decide) rfl rfl km_X8_passNumber ki_X8_passNumber qm_X10_74 ⟨(by show _ ≤ _; decide), (by show _ ≤ _; decide)⟩ rfl hl.1 rfl (Nat.le_of_ble_eq_true rfl) ⟨(by show _ ≤ 1; omega), (by show _ ≤ 8; omega)⟩ dX10_readForm_74) hS (fun H locs hP hS hW => ?_)
    refine lv_istore (lv' := [(5, .int r17), (4, .int r12), (3, .int r7), (1, .long r5), (0, .ref a)]) hx hb dX10_readForm_77 hl (by decide) rfl (fun ls hl => ?_)
    refine lv_aload_n hx hb dX10_readForm_79 rfl (lv_at hl 4 rfl) ?_
    refine gf_X10_9 C hP h_a k_a dX10_readForm_80 ?_
    obtain ⟨t19, et19, hf⟩ := bd1_ep hf
    obtain ⟨h_t19, k_t19⟩ := wt_r hW h_a k_a (by decide) et19
    have k_t19 : G.2.1 t19 = 8 := k_t19
    rw [et19]
    refine lv_bipush (v := 59) hx hb dX10_readForm_83 kc_bipush_59 ?_
    obtain ⟨S20, eS20, hf⟩ := bd1_ep hf
    refine x_aft_v (x_runV (As := [.int 59]) (rest := []) C hP hS (c_X8_passSign (l := l) C.2.2.2.2.2.2.2.2.2.1 hW h_t19 k_t19 eS20 H.size) h_t19 k_t19 (by decide) rfl rfl km_X8_passSign ki_X8_passSign qm_X10_80 ⟨(by show _ ≤ _; decide), (by show _ ≤ _; decide)⟩ rfl hl.1 rfl (Nat.le_of_ble_eq_true rfl) ⟨(by show _ ≤ 1; omega), (by show _ ≤ 8; omega)⟩ dX10_readForm_85) hS (fun H locs hP hS hW => ?_)
    refine lv_aload_n hx hb dX10_readForm_88 rfl (lv_at hl 4 rfl) ?_
    refine gf_X10_9 C hP h_a k_a dX10_readForm_89 ?_
    obtain ⟨t21, et21, hf⟩ := bd1_ep hf
    obtain ⟨h_t21, k_t21⟩ := wt_r hW h_a k_a (by decide) et21
    have k_t21 : G.2.1 t21 = 8 := k_t21
    rw [et21]
    refine x_aft_z (x_runV (As := []) (rest := []) C hP hS (c_X8_isRight (l := l) C.2.2.2.2.2.2.2.2.2.1 hW h_t21 k_t21 rfl H.size) h_t21 k_t21 (by decide) rfl rfl km_X8_isRight ki_X8_isRight qm_X10_84 ⟨(by show _ ≤ _; decide), (by show _ ≤ _; decide)⟩ rfl hl.1 rfl (Nat.le_of_ble_eq_true rfl) ⟨(by show _ ≤ 1; omega), (by show _ ≤ 8; omega)⟩ dX10_readForm_92) hS (fun H locs hP hS hW z22 => ?_)
    refine lv_if_eq (tgt := 118) hx hb dX10_readForm_95 (by decide) (fun c23 => ?_) (fun c23 => ?_)
    · have hf := if_tp c23 hf
      exact x_retvw C hA hX hP hS hW hf (by show _ ≤ 1; omega) (by show _ ≤ 8; omega) dX10_readForm_118
    · have hf := if_fp c23 hf
      refine lv_aload_n hx hb dX10_readForm_98 rfl (lv_at hl 4 rfl) ?_
      refine gf_X10_15 C hP h_a k_a dX10_readForm_99 ?_
      obtain ⟨t24, et24, hf⟩ := bd1_ep hf
      obtain ⟨h_t24, k_t24⟩ := wt_r hW h_a k_a (by decide) et24
      have k_t24 : G.2.1 t24 = 9 := k_t24
      rw [et24]
      refine lv_lload_n hx hb dX10_readForm_102 rfl (lv_at hl 3 rfl) ?_
      refine x_new (ci := 2) C hP hS hW (by decide) rfl inTB_2 tyX2 tyX2_ok qcl_X10_87 qin_2 qini_2 (by decide +kernel) (by show _ ≤ 1; omega) (by show _ ≤ 8; omega) dX10_readForm_103 (fun q25 H hq25 hsz hag C hP hS hW => ?_)
      have hX := gx_push hX hq25 hsz C.2.2.2.2.2.2.2.2.2.1
      have hA := hag.trans hA
      have hf := hf q25 hq25
      obtain ⟨G26, eG26, hf⟩ := bnd_ep hf
      obtain ⟨S27, eS27, hf⟩ := bnd_ep hf
      rw [← eG26, ← eS27] at hP hW
      rw [← eG26] at hA hX C hS
      have k_a : G26.2.1 a = 10 := by rw [eG26, push_k h_a hq25]; exact k_a
      have h_a : a ∈ G26.1 := by rw [eG26]; exact push_in h_a
      have k_t24 : G26.2.1 t24 = 9 := by rw [eG26, push_k h_t24 hq25]; exact k_t24
      have h_t24 : t24 ∈ G26.1 := by rw [eG26]; exact push_in h_t24
      have h_q25 : q25 ∈ G26.1 := by rw [eG26]; exact push_q
      have k_q25 : G26.2.1 q25 = 2 := by rw [eG26]; exact push_kq
      refine lv_dup hx hb dX10_readForm_106 rfl ?_
      refine lv_iload_n hx hb dX10_readForm_107 rfl (lv_at hl 2 rfl) ?_
      refine lv_iload hx hb dX10_readForm_108 (lv_at hl 1 rfl) ?_
      refine lv_iload hx hb dX10_readForm_110 (lv_at hl 0 rfl) ?_
      obtain ⟨S28, eS28, hf⟩ := bnd_ep hf
      refine x_aft_v (y_runI (rm := RM 1 28) (As := [.int r7, .int r12, .int r17]) (rest := [.ref q25, .long r5, .ref t24]) C hP hS (c_X2_init (l := l) C.2.2.2.2.2.2.2.2.2.1 hW h_q25 k_q25 eS28.symm H.size) km_X2_init kn_X2_init rfl qm_X10_89 ⟨(by show _ ≤ _; decide), (by show _ ≤ _; decide)⟩ rfl hl.1 rfl (Nat.le_of_ble_eq_true rfl) ⟨(by show _ + 0 ≤ 1; omega), (by show _ + 0 ≤ 8; omega)⟩ dX10_readForm_112) hS (fun H locs hP hS hW => ?_)
      obtain ⟨S29, eS29, hf⟩ := bd1_ep hf
      refine x_aft_v (x_runV (As := [.long r5, .ref q25]) (rest := []) C hP hS (c_X9_tellForm (l := l) C.2.2.2.2.2.2.2.2.2.1 hW h_t24 k_t24 h_q25 k_q25 eS29 H.size) h_t24 k_t24 (by decide) rfl rfl km_X9_tellForm ki_X9_tellForm qm_X10_92 ⟨(by show _ ≤ _; decide), (by show _ ≤ _; decide)⟩ rfl hl.1 rfl (Nat.le_of_ble_eq_true rfl) ⟨(by show _ ≤ 1; omega), (by show _ ≤ 8; omega)⟩ dX10_readForm_115) hS (fun H locs hP hS hW => ?_)
      exact x_retvw C hA hX hP hS hW hf (by show _ ≤ 1; omega) (by show _ ≤ 8; omega) dX10_readForm_118
  · have hf := if_tp c2 hf
    refine lv_aload_n hx hb dX10_readForm_11 rfl (lv_at hl 0 rfl) ?_
    refine gf_X10_9 C hP h_a k_a dX10_readForm_12 ?_
    obtain ⟨t30, et30, hf⟩ := bd1_ep hf
    obtain ⟨h_t30, k_t30⟩ := wt_r hW h_a k_a (by decide) et30
    have k_t30 : G.2.1 t30 = 8 := k_t30
    rw [et30]
    refine lv_iconst (v := 5) hx hb dX10_readForm_15 rfl ?_
    obtain ⟨S31, eS31, hf⟩ := bnd_ep hf
    refine x_aft_v (x_runV (As := [.int 5]) (rest := []) C hP hS (c_X8_blame (l := l) C.2.2.2.2.2.2.2.2.2.1 hW h_t30 k_t30 eS31.symm s.heap.size) h_t30 k_t30 (by decide) rfl rfl km_X8_blame ki_X8_blame qm_X10_47 ⟨(by show _ ≤ _; decide), (by show _ ≤ _; decide)⟩ rfl hl.1 rfl (Nat.le_of_ble_eq_true rfl) ⟨(by show _ ≤ 1; omega), (by show _ ≤ 8; omega)⟩ dX10_readForm_16) hS (fun H locs hP hS hW => ?_)
    exact x_retvw C hA hX hP hS hW hf (by show _ ≤ 1; omega) (by show _ ≤ 8; omega) dX10_readForm_19
def w_X10_readOwn (F : Nat) (a : Nat) (G : GS) (S : HS) (P : GS → HS → Prop) : Prop :=
  bd1p (gR S 1001 a) fun t1 =>
  if (gI S 905 t1) = (0 : Int32) then
  bd1p (gR S 1000 a) fun t3 =>
  bd1p (s_X8_advance G.2.2 F t3 S) fun S4 =>
  bd1p (gR S4 1001 a) fun t5 =>
  bnd (uI S4 905 t5 1) fun S6 =>
  bd1p (gR S6 1001 a) fun t7 =>
  ∀ q8 : Nat, q8 ∉ G.1 → bnd (pushG G q8 3 0) fun G9 => bnd (zap q8 S6) fun S10 =>
  bd1p (gR S10 1000 a) fun t11 =>
  bnd (s_X3_init q8 t11 S10) fun S12 =>
  bd2p (s_X3_readLaw G9.2.2 F q8 S12) fun r13 S14 =>
  bnd (uI S14 906 t7 r13) fun S15 =>
  bd1p (gR S15 1000 a) fun t16 =>
  bd1p (s_X8_passSign G9.2.2 F t16 59 S15) fun S17 =>
  P G9 S17
  else
  bd1p (gR S 1000 a) fun t18 =>
  bnd (s_X8_blame t18 3 S) fun S19 =>
  P G S19
set_option maxRecDepth 100000 in
set_option maxHeartbeats 4000000 in
theorem c_X10_readOwn {l : Launch} {V : EV} {G : GS} {S : HS} {F : Nat} {a : Nat} {P : GS → HS → Prop} (hN : G.1.Nodup) (hW : WT G S) (h_a : a ∈ G.1) (k_a : G.2.1 a = 10) (hf : w_X10_readOwn F a G S P) : MetVW l yX10_readOwn cX10_readOwn 1 222 8065 1 2 V G S [.ref a] P := by
  intro sz
  refine x_in RX10 rfl (by decide +kernel) hN (Nat.le_of_ble_eq_true rfl) (fun p e s m args below meth c ls hsz hargs hnm C hP hS hl => ?_)
  subst hsz
  have hx := C.1
  have hb := C.2.1
  have hA : AG G s.heap.size = AG G s.heap.size := rfl
  have hX : GX G s.heap.size G := gx_rf hN
  have hl : lv_has ls 1 [(0, .ref a)] := hl
  unfold w_X10_readOwn at hf
  refine lv_aload_n hx hb dX10_readOwn_0 rfl (lv_at hl 0 rfl) ?_
  refine gf_X10_15 C hP h_a k_a dX10_readOwn_1 ?_
  obtain ⟨t1, et1, hf⟩ := bd1_ep hf
  obtain ⟨h_t1, k_t1⟩ := wt_r hW h_a k_a (by decide) et1
  have k_t1 : G.2.1 t1 = 9 := k_t1
  rw [et1]
  refine gf_X10_103 C hP h_t1 k_t1 dX10_readOwn_4 ?_
  refine lv_if_eq (tgt := 19) hx hb dX10_readOwn_7 (by decide) (fun c2 => ?_) (fun c2 => ?_)
  · have hf := if_tp c2 hf
    refine lv_aload_n hx hb dX10_readOwn_19 rfl (lv_at hl 0 rfl) ?_
    refine gf_X10_9 C hP h_a k_a dX10_readOwn_20 ?_
    obtain ⟨t3, et3, hf⟩ := bd1_ep hf
    obtain ⟨h_t3, k_t3⟩ := wt_r hW h_a k_a (by decide) et3
    have k_t3 : G.2.1 t3 = 8 := k_t3
    rw [et3]
    obtain ⟨S4, eS4, hf⟩ := bd1_ep hf
    refine x_aft_v (x_runV (As := []) (rest := []) C hP hS (c_X8_advance (l := l) C.2.2.2.2.2.2.2.2.2.1 hW h_t3 k_t3 eS4 s.heap.size) h_t3 k_t3 (by decide) rfl rfl km_X8_advance ki_X8_advance qm_X10_57 ⟨(by show _ ≤ _; decide), (by show _ ≤ _; decide)⟩ rfl hl.1 rfl (Nat.le_of_ble_eq_true rfl) ⟨(by show _ ≤ 1; omega), (by show _ ≤ 2; omega)⟩ dX10_readOwn_23) hS (fun H locs hP hS hW => ?_)
    refine lv_aload_n hx hb dX10_readOwn_26 rfl (lv_at hl 0 rfl) ?_
    refine gf_X10_15 C hP h_a k_a dX10_readOwn_27 ?_
    obtain ⟨t5, et5, hf⟩ := bd1_ep hf
    obtain ⟨h_t5, k_t5⟩ := wt_r hW h_a k_a (by decide) et5
    have k_t5 : G.2.1 t5 = 9 := k_t5
    rw [et5]
    refine lv_iconst (v := 1) hx hb dX10_readOwn_30 rfl ?_
    obtain ⟨S6, eS6, hf⟩ := bnd_ep hf
    refine pf_X10_103 C hP hS h_t5 k_t5 isZ_1 eS6 dX10_readOwn_31 (fun H locs hP hS => ?_)
    have hW : WT G S6 := by rw [eS6]; exact hW
    refine lv_aload_n hx hb dX10_readOwn_34 rfl (lv_at hl 0 rfl) ?_
    refine gf_X10_15 C hP h_a k_a dX10_readOwn_35 ?_
    obtain ⟨t7, et7, hf⟩ := bd1_ep hf
    obtain ⟨h_t7, k_t7⟩ := wt_r hW h_a k_a (by decide) et7
    have k_t7 : G.2.1 t7 = 9 := k_t7
    rw [et7]
    refine x_new (ci := 3) C hP hS hW (by decide) rfl inTB_3 tyX3 tyX3_ok qcl_X10_107 qin_3 qini_3 (by decide +kernel) (by show _ ≤ 1; omega) (by show _ ≤ 2; omega) dX10_readOwn_38 (fun q8 H hq8 hsz hag C hP hS hW => ?_)
    have hX := gx_push hX hq8 hsz C.2.2.2.2.2.2.2.2.2.1
    have hA := hag.trans hA
    have hf := hf q8 hq8
    obtain ⟨G9, eG9, hf⟩ := bnd_ep hf
    obtain ⟨S10, eS10, hf⟩ := bnd_ep hf
    rw [← eG9, ← eS10] at hP hW
    rw [← eG9] at hA hX C hS
    have k_a : G9.2.1 a = 10 := by rw [eG9, push_k h_a hq8]; exact k_a
    have h_a : a ∈ G9.1 := by rw [eG9]; exact push_in h_a
    have k_t7 : G9.2.1 t7 = 9 := by rw [eG9, push_k h_t7 hq8]; exact k_t7
    have h_t7 : t7 ∈ G9.1 := by rw [eG9]; exact push_in h_t7
    have h_q8 : q8 ∈ G9.1 := by rw [eG9]; exact push_q
    have k_q8 : G9.2.1 q8 = 3 := by rw [eG9]; exact push_kq
    refine lv_dup hx hb dX10_readOwn_41 rfl ?_
    refine lv_aload_n hx hb dX10_readOwn_42 rfl (lv_at hl 0 rfl) ?_
    refine gf_X10_9 C hP h_a k_a dX10_readOwn_43 ?_
    obtain ⟨t11, et11, hf⟩ := bd1_ep hf
    obtain ⟨h_t11, k_t11⟩ := wt_r hW h_a k_a (by decide) et11
    have k_t11 : G9.2.1 t11 = 8 := k_t11
    rw [et11]
    obtain ⟨S12, eS12, hf⟩ := bnd_ep hf
    refine x_aft_v (y_runI (rm := RM 1 28) (As := [.ref t11]) (rest := [.ref q8, .ref t7]) C hP hS (c_X3_init (l := l) C.2.2.2.2.2.2.2.2.2.1 hW h_q8 k_q8 h_t11 k_t11 eS12.symm H.size) km_X3_init kn_X3_init rfl qm_X10_109 ⟨(by show _ ≤ _; decide), (by show _ ≤ _; decide)⟩ rfl hl.1 rfl (Nat.le_of_ble_eq_true rfl) ⟨(by show _ + 0 ≤ 1; omega), (by show _ + 0 ≤ 2; omega)⟩ dX10_readOwn_46) hS (fun H locs hP hS hW => ?_)
    obtain ⟨r13, S14, eS14, hf⟩ := bd2_ep hf
    refine x_aft_i (x_runV (As := []) (rest := [.ref t7]) C hP hS (c_X3_readLaw (l := l) C.2.2.2.2.2.2.2.2.2.1 hW h_q8 k_q8 eS14 H.size) h_q8 k_q8 (by decide) rfl rfl km_X3_readLaw ki_X3_readLaw qm_X10_112 ⟨(by show _ ≤ _; decide), (by show _ ≤ _; decide)⟩ rfl hl.1 rfl (Nat.le_of_ble_eq_true rfl) ⟨(by show _ ≤ 1; omega), (by show _ ≤ 2; omega)⟩ dX10_readOwn_49) hS (fun H locs hP hS hW => ?_)
    obtain ⟨S15, eS15, hf⟩ := bnd_ep hf
    refine pf_X10_115 C hP hS h_t7 k_t7 eS15 dX10_readOwn_52 (fun H locs hP hS => ?_)
    have hW : WT G9 S15 := by rw [eS15]; exact hW
    refine lv_aload_n hx hb dX10_readOwn_55 rfl (lv_at hl 0 rfl) ?_
    refine gf_X10_9 C hP h_a k_a dX10_readOwn_56 ?_
    obtain ⟨t16, et16, hf⟩ := bd1_ep hf
    obtain ⟨h_t16, k_t16⟩ := wt_r hW h_a k_a (by decide) et16
    have k_t16 : G9.2.1 t16 = 8 := k_t16
    rw [et16]
    refine lv_bipush (v := 59) hx hb dX10_readOwn_59 kc_bipush_59 ?_
    obtain ⟨S17, eS17, hf⟩ := bd1_ep hf
    refine x_aft_v (x_runV (As := [.int 59]) (rest := []) C hP hS (c_X8_passSign (l := l) C.2.2.2.2.2.2.2.2.2.1 hW h_t16 k_t16 eS17 H.size) h_t16 k_t16 (by decide) rfl rfl km_X8_passSign ki_X8_passSign qm_X10_80 ⟨(by show _ ≤ _; decide), (by show _ ≤ _; decide)⟩ rfl hl.1 rfl (Nat.le_of_ble_eq_true rfl) ⟨(by show _ ≤ 1; omega), (by show _ ≤ 2; omega)⟩ dX10_readOwn_61) hS (fun H locs hP hS hW => ?_)
    exact x_retvw C hA hX hP hS hW hf (by show _ ≤ 1; omega) (by show _ ≤ 2; omega) dX10_readOwn_64
  · have hf := if_fp c2 hf
    refine lv_aload_n hx hb dX10_readOwn_10 rfl (lv_at hl 0 rfl) ?_
    refine gf_X10_9 C hP h_a k_a dX10_readOwn_11 ?_
    obtain ⟨t18, et18, hf⟩ := bd1_ep hf
    obtain ⟨h_t18, k_t18⟩ := wt_r hW h_a k_a (by decide) et18
    have k_t18 : G.2.1 t18 = 8 := k_t18
    rw [et18]
    refine lv_iconst (v := 3) hx hb dX10_readOwn_14 rfl ?_
    obtain ⟨S19, eS19, hf⟩ := bnd_ep hf
    refine x_aft_v (x_runV (As := [.int 3]) (rest := []) C hP hS (c_X8_blame (l := l) C.2.2.2.2.2.2.2.2.2.1 hW h_t18 k_t18 eS19.symm s.heap.size) h_t18 k_t18 (by decide) rfl rfl km_X8_blame ki_X8_blame qm_X10_47 ⟨(by show _ ≤ _; decide), (by show _ ≤ _; decide)⟩ rfl hl.1 rfl (Nat.le_of_ble_eq_true rfl) ⟨(by show _ ≤ 1; omega), (by show _ ≤ 2; omega)⟩ dX10_readOwn_15) hS (fun H locs hP hS hW => ?_)
    exact x_retvw C hA hX hP hS hW hf (by show _ ≤ 1; omega) (by show _ ≤ 2; omega) dX10_readOwn_18
def w_X10_readAll_J91 (F : Nat) (P : GS → HS → Prop) (k9 : Nat → Int32 → GS → HS → Prop) (v0 : Nat) (v1 : Int32) (G : GS) (S : HS) : Prop :=
  bnd (v1 + Int32.ofInt 1 : Int32) fun x21 =>
  k9 v0 x21 G S
def w_X10_readAll_L9 (F : Nat) (P : GS → HS → Prop) : Nat → Nat → Int32 → GS → HS → Prop
  | 0, _, _, _, _ => False
  | n + 1, v0, v1, G, S => if (1000 : Int32) < v1 then
  P G S
  else
  bd1p (gR S 1000 v0) fun t4 =>
  if (s_X8_goesOn t4 S) = (0 : Int32) then
  P G S
  else
  bd1p (gR S 1000 v0) fun t7 =>
  bd1p (s_X8_isWord F t7 1 S) fun r8 =>
  if r8 = (0 : Int32) then
  bd1p (gR S 1000 v0) fun t11 =>
  bd1p (s_X8_isWord F t11 2 S) fun r12 =>
  if r12 = (0 : Int32) then
  bd1p (gR S 1000 v0) fun t15 =>
  bd1p (s_X8_isWord F t15 3 S) fun r16 =>
  if r16 = (0 : Int32) then
  bd1p (gR S 1000 v0) fun t19 =>
  bnd (s_X8_blame t19 1 S) fun S20 =>
  w_X10_readAll_J91 F P (w_X10_readAll_L9 F P n) v0 v1 G S20
  else
  w_X10_readOwn F v0 G S (fun G22 S23 =>
  w_X10_readAll_J91 F P (w_X10_readAll_L9 F P n) v0 v1 G22 S23)
  else
  bd1p (s_X10_readRegister G.2.2 F v0 S) fun S25 =>
  w_X10_readAll_J91 F P (w_X10_readAll_L9 F P n) v0 v1 G S25
  else
  w_X10_readForm F v0 G S (fun G26 S27 =>
  w_X10_readAll_J91 F P (w_X10_readAll_L9 F P n) v0 v1 G26 S27)
def w_X10_readAll (F : Nat) (a : Nat) (G : GS) (S : HS) (P : GS → HS → Prop) : Prop :=
  bd1p (gR S 1000 a) fun t1 =>
  bd1p (s_X8_begin G.2.2 F t1 S) fun S2 =>
  w_X10_readAll_L9 F P 1002 a 0 G S2
set_option maxRecDepth 100000 in
set_option maxHeartbeats 4000000 in
theorem b_X10_readAll_91 {p : Program} {l : Launch} {e : Env} {s : State} {m : MethodId} {args : Array Value} {below : List Frame} {meth : Method} {c : Code} {V : EV} {G0 : GS} {n : Nat} {F : Nat} {P : GS → HS → Prop} {k9 : Nat → Int32 → GS → HS → Prop} (hk9 : ∀ (v0 : Nat) (v1 : Int32) (G : GS) (h_v0 : v0 ∈ G.1) (k_v0 : G.2.1 v0 = 10) (S : HS) (H : Heap) (locs : List Loc) (ls : Array Slot) (cells slots : Nat), CX p s m args meth c RX10 cX10_readAll 2 none V G → AG G s.heap.size = AG G0 s.heap.size → GX G0 s.heap.size G → k9 v0 v1 G S → HP V G S H → va_S (AG G s.heap.size) s.heap H locs → WT G S → lv_has ls 2 [(0, .ref v0), (1, .int v1)] → cells + 1 * n ≤ 1002 → slots + 8 * n ≤ 8016 → W p l e (RMA 223 8093 1002 8016) s m args below meth c H locs cells slots (MQ below (QVW V G0 s.heap.size P) args s 1002 8016 (AG G0 s.heap.size)) (F0 m 9 ls [])) : ∀ (v0 : Nat) (v1 : Int32) (G : GS) (h_v0 : v0 ∈ G.1) (k_v0 : G.2.1 v0 = 10) (S : HS) (H : Heap) (locs : List Loc) (ls : Array Slot) (cells slots : Nat), CX p s m args meth c RX10 cX10_readAll 2 none V G → AG G s.heap.size = AG G0 s.heap.size → GX G0 s.heap.size G → w_X10_readAll_J91 F P k9 v0 v1 G S → HP V G S H → va_S (AG G s.heap.size) s.heap H locs → WT G S → lv_has ls 2 [(0, .ref v0), (1, .int v1)] → cells + 1 * n ≤ 1002 → slots + 8 * n ≤ 8016 → W p l e (RMA 223 8093 1002 8016) s m args below meth c H locs cells slots (MQ below (QVW V G0 s.heap.size P) args s 1002 8016 (AG G0 s.heap.size)) (F0 m 91 ls []) := by
  intro v0 v1 G h_v0 k_v0 S H locs ls cells slots C hA hX hf hP hS hW hl hcl hsl
  have hx := C.1
  have hb := C.2.1
  unfold w_X10_readAll_J91 at hf
  obtain ⟨x21, ex21, hf⟩ := bnd_ep hf
  refine lv_iinc (v := x21) (lv' := [(1, .int x21), (0, .ref v0)]) hx hb dX10_readAll_91 hl (k := 1) rfl ex21.symm (by decide) rfl (fun ls hl => ?_)
  refine lv_goto (tgt := 9) hx hb dX10_readAll_94 (by decide) ?_
  exact hk9 v0 x21 G h_v0 k_v0 S H locs _ _ _ C hA hX hf hP hS hW (lv_sub hl [1, 0] rfl) (by omega) (by omega)
set_option maxRecDepth 100000 in
set_option maxHeartbeats 4000000 in
theorem b_X10_readAll_9 {p : Program} {l : Launch} {e : Env} {s : State} {m : MethodId} {args : Array Value} {below : List Frame} {meth : Method} {c : Code} {V : EV} {G0 : GS} {F : Nat} {P : GS → HS → Prop} : ∀ n : Nat, ∀ (v0 : Nat) (v1 : Int32) (G : GS) (h_v0 : v0 ∈ G.1) (k_v0 : G.2.1 v0 = 10) (S : HS) (H : Heap) (locs : List Loc) (ls : Array Slot) (cells slots : Nat), CX p s m args meth c RX10 cX10_readAll 2 none V G → AG G s.heap.size = AG G0 s.heap.size → GX G0 s.heap.size G → w_X10_readAll_L9 F P n v0 v1 G S → HP V G S H → va_S (AG G s.heap.size) s.heap H locs → WT G S → lv_has ls 2 [(0, .ref v0), (1, .int v1)] → cells + 1 * n ≤ 1002 → slots + 8 * n ≤ 8016 → W p l e (RMA 223 8093 1002 8016) s m args below meth c H locs cells slots (MQ below (QVW V G0 s.heap.size P) args s 1002 8016 (AG G0 s.heap.size)) (F0 m 9 ls []) := by
  intro n
  induction n with
  | zero =>
    intro v0 v1 G h_v0 k_v0 S H locs ls cells slots _ _ _ hf
    rw [w_X10_readAll_L9] at hf
    exact hf.elim
  | succ n ih =>
    intro v0 v1 G h_v0 k_v0 S H locs ls cells slots C hA hX hf hP hS hW hl hcl hsl
    have hx := C.1
    have hb := C.2.1
    rw [w_X10_readAll_L9] at hf
    refine lv_iload_n hx hb dX10_readAll_9 rfl (lv_at hl 1 rfl) ?_
    refine lv_sipush (v := 1000) hx hb dX10_readAll_10 kc_sipush_1000 ?_
    refine lv_icmp_gt (tgt := 97) hx hb dX10_readAll_13 (by decide) (fun c3 => ?_) (fun c3 => ?_)
    · have hf := if_tp c3 hf
      exact x_retvw C hA hX hP hS hW hf (by show _ ≤ 1002; omega) (by show _ ≤ 8016; omega) dX10_readAll_97
    · have hf := if_fp c3 hf
      refine lv_aload_n hx hb dX10_readAll_16 rfl (lv_at hl 0 rfl) ?_
      refine gf_X10_9 C hP h_v0 k_v0 dX10_readAll_17 ?_
      obtain ⟨t4, et4, hf⟩ := bd1_ep hf
      obtain ⟨h_t4, k_t4⟩ := wt_r hW h_v0 k_v0 (by decide) et4
      have k_t4 : G.2.1 t4 = 8 := k_t4
      rw [et4]
      refine x_aft_z (x_runV (As := []) (rest := []) C hP hS (c_X8_goesOn (l := l) C.2.2.2.2.2.2.2.2.2.1 hW h_t4 k_t4 rfl H.size) h_t4 k_t4 (by decide) rfl rfl km_X8_goesOn ki_X8_goesOn qm_X10_24 ⟨(by show _ ≤ _; decide), (by show _ ≤ _; decide)⟩ rfl hl.1 rfl (Nat.le_of_ble_eq_true rfl) ⟨(by show _ ≤ 1002; omega), (by show _ ≤ 8016; omega)⟩ dX10_readAll_20) hS (fun H locs hP hS hW z5 => ?_)
      refine lv_if_eq (tgt := 97) hx hb dX10_readAll_23 (by decide) (fun c6 => ?_) (fun c6 => ?_)
      · have hf := if_tp c6 hf
        exact x_retvw C hA hX hP hS hW hf (by show _ ≤ 1002; omega) (by show _ ≤ 8016; omega) dX10_readAll_97
      · have hf := if_fp c6 hf
        refine lv_aload_n hx hb dX10_readAll_26 rfl (lv_at hl 0 rfl) ?_
        refine gf_X10_9 C hP h_v0 k_v0 dX10_readAll_27 ?_
        obtain ⟨t7, et7, hf⟩ := bd1_ep hf
        obtain ⟨h_t7, k_t7⟩ := wt_r hW h_v0 k_v0 (by decide) et7
        have k_t7 : G.2.1 t7 = 8 := k_t7
        rw [et7]
        refine va_ldcS hx hb C.2.2.2.2.1 (C.2.2.2.2.2.2.2.2.1.1.2 (RX10, 28, "form", 1) (List.mem_of_getElem? (i := 1) rfl)) dX10_readAll_30 ?_
        obtain ⟨r8, er8, hf⟩ := bd1_ep hf
        refine x_aft_z (x_runV (As := [.ref (V.2.2.1 1)]) (rest := []) C hP hS (c_X8_isWord (l := l) C.2.2.2.2.2.2.2.2.2.1 hW h_t7 k_t7 (by decide) er8 H.size) h_t7 k_t7 (by decide) rfl rfl km_X8_isWord ki_X8_isWord qm_X10_30 ⟨(by show _ ≤ _; decide), (by show _ ≤ _; decide)⟩ rfl hl.1 rfl (Nat.le_of_ble_eq_true rfl) ⟨(by show _ ≤ 1002; omega), (by show _ ≤ 8016; omega)⟩ dX10_readAll_32) hS (fun H locs hP hS hW z9 => ?_)
        refine lv_if_eq (tgt := 45) hx hb dX10_readAll_35 (by decide) (fun c10 => ?_) (fun c10 => ?_)
        · have hf := if_tp c10 hf
          refine lv_aload_n hx hb dX10_readAll_45 rfl (lv_at hl 0 rfl) ?_
          refine gf_X10_9 C hP h_v0 k_v0 dX10_readAll_46 ?_
          obtain ⟨t11, et11, hf⟩ := bd1_ep hf
          obtain ⟨h_t11, k_t11⟩ := wt_r hW h_v0 k_v0 (by decide) et11
          have k_t11 : G.2.1 t11 = 8 := k_t11
          rw [et11]
          refine va_ldcS hx hb C.2.2.2.2.1 (C.2.2.2.2.2.2.2.2.1.1.2 (RX10, 37, "reg", 2) (List.mem_of_getElem? (i := 20) rfl)) dX10_readAll_49 ?_
          obtain ⟨r12, er12, hf⟩ := bd1_ep hf
          refine x_aft_z (x_runV (As := [.ref (V.2.2.1 2)]) (rest := []) C hP hS (c_X8_isWord (l := l) C.2.2.2.2.2.2.2.2.2.1 hW h_t11 k_t11 (by decide) er12 H.size) h_t11 k_t11 (by decide) rfl rfl km_X8_isWord ki_X8_isWord qm_X10_30 ⟨(by show _ ≤ _; decide), (by show _ ≤ _; decide)⟩ rfl hl.1 rfl (Nat.le_of_ble_eq_true rfl) ⟨(by show _ ≤ 1002; omega), (by show _ ≤ 8016; omega)⟩ dX10_readAll_51) hS (fun H locs hP hS hW z13 => ?_)
          refine lv_if_eq (tgt := 64) hx hb dX10_readAll_54 (by decide) (fun c14 => ?_) (fun c14 => ?_)
          · have hf := if_tp c14 hf
            refine lv_aload_n hx hb dX10_readAll_64 rfl (lv_at hl 0 rfl) ?_
            refine gf_X10_9 C hP h_v0 k_v0 dX10_readAll_65 ?_
            obtain ⟨t15, et15, hf⟩ := bd1_ep hf
            obtain ⟨h_t15, k_t15⟩ := wt_r hW h_v0 k_v0 (by decide) et15
            have k_t15 : G.2.1 t15 = 8 := k_t15
            rw [et15]
            refine va_ldcS hx hb C.2.2.2.2.1 (C.2.2.2.2.2.2.2.2.1.1.2 (RX10, 42, "own", 3) (List.mem_of_getElem? (i := 21) rfl)) dX10_readAll_68 ?_
            obtain ⟨r16, er16, hf⟩ := bd1_ep hf
            refine x_aft_z (x_runV (As := [.ref (V.2.2.1 3)]) (rest := []) C hP hS (c_X8_isWord (l := l) C.2.2.2.2.2.2.2.2.2.1 hW h_t15 k_t15 (by decide) er16 H.size) h_t15 k_t15 (by decide) rfl rfl km_X8_isWord ki_X8_isWord qm_X10_30 ⟨(by show _ ≤ _; decide), (by show _ ≤ _; decide)⟩ rfl hl.1 rfl (Nat.le_of_ble_eq_true rfl) ⟨(by show _ ≤ 1002; omega), (by show _ ≤ 8016; omega)⟩ dX10_readAll_70) hS (fun H locs hP hS hW z17 => ?_)
            refine lv_if_eq (tgt := 83) hx hb dX10_readAll_73 (by decide) (fun c18 => ?_) (fun c18 => ?_)
            · have hf := if_tp c18 hf
              refine lv_aload_n hx hb dX10_readAll_83 rfl (lv_at hl 0 rfl) ?_
              refine gf_X10_9 C hP h_v0 k_v0 dX10_readAll_84 ?_
              obtain ⟨t19, et19, hf⟩ := bd1_ep hf
              obtain ⟨h_t19, k_t19⟩ := wt_r hW h_v0 k_v0 (by decide) et19
              have k_t19 : G.2.1 t19 = 8 := k_t19
              rw [et19]
              refine lv_iconst (v := 1) hx hb dX10_readAll_87 rfl ?_
              obtain ⟨S20, eS20, hf⟩ := bnd_ep hf
              refine x_aft_v (x_runV (As := [.int 1]) (rest := []) C hP hS (c_X8_blame (l := l) C.2.2.2.2.2.2.2.2.2.1 hW h_t19 k_t19 eS20.symm H.size) h_t19 k_t19 (by decide) rfl rfl km_X8_blame ki_X8_blame qm_X10_47 ⟨(by show _ ≤ _; decide), (by show _ ≤ _; decide)⟩ rfl hl.1 rfl (Nat.le_of_ble_eq_true rfl) ⟨(by show _ ≤ 1002; omega), (by show _ ≤ 8016; omega)⟩ dX10_readAll_88) hS (fun H locs hP hS hW => ?_)
              exact b_X10_readAll_91 ih v0 v1 G h_v0 k_v0 S20 H locs _ _ _ C hA hX hf hP hS hW (lv_sub hl [0, 1] rfl) (by omega) (by omega)
            · have hf := if_fp c18 hf
              refine lv_aload_n hx hb dX10_readAll_76 rfl (lv_at hl 0 rfl) ?_
              refine y_aft_v (mc := 1) (ms := 2) C hX (y_runV (rm := (RMA 222 8065 1 2)) (As := []) (rest := []) C hP hS (c_X10_readOwn (l := l) C.2.2.2.2.2.2.2.2.2.1 hW h_v0 k_v0 hf H.size) h_v0 k_v0 (by decide) rfl rfl km_X10_readOwn ki_X10_readOwn qm_X10_44 ⟨(by show _ ≤ _; decide), (by show _ ≤ _; decide)⟩ rfl hl.1 rfl (Nat.le_of_ble_eq_true rfl) ⟨(by show _ + 1 ≤ 1002; omega), (by show _ + 2 ≤ 8016; omega)⟩ dX10_readAll_77) hS (fun G22 S23 H locs hf hold hag hX C hP hS hW => ?_)
              have hA := hag.trans hA
              have k_v0 : G22.2.1 v0 = 10 := (hold _ h_v0).2.trans k_v0
              have h_v0 : v0 ∈ G22.1 := (hold _ h_v0).1
              refine lv_goto (tgt := 91) hx hb dX10_readAll_80 (by decide) ?_
              exact b_X10_readAll_91 ih v0 v1 G22 h_v0 k_v0 S23 H locs _ _ _ C hA hX hf hP hS hW (lv_sub hl [0, 1] rfl) (by omega) (by omega)
          · have hf := if_fp c14 hf
            refine lv_aload_n hx hb dX10_readAll_57 rfl (lv_at hl 0 rfl) ?_
            obtain ⟨S25, eS25, hf⟩ := bd1_ep hf
            refine x_aft_v (x_runV (As := []) (rest := []) C hP hS (c_X10_readRegister (l := l) C.2.2.2.2.2.2.2.2.2.1 hW h_v0 k_v0 eS25 H.size) h_v0 k_v0 (by decide) rfl rfl km_X10_readRegister ki_X10_readRegister qm_X10_39 ⟨(by show _ ≤ _; decide), (by show _ ≤ _; decide)⟩ rfl hl.1 rfl (Nat.le_of_ble_eq_true rfl) ⟨(by show _ ≤ 1002; omega), (by show _ ≤ 8016; omega)⟩ dX10_readAll_58) hS (fun H locs hP hS hW => ?_)
            refine lv_goto (tgt := 91) hx hb dX10_readAll_61 (by decide) ?_
            exact b_X10_readAll_91 ih v0 v1 G h_v0 k_v0 S25 H locs _ _ _ C hA hX hf hP hS hW (lv_sub hl [0, 1] rfl) (by omega) (by omega)
        · have hf := if_fp c10 hf
          refine lv_aload_n hx hb dX10_readAll_38 rfl (lv_at hl 0 rfl) ?_
          refine y_aft_v (mc := 1) (ms := 8) C hX (y_runV (rm := (RMA 15 550 1 8)) (As := []) (rest := []) C hP hS (c_X10_readForm (l := l) C.2.2.2.2.2.2.2.2.2.1 hW h_v0 k_v0 hf H.size) h_v0 k_v0 (by decide) rfl rfl km_X10_readForm ki_X10_readForm qm_X10_34 ⟨(by show _ ≤ _; decide), (by show _ ≤ _; decide)⟩ rfl hl.1 rfl (Nat.le_of_ble_eq_true rfl) ⟨(by show _ + 1 ≤ 1002; omega), (by show _ + 8 ≤ 8016; omega)⟩ dX10_readAll_39) hS (fun G26 S27 H locs hf hold hag hX C hP hS hW => ?_)
          have hA := hag.trans hA
          have k_v0 : G26.2.1 v0 = 10 := (hold _ h_v0).2.trans k_v0
          have h_v0 : v0 ∈ G26.1 := (hold _ h_v0).1
          refine lv_goto (tgt := 91) hx hb dX10_readAll_42 (by decide) ?_
          exact b_X10_readAll_91 ih v0 v1 G26 h_v0 k_v0 S27 H locs _ _ _ C hA hX hf hP hS hW (lv_sub hl [0, 1] rfl) (by omega) (by omega)
set_option maxRecDepth 100000 in
set_option maxHeartbeats 4000000 in
theorem c_X10_readAll {l : Launch} {V : EV} {G : GS} {S : HS} {F : Nat} {a : Nat} {P : GS → HS → Prop} (hN : G.1.Nodup) (hW : WT G S) (h_a : a ∈ G.1) (k_a : G.2.1 a = 10) (hf : w_X10_readAll F a G S P) : MetVW l yX10_readAll cX10_readAll 2 223 8093 1002 8016 V G S [.ref a] P := by
  intro sz
  refine x_in RX10 rfl (by decide +kernel) hN (Nat.le_of_ble_eq_true rfl) (fun p e s m args below meth c ls hsz hargs hnm C hP hS hl => ?_)
  subst hsz
  have hx := C.1
  have hb := C.2.1
  have hA : AG G s.heap.size = AG G s.heap.size := rfl
  have hX : GX G s.heap.size G := gx_rf hN
  have hl : lv_has ls 2 [(0, .ref a)] := hl
  unfold w_X10_readAll at hf
  refine lv_aload_n hx hb dX10_readAll_0 rfl (lv_at hl 0 rfl) ?_
  refine gf_X10_9 C hP h_a k_a dX10_readAll_1 ?_
  obtain ⟨t1, et1, hf⟩ := bd1_ep hf
  obtain ⟨h_t1, k_t1⟩ := wt_r hW h_a k_a (by decide) et1
  have k_t1 : G.2.1 t1 = 8 := k_t1
  rw [et1]
  obtain ⟨S2, eS2, hf⟩ := bd1_ep hf
  refine x_aft_v (x_runV (As := []) (rest := []) C hP hS (c_X8_begin (l := l) C.2.2.2.2.2.2.2.2.2.1 hW h_t1 k_t1 eS2 s.heap.size) h_t1 k_t1 (by decide) rfl rfl km_X8_begin ki_X8_begin qm_X10_19 ⟨(by show _ ≤ _; decide), (by show _ ≤ _; decide)⟩ rfl hl.1 rfl (Nat.le_of_ble_eq_true rfl) ⟨(by show _ ≤ 1002; omega), (by show _ ≤ 8016; omega)⟩ dX10_readAll_4) hS (fun H locs hP hS hW => ?_)
  refine lv_iconst (v := 0) hx hb dX10_readAll_7 rfl ?_
  refine lv_istore_n (lv' := [(1, .int 0), (0, .ref a)]) hx hb dX10_readAll_8 rfl hl (by decide) rfl (fun ls hl => ?_)
  exact b_X10_readAll_9 1002 a 0 G h_a k_a S2 H locs _ _ _ C hA hX hf hP hS hW (lv_sub hl [1, 0] rfl) (by omega) (by omega)
def w_X11_init_L155 (P : GS → HS → Prop) : Nat → Nat → Int32 → GS → HS → Prop
  | 0, _, _, _, _ => False
  | n + 1, v0, v1, G, S => if (4 : Int32) ≤ v1 then
  P G S
  else
  bd1p (gR S 1106 v0) fun t90 =>
  ∀ q91 : Nat, q91 ∉ G.1 → bnd (pushG G q91 7 0) fun G92 => bnd (zap q91 S) fun S93 =>
  w_X7_init q91 G92 S93 (fun G94 S95 =>
  if inB v1 (G94.2.2 t90) = true then
  bnd (wR S95 t90 (v1.toNatClampNeg) (some q91)) fun S98 =>
  bnd (v1 + Int32.ofInt 1 : Int32) fun x99 =>
  w_X11_init_L155 P n v0 x99 G94 S98
  else False)
def w_X11_init (a : Nat) (G : GS) (S : HS) (P : GS → HS → Prop) : Prop :=
  ∀ q1 : Nat, q1 ∉ G.1 → bnd (pushG G q1 8 0) fun G2 => bnd (zap q1 S) fun S3 =>
  w_X8_init q1 G2 S3 (fun G4 S5 =>
  bnd (uR S5 1100 a (some q1)) fun S7 =>
  ∀ q8 : Nat, q8 ∉ G4.1 → bnd (pushG G4 q8 0 0) fun G9 => bnd (zap q8 S7) fun S10 =>
  bnd (s_X0_init q8 S10) fun S11 =>
  bnd (uR S11 1101 a (some q8)) fun S12 =>
  ∀ q13 : Nat, q13 ∉ G9.1 → bnd (pushG G9 q13 1 0) fun G14 => bnd (zap q13 S12) fun S15 =>
  w_X1_init q13 G14 S15 (fun G16 S17 =>
  bnd (uR S17 1102 a (some q13)) fun S19 =>
  ∀ q20 : Nat, q20 ∉ G16.1 → bnd (pushG G16 q20 4 0) fun G21 => bnd (zap q20 S19) fun S22 =>
  w_X4_init q20 G21 S22 (fun G23 S24 =>
  bnd (uR S24 1103 a (some q20)) fun S26 =>
  ∀ q27 : Nat, q27 ∉ G23.1 → bnd (pushG G23 q27 7 0) fun G28 => bnd (zap q27 S26) fun S29 =>
  w_X7_init q27 G28 S29 (fun G30 S31 =>
  bnd (uR S31 1104 a (some q27)) fun S33 =>
  ∀ q34 : Nat, q34 ∉ G30.1 → bnd (pushG G30 q34 7 0) fun G35 => bnd (zap q34 S33) fun S36 =>
  w_X7_init q34 G35 S36 (fun G37 S38 =>
  bnd (uR S38 1105 a (some q34)) fun S40 =>
  ∀ q41 : Nat, q41 ∉ G37.1 → bnd (pushG G37 q41 18 4) fun G42 => bnd (zap q41 S40) fun S43 =>
  bnd (uR S43 1106 a (some q41)) fun S44 =>
  ∀ q45 : Nat, q45 ∉ G42.1 → bnd (pushG G42 q45 16 4) fun G46 => bnd (zap q45 S44) fun S47 =>
  bnd (uR S47 1107 a (some q45)) fun S48 =>
  ∀ q49 : Nat, q49 ∉ G46.1 → bnd (pushG G46 q49 14 8) fun G50 => bnd (zap q49 S48) fun S51 =>
  bnd (uR S51 1108 a (some q49)) fun S52 =>
  ∀ q53 : Nat, q53 ∉ G50.1 → bnd (pushG G50 q53 16 8) fun G54 => bnd (zap q53 S52) fun S55 =>
  bnd (uR S55 1109 a (some q53)) fun S56 =>
  ∀ q57 : Nat, q57 ∉ G54.1 → bnd (pushG G54 q57 14 6) fun G58 => bnd (zap q57 S56) fun S59 =>
  bnd (uR S59 1110 a (some q57)) fun S60 =>
  ∀ q61 : Nat, q61 ∉ G58.1 → bnd (pushG G58 q61 9 0) fun G62 => bnd (zap q61 S60) fun S63 =>
  w_X9_init q61 G62 S63 (fun G64 S65 =>
  bnd (uR S65 1111 a (some q61)) fun S67 =>
  ∀ q68 : Nat, q68 ∉ G64.1 → bnd (pushG G64 q68 9 0) fun G69 => bnd (zap q68 S67) fun S70 =>
  w_X9_init q68 G69 S70 (fun G71 S72 =>
  bnd (uR S72 1112 a (some q68)) fun S74 =>
  ∀ q75 : Nat, q75 ∉ G71.1 → bnd (pushG G71 q75 5 0) fun G76 => bnd (zap q75 S74) fun S77 =>
  w_X5_init q75 G76 S77 (fun G78 S79 =>
  bnd (uR S79 1113 a (some q75)) fun S81 =>
  ∀ q82 : Nat, q82 ∉ G78.1 → bnd (pushG G78 q82 5 0) fun G83 => bnd (zap q82 S81) fun S84 =>
  w_X5_init q82 G83 S84 (fun G85 S86 =>
  bnd (uR S86 1114 a (some q82)) fun S88 =>
  w_X11_init_L155 P 5 a 0 G85 S88)))))))))
set_option maxRecDepth 100000 in
set_option maxHeartbeats 4000000 in
theorem b_X11_init_155 {p : Program} {l : Launch} {e : Env} {s : State} {m : MethodId} {args : Array Value} {below : List Frame} {meth : Method} {c : Code} {V : EV} {G0 : GS} {P : GS → HS → Prop} : ∀ n : Nat, ∀ (v0 : Nat) (v1 : Int32) (G : GS) (h_v0 : v0 ∈ G.1) (k_v0 : G.2.1 v0 = 11) (S : HS) (H : Heap) (locs : List Loc) (ls : Array Slot) (cells slots : Nat), CX p s m args meth c RX11 cX11_init 2 none V G → AG G s.heap.size = AG G0 s.heap.size → GX G0 s.heap.size G → w_X11_init_L155 P n v0 v1 G S → HP V G S H → va_S (AG G s.heap.size) s.heap H locs → WT G S → lv_has ls 2 [(0, .ref v0), (1, .int v1)] → cells + 2 * n ≤ 81 → slots + 10 * n ≤ 6288 → W p l e (RMA 3 85 81 6288) s m args below meth c H locs cells slots (MQ below (QVW V G0 s.heap.size P) args s 81 6288 (AG G0 s.heap.size)) (F0 m 155 ls []) := by
  intro n
  induction n with
  | zero =>
    intro v0 v1 G h_v0 k_v0 S H locs ls cells slots _ _ _ hf
    rw [w_X11_init_L155] at hf
    exact hf.elim
  | succ n ih =>
    intro v0 v1 G h_v0 k_v0 S H locs ls cells slots C hA hX hf hP hS hW hl hcl hsl
    have hx := C.1
    have hb := C.2.1
    rw [w_X11_init_L155] at hf
    refine lv_iload_n hx hb dX11_init_155 rfl (lv_at hl 1 rfl) ?_
    refine lv_iconst (v := 4) hx hb dX11_init_156 rfl ?_
    refine lv_icmp_ge (tgt := 179) hx hb dX11_init_157 (by decide) (fun c89 => ?_) (fun c89 => ?_)
    · have hf := if_tp c89 hf
      exact x_retvw C hA hX hP hS hW hf (by show _ ≤ 81; omega) (by show _ ≤ 6288; omega) dX11_init_179
    · have hf := if_fp c89 hf
      refine lv_aload_n hx hb dX11_init_160 rfl (lv_at hl 0 rfl) ?_
      refine gf_X11_47 C hP h_v0 k_v0 dX11_init_161 ?_
      obtain ⟨t90, et90, hf⟩ := bd1_ep hf
      obtain ⟨h_t90, k_t90⟩ := wt_r hW h_v0 k_v0 (by decide) et90
      have k_t90 : G.2.1 t90 = 18 := k_t90
      rw [et90]
      refine lv_iload_n hx hb dX11_init_164 rfl (lv_at hl 1 rfl) ?_
      refine x_new (ci := 7) C hP hS hW (by decide) rfl inTB_7 tyX7 tyX7_ok qcl_X11_37 qin_7 qini_7 (by decide +kernel) (by show _ ≤ 81; omega) (by show _ ≤ 6288; omega) dX11_init_165 (fun q91 H hq91 hsz hag C hP hS hW => ?_)
      have hX := gx_push hX hq91 hsz C.2.2.2.2.2.2.2.2.2.1
      have hA := hag.trans hA
      have hf := hf q91 hq91
      obtain ⟨G92, eG92, hf⟩ := bnd_ep hf
      obtain ⟨S93, eS93, hf⟩ := bnd_ep hf
      rw [← eG92, ← eS93] at hP hW
      rw [← eG92] at hA hX C hS
      have k_v0 : G92.2.1 v0 = 11 := by rw [eG92, push_k h_v0 hq91]; exact k_v0
      have h_v0 : v0 ∈ G92.1 := by rw [eG92]; exact push_in h_v0
      have k_t90 : G92.2.1 t90 = 18 := by rw [eG92, push_k h_t90 hq91]; exact k_t90
      have h_t90 : t90 ∈ G92.1 := by rw [eG92]; exact push_in h_t90
      have h_q91 : q91 ∈ G92.1 := by rw [eG92]; exact push_q
      have k_q91 : G92.2.1 q91 = 7 := by rw [eG92]; exact push_kq
      refine lv_dup hx hb dX11_init_168 rfl ?_
      refine y_aft_v (mc := 1) (ms := 6) C hX (y_runI (rm := (RMA 1 28 1 6)) (As := []) (rest := [.ref q91, .int v1, .ref t90]) C hP hS (c_X7_init (l := l) C.2.2.2.2.2.2.2.2.2.1 hW h_q91 k_q91 hf H.size) km_X7_init kn_X7_init rfl qm_X11_39 ⟨(by show _ ≤ _; decide), (by show _ ≤ _; decide)⟩ rfl hl.1 rfl (Nat.le_of_ble_eq_true rfl) ⟨(by show _ + 1 ≤ 81; omega), (by show _ + 6 ≤ 6288; omega)⟩ dX11_init_169) hS (fun G94 S95 H locs hf hold hag hX C hP hS hW => ?_)
      have hA := hag.trans hA
      have k_v0 : G94.2.1 v0 = 11 := (hold _ h_v0).2.trans k_v0
      have h_v0 : v0 ∈ G94.1 := (hold _ h_v0).1
      have k_t90 : G94.2.1 t90 = 18 := (hold _ h_t90).2.trans k_t90
      have h_t90 : t90 ∈ G94.1 := (hold _ h_t90).1
      have k_q91 : G94.2.1 q91 = 7 := (hold _ h_q91).2.trans k_q91
      have h_q91 : q91 ∈ G94.1 := (hold _ h_q91).1
      obtain ⟨h97, hf⟩ := if_sp hf
      obtain ⟨S98, eS98, hf⟩ := bnd_ep hf
      refine x_Sast C hP hS h_t90 k_t90 h_q91 k_q91 h97 eS98 dX11_init_172 (fun H locs hP hS => ?_)
      have hW : WT G94 S98 := by rw [eS98]; exact wt_wRS hW k_t90 ⟨h_q91, k_q91⟩
      obtain ⟨x99, ex99, hf⟩ := bnd_ep hf
      refine lv_iinc (v := x99) (lv' := [(1, .int x99), (0, .ref v0)]) hx hb dX11_init_173 hl (k := 1) rfl ex99.symm (by decide) rfl (fun ls hl => ?_)
      refine lv_goto (tgt := 155) hx hb dX11_init_176 (by decide) ?_
      exact ih v0 x99 G94 h_v0 k_v0 S98 H locs _ _ _ C hA hX hf hP hS hW (lv_sub hl [1, 0] rfl) (by omega) (by omega)
set_option maxRecDepth 100000 in
set_option maxHeartbeats 4000000 in
theorem c_X11_init {l : Launch} {V : EV} {G : GS} {S : HS} {a : Nat} {P : GS → HS → Prop} (hN : G.1.Nodup) (hW : WT G S) (h_a : a ∈ G.1) (k_a : G.2.1 a = 11) (hf : w_X11_init a G S P) : MetVW l yX11_init cX11_init 2 3 85 81 6288 V G S [.ref a] P := by
  intro sz
  refine x_in RX11 rfl (by decide +kernel) hN (Nat.le_of_ble_eq_true rfl) (fun p e s m args below meth c ls hsz hargs hnm C hP hS hl => ?_)
  subst hsz
  have hx := C.1
  have hb := C.2.1
  have hin : meth.name = "<init>" := hnm
  have hA : AG G s.heap.size = AG G s.heap.size := rfl
  have hX : GX G s.heap.size G := gx_rf hN
  have hl : lv_has ls 2 [(0, .ref a)] := hl
  unfold w_X11_init at hf
  refine lv_aload_n hx hb dX11_init_0 rfl (lv_at hl 0 rfl) ?_
  refine x_obj C qobj_X11_1 qobji qobjc hl.1 dX11_init_1 (by show _ ≤ _; decide) (by show _ ≤ _; decide) ?_
  refine lv_aload_n hx hb dX11_init_4 rfl (lv_at hl 0 rfl) ?_
  refine x_new (ci := 8) C hP hS hW (by decide) rfl inTB_8 tyX8 tyX8_ok qcl_X11_7 qin_8 qini_8 (by decide +kernel) (by show _ ≤ 81; omega) (by show _ ≤ 6288; omega) dX11_init_5 (fun q1 H hq1 hsz hag C hP hS hW => ?_)
  have hX := gx_push hX hq1 hsz C.2.2.2.2.2.2.2.2.2.1
  have hA := hag.trans hA
  have hf := hf q1 hq1
  obtain ⟨G2, eG2, hf⟩ := bnd_ep hf
  obtain ⟨S3, eS3, hf⟩ := bnd_ep hf
  rw [← eG2, ← eS3] at hP hW
  rw [← eG2] at hA hX C hS
  have k_a : G2.2.1 a = 11 := by rw [eG2, push_k h_a hq1]; exact k_a
  have h_a : a ∈ G2.1 := by rw [eG2]; exact push_in h_a
  have h_q1 : q1 ∈ G2.1 := by rw [eG2]; exact push_q
  have k_q1 : G2.2.1 q1 = 8 := by rw [eG2]; exact push_kq
  refine lv_dup hx hb dX11_init_8 rfl ?_
  refine y_aft_v (mc := 1) (ms := 1000) C hX (y_runI (rm := (RMA 1 28 1 1000)) (As := []) (rest := [.ref q1, .ref a]) C hP hS (c_X8_init (l := l) C.2.2.2.2.2.2.2.2.2.1 hW h_q1 k_q1 hf H.size) km_X8_init kn_X8_init rfl qm_X11_9 ⟨(by show _ ≤ _; decide), (by show _ ≤ _; decide)⟩ rfl hl.1 rfl (Nat.le_of_ble_eq_true rfl) ⟨(by show _ + 1 ≤ 81; omega), (by show _ + 1000 ≤ 6288; omega)⟩ dX11_init_9) hS (fun G4 S5 H locs hf hold hag hX C hP hS hW => ?_)
  have hA := hag.trans hA
  have k_a : G4.2.1 a = 11 := (hold _ h_a).2.trans k_a
  have h_a : a ∈ G4.1 := (hold _ h_a).1
  have k_q1 : G4.2.1 q1 = 8 := (hold _ h_q1).2.trans k_q1
  have h_q1 : q1 ∈ G4.1 := (hold _ h_q1).1
  obtain ⟨S7, eS7, hf⟩ := bnd_ep hf
  refine pf_X11_10 C hP hS h_a k_a hin eS7 dX11_init_12 (fun H locs hP hS => ?_)
  have hW : WT G4 S7 := by rw [eS7]; exact wt_uR hW ⟨h_q1, k_q1⟩
  refine lv_aload_n hx hb dX11_init_15 rfl (lv_at hl 0 rfl) ?_
  refine x_new (ci := 0) C hP hS hW (by decide) rfl inTB_0 tyX0 tyX0_ok qcl_X11_16 qin_0 qini_0 (by decide +kernel) (by show _ ≤ 81; omega) (by show _ ≤ 6288; omega) dX11_init_16 (fun q8 H hq8 hsz hag C hP hS hW => ?_)
  have hX := gx_push hX hq8 hsz C.2.2.2.2.2.2.2.2.2.1
  have hA := hag.trans hA
  have hf := hf q8 hq8
  obtain ⟨G9, eG9, hf⟩ := bnd_ep hf
  obtain ⟨S10, eS10, hf⟩ := bnd_ep hf
  rw [← eG9, ← eS10] at hP hW
  rw [← eG9] at hA hX C hS
  have k_a : G9.2.1 a = 11 := by rw [eG9, push_k h_a hq8]; exact k_a
  have h_a : a ∈ G9.1 := by rw [eG9]; exact push_in h_a
  have h_q8 : q8 ∈ G9.1 := by rw [eG9]; exact push_q
  have k_q8 : G9.2.1 q8 = 0 := by rw [eG9]; exact push_kq
  refine lv_dup hx hb dX11_init_19 rfl ?_
  obtain ⟨S11, eS11, hf⟩ := bnd_ep hf
  refine x_aft_v (y_runI (rm := RM 1 28) (As := []) (rest := [.ref q8, .ref a]) C hP hS (c_X0_init (l := l) C.2.2.2.2.2.2.2.2.2.1 hW h_q8 k_q8 eS11.symm H.size) km_X0_init kn_X0_init rfl qm_X11_18 ⟨(by show _ ≤ _; decide), (by show _ ≤ _; decide)⟩ rfl hl.1 rfl (Nat.le_of_ble_eq_true rfl) ⟨(by show _ + 0 ≤ 81; omega), (by show _ + 0 ≤ 6288; omega)⟩ dX11_init_20) hS (fun H locs hP hS hW => ?_)
  obtain ⟨S12, eS12, hf⟩ := bnd_ep hf
  refine pf_X11_19 C hP hS h_a k_a hin eS12 dX11_init_23 (fun H locs hP hS => ?_)
  have hW : WT G9 S12 := by rw [eS12]; exact wt_uR hW ⟨h_q8, k_q8⟩
  refine lv_aload_n hx hb dX11_init_26 rfl (lv_at hl 0 rfl) ?_
  refine x_new (ci := 1) C hP hS hW (by decide) rfl inTB_1 tyX1 tyX1_ok qcl_X11_23 qin_1 qini_1 (by decide +kernel) (by show _ ≤ 81; omega) (by show _ ≤ 6288; omega) dX11_init_27 (fun q13 H hq13 hsz hag C hP hS hW => ?_)
  have hX := gx_push hX hq13 hsz C.2.2.2.2.2.2.2.2.2.1
  have hA := hag.trans hA
  have hf := hf q13 hq13
  obtain ⟨G14, eG14, hf⟩ := bnd_ep hf
  obtain ⟨S15, eS15, hf⟩ := bnd_ep hf
  rw [← eG14, ← eS15] at hP hW
  rw [← eG14] at hA hX C hS
  have k_a : G14.2.1 a = 11 := by rw [eG14, push_k h_a hq13]; exact k_a
  have h_a : a ∈ G14.1 := by rw [eG14]; exact push_in h_a
  have h_q13 : q13 ∈ G14.1 := by rw [eG14]; exact push_q
  have k_q13 : G14.2.1 q13 = 1 := by rw [eG14]; exact push_kq
  refine lv_dup hx hb dX11_init_30 rfl ?_
  refine y_aft_v (mc := 9) (ms := 4608) C hX (y_runI (rm := (RMA 1 28 9 4608)) (As := []) (rest := [.ref q13, .ref a]) C hP hS (c_X1_init (l := l) C.2.2.2.2.2.2.2.2.2.1 hW h_q13 k_q13 hf H.size) km_X1_init kn_X1_init rfl qm_X11_25 ⟨(by show _ ≤ _; decide), (by show _ ≤ _; decide)⟩ rfl hl.1 rfl (Nat.le_of_ble_eq_true rfl) ⟨(by show _ + 9 ≤ 81; omega), (by show _ + 4608 ≤ 6288; omega)⟩ dX11_init_31) hS (fun G16 S17 H locs hf hold hag hX C hP hS hW => ?_)
  have hA := hag.trans hA
  have k_a : G16.2.1 a = 11 := (hold _ h_a).2.trans k_a
  have h_a : a ∈ G16.1 := (hold _ h_a).1
  have k_q13 : G16.2.1 q13 = 1 := (hold _ h_q13).2.trans k_q13
  have h_q13 : q13 ∈ G16.1 := (hold _ h_q13).1
  obtain ⟨S19, eS19, hf⟩ := bnd_ep hf
  refine pf_X11_26 C hP hS h_a k_a hin eS19 dX11_init_34 (fun H locs hP hS => ?_)
  have hW : WT G16 S19 := by rw [eS19]; exact wt_uR hW ⟨h_q13, k_q13⟩
  refine lv_aload_n hx hb dX11_init_37 rfl (lv_at hl 0 rfl) ?_
  refine x_new (ci := 4) C hP hS hW (by decide) rfl inTB_4 tyX4 tyX4_ok qcl_X11_30 qin_4 qini_4 (by decide +kernel) (by show _ ≤ 81; omega) (by show _ ≤ 6288; omega) dX11_init_38 (fun q20 H hq20 hsz hag C hP hS hW => ?_)
  have hX := gx_push hX hq20 hsz C.2.2.2.2.2.2.2.2.2.1
  have hA := hag.trans hA
  have hf := hf q20 hq20
  obtain ⟨G21, eG21, hf⟩ := bnd_ep hf
  obtain ⟨S22, eS22, hf⟩ := bnd_ep hf
  rw [← eG21, ← eS22] at hP hW
  rw [← eG21] at hA hX C hS
  have k_a : G21.2.1 a = 11 := by rw [eG21, push_k h_a hq20]; exact k_a
  have h_a : a ∈ G21.1 := by rw [eG21]; exact push_in h_a
  have h_q20 : q20 ∈ G21.1 := by rw [eG21]; exact push_q
  have k_q20 : G21.2.1 q20 = 4 := by rw [eG21]; exact push_kq
  refine lv_dup hx hb dX11_init_41 rfl ?_
  refine y_aft_v (mc := 36) (ms := 202) C hX (y_runI (rm := (RMA 2 56 36 202)) (As := []) (rest := [.ref q20, .ref a]) C hP hS (c_X4_init (l := l) C.2.2.2.2.2.2.2.2.2.1 hW h_q20 k_q20 hf H.size) km_X4_init kn_X4_init rfl qm_X11_32 ⟨(by show _ ≤ _; decide), (by show _ ≤ _; decide)⟩ rfl hl.1 rfl (Nat.le_of_ble_eq_true rfl) ⟨(by show _ + 36 ≤ 81; omega), (by show _ + 202 ≤ 6288; omega)⟩ dX11_init_42) hS (fun G23 S24 H locs hf hold hag hX C hP hS hW => ?_)
  have hA := hag.trans hA
  have k_a : G23.2.1 a = 11 := (hold _ h_a).2.trans k_a
  have h_a : a ∈ G23.1 := (hold _ h_a).1
  have k_q20 : G23.2.1 q20 = 4 := (hold _ h_q20).2.trans k_q20
  have h_q20 : q20 ∈ G23.1 := (hold _ h_q20).1
  obtain ⟨S26, eS26, hf⟩ := bnd_ep hf
  refine pf_X11_33 C hP hS h_a k_a hin eS26 dX11_init_45 (fun H locs hP hS => ?_)
  have hW : WT G23 S26 := by rw [eS26]; exact wt_uR hW ⟨h_q20, k_q20⟩
  refine lv_aload_n hx hb dX11_init_48 rfl (lv_at hl 0 rfl) ?_
  refine x_new (ci := 7) C hP hS hW (by decide) rfl inTB_7 tyX7 tyX7_ok qcl_X11_37 qin_7 qini_7 (by decide +kernel) (by show _ ≤ 81; omega) (by show _ ≤ 6288; omega) dX11_init_49 (fun q27 H hq27 hsz hag C hP hS hW => ?_)
  have hX := gx_push hX hq27 hsz C.2.2.2.2.2.2.2.2.2.1
  have hA := hag.trans hA
  have hf := hf q27 hq27
  obtain ⟨G28, eG28, hf⟩ := bnd_ep hf
  obtain ⟨S29, eS29, hf⟩ := bnd_ep hf
  rw [← eG28, ← eS29] at hP hW
  rw [← eG28] at hA hX C hS
  have k_a : G28.2.1 a = 11 := by rw [eG28, push_k h_a hq27]; exact k_a
  have h_a : a ∈ G28.1 := by rw [eG28]; exact push_in h_a
  have h_q27 : q27 ∈ G28.1 := by rw [eG28]; exact push_q
  have k_q27 : G28.2.1 q27 = 7 := by rw [eG28]; exact push_kq
  refine lv_dup hx hb dX11_init_52 rfl ?_
  refine y_aft_v (mc := 1) (ms := 6) C hX (y_runI (rm := (RMA 1 28 1 6)) (As := []) (rest := [.ref q27, .ref a]) C hP hS (c_X7_init (l := l) C.2.2.2.2.2.2.2.2.2.1 hW h_q27 k_q27 hf H.size) km_X7_init kn_X7_init rfl qm_X11_39 ⟨(by show _ ≤ _; decide), (by show _ ≤ _; decide)⟩ rfl hl.1 rfl (Nat.le_of_ble_eq_true rfl) ⟨(by show _ + 1 ≤ 81; omega), (by show _ + 6 ≤ 6288; omega)⟩ dX11_init_53) hS (fun G30 S31 H locs hf hold hag hX C hP hS hW => ?_)
  have hA := hag.trans hA
  have k_a : G30.2.1 a = 11 := (hold _ h_a).2.trans k_a
  have h_a : a ∈ G30.1 := (hold _ h_a).1
  have k_q27 : G30.2.1 q27 = 7 := (hold _ h_q27).2.trans k_q27
  have h_q27 : q27 ∈ G30.1 := (hold _ h_q27).1
  obtain ⟨S33, eS33, hf⟩ := bnd_ep hf
  refine pf_X11_40 C hP hS h_a k_a hin eS33 dX11_init_56 (fun H locs hP hS => ?_)
  have hW : WT G30 S33 := by rw [eS33]; exact wt_uR hW ⟨h_q27, k_q27⟩
  refine lv_aload_n hx hb dX11_init_59 rfl (lv_at hl 0 rfl) ?_
  refine x_new (ci := 7) C hP hS hW (by decide) rfl inTB_7 tyX7 tyX7_ok qcl_X11_37 qin_7 qini_7 (by decide +kernel) (by show _ ≤ 81; omega) (by show _ ≤ 6288; omega) dX11_init_60 (fun q34 H hq34 hsz hag C hP hS hW => ?_)
  have hX := gx_push hX hq34 hsz C.2.2.2.2.2.2.2.2.2.1
  have hA := hag.trans hA
  have hf := hf q34 hq34
  obtain ⟨G35, eG35, hf⟩ := bnd_ep hf
  obtain ⟨S36, eS36, hf⟩ := bnd_ep hf
  rw [← eG35, ← eS36] at hP hW
  rw [← eG35] at hA hX C hS
  have k_a : G35.2.1 a = 11 := by rw [eG35, push_k h_a hq34]; exact k_a
  have h_a : a ∈ G35.1 := by rw [eG35]; exact push_in h_a
  have h_q34 : q34 ∈ G35.1 := by rw [eG35]; exact push_q
  have k_q34 : G35.2.1 q34 = 7 := by rw [eG35]; exact push_kq
  refine lv_dup hx hb dX11_init_63 rfl ?_
  refine y_aft_v (mc := 1) (ms := 6) C hX (y_runI (rm := (RMA 1 28 1 6)) (As := []) (rest := [.ref q34, .ref a]) C hP hS (c_X7_init (l := l) C.2.2.2.2.2.2.2.2.2.1 hW h_q34 k_q34 hf H.size) km_X7_init kn_X7_init rfl qm_X11_39 ⟨(by show _ ≤ _; decide), (by show _ ≤ _; decide)⟩ rfl hl.1 rfl (Nat.le_of_ble_eq_true rfl) ⟨(by show _ + 1 ≤ 81; omega), (by show _ + 6 ≤ 6288; omega)⟩ dX11_init_64) hS (fun G37 S38 H locs hf hold hag hX C hP hS hW => ?_)
  have hA := hag.trans hA
  have k_a : G37.2.1 a = 11 := (hold _ h_a).2.trans k_a
  have h_a : a ∈ G37.1 := (hold _ h_a).1
  have k_q34 : G37.2.1 q34 = 7 := (hold _ h_q34).2.trans k_q34
  have h_q34 : q34 ∈ G37.1 := (hold _ h_q34).1
  obtain ⟨S40, eS40, hf⟩ := bnd_ep hf
  refine pf_X11_44 C hP hS h_a k_a hin eS40 dX11_init_67 (fun H locs hP hS => ?_)
  have hW : WT G37 S40 := by rw [eS40]; exact wt_uR hW ⟨h_q34, k_q34⟩
  refine lv_aload_n hx hb dX11_init_70 rfl (lv_at hl 0 rfl) ?_
  refine lv_iconst (v := 4) hx hb dX11_init_71 rfl ?_
  refine x_newref (N' := 4) C hP hS hW qcl_X11_37 (qao_S C) 5 18 rfl (by decide) (by decide) (by decide) zap_S (by show _ ≤ 81; omega) (by show _ ≤ 6288; omega) dX11_init_72 (fun q41 H hq41 hsz hag C hP hS hW => ?_)
  have hX := gx_push hX hq41 hsz C.2.2.2.2.2.2.2.2.2.1
  have hA := hag.trans hA
  have hf := hf q41 hq41
  obtain ⟨G42, eG42, hf⟩ := bnd_ep hf
  obtain ⟨S43, eS43, hf⟩ := bnd_ep hf
  rw [← eG42, ← eS43] at hP hW
  rw [← eG42] at hA hX C hS
  have k_a : G42.2.1 a = 11 := by rw [eG42, push_k h_a hq41]; exact k_a
  have h_a : a ∈ G42.1 := by rw [eG42]; exact push_in h_a
  have h_q41 : q41 ∈ G42.1 := by rw [eG42]; exact push_q
  have k_q41 : G42.2.1 q41 = 18 := by rw [eG42]; exact push_kq
  obtain ⟨S44, eS44, hf⟩ := bnd_ep hf
  refine pf_X11_47 C hP hS h_a k_a hin eS44 dX11_init_75 (fun H locs hP hS => ?_)
  have hW : WT G42 S44 := by rw [eS44]; exact wt_uR hW ⟨h_q41, k_q41⟩
  refine lv_aload_n hx hb dX11_init_78 rfl (lv_at hl 0 rfl) ?_
  refine lv_iconst (v := 4) hx hb dX11_init_79 rfl ?_
  refine x_newarr (ty := .boolean) (N' := 4) (a0 := (4, .inl (fun _ => 0))) C hP hS hW rfl qarr_Z 3 16 rfl (arr_Z 4) (by decide) (by decide) (by decide) zap_Z (by show _ ≤ 81; omega) (by show _ ≤ 6288; omega) dX11_init_80 (fun q45 H hq45 hsz hag C hP hS hW => ?_)
  have hX := gx_push hX hq45 hsz C.2.2.2.2.2.2.2.2.2.1
  have hA := hag.trans hA
  have hf := hf q45 hq45
  obtain ⟨G46, eG46, hf⟩ := bnd_ep hf
  obtain ⟨S47, eS47, hf⟩ := bnd_ep hf
  rw [← eG46, ← eS47] at hP hW
  rw [← eG46] at hA hX C hS
  have k_a : G46.2.1 a = 11 := by rw [eG46, push_k h_a hq45]; exact k_a
  have h_a : a ∈ G46.1 := by rw [eG46]; exact push_in h_a
  have h_q45 : q45 ∈ G46.1 := by rw [eG46]; exact push_q
  have k_q45 : G46.2.1 q45 = 16 := by rw [eG46]; exact push_kq
  obtain ⟨S48, eS48, hf⟩ := bnd_ep hf
  refine pf_X11_51 C hP hS h_a k_a hin eS48 dX11_init_82 (fun H locs hP hS => ?_)
  have hW : WT G46 S48 := by rw [eS48]; exact wt_uR hW ⟨h_q45, k_q45⟩
  refine lv_aload_n hx hb dX11_init_85 rfl (lv_at hl 0 rfl) ?_
  refine lv_bipush (v := 8) hx hb dX11_init_86 kc_bipush_8 ?_
  refine x_newarr (ty := .int) (N' := 8) (a0 := (8, .inl (fun _ => 0))) C hP hS hW rfl qarr_I 1 14 rfl (arr_I 8) (by decide) (by decide) (by decide) zap_I (by show _ ≤ 81; omega) (by show _ ≤ 6288; omega) dX11_init_88 (fun q49 H hq49 hsz hag C hP hS hW => ?_)
  have hX := gx_push hX hq49 hsz C.2.2.2.2.2.2.2.2.2.1
  have hA := hag.trans hA
  have hf := hf q49 hq49
  obtain ⟨G50, eG50, hf⟩ := bnd_ep hf
  obtain ⟨S51, eS51, hf⟩ := bnd_ep hf
  rw [← eG50, ← eS51] at hP hW
  rw [← eG50] at hA hX C hS
  have k_a : G50.2.1 a = 11 := by rw [eG50, push_k h_a hq49]; exact k_a
  have h_a : a ∈ G50.1 := by rw [eG50]; exact push_in h_a
  have h_q49 : q49 ∈ G50.1 := by rw [eG50]; exact push_q
  have k_q49 : G50.2.1 q49 = 14 := by rw [eG50]; exact push_kq
  obtain ⟨S52, eS52, hf⟩ := bnd_ep hf
  refine pf_X11_55 C hP hS h_a k_a hin eS52 dX11_init_90 (fun H locs hP hS => ?_)
  have hW : WT G50 S52 := by rw [eS52]; exact wt_uR hW ⟨h_q49, k_q49⟩
  refine lv_aload_n hx hb dX11_init_93 rfl (lv_at hl 0 rfl) ?_
  refine lv_bipush (v := 8) hx hb dX11_init_94 kc_bipush_8 ?_
  refine x_newarr (ty := .boolean) (N' := 8) (a0 := (8, .inl (fun _ => 0))) C hP hS hW rfl qarr_Z 3 16 rfl (arr_Z 8) (by decide) (by decide) (by decide) zap_Z (by show _ ≤ 81; omega) (by show _ ≤ 6288; omega) dX11_init_96 (fun q53 H hq53 hsz hag C hP hS hW => ?_)
  have hX := gx_push hX hq53 hsz C.2.2.2.2.2.2.2.2.2.1
  have hA := hag.trans hA
  have hf := hf q53 hq53
  obtain ⟨G54, eG54, hf⟩ := bnd_ep hf
  obtain ⟨S55, eS55, hf⟩ := bnd_ep hf
  rw [← eG54, ← eS55] at hP hW
  rw [← eG54] at hA hX C hS
  have k_a : G54.2.1 a = 11 := by rw [eG54, push_k h_a hq53]; exact k_a
  have h_a : a ∈ G54.1 := by rw [eG54]; exact push_in h_a
  have h_q53 : q53 ∈ G54.1 := by rw [eG54]; exact push_q
  have k_q53 : G54.2.1 q53 = 16 := by rw [eG54]; exact push_kq
  obtain ⟨S56, eS56, hf⟩ := bnd_ep hf
  refine pf_X11_59 C hP hS h_a k_a hin eS56 dX11_init_98 (fun H locs hP hS => ?_)
  have hW : WT G54 S56 := by rw [eS56]; exact wt_uR hW ⟨h_q53, k_q53⟩
  refine lv_aload_n hx hb dX11_init_101 rfl (lv_at hl 0 rfl) ?_
  refine lv_bipush (v := 6) hx hb dX11_init_102 kc_bipush_6 ?_
  refine x_newarr (ty := .int) (N' := 6) (a0 := (6, .inl (fun _ => 0))) C hP hS hW rfl qarr_I 1 14 rfl (arr_I 6) (by decide) (by decide) (by decide) zap_I (by show _ ≤ 81; omega) (by show _ ≤ 6288; omega) dX11_init_104 (fun q57 H hq57 hsz hag C hP hS hW => ?_)
  have hX := gx_push hX hq57 hsz C.2.2.2.2.2.2.2.2.2.1
  have hA := hag.trans hA
  have hf := hf q57 hq57
  obtain ⟨G58, eG58, hf⟩ := bnd_ep hf
  obtain ⟨S59, eS59, hf⟩ := bnd_ep hf
  rw [← eG58, ← eS59] at hP hW
  rw [← eG58] at hA hX C hS
  have k_a : G58.2.1 a = 11 := by rw [eG58, push_k h_a hq57]; exact k_a
  have h_a : a ∈ G58.1 := by rw [eG58]; exact push_in h_a
  have h_q57 : q57 ∈ G58.1 := by rw [eG58]; exact push_q
  have k_q57 : G58.2.1 q57 = 14 := by rw [eG58]; exact push_kq
  obtain ⟨S60, eS60, hf⟩ := bnd_ep hf
  refine pf_X11_62 C hP hS h_a k_a hin eS60 dX11_init_106 (fun H locs hP hS => ?_)
  have hW : WT G58 S60 := by rw [eS60]; exact wt_uR hW ⟨h_q57, k_q57⟩
  refine lv_aload_n hx hb dX11_init_109 rfl (lv_at hl 0 rfl) ?_
  refine x_new (ci := 9) C hP hS hW (by decide) rfl inTB_9 tyX9 tyX9_ok qcl_X11_65 qin_9 qini_9 (by decide +kernel) (by show _ ≤ 81; omega) (by show _ ≤ 6288; omega) dX11_init_110 (fun q61 H hq61 hsz hag C hP hS hW => ?_)
  have hX := gx_push hX hq61 hsz C.2.2.2.2.2.2.2.2.2.1
  have hA := hag.trans hA
  have hf := hf q61 hq61
  obtain ⟨G62, eG62, hf⟩ := bnd_ep hf
  obtain ⟨S63, eS63, hf⟩ := bnd_ep hf
  rw [← eG62, ← eS63] at hP hW
  rw [← eG62] at hA hX C hS
  have k_a : G62.2.1 a = 11 := by rw [eG62, push_k h_a hq61]; exact k_a
  have h_a : a ∈ G62.1 := by rw [eG62]; exact push_in h_a
  have h_q61 : q61 ∈ G62.1 := by rw [eG62]; exact push_q
  have k_q61 : G62.2.1 q61 = 9 := by rw [eG62]; exact push_kq
  refine lv_dup hx hb dX11_init_113 rfl ?_
  refine y_aft_v (mc := 3) (ms := 14) C hX (y_runI (rm := (RMA 1 28 3 14)) (As := []) (rest := [.ref q61, .ref a]) C hP hS (c_X9_init (l := l) C.2.2.2.2.2.2.2.2.2.1 hW h_q61 k_q61 hf H.size) km_X9_init kn_X9_init rfl qm_X11_67 ⟨(by show _ ≤ _; decide), (by show _ ≤ _; decide)⟩ rfl hl.1 rfl (Nat.le_of_ble_eq_true rfl) ⟨(by show _ + 3 ≤ 81; omega), (by show _ + 14 ≤ 6288; omega)⟩ dX11_init_114) hS (fun G64 S65 H locs hf hold hag hX C hP hS hW => ?_)
  have hA := hag.trans hA
  have k_a : G64.2.1 a = 11 := (hold _ h_a).2.trans k_a
  have h_a : a ∈ G64.1 := (hold _ h_a).1
  have k_q61 : G64.2.1 q61 = 9 := (hold _ h_q61).2.trans k_q61
  have h_q61 : q61 ∈ G64.1 := (hold _ h_q61).1
  obtain ⟨S67, eS67, hf⟩ := bnd_ep hf
  refine pf_X11_68 C hP hS h_a k_a eS67 dX11_init_117 (fun H locs hP hS => ?_)
  have hW : WT G64 S67 := by rw [eS67]; exact wt_uR hW ⟨h_q61, k_q61⟩
  refine lv_aload_n hx hb dX11_init_120 rfl (lv_at hl 0 rfl) ?_
  refine x_new (ci := 9) C hP hS hW (by decide) rfl inTB_9 tyX9 tyX9_ok qcl_X11_65 qin_9 qini_9 (by decide +kernel) (by show _ ≤ 81; omega) (by show _ ≤ 6288; omega) dX11_init_121 (fun q68 H hq68 hsz hag C hP hS hW => ?_)
  have hX := gx_push hX hq68 hsz C.2.2.2.2.2.2.2.2.2.1
  have hA := hag.trans hA
  have hf := hf q68 hq68
  obtain ⟨G69, eG69, hf⟩ := bnd_ep hf
  obtain ⟨S70, eS70, hf⟩ := bnd_ep hf
  rw [← eG69, ← eS70] at hP hW
  rw [← eG69] at hA hX C hS
  have k_a : G69.2.1 a = 11 := by rw [eG69, push_k h_a hq68]; exact k_a
  have h_a : a ∈ G69.1 := by rw [eG69]; exact push_in h_a
  have h_q68 : q68 ∈ G69.1 := by rw [eG69]; exact push_q
  have k_q68 : G69.2.1 q68 = 9 := by rw [eG69]; exact push_kq
  refine lv_dup hx hb dX11_init_124 rfl ?_
  refine y_aft_v (mc := 3) (ms := 14) C hX (y_runI (rm := (RMA 1 28 3 14)) (As := []) (rest := [.ref q68, .ref a]) C hP hS (c_X9_init (l := l) C.2.2.2.2.2.2.2.2.2.1 hW h_q68 k_q68 hf H.size) km_X9_init kn_X9_init rfl qm_X11_67 ⟨(by show _ ≤ _; decide), (by show _ ≤ _; decide)⟩ rfl hl.1 rfl (Nat.le_of_ble_eq_true rfl) ⟨(by show _ + 3 ≤ 81; omega), (by show _ + 14 ≤ 6288; omega)⟩ dX11_init_125) hS (fun G71 S72 H locs hf hold hag hX C hP hS hW => ?_)
  have hA := hag.trans hA
  have k_a : G71.2.1 a = 11 := (hold _ h_a).2.trans k_a
  have h_a : a ∈ G71.1 := (hold _ h_a).1
  have k_q68 : G71.2.1 q68 = 9 := (hold _ h_q68).2.trans k_q68
  have h_q68 : q68 ∈ G71.1 := (hold _ h_q68).1
  obtain ⟨S74, eS74, hf⟩ := bnd_ep hf
  refine pf_X11_72 C hP hS h_a k_a eS74 dX11_init_128 (fun H locs hP hS => ?_)
  have hW : WT G71 S74 := by rw [eS74]; exact wt_uR hW ⟨h_q68, k_q68⟩
  refine lv_aload_n hx hb dX11_init_131 rfl (lv_at hl 0 rfl) ?_
  refine x_new (ci := 5) C hP hS hW (by decide) rfl inTB_5 tyX5 tyX5_ok qcl_X11_75 qin_5 qini_5 (by decide +kernel) (by show _ ≤ 81; omega) (by show _ ≤ 6288; omega) dX11_init_132 (fun q75 H hq75 hsz hag C hP hS hW => ?_)
  have hX := gx_push hX hq75 hsz C.2.2.2.2.2.2.2.2.2.1
  have hA := hag.trans hA
  have hf := hf q75 hq75
  obtain ⟨G76, eG76, hf⟩ := bnd_ep hf
  obtain ⟨S77, eS77, hf⟩ := bnd_ep hf
  rw [← eG76, ← eS77] at hP hW
  rw [← eG76] at hA hX C hS
  have k_a : G76.2.1 a = 11 := by rw [eG76, push_k h_a hq75]; exact k_a
  have h_a : a ∈ G76.1 := by rw [eG76]; exact push_in h_a
  have h_q75 : q75 ∈ G76.1 := by rw [eG76]; exact push_q
  have k_q75 : G76.2.1 q75 = 5 := by rw [eG76]; exact push_kq
  refine lv_dup hx hb dX11_init_135 rfl ?_
  refine y_aft_v (mc := 1) (ms := 150) C hX (y_runI (rm := (RMA 1 28 1 150)) (As := []) (rest := [.ref q75, .ref a]) C hP hS (c_X5_init (l := l) C.2.2.2.2.2.2.2.2.2.1 hW h_q75 k_q75 hf H.size) km_X5_init kn_X5_init rfl qm_X11_77 ⟨(by show _ ≤ _; decide), (by show _ ≤ _; decide)⟩ rfl hl.1 rfl (Nat.le_of_ble_eq_true rfl) ⟨(by show _ + 1 ≤ 81; omega), (by show _ + 150 ≤ 6288; omega)⟩ dX11_init_136) hS (fun G78 S79 H locs hf hold hag hX C hP hS hW => ?_)
  have hA := hag.trans hA
  have k_a : G78.2.1 a = 11 := (hold _ h_a).2.trans k_a
  have h_a : a ∈ G78.1 := (hold _ h_a).1
  have k_q75 : G78.2.1 q75 = 5 := (hold _ h_q75).2.trans k_q75
  have h_q75 : q75 ∈ G78.1 := (hold _ h_q75).1
  obtain ⟨S81, eS81, hf⟩ := bnd_ep hf
  refine pf_X11_78 C hP hS h_a k_a eS81 dX11_init_139 (fun H locs hP hS => ?_)
  have hW : WT G78 S81 := by rw [eS81]; exact wt_uR hW ⟨h_q75, k_q75⟩
  refine lv_aload_n hx hb dX11_init_142 rfl (lv_at hl 0 rfl) ?_
  refine x_new (ci := 5) C hP hS hW (by decide) rfl inTB_5 tyX5 tyX5_ok qcl_X11_75 qin_5 qini_5 (by decide +kernel) (by show _ ≤ 81; omega) (by show _ ≤ 6288; omega) dX11_init_143 (fun q82 H hq82 hsz hag C hP hS hW => ?_)
  have hX := gx_push hX hq82 hsz C.2.2.2.2.2.2.2.2.2.1
  have hA := hag.trans hA
  have hf := hf q82 hq82
  obtain ⟨G83, eG83, hf⟩ := bnd_ep hf
  obtain ⟨S84, eS84, hf⟩ := bnd_ep hf
  rw [← eG83, ← eS84] at hP hW
  rw [← eG83] at hA hX C hS
  have k_a : G83.2.1 a = 11 := by rw [eG83, push_k h_a hq82]; exact k_a
  have h_a : a ∈ G83.1 := by rw [eG83]; exact push_in h_a
  have h_q82 : q82 ∈ G83.1 := by rw [eG83]; exact push_q
  have k_q82 : G83.2.1 q82 = 5 := by rw [eG83]; exact push_kq
  refine lv_dup hx hb dX11_init_146 rfl ?_
  refine y_aft_v (mc := 1) (ms := 150) C hX (y_runI (rm := (RMA 1 28 1 150)) (As := []) (rest := [.ref q82, .ref a]) C hP hS (c_X5_init (l := l) C.2.2.2.2.2.2.2.2.2.1 hW h_q82 k_q82 hf H.size) km_X5_init kn_X5_init rfl qm_X11_77 ⟨(by show _ ≤ _; decide), (by show _ ≤ _; decide)⟩ rfl hl.1 rfl (Nat.le_of_ble_eq_true rfl) ⟨(by show _ + 1 ≤ 81; omega), (by show _ + 150 ≤ 6288; omega)⟩ dX11_init_147) hS (fun G85 S86 H locs hf hold hag hX C hP hS hW => ?_)
  have hA := hag.trans hA
  have k_a : G85.2.1 a = 11 := (hold _ h_a).2.trans k_a
  have h_a : a ∈ G85.1 := (hold _ h_a).1
  have k_q82 : G85.2.1 q82 = 5 := (hold _ h_q82).2.trans k_q82
  have h_q82 : q82 ∈ G85.1 := (hold _ h_q82).1
  obtain ⟨S88, eS88, hf⟩ := bnd_ep hf
  refine pf_X11_82 C hP hS h_a k_a eS88 dX11_init_150 (fun H locs hP hS => ?_)
  have hW : WT G85 S88 := by rw [eS88]; exact wt_uR hW ⟨h_q82, k_q82⟩
  refine lv_iconst (v := 0) hx hb dX11_init_153 rfl ?_
  refine lv_istore_n (lv' := [(1, .int 0), (0, .ref a)]) hx hb dX11_init_154 rfl hl (by decide) rfl (fun ls hl => ?_)
  exact b_X11_init_155 5 a 0 G85 h_a k_a S88 H locs _ _ _ C hA hX hf hP hS hW (lv_sub hl [1, 0] rfl) (by omega) (by omega)
def w_X11_plan (F : Nat) (a : Nat) (G : GS) (S : HS) (P : Int32 → GS → HS → Prop) : Prop :=
  bd1p (gR S 1114 a) fun t1 =>
  bnd (uI S 501 t1 0) fun S2 =>
  ∀ q3 : Nat, q3 ∉ G.1 → bnd (pushG G q3 6 0) fun G4 => bnd (zap q3 S2) fun S5 =>
  bd1p (gR S5 1100 a) fun t6 =>
  bd1p (gR S5 1111 a) fun t7 =>
  bnd (s_X6_init q3 t6 t7 t1 S5) fun S8 =>
  bd1p (s_X6_readAll G4.2.2 F q3 S8) fun S9 =>
  bd1p (gR S9 1100 a) fun t10 =>
  bnd (s_X8_empty t10 S9) fun S11 =>
  bd1p (gR S11 1100 a) fun t12 =>
  if (gI S11 807 t12) = (0 : Int32) then
  bd1p (gR S11 1113 a) fun t14 =>
  bnd (uR S11 1114 a (some t14)) fun S15 =>
  bnd (uR S15 1113 a (some t1)) fun S16 =>
  P 0 G4 S16
  else
  bd1p (gR S11 1100 a) fun t17 =>
  P (gI S11 807 t17) G4 S11
set_option maxRecDepth 100000 in
set_option maxHeartbeats 4000000 in
theorem c_X11_plan {l : Launch} {V : EV} {G : GS} {S : HS} {F : Nat} {a : Nat} {P : Int32 → GS → HS → Prop} (hN : G.1.Nodup) (hW : WT G S) (h_a : a ∈ G.1) (k_a : G.2.1 a = 11) (hf : w_X11_plan F a G S P) : MetIW l yX11_plan cX11_plan 2 18 636 1 3 V G S [.ref a] P := by
  intro sz
  refine x_in RX11 rfl (by decide +kernel) hN (Nat.le_of_ble_eq_true rfl) (fun p e s m args below meth c ls hsz hargs hnm C hP hS hl => ?_)
  subst hsz
  have hx := C.1
  have hb := C.2.1
  have hA : AG G s.heap.size = AG G s.heap.size := rfl
  have hX : GX G s.heap.size G := gx_rf hN
  have hl : lv_has ls 2 [(0, .ref a)] := hl
  unfold w_X11_plan at hf
  refine lv_aload_n hx hb dX11_plan_0 rfl (lv_at hl 0 rfl) ?_
  refine gf_X11_82 C hP h_a k_a dX11_plan_1 ?_
  obtain ⟨t1, et1, hf⟩ := bd1_ep hf
  obtain ⟨h_t1, k_t1⟩ := wt_r hW h_a k_a (by decide) et1
  have k_t1 : G.2.1 t1 = 5 := k_t1
  rw [et1]
  refine lv_astore_n (lv' := [(1, .ref t1), (0, .ref a)]) hx hb dX11_plan_4 rfl hl (by decide) rfl (fun ls hl => ?_)
  refine lv_aload_n hx hb dX11_plan_5 rfl (lv_at hl 0 rfl) ?_
  refine lv_iconst (v := 0) hx hb dX11_plan_6 rfl ?_
  obtain ⟨S2, eS2, hf⟩ := bnd_ep hf
  refine pf_X11_122 C hP hS h_t1 k_t1 eS2 dX11_plan_7 (fun H locs hP hS => ?_)
  have hW : WT G S2 := by rw [eS2]; exact hW
  refine x_new (ci := 6) C hP hS hW (by decide) rfl inTB_6 tyX6 tyX6_ok qcl_X11_132 qin_6 qini_6 (by decide +kernel) (by show _ ≤ 1; omega) (by show _ ≤ 3; omega) dX11_plan_10 (fun q3 H hq3 hsz hag C hP hS hW => ?_)
  have hX := gx_push hX hq3 hsz C.2.2.2.2.2.2.2.2.2.1
  have hA := hag.trans hA
  have hf := hf q3 hq3
  obtain ⟨G4, eG4, hf⟩ := bnd_ep hf
  obtain ⟨S5, eS5, hf⟩ := bnd_ep hf
  rw [← eG4, ← eS5] at hP hW
  rw [← eG4] at hA hX C hS
  have k_t1 : G4.2.1 t1 = 5 := by rw [eG4, push_k h_t1 hq3]; exact k_t1
  have h_t1 : t1 ∈ G4.1 := by rw [eG4]; exact push_in h_t1
  have k_a : G4.2.1 a = 11 := by rw [eG4, push_k h_a hq3]; exact k_a
  have h_a : a ∈ G4.1 := by rw [eG4]; exact push_in h_a
  have h_q3 : q3 ∈ G4.1 := by rw [eG4]; exact push_q
  have k_q3 : G4.2.1 q3 = 6 := by rw [eG4]; exact push_kq
  refine lv_dup hx hb dX11_plan_13 rfl ?_
  refine lv_aload_n hx hb dX11_plan_14 rfl (lv_at hl 1 rfl) ?_
  refine gf_X11_10 C hP h_a k_a dX11_plan_15 ?_
  obtain ⟨t6, et6, hf⟩ := bd1_ep hf
  obtain ⟨h_t6, k_t6⟩ := wt_r hW h_a k_a (by decide) et6
  have k_t6 : G4.2.1 t6 = 8 := k_t6
  rw [et6]
  refine lv_aload_n hx hb dX11_plan_18 rfl (lv_at hl 1 rfl) ?_
  refine gf_X11_68 C hP h_a k_a dX11_plan_19 ?_
  obtain ⟨t7, et7, hf⟩ := bd1_ep hf
  obtain ⟨h_t7, k_t7⟩ := wt_r hW h_a k_a (by decide) et7
  have k_t7 : G4.2.1 t7 = 9 := k_t7
  rw [et7]
  refine lv_aload_n hx hb dX11_plan_22 rfl (lv_at hl 0 rfl) ?_
  obtain ⟨S8, eS8, hf⟩ := bnd_ep hf
  refine x_aft_v (y_runI (rm := RM 1 28) (As := [.ref t6, .ref t7, .ref t1]) (rest := [.ref q3]) C hP hS (c_X6_init (l := l) C.2.2.2.2.2.2.2.2.2.1 hW h_q3 k_q3 h_t6 k_t6 h_t7 k_t7 h_t1 k_t1 eS8.symm H.size) km_X6_init kn_X6_init rfl qm_X11_134 ⟨(by show _ ≤ _; decide), (by show _ ≤ _; decide)⟩ rfl hl.1 rfl (Nat.le_of_ble_eq_true rfl) ⟨(by show _ + 0 ≤ 1; omega), (by show _ + 0 ≤ 3; omega)⟩ dX11_plan_23) hS (fun H locs hP hS hW => ?_)
  obtain ⟨S9, eS9, hf⟩ := bd1_ep hf
  refine x_aft_v (x_runV (As := []) (rest := []) C hP hS (c_X6_readAll (l := l) C.2.2.2.2.2.2.2.2.2.1 hW h_q3 k_q3 eS9 H.size) h_q3 k_q3 (by decide) rfl rfl km_X6_readAll ki_X6_readAll qm_X11_137 ⟨(by show _ ≤ _; decide), (by show _ ≤ _; decide)⟩ rfl hl.1 rfl (Nat.le_of_ble_eq_true rfl) ⟨(by show _ ≤ 1; omega), (by show _ ≤ 3; omega)⟩ dX11_plan_26) hS (fun H locs hP hS hW => ?_)
  refine lv_aload_n hx hb dX11_plan_29 rfl (lv_at hl 1 rfl) ?_
  refine gf_X11_10 C hP h_a k_a dX11_plan_30 ?_
  obtain ⟨t10, et10, hf⟩ := bd1_ep hf
  obtain ⟨h_t10, k_t10⟩ := wt_r hW h_a k_a (by decide) et10
  have k_t10 : G4.2.1 t10 = 8 := k_t10
  rw [et10]
  obtain ⟨S11, eS11, hf⟩ := bnd_ep hf
  refine x_aft_v (x_runV (As := []) (rest := []) C hP hS (c_X8_empty (l := l) C.2.2.2.2.2.2.2.2.2.1 hW h_t10 k_t10 eS11.symm H.size) h_t10 k_t10 (by decide) rfl rfl km_X8_empty ki_X8_empty qm_X11_104 ⟨(by show _ ≤ _; decide), (by show _ ≤ _; decide)⟩ rfl hl.1 rfl (Nat.le_of_ble_eq_true rfl) ⟨(by show _ ≤ 1; omega), (by show _ ≤ 3; omega)⟩ dX11_plan_33) hS (fun H locs hP hS hW => ?_)
  refine lv_aload_n hx hb dX11_plan_36 rfl (lv_at hl 1 rfl) ?_
  refine gf_X11_10 C hP h_a k_a dX11_plan_37 ?_
  obtain ⟨t12, et12, hf⟩ := bd1_ep hf
  obtain ⟨h_t12, k_t12⟩ := wt_r hW h_a k_a (by decide) et12
  have k_t12 : G4.2.1 t12 = 8 := k_t12
  rw [et12]
  refine gf_X11_105 C hP h_t12 k_t12 dX11_plan_40 ?_
  refine lv_if_eq (tgt := 54) hx hb dX11_plan_43 (by decide) (fun c13 => ?_) (fun c13 => ?_)
  · have hf := if_tp c13 hf
    refine lv_aload_n hx hb dX11_plan_54 rfl (lv_at hl 1 rfl) ?_
    refine lv_aload_n hx hb dX11_plan_55 rfl (lv_at hl 1 rfl) ?_
    refine gf_X11_78 C hP h_a k_a dX11_plan_56 ?_
    obtain ⟨t14, et14, hf⟩ := bd1_ep hf
    obtain ⟨h_t14, k_t14⟩ := wt_r hW h_a k_a (by decide) et14
    have k_t14 : G4.2.1 t14 = 5 := k_t14
    rw [et14]
    obtain ⟨S15, eS15, hf⟩ := bnd_ep hf
    refine pf_X11_82 C hP hS h_a k_a eS15 dX11_plan_59 (fun H locs hP hS => ?_)
    have hW : WT G4 S15 := by rw [eS15]; exact wt_uR hW ⟨h_t14, k_t14⟩
    refine lv_aload_n hx hb dX11_plan_62 rfl (lv_at hl 1 rfl) ?_
    refine lv_aload_n hx hb dX11_plan_63 rfl (lv_at hl 0 rfl) ?_
    obtain ⟨S16, eS16, hf⟩ := bnd_ep hf
    refine pf_X11_78 C hP hS h_a k_a eS16 dX11_plan_64 (fun H locs hP hS => ?_)
    have hW : WT G4 S16 := by rw [eS16]; exact wt_uR hW ⟨h_t1, k_t1⟩
    refine lv_iconst (v := 0) hx hb dX11_plan_67 rfl ?_
    exact x_retiw C hA hX hP hS hW hf (by show _ ≤ 1; omega) (by show _ ≤ 3; omega) dX11_plan_68
  · have hf := if_fp c13 hf
    refine lv_aload_n hx hb dX11_plan_46 rfl (lv_at hl 1 rfl) ?_
    refine gf_X11_10 C hP h_a k_a dX11_plan_47 ?_
    obtain ⟨t17, et17, hf⟩ := bd1_ep hf
    obtain ⟨h_t17, k_t17⟩ := wt_r hW h_a k_a (by decide) et17
    have k_t17 : G4.2.1 t17 = 8 := k_t17
    rw [et17]
    refine gf_X11_105 C hP h_t17 k_t17 dX11_plan_50 ?_
    exact x_retiw C hA hX hP hS hW hf (by show _ ≤ 1; omega) (by show _ ≤ 3; omega) dX11_plan_53
def w_X11_unit (F : Nat) (a : Nat) (G : GS) (S : HS) (P : Int32 → GS → HS → Prop) : Prop :=
  bd1p (gR S 1112 a) fun t1 =>
  bnd (s_X9_empty t1 S) fun S2 =>
  ∀ q3 : Nat, q3 ∉ G.1 → bnd (pushG G q3 10 0) fun G4 => bnd (zap q3 S2) fun S5 =>
  bd1p (gR S5 1100 a) fun t6 =>
  bnd (s_X10_init q3 t6 t1 S5) fun S7 =>
  w_X10_readAll F q3 G4 S7 (fun G8 S9 =>
  bd1p (gR S9 1100 a) fun t11 =>
  bnd (s_X8_empty t11 S9) fun S12 =>
  bd1p (gR S12 1100 a) fun t13 =>
  if (gI S12 807 t13) = (0 : Int32) then
  bd1p (gR S12 1111 a) fun t15 =>
  bnd (uR S12 1112 a (some t15)) fun S16 =>
  bnd (uR S16 1111 a (some t1)) fun S17 =>
  bd1p (s_X11_begin G8.2.2 F a S17) fun S18 =>
  P 0 G8 S18
  else
  bd1p (gR S12 1100 a) fun t19 =>
  P (gI S12 807 t19) G8 S12)
set_option maxRecDepth 100000 in
set_option maxHeartbeats 4000000 in
theorem c_X11_unit {l : Launch} {V : EV} {G : GS} {S : HS} {F : Nat} {a : Nat} {P : Int32 → GS → HS → Prop} (hN : G.1.Nodup) (hW : WT G S) (h_a : a ∈ G.1) (k_a : G.2.1 a = 11) (hf : w_X11_unit F a G S P) : MetIW l yX11_unit cX11_unit 2 224 8122 1003 8018 V G S [.ref a] P := by
  intro sz
  refine x_in RX11 rfl (by decide +kernel) hN (Nat.le_of_ble_eq_true rfl) (fun p e s m args below meth c ls hsz hargs hnm C hP hS hl => ?_)
  subst hsz
  have hx := C.1
  have hb := C.2.1
  have hA : AG G s.heap.size = AG G s.heap.size := rfl
  have hX : GX G s.heap.size G := gx_rf hN
  have hl : lv_has ls 2 [(0, .ref a)] := hl
  unfold w_X11_unit at hf
  refine lv_aload_n hx hb dX11_unit_0 rfl (lv_at hl 0 rfl) ?_
  refine gf_X11_72 C hP h_a k_a dX11_unit_1 ?_
  obtain ⟨t1, et1, hf⟩ := bd1_ep hf
  obtain ⟨h_t1, k_t1⟩ := wt_r hW h_a k_a (by decide) et1
  have k_t1 : G.2.1 t1 = 9 := k_t1
  rw [et1]
  refine lv_astore_n (lv' := [(1, .ref t1), (0, .ref a)]) hx hb dX11_unit_4 rfl hl (by decide) rfl (fun ls hl => ?_)
  refine lv_aload_n hx hb dX11_unit_5 rfl (lv_at hl 0 rfl) ?_
  obtain ⟨S2, eS2, hf⟩ := bnd_ep hf
  refine x_aft_v (x_runV (As := []) (rest := []) C hP hS (c_X9_empty (l := l) C.2.2.2.2.2.2.2.2.2.1 hW h_t1 k_t1 eS2.symm s.heap.size) h_t1 k_t1 (by decide) rfl rfl km_X9_empty ki_X9_empty qm_X11_93 ⟨(by show _ ≤ _; decide), (by show _ ≤ _; decide)⟩ rfl hl.1 rfl (Nat.le_of_ble_eq_true rfl) ⟨(by show _ ≤ 1003; omega), (by show _ ≤ 8018; omega)⟩ dX11_unit_6) hS (fun H locs hP hS hW => ?_)
  refine x_new (ci := 10) C hP hS hW (by decide) rfl inTB_10 tyX10 tyX10_ok qcl_X11_96 qin_10 qini_10 (by decide +kernel) (by show _ ≤ 1003; omega) (by show _ ≤ 8018; omega) dX11_unit_9 (fun q3 H hq3 hsz hag C hP hS hW => ?_)
  have hX := gx_push hX hq3 hsz C.2.2.2.2.2.2.2.2.2.1
  have hA := hag.trans hA
  have hf := hf q3 hq3
  obtain ⟨G4, eG4, hf⟩ := bnd_ep hf
  obtain ⟨S5, eS5, hf⟩ := bnd_ep hf
  rw [← eG4, ← eS5] at hP hW
  rw [← eG4] at hA hX C hS
  have k_t1 : G4.2.1 t1 = 9 := by rw [eG4, push_k h_t1 hq3]; exact k_t1
  have h_t1 : t1 ∈ G4.1 := by rw [eG4]; exact push_in h_t1
  have k_a : G4.2.1 a = 11 := by rw [eG4, push_k h_a hq3]; exact k_a
  have h_a : a ∈ G4.1 := by rw [eG4]; exact push_in h_a
  have h_q3 : q3 ∈ G4.1 := by rw [eG4]; exact push_q
  have k_q3 : G4.2.1 q3 = 10 := by rw [eG4]; exact push_kq
  refine lv_dup hx hb dX11_unit_12 rfl ?_
  refine lv_aload_n hx hb dX11_unit_13 rfl (lv_at hl 1 rfl) ?_
  refine gf_X11_10 C hP h_a k_a dX11_unit_14 ?_
  obtain ⟨t6, et6, hf⟩ := bd1_ep hf
  obtain ⟨h_t6, k_t6⟩ := wt_r hW h_a k_a (by decide) et6
  have k_t6 : G4.2.1 t6 = 8 := k_t6
  rw [et6]
  refine lv_aload_n hx hb dX11_unit_17 rfl (lv_at hl 0 rfl) ?_
  obtain ⟨S7, eS7, hf⟩ := bnd_ep hf
  refine x_aft_v (y_runI (rm := RM 1 28) (As := [.ref t6, .ref t1]) (rest := [.ref q3]) C hP hS (c_X10_init (l := l) C.2.2.2.2.2.2.2.2.2.1 hW h_q3 k_q3 h_t6 k_t6 h_t1 k_t1 eS7.symm H.size) km_X10_init kn_X10_init rfl qm_X11_98 ⟨(by show _ ≤ _; decide), (by show _ ≤ _; decide)⟩ rfl hl.1 rfl (Nat.le_of_ble_eq_true rfl) ⟨(by show _ + 0 ≤ 1003; omega), (by show _ + 0 ≤ 8018; omega)⟩ dX11_unit_18) hS (fun H locs hP hS hW => ?_)
  refine y_aft_v (mc := 1002) (ms := 8016) C hX (y_runV (rm := (RMA 223 8093 1002 8016)) (As := []) (rest := []) C hP hS (c_X10_readAll (l := l) C.2.2.2.2.2.2.2.2.2.1 hW h_q3 k_q3 hf H.size) h_q3 k_q3 (by decide) rfl rfl km_X10_readAll ki_X10_readAll qm_X11_101 ⟨(by show _ ≤ _; decide), (by show _ ≤ _; decide)⟩ rfl hl.1 rfl (Nat.le_of_ble_eq_true rfl) ⟨(by show _ + 1002 ≤ 1003; omega), (by show _ + 8016 ≤ 8018; omega)⟩ dX11_unit_21) hS (fun G8 S9 H locs hf hold hag hX C hP hS hW => ?_)
  have hA := hag.trans hA
  have k_t1 : G8.2.1 t1 = 9 := (hold _ h_t1).2.trans k_t1
  have h_t1 : t1 ∈ G8.1 := (hold _ h_t1).1
  have k_a : G8.2.1 a = 11 := (hold _ h_a).2.trans k_a
  have h_a : a ∈ G8.1 := (hold _ h_a).1
  have k_q3 : G8.2.1 q3 = 10 := (hold _ h_q3).2.trans k_q3
  have h_q3 : q3 ∈ G8.1 := (hold _ h_q3).1
  refine lv_aload_n hx hb dX11_unit_24 rfl (lv_at hl 1 rfl) ?_
  refine gf_X11_10 C hP h_a k_a dX11_unit_25 ?_
  obtain ⟨t11, et11, hf⟩ := bd1_ep hf
  obtain ⟨h_t11, k_t11⟩ := wt_r hW h_a k_a (by decide) et11
  have k_t11 : G8.2.1 t11 = 8 := k_t11
  rw [et11]
  obtain ⟨S12, eS12, hf⟩ := bnd_ep hf
  refine x_aft_v (x_runV (As := []) (rest := []) C hP hS (c_X8_empty (l := l) C.2.2.2.2.2.2.2.2.2.1 hW h_t11 k_t11 eS12.symm H.size) h_t11 k_t11 (by decide) rfl rfl km_X8_empty ki_X8_empty qm_X11_104 ⟨(by show _ ≤ _; decide), (by show _ ≤ _; decide)⟩ rfl hl.1 rfl (Nat.le_of_ble_eq_true rfl) ⟨(by show _ ≤ 1003; omega), (by show _ ≤ 8018; omega)⟩ dX11_unit_28) hS (fun H locs hP hS hW => ?_)
  refine lv_aload_n hx hb dX11_unit_31 rfl (lv_at hl 1 rfl) ?_
  refine gf_X11_10 C hP h_a k_a dX11_unit_32 ?_
  obtain ⟨t13, et13, hf⟩ := bd1_ep hf
  obtain ⟨h_t13, k_t13⟩ := wt_r hW h_a k_a (by decide) et13
  have k_t13 : G8.2.1 t13 = 8 := k_t13
  rw [et13]
  refine gf_X11_105 C hP h_t13 k_t13 dX11_unit_35 ?_
  refine lv_if_eq (tgt := 49) hx hb dX11_unit_38 (by decide) (fun c14 => ?_) (fun c14 => ?_)
  · have hf := if_tp c14 hf
    refine lv_aload_n hx hb dX11_unit_49 rfl (lv_at hl 1 rfl) ?_
    refine lv_aload_n hx hb dX11_unit_50 rfl (lv_at hl 1 rfl) ?_
    refine gf_X11_68 C hP h_a k_a dX11_unit_51 ?_
    obtain ⟨t15, et15, hf⟩ := bd1_ep hf
    obtain ⟨h_t15, k_t15⟩ := wt_r hW h_a k_a (by decide) et15
    have k_t15 : G8.2.1 t15 = 9 := k_t15
    rw [et15]
    obtain ⟨S16, eS16, hf⟩ := bnd_ep hf
    refine pf_X11_72 C hP hS h_a k_a eS16 dX11_unit_54 (fun H locs hP hS => ?_)
    have hW : WT G8 S16 := by rw [eS16]; exact wt_uR hW ⟨h_t15, k_t15⟩
    refine lv_aload_n hx hb dX11_unit_57 rfl (lv_at hl 1 rfl) ?_
    refine lv_aload_n hx hb dX11_unit_58 rfl (lv_at hl 0 rfl) ?_
    obtain ⟨S17, eS17, hf⟩ := bnd_ep hf
    refine pf_X11_68 C hP hS h_a k_a eS17 dX11_unit_59 (fun H locs hP hS => ?_)
    have hW : WT G8 S17 := by rw [eS17]; exact wt_uR hW ⟨h_t1, k_t1⟩
    refine lv_aload_n hx hb dX11_unit_62 rfl (lv_at hl 1 rfl) ?_
    obtain ⟨S18, eS18, hf⟩ := bd1_ep hf
    refine x_aft_v (x_runV (As := []) (rest := []) C hP hS (c_X11_begin (l := l) C.2.2.2.2.2.2.2.2.2.1 hW h_a k_a eS18 H.size) h_a k_a (by decide) rfl rfl km_X11_begin ki_X11_begin qm_X11_108 ⟨(by show _ ≤ _; decide), (by show _ ≤ _; decide)⟩ rfl hl.1 rfl (Nat.le_of_ble_eq_true rfl) ⟨(by show _ ≤ 1003; omega), (by show _ ≤ 8018; omega)⟩ dX11_unit_63) hS (fun H locs hP hS hW => ?_)
    refine lv_iconst (v := 0) hx hb dX11_unit_66 rfl ?_
    exact x_retiw C hA hX hP hS hW hf (by show _ ≤ 1003; omega) (by show _ ≤ 8018; omega) dX11_unit_67
  · have hf := if_fp c14 hf
    refine lv_aload_n hx hb dX11_unit_41 rfl (lv_at hl 1 rfl) ?_
    refine gf_X11_10 C hP h_a k_a dX11_unit_42 ?_
    obtain ⟨t19, et19, hf⟩ := bd1_ep hf
    obtain ⟨h_t19, k_t19⟩ := wt_r hW h_a k_a (by decide) et19
    have k_t19 : G8.2.1 t19 = 8 := k_t19
    rw [et19]
    refine gf_X11_105 C hP h_t19 k_t19 dX11_unit_45 ?_
    exact x_retiw C hA hX hP hS hW hf (by show _ ≤ 1003; omega) (by show _ ≤ 8018; omega) dX11_unit_48
def w_X12_init (F : Nat) (a : Nat) (G : GS) (S : HS) (P : GS → HS → Prop) : Prop :=
  ∀ q1 : Nat, q1 ∉ G.1 → bnd (pushG G q1 14 1000) fun G2 => bnd (zap q1 S) fun S3 =>
  bnd (uR S3 1201 a (some q1)) fun S4 =>
  ∀ q5 : Nat, q5 ∉ G2.1 → bnd (pushG G2 q5 14 1002) fun G6 => bnd (zap q5 S4) fun S7 =>
  bnd (uR S7 1204 a (some q5)) fun S8 =>
  ∀ q9 : Nat, q9 ∉ G6.1 → bnd (pushG G6 q9 14 1002) fun G10 => bnd (zap q9 S8) fun S11 =>
  bnd (uR S11 1205 a (some q9)) fun S12 =>
  ∀ q13 : Nat, q13 ∉ G10.1 → bnd (pushG G10 q13 15 1002) fun G14 => bnd (zap q13 S12) fun S15 =>
  bnd (uR S15 1206 a (some q13)) fun S16 =>
  ∀ q17 : Nat, q17 ∉ G14.1 → bnd (pushG G14 q17 15 20) fun G18 => bnd (zap q17 S16) fun S19 =>
  if inB (0 : Int32) (G18.2.2 q17) = true then
  bnd (wJ S19 q17 ((0 : Int32).toNatClampNeg) 325132) fun S21 =>
  if inB (1 : Int32) (G18.2.2 q17) = true then
  bnd (wJ S21 q17 ((1 : Int32).toNatClampNeg) 7749) fun S23 =>
  if inB (2 : Int32) (G18.2.2 q17) = true then
  bnd (wJ S23 q17 ((2 : Int32).toNatClampNeg) 328600) fun S25 =>
  if inB (3 : Int32) (G18.2.2 q17) = true then
  bnd (wJ S25 q17 ((3 : Int32).toNatClampNeg) 24834) fun S27 =>
  if inB (4 : Int32) (G18.2.2 q17) = true then
  bnd (wJ S27 q17 ((4 : Int32).toNatClampNeg) 21400) fun S29 =>
  if inB (5 : Int32) (G18.2.2 q17) = true then
  bnd (wJ S29 q17 ((5 : Int32).toNatClampNeg) 8696) fun S31 =>
  if inB (6 : Int32) (G18.2.2 q17) = true then
  bnd (wJ S31 q17 ((6 : Int32).toNatClampNeg) 679177) fun S33 =>
  if inB (7 : Int32) (G18.2.2 q17) = true then
  bnd (wJ S33 q17 ((7 : Int32).toNatClampNeg) 6237219) fun S35 =>
  if inB (8 : Int32) (G18.2.2 q17) = true then
  bnd (wJ S35 q17 ((8 : Int32).toNatClampNeg) 29457) fun S37 =>
  if inB (9 : Int32) (G18.2.2 q17) = true then
  bnd (wJ S37 q17 ((9 : Int32).toNatClampNeg) 30596128) fun S39 =>
  if inB (10 : Int32) (G18.2.2 q17) = true then
  bnd (wJ S39 q17 ((10 : Int32).toNatClampNeg) 11882262) fun S41 =>
  if inB (11 : Int32) (G18.2.2 q17) = true then
  bnd (wJ S41 q17 ((11 : Int32).toNatClampNeg) 26068) fun S43 =>
  if inB (12 : Int32) (G18.2.2 q17) = true then
  bnd (wJ S43 q17 ((12 : Int32).toNatClampNeg) 43531911) fun S45 =>
  if inB (13 : Int32) (G18.2.2 q17) = true then
  bnd (wJ S45 q17 ((13 : Int32).toNatClampNeg) 19741) fun S47 =>
  if inB (14 : Int32) (G18.2.2 q17) = true then
  bnd (wJ S47 q17 ((14 : Int32).toNatClampNeg) 1891) fun S49 =>
  if inB (15 : Int32) (G18.2.2 q17) = true then
  bnd (wJ S49 q17 ((15 : Int32).toNatClampNeg) 573) fun S51 =>
  if inB (16 : Int32) (G18.2.2 q17) = true then
  bnd (wJ S51 q17 ((16 : Int32).toNatClampNeg) 24839932) fun S53 =>
  if inB (17 : Int32) (G18.2.2 q17) = true then
  bnd (wJ S53 q17 ((17 : Int32).toNatClampNeg) 20687) fun S55 =>
  if inB (18 : Int32) (G18.2.2 q17) = true then
  bnd (wJ S55 q17 ((18 : Int32).toNatClampNeg) 14184879) fun S57 =>
  if inB (19 : Int32) (G18.2.2 q17) = true then
  bnd (wJ S57 q17 ((19 : Int32).toNatClampNeg) 919322) fun S59 =>
  bnd (uR S59 1209 a (some q17)) fun S60 =>
  ∀ q61 : Nat, q61 ∉ G18.1 → bnd (pushG G18 q61 14 30) fun G62 => bnd (zap q61 S60) fun S63 =>
  bnd (uR S63 1210 a (some q61)) fun S64 =>
  ∀ q65 : Nat, q65 ∉ G62.1 → bnd (pushG G62 q65 14 2200) fun G66 => bnd (zap q65 S64) fun S67 =>
  bnd (uR S67 1211 a (some q65)) fun S68 =>
  ∀ q69 : Nat, q69 ∉ G66.1 → bnd (pushG G66 q69 15 20) fun G70 => bnd (zap q69 S68) fun S71 =>
  bnd (uR S71 1213 a (some q69)) fun S72 =>
  ∀ q73 : Nat, q73 ∉ G70.1 → bnd (pushG G70 q73 14 310) fun G74 => bnd (zap q73 S72) fun S75 =>
  bnd (uR S75 1214 a (some q73)) fun S76 =>
  ∀ q77 : Nat, q77 ∉ G74.1 → bnd (pushG G74 q77 14 4) fun G78 => bnd (zap q77 S76) fun S79 =>
  bnd (uR S79 1215 a (some q77)) fun S80 =>
  ∀ q81 : Nat, q81 ∉ G78.1 → bnd (pushG G78 q81 14 64) fun G82 => bnd (zap q81 S80) fun S83 =>
  bnd (uR S83 1216 a (some q81)) fun S84 =>
  ∀ q85 : Nat, q85 ∉ G82.1 → bnd (pushG G82 q85 14 616) fun G86 => bnd (zap q85 S84) fun S87 =>
  bnd (uR S87 1217 a (some q85)) fun S88 =>
  ∀ q89 : Nat, q89 ∉ G86.1 → bnd (pushG G86 q89 16 4) fun G90 => bnd (zap q89 S88) fun S91 =>
  bnd (uR S91 1219 a (some q89)) fun S92 =>
  ∀ q93 : Nat, q93 ∉ G90.1 → bnd (pushG G90 q93 15 600) fun G94 => bnd (zap q93 S92) fun S95 =>
  bnd (uR S95 1225 a (some q93)) fun S96 =>
  ∀ q97 : Nat, q97 ∉ G94.1 → bnd (pushG G94 q97 15 600) fun G98 => bnd (zap q97 S96) fun S99 =>
  bnd (uR S99 1226 a (some q97)) fun S100 =>
  ∀ q101 : Nat, q101 ∉ G98.1 → bnd (pushG G98 q101 14 5) fun G102 => bnd (zap q101 S100) fun S103 =>
  bnd (uR S103 1227 a (some q101)) fun S104 =>
  bd1p (s_X12_standsAsAlways G102.2.2 F a 0 S104) fun S105 =>
  bd1p (s_X12_begins G102.2.2 F a S105) fun S106 =>
  P G102 S106
  else False
  else False
  else False
  else False
  else False
  else False
  else False
  else False
  else False
  else False
  else False
  else False
  else False
  else False
  else False
  else False
  else False
  else False
  else False
  else False
set_option maxRecDepth 100000 in
set_option maxHeartbeats 4000000 in
theorem c_X12_init {l : Launch} {V : EV} {G : GS} {S : HS} {F : Nat} {a : Nat} {P : GS → HS → Prop} (hN : G.1.Nodup) (hW : WT G S) (h_a : a ∈ G.1) (k_a : G.2.1 a = 12) (hf : w_X12_init F a G S P) : MetVW l yX12_init cX12_init 1 2 57 16 8479 V G S [.ref a] P := by
  intro sz
  refine x_in RX12 rfl (by decide +kernel) hN (Nat.le_of_ble_eq_true rfl) (fun p e s m args below meth c ls hsz hargs hnm C hP hS hl => ?_)
  subst hsz
  have hx := C.1
  have hb := C.2.1
  have hin : meth.name = "<init>" := hnm
  have hA : AG G s.heap.size = AG G s.heap.size := rfl
  have hX : GX G s.heap.size G := gx_rf hN
  have hl : lv_has ls 1 [(0, .ref a)] := hl
  unfold w_X12_init at hf
  refine lv_aload_n hx hb dX12_init_0 rfl (lv_at hl 0 rfl) ?_
  refine x_obj C qobj_X12_18 qobji qobjc hl.1 dX12_init_1 (by show _ ≤ _; decide) (by show _ ≤ _; decide) ?_
  refine lv_aload_n hx hb dX12_init_4 rfl (lv_at hl 0 rfl) ?_
  refine lv_sipush (v := 1000) hx hb dX12_init_5 kc_sipush_1000 ?_
  refine x_newarr (ty := .int) (N' := 1000) (a0 := (1000, .inl (fun _ => 0))) C hP hS hW rfl qarr_I 1 14 rfl (arr_I 1000) (by decide) (by decide) (by decide) zap_I (by show _ ≤ 16; omega) (by show _ ≤ 8479; omega) dX12_init_8 (fun q1 H hq1 hsz hag C hP hS hW => ?_)
  have hX := gx_push hX hq1 hsz C.2.2.2.2.2.2.2.2.2.1
  have hA := hag.trans hA
  have hf := hf q1 hq1
  obtain ⟨G2, eG2, hf⟩ := bnd_ep hf
  obtain ⟨S3, eS3, hf⟩ := bnd_ep hf
  rw [← eG2, ← eS3] at hP hW
  rw [← eG2] at hA hX C hS
  have k_a : G2.2.1 a = 12 := by rw [eG2, push_k h_a hq1]; exact k_a
  have h_a : a ∈ G2.1 := by rw [eG2]; exact push_in h_a
  have h_q1 : q1 ∈ G2.1 := by rw [eG2]; exact push_q
  have k_q1 : G2.2.1 q1 = 14 := by rw [eG2]; exact push_kq
  obtain ⟨S4, eS4, hf⟩ := bnd_ep hf
  refine pf_X12_14 C hP hS h_a k_a hin eS4 dX12_init_10 (fun H locs hP hS => ?_)
  have hW : WT G2 S4 := by rw [eS4]; exact wt_uR hW ⟨h_q1, k_q1⟩
  refine lv_aload_n hx hb dX12_init_13 rfl (lv_at hl 0 rfl) ?_
  refine lv_sipush (v := 1002) hx hb dX12_init_14 kc_sipush_1002 ?_
  refine x_newarr (ty := .int) (N' := 1002) (a0 := (1002, .inl (fun _ => 0))) C hP hS hW rfl qarr_I 1 14 rfl (arr_I 1002) (by decide) (by decide) (by decide) zap_I (by show _ ≤ 16; omega) (by show _ ≤ 8479; omega) dX12_init_17 (fun q5 H hq5 hsz hag C hP hS hW => ?_)
  have hX := gx_push hX hq5 hsz C.2.2.2.2.2.2.2.2.2.1
  have hA := hag.trans hA
  have hf := hf q5 hq5
  obtain ⟨G6, eG6, hf⟩ := bnd_ep hf
  obtain ⟨S7, eS7, hf⟩ := bnd_ep hf
  rw [← eG6, ← eS7] at hP hW
  rw [← eG6] at hA hX C hS
  have k_a : G6.2.1 a = 12 := by rw [eG6, push_k h_a hq5]; exact k_a
  have h_a : a ∈ G6.1 := by rw [eG6]; exact push_in h_a
  have h_q5 : q5 ∈ G6.1 := by rw [eG6]; exact push_q
  have k_q5 : G6.2.1 q5 = 14 := by rw [eG6]; exact push_kq
  obtain ⟨S8, eS8, hf⟩ := bnd_ep hf
  refine pf_X12_24 C hP hS h_a k_a hin eS8 dX12_init_19 (fun H locs hP hS => ?_)
  have hW : WT G6 S8 := by rw [eS8]; exact wt_uR hW ⟨h_q5, k_q5⟩
  refine lv_aload_n hx hb dX12_init_22 rfl (lv_at hl 0 rfl) ?_
  refine lv_sipush (v := 1002) hx hb dX12_init_23 kc_sipush_1002 ?_
  refine x_newarr (ty := .int) (N' := 1002) (a0 := (1002, .inl (fun _ => 0))) C hP hS hW rfl qarr_I 1 14 rfl (arr_I 1002) (by decide) (by decide) (by decide) zap_I (by show _ ≤ 16; omega) (by show _ ≤ 8479; omega) dX12_init_26 (fun q9 H hq9 hsz hag C hP hS hW => ?_)
  have hX := gx_push hX hq9 hsz C.2.2.2.2.2.2.2.2.2.1
  have hA := hag.trans hA
  have hf := hf q9 hq9
  obtain ⟨G10, eG10, hf⟩ := bnd_ep hf
  obtain ⟨S11, eS11, hf⟩ := bnd_ep hf
  rw [← eG10, ← eS11] at hP hW
  rw [← eG10] at hA hX C hS
  have k_a : G10.2.1 a = 12 := by rw [eG10, push_k h_a hq9]; exact k_a
  have h_a : a ∈ G10.1 := by rw [eG10]; exact push_in h_a
  have h_q9 : q9 ∈ G10.1 := by rw [eG10]; exact push_q
  have k_q9 : G10.2.1 q9 = 14 := by rw [eG10]; exact push_kq
  obtain ⟨S12, eS12, hf⟩ := bnd_ep hf
  refine pf_X12_27 C hP hS h_a k_a hin eS12 dX12_init_28 (fun H locs hP hS => ?_)
  have hW : WT G10 S12 := by rw [eS12]; exact wt_uR hW ⟨h_q9, k_q9⟩
  refine lv_aload_n hx hb dX12_init_31 rfl (lv_at hl 0 rfl) ?_
  refine lv_sipush (v := 1002) hx hb dX12_init_32 kc_sipush_1002 ?_
  refine x_newarr (ty := .long) (N' := 1002) (a0 := (1002, .inr (.inl (fun _ => 0)))) C hP hS hW rfl qarr_J 2 15 rfl (arr_J 1002) (by decide) (by decide) (by decide) zap_J (by show _ ≤ 16; omega) (by show _ ≤ 8479; omega) dX12_init_35 (fun q13 H hq13 hsz hag C hP hS hW => ?_)
  have hX := gx_push hX hq13 hsz C.2.2.2.2.2.2.2.2.2.1
  have hA := hag.trans hA
  have hf := hf q13 hq13
  obtain ⟨G14, eG14, hf⟩ := bnd_ep hf
  obtain ⟨S15, eS15, hf⟩ := bnd_ep hf
  rw [← eG14, ← eS15] at hP hW
  rw [← eG14] at hA hX C hS
  have k_a : G14.2.1 a = 12 := by rw [eG14, push_k h_a hq13]; exact k_a
  have h_a : a ∈ G14.1 := by rw [eG14]; exact push_in h_a
  have h_q13 : q13 ∈ G14.1 := by rw [eG14]; exact push_q
  have k_q13 : G14.2.1 q13 = 15 := by rw [eG14]; exact push_kq
  obtain ⟨S16, eS16, hf⟩ := bnd_ep hf
  refine pf_X12_30 C hP hS h_a k_a hin eS16 dX12_init_37 (fun H locs hP hS => ?_)
  have hW : WT G14 S16 := by rw [eS16]; exact wt_uR hW ⟨h_q13, k_q13⟩
  refine lv_aload_n hx hb dX12_init_40 rfl (lv_at hl 0 rfl) ?_
  refine lv_bipush (v := 20) hx hb dX12_init_41 kc_bipush_20 ?_
  refine x_newarr (ty := .long) (N' := 20) (a0 := (20, .inr (.inl (fun _ => 0)))) C hP hS hW rfl qarr_J 2 15 rfl (arr_J 20) (by decide) (by decide) (by decide) zap_J (by show _ ≤ 16; omega) (by show _ ≤ 8479; omega) dX12_init_43 (fun q17 H hq17 hsz hag C hP hS hW => ?_)
  have hX := gx_push hX hq17 hsz C.2.2.2.2.2.2.2.2.2.1
  have hA := hag.trans hA
  have hf := hf q17 hq17
  obtain ⟨G18, eG18, hf⟩ := bnd_ep hf
  obtain ⟨S19, eS19, hf⟩ := bnd_ep hf
  rw [← eG18, ← eS19] at hP hW
  rw [← eG18] at hA hX C hS
  have k_a : G18.2.1 a = 12 := by rw [eG18, push_k h_a hq17]; exact k_a
  have h_a : a ∈ G18.1 := by rw [eG18]; exact push_in h_a
  have h_q17 : q17 ∈ G18.1 := by rw [eG18]; exact push_q
  have k_q17 : G18.2.1 q17 = 15 := by rw [eG18]; exact push_kq
  refine lv_dup hx hb dX12_init_45 rfl ?_
  refine lv_iconst (v := 0) hx hb dX12_init_46 rfl ?_
  refine lv_ldc2 (v := 325132) hx hb C.2.2.2.2.1 (C.2.2.2.2.2.1 _ qc_X12_34) dX12_init_47 ?_
  obtain ⟨h20, hf⟩ := if_sp hf
  obtain ⟨S21, eS21, hf⟩ := bnd_ep hf
  refine x_last C hP hS h_q17 k_q17 h20 eS21 dX12_init_50 (fun H locs hP hS => ?_)
  have hW : WT G18 S21 := by rw [eS21]; exact hW
  refine lv_dup hx hb dX12_init_51 rfl ?_
  refine lv_iconst (v := 1) hx hb dX12_init_52 rfl ?_
  refine lv_ldc2 (v := 7749) hx hb C.2.2.2.2.1 (C.2.2.2.2.2.1 _ qc_X12_36) dX12_init_53 ?_
  obtain ⟨h22, hf⟩ := if_sp hf
  obtain ⟨S23, eS23, hf⟩ := bnd_ep hf
  refine x_last C hP hS h_q17 k_q17 h22 eS23 dX12_init_56 (fun H locs hP hS => ?_)
  have hW : WT G18 S23 := by rw [eS23]; exact hW
  refine lv_dup hx hb dX12_init_57 rfl ?_
  refine lv_iconst (v := 2) hx hb dX12_init_58 rfl ?_
  refine lv_ldc2 (v := 328600) hx hb C.2.2.2.2.1 (C.2.2.2.2.2.1 _ qc_X12_38) dX12_init_59 ?_
  obtain ⟨h24, hf⟩ := if_sp hf
  obtain ⟨S25, eS25, hf⟩ := bnd_ep hf
  refine x_last C hP hS h_q17 k_q17 h24 eS25 dX12_init_62 (fun H locs hP hS => ?_)
  have hW : WT G18 S25 := by rw [eS25]; exact hW
  refine lv_dup hx hb dX12_init_63 rfl ?_
  refine lv_iconst (v := 3) hx hb dX12_init_64 rfl ?_
  refine lv_ldc2 (v := 24834) hx hb C.2.2.2.2.1 (C.2.2.2.2.2.1 _ qc_X12_40) dX12_init_65 ?_
  obtain ⟨h26, hf⟩ := if_sp hf
  obtain ⟨S27, eS27, hf⟩ := bnd_ep hf
  refine x_last C hP hS h_q17 k_q17 h26 eS27 dX12_init_68 (fun H locs hP hS => ?_)
  have hW : WT G18 S27 := by rw [eS27]; exact hW
  refine lv_dup hx hb dX12_init_69 rfl ?_
  refine lv_iconst (v := 4) hx hb dX12_init_70 rfl ?_
  refine lv_ldc2 (v := 21400) hx hb C.2.2.2.2.1 (C.2.2.2.2.2.1 _ qc_X12_42) dX12_init_71 ?_
  obtain ⟨h28, hf⟩ := if_sp hf
  obtain ⟨S29, eS29, hf⟩ := bnd_ep hf
  refine x_last C hP hS h_q17 k_q17 h28 eS29 dX12_init_74 (fun H locs hP hS => ?_)
  have hW : WT G18 S29 := by rw [eS29]; exact hW
  refine lv_dup hx hb dX12_init_75 rfl ?_
  refine lv_iconst (v := 5) hx hb dX12_init_76 rfl ?_
  refine lv_ldc2 (v := 8696) hx hb C.2.2.2.2.1 (C.2.2.2.2.2.1 _ qc_X12_44) dX12_init_77 ?_
  obtain ⟨h30, hf⟩ := if_sp hf
  obtain ⟨S31, eS31, hf⟩ := bnd_ep hf
  refine x_last C hP hS h_q17 k_q17 h30 eS31 dX12_init_80 (fun H locs hP hS => ?_)
  have hW : WT G18 S31 := by rw [eS31]; exact hW
  refine lv_dup hx hb dX12_init_81 rfl ?_
  refine lv_bipush (v := 6) hx hb dX12_init_82 kc_bipush_6 ?_
  refine lv_ldc2 (v := 679177) hx hb C.2.2.2.2.1 (C.2.2.2.2.2.1 _ qc_X12_46) dX12_init_84 ?_
  obtain ⟨h32, hf⟩ := if_sp hf
  obtain ⟨S33, eS33, hf⟩ := bnd_ep hf
  refine x_last C hP hS h_q17 k_q17 h32 eS33 dX12_init_87 (fun H locs hP hS => ?_)
  have hW : WT G18 S33 := by rw [eS33]; exact hW
  refine lv_dup hx hb dX12_init_88 rfl ?_
  refine lv_bipush (v := 7) hx hb dX12_init_89 kc_bipush_7 ?_
  refine lv_ldc2 (v := 6237219) hx hb C.2.2.2.2.1 (C.2.2.2.2.2.1 _ qc_X12_48) dX12_init_91 ?_
  obtain ⟨h34, hf⟩ := if_sp hf
  obtain ⟨S35, eS35, hf⟩ := bnd_ep hf
  refine x_last C hP hS h_q17 k_q17 h34 eS35 dX12_init_94 (fun H locs hP hS => ?_)
  have hW : WT G18 S35 := by rw [eS35]; exact hW
  refine lv_dup hx hb dX12_init_95 rfl ?_
  refine lv_bipush (v := 8) hx hb dX12_init_96 kc_bipush_8 ?_
  refine lv_ldc2 (v := 29457) hx hb C.2.2.2.2.1 (C.2.2.2.2.2.1 _ qc_X12_50) dX12_init_98 ?_
  obtain ⟨h36, hf⟩ := if_sp hf
  obtain ⟨S37, eS37, hf⟩ := bnd_ep hf
  refine x_last C hP hS h_q17 k_q17 h36 eS37 dX12_init_101 (fun H locs hP hS => ?_)
  have hW : WT G18 S37 := by rw [eS37]; exact hW
  refine lv_dup hx hb dX12_init_102 rfl ?_
  refine lv_bipush (v := 9) hx hb dX12_init_103 kc_bipush_9 ?_
  refine lv_ldc2 (v := 30596128) hx hb C.2.2.2.2.1 (C.2.2.2.2.2.1 _ qc_X12_52) dX12_init_105 ?_
  obtain ⟨h38, hf⟩ := if_sp hf
  obtain ⟨S39, eS39, hf⟩ := bnd_ep hf
  refine x_last C hP hS h_q17 k_q17 h38 eS39 dX12_init_108 (fun H locs hP hS => ?_)
  have hW : WT G18 S39 := by rw [eS39]; exact hW
  refine lv_dup hx hb dX12_init_109 rfl ?_
  refine lv_bipush (v := 10) hx hb dX12_init_110 kc_bipush_10 ?_
  refine lv_ldc2 (v := 11882262) hx hb C.2.2.2.2.1 (C.2.2.2.2.2.1 _ qc_X12_54) dX12_init_112 ?_
  obtain ⟨h40, hf⟩ := if_sp hf
  obtain ⟨S41, eS41, hf⟩ := bnd_ep hf
  refine x_last C hP hS h_q17 k_q17 h40 eS41 dX12_init_115 (fun H locs hP hS => ?_)
  have hW : WT G18 S41 := by rw [eS41]; exact hW
  refine lv_dup hx hb dX12_init_116 rfl ?_
  refine lv_bipush (v := 11) hx hb dX12_init_117 kc_bipush_11 ?_
  refine lv_ldc2 (v := 26068) hx hb C.2.2.2.2.1 (C.2.2.2.2.2.1 _ qc_X12_56) dX12_init_119 ?_
  obtain ⟨h42, hf⟩ := if_sp hf
  obtain ⟨S43, eS43, hf⟩ := bnd_ep hf
  refine x_last C hP hS h_q17 k_q17 h42 eS43 dX12_init_122 (fun H locs hP hS => ?_)
  have hW : WT G18 S43 := by rw [eS43]; exact hW
  refine lv_dup hx hb dX12_init_123 rfl ?_
  refine lv_bipush (v := 12) hx hb dX12_init_124 kc_bipush_12 ?_
  refine lv_ldc2 (v := 43531911) hx hb C.2.2.2.2.1 (C.2.2.2.2.2.1 _ qc_X12_58) dX12_init_126 ?_
  obtain ⟨h44, hf⟩ := if_sp hf
  obtain ⟨S45, eS45, hf⟩ := bnd_ep hf
  refine x_last C hP hS h_q17 k_q17 h44 eS45 dX12_init_129 (fun H locs hP hS => ?_)
  have hW : WT G18 S45 := by rw [eS45]; exact hW
  refine lv_dup hx hb dX12_init_130 rfl ?_
  refine lv_bipush (v := 13) hx hb dX12_init_131 kc_bipush_13 ?_
  refine lv_ldc2 (v := 19741) hx hb C.2.2.2.2.1 (C.2.2.2.2.2.1 _ qc_X12_60) dX12_init_133 ?_
  obtain ⟨h46, hf⟩ := if_sp hf
  obtain ⟨S47, eS47, hf⟩ := bnd_ep hf
  refine x_last C hP hS h_q17 k_q17 h46 eS47 dX12_init_136 (fun H locs hP hS => ?_)
  have hW : WT G18 S47 := by rw [eS47]; exact hW
  refine lv_dup hx hb dX12_init_137 rfl ?_
  refine lv_bipush (v := 14) hx hb dX12_init_138 kc_bipush_14 ?_
  refine lv_ldc2 (v := 1891) hx hb C.2.2.2.2.1 (C.2.2.2.2.2.1 _ qc_X12_62) dX12_init_140 ?_
  obtain ⟨h48, hf⟩ := if_sp hf
  obtain ⟨S49, eS49, hf⟩ := bnd_ep hf
  refine x_last C hP hS h_q17 k_q17 h48 eS49 dX12_init_143 (fun H locs hP hS => ?_)
  have hW : WT G18 S49 := by rw [eS49]; exact hW
  refine lv_dup hx hb dX12_init_144 rfl ?_
  refine lv_bipush (v := 15) hx hb dX12_init_145 kc_bipush_15 ?_
  refine lv_ldc2 (v := 573) hx hb C.2.2.2.2.1 (C.2.2.2.2.2.1 _ qc_X12_64) dX12_init_147 ?_
  obtain ⟨h50, hf⟩ := if_sp hf
  obtain ⟨S51, eS51, hf⟩ := bnd_ep hf
  refine x_last C hP hS h_q17 k_q17 h50 eS51 dX12_init_150 (fun H locs hP hS => ?_)
  have hW : WT G18 S51 := by rw [eS51]; exact hW
  refine lv_dup hx hb dX12_init_151 rfl ?_
  refine lv_bipush (v := 16) hx hb dX12_init_152 kc_bipush_16 ?_
  refine lv_ldc2 (v := 24839932) hx hb C.2.2.2.2.1 (C.2.2.2.2.2.1 _ qc_X12_66) dX12_init_154 ?_
  obtain ⟨h52, hf⟩ := if_sp hf
  obtain ⟨S53, eS53, hf⟩ := bnd_ep hf
  refine x_last C hP hS h_q17 k_q17 h52 eS53 dX12_init_157 (fun H locs hP hS => ?_)
  have hW : WT G18 S53 := by rw [eS53]; exact hW
  refine lv_dup hx hb dX12_init_158 rfl ?_
  refine lv_bipush (v := 17) hx hb dX12_init_159 kc_bipush_17 ?_
  refine lv_ldc2 (v := 20687) hx hb C.2.2.2.2.1 (C.2.2.2.2.2.1 _ qc_X12_68) dX12_init_161 ?_
  obtain ⟨h54, hf⟩ := if_sp hf
  obtain ⟨S55, eS55, hf⟩ := bnd_ep hf
  refine x_last C hP hS h_q17 k_q17 h54 eS55 dX12_init_164 (fun H locs hP hS => ?_)
  have hW : WT G18 S55 := by rw [eS55]; exact hW
  refine lv_dup hx hb dX12_init_165 rfl ?_
  refine lv_bipush (v := 18) hx hb dX12_init_166 kc_bipush_18 ?_
  refine lv_ldc2 (v := 14184879) hx hb C.2.2.2.2.1 (C.2.2.2.2.2.1 _ qc_X12_70) dX12_init_168 ?_
  obtain ⟨h56, hf⟩ := if_sp hf
  obtain ⟨S57, eS57, hf⟩ := bnd_ep hf
  refine x_last C hP hS h_q17 k_q17 h56 eS57 dX12_init_171 (fun H locs hP hS => ?_)
  have hW : WT G18 S57 := by rw [eS57]; exact hW
  refine lv_dup hx hb dX12_init_172 rfl ?_
  refine lv_bipush (v := 19) hx hb dX12_init_173 kc_bipush_19 ?_
  refine lv_ldc2 (v := 919322) hx hb C.2.2.2.2.1 (C.2.2.2.2.2.1 _ qc_X12_72) dX12_init_175 ?_
  obtain ⟨h58, hf⟩ := if_sp hf
  obtain ⟨S59, eS59, hf⟩ := bnd_ep hf
  refine x_last C hP hS h_q17 k_q17 h58 eS59 dX12_init_178 (fun H locs hP hS => ?_)
  have hW : WT G18 S59 := by rw [eS59]; exact hW
  obtain ⟨S60, eS60, hf⟩ := bnd_ep hf
  refine pf_X12_74 C hP hS h_a k_a hin eS60 dX12_init_179 (fun H locs hP hS => ?_)
  have hW : WT G18 S60 := by rw [eS60]; exact wt_uR hW ⟨h_q17, k_q17⟩
  refine lv_aload_n hx hb dX12_init_182 rfl (lv_at hl 0 rfl) ?_
  refine lv_bipush (v := 30) hx hb dX12_init_183 kc_bipush_30 ?_
  refine x_newarr (ty := .int) (N' := 30) (a0 := (30, .inl (fun _ => 0))) C hP hS hW rfl qarr_I 1 14 rfl (arr_I 30) (by decide) (by decide) (by decide) zap_I (by show _ ≤ 16; omega) (by show _ ≤ 8479; omega) dX12_init_185 (fun q61 H hq61 hsz hag C hP hS hW => ?_)
  have hX := gx_push hX hq61 hsz C.2.2.2.2.2.2.2.2.2.1
  have hA := hag.trans hA
  have hf := hf q61 hq61
  obtain ⟨G62, eG62, hf⟩ := bnd_ep hf
  obtain ⟨S63, eS63, hf⟩ := bnd_ep hf
  rw [← eG62, ← eS63] at hP hW
  rw [← eG62] at hA hX C hS
  have k_a : G62.2.1 a = 12 := by rw [eG62, push_k h_a hq61]; exact k_a
  have h_a : a ∈ G62.1 := by rw [eG62]; exact push_in h_a
  have h_q61 : q61 ∈ G62.1 := by rw [eG62]; exact push_q
  have k_q61 : G62.2.1 q61 = 14 := by rw [eG62]; exact push_kq
  obtain ⟨S64, eS64, hf⟩ := bnd_ep hf
  refine pf_X12_77 C hP hS h_a k_a hin eS64 dX12_init_187 (fun H locs hP hS => ?_)
  have hW : WT G62 S64 := by rw [eS64]; exact wt_uR hW ⟨h_q61, k_q61⟩
  refine lv_aload_n hx hb dX12_init_190 rfl (lv_at hl 0 rfl) ?_
  refine lv_sipush (v := 2200) hx hb dX12_init_191 kc_sipush_2200 ?_
  refine x_newarr (ty := .int) (N' := 2200) (a0 := (2200, .inl (fun _ => 0))) C hP hS hW rfl qarr_I 1 14 rfl (arr_I 2200) (by decide) (by decide) (by decide) zap_I (by show _ ≤ 16; omega) (by show _ ≤ 8479; omega) dX12_init_194 (fun q65 H hq65 hsz hag C hP hS hW => ?_)
  have hX := gx_push hX hq65 hsz C.2.2.2.2.2.2.2.2.2.1
  have hA := hag.trans hA
  have hf := hf q65 hq65
  obtain ⟨G66, eG66, hf⟩ := bnd_ep hf
  obtain ⟨S67, eS67, hf⟩ := bnd_ep hf
  rw [← eG66, ← eS67] at hP hW
  rw [← eG66] at hA hX C hS
  have k_a : G66.2.1 a = 12 := by rw [eG66, push_k h_a hq65]; exact k_a
  have h_a : a ∈ G66.1 := by rw [eG66]; exact push_in h_a
  have h_q65 : q65 ∈ G66.1 := by rw [eG66]; exact push_q
  have k_q65 : G66.2.1 q65 = 14 := by rw [eG66]; exact push_kq
  obtain ⟨S68, eS68, hf⟩ := bnd_ep hf
  refine pf_X12_80 C hP hS h_a k_a hin eS68 dX12_init_196 (fun H locs hP hS => ?_)
  have hW : WT G66 S68 := by rw [eS68]; exact wt_uR hW ⟨h_q65, k_q65⟩
  refine lv_aload_n hx hb dX12_init_199 rfl (lv_at hl 0 rfl) ?_
  refine lv_bipush (v := 20) hx hb dX12_init_200 kc_bipush_20 ?_
  refine x_newarr (ty := .long) (N' := 20) (a0 := (20, .inr (.inl (fun _ => 0)))) C hP hS hW rfl qarr_J 2 15 rfl (arr_J 20) (by decide) (by decide) (by decide) zap_J (by show _ ≤ 16; omega) (by show _ ≤ 8479; omega) dX12_init_202 (fun q69 H hq69 hsz hag C hP hS hW => ?_)
  have hX := gx_push hX hq69 hsz C.2.2.2.2.2.2.2.2.2.1
  have hA := hag.trans hA
  have hf := hf q69 hq69
  obtain ⟨G70, eG70, hf⟩ := bnd_ep hf
  obtain ⟨S71, eS71, hf⟩ := bnd_ep hf
  rw [← eG70, ← eS71] at hP hW
  rw [← eG70] at hA hX C hS
  have k_a : G70.2.1 a = 12 := by rw [eG70, push_k h_a hq69]; exact k_a
  have h_a : a ∈ G70.1 := by rw [eG70]; exact push_in h_a
  have h_q69 : q69 ∈ G70.1 := by rw [eG70]; exact push_q
  have k_q69 : G70.2.1 q69 = 15 := by rw [eG70]; exact push_kq
  obtain ⟨S72, eS72, hf⟩ := bnd_ep hf
  refine pf_X12_83 C hP hS h_a k_a hin eS72 dX12_init_204 (fun H locs hP hS => ?_)
  have hW : WT G70 S72 := by rw [eS72]; exact wt_uR hW ⟨h_q69, k_q69⟩
  refine lv_aload_n hx hb dX12_init_207 rfl (lv_at hl 0 rfl) ?_
  refine lv_sipush (v := 310) hx hb dX12_init_208 kc_sipush_310 ?_
  refine x_newarr (ty := .int) (N' := 310) (a0 := (310, .inl (fun _ => 0))) C hP hS hW rfl qarr_I 1 14 rfl (arr_I 310) (by decide) (by decide) (by decide) zap_I (by show _ ≤ 16; omega) (by show _ ≤ 8479; omega) dX12_init_211 (fun q73 H hq73 hsz hag C hP hS hW => ?_)
  have hX := gx_push hX hq73 hsz C.2.2.2.2.2.2.2.2.2.1
  have hA := hag.trans hA
  have hf := hf q73 hq73
  obtain ⟨G74, eG74, hf⟩ := bnd_ep hf
  obtain ⟨S75, eS75, hf⟩ := bnd_ep hf
  rw [← eG74, ← eS75] at hP hW
  rw [← eG74] at hA hX C hS
  have k_a : G74.2.1 a = 12 := by rw [eG74, push_k h_a hq73]; exact k_a
  have h_a : a ∈ G74.1 := by rw [eG74]; exact push_in h_a
  have h_q73 : q73 ∈ G74.1 := by rw [eG74]; exact push_q
  have k_q73 : G74.2.1 q73 = 14 := by rw [eG74]; exact push_kq
  obtain ⟨S76, eS76, hf⟩ := bnd_ep hf
  refine pf_X12_86 C hP hS h_a k_a hin eS76 dX12_init_213 (fun H locs hP hS => ?_)
  have hW : WT G74 S76 := by rw [eS76]; exact wt_uR hW ⟨h_q73, k_q73⟩
  refine lv_aload_n hx hb dX12_init_216 rfl (lv_at hl 0 rfl) ?_
  refine lv_iconst (v := 4) hx hb dX12_init_217 rfl ?_
  refine x_newarr (ty := .int) (N' := 4) (a0 := (4, .inl (fun _ => 0))) C hP hS hW rfl qarr_I 1 14 rfl (arr_I 4) (by decide) (by decide) (by decide) zap_I (by show _ ≤ 16; omega) (by show _ ≤ 8479; omega) dX12_init_218 (fun q77 H hq77 hsz hag C hP hS hW => ?_)
  have hX := gx_push hX hq77 hsz C.2.2.2.2.2.2.2.2.2.1
  have hA := hag.trans hA
  have hf := hf q77 hq77
  obtain ⟨G78, eG78, hf⟩ := bnd_ep hf
  obtain ⟨S79, eS79, hf⟩ := bnd_ep hf
  rw [← eG78, ← eS79] at hP hW
  rw [← eG78] at hA hX C hS
  have k_a : G78.2.1 a = 12 := by rw [eG78, push_k h_a hq77]; exact k_a
  have h_a : a ∈ G78.1 := by rw [eG78]; exact push_in h_a
  have h_q77 : q77 ∈ G78.1 := by rw [eG78]; exact push_q
  have k_q77 : G78.2.1 q77 = 14 := by rw [eG78]; exact push_kq
  obtain ⟨S80, eS80, hf⟩ := bnd_ep hf
  refine pf_X12_89 C hP hS h_a k_a hin eS80 dX12_init_220 (fun H locs hP hS => ?_)
  have hW : WT G78 S80 := by rw [eS80]; exact wt_uR hW ⟨h_q77, k_q77⟩
  refine lv_aload_n hx hb dX12_init_223 rfl (lv_at hl 0 rfl) ?_
  refine lv_bipush (v := 64) hx hb dX12_init_224 kc_bipush_64 ?_
  refine x_newarr (ty := .int) (N' := 64) (a0 := (64, .inl (fun _ => 0))) C hP hS hW rfl qarr_I 1 14 rfl (arr_I 64) (by decide) (by decide) (by decide) zap_I (by show _ ≤ 16; omega) (by show _ ≤ 8479; omega) dX12_init_226 (fun q81 H hq81 hsz hag C hP hS hW => ?_)
  have hX := gx_push hX hq81 hsz C.2.2.2.2.2.2.2.2.2.1
  have hA := hag.trans hA
  have hf := hf q81 hq81
  obtain ⟨G82, eG82, hf⟩ := bnd_ep hf
  obtain ⟨S83, eS83, hf⟩ := bnd_ep hf
  rw [← eG82, ← eS83] at hP hW
  rw [← eG82] at hA hX C hS
  have k_a : G82.2.1 a = 12 := by rw [eG82, push_k h_a hq81]; exact k_a
  have h_a : a ∈ G82.1 := by rw [eG82]; exact push_in h_a
  have h_q81 : q81 ∈ G82.1 := by rw [eG82]; exact push_q
  have k_q81 : G82.2.1 q81 = 14 := by rw [eG82]; exact push_kq
  obtain ⟨S84, eS84, hf⟩ := bnd_ep hf
  refine pf_X12_92 C hP hS h_a k_a hin eS84 dX12_init_228 (fun H locs hP hS => ?_)
  have hW : WT G82 S84 := by rw [eS84]; exact wt_uR hW ⟨h_q81, k_q81⟩
  refine lv_aload_n hx hb dX12_init_231 rfl (lv_at hl 0 rfl) ?_
  refine lv_sipush (v := 616) hx hb dX12_init_232 kc_sipush_616 ?_
  refine x_newarr (ty := .int) (N' := 616) (a0 := (616, .inl (fun _ => 0))) C hP hS hW rfl qarr_I 1 14 rfl (arr_I 616) (by decide) (by decide) (by decide) zap_I (by show _ ≤ 16; omega) (by show _ ≤ 8479; omega) dX12_init_235 (fun q85 H hq85 hsz hag C hP hS hW => ?_)
  have hX := gx_push hX hq85 hsz C.2.2.2.2.2.2.2.2.2.1
  have hA := hag.trans hA
  have hf := hf q85 hq85
  obtain ⟨G86, eG86, hf⟩ := bnd_ep hf
  obtain ⟨S87, eS87, hf⟩ := bnd_ep hf
  rw [← eG86, ← eS87] at hP hW
  rw [← eG86] at hA hX C hS
  have k_a : G86.2.1 a = 12 := by rw [eG86, push_k h_a hq85]; exact k_a
  have h_a : a ∈ G86.1 := by rw [eG86]; exact push_in h_a
  have h_q85 : q85 ∈ G86.1 := by rw [eG86]; exact push_q
  have k_q85 : G86.2.1 q85 = 14 := by rw [eG86]; exact push_kq
  obtain ⟨S88, eS88, hf⟩ := bnd_ep hf
  refine pf_X12_95 C hP hS h_a k_a hin eS88 dX12_init_237 (fun H locs hP hS => ?_)
  have hW : WT G86 S88 := by rw [eS88]; exact wt_uR hW ⟨h_q85, k_q85⟩
  refine lv_aload_n hx hb dX12_init_240 rfl (lv_at hl 0 rfl) ?_
  refine lv_iconst (v := 4) hx hb dX12_init_241 rfl ?_
  refine x_newarr (ty := .boolean) (N' := 4) (a0 := (4, .inl (fun _ => 0))) C hP hS hW rfl qarr_Z 3 16 rfl (arr_Z 4) (by decide) (by decide) (by decide) zap_Z (by show _ ≤ 16; omega) (by show _ ≤ 8479; omega) dX12_init_242 (fun q89 H hq89 hsz hag C hP hS hW => ?_)
  have hX := gx_push hX hq89 hsz C.2.2.2.2.2.2.2.2.2.1
  have hA := hag.trans hA
  have hf := hf q89 hq89
  obtain ⟨G90, eG90, hf⟩ := bnd_ep hf
  obtain ⟨S91, eS91, hf⟩ := bnd_ep hf
  rw [← eG90, ← eS91] at hP hW
  rw [← eG90] at hA hX C hS
  have k_a : G90.2.1 a = 12 := by rw [eG90, push_k h_a hq89]; exact k_a
  have h_a : a ∈ G90.1 := by rw [eG90]; exact push_in h_a
  have h_q89 : q89 ∈ G90.1 := by rw [eG90]; exact push_q
  have k_q89 : G90.2.1 q89 = 16 := by rw [eG90]; exact push_kq
  obtain ⟨S92, eS92, hf⟩ := bnd_ep hf
  refine pf_X12_98 C hP hS h_a k_a hin eS92 dX12_init_244 (fun H locs hP hS => ?_)
  have hW : WT G90 S92 := by rw [eS92]; exact wt_uR hW ⟨h_q89, k_q89⟩
  refine lv_aload_n hx hb dX12_init_247 rfl (lv_at hl 0 rfl) ?_
  refine lv_sipush (v := 600) hx hb dX12_init_248 kc_sipush_600 ?_
  refine x_newarr (ty := .long) (N' := 600) (a0 := (600, .inr (.inl (fun _ => 0)))) C hP hS hW rfl qarr_J 2 15 rfl (arr_J 600) (by decide) (by decide) (by decide) zap_J (by show _ ≤ 16; omega) (by show _ ≤ 8479; omega) dX12_init_251 (fun q93 H hq93 hsz hag C hP hS hW => ?_)
  have hX := gx_push hX hq93 hsz C.2.2.2.2.2.2.2.2.2.1
  have hA := hag.trans hA
  have hf := hf q93 hq93
  obtain ⟨G94, eG94, hf⟩ := bnd_ep hf
  obtain ⟨S95, eS95, hf⟩ := bnd_ep hf
  rw [← eG94, ← eS95] at hP hW
  rw [← eG94] at hA hX C hS
  have k_a : G94.2.1 a = 12 := by rw [eG94, push_k h_a hq93]; exact k_a
  have h_a : a ∈ G94.1 := by rw [eG94]; exact push_in h_a
  have h_q93 : q93 ∈ G94.1 := by rw [eG94]; exact push_q
  have k_q93 : G94.2.1 q93 = 15 := by rw [eG94]; exact push_kq
  obtain ⟨S96, eS96, hf⟩ := bnd_ep hf
  refine pf_X12_102 C hP hS h_a k_a hin eS96 dX12_init_253 (fun H locs hP hS => ?_)
  have hW : WT G94 S96 := by rw [eS96]; exact wt_uR hW ⟨h_q93, k_q93⟩
  refine lv_aload_n hx hb dX12_init_256 rfl (lv_at hl 0 rfl) ?_
  refine lv_sipush (v := 600) hx hb dX12_init_257 kc_sipush_600 ?_
  refine x_newarr (ty := .long) (N' := 600) (a0 := (600, .inr (.inl (fun _ => 0)))) C hP hS hW rfl qarr_J 2 15 rfl (arr_J 600) (by decide) (by decide) (by decide) zap_J (by show _ ≤ 16; omega) (by show _ ≤ 8479; omega) dX12_init_260 (fun q97 H hq97 hsz hag C hP hS hW => ?_)
  have hX := gx_push hX hq97 hsz C.2.2.2.2.2.2.2.2.2.1
  have hA := hag.trans hA
  have hf := hf q97 hq97
  obtain ⟨G98, eG98, hf⟩ := bnd_ep hf
  obtain ⟨S99, eS99, hf⟩ := bnd_ep hf
  rw [← eG98, ← eS99] at hP hW
  rw [← eG98] at hA hX C hS
  have k_a : G98.2.1 a = 12 := by rw [eG98, push_k h_a hq97]; exact k_a
  have h_a : a ∈ G98.1 := by rw [eG98]; exact push_in h_a
  have h_q97 : q97 ∈ G98.1 := by rw [eG98]; exact push_q
  have k_q97 : G98.2.1 q97 = 15 := by rw [eG98]; exact push_kq
  obtain ⟨S100, eS100, hf⟩ := bnd_ep hf
  refine pf_X12_105 C hP hS h_a k_a hin eS100 dX12_init_262 (fun H locs hP hS => ?_)
  have hW : WT G98 S100 := by rw [eS100]; exact wt_uR hW ⟨h_q97, k_q97⟩
  refine lv_aload_n hx hb dX12_init_265 rfl (lv_at hl 0 rfl) ?_
  refine lv_iconst (v := 5) hx hb dX12_init_266 rfl ?_
  refine x_newarr (ty := .int) (N' := 5) (a0 := (5, .inl (fun _ => 0))) C hP hS hW rfl qarr_I 1 14 rfl (arr_I 5) (by decide) (by decide) (by decide) zap_I (by show _ ≤ 16; omega) (by show _ ≤ 8479; omega) dX12_init_267 (fun q101 H hq101 hsz hag C hP hS hW => ?_)
  have hX := gx_push hX hq101 hsz C.2.2.2.2.2.2.2.2.2.1
  have hA := hag.trans hA
  have hf := hf q101 hq101
  obtain ⟨G102, eG102, hf⟩ := bnd_ep hf
  obtain ⟨S103, eS103, hf⟩ := bnd_ep hf
  rw [← eG102, ← eS103] at hP hW
  rw [← eG102] at hA hX C hS
  have k_a : G102.2.1 a = 12 := by rw [eG102, push_k h_a hq101]; exact k_a
  have h_a : a ∈ G102.1 := by rw [eG102]; exact push_in h_a
  have h_q101 : q101 ∈ G102.1 := by rw [eG102]; exact push_q
  have k_q101 : G102.2.1 q101 = 14 := by rw [eG102]; exact push_kq
  obtain ⟨S104, eS104, hf⟩ := bnd_ep hf
  refine pf_X12_108 C hP hS h_a k_a hin eS104 dX12_init_269 (fun H locs hP hS => ?_)
  have hW : WT G102 S104 := by rw [eS104]; exact wt_uR hW ⟨h_q101, k_q101⟩
  refine lv_aload_n hx hb dX12_init_272 rfl (lv_at hl 0 rfl) ?_
  refine lv_iconst (v := 0) hx hb dX12_init_273 rfl ?_
  obtain ⟨S105, eS105, hf⟩ := bd1_ep hf
  refine x_aft_v (x_runV (As := [.int 0]) (rest := []) C hP hS (c_X12_standsAsAlways (l := l) C.2.2.2.2.2.2.2.2.2.1 hW h_a k_a eS105 H.size) h_a k_a (by decide) rfl rfl km_X12_standsAsAlways ki_X12_standsAsAlways qm_X12_111 ⟨(by show _ ≤ _; decide), (by show _ ≤ _; decide)⟩ rfl hl.1 rfl (Nat.le_of_ble_eq_true rfl) ⟨(by show _ ≤ 16; omega), (by show _ ≤ 8479; omega)⟩ dX12_init_274) hS (fun H locs hP hS hW => ?_)
  refine lv_aload_n hx hb dX12_init_277 rfl (lv_at hl 0 rfl) ?_
  obtain ⟨S106, eS106, hf⟩ := bd1_ep hf
  refine x_aft_v (x_runV (As := []) (rest := []) C hP hS (c_X12_begins (l := l) C.2.2.2.2.2.2.2.2.2.1 hW h_a k_a eS106 H.size) h_a k_a (by decide) rfl rfl km_X12_begins ki_X12_begins qm_X12_115 ⟨(by show _ ≤ _; decide), (by show _ ≤ _; decide)⟩ rfl hl.1 rfl (Nat.le_of_ble_eq_true rfl) ⟨(by show _ ≤ 16; omega), (by show _ ≤ 8479; omega)⟩ dX12_init_278) hS (fun H locs hP hS hW => ?_)
  exact x_retvw C hA hX hP hS hW hf (by show _ ≤ 16; omega) (by show _ ≤ 8479; omega) dX12_init_281
