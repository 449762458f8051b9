def s_X12_half (N : Nat → Nat) (F : Nat) (a : Nat) (p0 : Int32) (p1 : Int32) (p2 : Int32) (S : HS) : Option (Int32 × HS) :=
  bnd (uI S 1200 a 0) fun S1 =>
  bd1 (s_X12_areBits N a p0 p1 p2 S1) fun r2 =>
  if r2 = (0 : Int32) then
  some (0, S1)
  else
  bd2 (s_X12_isHalf N F a p0 p1 p2 S1) fun r5 S6 =>
  if r5 = (0 : Int32) then
  some (0, S6)
  else
  some (1, S6)
set_option maxRecDepth 100000 in
set_option maxHeartbeats 4000000 in
theorem c_X12_half {l : Launch} {V : EV} {G : GS} {S : HS} {F : Nat} {a : Nat} {p0 : Int32} {p1 : Int32} {p2 : Int32} {r : Int32} {S' : HS} (hN : G.1.Nodup) (hW : WT G S) (h_a : a ∈ G.1) (k_a : G.2.1 a = 12) (hf : s_X12_half G.2.2 F a p0 p1 p2 S = some (r, S')) : MetZ l yX12_half cX12_half 4 22 737 V G S [.ref a, .int p0, .int p1, .int p2] r S' := by
  intro sz
  refine x_in RX12 rfl (by decide +kernel) hN (Nat.le_of_ble_eq_true rfl) (fun p e s m args below meth c ls hsz hargs hnm C hP hS hl => ?_)
  subst hsz
  have hx := C.1
  have hb := C.2.1
  have hl : lv_has ls 4 [(0, .ref a), (1, .int p0), (2, .int p1), (3, .int p2)] := hl
  unfold s_X12_half at hf
  refine lv_aload_n hx hb dX12_half_0 rfl (lv_at hl 0 rfl) ?_
  refine lv_iconst (v := 0) hx hb dX12_half_1 rfl ?_
  obtain ⟨S1, eS1, hf⟩ := bnd_e hf
  refine pf_X12_1 C hP hS h_a k_a eS1 dX12_half_2 (fun H locs hP hS => ?_)
  have hW : WT G S1 := by rw [eS1]; exact hW
  refine lv_aload_n hx hb dX12_half_5 rfl (lv_at hl 0 rfl) ?_
  refine lv_iload_n hx hb dX12_half_6 rfl (lv_at hl 1 rfl) ?_
  refine lv_iload_n hx hb dX12_half_7 rfl (lv_at hl 2 rfl) ?_
  refine lv_iload_n hx hb dX12_half_8 rfl (lv_at hl 3 rfl) ?_
  obtain ⟨r2, er2, hf⟩ := bd1_e hf
  refine x_aft_z (x_runV (As := [.int p0, .int p1, .int p2]) (rest := []) C hP hS (c_X12_areBits (l := l) C.2.2.2.2.2.2.2.2.2.1 hW h_a k_a er2 H.size) h_a k_a (by decide) rfl rfl km_X12_areBits ki_X12_areBits qm_X12_403 ⟨(Nat.le_of_ble_eq_true rfl), (Nat.le_of_ble_eq_true rfl)⟩ rfl hl.1 rfl (Nat.le_of_ble_eq_true rfl) ⟨Nat.zero_le _, Nat.zero_le _⟩ dX12_half_9) hS (fun H locs hP hS hW z3 => ?_)
  refine lv_if_eq (tgt := 29) hx hb dX12_half_12 (by decide) (fun c4 => ?_) (fun c4 => ?_)
  · have hf := if_t c4 hf
    refine lv_iconst (v := 0) hx hb dX12_half_29 rfl ?_
    cases hf
    exact x_retZ C hP hS hW isZ_0 dX12_half_30
  · have hf := if_f c4 hf
    refine lv_aload_n hx hb dX12_half_15 rfl (lv_at hl 0 rfl) ?_
    refine lv_iload_n hx hb dX12_half_16 rfl (lv_at hl 1 rfl) ?_
    refine lv_iload_n hx hb dX12_half_17 rfl (lv_at hl 2 rfl) ?_
    refine lv_iload_n hx hb dX12_half_18 rfl (lv_at hl 3 rfl) ?_
    obtain ⟨r5, S6, eS6, hf⟩ := bd2_e hf
    refine x_aft_z (x_runV (As := [.int p0, .int p1, .int p2]) (rest := []) C hP hS (c_X12_isHalf (l := l) C.2.2.2.2.2.2.2.2.2.1 hW h_a k_a eS6 H.size) h_a k_a (by decide) rfl rfl km_X12_isHalf ki_X12_isHalf qm_X12_421 ⟨(Nat.le_of_ble_eq_true rfl), (Nat.le_of_ble_eq_true rfl)⟩ rfl hl.1 rfl (Nat.le_of_ble_eq_true rfl) ⟨Nat.zero_le _, Nat.zero_le _⟩ dX12_half_19) hS (fun H locs hP hS hW z7 => ?_)
    refine lv_if_eq (tgt := 29) hx hb dX12_half_22 (by decide) (fun c8 => ?_) (fun c8 => ?_)
    · have hf := if_t c8 hf
      refine lv_iconst (v := 0) hx hb dX12_half_29 rfl ?_
      cases hf
      exact x_retZ C hP hS hW isZ_0 dX12_half_30
    · have hf := if_f c8 hf
      refine lv_iconst (v := 1) hx hb dX12_half_25 rfl ?_
      refine lv_goto (tgt := 30) hx hb dX12_half_26 (by decide) ?_
      cases hf
      exact x_retZ C hP hS hW isZ_1 dX12_half_30
def s_X12_hasWord_J20 (N : Nat → Nat) (v2 : Int32) (w0 : Nat) (w1 : Int32) (w2 : Int32) (S : HS) : Option (Int32 × HS) :=
  bnd (uI S 1207 w0 (w1 + w2)) fun S4 =>
  if isZ v2 = true then
  some (v2, S4)
  else none
def s_X12_hasWord (N : Nat → Nat) (a : Nat) (p0 : Int32) (S : HS) : Option (Int32 × HS) :=
  bd1 (s_X12_isWord N a p0 S) fun r1 =>
  if r1 = (0 : Int32) then
  s_X12_hasWord_J20 N r1 a (gI S 1207 a) 0 S
  else
  s_X12_hasWord_J20 N r1 a (gI S 1207 a) 1 S
set_option maxRecDepth 100000 in
set_option maxHeartbeats 4000000 in
theorem b_X12_hasWord_20 {p : Program} {l : Launch} {e : Env} {s : State} {m : MethodId} {args : Array Value} {below : List Frame} {meth : Method} {c : Code} {V : EV} {G : GS} {r : Int32} {S' : HS} (C : CX p s m args meth c RX12 cX12_hasWord 3 (some .boolean) V G) : ∀ (v2 : Int32) (w0 : Nat) (w1 : Int32) (w2 : Int32) (h_w0 : w0 ∈ G.1) (k_w0 : G.2.1 w0 = 12) (S : HS) (H : Heap) (locs : List Loc) (ls : Array Slot), s_X12_hasWord_J20 G.2.2 v2 w0 w1 w2 S = some (r, S') → HP V G S H → va_S (AG G s.heap.size) s.heap H locs → WT G S → lv_has ls 3 [(2, .int v2)] → W p l e (RM 1 29) s m args below meth c H locs 0 0 (MQ below (QZ V G S' r s.heap.size) args s 0 0 (AG G s.heap.size)) (F0 m 20 ls [.int w2, .int w1, .ref w0]) := by
  intro v2 w0 w1 w2 h_w0 k_w0 S H locs ls hf hP hS hW hl
  have hx := C.1
  have hb := C.2.1
  unfold s_X12_hasWord_J20 at hf
  refine lv_iadd hx hb dX12_hasWord_20 ?_
  obtain ⟨S4, eS4, hf⟩ := bnd_e hf
  refine pf_X12_141 C hP hS h_w0 k_w0 eS4 dX12_hasWord_21 (fun H locs hP hS => ?_)
  have hW : WT G S4 := by rw [eS4]; exact hW
  refine lv_iload_n hx hb dX12_hasWord_24 rfl (lv_at hl 0 rfl) ?_
  obtain ⟨h5, hf⟩ := if_s hf
  cases hf
  exact x_retZ C hP hS hW h5 dX12_hasWord_25
set_option maxRecDepth 100000 in
set_option maxHeartbeats 4000000 in
theorem c_X12_hasWord {l : Launch} {V : EV} {G : GS} {S : HS} {a : Nat} {p0 : Int32} {r : Int32} {S' : HS} (hN : G.1.Nodup) (hW : WT G S) (h_a : a ∈ G.1) (k_a : G.2.1 a = 12) (hf : s_X12_hasWord G.2.2 a p0 S = some (r, S')) : MetZ l yX12_hasWord cX12_hasWord 3 1 29 V G S [.ref a, .int p0] r S' := by
  intro sz
  refine x_in RX12 rfl (by decide +kernel) hN (Nat.le_of_ble_eq_true rfl) (fun p e s m args below meth c ls hsz hargs hnm C hP hS hl => ?_)
  subst hsz
  have hx := C.1
  have hb := C.2.1
  have hl : lv_has ls 3 [(0, .ref a), (1, .int p0)] := hl
  unfold s_X12_hasWord at hf
  refine lv_aload_n hx hb dX12_hasWord_0 rfl (lv_at hl 0 rfl) ?_
  refine lv_iload_n hx hb dX12_hasWord_1 rfl (lv_at hl 1 rfl) ?_
  obtain ⟨r1, er1, hf⟩ := bd1_e hf
  refine x_aft_z (x_runV (As := [.int p0]) (rest := []) C hP hS (c_X12_isWord (l := l) C.2.2.2.2.2.2.2.2.2.1 hW h_a k_a er1 s.heap.size) h_a k_a (by decide) rfl rfl km_X12_isWord ki_X12_isWord qm_X12_153 ⟨(Nat.le_of_ble_eq_true rfl), (Nat.le_of_ble_eq_true rfl)⟩ rfl hl.1 rfl (Nat.le_of_ble_eq_true rfl) ⟨Nat.zero_le _, Nat.zero_le _⟩ dX12_hasWord_2) hS (fun H locs hP hS hW z2 => ?_)
  refine lv_istore_n (lv' := [(2, .int r1), (0, .ref a), (1, .int p0)]) hx hb dX12_hasWord_5 rfl hl (by decide) rfl (fun ls hl => ?_)
  refine lv_aload_n hx hb dX12_hasWord_6 rfl (lv_at hl 1 rfl) ?_
  refine lv_dup hx hb dX12_hasWord_7 rfl ?_
  refine gf_X12_141 C hP h_a k_a dX12_hasWord_8 ?_
  refine lv_iload_n hx hb dX12_hasWord_11 rfl (lv_at hl 0 rfl) ?_
  refine lv_if_eq (tgt := 19) hx hb dX12_hasWord_12 (by decide) (fun c3 => ?_) (fun c3 => ?_)
  · have hf := if_t c3 hf
    refine lv_iconst (v := 0) hx hb dX12_hasWord_19 rfl ?_
    exact b_X12_hasWord_20 C r1 a (gI S 1207 a) 0 h_a k_a S H locs _ hf hP hS hW (lv_sub hl [0] rfl)
  · have hf := if_f c3 hf
    refine lv_iconst (v := 1) hx hb dX12_hasWord_15 rfl ?_
    refine lv_goto (tgt := 20) hx hb dX12_hasWord_16 (by decide) ?_
    exact b_X12_hasWord_20 C r1 a (gI S 1207 a) 1 h_a k_a S H locs _ hf hP hS hW (lv_sub hl [0] rfl)
def s_X12_standsAsAlways_L2 (N : Nat → Nat) (F : Nat) (k23 : Nat → Int32 → HS → Option HS) : Nat → Nat → Int32 → Int32 → HS → Option HS
  | 0, _, _, _, _ => none
  | n + 1, v0, v1, v2, S => if (15 : Int32) ≤ v2 then
  k23 v0 v1 S
  else
  bd1 (gR S 1210 v0) fun t2 =>
  if inB (v1 + v2) (N t2) = true then
  bnd (wI S t2 ((v1 + v2).toNatClampNeg) 0) fun S4 =>
  bnd (v2 + Int32.ofInt 1 : Int32) fun x5 =>
  s_X12_standsAsAlways_L2 N F k23 n v0 v1 x5 S4
  else none
def s_X12_standsAsAlways_J23 (N : Nat → Nat) (F : Nat) (v0 : Nat) (v1 : Int32) (S : HS) : Option HS :=
  bd1 (gR S 1210 v0) fun t6 =>
  if inB (v1 + 2) (N t6) = true then
  bnd (wI S t6 ((v1 + 2).toNatClampNeg) (-1)) fun S8 =>
  some S8
  else none
def s_X12_standsAsAlways (N : Nat → Nat) (F : Nat) (a : Nat) (p0 : Int32) (S : HS) : Option HS :=
  s_X12_standsAsAlways_L2 N F (s_X12_standsAsAlways_J23 N F) F a p0 0 S
set_option maxRecDepth 100000 in
set_option maxHeartbeats 4000000 in
theorem b_X12_standsAsAlways_2 {p : Program} {l : Launch} {e : Env} {s : State} {m : MethodId} {args : Array Value} {below : List Frame} {meth : Method} {c : Code} {V : EV} {G : GS} {S' : HS} {F : Nat} (C : CX p s m args meth c RX12 cX12_standsAsAlways 3 none V G) {k23 : Nat → Int32 → HS → Option HS} (hk23 : ∀ (v0 : Nat) (v1 : Int32) (h_v0 : v0 ∈ G.1) (k_v0 : G.2.1 v0 = 12) (S : HS) (H : Heap) (locs : List Loc) (ls : Array Slot), k23 v0 v1 S = some S' → HP V G S H → va_S (AG G s.heap.size) s.heap H locs → WT G S → lv_has ls 3 [(0, .ref v0), (1, .int v1)] → W p l e (RM 0 0) s m args below meth c H locs 0 0 (MQ below (QV V G S' s.heap.size) args s 0 0 (AG G s.heap.size)) (F0 m 23 ls [])) : ∀ n : Nat, ∀ (v0 : Nat) (v1 : Int32) (v2 : Int32) (h_v0 : v0 ∈ G.1) (k_v0 : G.2.1 v0 = 12) (S : HS) (H : Heap) (locs : List Loc) (ls : Array Slot), s_X12_standsAsAlways_L2 G.2.2 F k23 n v0 v1 v2 S = some S' → HP V G S H → va_S (AG G s.heap.size) s.heap H locs → WT G S → lv_has ls 3 [(0, .ref v0), (1, .int v1), (2, .int v2)] → W p l e (RM 0 0) s m args below meth c H locs 0 0 (MQ below (QV V G S' s.heap.size) args s 0 0 (AG G s.heap.size)) (F0 m 2 ls []) := by
  intro n
  induction n with
  | zero =>
    intro v0 v1 v2 h_v0 k_v0 S H locs ls hf
    rw [s_X12_standsAsAlways_L2] at hf
    cases hf
  | succ n ih =>
    intro v0 v1 v2 h_v0 k_v0 S H locs ls hf hP hS hW hl
    have hx := C.1
    have hb := C.2.1
    rw [s_X12_standsAsAlways_L2] at hf
    refine lv_iload_n hx hb dX12_standsAsAlways_2 rfl (lv_at hl 2 rfl) ?_
    refine lv_bipush (v := 15) hx hb dX12_standsAsAlways_3 kc_bipush_15 ?_
    refine lv_icmp_ge (tgt := 23) hx hb dX12_standsAsAlways_5 (by decide) (fun c1 => ?_) (fun c1 => ?_)
    · have hf := if_t c1 hf
      exact hk23 v0 v1 h_v0 k_v0 S H locs _ hf hP hS hW (lv_sub hl [0, 1] rfl)
    · have hf := if_f c1 hf
      refine lv_aload_n hx hb dX12_standsAsAlways_8 rfl (lv_at hl 0 rfl) ?_
      refine gf_X12_77 C hP h_v0 k_v0 dX12_standsAsAlways_9 ?_
      obtain ⟨t2, et2, hf⟩ := bd1_e hf
      obtain ⟨h_t2, k_t2⟩ := wt_r hW h_v0 k_v0 (by decide) et2
      have k_t2 : G.2.1 t2 = 14 := k_t2
      rw [et2]
      refine lv_iload_n hx hb dX12_standsAsAlways_12 rfl (lv_at hl 1 rfl) ?_
      refine lv_iload_n hx hb dX12_standsAsAlways_13 rfl (lv_at hl 2 rfl) ?_
      refine lv_iadd hx hb dX12_standsAsAlways_14 ?_
      refine lv_iconst (v := 0) hx hb dX12_standsAsAlways_15 rfl ?_
      obtain ⟨h3, hf⟩ := if_s hf
      obtain ⟨S4, eS4, hf⟩ := bnd_e hf
      refine x_iast C hP hS h_t2 k_t2 h3 eS4 dX12_standsAsAlways_16 (fun H locs hP hS => ?_)
      have hW : WT G S4 := by rw [eS4]; exact hW
      obtain ⟨x5, ex5, hf⟩ := bnd_e hf
      refine lv_iinc (v := x5) (lv' := [(2, .int x5), (0, .ref v0), (1, .int v1)]) hx hb dX12_standsAsAlways_17 hl (k := 2) rfl ex5.symm (by decide) rfl (fun ls hl => ?_)
      refine lv_goto (tgt := 2) hx hb dX12_standsAsAlways_20 (by decide) ?_
      exact ih v0 v1 x5 h_v0 k_v0 S4 H locs _ hf hP hS hW (lv_sub hl [1, 2, 0] rfl)
set_option maxRecDepth 100000 in
set_option maxHeartbeats 4000000 in
theorem b_X12_standsAsAlways_23 {p : Program} {l : Launch} {e : Env} {s : State} {m : MethodId} {args : Array Value} {below : List Frame} {meth : Method} {c : Code} {V : EV} {G : GS} {S' : HS} {F : Nat} (C : CX p s m args meth c RX12 cX12_standsAsAlways 3 none V G) : ∀ (v0 : Nat) (v1 : Int32) (h_v0 : v0 ∈ G.1) (k_v0 : G.2.1 v0 = 12) (S : HS) (H : Heap) (locs : List Loc) (ls : Array Slot), s_X12_standsAsAlways_J23 G.2.2 F v0 v1 S = some S' → HP V G S H → va_S (AG G s.heap.size) s.heap H locs → WT G S → lv_has ls 3 [(0, .ref v0), (1, .int v1)] → W p l e (RM 0 0) s m args below meth c H locs 0 0 (MQ below (QV V G S' s.heap.size) args s 0 0 (AG G s.heap.size)) (F0 m 23 ls []) := by
  intro v0 v1 h_v0 k_v0 S H locs ls hf hP hS hW hl
  have hx := C.1
  have hb := C.2.1
  unfold s_X12_standsAsAlways_J23 at hf
  refine lv_aload_n hx hb dX12_standsAsAlways_23 rfl (lv_at hl 0 rfl) ?_
  refine gf_X12_77 C hP h_v0 k_v0 dX12_standsAsAlways_24 ?_
  obtain ⟨t6, et6, hf⟩ := bd1_e hf
  obtain ⟨h_t6, k_t6⟩ := wt_r hW h_v0 k_v0 (by decide) et6
  have k_t6 : G.2.1 t6 = 14 := k_t6
  rw [et6]
  refine lv_iload_n hx hb dX12_standsAsAlways_27 rfl (lv_at hl 1 rfl) ?_
  refine lv_iconst (v := 2) hx hb dX12_standsAsAlways_28 rfl ?_
  refine lv_iadd hx hb dX12_standsAsAlways_29 ?_
  refine lv_iconst (v := (-1)) hx hb dX12_standsAsAlways_30 rfl ?_
  obtain ⟨h7, hf⟩ := if_s hf
  obtain ⟨S8, eS8, hf⟩ := bnd_e hf
  refine x_iast C hP hS h_t6 k_t6 h7 eS8 dX12_standsAsAlways_31 (fun H locs hP hS => ?_)
  have hW : WT G S8 := by rw [eS8]; exact hW
  cases hf
  exact x_retv C hP hS hW dX12_standsAsAlways_32
set_option maxRecDepth 100000 in
set_option maxHeartbeats 4000000 in
theorem c_X12_standsAsAlways {l : Launch} {V : EV} {G : GS} {S : HS} {F : Nat} {a : Nat} {p0 : Int32} {S' : HS} (hN : G.1.Nodup) (hW : WT G S) (h_a : a ∈ G.1) (k_a : G.2.1 a = 12) (hf : s_X12_standsAsAlways G.2.2 F a p0 S = some S') : MetV l yX12_standsAsAlways cX12_standsAsAlways 3 0 0 V G S [.ref a, .int p0] S' := by
  intro sz
  refine x_in RX12 rfl (by decide +kernel) hN (Nat.le_of_ble_eq_true rfl) (fun p e s m args below meth c ls hsz hargs hnm C hP hS hl => ?_)
  subst hsz
  have hx := C.1
  have hb := C.2.1
  have hl : lv_has ls 3 [(0, .ref a), (1, .int p0)] := hl
  unfold s_X12_standsAsAlways at hf
  refine lv_iconst (v := 0) hx hb dX12_standsAsAlways_0 rfl ?_
  refine lv_istore_n (lv' := [(2, .int 0), (0, .ref a), (1, .int p0)]) hx hb dX12_standsAsAlways_1 rfl hl (by decide) rfl (fun ls hl => ?_)
  exact b_X12_standsAsAlways_2 C (b_X12_standsAsAlways_23 C) F a p0 0 h_a k_a S s.heap [] _ hf hP hS hW (lv_sub hl [1, 2, 0] rfl)
def s_X12_into (N : Nat → Nat) (F : Nat) (a : Nat) (p0 : Int32) (p1 : Int32) (S : HS) : Option (Int32 × HS) :=
  bnd (uI S 1200 a 0) fun S1 =>
  bd1 (s_X12_isForm N a p0 S1) fun r2 =>
  if r2 = (0 : Int32) then
  some ((-1), S1)
  else
  bd1 (s_X12_used N a S1) fun r5 =>
  bd1 (s_X12_isBits N a r5 p1 S1) fun r6 =>
  if r6 = (0 : Int32) then
  some ((-1), S1)
  else
  bd1 (s_X12_used N a S1) fun r9 =>
  bd1 (gR S1 1217 a) fun t10 =>
  if inB (1 : Int32) (N t10) = true then
  bd2 (s_X12_turns N F a r9 p0 p1 (aI S1 t10 (1 : Int32).toNatClampNeg) S1) fun r12 S13 =>
  some (r12, S13)
  else none
set_option maxRecDepth 100000 in
set_option maxHeartbeats 4000000 in
theorem c_X12_into {l : Launch} {V : EV} {G : GS} {S : HS} {F : Nat} {a : Nat} {p0 : Int32} {p1 : Int32} {r : Int32} {S' : HS} (hN : G.1.Nodup) (hW : WT G S) (h_a : a ∈ G.1) (k_a : G.2.1 a = 12) (hf : s_X12_into G.2.2 F a p0 p1 S = some (r, S')) : MetI l yX12_into cX12_into 3 .int 7 227 V G S [.ref a, .int p0, .int p1] r S' := by
  intro sz
  refine x_in RX12 rfl (by decide +kernel) hN (Nat.le_of_ble_eq_true rfl) (fun p e s m args below meth c ls hsz hargs hnm C hP hS hl => ?_)
  subst hsz
  have hx := C.1
  have hb := C.2.1
  have hl : lv_has ls 3 [(0, .ref a), (1, .int p0), (2, .int p1)] := hl
  unfold s_X12_into at hf
  refine lv_aload_n hx hb dX12_into_0 rfl (lv_at hl 0 rfl) ?_
  refine lv_iconst (v := 0) hx hb dX12_into_1 rfl ?_
  obtain ⟨S1, eS1, hf⟩ := bnd_e hf
  refine pf_X12_1 C hP hS h_a k_a eS1 dX12_into_2 (fun H locs hP hS => ?_)
  have hW : WT G S1 := by rw [eS1]; exact hW
  refine lv_aload_n hx hb dX12_into_5 rfl (lv_at hl 0 rfl) ?_
  refine lv_iload_n hx hb dX12_into_6 rfl (lv_at hl 1 rfl) ?_
  obtain ⟨r2, er2, hf⟩ := bd1_e hf
  refine x_aft_z (x_runV (As := [.int p0]) (rest := []) C hP hS (c_X12_isForm (l := l) C.2.2.2.2.2.2.2.2.2.1 hW h_a k_a er2 H.size) h_a k_a (by decide) rfl rfl km_X12_isForm ki_X12_isForm qm_X12_354 ⟨(Nat.le_of_ble_eq_true rfl), (Nat.le_of_ble_eq_true rfl)⟩ rfl hl.1 rfl (Nat.le_of_ble_eq_true rfl) ⟨Nat.zero_le _, Nat.zero_le _⟩ dX12_into_7) hS (fun H locs hP hS hW z3 => ?_)
  refine lv_if_eq (tgt := 44) hx hb dX12_into_10 (by decide) (fun c4 => ?_) (fun c4 => ?_)
  · have hf := if_t c4 hf
    refine lv_iconst (v := (-1)) hx hb dX12_into_44 rfl ?_
    cases hf
    exact x_reti C hP hS hW dX12_into_45
  · have hf := if_f c4 hf
    refine lv_aload_n hx hb dX12_into_13 rfl (lv_at hl 0 rfl) ?_
    refine lv_aload_n hx hb dX12_into_14 rfl (lv_at hl 0 rfl) ?_
    obtain ⟨r5, er5, hf⟩ := bd1_e hf
    refine x_aft_i (x_runV (As := []) (rest := [.ref a]) C hP hS (c_X12_used (l := l) C.2.2.2.2.2.2.2.2.2.1 hW h_a k_a er5 H.size) h_a k_a (by decide) rfl rfl km_X12_used ki_X12_used qm_X12_357 ⟨(Nat.le_of_ble_eq_true rfl), (Nat.le_of_ble_eq_true rfl)⟩ rfl hl.1 rfl (Nat.le_of_ble_eq_true rfl) ⟨Nat.zero_le _, Nat.zero_le _⟩ dX12_into_15) hS (fun H locs hP hS hW => ?_)
    refine lv_iload_n hx hb dX12_into_18 rfl (lv_at hl 2 rfl) ?_
    obtain ⟨r6, er6, hf⟩ := bd1_e hf
    refine x_aft_z (x_runV (As := [.int r5, .int p1]) (rest := []) C hP hS (c_X12_isBits (l := l) C.2.2.2.2.2.2.2.2.2.1 hW h_a k_a er6 H.size) h_a k_a (by decide) rfl rfl km_X12_isBits ki_X12_isBits qm_X12_363 ⟨(Nat.le_of_ble_eq_true rfl), (Nat.le_of_ble_eq_true rfl)⟩ rfl hl.1 rfl (Nat.le_of_ble_eq_true rfl) ⟨Nat.zero_le _, Nat.zero_le _⟩ dX12_into_19) hS (fun H locs hP hS hW z7 => ?_)
    refine lv_if_eq (tgt := 44) hx hb dX12_into_22 (by decide) (fun c8 => ?_) (fun c8 => ?_)
    · have hf := if_t c8 hf
      refine lv_iconst (v := (-1)) hx hb dX12_into_44 rfl ?_
      cases hf
      exact x_reti C hP hS hW dX12_into_45
    · have hf := if_f c8 hf
      refine lv_aload_n hx hb dX12_into_25 rfl (lv_at hl 0 rfl) ?_
      refine lv_aload_n hx hb dX12_into_26 rfl (lv_at hl 0 rfl) ?_
      obtain ⟨r9, er9, hf⟩ := bd1_e hf
      refine x_aft_i (x_runV (As := []) (rest := [.ref a]) C hP hS (c_X12_used (l := l) C.2.2.2.2.2.2.2.2.2.1 hW h_a k_a er9 H.size) h_a k_a (by decide) rfl rfl km_X12_used ki_X12_used qm_X12_357 ⟨(Nat.le_of_ble_eq_true rfl), (Nat.le_of_ble_eq_true rfl)⟩ rfl hl.1 rfl (Nat.le_of_ble_eq_true rfl) ⟨Nat.zero_le _, Nat.zero_le _⟩ dX12_into_27) hS (fun H locs hP hS hW => ?_)
      refine lv_iload_n hx hb dX12_into_30 rfl (lv_at hl 1 rfl) ?_
      refine lv_iload_n hx hb dX12_into_31 rfl (lv_at hl 2 rfl) ?_
      refine lv_aload_n hx hb dX12_into_32 rfl (lv_at hl 0 rfl) ?_
      refine gf_X12_95 C hP h_a k_a dX12_into_33 ?_
      obtain ⟨t10, et10, hf⟩ := bd1_e hf
      obtain ⟨h_t10, k_t10⟩ := wt_r hW h_a k_a (by decide) et10
      have k_t10 : G.2.1 t10 = 14 := k_t10
      rw [et10]
      refine lv_iconst (v := 1) hx hb dX12_into_36 rfl ?_
      obtain ⟨h11, hf⟩ := if_s hf
      refine x_iald C hP h_t10 k_t10 h11 dX12_into_37 ?_
      obtain ⟨r12, S13, eS13, hf⟩ := bd2_e hf
      refine x_aft_i (x_runV (As := [.int r9, .int p0, .int p1, .int (aI S1 t10 (1 : Int32).toNatClampNeg)]) (rest := []) C hP hS (c_X12_turns (l := l) C.2.2.2.2.2.2.2.2.2.1 hW h_a k_a eS13 H.size) h_a k_a (by decide) rfl rfl km_X12_turns ki_X12_turns qm_X12_390 ⟨(Nat.le_of_ble_eq_true rfl), (Nat.le_of_ble_eq_true rfl)⟩ rfl hl.1 rfl (Nat.le_of_ble_eq_true rfl) ⟨Nat.zero_le _, Nat.zero_le _⟩ dX12_into_38) hS (fun H locs hP hS hW => ?_)
      refine lv_goto (tgt := 45) hx hb dX12_into_41 (by decide) ?_
      cases hf
      exact x_reti C hP hS hW dX12_into_45
def s_X12_oneOf (N : Nat → Nat) (a : Nat) (p0 : Int32) (S : HS) : Option Int32 :=
  bd1 (s_X12_biasOf N a p0 S) fun r1 =>
  bd1 (s_X12_fracOf N a p0 S) fun r2 =>
  some (r1 <<< (r2 &&& 31))
set_option maxRecDepth 100000 in
set_option maxHeartbeats 4000000 in
theorem c_X12_oneOf {l : Launch} {V : EV} {G : GS} {S : HS} {a : Nat} {p0 : Int32} {r : Int32} (hN : G.1.Nodup) (hW : WT G S) (h_a : a ∈ G.1) (k_a : G.2.1 a = 12) (hf : s_X12_oneOf G.2.2 a p0 S = some r) : MetI l yX12_oneOf cX12_oneOf 2 .int 2 58 V G S [.ref a, .int p0] r S := by
  intro sz
  refine x_in RX12 rfl (by decide +kernel) hN (Nat.le_of_ble_eq_true rfl) (fun p e s m args below meth c ls hsz hargs hnm C hP hS hl => ?_)
  subst hsz
  have hx := C.1
  have hb := C.2.1
  have hl : lv_has ls 2 [(0, .ref a), (1, .int p0)] := hl
  unfold s_X12_oneOf at hf
  refine lv_aload_n hx hb dX12_oneOf_0 rfl (lv_at hl 0 rfl) ?_
  refine lv_iload_n hx hb dX12_oneOf_1 rfl (lv_at hl 1 rfl) ?_
  obtain ⟨r1, er1, hf⟩ := bd1_e hf
  refine x_aft_i (x_runV (As := [.int p0]) (rest := []) C hP hS (c_X12_biasOf (l := l) C.2.2.2.2.2.2.2.2.2.1 hW h_a k_a er1 s.heap.size) h_a k_a (by decide) rfl rfl km_X12_biasOf ki_X12_biasOf qm_X12_264 ⟨(Nat.le_of_ble_eq_true rfl), (Nat.le_of_ble_eq_true rfl)⟩ rfl hl.1 rfl (Nat.le_of_ble_eq_true rfl) ⟨Nat.zero_le _, Nat.zero_le _⟩ dX12_oneOf_2) hS (fun H locs hP hS hW => ?_)
  refine lv_aload_n hx hb dX12_oneOf_5 rfl (lv_at hl 0 rfl) ?_
  refine lv_iload_n hx hb dX12_oneOf_6 rfl (lv_at hl 1 rfl) ?_
  obtain ⟨r2, er2, hf⟩ := bd1_e hf
  refine x_aft_i (x_runV (As := [.int p0]) (rest := [.int r1]) C hP hS (c_X12_fracOf (l := l) C.2.2.2.2.2.2.2.2.2.1 hW h_a k_a er2 H.size) h_a k_a (by decide) rfl rfl km_X12_fracOf ki_X12_fracOf qm_X12_255 ⟨(Nat.le_of_ble_eq_true rfl), (Nat.le_of_ble_eq_true rfl)⟩ rfl hl.1 rfl (Nat.le_of_ble_eq_true rfl) ⟨Nat.zero_le _, Nat.zero_le _⟩ dX12_oneOf_7) hS (fun H locs hP hS hW => ?_)
  refine lv_ishl hx hb dX12_oneOf_10 ?_
  cases hf
  exact x_reti C hP hS hW dX12_oneOf_11
def s_X12_inverse_J129 (N : Nat → Nat) (F : Nat) (k39 : Nat → Int32 → Int32 → Int32 → Int32 → Int32 → HS → Option (Int32 × HS)) (v0 : Nat) (v1 : Int32) (v2 : Int32) (v3 : Int32) (v5 : Int32) (w0 : Int32) (S : HS) : Option (Int32 × HS) :=
  bnd (v5 + Int32.ofInt 1 : Int32) fun x21 =>
  k39 v0 v1 v2 v3 w0 x21 S
def s_X12_inverse_J111 (N : Nat → Nat) (F : Nat) (k39 : Nat → Int32 → Int32 → Int32 → Int32 → Int32 → HS → Option (Int32 × HS)) (v0 : Nat) (v1 : Int32) (v2 : Int32) (v4 : Int32) (v5 : Int32) (v6 : Int32) (v7 : Int32) (w0 : Int32) (S : HS) : Option (Int32 × HS) :=
  if v7 = (0 : Int32) then
  s_X12_inverse_J129 N F k39 v0 v1 v2 w0 v5 v4 S
  else
  bd1 (s_X12_sizeOf N v0 v2 v6 S) fun r22 =>
  s_X12_inverse_J129 N F k39 v0 v1 v2 w0 v5 r22 S
def s_X12_inverse_J98 (N : Nat → Nat) (F : Nat) (k39 : Nat → Int32 → Int32 → Int32 → Int32 → Int32 → HS → Option (Int32 × HS)) (v0 : Nat) (v1 : Int32) (v2 : Int32) (v3 : Int32) (v4 : Int32) (v5 : Int32) (v6 : Int32) (w0 : Int32) (S : HS) : Option (Int32 × HS) :=
  if w0 = (0 : Int32) then
  s_X12_inverse_J111 N F k39 v0 v1 v2 v4 v5 v6 w0 v3 S
  else
  s_X12_inverse_J111 N F k39 v0 v1 v2 v4 v5 v6 w0 v5 S
def s_X12_inverse_L39 (N : Nat → Nat) (F : Nat) : Nat → Nat → Int32 → Int32 → Int32 → Int32 → Int32 → HS → Option (Int32 × HS)
  | 0, _, _, _, _, _, _, _ => none
  | n + 1, v0, v1, v2, v3, v4, v5, S => bd1 (s_X12_allBits N v0 S) fun r10 =>
  if r10 ≤ v5 then
  some (v3, S)
  else
  bd1 (s_X12_oneOf N v0 v2 S) fun r12 =>
  bd1 (s_X12_negative N v0 v2 r12 S) fun r13 =>
  bd2 (s_X12_sumNow N F v0 v5 v1 r13 S) fun r14 S15 =>
  bd1 (s_X12_isNan N v0 v2 r14 S15) fun r16 =>
  if r16 = (0 : Int32) then
  if v3 < (0 : Int32) then
  s_X12_inverse_J98 N F (s_X12_inverse_L39 N F n) v0 v1 v2 v3 v4 v5 r14 1 S15
  else
  bd1 (s_X12_sizeOf N v0 v2 r14 S15) fun r24 =>
  if v4 ≤ r24 then
  s_X12_inverse_J98 N F (s_X12_inverse_L39 N F n) v0 v1 v2 v3 v4 v5 r14 0 S15
  else
  s_X12_inverse_J98 N F (s_X12_inverse_L39 N F n) v0 v1 v2 v3 v4 v5 r14 1 S15
  else
  s_X12_inverse_J98 N F (s_X12_inverse_L39 N F n) v0 v1 v2 v3 v4 v5 r14 0 S15
def s_X12_inverse (N : Nat → Nat) (F : Nat) (a : Nat) (p0 : Int32) (S : HS) : Option (Int32 × HS) :=
  bnd (uI S 1200 a 0) fun S1 =>
  bd1 (s_X12_isSmall N a S1) fun r2 =>
  if r2 = (0 : Int32) then
  some ((-1), S1)
  else
  bd1 (s_X12_used N a S1) fun r5 =>
  bd1 (s_X12_isBits N a r5 p0 S1) fun r6 =>
  if r6 = (0 : Int32) then
  some ((-1), S1)
  else
  bd1 (s_X12_used N a S1) fun r9 =>
  s_X12_inverse_L39 N F F a p0 r9 (-1) 0 0 S1
set_option maxRecDepth 100000 in
set_option maxHeartbeats 4000000 in
theorem b_X12_inverse_129 {p : Program} {l : Launch} {e : Env} {s : State} {m : MethodId} {args : Array Value} {below : List Frame} {meth : Method} {c : Code} {V : EV} {G : GS} {r : Int32} {S' : HS} {F : Nat} (C : CX p s m args meth c RX12 cX12_inverse 8 (some .int) V G) {k39 : Nat → Int32 → Int32 → Int32 → Int32 → Int32 → HS → Option (Int32 × HS)} (hk39 : ∀ (v0 : Nat) (v1 : Int32) (v2 : Int32) (v3 : Int32) (v4 : Int32) (v5 : Int32) (h_v0 : v0 ∈ G.1) (k_v0 : G.2.1 v0 = 12) (S : HS) (H : Heap) (locs : List Loc) (ls : Array Slot), k39 v0 v1 v2 v3 v4 v5 S = some (r, S') → HP V G S H → va_S (AG G s.heap.size) s.heap H locs → WT G S → lv_has ls 8 [(0, .ref v0), (1, .int v1), (2, .int v2), (3, .int v3), (4, .int v4), (5, .int v5)] → W p l e (RM 21 706) s m args below meth c H locs 0 0 (MQ below (QI V G S' r s.heap.size) args s 0 0 (AG G s.heap.size)) (F0 m 39 ls [])) : ∀ (v0 : Nat) (v1 : Int32) (v2 : Int32) (v3 : Int32) (v5 : Int32) (w0 : Int32) (h_v0 : v0 ∈ G.1) (k_v0 : G.2.1 v0 = 12) (S : HS) (H : Heap) (locs : List Loc) (ls : Array Slot), s_X12_inverse_J129 G.2.2 F k39 v0 v1 v2 v3 v5 w0 S = some (r, S') → HP V G S H → va_S (AG G s.heap.size) s.heap H locs → WT G S → lv_has ls 8 [(0, .ref v0), (1, .int v1), (2, .int v2), (3, .int v3), (5, .int v5)] → W p l e (RM 21 706) s m args below meth c H locs 0 0 (MQ below (QI V G S' r s.heap.size) args s 0 0 (AG G s.heap.size)) (F0 m 129 ls [.int w0]) := by
  intro v0 v1 v2 v3 v5 w0 h_v0 k_v0 S H locs ls hf hP hS hW hl
  have hx := C.1
  have hb := C.2.1
  unfold s_X12_inverse_J129 at hf
  refine lv_istore (lv' := [(4, .int w0), (0, .ref v0), (1, .int v1), (2, .int v2), (3, .int v3), (5, .int v5)]) hx hb dX12_inverse_129 hl (by decide) rfl (fun ls hl => ?_)
  obtain ⟨x21, ex21, hf⟩ := bnd_e hf
  refine lv_iinc (v := x21) (lv' := [(5, .int x21), (4, .int w0), (0, .ref v0), (1, .int v1), (2, .int v2), (3, .int v3)]) hx hb dX12_inverse_131 hl (k := 5) rfl ex21.symm (by decide) rfl (fun ls hl => ?_)
  refine lv_goto (tgt := 39) hx hb dX12_inverse_134 (by decide) ?_
  exact hk39 v0 v1 v2 v3 w0 x21 h_v0 k_v0 S H locs _ hf hP hS hW (lv_sub hl [2, 3, 4, 5, 1, 0] rfl)
set_option maxRecDepth 100000 in
set_option maxHeartbeats 4000000 in
theorem b_X12_inverse_111 {p : Program} {l : Launch} {e : Env} {s : State} {m : MethodId} {args : Array Value} {below : List Frame} {meth : Method} {c : Code} {V : EV} {G : GS} {r : Int32} {S' : HS} {F : Nat} (C : CX p s m args meth c RX12 cX12_inverse 8 (some .int) V G) {k39 : Nat → Int32 → Int32 → Int32 → Int32 → Int32 → HS → Option (Int32 × HS)} (hk39 : ∀ (v0 : Nat) (v1 : Int32) (v2 : Int32) (v3 : Int32) (v4 : Int32) (v5 : Int32) (h_v0 : v0 ∈ G.1) (k_v0 : G.2.1 v0 = 12) (S : HS) (H : Heap) (locs : List Loc) (ls : Array Slot), k39 v0 v1 v2 v3 v4 v5 S = some (r, S') → HP V G S H → va_S (AG G s.heap.size) s.heap H locs → WT G S → lv_has ls 8 [(0, .ref v0), (1, .int v1), (2, .int v2), (3, .int v3), (4, .int v4), (5, .int v5)] → W p l e (RM 21 706) s m args below meth c H locs 0 0 (MQ below (QI V G S' r s.heap.size) args s 0 0 (AG G s.heap.size)) (F0 m 39 ls [])) : ∀ (v0 : Nat) (v1 : Int32) (v2 : Int32) (v4 : Int32) (v5 : Int32) (v6 : Int32) (v7 : Int32) (w0 : Int32) (h_v0 : v0 ∈ G.1) (k_v0 : G.2.1 v0 = 12) (S : HS) (H : Heap) (locs : List Loc) (ls : Array Slot), s_X12_inverse_J111 G.2.2 F k39 v0 v1 v2 v4 v5 v6 v7 w0 S = some (r, S') → HP V G S H → va_S (AG G s.heap.size) s.heap H locs → WT G S → lv_has ls 8 [(0, .ref v0), (1, .int v1), (2, .int v2), (4, .int v4), (5, .int v5), (6, .int v6), (7, .int v7)] → W p l e (RM 21 706) s m args below meth c H locs 0 0 (MQ below (QI V G S' r s.heap.size) args s 0 0 (AG G s.heap.size)) (F0 m 111 ls [.int w0]) := by
  intro v0 v1 v2 v4 v5 v6 v7 w0 h_v0 k_v0 S H locs ls hf hP hS hW hl
  have hx := C.1
  have hb := C.2.1
  unfold s_X12_inverse_J111 at hf
  refine lv_istore_n (lv' := [(3, .int w0), (0, .ref v0), (1, .int v1), (2, .int v2), (4, .int v4), (5, .int v5), (6, .int v6), (7, .int v7)]) hx hb dX12_inverse_111 rfl hl (by decide) rfl (fun ls hl => ?_)
  refine lv_iload hx hb dX12_inverse_112 (lv_at hl 7 rfl) ?_
  refine lv_if_eq (tgt := 127) hx hb dX12_inverse_114 (by decide) (fun c20 => ?_) (fun c20 => ?_)
  · have hf := if_t c20 hf
    refine lv_iload hx hb dX12_inverse_127 (lv_at hl 4 rfl) ?_
    exact b_X12_inverse_129 C hk39 v0 v1 v2 w0 v5 v4 h_v0 k_v0 S H locs _ hf hP hS hW (lv_sub hl [1, 2, 3, 0, 5] rfl)
  · have hf := if_f c20 hf
    refine lv_aload_n hx hb dX12_inverse_117 rfl (lv_at hl 1 rfl) ?_
    refine lv_iload_n hx hb dX12_inverse_118 rfl (lv_at hl 3 rfl) ?_
    refine lv_iload hx hb dX12_inverse_119 (lv_at hl 6 rfl) ?_
    obtain ⟨r22, er22, hf⟩ := bd1_e hf
    refine x_aft_i (x_runV (As := [.int v2, .int v6]) (rest := []) C hP hS (c_X12_sizeOf (l := l) C.2.2.2.2.2.2.2.2.2.1 hW h_v0 k_v0 er22 H.size) h_v0 k_v0 (by decide) rfl rfl km_X12_sizeOf ki_X12_sizeOf qm_X12_270 ⟨(Nat.le_of_ble_eq_true rfl), (Nat.le_of_ble_eq_true rfl)⟩ rfl hl.1 rfl (Nat.le_of_ble_eq_true rfl) ⟨Nat.zero_le _, Nat.zero_le _⟩ dX12_inverse_121) hS (fun H locs hP hS hW => ?_)
    refine lv_goto (tgt := 129) hx hb dX12_inverse_124 (by decide) ?_
    exact b_X12_inverse_129 C hk39 v0 v1 v2 w0 v5 r22 h_v0 k_v0 S H locs _ hf hP hS hW (lv_sub hl [1, 2, 3, 0, 5] rfl)
set_option maxRecDepth 100000 in
set_option maxHeartbeats 4000000 in
theorem b_X12_inverse_98 {p : Program} {l : Launch} {e : Env} {s : State} {m : MethodId} {args : Array Value} {below : List Frame} {meth : Method} {c : Code} {V : EV} {G : GS} {r : Int32} {S' : HS} {F : Nat} (C : CX p s m args meth c RX12 cX12_inverse 8 (some .int) V G) {k39 : Nat → Int32 → Int32 → Int32 → Int32 → Int32 → HS → Option (Int32 × HS)} (hk39 : ∀ (v0 : Nat) (v1 : Int32) (v2 : Int32) (v3 : Int32) (v4 : Int32) (v5 : Int32) (h_v0 : v0 ∈ G.1) (k_v0 : G.2.1 v0 = 12) (S : HS) (H : Heap) (locs : List Loc) (ls : Array Slot), k39 v0 v1 v2 v3 v4 v5 S = some (r, S') → HP V G S H → va_S (AG G s.heap.size) s.heap H locs → WT G S → lv_has ls 8 [(0, .ref v0), (1, .int v1), (2, .int v2), (3, .int v3), (4, .int v4), (5, .int v5)] → W p l e (RM 21 706) s m args below meth c H locs 0 0 (MQ below (QI V G S' r s.heap.size) args s 0 0 (AG G s.heap.size)) (F0 m 39 ls [])) : ∀ (v0 : Nat) (v1 : Int32) (v2 : Int32) (v3 : Int32) (v4 : Int32) (v5 : Int32) (v6 : Int32) (w0 : Int32) (h_v0 : v0 ∈ G.1) (k_v0 : G.2.1 v0 = 12) (S : HS) (H : Heap) (locs : List Loc) (ls : Array Slot), s_X12_inverse_J98 G.2.2 F k39 v0 v1 v2 v3 v4 v5 v6 w0 S = some (r, S') → HP V G S H → va_S (AG G s.heap.size) s.heap H locs → WT G S → lv_has ls 8 [(0, .ref v0), (1, .int v1), (2, .int v2), (3, .int v3), (4, .int v4), (5, .int v5), (6, .int v6)] → W p l e (RM 21 706) s m args below meth c H locs 0 0 (MQ below (QI V G S' r s.heap.size) args s 0 0 (AG G s.heap.size)) (F0 m 98 ls [.int w0]) := by
  intro v0 v1 v2 v3 v4 v5 v6 w0 h_v0 k_v0 S H locs ls hf hP hS hW hl
  have hx := C.1
  have hb := C.2.1
  unfold s_X12_inverse_J98 at hf
  refine lv_istore (lv' := [(7, .int w0), (0, .ref v0), (1, .int v1), (2, .int v2), (3, .int v3), (4, .int v4), (5, .int v5), (6, .int v6)]) hx hb dX12_inverse_98 hl (by decide) rfl (fun ls hl => ?_)
  refine lv_iload hx hb dX12_inverse_100 (lv_at hl 0 rfl) ?_
  refine lv_if_eq (tgt := 110) hx hb dX12_inverse_102 (by decide) (fun c19 => ?_) (fun c19 => ?_)
  · have hf := if_t c19 hf
    refine lv_iload_n hx hb dX12_inverse_110 rfl (lv_at hl 4 rfl) ?_
    exact b_X12_inverse_111 C hk39 v0 v1 v2 v4 v5 v6 w0 v3 h_v0 k_v0 S H locs _ hf hP hS hW (lv_sub hl [1, 2, 3, 5, 6, 7, 0] rfl)
  · have hf := if_f c19 hf
    refine lv_iload hx hb dX12_inverse_105 (lv_at hl 6 rfl) ?_
    refine lv_goto (tgt := 111) hx hb dX12_inverse_107 (by decide) ?_
    exact b_X12_inverse_111 C hk39 v0 v1 v2 v4 v5 v6 w0 v5 h_v0 k_v0 S H locs _ hf hP hS hW (lv_sub hl [1, 2, 3, 5, 6, 7, 0] rfl)
set_option maxRecDepth 100000 in
set_option maxHeartbeats 4000000 in
theorem b_X12_inverse_39 {p : Program} {l : Launch} {e : Env} {s : State} {m : MethodId} {args : Array Value} {below : List Frame} {meth : Method} {c : Code} {V : EV} {G : GS} {r : Int32} {S' : HS} {F : Nat} (C : CX p s m args meth c RX12 cX12_inverse 8 (some .int) V G) : ∀ n : Nat, ∀ (v0 : Nat) (v1 : Int32) (v2 : Int32) (v3 : Int32) (v4 : Int32) (v5 : Int32) (h_v0 : v0 ∈ G.1) (k_v0 : G.2.1 v0 = 12) (S : HS) (H : Heap) (locs : List Loc) (ls : Array Slot), s_X12_inverse_L39 G.2.2 F n v0 v1 v2 v3 v4 v5 S = some (r, S') → HP V G S H → va_S (AG G s.heap.size) s.heap H locs → WT G S → lv_has ls 8 [(0, .ref v0), (1, .int v1), (2, .int v2), (3, .int v3), (4, .int v4), (5, .int v5)] → W p l e (RM 21 706) s m args below meth c H locs 0 0 (MQ below (QI V G S' r s.heap.size) args s 0 0 (AG G s.heap.size)) (F0 m 39 ls []) := by
  intro n
  induction n with
  | zero =>
    intro v0 v1 v2 v3 v4 v5 h_v0 k_v0 S H locs ls hf
    rw [s_X12_inverse_L39] at hf
    cases hf
  | succ n ih =>
    intro v0 v1 v2 v3 v4 v5 h_v0 k_v0 S H locs ls hf hP hS hW hl
    have hx := C.1
    have hb := C.2.1
    rw [s_X12_inverse_L39] at hf
    refine lv_iload hx hb dX12_inverse_39 (lv_at hl 5 rfl) ?_
    refine lv_aload_n hx hb dX12_inverse_41 rfl (lv_at hl 0 rfl) ?_
    obtain ⟨r10, er10, hf⟩ := bd1_e hf
    refine x_aft_i (x_runV (As := []) (rest := [.int v5]) C hP hS (c_X12_allBits (l := l) C.2.2.2.2.2.2.2.2.2.1 hW h_v0 k_v0 er10 H.size) h_v0 k_v0 (by decide) rfl rfl km_X12_allBits ki_X12_allBits qm_X12_446 ⟨(Nat.le_of_ble_eq_true rfl), (Nat.le_of_ble_eq_true rfl)⟩ rfl hl.1 rfl (Nat.le_of_ble_eq_true rfl) ⟨Nat.zero_le _, Nat.zero_le _⟩ dX12_inverse_42) hS (fun H locs hP hS hW => ?_)
    refine lv_icmp_ge (tgt := 137) hx hb dX12_inverse_45 (by decide) (fun c11 => ?_) (fun c11 => ?_)
    · have hf := if_t c11 hf
      refine lv_iload_n hx hb dX12_inverse_137 rfl (lv_at hl 3 rfl) ?_
      cases hf
      exact x_reti C hP hS hW dX12_inverse_138
    · have hf := if_f c11 hf
      refine lv_aload_n hx hb dX12_inverse_48 rfl (lv_at hl 0 rfl) ?_
      refine lv_iload hx hb dX12_inverse_49 (lv_at hl 5 rfl) ?_
      refine lv_iload_n hx hb dX12_inverse_51 rfl (lv_at hl 1 rfl) ?_
      refine lv_aload_n hx hb dX12_inverse_52 rfl (lv_at hl 0 rfl) ?_
      refine lv_iload_n hx hb dX12_inverse_53 rfl (lv_at hl 2 rfl) ?_
      refine lv_aload_n hx hb dX12_inverse_54 rfl (lv_at hl 0 rfl) ?_
      refine lv_iload_n hx hb dX12_inverse_55 rfl (lv_at hl 2 rfl) ?_
      obtain ⟨r12, er12, hf⟩ := bd1_e hf
      refine x_aft_i (x_runV (As := [.int v2]) (rest := [.int v2, .ref v0, .int v1, .int v5, .ref v0]) C hP hS (c_X12_oneOf (l := l) C.2.2.2.2.2.2.2.2.2.1 hW h_v0 k_v0 er12 H.size) h_v0 k_v0 (by decide) rfl rfl km_X12_oneOf ki_X12_oneOf qm_X12_418 ⟨(Nat.le_of_ble_eq_true rfl), (Nat.le_of_ble_eq_true rfl)⟩ rfl hl.1 rfl (Nat.le_of_ble_eq_true rfl) ⟨Nat.zero_le _, Nat.zero_le _⟩ dX12_inverse_56) hS (fun H locs hP hS hW => ?_)
      obtain ⟨r13, er13, hf⟩ := bd1_e hf
      refine x_aft_i (x_runV (As := [.int v2, .int r12]) (rest := [.int v1, .int v5, .ref v0]) C hP hS (c_X12_negative (l := l) C.2.2.2.2.2.2.2.2.2.1 hW h_v0 k_v0 er13 H.size) h_v0 k_v0 (by decide) rfl rfl km_X12_negative ki_X12_negative qm_X12_412 ⟨(Nat.le_of_ble_eq_true rfl), (Nat.le_of_ble_eq_true rfl)⟩ rfl hl.1 rfl (Nat.le_of_ble_eq_true rfl) ⟨Nat.zero_le _, Nat.zero_le _⟩ dX12_inverse_59) hS (fun H locs hP hS hW => ?_)
      obtain ⟨r14, S15, eS15, hf⟩ := bd2_e hf
      refine x_aft_i (x_runV (As := [.int v5, .int v1, .int r13]) (rest := []) C hP hS (c_X12_sumNow (l := l) C.2.2.2.2.2.2.2.2.2.1 hW h_v0 k_v0 eS15 H.size) h_v0 k_v0 (by decide) rfl rfl km_X12_sumNow ki_X12_sumNow qm_X12_415 ⟨(Nat.le_of_ble_eq_true rfl), (Nat.le_of_ble_eq_true rfl)⟩ rfl hl.1 rfl (Nat.le_of_ble_eq_true rfl) ⟨Nat.zero_le _, Nat.zero_le _⟩ dX12_inverse_62) hS (fun H locs hP hS hW => ?_)
      refine lv_istore (lv' := [(6, .int r14), (0, .ref v0), (1, .int v1), (2, .int v2), (3, .int v3), (4, .int v4), (5, .int v5)]) hx hb dX12_inverse_65 hl (by decide) rfl (fun ls hl => ?_)
      refine lv_aload_n hx hb dX12_inverse_67 rfl (lv_at hl 1 rfl) ?_
      refine lv_iload_n hx hb dX12_inverse_68 rfl (lv_at hl 3 rfl) ?_
      refine lv_iload hx hb dX12_inverse_69 (lv_at hl 0 rfl) ?_
      obtain ⟨r16, er16, hf⟩ := bd1_e hf
      refine x_aft_z (x_runV (As := [.int v2, .int r14]) (rest := []) C hP hS (c_X12_isNan (l := l) C.2.2.2.2.2.2.2.2.2.1 hW h_v0 k_v0 er16 H.size) h_v0 k_v0 (by decide) rfl rfl km_X12_isNan ki_X12_isNan qm_X12_279 ⟨(Nat.le_of_ble_eq_true rfl), (Nat.le_of_ble_eq_true rfl)⟩ rfl hl.1 rfl (Nat.le_of_ble_eq_true rfl) ⟨Nat.zero_le _, Nat.zero_le _⟩ dX12_inverse_71) hS (fun H locs hP hS hW z17 => ?_)
      refine lv_if_ne (tgt := 97) hx hb dX12_inverse_74 (by decide) (fun c18 => ?_) (fun c18 => ?_)
      · have hf := if_f c18 hf
        refine lv_iconst (v := 0) hx hb dX12_inverse_97 rfl ?_
        exact b_X12_inverse_98 C ih v0 v1 v2 v3 v4 v5 r14 0 h_v0 k_v0 S15 H locs _ hf hP hS hW (lv_sub hl [1, 2, 3, 4, 5, 6, 0] rfl)
      · have hf := if_t c18 hf
        refine lv_iload_n hx hb dX12_inverse_77 rfl (lv_at hl 4 rfl) ?_
        refine lv_if_lt (tgt := 93) hx hb dX12_inverse_78 (by decide) (fun c23 => ?_) (fun c23 => ?_)
        · have hf := if_t c23 hf
          refine lv_iconst (v := 1) hx hb dX12_inverse_93 rfl ?_
          refine lv_goto (tgt := 98) hx hb dX12_inverse_94 (by decide) ?_
          exact b_X12_inverse_98 C ih v0 v1 v2 v3 v4 v5 r14 1 h_v0 k_v0 S15 H locs _ hf hP hS hW (lv_sub hl [1, 2, 3, 4, 5, 6, 0] rfl)
        · have hf := if_f c23 hf
          refine lv_aload_n hx hb dX12_inverse_81 rfl (lv_at hl 1 rfl) ?_
          refine lv_iload_n hx hb dX12_inverse_82 rfl (lv_at hl 3 rfl) ?_
          refine lv_iload hx hb dX12_inverse_83 (lv_at hl 0 rfl) ?_
          obtain ⟨r24, er24, hf⟩ := bd1_e hf
          refine x_aft_i (x_runV (As := [.int v2, .int r14]) (rest := []) C hP hS (c_X12_sizeOf (l := l) C.2.2.2.2.2.2.2.2.2.1 hW h_v0 k_v0 er24 H.size) h_v0 k_v0 (by decide) rfl rfl km_X12_sizeOf ki_X12_sizeOf qm_X12_270 ⟨(Nat.le_of_ble_eq_true rfl), (Nat.le_of_ble_eq_true rfl)⟩ rfl hl.1 rfl (Nat.le_of_ble_eq_true rfl) ⟨Nat.zero_le _, Nat.zero_le _⟩ dX12_inverse_85) hS (fun H locs hP hS hW => ?_)
          refine lv_iload hx hb dX12_inverse_88 (lv_at hl 5 rfl) ?_
          refine lv_icmp_ge (tgt := 97) hx hb dX12_inverse_90 (by decide) (fun c25 => ?_) (fun c25 => ?_)
          · have hf := if_t c25 hf
            refine lv_iconst (v := 0) hx hb dX12_inverse_97 rfl ?_
            exact b_X12_inverse_98 C ih v0 v1 v2 v3 v4 v5 r14 0 h_v0 k_v0 S15 H locs _ hf hP hS hW (lv_sub hl [1, 2, 3, 4, 5, 6, 0] rfl)
          · have hf := if_f c25 hf
            refine lv_iconst (v := 1) hx hb dX12_inverse_93 rfl ?_
            refine lv_goto (tgt := 98) hx hb dX12_inverse_94 (by decide) ?_
            exact b_X12_inverse_98 C ih v0 v1 v2 v3 v4 v5 r14 1 h_v0 k_v0 S15 H locs _ hf hP hS hW (lv_sub hl [1, 2, 3, 4, 5, 6, 0] rfl)
set_option maxRecDepth 100000 in
set_option maxHeartbeats 4000000 in
theorem c_X12_inverse {l : Launch} {V : EV} {G : GS} {S : HS} {F : Nat} {a : Nat} {p0 : Int32} {r : Int32} {S' : HS} (hN : G.1.Nodup) (hW : WT G S) (h_a : a ∈ G.1) (k_a : G.2.1 a = 12) (hf : s_X12_inverse G.2.2 F a p0 S = some (r, S')) : MetI l yX12_inverse cX12_inverse 8 .int 21 706 V G S [.ref a, .int p0] r S' := by
  intro sz
  refine x_in RX12 rfl (by decide +kernel) hN (Nat.le_of_ble_eq_true rfl) (fun p e s m args below meth c ls hsz hargs hnm C hP hS hl => ?_)
  subst hsz
  have hx := C.1
  have hb := C.2.1
  have hl : lv_has ls 8 [(0, .ref a), (1, .int p0)] := hl
  unfold s_X12_inverse at hf
  refine lv_aload_n hx hb dX12_inverse_0 rfl (lv_at hl 0 rfl) ?_
  refine lv_iconst (v := 0) hx hb dX12_inverse_1 rfl ?_
  obtain ⟨S1, eS1, hf⟩ := bnd_e hf
  refine pf_X12_1 C hP hS h_a k_a eS1 dX12_inverse_2 (fun H locs hP hS => ?_)
  have hW : WT G S1 := by rw [eS1]; exact hW
  refine lv_aload_n hx hb dX12_inverse_5 rfl (lv_at hl 0 rfl) ?_
  obtain ⟨r2, er2, hf⟩ := bd1_e hf
  refine x_aft_z (x_runV (As := []) (rest := []) C hP hS (c_X12_isSmall (l := l) C.2.2.2.2.2.2.2.2.2.1 hW h_a k_a er2 H.size) h_a k_a (by decide) rfl rfl km_X12_isSmall ki_X12_isSmall qm_X12_443 ⟨(Nat.le_of_ble_eq_true rfl), (Nat.le_of_ble_eq_true rfl)⟩ rfl hl.1 rfl (Nat.le_of_ble_eq_true rfl) ⟨Nat.zero_le _, Nat.zero_le _⟩ dX12_inverse_6) hS (fun H locs hP hS hW z3 => ?_)
  refine lv_if_eq (tgt := 24) hx hb dX12_inverse_9 (by decide) (fun c4 => ?_) (fun c4 => ?_)
  · have hf := if_t c4 hf
    refine lv_iconst (v := (-1)) hx hb dX12_inverse_24 rfl ?_
    cases hf
    exact x_reti C hP hS hW dX12_inverse_25
  · have hf := if_f c4 hf
    refine lv_aload_n hx hb dX12_inverse_12 rfl (lv_at hl 0 rfl) ?_
    refine lv_aload_n hx hb dX12_inverse_13 rfl (lv_at hl 0 rfl) ?_
    obtain ⟨r5, er5, hf⟩ := bd1_e hf
    refine x_aft_i (x_runV (As := []) (rest := [.ref a]) C hP hS (c_X12_used (l := l) C.2.2.2.2.2.2.2.2.2.1 hW h_a k_a er5 H.size) h_a k_a (by decide) rfl rfl km_X12_used ki_X12_used qm_X12_357 ⟨(Nat.le_of_ble_eq_true rfl), (Nat.le_of_ble_eq_true rfl)⟩ rfl hl.1 rfl (Nat.le_of_ble_eq_true rfl) ⟨Nat.zero_le _, Nat.zero_le _⟩ dX12_inverse_14) hS (fun H locs hP hS hW => ?_)
    refine lv_iload_n hx hb dX12_inverse_17 rfl (lv_at hl 1 rfl) ?_
    obtain ⟨r6, er6, hf⟩ := bd1_e hf
    refine x_aft_z (x_runV (As := [.int r5, .int p0]) (rest := []) C hP hS (c_X12_isBits (l := l) C.2.2.2.2.2.2.2.2.2.1 hW h_a k_a er6 H.size) h_a k_a (by decide) rfl rfl km_X12_isBits ki_X12_isBits qm_X12_363 ⟨(Nat.le_of_ble_eq_true rfl), (Nat.le_of_ble_eq_true rfl)⟩ rfl hl.1 rfl (Nat.le_of_ble_eq_true rfl) ⟨Nat.zero_le _, Nat.zero_le _⟩ dX12_inverse_18) hS (fun H locs hP hS hW z7 => ?_)
    refine lv_if_ne (tgt := 26) hx hb dX12_inverse_21 (by decide) (fun c8 => ?_) (fun c8 => ?_)
    · have hf := if_f c8 hf
      refine lv_aload_n hx hb dX12_inverse_26 rfl (lv_at hl 0 rfl) ?_
      obtain ⟨r9, er9, hf⟩ := bd1_e hf
      refine x_aft_i (x_runV (As := []) (rest := []) C hP hS (c_X12_used (l := l) C.2.2.2.2.2.2.2.2.2.1 hW h_a k_a er9 H.size) h_a k_a (by decide) rfl rfl km_X12_used ki_X12_used qm_X12_357 ⟨(Nat.le_of_ble_eq_true rfl), (Nat.le_of_ble_eq_true rfl)⟩ rfl hl.1 rfl (Nat.le_of_ble_eq_true rfl) ⟨Nat.zero_le _, Nat.zero_le _⟩ dX12_inverse_27) hS (fun H locs hP hS hW => ?_)
      refine lv_istore_n (lv' := [(2, .int r9), (0, .ref a), (1, .int p0)]) hx hb dX12_inverse_30 rfl hl (by decide) rfl (fun ls hl => ?_)
      refine lv_iconst (v := (-1)) hx hb dX12_inverse_31 rfl ?_
      refine lv_istore_n (lv' := [(3, .int (-1)), (2, .int r9), (0, .ref a), (1, .int p0)]) hx hb dX12_inverse_32 rfl hl (by decide) rfl (fun ls hl => ?_)
      refine lv_iconst (v := 0) hx hb dX12_inverse_33 rfl ?_
      refine lv_istore (lv' := [(4, .int 0), (3, .int (-1)), (2, .int r9), (0, .ref a), (1, .int p0)]) hx hb dX12_inverse_34 hl (by decide) rfl (fun ls hl => ?_)
      refine lv_iconst (v := 0) hx hb dX12_inverse_36 rfl ?_
      refine lv_istore (lv' := [(5, .int 0), (4, .int 0), (3, .int (-1)), (2, .int r9), (0, .ref a), (1, .int p0)]) hx hb dX12_inverse_37 hl (by decide) rfl (fun ls hl => ?_)
      exact b_X12_inverse_39 C F a p0 r9 (-1) 0 0 h_a k_a S1 H locs _ hf hP hS hW (lv_sub hl [4, 5, 3, 2, 1, 0] rfl)
    · have hf := if_t c8 hf
      refine lv_iconst (v := (-1)) hx hb dX12_inverse_24 rfl ?_
      cases hf
      exact x_reti C hP hS hW dX12_inverse_25
def s_X12_isForetold_J115 (v6 : Int32) (v8 : Int32) (S : HS) : Int32 :=
  if v6 = (0 : Int32) then
  0
  else
  if v8 = (0 : Int32) then
  1
  else
  0
def s_X12_isForetold_J87 (v7 : Int32) (v8 : Int32) (S : HS) : Int32 :=
  if v7 = (0 : Int32) then
  0
  else
  if v8 = (0 : Int32) then
  1
  else
  0
def s_X12_isForetold_J70 (v5 : Int32) (v6 : Int32) (v7 : Int32) (v8 : Int32) (w0 : Int32) (S : HS) : Int32 :=
  if v5 = (0 : Int32) then
  if v7 = (0 : Int32) then
  s_X12_isForetold_J115 v6 v8 S
  else
  if w0 = (0 : Int32) then
  1
  else
  s_X12_isForetold_J115 v6 v8 S
  else
  if v6 = (0 : Int32) then
  s_X12_isForetold_J87 v7 v8 S
  else
  if w0 = (0 : Int32) then
  1
  else
  s_X12_isForetold_J87 v7 v8 S
def s_X12_isForetold_J38 (v0 : Int64) (v2 : Int64) (v4 : Int32) (v5 : Int32) (v6 : Int32) (w0 : Int32) (S : HS) : Int32 :=
  bnd (s_X12_bitOf (v0 &&& v2) (v4 - 1) S : Int32) fun x8 =>
  if (s_X12_bitOf (v0 ||| v2) (v4 - 1) S) = (0 : Int32) then
  s_X12_isForetold_J70 v5 v6 w0 x8 1 S
  else
  s_X12_isForetold_J70 v5 v6 w0 x8 0 S
def s_X12_isForetold (p0 : Int64) (p1 : Int64) (p2 : Int32) (S : HS) : Int32 :=
  bnd (s_X12_bitOf (p0 ^^^ p1) (p2 + 1) S : Int32) fun x2 =>
  bnd (s_X12_bitOf (p0 &&& p1) p2 S : Int32) fun x4 =>
  if (s_X12_bitOf (p0 ||| p1) p2 S) = (0 : Int32) then
  s_X12_isForetold_J38 p0 p1 p2 x2 x4 1 S
  else
  s_X12_isForetold_J38 p0 p1 p2 x2 x4 0 S
set_option maxRecDepth 100000 in
set_option maxHeartbeats 4000000 in
theorem b_X12_isForetold_115 {p : Program} {l : Launch} {e : Env} {s : State} {m : MethodId} {args : Array Value} {below : List Frame} {meth : Method} {c : Code} {V : EV} {G : GS} {r : Int32} (C : CX p s m args meth c RX12 cX12_isForetold 10 (some .boolean) V G) : ∀ (v6 : Int32) (v8 : Int32) (S : HS) (H : Heap) (locs : List Loc) (ls : Array Slot), s_X12_isForetold_J115 v6 v8 S = r → HP V G S H → va_S (AG G s.heap.size) s.heap H locs → WT G S → lv_has ls 10 [(6, .int v6), (8, .int v8)] → W p l e (RM 1 30) s m args below meth c H locs 0 0 (MQ below (QZ V G S r s.heap.size) args s 0 0 (AG G s.heap.size)) (F0 m 115 ls []) := by
  intro v6 v8 S H locs ls hf hP hS hW hl
  have hx := C.1
  have hb := C.2.1
  unfold s_X12_isForetold_J115 at hf
  refine lv_iload hx hb dX12_isForetold_115 (lv_at hl 0 rfl) ?_
  refine lv_if_eq (tgt := 129) hx hb dX12_isForetold_117 (by decide) (fun c13 => ?_) (fun c13 => ?_)
  · have hf := if_t c13 hf
    refine lv_iconst (v := 0) hx hb dX12_isForetold_129 rfl ?_
    cases hf
    exact x_retZ C hP hS hW isZ_0 dX12_isForetold_130
  · have hf := if_f c13 hf
    refine lv_iload hx hb dX12_isForetold_120 (lv_at hl 1 rfl) ?_
    refine lv_if_ne (tgt := 129) hx hb dX12_isForetold_122 (by decide) (fun c14 => ?_) (fun c14 => ?_)
    · have hf := if_f c14 hf
      refine lv_iconst (v := 0) hx hb dX12_isForetold_129 rfl ?_
      cases hf
      exact x_retZ C hP hS hW isZ_0 dX12_isForetold_130
    · have hf := if_t c14 hf
      refine lv_iconst (v := 1) hx hb dX12_isForetold_125 rfl ?_
      refine lv_goto (tgt := 130) hx hb dX12_isForetold_126 (by decide) ?_
      cases hf
      exact x_retZ C hP hS hW isZ_1 dX12_isForetold_130
set_option maxRecDepth 100000 in
set_option maxHeartbeats 4000000 in
theorem b_X12_isForetold_87 {p : Program} {l : Launch} {e : Env} {s : State} {m : MethodId} {args : Array Value} {below : List Frame} {meth : Method} {c : Code} {V : EV} {G : GS} {r : Int32} (C : CX p s m args meth c RX12 cX12_isForetold 10 (some .boolean) V G) : ∀ (v7 : Int32) (v8 : Int32) (S : HS) (H : Heap) (locs : List Loc) (ls : Array Slot), s_X12_isForetold_J87 v7 v8 S = r → HP V G S H → va_S (AG G s.heap.size) s.heap H locs → WT G S → lv_has ls 10 [(7, .int v7), (8, .int v8)] → W p l e (RM 1 30) s m args below meth c H locs 0 0 (MQ below (QZ V G S r s.heap.size) args s 0 0 (AG G s.heap.size)) (F0 m 87 ls []) := by
  intro v7 v8 S H locs ls hf hP hS hW hl
  have hx := C.1
  have hb := C.2.1
  unfold s_X12_isForetold_J87 at hf
  refine lv_iload hx hb dX12_isForetold_87 (lv_at hl 0 rfl) ?_
  refine lv_if_eq (tgt := 101) hx hb dX12_isForetold_89 (by decide) (fun c17 => ?_) (fun c17 => ?_)
  · have hf := if_t c17 hf
    refine lv_iconst (v := 0) hx hb dX12_isForetold_101 rfl ?_
    refine lv_goto (tgt := 130) hx hb dX12_isForetold_102 (by decide) ?_
    cases hf
    exact x_retZ C hP hS hW isZ_0 dX12_isForetold_130
  · have hf := if_f c17 hf
    refine lv_iload hx hb dX12_isForetold_92 (lv_at hl 1 rfl) ?_
    refine lv_if_ne (tgt := 101) hx hb dX12_isForetold_94 (by decide) (fun c18 => ?_) (fun c18 => ?_)
    · have hf := if_f c18 hf
      refine lv_iconst (v := 0) hx hb dX12_isForetold_101 rfl ?_
      refine lv_goto (tgt := 130) hx hb dX12_isForetold_102 (by decide) ?_
      cases hf
      exact x_retZ C hP hS hW isZ_0 dX12_isForetold_130
    · have hf := if_t c18 hf
      refine lv_iconst (v := 1) hx hb dX12_isForetold_97 rfl ?_
      refine lv_goto (tgt := 130) hx hb dX12_isForetold_98 (by decide) ?_
      cases hf
      exact x_retZ C hP hS hW isZ_1 dX12_isForetold_130
set_option maxRecDepth 100000 in
set_option maxHeartbeats 4000000 in
theorem b_X12_isForetold_70 {p : Program} {l : Launch} {e : Env} {s : State} {m : MethodId} {args : Array Value} {below : List Frame} {meth : Method} {c : Code} {V : EV} {G : GS} {r : Int32} (C : CX p s m args meth c RX12 cX12_isForetold 10 (some .boolean) V G) : ∀ (v5 : Int32) (v6 : Int32) (v7 : Int32) (v8 : Int32) (w0 : Int32) (S : HS) (H : Heap) (locs : List Loc) (ls : Array Slot), s_X12_isForetold_J70 v5 v6 v7 v8 w0 S = r → HP V G S H → va_S (AG G s.heap.size) s.heap H locs → WT G S → lv_has ls 10 [(5, .int v5), (6, .int v6), (7, .int v7), (8, .int v8)] → W p l e (RM 1 30) s m args below meth c H locs 0 0 (MQ below (QZ V G S r s.heap.size) args s 0 0 (AG G s.heap.size)) (F0 m 70 ls [.int w0]) := by
  intro v5 v6 v7 v8 w0 S H locs ls hf hP hS hW hl
  have hx := C.1
  have hb := C.2.1
  unfold s_X12_isForetold_J70 at hf
  refine lv_istore (lv' := [(9, .int w0), (5, .int v5), (6, .int v6), (7, .int v7), (8, .int v8)]) hx hb dX12_isForetold_70 hl (by decide) rfl (fun ls hl => ?_)
  refine lv_iload hx hb dX12_isForetold_72 (lv_at hl 1 rfl) ?_
  refine lv_if_eq (tgt := 105) hx hb dX12_isForetold_74 (by decide) (fun c11 => ?_) (fun c11 => ?_)
  · have hf := if_t c11 hf
    refine lv_iload hx hb dX12_isForetold_105 (lv_at hl 3 rfl) ?_
    refine lv_if_eq (tgt := 115) hx hb dX12_isForetold_107 (by decide) (fun c12 => ?_) (fun c12 => ?_)
    · have hf := if_t c12 hf
      exact b_X12_isForetold_115 C v6 v8 S H locs _ hf hP hS hW (lv_sub hl [2, 4] rfl)
    · have hf := if_f c12 hf
      refine lv_iload hx hb dX12_isForetold_110 (lv_at hl 0 rfl) ?_
      refine lv_if_eq (tgt := 125) hx hb dX12_isForetold_112 (by decide) (fun c15 => ?_) (fun c15 => ?_)
      · have hf := if_t c15 hf
        refine lv_iconst (v := 1) hx hb dX12_isForetold_125 rfl ?_
        refine lv_goto (tgt := 130) hx hb dX12_isForetold_126 (by decide) ?_
        cases hf
        exact x_retZ C hP hS hW isZ_1 dX12_isForetold_130
      · have hf := if_f c15 hf
        exact b_X12_isForetold_115 C v6 v8 S H locs _ hf hP hS hW (lv_sub hl [2, 4] rfl)
  · have hf := if_f c11 hf
    refine lv_iload hx hb dX12_isForetold_77 (lv_at hl 2 rfl) ?_
    refine lv_if_eq (tgt := 87) hx hb dX12_isForetold_79 (by decide) (fun c16 => ?_) (fun c16 => ?_)
    · have hf := if_t c16 hf
      exact b_X12_isForetold_87 C v7 v8 S H locs _ hf hP hS hW (lv_sub hl [3, 4] rfl)
    · have hf := if_f c16 hf
      refine lv_iload hx hb dX12_isForetold_82 (lv_at hl 0 rfl) ?_
      refine lv_if_eq (tgt := 97) hx hb dX12_isForetold_84 (by decide) (fun c19 => ?_) (fun c19 => ?_)
      · have hf := if_t c19 hf
        refine lv_iconst (v := 1) hx hb dX12_isForetold_97 rfl ?_
        refine lv_goto (tgt := 130) hx hb dX12_isForetold_98 (by decide) ?_
        cases hf
        exact x_retZ C hP hS hW isZ_1 dX12_isForetold_130
      · have hf := if_f c19 hf
        exact b_X12_isForetold_87 C v7 v8 S H locs _ hf hP hS hW (lv_sub hl [3, 4] rfl)
set_option maxRecDepth 100000 in
set_option maxHeartbeats 4000000 in
theorem b_X12_isForetold_38 {p : Program} {l : Launch} {e : Env} {s : State} {m : MethodId} {args : Array Value} {below : List Frame} {meth : Method} {c : Code} {V : EV} {G : GS} {r : Int32} (C : CX p s m args meth c RX12 cX12_isForetold 10 (some .boolean) V G) : ∀ (v0 : Int64) (v2 : Int64) (v4 : Int32) (v5 : Int32) (v6 : Int32) (w0 : Int32) (S : HS) (H : Heap) (locs : List Loc) (ls : Array Slot), s_X12_isForetold_J38 v0 v2 v4 v5 v6 w0 S = r → HP V G S H → va_S (AG G s.heap.size) s.heap H locs → WT G S → lv_has ls 10 [(0, .long v0), (2, .long v2), (4, .int v4), (5, .int v5), (6, .int v6)] → W p l e (RM 1 30) s m args below meth c H locs 0 0 (MQ below (QZ V G S r s.heap.size) args s 0 0 (AG G s.heap.size)) (F0 m 38 ls [.int w0]) := by
  intro v0 v2 v4 v5 v6 w0 S H locs ls hf hP hS hW hl
  have hx := C.1
  have hb := C.2.1
  unfold s_X12_isForetold_J38 at hf
  refine lv_istore (lv' := [(7, .int w0), (0, .long v0), (2, .long v2), (4, .int v4), (5, .int v5), (6, .int v6)]) hx hb dX12_isForetold_38 hl (by decide) rfl (fun ls hl => ?_)
  refine lv_lload_n hx hb dX12_isForetold_40 rfl (lv_at hl 1 rfl) ?_
  refine lv_lload_n hx hb dX12_isForetold_41 rfl (lv_at hl 2 rfl) ?_
  refine lv_land hx hb dX12_isForetold_42 ?_
  refine lv_iload hx hb dX12_isForetold_43 (lv_at hl 3 rfl) ?_
  refine lv_iconst (v := 1) hx hb dX12_isForetold_45 rfl ?_
  refine lv_isub hx hb dX12_isForetold_46 ?_
  refine x_aft_z (x_runS (As := [.long (v0 &&& v2), .int (v4 - 1)]) (rest := []) C hP hS (c_X12_bitOf (l := l) C.2.2.2.2.2.2.2.2.2.1 hW rfl H.size) km_X12_bitOf ks_X12_bitOf qm_X12_427 ⟨(Nat.le_of_ble_eq_true rfl), (Nat.le_of_ble_eq_true rfl)⟩ rfl hl.1 rfl (Nat.le_of_ble_eq_true rfl) ⟨Nat.zero_le _, Nat.zero_le _⟩ dX12_isForetold_47) hS (fun H locs hP hS hW z7 => ?_)
  obtain ⟨x8, ex8, hf⟩ := bnd_e hf
  refine nm_i ex8 ?_
  have zx8 : isZ x8 = true := by rw [ex8]; exact z7
  refine lv_istore (lv' := [(8, .int x8), (7, .int w0), (0, .long v0), (2, .long v2), (4, .int v4), (5, .int v5), (6, .int v6)]) hx hb dX12_isForetold_50 hl (by decide) rfl (fun ls hl => ?_)
  refine lv_lload_n hx hb dX12_isForetold_52 rfl (lv_at hl 2 rfl) ?_
  refine lv_lload_n hx hb dX12_isForetold_53 rfl (lv_at hl 3 rfl) ?_
  refine lv_lor hx hb dX12_isForetold_54 ?_
  refine lv_iload hx hb dX12_isForetold_55 (lv_at hl 4 rfl) ?_
  refine lv_iconst (v := 1) hx hb dX12_isForetold_57 rfl ?_
  refine lv_isub hx hb dX12_isForetold_58 ?_
  refine x_aft_z (x_runS (As := [.long (v0 ||| v2), .int (v4 - 1)]) (rest := []) C hP hS (c_X12_bitOf (l := l) C.2.2.2.2.2.2.2.2.2.1 hW rfl H.size) km_X12_bitOf ks_X12_bitOf qm_X12_427 ⟨(Nat.le_of_ble_eq_true rfl), (Nat.le_of_ble_eq_true rfl)⟩ rfl hl.1 rfl (Nat.le_of_ble_eq_true rfl) ⟨Nat.zero_le _, Nat.zero_le _⟩ dX12_isForetold_59) hS (fun H locs hP hS hW z9 => ?_)
  refine lv_if_ne (tgt := 69) hx hb dX12_isForetold_62 (by decide) (fun c10 => ?_) (fun c10 => ?_)
  · have hf := if_f c10 hf
    refine lv_iconst (v := 0) hx hb dX12_isForetold_69 rfl ?_
    exact b_X12_isForetold_70 C v5 v6 w0 x8 0 S H locs _ hf hP hS hW (lv_sub hl [5, 6, 1, 0] rfl)
  · have hf := if_t c10 hf
    refine lv_iconst (v := 1) hx hb dX12_isForetold_65 rfl ?_
    refine lv_goto (tgt := 70) hx hb dX12_isForetold_66 (by decide) ?_
    exact b_X12_isForetold_70 C v5 v6 w0 x8 1 S H locs _ hf hP hS hW (lv_sub hl [5, 6, 1, 0] rfl)
set_option maxRecDepth 100000 in
set_option maxHeartbeats 4000000 in
theorem c_X12_isForetold {l : Launch} {V : EV} {G : GS} {S : HS} {p0 : Int64} {p1 : Int64} {p2 : Int32} {r : Int32} (hN : G.1.Nodup) (hW : WT G S) (hf : s_X12_isForetold p0 p1 p2 S = r) : MetZ l yX12_isForetold cX12_isForetold 10 1 30 V G S [.long p0, .long p1, .int p2] r S := by
  intro sz
  refine x_in RX12 rfl (by decide +kernel) hN (Nat.le_of_ble_eq_true rfl) (fun p e s m args below meth c ls hsz hargs hnm C hP hS hl => ?_)
  subst hsz
  have hx := C.1
  have hb := C.2.1
  have hl : lv_has ls 10 [(0, .long p0), (2, .long p1), (4, .int p2)] := hl
  unfold s_X12_isForetold at hf
  refine lv_lload_n hx hb dX12_isForetold_0 rfl (lv_at hl 0 rfl) ?_
  refine lv_lload_n hx hb dX12_isForetold_1 rfl (lv_at hl 1 rfl) ?_
  refine lv_lxor hx hb dX12_isForetold_2 ?_
  refine lv_iload hx hb dX12_isForetold_3 (lv_at hl 2 rfl) ?_
  refine lv_iconst (v := 1) hx hb dX12_isForetold_5 rfl ?_
  refine lv_iadd hx hb dX12_isForetold_6 ?_
  refine x_aft_z (x_runS (As := [.long (p0 ^^^ p1), .int (p2 + 1)]) (rest := []) C hP hS (c_X12_bitOf (l := l) C.2.2.2.2.2.2.2.2.2.1 hW rfl s.heap.size) km_X12_bitOf ks_X12_bitOf qm_X12_427 ⟨(Nat.le_of_ble_eq_true rfl), (Nat.le_of_ble_eq_true rfl)⟩ rfl hl.1 rfl (Nat.le_of_ble_eq_true rfl) ⟨Nat.zero_le _, Nat.zero_le _⟩ dX12_isForetold_7) hS (fun H locs hP hS hW z1 => ?_)
  obtain ⟨x2, ex2, hf⟩ := bnd_e hf
  refine nm_i ex2 ?_
  have zx2 : isZ x2 = true := by rw [ex2]; exact z1
  refine lv_istore (lv' := [(5, .int x2), (0, .long p0), (2, .long p1), (4, .int p2)]) hx hb dX12_isForetold_10 hl (by decide) rfl (fun ls hl => ?_)
  refine lv_lload_n hx hb dX12_isForetold_12 rfl (lv_at hl 1 rfl) ?_
  refine lv_lload_n hx hb dX12_isForetold_13 rfl (lv_at hl 2 rfl) ?_
  refine lv_land hx hb dX12_isForetold_14 ?_
  refine lv_iload hx hb dX12_isForetold_15 (lv_at hl 3 rfl) ?_
  refine x_aft_z (x_runS (As := [.long (p0 &&& p1), .int p2]) (rest := []) C hP hS (c_X12_bitOf (l := l) C.2.2.2.2.2.2.2.2.2.1 hW rfl H.size) km_X12_bitOf ks_X12_bitOf qm_X12_427 ⟨(Nat.le_of_ble_eq_true rfl), (Nat.le_of_ble_eq_true rfl)⟩ rfl hl.1 rfl (Nat.le_of_ble_eq_true rfl) ⟨Nat.zero_le _, Nat.zero_le _⟩ dX12_isForetold_17) hS (fun H locs hP hS hW z3 => ?_)
  obtain ⟨x4, ex4, hf⟩ := bnd_e hf
  refine nm_i ex4 ?_
  have zx4 : isZ x4 = true := by rw [ex4]; exact z3
  refine lv_istore (lv' := [(6, .int x4), (5, .int x2), (0, .long p0), (2, .long p1), (4, .int p2)]) hx hb dX12_isForetold_20 hl (by decide) rfl (fun ls hl => ?_)
  refine lv_lload_n hx hb dX12_isForetold_22 rfl (lv_at hl 2 rfl) ?_
  refine lv_lload_n hx hb dX12_isForetold_23 rfl (lv_at hl 3 rfl) ?_
  refine lv_lor hx hb dX12_isForetold_24 ?_
  refine lv_iload hx hb dX12_isForetold_25 (lv_at hl 4 rfl) ?_
  refine x_aft_z (x_runS (As := [.long (p0 ||| p1), .int p2]) (rest := []) C hP hS (c_X12_bitOf (l := l) C.2.2.2.2.2.2.2.2.2.1 hW rfl H.size) km_X12_bitOf ks_X12_bitOf qm_X12_427 ⟨(Nat.le_of_ble_eq_true rfl), (Nat.le_of_ble_eq_true rfl)⟩ rfl hl.1 rfl (Nat.le_of_ble_eq_true rfl) ⟨Nat.zero_le _, Nat.zero_le _⟩ dX12_isForetold_27) hS (fun H locs hP hS hW z5 => ?_)
  refine lv_if_ne (tgt := 37) hx hb dX12_isForetold_30 (by decide) (fun c6 => ?_) (fun c6 => ?_)
  · have hf := if_f c6 hf
    refine lv_iconst (v := 0) hx hb dX12_isForetold_37 rfl ?_
    exact b_X12_isForetold_38 C p0 p1 p2 x2 x4 0 S H locs _ hf hP hS hW (lv_sub hl [2, 3, 4, 1, 0] rfl)
  · have hf := if_t c6 hf
    refine lv_iconst (v := 1) hx hb dX12_isForetold_33 rfl ?_
    refine lv_goto (tgt := 38) hx hb dX12_isForetold_34 (by decide) ?_
    exact b_X12_isForetold_38 C p0 p1 p2 x2 x4 1 S H locs _ hf hP hS hW (lv_sub hl [2, 3, 4, 1, 0] rfl)
def s_X12_wordHere_J28 (N : Nat → Nat) (F : Nat) (k5 : Nat → Int32 → Int32 → Int32 → Int32 → HS → Option Int32) (v0 : Nat) (v1 : Int32) (v2 : Int32) (v4 : Int32) (w0 : Int32) (S : HS) : Option Int32 :=
  bnd (v4 + Int32.ofInt 1 : Int32) fun x5 =>
  k5 v0 v1 v2 w0 x5 S
def s_X12_wordHere_L5 (N : Nat → Nat) (F : Nat) : Nat → Nat → Int32 → Int32 → Int32 → Int32 → HS → Option Int32
  | 0, _, _, _, _, _, _ => none
  | n + 1, v0, v1, v2, v3, v4, S => if v2 ≤ v4 then
  some v3
  else
  bd1 (s_X12_isWord N v0 (v1 + v4) S) fun r2 =>
  if r2 = (0 : Int32) then
  s_X12_wordHere_J28 N F (s_X12_wordHere_L5 N F n) v0 v1 v2 v4 v3 S
  else
  s_X12_wordHere_J28 N F (s_X12_wordHere_L5 N F n) v0 v1 v2 v4 v4 S
def s_X12_wordHere (N : Nat → Nat) (F : Nat) (a : Nat) (p0 : Int32) (p1 : Int32) (S : HS) : Option Int32 :=
  s_X12_wordHere_L5 N F F a p0 p1 (-1) 0 S
set_option maxRecDepth 100000 in
set_option maxHeartbeats 4000000 in
theorem b_X12_wordHere_28 {p : Program} {l : Launch} {e : Env} {s : State} {m : MethodId} {args : Array Value} {below : List Frame} {meth : Method} {c : Code} {V : EV} {G : GS} {r : Int32} {F : Nat} (C : CX p s m args meth c RX12 cX12_wordHere 5 (some .int) V G) {k5 : Nat → Int32 → Int32 → Int32 → Int32 → HS → Option Int32} (hk5 : ∀ (v0 : Nat) (v1 : Int32) (v2 : Int32) (v3 : Int32) (v4 : Int32) (h_v0 : v0 ∈ G.1) (k_v0 : G.2.1 v0 = 12) (S : HS) (H : Heap) (locs : List Loc) (ls : Array Slot), k5 v0 v1 v2 v3 v4 S = some r → HP V G S H → va_S (AG G s.heap.size) s.heap H locs → WT G S → lv_has ls 5 [(0, .ref v0), (1, .int v1), (2, .int v2), (3, .int v3), (4, .int v4)] → W p l e (RM 1 29) s m args below meth c H locs 0 0 (MQ below (QI V G S r s.heap.size) args s 0 0 (AG G s.heap.size)) (F0 m 5 ls [])) : ∀ (v0 : Nat) (v1 : Int32) (v2 : Int32) (v4 : Int32) (w0 : Int32) (h_v0 : v0 ∈ G.1) (k_v0 : G.2.1 v0 = 12) (S : HS) (H : Heap) (locs : List Loc) (ls : Array Slot), s_X12_wordHere_J28 G.2.2 F k5 v0 v1 v2 v4 w0 S = some r → HP V G S H → va_S (AG G s.heap.size) s.heap H locs → WT G S → lv_has ls 5 [(0, .ref v0), (1, .int v1), (2, .int v2), (4, .int v4)] → W p l e (RM 1 29) s m args below meth c H locs 0 0 (MQ below (QI V G S r s.heap.size) args s 0 0 (AG G s.heap.size)) (F0 m 28 ls [.int w0]) := by
  intro v0 v1 v2 v4 w0 h_v0 k_v0 S H locs ls hf hP hS hW hl
  have hx := C.1
  have hb := C.2.1
  unfold s_X12_wordHere_J28 at hf
  refine lv_istore_n (lv' := [(3, .int w0), (0, .ref v0), (1, .int v1), (2, .int v2), (4, .int v4)]) hx hb dX12_wordHere_28 rfl hl (by decide) rfl (fun ls hl => ?_)
  obtain ⟨x5, ex5, hf⟩ := bnd_e hf
  refine lv_iinc (v := x5) (lv' := [(4, .int x5), (3, .int w0), (0, .ref v0), (1, .int v1), (2, .int v2)]) hx hb dX12_wordHere_29 hl (k := 4) rfl ex5.symm (by decide) rfl (fun ls hl => ?_)
  refine lv_goto (tgt := 5) hx hb dX12_wordHere_32 (by decide) ?_
  exact hk5 v0 v1 v2 w0 x5 h_v0 k_v0 S H locs _ hf hP hS hW (lv_sub hl [2, 3, 4, 1, 0] rfl)
set_option maxRecDepth 100000 in
set_option maxHeartbeats 4000000 in
theorem b_X12_wordHere_5 {p : Program} {l : Launch} {e : Env} {s : State} {m : MethodId} {args : Array Value} {below : List Frame} {meth : Method} {c : Code} {V : EV} {G : GS} {r : Int32} {F : Nat} (C : CX p s m args meth c RX12 cX12_wordHere 5 (some .int) V G) : ∀ n : Nat, ∀ (v0 : Nat) (v1 : Int32) (v2 : Int32) (v3 : Int32) (v4 : Int32) (h_v0 : v0 ∈ G.1) (k_v0 : G.2.1 v0 = 12) (S : HS) (H : Heap) (locs : List Loc) (ls : Array Slot), s_X12_wordHere_L5 G.2.2 F n v0 v1 v2 v3 v4 S = some r → HP V G S H → va_S (AG G s.heap.size) s.heap H locs → WT G S → lv_has ls 5 [(0, .ref v0), (1, .int v1), (2, .int v2), (3, .int v3), (4, .int v4)] → W p l e (RM 1 29) s m args below meth c H locs 0 0 (MQ below (QI V G S r s.heap.size) args s 0 0 (AG G s.heap.size)) (F0 m 5 ls []) := by
  intro n
  induction n with
  | zero =>
    intro v0 v1 v2 v3 v4 h_v0 k_v0 S H locs ls hf
    rw [s_X12_wordHere_L5] at hf
    cases hf
  | succ n ih =>
    intro v0 v1 v2 v3 v4 h_v0 k_v0 S H locs ls hf hP hS hW hl
    have hx := C.1
    have hb := C.2.1
    rw [s_X12_wordHere_L5] at hf
    refine lv_iload hx hb dX12_wordHere_5 (lv_at hl 4 rfl) ?_
    refine lv_iload_n hx hb dX12_wordHere_7 rfl (lv_at hl 2 rfl) ?_
    refine lv_icmp_ge (tgt := 35) hx hb dX12_wordHere_8 (by decide) (fun c1 => ?_) (fun c1 => ?_)
    · have hf := if_t c1 hf
      refine lv_iload_n hx hb dX12_wordHere_35 rfl (lv_at hl 3 rfl) ?_
      cases hf
      exact x_reti C hP hS hW dX12_wordHere_36
    · have hf := if_f c1 hf
      refine lv_aload_n hx hb dX12_wordHere_11 rfl (lv_at hl 0 rfl) ?_
      refine lv_iload_n hx hb dX12_wordHere_12 rfl (lv_at hl 1 rfl) ?_
      refine lv_iload hx hb dX12_wordHere_13 (lv_at hl 4 rfl) ?_
      refine lv_iadd hx hb dX12_wordHere_15 ?_
      obtain ⟨r2, er2, hf⟩ := bd1_e hf
      refine x_aft_z (x_runV (As := [.int (v1 + v4)]) (rest := []) C hP hS (c_X12_isWord (l := l) C.2.2.2.2.2.2.2.2.2.1 hW h_v0 k_v0 er2 H.size) h_v0 k_v0 (by decide) rfl rfl km_X12_isWord ki_X12_isWord qm_X12_153 ⟨(Nat.le_of_ble_eq_true rfl), (Nat.le_of_ble_eq_true rfl)⟩ rfl hl.1 rfl (Nat.le_of_ble_eq_true rfl) ⟨Nat.zero_le _, Nat.zero_le _⟩ dX12_wordHere_16) hS (fun H locs hP hS hW z3 => ?_)
      refine lv_if_eq (tgt := 27) hx hb dX12_wordHere_19 (by decide) (fun c4 => ?_) (fun c4 => ?_)
      · have hf := if_t c4 hf
        refine lv_iload_n hx hb dX12_wordHere_27 rfl (lv_at hl 3 rfl) ?_
        exact b_X12_wordHere_28 C ih v0 v1 v2 v4 v3 h_v0 k_v0 S H locs _ hf hP hS hW (lv_sub hl [0, 1, 2, 4] rfl)
      · have hf := if_f c4 hf
        refine lv_iload hx hb dX12_wordHere_22 (lv_at hl 4 rfl) ?_
        refine lv_goto (tgt := 28) hx hb dX12_wordHere_24 (by decide) ?_
        exact b_X12_wordHere_28 C ih v0 v1 v2 v4 v4 h_v0 k_v0 S H locs _ hf hP hS hW (lv_sub hl [0, 1, 2, 4] rfl)
set_option maxRecDepth 100000 in
set_option maxHeartbeats 4000000 in
theorem c_X12_wordHere {l : Launch} {V : EV} {G : GS} {S : HS} {F : Nat} {a : Nat} {p0 : Int32} {p1 : Int32} {r : Int32} (hN : G.1.Nodup) (hW : WT G S) (h_a : a ∈ G.1) (k_a : G.2.1 a = 12) (hf : s_X12_wordHere G.2.2 F a p0 p1 S = some r) : MetI l yX12_wordHere cX12_wordHere 5 .int 1 29 V G S [.ref a, .int p0, .int p1] r S := by
  intro sz
  refine x_in RX12 rfl (by decide +kernel) hN (Nat.le_of_ble_eq_true rfl) (fun p e s m args below meth c ls hsz hargs hnm C hP hS hl => ?_)
  subst hsz
  have hx := C.1
  have hb := C.2.1
  have hl : lv_has ls 5 [(0, .ref a), (1, .int p0), (2, .int p1)] := hl
  unfold s_X12_wordHere at hf
  refine lv_iconst (v := (-1)) hx hb dX12_wordHere_0 rfl ?_
  refine lv_istore_n (lv' := [(3, .int (-1)), (0, .ref a), (1, .int p0), (2, .int p1)]) hx hb dX12_wordHere_1 rfl hl (by decide) rfl (fun ls hl => ?_)
  refine lv_iconst (v := 0) hx hb dX12_wordHere_2 rfl ?_
  refine lv_istore (lv' := [(4, .int 0), (3, .int (-1)), (0, .ref a), (1, .int p0), (2, .int p1)]) hx hb dX12_wordHere_3 hl (by decide) rfl (fun ls hl => ?_)
  exact b_X12_wordHere_5 C F a p0 p1 (-1) 0 h_a k_a S s.heap [] _ hf hP hS hW (lv_sub hl [2, 3, 4, 1, 0] rfl)
def s_X12_isName (N : Nat → Nat) (F : Nat) (a : Nat) (S : HS) : Option Int32 :=
  if (gI S 1208 a) = (0 : Int32) then
  bd1 (gR S 1204 a) fun t2 =>
  if inB (gI S 1207 a) (N t2) = true then
  if (aI S t2 (gI S 1207 a).toNatClampNeg) = (1 : Int32) then
  bd1 (s_X12_wordHere N F a 0 16 S) fun r5 =>
  if (0 : Int32) ≤ r5 then
  some 0
  else
  some 1
  else
  some 0
  else none
  else
  some 0
set_option maxRecDepth 100000 in
set_option maxHeartbeats 4000000 in
theorem c_X12_isName {l : Launch} {V : EV} {G : GS} {S : HS} {F : Nat} {a : Nat} {r : Int32} (hN : G.1.Nodup) (hW : WT G S) (h_a : a ∈ G.1) (k_a : G.2.1 a = 12) (hf : s_X12_isName G.2.2 F a S = some r) : MetZ l yX12_isName cX12_isName 1 2 61 V G S [.ref a] r S := by
  intro sz
  refine x_in RX12 rfl (by decide +kernel) hN (Nat.le_of_ble_eq_true rfl) (fun p e s m args below meth c ls hsz hargs hnm C hP hS hl => ?_)
  subst hsz
  have hx := C.1
  have hb := C.2.1
  have hl : lv_has ls 1 [(0, .ref a)] := hl
  unfold s_X12_isName at hf
  refine lv_aload_n hx hb dX12_isName_0 rfl (lv_at hl 0 rfl) ?_
  refine gf_X12_144 C hP h_a k_a dX12_isName_1 ?_
  refine lv_if_ne (tgt := 34) hx hb dX12_isName_4 (by decide) (fun c1 => ?_) (fun c1 => ?_)
  · have hf := if_f c1 hf
    refine lv_iconst (v := 0) hx hb dX12_isName_34 rfl ?_
    cases hf
    exact x_retZ C hP hS hW isZ_0 dX12_isName_35
  · have hf := if_t c1 hf
    refine lv_aload_n hx hb dX12_isName_7 rfl (lv_at hl 0 rfl) ?_
    refine gf_X12_24 C hP h_a k_a dX12_isName_8 ?_
    obtain ⟨t2, et2, hf⟩ := bd1_e hf
    obtain ⟨h_t2, k_t2⟩ := wt_r hW h_a k_a (by decide) et2
    have k_t2 : G.2.1 t2 = 14 := k_t2
    rw [et2]
    refine lv_aload_n hx hb dX12_isName_11 rfl (lv_at hl 0 rfl) ?_
    refine gf_X12_141 C hP h_a k_a dX12_isName_12 ?_
    obtain ⟨h3, hf⟩ := if_s hf
    refine x_iald C hP h_t2 k_t2 h3 dX12_isName_15 ?_
    refine lv_iconst (v := 1) hx hb dX12_isName_16 rfl ?_
    refine lv_icmp_ne (tgt := 34) hx hb dX12_isName_17 (by decide) (fun c4 => ?_) (fun c4 => ?_)
    · have hf := if_f c4 hf
      refine lv_iconst (v := 0) hx hb dX12_isName_34 rfl ?_
      cases hf
      exact x_retZ C hP hS hW isZ_0 dX12_isName_35
    · have hf := if_t c4 hf
      refine lv_aload_n hx hb dX12_isName_20 rfl (lv_at hl 0 rfl) ?_
      refine lv_iconst (v := 0) hx hb dX12_isName_21 rfl ?_
      refine lv_bipush (v := 16) hx hb dX12_isName_22 kc_bipush_16 ?_
      obtain ⟨r5, er5, hf⟩ := bd1_e hf
      refine x_aft_i (x_runV (As := [.int 0, .int 16]) (rest := []) C hP hS (c_X12_wordHere (l := l) C.2.2.2.2.2.2.2.2.2.1 hW h_a k_a er5 s.heap.size) h_a k_a (by decide) rfl rfl km_X12_wordHere ki_X12_wordHere qm_X12_166 ⟨(Nat.le_of_ble_eq_true rfl), (Nat.le_of_ble_eq_true rfl)⟩ rfl hl.1 rfl (Nat.le_of_ble_eq_true rfl) ⟨Nat.zero_le _, Nat.zero_le _⟩ dX12_isName_24) hS (fun H locs hP hS hW => ?_)
      refine lv_if_ge (tgt := 34) hx hb dX12_isName_27 (by decide) (fun c6 => ?_) (fun c6 => ?_)
      · have hf := if_t c6 hf
        refine lv_iconst (v := 0) hx hb dX12_isName_34 rfl ?_
        cases hf
        exact x_retZ C hP hS hW isZ_0 dX12_isName_35
      · have hf := if_f c6 hf
        refine lv_iconst (v := 1) hx hb dX12_isName_30 rfl ?_
        refine lv_goto (tgt := 35) hx hb dX12_isName_31 (by decide) ?_
        cases hf
        exact x_retZ C hP hS hW isZ_1 dX12_isName_35
def s_X12_within (p0 : Int32) (p1 : Int32) (p2 : Int32) (S : HS) : Int32 :=
  if p0 < p1 then
  0
  else
  if p2 < p0 then
  0
  else
  1
set_option maxRecDepth 100000 in
set_option maxHeartbeats 4000000 in
theorem c_X12_within {l : Launch} {V : EV} {G : GS} {S : HS} {p0 : Int32} {p1 : Int32} {p2 : Int32} {r : Int32} (hN : G.1.Nodup) (hW : WT G S) (hf : s_X12_within p0 p1 p2 S = r) : MetZ l yX12_within cX12_within 3 0 0 V G S [.int p0, .int p1, .int p2] r S := by
  intro sz
  refine x_in RX12 rfl (by decide +kernel) hN (Nat.le_of_ble_eq_true rfl) (fun p e s m args below meth c ls hsz hargs hnm C hP hS hl => ?_)
  subst hsz
  have hx := C.1
  have hb := C.2.1
  have hl : lv_has ls 3 [(0, .int p0), (1, .int p1), (2, .int p2)] := hl
  unfold s_X12_within at hf
  refine lv_iload_n hx hb dX12_within_0 rfl (lv_at hl 0 rfl) ?_
  refine lv_iload_n hx hb dX12_within_1 rfl (lv_at hl 1 rfl) ?_
  refine lv_icmp_lt (tgt := 14) hx hb dX12_within_2 (by decide) (fun c1 => ?_) (fun c1 => ?_)
  · have hf := if_t c1 hf
    refine lv_iconst (v := 0) hx hb dX12_within_14 rfl ?_
    cases hf
    exact x_retZ C hP hS hW isZ_0 dX12_within_15
  · have hf := if_f c1 hf
    refine lv_iload_n hx hb dX12_within_5 rfl (lv_at hl 0 rfl) ?_
    refine lv_iload_n hx hb dX12_within_6 rfl (lv_at hl 2 rfl) ?_
    refine lv_icmp_gt (tgt := 14) hx hb dX12_within_7 (by decide) (fun c2 => ?_) (fun c2 => ?_)
    · have hf := if_t c2 hf
      refine lv_iconst (v := 0) hx hb dX12_within_14 rfl ?_
      cases hf
      exact x_retZ C hP hS hW isZ_0 dX12_within_15
    · have hf := if_f c2 hf
      refine lv_iconst (v := 1) hx hb dX12_within_10 rfl ?_
      refine lv_goto (tgt := 15) hx hb dX12_within_11 (by decide) ?_
      cases hf
      exact x_retZ C hP hS hW isZ_1 dX12_within_15
def s_X12_join (N : Nat → Nat) (a : Nat) (p0 : Int32) (p1 : Int32) (p2 : Int32) (S : HS) : Option (Int32 × HS) :=
  bnd (uI S 1200 a 0) fun S1 =>
  bd1 (s_X12_used N a S1) fun r2 =>
  if r2 < (0 : Int32) then
  some ((-1), S1)
  else
  if (s_X12_within p0 0 1 S1) = (0 : Int32) then
  some ((-1), S1)
  else
  bd1 (s_X12_topOf N a r2 S1) fun r6 =>
  if (s_X12_within p1 0 r6 S1) = (0 : Int32) then
  some ((-1), S1)
  else
  bd1 (s_X12_fracOf N a r2 S1) fun r9 =>
  if (s_X12_within p2 0 (((1 : Int32) <<< (r9 &&& 31)) - 1) S1) = (0 : Int32) then
  some ((-1), S1)
  else
  bd1 (s_X12_signOf N a r2 S1) fun r12 =>
  bd1 (s_X12_fracOf N a r2 S1) fun r13 =>
  some (((p0 * r12) + (p1 <<< (r13 &&& 31))) + p2, S1)
set_option maxRecDepth 100000 in
set_option maxHeartbeats 4000000 in
theorem c_X12_join {l : Launch} {V : EV} {G : GS} {S : HS} {a : Nat} {p0 : Int32} {p1 : Int32} {p2 : Int32} {r : Int32} {S' : HS} (hN : G.1.Nodup) (hW : WT G S) (h_a : a ∈ G.1) (k_a : G.2.1 a = 12) (hf : s_X12_join G.2.2 a p0 p1 p2 S = some (r, S')) : MetI l yX12_join cX12_join 5 .int 2 58 V G S [.ref a, .int p0, .int p1, .int p2] r S' := by
  intro sz
  refine x_in RX12 rfl (by decide +kernel) hN (Nat.le_of_ble_eq_true rfl) (fun p e s m args below meth c ls hsz hargs hnm C hP hS hl => ?_)
  subst hsz
  have hx := C.1
  have hb := C.2.1
  have hl : lv_has ls 5 [(0, .ref a), (1, .int p0), (2, .int p1), (3, .int p2)] := hl
  unfold s_X12_join at hf
  refine lv_aload_n hx hb dX12_join_0 rfl (lv_at hl 0 rfl) ?_
  refine lv_iconst (v := 0) hx hb dX12_join_1 rfl ?_
  obtain ⟨S1, eS1, hf⟩ := bnd_e hf
  refine pf_X12_1 C hP hS h_a k_a eS1 dX12_join_2 (fun H locs hP hS => ?_)
  have hW : WT G S1 := by rw [eS1]; exact hW
  refine lv_aload_n hx hb dX12_join_5 rfl (lv_at hl 0 rfl) ?_
  obtain ⟨r2, er2, hf⟩ := bd1_e hf
  refine x_aft_i (x_runV (As := []) (rest := []) C hP hS (c_X12_used (l := l) C.2.2.2.2.2.2.2.2.2.1 hW h_a k_a er2 H.size) h_a k_a (by decide) rfl rfl km_X12_used ki_X12_used qm_X12_357 ⟨(Nat.le_of_ble_eq_true rfl), (Nat.le_of_ble_eq_true rfl)⟩ rfl hl.1 rfl (Nat.le_of_ble_eq_true rfl) ⟨Nat.zero_le _, Nat.zero_le _⟩ dX12_join_6) hS (fun H locs hP hS hW => ?_)
  refine lv_istore (lv' := [(4, .int r2), (0, .ref a), (1, .int p0), (2, .int p1), (3, .int p2)]) hx hb dX12_join_9 hl (by decide) rfl (fun ls hl => ?_)
  refine lv_iload hx hb dX12_join_11 (lv_at hl 0 rfl) ?_
  refine lv_if_lt (tgt := 57) hx hb dX12_join_13 (by decide) (fun c3 => ?_) (fun c3 => ?_)
  · have hf := if_t c3 hf
    refine lv_iconst (v := (-1)) hx hb dX12_join_57 rfl ?_
    cases hf
    exact x_reti C hP hS hW dX12_join_58
  · have hf := if_f c3 hf
    refine lv_iload_n hx hb dX12_join_16 rfl (lv_at hl 2 rfl) ?_
    refine lv_iconst (v := 0) hx hb dX12_join_17 rfl ?_
    refine lv_iconst (v := 1) hx hb dX12_join_18 rfl ?_
    refine x_aft_z (x_runS (As := [.int p0, .int 0, .int 1]) (rest := []) C hP hS (c_X12_within (l := l) C.2.2.2.2.2.2.2.2.2.1 hW rfl H.size) km_X12_within ks_X12_within qm_X12_386 ⟨(Nat.le_of_ble_eq_true rfl), (Nat.le_of_ble_eq_true rfl)⟩ rfl hl.1 rfl (Nat.le_of_ble_eq_true rfl) ⟨Nat.zero_le _, Nat.zero_le _⟩ dX12_join_19) hS (fun H locs hP hS hW z4 => ?_)
    refine lv_if_eq (tgt := 57) hx hb dX12_join_22 (by decide) (fun c5 => ?_) (fun c5 => ?_)
    · have hf := if_t c5 hf
      refine lv_iconst (v := (-1)) hx hb dX12_join_57 rfl ?_
      cases hf
      exact x_reti C hP hS hW dX12_join_58
    · have hf := if_f c5 hf
      refine lv_iload_n hx hb dX12_join_25 rfl (lv_at hl 3 rfl) ?_
      refine lv_iconst (v := 0) hx hb dX12_join_26 rfl ?_
      refine lv_aload_n hx hb dX12_join_27 rfl (lv_at hl 1 rfl) ?_
      refine lv_iload hx hb dX12_join_28 (lv_at hl 0 rfl) ?_
      obtain ⟨r6, er6, hf⟩ := bd1_e hf
      refine x_aft_i (x_runV (As := [.int r2]) (rest := [.int 0, .int p1]) C hP hS (c_X12_topOf (l := l) C.2.2.2.2.2.2.2.2.2.1 hW h_a k_a er6 H.size) h_a k_a (by decide) rfl rfl km_X12_topOf ki_X12_topOf qm_X12_252 ⟨(Nat.le_of_ble_eq_true rfl), (Nat.le_of_ble_eq_true rfl)⟩ rfl hl.1 rfl (Nat.le_of_ble_eq_true rfl) ⟨Nat.zero_le _, Nat.zero_le _⟩ dX12_join_30) hS (fun H locs hP hS hW => ?_)
      refine x_aft_z (x_runS (As := [.int p1, .int 0, .int r6]) (rest := []) C hP hS (c_X12_within (l := l) C.2.2.2.2.2.2.2.2.2.1 hW rfl H.size) km_X12_within ks_X12_within qm_X12_386 ⟨(Nat.le_of_ble_eq_true rfl), (Nat.le_of_ble_eq_true rfl)⟩ rfl hl.1 rfl (Nat.le_of_ble_eq_true rfl) ⟨Nat.zero_le _, Nat.zero_le _⟩ dX12_join_33) hS (fun H locs hP hS hW z7 => ?_)
      refine lv_if_eq (tgt := 57) hx hb dX12_join_36 (by decide) (fun c8 => ?_) (fun c8 => ?_)
      · have hf := if_t c8 hf
        refine lv_iconst (v := (-1)) hx hb dX12_join_57 rfl ?_
        cases hf
        exact x_reti C hP hS hW dX12_join_58
      · have hf := if_f c8 hf
        refine lv_iload_n hx hb dX12_join_39 rfl (lv_at hl 4 rfl) ?_
        refine lv_iconst (v := 0) hx hb dX12_join_40 rfl ?_
        refine lv_iconst (v := 1) hx hb dX12_join_41 rfl ?_
        refine lv_aload_n hx hb dX12_join_42 rfl (lv_at hl 1 rfl) ?_
        refine lv_iload hx hb dX12_join_43 (lv_at hl 0 rfl) ?_
        obtain ⟨r9, er9, hf⟩ := bd1_e hf
        refine x_aft_i (x_runV (As := [.int r2]) (rest := [.int 1, .int 0, .int p2]) C hP hS (c_X12_fracOf (l := l) C.2.2.2.2.2.2.2.2.2.1 hW h_a k_a er9 H.size) h_a k_a (by decide) rfl rfl km_X12_fracOf ki_X12_fracOf qm_X12_255 ⟨(Nat.le_of_ble_eq_true rfl), (Nat.le_of_ble_eq_true rfl)⟩ rfl hl.1 rfl (Nat.le_of_ble_eq_true rfl) ⟨Nat.zero_le _, Nat.zero_le _⟩ dX12_join_45) hS (fun H locs hP hS hW => ?_)
        refine lv_ishl hx hb dX12_join_48 ?_
        refine lv_iconst (v := 1) hx hb dX12_join_49 rfl ?_
        refine lv_isub hx hb dX12_join_50 ?_
        refine x_aft_z (x_runS (As := [.int p2, .int 0, .int (((1 : Int32) <<< (r9 &&& 31)) - 1)]) (rest := []) C hP hS (c_X12_within (l := l) C.2.2.2.2.2.2.2.2.2.1 hW rfl H.size) km_X12_within ks_X12_within qm_X12_386 ⟨(Nat.le_of_ble_eq_true rfl), (Nat.le_of_ble_eq_true rfl)⟩ rfl hl.1 rfl (Nat.le_of_ble_eq_true rfl) ⟨Nat.zero_le _, Nat.zero_le _⟩ dX12_join_51) hS (fun H locs hP hS hW z10 => ?_)
        refine lv_if_ne (tgt := 59) hx hb dX12_join_54 (by decide) (fun c11 => ?_) (fun c11 => ?_)
        · have hf := if_f c11 hf
          refine lv_iload_n hx hb dX12_join_59 rfl (lv_at hl 2 rfl) ?_
          refine lv_aload_n hx hb dX12_join_60 rfl (lv_at hl 1 rfl) ?_
          refine lv_iload hx hb dX12_join_61 (lv_at hl 0 rfl) ?_
          obtain ⟨r12, er12, hf⟩ := bd1_e hf
          refine x_aft_i (x_runV (As := [.int r2]) (rest := [.int p0]) C hP hS (c_X12_signOf (l := l) C.2.2.2.2.2.2.2.2.2.1 hW h_a k_a er12 H.size) h_a k_a (by decide) rfl rfl km_X12_signOf ki_X12_signOf qm_X12_267 ⟨(Nat.le_of_ble_eq_true rfl), (Nat.le_of_ble_eq_true rfl)⟩ rfl hl.1 rfl (Nat.le_of_ble_eq_true rfl) ⟨Nat.zero_le _, Nat.zero_le _⟩ dX12_join_63) hS (fun H locs hP hS hW => ?_)
          refine lv_imul hx hb dX12_join_66 ?_
          refine lv_iload_n hx hb dX12_join_67 rfl (lv_at hl 3 rfl) ?_
          refine lv_aload_n hx hb dX12_join_68 rfl (lv_at hl 1 rfl) ?_
          refine lv_iload hx hb dX12_join_69 (lv_at hl 0 rfl) ?_
          obtain ⟨r13, er13, hf⟩ := bd1_e hf
          refine x_aft_i (x_runV (As := [.int r2]) (rest := [.int p1, .int (p0 * r12)]) C hP hS (c_X12_fracOf (l := l) C.2.2.2.2.2.2.2.2.2.1 hW h_a k_a er13 H.size) h_a k_a (by decide) rfl rfl km_X12_fracOf ki_X12_fracOf qm_X12_255 ⟨(Nat.le_of_ble_eq_true rfl), (Nat.le_of_ble_eq_true rfl)⟩ rfl hl.1 rfl (Nat.le_of_ble_eq_true rfl) ⟨Nat.zero_le _, Nat.zero_le _⟩ dX12_join_71) hS (fun H locs hP hS hW => ?_)
          refine lv_ishl hx hb dX12_join_74 ?_
          refine lv_iadd hx hb dX12_join_75 ?_
          refine lv_iload_n hx hb dX12_join_76 rfl (lv_at hl 4 rfl) ?_
          refine lv_iadd hx hb dX12_join_77 ?_
          cases hf
          exact x_reti C hP hS hW dX12_join_78
        · have hf := if_t c11 hf
          refine lv_iconst (v := (-1)) hx hb dX12_join_57 rfl ?_
          cases hf
          exact x_reti C hP hS hW dX12_join_58
def s_X12_triesNow (N : Nat → Nat) (F : Nat) (a : Nat) (S : HS) : Option HS :=
  bd1 (s_X12_moves N F a 0 588 10 S) fun S1 =>
  some S1
set_option maxRecDepth 100000 in
set_option maxHeartbeats 4000000 in
theorem c_X12_triesNow {l : Launch} {V : EV} {G : GS} {S : HS} {F : Nat} {a : Nat} {S' : HS} (hN : G.1.Nodup) (hW : WT G S) (h_a : a ∈ G.1) (k_a : G.2.1 a = 12) (hf : s_X12_triesNow G.2.2 F a S = some S') : MetV l yX12_triesNow cX12_triesNow 1 1 32 V G S [.ref a] S' := by
  intro sz
  refine x_in RX12 rfl (by decide +kernel) hN (Nat.le_of_ble_eq_true rfl) (fun p e s m args below meth c ls hsz hargs hnm C hP hS hl => ?_)
  subst hsz
  have hx := C.1
  have hb := C.2.1
  have hl : lv_has ls 1 [(0, .ref a)] := hl
  unfold s_X12_triesNow at hf
  refine lv_aload_n hx hb dX12_triesNow_0 rfl (lv_at hl 0 rfl) ?_
  refine lv_iconst (v := 0) hx hb dX12_triesNow_1 rfl ?_
  refine lv_sipush (v := 588) hx hb dX12_triesNow_2 kc_sipush_588 ?_
  refine lv_bipush (v := 10) hx hb dX12_triesNow_5 kc_bipush_10 ?_
  obtain ⟨S1, eS1, hf⟩ := bd1_e hf
  refine x_aft_v (x_runV (As := [.int 0, .int 588, .int 10]) (rest := []) C hP hS (c_X12_moves (l := l) C.2.2.2.2.2.2.2.2.2.1 hW h_a k_a eS1 s.heap.size) h_a k_a (by decide) rfl rfl km_X12_moves ki_X12_moves qm_X12_243 ⟨(Nat.le_of_ble_eq_true rfl), (Nat.le_of_ble_eq_true rfl)⟩ rfl hl.1 rfl (Nat.le_of_ble_eq_true rfl) ⟨Nat.zero_le _, Nat.zero_le _⟩ dX12_triesNow_7) hS (fun H locs hP hS hW => ?_)
  cases hf
  exact x_retv C hP hS hW dX12_triesNow_10
def s_X12_judged_J134 (N : Nat → Nat) (F : Nat) (k28 : Nat → Int32 → Int32 → Int32 → Int32 → HS → Option (Int32 × HS)) (v0 : Nat) (v1 : Int32) (v2 : Int32) (v4 : Int32) (w0 : Int32) (w1 : Int32) (S : HS) : Option (Int32 × HS) :=
  bnd (w0 + w1 : Int32) fun x20 =>
  bnd (v4 + Int32.ofInt 1 : Int32) fun x21 =>
  k28 v0 v1 v2 x20 x21 S
def s_X12_judged_J112 (N : Nat → Nat) (F : Nat) (k28 : Nat → Int32 → Int32 → Int32 → Int32 → HS → Option (Int32 × HS)) (v0 : Nat) (v1 : Int32) (v2 : Int32) (v3 : Int32) (v4 : Int32) (v6 : Int32) (S : HS) : Option (Int32 × HS) :=
  bd1 (gR S 1217 v0) fun t17 =>
  if inB (590 : Int32) (N t17) = true then
  if ((aI S t17 (590 : Int32).toNatClampNeg) &&& (v6 ^^^ (-1))) = (0 : Int32) then
  s_X12_judged_J134 N F k28 v0 v1 v2 v4 v3 0 S
  else
  s_X12_judged_J134 N F k28 v0 v1 v2 v4 v3 1 S
  else none
def s_X12_judged_J100 (N : Nat → Nat) (F : Nat) (k28 : Nat → Int32 → Int32 → Int32 → Int32 → HS → Option (Int32 × HS)) (v0 : Nat) (v1 : Int32) (v3 : Int32) (v4 : Int32) (v5 : Int32) (v6 : Int32) (v7 : Int32) (w0 : Int32) (S : HS) : Option (Int32 × HS) :=
  if v7 = (0 : Int32) then
  s_X12_judged_J112 N F k28 v0 v1 w0 v3 v4 v6 S
  else
  bd1 (s_X12_doesLine N F v0 v5 S) fun S22 =>
  s_X12_judged_J112 N F k28 v0 v1 w0 v3 v4 v6 S22
def s_X12_judged_J99 (N : Nat → Nat) (F : Nat) (k28 : Nat → Int32 → Int32 → Int32 → Int32 → HS → Option (Int32 × HS)) (v0 : Nat) (v1 : Int32) (v2 : Int32) (v3 : Int32) (v4 : Int32) (v5 : Int32) (v6 : Int32) (v7 : Int32) (S : HS) : Option (Int32 × HS) :=
  s_X12_judged_J100 N F k28 v0 v1 v3 v4 v5 v6 v7 v2 S
def s_X12_judged_J83 (N : Nat → Nat) (F : Nat) (k28 : Nat → Int32 → Int32 → Int32 → Int32 → HS → Option (Int32 × HS)) (v0 : Nat) (v1 : Int32) (v2 : Int32) (v3 : Int32) (v4 : Int32) (v5 : Int32) (v6 : Int32) (w0 : Int32) (S : HS) : Option (Int32 × HS) :=
  if w0 = (0 : Int32) then
  if (0 : Int32) ≤ v2 then
  s_X12_judged_J99 N F k28 v0 v1 v2 v3 v4 v5 v6 w0 S
  else
  s_X12_judged_J100 N F k28 v0 v1 v3 v4 v5 v6 w0 v4 S
  else
  s_X12_judged_J99 N F k28 v0 v1 v2 v3 v4 v5 v6 w0 S
def s_X12_judged_L28 (N : Nat → Nat) (F : Nat) (k142 : Nat → Int32 → Int32 → Int32 → HS → Option (Int32 × HS)) : Nat → Nat → Int32 → Int32 → Int32 → Int32 → HS → Option (Int32 × HS)
  | 0, _, _, _, _, _, _ => none
  | n + 1, v0, v1, v2, v3, v4, S => bd1 (gR S 1214 v0) fun t5 =>
  if inB (0 : Int32) (N t5) = true then
  if (aI S t5 (0 : Int32).toNatClampNeg) ≤ v4 then
  k142 v0 v1 v2 v3 S
  else
  bnd (1 + (5 * v4) : Int32) fun x8 =>
  bd1 (gR S 1217 v0) fun t9 =>
  if inB (590 : Int32) (N t9) = true then
  bnd (aI S t9 (590 : Int32).toNatClampNeg : Int32) fun x11 =>
  bd1 (gR S 1214 v0) fun t12 =>
  if inB x8 (N t12) = true then
  if (aI S t12 x8.toNatClampNeg) = (0 : Int32) then
  bd1 (gR S 1217 v0) fun t24 =>
  if inB (588 : Int32) (N t24) = true then
  if (aI S t24 (588 : Int32).toNatClampNeg) < (0 : Int32) then
  s_X12_judged_J83 N F (s_X12_judged_L28 N F k142 n) v0 v1 v2 v3 v4 x8 x11 0 S
  else
  s_X12_judged_J83 N F (s_X12_judged_L28 N F k142 n) v0 v1 v2 v3 v4 x8 x11 1 S
  else none
  else
  s_X12_judged_J83 N F (s_X12_judged_L28 N F k142 n) v0 v1 v2 v3 v4 x8 x11 1 S
  else none
  else none
  else none
def s_X12_judged_J142 (N : Nat → Nat) (F : Nat) (v0 : Nat) (v1 : Int32) (v2 : Int32) (v3 : Int32) (S : HS) : Option (Int32 × HS) :=
  if v1 = (0 : Int32) then
  some (v2, S)
  else
  if v1 = (1 : Int32) then
  bd1 (gR S 1217 v0) fun t29 =>
  if inB (590 : Int32) (N t29) = true then
  some (aI S t29 (590 : Int32).toNatClampNeg, S)
  else none
  else
  some (v3, S)
def s_X12_judged (N : Nat → Nat) (F : Nat) (a : Nat) (p0 : Int32) (S : HS) : Option (Int32 × HS) :=
  bnd (uI S 1200 a 0) fun S1 =>
  if (s_X12_within p0 0 2 S1) = (0 : Int32) then
  some ((-2), S1)
  else
  bd1 (s_X12_triesNow N F a S1) fun S4 =>
  s_X12_judged_L28 N F (s_X12_judged_J142 N F) F a p0 (-1) 0 0 S4
set_option maxRecDepth 100000 in
set_option maxHeartbeats 4000000 in
theorem b_X12_judged_134 {p : Program} {l : Launch} {e : Env} {s : State} {m : MethodId} {args : Array Value} {below : List Frame} {meth : Method} {c : Code} {V : EV} {G : GS} {r : Int32} {S' : HS} {F : Nat} (C : CX p s m args meth c RX12 cX12_judged 8 (some .int) V G) {k28 : Nat → Int32 → Int32 → Int32 → Int32 → HS → Option (Int32 × HS)} (hk28 : ∀ (v0 : Nat) (v1 : Int32) (v2 : Int32) (v3 : Int32) (v4 : Int32) (h_v0 : v0 ∈ G.1) (k_v0 : G.2.1 v0 = 12) (S : HS) (H : Heap) (locs : List Loc) (ls : Array Slot), k28 v0 v1 v2 v3 v4 S = some (r, S') → HP V G S H → va_S (AG G s.heap.size) s.heap H locs → WT G S → lv_has ls 8 [(0, .ref v0), (1, .int v1), (2, .int v2), (3, .int v3), (4, .int v4)] → W p l e (RM 22 738) s m args below meth c H locs 0 0 (MQ below (QI V G S' r s.heap.size) args s 0 0 (AG G s.heap.size)) (F0 m 28 ls [])) : ∀ (v0 : Nat) (v1 : Int32) (v2 : Int32) (v4 : Int32) (w0 : Int32) (w1 : Int32) (h_v0 : v0 ∈ G.1) (k_v0 : G.2.1 v0 = 12) (S : HS) (H : Heap) (locs : List Loc) (ls : Array Slot), s_X12_judged_J134 G.2.2 F k28 v0 v1 v2 v4 w0 w1 S = some (r, S') → HP V G S H → va_S (AG G s.heap.size) s.heap H locs → WT G S → lv_has ls 8 [(0, .ref v0), (1, .int v1), (2, .int v2), (4, .int v4)] → W p l e (RM 22 738) s m args below meth c H locs 0 0 (MQ below (QI V G S' r s.heap.size) args s 0 0 (AG G s.heap.size)) (F0 m 134 ls [.int w1, .int w0]) := by
  intro v0 v1 v2 v4 w0 w1 h_v0 k_v0 S H locs ls hf hP hS hW hl
  have hx := C.1
  have hb := C.2.1
  unfold s_X12_judged_J134 at hf
  refine lv_iadd hx hb dX12_judged_134 ?_
  obtain ⟨x20, ex20, hf⟩ := bnd_e hf
  refine nm_i ex20 ?_
  refine lv_istore_n (lv' := [(3, .int x20), (0, .ref v0), (1, .int v1), (2, .int v2), (4, .int v4)]) hx hb dX12_judged_135 rfl hl (by decide) rfl (fun ls hl => ?_)
  obtain ⟨x21, ex21, hf⟩ := bnd_e hf
  refine lv_iinc (v := x21) (lv' := [(4, .int x21), (3, .int x20), (0, .ref v0), (1, .int v1), (2, .int v2)]) hx hb dX12_judged_136 hl (k := 4) rfl ex21.symm (by decide) rfl (fun ls hl => ?_)
  refine lv_goto (tgt := 28) hx hb dX12_judged_139 (by decide) ?_
  exact hk28 v0 v1 v2 x20 x21 h_v0 k_v0 S H locs _ hf hP hS hW (lv_sub hl [2, 3, 4, 1, 0] rfl)
set_option maxRecDepth 100000 in
set_option maxHeartbeats 4000000 in
theorem b_X12_judged_112 {p : Program} {l : Launch} {e : Env} {s : State} {m : MethodId} {args : Array Value} {below : List Frame} {meth : Method} {c : Code} {V : EV} {G : GS} {r : Int32} {S' : HS} {F : Nat} (C : CX p s m args meth c RX12 cX12_judged 8 (some .int) V G) {k28 : Nat → Int32 → Int32 → Int32 → Int32 → HS → Option (Int32 × HS)} (hk28 : ∀ (v0 : Nat) (v1 : Int32) (v2 : Int32) (v3 : Int32) (v4 : Int32) (h_v0 : v0 ∈ G.1) (k_v0 : G.2.1 v0 = 12) (S : HS) (H : Heap) (locs : List Loc) (ls : Array Slot), k28 v0 v1 v2 v3 v4 S = some (r, S') → HP V G S H → va_S (AG G s.heap.size) s.heap H locs → WT G S → lv_has ls 8 [(0, .ref v0), (1, .int v1), (2, .int v2), (3, .int v3), (4, .int v4)] → W p l e (RM 22 738) s m args below meth c H locs 0 0 (MQ below (QI V G S' r s.heap.size) args s 0 0 (AG G s.heap.size)) (F0 m 28 ls [])) : ∀ (v0 : Nat) (v1 : Int32) (v2 : Int32) (v3 : Int32) (v4 : Int32) (v6 : Int32) (h_v0 : v0 ∈ G.1) (k_v0 : G.2.1 v0 = 12) (S : HS) (H : Heap) (locs : List Loc) (ls : Array Slot), s_X12_judged_J112 G.2.2 F k28 v0 v1 v2 v3 v4 v6 S = some (r, S') → HP V G S H → va_S (AG G s.heap.size) s.heap H locs → WT G S → lv_has ls 8 [(0, .ref v0), (1, .int v1), (2, .int v2), (3, .int v3), (4, .int v4), (6, .int v6)] → W p l e (RM 22 738) s m args below meth c H locs 0 0 (MQ below (QI V G S' r s.heap.size) args s 0 0 (AG G s.heap.size)) (F0 m 112 ls []) := by
  intro v0 v1 v2 v3 v4 v6 h_v0 k_v0 S H locs ls hf hP hS hW hl
  have hx := C.1
  have hb := C.2.1
  unfold s_X12_judged_J112 at hf
  refine lv_iload_n hx hb dX12_judged_112 rfl (lv_at hl 3 rfl) ?_
  refine lv_aload_n hx hb dX12_judged_113 rfl (lv_at hl 0 rfl) ?_
  refine gf_X12_95 C hP h_v0 k_v0 dX12_judged_114 ?_
  obtain ⟨t17, et17, hf⟩ := bd1_e hf
  obtain ⟨h_t17, k_t17⟩ := wt_r hW h_v0 k_v0 (by decide) et17
  have k_t17 : G.2.1 t17 = 14 := k_t17
  rw [et17]
  refine lv_sipush (v := 590) hx hb dX12_judged_117 kc_sipush_590 ?_
  obtain ⟨h18, hf⟩ := if_s hf
  refine x_iald C hP h_t17 k_t17 h18 dX12_judged_120 ?_
  refine lv_iload hx hb dX12_judged_121 (lv_at hl 5 rfl) ?_
  refine lv_iconst (v := (-1)) hx hb dX12_judged_123 rfl ?_
  refine lv_ixor hx hb dX12_judged_124 ?_
  refine lv_iand hx hb dX12_judged_125 ?_
  refine lv_if_eq (tgt := 133) hx hb dX12_judged_126 (by decide) (fun c19 => ?_) (fun c19 => ?_)
  · have hf := if_t c19 hf
    refine lv_iconst (v := 0) hx hb dX12_judged_133 rfl ?_
    exact b_X12_judged_134 C hk28 v0 v1 v2 v4 v3 0 h_v0 k_v0 S H locs _ hf hP hS hW (lv_sub hl [0, 1, 2, 4] rfl)
  · have hf := if_f c19 hf
    refine lv_iconst (v := 1) hx hb dX12_judged_129 rfl ?_
    refine lv_goto (tgt := 134) hx hb dX12_judged_130 (by decide) ?_
    exact b_X12_judged_134 C hk28 v0 v1 v2 v4 v3 1 h_v0 k_v0 S H locs _ hf hP hS hW (lv_sub hl [0, 1, 2, 4] rfl)
set_option maxRecDepth 100000 in
set_option maxHeartbeats 4000000 in
theorem b_X12_judged_100 {p : Program} {l : Launch} {e : Env} {s : State} {m : MethodId} {args : Array Value} {below : List Frame} {meth : Method} {c : Code} {V : EV} {G : GS} {r : Int32} {S' : HS} {F : Nat} (C : CX p s m args meth c RX12 cX12_judged 8 (some .int) V G) {k28 : Nat → Int32 → Int32 → Int32 → Int32 → HS → Option (Int32 × HS)} (hk28 : ∀ (v0 : Nat) (v1 : Int32) (v2 : Int32) (v3 : Int32) (v4 : Int32) (h_v0 : v0 ∈ G.1) (k_v0 : G.2.1 v0 = 12) (S : HS) (H : Heap) (locs : List Loc) (ls : Array Slot), k28 v0 v1 v2 v3 v4 S = some (r, S') → HP V G S H → va_S (AG G s.heap.size) s.heap H locs → WT G S → lv_has ls 8 [(0, .ref v0), (1, .int v1), (2, .int v2), (3, .int v3), (4, .int v4)] → W p l e (RM 22 738) s m args below meth c H locs 0 0 (MQ below (QI V G S' r s.heap.size) args s 0 0 (AG G s.heap.size)) (F0 m 28 ls [])) : ∀ (v0 : Nat) (v1 : Int32) (v3 : Int32) (v4 : Int32) (v5 : Int32) (v6 : Int32) (v7 : Int32) (w0 : Int32) (h_v0 : v0 ∈ G.1) (k_v0 : G.2.1 v0 = 12) (S : HS) (H : Heap) (locs : List Loc) (ls : Array Slot), s_X12_judged_J100 G.2.2 F k28 v0 v1 v3 v4 v5 v6 v7 w0 S = some (r, S') → HP V G S H → va_S (AG G s.heap.size) s.heap H locs → WT G S → lv_has ls 8 [(0, .ref v0), (1, .int v1), (3, .int v3), (4, .int v4), (5, .int v5), (6, .int v6), (7, .int v7)] → W p l e (RM 22 738) s m args below meth c H locs 0 0 (MQ below (QI V G S' r s.heap.size) args s 0 0 (AG G s.heap.size)) (F0 m 100 ls [.int w0]) := by
  intro v0 v1 v3 v4 v5 v6 v7 w0 h_v0 k_v0 S H locs ls hf hP hS hW hl
  have hx := C.1
  have hb := C.2.1
  unfold s_X12_judged_J100 at hf
  refine lv_istore_n (lv' := [(2, .int w0), (0, .ref v0), (1, .int v1), (3, .int v3), (4, .int v4), (5, .int v5), (6, .int v6), (7, .int v7)]) hx hb dX12_judged_100 rfl hl (by decide) rfl (fun ls hl => ?_)
  refine lv_iload hx hb dX12_judged_101 (lv_at hl 7 rfl) ?_
  refine lv_if_eq (tgt := 112) hx hb dX12_judged_103 (by decide) (fun c16 => ?_) (fun c16 => ?_)
  · have hf := if_t c16 hf
    exact b_X12_judged_112 C hk28 v0 v1 w0 v3 v4 v6 h_v0 k_v0 S H locs _ hf hP hS hW (lv_sub hl [1, 2, 0, 3, 4, 6] rfl)
  · have hf := if_f c16 hf
    refine lv_aload_n hx hb dX12_judged_106 rfl (lv_at hl 1 rfl) ?_
    refine lv_iload hx hb dX12_judged_107 (lv_at hl 5 rfl) ?_
    obtain ⟨S22, eS22, hf⟩ := bd1_e hf
    refine x_aft_v (x_runV (As := [.int v5]) (rest := []) C hP hS (c_X12_doesLine (l := l) C.2.2.2.2.2.2.2.2.2.1 hW h_v0 k_v0 eS22 H.size) h_v0 k_v0 (by decide) rfl rfl km_X12_doesLine ki_X12_doesLine qm_X12_400 ⟨(Nat.le_of_ble_eq_true rfl), (Nat.le_of_ble_eq_true rfl)⟩ rfl hl.1 rfl (Nat.le_of_ble_eq_true rfl) ⟨Nat.zero_le _, Nat.zero_le _⟩ dX12_judged_109) hS (fun H locs hP hS hW => ?_)
    exact b_X12_judged_112 C hk28 v0 v1 w0 v3 v4 v6 h_v0 k_v0 S22 H locs _ hf hP hS hW (lv_sub hl [1, 2, 0, 3, 4, 6] rfl)
set_option maxRecDepth 100000 in
set_option maxHeartbeats 4000000 in
theorem b_X12_judged_99 {p : Program} {l : Launch} {e : Env} {s : State} {m : MethodId} {args : Array Value} {below : List Frame} {meth : Method} {c : Code} {V : EV} {G : GS} {r : Int32} {S' : HS} {F : Nat} (C : CX p s m args meth c RX12 cX12_judged 8 (some .int) V G) {k28 : Nat → Int32 → Int32 → Int32 → Int32 → HS → Option (Int32 × HS)} (hk28 : ∀ (v0 : Nat) (v1 : Int32) (v2 : Int32) (v3 : Int32) (v4 : Int32) (h_v0 : v0 ∈ G.1) (k_v0 : G.2.1 v0 = 12) (S : HS) (H : Heap) (locs : List Loc) (ls : Array Slot), k28 v0 v1 v2 v3 v4 S = some (r, S') → HP V G S H → va_S (AG G s.heap.size) s.heap H locs → WT G S → lv_has ls 8 [(0, .ref v0), (1, .int v1), (2, .int v2), (3, .int v3), (4, .int v4)] → W p l e (RM 22 738) s m args below meth c H locs 0 0 (MQ below (QI V G S' r s.heap.size) args s 0 0 (AG G s.heap.size)) (F0 m 28 ls [])) : ∀ (v0 : Nat) (v1 : Int32) (v2 : Int32) (v3 : Int32) (v4 : Int32) (v5 : Int32) (v6 : Int32) (v7 : Int32) (h_v0 : v0 ∈ G.1) (k_v0 : G.2.1 v0 = 12) (S : HS) (H : Heap) (locs : List Loc) (ls : Array Slot), s_X12_judged_J99 G.2.2 F k28 v0 v1 v2 v3 v4 v5 v6 v7 S = some (r, S') → HP V G S H → va_S (AG G s.heap.size) s.heap H locs → WT G S → lv_has ls 8 [(0, .ref v0), (1, .int v1), (2, .int v2), (3, .int v3), (4, .int v4), (5, .int v5), (6, .int v6), (7, .int v7)] → W p l e (RM 22 738) s m args below meth c H locs 0 0 (MQ below (QI V G S' r s.heap.size) args s 0 0 (AG G s.heap.size)) (F0 m 99 ls []) := by
  intro v0 v1 v2 v3 v4 v5 v6 v7 h_v0 k_v0 S H locs ls hf hP hS hW hl
  have hx := C.1
  have hb := C.2.1
  unfold s_X12_judged_J99 at hf
  refine lv_iload_n hx hb dX12_judged_99 rfl (lv_at hl 2 rfl) ?_
  exact b_X12_judged_100 C hk28 v0 v1 v3 v4 v5 v6 v7 v2 h_v0 k_v0 S H locs _ hf hP hS hW (lv_sub hl [0, 1, 3, 4, 5, 6, 7] rfl)
set_option maxRecDepth 100000 in
set_option maxHeartbeats 4000000 in
theorem b_X12_judged_83 {p : Program} {l : Launch} {e : Env} {s : State} {m : MethodId} {args : Array Value} {below : List Frame} {meth : Method} {c : Code} {V : EV} {G : GS} {r : Int32} {S' : HS} {F : Nat} (C : CX p s m args meth c RX12 cX12_judged 8 (some .int) V G) {k28 : Nat → Int32 → Int32 → Int32 → Int32 → HS → Option (Int32 × HS)} (hk28 : ∀ (v0 : Nat) (v1 : Int32) (v2 : Int32) (v3 : Int32) (v4 : Int32) (h_v0 : v0 ∈ G.1) (k_v0 : G.2.1 v0 = 12) (S : HS) (H : Heap) (locs : List Loc) (ls : Array Slot), k28 v0 v1 v2 v3 v4 S = some (r, S') → HP V G S H → va_S (AG G s.heap.size) s.heap H locs → WT G S → lv_has ls 8 [(0, .ref v0), (1, .int v1), (2, .int v2), (3, .int v3), (4, .int v4)] → W p l e (RM 22 738) s m args below meth c H locs 0 0 (MQ below (QI V G S' r s.heap.size) args s 0 0 (AG G s.heap.size)) (F0 m 28 ls [])) : ∀ (v0 : Nat) (v1 : Int32) (v2 : Int32) (v3 : Int32) (v4 : Int32) (v5 : Int32) (v6 : Int32) (w0 : Int32) (h_v0 : v0 ∈ G.1) (k_v0 : G.2.1 v0 = 12) (S : HS) (H : Heap) (locs : List Loc) (ls : Array Slot), s_X12_judged_J83 G.2.2 F k28 v0 v1 v2 v3 v4 v5 v6 w0 S = some (r, S') → HP V G S H → va_S (AG G s.heap.size) s.heap H locs → WT G S → lv_has ls 8 [(0, .ref v0), (1, .int v1), (2, .int v2), (3, .int v3), (4, .int v4), (5, .int v5), (6, .int v6)] → W p l e (RM 22 738) s m args below meth c H locs 0 0 (MQ below (QI V G S' r s.heap.size) args s 0 0 (AG G s.heap.size)) (F0 m 83 ls [.int w0]) := by
  intro v0 v1 v2 v3 v4 v5 v6 w0 h_v0 k_v0 S H locs ls hf hP hS hW hl
  have hx := C.1
  have hb := C.2.1
  unfold s_X12_judged_J83 at hf
  refine lv_istore (lv' := [(7, .int w0), (0, .ref v0), (1, .int v1), (2, .int v2), (3, .int v3), (4, .int v4), (5, .int v5), (6, .int v6)]) hx hb dX12_judged_83 hl (by decide) rfl (fun ls hl => ?_)
  refine lv_iload hx hb dX12_judged_85 (lv_at hl 0 rfl) ?_
  refine lv_if_ne (tgt := 99) hx hb dX12_judged_87 (by decide) (fun c15 => ?_) (fun c15 => ?_)
  · have hf := if_f c15 hf
    exact b_X12_judged_99 C hk28 v0 v1 v2 v3 v4 v5 v6 w0 h_v0 k_v0 S H locs _ hf hP hS hW (lv_sub hl [1, 2, 3, 4, 5, 6, 7, 0] rfl)
  · have hf := if_t c15 hf
    refine lv_iload_n hx hb dX12_judged_90 rfl (lv_at hl 3 rfl) ?_
    refine lv_if_ge (tgt := 99) hx hb dX12_judged_91 (by decide) (fun c23 => ?_) (fun c23 => ?_)
    · have hf := if_t c23 hf
      exact b_X12_judged_99 C hk28 v0 v1 v2 v3 v4 v5 v6 w0 h_v0 k_v0 S H locs _ hf hP hS hW (lv_sub hl [1, 2, 3, 4, 5, 6, 7, 0] rfl)
    · have hf := if_f c23 hf
      refine lv_iload hx hb dX12_judged_94 (lv_at hl 5 rfl) ?_
      refine lv_goto (tgt := 100) hx hb dX12_judged_96 (by decide) ?_
      exact b_X12_judged_100 C hk28 v0 v1 v3 v4 v5 v6 w0 v4 h_v0 k_v0 S H locs _ hf hP hS hW (lv_sub hl [1, 2, 4, 5, 6, 7, 0] rfl)
set_option maxRecDepth 100000 in
set_option maxHeartbeats 4000000 in
theorem b_X12_judged_28 {p : Program} {l : Launch} {e : Env} {s : State} {m : MethodId} {args : Array Value} {below : List Frame} {meth : Method} {c : Code} {V : EV} {G : GS} {r : Int32} {S' : HS} {F : Nat} (C : CX p s m args meth c RX12 cX12_judged 8 (some .int) V G) {k142 : Nat → Int32 → Int32 → Int32 → HS → Option (Int32 × HS)} (hk142 : ∀ (v0 : Nat) (v1 : Int32) (v2 : Int32) (v3 : Int32) (h_v0 : v0 ∈ G.1) (k_v0 : G.2.1 v0 = 12) (S : HS) (H : Heap) (locs : List Loc) (ls : Array Slot), k142 v0 v1 v2 v3 S = some (r, S') → HP V G S H → va_S (AG G s.heap.size) s.heap H locs → WT G S → lv_has ls 8 [(0, .ref v0), (1, .int v1), (2, .int v2), (3, .int v3)] → W p l e (RM 22 738) s m args below meth c H locs 0 0 (MQ below (QI V G S' r s.heap.size) args s 0 0 (AG G s.heap.size)) (F0 m 142 ls [])) : ∀ n : Nat, ∀ (v0 : Nat) (v1 : Int32) (v2 : Int32) (v3 : Int32) (v4 : Int32) (h_v0 : v0 ∈ G.1) (k_v0 : G.2.1 v0 = 12) (S : HS) (H : Heap) (locs : List Loc) (ls : Array Slot), s_X12_judged_L28 G.2.2 F k142 n v0 v1 v2 v3 v4 S = some (r, S') → HP V G S H → va_S (AG G s.heap.size) s.heap H locs → WT G S → lv_has ls 8 [(0, .ref v0), (1, .int v1), (2, .int v2), (3, .int v3), (4, .int v4)] → W p l e (RM 22 738) s m args below meth c H locs 0 0 (MQ below (QI V G S' r s.heap.size) args s 0 0 (AG G s.heap.size)) (F0 m 28 ls []) := by
  intro n
  induction n with
  | zero =>
    intro v0 v1 v2 v3 v4 h_v0 k_v0 S H locs ls hf
    rw [s_X12_judged_L28] at hf
    cases hf
  | succ n ih =>
    intro v0 v1 v2 v3 v4 h_v0 k_v0 S H locs ls hf hP hS hW hl
    have hx := C.1
    have hb := C.2.1
    rw [s_X12_judged_L28] at hf
    refine lv_iload hx hb dX12_judged_28 (lv_at hl 4 rfl) ?_
    refine lv_aload_n hx hb dX12_judged_30 rfl (lv_at hl 0 rfl) ?_
    refine gf_X12_86 C hP h_v0 k_v0 dX12_judged_31 ?_
    obtain ⟨t5, et5, hf⟩ := bd1_e hf
    obtain ⟨h_t5, k_t5⟩ := wt_r hW h_v0 k_v0 (by decide) et5
    have k_t5 : G.2.1 t5 = 14 := k_t5
    rw [et5]
    refine lv_iconst (v := 0) hx hb dX12_judged_34 rfl ?_
    obtain ⟨h6, hf⟩ := if_s hf
    refine x_iald C hP h_t5 k_t5 h6 dX12_judged_35 ?_
    refine lv_icmp_ge (tgt := 142) hx hb dX12_judged_36 (by decide) (fun c7 => ?_) (fun c7 => ?_)
    · have hf := if_t c7 hf
      exact hk142 v0 v1 v2 v3 h_v0 k_v0 S H locs _ hf hP hS hW (lv_sub hl [0, 1, 2, 3] rfl)
    · have hf := if_f c7 hf
      refine lv_iconst (v := 1) hx hb dX12_judged_39 rfl ?_
      refine lv_iconst (v := 5) hx hb dX12_judged_40 rfl ?_
      refine lv_iload hx hb dX12_judged_41 (lv_at hl 4 rfl) ?_
      refine lv_imul hx hb dX12_judged_43 ?_
      refine lv_iadd hx hb dX12_judged_44 ?_
      obtain ⟨x8, ex8, hf⟩ := bnd_e hf
      refine nm_i ex8 ?_
      refine lv_istore (lv' := [(5, .int x8), (0, .ref v0), (1, .int v1), (2, .int v2), (3, .int v3), (4, .int v4)]) hx hb dX12_judged_45 hl (by decide) rfl (fun ls hl => ?_)
      refine lv_aload_n hx hb dX12_judged_47 rfl (lv_at hl 1 rfl) ?_
      refine gf_X12_95 C hP h_v0 k_v0 dX12_judged_48 ?_
      obtain ⟨t9, et9, hf⟩ := bd1_e hf
      obtain ⟨h_t9, k_t9⟩ := wt_r hW h_v0 k_v0 (by decide) et9
      have k_t9 : G.2.1 t9 = 14 := k_t9
      rw [et9]
      refine lv_sipush (v := 590) hx hb dX12_judged_51 kc_sipush_590 ?_
      obtain ⟨h10, hf⟩ := if_s hf
      refine x_iald C hP h_t9 k_t9 h10 dX12_judged_54 ?_
      obtain ⟨x11, ex11, hf⟩ := bnd_e hf
      refine nm_i ex11 ?_
      refine lv_istore (lv' := [(6, .int x11), (5, .int x8), (0, .ref v0), (1, .int v1), (2, .int v2), (3, .int v3), (4, .int v4)]) hx hb dX12_judged_55 hl (by decide) rfl (fun ls hl => ?_)
      refine lv_aload_n hx hb dX12_judged_57 rfl (lv_at hl 2 rfl) ?_
      refine gf_X12_86 C hP h_v0 k_v0 dX12_judged_58 ?_
      obtain ⟨t12, et12, hf⟩ := bd1_e hf
      obtain ⟨h_t12, k_t12⟩ := wt_r hW h_v0 k_v0 (by decide) et12
      have k_t12 : G.2.1 t12 = 14 := k_t12
      rw [et12]
      refine lv_iload hx hb dX12_judged_61 (lv_at hl 1 rfl) ?_
      obtain ⟨h13, hf⟩ := if_s hf
      refine x_iald C hP h_t12 k_t12 h13 dX12_judged_63 ?_
      refine lv_if_ne (tgt := 78) hx hb dX12_judged_64 (by decide) (fun c14 => ?_) (fun c14 => ?_)
      · have hf := if_f c14 hf
        refine lv_iconst (v := 1) hx hb dX12_judged_78 rfl ?_
        refine lv_goto (tgt := 83) hx hb dX12_judged_79 (by decide) ?_
        exact b_X12_judged_83 C ih v0 v1 v2 v3 v4 x8 x11 1 h_v0 k_v0 S H locs _ hf hP hS hW (lv_sub hl [2, 3, 4, 5, 6, 1, 0] rfl)
      · have hf := if_t c14 hf
        refine lv_aload_n hx hb dX12_judged_67 rfl (lv_at hl 2 rfl) ?_
        refine gf_X12_95 C hP h_v0 k_v0 dX12_judged_68 ?_
        obtain ⟨t24, et24, hf⟩ := bd1_e hf
        obtain ⟨h_t24, k_t24⟩ := wt_r hW h_v0 k_v0 (by decide) et24
        have k_t24 : G.2.1 t24 = 14 := k_t24
        rw [et24]
        refine lv_sipush (v := 588) hx hb dX12_judged_71 kc_sipush_588 ?_
        obtain ⟨h25, hf⟩ := if_s hf
        refine x_iald C hP h_t24 k_t24 h25 dX12_judged_74 ?_
        refine lv_if_lt (tgt := 82) hx hb dX12_judged_75 (by decide) (fun c26 => ?_) (fun c26 => ?_)
        · have hf := if_t c26 hf
          refine lv_iconst (v := 0) hx hb dX12_judged_82 rfl ?_
          exact b_X12_judged_83 C ih v0 v1 v2 v3 v4 x8 x11 0 h_v0 k_v0 S H locs _ hf hP hS hW (lv_sub hl [2, 3, 4, 5, 6, 1, 0] rfl)
        · have hf := if_f c26 hf
          refine lv_iconst (v := 1) hx hb dX12_judged_78 rfl ?_
          refine lv_goto (tgt := 83) hx hb dX12_judged_79 (by decide) ?_
          exact b_X12_judged_83 C ih v0 v1 v2 v3 v4 x8 x11 1 h_v0 k_v0 S H locs _ hf hP hS hW (lv_sub hl [2, 3, 4, 5, 6, 1, 0] rfl)
set_option maxRecDepth 100000 in
set_option maxHeartbeats 4000000 in
theorem b_X12_judged_142 {p : Program} {l : Launch} {e : Env} {s : State} {m : MethodId} {args : Array Value} {below : List Frame} {meth : Method} {c : Code} {V : EV} {G : GS} {r : Int32} {S' : HS} {F : Nat} (C : CX p s m args meth c RX12 cX12_judged 8 (some .int) V G) : ∀ (v0 : Nat) (v1 : Int32) (v2 : Int32) (v3 : Int32) (h_v0 : v0 ∈ G.1) (k_v0 : G.2.1 v0 = 12) (S : HS) (H : Heap) (locs : List Loc) (ls : Array Slot), s_X12_judged_J142 G.2.2 F v0 v1 v2 v3 S = some (r, S') → HP V G S H → va_S (AG G s.heap.size) s.heap H locs → WT G S → lv_has ls 8 [(0, .ref v0), (1, .int v1), (2, .int v2), (3, .int v3)] → W p l e (RM 22 738) s m args below meth c H locs 0 0 (MQ below (QI V G S' r s.heap.size) args s 0 0 (AG G s.heap.size)) (F0 m 142 ls []) := by
  intro v0 v1 v2 v3 h_v0 k_v0 S H locs ls hf hP hS hW hl
  have hx := C.1
  have hb := C.2.1
  unfold s_X12_judged_J142 at hf
  refine lv_iload_n hx hb dX12_judged_142 rfl (lv_at hl 1 rfl) ?_
  refine lv_if_ne (tgt := 150) hx hb dX12_judged_143 (by decide) (fun c27 => ?_) (fun c27 => ?_)
  · have hf := if_f c27 hf
    refine lv_iload_n hx hb dX12_judged_150 rfl (lv_at hl 1 rfl) ?_
    refine lv_iconst (v := 1) hx hb dX12_judged_151 rfl ?_
    refine lv_icmp_ne (tgt := 166) hx hb dX12_judged_152 (by decide) (fun c28 => ?_) (fun c28 => ?_)
    · have hf := if_f c28 hf
      refine lv_iload_n hx hb dX12_judged_166 rfl (lv_at hl 3 rfl) ?_
      cases hf
      exact x_reti C hP hS hW dX12_judged_167
    · have hf := if_t c28 hf
      refine lv_aload_n hx hb dX12_judged_155 rfl (lv_at hl 0 rfl) ?_
      refine gf_X12_95 C hP h_v0 k_v0 dX12_judged_156 ?_
      obtain ⟨t29, et29, hf⟩ := bd1_e hf
      obtain ⟨h_t29, k_t29⟩ := wt_r hW h_v0 k_v0 (by decide) et29
      have k_t29 : G.2.1 t29 = 14 := k_t29
      rw [et29]
      refine lv_sipush (v := 590) hx hb dX12_judged_159 kc_sipush_590 ?_
      obtain ⟨h30, hf⟩ := if_s hf
      refine x_iald C hP h_t29 k_t29 h30 dX12_judged_162 ?_
      refine lv_goto (tgt := 167) hx hb dX12_judged_163 (by decide) ?_
      cases hf
      exact x_reti C hP hS hW dX12_judged_167
  · have hf := if_t c27 hf
    refine lv_iload_n hx hb dX12_judged_146 rfl (lv_at hl 2 rfl) ?_
    refine lv_goto (tgt := 167) hx hb dX12_judged_147 (by decide) ?_
    cases hf
    exact x_reti C hP hS hW dX12_judged_167
set_option maxRecDepth 100000 in
set_option maxHeartbeats 4000000 in
theorem c_X12_judged {l : Launch} {V : EV} {G : GS} {S : HS} {F : Nat} {a : Nat} {p0 : Int32} {r : Int32} {S' : HS} (hN : G.1.Nodup) (hW : WT G S) (h_a : a ∈ G.1) (k_a : G.2.1 a = 12) (hf : s_X12_judged G.2.2 F a p0 S = some (r, S')) : MetI l yX12_judged cX12_judged 8 .int 22 738 V G S [.ref a, .int p0] r S' := by
  intro sz
  refine x_in RX12 rfl (by decide +kernel) hN (Nat.le_of_ble_eq_true rfl) (fun p e s m args below meth c ls hsz hargs hnm C hP hS hl => ?_)
  subst hsz
  have hx := C.1
  have hb := C.2.1
  have hl : lv_has ls 8 [(0, .ref a), (1, .int p0)] := hl
  unfold s_X12_judged at hf
  refine lv_aload_n hx hb dX12_judged_0 rfl (lv_at hl 0 rfl) ?_
  refine lv_iconst (v := 0) hx hb dX12_judged_1 rfl ?_
  obtain ⟨S1, eS1, hf⟩ := bnd_e hf
  refine pf_X12_1 C hP hS h_a k_a eS1 dX12_judged_2 (fun H locs hP hS => ?_)
  have hW : WT G S1 := by rw [eS1]; exact hW
  refine lv_iload_n hx hb dX12_judged_5 rfl (lv_at hl 1 rfl) ?_
  refine lv_iconst (v := 0) hx hb dX12_judged_6 rfl ?_
  refine lv_iconst (v := 2) hx hb dX12_judged_7 rfl ?_
  refine x_aft_z (x_runS (As := [.int p0, .int 0, .int 2]) (rest := []) C hP hS (c_X12_within (l := l) C.2.2.2.2.2.2.2.2.2.1 hW rfl H.size) km_X12_within ks_X12_within qm_X12_386 ⟨(Nat.le_of_ble_eq_true rfl), (Nat.le_of_ble_eq_true rfl)⟩ rfl hl.1 rfl (Nat.le_of_ble_eq_true rfl) ⟨Nat.zero_le _, Nat.zero_le _⟩ dX12_judged_8) hS (fun H locs hP hS hW z2 => ?_)
  refine lv_if_ne (tgt := 17) hx hb dX12_judged_11 (by decide) (fun c3 => ?_) (fun c3 => ?_)
  · have hf := if_f c3 hf
    refine lv_aload_n hx hb dX12_judged_17 rfl (lv_at hl 0 rfl) ?_
    obtain ⟨S4, eS4, hf⟩ := bd1_e hf
    refine x_aft_v (x_runV (As := []) (rest := []) C hP hS (c_X12_triesNow (l := l) C.2.2.2.2.2.2.2.2.2.1 hW h_a k_a eS4 H.size) h_a k_a (by decide) rfl rfl km_X12_triesNow ki_X12_triesNow qm_X12_397 ⟨(Nat.le_of_ble_eq_true rfl), (Nat.le_of_ble_eq_true rfl)⟩ rfl hl.1 rfl (Nat.le_of_ble_eq_true rfl) ⟨Nat.zero_le _, Nat.zero_le _⟩ dX12_judged_18) hS (fun H locs hP hS hW => ?_)
    refine lv_iconst (v := (-1)) hx hb dX12_judged_21 rfl ?_
    refine lv_istore_n (lv' := [(2, .int (-1)), (0, .ref a), (1, .int p0)]) hx hb dX12_judged_22 rfl hl (by decide) rfl (fun ls hl => ?_)
    refine lv_iconst (v := 0) hx hb dX12_judged_23 rfl ?_
    refine lv_istore_n (lv' := [(3, .int 0), (2, .int (-1)), (0, .ref a), (1, .int p0)]) hx hb dX12_judged_24 rfl hl (by decide) rfl (fun ls hl => ?_)
    refine lv_iconst (v := 0) hx hb dX12_judged_25 rfl ?_
    refine lv_istore (lv' := [(4, .int 0), (3, .int 0), (2, .int (-1)), (0, .ref a), (1, .int p0)]) hx hb dX12_judged_26 hl (by decide) rfl (fun ls hl => ?_)
    exact b_X12_judged_28 C (b_X12_judged_142 C) F a p0 (-1) 0 0 h_a k_a S4 H locs _ hf hP hS hW (lv_sub hl [3, 4, 2, 1, 0] rfl)
  · have hf := if_t c3 hf
    refine lv_bipush (v := (-2)) hx hb dX12_judged_14 kc_bipush_m2 ?_
    cases hf
    exact x_reti C hP hS hW dX12_judged_16
def s_X12_leadsOf_L3 (F : Nat) : Nat → Int64 → Int64 → Int32 → HS → Option Int32
  | 0, _, _, _, _ => none
  | n + 1, v0, v2, v4, S => if (64 : Int32) ≤ v4 then
  some v4
  else
  if (s_X12_isForetold v0 v2 (63 - v4) S) = (0 : Int32) then
  bnd (v4 + Int32.ofInt 1 : Int32) fun x4 =>
  s_X12_leadsOf_L3 F n v0 v2 x4 S
  else
  some v4
def s_X12_leadsOf (F : Nat) (p0 : Int64) (p1 : Int64) (S : HS) : Option Int32 :=
  s_X12_leadsOf_L3 F F p0 p1 0 S
set_option maxRecDepth 100000 in
set_option maxHeartbeats 4000000 in
theorem b_X12_leadsOf_3 {p : Program} {l : Launch} {e : Env} {s : State} {m : MethodId} {args : Array Value} {below : List Frame} {meth : Method} {c : Code} {V : EV} {G : GS} {r : Int32} {F : Nat} (C : CX p s m args meth c RX12 cX12_leadsOf 5 (some .int) V G) : ∀ n : Nat, ∀ (v0 : Int64) (v2 : Int64) (v4 : Int32) (S : HS) (H : Heap) (locs : List Loc) (ls : Array Slot), s_X12_leadsOf_L3 F n v0 v2 v4 S = some r → HP V G S H → va_S (AG G s.heap.size) s.heap H locs → WT G S → lv_has ls 5 [(0, .long v0), (2, .long v2), (4, .int v4)] → W p l e (RM 2 67) s m args below meth c H locs 0 0 (MQ below (QI V G S r s.heap.size) args s 0 0 (AG G s.heap.size)) (F0 m 3 ls []) := by
  intro n
  induction n with
  | zero =>
    intro v0 v2 v4 S H locs ls hf
    rw [s_X12_leadsOf_L3] at hf
    cases hf
  | succ n ih =>
    intro v0 v2 v4 S H locs ls hf hP hS hW hl
    have hx := C.1
    have hb := C.2.1
    rw [s_X12_leadsOf_L3] at hf
    refine lv_iload hx hb dX12_leadsOf_3 (lv_at hl 2 rfl) ?_
    refine lv_bipush (v := 64) hx hb dX12_leadsOf_5 kc_bipush_64 ?_
    refine lv_icmp_ge (tgt := 29) hx hb dX12_leadsOf_7 (by decide) (fun c1 => ?_) (fun c1 => ?_)
    · have hf := if_t c1 hf
      refine lv_iload hx hb dX12_leadsOf_29 (lv_at hl 2 rfl) ?_
      cases hf
      exact x_reti C hP hS hW dX12_leadsOf_31
    · have hf := if_f c1 hf
      refine lv_lload_n hx hb dX12_leadsOf_10 rfl (lv_at hl 0 rfl) ?_
      refine lv_lload_n hx hb dX12_leadsOf_11 rfl (lv_at hl 1 rfl) ?_
      refine lv_bipush (v := 63) hx hb dX12_leadsOf_12 kc_bipush_63 ?_
      refine lv_iload hx hb dX12_leadsOf_14 (lv_at hl 2 rfl) ?_
      refine lv_isub hx hb dX12_leadsOf_16 ?_
      refine x_aft_z (x_runS (As := [.long v0, .long v2, .int (63 - v4)]) (rest := []) C hP hS (c_X12_isForetold (l := l) C.2.2.2.2.2.2.2.2.2.1 hW rfl H.size) km_X12_isForetold ks_X12_isForetold qm_X12_431 ⟨(Nat.le_of_ble_eq_true rfl), (Nat.le_of_ble_eq_true rfl)⟩ rfl hl.1 rfl (Nat.le_of_ble_eq_true rfl) ⟨Nat.zero_le _, Nat.zero_le _⟩ dX12_leadsOf_17) hS (fun H locs hP hS hW z2 => ?_)
      refine lv_if_ne (tgt := 29) hx hb dX12_leadsOf_20 (by decide) (fun c3 => ?_) (fun c3 => ?_)
      · have hf := if_f c3 hf
        refine lv_iload hx hb dX12_leadsOf_29 (lv_at hl 2 rfl) ?_
        cases hf
        exact x_reti C hP hS hW dX12_leadsOf_31
      · have hf := if_t c3 hf
        obtain ⟨x4, ex4, hf⟩ := bnd_e hf
        refine lv_iinc (v := x4) (lv' := [(4, .int x4), (0, .long v0), (2, .long v2)]) hx hb dX12_leadsOf_23 hl (k := 2) rfl ex4.symm (by decide) rfl (fun ls hl => ?_)
        refine lv_goto (tgt := 3) hx hb dX12_leadsOf_26 (by decide) ?_
        exact ih v0 v2 x4 S H locs _ hf hP hS hW (lv_sub hl [1, 2, 0] rfl)
set_option maxRecDepth 100000 in
set_option maxHeartbeats 4000000 in
theorem c_X12_leadsOf {l : Launch} {V : EV} {G : GS} {S : HS} {F : Nat} {p0 : Int64} {p1 : Int64} {r : Int32} (hN : G.1.Nodup) (hW : WT G S) (hf : s_X12_leadsOf F p0 p1 S = some r) : MetI l yX12_leadsOf cX12_leadsOf 5 .int 2 67 V G S [.long p0, .long p1] r S := by
  intro sz
  refine x_in RX12 rfl (by decide +kernel) hN (Nat.le_of_ble_eq_true rfl) (fun p e s m args below meth c ls hsz hargs hnm C hP hS hl => ?_)
  subst hsz
  have hx := C.1
  have hb := C.2.1
  have hl : lv_has ls 5 [(0, .long p0), (2, .long p1)] := hl
  unfold s_X12_leadsOf at hf
  refine lv_iconst (v := 0) hx hb dX12_leadsOf_0 rfl ?_
  refine lv_istore (lv' := [(4, .int 0), (0, .long p0), (2, .long p1)]) hx hb dX12_leadsOf_1 hl (by decide) rfl (fun ls hl => ?_)
  exact b_X12_leadsOf_3 C F p0 p1 0 S s.heap [] _ hf hP hS hW (lv_sub hl [1, 2, 0] rfl)
def s_X12_leads (F : Nat) (a : Nat) (p0 : Int64) (p1 : Int64) (S : HS) : Option (Int32 × HS) :=
  bnd (uI S 1200 a 0) fun S1 =>
  bd1 (s_X12_leadsOf F p0 p1 S1) fun r2 =>
  some (r2, S1)
set_option maxRecDepth 100000 in
set_option maxHeartbeats 4000000 in
theorem c_X12_leads {l : Launch} {V : EV} {G : GS} {S : HS} {F : Nat} {a : Nat} {p0 : Int64} {p1 : Int64} {r : Int32} {S' : HS} (hN : G.1.Nodup) (hW : WT G S) (h_a : a ∈ G.1) (k_a : G.2.1 a = 12) (hf : s_X12_leads F a p0 p1 S = some (r, S')) : MetI l yX12_leads cX12_leads 5 .int 3 99 V G S [.ref a, .long p0, .long p1] r S' := by
  intro sz
  refine x_in RX12 rfl (by decide +kernel) hN (Nat.le_of_ble_eq_true rfl) (fun p e s m args below meth c ls hsz hargs hnm C hP hS hl => ?_)
  subst hsz
  have hx := C.1
  have hb := C.2.1
  have hl : lv_has ls 5 [(0, .ref a), (1, .long p0), (3, .long p1)] := hl
  unfold s_X12_leads at hf
  refine lv_aload_n hx hb dX12_leads_0 rfl (lv_at hl 0 rfl) ?_
  refine lv_iconst (v := 0) hx hb dX12_leads_1 rfl ?_
  obtain ⟨S1, eS1, hf⟩ := bnd_e hf
  refine pf_X12_1 C hP hS h_a k_a eS1 dX12_leads_2 (fun H locs hP hS => ?_)
  have hW : WT G S1 := by rw [eS1]; exact hW
  refine lv_lload_n hx hb dX12_leads_5 rfl (lv_at hl 1 rfl) ?_
  refine lv_lload_n hx hb dX12_leads_6 rfl (lv_at hl 2 rfl) ?_
  obtain ⟨r2, er2, hf⟩ := bd1_e hf
  refine x_aft_i (x_runS (As := [.long p0, .long p1]) (rest := []) C hP hS (c_X12_leadsOf (l := l) C.2.2.2.2.2.2.2.2.2.1 hW er2 H.size) km_X12_leadsOf ks_X12_leadsOf qm_X12_435 ⟨(Nat.le_of_ble_eq_true rfl), (Nat.le_of_ble_eq_true rfl)⟩ rfl hl.1 rfl (Nat.le_of_ble_eq_true rfl) ⟨Nat.zero_le _, Nat.zero_le _⟩ dX12_leads_7) hS (fun H locs hP hS hW => ?_)
  cases hf
  exact x_reti C hP hS hW dX12_leads_10
def s_X12_least_L7 (N : Nat → Nat) (F : Nat) : Nat → Nat → Int32 → HS → Option (Int32 × HS)
  | 0, _, _, _ => none
  | n + 1, v0, v1, S => bd1 (s_X12_isSmall N v0 S) fun r2 =>
  if r2 = (0 : Int32) then
  some ((-1), S)
  else
  bd1 (s_X12_allBits N v0 S) fun r5 =>
  if r5 ≤ v1 then
  some ((-1), S)
  else
  bd2 (s_X12_isAsSeen N F v0 v1 S) fun r7 S8 =>
  if r7 = (0 : Int32) then
  bnd (v1 + Int32.ofInt 1 : Int32) fun x11 =>
  s_X12_least_L7 N F n v0 x11 S8
  else
  some (v1, S8)
def s_X12_least (N : Nat → Nat) (F : Nat) (a : Nat) (S : HS) : Option (Int32 × HS) :=
  bnd (uI S 1200 a 0) fun S1 =>
  s_X12_least_L7 N F F a 0 S1
set_option maxRecDepth 100000 in
set_option maxHeartbeats 4000000 in
theorem b_X12_least_7 {p : Program} {l : Launch} {e : Env} {s : State} {m : MethodId} {args : Array Value} {below : List Frame} {meth : Method} {c : Code} {V : EV} {G : GS} {r : Int32} {S' : HS} {F : Nat} (C : CX p s m args meth c RX12 cX12_least 2 (some .int) V G) : ∀ n : Nat, ∀ (v0 : Nat) (v1 : Int32) (h_v0 : v0 ∈ G.1) (k_v0 : G.2.1 v0 = 12) (S : HS) (H : Heap) (locs : List Loc) (ls : Array Slot), s_X12_least_L7 G.2.2 F n v0 v1 S = some (r, S') → HP V G S H → va_S (AG G s.heap.size) s.heap H locs → WT G S → lv_has ls 2 [(0, .ref v0), (1, .int v1)] → W p l e (RM 22 739) s m args below meth c H locs 0 0 (MQ below (QI V G S' r s.heap.size) args s 0 0 (AG G s.heap.size)) (F0 m 7 ls []) := by
  intro n
  induction n with
  | zero =>
    intro v0 v1 h_v0 k_v0 S H locs ls hf
    rw [s_X12_least_L7] at hf
    cases hf
  | succ n ih =>
    intro v0 v1 h_v0 k_v0 S H locs ls hf hP hS hW hl
    have hx := C.1
    have hb := C.2.1
    rw [s_X12_least_L7] at hf
    refine lv_aload_n hx hb dX12_least_7 rfl (lv_at hl 0 rfl) ?_
    obtain ⟨r2, er2, hf⟩ := bd1_e hf
    refine x_aft_z (x_runV (As := []) (rest := []) C hP hS (c_X12_isSmall (l := l) C.2.2.2.2.2.2.2.2.2.1 hW h_v0 k_v0 er2 H.size) h_v0 k_v0 (by decide) rfl rfl km_X12_isSmall ki_X12_isSmall qm_X12_443 ⟨(Nat.le_of_ble_eq_true rfl), (Nat.le_of_ble_eq_true rfl)⟩ rfl hl.1 rfl (Nat.le_of_ble_eq_true rfl) ⟨Nat.zero_le _, Nat.zero_le _⟩ dX12_least_8) hS (fun H locs hP hS hW z3 => ?_)
    refine lv_if_eq (tgt := 38) hx hb dX12_least_11 (by decide) (fun c4 => ?_) (fun c4 => ?_)
    · have hf := if_t c4 hf
      refine lv_iconst (v := (-1)) hx hb dX12_least_38 rfl ?_
      cases hf
      exact x_reti C hP hS hW dX12_least_39
    · have hf := if_f c4 hf
      refine lv_iload_n hx hb dX12_least_14 rfl (lv_at hl 1 rfl) ?_
      refine lv_aload_n hx hb dX12_least_15 rfl (lv_at hl 0 rfl) ?_
      obtain ⟨r5, er5, hf⟩ := bd1_e hf
      refine x_aft_i (x_runV (As := []) (rest := [.int v1]) C hP hS (c_X12_allBits (l := l) C.2.2.2.2.2.2.2.2.2.1 hW h_v0 k_v0 er5 H.size) h_v0 k_v0 (by decide) rfl rfl km_X12_allBits ki_X12_allBits qm_X12_446 ⟨(Nat.le_of_ble_eq_true rfl), (Nat.le_of_ble_eq_true rfl)⟩ rfl hl.1 rfl (Nat.le_of_ble_eq_true rfl) ⟨Nat.zero_le _, Nat.zero_le _⟩ dX12_least_16) hS (fun H locs hP hS hW => ?_)
      refine lv_icmp_ge (tgt := 38) hx hb dX12_least_19 (by decide) (fun c6 => ?_) (fun c6 => ?_)
      · have hf := if_t c6 hf
        refine lv_iconst (v := (-1)) hx hb dX12_least_38 rfl ?_
        cases hf
        exact x_reti C hP hS hW dX12_least_39
      · have hf := if_f c6 hf
        refine lv_aload_n hx hb dX12_least_22 rfl (lv_at hl 0 rfl) ?_
        refine lv_iload_n hx hb dX12_least_23 rfl (lv_at hl 1 rfl) ?_
        obtain ⟨r7, S8, eS8, hf⟩ := bd2_e hf
        refine x_aft_z (x_runV (As := [.int v1]) (rest := []) C hP hS (c_X12_isAsSeen (l := l) C.2.2.2.2.2.2.2.2.2.1 hW h_v0 k_v0 eS8 H.size) h_v0 k_v0 (by decide) rfl rfl km_X12_isAsSeen ki_X12_isAsSeen qm_X12_463 ⟨(Nat.le_of_ble_eq_true rfl), (Nat.le_of_ble_eq_true rfl)⟩ rfl hl.1 rfl (Nat.le_of_ble_eq_true rfl) ⟨Nat.zero_le _, Nat.zero_le _⟩ dX12_least_24) hS (fun H locs hP hS hW z9 => ?_)
        refine lv_if_eq (tgt := 32) hx hb dX12_least_27 (by decide) (fun c10 => ?_) (fun c10 => ?_)
        · have hf := if_t c10 hf
          obtain ⟨x11, ex11, hf⟩ := bnd_e hf
          refine lv_iinc (v := x11) (lv' := [(1, .int x11), (0, .ref v0)]) hx hb dX12_least_32 hl (k := 1) rfl ex11.symm (by decide) rfl (fun ls hl => ?_)
          refine lv_goto (tgt := 7) hx hb dX12_least_35 (by decide) ?_
          exact ih v0 x11 h_v0 k_v0 S8 H locs _ hf hP hS hW (lv_sub hl [1, 0] rfl)
        · have hf := if_f c10 hf
          refine lv_iload_n hx hb dX12_least_30 rfl (lv_at hl 1 rfl) ?_
          cases hf
          exact x_reti C hP hS hW dX12_least_31
set_option maxRecDepth 100000 in
set_option maxHeartbeats 4000000 in
theorem c_X12_least {l : Launch} {V : EV} {G : GS} {S : HS} {F : Nat} {a : Nat} {r : Int32} {S' : HS} (hN : G.1.Nodup) (hW : WT G S) (h_a : a ∈ G.1) (k_a : G.2.1 a = 12) (hf : s_X12_least G.2.2 F a S = some (r, S')) : MetI l yX12_least cX12_least 2 .int 22 739 V G S [.ref a] r S' := by
  intro sz
  refine x_in RX12 rfl (by decide +kernel) hN (Nat.le_of_ble_eq_true rfl) (fun p e s m args below meth c ls hsz hargs hnm C hP hS hl => ?_)
  subst hsz
  have hx := C.1
  have hb := C.2.1
  have hl : lv_has ls 2 [(0, .ref a)] := hl
  unfold s_X12_least at hf
  refine lv_aload_n hx hb dX12_least_0 rfl (lv_at hl 0 rfl) ?_
  refine lv_iconst (v := 0) hx hb dX12_least_1 rfl ?_
  obtain ⟨S1, eS1, hf⟩ := bnd_e hf
  refine pf_X12_1 C hP hS h_a k_a eS1 dX12_least_2 (fun H locs hP hS => ?_)
  have hW : WT G S1 := by rw [eS1]; exact hW
  refine lv_iconst (v := 0) hx hb dX12_least_5 rfl ?_
  refine lv_istore_n (lv' := [(1, .int 0), (0, .ref a)]) hx hb dX12_least_6 rfl hl (by decide) rfl (fun ls hl => ?_)
  exact b_X12_least_7 C F a 0 h_a k_a S1 H locs _ hf hP hS hW (lv_sub hl [1, 0] rfl)
def s_X12_mark_J119 (N : Nat → Nat) (F : Nat) (w0 : Nat) (w1 : Int32) (S : HS) : Option (Int32 × HS) :=
  bnd (uI S 1218 w0 w1) fun S24 =>
  some (1, S24)
def s_X12_mark_J105 (N : Nat → Nat) (F : Nat) (v0 : Nat) (v2 : Int32) (w0 : Nat) (w1 : Int32) (w2 : Int32) (S : HS) : Option (Int32 × HS) :=
  if inB w1 (N w0) = true then
  bnd (wI S w0 (w1.toNatClampNeg) w2) fun S22 =>
  if v2 = (0 : Int32) then
  s_X12_mark_J119 N F v0 (gI S22 1218 v0) S22
  else
  s_X12_mark_J119 N F v0 0 S22
  else none
def s_X12_mark_J72 (N : Nat → Nat) (F : Nat) (v0 : Nat) (v2 : Int32) (v3 : Int32) (w0 : Nat) (w1 : Int32) (w2 : Int32) (S : HS) : Option (Int32 × HS) :=
  bd1 (s_X12_moves N F w0 w1 w2 10 S) fun S13 =>
  bd1 (gR S13 1217 v0) fun t14 =>
  if inB (3 : Int32) (N t14) = true then
  bnd (wI S13 t14 ((3 : Int32).toNatClampNeg) v3) fun S16 =>
  bd1 (gR S16 1217 v0) fun t17 =>
  if v2 = (0 : Int32) then
  bd1 (gR S16 1217 v0) fun t19 =>
  if inB (10 : Int32) (N t19) = true then
  s_X12_mark_J105 N F v0 v2 t17 10 (aI S16 t19 (10 : Int32).toNatClampNeg) S16
  else none
  else
  s_X12_mark_J105 N F v0 v2 t17 10 0 S16
  else none
def s_X12_mark_J58 (N : Nat → Nat) (F : Nat) (v0 : Nat) (v1 : Int32) (v2 : Int32) (v3 : Int32) (w0 : Nat) (w1 : Int32) (S : HS) : Option (Int32 × HS) :=
  if v2 = (0 : Int32) then
  s_X12_mark_J72 N F v0 v2 v3 w0 w1 (28 * (1 + v1)) S
  else
  s_X12_mark_J72 N F v0 v2 v3 w0 w1 0 S
def s_X12_mark_J29 (N : Nat → Nat) (F : Nat) (v0 : Nat) (v1 : Int32) (v2 : Int32) (S : HS) : Option (Int32 × HS) :=
  bd1 (gR S 1219 v0) fun t5 =>
  if inB v1 (N t5) = true then
  bnd (wI S t5 (v1.toNatClampNeg) (vp_nar .boolean 1)) fun S7 =>
  bd1 (gR S7 1217 v0) fun t8 =>
  if inB (3 : Int32) (N t8) = true then
  bnd (aI S7 t8 (3 : Int32).toNatClampNeg : Int32) fun x10 =>
  if v2 = (0 : Int32) then
  s_X12_mark_J58 N F v0 v1 v2 x10 v0 0 S7
  else
  s_X12_mark_J58 N F v0 v1 v2 x10 v0 (28 * (1 + v1)) S7
  else none
  else none
def s_X12_mark (N : Nat → Nat) (F : Nat) (a : Nat) (p0 : Int32) (p1 : Int32) (S : HS) : Option (Int32 × HS) :=
  bnd (uI S 1200 a 0) fun S1 =>
  if (s_X12_within p0 0 3 S1) = (0 : Int32) then
  some (0, S1)
  else
  if p1 = (0 : Int32) then
  s_X12_mark_J29 N F a p0 p1 S1
  else
  bd1 (gR S1 1219 a) fun t25 =>
  if inB p0 (N t25) = true then
  if (aI S1 t25 p0.toNatClampNeg) = (0 : Int32) then
  some (0, S1)
  else
  s_X12_mark_J29 N F a p0 p1 S1
  else none
set_option maxRecDepth 100000 in
set_option maxHeartbeats 4000000 in
theorem b_X12_mark_119 {p : Program} {l : Launch} {e : Env} {s : State} {m : MethodId} {args : Array Value} {below : List Frame} {meth : Method} {c : Code} {V : EV} {G : GS} {r : Int32} {S' : HS} {F : Nat} (C : CX p s m args meth c RX12 cX12_mark 4 (some .boolean) V G) : ∀ (w0 : Nat) (w1 : Int32) (h_w0 : w0 ∈ G.1) (k_w0 : G.2.1 w0 = 12) (S : HS) (H : Heap) (locs : List Loc) (ls : Array Slot), s_X12_mark_J119 G.2.2 F w0 w1 S = some (r, S') → HP V G S H → va_S (AG G s.heap.size) s.heap H locs → WT G S → lv_has ls 4 [] → W p l e (RM 1 32) s m args below meth c H locs 0 0 (MQ below (QZ V G S' r s.heap.size) args s 0 0 (AG G s.heap.size)) (F0 m 119 ls [.int w1, .ref w0]) := by
  intro w0 w1 h_w0 k_w0 S H locs ls hf hP hS hW hl
  have hx := C.1
  have hb := C.2.1
  unfold s_X12_mark_J119 at hf
  obtain ⟨S24, eS24, hf⟩ := bnd_e hf
  refine pf_X12_240 C hP hS h_w0 k_w0 eS24 dX12_mark_119 (fun H locs hP hS => ?_)
  have hW : WT G S24 := by rw [eS24]; exact hW
  refine lv_iconst (v := 1) hx hb dX12_mark_122 rfl ?_
  cases hf
  exact x_retZ C hP hS hW isZ_1 dX12_mark_123
set_option maxRecDepth 100000 in
set_option maxHeartbeats 4000000 in
theorem b_X12_mark_105 {p : Program} {l : Launch} {e : Env} {s : State} {m : MethodId} {args : Array Value} {below : List Frame} {meth : Method} {c : Code} {V : EV} {G : GS} {r : Int32} {S' : HS} {F : Nat} (C : CX p s m args meth c RX12 cX12_mark 4 (some .boolean) V G) : ∀ (v0 : Nat) (v2 : Int32) (w0 : Nat) (w1 : Int32) (w2 : Int32) (h_v0 : v0 ∈ G.1) (k_v0 : G.2.1 v0 = 12) (h_w0 : w0 ∈ G.1) (k_w0 : G.2.1 w0 = 14) (S : HS) (H : Heap) (locs : List Loc) (ls : Array Slot), s_X12_mark_J105 G.2.2 F v0 v2 w0 w1 w2 S = some (r, S') → HP V G S H → va_S (AG G s.heap.size) s.heap H locs → WT G S → lv_has ls 4 [(0, .ref v0), (2, .int v2)] → W p l e (RM 1 32) s m args below meth c H locs 0 0 (MQ below (QZ V G S' r s.heap.size) args s 0 0 (AG G s.heap.size)) (F0 m 105 ls [.int w2, .int w1, .ref w0]) := by
  intro v0 v2 w0 w1 w2 h_v0 k_v0 h_w0 k_w0 S H locs ls hf hP hS hW hl
  have hx := C.1
  have hb := C.2.1
  unfold s_X12_mark_J105 at hf
  obtain ⟨h21, hf⟩ := if_s hf
  obtain ⟨S22, eS22, hf⟩ := bnd_e hf
  refine x_iast C hP hS h_w0 k_w0 h21 eS22 dX12_mark_105 (fun H locs hP hS => ?_)
  have hW : WT G S22 := by rw [eS22]; exact hW
  refine lv_aload_n hx hb dX12_mark_106 rfl (lv_at hl 0 rfl) ?_
  refine lv_iload_n hx hb dX12_mark_107 rfl (lv_at hl 1 rfl) ?_
  refine lv_if_eq (tgt := 115) hx hb dX12_mark_108 (by decide) (fun c23 => ?_) (fun c23 => ?_)
  · have hf := if_t c23 hf
    refine lv_aload_n hx hb dX12_mark_115 rfl (lv_at hl 0 rfl) ?_
    refine gf_X12_240 C hP h_v0 k_v0 dX12_mark_116 ?_
    exact b_X12_mark_119 C v0 (gI S22 1218 v0) h_v0 k_v0 S22 H locs _ hf hP hS hW (lv_sub hl [] rfl)
  · have hf := if_f c23 hf
    refine lv_iconst (v := 0) hx hb dX12_mark_111 rfl ?_
    refine lv_goto (tgt := 119) hx hb dX12_mark_112 (by decide) ?_
    exact b_X12_mark_119 C v0 0 h_v0 k_v0 S22 H locs _ hf hP hS hW (lv_sub hl [] rfl)
set_option maxRecDepth 100000 in
set_option maxHeartbeats 4000000 in
theorem b_X12_mark_72 {p : Program} {l : Launch} {e : Env} {s : State} {m : MethodId} {args : Array Value} {below : List Frame} {meth : Method} {c : Code} {V : EV} {G : GS} {r : Int32} {S' : HS} {F : Nat} (C : CX p s m args meth c RX12 cX12_mark 4 (some .boolean) V G) : ∀ (v0 : Nat) (v2 : Int32) (v3 : Int32) (w0 : Nat) (w1 : Int32) (w2 : Int32) (h_v0 : v0 ∈ G.1) (k_v0 : G.2.1 v0 = 12) (h_w0 : w0 ∈ G.1) (k_w0 : G.2.1 w0 = 12) (S : HS) (H : Heap) (locs : List Loc) (ls : Array Slot), s_X12_mark_J72 G.2.2 F v0 v2 v3 w0 w1 w2 S = some (r, S') → HP V G S H → va_S (AG G s.heap.size) s.heap H locs → WT G S → lv_has ls 4 [(0, .ref v0), (2, .int v2), (3, .int v3)] → W p l e (RM 1 32) s m args below meth c H locs 0 0 (MQ below (QZ V G S' r s.heap.size) args s 0 0 (AG G s.heap.size)) (F0 m 72 ls [.int w2, .int w1, .ref w0]) := by
  intro v0 v2 v3 w0 w1 w2 h_v0 k_v0 h_w0 k_w0 S H locs ls hf hP hS hW hl
  have hx := C.1
  have hb := C.2.1
  unfold s_X12_mark_J72 at hf
  refine lv_bipush (v := 10) hx hb dX12_mark_72 kc_bipush_10 ?_
  obtain ⟨S13, eS13, hf⟩ := bd1_e hf
  refine x_aft_v (x_runV (As := [.int w1, .int w2, .int 10]) (rest := []) C hP hS (c_X12_moves (l := l) C.2.2.2.2.2.2.2.2.2.1 hW h_w0 k_w0 eS13 H.size) h_w0 k_w0 (by decide) rfl rfl km_X12_moves ki_X12_moves qm_X12_243 ⟨(Nat.le_of_ble_eq_true rfl), (Nat.le_of_ble_eq_true rfl)⟩ rfl hl.1 rfl (Nat.le_of_ble_eq_true rfl) ⟨Nat.zero_le _, Nat.zero_le _⟩ dX12_mark_74) hS (fun H locs hP hS hW => ?_)
  refine lv_aload_n hx hb dX12_mark_77 rfl (lv_at hl 0 rfl) ?_
  refine gf_X12_95 C hP h_v0 k_v0 dX12_mark_78 ?_
  obtain ⟨t14, et14, hf⟩ := bd1_e hf
  obtain ⟨h_t14, k_t14⟩ := wt_r hW h_v0 k_v0 (by decide) et14
  have k_t14 : G.2.1 t14 = 14 := k_t14
  rw [et14]
  refine lv_iconst (v := 3) hx hb dX12_mark_81 rfl ?_
  refine lv_iload_n hx hb dX12_mark_82 rfl (lv_at hl 2 rfl) ?_
  obtain ⟨h15, hf⟩ := if_s hf
  obtain ⟨S16, eS16, hf⟩ := bnd_e hf
  refine x_iast C hP hS h_t14 k_t14 h15 eS16 dX12_mark_83 (fun H locs hP hS => ?_)
  have hW : WT G S16 := by rw [eS16]; exact hW
  refine lv_aload_n hx hb dX12_mark_84 rfl (lv_at hl 0 rfl) ?_
  refine gf_X12_95 C hP h_v0 k_v0 dX12_mark_85 ?_
  obtain ⟨t17, et17, hf⟩ := bd1_e hf
  obtain ⟨h_t17, k_t17⟩ := wt_r hW h_v0 k_v0 (by decide) et17
  have k_t17 : G.2.1 t17 = 14 := k_t17
  rw [et17]
  refine lv_bipush (v := 10) hx hb dX12_mark_88 kc_bipush_10 ?_
  refine lv_iload_n hx hb dX12_mark_90 rfl (lv_at hl 1 rfl) ?_
  refine lv_if_eq (tgt := 98) hx hb dX12_mark_91 (by decide) (fun c18 => ?_) (fun c18 => ?_)
  · have hf := if_t c18 hf
    refine lv_aload_n hx hb dX12_mark_98 rfl (lv_at hl 0 rfl) ?_
    refine gf_X12_95 C hP h_v0 k_v0 dX12_mark_99 ?_
    obtain ⟨t19, et19, hf⟩ := bd1_e hf
    obtain ⟨h_t19, k_t19⟩ := wt_r hW h_v0 k_v0 (by decide) et19
    have k_t19 : G.2.1 t19 = 14 := k_t19
    rw [et19]
    refine lv_bipush (v := 10) hx hb dX12_mark_102 kc_bipush_10 ?_
    obtain ⟨h20, hf⟩ := if_s hf
    refine x_iald C hP h_t19 k_t19 h20 dX12_mark_104 ?_
    exact b_X12_mark_105 C v0 v2 t17 10 (aI S16 t19 (10 : Int32).toNatClampNeg) h_v0 k_v0 h_t17 k_t17 S16 H locs _ hf hP hS hW (lv_sub hl [0, 1] rfl)
  · have hf := if_f c18 hf
    refine lv_iconst (v := 0) hx hb dX12_mark_94 rfl ?_
    refine lv_goto (tgt := 105) hx hb dX12_mark_95 (by decide) ?_
    exact b_X12_mark_105 C v0 v2 t17 10 0 h_v0 k_v0 h_t17 k_t17 S16 H locs _ hf hP hS hW (lv_sub hl [0, 1] rfl)
set_option maxRecDepth 100000 in
set_option maxHeartbeats 4000000 in
theorem b_X12_mark_58 {p : Program} {l : Launch} {e : Env} {s : State} {m : MethodId} {args : Array Value} {below : List Frame} {meth : Method} {c : Code} {V : EV} {G : GS} {r : Int32} {S' : HS} {F : Nat} (C : CX p s m args meth c RX12 cX12_mark 4 (some .boolean) V G) : ∀ (v0 : Nat) (v1 : Int32) (v2 : Int32) (v3 : Int32) (w0 : Nat) (w1 : Int32) (h_v0 : v0 ∈ G.1) (k_v0 : G.2.1 v0 = 12) (h_w0 : w0 ∈ G.1) (k_w0 : G.2.1 w0 = 12) (S : HS) (H : Heap) (locs : List Loc) (ls : Array Slot), s_X12_mark_J58 G.2.2 F v0 v1 v2 v3 w0 w1 S = some (r, S') → HP V G S H → va_S (AG G s.heap.size) s.heap H locs → WT G S → lv_has ls 4 [(0, .ref v0), (1, .int v1), (2, .int v2), (3, .int v3)] → W p l e (RM 1 32) s m args below meth c H locs 0 0 (MQ below (QZ V G S' r s.heap.size) args s 0 0 (AG G s.heap.size)) (F0 m 58 ls [.int w1, .ref w0]) := by
  intro v0 v1 v2 v3 w0 w1 h_v0 k_v0 h_w0 k_w0 S H locs ls hf hP hS hW hl
  have hx := C.1
  have hb := C.2.1
  unfold s_X12_mark_J58 at hf
  refine lv_iload_n hx hb dX12_mark_58 rfl (lv_at hl 2 rfl) ?_
  refine lv_if_eq (tgt := 66) hx hb dX12_mark_59 (by decide) (fun c12 => ?_) (fun c12 => ?_)
  · have hf := if_t c12 hf
    refine lv_bipush (v := 28) hx hb dX12_mark_66 kc_bipush_28 ?_
    refine lv_iconst (v := 1) hx hb dX12_mark_68 rfl ?_
    refine lv_iload_n hx hb dX12_mark_69 rfl (lv_at hl 1 rfl) ?_
    refine lv_iadd hx hb dX12_mark_70 ?_
    refine lv_imul hx hb dX12_mark_71 ?_
    exact b_X12_mark_72 C v0 v2 v3 w0 w1 (28 * (1 + v1)) h_v0 k_v0 h_w0 k_w0 S H locs _ hf hP hS hW (lv_sub hl [0, 2, 3] rfl)
  · have hf := if_f c12 hf
    refine lv_iconst (v := 0) hx hb dX12_mark_62 rfl ?_
    refine lv_goto (tgt := 72) hx hb dX12_mark_63 (by decide) ?_
    exact b_X12_mark_72 C v0 v2 v3 w0 w1 0 h_v0 k_v0 h_w0 k_w0 S H locs _ hf hP hS hW (lv_sub hl [0, 2, 3] rfl)
set_option maxRecDepth 100000 in
set_option maxHeartbeats 4000000 in
theorem b_X12_mark_29 {p : Program} {l : Launch} {e : Env} {s : State} {m : MethodId} {args : Array Value} {below : List Frame} {meth : Method} {c : Code} {V : EV} {G : GS} {r : Int32} {S' : HS} {F : Nat} (C : CX p s m args meth c RX12 cX12_mark 4 (some .boolean) V G) : ∀ (v0 : Nat) (v1 : Int32) (v2 : Int32) (h_v0 : v0 ∈ G.1) (k_v0 : G.2.1 v0 = 12) (S : HS) (H : Heap) (locs : List Loc) (ls : Array Slot), s_X12_mark_J29 G.2.2 F v0 v1 v2 S = some (r, S') → HP V G S H → va_S (AG G s.heap.size) s.heap H locs → WT G S → lv_has ls 4 [(0, .ref v0), (1, .int v1), (2, .int v2)] → W p l e (RM 1 32) s m args below meth c H locs 0 0 (MQ below (QZ V G S' r s.heap.size) args s 0 0 (AG G s.heap.size)) (F0 m 29 ls []) := by
  intro v0 v1 v2 h_v0 k_v0 S H locs ls hf hP hS hW hl
  have hx := C.1
  have hb := C.2.1
  unfold s_X12_mark_J29 at hf
  refine lv_aload_n hx hb dX12_mark_29 rfl (lv_at hl 0 rfl) ?_
  refine gf_X12_98 C hP h_v0 k_v0 dX12_mark_30 ?_
  obtain ⟨t5, et5, hf⟩ := bd1_e hf
  obtain ⟨h_t5, k_t5⟩ := wt_r hW h_v0 k_v0 (by decide) et5
  have k_t5 : G.2.1 t5 = 16 := k_t5
  rw [et5]
  refine lv_iload_n hx hb dX12_mark_33 rfl (lv_at hl 1 rfl) ?_
  refine lv_iconst (v := 1) hx hb dX12_mark_34 rfl ?_
  obtain ⟨h6, hf⟩ := if_s hf
  obtain ⟨S7, eS7, hf⟩ := bnd_e hf
  refine x_zast C hP hS h_t5 k_t5 h6 eS7 dX12_mark_35 (fun H locs hP hS => ?_)
  have hW : WT G S7 := by rw [eS7]; exact hW
  refine lv_aload_n hx hb dX12_mark_36 rfl (lv_at hl 0 rfl) ?_
  refine gf_X12_95 C hP h_v0 k_v0 dX12_mark_37 ?_
  obtain ⟨t8, et8, hf⟩ := bd1_e hf
  obtain ⟨h_t8, k_t8⟩ := wt_r hW h_v0 k_v0 (by decide) et8
  have k_t8 : G.2.1 t8 = 14 := k_t8
  rw [et8]
  refine lv_iconst (v := 3) hx hb dX12_mark_40 rfl ?_
  obtain ⟨h9, hf⟩ := if_s hf
  refine x_iald C hP h_t8 k_t8 h9 dX12_mark_41 ?_
  obtain ⟨x10, ex10, hf⟩ := bnd_e hf
  refine nm_i ex10 ?_
  refine lv_istore_n (lv' := [(3, .int x10), (0, .ref v0), (1, .int v1), (2, .int v2)]) hx hb dX12_mark_42 rfl hl (by decide) rfl (fun ls hl => ?_)
  refine lv_aload_n hx hb dX12_mark_43 rfl (lv_at hl 1 rfl) ?_
  refine lv_iload_n hx hb dX12_mark_44 rfl (lv_at hl 3 rfl) ?_
  refine lv_if_eq (tgt := 57) hx hb dX12_mark_45 (by decide) (fun c11 => ?_) (fun c11 => ?_)
  · have hf := if_t c11 hf
    refine lv_iconst (v := 0) hx hb dX12_mark_57 rfl ?_
    exact b_X12_mark_58 C v0 v1 v2 x10 v0 0 h_v0 k_v0 h_v0 k_v0 S7 H locs _ hf hP hS hW (lv_sub hl [1, 2, 3, 0] rfl)
  · have hf := if_f c11 hf
    refine lv_bipush (v := 28) hx hb dX12_mark_48 kc_bipush_28 ?_
    refine lv_iconst (v := 1) hx hb dX12_mark_50 rfl ?_
    refine lv_iload_n hx hb dX12_mark_51 rfl (lv_at hl 2 rfl) ?_
    refine lv_iadd hx hb dX12_mark_52 ?_
    refine lv_imul hx hb dX12_mark_53 ?_
    refine lv_goto (tgt := 58) hx hb dX12_mark_54 (by decide) ?_
    exact b_X12_mark_58 C v0 v1 v2 x10 v0 (28 * (1 + v1)) h_v0 k_v0 h_v0 k_v0 S7 H locs _ hf hP hS hW (lv_sub hl [1, 2, 3, 0] rfl)
set_option maxRecDepth 100000 in
set_option maxHeartbeats 4000000 in
theorem c_X12_mark {l : Launch} {V : EV} {G : GS} {S : HS} {F : Nat} {a : Nat} {p0 : Int32} {p1 : Int32} {r : Int32} {S' : HS} (hN : G.1.Nodup) (hW : WT G S) (h_a : a ∈ G.1) (k_a : G.2.1 a = 12) (hf : s_X12_mark G.2.2 F a p0 p1 S = some (r, S')) : MetZ l yX12_mark cX12_mark 4 1 32 V G S [.ref a, .int p0, .int p1] r S' := by
  intro sz
  refine x_in RX12 rfl (by decide +kernel) hN (Nat.le_of_ble_eq_true rfl) (fun p e s m args below meth c ls hsz hargs hnm C hP hS hl => ?_)
  subst hsz
  have hx := C.1
  have hb := C.2.1
  have hl : lv_has ls 4 [(0, .ref a), (1, .int p0), (2, .int p1)] := hl
  unfold s_X12_mark at hf
  refine lv_aload_n hx hb dX12_mark_0 rfl (lv_at hl 0 rfl) ?_
  refine lv_iconst (v := 0) hx hb dX12_mark_1 rfl ?_
  obtain ⟨S1, eS1, hf⟩ := bnd_e hf
  refine pf_X12_1 C hP hS h_a k_a eS1 dX12_mark_2 (fun H locs hP hS => ?_)
  have hW : WT G S1 := by rw [eS1]; exact hW
  refine lv_iload_n hx hb dX12_mark_5 rfl (lv_at hl 1 rfl) ?_
  refine lv_iconst (v := 0) hx hb dX12_mark_6 rfl ?_
  refine lv_iconst (v := 3) hx hb dX12_mark_7 rfl ?_
  refine x_aft_z (x_runS (As := [.int p0, .int 0, .int 3]) (rest := []) C hP hS (c_X12_within (l := l) C.2.2.2.2.2.2.2.2.2.1 hW rfl H.size) km_X12_within ks_X12_within qm_X12_386 ⟨(Nat.le_of_ble_eq_true rfl), (Nat.le_of_ble_eq_true rfl)⟩ rfl hl.1 rfl (Nat.le_of_ble_eq_true rfl) ⟨Nat.zero_le _, Nat.zero_le _⟩ dX12_mark_8) hS (fun H locs hP hS hW z2 => ?_)
  refine lv_if_eq (tgt := 27) hx hb dX12_mark_11 (by decide) (fun c3 => ?_) (fun c3 => ?_)
  · have hf := if_t c3 hf
    refine lv_iconst (v := 0) hx hb dX12_mark_27 rfl ?_
    cases hf
    exact x_retZ C hP hS hW isZ_0 dX12_mark_28
  · have hf := if_f c3 hf
    refine lv_iload_n hx hb dX12_mark_14 rfl (lv_at hl 2 rfl) ?_
    refine lv_if_eq (tgt := 29) hx hb dX12_mark_15 (by decide) (fun c4 => ?_) (fun c4 => ?_)
    · have hf := if_t c4 hf
      exact b_X12_mark_29 C a p0 p1 h_a k_a S1 H locs _ hf hP hS hW (lv_sub hl [0, 1, 2] rfl)
    · have hf := if_f c4 hf
      refine lv_aload_n hx hb dX12_mark_18 rfl (lv_at hl 0 rfl) ?_
      refine gf_X12_98 C hP h_a k_a dX12_mark_19 ?_
      obtain ⟨t25, et25, hf⟩ := bd1_e hf
      obtain ⟨h_t25, k_t25⟩ := wt_r hW h_a k_a (by decide) et25
      have k_t25 : G.2.1 t25 = 16 := k_t25
      rw [et25]
      refine lv_iload_n hx hb dX12_mark_22 rfl (lv_at hl 1 rfl) ?_
      obtain ⟨h26, hf⟩ := if_s hf
      refine x_zald C hP h_t25 k_t25 h26 dX12_mark_23 ?_
      refine lv_if_ne (tgt := 29) hx hb dX12_mark_24 (by decide) (fun c27 => ?_) (fun c27 => ?_)
      · have hf := if_f c27 hf
        exact b_X12_mark_29 C a p0 p1 h_a k_a S1 H locs _ hf hP hS hW (lv_sub hl [0, 1, 2] rfl)
      · have hf := if_t c27 hf
        refine lv_iconst (v := 0) hx hb dX12_mark_27 rfl ?_
        cases hf
        exact x_retZ C hP hS hW isZ_0 dX12_mark_28
def s_X12_marks (N : Nat → Nat) (F : Nat) (a : Nat) (p0 : Int32) (p1 : Int32) (p2 : Int32) (p3 : Int32) (S : HS) : Option (Int32 × HS) :=
  bnd (uI S 1200 a 0) fun S1 =>
  bd1 (s_X12_areBits N a p0 p1 p2 S1) fun r2 =>
  if r2 = (0 : Int32) then
  some ((-1), S1)
  else
  if (s_X12_within p3 0 5 S1) = (0 : Int32) then
  some ((-1), S1)
  else
  bd1 (s_X12_used N a S1) fun r7 =>
  bd2 (s_X12_sums_ N F a r7 p0 p1 p2 p3 S1) fun r8 S9 =>
  some (gI S9 1220 a, S9)
set_option maxRecDepth 100000 in
set_option maxHeartbeats 4000000 in
theorem c_X12_marks {l : Launch} {V : EV} {G : GS} {S : HS} {F : Nat} {a : Nat} {p0 : Int32} {p1 : Int32} {p2 : Int32} {p3 : Int32} {r : Int32} {S' : HS} (hN : G.1.Nodup) (hW : WT G S) (h_a : a ∈ G.1) (k_a : G.2.1 a = 12) (hf : s_X12_marks G.2.2 F a p0 p1 p2 p3 S = some (r, S')) : MetI l yX12_marks cX12_marks 5 .int 20 675 V G S [.ref a, .int p0, .int p1, .int p2, .int p3] r S' := by
  intro sz
  refine x_in RX12 rfl (by decide +kernel) hN (Nat.le_of_ble_eq_true rfl) (fun p e s m args below meth c ls hsz hargs hnm C hP hS hl => ?_)
  subst hsz
  have hx := C.1
  have hb := C.2.1
  have hl : lv_has ls 5 [(0, .ref a), (1, .int p0), (2, .int p1), (3, .int p2), (4, .int p3)] := hl
  unfold s_X12_marks at hf
  refine lv_aload_n hx hb dX12_marks_0 rfl (lv_at hl 0 rfl) ?_
  refine lv_iconst (v := 0) hx hb dX12_marks_1 rfl ?_
  obtain ⟨S1, eS1, hf⟩ := bnd_e hf
  refine pf_X12_1 C hP hS h_a k_a eS1 dX12_marks_2 (fun H locs hP hS => ?_)
  have hW : WT G S1 := by rw [eS1]; exact hW
  refine lv_aload_n hx hb dX12_marks_5 rfl (lv_at hl 0 rfl) ?_
  refine lv_iload_n hx hb dX12_marks_6 rfl (lv_at hl 1 rfl) ?_
  refine lv_iload_n hx hb dX12_marks_7 rfl (lv_at hl 2 rfl) ?_
  refine lv_iload_n hx hb dX12_marks_8 rfl (lv_at hl 3 rfl) ?_
  obtain ⟨r2, er2, hf⟩ := bd1_e hf
  refine x_aft_z (x_runV (As := [.int p0, .int p1, .int p2]) (rest := []) C hP hS (c_X12_areBits (l := l) C.2.2.2.2.2.2.2.2.2.1 hW h_a k_a er2 H.size) h_a k_a (by decide) rfl rfl km_X12_areBits ki_X12_areBits qm_X12_403 ⟨(Nat.le_of_ble_eq_true rfl), (Nat.le_of_ble_eq_true rfl)⟩ rfl hl.1 rfl (Nat.le_of_ble_eq_true rfl) ⟨Nat.zero_le _, Nat.zero_le _⟩ dX12_marks_9) hS (fun H locs hP hS hW z3 => ?_)
  refine lv_if_eq (tgt := 25) hx hb dX12_marks_12 (by decide) (fun c4 => ?_) (fun c4 => ?_)
  · have hf := if_t c4 hf
    refine lv_iconst (v := (-1)) hx hb dX12_marks_25 rfl ?_
    cases hf
    exact x_reti C hP hS hW dX12_marks_26
  · have hf := if_f c4 hf
    refine lv_iload hx hb dX12_marks_15 (lv_at hl 4 rfl) ?_
    refine lv_iconst (v := 0) hx hb dX12_marks_17 rfl ?_
    refine lv_iconst (v := 5) hx hb dX12_marks_18 rfl ?_
    refine x_aft_z (x_runS (As := [.int p3, .int 0, .int 5]) (rest := []) C hP hS (c_X12_within (l := l) C.2.2.2.2.2.2.2.2.2.1 hW rfl H.size) km_X12_within ks_X12_within qm_X12_386 ⟨(Nat.le_of_ble_eq_true rfl), (Nat.le_of_ble_eq_true rfl)⟩ rfl hl.1 rfl (Nat.le_of_ble_eq_true rfl) ⟨Nat.zero_le _, Nat.zero_le _⟩ dX12_marks_19) hS (fun H locs hP hS hW z5 => ?_)
    refine lv_if_ne (tgt := 27) hx hb dX12_marks_22 (by decide) (fun c6 => ?_) (fun c6 => ?_)
    · have hf := if_f c6 hf
      refine lv_aload_n hx hb dX12_marks_27 rfl (lv_at hl 0 rfl) ?_
      refine lv_aload_n hx hb dX12_marks_28 rfl (lv_at hl 0 rfl) ?_
      obtain ⟨r7, er7, hf⟩ := bd1_e hf
      refine x_aft_i (x_runV (As := []) (rest := [.ref a]) C hP hS (c_X12_used (l := l) C.2.2.2.2.2.2.2.2.2.1 hW h_a k_a er7 H.size) h_a k_a (by decide) rfl rfl km_X12_used ki_X12_used qm_X12_357 ⟨(Nat.le_of_ble_eq_true rfl), (Nat.le_of_ble_eq_true rfl)⟩ rfl hl.1 rfl (Nat.le_of_ble_eq_true rfl) ⟨Nat.zero_le _, Nat.zero_le _⟩ dX12_marks_29) hS (fun H locs hP hS hW => ?_)
      refine lv_iload_n hx hb dX12_marks_32 rfl (lv_at hl 1 rfl) ?_
      refine lv_iload_n hx hb dX12_marks_33 rfl (lv_at hl 2 rfl) ?_
      refine lv_iload_n hx hb dX12_marks_34 rfl (lv_at hl 3 rfl) ?_
      refine lv_iload hx hb dX12_marks_35 (lv_at hl 4 rfl) ?_
      obtain ⟨r8, S9, eS9, hf⟩ := bd2_e hf
      refine x_aft_i (x_runV (As := [.int r7, .int p0, .int p1, .int p2, .int p3]) (rest := []) C hP hS (c_X12_sums_ (l := l) C.2.2.2.2.2.2.2.2.2.1 hW h_a k_a eS9 H.size) h_a k_a (by decide) rfl rfl km_X12_sums_ ki_X12_sums_ qm_X12_375 ⟨(Nat.le_of_ble_eq_true rfl), (Nat.le_of_ble_eq_true rfl)⟩ rfl hl.1 rfl (Nat.le_of_ble_eq_true rfl) ⟨Nat.zero_le _, Nat.zero_le _⟩ dX12_marks_37) hS (fun H locs hP hS hW => ?_)
      refine lv_pop hx hb dX12_marks_40 rfl ?_
      refine lv_aload_n hx hb dX12_marks_41 rfl (lv_at hl 0 rfl) ?_
      refine gf_X12_315 C hP h_a k_a dX12_marks_42 ?_
      cases hf
      exact x_reti C hP hS hW dX12_marks_45
    · have hf := if_t c6 hf
      refine lv_iconst (v := (-1)) hx hb dX12_marks_25 rfl ?_
      cases hf
      exact x_reti C hP hS hW dX12_marks_26
def s_X12_mode (N : Nat → Nat) (F : Nat) (a : Nat) (p0 : Int32) (S : HS) : Option (Int32 × HS) :=
  bnd (uI S 1200 a 0) fun S1 =>
  if (s_X12_within p0 0 5 S1) = (0 : Int32) then
  some ((-1), S1)
  else
  bd1 (s_X12_keeps N F a S1) fun S4 =>
  bd1 (gR S4 1217 a) fun t5 =>
  if inB (1 : Int32) (N t5) = true then
  bnd (aI S4 t5 (1 : Int32).toNatClampNeg : Int32) fun x7 =>
  bd1 (gR S4 1217 a) fun t8 =>
  if inB (1 : Int32) (N t8) = true then
  bnd (wI S4 t8 ((1 : Int32).toNatClampNeg) p0) fun S10 =>
  some (x7, S10)
  else none
  else none
set_option maxRecDepth 100000 in
set_option maxHeartbeats 4000000 in
theorem c_X12_mode {l : Launch} {V : EV} {G : GS} {S : HS} {F : Nat} {a : Nat} {p0 : Int32} {r : Int32} {S' : HS} (hN : G.1.Nodup) (hW : WT G S) (h_a : a ∈ G.1) (k_a : G.2.1 a = 12) (hf : s_X12_mode G.2.2 F a p0 S = some (r, S')) : MetI l yX12_mode cX12_mode 3 .int 2 61 V G S [.ref a, .int p0] r S' := by
  intro sz
  refine x_in RX12 rfl (by decide +kernel) hN (Nat.le_of_ble_eq_true rfl) (fun p e s m args below meth c ls hsz hargs hnm C hP hS hl => ?_)
  subst hsz
  have hx := C.1
  have hb := C.2.1
  have hl : lv_has ls 3 [(0, .ref a), (1, .int p0)] := hl
  unfold s_X12_mode at hf
  refine lv_aload_n hx hb dX12_mode_0 rfl (lv_at hl 0 rfl) ?_
  refine lv_iconst (v := 0) hx hb dX12_mode_1 rfl ?_
  obtain ⟨S1, eS1, hf⟩ := bnd_e hf
  refine pf_X12_1 C hP hS h_a k_a eS1 dX12_mode_2 (fun H locs hP hS => ?_)
  have hW : WT G S1 := by rw [eS1]; exact hW
  refine lv_iload_n hx hb dX12_mode_5 rfl (lv_at hl 1 rfl) ?_
  refine lv_iconst (v := 0) hx hb dX12_mode_6 rfl ?_
  refine lv_iconst (v := 5) hx hb dX12_mode_7 rfl ?_
  refine x_aft_z (x_runS (As := [.int p0, .int 0, .int 5]) (rest := []) C hP hS (c_X12_within (l := l) C.2.2.2.2.2.2.2.2.2.1 hW rfl H.size) km_X12_within ks_X12_within qm_X12_386 ⟨(Nat.le_of_ble_eq_true rfl), (Nat.le_of_ble_eq_true rfl)⟩ rfl hl.1 rfl (Nat.le_of_ble_eq_true rfl) ⟨Nat.zero_le _, Nat.zero_le _⟩ dX12_mode_8) hS (fun H locs hP hS hW z2 => ?_)
  refine lv_if_ne (tgt := 16) hx hb dX12_mode_11 (by decide) (fun c3 => ?_) (fun c3 => ?_)
  · have hf := if_f c3 hf
    refine lv_aload_n hx hb dX12_mode_16 rfl (lv_at hl 0 rfl) ?_
    obtain ⟨S4, eS4, hf⟩ := bd1_e hf
    refine x_aft_v (x_runV (As := []) (rest := []) C hP hS (c_X12_keeps (l := l) C.2.2.2.2.2.2.2.2.2.1 hW h_a k_a eS4 H.size) h_a k_a (by decide) rfl rfl km_X12_keeps ki_X12_keeps qm_X12_366 ⟨(Nat.le_of_ble_eq_true rfl), (Nat.le_of_ble_eq_true rfl)⟩ rfl hl.1 rfl (Nat.le_of_ble_eq_true rfl) ⟨Nat.zero_le _, Nat.zero_le _⟩ dX12_mode_17) hS (fun H locs hP hS hW => ?_)
    refine lv_aload_n hx hb dX12_mode_20 rfl (lv_at hl 0 rfl) ?_
    refine gf_X12_95 C hP h_a k_a dX12_mode_21 ?_
    obtain ⟨t5, et5, hf⟩ := bd1_e hf
    obtain ⟨h_t5, k_t5⟩ := wt_r hW h_a k_a (by decide) et5
    have k_t5 : G.2.1 t5 = 14 := k_t5
    rw [et5]
    refine lv_iconst (v := 1) hx hb dX12_mode_24 rfl ?_
    obtain ⟨h6, hf⟩ := if_s hf
    refine x_iald C hP h_t5 k_t5 h6 dX12_mode_25 ?_
    obtain ⟨x7, ex7, hf⟩ := bnd_e hf
    refine nm_i ex7 ?_
    refine lv_istore_n (lv' := [(2, .int x7), (0, .ref a), (1, .int p0)]) hx hb dX12_mode_26 rfl hl (by decide) rfl (fun ls hl => ?_)
    refine lv_aload_n hx hb dX12_mode_27 rfl (lv_at hl 1 rfl) ?_
    refine gf_X12_95 C hP h_a k_a dX12_mode_28 ?_
    obtain ⟨t8, et8, hf⟩ := bd1_e hf
    obtain ⟨h_t8, k_t8⟩ := wt_r hW h_a k_a (by decide) et8
    have k_t8 : G.2.1 t8 = 14 := k_t8
    rw [et8]
    refine lv_iconst (v := 1) hx hb dX12_mode_31 rfl ?_
    refine lv_iload_n hx hb dX12_mode_32 rfl (lv_at hl 2 rfl) ?_
    obtain ⟨h9, hf⟩ := if_s hf
    obtain ⟨S10, eS10, hf⟩ := bnd_e hf
    refine x_iast C hP hS h_t8 k_t8 h9 eS10 dX12_mode_33 (fun H locs hP hS => ?_)
    have hW : WT G S10 := by rw [eS10]; exact hW
    refine lv_iload_n hx hb dX12_mode_34 rfl (lv_at hl 0 rfl) ?_
    cases hf
    exact x_reti C hP hS hW dX12_mode_35
  · have hf := if_t c3 hf
    refine lv_iconst (v := (-1)) hx hb dX12_mode_14 rfl ?_
    cases hf
    exact x_reti C hP hS hW dX12_mode_15
def s_X12_nameAt_J39 (N : Nat → Nat) (F : Nat) (k5 : Nat → Int32 → Int32 → Int32 → Int32 → HS → Option Int32) (v0 : Nat) (v1 : Int32) (v2 : Int32) (v4 : Int32) (w0 : Int32) (S : HS) : Option Int32 :=
  bnd (v4 + Int32.ofInt 1 : Int32) fun x7 =>
  k5 v0 v1 v2 w0 x7 S
def s_X12_nameAt_L5 (N : Nat → Nat) (F : Nat) : Nat → Nat → Int32 → Int32 → Int32 → Int32 → HS → Option Int32
  | 0, _, _, _, _, _, _ => none
  | n + 1, v0, v1, v2, v3, v4, S => if v2 ≤ v4 then
  some v3
  else
  bd1 (gR S 1213 v0) fun t2 =>
  if inB (v1 + v4) (N t2) = true then
  bd1 (gR S 1206 v0) fun t4 =>
  if inB (gI S 1207 v0) (N t4) = true then
  if (lg_cmp (aJ S t2 (v1 + v4).toNatClampNeg) (aJ S t4 (gI S 1207 v0).toNatClampNeg)) = (0 : Int32) then
  s_X12_nameAt_J39 N F (s_X12_nameAt_L5 N F n) v0 v1 v2 v4 v4 S
  else
  s_X12_nameAt_J39 N F (s_X12_nameAt_L5 N F n) v0 v1 v2 v4 v3 S
  else none
  else none
def s_X12_nameAt (N : Nat → Nat) (F : Nat) (a : Nat) (p0 : Int32) (p1 : Int32) (S : HS) : Option Int32 :=
  s_X12_nameAt_L5 N F F a p0 p1 (-1) 0 S
set_option maxRecDepth 100000 in
set_option maxHeartbeats 4000000 in
theorem b_X12_nameAt_39 {p : Program} {l : Launch} {e : Env} {s : State} {m : MethodId} {args : Array Value} {below : List Frame} {meth : Method} {c : Code} {V : EV} {G : GS} {r : Int32} {F : Nat} (C : CX p s m args meth c RX12 cX12_nameAt 5 (some .int) V G) {k5 : Nat → Int32 → Int32 → Int32 → Int32 → HS → Option Int32} (hk5 : ∀ (v0 : Nat) (v1 : Int32) (v2 : Int32) (v3 : Int32) (v4 : Int32) (h_v0 : v0 ∈ G.1) (k_v0 : G.2.1 v0 = 12) (S : HS) (H : Heap) (locs : List Loc) (ls : Array Slot), k5 v0 v1 v2 v3 v4 S = some r → HP V G S H → va_S (AG G s.heap.size) s.heap H locs → WT G S → lv_has ls 5 [(0, .ref v0), (1, .int v1), (2, .int v2), (3, .int v3), (4, .int v4)] → W p l e (RM 0 0) s m args below meth c H locs 0 0 (MQ below (QI V G S r s.heap.size) args s 0 0 (AG G s.heap.size)) (F0 m 5 ls [])) : ∀ (v0 : Nat) (v1 : Int32) (v2 : Int32) (v4 : Int32) (w0 : Int32) (h_v0 : v0 ∈ G.1) (k_v0 : G.2.1 v0 = 12) (S : HS) (H : Heap) (locs : List Loc) (ls : Array Slot), s_X12_nameAt_J39 G.2.2 F k5 v0 v1 v2 v4 w0 S = some r → HP V G S H → va_S (AG G s.heap.size) s.heap H locs → WT G S → lv_has ls 5 [(0, .ref v0), (1, .int v1), (2, .int v2), (4, .int v4)] → W p l e (RM 0 0) s m args below meth c H locs 0 0 (MQ below (QI V G S r s.heap.size) args s 0 0 (AG G s.heap.size)) (F0 m 39 ls [.int w0]) := by
  intro v0 v1 v2 v4 w0 h_v0 k_v0 S H locs ls hf hP hS hW hl
  have hx := C.1
  have hb := C.2.1
  unfold s_X12_nameAt_J39 at hf
  refine lv_istore_n (lv' := [(3, .int w0), (0, .ref v0), (1, .int v1), (2, .int v2), (4, .int v4)]) hx hb dX12_nameAt_39 rfl hl (by decide) rfl (fun ls hl => ?_)
  obtain ⟨x7, ex7, hf⟩ := bnd_e hf
  refine lv_iinc (v := x7) (lv' := [(4, .int x7), (3, .int w0), (0, .ref v0), (1, .int v1), (2, .int v2)]) hx hb dX12_nameAt_40 hl (k := 4) rfl ex7.symm (by decide) rfl (fun ls hl => ?_)
  refine lv_goto (tgt := 5) hx hb dX12_nameAt_43 (by decide) ?_
  exact hk5 v0 v1 v2 w0 x7 h_v0 k_v0 S H locs _ hf hP hS hW (lv_sub hl [2, 3, 4, 1, 0] rfl)
set_option maxRecDepth 100000 in
set_option maxHeartbeats 4000000 in
theorem b_X12_nameAt_5 {p : Program} {l : Launch} {e : Env} {s : State} {m : MethodId} {args : Array Value} {below : List Frame} {meth : Method} {c : Code} {V : EV} {G : GS} {r : Int32} {F : Nat} (C : CX p s m args meth c RX12 cX12_nameAt 5 (some .int) V G) : ∀ n : Nat, ∀ (v0 : Nat) (v1 : Int32) (v2 : Int32) (v3 : Int32) (v4 : Int32) (h_v0 : v0 ∈ G.1) (k_v0 : G.2.1 v0 = 12) (S : HS) (H : Heap) (locs : List Loc) (ls : Array Slot), s_X12_nameAt_L5 G.2.2 F n v0 v1 v2 v3 v4 S = some r → HP V G S H → va_S (AG G s.heap.size) s.heap H locs → WT G S → lv_has ls 5 [(0, .ref v0), (1, .int v1), (2, .int v2), (3, .int v3), (4, .int v4)] → W p l e (RM 0 0) s m args below meth c H locs 0 0 (MQ below (QI V G S r s.heap.size) args s 0 0 (AG G s.heap.size)) (F0 m 5 ls []) := by
  intro n
  induction n with
  | zero =>
    intro v0 v1 v2 v3 v4 h_v0 k_v0 S H locs ls hf
    rw [s_X12_nameAt_L5] at hf
    cases hf
  | succ n ih =>
    intro v0 v1 v2 v3 v4 h_v0 k_v0 S H locs ls hf hP hS hW hl
    have hx := C.1
    have hb := C.2.1
    rw [s_X12_nameAt_L5] at hf
    refine lv_iload hx hb dX12_nameAt_5 (lv_at hl 4 rfl) ?_
    refine lv_iload_n hx hb dX12_nameAt_7 rfl (lv_at hl 2 rfl) ?_
    refine lv_icmp_ge (tgt := 46) hx hb dX12_nameAt_8 (by decide) (fun c1 => ?_) (fun c1 => ?_)
    · have hf := if_t c1 hf
      refine lv_iload_n hx hb dX12_nameAt_46 rfl (lv_at hl 3 rfl) ?_
      cases hf
      exact x_reti C hP hS hW dX12_nameAt_47
    · have hf := if_f c1 hf
      refine lv_aload_n hx hb dX12_nameAt_11 rfl (lv_at hl 0 rfl) ?_
      refine gf_X12_83 C hP h_v0 k_v0 dX12_nameAt_12 ?_
      obtain ⟨t2, et2, hf⟩ := bd1_e hf
      obtain ⟨h_t2, k_t2⟩ := wt_r hW h_v0 k_v0 (by decide) et2
      have k_t2 : G.2.1 t2 = 15 := k_t2
      rw [et2]
      refine lv_iload_n hx hb dX12_nameAt_15 rfl (lv_at hl 1 rfl) ?_
      refine lv_iload hx hb dX12_nameAt_16 (lv_at hl 4 rfl) ?_
      refine lv_iadd hx hb dX12_nameAt_18 ?_
      obtain ⟨h3, hf⟩ := if_s hf
      refine x_lald C hP h_t2 k_t2 h3 dX12_nameAt_19 ?_
      refine lv_aload_n hx hb dX12_nameAt_20 rfl (lv_at hl 0 rfl) ?_
      refine gf_X12_30 C hP h_v0 k_v0 dX12_nameAt_21 ?_
      obtain ⟨t4, et4, hf⟩ := bd1_e hf
      obtain ⟨h_t4, k_t4⟩ := wt_r hW h_v0 k_v0 (by decide) et4
      have k_t4 : G.2.1 t4 = 15 := k_t4
      rw [et4]
      refine lv_aload_n hx hb dX12_nameAt_24 rfl (lv_at hl 0 rfl) ?_
      refine gf_X12_141 C hP h_v0 k_v0 dX12_nameAt_25 ?_
      obtain ⟨h5, hf⟩ := if_s hf
      refine x_lald C hP h_t4 k_t4 h5 dX12_nameAt_28 ?_
      refine W.lcmp hx hb dX12_nameAt_29 ?_
      refine lv_if_ne (tgt := 38) hx hb dX12_nameAt_30 (by decide) (fun c6 => ?_) (fun c6 => ?_)
      · have hf := if_f c6 hf
        refine lv_iload_n hx hb dX12_nameAt_38 rfl (lv_at hl 3 rfl) ?_
        exact b_X12_nameAt_39 C ih v0 v1 v2 v4 v3 h_v0 k_v0 S H locs _ hf hP hS hW (lv_sub hl [0, 1, 2, 4] rfl)
      · have hf := if_t c6 hf
        refine lv_iload hx hb dX12_nameAt_33 (lv_at hl 4 rfl) ?_
        refine lv_goto (tgt := 39) hx hb dX12_nameAt_35 (by decide) ?_
        exact b_X12_nameAt_39 C ih v0 v1 v2 v4 v4 h_v0 k_v0 S H locs _ hf hP hS hW (lv_sub hl [0, 1, 2, 4] rfl)
set_option maxRecDepth 100000 in
set_option maxHeartbeats 4000000 in
theorem c_X12_nameAt {l : Launch} {V : EV} {G : GS} {S : HS} {F : Nat} {a : Nat} {p0 : Int32} {p1 : Int32} {r : Int32} (hN : G.1.Nodup) (hW : WT G S) (h_a : a ∈ G.1) (k_a : G.2.1 a = 12) (hf : s_X12_nameAt G.2.2 F a p0 p1 S = some r) : MetI l yX12_nameAt cX12_nameAt 5 .int 0 0 V G S [.ref a, .int p0, .int p1] r S := by
  intro sz
  refine x_in RX12 rfl (by decide +kernel) hN (Nat.le_of_ble_eq_true rfl) (fun p e s m args below meth c ls hsz hargs hnm C hP hS hl => ?_)
  subst hsz
  have hx := C.1
  have hb := C.2.1
  have hl : lv_has ls 5 [(0, .ref a), (1, .int p0), (2, .int p1)] := hl
  unfold s_X12_nameAt at hf
  refine lv_iconst (v := (-1)) hx hb dX12_nameAt_0 rfl ?_
  refine lv_istore_n (lv' := [(3, .int (-1)), (0, .ref a), (1, .int p0), (2, .int p1)]) hx hb dX12_nameAt_1 rfl hl (by decide) rfl (fun ls hl => ?_)
  refine lv_iconst (v := 0) hx hb dX12_nameAt_2 rfl ?_
  refine lv_istore (lv' := [(4, .int 0), (3, .int (-1)), (0, .ref a), (1, .int p0), (2, .int p1)]) hx hb dX12_nameAt_3 hl (by decide) rfl (fun ls hl => ?_)
  exact b_X12_nameAt_5 C F a p0 p1 (-1) 0 h_a k_a S s.heap [] _ hf hP hS hW (lv_sub hl [2, 3, 4, 1, 0] rfl)
def s_X12_nans_J43 (N : Nat → Nat) (F : Nat) (k4 : Nat → Int32 → Int32 → Int32 → HS → Option Int32) (v0 : Nat) (v1 : Int32) (v3 : Int32) (w0 : Int32) (w1 : Int32) (S : HS) : Option Int32 :=
  bnd (w0 + w1 : Int32) fun x10 =>
  bnd (v3 + Int32.ofInt 1 : Int32) fun x11 =>
  k4 v0 v1 x10 x11 S
def s_X12_nans_L4 (N : Nat → Nat) (F : Nat) : Nat → Nat → Int32 → Int32 → Int32 → HS → Option Int32
  | 0, _, _, _, _, _ => none
  | n + 1, v0, v1, v2, v3, S => bd1 (s_X12_regs N v0 S) fun r1 =>
  if r1 ≤ v3 then
  some v2
  else
  bd1 (gR S 1217 v0) fun t3 =>
  if inB (v1 + 0) (N t3) = true then
  bd1 (gR S 1217 v0) fun t5 =>
  if inB ((v1 + 4) + v3) (N t5) = true then
  bd1 (s_X12_isNan N v0 (aI S t3 (v1 + 0).toNatClampNeg) (aI S t5 ((v1 + 4) + v3).toNatClampNeg) S) fun r7 =>
  if r7 = (0 : Int32) then
  s_X12_nans_J43 N F (s_X12_nans_L4 N F n) v0 v1 v3 v2 0 S
  else
  s_X12_nans_J43 N F (s_X12_nans_L4 N F n) v0 v1 v3 v2 1 S
  else none
  else none
def s_X12_nans (N : Nat → Nat) (F : Nat) (a : Nat) (p0 : Int32) (S : HS) : Option Int32 :=
  s_X12_nans_L4 N F F a p0 0 0 S
set_option maxRecDepth 100000 in
set_option maxHeartbeats 4000000 in
theorem b_X12_nans_43 {p : Program} {l : Launch} {e : Env} {s : State} {m : MethodId} {args : Array Value} {below : List Frame} {meth : Method} {c : Code} {V : EV} {G : GS} {r : Int32} {F : Nat} (C : CX p s m args meth c RX12 cX12_nans 4 (some .int) V G) {k4 : Nat → Int32 → Int32 → Int32 → HS → Option Int32} (hk4 : ∀ (v0 : Nat) (v1 : Int32) (v2 : Int32) (v3 : Int32) (h_v0 : v0 ∈ G.1) (k_v0 : G.2.1 v0 = 12) (S : HS) (H : Heap) (locs : List Loc) (ls : Array Slot), k4 v0 v1 v2 v3 S = some r → HP V G S H → va_S (AG G s.heap.size) s.heap H locs → WT G S → lv_has ls 4 [(0, .ref v0), (1, .int v1), (2, .int v2), (3, .int v3)] → W p l e (RM 6 180) s m args below meth c H locs 0 0 (MQ below (QI V G S r s.heap.size) args s 0 0 (AG G s.heap.size)) (F0 m 4 ls [])) : ∀ (v0 : Nat) (v1 : Int32) (v3 : Int32) (w0 : Int32) (w1 : Int32) (h_v0 : v0 ∈ G.1) (k_v0 : G.2.1 v0 = 12) (S : HS) (H : Heap) (locs : List Loc) (ls : Array Slot), s_X12_nans_J43 G.2.2 F k4 v0 v1 v3 w0 w1 S = some r → HP V G S H → va_S (AG G s.heap.size) s.heap H locs → WT G S → lv_has ls 4 [(0, .ref v0), (1, .int v1), (3, .int v3)] → W p l e (RM 6 180) s m args below meth c H locs 0 0 (MQ below (QI V G S r s.heap.size) args s 0 0 (AG G s.heap.size)) (F0 m 43 ls [.int w1, .int w0]) := by
  intro v0 v1 v3 w0 w1 h_v0 k_v0 S H locs ls hf hP hS hW hl
  have hx := C.1
  have hb := C.2.1
  unfold s_X12_nans_J43 at hf
  refine lv_iadd hx hb dX12_nans_43 ?_
  obtain ⟨x10, ex10, hf⟩ := bnd_e hf
  refine nm_i ex10 ?_
  refine lv_istore_n (lv' := [(2, .int x10), (0, .ref v0), (1, .int v1), (3, .int v3)]) hx hb dX12_nans_44 rfl hl (by decide) rfl (fun ls hl => ?_)
  obtain ⟨x11, ex11, hf⟩ := bnd_e hf
  refine lv_iinc (v := x11) (lv' := [(3, .int x11), (2, .int x10), (0, .ref v0), (1, .int v1)]) hx hb dX12_nans_45 hl (k := 3) rfl ex11.symm (by decide) rfl (fun ls hl => ?_)
  refine lv_goto (tgt := 4) hx hb dX12_nans_48 (by decide) ?_
  exact hk4 v0 v1 x10 x11 h_v0 k_v0 S H locs _ hf hP hS hW (lv_sub hl [2, 3, 1, 0] rfl)
set_option maxRecDepth 100000 in
set_option maxHeartbeats 4000000 in
theorem b_X12_nans_4 {p : Program} {l : Launch} {e : Env} {s : State} {m : MethodId} {args : Array Value} {below : List Frame} {meth : Method} {c : Code} {V : EV} {G : GS} {r : Int32} {F : Nat} (C : CX p s m args meth c RX12 cX12_nans 4 (some .int) V G) : ∀ n : Nat, ∀ (v0 : Nat) (v1 : Int32) (v2 : Int32) (v3 : Int32) (h_v0 : v0 ∈ G.1) (k_v0 : G.2.1 v0 = 12) (S : HS) (H : Heap) (locs : List Loc) (ls : Array Slot), s_X12_nans_L4 G.2.2 F n v0 v1 v2 v3 S = some r → HP V G S H → va_S (AG G s.heap.size) s.heap H locs → WT G S → lv_has ls 4 [(0, .ref v0), (1, .int v1), (2, .int v2), (3, .int v3)] → W p l e (RM 6 180) s m args below meth c H locs 0 0 (MQ below (QI V G S r s.heap.size) args s 0 0 (AG G s.heap.size)) (F0 m 4 ls []) := by
  intro n
  induction n with
  | zero =>
    intro v0 v1 v2 v3 h_v0 k_v0 S H locs ls hf
    rw [s_X12_nans_L4] at hf
    cases hf
  | succ n ih =>
    intro v0 v1 v2 v3 h_v0 k_v0 S H locs ls hf hP hS hW hl
    have hx := C.1
    have hb := C.2.1
    rw [s_X12_nans_L4] at hf
    refine lv_iload_n hx hb dX12_nans_4 rfl (lv_at hl 3 rfl) ?_
    refine lv_aload_n hx hb dX12_nans_5 rfl (lv_at hl 0 rfl) ?_
    obtain ⟨r1, er1, hf⟩ := bd1_e hf
    refine x_aft_i (x_runV (As := []) (rest := [.int v3]) C hP hS (c_X12_regs (l := l) C.2.2.2.2.2.2.2.2.2.1 hW h_v0 k_v0 er1 H.size) h_v0 k_v0 (by decide) rfl rfl km_X12_regs ki_X12_regs qm_X12_212 ⟨(Nat.le_of_ble_eq_true rfl), (Nat.le_of_ble_eq_true rfl)⟩ rfl hl.1 rfl (Nat.le_of_ble_eq_true rfl) ⟨Nat.zero_le _, Nat.zero_le _⟩ dX12_nans_6) hS (fun H locs hP hS hW => ?_)
    refine lv_icmp_ge (tgt := 51) hx hb dX12_nans_9 (by decide) (fun c2 => ?_) (fun c2 => ?_)
    · have hf := if_t c2 hf
      refine lv_iload_n hx hb dX12_nans_51 rfl (lv_at hl 2 rfl) ?_
      cases hf
      exact x_reti C hP hS hW dX12_nans_52
    · have hf := if_f c2 hf
      refine lv_iload_n hx hb dX12_nans_12 rfl (lv_at hl 2 rfl) ?_
      refine lv_aload_n hx hb dX12_nans_13 rfl (lv_at hl 0 rfl) ?_
      refine lv_aload_n hx hb dX12_nans_14 rfl (lv_at hl 0 rfl) ?_
      refine gf_X12_95 C hP h_v0 k_v0 dX12_nans_15 ?_
      obtain ⟨t3, et3, hf⟩ := bd1_e hf
      obtain ⟨h_t3, k_t3⟩ := wt_r hW h_v0 k_v0 (by decide) et3
      have k_t3 : G.2.1 t3 = 14 := k_t3
      rw [et3]
      refine lv_iload_n hx hb dX12_nans_18 rfl (lv_at hl 1 rfl) ?_
      refine lv_iconst (v := 0) hx hb dX12_nans_19 rfl ?_
      refine lv_iadd hx hb dX12_nans_20 ?_
      obtain ⟨h4, hf⟩ := if_s hf
      refine x_iald C hP h_t3 k_t3 h4 dX12_nans_21 ?_
      refine lv_aload_n hx hb dX12_nans_22 rfl (lv_at hl 0 rfl) ?_
      refine gf_X12_95 C hP h_v0 k_v0 dX12_nans_23 ?_
      obtain ⟨t5, et5, hf⟩ := bd1_e hf
      obtain ⟨h_t5, k_t5⟩ := wt_r hW h_v0 k_v0 (by decide) et5
      have k_t5 : G.2.1 t5 = 14 := k_t5
      rw [et5]
      refine lv_iload_n hx hb dX12_nans_26 rfl (lv_at hl 1 rfl) ?_
      refine lv_iconst (v := 4) hx hb dX12_nans_27 rfl ?_
      refine lv_iadd hx hb dX12_nans_28 ?_
      refine lv_iload_n hx hb dX12_nans_29 rfl (lv_at hl 3 rfl) ?_
      refine lv_iadd hx hb dX12_nans_30 ?_
      obtain ⟨h6, hf⟩ := if_s hf
      refine x_iald C hP h_t5 k_t5 h6 dX12_nans_31 ?_
      obtain ⟨r7, er7, hf⟩ := bd1_e hf
      refine x_aft_z (x_runV (As := [.int (aI S t3 (v1 + 0).toNatClampNeg), .int (aI S t5 ((v1 + 4) + v3).toNatClampNeg)]) (rest := [.int v2]) C hP hS (c_X12_isNan (l := l) C.2.2.2.2.2.2.2.2.2.1 hW h_v0 k_v0 er7 H.size) h_v0 k_v0 (by decide) rfl rfl km_X12_isNan ki_X12_isNan qm_X12_279 ⟨(Nat.le_of_ble_eq_true rfl), (Nat.le_of_ble_eq_true rfl)⟩ rfl hl.1 rfl (Nat.le_of_ble_eq_true rfl) ⟨Nat.zero_le _, Nat.zero_le _⟩ dX12_nans_32) hS (fun H locs hP hS hW z8 => ?_)
      refine lv_if_eq (tgt := 42) hx hb dX12_nans_35 (by decide) (fun c9 => ?_) (fun c9 => ?_)
      · have hf := if_t c9 hf
        refine lv_iconst (v := 0) hx hb dX12_nans_42 rfl ?_
        exact b_X12_nans_43 C ih v0 v1 v3 v2 0 h_v0 k_v0 S H locs _ hf hP hS hW (lv_sub hl [0, 1, 3] rfl)
      · have hf := if_f c9 hf
        refine lv_iconst (v := 1) hx hb dX12_nans_38 rfl ?_
        refine lv_goto (tgt := 43) hx hb dX12_nans_39 (by decide) ?_
        exact b_X12_nans_43 C ih v0 v1 v3 v2 1 h_v0 k_v0 S H locs _ hf hP hS hW (lv_sub hl [0, 1, 3] rfl)
set_option maxRecDepth 100000 in
set_option maxHeartbeats 4000000 in
theorem c_X12_nans {l : Launch} {V : EV} {G : GS} {S : HS} {F : Nat} {a : Nat} {p0 : Int32} {r : Int32} (hN : G.1.Nodup) (hW : WT G S) (h_a : a ∈ G.1) (k_a : G.2.1 a = 12) (hf : s_X12_nans G.2.2 F a p0 S = some r) : MetI l yX12_nans cX12_nans 4 .int 6 180 V G S [.ref a, .int p0] r S := by
  intro sz
  refine x_in RX12 rfl (by decide +kernel) hN (Nat.le_of_ble_eq_true rfl) (fun p e s m args below meth c ls hsz hargs hnm C hP hS hl => ?_)
  subst hsz
  have hx := C.1
  have hb := C.2.1
  have hl : lv_has ls 4 [(0, .ref a), (1, .int p0)] := hl
  unfold s_X12_nans at hf
  refine lv_iconst (v := 0) hx hb dX12_nans_0 rfl ?_
  refine lv_istore_n (lv' := [(2, .int 0), (0, .ref a), (1, .int p0)]) hx hb dX12_nans_1 rfl hl (by decide) rfl (fun ls hl => ?_)
  refine lv_iconst (v := 0) hx hb dX12_nans_2 rfl ?_
  refine lv_istore_n (lv' := [(3, .int 0), (2, .int 0), (0, .ref a), (1, .int p0)]) hx hb dX12_nans_3 rfl hl (by decide) rfl (fun ls hl => ?_)
  exact b_X12_nans_4 C F a p0 0 0 h_a k_a S s.heap [] _ hf hP hS hW (lv_sub hl [2, 3, 1, 0] rfl)
def s_X12_of_J49 (N : Nat → Nat) (F : Nat) (v0 : Nat) (w0 : Nat) (w1 : Int32) (w2 : Int32) (w3 : Int64) (S : HS) : Option (Int32 × HS) :=
  bd1 (gR S 1217 v0) fun t9 =>
  if inB (1 : Int32) (N t9) = true then
  bd2 (s_X12_rounds N F w0 w1 w2 w3 0 0 (aI S t9 (1 : Int32).toNatClampNeg) S) fun r11 S12 =>
  some (r11, S12)
  else none
def s_X12_of_J39 (N : Nat → Nat) (F : Nat) (v0 : Nat) (v1 : Int32) (v2 : Int64) (w0 : Nat) (w1 : Int32) (w2 : Int32) (S : HS) : Option (Int32 × HS) :=
  if (0 : Int32) ≤ v1 then
  s_X12_of_J49 N F v0 w0 w1 w2 v2 S
  else
  s_X12_of_J49 N F v0 w0 w1 w2 (-v2) S
def s_X12_of (N : Nat → Nat) (F : Nat) (a : Nat) (p0 : Int32) (S : HS) : Option (Int32 × HS) :=
  bnd (uI S 1200 a 0) fun S1 =>
  bd1 (s_X12_used N a S1) fun r2 =>
  if (0 : Int32) ≤ r2 then
  bnd (p0.toInt64 : Int64) fun x4 =>
  if p0 = (0 : Int32) then
  some (0, S1)
  else
  bd1 (s_X12_used N a S1) fun r6 =>
  if (0 : Int32) ≤ p0 then
  s_X12_of_J39 N F a p0 x4 a r6 0 S1
  else
  s_X12_of_J39 N F a p0 x4 a r6 1 S1
  else
  some ((-1), S1)
set_option maxRecDepth 100000 in
set_option maxHeartbeats 4000000 in
theorem b_X12_of_49 {p : Program} {l : Launch} {e : Env} {s : State} {m : MethodId} {args : Array Value} {below : List Frame} {meth : Method} {c : Code} {V : EV} {G : GS} {r : Int32} {S' : HS} {F : Nat} (C : CX p s m args meth c RX12 cX12_of 4 (some .int) V G) : ∀ (v0 : Nat) (w0 : Nat) (w1 : Int32) (w2 : Int32) (w3 : Int64) (h_v0 : v0 ∈ G.1) (k_v0 : G.2.1 v0 = 12) (h_w0 : w0 ∈ G.1) (k_w0 : G.2.1 w0 = 12) (S : HS) (H : Heap) (locs : List Loc) (ls : Array Slot), s_X12_of_J49 G.2.2 F v0 w0 w1 w2 w3 S = some (r, S') → HP V G S H → va_S (AG G s.heap.size) s.heap H locs → WT G S → lv_has ls 4 [(0, .ref v0)] → W p l e (RM 6 194) s m args below meth c H locs 0 0 (MQ below (QI V G S' r s.heap.size) args s 0 0 (AG G s.heap.size)) (F0 m 49 ls [.long w3, .int w2, .int w1, .ref w0]) := by
  intro v0 w0 w1 w2 w3 h_v0 k_v0 h_w0 k_w0 S H locs ls hf hP hS hW hl
  have hx := C.1
  have hb := C.2.1
  unfold s_X12_of_J49 at hf
  refine lv_iconst (v := 0) hx hb dX12_of_49 rfl ?_
  refine lv_iconst (v := 0) hx hb dX12_of_50 rfl ?_
  refine lv_aload_n hx hb dX12_of_51 rfl (lv_at hl 0 rfl) ?_
  refine gf_X12_95 C hP h_v0 k_v0 dX12_of_52 ?_
  obtain ⟨t9, et9, hf⟩ := bd1_e hf
  obtain ⟨h_t9, k_t9⟩ := wt_r hW h_v0 k_v0 (by decide) et9
  have k_t9 : G.2.1 t9 = 14 := k_t9
  rw [et9]
  refine lv_iconst (v := 1) hx hb dX12_of_55 rfl ?_
  obtain ⟨h10, hf⟩ := if_s hf
  refine x_iald C hP h_t9 k_t9 h10 dX12_of_56 ?_
  obtain ⟨r11, S12, eS12, hf⟩ := bd2_e hf
  refine x_aft_i (x_runV (As := [.int w1, .int w2, .long w3, .int 0, .int 0, .int (aI S t9 (1 : Int32).toNatClampNeg)]) (rest := []) C hP hS (c_X12_rounds (l := l) C.2.2.2.2.2.2.2.2.2.1 hW h_w0 k_w0 eS12 H.size) h_w0 k_w0 (by decide) rfl rfl km_X12_rounds ki_X12_rounds qm_X12_334 ⟨(Nat.le_of_ble_eq_true rfl), (Nat.le_of_ble_eq_true rfl)⟩ rfl hl.1 rfl (Nat.le_of_ble_eq_true rfl) ⟨Nat.zero_le _, Nat.zero_le _⟩ dX12_of_57) hS (fun H locs hP hS hW => ?_)
  cases hf
  exact x_reti C hP hS hW dX12_of_60
set_option maxRecDepth 100000 in
set_option maxHeartbeats 4000000 in
theorem b_X12_of_39 {p : Program} {l : Launch} {e : Env} {s : State} {m : MethodId} {args : Array Value} {below : List Frame} {meth : Method} {c : Code} {V : EV} {G : GS} {r : Int32} {S' : HS} {F : Nat} (C : CX p s m args meth c RX12 cX12_of 4 (some .int) V G) : ∀ (v0 : Nat) (v1 : Int32) (v2 : Int64) (w0 : Nat) (w1 : Int32) (w2 : Int32) (h_v0 : v0 ∈ G.1) (k_v0 : G.2.1 v0 = 12) (h_w0 : w0 ∈ G.1) (k_w0 : G.2.1 w0 = 12) (S : HS) (H : Heap) (locs : List Loc) (ls : Array Slot), s_X12_of_J39 G.2.2 F v0 v1 v2 w0 w1 w2 S = some (r, S') → HP V G S H → va_S (AG G s.heap.size) s.heap H locs → WT G S → lv_has ls 4 [(0, .ref v0), (1, .int v1), (2, .long v2)] → W p l e (RM 6 194) s m args below meth c H locs 0 0 (MQ below (QI V G S' r s.heap.size) args s 0 0 (AG G s.heap.size)) (F0 m 39 ls [.int w2, .int w1, .ref w0]) := by
  intro v0 v1 v2 w0 w1 w2 h_v0 k_v0 h_w0 k_w0 S H locs ls hf hP hS hW hl
  have hx := C.1
  have hb := C.2.1
  unfold s_X12_of_J39 at hf
  refine lv_iload_n hx hb dX12_of_39 rfl (lv_at hl 1 rfl) ?_
  refine lv_if_ge (tgt := 48) hx hb dX12_of_40 (by decide) (fun c8 => ?_) (fun c8 => ?_)
  · have hf := if_t c8 hf
    refine lv_lload_n hx hb dX12_of_48 rfl (lv_at hl 2 rfl) ?_
    exact b_X12_of_49 C v0 w0 w1 w2 v2 h_v0 k_v0 h_w0 k_w0 S H locs _ hf hP hS hW (lv_sub hl [0] rfl)
  · have hf := if_f c8 hf
    refine lv_lload_n hx hb dX12_of_43 rfl (lv_at hl 2 rfl) ?_
    refine lv_lneg hx hb dX12_of_44 ?_
    refine lv_goto (tgt := 49) hx hb dX12_of_45 (by decide) ?_
    exact b_X12_of_49 C v0 w0 w1 w2 (-v2) h_v0 k_v0 h_w0 k_w0 S H locs _ hf hP hS hW (lv_sub hl [0] rfl)
set_option maxRecDepth 100000 in
set_option maxHeartbeats 4000000 in
theorem c_X12_of {l : Launch} {V : EV} {G : GS} {S : HS} {F : Nat} {a : Nat} {p0 : Int32} {r : Int32} {S' : HS} (hN : G.1.Nodup) (hW : WT G S) (h_a : a ∈ G.1) (k_a : G.2.1 a = 12) (hf : s_X12_of G.2.2 F a p0 S = some (r, S')) : MetI l yX12_of cX12_of 4 .int 6 194 V G S [.ref a, .int p0] r S' := by
  intro sz
  refine x_in RX12 rfl (by decide +kernel) hN (Nat.le_of_ble_eq_true rfl) (fun p e s m args below meth c ls hsz hargs hnm C hP hS hl => ?_)
  subst hsz
  have hx := C.1
  have hb := C.2.1
  have hl : lv_has ls 4 [(0, .ref a), (1, .int p0)] := hl
  unfold s_X12_of at hf
  refine lv_aload_n hx hb dX12_of_0 rfl (lv_at hl 0 rfl) ?_
  refine lv_iconst (v := 0) hx hb dX12_of_1 rfl ?_
  obtain ⟨S1, eS1, hf⟩ := bnd_e hf
  refine pf_X12_1 C hP hS h_a k_a eS1 dX12_of_2 (fun H locs hP hS => ?_)
  have hW : WT G S1 := by rw [eS1]; exact hW
  refine lv_aload_n hx hb dX12_of_5 rfl (lv_at hl 0 rfl) ?_
  obtain ⟨r2, er2, hf⟩ := bd1_e hf
  refine x_aft_i (x_runV (As := []) (rest := []) C hP hS (c_X12_used (l := l) C.2.2.2.2.2.2.2.2.2.1 hW h_a k_a er2 H.size) h_a k_a (by decide) rfl rfl km_X12_used ki_X12_used qm_X12_357 ⟨(Nat.le_of_ble_eq_true rfl), (Nat.le_of_ble_eq_true rfl)⟩ rfl hl.1 rfl (Nat.le_of_ble_eq_true rfl) ⟨Nat.zero_le _, Nat.zero_le _⟩ dX12_of_6) hS (fun H locs hP hS hW => ?_)
  refine lv_if_ge (tgt := 14) hx hb dX12_of_9 (by decide) (fun c3 => ?_) (fun c3 => ?_)
  · have hf := if_t c3 hf
    refine lv_iload_n hx hb dX12_of_14 rfl (lv_at hl 1 rfl) ?_
    refine lv_i2l hx hb dX12_of_15 rfl ?_
    obtain ⟨x4, ex4, hf⟩ := bnd_e hf
    refine nm_l ex4 ?_
    refine lv_lstore_n (lv' := [(2, .long x4), (0, .ref a), (1, .int p0)]) hx hb dX12_of_16 rfl hl (by decide) rfl (fun ls hl => ?_)
    refine lv_iload_n hx hb dX12_of_17 rfl (lv_at hl 2 rfl) ?_
    refine lv_if_ne (tgt := 25) hx hb dX12_of_18 (by decide) (fun c5 => ?_) (fun c5 => ?_)
    · have hf := if_f c5 hf
      refine lv_aload_n hx hb dX12_of_25 rfl (lv_at hl 1 rfl) ?_
      refine lv_aload_n hx hb dX12_of_26 rfl (lv_at hl 1 rfl) ?_
      obtain ⟨r6, er6, hf⟩ := bd1_e hf
      refine x_aft_i (x_runV (As := []) (rest := [.ref a]) C hP hS (c_X12_used (l := l) C.2.2.2.2.2.2.2.2.2.1 hW h_a k_a er6 H.size) h_a k_a (by decide) rfl rfl km_X12_used ki_X12_used qm_X12_357 ⟨(Nat.le_of_ble_eq_true rfl), (Nat.le_of_ble_eq_true rfl)⟩ rfl hl.1 rfl (Nat.le_of_ble_eq_true rfl) ⟨Nat.zero_le _, Nat.zero_le _⟩ dX12_of_27) hS (fun H locs hP hS hW => ?_)
      refine lv_iload_n hx hb dX12_of_30 rfl (lv_at hl 2 rfl) ?_
      refine lv_if_ge (tgt := 38) hx hb dX12_of_31 (by decide) (fun c7 => ?_) (fun c7 => ?_)
      · have hf := if_t c7 hf
        refine lv_iconst (v := 0) hx hb dX12_of_38 rfl ?_
        exact b_X12_of_39 C a p0 x4 a r6 0 h_a k_a h_a k_a S1 H locs _ hf hP hS hW (lv_sub hl [1, 2, 0] rfl)
      · have hf := if_f c7 hf
        refine lv_iconst (v := 1) hx hb dX12_of_34 rfl ?_
        refine lv_goto (tgt := 39) hx hb dX12_of_35 (by decide) ?_
        exact b_X12_of_39 C a p0 x4 a r6 1 h_a k_a h_a k_a S1 H locs _ hf hP hS hW (lv_sub hl [1, 2, 0] rfl)
    · have hf := if_t c5 hf
      refine lv_iconst (v := 0) hx hb dX12_of_21 rfl ?_
      refine lv_goto (tgt := 60) hx hb dX12_of_22 (by decide) ?_
      cases hf
      exact x_reti C hP hS hW dX12_of_60
  · have hf := if_f c3 hf
    refine lv_iconst (v := (-1)) hx hb dX12_of_12 rfl ?_
    cases hf
    exact x_reti C hP hS hW dX12_of_13
def s_X12_off_L13 (F : Nat) (k46 : Int64 → Int64 → Int32 → HS → Option (Int32 × HS)) : Nat → Int64 → Int64 → Int64 → Int32 → HS → Option (Int32 × HS)
  | 0, _, _, _, _, _ => none
  | n + 1, v1, v3, v5, v7, S => if (64 : Int32) ≤ v7 then
  k46 v1 v3 v7 S
  else
  if (s_X12_bitOf v5 (63 - v7) S) = (s_X12_bitOf v5 63 S) then
  bnd (v7 + Int32.ofInt 1 : Int32) fun x7 =>
  s_X12_off_L13 F k46 n v1 v3 v5 x7 S
  else
  k46 v1 v3 v7 S
def s_X12_off_J46 (F : Nat) (v1 : Int64) (v3 : Int64) (v7 : Int32) (S : HS) : Option (Int32 × HS) :=
  bd1 (s_X12_leadsOf F v1 v3 S) fun r8 =>
  some (v7 - r8, S)
def s_X12_off (F : Nat) (a : Nat) (p0 : Int64) (p1 : Int64) (S : HS) : Option (Int32 × HS) :=
  bnd (uI S 1200 a 0) fun S1 =>
  bnd (p0 + p1 : Int64) fun x2 =>
  s_X12_off_L13 F (s_X12_off_J46 F) F p0 p1 x2 1 S1
set_option maxRecDepth 100000 in
set_option maxHeartbeats 4000000 in
theorem b_X12_off_13 {p : Program} {l : Launch} {e : Env} {s : State} {m : MethodId} {args : Array Value} {below : List Frame} {meth : Method} {c : Code} {V : EV} {G : GS} {r : Int32} {S' : HS} {F : Nat} (C : CX p s m args meth c RX12 cX12_off 8 (some .int) V G) {k46 : Int64 → Int64 → Int32 → HS → Option (Int32 × HS)} (hk46 : ∀ (v1 : Int64) (v3 : Int64) (v7 : Int32) (S : HS) (H : Heap) (locs : List Loc) (ls : Array Slot), k46 v1 v3 v7 S = some (r, S') → HP V G S H → va_S (AG G s.heap.size) s.heap H locs → WT G S → lv_has ls 8 [(1, .long v1), (3, .long v3), (7, .int v7)] → W p l e (RM 3 99) s m args below meth c H locs 0 0 (MQ below (QI V G S' r s.heap.size) args s 0 0 (AG G s.heap.size)) (F0 m 46 ls [])) : ∀ n : Nat, ∀ (v1 : Int64) (v3 : Int64) (v5 : Int64) (v7 : Int32) (S : HS) (H : Heap) (locs : List Loc) (ls : Array Slot), s_X12_off_L13 F k46 n v1 v3 v5 v7 S = some (r, S') → HP V G S H → va_S (AG G s.heap.size) s.heap H locs → WT G S → lv_has ls 8 [(1, .long v1), (3, .long v3), (5, .long v5), (7, .int v7)] → W p l e (RM 3 99) s m args below meth c H locs 0 0 (MQ below (QI V G S' r s.heap.size) args s 0 0 (AG G s.heap.size)) (F0 m 13 ls []) := by
  intro n
  induction n with
  | zero =>
    intro v1 v3 v5 v7 S H locs ls hf
    rw [s_X12_off_L13] at hf
    cases hf
  | succ n ih =>
    intro v1 v3 v5 v7 S H locs ls hf hP hS hW hl
    have hx := C.1
    have hb := C.2.1
    rw [s_X12_off_L13] at hf
    refine lv_iload hx hb dX12_off_13 (lv_at hl 3 rfl) ?_
    refine lv_bipush (v := 64) hx hb dX12_off_15 kc_bipush_64 ?_
    refine lv_icmp_ge (tgt := 46) hx hb dX12_off_17 (by decide) (fun c3 => ?_) (fun c3 => ?_)
    · have hf := if_t c3 hf
      exact hk46 v1 v3 v7 S H locs _ hf hP hS hW (lv_sub hl [0, 1, 3] rfl)
    · have hf := if_f c3 hf
      refine lv_lload hx hb dX12_off_20 (lv_at hl 2 rfl) ?_
      refine lv_bipush (v := 63) hx hb dX12_off_22 kc_bipush_63 ?_
      refine lv_iload hx hb dX12_off_24 (lv_at hl 3 rfl) ?_
      refine lv_isub hx hb dX12_off_26 ?_
      refine x_aft_z (x_runS (As := [.long v5, .int (63 - v7)]) (rest := []) C hP hS (c_X12_bitOf (l := l) C.2.2.2.2.2.2.2.2.2.1 hW rfl H.size) km_X12_bitOf ks_X12_bitOf qm_X12_427 ⟨(Nat.le_of_ble_eq_true rfl), (Nat.le_of_ble_eq_true rfl)⟩ rfl hl.1 rfl (Nat.le_of_ble_eq_true rfl) ⟨Nat.zero_le _, Nat.zero_le _⟩ dX12_off_27) hS (fun H locs hP hS hW z4 => ?_)
      refine lv_lload hx hb dX12_off_30 (lv_at hl 2 rfl) ?_
      refine lv_bipush (v := 63) hx hb dX12_off_32 kc_bipush_63 ?_
      refine x_aft_z (x_runS (As := [.long v5, .int 63]) (rest := [.int (s_X12_bitOf v5 (63 - v7) S)]) C hP hS (c_X12_bitOf (l := l) C.2.2.2.2.2.2.2.2.2.1 hW rfl H.size) km_X12_bitOf ks_X12_bitOf qm_X12_427 ⟨(Nat.le_of_ble_eq_true rfl), (Nat.le_of_ble_eq_true rfl)⟩ rfl hl.1 rfl (Nat.le_of_ble_eq_true rfl) ⟨Nat.zero_le _, Nat.zero_le _⟩ dX12_off_34) hS (fun H locs hP hS hW z5 => ?_)
      refine lv_icmp_ne (tgt := 46) hx hb dX12_off_37 (by decide) (fun c6 => ?_) (fun c6 => ?_)
      · have hf := if_f c6 hf
        exact hk46 v1 v3 v7 S H locs _ hf hP hS hW (lv_sub hl [0, 1, 3] rfl)
      · have hf := if_t c6 hf
        obtain ⟨x7, ex7, hf⟩ := bnd_e hf
        refine lv_iinc (v := x7) (lv' := [(7, .int x7), (1, .long v1), (3, .long v3), (5, .long v5)]) hx hb dX12_off_40 hl (k := 3) rfl ex7.symm (by decide) rfl (fun ls hl => ?_)
        refine lv_goto (tgt := 13) hx hb dX12_off_43 (by decide) ?_
        exact ih v1 v3 v5 x7 S H locs _ hf hP hS hW (lv_sub hl [1, 2, 3, 0] rfl)
set_option maxRecDepth 100000 in
set_option maxHeartbeats 4000000 in
theorem b_X12_off_46 {p : Program} {l : Launch} {e : Env} {s : State} {m : MethodId} {args : Array Value} {below : List Frame} {meth : Method} {c : Code} {V : EV} {G : GS} {r : Int32} {S' : HS} {F : Nat} (C : CX p s m args meth c RX12 cX12_off 8 (some .int) V G) : ∀ (v1 : Int64) (v3 : Int64) (v7 : Int32) (S : HS) (H : Heap) (locs : List Loc) (ls : Array Slot), s_X12_off_J46 F v1 v3 v7 S = some (r, S') → HP V G S H → va_S (AG G s.heap.size) s.heap H locs → WT G S → lv_has ls 8 [(1, .long v1), (3, .long v3), (7, .int v7)] → W p l e (RM 3 99) s m args below meth c H locs 0 0 (MQ below (QI V G S' r s.heap.size) args s 0 0 (AG G s.heap.size)) (F0 m 46 ls []) := by
  intro v1 v3 v7 S H locs ls hf hP hS hW hl
  have hx := C.1
  have hb := C.2.1
  unfold s_X12_off_J46 at hf
  refine lv_iload hx hb dX12_off_46 (lv_at hl 2 rfl) ?_
  refine lv_lload_n hx hb dX12_off_48 rfl (lv_at hl 0 rfl) ?_
  refine lv_lload_n hx hb dX12_off_49 rfl (lv_at hl 1 rfl) ?_
  obtain ⟨r8, er8, hf⟩ := bd1_e hf
  refine x_aft_i (x_runS (As := [.long v1, .long v3]) (rest := [.int v7]) C hP hS (c_X12_leadsOf (l := l) C.2.2.2.2.2.2.2.2.2.1 hW er8 H.size) km_X12_leadsOf ks_X12_leadsOf qm_X12_435 ⟨(Nat.le_of_ble_eq_true rfl), (Nat.le_of_ble_eq_true rfl)⟩ rfl hl.1 rfl (Nat.le_of_ble_eq_true rfl) ⟨Nat.zero_le _, Nat.zero_le _⟩ dX12_off_50) hS (fun H locs hP hS hW => ?_)
  refine lv_isub hx hb dX12_off_53 ?_
  cases hf
  exact x_reti C hP hS hW dX12_off_54
set_option maxRecDepth 100000 in
set_option maxHeartbeats 4000000 in
theorem c_X12_off {l : Launch} {V : EV} {G : GS} {S : HS} {F : Nat} {a : Nat} {p0 : Int64} {p1 : Int64} {r : Int32} {S' : HS} (hN : G.1.Nodup) (hW : WT G S) (h_a : a ∈ G.1) (k_a : G.2.1 a = 12) (hf : s_X12_off F a p0 p1 S = some (r, S')) : MetI l yX12_off cX12_off 8 .int 3 99 V G S [.ref a, .long p0, .long p1] r S' := by
  intro sz
  refine x_in RX12 rfl (by decide +kernel) hN (Nat.le_of_ble_eq_true rfl) (fun p e s m args below meth c ls hsz hargs hnm C hP hS hl => ?_)
  subst hsz
  have hx := C.1
  have hb := C.2.1
  have hl : lv_has ls 8 [(0, .ref a), (1, .long p0), (3, .long p1)] := hl
  unfold s_X12_off at hf
  refine lv_aload_n hx hb dX12_off_0 rfl (lv_at hl 0 rfl) ?_
  refine lv_iconst (v := 0) hx hb dX12_off_1 rfl ?_
  obtain ⟨S1, eS1, hf⟩ := bnd_e hf
  refine pf_X12_1 C hP hS h_a k_a eS1 dX12_off_2 (fun H locs hP hS => ?_)
  have hW : WT G S1 := by rw [eS1]; exact hW
  refine lv_lload_n hx hb dX12_off_5 rfl (lv_at hl 1 rfl) ?_
  refine lv_lload_n hx hb dX12_off_6 rfl (lv_at hl 2 rfl) ?_
  refine lv_ladd hx hb dX12_off_7 ?_
  obtain ⟨x2, ex2, hf⟩ := bnd_e hf
  refine nm_l ex2 ?_
  refine lv_lstore (lv' := [(5, .long x2), (0, .ref a), (1, .long p0), (3, .long p1)]) hx hb dX12_off_8 hl (by decide) rfl (fun ls hl => ?_)
  refine lv_iconst (v := 1) hx hb dX12_off_10 rfl ?_
  refine lv_istore (lv' := [(7, .int 1), (5, .long x2), (0, .ref a), (1, .long p0), (3, .long p1)]) hx hb dX12_off_11 hl (by decide) rfl (fun ls hl => ?_)
  exact b_X12_off_13 C (b_X12_off_46 C) F p0 p1 x2 1 S1 H locs _ hf hP hS hW (lv_sub hl [3, 4, 1, 0] rfl)
def s_X12_timesOf_J52 (N : Nat → Nat) (F : Nat) (k6 : Nat → Int64 → Int64 → Int32 → Int32 → HS → Option Int32) (v0 : Nat) (v1 : Int64) (v3 : Int64) (v6 : Int32) (w0 : Int32) (w1 : Int32) (S : HS) : Option Int32 :=
  bnd (w0 + w1 : Int32) fun x7 =>
  bnd (v6 + Int32.ofInt 1 : Int32) fun x8 =>
  k6 v0 v1 v3 x7 x8 S
def s_X12_timesOf_L6 (N : Nat → Nat) (F : Nat) : Nat → Nat → Int64 → Int64 → Int32 → Int32 → HS → Option Int32
  | 0, _, _, _, _, _, _ => none
  | n + 1, v0, v1, v3, v5, v6, S => bd1 (gR S 1217 v0) fun t1 =>
  if inB (3 : Int32) (N t1) = true then
  if (aI S t1 (3 : Int32).toNatClampNeg) ≤ v6 then
  some v5
  else
  bd1 (gR S 1225 v0) fun t4 =>
  if inB v6 (N t4) = true then
  if (lg_cmp (aJ S t4 v6.toNatClampNeg) v1) = (0 : Int32) then
  bd1 (gR S 1226 v0) fun t9 =>
  if inB v6 (N t9) = true then
  if (lg_cmp ((aJ S t9 v6.toNatClampNeg) - (aJ S t9 v6.toNatClampNeg) / 134217728 * 134217728) v3) = (0 : Int32) then
  s_X12_timesOf_J52 N F (s_X12_timesOf_L6 N F n) v0 v1 v3 v6 v5 1 S
  else
  s_X12_timesOf_J52 N F (s_X12_timesOf_L6 N F n) v0 v1 v3 v6 v5 0 S
  else none
  else
  s_X12_timesOf_J52 N F (s_X12_timesOf_L6 N F n) v0 v1 v3 v6 v5 0 S
  else none
  else none
def s_X12_timesOf (N : Nat → Nat) (F : Nat) (a : Nat) (p0 : Int64) (p1 : Int64) (S : HS) : Option Int32 :=
  s_X12_timesOf_L6 N F F a p0 p1 0 0 S
set_option maxRecDepth 100000 in
set_option maxHeartbeats 4000000 in
theorem b_X12_timesOf_52 {p : Program} {l : Launch} {e : Env} {s : State} {m : MethodId} {args : Array Value} {below : List Frame} {meth : Method} {c : Code} {V : EV} {G : GS} {r : Int32} {F : Nat} (C : CX p s m args meth c RX12 cX12_timesOf 7 (some .int) V G) {k6 : Nat → Int64 → Int64 → Int32 → Int32 → HS → Option Int32} (hk6 : ∀ (v0 : Nat) (v1 : Int64) (v3 : Int64) (v5 : Int32) (v6 : Int32) (h_v0 : v0 ∈ G.1) (k_v0 : G.2.1 v0 = 12) (S : HS) (H : Heap) (locs : List Loc) (ls : Array Slot), k6 v0 v1 v3 v5 v6 S = some r → HP V G S H → va_S (AG G s.heap.size) s.heap H locs → WT G S → lv_has ls 7 [(0, .ref v0), (1, .long v1), (3, .long v3), (5, .int v5), (6, .int v6)] → W p l e (RM 0 0) s m args below meth c H locs 0 0 (MQ below (QI V G S r s.heap.size) args s 0 0 (AG G s.heap.size)) (F0 m 6 ls [])) : ∀ (v0 : Nat) (v1 : Int64) (v3 : Int64) (v6 : Int32) (w0 : Int32) (w1 : Int32) (h_v0 : v0 ∈ G.1) (k_v0 : G.2.1 v0 = 12) (S : HS) (H : Heap) (locs : List Loc) (ls : Array Slot), s_X12_timesOf_J52 G.2.2 F k6 v0 v1 v3 v6 w0 w1 S = some r → HP V G S H → va_S (AG G s.heap.size) s.heap H locs → WT G S → lv_has ls 7 [(0, .ref v0), (1, .long v1), (3, .long v3), (6, .int v6)] → W p l e (RM 0 0) s m args below meth c H locs 0 0 (MQ below (QI V G S r s.heap.size) args s 0 0 (AG G s.heap.size)) (F0 m 52 ls [.int w1, .int w0]) := by
  intro v0 v1 v3 v6 w0 w1 h_v0 k_v0 S H locs ls hf hP hS hW hl
  have hx := C.1
  have hb := C.2.1
  unfold s_X12_timesOf_J52 at hf
  refine lv_iadd hx hb dX12_timesOf_52 ?_
  obtain ⟨x7, ex7, hf⟩ := bnd_e hf
  refine nm_i ex7 ?_
  refine lv_istore (lv' := [(5, .int x7), (0, .ref v0), (1, .long v1), (3, .long v3), (6, .int v6)]) hx hb dX12_timesOf_53 hl (by decide) rfl (fun ls hl => ?_)
  obtain ⟨x8, ex8, hf⟩ := bnd_e hf
  refine lv_iinc (v := x8) (lv' := [(6, .int x8), (5, .int x7), (0, .ref v0), (1, .long v1), (3, .long v3)]) hx hb dX12_timesOf_55 hl (k := 4) rfl ex8.symm (by decide) rfl (fun ls hl => ?_)
  refine lv_goto (tgt := 6) hx hb dX12_timesOf_58 (by decide) ?_
  exact hk6 v0 v1 v3 x7 x8 h_v0 k_v0 S H locs _ hf hP hS hW (lv_sub hl [2, 3, 4, 1, 0] rfl)
set_option maxRecDepth 100000 in
set_option maxHeartbeats 4000000 in
theorem b_X12_timesOf_6 {p : Program} {l : Launch} {e : Env} {s : State} {m : MethodId} {args : Array Value} {below : List Frame} {meth : Method} {c : Code} {V : EV} {G : GS} {r : Int32} {F : Nat} (C : CX p s m args meth c RX12 cX12_timesOf 7 (some .int) V G) : ∀ n : Nat, ∀ (v0 : Nat) (v1 : Int64) (v3 : Int64) (v5 : Int32) (v6 : Int32) (h_v0 : v0 ∈ G.1) (k_v0 : G.2.1 v0 = 12) (S : HS) (H : Heap) (locs : List Loc) (ls : Array Slot), s_X12_timesOf_L6 G.2.2 F n v0 v1 v3 v5 v6 S = some r → HP V G S H → va_S (AG G s.heap.size) s.heap H locs → WT G S → lv_has ls 7 [(0, .ref v0), (1, .long v1), (3, .long v3), (5, .int v5), (6, .int v6)] → W p l e (RM 0 0) s m args below meth c H locs 0 0 (MQ below (QI V G S r s.heap.size) args s 0 0 (AG G s.heap.size)) (F0 m 6 ls []) := by
  intro n
  induction n with
  | zero =>
    intro v0 v1 v3 v5 v6 h_v0 k_v0 S H locs ls hf
    rw [s_X12_timesOf_L6] at hf
    cases hf
  | succ n ih =>
    intro v0 v1 v3 v5 v6 h_v0 k_v0 S H locs ls hf hP hS hW hl
    have hx := C.1
    have hb := C.2.1
    rw [s_X12_timesOf_L6] at hf
    refine lv_iload hx hb dX12_timesOf_6 (lv_at hl 4 rfl) ?_
    refine lv_aload_n hx hb dX12_timesOf_8 rfl (lv_at hl 0 rfl) ?_
    refine gf_X12_95 C hP h_v0 k_v0 dX12_timesOf_9 ?_
    obtain ⟨t1, et1, hf⟩ := bd1_e hf
    obtain ⟨h_t1, k_t1⟩ := wt_r hW h_v0 k_v0 (by decide) et1
    have k_t1 : G.2.1 t1 = 14 := k_t1
    rw [et1]
    refine lv_iconst (v := 3) hx hb dX12_timesOf_12 rfl ?_
    obtain ⟨h2, hf⟩ := if_s hf
    refine x_iald C hP h_t1 k_t1 h2 dX12_timesOf_13 ?_
    refine lv_icmp_ge (tgt := 61) hx hb dX12_timesOf_14 (by decide) (fun c3 => ?_) (fun c3 => ?_)
    · have hf := if_t c3 hf
      refine lv_iload hx hb dX12_timesOf_61 (lv_at hl 3 rfl) ?_
      cases hf
      exact x_reti C hP hS hW dX12_timesOf_63
    · have hf := if_f c3 hf
      refine lv_iload hx hb dX12_timesOf_17 (lv_at hl 3 rfl) ?_
      refine lv_aload_n hx hb dX12_timesOf_19 rfl (lv_at hl 0 rfl) ?_
      refine gf_X12_102 C hP h_v0 k_v0 dX12_timesOf_20 ?_
      obtain ⟨t4, et4, hf⟩ := bd1_e hf
      obtain ⟨h_t4, k_t4⟩ := wt_r hW h_v0 k_v0 (by decide) et4
      have k_t4 : G.2.1 t4 = 15 := k_t4
      rw [et4]
      refine lv_iload hx hb dX12_timesOf_23 (lv_at hl 4 rfl) ?_
      obtain ⟨h5, hf⟩ := if_s hf
      refine x_lald C hP h_t4 k_t4 h5 dX12_timesOf_25 ?_
      refine lv_lload_n hx hb dX12_timesOf_26 rfl (lv_at hl 1 rfl) ?_
      refine W.lcmp hx hb dX12_timesOf_27 ?_
      refine lv_if_ne (tgt := 51) hx hb dX12_timesOf_28 (by decide) (fun c6 => ?_) (fun c6 => ?_)
      · have hf := if_f c6 hf
        refine lv_iconst (v := 0) hx hb dX12_timesOf_51 rfl ?_
        exact b_X12_timesOf_52 C ih v0 v1 v3 v6 v5 0 h_v0 k_v0 S H locs _ hf hP hS hW (lv_sub hl [0, 1, 2, 4] rfl)
      · have hf := if_t c6 hf
        refine lv_aload_n hx hb dX12_timesOf_31 rfl (lv_at hl 0 rfl) ?_
        refine gf_X12_105 C hP h_v0 k_v0 dX12_timesOf_32 ?_
        obtain ⟨t9, et9, hf⟩ := bd1_e hf
        obtain ⟨h_t9, k_t9⟩ := wt_r hW h_v0 k_v0 (by decide) et9
        have k_t9 : G.2.1 t9 = 15 := k_t9
        rw [et9]
        refine lv_iload hx hb dX12_timesOf_35 (lv_at hl 4 rfl) ?_
        obtain ⟨h10, hf⟩ := if_s hf
        refine x_lald C hP h_t9 k_t9 h10 dX12_timesOf_37 ?_
        refine lv_ldc2 (v := 134217728) hx hb C.2.2.2.2.1 (C.2.2.2.2.2.1 _ qc_X12_373) dX12_timesOf_38 ?_
        refine lv_lrem hx hb dX12_timesOf_41 (by decide) ?_
        refine lv_lload_n hx hb dX12_timesOf_42 rfl (lv_at hl 2 rfl) ?_
        refine W.lcmp hx hb dX12_timesOf_43 ?_
        refine lv_if_ne (tgt := 51) hx hb dX12_timesOf_44 (by decide) (fun c11 => ?_) (fun c11 => ?_)
        · have hf := if_f c11 hf
          refine lv_iconst (v := 0) hx hb dX12_timesOf_51 rfl ?_
          exact b_X12_timesOf_52 C ih v0 v1 v3 v6 v5 0 h_v0 k_v0 S H locs _ hf hP hS hW (lv_sub hl [0, 1, 2, 4] rfl)
        · have hf := if_t c11 hf
          refine lv_iconst (v := 1) hx hb dX12_timesOf_47 rfl ?_
          refine lv_goto (tgt := 52) hx hb dX12_timesOf_48 (by decide) ?_
          exact b_X12_timesOf_52 C ih v0 v1 v3 v6 v5 1 h_v0 k_v0 S H locs _ hf hP hS hW (lv_sub hl [0, 1, 2, 4] rfl)
set_option maxRecDepth 100000 in
set_option maxHeartbeats 4000000 in
theorem c_X12_timesOf {l : Launch} {V : EV} {G : GS} {S : HS} {F : Nat} {a : Nat} {p0 : Int64} {p1 : Int64} {r : Int32} (hN : G.1.Nodup) (hW : WT G S) (h_a : a ∈ G.1) (k_a : G.2.1 a = 12) (hf : s_X12_timesOf G.2.2 F a p0 p1 S = some r) : MetI l yX12_timesOf cX12_timesOf 7 .int 0 0 V G S [.ref a, .long p0, .long p1] r S := by
  intro sz
  refine x_in RX12 rfl (by decide +kernel) hN (Nat.le_of_ble_eq_true rfl) (fun p e s m args below meth c ls hsz hargs hnm C hP hS hl => ?_)
  subst hsz
  have hx := C.1
  have hb := C.2.1
  have hl : lv_has ls 7 [(0, .ref a), (1, .long p0), (3, .long p1)] := hl
  unfold s_X12_timesOf at hf
  refine lv_iconst (v := 0) hx hb dX12_timesOf_0 rfl ?_
  refine lv_istore (lv' := [(5, .int 0), (0, .ref a), (1, .long p0), (3, .long p1)]) hx hb dX12_timesOf_1 hl (by decide) rfl (fun ls hl => ?_)
  refine lv_iconst (v := 0) hx hb dX12_timesOf_3 rfl ?_
  refine lv_istore (lv' := [(6, .int 0), (5, .int 0), (0, .ref a), (1, .long p0), (3, .long p1)]) hx hb dX12_timesOf_4 hl (by decide) rfl (fun ls hl => ?_)
  exact b_X12_timesOf_6 C F a p0 p1 0 0 h_a k_a S s.heap [] _ hf hP hS hW (lv_sub hl [2, 3, 4, 1, 0] rfl)
def s_X12_often_J56 (N : Nat → Nat) (F : Nat) (k9 : Nat → Int32 → Int32 → Int32 → HS → Option (Int32 × HS)) (v0 : Nat) (v1 : Int32) (v2 : Int32) (v3 : Int32) (S : HS) : Option (Int32 × HS) :=
  bnd (v3 + Int32.ofInt 1 : Int32) fun x8 =>
  k9 v0 v1 v2 x8 S
def s_X12_often_L9 (N : Nat → Nat) (F : Nat) (k32 : Nat → Int32 → HS → Option (Int32 × HS)) : Nat → Nat → Int32 → Int32 → Int32 → HS → Option (Int32 × HS)
  | 0, _, _, _, _, _ => none
  | n + 1, v0, v1, v2, v3, S => bd1 (gR S 1217 v0) fun t2 =>
  if inB (3 : Int32) (N t2) = true then
  if (aI S t2 (3 : Int32).toNatClampNeg) ≤ v3 then
  some ((-1), S)
  else
  bd1 (s_X12_isFirst N F v0 v3 S) fun r5 =>
  if r5 = (0 : Int32) then
  s_X12_often_J56 N F (s_X12_often_L9 N F k32 n) v0 v1 v2 v3 S
  else
  if v2 = v1 then
  k32 v0 v3 S
  else
  bnd (v2 + Int32.ofInt 1 : Int32) fun x10 =>
  s_X12_often_J56 N F (s_X12_often_L9 N F k32 n) v0 v1 x10 v3 S
  else none
def s_X12_often_J32 (N : Nat → Nat) (F : Nat) (v0 : Nat) (v3 : Int32) (S : HS) : Option (Int32 × HS) :=
  bd1 (gR S 1225 v0) fun t11 =>
  if inB v3 (N t11) = true then
  bd1 (gR S 1226 v0) fun t13 =>
  if inB v3 (N t13) = true then
  bd1 (s_X12_timesOf N F v0 (aJ S t11 v3.toNatClampNeg) ((aJ S t13 v3.toNatClampNeg) - (aJ S t13 v3.toNatClampNeg) / 134217728 * 134217728) S) fun r15 =>
  some (r15, S)
  else none
  else none
def s_X12_often (N : Nat → Nat) (F : Nat) (a : Nat) (p0 : Int32) (S : HS) : Option (Int32 × HS) :=
  bnd (uI S 1200 a 0) fun S1 =>
  s_X12_often_L9 N F (s_X12_often_J32 N F) F a p0 0 0 S1
set_option maxRecDepth 100000 in
set_option maxHeartbeats 4000000 in
theorem b_X12_often_56 {p : Program} {l : Launch} {e : Env} {s : State} {m : MethodId} {args : Array Value} {below : List Frame} {meth : Method} {c : Code} {V : EV} {G : GS} {r : Int32} {S' : HS} {F : Nat} (C : CX p s m args meth c RX12 cX12_often 4 (some .int) V G) {k9 : Nat → Int32 → Int32 → Int32 → HS → Option (Int32 × HS)} (hk9 : ∀ (v0 : Nat) (v1 : Int32) (v2 : Int32) (v3 : Int32) (h_v0 : v0 ∈ G.1) (k_v0 : G.2.1 v0 = 12) (S : HS) (H : Heap) (locs : List Loc) (ls : Array Slot), k9 v0 v1 v2 v3 S = some (r, S') → HP V G S H → va_S (AG G s.heap.size) s.heap H locs → WT G S → lv_has ls 4 [(0, .ref v0), (1, .int v1), (2, .int v2), (3, .int v3)] → W p l e (RM 1 34) s m args below meth c H locs 0 0 (MQ below (QI V G S' r s.heap.size) args s 0 0 (AG G s.heap.size)) (F0 m 9 ls [])) : ∀ (v0 : Nat) (v1 : Int32) (v2 : Int32) (v3 : Int32) (h_v0 : v0 ∈ G.1) (k_v0 : G.2.1 v0 = 12) (S : HS) (H : Heap) (locs : List Loc) (ls : Array Slot), s_X12_often_J56 G.2.2 F k9 v0 v1 v2 v3 S = some (r, S') → HP V G S H → va_S (AG G s.heap.size) s.heap H locs → WT G S → lv_has ls 4 [(0, .ref v0), (1, .int v1), (2, .int v2), (3, .int v3)] → W p l e (RM 1 34) s m args below meth c H locs 0 0 (MQ below (QI V G S' r s.heap.size) args s 0 0 (AG G s.heap.size)) (F0 m 56 ls []) := by
  intro v0 v1 v2 v3 h_v0 k_v0 S H locs ls hf hP hS hW hl
  have hx := C.1
  have hb := C.2.1
  unfold s_X12_often_J56 at hf
  obtain ⟨x8, ex8, hf⟩ := bnd_e hf
  refine lv_iinc (v := x8) (lv' := [(3, .int x8), (0, .ref v0), (1, .int v1), (2, .int v2)]) hx hb dX12_often_56 hl (k := 3) rfl ex8.symm (by decide) rfl (fun ls hl => ?_)
  refine lv_goto (tgt := 9) hx hb dX12_often_59 (by decide) ?_
  exact hk9 v0 v1 v2 x8 h_v0 k_v0 S H locs _ hf hP hS hW (lv_sub hl [1, 2, 3, 0] rfl)
set_option maxRecDepth 100000 in
set_option maxHeartbeats 4000000 in
theorem b_X12_often_9 {p : Program} {l : Launch} {e : Env} {s : State} {m : MethodId} {args : Array Value} {below : List Frame} {meth : Method} {c : Code} {V : EV} {G : GS} {r : Int32} {S' : HS} {F : Nat} (C : CX p s m args meth c RX12 cX12_often 4 (some .int) V G) {k32 : Nat → Int32 → HS → Option (Int32 × HS)} (hk32 : ∀ (v0 : Nat) (v3 : Int32) (h_v0 : v0 ∈ G.1) (k_v0 : G.2.1 v0 = 12) (S : HS) (H : Heap) (locs : List Loc) (ls : Array Slot), k32 v0 v3 S = some (r, S') → HP V G S H → va_S (AG G s.heap.size) s.heap H locs → WT G S → lv_has ls 4 [(0, .ref v0), (3, .int v3)] → W p l e (RM 1 34) s m args below meth c H locs 0 0 (MQ below (QI V G S' r s.heap.size) args s 0 0 (AG G s.heap.size)) (F0 m 32 ls [])) : ∀ n : Nat, ∀ (v0 : Nat) (v1 : Int32) (v2 : Int32) (v3 : Int32) (h_v0 : v0 ∈ G.1) (k_v0 : G.2.1 v0 = 12) (S : HS) (H : Heap) (locs : List Loc) (ls : Array Slot), s_X12_often_L9 G.2.2 F k32 n v0 v1 v2 v3 S = some (r, S') → HP V G S H → va_S (AG G s.heap.size) s.heap H locs → WT G S → lv_has ls 4 [(0, .ref v0), (1, .int v1), (2, .int v2), (3, .int v3)] → W p l e (RM 1 34) s m args below meth c H locs 0 0 (MQ below (QI V G S' r s.heap.size) args s 0 0 (AG G s.heap.size)) (F0 m 9 ls []) := by
  intro n
  induction n with
  | zero =>
    intro v0 v1 v2 v3 h_v0 k_v0 S H locs ls hf
    rw [s_X12_often_L9] at hf
    cases hf
  | succ n ih =>
    intro v0 v1 v2 v3 h_v0 k_v0 S H locs ls hf hP hS hW hl
    have hx := C.1
    have hb := C.2.1
    rw [s_X12_often_L9] at hf
    refine lv_iload_n hx hb dX12_often_9 rfl (lv_at hl 3 rfl) ?_
    refine lv_aload_n hx hb dX12_often_10 rfl (lv_at hl 0 rfl) ?_
    refine gf_X12_95 C hP h_v0 k_v0 dX12_often_11 ?_
    obtain ⟨t2, et2, hf⟩ := bd1_e hf
    obtain ⟨h_t2, k_t2⟩ := wt_r hW h_v0 k_v0 (by decide) et2
    have k_t2 : G.2.1 t2 = 14 := k_t2
    rw [et2]
    refine lv_iconst (v := 3) hx hb dX12_often_14 rfl ?_
    obtain ⟨h3, hf⟩ := if_s hf
    refine x_iald C hP h_t2 k_t2 h3 dX12_often_15 ?_
    refine lv_icmp_ge (tgt := 62) hx hb dX12_often_16 (by decide) (fun c4 => ?_) (fun c4 => ?_)
    · have hf := if_t c4 hf
      refine lv_iconst (v := (-1)) hx hb dX12_often_62 rfl ?_
      cases hf
      exact x_reti C hP hS hW dX12_often_63
    · have hf := if_f c4 hf
      refine lv_aload_n hx hb dX12_often_19 rfl (lv_at hl 0 rfl) ?_
      refine lv_iload_n hx hb dX12_often_20 rfl (lv_at hl 3 rfl) ?_
      obtain ⟨r5, er5, hf⟩ := bd1_e hf
      refine x_aft_z (x_runV (As := [.int v3]) (rest := []) C hP hS (c_X12_isFirst (l := l) C.2.2.2.2.2.2.2.2.2.1 hW h_v0 k_v0 er5 H.size) h_v0 k_v0 (by decide) rfl rfl km_X12_isFirst ki_X12_isFirst qm_X12_454 ⟨(Nat.le_of_ble_eq_true rfl), (Nat.le_of_ble_eq_true rfl)⟩ rfl hl.1 rfl (Nat.le_of_ble_eq_true rfl) ⟨Nat.zero_le _, Nat.zero_le _⟩ dX12_often_21) hS (fun H locs hP hS hW z6 => ?_)
      refine lv_if_eq (tgt := 56) hx hb dX12_often_24 (by decide) (fun c7 => ?_) (fun c7 => ?_)
      · have hf := if_t c7 hf
        exact b_X12_often_56 C ih v0 v1 v2 v3 h_v0 k_v0 S H locs _ hf hP hS hW (lv_sub hl [0, 1, 2, 3] rfl)
      · have hf := if_f c7 hf
        refine lv_iload_n hx hb dX12_often_27 rfl (lv_at hl 2 rfl) ?_
        refine lv_iload_n hx hb dX12_often_28 rfl (lv_at hl 1 rfl) ?_
        refine lv_icmp_ne (tgt := 53) hx hb dX12_often_29 (by decide) (fun c9 => ?_) (fun c9 => ?_)
        · have hf := if_f c9 hf
          obtain ⟨x10, ex10, hf⟩ := bnd_e hf
          refine lv_iinc (v := x10) (lv' := [(2, .int x10), (0, .ref v0), (1, .int v1), (3, .int v3)]) hx hb dX12_often_53 hl (k := 2) rfl ex10.symm (by decide) rfl (fun ls hl => ?_)
          exact b_X12_often_56 C ih v0 v1 x10 v3 h_v0 k_v0 S H locs _ hf hP hS hW (lv_sub hl [1, 2, 0, 3] rfl)
        · have hf := if_t c9 hf
          exact hk32 v0 v3 h_v0 k_v0 S H locs _ hf hP hS hW (lv_sub hl [0, 3] rfl)
set_option maxRecDepth 100000 in
set_option maxHeartbeats 4000000 in
theorem b_X12_often_32 {p : Program} {l : Launch} {e : Env} {s : State} {m : MethodId} {args : Array Value} {below : List Frame} {meth : Method} {c : Code} {V : EV} {G : GS} {r : Int32} {S' : HS} {F : Nat} (C : CX p s m args meth c RX12 cX12_often 4 (some .int) V G) : ∀ (v0 : Nat) (v3 : Int32) (h_v0 : v0 ∈ G.1) (k_v0 : G.2.1 v0 = 12) (S : HS) (H : Heap) (locs : List Loc) (ls : Array Slot), s_X12_often_J32 G.2.2 F v0 v3 S = some (r, S') → HP V G S H → va_S (AG G s.heap.size) s.heap H locs → WT G S → lv_has ls 4 [(0, .ref v0), (3, .int v3)] → W p l e (RM 1 34) s m args below meth c H locs 0 0 (MQ below (QI V G S' r s.heap.size) args s 0 0 (AG G s.heap.size)) (F0 m 32 ls []) := by
  intro v0 v3 h_v0 k_v0 S H locs ls hf hP hS hW hl
  have hx := C.1
  have hb := C.2.1
  unfold s_X12_often_J32 at hf
  refine lv_aload_n hx hb dX12_often_32 rfl (lv_at hl 0 rfl) ?_
  refine lv_aload_n hx hb dX12_often_33 rfl (lv_at hl 0 rfl) ?_
  refine gf_X12_102 C hP h_v0 k_v0 dX12_often_34 ?_
  obtain ⟨t11, et11, hf⟩ := bd1_e hf
  obtain ⟨h_t11, k_t11⟩ := wt_r hW h_v0 k_v0 (by decide) et11
  have k_t11 : G.2.1 t11 = 15 := k_t11
  rw [et11]
  refine lv_iload_n hx hb dX12_often_37 rfl (lv_at hl 1 rfl) ?_
  obtain ⟨h12, hf⟩ := if_s hf
  refine x_lald C hP h_t11 k_t11 h12 dX12_often_38 ?_
  refine lv_aload_n hx hb dX12_often_39 rfl (lv_at hl 0 rfl) ?_
  refine gf_X12_105 C hP h_v0 k_v0 dX12_often_40 ?_
  obtain ⟨t13, et13, hf⟩ := bd1_e hf
  obtain ⟨h_t13, k_t13⟩ := wt_r hW h_v0 k_v0 (by decide) et13
  have k_t13 : G.2.1 t13 = 15 := k_t13
  rw [et13]
  refine lv_iload_n hx hb dX12_often_43 rfl (lv_at hl 1 rfl) ?_
  obtain ⟨h14, hf⟩ := if_s hf
  refine x_lald C hP h_t13 k_t13 h14 dX12_often_44 ?_
  refine lv_ldc2 (v := 134217728) hx hb C.2.2.2.2.1 (C.2.2.2.2.2.1 _ qc_X12_373) dX12_often_45 ?_
  refine lv_lrem hx hb dX12_often_48 (by decide) ?_
  obtain ⟨r15, er15, hf⟩ := bd1_e hf
  refine x_aft_i (x_runV (As := [.long (aJ S t11 v3.toNatClampNeg), .long ((aJ S t13 v3.toNatClampNeg) - (aJ S t13 v3.toNatClampNeg) / 134217728 * 134217728)]) (rest := []) C hP hS (c_X12_timesOf (l := l) C.2.2.2.2.2.2.2.2.2.1 hW h_v0 k_v0 er15 H.size) h_v0 k_v0 (by decide) rfl rfl km_X12_timesOf ki_X12_timesOf qm_X12_457 ⟨(Nat.le_of_ble_eq_true rfl), (Nat.le_of_ble_eq_true rfl)⟩ rfl hl.1 rfl (Nat.le_of_ble_eq_true rfl) ⟨Nat.zero_le _, Nat.zero_le _⟩ dX12_often_49) hS (fun H locs hP hS hW => ?_)
  cases hf
  exact x_reti C hP hS hW dX12_often_52
set_option maxRecDepth 100000 in
set_option maxHeartbeats 4000000 in
theorem c_X12_often {l : Launch} {V : EV} {G : GS} {S : HS} {F : Nat} {a : Nat} {p0 : Int32} {r : Int32} {S' : HS} (hN : G.1.Nodup) (hW : WT G S) (h_a : a ∈ G.1) (k_a : G.2.1 a = 12) (hf : s_X12_often G.2.2 F a p0 S = some (r, S')) : MetI l yX12_often cX12_often 4 .int 1 34 V G S [.ref a, .int p0] r S' := by
  intro sz
  refine x_in RX12 rfl (by decide +kernel) hN (Nat.le_of_ble_eq_true rfl) (fun p e s m args below meth c ls hsz hargs hnm C hP hS hl => ?_)
  subst hsz
  have hx := C.1
  have hb := C.2.1
  have hl : lv_has ls 4 [(0, .ref a), (1, .int p0)] := hl
  unfold s_X12_often at hf
  refine lv_aload_n hx hb dX12_often_0 rfl (lv_at hl 0 rfl) ?_
  refine lv_iconst (v := 0) hx hb dX12_often_1 rfl ?_
  obtain ⟨S1, eS1, hf⟩ := bnd_e hf
  refine pf_X12_1 C hP hS h_a k_a eS1 dX12_often_2 (fun H locs hP hS => ?_)
  have hW : WT G S1 := by rw [eS1]; exact hW
  refine lv_iconst (v := 0) hx hb dX12_often_5 rfl ?_
  refine lv_istore_n (lv' := [(2, .int 0), (0, .ref a), (1, .int p0)]) hx hb dX12_often_6 rfl hl (by decide) rfl (fun ls hl => ?_)
  refine lv_iconst (v := 0) hx hb dX12_often_7 rfl ?_
  refine lv_istore_n (lv' := [(3, .int 0), (2, .int 0), (0, .ref a), (1, .int p0)]) hx hb dX12_often_8 rfl hl (by decide) rfl (fun ls hl => ?_)
  exact b_X12_often_9 C (b_X12_often_32 C) F a p0 0 0 h_a k_a S1 H locs _ hf hP hS hW (lv_sub hl [2, 3, 1, 0] rfl)
