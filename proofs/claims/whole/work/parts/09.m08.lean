def s_X12_sumNow (N : Nat → Nat) (F : Nat) (a : Nat) (p0 : Int32) (p1 : Int32) (p2 : Int32) (S : HS) : Option (Int32 × HS) :=
  bd1 (s_X12_used N a S) fun r1 =>
  bd1 (gR S 1217 a) fun t2 =>
  if inB (1 : Int32) (N t2) = true then
  bd2 (s_X12_sums_ N F a r1 p0 p1 p2 (aI S t2 (1 : Int32).toNatClampNeg) S) fun r4 S5 =>
  some (r4, S5)
  else none
set_option maxRecDepth 100000 in
set_option maxHeartbeats 4000000 in
theorem c_X12_sumNow {l : Launch} {V : EV} {G : GS} {S : HS} {F : Nat} {a : Nat} {p0 : Int32} {p1 : Int32} {p2 : Int32} {r : Int32} {S' : HS} (hN : G.1.Nodup) (hW : WT G S) (h_a : a ∈ G.1) (k_a : G.2.1 a = 12) (hf : s_X12_sumNow G.2.2 F a p0 p1 p2 S = some (r, S')) : MetI l yX12_sumNow cX12_sumNow 4 .int 20 675 V G S [.ref a, .int p0, .int p1, .int p2] r S' := by
  intro sz
  refine x_in RX12 rfl (by decide +kernel) hN (Nat.le_of_ble_eq_true rfl) (fun p e s m args below meth c ls hsz hargs hnm C hP hS hl => ?_)
  subst hsz
  have hx := C.1
  have hb := C.2.1
  have hl : lv_has ls 4 [(0, .ref a), (1, .int p0), (2, .int p1), (3, .int p2)] := hl
  unfold s_X12_sumNow at hf
  refine lv_aload_n hx hb dX12_sumNow_0 rfl (lv_at hl 0 rfl) ?_
  refine lv_aload_n hx hb dX12_sumNow_1 rfl (lv_at hl 0 rfl) ?_
  obtain ⟨r1, er1, hf⟩ := bd1_e hf
  refine x_aft_i (x_runV (As := []) (rest := [.ref a]) C hP hS (c_X12_used (l := l) C.2.2.2.2.2.2.2.2.2.1 hW h_a k_a er1 s.heap.size) h_a k_a (by decide) rfl rfl km_X12_used ki_X12_used qm_X12_357 ⟨(Nat.le_of_ble_eq_true rfl), (Nat.le_of_ble_eq_true rfl)⟩ rfl hl.1 rfl (Nat.le_of_ble_eq_true rfl) ⟨Nat.zero_le _, Nat.zero_le _⟩ dX12_sumNow_2) hS (fun H locs hP hS hW => ?_)
  refine lv_iload_n hx hb dX12_sumNow_5 rfl (lv_at hl 1 rfl) ?_
  refine lv_iload_n hx hb dX12_sumNow_6 rfl (lv_at hl 2 rfl) ?_
  refine lv_iload_n hx hb dX12_sumNow_7 rfl (lv_at hl 3 rfl) ?_
  refine lv_aload_n hx hb dX12_sumNow_8 rfl (lv_at hl 0 rfl) ?_
  refine gf_X12_95 C hP h_a k_a dX12_sumNow_9 ?_
  obtain ⟨t2, et2, hf⟩ := bd1_e hf
  obtain ⟨h_t2, k_t2⟩ := wt_r hW h_a k_a (by decide) et2
  have k_t2 : G.2.1 t2 = 14 := k_t2
  rw [et2]
  refine lv_iconst (v := 1) hx hb dX12_sumNow_12 rfl ?_
  obtain ⟨h3, hf⟩ := if_s hf
  refine x_iald C hP h_t2 k_t2 h3 dX12_sumNow_13 ?_
  obtain ⟨r4, S5, eS5, hf⟩ := bd2_e hf
  refine x_aft_i (x_runV (As := [.int r1, .int p0, .int p1, .int p2, .int (aI S t2 (1 : Int32).toNatClampNeg)]) (rest := []) C hP hS (c_X12_sums_ (l := l) C.2.2.2.2.2.2.2.2.2.1 hW h_a k_a eS5 H.size) h_a k_a (by decide) rfl rfl km_X12_sums_ ki_X12_sums_ qm_X12_375 ⟨(Nat.le_of_ble_eq_true rfl), (Nat.le_of_ble_eq_true rfl)⟩ rfl hl.1 rfl (Nat.le_of_ble_eq_true rfl) ⟨Nat.zero_le _, Nat.zero_le _⟩ dX12_sumNow_14) hS (fun H locs hP hS hW => ?_)
  cases hf
  exact x_reti C hP hS hW dX12_sumNow_17
def s_X12_addends_J132 (N : Nat → Nat) (F : Nat) (k6 : Nat → Int32 → Int32 → Int32 → Int32 → Int32 → Int32 → HS → Option (Int32 × HS)) (v0 : Nat) (v1 : Int32) (v2 : Int32) (v3 : Int32) (v4 : Int32) (v6 : Int32) (w0 : Int32) (w1 : Int32) (S : HS) : Option (Int32 × HS) :=
  bnd (w0 + w1 : Int32) fun x10 =>
  bnd (v6 + Int32.ofInt 1 : Int32) fun x11 =>
  k6 v0 v1 v2 v3 v4 x10 x11 S
def s_X12_addends_J118 (N : Nat → Nat) (F : Nat) (k6 : Nat → Int32 → Int32 → Int32 → Int32 → Int32 → Int32 → HS → Option (Int32 × HS)) (v0 : Nat) (v1 : Int32) (v2 : Int32) (v3 : Int32) (v4 : Int32) (v5 : Int32) (v6 : Int32) (w0 : Int32) (S : HS) : Option (Int32 × HS) :=
  if w0 = (0 : Int32) then
  s_X12_addends_J132 N F k6 v0 v1 v2 v3 v4 v6 v5 0 S
  else
  s_X12_addends_J132 N F k6 v0 v1 v2 v3 v4 v6 v5 1 S
def s_X12_addends_L6 (N : Nat → Nat) (F : Nat) : Nat → Nat → Int32 → Int32 → Int32 → Int32 → Int32 → Int32 → HS → Option (Int32 × HS)
  | 0, _, _, _, _, _, _, _, _ => none
  | n + 1, v0, v1, v2, v3, v4, v5, v6, S => bd1 (s_X12_allBits N v0 S) fun r1 =>
  if r1 ≤ v6 then
  some (v5, S)
  else
  bd2 (s_X12_sumNow N F v0 v1 v2 v6 S) fun r3 S4 =>
  if v3 = (0 : Int32) then
  if ((gI S4 1220 v0) &&& 8) = (0 : Int32) then
  s_X12_addends_J118 N F (s_X12_addends_L6 N F n) v0 v1 v2 v3 v4 v5 v6 1 S4
  else
  s_X12_addends_J118 N F (s_X12_addends_L6 N F n) v0 v1 v2 v3 v4 v5 v6 0 S4
  else
  if v3 = (1 : Int32) then
  if r3 = v6 then
  s_X12_addends_J118 N F (s_X12_addends_L6 N F n) v0 v1 v2 v3 v4 v5 v6 1 S4
  else
  s_X12_addends_J118 N F (s_X12_addends_L6 N F n) v0 v1 v2 v3 v4 v5 v6 0 S4
  else
  if v3 = (2 : Int32) then
  if (gI S4 1221 v0) = (0 : Int32) then
  s_X12_addends_J118 N F (s_X12_addends_L6 N F n) v0 v1 v2 v3 v4 v5 v6 0 S4
  else
  if (gI S4 1222 v0) = (0 : Int32) then
  s_X12_addends_J118 N F (s_X12_addends_L6 N F n) v0 v1 v2 v3 v4 v5 v6 0 S4
  else
  if (gI S4 1223 v0) = (0 : Int32) then
  s_X12_addends_J118 N F (s_X12_addends_L6 N F n) v0 v1 v2 v3 v4 v5 v6 1 S4
  else
  s_X12_addends_J118 N F (s_X12_addends_L6 N F n) v0 v1 v2 v3 v4 v5 v6 0 S4
  else
  if ((gI S4 1220 v0) &&& v4) = v4 then
  s_X12_addends_J118 N F (s_X12_addends_L6 N F n) v0 v1 v2 v3 v4 v5 v6 1 S4
  else
  s_X12_addends_J118 N F (s_X12_addends_L6 N F n) v0 v1 v2 v3 v4 v5 v6 0 S4
def s_X12_addends (N : Nat → Nat) (F : Nat) (a : Nat) (p0 : Int32) (p1 : Int32) (p2 : Int32) (p3 : Int32) (S : HS) : Option (Int32 × HS) :=
  s_X12_addends_L6 N F F a p0 p1 p2 p3 0 0 S
set_option maxRecDepth 100000 in
set_option maxHeartbeats 4000000 in
theorem b_X12_addends_132 {p : Program} {l : Launch} {e : Env} {s : State} {m : MethodId} {args : Array Value} {below : List Frame} {meth : Method} {c : Code} {V : EV} {G : GS} {r : Int32} {S' : HS} {F : Nat} (C : CX p s m args meth c RX12 cX12_addends 9 (some .int) V G) {k6 : Nat → Int32 → Int32 → Int32 → Int32 → Int32 → Int32 → HS → Option (Int32 × HS)} (hk6 : ∀ (v0 : Nat) (v1 : Int32) (v2 : Int32) (v3 : Int32) (v4 : Int32) (v5 : Int32) (v6 : Int32) (h_v0 : v0 ∈ G.1) (k_v0 : G.2.1 v0 = 12) (S : HS) (H : Heap) (locs : List Loc) (ls : Array Slot), k6 v0 v1 v2 v3 v4 v5 v6 S = some (r, S') → HP V G S H → va_S (AG G s.heap.size) s.heap H locs → WT G S → lv_has ls 9 [(0, .ref v0), (1, .int v1), (2, .int v2), (3, .int v3), (4, .int v4), (5, .int v5), (6, .int v6)] → W p l e (RM 21 706) s m args below meth c H locs 0 0 (MQ below (QI V G S' r s.heap.size) args s 0 0 (AG G s.heap.size)) (F0 m 6 ls [])) : ∀ (v0 : Nat) (v1 : Int32) (v2 : Int32) (v3 : Int32) (v4 : Int32) (v6 : Int32) (w0 : Int32) (w1 : Int32) (h_v0 : v0 ∈ G.1) (k_v0 : G.2.1 v0 = 12) (S : HS) (H : Heap) (locs : List Loc) (ls : Array Slot), s_X12_addends_J132 G.2.2 F k6 v0 v1 v2 v3 v4 v6 w0 w1 S = some (r, S') → HP V G S H → va_S (AG G s.heap.size) s.heap H locs → WT G S → lv_has ls 9 [(0, .ref v0), (1, .int v1), (2, .int v2), (3, .int v3), (4, .int v4), (6, .int v6)] → W p l e (RM 21 706) s m args below meth c H locs 0 0 (MQ below (QI V G S' r s.heap.size) args s 0 0 (AG G s.heap.size)) (F0 m 132 ls [.int w1, .int w0]) := by
  intro v0 v1 v2 v3 v4 v6 w0 w1 h_v0 k_v0 S H locs ls hf hP hS hW hl
  have hx := C.1
  have hb := C.2.1
  unfold s_X12_addends_J132 at hf
  refine lv_iadd hx hb dX12_addends_132 ?_
  obtain ⟨x10, ex10, hf⟩ := bnd_e hf
  refine nm_i ex10 ?_
  refine lv_istore (lv' := [(5, .int x10), (0, .ref v0), (1, .int v1), (2, .int v2), (3, .int v3), (4, .int v4), (6, .int v6)]) hx hb dX12_addends_133 hl (by decide) rfl (fun ls hl => ?_)
  obtain ⟨x11, ex11, hf⟩ := bnd_e hf
  refine lv_iinc (v := x11) (lv' := [(6, .int x11), (5, .int x10), (0, .ref v0), (1, .int v1), (2, .int v2), (3, .int v3), (4, .int v4)]) hx hb dX12_addends_135 hl (k := 6) rfl ex11.symm (by decide) rfl (fun ls hl => ?_)
  refine lv_goto (tgt := 6) hx hb dX12_addends_138 (by decide) ?_
  exact hk6 v0 v1 v2 v3 v4 x10 x11 h_v0 k_v0 S H locs _ hf hP hS hW (lv_sub hl [2, 3, 4, 5, 6, 1, 0] rfl)
set_option maxRecDepth 100000 in
set_option maxHeartbeats 4000000 in
theorem b_X12_addends_118 {p : Program} {l : Launch} {e : Env} {s : State} {m : MethodId} {args : Array Value} {below : List Frame} {meth : Method} {c : Code} {V : EV} {G : GS} {r : Int32} {S' : HS} {F : Nat} (C : CX p s m args meth c RX12 cX12_addends 9 (some .int) V G) {k6 : Nat → Int32 → Int32 → Int32 → Int32 → Int32 → Int32 → HS → Option (Int32 × HS)} (hk6 : ∀ (v0 : Nat) (v1 : Int32) (v2 : Int32) (v3 : Int32) (v4 : Int32) (v5 : Int32) (v6 : Int32) (h_v0 : v0 ∈ G.1) (k_v0 : G.2.1 v0 = 12) (S : HS) (H : Heap) (locs : List Loc) (ls : Array Slot), k6 v0 v1 v2 v3 v4 v5 v6 S = some (r, S') → HP V G S H → va_S (AG G s.heap.size) s.heap H locs → WT G S → lv_has ls 9 [(0, .ref v0), (1, .int v1), (2, .int v2), (3, .int v3), (4, .int v4), (5, .int v5), (6, .int v6)] → W p l e (RM 21 706) s m args below meth c H locs 0 0 (MQ below (QI V G S' r s.heap.size) args s 0 0 (AG G s.heap.size)) (F0 m 6 ls [])) : ∀ (v0 : Nat) (v1 : Int32) (v2 : Int32) (v3 : Int32) (v4 : Int32) (v5 : Int32) (v6 : Int32) (w0 : Int32) (h_v0 : v0 ∈ G.1) (k_v0 : G.2.1 v0 = 12) (S : HS) (H : Heap) (locs : List Loc) (ls : Array Slot), s_X12_addends_J118 G.2.2 F k6 v0 v1 v2 v3 v4 v5 v6 w0 S = some (r, S') → HP V G S H → va_S (AG G s.heap.size) s.heap H locs → WT G S → lv_has ls 9 [(0, .ref v0), (1, .int v1), (2, .int v2), (3, .int v3), (4, .int v4), (5, .int v5), (6, .int v6)] → W p l e (RM 21 706) s m args below meth c H locs 0 0 (MQ below (QI V G S' r s.heap.size) args s 0 0 (AG G s.heap.size)) (F0 m 118 ls [.int w0]) := by
  intro v0 v1 v2 v3 v4 v5 v6 w0 h_v0 k_v0 S H locs ls hf hP hS hW hl
  have hx := C.1
  have hb := C.2.1
  unfold s_X12_addends_J118 at hf
  refine lv_istore (lv' := [(8, .int w0), (0, .ref v0), (1, .int v1), (2, .int v2), (3, .int v3), (4, .int v4), (5, .int v5), (6, .int v6)]) hx hb dX12_addends_118 hl (by decide) rfl (fun ls hl => ?_)
  refine lv_iload hx hb dX12_addends_120 (lv_at hl 6 rfl) ?_
  refine lv_iload hx hb dX12_addends_122 (lv_at hl 0 rfl) ?_
  refine lv_if_eq (tgt := 131) hx hb dX12_addends_124 (by decide) (fun c9 => ?_) (fun c9 => ?_)
  · have hf := if_t c9 hf
    refine lv_iconst (v := 0) hx hb dX12_addends_131 rfl ?_
    exact b_X12_addends_132 C hk6 v0 v1 v2 v3 v4 v6 v5 0 h_v0 k_v0 S H locs _ hf hP hS hW (lv_sub hl [1, 2, 3, 4, 5, 7] rfl)
  · have hf := if_f c9 hf
    refine lv_iconst (v := 1) hx hb dX12_addends_127 rfl ?_
    refine lv_goto (tgt := 132) hx hb dX12_addends_128 (by decide) ?_
    exact b_X12_addends_132 C hk6 v0 v1 v2 v3 v4 v6 v5 1 h_v0 k_v0 S H locs _ hf hP hS hW (lv_sub hl [1, 2, 3, 4, 5, 7] rfl)
set_option maxRecDepth 100000 in
set_option maxHeartbeats 4000000 in
theorem b_X12_addends_6 {p : Program} {l : Launch} {e : Env} {s : State} {m : MethodId} {args : Array Value} {below : List Frame} {meth : Method} {c : Code} {V : EV} {G : GS} {r : Int32} {S' : HS} {F : Nat} (C : CX p s m args meth c RX12 cX12_addends 9 (some .int) V G) : ∀ n : Nat, ∀ (v0 : Nat) (v1 : Int32) (v2 : Int32) (v3 : Int32) (v4 : Int32) (v5 : Int32) (v6 : Int32) (h_v0 : v0 ∈ G.1) (k_v0 : G.2.1 v0 = 12) (S : HS) (H : Heap) (locs : List Loc) (ls : Array Slot), s_X12_addends_L6 G.2.2 F n v0 v1 v2 v3 v4 v5 v6 S = some (r, S') → HP V G S H → va_S (AG G s.heap.size) s.heap H locs → WT G S → lv_has ls 9 [(0, .ref v0), (1, .int v1), (2, .int v2), (3, .int v3), (4, .int v4), (5, .int v5), (6, .int v6)] → W p l e (RM 21 706) s m args below meth c H locs 0 0 (MQ below (QI V G S' r s.heap.size) args s 0 0 (AG G s.heap.size)) (F0 m 6 ls []) := by
  intro n
  induction n with
  | zero =>
    intro v0 v1 v2 v3 v4 v5 v6 h_v0 k_v0 S H locs ls hf
    rw [s_X12_addends_L6] at hf
    cases hf
  | succ n ih =>
    intro v0 v1 v2 v3 v4 v5 v6 h_v0 k_v0 S H locs ls hf hP hS hW hl
    have hx := C.1
    have hb := C.2.1
    rw [s_X12_addends_L6] at hf
    refine lv_iload hx hb dX12_addends_6 (lv_at hl 6 rfl) ?_
    refine lv_aload_n hx hb dX12_addends_8 rfl (lv_at hl 0 rfl) ?_
    obtain ⟨r1, er1, hf⟩ := bd1_e hf
    refine x_aft_i (x_runV (As := []) (rest := [.int v6]) C hP hS (c_X12_allBits (l := l) C.2.2.2.2.2.2.2.2.2.1 hW h_v0 k_v0 er1 H.size) h_v0 k_v0 (by decide) rfl rfl km_X12_allBits ki_X12_allBits qm_X12_446 ⟨(Nat.le_of_ble_eq_true rfl), (Nat.le_of_ble_eq_true rfl)⟩ rfl hl.1 rfl (Nat.le_of_ble_eq_true rfl) ⟨Nat.zero_le _, Nat.zero_le _⟩ dX12_addends_9) hS (fun H locs hP hS hW => ?_)
    refine lv_icmp_ge (tgt := 141) hx hb dX12_addends_12 (by decide) (fun c2 => ?_) (fun c2 => ?_)
    · have hf := if_t c2 hf
      refine lv_iload hx hb dX12_addends_141 (lv_at hl 5 rfl) ?_
      cases hf
      exact x_reti C hP hS hW dX12_addends_143
    · have hf := if_f c2 hf
      refine lv_aload_n hx hb dX12_addends_15 rfl (lv_at hl 0 rfl) ?_
      refine lv_iload_n hx hb dX12_addends_16 rfl (lv_at hl 1 rfl) ?_
      refine lv_iload_n hx hb dX12_addends_17 rfl (lv_at hl 2 rfl) ?_
      refine lv_iload hx hb dX12_addends_18 (lv_at hl 6 rfl) ?_
      obtain ⟨r3, S4, eS4, hf⟩ := bd2_e hf
      refine x_aft_i (x_runV (As := [.int v1, .int v2, .int v6]) (rest := []) C hP hS (c_X12_sumNow (l := l) C.2.2.2.2.2.2.2.2.2.1 hW h_v0 k_v0 eS4 H.size) h_v0 k_v0 (by decide) rfl rfl km_X12_sumNow ki_X12_sumNow qm_X12_415 ⟨(Nat.le_of_ble_eq_true rfl), (Nat.le_of_ble_eq_true rfl)⟩ rfl hl.1 rfl (Nat.le_of_ble_eq_true rfl) ⟨Nat.zero_le _, Nat.zero_le _⟩ dX12_addends_20) hS (fun H locs hP hS hW => ?_)
      refine lv_istore (lv' := [(7, .int r3), (0, .ref v0), (1, .int v1), (2, .int v2), (3, .int v3), (4, .int v4), (5, .int v5), (6, .int v6)]) hx hb dX12_addends_23 hl (by decide) rfl (fun ls hl => ?_)
      refine lv_iload_n hx hb dX12_addends_25 rfl (lv_at hl 4 rfl) ?_
      refine lv_if_ne (tgt := 47) hx hb dX12_addends_26 (by decide) (fun c5 => ?_) (fun c5 => ?_)
      · have hf := if_f c5 hf
        refine lv_iload_n hx hb dX12_addends_47 rfl (lv_at hl 4 rfl) ?_
        refine lv_iconst (v := 1) hx hb dX12_addends_48 rfl ?_
        refine lv_icmp_ne (tgt := 67) hx hb dX12_addends_49 (by decide) (fun c6 => ?_) (fun c6 => ?_)
        · have hf := if_f c6 hf
          refine lv_iload_n hx hb dX12_addends_67 rfl (lv_at hl 4 rfl) ?_
          refine lv_iconst (v := 2) hx hb dX12_addends_68 rfl ?_
          refine lv_icmp_ne (tgt := 101) hx hb dX12_addends_69 (by decide) (fun c7 => ?_) (fun c7 => ?_)
          · have hf := if_f c7 hf
            refine lv_aload_n hx hb dX12_addends_101 rfl (lv_at hl 1 rfl) ?_
            refine gf_X12_315 C hP h_v0 k_v0 dX12_addends_102 ?_
            refine lv_iload hx hb dX12_addends_105 (lv_at hl 5 rfl) ?_
            refine lv_iand hx hb dX12_addends_107 ?_
            refine lv_iload hx hb dX12_addends_108 (lv_at hl 5 rfl) ?_
            refine lv_icmp_ne (tgt := 117) hx hb dX12_addends_110 (by decide) (fun c8 => ?_) (fun c8 => ?_)
            · have hf := if_f c8 hf
              refine lv_iconst (v := 0) hx hb dX12_addends_117 rfl ?_
              exact b_X12_addends_118 C ih v0 v1 v2 v3 v4 v5 v6 0 h_v0 k_v0 S4 H locs _ hf hP hS hW (lv_sub hl [1, 2, 3, 4, 5, 6, 7] rfl)
            · have hf := if_t c8 hf
              refine lv_iconst (v := 1) hx hb dX12_addends_113 rfl ?_
              refine lv_goto (tgt := 118) hx hb dX12_addends_114 (by decide) ?_
              exact b_X12_addends_118 C ih v0 v1 v2 v3 v4 v5 v6 1 h_v0 k_v0 S4 H locs _ hf hP hS hW (lv_sub hl [1, 2, 3, 4, 5, 6, 7] rfl)
          · have hf := if_t c7 hf
            refine lv_aload_n hx hb dX12_addends_72 rfl (lv_at hl 1 rfl) ?_
            refine gf_X12_312 C hP h_v0 k_v0 dX12_addends_73 ?_
            refine lv_if_eq (tgt := 97) hx hb dX12_addends_76 (by decide) (fun c12 => ?_) (fun c12 => ?_)
            · have hf := if_t c12 hf
              refine lv_iconst (v := 0) hx hb dX12_addends_97 rfl ?_
              refine lv_goto (tgt := 118) hx hb dX12_addends_98 (by decide) ?_
              exact b_X12_addends_118 C ih v0 v1 v2 v3 v4 v5 v6 0 h_v0 k_v0 S4 H locs _ hf hP hS hW (lv_sub hl [1, 2, 3, 4, 5, 6, 7] rfl)
            · have hf := if_f c12 hf
              refine lv_aload_n hx hb dX12_addends_79 rfl (lv_at hl 1 rfl) ?_
              refine gf_X12_289 C hP h_v0 k_v0 dX12_addends_80 ?_
              refine lv_if_eq (tgt := 97) hx hb dX12_addends_83 (by decide) (fun c13 => ?_) (fun c13 => ?_)
              · have hf := if_t c13 hf
                refine lv_iconst (v := 0) hx hb dX12_addends_97 rfl ?_
                refine lv_goto (tgt := 118) hx hb dX12_addends_98 (by decide) ?_
                exact b_X12_addends_118 C ih v0 v1 v2 v3 v4 v5 v6 0 h_v0 k_v0 S4 H locs _ hf hP hS hW (lv_sub hl [1, 2, 3, 4, 5, 6, 7] rfl)
              · have hf := if_f c13 hf
                refine lv_aload_n hx hb dX12_addends_86 rfl (lv_at hl 1 rfl) ?_
                refine gf_X12_293 C hP h_v0 k_v0 dX12_addends_87 ?_
                refine lv_if_ne (tgt := 97) hx hb dX12_addends_90 (by decide) (fun c14 => ?_) (fun c14 => ?_)
                · have hf := if_f c14 hf
                  refine lv_iconst (v := 0) hx hb dX12_addends_97 rfl ?_
                  refine lv_goto (tgt := 118) hx hb dX12_addends_98 (by decide) ?_
                  exact b_X12_addends_118 C ih v0 v1 v2 v3 v4 v5 v6 0 h_v0 k_v0 S4 H locs _ hf hP hS hW (lv_sub hl [1, 2, 3, 4, 5, 6, 7] rfl)
                · have hf := if_t c14 hf
                  refine lv_iconst (v := 1) hx hb dX12_addends_93 rfl ?_
                  refine lv_goto (tgt := 118) hx hb dX12_addends_94 (by decide) ?_
                  exact b_X12_addends_118 C ih v0 v1 v2 v3 v4 v5 v6 1 h_v0 k_v0 S4 H locs _ hf hP hS hW (lv_sub hl [1, 2, 3, 4, 5, 6, 7] rfl)
        · have hf := if_t c6 hf
          refine lv_iload hx hb dX12_addends_52 (lv_at hl 0 rfl) ?_
          refine lv_iload hx hb dX12_addends_54 (lv_at hl 7 rfl) ?_
          refine lv_icmp_ne (tgt := 63) hx hb dX12_addends_56 (by decide) (fun c15 => ?_) (fun c15 => ?_)
          · have hf := if_f c15 hf
            refine lv_iconst (v := 0) hx hb dX12_addends_63 rfl ?_
            refine lv_goto (tgt := 118) hx hb dX12_addends_64 (by decide) ?_
            exact b_X12_addends_118 C ih v0 v1 v2 v3 v4 v5 v6 0 h_v0 k_v0 S4 H locs _ hf hP hS hW (lv_sub hl [1, 2, 3, 4, 5, 6, 7] rfl)
          · have hf := if_t c15 hf
            refine lv_iconst (v := 1) hx hb dX12_addends_59 rfl ?_
            refine lv_goto (tgt := 118) hx hb dX12_addends_60 (by decide) ?_
            exact b_X12_addends_118 C ih v0 v1 v2 v3 v4 v5 v6 1 h_v0 k_v0 S4 H locs _ hf hP hS hW (lv_sub hl [1, 2, 3, 4, 5, 6, 7] rfl)
      · have hf := if_t c5 hf
        refine lv_aload_n hx hb dX12_addends_29 rfl (lv_at hl 1 rfl) ?_
        refine gf_X12_315 C hP h_v0 k_v0 dX12_addends_30 ?_
        refine lv_bipush (v := 8) hx hb dX12_addends_33 kc_bipush_8 ?_
        refine lv_iand hx hb dX12_addends_35 ?_
        refine lv_if_ne (tgt := 43) hx hb dX12_addends_36 (by decide) (fun c16 => ?_) (fun c16 => ?_)
        · have hf := if_f c16 hf
          refine lv_iconst (v := 0) hx hb dX12_addends_43 rfl ?_
          refine lv_goto (tgt := 118) hx hb dX12_addends_44 (by decide) ?_
          exact b_X12_addends_118 C ih v0 v1 v2 v3 v4 v5 v6 0 h_v0 k_v0 S4 H locs _ hf hP hS hW (lv_sub hl [1, 2, 3, 4, 5, 6, 7] rfl)
        · have hf := if_t c16 hf
          refine lv_iconst (v := 1) hx hb dX12_addends_39 rfl ?_
          refine lv_goto (tgt := 118) hx hb dX12_addends_40 (by decide) ?_
          exact b_X12_addends_118 C ih v0 v1 v2 v3 v4 v5 v6 1 h_v0 k_v0 S4 H locs _ hf hP hS hW (lv_sub hl [1, 2, 3, 4, 5, 6, 7] rfl)
set_option maxRecDepth 100000 in
set_option maxHeartbeats 4000000 in
theorem c_X12_addends {l : Launch} {V : EV} {G : GS} {S : HS} {F : Nat} {a : Nat} {p0 : Int32} {p1 : Int32} {p2 : Int32} {p3 : Int32} {r : Int32} {S' : HS} (hN : G.1.Nodup) (hW : WT G S) (h_a : a ∈ G.1) (k_a : G.2.1 a = 12) (hf : s_X12_addends G.2.2 F a p0 p1 p2 p3 S = some (r, S')) : MetI l yX12_addends cX12_addends 9 .int 21 706 V G S [.ref a, .int p0, .int p1, .int p2, .int p3] r S' := by
  intro sz
  refine x_in RX12 rfl (by decide +kernel) hN (Nat.le_of_ble_eq_true rfl) (fun p e s m args below meth c ls hsz hargs hnm C hP hS hl => ?_)
  subst hsz
  have hx := C.1
  have hb := C.2.1
  have hl : lv_has ls 9 [(0, .ref a), (1, .int p0), (2, .int p1), (3, .int p2), (4, .int p3)] := hl
  unfold s_X12_addends at hf
  refine lv_iconst (v := 0) hx hb dX12_addends_0 rfl ?_
  refine lv_istore (lv' := [(5, .int 0), (0, .ref a), (1, .int p0), (2, .int p1), (3, .int p2), (4, .int p3)]) hx hb dX12_addends_1 hl (by decide) rfl (fun ls hl => ?_)
  refine lv_iconst (v := 0) hx hb dX12_addends_3 rfl ?_
  refine lv_istore (lv' := [(6, .int 0), (5, .int 0), (0, .ref a), (1, .int p0), (2, .int p1), (3, .int p2), (4, .int p3)]) hx hb dX12_addends_4 hl (by decide) rfl (fun ls hl => ?_)
  exact b_X12_addends_6 C F a p0 p1 p2 p3 0 0 h_a k_a S s.heap [] _ hf hP hS hW (lv_sub hl [2, 3, 4, 5, 6, 1, 0] rfl)
def s_X12_isSign (N : Nat → Nat) (a : Nat) (p0 : Int32) (S : HS) : Option Int32 :=
  if (gI S 1208 a) = (0 : Int32) then
  bd1 (gR S 1204 a) fun t2 =>
  if inB (gI S 1207 a) (N t2) = true then
  if (aI S t2 (gI S 1207 a).toNatClampNeg) = (3 : Int32) then
  bd1 (gR S 1206 a) fun t5 =>
  if inB (gI S 1207 a) (N t5) = true then
  if (lg_cmp (aJ S t5 (gI S 1207 a).toNatClampNeg) p0.toInt64) = (0 : Int32) then
  some 1
  else
  some 0
  else none
  else
  some 0
  else none
  else
  some 0
set_option maxRecDepth 100000 in
set_option maxHeartbeats 4000000 in
theorem c_X12_isSign {l : Launch} {V : EV} {G : GS} {S : HS} {a : Nat} {p0 : Int32} {r : Int32} (hN : G.1.Nodup) (hW : WT G S) (h_a : a ∈ G.1) (k_a : G.2.1 a = 12) (hf : s_X12_isSign G.2.2 a p0 S = some r) : MetZ l yX12_isSign cX12_isSign 2 0 0 V G S [.ref a, .int p0] r S := by
  intro sz
  refine x_in RX12 rfl (by decide +kernel) hN (Nat.le_of_ble_eq_true rfl) (fun p e s m args below meth c ls hsz hargs hnm C hP hS hl => ?_)
  subst hsz
  have hx := C.1
  have hb := C.2.1
  have hl : lv_has ls 2 [(0, .ref a), (1, .int p0)] := hl
  unfold s_X12_isSign at hf
  refine lv_aload_n hx hb dX12_isSign_0 rfl (lv_at hl 0 rfl) ?_
  refine gf_X12_144 C hP h_a k_a dX12_isSign_1 ?_
  refine lv_if_ne (tgt := 39) hx hb dX12_isSign_4 (by decide) (fun c1 => ?_) (fun c1 => ?_)
  · have hf := if_f c1 hf
    refine lv_iconst (v := 0) hx hb dX12_isSign_39 rfl ?_
    cases hf
    exact x_retZ C hP hS hW isZ_0 dX12_isSign_40
  · have hf := if_t c1 hf
    refine lv_aload_n hx hb dX12_isSign_7 rfl (lv_at hl 0 rfl) ?_
    refine gf_X12_24 C hP h_a k_a dX12_isSign_8 ?_
    obtain ⟨t2, et2, hf⟩ := bd1_e hf
    obtain ⟨h_t2, k_t2⟩ := wt_r hW h_a k_a (by decide) et2
    have k_t2 : G.2.1 t2 = 14 := k_t2
    rw [et2]
    refine lv_aload_n hx hb dX12_isSign_11 rfl (lv_at hl 0 rfl) ?_
    refine gf_X12_141 C hP h_a k_a dX12_isSign_12 ?_
    obtain ⟨h3, hf⟩ := if_s hf
    refine x_iald C hP h_t2 k_t2 h3 dX12_isSign_15 ?_
    refine lv_iconst (v := 3) hx hb dX12_isSign_16 rfl ?_
    refine lv_icmp_ne (tgt := 39) hx hb dX12_isSign_17 (by decide) (fun c4 => ?_) (fun c4 => ?_)
    · have hf := if_f c4 hf
      refine lv_iconst (v := 0) hx hb dX12_isSign_39 rfl ?_
      cases hf
      exact x_retZ C hP hS hW isZ_0 dX12_isSign_40
    · have hf := if_t c4 hf
      refine lv_aload_n hx hb dX12_isSign_20 rfl (lv_at hl 0 rfl) ?_
      refine gf_X12_30 C hP h_a k_a dX12_isSign_21 ?_
      obtain ⟨t5, et5, hf⟩ := bd1_e hf
      obtain ⟨h_t5, k_t5⟩ := wt_r hW h_a k_a (by decide) et5
      have k_t5 : G.2.1 t5 = 15 := k_t5
      rw [et5]
      refine lv_aload_n hx hb dX12_isSign_24 rfl (lv_at hl 0 rfl) ?_
      refine gf_X12_141 C hP h_a k_a dX12_isSign_25 ?_
      obtain ⟨h6, hf⟩ := if_s hf
      refine x_lald C hP h_t5 k_t5 h6 dX12_isSign_28 ?_
      refine lv_iload_n hx hb dX12_isSign_29 rfl (lv_at hl 1 rfl) ?_
      refine lv_i2l hx hb dX12_isSign_30 rfl ?_
      refine W.lcmp hx hb dX12_isSign_31 ?_
      refine lv_if_ne (tgt := 39) hx hb dX12_isSign_32 (by decide) (fun c7 => ?_) (fun c7 => ?_)
      · have hf := if_f c7 hf
        refine lv_iconst (v := 0) hx hb dX12_isSign_39 rfl ?_
        cases hf
        exact x_retZ C hP hS hW isZ_0 dX12_isSign_40
      · have hf := if_t c7 hf
        refine lv_iconst (v := 1) hx hb dX12_isSign_35 rfl ?_
        refine lv_goto (tgt := 40) hx hb dX12_isSign_36 (by decide) ?_
        cases hf
        exact x_retZ C hP hS hW isZ_1 dX12_isSign_40
def s_X12_hasSign_J20 (N : Nat → Nat) (v2 : Int32) (w0 : Nat) (w1 : Int32) (w2 : Int32) (S : HS) : Option (Int32 × HS) :=
  bnd (uI S 1207 w0 (w1 + w2)) fun S4 =>
  if isZ v2 = true then
  some (v2, S4)
  else none
def s_X12_hasSign (N : Nat → Nat) (a : Nat) (p0 : Int32) (S : HS) : Option (Int32 × HS) :=
  bd1 (s_X12_isSign N a p0 S) fun r1 =>
  if r1 = (0 : Int32) then
  s_X12_hasSign_J20 N r1 a (gI S 1207 a) 0 S
  else
  s_X12_hasSign_J20 N r1 a (gI S 1207 a) 1 S
set_option maxRecDepth 100000 in
set_option maxHeartbeats 4000000 in
theorem b_X12_hasSign_20 {p : Program} {l : Launch} {e : Env} {s : State} {m : MethodId} {args : Array Value} {below : List Frame} {meth : Method} {c : Code} {V : EV} {G : GS} {r : Int32} {S' : HS} (C : CX p s m args meth c RX12 cX12_hasSign 3 (some .boolean) V G) : ∀ (v2 : Int32) (w0 : Nat) (w1 : Int32) (w2 : Int32) (h_w0 : w0 ∈ G.1) (k_w0 : G.2.1 w0 = 12) (S : HS) (H : Heap) (locs : List Loc) (ls : Array Slot), s_X12_hasSign_J20 G.2.2 v2 w0 w1 w2 S = some (r, S') → HP V G S H → va_S (AG G s.heap.size) s.heap H locs → WT G S → lv_has ls 3 [(2, .int v2)] → W p l e (RM 1 29) s m args below meth c H locs 0 0 (MQ below (QZ V G S' r s.heap.size) args s 0 0 (AG G s.heap.size)) (F0 m 20 ls [.int w2, .int w1, .ref w0]) := by
  intro v2 w0 w1 w2 h_w0 k_w0 S H locs ls hf hP hS hW hl
  have hx := C.1
  have hb := C.2.1
  unfold s_X12_hasSign_J20 at hf
  refine lv_iadd hx hb dX12_hasSign_20 ?_
  obtain ⟨S4, eS4, hf⟩ := bnd_e hf
  refine pf_X12_141 C hP hS h_w0 k_w0 eS4 dX12_hasSign_21 (fun H locs hP hS => ?_)
  have hW : WT G S4 := by rw [eS4]; exact hW
  refine lv_iload_n hx hb dX12_hasSign_24 rfl (lv_at hl 0 rfl) ?_
  obtain ⟨h5, hf⟩ := if_s hf
  cases hf
  exact x_retZ C hP hS hW h5 dX12_hasSign_25
set_option maxRecDepth 100000 in
set_option maxHeartbeats 4000000 in
theorem c_X12_hasSign {l : Launch} {V : EV} {G : GS} {S : HS} {a : Nat} {p0 : Int32} {r : Int32} {S' : HS} (hN : G.1.Nodup) (hW : WT G S) (h_a : a ∈ G.1) (k_a : G.2.1 a = 12) (hf : s_X12_hasSign G.2.2 a p0 S = some (r, S')) : MetZ l yX12_hasSign cX12_hasSign 3 1 29 V G S [.ref a, .int p0] r S' := by
  intro sz
  refine x_in RX12 rfl (by decide +kernel) hN (Nat.le_of_ble_eq_true rfl) (fun p e s m args below meth c ls hsz hargs hnm C hP hS hl => ?_)
  subst hsz
  have hx := C.1
  have hb := C.2.1
  have hl : lv_has ls 3 [(0, .ref a), (1, .int p0)] := hl
  unfold s_X12_hasSign at hf
  refine lv_aload_n hx hb dX12_hasSign_0 rfl (lv_at hl 0 rfl) ?_
  refine lv_iload_n hx hb dX12_hasSign_1 rfl (lv_at hl 1 rfl) ?_
  obtain ⟨r1, er1, hf⟩ := bd1_e hf
  refine x_aft_z (x_runV (As := [.int p0]) (rest := []) C hP hS (c_X12_isSign (l := l) C.2.2.2.2.2.2.2.2.2.1 hW h_a k_a er1 s.heap.size) h_a k_a (by decide) rfl rfl km_X12_isSign ki_X12_isSign qm_X12_147 ⟨(Nat.le_of_ble_eq_true rfl), (Nat.le_of_ble_eq_true rfl)⟩ rfl hl.1 rfl (Nat.le_of_ble_eq_true rfl) ⟨Nat.zero_le _, Nat.zero_le _⟩ dX12_hasSign_2) hS (fun H locs hP hS hW z2 => ?_)
  refine lv_istore_n (lv' := [(2, .int r1), (0, .ref a), (1, .int p0)]) hx hb dX12_hasSign_5 rfl hl (by decide) rfl (fun ls hl => ?_)
  refine lv_aload_n hx hb dX12_hasSign_6 rfl (lv_at hl 1 rfl) ?_
  refine lv_dup hx hb dX12_hasSign_7 rfl ?_
  refine gf_X12_141 C hP h_a k_a dX12_hasSign_8 ?_
  refine lv_iload_n hx hb dX12_hasSign_11 rfl (lv_at hl 0 rfl) ?_
  refine lv_if_eq (tgt := 19) hx hb dX12_hasSign_12 (by decide) (fun c3 => ?_) (fun c3 => ?_)
  · have hf := if_t c3 hf
    refine lv_iconst (v := 0) hx hb dX12_hasSign_19 rfl ?_
    exact b_X12_hasSign_20 C r1 a (gI S 1207 a) 0 h_a k_a S H locs _ hf hP hS hW (lv_sub hl [0] rfl)
  · have hf := if_f c3 hf
    refine lv_iconst (v := 1) hx hb dX12_hasSign_15 rfl ?_
    refine lv_goto (tgt := 20) hx hb dX12_hasSign_16 (by decide) ?_
    exact b_X12_hasSign_20 C r1 a (gI S 1207 a) 1 h_a k_a S H locs _ hf hP hS hW (lv_sub hl [0] rfl)
def s_X12_emit (N : Nat → Nat) (a : Nat) (p0 : Int32) (p1 : Int32) (S : HS) : Option HS :=
  bd1 (gR S 1211 a) fun t1 =>
  if inB (1100 + (gI S 1212 a)) (N t1) = true then
  bnd (wI S t1 ((1100 + (gI S 1212 a)).toNatClampNeg) (p0 + (16 * p1))) fun S3 =>
  bnd (uI S3 1212 a ((gI S3 1212 a) + 1)) fun S4 =>
  some S4
  else none
set_option maxRecDepth 100000 in
set_option maxHeartbeats 4000000 in
theorem c_X12_emit {l : Launch} {V : EV} {G : GS} {S : HS} {a : Nat} {p0 : Int32} {p1 : Int32} {S' : HS} (hN : G.1.Nodup) (hW : WT G S) (h_a : a ∈ G.1) (k_a : G.2.1 a = 12) (hf : s_X12_emit G.2.2 a p0 p1 S = some S') : MetV l yX12_emit cX12_emit 3 0 0 V G S [.ref a, .int p0, .int p1] S' := by
  intro sz
  refine x_in RX12 rfl (by decide +kernel) hN (Nat.le_of_ble_eq_true rfl) (fun p e s m args below meth c ls hsz hargs hnm C hP hS hl => ?_)
  subst hsz
  have hx := C.1
  have hb := C.2.1
  have hl : lv_has ls 3 [(0, .ref a), (1, .int p0), (2, .int p1)] := hl
  unfold s_X12_emit at hf
  refine lv_aload_n hx hb dX12_emit_0 rfl (lv_at hl 0 rfl) ?_
  refine gf_X12_80 C hP h_a k_a dX12_emit_1 ?_
  obtain ⟨t1, et1, hf⟩ := bd1_e hf
  obtain ⟨h_t1, k_t1⟩ := wt_r hW h_a k_a (by decide) et1
  have k_t1 : G.2.1 t1 = 14 := k_t1
  rw [et1]
  refine lv_sipush (v := 1100) hx hb dX12_emit_4 kc_sipush_1100 ?_
  refine lv_aload_n hx hb dX12_emit_7 rfl (lv_at hl 0 rfl) ?_
  refine gf_X12_179 C hP h_a k_a dX12_emit_8 ?_
  refine lv_iadd hx hb dX12_emit_11 ?_
  refine lv_iload_n hx hb dX12_emit_12 rfl (lv_at hl 1 rfl) ?_
  refine lv_bipush (v := 16) hx hb dX12_emit_13 kc_bipush_16 ?_
  refine lv_iload_n hx hb dX12_emit_15 rfl (lv_at hl 2 rfl) ?_
  refine lv_imul hx hb dX12_emit_16 ?_
  refine lv_iadd hx hb dX12_emit_17 ?_
  obtain ⟨h2, hf⟩ := if_s hf
  obtain ⟨S3, eS3, hf⟩ := bnd_e hf
  refine x_iast C hP hS h_t1 k_t1 h2 eS3 dX12_emit_18 (fun H locs hP hS => ?_)
  have hW : WT G S3 := by rw [eS3]; exact hW
  refine lv_aload_n hx hb dX12_emit_19 rfl (lv_at hl 0 rfl) ?_
  refine lv_dup hx hb dX12_emit_20 rfl ?_
  refine gf_X12_179 C hP h_a k_a dX12_emit_21 ?_
  refine lv_iconst (v := 1) hx hb dX12_emit_24 rfl ?_
  refine lv_iadd hx hb dX12_emit_25 ?_
  obtain ⟨S4, eS4, hf⟩ := bnd_e hf
  refine pf_X12_179 C hP hS h_a k_a eS4 dX12_emit_26 (fun H locs hP hS => ?_)
  have hW : WT G S4 := by rw [eS4]; exact hW
  cases hf
  exact x_retv C hP hS hW dX12_emit_29
def s_X12_products_L5 (N : Nat → Nat) (F : Nat) (rp : Nat → Int32 → HS → Option HS) : Nat → Nat → Int32 → HS → Option HS
  | 0, _, _, _ => none
  | n + 1, v0, v1, S => bd2 (s_X12_hasSign N v0 42 S) fun r2 S3 =>
  if r2 = (0 : Int32) then
  some S3
  else
  bd1 (rp v0 v1 S3) fun S6 =>
  bd1 (s_X12_emit N v0 6 0 S6) fun S7 =>
  s_X12_products_L5 N F rp n v0 v1 S7
def s_X12_products (N : Nat → Nat) (F : Nat) (rp : Nat → Int32 → HS → Option HS) (a : Nat) (p0 : Int32) (S : HS) : Option HS :=
  bd1 (rp a p0 S) fun S1 =>
  s_X12_products_L5 N F rp F a p0 S1
set_option maxRecDepth 100000 in
set_option maxHeartbeats 4000000 in
theorem b_X12_products_5 {p : Program} {l : Launch} {e : Env} {s : State} {m : MethodId} {args : Array Value} {below : List Frame} {meth : Method} {c : Code} {V : EV} {G : GS} {S' : HS} {F : Nat} {fr lo : Nat} {rp : Nat → Int32 → HS → Option HS} (hrp : ∀ (this : Nat) (q0 : Int32), ∀ {S S1 : HS}, WT G S → this ∈ G.1 → G.2.1 this = 12 → rp this q0 S = some S1 → MetV l yX12_takePart cX12_takePart 4 fr lo V G S [.ref this, .int q0] S1) (C : CX p s m args meth c RX12 cX12_products 2 none V G) : ∀ n : Nat, ∀ (v0 : Nat) (v1 : Int32) (h_v0 : v0 ∈ G.1) (k_v0 : G.2.1 v0 = 12) (S : HS) (H : Heap) (locs : List Loc) (ls : Array Slot), s_X12_products_L5 G.2.2 F rp n v0 v1 S = some S' → HP V G S H → va_S (AG G s.heap.size) s.heap H locs → WT G S → lv_has ls 2 [(0, .ref v0), (1, .int v1)] → W p l e (RM (fr + 2) (lo + 59)) s m args below meth c H locs 0 0 (MQ below (QV V G S' s.heap.size) args s 0 0 (AG G s.heap.size)) (F0 m 5 ls []) := by
  intro n
  induction n with
  | zero =>
    intro v0 v1 h_v0 k_v0 S H locs ls hf
    rw [s_X12_products_L5] at hf
    cases hf
  | succ n ih =>
    intro v0 v1 h_v0 k_v0 S H locs ls hf hP hS hW hl
    have hx := C.1
    have hb := C.2.1
    rw [s_X12_products_L5] at hf
    refine lv_aload_n hx hb dX12_products_5 rfl (lv_at hl 0 rfl) ?_
    refine lv_bipush (v := 42) hx hb dX12_products_6 kc_bipush_42 ?_
    obtain ⟨r2, S3, eS3, hf⟩ := bd2_e hf
    refine x_aft_z (x_runV (As := [.int 42]) (rest := []) C hP hS (c_X12_hasSign (l := l) C.2.2.2.2.2.2.2.2.2.1 hW h_v0 k_v0 eS3 H.size) h_v0 k_v0 (by decide) rfl rfl km_X12_hasSign ki_X12_hasSign qm_X12_228 ⟨(by show _ ≤ _; simp only [RM]; omega), (by show _ ≤ _; simp only [RM]; omega)⟩ rfl hl.1 rfl (Nat.le_of_ble_eq_true rfl) ⟨Nat.zero_le _, Nat.zero_le _⟩ dX12_products_8) hS (fun H locs hP hS hW z4 => ?_)
    refine lv_if_eq (tgt := 29) hx hb dX12_products_11 (by decide) (fun c5 => ?_) (fun c5 => ?_)
    · have hf := if_t c5 hf
      cases hf
      exact x_retv C hP hS hW dX12_products_29
    · have hf := if_f c5 hf
      refine lv_aload_n hx hb dX12_products_14 rfl (lv_at hl 0 rfl) ?_
      refine lv_iload_n hx hb dX12_products_15 rfl (lv_at hl 1 rfl) ?_
      obtain ⟨S6, eS6, hf⟩ := bd1_e hf
      refine x_aft_v (x_runV (As := [.int v1]) (rest := []) C hP hS (hrp v0 v1 hW h_v0 k_v0 eS6 H.size) h_v0 k_v0 (by decide) rfl rfl km_X12_takePart ki_X12_takePart qm_X12_234 ⟨(by show _ ≤ _; simp only [RM]; omega), (by show _ ≤ _; simp only [RM]; omega)⟩ rfl hl.1 rfl (Nat.le_of_ble_eq_true rfl) ⟨Nat.zero_le _, Nat.zero_le _⟩ dX12_products_16) hS (fun H locs hP hS hW => ?_)
      refine lv_aload_n hx hb dX12_products_19 rfl (lv_at hl 0 rfl) ?_
      refine lv_bipush (v := 6) hx hb dX12_products_20 kc_bipush_6 ?_
      refine lv_iconst (v := 0) hx hb dX12_products_22 rfl ?_
      obtain ⟨S7, eS7, hf⟩ := bd1_e hf
      refine x_aft_v (x_runV (As := [.int 6, .int 0]) (rest := []) C hP hS (c_X12_emit (l := l) C.2.2.2.2.2.2.2.2.2.1 hW h_v0 k_v0 eS7 H.size) h_v0 k_v0 (by decide) rfl rfl km_X12_emit ki_X12_emit qm_X12_205 ⟨(by show _ ≤ _; simp only [RM]; omega), (by show _ ≤ _; simp only [RM]; omega)⟩ rfl hl.1 rfl (Nat.le_of_ble_eq_true rfl) ⟨Nat.zero_le _, Nat.zero_le _⟩ dX12_products_23) hS (fun H locs hP hS hW => ?_)
      refine lv_goto (tgt := 5) hx hb dX12_products_26 (by decide) ?_
      exact ih v0 v1 h_v0 k_v0 S7 H locs _ hf hP hS hW (lv_sub hl [0, 1] rfl)
set_option maxRecDepth 100000 in
set_option maxHeartbeats 4000000 in
theorem c_X12_products {l : Launch} {V : EV} {G : GS} {S : HS} {F : Nat} {a : Nat} {p0 : Int32} {S' : HS} (hN : G.1.Nodup) (hW : WT G S) {fr lo : Nat} {rp : Nat → Int32 → HS → Option HS} (hrp : ∀ (this : Nat) (q0 : Int32), ∀ {S S1 : HS}, WT G S → this ∈ G.1 → G.2.1 this = 12 → rp this q0 S = some S1 → MetV l yX12_takePart cX12_takePart 4 fr lo V G S [.ref this, .int q0] S1) (h_a : a ∈ G.1) (k_a : G.2.1 a = 12) (hf : s_X12_products G.2.2 F rp a p0 S = some S') : MetV l yX12_products cX12_products 2 (fr + 2) (lo + 59) V G S [.ref a, .int p0] S' := by
  intro sz
  refine x_in RX12 rfl (by decide +kernel) hN (Nat.le_of_ble_eq_true rfl) (fun p e s m args below meth c ls hsz hargs hnm C hP hS hl => ?_)
  subst hsz
  have hx := C.1
  have hb := C.2.1
  have hl : lv_has ls 2 [(0, .ref a), (1, .int p0)] := hl
  unfold s_X12_products at hf
  refine lv_aload_n hx hb dX12_products_0 rfl (lv_at hl 0 rfl) ?_
  refine lv_iload_n hx hb dX12_products_1 rfl (lv_at hl 1 rfl) ?_
  obtain ⟨S1, eS1, hf⟩ := bd1_e hf
  refine x_aft_v (x_runV (As := [.int p0]) (rest := []) C hP hS (hrp a p0 hW h_a k_a eS1 s.heap.size) h_a k_a (by decide) rfl rfl km_X12_takePart ki_X12_takePart qm_X12_234 ⟨(by show _ ≤ _; simp only [RM]; omega), (by show _ ≤ _; simp only [RM]; omega)⟩ rfl hl.1 rfl (Nat.le_of_ble_eq_true rfl) ⟨Nat.zero_le _, Nat.zero_le _⟩ dX12_products_2) hS (fun H locs hP hS hW => ?_)
  exact b_X12_products_5 hrp C F a p0 h_a k_a S1 H locs _ hf hP hS hW (lv_sub hl [0, 1] rfl)
def s_X12_sums_J55 (N : Nat → Nat) (F : Nat) (rp : Nat → Int32 → HS → Option HS) (k5 : Nat → Int32 → HS → Option HS) (v0 : Nat) (v1 : Int32) (w0 : Nat) (w1 : Int32) (S : HS) : Option HS :=
  bd1 (s_X12_emit N w0 w1 0 S) fun S10 =>
  k5 v0 v1 S10
def s_X12_sums_J23 (N : Nat → Nat) (F : Nat) (rp : Nat → Int32 → HS → Option HS) (k5 : Nat → Int32 → HS → Option HS) (v0 : Nat) (v1 : Int32) (S : HS) : Option HS :=
  bd1 (s_X12_isSign N v0 43 S) fun r5 =>
  bnd (uI S 1207 v0 ((gI S 1207 v0) + 1)) fun S7 =>
  bd1 (s_X12_products N F rp v0 v1 S7) fun S8 =>
  if r5 = (0 : Int32) then
  s_X12_sums_J55 N F rp k5 v0 v1 v0 5 S8
  else
  s_X12_sums_J55 N F rp k5 v0 v1 v0 4 S8
def s_X12_sums_L5 (N : Nat → Nat) (F : Nat) (rp : Nat → Int32 → HS → Option HS) : Nat → Nat → Int32 → HS → Option HS
  | 0, _, _, _ => none
  | n + 1, v0, v1, S => bd1 (s_X12_isSign N v0 43 S) fun r2 =>
  if r2 = (0 : Int32) then
  bd1 (s_X12_isSign N v0 45 S) fun r11 =>
  if r11 = (0 : Int32) then
  some S
  else
  s_X12_sums_J23 N F rp (s_X12_sums_L5 N F rp n) v0 v1 S
  else
  s_X12_sums_J23 N F rp (s_X12_sums_L5 N F rp n) v0 v1 S
def s_X12_sums (N : Nat → Nat) (F : Nat) (rp : Nat → Int32 → HS → Option HS) (a : Nat) (p0 : Int32) (S : HS) : Option HS :=
  bd1 (s_X12_products N F rp a p0 S) fun S1 =>
  s_X12_sums_L5 N F rp F a p0 S1
set_option maxRecDepth 100000 in
set_option maxHeartbeats 4000000 in
theorem b_X12_sums_55 {p : Program} {l : Launch} {e : Env} {s : State} {m : MethodId} {args : Array Value} {below : List Frame} {meth : Method} {c : Code} {V : EV} {G : GS} {S' : HS} {F : Nat} {fr lo : Nat} {rp : Nat → Int32 → HS → Option HS} (hrp : ∀ (this : Nat) (q0 : Int32), ∀ {S S1 : HS}, WT G S → this ∈ G.1 → G.2.1 this = 12 → rp this q0 S = some S1 → MetV l yX12_takePart cX12_takePart 4 fr lo V G S [.ref this, .int q0] S1) (C : CX p s m args meth c RX12 cX12_sums 3 none V G) {k5 : Nat → Int32 → HS → Option HS} (hk5 : ∀ (v0 : Nat) (v1 : Int32) (h_v0 : v0 ∈ G.1) (k_v0 : G.2.1 v0 = 12) (S : HS) (H : Heap) (locs : List Loc) (ls : Array Slot), k5 v0 v1 S = some S' → HP V G S H → va_S (AG G s.heap.size) s.heap H locs → WT G S → lv_has ls 3 [(0, .ref v0), (1, .int v1)] → W p l e (RM (fr + 3) (lo + 88)) s m args below meth c H locs 0 0 (MQ below (QV V G S' s.heap.size) args s 0 0 (AG G s.heap.size)) (F0 m 5 ls [])) : ∀ (v0 : Nat) (v1 : Int32) (w0 : Nat) (w1 : Int32) (h_v0 : v0 ∈ G.1) (k_v0 : G.2.1 v0 = 12) (h_w0 : w0 ∈ G.1) (k_w0 : G.2.1 w0 = 12) (S : HS) (H : Heap) (locs : List Loc) (ls : Array Slot), s_X12_sums_J55 G.2.2 F rp k5 v0 v1 w0 w1 S = some S' → HP V G S H → va_S (AG G s.heap.size) s.heap H locs → WT G S → lv_has ls 3 [(0, .ref v0), (1, .int v1)] → W p l e (RM (fr + 3) (lo + 88)) s m args below meth c H locs 0 0 (MQ below (QV V G S' s.heap.size) args s 0 0 (AG G s.heap.size)) (F0 m 55 ls [.int w1, .ref w0]) := by
  intro v0 v1 w0 w1 h_v0 k_v0 h_w0 k_w0 S H locs ls hf hP hS hW hl
  have hx := C.1
  have hb := C.2.1
  unfold s_X12_sums_J55 at hf
  refine lv_iconst (v := 0) hx hb dX12_sums_55 rfl ?_
  obtain ⟨S10, eS10, hf⟩ := bd1_e hf
  refine x_aft_v (x_runV (As := [.int w1, .int 0]) (rest := []) C hP hS (c_X12_emit (l := l) C.2.2.2.2.2.2.2.2.2.1 hW h_w0 k_w0 eS10 H.size) h_w0 k_w0 (by decide) rfl rfl km_X12_emit ki_X12_emit qm_X12_205 ⟨(by show _ ≤ _; simp only [RM]; omega), (by show _ ≤ _; simp only [RM]; omega)⟩ rfl hl.1 rfl (Nat.le_of_ble_eq_true rfl) ⟨Nat.zero_le _, Nat.zero_le _⟩ dX12_sums_56) hS (fun H locs hP hS hW => ?_)
  refine lv_goto (tgt := 5) hx hb dX12_sums_59 (by decide) ?_
  exact hk5 v0 v1 h_v0 k_v0 S10 H locs _ hf hP hS hW (lv_sub hl [0, 1] rfl)
set_option maxRecDepth 100000 in
set_option maxHeartbeats 4000000 in
theorem b_X12_sums_23 {p : Program} {l : Launch} {e : Env} {s : State} {m : MethodId} {args : Array Value} {below : List Frame} {meth : Method} {c : Code} {V : EV} {G : GS} {S' : HS} {F : Nat} {fr lo : Nat} {rp : Nat → Int32 → HS → Option HS} (hrp : ∀ (this : Nat) (q0 : Int32), ∀ {S S1 : HS}, WT G S → this ∈ G.1 → G.2.1 this = 12 → rp this q0 S = some S1 → MetV l yX12_takePart cX12_takePart 4 fr lo V G S [.ref this, .int q0] S1) (C : CX p s m args meth c RX12 cX12_sums 3 none V G) {k5 : Nat → Int32 → HS → Option HS} (hk5 : ∀ (v0 : Nat) (v1 : Int32) (h_v0 : v0 ∈ G.1) (k_v0 : G.2.1 v0 = 12) (S : HS) (H : Heap) (locs : List Loc) (ls : Array Slot), k5 v0 v1 S = some S' → HP V G S H → va_S (AG G s.heap.size) s.heap H locs → WT G S → lv_has ls 3 [(0, .ref v0), (1, .int v1)] → W p l e (RM (fr + 3) (lo + 88)) s m args below meth c H locs 0 0 (MQ below (QV V G S' s.heap.size) args s 0 0 (AG G s.heap.size)) (F0 m 5 ls [])) : ∀ (v0 : Nat) (v1 : Int32) (h_v0 : v0 ∈ G.1) (k_v0 : G.2.1 v0 = 12) (S : HS) (H : Heap) (locs : List Loc) (ls : Array Slot), s_X12_sums_J23 G.2.2 F rp k5 v0 v1 S = some S' → HP V G S H → va_S (AG G s.heap.size) s.heap H locs → WT G S → lv_has ls 3 [(0, .ref v0), (1, .int v1)] → W p l e (RM (fr + 3) (lo + 88)) s m args below meth c H locs 0 0 (MQ below (QV V G S' s.heap.size) args s 0 0 (AG G s.heap.size)) (F0 m 23 ls []) := by
  intro v0 v1 h_v0 k_v0 S H locs ls hf hP hS hW hl
  have hx := C.1
  have hb := C.2.1
  unfold s_X12_sums_J23 at hf
  refine lv_aload_n hx hb dX12_sums_23 rfl (lv_at hl 0 rfl) ?_
  refine lv_bipush (v := 43) hx hb dX12_sums_24 kc_bipush_43 ?_
  obtain ⟨r5, er5, hf⟩ := bd1_e hf
  refine x_aft_z (x_runV (As := [.int 43]) (rest := []) C hP hS (c_X12_isSign (l := l) C.2.2.2.2.2.2.2.2.2.1 hW h_v0 k_v0 er5 H.size) h_v0 k_v0 (by decide) rfl rfl km_X12_isSign ki_X12_isSign qm_X12_147 ⟨(by show _ ≤ _; simp only [RM]; omega), (by show _ ≤ _; simp only [RM]; omega)⟩ rfl hl.1 rfl (Nat.le_of_ble_eq_true rfl) ⟨Nat.zero_le _, Nat.zero_le _⟩ dX12_sums_26) hS (fun H locs hP hS hW z6 => ?_)
  refine lv_istore_n (lv' := [(2, .int r5), (0, .ref v0), (1, .int v1)]) hx hb dX12_sums_29 rfl hl (by decide) rfl (fun ls hl => ?_)
  refine lv_aload_n hx hb dX12_sums_30 rfl (lv_at hl 1 rfl) ?_
  refine lv_dup hx hb dX12_sums_31 rfl ?_
  refine gf_X12_141 C hP h_v0 k_v0 dX12_sums_32 ?_
  refine lv_iconst (v := 1) hx hb dX12_sums_35 rfl ?_
  refine lv_iadd hx hb dX12_sums_36 ?_
  obtain ⟨S7, eS7, hf⟩ := bnd_e hf
  refine pf_X12_141 C hP hS h_v0 k_v0 eS7 dX12_sums_37 (fun H locs hP hS => ?_)
  have hW : WT G S7 := by rw [eS7]; exact hW
  refine lv_aload_n hx hb dX12_sums_40 rfl (lv_at hl 1 rfl) ?_
  refine lv_iload_n hx hb dX12_sums_41 rfl (lv_at hl 2 rfl) ?_
  obtain ⟨S8, eS8, hf⟩ := bd1_e hf
  refine x_aft_v (x_runV (As := [.int v1]) (rest := []) C hP hS (c_X12_products (l := l) C.2.2.2.2.2.2.2.2.2.1 hW hrp h_v0 k_v0 eS8 H.size) h_v0 k_v0 (by decide) rfl rfl km_X12_products ki_X12_products qm_X12_231 ⟨(by show _ ≤ _; simp only [RM]; omega), (by show _ ≤ _; simp only [RM]; omega)⟩ rfl hl.1 rfl (Nat.le_of_ble_eq_true rfl) ⟨Nat.zero_le _, Nat.zero_le _⟩ dX12_sums_42) hS (fun H locs hP hS hW => ?_)
  refine lv_aload_n hx hb dX12_sums_45 rfl (lv_at hl 1 rfl) ?_
  refine lv_iload_n hx hb dX12_sums_46 rfl (lv_at hl 0 rfl) ?_
  refine lv_if_eq (tgt := 54) hx hb dX12_sums_47 (by decide) (fun c9 => ?_) (fun c9 => ?_)
  · have hf := if_t c9 hf
    refine lv_iconst (v := 5) hx hb dX12_sums_54 rfl ?_
    exact b_X12_sums_55 hrp C hk5 v0 v1 v0 5 h_v0 k_v0 h_v0 k_v0 S8 H locs _ hf hP hS hW (lv_sub hl [1, 2] rfl)
  · have hf := if_f c9 hf
    refine lv_iconst (v := 4) hx hb dX12_sums_50 rfl ?_
    refine lv_goto (tgt := 55) hx hb dX12_sums_51 (by decide) ?_
    exact b_X12_sums_55 hrp C hk5 v0 v1 v0 4 h_v0 k_v0 h_v0 k_v0 S8 H locs _ hf hP hS hW (lv_sub hl [1, 2] rfl)
set_option maxRecDepth 100000 in
set_option maxHeartbeats 4000000 in
theorem b_X12_sums_5 {p : Program} {l : Launch} {e : Env} {s : State} {m : MethodId} {args : Array Value} {below : List Frame} {meth : Method} {c : Code} {V : EV} {G : GS} {S' : HS} {F : Nat} {fr lo : Nat} {rp : Nat → Int32 → HS → Option HS} (hrp : ∀ (this : Nat) (q0 : Int32), ∀ {S S1 : HS}, WT G S → this ∈ G.1 → G.2.1 this = 12 → rp this q0 S = some S1 → MetV l yX12_takePart cX12_takePart 4 fr lo V G S [.ref this, .int q0] S1) (C : CX p s m args meth c RX12 cX12_sums 3 none V G) : ∀ n : Nat, ∀ (v0 : Nat) (v1 : Int32) (h_v0 : v0 ∈ G.1) (k_v0 : G.2.1 v0 = 12) (S : HS) (H : Heap) (locs : List Loc) (ls : Array Slot), s_X12_sums_L5 G.2.2 F rp n v0 v1 S = some S' → HP V G S H → va_S (AG G s.heap.size) s.heap H locs → WT G S → lv_has ls 3 [(0, .ref v0), (1, .int v1)] → W p l e (RM (fr + 3) (lo + 88)) s m args below meth c H locs 0 0 (MQ below (QV V G S' s.heap.size) args s 0 0 (AG G s.heap.size)) (F0 m 5 ls []) := by
  intro n
  induction n with
  | zero =>
    intro v0 v1 h_v0 k_v0 S H locs ls hf
    rw [s_X12_sums_L5] at hf
    cases hf
  | succ n ih =>
    intro v0 v1 h_v0 k_v0 S H locs ls hf hP hS hW hl
    have hx := C.1
    have hb := C.2.1
    rw [s_X12_sums_L5] at hf
    refine lv_aload_n hx hb dX12_sums_5 rfl (lv_at hl 0 rfl) ?_
    refine lv_bipush (v := 43) hx hb dX12_sums_6 kc_bipush_43 ?_
    obtain ⟨r2, er2, hf⟩ := bd1_e hf
    refine x_aft_z (x_runV (As := [.int 43]) (rest := []) C hP hS (c_X12_isSign (l := l) C.2.2.2.2.2.2.2.2.2.1 hW h_v0 k_v0 er2 H.size) h_v0 k_v0 (by decide) rfl rfl km_X12_isSign ki_X12_isSign qm_X12_147 ⟨(by show _ ≤ _; simp only [RM]; omega), (by show _ ≤ _; simp only [RM]; omega)⟩ rfl hl.1 rfl (Nat.le_of_ble_eq_true rfl) ⟨Nat.zero_le _, Nat.zero_le _⟩ dX12_sums_8) hS (fun H locs hP hS hW z3 => ?_)
    refine lv_if_ne (tgt := 23) hx hb dX12_sums_11 (by decide) (fun c4 => ?_) (fun c4 => ?_)
    · have hf := if_f c4 hf
      exact b_X12_sums_23 hrp C ih v0 v1 h_v0 k_v0 S H locs _ hf hP hS hW (lv_sub hl [0, 1] rfl)
    · have hf := if_t c4 hf
      refine lv_aload_n hx hb dX12_sums_14 rfl (lv_at hl 0 rfl) ?_
      refine lv_bipush (v := 45) hx hb dX12_sums_15 kc_bipush_45 ?_
      obtain ⟨r11, er11, hf⟩ := bd1_e hf
      refine x_aft_z (x_runV (As := [.int 45]) (rest := []) C hP hS (c_X12_isSign (l := l) C.2.2.2.2.2.2.2.2.2.1 hW h_v0 k_v0 er11 H.size) h_v0 k_v0 (by decide) rfl rfl km_X12_isSign ki_X12_isSign qm_X12_147 ⟨(by show _ ≤ _; simp only [RM]; omega), (by show _ ≤ _; simp only [RM]; omega)⟩ rfl hl.1 rfl (Nat.le_of_ble_eq_true rfl) ⟨Nat.zero_le _, Nat.zero_le _⟩ dX12_sums_17) hS (fun H locs hP hS hW z12 => ?_)
      refine lv_if_eq (tgt := 62) hx hb dX12_sums_20 (by decide) (fun c13 => ?_) (fun c13 => ?_)
      · have hf := if_t c13 hf
        cases hf
        exact x_retv C hP hS hW dX12_sums_62
      · have hf := if_f c13 hf
        exact b_X12_sums_23 hrp C ih v0 v1 h_v0 k_v0 S H locs _ hf hP hS hW (lv_sub hl [0, 1] rfl)
set_option maxRecDepth 100000 in
set_option maxHeartbeats 4000000 in
theorem c_X12_sums {l : Launch} {V : EV} {G : GS} {S : HS} {F : Nat} {a : Nat} {p0 : Int32} {S' : HS} (hN : G.1.Nodup) (hW : WT G S) {fr lo : Nat} {rp : Nat → Int32 → HS → Option HS} (hrp : ∀ (this : Nat) (q0 : Int32), ∀ {S S1 : HS}, WT G S → this ∈ G.1 → G.2.1 this = 12 → rp this q0 S = some S1 → MetV l yX12_takePart cX12_takePart 4 fr lo V G S [.ref this, .int q0] S1) (h_a : a ∈ G.1) (k_a : G.2.1 a = 12) (hf : s_X12_sums G.2.2 F rp a p0 S = some S') : MetV l yX12_sums cX12_sums 3 (fr + 3) (lo + 88) V G S [.ref a, .int p0] S' := by
  intro sz
  refine x_in RX12 rfl (by decide +kernel) hN (Nat.le_of_ble_eq_true rfl) (fun p e s m args below meth c ls hsz hargs hnm C hP hS hl => ?_)
  subst hsz
  have hx := C.1
  have hb := C.2.1
  have hl : lv_has ls 3 [(0, .ref a), (1, .int p0)] := hl
  unfold s_X12_sums at hf
  refine lv_aload_n hx hb dX12_sums_0 rfl (lv_at hl 0 rfl) ?_
  refine lv_iload_n hx hb dX12_sums_1 rfl (lv_at hl 1 rfl) ?_
  obtain ⟨S1, eS1, hf⟩ := bd1_e hf
  refine x_aft_v (x_runV (As := [.int p0]) (rest := []) C hP hS (c_X12_products (l := l) C.2.2.2.2.2.2.2.2.2.1 hW hrp h_a k_a eS1 s.heap.size) h_a k_a (by decide) rfl rfl km_X12_products ki_X12_products qm_X12_231 ⟨(by show _ ≤ _; simp only [RM]; omega), (by show _ ≤ _; simp only [RM]; omega)⟩ rfl hl.1 rfl (Nat.le_of_ble_eq_true rfl) ⟨Nat.zero_le _, Nat.zero_le _⟩ dX12_sums_2) hS (fun H locs hP hS hW => ?_)
  exact b_X12_sums_5 hrp C F a p0 h_a k_a S1 H locs _ hf hP hS hW (lv_sub hl [0, 1] rfl)
def s_X12_test_J47 (N : Nat → Nat) (F : Nat) (rp : Nat → Int32 → HS → Option HS) (w0 : Nat) (w1 : Int32) (S : HS) : Option HS :=
  bd1 (s_X12_emit N w0 w1 0 S) fun S10 =>
  some S10
def s_X12_test_J30 (N : Nat → Nat) (F : Nat) (rp : Nat → Int32 → HS → Option HS) (v0 : Nat) (v1 : Int32) (v2 : Int32) (S : HS) : Option HS :=
  bd1 (s_X12_sums N F rp v0 v1 S) fun S8 =>
  if v2 = (0 : Int32) then
  s_X12_test_J47 N F rp v0 8 S8
  else
  s_X12_test_J47 N F rp v0 7 S8
def s_X12_test (N : Nat → Nat) (F : Nat) (rp : Nat → Int32 → HS → Option HS) (a : Nat) (p0 : Int32) (S : HS) : Option HS :=
  bd1 (s_X12_sums N F rp a p0 S) fun S1 =>
  bd1 (s_X12_isSign N a 60 S1) fun r2 =>
  bd2 (s_X12_hasSign N a 60 S1) fun r4 S5 =>
  if r4 = (0 : Int32) then
  bd2 (s_X12_hasSign N a 61 S5) fun r11 S12 =>
  if r11 = (0 : Int32) then
  some S12
  else
  s_X12_test_J30 N F rp a p0 r2 S12
  else
  s_X12_test_J30 N F rp a p0 r2 S5
set_option maxRecDepth 100000 in
set_option maxHeartbeats 4000000 in
theorem b_X12_test_47 {p : Program} {l : Launch} {e : Env} {s : State} {m : MethodId} {args : Array Value} {below : List Frame} {meth : Method} {c : Code} {V : EV} {G : GS} {S' : HS} {F : Nat} {fr lo : Nat} {rp : Nat → Int32 → HS → Option HS} (hrp : ∀ (this : Nat) (q0 : Int32), ∀ {S S1 : HS}, WT G S → this ∈ G.1 → G.2.1 this = 12 → rp this q0 S = some S1 → MetV l yX12_takePart cX12_takePart 4 fr lo V G S [.ref this, .int q0] S1) (C : CX p s m args meth c RX12 cX12_test 3 none V G) : ∀ (w0 : Nat) (w1 : Int32) (h_w0 : w0 ∈ G.1) (k_w0 : G.2.1 w0 = 12) (S : HS) (H : Heap) (locs : List Loc) (ls : Array Slot), s_X12_test_J47 G.2.2 F rp w0 w1 S = some S' → HP V G S H → va_S (AG G s.heap.size) s.heap H locs → WT G S → lv_has ls 3 [] → W p l e (RM (fr + 4) (lo + 118)) s m args below meth c H locs 0 0 (MQ below (QV V G S' s.heap.size) args s 0 0 (AG G s.heap.size)) (F0 m 47 ls [.int w1, .ref w0]) := by
  intro w0 w1 h_w0 k_w0 S H locs ls hf hP hS hW hl
  have hx := C.1
  have hb := C.2.1
  unfold s_X12_test_J47 at hf
  refine lv_iconst (v := 0) hx hb dX12_test_47 rfl ?_
  obtain ⟨S10, eS10, hf⟩ := bd1_e hf
  refine x_aft_v (x_runV (As := [.int w1, .int 0]) (rest := []) C hP hS (c_X12_emit (l := l) C.2.2.2.2.2.2.2.2.2.1 hW h_w0 k_w0 eS10 H.size) h_w0 k_w0 (by decide) rfl rfl km_X12_emit ki_X12_emit qm_X12_205 ⟨(by show _ ≤ _; simp only [RM]; omega), (by show _ ≤ _; simp only [RM]; omega)⟩ rfl hl.1 rfl (Nat.le_of_ble_eq_true rfl) ⟨Nat.zero_le _, Nat.zero_le _⟩ dX12_test_48) hS (fun H locs hP hS hW => ?_)
  cases hf
  exact x_retv C hP hS hW dX12_test_51
set_option maxRecDepth 100000 in
set_option maxHeartbeats 4000000 in
theorem b_X12_test_30 {p : Program} {l : Launch} {e : Env} {s : State} {m : MethodId} {args : Array Value} {below : List Frame} {meth : Method} {c : Code} {V : EV} {G : GS} {S' : HS} {F : Nat} {fr lo : Nat} {rp : Nat → Int32 → HS → Option HS} (hrp : ∀ (this : Nat) (q0 : Int32), ∀ {S S1 : HS}, WT G S → this ∈ G.1 → G.2.1 this = 12 → rp this q0 S = some S1 → MetV l yX12_takePart cX12_takePart 4 fr lo V G S [.ref this, .int q0] S1) (C : CX p s m args meth c RX12 cX12_test 3 none V G) : ∀ (v0 : Nat) (v1 : Int32) (v2 : Int32) (h_v0 : v0 ∈ G.1) (k_v0 : G.2.1 v0 = 12) (S : HS) (H : Heap) (locs : List Loc) (ls : Array Slot), s_X12_test_J30 G.2.2 F rp v0 v1 v2 S = some S' → HP V G S H → va_S (AG G s.heap.size) s.heap H locs → WT G S → lv_has ls 3 [(0, .ref v0), (1, .int v1), (2, .int v2)] → W p l e (RM (fr + 4) (lo + 118)) s m args below meth c H locs 0 0 (MQ below (QV V G S' s.heap.size) args s 0 0 (AG G s.heap.size)) (F0 m 30 ls []) := by
  intro v0 v1 v2 h_v0 k_v0 S H locs ls hf hP hS hW hl
  have hx := C.1
  have hb := C.2.1
  unfold s_X12_test_J30 at hf
  refine lv_aload_n hx hb dX12_test_30 rfl (lv_at hl 0 rfl) ?_
  refine lv_iload_n hx hb dX12_test_31 rfl (lv_at hl 1 rfl) ?_
  obtain ⟨S8, eS8, hf⟩ := bd1_e hf
  refine x_aft_v (x_runV (As := [.int v1]) (rest := []) C hP hS (c_X12_sums (l := l) C.2.2.2.2.2.2.2.2.2.1 hW hrp h_v0 k_v0 eS8 H.size) h_v0 k_v0 (by decide) rfl rfl km_X12_sums ki_X12_sums qm_X12_225 ⟨(by show _ ≤ _; simp only [RM]; omega), (by show _ ≤ _; simp only [RM]; omega)⟩ rfl hl.1 rfl (Nat.le_of_ble_eq_true rfl) ⟨Nat.zero_le _, Nat.zero_le _⟩ dX12_test_32) hS (fun H locs hP hS hW => ?_)
  refine lv_aload_n hx hb dX12_test_35 rfl (lv_at hl 0 rfl) ?_
  refine lv_iload_n hx hb dX12_test_36 rfl (lv_at hl 2 rfl) ?_
  refine lv_if_eq (tgt := 45) hx hb dX12_test_37 (by decide) (fun c9 => ?_) (fun c9 => ?_)
  · have hf := if_t c9 hf
    refine lv_bipush (v := 8) hx hb dX12_test_45 kc_bipush_8 ?_
    exact b_X12_test_47 hrp C v0 8 h_v0 k_v0 S8 H locs _ hf hP hS hW (lv_sub hl [] rfl)
  · have hf := if_f c9 hf
    refine lv_bipush (v := 7) hx hb dX12_test_40 kc_bipush_7 ?_
    refine lv_goto (tgt := 47) hx hb dX12_test_42 (by decide) ?_
    exact b_X12_test_47 hrp C v0 7 h_v0 k_v0 S8 H locs _ hf hP hS hW (lv_sub hl [] rfl)
set_option maxRecDepth 100000 in
set_option maxHeartbeats 4000000 in
theorem c_X12_test {l : Launch} {V : EV} {G : GS} {S : HS} {F : Nat} {a : Nat} {p0 : Int32} {S' : HS} (hN : G.1.Nodup) (hW : WT G S) {fr lo : Nat} {rp : Nat → Int32 → HS → Option HS} (hrp : ∀ (this : Nat) (q0 : Int32), ∀ {S S1 : HS}, WT G S → this ∈ G.1 → G.2.1 this = 12 → rp this q0 S = some S1 → MetV l yX12_takePart cX12_takePart 4 fr lo V G S [.ref this, .int q0] S1) (h_a : a ∈ G.1) (k_a : G.2.1 a = 12) (hf : s_X12_test G.2.2 F rp a p0 S = some S') : MetV l yX12_test cX12_test 3 (fr + 4) (lo + 118) V G S [.ref a, .int p0] S' := by
  intro sz
  refine x_in RX12 rfl (by decide +kernel) hN (Nat.le_of_ble_eq_true rfl) (fun p e s m args below meth c ls hsz hargs hnm C hP hS hl => ?_)
  subst hsz
  have hx := C.1
  have hb := C.2.1
  have hl : lv_has ls 3 [(0, .ref a), (1, .int p0)] := hl
  unfold s_X12_test at hf
  refine lv_aload_n hx hb dX12_test_0 rfl (lv_at hl 0 rfl) ?_
  refine lv_iload_n hx hb dX12_test_1 rfl (lv_at hl 1 rfl) ?_
  obtain ⟨S1, eS1, hf⟩ := bd1_e hf
  refine x_aft_v (x_runV (As := [.int p0]) (rest := []) C hP hS (c_X12_sums (l := l) C.2.2.2.2.2.2.2.2.2.1 hW hrp h_a k_a eS1 s.heap.size) h_a k_a (by decide) rfl rfl km_X12_sums ki_X12_sums qm_X12_225 ⟨(by show _ ≤ _; simp only [RM]; omega), (by show _ ≤ _; simp only [RM]; omega)⟩ rfl hl.1 rfl (Nat.le_of_ble_eq_true rfl) ⟨Nat.zero_le _, Nat.zero_le _⟩ dX12_test_2) hS (fun H locs hP hS hW => ?_)
  refine lv_aload_n hx hb dX12_test_5 rfl (lv_at hl 0 rfl) ?_
  refine lv_bipush (v := 60) hx hb dX12_test_6 kc_bipush_60 ?_
  obtain ⟨r2, er2, hf⟩ := bd1_e hf
  refine x_aft_z (x_runV (As := [.int 60]) (rest := []) C hP hS (c_X12_isSign (l := l) C.2.2.2.2.2.2.2.2.2.1 hW h_a k_a er2 H.size) h_a k_a (by decide) rfl rfl km_X12_isSign ki_X12_isSign qm_X12_147 ⟨(by show _ ≤ _; simp only [RM]; omega), (by show _ ≤ _; simp only [RM]; omega)⟩ rfl hl.1 rfl (Nat.le_of_ble_eq_true rfl) ⟨Nat.zero_le _, Nat.zero_le _⟩ dX12_test_8) hS (fun H locs hP hS hW z3 => ?_)
  refine lv_istore_n (lv' := [(2, .int r2), (0, .ref a), (1, .int p0)]) hx hb dX12_test_11 rfl hl (by decide) rfl (fun ls hl => ?_)
  refine lv_aload_n hx hb dX12_test_12 rfl (lv_at hl 1 rfl) ?_
  refine lv_bipush (v := 60) hx hb dX12_test_13 kc_bipush_60 ?_
  obtain ⟨r4, S5, eS5, hf⟩ := bd2_e hf
  refine x_aft_z (x_runV (As := [.int 60]) (rest := []) C hP hS (c_X12_hasSign (l := l) C.2.2.2.2.2.2.2.2.2.1 hW h_a k_a eS5 H.size) h_a k_a (by decide) rfl rfl km_X12_hasSign ki_X12_hasSign qm_X12_228 ⟨(by show _ ≤ _; simp only [RM]; omega), (by show _ ≤ _; simp only [RM]; omega)⟩ rfl hl.1 rfl (Nat.le_of_ble_eq_true rfl) ⟨Nat.zero_le _, Nat.zero_le _⟩ dX12_test_15) hS (fun H locs hP hS hW z6 => ?_)
  refine lv_if_ne (tgt := 30) hx hb dX12_test_18 (by decide) (fun c7 => ?_) (fun c7 => ?_)
  · have hf := if_f c7 hf
    exact b_X12_test_30 hrp C a p0 r2 h_a k_a S5 H locs _ hf hP hS hW (lv_sub hl [1, 2, 0] rfl)
  · have hf := if_t c7 hf
    refine lv_aload_n hx hb dX12_test_21 rfl (lv_at hl 1 rfl) ?_
    refine lv_bipush (v := 61) hx hb dX12_test_22 kc_bipush_61 ?_
    obtain ⟨r11, S12, eS12, hf⟩ := bd2_e hf
    refine x_aft_z (x_runV (As := [.int 61]) (rest := []) C hP hS (c_X12_hasSign (l := l) C.2.2.2.2.2.2.2.2.2.1 hW h_a k_a eS12 H.size) h_a k_a (by decide) rfl rfl km_X12_hasSign ki_X12_hasSign qm_X12_228 ⟨(by show _ ≤ _; simp only [RM]; omega), (by show _ ≤ _; simp only [RM]; omega)⟩ rfl hl.1 rfl (Nat.le_of_ble_eq_true rfl) ⟨Nat.zero_le _, Nat.zero_le _⟩ dX12_test_24) hS (fun H locs hP hS hW z13 => ?_)
    refine lv_if_eq (tgt := 51) hx hb dX12_test_27 (by decide) (fun c14 => ?_) (fun c14 => ?_)
    · have hf := if_t c14 hf
      cases hf
      exact x_retv C hP hS hW dX12_test_51
    · have hf := if_f c14 hf
      exact b_X12_test_30 hrp C a p0 r2 h_a k_a S12 H locs _ hf hP hS hW (lv_sub hl [1, 2, 0] rfl)
def s_X12_isWord (N : Nat → Nat) (a : Nat) (p0 : Int32) (S : HS) : Option Int32 :=
  if (gI S 1208 a) = (0 : Int32) then
  bd1 (gR S 1204 a) fun t2 =>
  if inB (gI S 1207 a) (N t2) = true then
  if (aI S t2 (gI S 1207 a).toNatClampNeg) = (1 : Int32) then
  bd1 (gR S 1206 a) fun t5 =>
  if inB (gI S 1207 a) (N t5) = true then
  bd1 (gR S 1209 a) fun t7 =>
  if inB p0 (N t7) = true then
  if (lg_cmp (aJ S t5 (gI S 1207 a).toNatClampNeg) (aJ S t7 p0.toNatClampNeg)) = (0 : Int32) then
  some 1
  else
  some 0
  else none
  else none
  else
  some 0
  else none
  else
  some 0
set_option maxRecDepth 100000 in
set_option maxHeartbeats 4000000 in
theorem c_X12_isWord {l : Launch} {V : EV} {G : GS} {S : HS} {a : Nat} {p0 : Int32} {r : Int32} (hN : G.1.Nodup) (hW : WT G S) (h_a : a ∈ G.1) (k_a : G.2.1 a = 12) (hf : s_X12_isWord G.2.2 a p0 S = some r) : MetZ l yX12_isWord cX12_isWord 2 0 0 V G S [.ref a, .int p0] r S := by
  intro sz
  refine x_in RX12 rfl (by decide +kernel) hN (Nat.le_of_ble_eq_true rfl) (fun p e s m args below meth c ls hsz hargs hnm C hP hS hl => ?_)
  subst hsz
  have hx := C.1
  have hb := C.2.1
  have hl : lv_has ls 2 [(0, .ref a), (1, .int p0)] := hl
  unfold s_X12_isWord at hf
  refine lv_aload_n hx hb dX12_isWord_0 rfl (lv_at hl 0 rfl) ?_
  refine gf_X12_144 C hP h_a k_a dX12_isWord_1 ?_
  refine lv_if_ne (tgt := 43) hx hb dX12_isWord_4 (by decide) (fun c1 => ?_) (fun c1 => ?_)
  · have hf := if_f c1 hf
    refine lv_iconst (v := 0) hx hb dX12_isWord_43 rfl ?_
    cases hf
    exact x_retZ C hP hS hW isZ_0 dX12_isWord_44
  · have hf := if_t c1 hf
    refine lv_aload_n hx hb dX12_isWord_7 rfl (lv_at hl 0 rfl) ?_
    refine gf_X12_24 C hP h_a k_a dX12_isWord_8 ?_
    obtain ⟨t2, et2, hf⟩ := bd1_e hf
    obtain ⟨h_t2, k_t2⟩ := wt_r hW h_a k_a (by decide) et2
    have k_t2 : G.2.1 t2 = 14 := k_t2
    rw [et2]
    refine lv_aload_n hx hb dX12_isWord_11 rfl (lv_at hl 0 rfl) ?_
    refine gf_X12_141 C hP h_a k_a dX12_isWord_12 ?_
    obtain ⟨h3, hf⟩ := if_s hf
    refine x_iald C hP h_t2 k_t2 h3 dX12_isWord_15 ?_
    refine lv_iconst (v := 1) hx hb dX12_isWord_16 rfl ?_
    refine lv_icmp_ne (tgt := 43) hx hb dX12_isWord_17 (by decide) (fun c4 => ?_) (fun c4 => ?_)
    · have hf := if_f c4 hf
      refine lv_iconst (v := 0) hx hb dX12_isWord_43 rfl ?_
      cases hf
      exact x_retZ C hP hS hW isZ_0 dX12_isWord_44
    · have hf := if_t c4 hf
      refine lv_aload_n hx hb dX12_isWord_20 rfl (lv_at hl 0 rfl) ?_
      refine gf_X12_30 C hP h_a k_a dX12_isWord_21 ?_
      obtain ⟨t5, et5, hf⟩ := bd1_e hf
      obtain ⟨h_t5, k_t5⟩ := wt_r hW h_a k_a (by decide) et5
      have k_t5 : G.2.1 t5 = 15 := k_t5
      rw [et5]
      refine lv_aload_n hx hb dX12_isWord_24 rfl (lv_at hl 0 rfl) ?_
      refine gf_X12_141 C hP h_a k_a dX12_isWord_25 ?_
      obtain ⟨h6, hf⟩ := if_s hf
      refine x_lald C hP h_t5 k_t5 h6 dX12_isWord_28 ?_
      refine lv_aload_n hx hb dX12_isWord_29 rfl (lv_at hl 0 rfl) ?_
      refine gf_X12_74 C hP h_a k_a dX12_isWord_30 ?_
      obtain ⟨t7, et7, hf⟩ := bd1_e hf
      obtain ⟨h_t7, k_t7⟩ := wt_r hW h_a k_a (by decide) et7
      have k_t7 : G.2.1 t7 = 15 := k_t7
      rw [et7]
      refine lv_iload_n hx hb dX12_isWord_33 rfl (lv_at hl 1 rfl) ?_
      obtain ⟨h8, hf⟩ := if_s hf
      refine x_lald C hP h_t7 k_t7 h8 dX12_isWord_34 ?_
      refine W.lcmp hx hb dX12_isWord_35 ?_
      refine lv_if_ne (tgt := 43) hx hb dX12_isWord_36 (by decide) (fun c9 => ?_) (fun c9 => ?_)
      · have hf := if_f c9 hf
        refine lv_iconst (v := 0) hx hb dX12_isWord_43 rfl ?_
        cases hf
        exact x_retZ C hP hS hW isZ_0 dX12_isWord_44
      · have hf := if_t c9 hf
        refine lv_iconst (v := 1) hx hb dX12_isWord_39 rfl ?_
        refine lv_goto (tgt := 44) hx hb dX12_isWord_40 (by decide) ?_
        cases hf
        exact x_retZ C hP hS hW isZ_1 dX12_isWord_44
def s_X12_allOf_J57 (N : Nat → Nat) (F : Nat) (rp : Nat → Int32 → HS → Option HS) (k5 : Nat → Int32 → HS → Option HS) (v0 : Nat) (v1 : Int32) (w0 : Nat) (w1 : Int32) (S : HS) : Option HS :=
  bd1 (s_X12_emit N w0 w1 0 S) fun S10 =>
  k5 v0 v1 S10
def s_X12_allOf_J23 (N : Nat → Nat) (F : Nat) (rp : Nat → Int32 → HS → Option HS) (k5 : Nat → Int32 → HS → Option HS) (v0 : Nat) (v1 : Int32) (S : HS) : Option HS :=
  bd1 (s_X12_isWord N v0 14 S) fun r5 =>
  bnd (uI S 1207 v0 ((gI S 1207 v0) + 1)) fun S7 =>
  bd1 (s_X12_test N F rp v0 v1 S7) fun S8 =>
  if r5 = (0 : Int32) then
  s_X12_allOf_J57 N F rp k5 v0 v1 v0 10 S8
  else
  s_X12_allOf_J57 N F rp k5 v0 v1 v0 9 S8
def s_X12_allOf_L5 (N : Nat → Nat) (F : Nat) (rp : Nat → Int32 → HS → Option HS) : Nat → Nat → Int32 → HS → Option HS
  | 0, _, _, _ => none
  | n + 1, v0, v1, S => bd1 (s_X12_isWord N v0 14 S) fun r2 =>
  if r2 = (0 : Int32) then
  bd1 (s_X12_isWord N v0 15 S) fun r11 =>
  if r11 = (0 : Int32) then
  some S
  else
  s_X12_allOf_J23 N F rp (s_X12_allOf_L5 N F rp n) v0 v1 S
  else
  s_X12_allOf_J23 N F rp (s_X12_allOf_L5 N F rp n) v0 v1 S
def s_X12_allOf (N : Nat → Nat) (F : Nat) (rp : Nat → Int32 → HS → Option HS) (a : Nat) (p0 : Int32) (S : HS) : Option HS :=
  bd1 (s_X12_test N F rp a p0 S) fun S1 =>
  s_X12_allOf_L5 N F rp F a p0 S1
set_option maxRecDepth 100000 in
set_option maxHeartbeats 4000000 in
theorem b_X12_allOf_57 {p : Program} {l : Launch} {e : Env} {s : State} {m : MethodId} {args : Array Value} {below : List Frame} {meth : Method} {c : Code} {V : EV} {G : GS} {S' : HS} {F : Nat} {fr lo : Nat} {rp : Nat → Int32 → HS → Option HS} (hrp : ∀ (this : Nat) (q0 : Int32), ∀ {S S1 : HS}, WT G S → this ∈ G.1 → G.2.1 this = 12 → rp this q0 S = some S1 → MetV l yX12_takePart cX12_takePart 4 fr lo V G S [.ref this, .int q0] S1) (C : CX p s m args meth c RX12 cX12_allOf 3 none V G) {k5 : Nat → Int32 → HS → Option HS} (hk5 : ∀ (v0 : Nat) (v1 : Int32) (h_v0 : v0 ∈ G.1) (k_v0 : G.2.1 v0 = 12) (S : HS) (H : Heap) (locs : List Loc) (ls : Array Slot), k5 v0 v1 S = some S' → HP V G S H → va_S (AG G s.heap.size) s.heap H locs → WT G S → lv_has ls 3 [(0, .ref v0), (1, .int v1)] → W p l e (RM (fr + 5) (lo + 148)) s m args below meth c H locs 0 0 (MQ below (QV V G S' s.heap.size) args s 0 0 (AG G s.heap.size)) (F0 m 5 ls [])) : ∀ (v0 : Nat) (v1 : Int32) (w0 : Nat) (w1 : Int32) (h_v0 : v0 ∈ G.1) (k_v0 : G.2.1 v0 = 12) (h_w0 : w0 ∈ G.1) (k_w0 : G.2.1 w0 = 12) (S : HS) (H : Heap) (locs : List Loc) (ls : Array Slot), s_X12_allOf_J57 G.2.2 F rp k5 v0 v1 w0 w1 S = some S' → HP V G S H → va_S (AG G s.heap.size) s.heap H locs → WT G S → lv_has ls 3 [(0, .ref v0), (1, .int v1)] → W p l e (RM (fr + 5) (lo + 148)) s m args below meth c H locs 0 0 (MQ below (QV V G S' s.heap.size) args s 0 0 (AG G s.heap.size)) (F0 m 57 ls [.int w1, .ref w0]) := by
  intro v0 v1 w0 w1 h_v0 k_v0 h_w0 k_w0 S H locs ls hf hP hS hW hl
  have hx := C.1
  have hb := C.2.1
  unfold s_X12_allOf_J57 at hf
  refine lv_iconst (v := 0) hx hb dX12_allOf_57 rfl ?_
  obtain ⟨S10, eS10, hf⟩ := bd1_e hf
  refine x_aft_v (x_runV (As := [.int w1, .int 0]) (rest := []) C hP hS (c_X12_emit (l := l) C.2.2.2.2.2.2.2.2.2.1 hW h_w0 k_w0 eS10 H.size) h_w0 k_w0 (by decide) rfl rfl km_X12_emit ki_X12_emit qm_X12_205 ⟨(by show _ ≤ _; simp only [RM]; omega), (by show _ ≤ _; simp only [RM]; omega)⟩ rfl hl.1 rfl (Nat.le_of_ble_eq_true rfl) ⟨Nat.zero_le _, Nat.zero_le _⟩ dX12_allOf_58) hS (fun H locs hP hS hW => ?_)
  refine lv_goto (tgt := 5) hx hb dX12_allOf_61 (by decide) ?_
  exact hk5 v0 v1 h_v0 k_v0 S10 H locs _ hf hP hS hW (lv_sub hl [0, 1] rfl)
set_option maxRecDepth 100000 in
set_option maxHeartbeats 4000000 in
theorem b_X12_allOf_23 {p : Program} {l : Launch} {e : Env} {s : State} {m : MethodId} {args : Array Value} {below : List Frame} {meth : Method} {c : Code} {V : EV} {G : GS} {S' : HS} {F : Nat} {fr lo : Nat} {rp : Nat → Int32 → HS → Option HS} (hrp : ∀ (this : Nat) (q0 : Int32), ∀ {S S1 : HS}, WT G S → this ∈ G.1 → G.2.1 this = 12 → rp this q0 S = some S1 → MetV l yX12_takePart cX12_takePart 4 fr lo V G S [.ref this, .int q0] S1) (C : CX p s m args meth c RX12 cX12_allOf 3 none V G) {k5 : Nat → Int32 → HS → Option HS} (hk5 : ∀ (v0 : Nat) (v1 : Int32) (h_v0 : v0 ∈ G.1) (k_v0 : G.2.1 v0 = 12) (S : HS) (H : Heap) (locs : List Loc) (ls : Array Slot), k5 v0 v1 S = some S' → HP V G S H → va_S (AG G s.heap.size) s.heap H locs → WT G S → lv_has ls 3 [(0, .ref v0), (1, .int v1)] → W p l e (RM (fr + 5) (lo + 148)) s m args below meth c H locs 0 0 (MQ below (QV V G S' s.heap.size) args s 0 0 (AG G s.heap.size)) (F0 m 5 ls [])) : ∀ (v0 : Nat) (v1 : Int32) (h_v0 : v0 ∈ G.1) (k_v0 : G.2.1 v0 = 12) (S : HS) (H : Heap) (locs : List Loc) (ls : Array Slot), s_X12_allOf_J23 G.2.2 F rp k5 v0 v1 S = some S' → HP V G S H → va_S (AG G s.heap.size) s.heap H locs → WT G S → lv_has ls 3 [(0, .ref v0), (1, .int v1)] → W p l e (RM (fr + 5) (lo + 148)) s m args below meth c H locs 0 0 (MQ below (QV V G S' s.heap.size) args s 0 0 (AG G s.heap.size)) (F0 m 23 ls []) := by
  intro v0 v1 h_v0 k_v0 S H locs ls hf hP hS hW hl
  have hx := C.1
  have hb := C.2.1
  unfold s_X12_allOf_J23 at hf
  refine lv_aload_n hx hb dX12_allOf_23 rfl (lv_at hl 0 rfl) ?_
  refine lv_bipush (v := 14) hx hb dX12_allOf_24 kc_bipush_14 ?_
  obtain ⟨r5, er5, hf⟩ := bd1_e hf
  refine x_aft_z (x_runV (As := [.int 14]) (rest := []) C hP hS (c_X12_isWord (l := l) C.2.2.2.2.2.2.2.2.2.1 hW h_v0 k_v0 er5 H.size) h_v0 k_v0 (by decide) rfl rfl km_X12_isWord ki_X12_isWord qm_X12_153 ⟨(by show _ ≤ _; simp only [RM]; omega), (by show _ ≤ _; simp only [RM]; omega)⟩ rfl hl.1 rfl (Nat.le_of_ble_eq_true rfl) ⟨Nat.zero_le _, Nat.zero_le _⟩ dX12_allOf_26) hS (fun H locs hP hS hW z6 => ?_)
  refine lv_istore_n (lv' := [(2, .int r5), (0, .ref v0), (1, .int v1)]) hx hb dX12_allOf_29 rfl hl (by decide) rfl (fun ls hl => ?_)
  refine lv_aload_n hx hb dX12_allOf_30 rfl (lv_at hl 1 rfl) ?_
  refine lv_dup hx hb dX12_allOf_31 rfl ?_
  refine gf_X12_141 C hP h_v0 k_v0 dX12_allOf_32 ?_
  refine lv_iconst (v := 1) hx hb dX12_allOf_35 rfl ?_
  refine lv_iadd hx hb dX12_allOf_36 ?_
  obtain ⟨S7, eS7, hf⟩ := bnd_e hf
  refine pf_X12_141 C hP hS h_v0 k_v0 eS7 dX12_allOf_37 (fun H locs hP hS => ?_)
  have hW : WT G S7 := by rw [eS7]; exact hW
  refine lv_aload_n hx hb dX12_allOf_40 rfl (lv_at hl 1 rfl) ?_
  refine lv_iload_n hx hb dX12_allOf_41 rfl (lv_at hl 2 rfl) ?_
  obtain ⟨S8, eS8, hf⟩ := bd1_e hf
  refine x_aft_v (x_runV (As := [.int v1]) (rest := []) C hP hS (c_X12_test (l := l) C.2.2.2.2.2.2.2.2.2.1 hW hrp h_v0 k_v0 eS8 H.size) h_v0 k_v0 (by decide) rfl rfl km_X12_test ki_X12_test qm_X12_222 ⟨(by show _ ≤ _; simp only [RM]; omega), (by show _ ≤ _; simp only [RM]; omega)⟩ rfl hl.1 rfl (Nat.le_of_ble_eq_true rfl) ⟨Nat.zero_le _, Nat.zero_le _⟩ dX12_allOf_42) hS (fun H locs hP hS hW => ?_)
  refine lv_aload_n hx hb dX12_allOf_45 rfl (lv_at hl 1 rfl) ?_
  refine lv_iload_n hx hb dX12_allOf_46 rfl (lv_at hl 0 rfl) ?_
  refine lv_if_eq (tgt := 55) hx hb dX12_allOf_47 (by decide) (fun c9 => ?_) (fun c9 => ?_)
  · have hf := if_t c9 hf
    refine lv_bipush (v := 10) hx hb dX12_allOf_55 kc_bipush_10 ?_
    exact b_X12_allOf_57 hrp C hk5 v0 v1 v0 10 h_v0 k_v0 h_v0 k_v0 S8 H locs _ hf hP hS hW (lv_sub hl [1, 2] rfl)
  · have hf := if_f c9 hf
    refine lv_bipush (v := 9) hx hb dX12_allOf_50 kc_bipush_9 ?_
    refine lv_goto (tgt := 57) hx hb dX12_allOf_52 (by decide) ?_
    exact b_X12_allOf_57 hrp C hk5 v0 v1 v0 9 h_v0 k_v0 h_v0 k_v0 S8 H locs _ hf hP hS hW (lv_sub hl [1, 2] rfl)
set_option maxRecDepth 100000 in
set_option maxHeartbeats 4000000 in
theorem b_X12_allOf_5 {p : Program} {l : Launch} {e : Env} {s : State} {m : MethodId} {args : Array Value} {below : List Frame} {meth : Method} {c : Code} {V : EV} {G : GS} {S' : HS} {F : Nat} {fr lo : Nat} {rp : Nat → Int32 → HS → Option HS} (hrp : ∀ (this : Nat) (q0 : Int32), ∀ {S S1 : HS}, WT G S → this ∈ G.1 → G.2.1 this = 12 → rp this q0 S = some S1 → MetV l yX12_takePart cX12_takePart 4 fr lo V G S [.ref this, .int q0] S1) (C : CX p s m args meth c RX12 cX12_allOf 3 none V G) : ∀ n : Nat, ∀ (v0 : Nat) (v1 : Int32) (h_v0 : v0 ∈ G.1) (k_v0 : G.2.1 v0 = 12) (S : HS) (H : Heap) (locs : List Loc) (ls : Array Slot), s_X12_allOf_L5 G.2.2 F rp n v0 v1 S = some S' → HP V G S H → va_S (AG G s.heap.size) s.heap H locs → WT G S → lv_has ls 3 [(0, .ref v0), (1, .int v1)] → W p l e (RM (fr + 5) (lo + 148)) s m args below meth c H locs 0 0 (MQ below (QV V G S' s.heap.size) args s 0 0 (AG G s.heap.size)) (F0 m 5 ls []) := by
  intro n
  induction n with
  | zero =>
    intro v0 v1 h_v0 k_v0 S H locs ls hf
    rw [s_X12_allOf_L5] at hf
    cases hf
  | succ n ih =>
    intro v0 v1 h_v0 k_v0 S H locs ls hf hP hS hW hl
    have hx := C.1
    have hb := C.2.1
    rw [s_X12_allOf_L5] at hf
    refine lv_aload_n hx hb dX12_allOf_5 rfl (lv_at hl 0 rfl) ?_
    refine lv_bipush (v := 14) hx hb dX12_allOf_6 kc_bipush_14 ?_
    obtain ⟨r2, er2, hf⟩ := bd1_e hf
    refine x_aft_z (x_runV (As := [.int 14]) (rest := []) C hP hS (c_X12_isWord (l := l) C.2.2.2.2.2.2.2.2.2.1 hW h_v0 k_v0 er2 H.size) h_v0 k_v0 (by decide) rfl rfl km_X12_isWord ki_X12_isWord qm_X12_153 ⟨(by show _ ≤ _; simp only [RM]; omega), (by show _ ≤ _; simp only [RM]; omega)⟩ rfl hl.1 rfl (Nat.le_of_ble_eq_true rfl) ⟨Nat.zero_le _, Nat.zero_le _⟩ dX12_allOf_8) hS (fun H locs hP hS hW z3 => ?_)
    refine lv_if_ne (tgt := 23) hx hb dX12_allOf_11 (by decide) (fun c4 => ?_) (fun c4 => ?_)
    · have hf := if_f c4 hf
      exact b_X12_allOf_23 hrp C ih v0 v1 h_v0 k_v0 S H locs _ hf hP hS hW (lv_sub hl [0, 1] rfl)
    · have hf := if_t c4 hf
      refine lv_aload_n hx hb dX12_allOf_14 rfl (lv_at hl 0 rfl) ?_
      refine lv_bipush (v := 15) hx hb dX12_allOf_15 kc_bipush_15 ?_
      obtain ⟨r11, er11, hf⟩ := bd1_e hf
      refine x_aft_z (x_runV (As := [.int 15]) (rest := []) C hP hS (c_X12_isWord (l := l) C.2.2.2.2.2.2.2.2.2.1 hW h_v0 k_v0 er11 H.size) h_v0 k_v0 (by decide) rfl rfl km_X12_isWord ki_X12_isWord qm_X12_153 ⟨(by show _ ≤ _; simp only [RM]; omega), (by show _ ≤ _; simp only [RM]; omega)⟩ rfl hl.1 rfl (Nat.le_of_ble_eq_true rfl) ⟨Nat.zero_le _, Nat.zero_le _⟩ dX12_allOf_17) hS (fun H locs hP hS hW z12 => ?_)
      refine lv_if_eq (tgt := 64) hx hb dX12_allOf_20 (by decide) (fun c13 => ?_) (fun c13 => ?_)
      · have hf := if_t c13 hf
        cases hf
        exact x_retv C hP hS hW dX12_allOf_64
      · have hf := if_f c13 hf
        exact b_X12_allOf_23 hrp C ih v0 v1 h_v0 k_v0 S H locs _ hf hP hS hW (lv_sub hl [0, 1] rfl)
set_option maxRecDepth 100000 in
set_option maxHeartbeats 4000000 in
theorem c_X12_allOf {l : Launch} {V : EV} {G : GS} {S : HS} {F : Nat} {a : Nat} {p0 : Int32} {S' : HS} (hN : G.1.Nodup) (hW : WT G S) {fr lo : Nat} {rp : Nat → Int32 → HS → Option HS} (hrp : ∀ (this : Nat) (q0 : Int32), ∀ {S S1 : HS}, WT G S → this ∈ G.1 → G.2.1 this = 12 → rp this q0 S = some S1 → MetV l yX12_takePart cX12_takePart 4 fr lo V G S [.ref this, .int q0] S1) (h_a : a ∈ G.1) (k_a : G.2.1 a = 12) (hf : s_X12_allOf G.2.2 F rp a p0 S = some S') : MetV l yX12_allOf cX12_allOf 3 (fr + 5) (lo + 148) V G S [.ref a, .int p0] S' := by
  intro sz
  refine x_in RX12 rfl (by decide +kernel) hN (Nat.le_of_ble_eq_true rfl) (fun p e s m args below meth c ls hsz hargs hnm C hP hS hl => ?_)
  subst hsz
  have hx := C.1
  have hb := C.2.1
  have hl : lv_has ls 3 [(0, .ref a), (1, .int p0)] := hl
  unfold s_X12_allOf at hf
  refine lv_aload_n hx hb dX12_allOf_0 rfl (lv_at hl 0 rfl) ?_
  refine lv_iload_n hx hb dX12_allOf_1 rfl (lv_at hl 1 rfl) ?_
  obtain ⟨S1, eS1, hf⟩ := bd1_e hf
  refine x_aft_v (x_runV (As := [.int p0]) (rest := []) C hP hS (c_X12_test (l := l) C.2.2.2.2.2.2.2.2.2.1 hW hrp h_a k_a eS1 s.heap.size) h_a k_a (by decide) rfl rfl km_X12_test ki_X12_test qm_X12_222 ⟨(by show _ ≤ _; simp only [RM]; omega), (by show _ ≤ _; simp only [RM]; omega)⟩ rfl hl.1 rfl (Nat.le_of_ble_eq_true rfl) ⟨Nat.zero_le _, Nat.zero_le _⟩ dX12_allOf_2) hS (fun H locs hP hS hW => ?_)
  exact b_X12_allOf_5 hrp C F a p0 h_a k_a S1 H locs _ hf hP hS hW (lv_sub hl [0, 1] rfl)
def s_X12_areBits (N : Nat → Nat) (a : Nat) (p0 : Int32) (p1 : Int32) (p2 : Int32) (S : HS) : Option Int32 :=
  bd1 (s_X12_used N a S) fun r1 =>
  bd1 (s_X12_isBits N a r1 p0 S) fun r2 =>
  if r2 = (0 : Int32) then
  some 0
  else
  bd1 (s_X12_used N a S) fun r5 =>
  bd1 (s_X12_isBits N a r5 p1 S) fun r6 =>
  if r6 = (0 : Int32) then
  some 0
  else
  bd1 (s_X12_used N a S) fun r9 =>
  bd1 (s_X12_isBits N a r9 p2 S) fun r10 =>
  if r10 = (0 : Int32) then
  some 0
  else
  some 1
set_option maxRecDepth 100000 in
set_option maxHeartbeats 4000000 in
theorem c_X12_areBits {l : Launch} {V : EV} {G : GS} {S : HS} {a : Nat} {p0 : Int32} {p1 : Int32} {p2 : Int32} {r : Int32} (hN : G.1.Nodup) (hW : WT G S) (h_a : a ∈ G.1) (k_a : G.2.1 a = 12) (hf : s_X12_areBits G.2.2 a p0 p1 p2 S = some r) : MetZ l yX12_areBits cX12_areBits 4 3 88 V G S [.ref a, .int p0, .int p1, .int p2] r S := by
  intro sz
  refine x_in RX12 rfl (by decide +kernel) hN (Nat.le_of_ble_eq_true rfl) (fun p e s m args below meth c ls hsz hargs hnm C hP hS hl => ?_)
  subst hsz
  have hx := C.1
  have hb := C.2.1
  have hl : lv_has ls 4 [(0, .ref a), (1, .int p0), (2, .int p1), (3, .int p2)] := hl
  unfold s_X12_areBits at hf
  refine lv_aload_n hx hb dX12_areBits_0 rfl (lv_at hl 0 rfl) ?_
  refine lv_aload_n hx hb dX12_areBits_1 rfl (lv_at hl 0 rfl) ?_
  obtain ⟨r1, er1, hf⟩ := bd1_e hf
  refine x_aft_i (x_runV (As := []) (rest := [.ref a]) C hP hS (c_X12_used (l := l) C.2.2.2.2.2.2.2.2.2.1 hW h_a k_a er1 s.heap.size) h_a k_a (by decide) rfl rfl km_X12_used ki_X12_used qm_X12_357 ⟨(Nat.le_of_ble_eq_true rfl), (Nat.le_of_ble_eq_true rfl)⟩ rfl hl.1 rfl (Nat.le_of_ble_eq_true rfl) ⟨Nat.zero_le _, Nat.zero_le _⟩ dX12_areBits_2) hS (fun H locs hP hS hW => ?_)
  refine lv_iload_n hx hb dX12_areBits_5 rfl (lv_at hl 1 rfl) ?_
  obtain ⟨r2, er2, hf⟩ := bd1_e hf
  refine x_aft_z (x_runV (As := [.int r1, .int p0]) (rest := []) C hP hS (c_X12_isBits (l := l) C.2.2.2.2.2.2.2.2.2.1 hW h_a k_a er2 H.size) h_a k_a (by decide) rfl rfl km_X12_isBits ki_X12_isBits qm_X12_363 ⟨(Nat.le_of_ble_eq_true rfl), (Nat.le_of_ble_eq_true rfl)⟩ rfl hl.1 rfl (Nat.le_of_ble_eq_true rfl) ⟨Nat.zero_le _, Nat.zero_le _⟩ dX12_areBits_6) hS (fun H locs hP hS hW z3 => ?_)
  refine lv_if_eq (tgt := 40) hx hb dX12_areBits_9 (by decide) (fun c4 => ?_) (fun c4 => ?_)
  · have hf := if_t c4 hf
    refine lv_iconst (v := 0) hx hb dX12_areBits_40 rfl ?_
    cases hf
    exact x_retZ C hP hS hW isZ_0 dX12_areBits_41
  · have hf := if_f c4 hf
    refine lv_aload_n hx hb dX12_areBits_12 rfl (lv_at hl 0 rfl) ?_
    refine lv_aload_n hx hb dX12_areBits_13 rfl (lv_at hl 0 rfl) ?_
    obtain ⟨r5, er5, hf⟩ := bd1_e hf
    refine x_aft_i (x_runV (As := []) (rest := [.ref a]) C hP hS (c_X12_used (l := l) C.2.2.2.2.2.2.2.2.2.1 hW h_a k_a er5 H.size) h_a k_a (by decide) rfl rfl km_X12_used ki_X12_used qm_X12_357 ⟨(Nat.le_of_ble_eq_true rfl), (Nat.le_of_ble_eq_true rfl)⟩ rfl hl.1 rfl (Nat.le_of_ble_eq_true rfl) ⟨Nat.zero_le _, Nat.zero_le _⟩ dX12_areBits_14) hS (fun H locs hP hS hW => ?_)
    refine lv_iload_n hx hb dX12_areBits_17 rfl (lv_at hl 2 rfl) ?_
    obtain ⟨r6, er6, hf⟩ := bd1_e hf
    refine x_aft_z (x_runV (As := [.int r5, .int p1]) (rest := []) C hP hS (c_X12_isBits (l := l) C.2.2.2.2.2.2.2.2.2.1 hW h_a k_a er6 H.size) h_a k_a (by decide) rfl rfl km_X12_isBits ki_X12_isBits qm_X12_363 ⟨(Nat.le_of_ble_eq_true rfl), (Nat.le_of_ble_eq_true rfl)⟩ rfl hl.1 rfl (Nat.le_of_ble_eq_true rfl) ⟨Nat.zero_le _, Nat.zero_le _⟩ dX12_areBits_18) hS (fun H locs hP hS hW z7 => ?_)
    refine lv_if_eq (tgt := 40) hx hb dX12_areBits_21 (by decide) (fun c8 => ?_) (fun c8 => ?_)
    · have hf := if_t c8 hf
      refine lv_iconst (v := 0) hx hb dX12_areBits_40 rfl ?_
      cases hf
      exact x_retZ C hP hS hW isZ_0 dX12_areBits_41
    · have hf := if_f c8 hf
      refine lv_aload_n hx hb dX12_areBits_24 rfl (lv_at hl 0 rfl) ?_
      refine lv_aload_n hx hb dX12_areBits_25 rfl (lv_at hl 0 rfl) ?_
      obtain ⟨r9, er9, hf⟩ := bd1_e hf
      refine x_aft_i (x_runV (As := []) (rest := [.ref a]) C hP hS (c_X12_used (l := l) C.2.2.2.2.2.2.2.2.2.1 hW h_a k_a er9 H.size) h_a k_a (by decide) rfl rfl km_X12_used ki_X12_used qm_X12_357 ⟨(Nat.le_of_ble_eq_true rfl), (Nat.le_of_ble_eq_true rfl)⟩ rfl hl.1 rfl (Nat.le_of_ble_eq_true rfl) ⟨Nat.zero_le _, Nat.zero_le _⟩ dX12_areBits_26) hS (fun H locs hP hS hW => ?_)
      refine lv_iload_n hx hb dX12_areBits_29 rfl (lv_at hl 3 rfl) ?_
      obtain ⟨r10, er10, hf⟩ := bd1_e hf
      refine x_aft_z (x_runV (As := [.int r9, .int p2]) (rest := []) C hP hS (c_X12_isBits (l := l) C.2.2.2.2.2.2.2.2.2.1 hW h_a k_a er10 H.size) h_a k_a (by decide) rfl rfl km_X12_isBits ki_X12_isBits qm_X12_363 ⟨(Nat.le_of_ble_eq_true rfl), (Nat.le_of_ble_eq_true rfl)⟩ rfl hl.1 rfl (Nat.le_of_ble_eq_true rfl) ⟨Nat.zero_le _, Nat.zero_le _⟩ dX12_areBits_30) hS (fun H locs hP hS hW z11 => ?_)
      refine lv_if_eq (tgt := 40) hx hb dX12_areBits_33 (by decide) (fun c12 => ?_) (fun c12 => ?_)
      · have hf := if_t c12 hf
        refine lv_iconst (v := 0) hx hb dX12_areBits_40 rfl ?_
        cases hf
        exact x_retZ C hP hS hW isZ_0 dX12_areBits_41
      · have hf := if_f c12 hf
        refine lv_iconst (v := 1) hx hb dX12_areBits_36 rfl ?_
        refine lv_goto (tgt := 41) hx hb dX12_areBits_37 (by decide) ?_
        cases hf
        exact x_retZ C hP hS hW isZ_1 dX12_areBits_41
def s_X12_rankOf (N : Nat → Nat) (a : Nat) (p0 : Int32) (S : HS) : Option Int32 :=
  bd1 (s_X12_used N a S) fun r1 =>
  bd1 (s_X12_sizeOf N a r1 p0 S) fun r2 =>
  bd1 (s_X12_used N a S) fun r3 =>
  bd1 (s_X12_isMinus N a r3 p0 S) fun r4 =>
  if r4 = (0 : Int32) then
  some r2
  else
  some (-r2)
set_option maxRecDepth 100000 in
set_option maxHeartbeats 4000000 in
theorem c_X12_rankOf {l : Launch} {V : EV} {G : GS} {S : HS} {a : Nat} {p0 : Int32} {r : Int32} (hN : G.1.Nodup) (hW : WT G S) (h_a : a ∈ G.1) (k_a : G.2.1 a = 12) (hf : s_X12_rankOf G.2.2 a p0 S = some r) : MetI l yX12_rankOf cX12_rankOf 3 .int 3 88 V G S [.ref a, .int p0] r S := by
  intro sz
  refine x_in RX12 rfl (by decide +kernel) hN (Nat.le_of_ble_eq_true rfl) (fun p e s m args below meth c ls hsz hargs hnm C hP hS hl => ?_)
  subst hsz
  have hx := C.1
  have hb := C.2.1
  have hl : lv_has ls 3 [(0, .ref a), (1, .int p0)] := hl
  unfold s_X12_rankOf at hf
  refine lv_aload_n hx hb dX12_rankOf_0 rfl (lv_at hl 0 rfl) ?_
  refine lv_aload_n hx hb dX12_rankOf_1 rfl (lv_at hl 0 rfl) ?_
  obtain ⟨r1, er1, hf⟩ := bd1_e hf
  refine x_aft_i (x_runV (As := []) (rest := [.ref a]) C hP hS (c_X12_used (l := l) C.2.2.2.2.2.2.2.2.2.1 hW h_a k_a er1 s.heap.size) h_a k_a (by decide) rfl rfl km_X12_used ki_X12_used qm_X12_357 ⟨(Nat.le_of_ble_eq_true rfl), (Nat.le_of_ble_eq_true rfl)⟩ rfl hl.1 rfl (Nat.le_of_ble_eq_true rfl) ⟨Nat.zero_le _, Nat.zero_le _⟩ dX12_rankOf_2) hS (fun H locs hP hS hW => ?_)
  refine lv_iload_n hx hb dX12_rankOf_5 rfl (lv_at hl 1 rfl) ?_
  obtain ⟨r2, er2, hf⟩ := bd1_e hf
  refine x_aft_i (x_runV (As := [.int r1, .int p0]) (rest := []) C hP hS (c_X12_sizeOf (l := l) C.2.2.2.2.2.2.2.2.2.1 hW h_a k_a er2 H.size) h_a k_a (by decide) rfl rfl km_X12_sizeOf ki_X12_sizeOf qm_X12_270 ⟨(Nat.le_of_ble_eq_true rfl), (Nat.le_of_ble_eq_true rfl)⟩ rfl hl.1 rfl (Nat.le_of_ble_eq_true rfl) ⟨Nat.zero_le _, Nat.zero_le _⟩ dX12_rankOf_6) hS (fun H locs hP hS hW => ?_)
  refine lv_istore_n (lv' := [(2, .int r2), (0, .ref a), (1, .int p0)]) hx hb dX12_rankOf_9 rfl hl (by decide) rfl (fun ls hl => ?_)
  refine lv_aload_n hx hb dX12_rankOf_10 rfl (lv_at hl 1 rfl) ?_
  refine lv_aload_n hx hb dX12_rankOf_11 rfl (lv_at hl 1 rfl) ?_
  obtain ⟨r3, er3, hf⟩ := bd1_e hf
  refine x_aft_i (x_runV (As := []) (rest := [.ref a]) C hP hS (c_X12_used (l := l) C.2.2.2.2.2.2.2.2.2.1 hW h_a k_a er3 H.size) h_a k_a (by decide) rfl rfl km_X12_used ki_X12_used qm_X12_357 ⟨(Nat.le_of_ble_eq_true rfl), (Nat.le_of_ble_eq_true rfl)⟩ rfl hl.1 rfl (Nat.le_of_ble_eq_true rfl) ⟨Nat.zero_le _, Nat.zero_le _⟩ dX12_rankOf_12) hS (fun H locs hP hS hW => ?_)
  refine lv_iload_n hx hb dX12_rankOf_15 rfl (lv_at hl 2 rfl) ?_
  obtain ⟨r4, er4, hf⟩ := bd1_e hf
  refine x_aft_z (x_runV (As := [.int r3, .int p0]) (rest := []) C hP hS (c_X12_isMinus (l := l) C.2.2.2.2.2.2.2.2.2.1 hW h_a k_a er4 H.size) h_a k_a (by decide) rfl rfl km_X12_isMinus ki_X12_isMinus qm_X12_283 ⟨(Nat.le_of_ble_eq_true rfl), (Nat.le_of_ble_eq_true rfl)⟩ rfl hl.1 rfl (Nat.le_of_ble_eq_true rfl) ⟨Nat.zero_le _, Nat.zero_le _⟩ dX12_rankOf_16) hS (fun H locs hP hS hW z5 => ?_)
  refine lv_if_eq (tgt := 27) hx hb dX12_rankOf_19 (by decide) (fun c6 => ?_) (fun c6 => ?_)
  · have hf := if_t c6 hf
    refine lv_iload_n hx hb dX12_rankOf_27 rfl (lv_at hl 0 rfl) ?_
    cases hf
    exact x_reti C hP hS hW dX12_rankOf_28
  · have hf := if_f c6 hf
    refine lv_iload_n hx hb dX12_rankOf_22 rfl (lv_at hl 0 rfl) ?_
    refine lv_ineg hx hb dX12_rankOf_23 ?_
    refine lv_goto (tgt := 28) hx hb dX12_rankOf_24 (by decide) ?_
    cases hf
    exact x_reti C hP hS hW dX12_rankOf_28
def s_X12_apart (N : Nat → Nat) (a : Nat) (p0 : Int32) (p1 : Int32) (S : HS) : Option (Int32 × HS) :=
  bnd (uI S 1200 a 0) fun S1 =>
  bd1 (s_X12_areBits N a p0 p1 0 S1) fun r2 =>
  if r2 = (0 : Int32) then
  some ((-1), S1)
  else
  bd1 (s_X12_used N a S1) fun r5 =>
  bd1 (s_X12_isNan N a r5 p0 S1) fun r6 =>
  if r6 = (0 : Int32) then
  bd1 (s_X12_used N a S1) fun r9 =>
  bd1 (s_X12_isNan N a r9 p1 S1) fun r10 =>
  if r10 = (0 : Int32) then
  bd1 (s_X12_rankOf N a p0 S1) fun r13 =>
  bd1 (s_X12_rankOf N a p1 S1) fun r14 =>
  bnd (r13 - r14 : Int32) fun x15 =>
  if (0 : Int32) ≤ x15 then
  some (x15, S1)
  else
  some (-x15, S1)
  else
  some ((-1), S1)
  else
  some ((-1), S1)
set_option maxRecDepth 100000 in
set_option maxHeartbeats 4000000 in
theorem c_X12_apart {l : Launch} {V : EV} {G : GS} {S : HS} {a : Nat} {p0 : Int32} {p1 : Int32} {r : Int32} {S' : HS} (hN : G.1.Nodup) (hW : WT G S) (h_a : a ∈ G.1) (k_a : G.2.1 a = 12) (hf : s_X12_apart G.2.2 a p0 p1 S = some (r, S')) : MetI l yX12_apart cX12_apart 4 .int 6 180 V G S [.ref a, .int p0, .int p1] r S' := by
  intro sz
  refine x_in RX12 rfl (by decide +kernel) hN (Nat.le_of_ble_eq_true rfl) (fun p e s m args below meth c ls hsz hargs hnm C hP hS hl => ?_)
  subst hsz
  have hx := C.1
  have hb := C.2.1
  have hl : lv_has ls 4 [(0, .ref a), (1, .int p0), (2, .int p1)] := hl
  unfold s_X12_apart at hf
  refine lv_aload_n hx hb dX12_apart_0 rfl (lv_at hl 0 rfl) ?_
  refine lv_iconst (v := 0) hx hb dX12_apart_1 rfl ?_
  obtain ⟨S1, eS1, hf⟩ := bnd_e hf
  refine pf_X12_1 C hP hS h_a k_a eS1 dX12_apart_2 (fun H locs hP hS => ?_)
  have hW : WT G S1 := by rw [eS1]; exact hW
  refine lv_aload_n hx hb dX12_apart_5 rfl (lv_at hl 0 rfl) ?_
  refine lv_iload_n hx hb dX12_apart_6 rfl (lv_at hl 1 rfl) ?_
  refine lv_iload_n hx hb dX12_apart_7 rfl (lv_at hl 2 rfl) ?_
  refine lv_iconst (v := 0) hx hb dX12_apart_8 rfl ?_
  obtain ⟨r2, er2, hf⟩ := bd1_e hf
  refine x_aft_z (x_runV (As := [.int p0, .int p1, .int 0]) (rest := []) C hP hS (c_X12_areBits (l := l) C.2.2.2.2.2.2.2.2.2.1 hW h_a k_a er2 H.size) h_a k_a (by decide) rfl rfl km_X12_areBits ki_X12_areBits qm_X12_403 ⟨(Nat.le_of_ble_eq_true rfl), (Nat.le_of_ble_eq_true rfl)⟩ rfl hl.1 rfl (Nat.le_of_ble_eq_true rfl) ⟨Nat.zero_le _, Nat.zero_le _⟩ dX12_apart_9) hS (fun H locs hP hS hW z3 => ?_)
  refine lv_if_eq (tgt := 39) hx hb dX12_apart_12 (by decide) (fun c4 => ?_) (fun c4 => ?_)
  · have hf := if_t c4 hf
    refine lv_iconst (v := (-1)) hx hb dX12_apart_39 rfl ?_
    cases hf
    exact x_reti C hP hS hW dX12_apart_40
  · have hf := if_f c4 hf
    refine lv_aload_n hx hb dX12_apart_15 rfl (lv_at hl 0 rfl) ?_
    refine lv_aload_n hx hb dX12_apart_16 rfl (lv_at hl 0 rfl) ?_
    obtain ⟨r5, er5, hf⟩ := bd1_e hf
    refine x_aft_i (x_runV (As := []) (rest := [.ref a]) C hP hS (c_X12_used (l := l) C.2.2.2.2.2.2.2.2.2.1 hW h_a k_a er5 H.size) h_a k_a (by decide) rfl rfl km_X12_used ki_X12_used qm_X12_357 ⟨(Nat.le_of_ble_eq_true rfl), (Nat.le_of_ble_eq_true rfl)⟩ rfl hl.1 rfl (Nat.le_of_ble_eq_true rfl) ⟨Nat.zero_le _, Nat.zero_le _⟩ dX12_apart_17) hS (fun H locs hP hS hW => ?_)
    refine lv_iload_n hx hb dX12_apart_20 rfl (lv_at hl 1 rfl) ?_
    obtain ⟨r6, er6, hf⟩ := bd1_e hf
    refine x_aft_z (x_runV (As := [.int r5, .int p0]) (rest := []) C hP hS (c_X12_isNan (l := l) C.2.2.2.2.2.2.2.2.2.1 hW h_a k_a er6 H.size) h_a k_a (by decide) rfl rfl km_X12_isNan ki_X12_isNan qm_X12_279 ⟨(Nat.le_of_ble_eq_true rfl), (Nat.le_of_ble_eq_true rfl)⟩ rfl hl.1 rfl (Nat.le_of_ble_eq_true rfl) ⟨Nat.zero_le _, Nat.zero_le _⟩ dX12_apart_21) hS (fun H locs hP hS hW z7 => ?_)
    refine lv_if_ne (tgt := 39) hx hb dX12_apart_24 (by decide) (fun c8 => ?_) (fun c8 => ?_)
    · have hf := if_f c8 hf
      refine lv_iconst (v := (-1)) hx hb dX12_apart_39 rfl ?_
      cases hf
      exact x_reti C hP hS hW dX12_apart_40
    · have hf := if_t c8 hf
      refine lv_aload_n hx hb dX12_apart_27 rfl (lv_at hl 0 rfl) ?_
      refine lv_aload_n hx hb dX12_apart_28 rfl (lv_at hl 0 rfl) ?_
      obtain ⟨r9, er9, hf⟩ := bd1_e hf
      refine x_aft_i (x_runV (As := []) (rest := [.ref a]) C hP hS (c_X12_used (l := l) C.2.2.2.2.2.2.2.2.2.1 hW h_a k_a er9 H.size) h_a k_a (by decide) rfl rfl km_X12_used ki_X12_used qm_X12_357 ⟨(Nat.le_of_ble_eq_true rfl), (Nat.le_of_ble_eq_true rfl)⟩ rfl hl.1 rfl (Nat.le_of_ble_eq_true rfl) ⟨Nat.zero_le _, Nat.zero_le _⟩ dX12_apart_29) hS (fun H locs hP hS hW => ?_)
      refine lv_iload_n hx hb dX12_apart_32 rfl (lv_at hl 2 rfl) ?_
      obtain ⟨r10, er10, hf⟩ := bd1_e hf
      refine x_aft_z (x_runV (As := [.int r9, .int p1]) (rest := []) C hP hS (c_X12_isNan (l := l) C.2.2.2.2.2.2.2.2.2.1 hW h_a k_a er10 H.size) h_a k_a (by decide) rfl rfl km_X12_isNan ki_X12_isNan qm_X12_279 ⟨(Nat.le_of_ble_eq_true rfl), (Nat.le_of_ble_eq_true rfl)⟩ rfl hl.1 rfl (Nat.le_of_ble_eq_true rfl) ⟨Nat.zero_le _, Nat.zero_le _⟩ dX12_apart_33) hS (fun H locs hP hS hW z11 => ?_)
      refine lv_if_eq (tgt := 41) hx hb dX12_apart_36 (by decide) (fun c12 => ?_) (fun c12 => ?_)
      · have hf := if_t c12 hf
        refine lv_aload_n hx hb dX12_apart_41 rfl (lv_at hl 0 rfl) ?_
        refine lv_iload_n hx hb dX12_apart_42 rfl (lv_at hl 1 rfl) ?_
        obtain ⟨r13, er13, hf⟩ := bd1_e hf
        refine x_aft_i (x_runV (As := [.int p0]) (rest := []) C hP hS (c_X12_rankOf (l := l) C.2.2.2.2.2.2.2.2.2.1 hW h_a k_a er13 H.size) h_a k_a (by decide) rfl rfl km_X12_rankOf ki_X12_rankOf qm_X12_406 ⟨(Nat.le_of_ble_eq_true rfl), (Nat.le_of_ble_eq_true rfl)⟩ rfl hl.1 rfl (Nat.le_of_ble_eq_true rfl) ⟨Nat.zero_le _, Nat.zero_le _⟩ dX12_apart_43) hS (fun H locs hP hS hW => ?_)
        refine lv_aload_n hx hb dX12_apart_46 rfl (lv_at hl 0 rfl) ?_
        refine lv_iload_n hx hb dX12_apart_47 rfl (lv_at hl 2 rfl) ?_
        obtain ⟨r14, er14, hf⟩ := bd1_e hf
        refine x_aft_i (x_runV (As := [.int p1]) (rest := [.int r13]) C hP hS (c_X12_rankOf (l := l) C.2.2.2.2.2.2.2.2.2.1 hW h_a k_a er14 H.size) h_a k_a (by decide) rfl rfl km_X12_rankOf ki_X12_rankOf qm_X12_406 ⟨(Nat.le_of_ble_eq_true rfl), (Nat.le_of_ble_eq_true rfl)⟩ rfl hl.1 rfl (Nat.le_of_ble_eq_true rfl) ⟨Nat.zero_le _, Nat.zero_le _⟩ dX12_apart_48) hS (fun H locs hP hS hW => ?_)
        refine lv_isub hx hb dX12_apart_51 ?_
        obtain ⟨x15, ex15, hf⟩ := bnd_e hf
        refine nm_i ex15 ?_
        refine lv_istore_n (lv' := [(3, .int x15), (0, .ref a), (1, .int p0), (2, .int p1)]) hx hb dX12_apart_52 rfl hl (by decide) rfl (fun ls hl => ?_)
        refine lv_iload_n hx hb dX12_apart_53 rfl (lv_at hl 0 rfl) ?_
        refine lv_if_ge (tgt := 62) hx hb dX12_apart_54 (by decide) (fun c16 => ?_) (fun c16 => ?_)
        · have hf := if_t c16 hf
          refine lv_iload_n hx hb dX12_apart_62 rfl (lv_at hl 0 rfl) ?_
          cases hf
          exact x_reti C hP hS hW dX12_apart_63
        · have hf := if_f c16 hf
          refine lv_iload_n hx hb dX12_apart_57 rfl (lv_at hl 0 rfl) ?_
          refine lv_ineg hx hb dX12_apart_58 ?_
          refine lv_goto (tgt := 63) hx hb dX12_apart_59 (by decide) ?_
          cases hf
          exact x_reti C hP hS hW dX12_apart_63
      · have hf := if_f c12 hf
        refine lv_iconst (v := (-1)) hx hb dX12_apart_39 rfl ?_
        cases hf
        exact x_reti C hP hS hW dX12_apart_40
def s_X12_isSmall (N : Nat → Nat) (a : Nat) (S : HS) : Option Int32 :=
  bd1 (s_X12_used N a S) fun r1 =>
  if r1 < (0 : Int32) then
  some 0
  else
  bd1 (s_X12_used N a S) fun r3 =>
  bd1 (s_X12_expOf N a r3 S) fun r4 =>
  bd1 (s_X12_used N a S) fun r5 =>
  bd1 (s_X12_fracOf N a r5 S) fun r6 =>
  if (9 : Int32) < (r4 + r6) then
  some 0
  else
  some 1
set_option maxRecDepth 100000 in
set_option maxHeartbeats 4000000 in
theorem c_X12_isSmall {l : Launch} {V : EV} {G : GS} {S : HS} {a : Nat} {r : Int32} (hN : G.1.Nodup) (hW : WT G S) (h_a : a ∈ G.1) (k_a : G.2.1 a = 12) (hf : s_X12_isSmall G.2.2 a S = some r) : MetZ l yX12_isSmall cX12_isSmall 1 1 29 V G S [.ref a] r S := by
  intro sz
  refine x_in RX12 rfl (by decide +kernel) hN (Nat.le_of_ble_eq_true rfl) (fun p e s m args below meth c ls hsz hargs hnm C hP hS hl => ?_)
  subst hsz
  have hx := C.1
  have hb := C.2.1
  have hl : lv_has ls 1 [(0, .ref a)] := hl
  unfold s_X12_isSmall at hf
  refine lv_aload_n hx hb dX12_isSmall_0 rfl (lv_at hl 0 rfl) ?_
  obtain ⟨r1, er1, hf⟩ := bd1_e hf
  refine x_aft_i (x_runV (As := []) (rest := []) C hP hS (c_X12_used (l := l) C.2.2.2.2.2.2.2.2.2.1 hW h_a k_a er1 s.heap.size) h_a k_a (by decide) rfl rfl km_X12_used ki_X12_used qm_X12_357 ⟨(Nat.le_of_ble_eq_true rfl), (Nat.le_of_ble_eq_true rfl)⟩ rfl hl.1 rfl (Nat.le_of_ble_eq_true rfl) ⟨Nat.zero_le _, Nat.zero_le _⟩ dX12_isSmall_1) hS (fun H locs hP hS hW => ?_)
  refine lv_if_lt (tgt := 33) hx hb dX12_isSmall_4 (by decide) (fun c2 => ?_) (fun c2 => ?_)
  · have hf := if_t c2 hf
    refine lv_iconst (v := 0) hx hb dX12_isSmall_33 rfl ?_
    cases hf
    exact x_retZ C hP hS hW isZ_0 dX12_isSmall_34
  · have hf := if_f c2 hf
    refine lv_aload_n hx hb dX12_isSmall_7 rfl (lv_at hl 0 rfl) ?_
    refine lv_aload_n hx hb dX12_isSmall_8 rfl (lv_at hl 0 rfl) ?_
    obtain ⟨r3, er3, hf⟩ := bd1_e hf
    refine x_aft_i (x_runV (As := []) (rest := [.ref a]) C hP hS (c_X12_used (l := l) C.2.2.2.2.2.2.2.2.2.1 hW h_a k_a er3 H.size) h_a k_a (by decide) rfl rfl km_X12_used ki_X12_used qm_X12_357 ⟨(Nat.le_of_ble_eq_true rfl), (Nat.le_of_ble_eq_true rfl)⟩ rfl hl.1 rfl (Nat.le_of_ble_eq_true rfl) ⟨Nat.zero_le _, Nat.zero_le _⟩ dX12_isSmall_9) hS (fun H locs hP hS hW => ?_)
    obtain ⟨r4, er4, hf⟩ := bd1_e hf
    refine x_aft_i (x_runV (As := [.int r3]) (rest := []) C hP hS (c_X12_expOf (l := l) C.2.2.2.2.2.2.2.2.2.1 hW h_a k_a er4 H.size) h_a k_a (by decide) rfl rfl km_X12_expOf ki_X12_expOf qm_X12_246 ⟨(Nat.le_of_ble_eq_true rfl), (Nat.le_of_ble_eq_true rfl)⟩ rfl hl.1 rfl (Nat.le_of_ble_eq_true rfl) ⟨Nat.zero_le _, Nat.zero_le _⟩ dX12_isSmall_12) hS (fun H locs hP hS hW => ?_)
    refine lv_aload_n hx hb dX12_isSmall_15 rfl (lv_at hl 0 rfl) ?_
    refine lv_aload_n hx hb dX12_isSmall_16 rfl (lv_at hl 0 rfl) ?_
    obtain ⟨r5, er5, hf⟩ := bd1_e hf
    refine x_aft_i (x_runV (As := []) (rest := [.ref a, .int r4]) C hP hS (c_X12_used (l := l) C.2.2.2.2.2.2.2.2.2.1 hW h_a k_a er5 H.size) h_a k_a (by decide) rfl rfl km_X12_used ki_X12_used qm_X12_357 ⟨(Nat.le_of_ble_eq_true rfl), (Nat.le_of_ble_eq_true rfl)⟩ rfl hl.1 rfl (Nat.le_of_ble_eq_true rfl) ⟨Nat.zero_le _, Nat.zero_le _⟩ dX12_isSmall_17) hS (fun H locs hP hS hW => ?_)
    obtain ⟨r6, er6, hf⟩ := bd1_e hf
    refine x_aft_i (x_runV (As := [.int r5]) (rest := [.int r4]) C hP hS (c_X12_fracOf (l := l) C.2.2.2.2.2.2.2.2.2.1 hW h_a k_a er6 H.size) h_a k_a (by decide) rfl rfl km_X12_fracOf ki_X12_fracOf qm_X12_255 ⟨(Nat.le_of_ble_eq_true rfl), (Nat.le_of_ble_eq_true rfl)⟩ rfl hl.1 rfl (Nat.le_of_ble_eq_true rfl) ⟨Nat.zero_le _, Nat.zero_le _⟩ dX12_isSmall_20) hS (fun H locs hP hS hW => ?_)
    refine lv_iadd hx hb dX12_isSmall_23 ?_
    refine lv_bipush (v := 9) hx hb dX12_isSmall_24 kc_bipush_9 ?_
    refine lv_icmp_gt (tgt := 33) hx hb dX12_isSmall_26 (by decide) (fun c7 => ?_) (fun c7 => ?_)
    · have hf := if_t c7 hf
      refine lv_iconst (v := 0) hx hb dX12_isSmall_33 rfl ?_
      cases hf
      exact x_retZ C hP hS hW isZ_0 dX12_isSmall_34
    · have hf := if_f c7 hf
      refine lv_iconst (v := 1) hx hb dX12_isSmall_29 rfl ?_
      refine lv_goto (tgt := 34) hx hb dX12_isSmall_30 (by decide) ?_
      cases hf
      exact x_retZ C hP hS hW isZ_1 dX12_isSmall_34
def s_X12_areSmall (N : Nat → Nat) (a : Nat) (p0 : Int32) (p1 : Int32) (S : HS) : Option Int32 :=
  bd1 (s_X12_isSmall N a S) fun r1 =>
  if r1 = (0 : Int32) then
  some 0
  else
  bd1 (s_X12_areBits N a p0 p1 0 S) fun r4 =>
  if r4 = (0 : Int32) then
  some 0
  else
  some 1
set_option maxRecDepth 100000 in
set_option maxHeartbeats 4000000 in
theorem c_X12_areSmall {l : Launch} {V : EV} {G : GS} {S : HS} {a : Nat} {p0 : Int32} {p1 : Int32} {r : Int32} (hN : G.1.Nodup) (hW : WT G S) (h_a : a ∈ G.1) (k_a : G.2.1 a = 12) (hf : s_X12_areSmall G.2.2 a p0 p1 S = some r) : MetZ l yX12_areSmall cX12_areSmall 3 4 119 V G S [.ref a, .int p0, .int p1] r S := by
  intro sz
  refine x_in RX12 rfl (by decide +kernel) hN (Nat.le_of_ble_eq_true rfl) (fun p e s m args below meth c ls hsz hargs hnm C hP hS hl => ?_)
  subst hsz
  have hx := C.1
  have hb := C.2.1
  have hl : lv_has ls 3 [(0, .ref a), (1, .int p0), (2, .int p1)] := hl
  unfold s_X12_areSmall at hf
  refine lv_aload_n hx hb dX12_areSmall_0 rfl (lv_at hl 0 rfl) ?_
  obtain ⟨r1, er1, hf⟩ := bd1_e hf
  refine x_aft_z (x_runV (As := []) (rest := []) C hP hS (c_X12_isSmall (l := l) C.2.2.2.2.2.2.2.2.2.1 hW h_a k_a er1 s.heap.size) h_a k_a (by decide) rfl rfl km_X12_isSmall ki_X12_isSmall qm_X12_443 ⟨(Nat.le_of_ble_eq_true rfl), (Nat.le_of_ble_eq_true rfl)⟩ rfl hl.1 rfl (Nat.le_of_ble_eq_true rfl) ⟨Nat.zero_le _, Nat.zero_le _⟩ dX12_areSmall_1) hS (fun H locs hP hS hW z2 => ?_)
  refine lv_if_eq (tgt := 21) hx hb dX12_areSmall_4 (by decide) (fun c3 => ?_) (fun c3 => ?_)
  · have hf := if_t c3 hf
    refine lv_iconst (v := 0) hx hb dX12_areSmall_21 rfl ?_
    cases hf
    exact x_retZ C hP hS hW isZ_0 dX12_areSmall_22
  · have hf := if_f c3 hf
    refine lv_aload_n hx hb dX12_areSmall_7 rfl (lv_at hl 0 rfl) ?_
    refine lv_iload_n hx hb dX12_areSmall_8 rfl (lv_at hl 1 rfl) ?_
    refine lv_iload_n hx hb dX12_areSmall_9 rfl (lv_at hl 2 rfl) ?_
    refine lv_iconst (v := 0) hx hb dX12_areSmall_10 rfl ?_
    obtain ⟨r4, er4, hf⟩ := bd1_e hf
    refine x_aft_z (x_runV (As := [.int p0, .int p1, .int 0]) (rest := []) C hP hS (c_X12_areBits (l := l) C.2.2.2.2.2.2.2.2.2.1 hW h_a k_a er4 H.size) h_a k_a (by decide) rfl rfl km_X12_areBits ki_X12_areBits qm_X12_403 ⟨(Nat.le_of_ble_eq_true rfl), (Nat.le_of_ble_eq_true rfl)⟩ rfl hl.1 rfl (Nat.le_of_ble_eq_true rfl) ⟨Nat.zero_le _, Nat.zero_le _⟩ dX12_areSmall_11) hS (fun H locs hP hS hW z5 => ?_)
    refine lv_if_eq (tgt := 21) hx hb dX12_areSmall_14 (by decide) (fun c6 => ?_) (fun c6 => ?_)
    · have hf := if_t c6 hf
      refine lv_iconst (v := 0) hx hb dX12_areSmall_21 rfl ?_
      cases hf
      exact x_retZ C hP hS hW isZ_0 dX12_areSmall_22
    · have hf := if_f c6 hf
      refine lv_iconst (v := 1) hx hb dX12_areSmall_17 rfl ?_
      refine lv_goto (tgt := 22) hx hb dX12_areSmall_18 (by decide) ?_
      cases hf
      exact x_retZ C hP hS hW isZ_1 dX12_areSmall_22
def s_X12_isFirst_J58 (N : Nat → Nat) (F : Nat) (k4 : Nat → Int32 → Int32 → Int32 → HS → Option Int32) (v0 : Nat) (v1 : Int32) (v3 : Int32) (w0 : Int32) (S : HS) : Option Int32 :=
  bnd (v3 + Int32.ofInt 1 : Int32) fun x4 =>
  k4 v0 v1 w0 x4 S
def s_X12_isFirst_L4 (N : Nat → Nat) (F : Nat) : Nat → Nat → Int32 → Int32 → Int32 → HS → Option Int32
  | 0, _, _, _, _, _ => none
  | n + 1, v0, v1, v2, v3, S => if v1 ≤ v3 then
  if isZ v2 = true then
  some v2
  else none
  else
  if v2 = (0 : Int32) then
  s_X12_isFirst_J58 N F (s_X12_isFirst_L4 N F n) v0 v1 v3 0 S
  else
  bd1 (gR S 1225 v0) fun t5 =>
  if inB v3 (N t5) = true then
  bd1 (gR S 1225 v0) fun t7 =>
  if inB v1 (N t7) = true then
  if (lg_cmp (aJ S t5 v3.toNatClampNeg) (aJ S t7 v1.toNatClampNeg)) = (0 : Int32) then
  bd1 (gR S 1226 v0) fun t10 =>
  if inB v3 (N t10) = true then
  bd1 (gR S 1226 v0) fun t12 =>
  if inB v1 (N t12) = true then
  if (lg_cmp ((aJ S t10 v3.toNatClampNeg) - (aJ S t10 v3.toNatClampNeg) / 134217728 * 134217728) ((aJ S t12 v1.toNatClampNeg) - (aJ S t12 v1.toNatClampNeg) / 134217728 * 134217728)) = (0 : Int32) then
  s_X12_isFirst_J58 N F (s_X12_isFirst_L4 N F n) v0 v1 v3 0 S
  else
  s_X12_isFirst_J58 N F (s_X12_isFirst_L4 N F n) v0 v1 v3 1 S
  else none
  else none
  else
  s_X12_isFirst_J58 N F (s_X12_isFirst_L4 N F n) v0 v1 v3 1 S
  else none
  else none
def s_X12_isFirst (N : Nat → Nat) (F : Nat) (a : Nat) (p0 : Int32) (S : HS) : Option Int32 :=
  s_X12_isFirst_L4 N F F a p0 1 0 S
set_option maxRecDepth 100000 in
set_option maxHeartbeats 4000000 in
theorem b_X12_isFirst_58 {p : Program} {l : Launch} {e : Env} {s : State} {m : MethodId} {args : Array Value} {below : List Frame} {meth : Method} {c : Code} {V : EV} {G : GS} {r : Int32} {F : Nat} (C : CX p s m args meth c RX12 cX12_isFirst 4 (some .boolean) V G) {k4 : Nat → Int32 → Int32 → Int32 → HS → Option Int32} (hk4 : ∀ (v0 : Nat) (v1 : Int32) (v2 : Int32) (v3 : Int32) (h_v0 : v0 ∈ G.1) (k_v0 : G.2.1 v0 = 12) (S : HS) (H : Heap) (locs : List Loc) (ls : Array Slot), k4 v0 v1 v2 v3 S = some r → HP V G S H → va_S (AG G s.heap.size) s.heap H locs → WT G S → lv_has ls 4 [(0, .ref v0), (1, .int v1), (2, .int v2), (3, .int v3)] → W p l e (RM 0 0) s m args below meth c H locs 0 0 (MQ below (QZ V G S r s.heap.size) args s 0 0 (AG G s.heap.size)) (F0 m 4 ls [])) : ∀ (v0 : Nat) (v1 : Int32) (v3 : Int32) (w0 : Int32) (h_v0 : v0 ∈ G.1) (k_v0 : G.2.1 v0 = 12) (S : HS) (H : Heap) (locs : List Loc) (ls : Array Slot), s_X12_isFirst_J58 G.2.2 F k4 v0 v1 v3 w0 S = some r → HP V G S H → va_S (AG G s.heap.size) s.heap H locs → WT G S → lv_has ls 4 [(0, .ref v0), (1, .int v1), (3, .int v3)] → W p l e (RM 0 0) s m args below meth c H locs 0 0 (MQ below (QZ V G S r s.heap.size) args s 0 0 (AG G s.heap.size)) (F0 m 58 ls [.int w0]) := by
  intro v0 v1 v3 w0 h_v0 k_v0 S H locs ls hf hP hS hW hl
  have hx := C.1
  have hb := C.2.1
  unfold s_X12_isFirst_J58 at hf
  refine lv_istore_n (lv' := [(2, .int w0), (0, .ref v0), (1, .int v1), (3, .int v3)]) hx hb dX12_isFirst_58 rfl hl (by decide) rfl (fun ls hl => ?_)
  obtain ⟨x4, ex4, hf⟩ := bnd_e hf
  refine lv_iinc (v := x4) (lv' := [(3, .int x4), (2, .int w0), (0, .ref v0), (1, .int v1)]) hx hb dX12_isFirst_59 hl (k := 3) rfl ex4.symm (by decide) rfl (fun ls hl => ?_)
  refine lv_goto (tgt := 4) hx hb dX12_isFirst_62 (by decide) ?_
  exact hk4 v0 v1 w0 x4 h_v0 k_v0 S H locs _ hf hP hS hW (lv_sub hl [2, 3, 1, 0] rfl)
set_option maxRecDepth 100000 in
set_option maxHeartbeats 4000000 in
theorem b_X12_isFirst_4 {p : Program} {l : Launch} {e : Env} {s : State} {m : MethodId} {args : Array Value} {below : List Frame} {meth : Method} {c : Code} {V : EV} {G : GS} {r : Int32} {F : Nat} (C : CX p s m args meth c RX12 cX12_isFirst 4 (some .boolean) V G) : ∀ n : Nat, ∀ (v0 : Nat) (v1 : Int32) (v2 : Int32) (v3 : Int32) (h_v0 : v0 ∈ G.1) (k_v0 : G.2.1 v0 = 12) (S : HS) (H : Heap) (locs : List Loc) (ls : Array Slot), s_X12_isFirst_L4 G.2.2 F n v0 v1 v2 v3 S = some r → HP V G S H → va_S (AG G s.heap.size) s.heap H locs → WT G S → lv_has ls 4 [(0, .ref v0), (1, .int v1), (2, .int v2), (3, .int v3)] → W p l e (RM 0 0) s m args below meth c H locs 0 0 (MQ below (QZ V G S r s.heap.size) args s 0 0 (AG G s.heap.size)) (F0 m 4 ls []) := by
  intro n
  induction n with
  | zero =>
    intro v0 v1 v2 v3 h_v0 k_v0 S H locs ls hf
    rw [s_X12_isFirst_L4] at hf
    cases hf
  | succ n ih =>
    intro v0 v1 v2 v3 h_v0 k_v0 S H locs ls hf hP hS hW hl
    have hx := C.1
    have hb := C.2.1
    rw [s_X12_isFirst_L4] at hf
    refine lv_iload_n hx hb dX12_isFirst_4 rfl (lv_at hl 3 rfl) ?_
    refine lv_iload_n hx hb dX12_isFirst_5 rfl (lv_at hl 1 rfl) ?_
    refine lv_icmp_ge (tgt := 65) hx hb dX12_isFirst_6 (by decide) (fun c1 => ?_) (fun c1 => ?_)
    · have hf := if_t c1 hf
      refine lv_iload_n hx hb dX12_isFirst_65 rfl (lv_at hl 2 rfl) ?_
      obtain ⟨h2, hf⟩ := if_s hf
      cases hf
      exact x_retZ C hP hS hW h2 dX12_isFirst_66
    · have hf := if_f c1 hf
      refine lv_iload_n hx hb dX12_isFirst_9 rfl (lv_at hl 2 rfl) ?_
      refine lv_if_eq (tgt := 57) hx hb dX12_isFirst_10 (by decide) (fun c3 => ?_) (fun c3 => ?_)
      · have hf := if_t c3 hf
        refine lv_iconst (v := 0) hx hb dX12_isFirst_57 rfl ?_
        exact b_X12_isFirst_58 C ih v0 v1 v3 0 h_v0 k_v0 S H locs _ hf hP hS hW (lv_sub hl [0, 1, 3] rfl)
      · have hf := if_f c3 hf
        refine lv_aload_n hx hb dX12_isFirst_13 rfl (lv_at hl 0 rfl) ?_
        refine gf_X12_102 C hP h_v0 k_v0 dX12_isFirst_14 ?_
        obtain ⟨t5, et5, hf⟩ := bd1_e hf
        obtain ⟨h_t5, k_t5⟩ := wt_r hW h_v0 k_v0 (by decide) et5
        have k_t5 : G.2.1 t5 = 15 := k_t5
        rw [et5]
        refine lv_iload_n hx hb dX12_isFirst_17 rfl (lv_at hl 3 rfl) ?_
        obtain ⟨h6, hf⟩ := if_s hf
        refine x_lald C hP h_t5 k_t5 h6 dX12_isFirst_18 ?_
        refine lv_aload_n hx hb dX12_isFirst_19 rfl (lv_at hl 0 rfl) ?_
        refine gf_X12_102 C hP h_v0 k_v0 dX12_isFirst_20 ?_
        obtain ⟨t7, et7, hf⟩ := bd1_e hf
        obtain ⟨h_t7, k_t7⟩ := wt_r hW h_v0 k_v0 (by decide) et7
        have k_t7 : G.2.1 t7 = 15 := k_t7
        rw [et7]
        refine lv_iload_n hx hb dX12_isFirst_23 rfl (lv_at hl 1 rfl) ?_
        obtain ⟨h8, hf⟩ := if_s hf
        refine x_lald C hP h_t7 k_t7 h8 dX12_isFirst_24 ?_
        refine W.lcmp hx hb dX12_isFirst_25 ?_
        refine lv_if_ne (tgt := 53) hx hb dX12_isFirst_26 (by decide) (fun c9 => ?_) (fun c9 => ?_)
        · have hf := if_f c9 hf
          refine lv_iconst (v := 1) hx hb dX12_isFirst_53 rfl ?_
          refine lv_goto (tgt := 58) hx hb dX12_isFirst_54 (by decide) ?_
          exact b_X12_isFirst_58 C ih v0 v1 v3 1 h_v0 k_v0 S H locs _ hf hP hS hW (lv_sub hl [0, 1, 3] rfl)
        · have hf := if_t c9 hf
          refine lv_aload_n hx hb dX12_isFirst_29 rfl (lv_at hl 0 rfl) ?_
          refine gf_X12_105 C hP h_v0 k_v0 dX12_isFirst_30 ?_
          obtain ⟨t10, et10, hf⟩ := bd1_e hf
          obtain ⟨h_t10, k_t10⟩ := wt_r hW h_v0 k_v0 (by decide) et10
          have k_t10 : G.2.1 t10 = 15 := k_t10
          rw [et10]
          refine lv_iload_n hx hb dX12_isFirst_33 rfl (lv_at hl 3 rfl) ?_
          obtain ⟨h11, hf⟩ := if_s hf
          refine x_lald C hP h_t10 k_t10 h11 dX12_isFirst_34 ?_
          refine lv_ldc2 (v := 134217728) hx hb C.2.2.2.2.1 (C.2.2.2.2.2.1 _ qc_X12_373) dX12_isFirst_35 ?_
          refine lv_lrem hx hb dX12_isFirst_38 (by decide) ?_
          refine lv_aload_n hx hb dX12_isFirst_39 rfl (lv_at hl 0 rfl) ?_
          refine gf_X12_105 C hP h_v0 k_v0 dX12_isFirst_40 ?_
          obtain ⟨t12, et12, hf⟩ := bd1_e hf
          obtain ⟨h_t12, k_t12⟩ := wt_r hW h_v0 k_v0 (by decide) et12
          have k_t12 : G.2.1 t12 = 15 := k_t12
          rw [et12]
          refine lv_iload_n hx hb dX12_isFirst_43 rfl (lv_at hl 1 rfl) ?_
          obtain ⟨h13, hf⟩ := if_s hf
          refine x_lald C hP h_t12 k_t12 h13 dX12_isFirst_44 ?_
          refine lv_ldc2 (v := 134217728) hx hb C.2.2.2.2.1 (C.2.2.2.2.2.1 _ qc_X12_373) dX12_isFirst_45 ?_
          refine lv_lrem hx hb dX12_isFirst_48 (by decide) ?_
          refine W.lcmp hx hb dX12_isFirst_49 ?_
          refine lv_if_eq (tgt := 57) hx hb dX12_isFirst_50 (by decide) (fun c14 => ?_) (fun c14 => ?_)
          · have hf := if_t c14 hf
            refine lv_iconst (v := 0) hx hb dX12_isFirst_57 rfl ?_
            exact b_X12_isFirst_58 C ih v0 v1 v3 0 h_v0 k_v0 S H locs _ hf hP hS hW (lv_sub hl [0, 1, 3] rfl)
          · have hf := if_f c14 hf
            refine lv_iconst (v := 1) hx hb dX12_isFirst_53 rfl ?_
            refine lv_goto (tgt := 58) hx hb dX12_isFirst_54 (by decide) ?_
            exact b_X12_isFirst_58 C ih v0 v1 v3 1 h_v0 k_v0 S H locs _ hf hP hS hW (lv_sub hl [0, 1, 3] rfl)
set_option maxRecDepth 100000 in
set_option maxHeartbeats 4000000 in
theorem c_X12_isFirst {l : Launch} {V : EV} {G : GS} {S : HS} {F : Nat} {a : Nat} {p0 : Int32} {r : Int32} (hN : G.1.Nodup) (hW : WT G S) (h_a : a ∈ G.1) (k_a : G.2.1 a = 12) (hf : s_X12_isFirst G.2.2 F a p0 S = some r) : MetZ l yX12_isFirst cX12_isFirst 4 0 0 V G S [.ref a, .int p0] r S := by
  intro sz
  refine x_in RX12 rfl (by decide +kernel) hN (Nat.le_of_ble_eq_true rfl) (fun p e s m args below meth c ls hsz hargs hnm C hP hS hl => ?_)
  subst hsz
  have hx := C.1
  have hb := C.2.1
  have hl : lv_has ls 4 [(0, .ref a), (1, .int p0)] := hl
  unfold s_X12_isFirst at hf
  refine lv_iconst (v := 1) hx hb dX12_isFirst_0 rfl ?_
  refine lv_istore_n (lv' := [(2, .int 1), (0, .ref a), (1, .int p0)]) hx hb dX12_isFirst_1 rfl hl (by decide) rfl (fun ls hl => ?_)
  refine lv_iconst (v := 0) hx hb dX12_isFirst_2 rfl ?_
  refine lv_istore_n (lv' := [(3, .int 0), (2, .int 1), (0, .ref a), (1, .int p0)]) hx hb dX12_isFirst_3 rfl hl (by decide) rfl (fun ls hl => ?_)
  exact b_X12_isFirst_4 C F a p0 1 0 h_a k_a S s.heap [] _ hf hP hS hW (lv_sub hl [2, 3, 1, 0] rfl)
def s_X12_asked_J33 (N : Nat → Nat) (F : Nat) (k9 : Nat → Int32 → Int32 → HS → Option (Int32 × HS)) (v0 : Nat) (v2 : Int32) (w0 : Int32) (w1 : Int32) (S : HS) : Option (Int32 × HS) :=
  bnd (w0 + w1 : Int32) fun x8 =>
  bnd (v2 + Int32.ofInt 1 : Int32) fun x9 =>
  k9 v0 x8 x9 S
def s_X12_asked_L9 (N : Nat → Nat) (F : Nat) : Nat → Nat → Int32 → Int32 → HS → Option (Int32 × HS)
  | 0, _, _, _, _ => none
  | n + 1, v0, v1, v2, S => bd1 (gR S 1217 v0) fun t2 =>
  if inB (3 : Int32) (N t2) = true then
  if (aI S t2 (3 : Int32).toNatClampNeg) ≤ v2 then
  some (v1, S)
  else
  bd1 (s_X12_isFirst N F v0 v2 S) fun r5 =>
  if r5 = (0 : Int32) then
  s_X12_asked_J33 N F (s_X12_asked_L9 N F n) v0 v2 v1 0 S
  else
  s_X12_asked_J33 N F (s_X12_asked_L9 N F n) v0 v2 v1 1 S
  else none
def s_X12_asked (N : Nat → Nat) (F : Nat) (a : Nat) (S : HS) : Option (Int32 × HS) :=
  bnd (uI S 1200 a 0) fun S1 =>
  s_X12_asked_L9 N F F a 0 0 S1
set_option maxRecDepth 100000 in
set_option maxHeartbeats 4000000 in
theorem b_X12_asked_33 {p : Program} {l : Launch} {e : Env} {s : State} {m : MethodId} {args : Array Value} {below : List Frame} {meth : Method} {c : Code} {V : EV} {G : GS} {r : Int32} {S' : HS} {F : Nat} (C : CX p s m args meth c RX12 cX12_asked 3 (some .int) V G) {k9 : Nat → Int32 → Int32 → HS → Option (Int32 × HS)} (hk9 : ∀ (v0 : Nat) (v1 : Int32) (v2 : Int32) (h_v0 : v0 ∈ G.1) (k_v0 : G.2.1 v0 = 12) (S : HS) (H : Heap) (locs : List Loc) (ls : Array Slot), k9 v0 v1 v2 S = some (r, S') → HP V G S H → va_S (AG G s.heap.size) s.heap H locs → WT G S → lv_has ls 3 [(0, .ref v0), (1, .int v1), (2, .int v2)] → W p l e (RM 1 31) s m args below meth c H locs 0 0 (MQ below (QI V G S' r s.heap.size) args s 0 0 (AG G s.heap.size)) (F0 m 9 ls [])) : ∀ (v0 : Nat) (v2 : Int32) (w0 : Int32) (w1 : Int32) (h_v0 : v0 ∈ G.1) (k_v0 : G.2.1 v0 = 12) (S : HS) (H : Heap) (locs : List Loc) (ls : Array Slot), s_X12_asked_J33 G.2.2 F k9 v0 v2 w0 w1 S = some (r, S') → HP V G S H → va_S (AG G s.heap.size) s.heap H locs → WT G S → lv_has ls 3 [(0, .ref v0), (2, .int v2)] → W p l e (RM 1 31) s m args below meth c H locs 0 0 (MQ below (QI V G S' r s.heap.size) args s 0 0 (AG G s.heap.size)) (F0 m 33 ls [.int w1, .int w0]) := by
  intro v0 v2 w0 w1 h_v0 k_v0 S H locs ls hf hP hS hW hl
  have hx := C.1
  have hb := C.2.1
  unfold s_X12_asked_J33 at hf
  refine lv_iadd hx hb dX12_asked_33 ?_
  obtain ⟨x8, ex8, hf⟩ := bnd_e hf
  refine nm_i ex8 ?_
  refine lv_istore_n (lv' := [(1, .int x8), (0, .ref v0), (2, .int v2)]) hx hb dX12_asked_34 rfl hl (by decide) rfl (fun ls hl => ?_)
  obtain ⟨x9, ex9, hf⟩ := bnd_e hf
  refine lv_iinc (v := x9) (lv' := [(2, .int x9), (1, .int x8), (0, .ref v0)]) hx hb dX12_asked_35 hl (k := 2) rfl ex9.symm (by decide) rfl (fun ls hl => ?_)
  refine lv_goto (tgt := 9) hx hb dX12_asked_38 (by decide) ?_
  exact hk9 v0 x8 x9 h_v0 k_v0 S H locs _ hf hP hS hW (lv_sub hl [2, 1, 0] rfl)
set_option maxRecDepth 100000 in
set_option maxHeartbeats 4000000 in
theorem b_X12_asked_9 {p : Program} {l : Launch} {e : Env} {s : State} {m : MethodId} {args : Array Value} {below : List Frame} {meth : Method} {c : Code} {V : EV} {G : GS} {r : Int32} {S' : HS} {F : Nat} (C : CX p s m args meth c RX12 cX12_asked 3 (some .int) V G) : ∀ n : Nat, ∀ (v0 : Nat) (v1 : Int32) (v2 : Int32) (h_v0 : v0 ∈ G.1) (k_v0 : G.2.1 v0 = 12) (S : HS) (H : Heap) (locs : List Loc) (ls : Array Slot), s_X12_asked_L9 G.2.2 F n v0 v1 v2 S = some (r, S') → HP V G S H → va_S (AG G s.heap.size) s.heap H locs → WT G S → lv_has ls 3 [(0, .ref v0), (1, .int v1), (2, .int v2)] → W p l e (RM 1 31) s m args below meth c H locs 0 0 (MQ below (QI V G S' r s.heap.size) args s 0 0 (AG G s.heap.size)) (F0 m 9 ls []) := by
  intro n
  induction n with
  | zero =>
    intro v0 v1 v2 h_v0 k_v0 S H locs ls hf
    rw [s_X12_asked_L9] at hf
    cases hf
  | succ n ih =>
    intro v0 v1 v2 h_v0 k_v0 S H locs ls hf hP hS hW hl
    have hx := C.1
    have hb := C.2.1
    rw [s_X12_asked_L9] at hf
    refine lv_iload_n hx hb dX12_asked_9 rfl (lv_at hl 2 rfl) ?_
    refine lv_aload_n hx hb dX12_asked_10 rfl (lv_at hl 0 rfl) ?_
    refine gf_X12_95 C hP h_v0 k_v0 dX12_asked_11 ?_
    obtain ⟨t2, et2, hf⟩ := bd1_e hf
    obtain ⟨h_t2, k_t2⟩ := wt_r hW h_v0 k_v0 (by decide) et2
    have k_t2 : G.2.1 t2 = 14 := k_t2
    rw [et2]
    refine lv_iconst (v := 3) hx hb dX12_asked_14 rfl ?_
    obtain ⟨h3, hf⟩ := if_s hf
    refine x_iald C hP h_t2 k_t2 h3 dX12_asked_15 ?_
    refine lv_icmp_ge (tgt := 41) hx hb dX12_asked_16 (by decide) (fun c4 => ?_) (fun c4 => ?_)
    · have hf := if_t c4 hf
      refine lv_iload_n hx hb dX12_asked_41 rfl (lv_at hl 1 rfl) ?_
      cases hf
      exact x_reti C hP hS hW dX12_asked_42
    · have hf := if_f c4 hf
      refine lv_iload_n hx hb dX12_asked_19 rfl (lv_at hl 1 rfl) ?_
      refine lv_aload_n hx hb dX12_asked_20 rfl (lv_at hl 0 rfl) ?_
      refine lv_iload_n hx hb dX12_asked_21 rfl (lv_at hl 2 rfl) ?_
      obtain ⟨r5, er5, hf⟩ := bd1_e hf
      refine x_aft_z (x_runV (As := [.int v2]) (rest := [.int v1]) C hP hS (c_X12_isFirst (l := l) C.2.2.2.2.2.2.2.2.2.1 hW h_v0 k_v0 er5 H.size) h_v0 k_v0 (by decide) rfl rfl km_X12_isFirst ki_X12_isFirst qm_X12_454 ⟨(Nat.le_of_ble_eq_true rfl), (Nat.le_of_ble_eq_true rfl)⟩ rfl hl.1 rfl (Nat.le_of_ble_eq_true rfl) ⟨Nat.zero_le _, Nat.zero_le _⟩ dX12_asked_22) hS (fun H locs hP hS hW z6 => ?_)
      refine lv_if_eq (tgt := 32) hx hb dX12_asked_25 (by decide) (fun c7 => ?_) (fun c7 => ?_)
      · have hf := if_t c7 hf
        refine lv_iconst (v := 0) hx hb dX12_asked_32 rfl ?_
        exact b_X12_asked_33 C ih v0 v2 v1 0 h_v0 k_v0 S H locs _ hf hP hS hW (lv_sub hl [0, 2] rfl)
      · have hf := if_f c7 hf
        refine lv_iconst (v := 1) hx hb dX12_asked_28 rfl ?_
        refine lv_goto (tgt := 33) hx hb dX12_asked_29 (by decide) ?_
        exact b_X12_asked_33 C ih v0 v2 v1 1 h_v0 k_v0 S H locs _ hf hP hS hW (lv_sub hl [0, 2] rfl)
set_option maxRecDepth 100000 in
set_option maxHeartbeats 4000000 in
theorem c_X12_asked {l : Launch} {V : EV} {G : GS} {S : HS} {F : Nat} {a : Nat} {r : Int32} {S' : HS} (hN : G.1.Nodup) (hW : WT G S) (h_a : a ∈ G.1) (k_a : G.2.1 a = 12) (hf : s_X12_asked G.2.2 F a S = some (r, S')) : MetI l yX12_asked cX12_asked 3 .int 1 31 V G S [.ref a] r S' := by
  intro sz
  refine x_in RX12 rfl (by decide +kernel) hN (Nat.le_of_ble_eq_true rfl) (fun p e s m args below meth c ls hsz hargs hnm C hP hS hl => ?_)
  subst hsz
  have hx := C.1
  have hb := C.2.1
  have hl : lv_has ls 3 [(0, .ref a)] := hl
  unfold s_X12_asked at hf
  refine lv_aload_n hx hb dX12_asked_0 rfl (lv_at hl 0 rfl) ?_
  refine lv_iconst (v := 0) hx hb dX12_asked_1 rfl ?_
  obtain ⟨S1, eS1, hf⟩ := bnd_e hf
  refine pf_X12_1 C hP hS h_a k_a eS1 dX12_asked_2 (fun H locs hP hS => ?_)
  have hW : WT G S1 := by rw [eS1]; exact hW
  refine lv_iconst (v := 0) hx hb dX12_asked_5 rfl ?_
  refine lv_istore_n (lv' := [(1, .int 0), (0, .ref a)]) hx hb dX12_asked_6 rfl hl (by decide) rfl (fun ls hl => ?_)
  refine lv_iconst (v := 0) hx hb dX12_asked_7 rfl ?_
  refine lv_istore_n (lv' := [(2, .int 0), (1, .int 0), (0, .ref a)]) hx hb dX12_asked_8 rfl hl (by decide) rfl (fun ls hl => ?_)
  exact b_X12_asked_9 C F a 0 0 h_a k_a S1 H locs _ hf hP hS hW (lv_sub hl [2, 1, 0] rfl)
def s_X12_forms (N : Nat → Nat) (a : Nat) (S : HS) : Option Int32 :=
  bd1 (gR S 1210 a) fun t1 =>
  if inB (0 : Int32) (N t1) = true then
  some (aI S t1 (0 : Int32).toNatClampNeg)
  else none
set_option maxRecDepth 100000 in
set_option maxHeartbeats 4000000 in
theorem c_X12_forms {l : Launch} {V : EV} {G : GS} {S : HS} {a : Nat} {r : Int32} (hN : G.1.Nodup) (hW : WT G S) (h_a : a ∈ G.1) (k_a : G.2.1 a = 12) (hf : s_X12_forms G.2.2 a S = some r) : MetI l yX12_forms cX12_forms 1 .int 0 0 V G S [.ref a] r S := by
  intro sz
  refine x_in RX12 rfl (by decide +kernel) hN (Nat.le_of_ble_eq_true rfl) (fun p e s m args below meth c ls hsz hargs hnm C hP hS hl => ?_)
  subst hsz
  have hx := C.1
  have hb := C.2.1
  have hl : lv_has ls 1 [(0, .ref a)] := hl
  unfold s_X12_forms at hf
  refine lv_aload_n hx hb dX12_forms_0 rfl (lv_at hl 0 rfl) ?_
  refine gf_X12_77 C hP h_a k_a dX12_forms_1 ?_
  obtain ⟨t1, et1, hf⟩ := bd1_e hf
  obtain ⟨h_t1, k_t1⟩ := wt_r hW h_a k_a (by decide) et1
  have k_t1 : G.2.1 t1 = 14 := k_t1
  rw [et1]
  refine lv_iconst (v := 0) hx hb dX12_forms_4 rfl ?_
  obtain ⟨h2, hf⟩ := if_s hf
  refine x_iald C hP h_t1 k_t1 h2 dX12_forms_5 ?_
  cases hf
  exact x_reti C hP hS hW dX12_forms_6
def s_X12_begins_L2 (N : Nat → Nat) (F : Nat) (k21 : Nat → HS → Option HS) : Nat → Nat → Int32 → HS → Option HS
  | 0, _, _, _ => none
  | n + 1, v0, v1, S => if (10 : Int32) < v1 then
  k21 v0 S
  else
  bd1 (gR S 1217 v0) fun t2 =>
  if inB v1 (N t2) = true then
  bnd (wI S t2 (v1.toNatClampNeg) 0) fun S4 =>
  bnd (v1 + Int32.ofInt 1 : Int32) fun x5 =>
  s_X12_begins_L2 N F k21 n v0 x5 S4
  else none
def s_X12_begins_L53 (N : Nat → Nat) (F : Nat) : Nat → Nat → Int32 → HS → Option HS
  | 0, _, _, _ => none
  | n + 1, v0, v1, S => if (4 : Int32) ≤ v1 then
  some S
  else
  bd1 (gR S 1219 v0) fun t16 =>
  if inB v1 (N t16) = true then
  bnd (wI S t16 (v1.toNatClampNeg) (vp_nar .boolean 0)) fun S18 =>
  bnd (v1 + Int32.ofInt 1 : Int32) fun x19 =>
  s_X12_begins_L53 N F n v0 x19 S18
  else none
def s_X12_begins_J38 (N : Nat → Nat) (F : Nat) (v0 : Nat) (w0 : Nat) (w1 : Int32) (w2 : Int32) (S : HS) : Option HS :=
  if inB w1 (N w0) = true then
  bnd (wI S w0 (w1.toNatClampNeg) w2) fun S10 =>
  bd1 (gR S10 1214 v0) fun t11 =>
  if inB (0 : Int32) (N t11) = true then
  bnd (wI S10 t11 ((0 : Int32).toNatClampNeg) 0) fun S13 =>
  bnd (uI S13 1218 v0 0) fun S14 =>
  s_X12_begins_L53 N F F v0 0 S14
  else none
  else none
def s_X12_begins_J21 (N : Nat → Nat) (F : Nat) (v0 : Nat) (S : HS) : Option HS :=
  bd1 (gR S 1217 v0) fun t6 =>
  bd1 (s_X12_forms N v0 S) fun r7 =>
  if r7 = (0 : Int32) then
  s_X12_begins_J38 N F v0 t6 0 (-1) S
  else
  s_X12_begins_J38 N F v0 t6 0 0 S
def s_X12_begins (N : Nat → Nat) (F : Nat) (a : Nat) (S : HS) : Option HS :=
  s_X12_begins_L2 N F (s_X12_begins_J21 N F) F a 0 S
set_option maxRecDepth 100000 in
set_option maxHeartbeats 4000000 in
theorem b_X12_begins_2 {p : Program} {l : Launch} {e : Env} {s : State} {m : MethodId} {args : Array Value} {below : List Frame} {meth : Method} {c : Code} {V : EV} {G : GS} {S' : HS} {F : Nat} (C : CX p s m args meth c RX12 cX12_begins 2 none V G) {k21 : Nat → HS → Option HS} (hk21 : ∀ (v0 : Nat) (h_v0 : v0 ∈ G.1) (k_v0 : G.2.1 v0 = 12) (S : HS) (H : Heap) (locs : List Loc) (ls : Array Slot), k21 v0 S = some S' → HP V G S H → va_S (AG G s.heap.size) s.heap H locs → WT G S → lv_has ls 2 [(0, .ref v0)] → W p l e (RM 1 28) s m args below meth c H locs 0 0 (MQ below (QV V G S' s.heap.size) args s 0 0 (AG G s.heap.size)) (F0 m 21 ls [])) : ∀ n : Nat, ∀ (v0 : Nat) (v1 : Int32) (h_v0 : v0 ∈ G.1) (k_v0 : G.2.1 v0 = 12) (S : HS) (H : Heap) (locs : List Loc) (ls : Array Slot), s_X12_begins_L2 G.2.2 F k21 n v0 v1 S = some S' → HP V G S H → va_S (AG G s.heap.size) s.heap H locs → WT G S → lv_has ls 2 [(0, .ref v0), (1, .int v1)] → W p l e (RM 1 28) s m args below meth c H locs 0 0 (MQ below (QV V G S' s.heap.size) args s 0 0 (AG G s.heap.size)) (F0 m 2 ls []) := by
  intro n
  induction n with
  | zero =>
    intro v0 v1 h_v0 k_v0 S H locs ls hf
    rw [s_X12_begins_L2] at hf
    cases hf
  | succ n ih =>
    intro v0 v1 h_v0 k_v0 S H locs ls hf hP hS hW hl
    have hx := C.1
    have hb := C.2.1
    rw [s_X12_begins_L2] at hf
    refine lv_iload_n hx hb dX12_begins_2 rfl (lv_at hl 1 rfl) ?_
    refine lv_bipush (v := 10) hx hb dX12_begins_3 kc_bipush_10 ?_
    refine lv_icmp_gt (tgt := 21) hx hb dX12_begins_5 (by decide) (fun c1 => ?_) (fun c1 => ?_)
    · have hf := if_t c1 hf
      exact hk21 v0 h_v0 k_v0 S H locs _ hf hP hS hW (lv_sub hl [0] rfl)
    · have hf := if_f c1 hf
      refine lv_aload_n hx hb dX12_begins_8 rfl (lv_at hl 0 rfl) ?_
      refine gf_X12_95 C hP h_v0 k_v0 dX12_begins_9 ?_
      obtain ⟨t2, et2, hf⟩ := bd1_e hf
      obtain ⟨h_t2, k_t2⟩ := wt_r hW h_v0 k_v0 (by decide) et2
      have k_t2 : G.2.1 t2 = 14 := k_t2
      rw [et2]
      refine lv_iload_n hx hb dX12_begins_12 rfl (lv_at hl 1 rfl) ?_
      refine lv_iconst (v := 0) hx hb dX12_begins_13 rfl ?_
      obtain ⟨h3, hf⟩ := if_s hf
      obtain ⟨S4, eS4, hf⟩ := bnd_e hf
      refine x_iast C hP hS h_t2 k_t2 h3 eS4 dX12_begins_14 (fun H locs hP hS => ?_)
      have hW : WT G S4 := by rw [eS4]; exact hW
      obtain ⟨x5, ex5, hf⟩ := bnd_e hf
      refine lv_iinc (v := x5) (lv' := [(1, .int x5), (0, .ref v0)]) hx hb dX12_begins_15 hl (k := 1) rfl ex5.symm (by decide) rfl (fun ls hl => ?_)
      refine lv_goto (tgt := 2) hx hb dX12_begins_18 (by decide) ?_
      exact ih v0 x5 h_v0 k_v0 S4 H locs _ hf hP hS hW (lv_sub hl [1, 0] rfl)
set_option maxRecDepth 100000 in
set_option maxHeartbeats 4000000 in
theorem b_X12_begins_53 {p : Program} {l : Launch} {e : Env} {s : State} {m : MethodId} {args : Array Value} {below : List Frame} {meth : Method} {c : Code} {V : EV} {G : GS} {S' : HS} {F : Nat} (C : CX p s m args meth c RX12 cX12_begins 2 none V G) : ∀ n : Nat, ∀ (v0 : Nat) (v1 : Int32) (h_v0 : v0 ∈ G.1) (k_v0 : G.2.1 v0 = 12) (S : HS) (H : Heap) (locs : List Loc) (ls : Array Slot), s_X12_begins_L53 G.2.2 F n v0 v1 S = some S' → HP V G S H → va_S (AG G s.heap.size) s.heap H locs → WT G S → lv_has ls 2 [(0, .ref v0), (1, .int v1)] → W p l e (RM 1 28) s m args below meth c H locs 0 0 (MQ below (QV V G S' s.heap.size) args s 0 0 (AG G s.heap.size)) (F0 m 53 ls []) := by
  intro n
  induction n with
  | zero =>
    intro v0 v1 h_v0 k_v0 S H locs ls hf
    rw [s_X12_begins_L53] at hf
    cases hf
  | succ n ih =>
    intro v0 v1 h_v0 k_v0 S H locs ls hf hP hS hW hl
    have hx := C.1
    have hb := C.2.1
    rw [s_X12_begins_L53] at hf
    refine lv_iload_n hx hb dX12_begins_53 rfl (lv_at hl 1 rfl) ?_
    refine lv_iconst (v := 4) hx hb dX12_begins_54 rfl ?_
    refine lv_icmp_ge (tgt := 71) hx hb dX12_begins_55 (by decide) (fun c15 => ?_) (fun c15 => ?_)
    · have hf := if_t c15 hf
      cases hf
      exact x_retv C hP hS hW dX12_begins_71
    · have hf := if_f c15 hf
      refine lv_aload_n hx hb dX12_begins_58 rfl (lv_at hl 0 rfl) ?_
      refine gf_X12_98 C hP h_v0 k_v0 dX12_begins_59 ?_
      obtain ⟨t16, et16, hf⟩ := bd1_e hf
      obtain ⟨h_t16, k_t16⟩ := wt_r hW h_v0 k_v0 (by decide) et16
      have k_t16 : G.2.1 t16 = 16 := k_t16
      rw [et16]
      refine lv_iload_n hx hb dX12_begins_62 rfl (lv_at hl 1 rfl) ?_
      refine lv_iconst (v := 0) hx hb dX12_begins_63 rfl ?_
      obtain ⟨h17, hf⟩ := if_s hf
      obtain ⟨S18, eS18, hf⟩ := bnd_e hf
      refine x_zast C hP hS h_t16 k_t16 h17 eS18 dX12_begins_64 (fun H locs hP hS => ?_)
      have hW : WT G S18 := by rw [eS18]; exact hW
      obtain ⟨x19, ex19, hf⟩ := bnd_e hf
      refine lv_iinc (v := x19) (lv' := [(1, .int x19), (0, .ref v0)]) hx hb dX12_begins_65 hl (k := 1) rfl ex19.symm (by decide) rfl (fun ls hl => ?_)
      refine lv_goto (tgt := 53) hx hb dX12_begins_68 (by decide) ?_
      exact ih v0 x19 h_v0 k_v0 S18 H locs _ hf hP hS hW (lv_sub hl [1, 0] rfl)
set_option maxRecDepth 100000 in
set_option maxHeartbeats 4000000 in
theorem b_X12_begins_38 {p : Program} {l : Launch} {e : Env} {s : State} {m : MethodId} {args : Array Value} {below : List Frame} {meth : Method} {c : Code} {V : EV} {G : GS} {S' : HS} {F : Nat} (C : CX p s m args meth c RX12 cX12_begins 2 none V G) : ∀ (v0 : Nat) (w0 : Nat) (w1 : Int32) (w2 : Int32) (h_v0 : v0 ∈ G.1) (k_v0 : G.2.1 v0 = 12) (h_w0 : w0 ∈ G.1) (k_w0 : G.2.1 w0 = 14) (S : HS) (H : Heap) (locs : List Loc) (ls : Array Slot), s_X12_begins_J38 G.2.2 F v0 w0 w1 w2 S = some S' → HP V G S H → va_S (AG G s.heap.size) s.heap H locs → WT G S → lv_has ls 2 [(0, .ref v0)] → W p l e (RM 1 28) s m args below meth c H locs 0 0 (MQ below (QV V G S' s.heap.size) args s 0 0 (AG G s.heap.size)) (F0 m 38 ls [.int w2, .int w1, .ref w0]) := by
  intro v0 w0 w1 w2 h_v0 k_v0 h_w0 k_w0 S H locs ls hf hP hS hW hl
  have hx := C.1
  have hb := C.2.1
  unfold s_X12_begins_J38 at hf
  obtain ⟨h9, hf⟩ := if_s hf
  obtain ⟨S10, eS10, hf⟩ := bnd_e hf
  refine x_iast C hP hS h_w0 k_w0 h9 eS10 dX12_begins_38 (fun H locs hP hS => ?_)
  have hW : WT G S10 := by rw [eS10]; exact hW
  refine lv_aload_n hx hb dX12_begins_39 rfl (lv_at hl 0 rfl) ?_
  refine gf_X12_86 C hP h_v0 k_v0 dX12_begins_40 ?_
  obtain ⟨t11, et11, hf⟩ := bd1_e hf
  obtain ⟨h_t11, k_t11⟩ := wt_r hW h_v0 k_v0 (by decide) et11
  have k_t11 : G.2.1 t11 = 14 := k_t11
  rw [et11]
  refine lv_iconst (v := 0) hx hb dX12_begins_43 rfl ?_
  refine lv_iconst (v := 0) hx hb dX12_begins_44 rfl ?_
  obtain ⟨h12, hf⟩ := if_s hf
  obtain ⟨S13, eS13, hf⟩ := bnd_e hf
  refine x_iast C hP hS h_t11 k_t11 h12 eS13 dX12_begins_45 (fun H locs hP hS => ?_)
  have hW : WT G S13 := by rw [eS13]; exact hW
  refine lv_aload_n hx hb dX12_begins_46 rfl (lv_at hl 0 rfl) ?_
  refine lv_iconst (v := 0) hx hb dX12_begins_47 rfl ?_
  obtain ⟨S14, eS14, hf⟩ := bnd_e hf
  refine pf_X12_240 C hP hS h_v0 k_v0 eS14 dX12_begins_48 (fun H locs hP hS => ?_)
  have hW : WT G S14 := by rw [eS14]; exact hW
  refine lv_iconst (v := 0) hx hb dX12_begins_51 rfl ?_
  refine lv_istore_n (lv' := [(1, .int 0), (0, .ref v0)]) hx hb dX12_begins_52 rfl hl (by decide) rfl (fun ls hl => ?_)
  exact b_X12_begins_53 C F v0 0 h_v0 k_v0 S14 H locs _ hf hP hS hW (lv_sub hl [1, 0] rfl)
set_option maxRecDepth 100000 in
set_option maxHeartbeats 4000000 in
theorem b_X12_begins_21 {p : Program} {l : Launch} {e : Env} {s : State} {m : MethodId} {args : Array Value} {below : List Frame} {meth : Method} {c : Code} {V : EV} {G : GS} {S' : HS} {F : Nat} (C : CX p s m args meth c RX12 cX12_begins 2 none V G) : ∀ (v0 : Nat) (h_v0 : v0 ∈ G.1) (k_v0 : G.2.1 v0 = 12) (S : HS) (H : Heap) (locs : List Loc) (ls : Array Slot), s_X12_begins_J21 G.2.2 F v0 S = some S' → HP V G S H → va_S (AG G s.heap.size) s.heap H locs → WT G S → lv_has ls 2 [(0, .ref v0)] → W p l e (RM 1 28) s m args below meth c H locs 0 0 (MQ below (QV V G S' s.heap.size) args s 0 0 (AG G s.heap.size)) (F0 m 21 ls []) := by
  intro v0 h_v0 k_v0 S H locs ls hf hP hS hW hl
  have hx := C.1
  have hb := C.2.1
  unfold s_X12_begins_J21 at hf
  refine lv_aload_n hx hb dX12_begins_21 rfl (lv_at hl 0 rfl) ?_
  refine gf_X12_95 C hP h_v0 k_v0 dX12_begins_22 ?_
  obtain ⟨t6, et6, hf⟩ := bd1_e hf
  obtain ⟨h_t6, k_t6⟩ := wt_r hW h_v0 k_v0 (by decide) et6
  have k_t6 : G.2.1 t6 = 14 := k_t6
  rw [et6]
  refine lv_iconst (v := 0) hx hb dX12_begins_25 rfl ?_
  refine lv_aload_n hx hb dX12_begins_26 rfl (lv_at hl 0 rfl) ?_
  obtain ⟨r7, er7, hf⟩ := bd1_e hf
  refine x_aft_i (x_runV (As := []) (rest := [.int 0, .ref t6]) C hP hS (c_X12_forms (l := l) C.2.2.2.2.2.2.2.2.2.1 hW h_v0 k_v0 er7 H.size) h_v0 k_v0 (by decide) rfl rfl km_X12_forms ki_X12_forms qm_X12_219 ⟨(Nat.le_of_ble_eq_true rfl), (Nat.le_of_ble_eq_true rfl)⟩ rfl hl.1 rfl (Nat.le_of_ble_eq_true rfl) ⟨Nat.zero_le _, Nat.zero_le _⟩ dX12_begins_27) hS (fun H locs hP hS hW => ?_)
  refine lv_if_ne (tgt := 37) hx hb dX12_begins_30 (by decide) (fun c8 => ?_) (fun c8 => ?_)
  · have hf := if_f c8 hf
    refine lv_iconst (v := 0) hx hb dX12_begins_37 rfl ?_
    exact b_X12_begins_38 C v0 t6 0 0 h_v0 k_v0 h_t6 k_t6 S H locs _ hf hP hS hW (lv_sub hl [0] rfl)
  · have hf := if_t c8 hf
    refine lv_iconst (v := (-1)) hx hb dX12_begins_33 rfl ?_
    refine lv_goto (tgt := 38) hx hb dX12_begins_34 (by decide) ?_
    exact b_X12_begins_38 C v0 t6 0 (-1) h_v0 k_v0 h_t6 k_t6 S H locs _ hf hP hS hW (lv_sub hl [0] rfl)
set_option maxRecDepth 100000 in
set_option maxHeartbeats 4000000 in
theorem c_X12_begins {l : Launch} {V : EV} {G : GS} {S : HS} {F : Nat} {a : Nat} {S' : HS} (hN : G.1.Nodup) (hW : WT G S) (h_a : a ∈ G.1) (k_a : G.2.1 a = 12) (hf : s_X12_begins G.2.2 F a S = some S') : MetV l yX12_begins cX12_begins 2 1 28 V G S [.ref a] S' := by
  intro sz
  refine x_in RX12 rfl (by decide +kernel) hN (Nat.le_of_ble_eq_true rfl) (fun p e s m args below meth c ls hsz hargs hnm C hP hS hl => ?_)
  subst hsz
  have hx := C.1
  have hb := C.2.1
  have hl : lv_has ls 2 [(0, .ref a)] := hl
  unfold s_X12_begins at hf
  refine lv_iconst (v := 0) hx hb dX12_begins_0 rfl ?_
  refine lv_istore_n (lv' := [(1, .int 0), (0, .ref a)]) hx hb dX12_begins_1 rfl hl (by decide) rfl (fun ls hl => ?_)
  exact b_X12_begins_2 C (b_X12_begins_21 C) F a 0 h_a k_a S s.heap [] _ hf hP hS hW (lv_sub hl [1, 0] rfl)
def s_X12_negative (N : Nat → Nat) (a : Nat) (p0 : Int32) (p1 : Int32) (S : HS) : Option Int32 :=
  bd1 (s_X12_isNan N a p0 p1 S) fun r1 =>
  if r1 = (0 : Int32) then
  bd1 (s_X12_isMinus N a p0 p1 S) fun r4 =>
  if r4 = (0 : Int32) then
  bd1 (s_X12_signOf N a p0 S) fun r7 =>
  some (p1 + r7)
  else
  bd1 (s_X12_signOf N a p0 S) fun r8 =>
  some (p1 - r8)
  else
  some p1
set_option maxRecDepth 100000 in
set_option maxHeartbeats 4000000 in
theorem c_X12_negative {l : Launch} {V : EV} {G : GS} {S : HS} {a : Nat} {p0 : Int32} {p1 : Int32} {r : Int32} (hN : G.1.Nodup) (hW : WT G S) (h_a : a ∈ G.1) (k_a : G.2.1 a = 12) (hf : s_X12_negative G.2.2 a p0 p1 S = some r) : MetI l yX12_negative cX12_negative 3 .int 6 180 V G S [.ref a, .int p0, .int p1] r S := by
  intro sz
  refine x_in RX12 rfl (by decide +kernel) hN (Nat.le_of_ble_eq_true rfl) (fun p e s m args below meth c ls hsz hargs hnm C hP hS hl => ?_)
  subst hsz
  have hx := C.1
  have hb := C.2.1
  have hl : lv_has ls 3 [(0, .ref a), (1, .int p0), (2, .int p1)] := hl
  unfold s_X12_negative at hf
  refine lv_aload_n hx hb dX12_negative_0 rfl (lv_at hl 0 rfl) ?_
  refine lv_iload_n hx hb dX12_negative_1 rfl (lv_at hl 1 rfl) ?_
  refine lv_iload_n hx hb dX12_negative_2 rfl (lv_at hl 2 rfl) ?_
  obtain ⟨r1, er1, hf⟩ := bd1_e hf
  refine x_aft_z (x_runV (As := [.int p0, .int p1]) (rest := []) C hP hS (c_X12_isNan (l := l) C.2.2.2.2.2.2.2.2.2.1 hW h_a k_a er1 s.heap.size) h_a k_a (by decide) rfl rfl km_X12_isNan ki_X12_isNan qm_X12_279 ⟨(Nat.le_of_ble_eq_true rfl), (Nat.le_of_ble_eq_true rfl)⟩ rfl hl.1 rfl (Nat.le_of_ble_eq_true rfl) ⟨Nat.zero_le _, Nat.zero_le _⟩ dX12_negative_3) hS (fun H locs hP hS hW z2 => ?_)
  refine lv_if_eq (tgt := 13) hx hb dX12_negative_6 (by decide) (fun c3 => ?_) (fun c3 => ?_)
  · have hf := if_t c3 hf
    refine lv_aload_n hx hb dX12_negative_13 rfl (lv_at hl 0 rfl) ?_
    refine lv_iload_n hx hb dX12_negative_14 rfl (lv_at hl 1 rfl) ?_
    refine lv_iload_n hx hb dX12_negative_15 rfl (lv_at hl 2 rfl) ?_
    obtain ⟨r4, er4, hf⟩ := bd1_e hf
    refine x_aft_z (x_runV (As := [.int p0, .int p1]) (rest := []) C hP hS (c_X12_isMinus (l := l) C.2.2.2.2.2.2.2.2.2.1 hW h_a k_a er4 H.size) h_a k_a (by decide) rfl rfl km_X12_isMinus ki_X12_isMinus qm_X12_283 ⟨(Nat.le_of_ble_eq_true rfl), (Nat.le_of_ble_eq_true rfl)⟩ rfl hl.1 rfl (Nat.le_of_ble_eq_true rfl) ⟨Nat.zero_le _, Nat.zero_le _⟩ dX12_negative_16) hS (fun H locs hP hS hW z5 => ?_)
    refine lv_if_eq (tgt := 32) hx hb dX12_negative_19 (by decide) (fun c6 => ?_) (fun c6 => ?_)
    · have hf := if_t c6 hf
      refine lv_iload_n hx hb dX12_negative_32 rfl (lv_at hl 2 rfl) ?_
      refine lv_aload_n hx hb dX12_negative_33 rfl (lv_at hl 0 rfl) ?_
      refine lv_iload_n hx hb dX12_negative_34 rfl (lv_at hl 1 rfl) ?_
      obtain ⟨r7, er7, hf⟩ := bd1_e hf
      refine x_aft_i (x_runV (As := [.int p0]) (rest := [.int p1]) C hP hS (c_X12_signOf (l := l) C.2.2.2.2.2.2.2.2.2.1 hW h_a k_a er7 H.size) h_a k_a (by decide) rfl rfl km_X12_signOf ki_X12_signOf qm_X12_267 ⟨(Nat.le_of_ble_eq_true rfl), (Nat.le_of_ble_eq_true rfl)⟩ rfl hl.1 rfl (Nat.le_of_ble_eq_true rfl) ⟨Nat.zero_le _, Nat.zero_le _⟩ dX12_negative_35) hS (fun H locs hP hS hW => ?_)
      refine lv_iadd hx hb dX12_negative_38 ?_
      cases hf
      exact x_reti C hP hS hW dX12_negative_39
    · have hf := if_f c6 hf
      refine lv_iload_n hx hb dX12_negative_22 rfl (lv_at hl 2 rfl) ?_
      refine lv_aload_n hx hb dX12_negative_23 rfl (lv_at hl 0 rfl) ?_
      refine lv_iload_n hx hb dX12_negative_24 rfl (lv_at hl 1 rfl) ?_
      obtain ⟨r8, er8, hf⟩ := bd1_e hf
      refine x_aft_i (x_runV (As := [.int p0]) (rest := [.int p1]) C hP hS (c_X12_signOf (l := l) C.2.2.2.2.2.2.2.2.2.1 hW h_a k_a er8 H.size) h_a k_a (by decide) rfl rfl km_X12_signOf ki_X12_signOf qm_X12_267 ⟨(Nat.le_of_ble_eq_true rfl), (Nat.le_of_ble_eq_true rfl)⟩ rfl hl.1 rfl (Nat.le_of_ble_eq_true rfl) ⟨Nat.zero_le _, Nat.zero_le _⟩ dX12_negative_25) hS (fun H locs hP hS hW => ?_)
      refine lv_isub hx hb dX12_negative_28 ?_
      refine lv_goto (tgt := 39) hx hb dX12_negative_29 (by decide) ?_
      cases hf
      exact x_reti C hP hS hW dX12_negative_39
  · have hf := if_f c3 hf
    refine lv_iload_n hx hb dX12_negative_9 rfl (lv_at hl 2 rfl) ?_
    refine lv_goto (tgt := 39) hx hb dX12_negative_10 (by decide) ?_
    cases hf
    exact x_reti C hP hS hW dX12_negative_39
def s_X12_below (N : Nat → Nat) (a : Nat) (p0 : Int32) (S : HS) : Option (Int32 × HS) :=
  bnd (uI S 1200 a 0) fun S1 =>
  bd1 (s_X12_used N a S1) fun r2 =>
  bd1 (s_X12_isBits N a r2 p0 S1) fun r3 =>
  if r3 = (0 : Int32) then
  some ((-1), S1)
  else
  bd1 (s_X12_used N a S1) fun r6 =>
  bd1 (s_X12_used N a S1) fun r7 =>
  bd1 (s_X12_negative N a r7 p0 S1) fun r8 =>
  bd1 (s_X12_aboveOf N a r8 S1) fun r9 =>
  bd1 (s_X12_negative N a r6 r9 S1) fun r10 =>
  some (r10, S1)
set_option maxRecDepth 100000 in
set_option maxHeartbeats 4000000 in
theorem c_X12_below {l : Launch} {V : EV} {G : GS} {S : HS} {a : Nat} {p0 : Int32} {r : Int32} {S' : HS} (hN : G.1.Nodup) (hW : WT G S) (h_a : a ∈ G.1) (k_a : G.2.1 a = 12) (hf : s_X12_below G.2.2 a p0 S = some (r, S')) : MetI l yX12_below cX12_below 2 .int 7 210 V G S [.ref a, .int p0] r S' := by
  intro sz
  refine x_in RX12 rfl (by decide +kernel) hN (Nat.le_of_ble_eq_true rfl) (fun p e s m args below meth c ls hsz hargs hnm C hP hS hl => ?_)
  subst hsz
  have hx := C.1
  have hb := C.2.1
  have hl : lv_has ls 2 [(0, .ref a), (1, .int p0)] := hl
  unfold s_X12_below at hf
  refine lv_aload_n hx hb dX12_below_0 rfl (lv_at hl 0 rfl) ?_
  refine lv_iconst (v := 0) hx hb dX12_below_1 rfl ?_
  obtain ⟨S1, eS1, hf⟩ := bnd_e hf
  refine pf_X12_1 C hP hS h_a k_a eS1 dX12_below_2 (fun H locs hP hS => ?_)
  have hW : WT G S1 := by rw [eS1]; exact hW
  refine lv_aload_n hx hb dX12_below_5 rfl (lv_at hl 0 rfl) ?_
  refine lv_aload_n hx hb dX12_below_6 rfl (lv_at hl 0 rfl) ?_
  obtain ⟨r2, er2, hf⟩ := bd1_e hf
  refine x_aft_i (x_runV (As := []) (rest := [.ref a]) C hP hS (c_X12_used (l := l) C.2.2.2.2.2.2.2.2.2.1 hW h_a k_a er2 H.size) h_a k_a (by decide) rfl rfl km_X12_used ki_X12_used qm_X12_357 ⟨(Nat.le_of_ble_eq_true rfl), (Nat.le_of_ble_eq_true rfl)⟩ rfl hl.1 rfl (Nat.le_of_ble_eq_true rfl) ⟨Nat.zero_le _, Nat.zero_le _⟩ dX12_below_7) hS (fun H locs hP hS hW => ?_)
  refine lv_iload_n hx hb dX12_below_10 rfl (lv_at hl 1 rfl) ?_
  obtain ⟨r3, er3, hf⟩ := bd1_e hf
  refine x_aft_z (x_runV (As := [.int r2, .int p0]) (rest := []) C hP hS (c_X12_isBits (l := l) C.2.2.2.2.2.2.2.2.2.1 hW h_a k_a er3 H.size) h_a k_a (by decide) rfl rfl km_X12_isBits ki_X12_isBits qm_X12_363 ⟨(Nat.le_of_ble_eq_true rfl), (Nat.le_of_ble_eq_true rfl)⟩ rfl hl.1 rfl (Nat.le_of_ble_eq_true rfl) ⟨Nat.zero_le _, Nat.zero_le _⟩ dX12_below_11) hS (fun H locs hP hS hW z4 => ?_)
  refine lv_if_eq (tgt := 41) hx hb dX12_below_14 (by decide) (fun c5 => ?_) (fun c5 => ?_)
  · have hf := if_t c5 hf
    refine lv_iconst (v := (-1)) hx hb dX12_below_41 rfl ?_
    cases hf
    exact x_reti C hP hS hW dX12_below_42
  · have hf := if_f c5 hf
    refine lv_aload_n hx hb dX12_below_17 rfl (lv_at hl 0 rfl) ?_
    refine lv_aload_n hx hb dX12_below_18 rfl (lv_at hl 0 rfl) ?_
    obtain ⟨r6, er6, hf⟩ := bd1_e hf
    refine x_aft_i (x_runV (As := []) (rest := [.ref a]) C hP hS (c_X12_used (l := l) C.2.2.2.2.2.2.2.2.2.1 hW h_a k_a er6 H.size) h_a k_a (by decide) rfl rfl km_X12_used ki_X12_used qm_X12_357 ⟨(Nat.le_of_ble_eq_true rfl), (Nat.le_of_ble_eq_true rfl)⟩ rfl hl.1 rfl (Nat.le_of_ble_eq_true rfl) ⟨Nat.zero_le _, Nat.zero_le _⟩ dX12_below_19) hS (fun H locs hP hS hW => ?_)
    refine lv_aload_n hx hb dX12_below_22 rfl (lv_at hl 0 rfl) ?_
    refine lv_aload_n hx hb dX12_below_23 rfl (lv_at hl 0 rfl) ?_
    refine lv_aload_n hx hb dX12_below_24 rfl (lv_at hl 0 rfl) ?_
    obtain ⟨r7, er7, hf⟩ := bd1_e hf
    refine x_aft_i (x_runV (As := []) (rest := [.ref a, .ref a, .int r6, .ref a]) C hP hS (c_X12_used (l := l) C.2.2.2.2.2.2.2.2.2.1 hW h_a k_a er7 H.size) h_a k_a (by decide) rfl rfl km_X12_used ki_X12_used qm_X12_357 ⟨(Nat.le_of_ble_eq_true rfl), (Nat.le_of_ble_eq_true rfl)⟩ rfl hl.1 rfl (Nat.le_of_ble_eq_true rfl) ⟨Nat.zero_le _, Nat.zero_le _⟩ dX12_below_25) hS (fun H locs hP hS hW => ?_)
    refine lv_iload_n hx hb dX12_below_28 rfl (lv_at hl 1 rfl) ?_
    obtain ⟨r8, er8, hf⟩ := bd1_e hf
    refine x_aft_i (x_runV (As := [.int r7, .int p0]) (rest := [.ref a, .int r6, .ref a]) C hP hS (c_X12_negative (l := l) C.2.2.2.2.2.2.2.2.2.1 hW h_a k_a er8 H.size) h_a k_a (by decide) rfl rfl km_X12_negative ki_X12_negative qm_X12_412 ⟨(Nat.le_of_ble_eq_true rfl), (Nat.le_of_ble_eq_true rfl)⟩ rfl hl.1 rfl (Nat.le_of_ble_eq_true rfl) ⟨Nat.zero_le _, Nat.zero_le _⟩ dX12_below_29) hS (fun H locs hP hS hW => ?_)
    obtain ⟨r9, er9, hf⟩ := bd1_e hf
    refine x_aft_i (x_runV (As := [.int r8]) (rest := [.int r6, .ref a]) C hP hS (c_X12_aboveOf (l := l) C.2.2.2.2.2.2.2.2.2.1 hW h_a k_a er9 H.size) h_a k_a (by decide) rfl rfl km_X12_aboveOf ki_X12_aboveOf qm_X12_409 ⟨(Nat.le_of_ble_eq_true rfl), (Nat.le_of_ble_eq_true rfl)⟩ rfl hl.1 rfl (Nat.le_of_ble_eq_true rfl) ⟨Nat.zero_le _, Nat.zero_le _⟩ dX12_below_32) hS (fun H locs hP hS hW => ?_)
    obtain ⟨r10, er10, hf⟩ := bd1_e hf
    refine x_aft_i (x_runV (As := [.int r6, .int r9]) (rest := []) C hP hS (c_X12_negative (l := l) C.2.2.2.2.2.2.2.2.2.1 hW h_a k_a er10 H.size) h_a k_a (by decide) rfl rfl km_X12_negative ki_X12_negative qm_X12_412 ⟨(Nat.le_of_ble_eq_true rfl), (Nat.le_of_ble_eq_true rfl)⟩ rfl hl.1 rfl (Nat.le_of_ble_eq_true rfl) ⟨Nat.zero_le _, Nat.zero_le _⟩ dX12_below_35) hS (fun H locs hP hS hW => ?_)
    refine lv_goto (tgt := 42) hx hb dX12_below_38 (by decide) ?_
    cases hf
    exact x_reti C hP hS hW dX12_below_42
def s_X12_bitOf (p0 : Int64) (p1 : Int32) (S : HS) : Int32 :=
  if p1 < (0 : Int32) then
  0
  else
  if (64 : Int32) ≤ p1 then
  0
  else
  if (lg_cmp ((p0 >>> (p1.toInt64 &&& 63)) &&& 1) (1 : Int64)) = (0 : Int32) then
  1
  else
  0
set_option maxRecDepth 100000 in
set_option maxHeartbeats 4000000 in
theorem c_X12_bitOf {l : Launch} {V : EV} {G : GS} {S : HS} {p0 : Int64} {p1 : Int32} {r : Int32} (hN : G.1.Nodup) (hW : WT G S) (hf : s_X12_bitOf p0 p1 S = r) : MetZ l yX12_bitOf cX12_bitOf 3 0 0 V G S [.long p0, .int p1] r S := by
  intro sz
  refine x_in RX12 rfl (by decide +kernel) hN (Nat.le_of_ble_eq_true rfl) (fun p e s m args below meth c ls hsz hargs hnm C hP hS hl => ?_)
  subst hsz
  have hx := C.1
  have hb := C.2.1
  have hl : lv_has ls 3 [(0, .long p0), (2, .int p1)] := hl
  unfold s_X12_bitOf at hf
  refine lv_iload_n hx hb dX12_bitOf_0 rfl (lv_at hl 1 rfl) ?_
  refine lv_if_lt (tgt := 24) hx hb dX12_bitOf_1 (by decide) (fun c1 => ?_) (fun c1 => ?_)
  · have hf := if_t c1 hf
    refine lv_iconst (v := 0) hx hb dX12_bitOf_24 rfl ?_
    cases hf
    exact x_retZ C hP hS hW isZ_0 dX12_bitOf_25
  · have hf := if_f c1 hf
    refine lv_iload_n hx hb dX12_bitOf_4 rfl (lv_at hl 1 rfl) ?_
    refine lv_bipush (v := 64) hx hb dX12_bitOf_5 kc_bipush_64 ?_
    refine lv_icmp_ge (tgt := 24) hx hb dX12_bitOf_7 (by decide) (fun c2 => ?_) (fun c2 => ?_)
    · have hf := if_t c2 hf
      refine lv_iconst (v := 0) hx hb dX12_bitOf_24 rfl ?_
      cases hf
      exact x_retZ C hP hS hW isZ_0 dX12_bitOf_25
    · have hf := if_f c2 hf
      refine lv_lload_n hx hb dX12_bitOf_10 rfl (lv_at hl 0 rfl) ?_
      refine lv_iload_n hx hb dX12_bitOf_11 rfl (lv_at hl 1 rfl) ?_
      refine lv_lshr hx hb dX12_bitOf_12 rfl ?_
      refine lv_lconst (v := 1) hx hb dX12_bitOf_13 rfl ?_
      refine lv_land hx hb dX12_bitOf_14 ?_
      refine lv_lconst (v := 1) hx hb dX12_bitOf_15 rfl ?_
      refine W.lcmp hx hb dX12_bitOf_16 ?_
      refine lv_if_ne (tgt := 24) hx hb dX12_bitOf_17 (by decide) (fun c3 => ?_) (fun c3 => ?_)
      · have hf := if_f c3 hf
        refine lv_iconst (v := 0) hx hb dX12_bitOf_24 rfl ?_
        cases hf
        exact x_retZ C hP hS hW isZ_0 dX12_bitOf_25
      · have hf := if_t c3 hf
        refine lv_iconst (v := 1) hx hb dX12_bitOf_20 rfl ?_
        refine lv_goto (tgt := 25) hx hb dX12_bitOf_21 (by decide) ?_
        cases hf
        exact x_retZ C hP hS hW isZ_1 dX12_bitOf_25
def s_X12_moves_L3 (N : Nat → Nat) (F : Nat) : Nat → Nat → Int32 → Int32 → Int32 → Int32 → HS → Option HS
  | 0, _, _, _, _, _, _ => none
  | n + 1, v0, v1, v2, v3, v4, S => if v3 ≤ v4 then
  some S
  else
  bd1 (gR S 1217 v0) fun t2 =>
  bd1 (gR S 1217 v0) fun t3 =>
  if inB (v1 + v4) (N t3) = true then
  if inB (v2 + v4) (N t2) = true then
  bnd (wI S t2 ((v2 + v4).toNatClampNeg) (aI S t3 (v1 + v4).toNatClampNeg)) fun S6 =>
  bnd (v4 + Int32.ofInt 1 : Int32) fun x7 =>
  s_X12_moves_L3 N F n v0 v1 v2 v3 x7 S6
  else none
  else none
def s_X12_moves (N : Nat → Nat) (F : Nat) (a : Nat) (p0 : Int32) (p1 : Int32) (p2 : Int32) (S : HS) : Option HS :=
  s_X12_moves_L3 N F F a p0 p1 p2 0 S
set_option maxRecDepth 100000 in
set_option maxHeartbeats 4000000 in
theorem b_X12_moves_3 {p : Program} {l : Launch} {e : Env} {s : State} {m : MethodId} {args : Array Value} {below : List Frame} {meth : Method} {c : Code} {V : EV} {G : GS} {S' : HS} {F : Nat} (C : CX p s m args meth c RX12 cX12_moves 5 none V G) : ∀ n : Nat, ∀ (v0 : Nat) (v1 : Int32) (v2 : Int32) (v3 : Int32) (v4 : Int32) (h_v0 : v0 ∈ G.1) (k_v0 : G.2.1 v0 = 12) (S : HS) (H : Heap) (locs : List Loc) (ls : Array Slot), s_X12_moves_L3 G.2.2 F n v0 v1 v2 v3 v4 S = some S' → HP V G S H → va_S (AG G s.heap.size) s.heap H locs → WT G S → lv_has ls 5 [(0, .ref v0), (1, .int v1), (2, .int v2), (3, .int v3), (4, .int v4)] → W p l e (RM 0 0) s m args below meth c H locs 0 0 (MQ below (QV V G S' s.heap.size) args s 0 0 (AG G s.heap.size)) (F0 m 3 ls []) := by
  intro n
  induction n with
  | zero =>
    intro v0 v1 v2 v3 v4 h_v0 k_v0 S H locs ls hf
    rw [s_X12_moves_L3] at hf
    cases hf
  | succ n ih =>
    intro v0 v1 v2 v3 v4 h_v0 k_v0 S H locs ls hf hP hS hW hl
    have hx := C.1
    have hb := C.2.1
    rw [s_X12_moves_L3] at hf
    refine lv_iload hx hb dX12_moves_3 (lv_at hl 4 rfl) ?_
    refine lv_iload_n hx hb dX12_moves_5 rfl (lv_at hl 3 rfl) ?_
    refine lv_icmp_ge (tgt := 33) hx hb dX12_moves_6 (by decide) (fun c1 => ?_) (fun c1 => ?_)
    · have hf := if_t c1 hf
      cases hf
      exact x_retv C hP hS hW dX12_moves_33
    · have hf := if_f c1 hf
      refine lv_aload_n hx hb dX12_moves_9 rfl (lv_at hl 0 rfl) ?_
      refine gf_X12_95 C hP h_v0 k_v0 dX12_moves_10 ?_
      obtain ⟨t2, et2, hf⟩ := bd1_e hf
      obtain ⟨h_t2, k_t2⟩ := wt_r hW h_v0 k_v0 (by decide) et2
      have k_t2 : G.2.1 t2 = 14 := k_t2
      rw [et2]
      refine lv_iload_n hx hb dX12_moves_13 rfl (lv_at hl 2 rfl) ?_
      refine lv_iload hx hb dX12_moves_14 (lv_at hl 4 rfl) ?_
      refine lv_iadd hx hb dX12_moves_16 ?_
      refine lv_aload_n hx hb dX12_moves_17 rfl (lv_at hl 0 rfl) ?_
      refine gf_X12_95 C hP h_v0 k_v0 dX12_moves_18 ?_
      obtain ⟨t3, et3, hf⟩ := bd1_e hf
      obtain ⟨h_t3, k_t3⟩ := wt_r hW h_v0 k_v0 (by decide) et3
      have k_t3 : G.2.1 t3 = 14 := k_t3
      rw [et3]
      refine lv_iload_n hx hb dX12_moves_21 rfl (lv_at hl 1 rfl) ?_
      refine lv_iload hx hb dX12_moves_22 (lv_at hl 4 rfl) ?_
      refine lv_iadd hx hb dX12_moves_24 ?_
      obtain ⟨h4, hf⟩ := if_s hf
      refine x_iald C hP h_t3 k_t3 h4 dX12_moves_25 ?_
      obtain ⟨h5, hf⟩ := if_s hf
      obtain ⟨S6, eS6, hf⟩ := bnd_e hf
      refine x_iast C hP hS h_t2 k_t2 h5 eS6 dX12_moves_26 (fun H locs hP hS => ?_)
      have hW : WT G S6 := by rw [eS6]; exact hW
      obtain ⟨x7, ex7, hf⟩ := bnd_e hf
      refine lv_iinc (v := x7) (lv' := [(4, .int x7), (0, .ref v0), (1, .int v1), (2, .int v2), (3, .int v3)]) hx hb dX12_moves_27 hl (k := 4) rfl ex7.symm (by decide) rfl (fun ls hl => ?_)
      refine lv_goto (tgt := 3) hx hb dX12_moves_30 (by decide) ?_
      exact ih v0 v1 v2 v3 x7 h_v0 k_v0 S6 H locs _ hf hP hS hW (lv_sub hl [1, 2, 3, 4, 0] rfl)
set_option maxRecDepth 100000 in
set_option maxHeartbeats 4000000 in
theorem c_X12_moves {l : Launch} {V : EV} {G : GS} {S : HS} {F : Nat} {a : Nat} {p0 : Int32} {p1 : Int32} {p2 : Int32} {S' : HS} (hN : G.1.Nodup) (hW : WT G S) (h_a : a ∈ G.1) (k_a : G.2.1 a = 12) (hf : s_X12_moves G.2.2 F a p0 p1 p2 S = some S') : MetV l yX12_moves cX12_moves 5 0 0 V G S [.ref a, .int p0, .int p1, .int p2] S' := by
  intro sz
  refine x_in RX12 rfl (by decide +kernel) hN (Nat.le_of_ble_eq_true rfl) (fun p e s m args below meth c ls hsz hargs hnm C hP hS hl => ?_)
  subst hsz
  have hx := C.1
  have hb := C.2.1
  have hl : lv_has ls 5 [(0, .ref a), (1, .int p0), (2, .int p1), (3, .int p2)] := hl
  unfold s_X12_moves at hf
  refine lv_iconst (v := 0) hx hb dX12_moves_0 rfl ?_
  refine lv_istore (lv' := [(4, .int 0), (0, .ref a), (1, .int p0), (2, .int p1), (3, .int p2)]) hx hb dX12_moves_1 hl (by decide) rfl (fun ls hl => ?_)
  exact b_X12_moves_3 C F a p0 p1 p2 0 h_a k_a S s.heap [] _ hf hP hS hW (lv_sub hl [1, 2, 3, 4, 0] rfl)
def s_X12_keeps_J53 (N : Nat → Nat) (F : Nat) (v0 : Nat) (S : HS) : Option HS :=
  bd1 (s_X12_moves N F v0 0 (28 * (5 + (gI S 1218 v0))) 10 S) fun S2 =>
  bnd (uI S2 1218 v0 ((gI S2 1218 v0) + 1)) fun S3 =>
  some S3
def s_X12_keeps_L11 (N : Nat → Nat) (F : Nat) (k43 : Nat → HS → Option HS) : Nat → Nat → Int32 → HS → Option HS
  | 0, _, _, _ => none
  | n + 1, v0, v1, S => if (16 : Int32) ≤ v1 then
  k43 v0 S
  else
  bd1 (s_X12_moves N F v0 (28 * (5 + v1)) (28 * ((5 + v1) - 1)) 10 S) fun S5 =>
  bnd (v1 + Int32.ofInt 1 : Int32) fun x6 =>
  s_X12_keeps_L11 N F k43 n v0 x6 S5
def s_X12_keeps_J43 (N : Nat → Nat) (F : Nat) (v0 : Nat) (S : HS) : Option HS :=
  bnd (uI S 1218 v0 ((gI S 1218 v0) - 1)) fun S7 =>
  s_X12_keeps_J53 N F v0 S7
def s_X12_keeps (N : Nat → Nat) (F : Nat) (a : Nat) (S : HS) : Option HS :=
  if (gI S 1218 a) = (16 : Int32) then
  s_X12_keeps_L11 N F (s_X12_keeps_J43 N F) F a 1 S
  else
  s_X12_keeps_J53 N F a S
set_option maxRecDepth 100000 in
set_option maxHeartbeats 4000000 in
theorem b_X12_keeps_53 {p : Program} {l : Launch} {e : Env} {s : State} {m : MethodId} {args : Array Value} {below : List Frame} {meth : Method} {c : Code} {V : EV} {G : GS} {S' : HS} {F : Nat} (C : CX p s m args meth c RX12 cX12_keeps 2 none V G) : ∀ (v0 : Nat) (h_v0 : v0 ∈ G.1) (k_v0 : G.2.1 v0 = 12) (S : HS) (H : Heap) (locs : List Loc) (ls : Array Slot), s_X12_keeps_J53 G.2.2 F v0 S = some S' → HP V G S H → va_S (AG G s.heap.size) s.heap H locs → WT G S → lv_has ls 2 [(0, .ref v0)] → W p l e (RM 1 32) s m args below meth c H locs 0 0 (MQ below (QV V G S' s.heap.size) args s 0 0 (AG G s.heap.size)) (F0 m 53 ls []) := by
  intro v0 h_v0 k_v0 S H locs ls hf hP hS hW hl
  have hx := C.1
  have hb := C.2.1
  unfold s_X12_keeps_J53 at hf
  refine lv_aload_n hx hb dX12_keeps_53 rfl (lv_at hl 0 rfl) ?_
  refine lv_iconst (v := 0) hx hb dX12_keeps_54 rfl ?_
  refine lv_bipush (v := 28) hx hb dX12_keeps_55 kc_bipush_28 ?_
  refine lv_iconst (v := 5) hx hb dX12_keeps_57 rfl ?_
  refine lv_aload_n hx hb dX12_keeps_58 rfl (lv_at hl 0 rfl) ?_
  refine gf_X12_240 C hP h_v0 k_v0 dX12_keeps_59 ?_
  refine lv_iadd hx hb dX12_keeps_62 ?_
  refine lv_imul hx hb dX12_keeps_63 ?_
  refine lv_bipush (v := 10) hx hb dX12_keeps_64 kc_bipush_10 ?_
  obtain ⟨S2, eS2, hf⟩ := bd1_e hf
  refine x_aft_v (x_runV (As := [.int 0, .int (28 * (5 + (gI S 1218 v0))), .int 10]) (rest := []) C hP hS (c_X12_moves (l := l) C.2.2.2.2.2.2.2.2.2.1 hW h_v0 k_v0 eS2 H.size) h_v0 k_v0 (by decide) rfl rfl km_X12_moves ki_X12_moves qm_X12_243 ⟨(Nat.le_of_ble_eq_true rfl), (Nat.le_of_ble_eq_true rfl)⟩ rfl hl.1 rfl (Nat.le_of_ble_eq_true rfl) ⟨Nat.zero_le _, Nat.zero_le _⟩ dX12_keeps_66) hS (fun H locs hP hS hW => ?_)
  refine lv_aload_n hx hb dX12_keeps_69 rfl (lv_at hl 0 rfl) ?_
  refine lv_dup hx hb dX12_keeps_70 rfl ?_
  refine gf_X12_240 C hP h_v0 k_v0 dX12_keeps_71 ?_
  refine lv_iconst (v := 1) hx hb dX12_keeps_74 rfl ?_
  refine lv_iadd hx hb dX12_keeps_75 ?_
  obtain ⟨S3, eS3, hf⟩ := bnd_e hf
  refine pf_X12_240 C hP hS h_v0 k_v0 eS3 dX12_keeps_76 (fun H locs hP hS => ?_)
  have hW : WT G S3 := by rw [eS3]; exact hW
  cases hf
  exact x_retv C hP hS hW dX12_keeps_79
set_option maxRecDepth 100000 in
set_option maxHeartbeats 4000000 in
theorem b_X12_keeps_11 {p : Program} {l : Launch} {e : Env} {s : State} {m : MethodId} {args : Array Value} {below : List Frame} {meth : Method} {c : Code} {V : EV} {G : GS} {S' : HS} {F : Nat} (C : CX p s m args meth c RX12 cX12_keeps 2 none V G) {k43 : Nat → HS → Option HS} (hk43 : ∀ (v0 : Nat) (h_v0 : v0 ∈ G.1) (k_v0 : G.2.1 v0 = 12) (S : HS) (H : Heap) (locs : List Loc) (ls : Array Slot), k43 v0 S = some S' → HP V G S H → va_S (AG G s.heap.size) s.heap H locs → WT G S → lv_has ls 2 [(0, .ref v0)] → W p l e (RM 1 32) s m args below meth c H locs 0 0 (MQ below (QV V G S' s.heap.size) args s 0 0 (AG G s.heap.size)) (F0 m 43 ls [])) : ∀ n : Nat, ∀ (v0 : Nat) (v1 : Int32) (h_v0 : v0 ∈ G.1) (k_v0 : G.2.1 v0 = 12) (S : HS) (H : Heap) (locs : List Loc) (ls : Array Slot), s_X12_keeps_L11 G.2.2 F k43 n v0 v1 S = some S' → HP V G S H → va_S (AG G s.heap.size) s.heap H locs → WT G S → lv_has ls 2 [(0, .ref v0), (1, .int v1)] → W p l e (RM 1 32) s m args below meth c H locs 0 0 (MQ below (QV V G S' s.heap.size) args s 0 0 (AG G s.heap.size)) (F0 m 11 ls []) := by
  intro n
  induction n with
  | zero =>
    intro v0 v1 h_v0 k_v0 S H locs ls hf
    rw [s_X12_keeps_L11] at hf
    cases hf
  | succ n ih =>
    intro v0 v1 h_v0 k_v0 S H locs ls hf hP hS hW hl
    have hx := C.1
    have hb := C.2.1
    rw [s_X12_keeps_L11] at hf
    refine lv_iload_n hx hb dX12_keeps_11 rfl (lv_at hl 1 rfl) ?_
    refine lv_bipush (v := 16) hx hb dX12_keeps_12 kc_bipush_16 ?_
    refine lv_icmp_ge (tgt := 43) hx hb dX12_keeps_14 (by decide) (fun c4 => ?_) (fun c4 => ?_)
    · have hf := if_t c4 hf
      exact hk43 v0 h_v0 k_v0 S H locs _ hf hP hS hW (lv_sub hl [0] rfl)
    · have hf := if_f c4 hf
      refine lv_aload_n hx hb dX12_keeps_17 rfl (lv_at hl 0 rfl) ?_
      refine lv_bipush (v := 28) hx hb dX12_keeps_18 kc_bipush_28 ?_
      refine lv_iconst (v := 5) hx hb dX12_keeps_20 rfl ?_
      refine lv_iload_n hx hb dX12_keeps_21 rfl (lv_at hl 1 rfl) ?_
      refine lv_iadd hx hb dX12_keeps_22 ?_
      refine lv_imul hx hb dX12_keeps_23 ?_
      refine lv_bipush (v := 28) hx hb dX12_keeps_24 kc_bipush_28 ?_
      refine lv_iconst (v := 5) hx hb dX12_keeps_26 rfl ?_
      refine lv_iload_n hx hb dX12_keeps_27 rfl (lv_at hl 1 rfl) ?_
      refine lv_iadd hx hb dX12_keeps_28 ?_
      refine lv_iconst (v := 1) hx hb dX12_keeps_29 rfl ?_
      refine lv_isub hx hb dX12_keeps_30 ?_
      refine lv_imul hx hb dX12_keeps_31 ?_
      refine lv_bipush (v := 10) hx hb dX12_keeps_32 kc_bipush_10 ?_
      obtain ⟨S5, eS5, hf⟩ := bd1_e hf
      refine x_aft_v (x_runV (As := [.int (28 * (5 + v1)), .int (28 * ((5 + v1) - 1)), .int 10]) (rest := []) C hP hS (c_X12_moves (l := l) C.2.2.2.2.2.2.2.2.2.1 hW h_v0 k_v0 eS5 H.size) h_v0 k_v0 (by decide) rfl rfl km_X12_moves ki_X12_moves qm_X12_243 ⟨(Nat.le_of_ble_eq_true rfl), (Nat.le_of_ble_eq_true rfl)⟩ rfl hl.1 rfl (Nat.le_of_ble_eq_true rfl) ⟨Nat.zero_le _, Nat.zero_le _⟩ dX12_keeps_34) hS (fun H locs hP hS hW => ?_)
      obtain ⟨x6, ex6, hf⟩ := bnd_e hf
      refine lv_iinc (v := x6) (lv' := [(1, .int x6), (0, .ref v0)]) hx hb dX12_keeps_37 hl (k := 1) rfl ex6.symm (by decide) rfl (fun ls hl => ?_)
      refine lv_goto (tgt := 11) hx hb dX12_keeps_40 (by decide) ?_
      exact ih v0 x6 h_v0 k_v0 S5 H locs _ hf hP hS hW (lv_sub hl [1, 0] rfl)
set_option maxRecDepth 100000 in
set_option maxHeartbeats 4000000 in
theorem b_X12_keeps_43 {p : Program} {l : Launch} {e : Env} {s : State} {m : MethodId} {args : Array Value} {below : List Frame} {meth : Method} {c : Code} {V : EV} {G : GS} {S' : HS} {F : Nat} (C : CX p s m args meth c RX12 cX12_keeps 2 none V G) : ∀ (v0 : Nat) (h_v0 : v0 ∈ G.1) (k_v0 : G.2.1 v0 = 12) (S : HS) (H : Heap) (locs : List Loc) (ls : Array Slot), s_X12_keeps_J43 G.2.2 F v0 S = some S' → HP V G S H → va_S (AG G s.heap.size) s.heap H locs → WT G S → lv_has ls 2 [(0, .ref v0)] → W p l e (RM 1 32) s m args below meth c H locs 0 0 (MQ below (QV V G S' s.heap.size) args s 0 0 (AG G s.heap.size)) (F0 m 43 ls []) := by
  intro v0 h_v0 k_v0 S H locs ls hf hP hS hW hl
  have hx := C.1
  have hb := C.2.1
  unfold s_X12_keeps_J43 at hf
  refine lv_aload_n hx hb dX12_keeps_43 rfl (lv_at hl 0 rfl) ?_
  refine lv_dup hx hb dX12_keeps_44 rfl ?_
  refine gf_X12_240 C hP h_v0 k_v0 dX12_keeps_45 ?_
  refine lv_iconst (v := 1) hx hb dX12_keeps_48 rfl ?_
  refine lv_isub hx hb dX12_keeps_49 ?_
  obtain ⟨S7, eS7, hf⟩ := bnd_e hf
  refine pf_X12_240 C hP hS h_v0 k_v0 eS7 dX12_keeps_50 (fun H locs hP hS => ?_)
  have hW : WT G S7 := by rw [eS7]; exact hW
  exact b_X12_keeps_53 C v0 h_v0 k_v0 S7 H locs _ hf hP hS hW (lv_sub hl [0] rfl)
set_option maxRecDepth 100000 in
set_option maxHeartbeats 4000000 in
theorem c_X12_keeps {l : Launch} {V : EV} {G : GS} {S : HS} {F : Nat} {a : Nat} {S' : HS} (hN : G.1.Nodup) (hW : WT G S) (h_a : a ∈ G.1) (k_a : G.2.1 a = 12) (hf : s_X12_keeps G.2.2 F a S = some S') : MetV l yX12_keeps cX12_keeps 2 1 32 V G S [.ref a] S' := by
  intro sz
  refine x_in RX12 rfl (by decide +kernel) hN (Nat.le_of_ble_eq_true rfl) (fun p e s m args below meth c ls hsz hargs hnm C hP hS hl => ?_)
  subst hsz
  have hx := C.1
  have hb := C.2.1
  have hl : lv_has ls 2 [(0, .ref a)] := hl
  unfold s_X12_keeps at hf
  refine lv_aload_n hx hb dX12_keeps_0 rfl (lv_at hl 0 rfl) ?_
  refine gf_X12_240 C hP h_a k_a dX12_keeps_1 ?_
  refine lv_bipush (v := 16) hx hb dX12_keeps_4 kc_bipush_16 ?_
  refine lv_icmp_ne (tgt := 53) hx hb dX12_keeps_6 (by decide) (fun c1 => ?_) (fun c1 => ?_)
  · have hf := if_f c1 hf
    exact b_X12_keeps_53 C a h_a k_a S s.heap [] _ hf hP hS hW (lv_sub hl [0] rfl)
  · have hf := if_t c1 hf
    refine lv_iconst (v := 1) hx hb dX12_keeps_9 rfl ?_
    refine lv_istore_n (lv' := [(1, .int 1), (0, .ref a)]) hx hb dX12_keeps_10 rfl hl (by decide) rfl (fun ls hl => ?_)
    exact b_X12_keeps_11 C (b_X12_keeps_43 C) F a 1 h_a k_a S s.heap [] _ hf hP hS hW (lv_sub hl [1, 0] rfl)
def s_X12_clear (N : Nat → Nat) (F : Nat) (a : Nat) (S : HS) : Option (Int32 × HS) :=
  bnd (uI S 1200 a 0) fun S1 =>
  bd1 (s_X12_keeps N F a S1) fun S2 =>
  bd1 (gR S2 1217 a) fun t3 =>
  if inB (2 : Int32) (N t3) = true then
  bnd (aI S2 t3 (2 : Int32).toNatClampNeg : Int32) fun x5 =>
  bd1 (gR S2 1217 a) fun t6 =>
  if inB (2 : Int32) (N t6) = true then
  bnd (wI S2 t6 ((2 : Int32).toNatClampNeg) 0) fun S8 =>
  some (x5, S8)
  else none
  else none
set_option maxRecDepth 100000 in
set_option maxHeartbeats 4000000 in
theorem c_X12_clear {l : Launch} {V : EV} {G : GS} {S : HS} {F : Nat} {a : Nat} {r : Int32} {S' : HS} (hN : G.1.Nodup) (hW : WT G S) (h_a : a ∈ G.1) (k_a : G.2.1 a = 12) (hf : s_X12_clear G.2.2 F a S = some (r, S')) : MetI l yX12_clear cX12_clear 2 .int 2 61 V G S [.ref a] r S' := by
  intro sz
  refine x_in RX12 rfl (by decide +kernel) hN (Nat.le_of_ble_eq_true rfl) (fun p e s m args below meth c ls hsz hargs hnm C hP hS hl => ?_)
  subst hsz
  have hx := C.1
  have hb := C.2.1
  have hl : lv_has ls 2 [(0, .ref a)] := hl
  unfold s_X12_clear at hf
  refine lv_aload_n hx hb dX12_clear_0 rfl (lv_at hl 0 rfl) ?_
  refine lv_iconst (v := 0) hx hb dX12_clear_1 rfl ?_
  obtain ⟨S1, eS1, hf⟩ := bnd_e hf
  refine pf_X12_1 C hP hS h_a k_a eS1 dX12_clear_2 (fun H locs hP hS => ?_)
  have hW : WT G S1 := by rw [eS1]; exact hW
  refine lv_aload_n hx hb dX12_clear_5 rfl (lv_at hl 0 rfl) ?_
  obtain ⟨S2, eS2, hf⟩ := bd1_e hf
  refine x_aft_v (x_runV (As := []) (rest := []) C hP hS (c_X12_keeps (l := l) C.2.2.2.2.2.2.2.2.2.1 hW h_a k_a eS2 H.size) h_a k_a (by decide) rfl rfl km_X12_keeps ki_X12_keeps qm_X12_366 ⟨(Nat.le_of_ble_eq_true rfl), (Nat.le_of_ble_eq_true rfl)⟩ rfl hl.1 rfl (Nat.le_of_ble_eq_true rfl) ⟨Nat.zero_le _, Nat.zero_le _⟩ dX12_clear_6) hS (fun H locs hP hS hW => ?_)
  refine lv_aload_n hx hb dX12_clear_9 rfl (lv_at hl 0 rfl) ?_
  refine gf_X12_95 C hP h_a k_a dX12_clear_10 ?_
  obtain ⟨t3, et3, hf⟩ := bd1_e hf
  obtain ⟨h_t3, k_t3⟩ := wt_r hW h_a k_a (by decide) et3
  have k_t3 : G.2.1 t3 = 14 := k_t3
  rw [et3]
  refine lv_iconst (v := 2) hx hb dX12_clear_13 rfl ?_
  obtain ⟨h4, hf⟩ := if_s hf
  refine x_iald C hP h_t3 k_t3 h4 dX12_clear_14 ?_
  obtain ⟨x5, ex5, hf⟩ := bnd_e hf
  refine nm_i ex5 ?_
  refine lv_istore_n (lv' := [(1, .int x5), (0, .ref a)]) hx hb dX12_clear_15 rfl hl (by decide) rfl (fun ls hl => ?_)
  refine lv_aload_n hx hb dX12_clear_16 rfl (lv_at hl 1 rfl) ?_
  refine gf_X12_95 C hP h_a k_a dX12_clear_17 ?_
  obtain ⟨t6, et6, hf⟩ := bd1_e hf
  obtain ⟨h_t6, k_t6⟩ := wt_r hW h_a k_a (by decide) et6
  have k_t6 : G.2.1 t6 = 14 := k_t6
  rw [et6]
  refine lv_iconst (v := 2) hx hb dX12_clear_20 rfl ?_
  refine lv_iconst (v := 0) hx hb dX12_clear_21 rfl ?_
  obtain ⟨h7, hf⟩ := if_s hf
  obtain ⟨S8, eS8, hf⟩ := bnd_e hf
  refine x_iast C hP hS h_t6 k_t6 h7 eS8 dX12_clear_22 (fun H locs hP hS => ?_)
  have hW : WT G S8 := by rw [eS8]; exact hW
  refine lv_iload_n hx hb dX12_clear_23 rfl (lv_at hl 0 rfl) ?_
  cases hf
  exact x_reti C hP hS hW dX12_clear_24
def s_X12_regs (N : Nat → Nat) (a : Nat) (S : HS) : Option Int32 :=
  bd1 (gR S 1210 a) fun t1 =>
  if inB (1 : Int32) (N t1) = true then
  some (aI S t1 (1 : Int32).toNatClampNeg)
  else none
set_option maxRecDepth 100000 in
set_option maxHeartbeats 4000000 in
theorem c_X12_regs {l : Launch} {V : EV} {G : GS} {S : HS} {a : Nat} {r : Int32} (hN : G.1.Nodup) (hW : WT G S) (h_a : a ∈ G.1) (k_a : G.2.1 a = 12) (hf : s_X12_regs G.2.2 a S = some r) : MetI l yX12_regs cX12_regs 1 .int 0 0 V G S [.ref a] r S := by
  intro sz
  refine x_in RX12 rfl (by decide +kernel) hN (Nat.le_of_ble_eq_true rfl) (fun p e s m args below meth c ls hsz hargs hnm C hP hS hl => ?_)
  subst hsz
  have hx := C.1
  have hb := C.2.1
  have hl : lv_has ls 1 [(0, .ref a)] := hl
  unfold s_X12_regs at hf
  refine lv_aload_n hx hb dX12_regs_0 rfl (lv_at hl 0 rfl) ?_
  refine gf_X12_77 C hP h_a k_a dX12_regs_1 ?_
  obtain ⟨t1, et1, hf⟩ := bd1_e hf
  obtain ⟨h_t1, k_t1⟩ := wt_r hW h_a k_a (by decide) et1
  have k_t1 : G.2.1 t1 = 14 := k_t1
  rw [et1]
  refine lv_iconst (v := 1) hx hb dX12_regs_4 rfl ?_
  obtain ⟨h2, hf⟩ := if_s hf
  refine x_iald C hP h_t1 k_t1 h2 dX12_regs_5 ?_
  cases hf
  exact x_reti C hP hS hW dX12_regs_6
def s_X12_count (N : Nat → Nat) (a : Nat) (p0 : Int32) (S : HS) : Option (Int32 × HS) :=
  bnd (uI S 1200 a 0) fun S1 =>
  if p0 = 0 then
  bd1 (s_X12_forms N a S1) fun r3 =>
  some (r3, S1)
  else
  if p0 = 1 then
  bd1 (s_X12_regs N a S1) fun r5 =>
  some (r5, S1)
  else
  if p0 = 2 then
  bd1 (s_X12_used N a S1) fun r7 =>
  some (r7, S1)
  else
  if p0 = 3 then
  bd1 (gR S1 1217 a) fun t9 =>
  if inB (1 : Int32) (N t9) = true then
  some (aI S1 t9 (1 : Int32).toNatClampNeg, S1)
  else none
  else
  if p0 = 4 then
  bd1 (gR S1 1217 a) fun t12 =>
  if inB (2 : Int32) (N t12) = true then
  some (aI S1 t12 (2 : Int32).toNatClampNeg, S1)
  else none
  else
  if p0 = 5 then
  bd1 (gR S1 1214 a) fun t15 =>
  if inB (0 : Int32) (N t15) = true then
  some (aI S1 t15 (0 : Int32).toNatClampNeg, S1)
  else none
  else
  if p0 = 6 then
  bd1 (gR S1 1217 a) fun t18 =>
  if inB (10 : Int32) (N t18) = true then
  some (aI S1 t18 (10 : Int32).toNatClampNeg, S1)
  else none
  else
  if p0 = 7 then
  some (gI S1 1218 a, S1)
  else
  if p0 = 8 then
  some (gI S1 1202 a, S1)
  else
  some ((-1), S1)
set_option maxRecDepth 100000 in
set_option maxHeartbeats 4000000 in
theorem c_X12_count {l : Launch} {V : EV} {G : GS} {S : HS} {a : Nat} {p0 : Int32} {r : Int32} {S' : HS} (hN : G.1.Nodup) (hW : WT G S) (h_a : a ∈ G.1) (k_a : G.2.1 a = 12) (hf : s_X12_count G.2.2 a p0 S = some (r, S')) : MetI l yX12_count cX12_count 2 .int 1 28 V G S [.ref a, .int p0] r S' := by
  intro sz
  refine x_in RX12 rfl (by decide +kernel) hN (Nat.le_of_ble_eq_true rfl) (fun p e s m args below meth c ls hsz hargs hnm C hP hS hl => ?_)
  subst hsz
  have hx := C.1
  have hb := C.2.1
  have hl : lv_has ls 2 [(0, .ref a), (1, .int p0)] := hl
  unfold s_X12_count at hf
  refine lv_aload_n hx hb dX12_count_0 rfl (lv_at hl 0 rfl) ?_
  refine lv_iconst (v := 0) hx hb dX12_count_1 rfl ?_
  obtain ⟨S1, eS1, hf⟩ := bnd_e hf
  refine pf_X12_1 C hP hS h_a k_a eS1 dX12_count_2 (fun H locs hP hS => ?_)
  have hW : WT G S1 := by rw [eS1]; exact hW
  refine lv_iload_n hx hb dX12_count_5 rfl (lv_at hl 1 rfl) ?_
  by_cases c2 : p0 = 0
  · have hf := if_t c2 hf
    refine lv_tableIn (tgt := 56) (off := 50) hx hb dX12_count_6 (by rw [c2]; decide) (by rw [c2]; decide) (by rw [c2]; rfl) (by decide) ?_
    refine lv_aload_n hx hb dX12_count_56 rfl (lv_at hl 0 rfl) ?_
    obtain ⟨r3, er3, hf⟩ := bd1_e hf
    refine x_aft_i (x_runV (As := []) (rest := []) C hP hS (c_X12_forms (l := l) C.2.2.2.2.2.2.2.2.2.1 hW h_a k_a er3 H.size) h_a k_a (by decide) rfl rfl km_X12_forms ki_X12_forms qm_X12_219 ⟨(Nat.le_of_ble_eq_true rfl), (Nat.le_of_ble_eq_true rfl)⟩ rfl hl.1 rfl (Nat.le_of_ble_eq_true rfl) ⟨Nat.zero_le _, Nat.zero_le _⟩ dX12_count_57) hS (fun H locs hP hS hW => ?_)
    cases hf
    exact x_reti C hP hS hW dX12_count_60
  have hf := if_f c2 hf
  by_cases c4 : p0 = 1
  · have hf := if_t c4 hf
    refine lv_tableIn (tgt := 61) (off := 55) hx hb dX12_count_6 (by rw [c4]; decide) (by rw [c4]; decide) (by rw [c4]; rfl) (by decide) ?_
    refine lv_aload_n hx hb dX12_count_61 rfl (lv_at hl 0 rfl) ?_
    obtain ⟨r5, er5, hf⟩ := bd1_e hf
    refine x_aft_i (x_runV (As := []) (rest := []) C hP hS (c_X12_regs (l := l) C.2.2.2.2.2.2.2.2.2.1 hW h_a k_a er5 H.size) h_a k_a (by decide) rfl rfl km_X12_regs ki_X12_regs qm_X12_212 ⟨(Nat.le_of_ble_eq_true rfl), (Nat.le_of_ble_eq_true rfl)⟩ rfl hl.1 rfl (Nat.le_of_ble_eq_true rfl) ⟨Nat.zero_le _, Nat.zero_le _⟩ dX12_count_62) hS (fun H locs hP hS hW => ?_)
    cases hf
    exact x_reti C hP hS hW dX12_count_65
  have hf := if_f c4 hf
  by_cases c6 : p0 = 2
  · have hf := if_t c6 hf
    refine lv_tableIn (tgt := 66) (off := 60) hx hb dX12_count_6 (by rw [c6]; decide) (by rw [c6]; decide) (by rw [c6]; rfl) (by decide) ?_
    refine lv_aload_n hx hb dX12_count_66 rfl (lv_at hl 0 rfl) ?_
    obtain ⟨r7, er7, hf⟩ := bd1_e hf
    refine x_aft_i (x_runV (As := []) (rest := []) C hP hS (c_X12_used (l := l) C.2.2.2.2.2.2.2.2.2.1 hW h_a k_a er7 H.size) h_a k_a (by decide) rfl rfl km_X12_used ki_X12_used qm_X12_357 ⟨(Nat.le_of_ble_eq_true rfl), (Nat.le_of_ble_eq_true rfl)⟩ rfl hl.1 rfl (Nat.le_of_ble_eq_true rfl) ⟨Nat.zero_le _, Nat.zero_le _⟩ dX12_count_67) hS (fun H locs hP hS hW => ?_)
    cases hf
    exact x_reti C hP hS hW dX12_count_70
  have hf := if_f c6 hf
  by_cases c8 : p0 = 3
  · have hf := if_t c8 hf
    refine lv_tableIn (tgt := 71) (off := 65) hx hb dX12_count_6 (by rw [c8]; decide) (by rw [c8]; decide) (by rw [c8]; rfl) (by decide) ?_
    refine lv_aload_n hx hb dX12_count_71 rfl (lv_at hl 0 rfl) ?_
    refine gf_X12_95 C hP h_a k_a dX12_count_72 ?_
    obtain ⟨t9, et9, hf⟩ := bd1_e hf
    obtain ⟨h_t9, k_t9⟩ := wt_r hW h_a k_a (by decide) et9
    have k_t9 : G.2.1 t9 = 14 := k_t9
    rw [et9]
    refine lv_iconst (v := 1) hx hb dX12_count_75 rfl ?_
    obtain ⟨h10, hf⟩ := if_s hf
    refine x_iald C hP h_t9 k_t9 h10 dX12_count_76 ?_
    cases hf
    exact x_reti C hP hS hW dX12_count_77
  have hf := if_f c8 hf
  by_cases c11 : p0 = 4
  · have hf := if_t c11 hf
    refine lv_tableIn (tgt := 78) (off := 72) hx hb dX12_count_6 (by rw [c11]; decide) (by rw [c11]; decide) (by rw [c11]; rfl) (by decide) ?_
    refine lv_aload_n hx hb dX12_count_78 rfl (lv_at hl 0 rfl) ?_
    refine gf_X12_95 C hP h_a k_a dX12_count_79 ?_
    obtain ⟨t12, et12, hf⟩ := bd1_e hf
    obtain ⟨h_t12, k_t12⟩ := wt_r hW h_a k_a (by decide) et12
    have k_t12 : G.2.1 t12 = 14 := k_t12
    rw [et12]
    refine lv_iconst (v := 2) hx hb dX12_count_82 rfl ?_
    obtain ⟨h13, hf⟩ := if_s hf
    refine x_iald C hP h_t12 k_t12 h13 dX12_count_83 ?_
    cases hf
    exact x_reti C hP hS hW dX12_count_84
  have hf := if_f c11 hf
  by_cases c14 : p0 = 5
  · have hf := if_t c14 hf
    refine lv_tableIn (tgt := 85) (off := 79) hx hb dX12_count_6 (by rw [c14]; decide) (by rw [c14]; decide) (by rw [c14]; rfl) (by decide) ?_
    refine lv_aload_n hx hb dX12_count_85 rfl (lv_at hl 0 rfl) ?_
    refine gf_X12_86 C hP h_a k_a dX12_count_86 ?_
    obtain ⟨t15, et15, hf⟩ := bd1_e hf
    obtain ⟨h_t15, k_t15⟩ := wt_r hW h_a k_a (by decide) et15
    have k_t15 : G.2.1 t15 = 14 := k_t15
    rw [et15]
    refine lv_iconst (v := 0) hx hb dX12_count_89 rfl ?_
    obtain ⟨h16, hf⟩ := if_s hf
    refine x_iald C hP h_t15 k_t15 h16 dX12_count_90 ?_
    cases hf
    exact x_reti C hP hS hW dX12_count_91
  have hf := if_f c14 hf
  by_cases c17 : p0 = 6
  · have hf := if_t c17 hf
    refine lv_tableIn (tgt := 92) (off := 86) hx hb dX12_count_6 (by rw [c17]; decide) (by rw [c17]; decide) (by rw [c17]; rfl) (by decide) ?_
    refine lv_aload_n hx hb dX12_count_92 rfl (lv_at hl 0 rfl) ?_
    refine gf_X12_95 C hP h_a k_a dX12_count_93 ?_
    obtain ⟨t18, et18, hf⟩ := bd1_e hf
    obtain ⟨h_t18, k_t18⟩ := wt_r hW h_a k_a (by decide) et18
    have k_t18 : G.2.1 t18 = 14 := k_t18
    rw [et18]
    refine lv_bipush (v := 10) hx hb dX12_count_96 kc_bipush_10 ?_
    obtain ⟨h19, hf⟩ := if_s hf
    refine x_iald C hP h_t18 k_t18 h19 dX12_count_98 ?_
    cases hf
    exact x_reti C hP hS hW dX12_count_99
  have hf := if_f c17 hf
  by_cases c20 : p0 = 7
  · have hf := if_t c20 hf
    refine lv_tableIn (tgt := 100) (off := 94) hx hb dX12_count_6 (by rw [c20]; decide) (by rw [c20]; decide) (by rw [c20]; rfl) (by decide) ?_
    refine lv_aload_n hx hb dX12_count_100 rfl (lv_at hl 0 rfl) ?_
    refine gf_X12_240 C hP h_a k_a dX12_count_101 ?_
    cases hf
    exact x_reti C hP hS hW dX12_count_104
  have hf := if_f c20 hf
  by_cases c21 : p0 = 8
  · have hf := if_t c21 hf
    refine lv_tableIn (tgt := 105) (off := 99) hx hb dX12_count_6 (by rw [c21]; decide) (by rw [c21]; decide) (by rw [c21]; rfl) (by decide) ?_
    refine lv_aload_n hx hb dX12_count_105 rfl (lv_at hl 0 rfl) ?_
    refine gf_X12_11 C hP h_a k_a dX12_count_106 ?_
    cases hf
    exact x_reti C hP hS hW dX12_count_109
  have hf := if_f c21 hf
  refine lv_tableOut (tgt := 110) hx hb dX12_count_6 (sw_out (fun k h1 h2 e9 => by
    rcases (show k = 0 ∨ k = 1 ∨ k = 2 ∨ k = 3 ∨ k = 4 ∨ k = 5 ∨ k = 6 ∨ k = 7 ∨ k = 8 by omega) with rfl | rfl | rfl | rfl | rfl | rfl | rfl | rfl | rfl
    · exact c2 e9
    · exact c4 e9
    · exact c6 e9
    · exact c8 e9
    · exact c11 e9
    · exact c14 e9
    · exact c17 e9
    · exact c20 e9
    · exact c21 e9
    )) (by decide) ?_
  refine lv_iconst (v := (-1)) hx hb dX12_count_110 rfl ?_
  cases hf
  exact x_reti C hP hS hW dX12_count_111
def s_X12_isLetter (p0 : Int32) (S : HS) : Int32 :=
  if p0 < (97 : Int32) then
  0
  else
  if (122 : Int32) < p0 then
  0
  else
  1
set_option maxRecDepth 100000 in
set_option maxHeartbeats 4000000 in
theorem c_X12_isLetter {l : Launch} {V : EV} {G : GS} {S : HS} {p0 : Int32} {r : Int32} (hN : G.1.Nodup) (hW : WT G S) (hf : s_X12_isLetter p0 S = r) : MetZ l yX12_isLetter cX12_isLetter 1 0 0 V G S [.int p0] r S := by
  intro sz
  refine x_in RX12 rfl (by decide +kernel) hN (Nat.le_of_ble_eq_true rfl) (fun p e s m args below meth c ls hsz hargs hnm C hP hS hl => ?_)
  subst hsz
  have hx := C.1
  have hb := C.2.1
  have hl : lv_has ls 1 [(0, .int p0)] := hl
  unfold s_X12_isLetter at hf
  refine lv_iload_n hx hb dX12_isLetter_0 rfl (lv_at hl 0 rfl) ?_
  refine lv_bipush (v := 97) hx hb dX12_isLetter_1 kc_bipush_97 ?_
  refine lv_icmp_lt (tgt := 16) hx hb dX12_isLetter_3 (by decide) (fun c1 => ?_) (fun c1 => ?_)
  · have hf := if_t c1 hf
    refine lv_iconst (v := 0) hx hb dX12_isLetter_16 rfl ?_
    cases hf
    exact x_retZ C hP hS hW isZ_0 dX12_isLetter_17
  · have hf := if_f c1 hf
    refine lv_iload_n hx hb dX12_isLetter_6 rfl (lv_at hl 0 rfl) ?_
    refine lv_bipush (v := 122) hx hb dX12_isLetter_7 kc_bipush_122 ?_
    refine lv_icmp_gt (tgt := 16) hx hb dX12_isLetter_9 (by decide) (fun c2 => ?_) (fun c2 => ?_)
    · have hf := if_t c2 hf
      refine lv_iconst (v := 0) hx hb dX12_isLetter_16 rfl ?_
      cases hf
      exact x_retZ C hP hS hW isZ_0 dX12_isLetter_17
    · have hf := if_f c2 hf
      refine lv_iconst (v := 1) hx hb dX12_isLetter_12 rfl ?_
      refine lv_goto (tgt := 17) hx hb dX12_isLetter_13 (by decide) ?_
      cases hf
      exact x_retZ C hP hS hW isZ_1 dX12_isLetter_17
def s_X12_rank (p0 : Int32) (S : HS) : Int32 :=
  if (s_X12_isLetter p0 S) = (0 : Int32) then
  p0 - 21
  else
  p0 - 96
set_option maxRecDepth 100000 in
set_option maxHeartbeats 4000000 in
theorem c_X12_rank {l : Launch} {V : EV} {G : GS} {S : HS} {p0 : Int32} {r : Int32} (hN : G.1.Nodup) (hW : WT G S) (hf : s_X12_rank p0 S = r) : MetI l yX12_rank cX12_rank 1 .int 1 28 V G S [.int p0] r S := by
  intro sz
  refine x_in RX12 rfl (by decide +kernel) hN (Nat.le_of_ble_eq_true rfl) (fun p e s m args below meth c ls hsz hargs hnm C hP hS hl => ?_)
  subst hsz
  have hx := C.1
  have hb := C.2.1
  have hl : lv_has ls 1 [(0, .int p0)] := hl
  unfold s_X12_rank at hf
  refine lv_iload_n hx hb dX12_rank_0 rfl (lv_at hl 0 rfl) ?_
  refine x_aft_z (x_runS (As := [.int p0]) (rest := []) C hP hS (c_X12_isLetter (l := l) C.2.2.2.2.2.2.2.2.2.1 hW rfl s.heap.size) km_X12_isLetter ks_X12_isLetter qm_X12_118 ⟨(Nat.le_of_ble_eq_true rfl), (Nat.le_of_ble_eq_true rfl)⟩ rfl hl.1 rfl (Nat.le_of_ble_eq_true rfl) ⟨Nat.zero_le _, Nat.zero_le _⟩ dX12_rank_1) hS (fun H locs hP hS hW z1 => ?_)
  refine lv_if_eq (tgt := 14) hx hb dX12_rank_4 (by decide) (fun c2 => ?_) (fun c2 => ?_)
  · have hf := if_t c2 hf
    refine lv_iload_n hx hb dX12_rank_14 rfl (lv_at hl 0 rfl) ?_
    refine lv_bipush (v := 21) hx hb dX12_rank_15 kc_bipush_21 ?_
    refine lv_isub hx hb dX12_rank_17 ?_
    cases hf
    exact x_reti C hP hS hW dX12_rank_18
  · have hf := if_f c2 hf
    refine lv_iload_n hx hb dX12_rank_7 rfl (lv_at hl 0 rfl) ?_
    refine lv_bipush (v := 96) hx hb dX12_rank_8 kc_bipush_96 ?_
    refine lv_isub hx hb dX12_rank_10 ?_
    refine lv_goto (tgt := 18) hx hb dX12_rank_11 (by decide) ?_
    cases hf
    exact x_reti C hP hS hW dX12_rank_18
def s_X12_isDigit (p0 : Int32) (S : HS) : Int32 :=
  if p0 < (48 : Int32) then
  0
  else
  if (57 : Int32) < p0 then
  0
  else
  1
set_option maxRecDepth 100000 in
set_option maxHeartbeats 4000000 in
theorem c_X12_isDigit {l : Launch} {V : EV} {G : GS} {S : HS} {p0 : Int32} {r : Int32} (hN : G.1.Nodup) (hW : WT G S) (hf : s_X12_isDigit p0 S = r) : MetZ l yX12_isDigit cX12_isDigit 1 0 0 V G S [.int p0] r S := by
  intro sz
  refine x_in RX12 rfl (by decide +kernel) hN (Nat.le_of_ble_eq_true rfl) (fun p e s m args below meth c ls hsz hargs hnm C hP hS hl => ?_)
  subst hsz
  have hx := C.1
  have hb := C.2.1
  have hl : lv_has ls 1 [(0, .int p0)] := hl
  unfold s_X12_isDigit at hf
  refine lv_iload_n hx hb dX12_isDigit_0 rfl (lv_at hl 0 rfl) ?_
  refine lv_bipush (v := 48) hx hb dX12_isDigit_1 kc_bipush_48 ?_
  refine lv_icmp_lt (tgt := 16) hx hb dX12_isDigit_3 (by decide) (fun c1 => ?_) (fun c1 => ?_)
  · have hf := if_t c1 hf
    refine lv_iconst (v := 0) hx hb dX12_isDigit_16 rfl ?_
    cases hf
    exact x_retZ C hP hS hW isZ_0 dX12_isDigit_17
  · have hf := if_f c1 hf
    refine lv_iload_n hx hb dX12_isDigit_6 rfl (lv_at hl 0 rfl) ?_
    refine lv_bipush (v := 57) hx hb dX12_isDigit_7 kc_bipush_57 ?_
    refine lv_icmp_gt (tgt := 16) hx hb dX12_isDigit_9 (by decide) (fun c2 => ?_) (fun c2 => ?_)
    · have hf := if_t c2 hf
      refine lv_iconst (v := 0) hx hb dX12_isDigit_16 rfl ?_
      cases hf
      exact x_retZ C hP hS hW isZ_0 dX12_isDigit_17
    · have hf := if_f c2 hf
      refine lv_iconst (v := 1) hx hb dX12_isDigit_12 rfl ?_
      refine lv_goto (tgt := 17) hx hb dX12_isDigit_13 (by decide) ?_
      cases hf
      exact x_retZ C hP hS hW isZ_1 dX12_isDigit_17
def s_X12_isSignOf (p0 : Int32) (S : HS) : Int32 :=
  if p0 = (40 : Int32) then
  1
  else
  if p0 = (41 : Int32) then
  1
  else
  if p0 = (59 : Int32) then
  1
  else
  if p0 = (61 : Int32) then
  1
  else
  if p0 = (60 : Int32) then
  1
  else
  if p0 = (43 : Int32) then
  1
  else
  if p0 = (45 : Int32) then
  1
  else
  if p0 = (42 : Int32) then
  1
  else
  0
set_option maxRecDepth 100000 in
set_option maxHeartbeats 4000000 in
theorem c_X12_isSignOf {l : Launch} {V : EV} {G : GS} {S : HS} {p0 : Int32} {r : Int32} (hN : G.1.Nodup) (hW : WT G S) (hf : s_X12_isSignOf p0 S = r) : MetZ l yX12_isSignOf cX12_isSignOf 1 0 0 V G S [.int p0] r S := by
  intro sz
  refine x_in RX12 rfl (by decide +kernel) hN (Nat.le_of_ble_eq_true rfl) (fun p e s m args below meth c ls hsz hargs hnm C hP hS hl => ?_)
  subst hsz
  have hx := C.1
  have hb := C.2.1
  have hl : lv_has ls 1 [(0, .int p0)] := hl
  unfold s_X12_isSignOf at hf
  refine lv_iload_n hx hb dX12_isSignOf_0 rfl (lv_at hl 0 rfl) ?_
  refine lv_bipush (v := 40) hx hb dX12_isSignOf_1 kc_bipush_40 ?_
  refine lv_icmp_eq (tgt := 48) hx hb dX12_isSignOf_3 (by decide) (fun c1 => ?_) (fun c1 => ?_)
  · have hf := if_t c1 hf
    refine lv_iconst (v := 1) hx hb dX12_isSignOf_48 rfl ?_
    refine lv_goto (tgt := 53) hx hb dX12_isSignOf_49 (by decide) ?_
    cases hf
    exact x_retZ C hP hS hW isZ_1 dX12_isSignOf_53
  · have hf := if_f c1 hf
    refine lv_iload_n hx hb dX12_isSignOf_6 rfl (lv_at hl 0 rfl) ?_
    refine lv_bipush (v := 41) hx hb dX12_isSignOf_7 kc_bipush_41 ?_
    refine lv_icmp_eq (tgt := 48) hx hb dX12_isSignOf_9 (by decide) (fun c2 => ?_) (fun c2 => ?_)
    · have hf := if_t c2 hf
      refine lv_iconst (v := 1) hx hb dX12_isSignOf_48 rfl ?_
      refine lv_goto (tgt := 53) hx hb dX12_isSignOf_49 (by decide) ?_
      cases hf
      exact x_retZ C hP hS hW isZ_1 dX12_isSignOf_53
    · have hf := if_f c2 hf
      refine lv_iload_n hx hb dX12_isSignOf_12 rfl (lv_at hl 0 rfl) ?_
      refine lv_bipush (v := 59) hx hb dX12_isSignOf_13 kc_bipush_59 ?_
      refine lv_icmp_eq (tgt := 48) hx hb dX12_isSignOf_15 (by decide) (fun c3 => ?_) (fun c3 => ?_)
      · have hf := if_t c3 hf
        refine lv_iconst (v := 1) hx hb dX12_isSignOf_48 rfl ?_
        refine lv_goto (tgt := 53) hx hb dX12_isSignOf_49 (by decide) ?_
        cases hf
        exact x_retZ C hP hS hW isZ_1 dX12_isSignOf_53
      · have hf := if_f c3 hf
        refine lv_iload_n hx hb dX12_isSignOf_18 rfl (lv_at hl 0 rfl) ?_
        refine lv_bipush (v := 61) hx hb dX12_isSignOf_19 kc_bipush_61 ?_
        refine lv_icmp_eq (tgt := 48) hx hb dX12_isSignOf_21 (by decide) (fun c4 => ?_) (fun c4 => ?_)
        · have hf := if_t c4 hf
          refine lv_iconst (v := 1) hx hb dX12_isSignOf_48 rfl ?_
          refine lv_goto (tgt := 53) hx hb dX12_isSignOf_49 (by decide) ?_
          cases hf
          exact x_retZ C hP hS hW isZ_1 dX12_isSignOf_53
        · have hf := if_f c4 hf
          refine lv_iload_n hx hb dX12_isSignOf_24 rfl (lv_at hl 0 rfl) ?_
          refine lv_bipush (v := 60) hx hb dX12_isSignOf_25 kc_bipush_60 ?_
          refine lv_icmp_eq (tgt := 48) hx hb dX12_isSignOf_27 (by decide) (fun c5 => ?_) (fun c5 => ?_)
          · have hf := if_t c5 hf
            refine lv_iconst (v := 1) hx hb dX12_isSignOf_48 rfl ?_
            refine lv_goto (tgt := 53) hx hb dX12_isSignOf_49 (by decide) ?_
            cases hf
            exact x_retZ C hP hS hW isZ_1 dX12_isSignOf_53
          · have hf := if_f c5 hf
            refine lv_iload_n hx hb dX12_isSignOf_30 rfl (lv_at hl 0 rfl) ?_
            refine lv_bipush (v := 43) hx hb dX12_isSignOf_31 kc_bipush_43 ?_
            refine lv_icmp_eq (tgt := 48) hx hb dX12_isSignOf_33 (by decide) (fun c6 => ?_) (fun c6 => ?_)
            · have hf := if_t c6 hf
              refine lv_iconst (v := 1) hx hb dX12_isSignOf_48 rfl ?_
              refine lv_goto (tgt := 53) hx hb dX12_isSignOf_49 (by decide) ?_
              cases hf
              exact x_retZ C hP hS hW isZ_1 dX12_isSignOf_53
            · have hf := if_f c6 hf
              refine lv_iload_n hx hb dX12_isSignOf_36 rfl (lv_at hl 0 rfl) ?_
              refine lv_bipush (v := 45) hx hb dX12_isSignOf_37 kc_bipush_45 ?_
              refine lv_icmp_eq (tgt := 48) hx hb dX12_isSignOf_39 (by decide) (fun c7 => ?_) (fun c7 => ?_)
              · have hf := if_t c7 hf
                refine lv_iconst (v := 1) hx hb dX12_isSignOf_48 rfl ?_
                refine lv_goto (tgt := 53) hx hb dX12_isSignOf_49 (by decide) ?_
                cases hf
                exact x_retZ C hP hS hW isZ_1 dX12_isSignOf_53
              · have hf := if_f c7 hf
                refine lv_iload_n hx hb dX12_isSignOf_42 rfl (lv_at hl 0 rfl) ?_
                refine lv_bipush (v := 42) hx hb dX12_isSignOf_43 kc_bipush_42 ?_
                refine lv_icmp_ne (tgt := 52) hx hb dX12_isSignOf_45 (by decide) (fun c8 => ?_) (fun c8 => ?_)
                · have hf := if_f c8 hf
                  refine lv_iconst (v := 0) hx hb dX12_isSignOf_52 rfl ?_
                  cases hf
                  exact x_retZ C hP hS hW isZ_0 dX12_isSignOf_53
                · have hf := if_t c8 hf
                  refine lv_iconst (v := 1) hx hb dX12_isSignOf_48 rfl ?_
                  refine lv_goto (tgt := 53) hx hb dX12_isSignOf_49 (by decide) ?_
                  cases hf
                  exact x_retZ C hP hS hW isZ_1 dX12_isSignOf_53
