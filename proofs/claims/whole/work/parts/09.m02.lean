def s_X1_empty (a : Nat) (S : HS) : HS :=
  bnd (uI S 109 a 0) fun S1 =>
  bnd (uI S1 110 a 0) fun S2 =>
  bnd (uI S2 111 a 0) fun S3 =>
  S3
set_option maxRecDepth 100000 in
set_option maxHeartbeats 4000000 in
theorem c_X1_empty {l : Launch} {V : EV} {G : GS} {S : HS} {a : Nat} {S' : HS} (hN : G.1.Nodup) (hW : WT G S) (h_a : a ∈ G.1) (k_a : G.2.1 a = 1) (hf : s_X1_empty a S = S') : MetV l yX1_empty cX1_empty 1 0 0 V G S [.ref a] S' := by
  intro sz
  refine x_in RX1 rfl (by decide +kernel) hN (Nat.le_of_ble_eq_true rfl) (fun p e s m args below meth c ls hsz hargs hnm C hP hS hl => ?_)
  subst hsz
  have hx := C.1
  have hb := C.2.1
  have hl : lv_has ls 1 [(0, .ref a)] := hl
  unfold s_X1_empty at hf
  refine lv_aload_n hx hb dX1_empty_0 rfl (lv_at hl 0 rfl) ?_
  refine lv_iconst (v := 0) hx hb dX1_empty_1 rfl ?_
  obtain ⟨S1, eS1, hf⟩ := bnd_e hf
  refine pf_X1_40 C hP hS h_a k_a eS1 dX1_empty_2 (fun H locs hP hS => ?_)
  have hW : WT G S1 := by rw [eS1]; exact hW
  refine lv_aload_n hx hb dX1_empty_5 rfl (lv_at hl 0 rfl) ?_
  refine lv_iconst (v := 0) hx hb dX1_empty_6 rfl ?_
  obtain ⟨S2, eS2, hf⟩ := bnd_e hf
  refine pf_X1_44 C hP hS h_a k_a eS2 dX1_empty_7 (fun H locs hP hS => ?_)
  have hW : WT G S2 := by rw [eS2]; exact hW
  refine lv_aload_n hx hb dX1_empty_10 rfl (lv_at hl 0 rfl) ?_
  refine lv_iconst (v := 0) hx hb dX1_empty_11 rfl ?_
  obtain ⟨S3, eS3, hf⟩ := bnd_e hf
  refine pf_X1_47 C hP hS h_a k_a eS3 dX1_empty_12 (fun H locs hP hS => ?_)
  have hW : WT G S3 := by rw [eS3]; exact hW
  cases hf
  exact x_retv C hP hS hW dX1_empty_15
def s_X1_find_J109 (N : Nat → Nat) (F : Nat) (k19 : Nat → Int32 → Int32 → Int32 → Int32 → Int32 → Int32 → HS → Option Int32) (v0 : Nat) (v1 : Int32) (v2 : Int32) (v5 : Int32) (v6 : Int32) (v7 : Int32) (v8 : Int32) (S : HS) : Option Int32 :=
  bnd (v8 + Int32.ofInt 1 : Int32) fun x9 =>
  k19 v0 v1 v2 v5 v6 v7 x9 S
def s_X1_find_J63 (N : Nat → Nat) (F : Nat) (k19 : Nat → Int32 → Int32 → Int32 → Int32 → Int32 → Int32 → HS → Option Int32) (v0 : Nat) (v1 : Int32) (v2 : Int32) (v5 : Int32) (v6 : Int32) (v7 : Int32) (v8 : Int32) (w0 : Int32) (S : HS) : Option Int32 :=
  if w0 = (0 : Int32) then
  s_X1_find_J109 N F k19 v0 v1 v2 v5 v6 v7 v8 S
  else
  bd1 (gR S 104 v0) fun t10 =>
  if inB v8 (N t10) = true then
  if (aI S t10 v8.toNatClampNeg) = v5 then
  bd1 (gR S 102 v0) fun t13 =>
  if inB v8 (N t13) = true then
  if (aI S t13 v8.toNatClampNeg) = v6 then
  bd1 (gR S 103 v0) fun t16 =>
  if inB v8 (N t16) = true then
  if (aI S t16 v8.toNatClampNeg) = v7 then
  some v8
  else
  s_X1_find_J109 N F k19 v0 v1 v2 v5 v6 v7 v8 S
  else none
  else
  s_X1_find_J109 N F k19 v0 v1 v2 v5 v6 v7 v8 S
  else none
  else
  s_X1_find_J109 N F k19 v0 v1 v2 v5 v6 v7 v8 S
  else none
def s_X1_find_L19 (N : Nat → Nat) (F : Nat) : Nat → Nat → Int32 → Int32 → Int32 → Int32 → Int32 → Int32 → HS → Option Int32
  | 0, _, _, _, _, _, _, _, _ => none
  | n + 1, v0, v1, v2, v5, v6, v7, v8, S => if (gI S 109 v0) ≤ v8 then
  some (-1)
  else
  if (512 : Int32) ≤ v8 then
  some (-1)
  else
  bd1 (gR S 100 v0) fun t5 =>
  if inB v8 (N t5) = true then
  if (aI S t5 v8.toNatClampNeg) = v1 then
  bd1 (gR S 101 v0) fun t19 =>
  if inB v8 (N t19) = true then
  if (aI S t19 v8.toNatClampNeg) = v2 then
  s_X1_find_J63 N F (s_X1_find_L19 N F n) v0 v1 v2 v5 v6 v7 v8 1 S
  else
  s_X1_find_J63 N F (s_X1_find_L19 N F n) v0 v1 v2 v5 v6 v7 v8 0 S
  else none
  else
  s_X1_find_J63 N F (s_X1_find_L19 N F n) v0 v1 v2 v5 v6 v7 v8 0 S
  else none
def s_X1_find (N : Nat → Nat) (F : Nat) (a : Nat) (p0 : Int32) (p1 : Int32) (p2 : Int32) (p3 : Int32) (p4 : Int32) (S : HS) : Option Int32 :=
  bnd (if p3 < p2 then p3 else p2 : Int32) fun x1 =>
  bnd (if p2 < p3 then p3 else p2 : Int32) fun x2 =>
  s_X1_find_L19 N F F a p0 p1 p4 x1 x2 0 S
set_option maxRecDepth 100000 in
set_option maxHeartbeats 4000000 in
theorem b_X1_find_109 {p : Program} {l : Launch} {e : Env} {s : State} {m : MethodId} {args : Array Value} {below : List Frame} {meth : Method} {c : Code} {V : EV} {G : GS} {r : Int32} {F : Nat} (C : CX p s m args meth c RX1 cX1_find 10 (some .int) V G) {k19 : Nat → Int32 → Int32 → Int32 → Int32 → Int32 → Int32 → HS → Option Int32} (hk19 : ∀ (v0 : Nat) (v1 : Int32) (v2 : Int32) (v5 : Int32) (v6 : Int32) (v7 : Int32) (v8 : Int32) (h_v0 : v0 ∈ G.1) (k_v0 : G.2.1 v0 = 1) (S : HS) (H : Heap) (locs : List Loc) (ls : Array Slot), k19 v0 v1 v2 v5 v6 v7 v8 S = some r → HP V G S H → va_S (AG G s.heap.size) s.heap H locs → WT G S → lv_has ls 10 [(0, .ref v0), (1, .int v1), (2, .int v2), (5, .int v5), (6, .int v6), (7, .int v7), (8, .int v8)] → W p l e (RM 1 29) s m args below meth c H locs 0 0 (MQ below (QI V G S r s.heap.size) args s 0 0 (AG G s.heap.size)) (F0 m 19 ls [])) : ∀ (v0 : Nat) (v1 : Int32) (v2 : Int32) (v5 : Int32) (v6 : Int32) (v7 : Int32) (v8 : Int32) (h_v0 : v0 ∈ G.1) (k_v0 : G.2.1 v0 = 1) (S : HS) (H : Heap) (locs : List Loc) (ls : Array Slot), s_X1_find_J109 G.2.2 F k19 v0 v1 v2 v5 v6 v7 v8 S = some r → HP V G S H → va_S (AG G s.heap.size) s.heap H locs → WT G S → lv_has ls 10 [(0, .ref v0), (1, .int v1), (2, .int v2), (5, .int v5), (6, .int v6), (7, .int v7), (8, .int v8)] → W p l e (RM 1 29) s m args below meth c H locs 0 0 (MQ below (QI V G S r s.heap.size) args s 0 0 (AG G s.heap.size)) (F0 m 109 ls []) := by
  intro v0 v1 v2 v5 v6 v7 v8 h_v0 k_v0 S H locs ls hf hP hS hW hl
  have hx := C.1
  have hb := C.2.1
  unfold s_X1_find_J109 at hf
  obtain ⟨x9, ex9, hf⟩ := bnd_e hf
  refine lv_iinc (v := x9) (lv' := [(8, .int x9), (0, .ref v0), (1, .int v1), (2, .int v2), (5, .int v5), (6, .int v6), (7, .int v7)]) hx hb dX1_find_109 hl (k := 6) rfl ex9.symm (by decide) rfl (fun ls hl => ?_)
  refine lv_goto (tgt := 19) hx hb dX1_find_112 (by decide) ?_
  exact hk19 v0 v1 v2 v5 v6 v7 x9 h_v0 k_v0 S H locs _ hf hP hS hW (lv_sub hl [1, 2, 3, 4, 5, 6, 0] rfl)
set_option maxRecDepth 100000 in
set_option maxHeartbeats 4000000 in
theorem b_X1_find_63 {p : Program} {l : Launch} {e : Env} {s : State} {m : MethodId} {args : Array Value} {below : List Frame} {meth : Method} {c : Code} {V : EV} {G : GS} {r : Int32} {F : Nat} (C : CX p s m args meth c RX1 cX1_find 10 (some .int) V G) {k19 : Nat → Int32 → Int32 → Int32 → Int32 → Int32 → Int32 → HS → Option Int32} (hk19 : ∀ (v0 : Nat) (v1 : Int32) (v2 : Int32) (v5 : Int32) (v6 : Int32) (v7 : Int32) (v8 : Int32) (h_v0 : v0 ∈ G.1) (k_v0 : G.2.1 v0 = 1) (S : HS) (H : Heap) (locs : List Loc) (ls : Array Slot), k19 v0 v1 v2 v5 v6 v7 v8 S = some r → HP V G S H → va_S (AG G s.heap.size) s.heap H locs → WT G S → lv_has ls 10 [(0, .ref v0), (1, .int v1), (2, .int v2), (5, .int v5), (6, .int v6), (7, .int v7), (8, .int v8)] → W p l e (RM 1 29) s m args below meth c H locs 0 0 (MQ below (QI V G S r s.heap.size) args s 0 0 (AG G s.heap.size)) (F0 m 19 ls [])) : ∀ (v0 : Nat) (v1 : Int32) (v2 : Int32) (v5 : Int32) (v6 : Int32) (v7 : Int32) (v8 : Int32) (w0 : Int32) (h_v0 : v0 ∈ G.1) (k_v0 : G.2.1 v0 = 1) (S : HS) (H : Heap) (locs : List Loc) (ls : Array Slot), s_X1_find_J63 G.2.2 F k19 v0 v1 v2 v5 v6 v7 v8 w0 S = some r → HP V G S H → va_S (AG G s.heap.size) s.heap H locs → WT G S → lv_has ls 10 [(0, .ref v0), (1, .int v1), (2, .int v2), (5, .int v5), (6, .int v6), (7, .int v7), (8, .int v8)] → W p l e (RM 1 29) s m args below meth c H locs 0 0 (MQ below (QI V G S r s.heap.size) args s 0 0 (AG G s.heap.size)) (F0 m 63 ls [.int w0]) := by
  intro v0 v1 v2 v5 v6 v7 v8 w0 h_v0 k_v0 S H locs ls hf hP hS hW hl
  have hx := C.1
  have hb := C.2.1
  unfold s_X1_find_J63 at hf
  refine lv_istore (lv' := [(9, .int w0), (0, .ref v0), (1, .int v1), (2, .int v2), (5, .int v5), (6, .int v6), (7, .int v7), (8, .int v8)]) hx hb dX1_find_63 hl (by decide) rfl (fun ls hl => ?_)
  refine lv_iload hx hb dX1_find_65 (lv_at hl 0 rfl) ?_
  refine lv_if_eq (tgt := 109) hx hb dX1_find_67 (by decide) (fun c8 => ?_) (fun c8 => ?_)
  · have hf := if_t c8 hf
    exact b_X1_find_109 C hk19 v0 v1 v2 v5 v6 v7 v8 h_v0 k_v0 S H locs _ hf hP hS hW (lv_sub hl [1, 2, 3, 4, 5, 6, 7] rfl)
  · have hf := if_f c8 hf
    refine lv_aload_n hx hb dX1_find_70 rfl (lv_at hl 1 rfl) ?_
    refine gf_X1_24 C hP h_v0 k_v0 dX1_find_71 ?_
    obtain ⟨t10, et10, hf⟩ := bd1_e hf
    obtain ⟨h_t10, k_t10⟩ := wt_r hW h_v0 k_v0 (by decide) et10
    have k_t10 : G.2.1 t10 = 14 := k_t10
    rw [et10]
    refine lv_iload hx hb dX1_find_74 (lv_at hl 7 rfl) ?_
    obtain ⟨h11, hf⟩ := if_s hf
    refine x_iald C hP h_t10 k_t10 h11 dX1_find_76 ?_
    refine lv_iload hx hb dX1_find_77 (lv_at hl 4 rfl) ?_
    refine lv_icmp_ne (tgt := 109) hx hb dX1_find_79 (by decide) (fun c12 => ?_) (fun c12 => ?_)
    · have hf := if_f c12 hf
      exact b_X1_find_109 C hk19 v0 v1 v2 v5 v6 v7 v8 h_v0 k_v0 S H locs _ hf hP hS hW (lv_sub hl [1, 2, 3, 4, 5, 6, 7] rfl)
    · have hf := if_t c12 hf
      refine lv_aload_n hx hb dX1_find_82 rfl (lv_at hl 1 rfl) ?_
      refine gf_X1_18 C hP h_v0 k_v0 dX1_find_83 ?_
      obtain ⟨t13, et13, hf⟩ := bd1_e hf
      obtain ⟨h_t13, k_t13⟩ := wt_r hW h_v0 k_v0 (by decide) et13
      have k_t13 : G.2.1 t13 = 14 := k_t13
      rw [et13]
      refine lv_iload hx hb dX1_find_86 (lv_at hl 7 rfl) ?_
      obtain ⟨h14, hf⟩ := if_s hf
      refine x_iald C hP h_t13 k_t13 h14 dX1_find_88 ?_
      refine lv_iload hx hb dX1_find_89 (lv_at hl 5 rfl) ?_
      refine lv_icmp_ne (tgt := 109) hx hb dX1_find_91 (by decide) (fun c15 => ?_) (fun c15 => ?_)
      · have hf := if_f c15 hf
        exact b_X1_find_109 C hk19 v0 v1 v2 v5 v6 v7 v8 h_v0 k_v0 S H locs _ hf hP hS hW (lv_sub hl [1, 2, 3, 4, 5, 6, 7] rfl)
      · have hf := if_t c15 hf
        refine lv_aload_n hx hb dX1_find_94 rfl (lv_at hl 1 rfl) ?_
        refine gf_X1_21 C hP h_v0 k_v0 dX1_find_95 ?_
        obtain ⟨t16, et16, hf⟩ := bd1_e hf
        obtain ⟨h_t16, k_t16⟩ := wt_r hW h_v0 k_v0 (by decide) et16
        have k_t16 : G.2.1 t16 = 14 := k_t16
        rw [et16]
        refine lv_iload hx hb dX1_find_98 (lv_at hl 7 rfl) ?_
        obtain ⟨h17, hf⟩ := if_s hf
        refine x_iald C hP h_t16 k_t16 h17 dX1_find_100 ?_
        refine lv_iload hx hb dX1_find_101 (lv_at hl 6 rfl) ?_
        refine lv_icmp_ne (tgt := 109) hx hb dX1_find_103 (by decide) (fun c18 => ?_) (fun c18 => ?_)
        · have hf := if_f c18 hf
          exact b_X1_find_109 C hk19 v0 v1 v2 v5 v6 v7 v8 h_v0 k_v0 S H locs _ hf hP hS hW (lv_sub hl [1, 2, 3, 4, 5, 6, 7] rfl)
        · have hf := if_t c18 hf
          refine lv_iload hx hb dX1_find_106 (lv_at hl 7 rfl) ?_
          cases hf
          exact x_reti C hP hS hW dX1_find_108
set_option maxRecDepth 100000 in
set_option maxHeartbeats 4000000 in
theorem b_X1_find_19 {p : Program} {l : Launch} {e : Env} {s : State} {m : MethodId} {args : Array Value} {below : List Frame} {meth : Method} {c : Code} {V : EV} {G : GS} {r : Int32} {F : Nat} (C : CX p s m args meth c RX1 cX1_find 10 (some .int) V G) : ∀ n : Nat, ∀ (v0 : Nat) (v1 : Int32) (v2 : Int32) (v5 : Int32) (v6 : Int32) (v7 : Int32) (v8 : Int32) (h_v0 : v0 ∈ G.1) (k_v0 : G.2.1 v0 = 1) (S : HS) (H : Heap) (locs : List Loc) (ls : Array Slot), s_X1_find_L19 G.2.2 F n v0 v1 v2 v5 v6 v7 v8 S = some r → HP V G S H → va_S (AG G s.heap.size) s.heap H locs → WT G S → lv_has ls 10 [(0, .ref v0), (1, .int v1), (2, .int v2), (5, .int v5), (6, .int v6), (7, .int v7), (8, .int v8)] → W p l e (RM 1 29) s m args below meth c H locs 0 0 (MQ below (QI V G S r s.heap.size) args s 0 0 (AG G s.heap.size)) (F0 m 19 ls []) := by
  intro n
  induction n with
  | zero =>
    intro v0 v1 v2 v5 v6 v7 v8 h_v0 k_v0 S H locs ls hf
    rw [s_X1_find_L19] at hf
    cases hf
  | succ n ih =>
    intro v0 v1 v2 v5 v6 v7 v8 h_v0 k_v0 S H locs ls hf hP hS hW hl
    have hx := C.1
    have hb := C.2.1
    rw [s_X1_find_L19] at hf
    refine lv_iload hx hb dX1_find_19 (lv_at hl 6 rfl) ?_
    refine lv_aload_n hx hb dX1_find_21 rfl (lv_at hl 0 rfl) ?_
    refine gf_X1_40 C hP h_v0 k_v0 dX1_find_22 ?_
    refine lv_icmp_ge (tgt := 115) hx hb dX1_find_25 (by decide) (fun c3 => ?_) (fun c3 => ?_)
    · have hf := if_t c3 hf
      refine lv_iconst (v := (-1)) hx hb dX1_find_115 rfl ?_
      cases hf
      exact x_reti C hP hS hW dX1_find_116
    · have hf := if_f c3 hf
      refine lv_iload hx hb dX1_find_28 (lv_at hl 6 rfl) ?_
      refine lv_sipush (v := 512) hx hb dX1_find_30 kc_sipush_512 ?_
      refine lv_icmp_ge (tgt := 115) hx hb dX1_find_33 (by decide) (fun c4 => ?_) (fun c4 => ?_)
      · have hf := if_t c4 hf
        refine lv_iconst (v := (-1)) hx hb dX1_find_115 rfl ?_
        cases hf
        exact x_reti C hP hS hW dX1_find_116
      · have hf := if_f c4 hf
        refine lv_aload_n hx hb dX1_find_36 rfl (lv_at hl 0 rfl) ?_
        refine gf_X1_9 C hP h_v0 k_v0 dX1_find_37 ?_
        obtain ⟨t5, et5, hf⟩ := bd1_e hf
        obtain ⟨h_t5, k_t5⟩ := wt_r hW h_v0 k_v0 (by decide) et5
        have k_t5 : G.2.1 t5 = 14 := k_t5
        rw [et5]
        refine lv_iload hx hb dX1_find_40 (lv_at hl 6 rfl) ?_
        obtain ⟨h6, hf⟩ := if_s hf
        refine x_iald C hP h_t5 k_t5 h6 dX1_find_42 ?_
        refine lv_iload_n hx hb dX1_find_43 rfl (lv_at hl 1 rfl) ?_
        refine lv_icmp_ne (tgt := 62) hx hb dX1_find_44 (by decide) (fun c7 => ?_) (fun c7 => ?_)
        · have hf := if_f c7 hf
          refine lv_iconst (v := 0) hx hb dX1_find_62 rfl ?_
          exact b_X1_find_63 C ih v0 v1 v2 v5 v6 v7 v8 0 h_v0 k_v0 S H locs _ hf hP hS hW (lv_sub hl [0, 1, 2, 3, 4, 5, 6] rfl)
        · have hf := if_t c7 hf
          refine lv_aload_n hx hb dX1_find_47 rfl (lv_at hl 0 rfl) ?_
          refine gf_X1_15 C hP h_v0 k_v0 dX1_find_48 ?_
          obtain ⟨t19, et19, hf⟩ := bd1_e hf
          obtain ⟨h_t19, k_t19⟩ := wt_r hW h_v0 k_v0 (by decide) et19
          have k_t19 : G.2.1 t19 = 14 := k_t19
          rw [et19]
          refine lv_iload hx hb dX1_find_51 (lv_at hl 6 rfl) ?_
          obtain ⟨h20, hf⟩ := if_s hf
          refine x_iald C hP h_t19 k_t19 h20 dX1_find_53 ?_
          refine lv_iload_n hx hb dX1_find_54 rfl (lv_at hl 2 rfl) ?_
          refine lv_icmp_ne (tgt := 62) hx hb dX1_find_55 (by decide) (fun c21 => ?_) (fun c21 => ?_)
          · have hf := if_f c21 hf
            refine lv_iconst (v := 0) hx hb dX1_find_62 rfl ?_
            exact b_X1_find_63 C ih v0 v1 v2 v5 v6 v7 v8 0 h_v0 k_v0 S H locs _ hf hP hS hW (lv_sub hl [0, 1, 2, 3, 4, 5, 6] rfl)
          · have hf := if_t c21 hf
            refine lv_iconst (v := 1) hx hb dX1_find_58 rfl ?_
            refine lv_goto (tgt := 63) hx hb dX1_find_59 (by decide) ?_
            exact b_X1_find_63 C ih v0 v1 v2 v5 v6 v7 v8 1 h_v0 k_v0 S H locs _ hf hP hS hW (lv_sub hl [0, 1, 2, 3, 4, 5, 6] rfl)
set_option maxRecDepth 100000 in
set_option maxHeartbeats 4000000 in
theorem c_X1_find {l : Launch} {V : EV} {G : GS} {S : HS} {F : Nat} {a : Nat} {p0 : Int32} {p1 : Int32} {p2 : Int32} {p3 : Int32} {p4 : Int32} {r : Int32} (hN : G.1.Nodup) (hW : WT G S) (h_a : a ∈ G.1) (k_a : G.2.1 a = 1) (hf : s_X1_find G.2.2 F a p0 p1 p2 p3 p4 S = some r) : MetI l yX1_find cX1_find 10 .int 1 29 V G S [.ref a, .int p0, .int p1, .int p2, .int p3, .int p4] r S := by
  intro sz
  refine x_in RX1 rfl (by decide +kernel) hN (Nat.le_of_ble_eq_true rfl) (fun p e s m args below meth c ls hsz hargs hnm C hP hS hl => ?_)
  subst hsz
  have hx := C.1
  have hb := C.2.1
  have hl : lv_has ls 10 [(0, .ref a), (1, .int p0), (2, .int p1), (3, .int p2), (4, .int p3), (5, .int p4)] := hl
  unfold s_X1_find at hf
  refine lv_iload_n hx hb dX1_find_0 rfl (lv_at hl 3 rfl) ?_
  refine lv_iload hx hb dX1_find_1 (lv_at hl 4 rfl) ?_
  refine va_mmin hx hb (C.2.2.2.1.trans hl.1.symm) C.2.2.2.2.1 (qmath_X1_50 C) (C.2.2.2.2.2.1 _ ks_J9_min_7cf53) (C.2.2.2.2.2.1 _ km_J9_min_7cf53.2.1) (C.2.2.2.2.2.1 _ km_J9_min_7cf53.1) (Nat.le_of_ble_eq_true rfl) (Nat.le_of_ble_eq_true rfl) (Nat.zero_le _) (Nat.zero_le _) dX1_find_3 ?_
  obtain ⟨x1, ex1, hf⟩ := bnd_e hf
  refine nm_i ex1 ?_
  refine lv_istore (lv' := [(6, .int x1), (0, .ref a), (1, .int p0), (2, .int p1), (3, .int p2), (4, .int p3), (5, .int p4)]) hx hb dX1_find_6 hl (by decide) rfl (fun ls hl => ?_)
  refine lv_iload_n hx hb dX1_find_8 rfl (lv_at hl 4 rfl) ?_
  refine lv_iload hx hb dX1_find_9 (lv_at hl 5 rfl) ?_
  refine va_mmax hx hb (C.2.2.2.1.trans hl.1.symm) C.2.2.2.2.1 (qmath_X1_56 C) (C.2.2.2.2.2.1 _ ks_J9_max_7cf53) (C.2.2.2.2.2.1 _ km_J9_max_7cf53.2.1) (C.2.2.2.2.2.1 _ km_J9_max_7cf53.1) (Nat.le_of_ble_eq_true rfl) (Nat.le_of_ble_eq_true rfl) (Nat.zero_le _) (Nat.zero_le _) dX1_find_11 ?_
  obtain ⟨x2, ex2, hf⟩ := bnd_e hf
  refine nm_i ex2 ?_
  refine lv_istore (lv' := [(7, .int x2), (6, .int x1), (0, .ref a), (1, .int p0), (2, .int p1), (3, .int p2), (4, .int p3), (5, .int p4)]) hx hb dX1_find_14 hl (by decide) rfl (fun ls hl => ?_)
  refine lv_iconst (v := 0) hx hb dX1_find_16 rfl ?_
  refine lv_istore (lv' := [(8, .int 0), (7, .int x2), (6, .int x1), (0, .ref a), (1, .int p0), (2, .int p1), (3, .int p2), (4, .int p3), (5, .int p4)]) hx hb dX1_find_17 hl (by decide) rfl (fun ls hl => ?_)
  exact b_X1_find_19 C F a p0 p1 p4 x1 x2 0 h_a k_a S s.heap [] _ hf hP hS hW (lv_sub hl [3, 4, 5, 8, 2, 1, 0] rfl)
def s_X1_forgetLast (N : Nat → Nat) (a : Nat) (S : HS) : Option HS :=
  if (gI S 110 a) ≤ (0 : Int32) then
  some S
  else
  if (gI S 110 a) ≤ (512 : Int32) then
  bnd (uI S 110 a ((gI S 110 a) - 1)) fun S3 =>
  bd1 (gR S3 108 a) fun t4 =>
  if inB (gI S3 110 a) (N t4) = true then
  bnd (aI S3 t4 (gI S3 110 a).toNatClampNeg : Int32) fun x6 =>
  if x6 < (0 : Int32) then
  some S3
  else
  if x6 < (512 : Int32) then
  bd1 (gR S3 107 a) fun t9 =>
  if inB x6 (N t9) = true then
  if inB x6 (N t9) = true then
  bnd (wI S3 t9 (x6.toNatClampNeg) ((aI S3 t9 x6.toNatClampNeg) - 1)) fun S12 =>
  bd1 (gR S12 107 a) fun t13 =>
  if inB x6 (N t13) = true then
  if (aI S12 t13 x6.toNatClampNeg) = (0 : Int32) then
  bnd (uI S12 109 a ((gI S12 109 a) - 1)) fun S16 =>
  bd1 (gR S16 106 a) fun t17 =>
  if inB x6 (N t17) = true then
  if (aI S16 t17 x6.toNatClampNeg) = (0 : Int32) then
  some S16
  else
  bnd (uI S16 111 a ((gI S16 111 a) - 1)) fun S20 =>
  some S20
  else none
  else
  some S12
  else none
  else none
  else none
  else
  some S3
  else none
  else
  some S
set_option maxRecDepth 100000 in
set_option maxHeartbeats 4000000 in
theorem c_X1_forgetLast {l : Launch} {V : EV} {G : GS} {S : HS} {a : Nat} {S' : HS} (hN : G.1.Nodup) (hW : WT G S) (h_a : a ∈ G.1) (k_a : G.2.1 a = 1) (hf : s_X1_forgetLast G.2.2 a S = some S') : MetV l yX1_forgetLast cX1_forgetLast 2 0 0 V G S [.ref a] S' := by
  intro sz
  refine x_in RX1 rfl (by decide +kernel) hN (Nat.le_of_ble_eq_true rfl) (fun p e s m args below meth c ls hsz hargs hnm C hP hS hl => ?_)
  subst hsz
  have hx := C.1
  have hb := C.2.1
  have hl : lv_has ls 2 [(0, .ref a)] := hl
  unfold s_X1_forgetLast at hf
  refine lv_aload_n hx hb dX1_forgetLast_0 rfl (lv_at hl 0 rfl) ?_
  refine gf_X1_44 C hP h_a k_a dX1_forgetLast_1 ?_
  refine lv_if_le (tgt := 17) hx hb dX1_forgetLast_4 (by decide) (fun c1 => ?_) (fun c1 => ?_)
  · have hf := if_t c1 hf
    cases hf
    exact x_retv C hP hS hW dX1_forgetLast_17
  · have hf := if_f c1 hf
    refine lv_aload_n hx hb dX1_forgetLast_7 rfl (lv_at hl 0 rfl) ?_
    refine gf_X1_44 C hP h_a k_a dX1_forgetLast_8 ?_
    refine lv_sipush (v := 512) hx hb dX1_forgetLast_11 kc_sipush_512 ?_
    refine lv_icmp_le (tgt := 18) hx hb dX1_forgetLast_14 (by decide) (fun c2 => ?_) (fun c2 => ?_)
    · have hf := if_t c2 hf
      refine lv_aload_n hx hb dX1_forgetLast_18 rfl (lv_at hl 0 rfl) ?_
      refine lv_dup hx hb dX1_forgetLast_19 rfl ?_
      refine gf_X1_44 C hP h_a k_a dX1_forgetLast_20 ?_
      refine lv_iconst (v := 1) hx hb dX1_forgetLast_23 rfl ?_
      refine lv_isub hx hb dX1_forgetLast_24 ?_
      obtain ⟨S3, eS3, hf⟩ := bnd_e hf
      refine pf_X1_44 C hP hS h_a k_a eS3 dX1_forgetLast_25 (fun H locs hP hS => ?_)
      have hW : WT G S3 := by rw [eS3]; exact hW
      refine lv_aload_n hx hb dX1_forgetLast_28 rfl (lv_at hl 0 rfl) ?_
      refine gf_X1_37 C hP h_a k_a dX1_forgetLast_29 ?_
      obtain ⟨t4, et4, hf⟩ := bd1_e hf
      obtain ⟨h_t4, k_t4⟩ := wt_r hW h_a k_a (by decide) et4
      have k_t4 : G.2.1 t4 = 14 := k_t4
      rw [et4]
      refine lv_aload_n hx hb dX1_forgetLast_32 rfl (lv_at hl 0 rfl) ?_
      refine gf_X1_44 C hP h_a k_a dX1_forgetLast_33 ?_
      obtain ⟨h5, hf⟩ := if_s hf
      refine x_iald C hP h_t4 k_t4 h5 dX1_forgetLast_36 ?_
      obtain ⟨x6, ex6, hf⟩ := bnd_e hf
      refine nm_i ex6 ?_
      refine lv_istore_n (lv' := [(1, .int x6), (0, .ref a)]) hx hb dX1_forgetLast_37 rfl hl (by decide) rfl (fun ls hl => ?_)
      refine lv_iload_n hx hb dX1_forgetLast_38 rfl (lv_at hl 0 rfl) ?_
      refine lv_if_lt (tgt := 49) hx hb dX1_forgetLast_39 (by decide) (fun c7 => ?_) (fun c7 => ?_)
      · have hf := if_t c7 hf
        cases hf
        exact x_retv C hP hS hW dX1_forgetLast_49
      · have hf := if_f c7 hf
        refine lv_iload_n hx hb dX1_forgetLast_42 rfl (lv_at hl 0 rfl) ?_
        refine lv_sipush (v := 512) hx hb dX1_forgetLast_43 kc_sipush_512 ?_
        refine lv_icmp_lt (tgt := 50) hx hb dX1_forgetLast_46 (by decide) (fun c8 => ?_) (fun c8 => ?_)
        · have hf := if_t c8 hf
          refine lv_aload_n hx hb dX1_forgetLast_50 rfl (lv_at hl 1 rfl) ?_
          refine gf_X1_34 C hP h_a k_a dX1_forgetLast_51 ?_
          obtain ⟨t9, et9, hf⟩ := bd1_e hf
          obtain ⟨h_t9, k_t9⟩ := wt_r hW h_a k_a (by decide) et9
          have k_t9 : G.2.1 t9 = 14 := k_t9
          rw [et9]
          refine lv_iload_n hx hb dX1_forgetLast_54 rfl (lv_at hl 0 rfl) ?_
          refine lv_dup2_11 hx hb dX1_forgetLast_55 rfl rfl ?_
          obtain ⟨h10, hf⟩ := if_s hf
          refine x_iald C hP h_t9 k_t9 h10 dX1_forgetLast_56 ?_
          refine lv_iconst (v := 1) hx hb dX1_forgetLast_57 rfl ?_
          refine lv_isub hx hb dX1_forgetLast_58 ?_
          obtain ⟨h11, hf⟩ := if_s hf
          obtain ⟨S12, eS12, hf⟩ := bnd_e hf
          refine x_iast C hP hS h_t9 k_t9 h11 eS12 dX1_forgetLast_59 (fun H locs hP hS => ?_)
          have hW : WT G S12 := by rw [eS12]; exact hW
          refine lv_aload_n hx hb dX1_forgetLast_60 rfl (lv_at hl 1 rfl) ?_
          refine gf_X1_34 C hP h_a k_a dX1_forgetLast_61 ?_
          obtain ⟨t13, et13, hf⟩ := bd1_e hf
          obtain ⟨h_t13, k_t13⟩ := wt_r hW h_a k_a (by decide) et13
          have k_t13 : G.2.1 t13 = 14 := k_t13
          rw [et13]
          refine lv_iload_n hx hb dX1_forgetLast_64 rfl (lv_at hl 0 rfl) ?_
          obtain ⟨h14, hf⟩ := if_s hf
          refine x_iald C hP h_t13 k_t13 h14 dX1_forgetLast_65 ?_
          refine lv_if_ne (tgt := 98) hx hb dX1_forgetLast_66 (by decide) (fun c15 => ?_) (fun c15 => ?_)
          · have hf := if_f c15 hf
            cases hf
            exact x_retv C hP hS hW dX1_forgetLast_98
          · have hf := if_t c15 hf
            refine lv_aload_n hx hb dX1_forgetLast_69 rfl (lv_at hl 1 rfl) ?_
            refine lv_dup hx hb dX1_forgetLast_70 rfl ?_
            refine gf_X1_40 C hP h_a k_a dX1_forgetLast_71 ?_
            refine lv_iconst (v := 1) hx hb dX1_forgetLast_74 rfl ?_
            refine lv_isub hx hb dX1_forgetLast_75 ?_
            obtain ⟨S16, eS16, hf⟩ := bnd_e hf
            refine pf_X1_40 C hP hS h_a k_a eS16 dX1_forgetLast_76 (fun H locs hP hS => ?_)
            have hW : WT G S16 := by rw [eS16]; exact hW
            refine lv_aload_n hx hb dX1_forgetLast_79 rfl (lv_at hl 1 rfl) ?_
            refine gf_X1_30 C hP h_a k_a dX1_forgetLast_80 ?_
            obtain ⟨t17, et17, hf⟩ := bd1_e hf
            obtain ⟨h_t17, k_t17⟩ := wt_r hW h_a k_a (by decide) et17
            have k_t17 : G.2.1 t17 = 16 := k_t17
            rw [et17]
            refine lv_iload_n hx hb dX1_forgetLast_83 rfl (lv_at hl 0 rfl) ?_
            obtain ⟨h18, hf⟩ := if_s hf
            refine x_zald C hP h_t17 k_t17 h18 dX1_forgetLast_84 ?_
            refine lv_if_eq (tgt := 98) hx hb dX1_forgetLast_85 (by decide) (fun c19 => ?_) (fun c19 => ?_)
            · have hf := if_t c19 hf
              cases hf
              exact x_retv C hP hS hW dX1_forgetLast_98
            · have hf := if_f c19 hf
              refine lv_aload_n hx hb dX1_forgetLast_88 rfl (lv_at hl 1 rfl) ?_
              refine lv_dup hx hb dX1_forgetLast_89 rfl ?_
              refine gf_X1_47 C hP h_a k_a dX1_forgetLast_90 ?_
              refine lv_iconst (v := 1) hx hb dX1_forgetLast_93 rfl ?_
              refine lv_isub hx hb dX1_forgetLast_94 ?_
              obtain ⟨S20, eS20, hf⟩ := bnd_e hf
              refine pf_X1_47 C hP hS h_a k_a eS20 dX1_forgetLast_95 (fun H locs hP hS => ?_)
              have hW : WT G S20 := by rw [eS20]; exact hW
              cases hf
              exact x_retv C hP hS hW dX1_forgetLast_98
        · have hf := if_f c8 hf
          cases hf
          exact x_retv C hP hS hW dX1_forgetLast_49
    · have hf := if_f c2 hf
      cases hf
      exact x_retv C hP hS hW dX1_forgetLast_17
def s_X1_noteKey_J32 (N : Nat → Nat) (F : Nat) (k5 : Nat → Int32 → Int32 → Int32 → Int32 → HS → Option HS) (v0 : Nat) (v1 : Int32) (v2 : Int32) (v3 : Int32) (v4 : Int32) (S : HS) : Option HS :=
  bnd (v4 + Int32.ofInt 1 : Int32) fun x6 =>
  k5 v0 v1 v2 v3 x6 S
def s_X1_noteKey_L5 (N : Nat → Nat) (F : Nat) (k38 : Nat → Int32 → Int32 → Int32 → HS → Option HS) : Nat → Nat → Int32 → Int32 → Int32 → Int32 → HS → Option HS
  | 0, _, _, _, _, _, _ => none
  | n + 1, v0, v1, v2, v3, v4, S => if v1 ≤ v4 then
  k38 v0 v1 v2 v3 S
  else
  if (512 : Int32) ≤ v4 then
  k38 v0 v1 v2 v3 S
  else
  bd1 (gR S 105 v0) fun t3 =>
  if inB v4 (N t3) = true then
  if (aI S t3 v4.toNatClampNeg) = v2 then
  s_X1_noteKey_J32 N F (s_X1_noteKey_L5 N F k38 n) v0 v1 v2 0 v4 S
  else
  s_X1_noteKey_J32 N F (s_X1_noteKey_L5 N F k38 n) v0 v1 v2 v3 v4 S
  else none
def s_X1_noteKey_J63 (N : Nat → Nat) (F : Nat) (v0 : Nat) (v3 : Int32) (S : HS) : Option HS :=
  if v3 = (0 : Int32) then
  some S
  else
  bnd (uI S 111 v0 ((gI S 111 v0) + 1)) fun S9 =>
  some S9
def s_X1_noteKey_J38 (N : Nat → Nat) (F : Nat) (v0 : Nat) (v1 : Int32) (v2 : Int32) (v3 : Int32) (S : HS) : Option HS :=
  if v1 < (0 : Int32) then
  s_X1_noteKey_J63 N F v0 v3 S
  else
  if (512 : Int32) ≤ v1 then
  s_X1_noteKey_J63 N F v0 v3 S
  else
  bd1 (gR S 105 v0) fun t11 =>
  if inB v1 (N t11) = true then
  bnd (wI S t11 (v1.toNatClampNeg) v2) fun S13 =>
  bd1 (gR S13 106 v0) fun t14 =>
  if inB v1 (N t14) = true then
  bnd (wI S13 t14 (v1.toNatClampNeg) (vp_nar .boolean v3)) fun S16 =>
  s_X1_noteKey_J63 N F v0 v3 S16
  else none
  else none
def s_X1_noteKey (N : Nat → Nat) (F : Nat) (a : Nat) (p0 : Int32) (p1 : Int32) (S : HS) : Option HS :=
  s_X1_noteKey_L5 N F (s_X1_noteKey_J38 N F) F a p0 p1 1 0 S
set_option maxRecDepth 100000 in
set_option maxHeartbeats 4000000 in
theorem b_X1_noteKey_32 {p : Program} {l : Launch} {e : Env} {s : State} {m : MethodId} {args : Array Value} {below : List Frame} {meth : Method} {c : Code} {V : EV} {G : GS} {S' : HS} {F : Nat} (C : CX p s m args meth c RX1 cX1_noteKey 5 none V G) {k5 : Nat → Int32 → Int32 → Int32 → Int32 → HS → Option HS} (hk5 : ∀ (v0 : Nat) (v1 : Int32) (v2 : Int32) (v3 : Int32) (v4 : Int32) (h_v0 : v0 ∈ G.1) (k_v0 : G.2.1 v0 = 1) (S : HS) (H : Heap) (locs : List Loc) (ls : Array Slot), k5 v0 v1 v2 v3 v4 S = some S' → HP V G S H → va_S (AG G s.heap.size) s.heap H locs → WT G S → lv_has ls 5 [(0, .ref v0), (1, .int v1), (2, .int v2), (3, .int v3), (4, .int v4)] → W p l e (RM 0 0) s m args below meth c H locs 0 0 (MQ below (QV V G S' s.heap.size) args s 0 0 (AG G s.heap.size)) (F0 m 5 ls [])) : ∀ (v0 : Nat) (v1 : Int32) (v2 : Int32) (v3 : Int32) (v4 : Int32) (h_v0 : v0 ∈ G.1) (k_v0 : G.2.1 v0 = 1) (S : HS) (H : Heap) (locs : List Loc) (ls : Array Slot), s_X1_noteKey_J32 G.2.2 F k5 v0 v1 v2 v3 v4 S = some S' → HP V G S H → va_S (AG G s.heap.size) s.heap H locs → WT G S → lv_has ls 5 [(0, .ref v0), (1, .int v1), (2, .int v2), (3, .int v3), (4, .int v4)] → W p l e (RM 0 0) s m args below meth c H locs 0 0 (MQ below (QV V G S' s.heap.size) args s 0 0 (AG G s.heap.size)) (F0 m 32 ls []) := by
  intro v0 v1 v2 v3 v4 h_v0 k_v0 S H locs ls hf hP hS hW hl
  have hx := C.1
  have hb := C.2.1
  unfold s_X1_noteKey_J32 at hf
  obtain ⟨x6, ex6, hf⟩ := bnd_e hf
  refine lv_iinc (v := x6) (lv' := [(4, .int x6), (0, .ref v0), (1, .int v1), (2, .int v2), (3, .int v3)]) hx hb dX1_noteKey_32 hl (k := 4) rfl ex6.symm (by decide) rfl (fun ls hl => ?_)
  refine lv_goto (tgt := 5) hx hb dX1_noteKey_35 (by decide) ?_
  exact hk5 v0 v1 v2 v3 x6 h_v0 k_v0 S H locs _ hf hP hS hW (lv_sub hl [1, 2, 3, 4, 0] rfl)
set_option maxRecDepth 100000 in
set_option maxHeartbeats 4000000 in
theorem b_X1_noteKey_5 {p : Program} {l : Launch} {e : Env} {s : State} {m : MethodId} {args : Array Value} {below : List Frame} {meth : Method} {c : Code} {V : EV} {G : GS} {S' : HS} {F : Nat} (C : CX p s m args meth c RX1 cX1_noteKey 5 none V G) {k38 : Nat → Int32 → Int32 → Int32 → HS → Option HS} (hk38 : ∀ (v0 : Nat) (v1 : Int32) (v2 : Int32) (v3 : Int32) (h_v0 : v0 ∈ G.1) (k_v0 : G.2.1 v0 = 1) (S : HS) (H : Heap) (locs : List Loc) (ls : Array Slot), k38 v0 v1 v2 v3 S = some S' → HP V G S H → va_S (AG G s.heap.size) s.heap H locs → WT G S → lv_has ls 5 [(0, .ref v0), (1, .int v1), (2, .int v2), (3, .int v3)] → W p l e (RM 0 0) s m args below meth c H locs 0 0 (MQ below (QV V G S' s.heap.size) args s 0 0 (AG G s.heap.size)) (F0 m 38 ls [])) : ∀ n : Nat, ∀ (v0 : Nat) (v1 : Int32) (v2 : Int32) (v3 : Int32) (v4 : Int32) (h_v0 : v0 ∈ G.1) (k_v0 : G.2.1 v0 = 1) (S : HS) (H : Heap) (locs : List Loc) (ls : Array Slot), s_X1_noteKey_L5 G.2.2 F k38 n v0 v1 v2 v3 v4 S = some S' → HP V G S H → va_S (AG G s.heap.size) s.heap H locs → WT G S → lv_has ls 5 [(0, .ref v0), (1, .int v1), (2, .int v2), (3, .int v3), (4, .int v4)] → W p l e (RM 0 0) s m args below meth c H locs 0 0 (MQ below (QV V G S' s.heap.size) args s 0 0 (AG G s.heap.size)) (F0 m 5 ls []) := by
  intro n
  induction n with
  | zero =>
    intro v0 v1 v2 v3 v4 h_v0 k_v0 S H locs ls hf
    rw [s_X1_noteKey_L5] at hf
    cases hf
  | succ n ih =>
    intro v0 v1 v2 v3 v4 h_v0 k_v0 S H locs ls hf hP hS hW hl
    have hx := C.1
    have hb := C.2.1
    rw [s_X1_noteKey_L5] at hf
    refine lv_iload hx hb dX1_noteKey_5 (lv_at hl 4 rfl) ?_
    refine lv_iload_n hx hb dX1_noteKey_7 rfl (lv_at hl 1 rfl) ?_
    refine lv_icmp_ge (tgt := 38) hx hb dX1_noteKey_8 (by decide) (fun c1 => ?_) (fun c1 => ?_)
    · have hf := if_t c1 hf
      exact hk38 v0 v1 v2 v3 h_v0 k_v0 S H locs _ hf hP hS hW (lv_sub hl [0, 1, 2, 3] rfl)
    · have hf := if_f c1 hf
      refine lv_iload hx hb dX1_noteKey_11 (lv_at hl 4 rfl) ?_
      refine lv_sipush (v := 512) hx hb dX1_noteKey_13 kc_sipush_512 ?_
      refine lv_icmp_ge (tgt := 38) hx hb dX1_noteKey_16 (by decide) (fun c2 => ?_) (fun c2 => ?_)
      · have hf := if_t c2 hf
        exact hk38 v0 v1 v2 v3 h_v0 k_v0 S H locs _ hf hP hS hW (lv_sub hl [0, 1, 2, 3] rfl)
      · have hf := if_f c2 hf
        refine lv_aload_n hx hb dX1_noteKey_19 rfl (lv_at hl 0 rfl) ?_
        refine gf_X1_27 C hP h_v0 k_v0 dX1_noteKey_20 ?_
        obtain ⟨t3, et3, hf⟩ := bd1_e hf
        obtain ⟨h_t3, k_t3⟩ := wt_r hW h_v0 k_v0 (by decide) et3
        have k_t3 : G.2.1 t3 = 14 := k_t3
        rw [et3]
        refine lv_iload hx hb dX1_noteKey_23 (lv_at hl 4 rfl) ?_
        obtain ⟨h4, hf⟩ := if_s hf
        refine x_iald C hP h_t3 k_t3 h4 dX1_noteKey_25 ?_
        refine lv_iload_n hx hb dX1_noteKey_26 rfl (lv_at hl 2 rfl) ?_
        refine lv_icmp_ne (tgt := 32) hx hb dX1_noteKey_27 (by decide) (fun c5 => ?_) (fun c5 => ?_)
        · have hf := if_f c5 hf
          exact b_X1_noteKey_32 C ih v0 v1 v2 v3 v4 h_v0 k_v0 S H locs _ hf hP hS hW (lv_sub hl [0, 1, 2, 3, 4] rfl)
        · have hf := if_t c5 hf
          refine lv_iconst (v := 0) hx hb dX1_noteKey_30 rfl ?_
          refine lv_istore_n (lv' := [(3, .int 0), (0, .ref v0), (1, .int v1), (2, .int v2), (4, .int v4)]) hx hb dX1_noteKey_31 rfl hl (by decide) rfl (fun ls hl => ?_)
          exact b_X1_noteKey_32 C ih v0 v1 v2 0 v4 h_v0 k_v0 S H locs _ hf hP hS hW (lv_sub hl [1, 2, 3, 0, 4] rfl)
set_option maxRecDepth 100000 in
set_option maxHeartbeats 4000000 in
theorem b_X1_noteKey_63 {p : Program} {l : Launch} {e : Env} {s : State} {m : MethodId} {args : Array Value} {below : List Frame} {meth : Method} {c : Code} {V : EV} {G : GS} {S' : HS} {F : Nat} (C : CX p s m args meth c RX1 cX1_noteKey 5 none V G) : ∀ (v0 : Nat) (v3 : Int32) (h_v0 : v0 ∈ G.1) (k_v0 : G.2.1 v0 = 1) (S : HS) (H : Heap) (locs : List Loc) (ls : Array Slot), s_X1_noteKey_J63 G.2.2 F v0 v3 S = some S' → HP V G S H → va_S (AG G s.heap.size) s.heap H locs → WT G S → lv_has ls 5 [(0, .ref v0), (3, .int v3)] → W p l e (RM 0 0) s m args below meth c H locs 0 0 (MQ below (QV V G S' s.heap.size) args s 0 0 (AG G s.heap.size)) (F0 m 63 ls []) := by
  intro v0 v3 h_v0 k_v0 S H locs ls hf hP hS hW hl
  have hx := C.1
  have hb := C.2.1
  unfold s_X1_noteKey_J63 at hf
  refine lv_iload_n hx hb dX1_noteKey_63 rfl (lv_at hl 1 rfl) ?_
  refine lv_if_eq (tgt := 77) hx hb dX1_noteKey_64 (by decide) (fun c8 => ?_) (fun c8 => ?_)
  · have hf := if_t c8 hf
    cases hf
    exact x_retv C hP hS hW dX1_noteKey_77
  · have hf := if_f c8 hf
    refine lv_aload_n hx hb dX1_noteKey_67 rfl (lv_at hl 0 rfl) ?_
    refine lv_dup hx hb dX1_noteKey_68 rfl ?_
    refine gf_X1_47 C hP h_v0 k_v0 dX1_noteKey_69 ?_
    refine lv_iconst (v := 1) hx hb dX1_noteKey_72 rfl ?_
    refine lv_iadd hx hb dX1_noteKey_73 ?_
    obtain ⟨S9, eS9, hf⟩ := bnd_e hf
    refine pf_X1_47 C hP hS h_v0 k_v0 eS9 dX1_noteKey_74 (fun H locs hP hS => ?_)
    have hW : WT G S9 := by rw [eS9]; exact hW
    cases hf
    exact x_retv C hP hS hW dX1_noteKey_77
set_option maxRecDepth 100000 in
set_option maxHeartbeats 4000000 in
theorem b_X1_noteKey_38 {p : Program} {l : Launch} {e : Env} {s : State} {m : MethodId} {args : Array Value} {below : List Frame} {meth : Method} {c : Code} {V : EV} {G : GS} {S' : HS} {F : Nat} (C : CX p s m args meth c RX1 cX1_noteKey 5 none V G) : ∀ (v0 : Nat) (v1 : Int32) (v2 : Int32) (v3 : Int32) (h_v0 : v0 ∈ G.1) (k_v0 : G.2.1 v0 = 1) (S : HS) (H : Heap) (locs : List Loc) (ls : Array Slot), s_X1_noteKey_J38 G.2.2 F v0 v1 v2 v3 S = some S' → HP V G S H → va_S (AG G s.heap.size) s.heap H locs → WT G S → lv_has ls 5 [(0, .ref v0), (1, .int v1), (2, .int v2), (3, .int v3)] → W p l e (RM 0 0) s m args below meth c H locs 0 0 (MQ below (QV V G S' s.heap.size) args s 0 0 (AG G s.heap.size)) (F0 m 38 ls []) := by
  intro v0 v1 v2 v3 h_v0 k_v0 S H locs ls hf hP hS hW hl
  have hx := C.1
  have hb := C.2.1
  unfold s_X1_noteKey_J38 at hf
  refine lv_iload_n hx hb dX1_noteKey_38 rfl (lv_at hl 1 rfl) ?_
  refine lv_if_lt (tgt := 63) hx hb dX1_noteKey_39 (by decide) (fun c7 => ?_) (fun c7 => ?_)
  · have hf := if_t c7 hf
    exact b_X1_noteKey_63 C v0 v3 h_v0 k_v0 S H locs _ hf hP hS hW (lv_sub hl [0, 3] rfl)
  · have hf := if_f c7 hf
    refine lv_iload_n hx hb dX1_noteKey_42 rfl (lv_at hl 1 rfl) ?_
    refine lv_sipush (v := 512) hx hb dX1_noteKey_43 kc_sipush_512 ?_
    refine lv_icmp_ge (tgt := 63) hx hb dX1_noteKey_46 (by decide) (fun c10 => ?_) (fun c10 => ?_)
    · have hf := if_t c10 hf
      exact b_X1_noteKey_63 C v0 v3 h_v0 k_v0 S H locs _ hf hP hS hW (lv_sub hl [0, 3] rfl)
    · have hf := if_f c10 hf
      refine lv_aload_n hx hb dX1_noteKey_49 rfl (lv_at hl 0 rfl) ?_
      refine gf_X1_27 C hP h_v0 k_v0 dX1_noteKey_50 ?_
      obtain ⟨t11, et11, hf⟩ := bd1_e hf
      obtain ⟨h_t11, k_t11⟩ := wt_r hW h_v0 k_v0 (by decide) et11
      have k_t11 : G.2.1 t11 = 14 := k_t11
      rw [et11]
      refine lv_iload_n hx hb dX1_noteKey_53 rfl (lv_at hl 1 rfl) ?_
      refine lv_iload_n hx hb dX1_noteKey_54 rfl (lv_at hl 2 rfl) ?_
      obtain ⟨h12, hf⟩ := if_s hf
      obtain ⟨S13, eS13, hf⟩ := bnd_e hf
      refine x_iast C hP hS h_t11 k_t11 h12 eS13 dX1_noteKey_55 (fun H locs hP hS => ?_)
      have hW : WT G S13 := by rw [eS13]; exact hW
      refine lv_aload_n hx hb dX1_noteKey_56 rfl (lv_at hl 0 rfl) ?_
      refine gf_X1_30 C hP h_v0 k_v0 dX1_noteKey_57 ?_
      obtain ⟨t14, et14, hf⟩ := bd1_e hf
      obtain ⟨h_t14, k_t14⟩ := wt_r hW h_v0 k_v0 (by decide) et14
      have k_t14 : G.2.1 t14 = 16 := k_t14
      rw [et14]
      refine lv_iload_n hx hb dX1_noteKey_60 rfl (lv_at hl 1 rfl) ?_
      refine lv_iload_n hx hb dX1_noteKey_61 rfl (lv_at hl 3 rfl) ?_
      obtain ⟨h15, hf⟩ := if_s hf
      obtain ⟨S16, eS16, hf⟩ := bnd_e hf
      refine x_zast C hP hS h_t14 k_t14 h15 eS16 dX1_noteKey_62 (fun H locs hP hS => ?_)
      have hW : WT G S16 := by rw [eS16]; exact hW
      exact b_X1_noteKey_63 C v0 v3 h_v0 k_v0 S16 H locs _ hf hP hS hW (lv_sub hl [0, 3] rfl)
set_option maxRecDepth 100000 in
set_option maxHeartbeats 4000000 in
theorem c_X1_noteKey {l : Launch} {V : EV} {G : GS} {S : HS} {F : Nat} {a : Nat} {p0 : Int32} {p1 : Int32} {S' : HS} (hN : G.1.Nodup) (hW : WT G S) (h_a : a ∈ G.1) (k_a : G.2.1 a = 1) (hf : s_X1_noteKey G.2.2 F a p0 p1 S = some S') : MetV l yX1_noteKey cX1_noteKey 5 0 0 V G S [.ref a, .int p0, .int p1] S' := by
  intro sz
  refine x_in RX1 rfl (by decide +kernel) hN (Nat.le_of_ble_eq_true rfl) (fun p e s m args below meth c ls hsz hargs hnm C hP hS hl => ?_)
  subst hsz
  have hx := C.1
  have hb := C.2.1
  have hl : lv_has ls 5 [(0, .ref a), (1, .int p0), (2, .int p1)] := hl
  unfold s_X1_noteKey at hf
  refine lv_iconst (v := 1) hx hb dX1_noteKey_0 rfl ?_
  refine lv_istore_n (lv' := [(3, .int 1), (0, .ref a), (1, .int p0), (2, .int p1)]) hx hb dX1_noteKey_1 rfl hl (by decide) rfl (fun ls hl => ?_)
  refine lv_iconst (v := 0) hx hb dX1_noteKey_2 rfl ?_
  refine lv_istore (lv' := [(4, .int 0), (3, .int 1), (0, .ref a), (1, .int p0), (2, .int p1)]) hx hb dX1_noteKey_3 hl (by decide) rfl (fun ls hl => ?_)
  exact b_X1_noteKey_5 C (b_X1_noteKey_38 C) F a p0 p1 1 0 h_a k_a S s.heap [] _ hf hP hS hW (lv_sub hl [2, 3, 4, 1, 0] rfl)
def s_X1_note_J137 (N : Nat → Nat) (F : Nat) (v0 : Nat) (v7 : Int32) (S : HS) : Option HS :=
  bd1 (gR S 107 v0) fun t7 =>
  if inB v7 (N t7) = true then
  if inB v7 (N t7) = true then
  bnd (wI S t7 (v7.toNatClampNeg) ((aI S t7 v7.toNatClampNeg) + 1)) fun S10 =>
  bd1 (gR S10 108 v0) fun t11 =>
  if inB (gI S10 110 v0) (N t11) = true then
  bnd (wI S10 t11 ((gI S10 110 v0).toNatClampNeg) v7) fun S13 =>
  bnd (uI S13 110 v0 ((gI S13 110 v0) + 1)) fun S14 =>
  some S14
  else none
  else none
  else none
def s_X1_note (N : Nat → Nat) (F : Nat) (a : Nat) (p0 : Int32) (p1 : Int32) (p2 : Int32) (p3 : Int32) (p4 : Int32) (p5 : Int32) (S : HS) : Option HS :=
  if (512 : Int32) ≤ (gI S 110 a) then
  some S
  else
  if (512 : Int32) ≤ (gI S 109 a) then
  some S
  else
  if (gI S 110 a) < (0 : Int32) then
  some S
  else
  if (0 : Int32) ≤ (gI S 109 a) then
  bd1 (s_X1_find N F a p0 p1 p2 p3 p4 S) fun r5 =>
  if r5 = (-1 : Int32) then
  bnd (gI S 109 a : Int32) fun x15 =>
  bd1 (gR S 100 a) fun t16 =>
  if inB x15 (N t16) = true then
  bnd (wI S t16 (x15.toNatClampNeg) p0) fun S18 =>
  bd1 (gR S18 101 a) fun t19 =>
  if inB x15 (N t19) = true then
  bnd (wI S18 t19 (x15.toNatClampNeg) p1) fun S21 =>
  bd1 (gR S21 102 a) fun t22 =>
  if inB x15 (N t22) = true then
  bnd (wI S21 t22 (x15.toNatClampNeg) (if p3 < p2 then p3 else p2)) fun S24 =>
  bd1 (gR S24 103 a) fun t25 =>
  if inB x15 (N t25) = true then
  bnd (wI S24 t25 (x15.toNatClampNeg) (if p2 < p3 then p3 else p2)) fun S27 =>
  bd1 (gR S27 104 a) fun t28 =>
  if inB x15 (N t28) = true then
  bnd (wI S27 t28 (x15.toNatClampNeg) p4) fun S30 =>
  bd1 (gR S30 107 a) fun t31 =>
  if inB x15 (N t31) = true then
  bnd (wI S30 t31 (x15.toNatClampNeg) 0) fun S33 =>
  bd1 (s_X1_noteKey N F a x15 p5 S33) fun S34 =>
  bnd (uI S34 109 a ((gI S34 109 a) + 1)) fun S35 =>
  s_X1_note_J137 N F a x15 S35
  else none
  else none
  else none
  else none
  else none
  else none
  else
  s_X1_note_J137 N F a r5 S
  else
  some S
set_option maxRecDepth 100000 in
set_option maxHeartbeats 4000000 in
theorem b_X1_note_137 {p : Program} {l : Launch} {e : Env} {s : State} {m : MethodId} {args : Array Value} {below : List Frame} {meth : Method} {c : Code} {V : EV} {G : GS} {S' : HS} {F : Nat} (C : CX p s m args meth c RX1 cX1_note 8 none V G) : ∀ (v0 : Nat) (v7 : Int32) (h_v0 : v0 ∈ G.1) (k_v0 : G.2.1 v0 = 1) (S : HS) (H : Heap) (locs : List Loc) (ls : Array Slot), s_X1_note_J137 G.2.2 F v0 v7 S = some S' → HP V G S H → va_S (AG G s.heap.size) s.heap H locs → WT G S → lv_has ls 8 [(0, .ref v0), (7, .int v7)] → W p l e (RM 2 66) s m args below meth c H locs 0 0 (MQ below (QV V G S' s.heap.size) args s 0 0 (AG G s.heap.size)) (F0 m 137 ls []) := by
  intro v0 v7 h_v0 k_v0 S H locs ls hf hP hS hW hl
  have hx := C.1
  have hb := C.2.1
  unfold s_X1_note_J137 at hf
  refine lv_aload_n hx hb dX1_note_137 rfl (lv_at hl 0 rfl) ?_
  refine gf_X1_34 C hP h_v0 k_v0 dX1_note_138 ?_
  obtain ⟨t7, et7, hf⟩ := bd1_e hf
  obtain ⟨h_t7, k_t7⟩ := wt_r hW h_v0 k_v0 (by decide) et7
  have k_t7 : G.2.1 t7 = 14 := k_t7
  rw [et7]
  refine lv_iload hx hb dX1_note_141 (lv_at hl 1 rfl) ?_
  refine lv_dup2_11 hx hb dX1_note_143 rfl rfl ?_
  obtain ⟨h8, hf⟩ := if_s hf
  refine x_iald C hP h_t7 k_t7 h8 dX1_note_144 ?_
  refine lv_iconst (v := 1) hx hb dX1_note_145 rfl ?_
  refine lv_iadd hx hb dX1_note_146 ?_
  obtain ⟨h9, hf⟩ := if_s hf
  obtain ⟨S10, eS10, hf⟩ := bnd_e hf
  refine x_iast C hP hS h_t7 k_t7 h9 eS10 dX1_note_147 (fun H locs hP hS => ?_)
  have hW : WT G S10 := by rw [eS10]; exact hW
  refine lv_aload_n hx hb dX1_note_148 rfl (lv_at hl 0 rfl) ?_
  refine gf_X1_37 C hP h_v0 k_v0 dX1_note_149 ?_
  obtain ⟨t11, et11, hf⟩ := bd1_e hf
  obtain ⟨h_t11, k_t11⟩ := wt_r hW h_v0 k_v0 (by decide) et11
  have k_t11 : G.2.1 t11 = 14 := k_t11
  rw [et11]
  refine lv_aload_n hx hb dX1_note_152 rfl (lv_at hl 0 rfl) ?_
  refine gf_X1_44 C hP h_v0 k_v0 dX1_note_153 ?_
  refine lv_iload hx hb dX1_note_156 (lv_at hl 1 rfl) ?_
  obtain ⟨h12, hf⟩ := if_s hf
  obtain ⟨S13, eS13, hf⟩ := bnd_e hf
  refine x_iast C hP hS h_t11 k_t11 h12 eS13 dX1_note_158 (fun H locs hP hS => ?_)
  have hW : WT G S13 := by rw [eS13]; exact hW
  refine lv_aload_n hx hb dX1_note_159 rfl (lv_at hl 0 rfl) ?_
  refine lv_dup hx hb dX1_note_160 rfl ?_
  refine gf_X1_44 C hP h_v0 k_v0 dX1_note_161 ?_
  refine lv_iconst (v := 1) hx hb dX1_note_164 rfl ?_
  refine lv_iadd hx hb dX1_note_165 ?_
  obtain ⟨S14, eS14, hf⟩ := bnd_e hf
  refine pf_X1_44 C hP hS h_v0 k_v0 eS14 dX1_note_166 (fun H locs hP hS => ?_)
  have hW : WT G S14 := by rw [eS14]; exact hW
  cases hf
  exact x_retv C hP hS hW dX1_note_169
set_option maxRecDepth 100000 in
set_option maxHeartbeats 4000000 in
theorem c_X1_note {l : Launch} {V : EV} {G : GS} {S : HS} {F : Nat} {a : Nat} {p0 : Int32} {p1 : Int32} {p2 : Int32} {p3 : Int32} {p4 : Int32} {p5 : Int32} {S' : HS} (hN : G.1.Nodup) (hW : WT G S) (h_a : a ∈ G.1) (k_a : G.2.1 a = 1) (hf : s_X1_note G.2.2 F a p0 p1 p2 p3 p4 p5 S = some S') : MetV l yX1_note cX1_note 8 2 66 V G S [.ref a, .int p0, .int p1, .int p2, .int p3, .int p4, .int p5] S' := by
  intro sz
  refine x_in RX1 rfl (by decide +kernel) hN (Nat.le_of_ble_eq_true rfl) (fun p e s m args below meth c ls hsz hargs hnm C hP hS hl => ?_)
  subst hsz
  have hx := C.1
  have hb := C.2.1
  have hl : lv_has ls 8 [(0, .ref a), (1, .int p0), (2, .int p1), (3, .int p2), (4, .int p3), (5, .int p4), (6, .int p5)] := hl
  unfold s_X1_note at hf
  refine lv_aload_n hx hb dX1_note_0 rfl (lv_at hl 0 rfl) ?_
  refine gf_X1_44 C hP h_a k_a dX1_note_1 ?_
  refine lv_sipush (v := 512) hx hb dX1_note_4 kc_sipush_512 ?_
  refine lv_icmp_ge (tgt := 34) hx hb dX1_note_7 (by decide) (fun c1 => ?_) (fun c1 => ?_)
  · have hf := if_t c1 hf
    cases hf
    exact x_retv C hP hS hW dX1_note_34
  · have hf := if_f c1 hf
    refine lv_aload_n hx hb dX1_note_10 rfl (lv_at hl 0 rfl) ?_
    refine gf_X1_40 C hP h_a k_a dX1_note_11 ?_
    refine lv_sipush (v := 512) hx hb dX1_note_14 kc_sipush_512 ?_
    refine lv_icmp_ge (tgt := 34) hx hb dX1_note_17 (by decide) (fun c2 => ?_) (fun c2 => ?_)
    · have hf := if_t c2 hf
      cases hf
      exact x_retv C hP hS hW dX1_note_34
    · have hf := if_f c2 hf
      refine lv_aload_n hx hb dX1_note_20 rfl (lv_at hl 0 rfl) ?_
      refine gf_X1_44 C hP h_a k_a dX1_note_21 ?_
      refine lv_if_lt (tgt := 34) hx hb dX1_note_24 (by decide) (fun c3 => ?_) (fun c3 => ?_)
      · have hf := if_t c3 hf
        cases hf
        exact x_retv C hP hS hW dX1_note_34
      · have hf := if_f c3 hf
        refine lv_aload_n hx hb dX1_note_27 rfl (lv_at hl 0 rfl) ?_
        refine gf_X1_40 C hP h_a k_a dX1_note_28 ?_
        refine lv_if_ge (tgt := 35) hx hb dX1_note_31 (by decide) (fun c4 => ?_) (fun c4 => ?_)
        · have hf := if_t c4 hf
          refine lv_aload_n hx hb dX1_note_35 rfl (lv_at hl 0 rfl) ?_
          refine lv_iload_n hx hb dX1_note_36 rfl (lv_at hl 1 rfl) ?_
          refine lv_iload_n hx hb dX1_note_37 rfl (lv_at hl 2 rfl) ?_
          refine lv_iload_n hx hb dX1_note_38 rfl (lv_at hl 3 rfl) ?_
          refine lv_iload hx hb dX1_note_39 (lv_at hl 4 rfl) ?_
          refine lv_iload hx hb dX1_note_41 (lv_at hl 5 rfl) ?_
          obtain ⟨r5, er5, hf⟩ := bd1_e hf
          refine x_aft_i (x_runV (As := [.int p0, .int p1, .int p2, .int p3, .int p4]) (rest := []) C hP hS (c_X1_find (l := l) C.2.2.2.2.2.2.2.2.2.1 hW h_a k_a er5 s.heap.size) h_a k_a (by decide) rfl rfl km_X1_find ki_X1_find qm_X1_59 ⟨(Nat.le_of_ble_eq_true rfl), (Nat.le_of_ble_eq_true rfl)⟩ rfl hl.1 rfl (Nat.le_of_ble_eq_true rfl) ⟨Nat.zero_le _, Nat.zero_le _⟩ dX1_note_43) hS (fun H locs hP hS hW => ?_)
          refine lv_istore (lv' := [(7, .int r5), (0, .ref a), (1, .int p0), (2, .int p1), (3, .int p2), (4, .int p3), (5, .int p4), (6, .int p5)]) hx hb dX1_note_46 hl (by decide) rfl (fun ls hl => ?_)
          refine lv_iload hx hb dX1_note_48 (lv_at hl 0 rfl) ?_
          refine lv_iconst (v := (-1)) hx hb dX1_note_50 rfl ?_
          refine lv_icmp_ne (tgt := 137) hx hb dX1_note_51 (by decide) (fun c6 => ?_) (fun c6 => ?_)
          · have hf := if_f c6 hf
            exact b_X1_note_137 C a r5 h_a k_a S H locs _ hf hP hS hW (lv_sub hl [1, 0] rfl)
          · have hf := if_t c6 hf
            refine lv_aload_n hx hb dX1_note_54 rfl (lv_at hl 1 rfl) ?_
            refine gf_X1_40 C hP h_a k_a dX1_note_55 ?_
            obtain ⟨x15, ex15, hf⟩ := bnd_e hf
            refine nm_i ex15 ?_
            refine lv_istore (lv' := [(7, .int x15), (0, .ref a), (1, .int p0), (2, .int p1), (3, .int p2), (4, .int p3), (5, .int p4), (6, .int p5)]) hx hb dX1_note_58 hl (by decide) rfl (fun ls hl => ?_)
            refine lv_aload_n hx hb dX1_note_60 rfl (lv_at hl 1 rfl) ?_
            refine gf_X1_9 C hP h_a k_a dX1_note_61 ?_
            obtain ⟨t16, et16, hf⟩ := bd1_e hf
            obtain ⟨h_t16, k_t16⟩ := wt_r hW h_a k_a (by decide) et16
            have k_t16 : G.2.1 t16 = 14 := k_t16
            rw [et16]
            refine lv_iload hx hb dX1_note_64 (lv_at hl 0 rfl) ?_
            refine lv_iload_n hx hb dX1_note_66 rfl (lv_at hl 2 rfl) ?_
            obtain ⟨h17, hf⟩ := if_s hf
            obtain ⟨S18, eS18, hf⟩ := bnd_e hf
            refine x_iast C hP hS h_t16 k_t16 h17 eS18 dX1_note_67 (fun H locs hP hS => ?_)
            have hW : WT G S18 := by rw [eS18]; exact hW
            refine lv_aload_n hx hb dX1_note_68 rfl (lv_at hl 1 rfl) ?_
            refine gf_X1_15 C hP h_a k_a dX1_note_69 ?_
            obtain ⟨t19, et19, hf⟩ := bd1_e hf
            obtain ⟨h_t19, k_t19⟩ := wt_r hW h_a k_a (by decide) et19
            have k_t19 : G.2.1 t19 = 14 := k_t19
            rw [et19]
            refine lv_iload hx hb dX1_note_72 (lv_at hl 0 rfl) ?_
            refine lv_iload_n hx hb dX1_note_74 rfl (lv_at hl 3 rfl) ?_
            obtain ⟨h20, hf⟩ := if_s hf
            obtain ⟨S21, eS21, hf⟩ := bnd_e hf
            refine x_iast C hP hS h_t19 k_t19 h20 eS21 dX1_note_75 (fun H locs hP hS => ?_)
            have hW : WT G S21 := by rw [eS21]; exact hW
            refine lv_aload_n hx hb dX1_note_76 rfl (lv_at hl 1 rfl) ?_
            refine gf_X1_18 C hP h_a k_a dX1_note_77 ?_
            obtain ⟨t22, et22, hf⟩ := bd1_e hf
            obtain ⟨h_t22, k_t22⟩ := wt_r hW h_a k_a (by decide) et22
            have k_t22 : G.2.1 t22 = 14 := k_t22
            rw [et22]
            refine lv_iload hx hb dX1_note_80 (lv_at hl 0 rfl) ?_
            refine lv_iload_n hx hb dX1_note_82 rfl (lv_at hl 4 rfl) ?_
            refine lv_iload hx hb dX1_note_83 (lv_at hl 5 rfl) ?_
            refine va_mmin hx hb (C.2.2.2.1.trans hl.1.symm) C.2.2.2.2.1 (qmath_X1_50 C) (C.2.2.2.2.2.1 _ ks_J9_min_7cf53) (C.2.2.2.2.2.1 _ km_J9_min_7cf53.2.1) (C.2.2.2.2.2.1 _ km_J9_min_7cf53.1) (Nat.le_of_ble_eq_true rfl) (Nat.le_of_ble_eq_true rfl) (Nat.zero_le _) (Nat.zero_le _) dX1_note_85 ?_
            obtain ⟨h23, hf⟩ := if_s hf
            obtain ⟨S24, eS24, hf⟩ := bnd_e hf
            refine x_iast C hP hS h_t22 k_t22 h23 eS24 dX1_note_88 (fun H locs hP hS => ?_)
            have hW : WT G S24 := by rw [eS24]; exact hW
            refine lv_aload_n hx hb dX1_note_89 rfl (lv_at hl 1 rfl) ?_
            refine gf_X1_21 C hP h_a k_a dX1_note_90 ?_
            obtain ⟨t25, et25, hf⟩ := bd1_e hf
            obtain ⟨h_t25, k_t25⟩ := wt_r hW h_a k_a (by decide) et25
            have k_t25 : G.2.1 t25 = 14 := k_t25
            rw [et25]
            refine lv_iload hx hb dX1_note_93 (lv_at hl 0 rfl) ?_
            refine lv_iload_n hx hb dX1_note_95 rfl (lv_at hl 4 rfl) ?_
            refine lv_iload hx hb dX1_note_96 (lv_at hl 5 rfl) ?_
            refine va_mmax hx hb (C.2.2.2.1.trans hl.1.symm) C.2.2.2.2.1 (qmath_X1_56 C) (C.2.2.2.2.2.1 _ ks_J9_max_7cf53) (C.2.2.2.2.2.1 _ km_J9_max_7cf53.2.1) (C.2.2.2.2.2.1 _ km_J9_max_7cf53.1) (Nat.le_of_ble_eq_true rfl) (Nat.le_of_ble_eq_true rfl) (Nat.zero_le _) (Nat.zero_le _) dX1_note_98 ?_
            obtain ⟨h26, hf⟩ := if_s hf
            obtain ⟨S27, eS27, hf⟩ := bnd_e hf
            refine x_iast C hP hS h_t25 k_t25 h26 eS27 dX1_note_101 (fun H locs hP hS => ?_)
            have hW : WT G S27 := by rw [eS27]; exact hW
            refine lv_aload_n hx hb dX1_note_102 rfl (lv_at hl 1 rfl) ?_
            refine gf_X1_24 C hP h_a k_a dX1_note_103 ?_
            obtain ⟨t28, et28, hf⟩ := bd1_e hf
            obtain ⟨h_t28, k_t28⟩ := wt_r hW h_a k_a (by decide) et28
            have k_t28 : G.2.1 t28 = 14 := k_t28
            rw [et28]
            refine lv_iload hx hb dX1_note_106 (lv_at hl 0 rfl) ?_
            refine lv_iload hx hb dX1_note_108 (lv_at hl 6 rfl) ?_
            obtain ⟨h29, hf⟩ := if_s hf
            obtain ⟨S30, eS30, hf⟩ := bnd_e hf
            refine x_iast C hP hS h_t28 k_t28 h29 eS30 dX1_note_110 (fun H locs hP hS => ?_)
            have hW : WT G S30 := by rw [eS30]; exact hW
            refine lv_aload_n hx hb dX1_note_111 rfl (lv_at hl 1 rfl) ?_
            refine gf_X1_34 C hP h_a k_a dX1_note_112 ?_
            obtain ⟨t31, et31, hf⟩ := bd1_e hf
            obtain ⟨h_t31, k_t31⟩ := wt_r hW h_a k_a (by decide) et31
            have k_t31 : G.2.1 t31 = 14 := k_t31
            rw [et31]
            refine lv_iload hx hb dX1_note_115 (lv_at hl 0 rfl) ?_
            refine lv_iconst (v := 0) hx hb dX1_note_117 rfl ?_
            obtain ⟨h32, hf⟩ := if_s hf
            obtain ⟨S33, eS33, hf⟩ := bnd_e hf
            refine x_iast C hP hS h_t31 k_t31 h32 eS33 dX1_note_118 (fun H locs hP hS => ?_)
            have hW : WT G S33 := by rw [eS33]; exact hW
            refine lv_aload_n hx hb dX1_note_119 rfl (lv_at hl 1 rfl) ?_
            refine lv_iload hx hb dX1_note_120 (lv_at hl 0 rfl) ?_
            refine lv_iload hx hb dX1_note_122 (lv_at hl 7 rfl) ?_
            obtain ⟨S34, eS34, hf⟩ := bd1_e hf
            refine x_aft_v (x_runV (As := [.int x15, .int p5]) (rest := []) C hP hS (c_X1_noteKey (l := l) C.2.2.2.2.2.2.2.2.2.1 hW h_a k_a eS34 H.size) h_a k_a (by decide) rfl rfl km_X1_noteKey ki_X1_noteKey qm_X1_63 ⟨(Nat.le_of_ble_eq_true rfl), (Nat.le_of_ble_eq_true rfl)⟩ rfl hl.1 rfl (Nat.le_of_ble_eq_true rfl) ⟨Nat.zero_le _, Nat.zero_le _⟩ dX1_note_124) hS (fun H locs hP hS hW => ?_)
            refine lv_aload_n hx hb dX1_note_127 rfl (lv_at hl 1 rfl) ?_
            refine lv_dup hx hb dX1_note_128 rfl ?_
            refine gf_X1_40 C hP h_a k_a dX1_note_129 ?_
            refine lv_iconst (v := 1) hx hb dX1_note_132 rfl ?_
            refine lv_iadd hx hb dX1_note_133 ?_
            obtain ⟨S35, eS35, hf⟩ := bnd_e hf
            refine pf_X1_40 C hP hS h_a k_a eS35 dX1_note_134 (fun H locs hP hS => ?_)
            have hW : WT G S35 := by rw [eS35]; exact hW
            exact b_X1_note_137 C a x15 h_a k_a S35 H locs _ hf hP hS hW (lv_sub hl [1, 0] rfl)
        · have hf := if_f c4 hf
          cases hf
          exact x_retv C hP hS hW dX1_note_34
def s_X1_oftenAt (N : Nat → Nat) (a : Nat) (p0 : Int32) (S : HS) : Option Int32 :=
  if p0 < (0 : Int32) then
  some (-1)
  else
  if (gI S 109 a) ≤ p0 then
  some (-1)
  else
  if (512 : Int32) ≤ p0 then
  some (-1)
  else
  bd1 (gR S 107 a) fun t4 =>
  if inB p0 (N t4) = true then
  some (aI S t4 p0.toNatClampNeg)
  else none
set_option maxRecDepth 100000 in
set_option maxHeartbeats 4000000 in
theorem c_X1_oftenAt {l : Launch} {V : EV} {G : GS} {S : HS} {a : Nat} {p0 : Int32} {r : Int32} (hN : G.1.Nodup) (hW : WT G S) (h_a : a ∈ G.1) (k_a : G.2.1 a = 1) (hf : s_X1_oftenAt G.2.2 a p0 S = some r) : MetI l yX1_oftenAt cX1_oftenAt 2 .int 0 0 V G S [.ref a, .int p0] r S := by
  intro sz
  refine x_in RX1 rfl (by decide +kernel) hN (Nat.le_of_ble_eq_true rfl) (fun p e s m args below meth c ls hsz hargs hnm C hP hS hl => ?_)
  subst hsz
  have hx := C.1
  have hb := C.2.1
  have hl : lv_has ls 2 [(0, .ref a), (1, .int p0)] := hl
  unfold s_X1_oftenAt at hf
  refine lv_iload_n hx hb dX1_oftenAt_0 rfl (lv_at hl 1 rfl) ?_
  refine lv_if_lt (tgt := 28) hx hb dX1_oftenAt_1 (by decide) (fun c1 => ?_) (fun c1 => ?_)
  · have hf := if_t c1 hf
    refine lv_iconst (v := (-1)) hx hb dX1_oftenAt_28 rfl ?_
    cases hf
    exact x_reti C hP hS hW dX1_oftenAt_29
  · have hf := if_f c1 hf
    refine lv_iload_n hx hb dX1_oftenAt_4 rfl (lv_at hl 1 rfl) ?_
    refine lv_aload_n hx hb dX1_oftenAt_5 rfl (lv_at hl 0 rfl) ?_
    refine gf_X1_40 C hP h_a k_a dX1_oftenAt_6 ?_
    refine lv_icmp_ge (tgt := 28) hx hb dX1_oftenAt_9 (by decide) (fun c2 => ?_) (fun c2 => ?_)
    · have hf := if_t c2 hf
      refine lv_iconst (v := (-1)) hx hb dX1_oftenAt_28 rfl ?_
      cases hf
      exact x_reti C hP hS hW dX1_oftenAt_29
    · have hf := if_f c2 hf
      refine lv_iload_n hx hb dX1_oftenAt_12 rfl (lv_at hl 1 rfl) ?_
      refine lv_sipush (v := 512) hx hb dX1_oftenAt_13 kc_sipush_512 ?_
      refine lv_icmp_ge (tgt := 28) hx hb dX1_oftenAt_16 (by decide) (fun c3 => ?_) (fun c3 => ?_)
      · have hf := if_t c3 hf
        refine lv_iconst (v := (-1)) hx hb dX1_oftenAt_28 rfl ?_
        cases hf
        exact x_reti C hP hS hW dX1_oftenAt_29
      · have hf := if_f c3 hf
        refine lv_aload_n hx hb dX1_oftenAt_19 rfl (lv_at hl 0 rfl) ?_
        refine gf_X1_34 C hP h_a k_a dX1_oftenAt_20 ?_
        obtain ⟨t4, et4, hf⟩ := bd1_e hf
        obtain ⟨h_t4, k_t4⟩ := wt_r hW h_a k_a (by decide) et4
        have k_t4 : G.2.1 t4 = 14 := k_t4
        rw [et4]
        refine lv_iload_n hx hb dX1_oftenAt_23 rfl (lv_at hl 1 rfl) ?_
        obtain ⟨h5, hf⟩ := if_s hf
        refine x_iald C hP h_t4 k_t4 h5 dX1_oftenAt_24 ?_
        refine lv_goto (tgt := 29) hx hb dX1_oftenAt_25 (by decide) ?_
        cases hf
        exact x_reti C hP hS hW dX1_oftenAt_29
def s_X2_isSubnormal (a : Nat) (p0 : Int32) (S : HS) : Int32 :=
  if (s_X2_isNought a p0 S) = (0 : Int32) then
  if (s_X2_exponent a p0 S) = (0 : Int32) then
  1
  else
  0
  else
  0
set_option maxRecDepth 100000 in
set_option maxHeartbeats 4000000 in
theorem c_X2_isSubnormal {l : Launch} {V : EV} {G : GS} {S : HS} {a : Nat} {p0 : Int32} {r : Int32} (hN : G.1.Nodup) (hW : WT G S) (h_a : a ∈ G.1) (k_a : G.2.1 a = 2) (hf : s_X2_isSubnormal a p0 S = r) : MetZ l yX2_isSubnormal cX2_isSubnormal 2 2 58 V G S [.ref a, .int p0] r S := by
  intro sz
  refine x_in RX2 rfl (by decide +kernel) hN (Nat.le_of_ble_eq_true rfl) (fun p e s m args below meth c ls hsz hargs hnm C hP hS hl => ?_)
  subst hsz
  have hx := C.1
  have hb := C.2.1
  have hl : lv_has ls 2 [(0, .ref a), (1, .int p0)] := hl
  unfold s_X2_isSubnormal at hf
  refine lv_aload_n hx hb dX2_isSubnormal_0 rfl (lv_at hl 0 rfl) ?_
  refine lv_iload_n hx hb dX2_isSubnormal_1 rfl (lv_at hl 1 rfl) ?_
  refine x_aft_z (x_runV (As := [.int p0]) (rest := []) C hP hS (c_X2_isNought (l := l) C.2.2.2.2.2.2.2.2.2.1 hW h_a k_a rfl s.heap.size) h_a k_a (by decide) rfl rfl km_X2_isNought ki_X2_isNought qm_X2_40 ⟨(Nat.le_of_ble_eq_true rfl), (Nat.le_of_ble_eq_true rfl)⟩ rfl hl.1 rfl (Nat.le_of_ble_eq_true rfl) ⟨Nat.zero_le _, Nat.zero_le _⟩ dX2_isSubnormal_2) hS (fun H locs hP hS hW z1 => ?_)
  refine lv_if_ne (tgt := 20) hx hb dX2_isSubnormal_5 (by decide) (fun c2 => ?_) (fun c2 => ?_)
  · have hf := if_f c2 hf
    refine lv_iconst (v := 0) hx hb dX2_isSubnormal_20 rfl ?_
    cases hf
    exact x_retZ C hP hS hW isZ_0 dX2_isSubnormal_21
  · have hf := if_t c2 hf
    refine lv_aload_n hx hb dX2_isSubnormal_8 rfl (lv_at hl 0 rfl) ?_
    refine lv_iload_n hx hb dX2_isSubnormal_9 rfl (lv_at hl 1 rfl) ?_
    refine x_aft_i (x_runV (As := [.int p0]) (rest := []) C hP hS (c_X2_exponent (l := l) C.2.2.2.2.2.2.2.2.2.1 hW h_a k_a rfl H.size) h_a k_a (by decide) rfl rfl km_X2_exponent ki_X2_exponent qm_X2_44 ⟨(Nat.le_of_ble_eq_true rfl), (Nat.le_of_ble_eq_true rfl)⟩ rfl hl.1 rfl (Nat.le_of_ble_eq_true rfl) ⟨Nat.zero_le _, Nat.zero_le _⟩ dX2_isSubnormal_10) hS (fun H locs hP hS hW => ?_)
    refine lv_if_ne (tgt := 20) hx hb dX2_isSubnormal_13 (by decide) (fun c3 => ?_) (fun c3 => ?_)
    · have hf := if_f c3 hf
      refine lv_iconst (v := 0) hx hb dX2_isSubnormal_20 rfl ?_
      cases hf
      exact x_retZ C hP hS hW isZ_0 dX2_isSubnormal_21
    · have hf := if_t c3 hf
      refine lv_iconst (v := 1) hx hb dX2_isSubnormal_16 rfl ?_
      refine lv_goto (tgt := 21) hx hb dX2_isSubnormal_17 (by decide) ?_
      cases hf
      exact x_retZ C hP hS hW isZ_1 dX2_isSubnormal_21
def s_X2_classOf (a : Nat) (p0 : Int32) (S : HS) : Int32 :=
  if (s_X2_isNought a p0 S) = (0 : Int32) then
  if (s_X2_isSubnormal a p0 S) = (0 : Int32) then
  if (s_X2_isNan a p0 S) = (0 : Int32) then
  if (s_X2_isInfinite a p0 S) = (0 : Int32) then
  2
  else
  3
  else
  4
  else
  1
  else
  0
set_option maxRecDepth 100000 in
set_option maxHeartbeats 4000000 in
theorem c_X2_classOf {l : Launch} {V : EV} {G : GS} {S : HS} {a : Nat} {p0 : Int32} {r : Int32} (hN : G.1.Nodup) (hW : WT G S) (h_a : a ∈ G.1) (k_a : G.2.1 a = 2) (hf : s_X2_classOf a p0 S = r) : MetI l yX2_classOf cX2_classOf 2 .int 3 87 V G S [.ref a, .int p0] r S := by
  intro sz
  refine x_in RX2 rfl (by decide +kernel) hN (Nat.le_of_ble_eq_true rfl) (fun p e s m args below meth c ls hsz hargs hnm C hP hS hl => ?_)
  subst hsz
  have hx := C.1
  have hb := C.2.1
  have hl : lv_has ls 2 [(0, .ref a), (1, .int p0)] := hl
  unfold s_X2_classOf at hf
  refine lv_aload_n hx hb dX2_classOf_0 rfl (lv_at hl 0 rfl) ?_
  refine lv_iload_n hx hb dX2_classOf_1 rfl (lv_at hl 1 rfl) ?_
  refine x_aft_z (x_runV (As := [.int p0]) (rest := []) C hP hS (c_X2_isNought (l := l) C.2.2.2.2.2.2.2.2.2.1 hW h_a k_a rfl s.heap.size) h_a k_a (by decide) rfl rfl km_X2_isNought ki_X2_isNought qm_X2_40 ⟨(Nat.le_of_ble_eq_true rfl), (Nat.le_of_ble_eq_true rfl)⟩ rfl hl.1 rfl (Nat.le_of_ble_eq_true rfl) ⟨Nat.zero_le _, Nat.zero_le _⟩ dX2_classOf_2) hS (fun H locs hP hS hW z1 => ?_)
  refine lv_if_eq (tgt := 10) hx hb dX2_classOf_5 (by decide) (fun c2 => ?_) (fun c2 => ?_)
  · have hf := if_t c2 hf
    refine lv_aload_n hx hb dX2_classOf_10 rfl (lv_at hl 0 rfl) ?_
    refine lv_iload_n hx hb dX2_classOf_11 rfl (lv_at hl 1 rfl) ?_
    refine x_aft_z (x_runV (As := [.int p0]) (rest := []) C hP hS (c_X2_isSubnormal (l := l) C.2.2.2.2.2.2.2.2.2.1 hW h_a k_a rfl H.size) h_a k_a (by decide) rfl rfl km_X2_isSubnormal ki_X2_isSubnormal qm_X2_47 ⟨(Nat.le_of_ble_eq_true rfl), (Nat.le_of_ble_eq_true rfl)⟩ rfl hl.1 rfl (Nat.le_of_ble_eq_true rfl) ⟨Nat.zero_le _, Nat.zero_le _⟩ dX2_classOf_12) hS (fun H locs hP hS hW z3 => ?_)
    refine lv_if_eq (tgt := 20) hx hb dX2_classOf_15 (by decide) (fun c4 => ?_) (fun c4 => ?_)
    · have hf := if_t c4 hf
      refine lv_aload_n hx hb dX2_classOf_20 rfl (lv_at hl 0 rfl) ?_
      refine lv_iload_n hx hb dX2_classOf_21 rfl (lv_at hl 1 rfl) ?_
      refine x_aft_z (x_runV (As := [.int p0]) (rest := []) C hP hS (c_X2_isNan (l := l) C.2.2.2.2.2.2.2.2.2.1 hW h_a k_a rfl H.size) h_a k_a (by decide) rfl rfl km_X2_isNan ki_X2_isNan qm_X2_50 ⟨(Nat.le_of_ble_eq_true rfl), (Nat.le_of_ble_eq_true rfl)⟩ rfl hl.1 rfl (Nat.le_of_ble_eq_true rfl) ⟨Nat.zero_le _, Nat.zero_le _⟩ dX2_classOf_22) hS (fun H locs hP hS hW z5 => ?_)
      refine lv_if_eq (tgt := 30) hx hb dX2_classOf_25 (by decide) (fun c6 => ?_) (fun c6 => ?_)
      · have hf := if_t c6 hf
        refine lv_aload_n hx hb dX2_classOf_30 rfl (lv_at hl 0 rfl) ?_
        refine lv_iload_n hx hb dX2_classOf_31 rfl (lv_at hl 1 rfl) ?_
        refine x_aft_z (x_runV (As := [.int p0]) (rest := []) C hP hS (c_X2_isInfinite (l := l) C.2.2.2.2.2.2.2.2.2.1 hW h_a k_a rfl H.size) h_a k_a (by decide) rfl rfl km_X2_isInfinite ki_X2_isInfinite qm_X2_53 ⟨(Nat.le_of_ble_eq_true rfl), (Nat.le_of_ble_eq_true rfl)⟩ rfl hl.1 rfl (Nat.le_of_ble_eq_true rfl) ⟨Nat.zero_le _, Nat.zero_le _⟩ dX2_classOf_32) hS (fun H locs hP hS hW z7 => ?_)
        refine lv_if_eq (tgt := 42) hx hb dX2_classOf_35 (by decide) (fun c8 => ?_) (fun c8 => ?_)
        · have hf := if_t c8 hf
          refine lv_iconst (v := 2) hx hb dX2_classOf_42 rfl ?_
          cases hf
          exact x_reti C hP hS hW dX2_classOf_43
        · have hf := if_f c8 hf
          refine lv_iconst (v := 3) hx hb dX2_classOf_38 rfl ?_
          refine lv_goto (tgt := 43) hx hb dX2_classOf_39 (by decide) ?_
          cases hf
          exact x_reti C hP hS hW dX2_classOf_43
      · have hf := if_f c6 hf
        refine lv_iconst (v := 4) hx hb dX2_classOf_28 rfl ?_
        cases hf
        exact x_reti C hP hS hW dX2_classOf_29
    · have hf := if_f c4 hf
      refine lv_iconst (v := 1) hx hb dX2_classOf_18 rfl ?_
      cases hf
      exact x_reti C hP hS hW dX2_classOf_19
  · have hf := if_f c2 hf
    refine lv_iconst (v := 0) hx hb dX2_classOf_8 rfl ?_
    cases hf
    exact x_reti C hP hS hW dX2_classOf_9
def s_X2_fraction (a : Nat) (p0 : Int32) (S : HS) : Int32 :=
  p0 &&& (((1 : Int32) <<< ((gI S 202 a) &&& 31)) - 1)
set_option maxRecDepth 100000 in
set_option maxHeartbeats 4000000 in
theorem c_X2_fraction {l : Launch} {V : EV} {G : GS} {S : HS} {a : Nat} {p0 : Int32} {r : Int32} (hN : G.1.Nodup) (hW : WT G S) (h_a : a ∈ G.1) (k_a : G.2.1 a = 2) (hf : s_X2_fraction a p0 S = r) : MetI l yX2_fraction cX2_fraction 2 .int 0 0 V G S [.ref a, .int p0] r S := by
  intro sz
  refine x_in RX2 rfl (by decide +kernel) hN (Nat.le_of_ble_eq_true rfl) (fun p e s m args below meth c ls hsz hargs hnm C hP hS hl => ?_)
  subst hsz
  have hx := C.1
  have hb := C.2.1
  have hl : lv_has ls 2 [(0, .ref a), (1, .int p0)] := hl
  unfold s_X2_fraction at hf
  refine lv_iload_n hx hb dX2_fraction_0 rfl (lv_at hl 1 rfl) ?_
  refine lv_iconst (v := 1) hx hb dX2_fraction_1 rfl ?_
  refine lv_aload_n hx hb dX2_fraction_2 rfl (lv_at hl 0 rfl) ?_
  refine gf_X2_18 C hP h_a k_a dX2_fraction_3 ?_
  refine lv_ishl hx hb dX2_fraction_6 ?_
  refine lv_iconst (v := 1) hx hb dX2_fraction_7 rfl ?_
  refine lv_isub hx hb dX2_fraction_8 ?_
  refine lv_iand hx hb dX2_fraction_9 ?_
  cases hf
  exact x_reti C hP hS hW dX2_fraction_10
def s_X2_hasPlaces (a : Nat) (p0 : Int32) (S : HS) : Int32 :=
  if (gI S 205 a) ≤ (s_X2_size a p0 S) then
  0
  else
  if (s_X2_addend a p0 S) = (0 : Int32) then
  0
  else
  1
set_option maxRecDepth 100000 in
set_option maxHeartbeats 4000000 in
theorem c_X2_hasPlaces {l : Launch} {V : EV} {G : GS} {S : HS} {a : Nat} {p0 : Int32} {r : Int32} (hN : G.1.Nodup) (hW : WT G S) (h_a : a ∈ G.1) (k_a : G.2.1 a = 2) (hf : s_X2_hasPlaces a p0 S = r) : MetZ l yX2_hasPlaces cX2_hasPlaces 2 3 90 V G S [.ref a, .int p0] r S := by
  intro sz
  refine x_in RX2 rfl (by decide +kernel) hN (Nat.le_of_ble_eq_true rfl) (fun p e s m args below meth c ls hsz hargs hnm C hP hS hl => ?_)
  subst hsz
  have hx := C.1
  have hb := C.2.1
  have hl : lv_has ls 2 [(0, .ref a), (1, .int p0)] := hl
  unfold s_X2_hasPlaces at hf
  refine lv_aload_n hx hb dX2_hasPlaces_0 rfl (lv_at hl 0 rfl) ?_
  refine lv_iload_n hx hb dX2_hasPlaces_1 rfl (lv_at hl 1 rfl) ?_
  refine x_aft_i (x_runV (As := [.int p0]) (rest := []) C hP hS (c_X2_size (l := l) C.2.2.2.2.2.2.2.2.2.1 hW h_a k_a rfl s.heap.size) h_a k_a (by decide) rfl rfl km_X2_size ki_X2_size qm_X2_36 ⟨(Nat.le_of_ble_eq_true rfl), (Nat.le_of_ble_eq_true rfl)⟩ rfl hl.1 rfl (Nat.le_of_ble_eq_true rfl) ⟨Nat.zero_le _, Nat.zero_le _⟩ dX2_hasPlaces_2) hS (fun H locs hP hS hW => ?_)
  refine lv_aload_n hx hb dX2_hasPlaces_5 rfl (lv_at hl 0 rfl) ?_
  refine gf_X2_27 C hP h_a k_a dX2_hasPlaces_6 ?_
  refine lv_icmp_ge (tgt := 24) hx hb dX2_hasPlaces_9 (by decide) (fun c1 => ?_) (fun c1 => ?_)
  · have hf := if_t c1 hf
    refine lv_iconst (v := 0) hx hb dX2_hasPlaces_24 rfl ?_
    cases hf
    exact x_retZ C hP hS hW isZ_0 dX2_hasPlaces_25
  · have hf := if_f c1 hf
    refine lv_aload_n hx hb dX2_hasPlaces_12 rfl (lv_at hl 0 rfl) ?_
    refine lv_iload_n hx hb dX2_hasPlaces_13 rfl (lv_at hl 1 rfl) ?_
    refine x_aft_i (x_runV (As := [.int p0]) (rest := []) C hP hS (c_X2_addend (l := l) C.2.2.2.2.2.2.2.2.2.1 hW h_a k_a rfl H.size) h_a k_a (by decide) rfl rfl km_X2_addend ki_X2_addend qm_X2_65 ⟨(Nat.le_of_ble_eq_true rfl), (Nat.le_of_ble_eq_true rfl)⟩ rfl hl.1 rfl (Nat.le_of_ble_eq_true rfl) ⟨Nat.zero_le _, Nat.zero_le _⟩ dX2_hasPlaces_14) hS (fun H locs hP hS hW => ?_)
    refine lv_if_eq (tgt := 24) hx hb dX2_hasPlaces_17 (by decide) (fun c2 => ?_) (fun c2 => ?_)
    · have hf := if_t c2 hf
      refine lv_iconst (v := 0) hx hb dX2_hasPlaces_24 rfl ?_
      cases hf
      exact x_retZ C hP hS hW isZ_0 dX2_hasPlaces_25
    · have hf := if_f c2 hf
      refine lv_iconst (v := 1) hx hb dX2_hasPlaces_20 rfl ?_
      refine lv_goto (tgt := 25) hx hb dX2_hasPlaces_21 (by decide) ?_
      cases hf
      exact x_retZ C hP hS hW isZ_1 dX2_hasPlaces_25
def s_X2_holds (a : Nat) (p0 : Int32) (S : HS) : Int32 :=
  if p0 < (0 : Int32) then
  0
  else
  if (2 * (gI S 204 a)) ≤ p0 then
  0
  else
  1
set_option maxRecDepth 100000 in
set_option maxHeartbeats 4000000 in
theorem c_X2_holds {l : Launch} {V : EV} {G : GS} {S : HS} {a : Nat} {p0 : Int32} {r : Int32} (hN : G.1.Nodup) (hW : WT G S) (h_a : a ∈ G.1) (k_a : G.2.1 a = 2) (hf : s_X2_holds a p0 S = r) : MetZ l yX2_holds cX2_holds 2 0 0 V G S [.ref a, .int p0] r S := by
  intro sz
  refine x_in RX2 rfl (by decide +kernel) hN (Nat.le_of_ble_eq_true rfl) (fun p e s m args below meth c ls hsz hargs hnm C hP hS hl => ?_)
  subst hsz
  have hx := C.1
  have hb := C.2.1
  have hl : lv_has ls 2 [(0, .ref a), (1, .int p0)] := hl
  unfold s_X2_holds at hf
  refine lv_iload_n hx hb dX2_holds_0 rfl (lv_at hl 1 rfl) ?_
  refine lv_if_lt (tgt := 18) hx hb dX2_holds_1 (by decide) (fun c1 => ?_) (fun c1 => ?_)
  · have hf := if_t c1 hf
    refine lv_iconst (v := 0) hx hb dX2_holds_18 rfl ?_
    cases hf
    exact x_retZ C hP hS hW isZ_0 dX2_holds_19
  · have hf := if_f c1 hf
    refine lv_iload_n hx hb dX2_holds_4 rfl (lv_at hl 1 rfl) ?_
    refine lv_iconst (v := 2) hx hb dX2_holds_5 rfl ?_
    refine lv_aload_n hx hb dX2_holds_6 rfl (lv_at hl 0 rfl) ?_
    refine gf_X2_24 C hP h_a k_a dX2_holds_7 ?_
    refine lv_imul hx hb dX2_holds_10 ?_
    refine lv_icmp_ge (tgt := 18) hx hb dX2_holds_11 (by decide) (fun c2 => ?_) (fun c2 => ?_)
    · have hf := if_t c2 hf
      refine lv_iconst (v := 0) hx hb dX2_holds_18 rfl ?_
      cases hf
      exact x_retZ C hP hS hW isZ_0 dX2_holds_19
    · have hf := if_f c2 hf
      refine lv_iconst (v := 1) hx hb dX2_holds_14 rfl ?_
      refine lv_goto (tgt := 19) hx hb dX2_holds_15 (by decide) ?_
      cases hf
      exact x_retZ C hP hS hW isZ_1 dX2_holds_19
def s_X2_init_J92 (w0 : Nat) (w1 : Int32) (S : HS) : HS :=
  bnd (uI S 207 w0 w1) fun S10 =>
  S10
def s_X2_init_J59 (v0 : Nat) (v1 : Int32) (v3 : Int32) (w0 : Nat) (w1 : Int32) (S : HS) : HS :=
  bnd (uI S 205 w0 w1) fun S7 =>
  bnd (uI S7 206 v0 ((gI S7 205 v0) - 1)) fun S8 =>
  if v1 = (3 : Int32) then
  s_X2_init_J92 v0 (-1) S8
  else
  s_X2_init_J92 v0 ((gI S8 205 v0) ||| ((1 : Int32) <<< ((v3 - 1) &&& 31))) S8
def s_X2_init (a : Nat) (p0 : Int32) (p1 : Int32) (p2 : Int32) (S : HS) : HS :=
  bnd (uI S 200 a p0) fun S1 =>
  bnd (uI S1 201 a p1) fun S2 =>
  bnd (uI S2 202 a p2) fun S3 =>
  bnd (uI S3 203 a (((1 : Int32) <<< ((p1 - 1) &&& 31)) - 1)) fun S4 =>
  bnd (uI S4 204 a ((1 : Int32) <<< ((p1 + p2) &&& 31))) fun S5 =>
  if p0 = (3 : Int32) then
  s_X2_init_J59 a p0 p2 a (gI S5 204 a) S5
  else
  s_X2_init_J59 a p0 p2 a ((((1 : Int32) <<< (p1 &&& 31)) - 1) <<< (p2 &&& 31)) S5
set_option maxRecDepth 100000 in
set_option maxHeartbeats 4000000 in
theorem b_X2_init_92 {p : Program} {l : Launch} {e : Env} {s : State} {m : MethodId} {args : Array Value} {below : List Frame} {meth : Method} {c : Code} {V : EV} {G : GS} {S' : HS} (C : CX p s m args meth c RX2 cX2_init 4 none V G) (hin : meth.name = "<init>") : ∀ (w0 : Nat) (w1 : Int32) (h_w0 : w0 ∈ G.1) (k_w0 : G.2.1 w0 = 2) (S : HS) (H : Heap) (locs : List Loc) (ls : Array Slot), s_X2_init_J92 w0 w1 S = S' → HP V G S H → va_S (AG G s.heap.size) s.heap H locs → WT G S → lv_has ls 4 [] → W p l e (RM 1 28) s m args below meth c H locs 0 0 (MQ below (QV V G S' s.heap.size) args s 0 0 (AG G s.heap.size)) (F0 m 92 ls [.int w1, .ref w0]) := by
  intro w0 w1 h_w0 k_w0 S H locs ls hf hP hS hW hl
  have hx := C.1
  have hb := C.2.1
  unfold s_X2_init_J92 at hf
  obtain ⟨S10, eS10, hf⟩ := bnd_e hf
  refine pf_X2_33 C hP hS h_w0 k_w0 hin eS10 dX2_init_92 (fun H locs hP hS => ?_)
  have hW : WT G S10 := by rw [eS10]; exact hW
  cases hf
  exact x_retv C hP hS hW dX2_init_95
set_option maxRecDepth 100000 in
set_option maxHeartbeats 4000000 in
theorem b_X2_init_59 {p : Program} {l : Launch} {e : Env} {s : State} {m : MethodId} {args : Array Value} {below : List Frame} {meth : Method} {c : Code} {V : EV} {G : GS} {S' : HS} (C : CX p s m args meth c RX2 cX2_init 4 none V G) (hin : meth.name = "<init>") : ∀ (v0 : Nat) (v1 : Int32) (v3 : Int32) (w0 : Nat) (w1 : Int32) (h_v0 : v0 ∈ G.1) (k_v0 : G.2.1 v0 = 2) (h_w0 : w0 ∈ G.1) (k_w0 : G.2.1 w0 = 2) (S : HS) (H : Heap) (locs : List Loc) (ls : Array Slot), s_X2_init_J59 v0 v1 v3 w0 w1 S = S' → HP V G S H → va_S (AG G s.heap.size) s.heap H locs → WT G S → lv_has ls 4 [(0, .ref v0), (1, .int v1), (3, .int v3)] → W p l e (RM 1 28) s m args below meth c H locs 0 0 (MQ below (QV V G S' s.heap.size) args s 0 0 (AG G s.heap.size)) (F0 m 59 ls [.int w1, .ref w0]) := by
  intro v0 v1 v3 w0 w1 h_v0 k_v0 h_w0 k_w0 S H locs ls hf hP hS hW hl
  have hx := C.1
  have hb := C.2.1
  unfold s_X2_init_J59 at hf
  obtain ⟨S7, eS7, hf⟩ := bnd_e hf
  refine pf_X2_27 C hP hS h_w0 k_w0 hin eS7 dX2_init_59 (fun H locs hP hS => ?_)
  have hW : WT G S7 := by rw [eS7]; exact hW
  refine lv_aload_n hx hb dX2_init_62 rfl (lv_at hl 0 rfl) ?_
  refine lv_aload_n hx hb dX2_init_63 rfl (lv_at hl 0 rfl) ?_
  refine gf_X2_27 C hP h_v0 k_v0 dX2_init_64 ?_
  refine lv_iconst (v := 1) hx hb dX2_init_67 rfl ?_
  refine lv_isub hx hb dX2_init_68 ?_
  obtain ⟨S8, eS8, hf⟩ := bnd_e hf
  refine pf_X2_30 C hP hS h_v0 k_v0 hin eS8 dX2_init_69 (fun H locs hP hS => ?_)
  have hW : WT G S8 := by rw [eS8]; exact hW
  refine lv_aload_n hx hb dX2_init_72 rfl (lv_at hl 0 rfl) ?_
  refine lv_iload_n hx hb dX2_init_73 rfl (lv_at hl 1 rfl) ?_
  refine lv_iconst (v := 3) hx hb dX2_init_74 rfl ?_
  refine lv_icmp_ne (tgt := 82) hx hb dX2_init_75 (by decide) (fun c9 => ?_) (fun c9 => ?_)
  · have hf := if_f c9 hf
    refine lv_aload_n hx hb dX2_init_82 rfl (lv_at hl 0 rfl) ?_
    refine gf_X2_27 C hP h_v0 k_v0 dX2_init_83 ?_
    refine lv_iconst (v := 1) hx hb dX2_init_86 rfl ?_
    refine lv_iload_n hx hb dX2_init_87 rfl (lv_at hl 2 rfl) ?_
    refine lv_iconst (v := 1) hx hb dX2_init_88 rfl ?_
    refine lv_isub hx hb dX2_init_89 ?_
    refine lv_ishl hx hb dX2_init_90 ?_
    refine lv_ior hx hb dX2_init_91 ?_
    exact b_X2_init_92 C hin v0 ((gI S8 205 v0) ||| ((1 : Int32) <<< ((v3 - 1) &&& 31))) h_v0 k_v0 S8 H locs _ hf hP hS hW (lv_sub hl [] rfl)
  · have hf := if_t c9 hf
    refine lv_iconst (v := (-1)) hx hb dX2_init_78 rfl ?_
    refine lv_goto (tgt := 92) hx hb dX2_init_79 (by decide) ?_
    exact b_X2_init_92 C hin v0 (-1) h_v0 k_v0 S8 H locs _ hf hP hS hW (lv_sub hl [] rfl)
set_option maxRecDepth 100000 in
set_option maxHeartbeats 4000000 in
theorem c_X2_init {l : Launch} {V : EV} {G : GS} {S : HS} {a : Nat} {p0 : Int32} {p1 : Int32} {p2 : Int32} {S' : HS} (hN : G.1.Nodup) (hW : WT G S) (h_a : a ∈ G.1) (k_a : G.2.1 a = 2) (hf : s_X2_init a p0 p1 p2 S = S') : MetV l yX2_init cX2_init 4 1 28 V G S [.ref a, .int p0, .int p1, .int p2] S' := by
  intro sz
  refine x_in RX2 rfl (by decide +kernel) hN (Nat.le_of_ble_eq_true rfl) (fun p e s m args below meth c ls hsz hargs hnm C hP hS hl => ?_)
  subst hsz
  have hx := C.1
  have hb := C.2.1
  have hin : meth.name = "<init>" := hnm
  have hl : lv_has ls 4 [(0, .ref a), (1, .int p0), (2, .int p1), (3, .int p2)] := hl
  unfold s_X2_init at hf
  refine lv_aload_n hx hb dX2_init_0 rfl (lv_at hl 0 rfl) ?_
  refine x_obj C qobj_X2_3 qobji qobjc hl.1 dX2_init_1 (by show _ ≤ _; decide) (by show _ ≤ _; decide) ?_
  refine lv_aload_n hx hb dX2_init_4 rfl (lv_at hl 0 rfl) ?_
  refine lv_iload_n hx hb dX2_init_5 rfl (lv_at hl 1 rfl) ?_
  obtain ⟨S1, eS1, hf⟩ := bnd_e hf
  refine pf_X2_9 C hP hS h_a k_a hin eS1 dX2_init_6 (fun H locs hP hS => ?_)
  have hW : WT G S1 := by rw [eS1]; exact hW
  refine lv_aload_n hx hb dX2_init_9 rfl (lv_at hl 0 rfl) ?_
  refine lv_iload_n hx hb dX2_init_10 rfl (lv_at hl 2 rfl) ?_
  obtain ⟨S2, eS2, hf⟩ := bnd_e hf
  refine pf_X2_15 C hP hS h_a k_a hin eS2 dX2_init_11 (fun H locs hP hS => ?_)
  have hW : WT G S2 := by rw [eS2]; exact hW
  refine lv_aload_n hx hb dX2_init_14 rfl (lv_at hl 0 rfl) ?_
  refine lv_iload_n hx hb dX2_init_15 rfl (lv_at hl 3 rfl) ?_
  obtain ⟨S3, eS3, hf⟩ := bnd_e hf
  refine pf_X2_18 C hP hS h_a k_a hin eS3 dX2_init_16 (fun H locs hP hS => ?_)
  have hW : WT G S3 := by rw [eS3]; exact hW
  refine lv_aload_n hx hb dX2_init_19 rfl (lv_at hl 0 rfl) ?_
  refine lv_iconst (v := 1) hx hb dX2_init_20 rfl ?_
  refine lv_iload_n hx hb dX2_init_21 rfl (lv_at hl 2 rfl) ?_
  refine lv_iconst (v := 1) hx hb dX2_init_22 rfl ?_
  refine lv_isub hx hb dX2_init_23 ?_
  refine lv_ishl hx hb dX2_init_24 ?_
  refine lv_iconst (v := 1) hx hb dX2_init_25 rfl ?_
  refine lv_isub hx hb dX2_init_26 ?_
  obtain ⟨S4, eS4, hf⟩ := bnd_e hf
  refine pf_X2_21 C hP hS h_a k_a hin eS4 dX2_init_27 (fun H locs hP hS => ?_)
  have hW : WT G S4 := by rw [eS4]; exact hW
  refine lv_aload_n hx hb dX2_init_30 rfl (lv_at hl 0 rfl) ?_
  refine lv_iconst (v := 1) hx hb dX2_init_31 rfl ?_
  refine lv_iload_n hx hb dX2_init_32 rfl (lv_at hl 2 rfl) ?_
  refine lv_iload_n hx hb dX2_init_33 rfl (lv_at hl 3 rfl) ?_
  refine lv_iadd hx hb dX2_init_34 ?_
  refine lv_ishl hx hb dX2_init_35 ?_
  obtain ⟨S5, eS5, hf⟩ := bnd_e hf
  refine pf_X2_24 C hP hS h_a k_a hin eS5 dX2_init_36 (fun H locs hP hS => ?_)
  have hW : WT G S5 := by rw [eS5]; exact hW
  refine lv_aload_n hx hb dX2_init_39 rfl (lv_at hl 0 rfl) ?_
  refine lv_iload_n hx hb dX2_init_40 rfl (lv_at hl 1 rfl) ?_
  refine lv_iconst (v := 3) hx hb dX2_init_41 rfl ?_
  refine lv_icmp_ne (tgt := 52) hx hb dX2_init_42 (by decide) (fun c6 => ?_) (fun c6 => ?_)
  · have hf := if_f c6 hf
    refine lv_iconst (v := 1) hx hb dX2_init_52 rfl ?_
    refine lv_iload_n hx hb dX2_init_53 rfl (lv_at hl 2 rfl) ?_
    refine lv_ishl hx hb dX2_init_54 ?_
    refine lv_iconst (v := 1) hx hb dX2_init_55 rfl ?_
    refine lv_isub hx hb dX2_init_56 ?_
    refine lv_iload_n hx hb dX2_init_57 rfl (lv_at hl 3 rfl) ?_
    refine lv_ishl hx hb dX2_init_58 ?_
    exact b_X2_init_59 C hin a p0 p2 a ((((1 : Int32) <<< (p1 &&& 31)) - 1) <<< (p2 &&& 31)) h_a k_a h_a k_a S5 H locs _ hf hP hS hW (lv_sub hl [0, 1, 3] rfl)
  · have hf := if_t c6 hf
    refine lv_aload_n hx hb dX2_init_45 rfl (lv_at hl 0 rfl) ?_
    refine gf_X2_24 C hP h_a k_a dX2_init_46 ?_
    refine lv_goto (tgt := 59) hx hb dX2_init_49 (by decide) ?_
    exact b_X2_init_59 C hin a p0 p2 a (gI S5 204 a) h_a k_a h_a k_a S5 H locs _ hf hP hS hW (lv_sub hl [0, 1, 3] rfl)
def s_X2_isSmall (a : Nat) (S : HS) : Int32 :=
  if (9 : Int32) < ((gI S 201 a) + (gI S 202 a)) then
  0
  else
  1
set_option maxRecDepth 100000 in
set_option maxHeartbeats 4000000 in
theorem c_X2_isSmall {l : Launch} {V : EV} {G : GS} {S : HS} {a : Nat} {r : Int32} (hN : G.1.Nodup) (hW : WT G S) (h_a : a ∈ G.1) (k_a : G.2.1 a = 2) (hf : s_X2_isSmall a S = r) : MetZ l yX2_isSmall cX2_isSmall 1 0 0 V G S [.ref a] r S := by
  intro sz
  refine x_in RX2 rfl (by decide +kernel) hN (Nat.le_of_ble_eq_true rfl) (fun p e s m args below meth c ls hsz hargs hnm C hP hS hl => ?_)
  subst hsz
  have hx := C.1
  have hb := C.2.1
  have hl : lv_has ls 1 [(0, .ref a)] := hl
  unfold s_X2_isSmall at hf
  refine lv_aload_n hx hb dX2_isSmall_0 rfl (lv_at hl 0 rfl) ?_
  refine gf_X2_15 C hP h_a k_a dX2_isSmall_1 ?_
  refine lv_aload_n hx hb dX2_isSmall_4 rfl (lv_at hl 0 rfl) ?_
  refine gf_X2_18 C hP h_a k_a dX2_isSmall_5 ?_
  refine lv_iadd hx hb dX2_isSmall_8 ?_
  refine lv_bipush (v := 9) hx hb dX2_isSmall_9 kc_bipush_9 ?_
  refine lv_icmp_gt (tgt := 18) hx hb dX2_isSmall_11 (by decide) (fun c1 => ?_) (fun c1 => ?_)
  · have hf := if_t c1 hf
    refine lv_iconst (v := 0) hx hb dX2_isSmall_18 rfl ?_
    cases hf
    exact x_retZ C hP hS hW isZ_0 dX2_isSmall_19
  · have hf := if_f c1 hf
    refine lv_iconst (v := 1) hx hb dX2_isSmall_14 rfl ?_
    refine lv_goto (tgt := 19) hx hb dX2_isSmall_15 (by decide) ?_
    cases hf
    exact x_retZ C hP hS hW isZ_1 dX2_isSmall_19
def s_X2_many (a : Nat) (S : HS) : Int32 :=
  2 * (gI S 204 a)
set_option maxRecDepth 100000 in
set_option maxHeartbeats 4000000 in
theorem c_X2_many {l : Launch} {V : EV} {G : GS} {S : HS} {a : Nat} {r : Int32} (hN : G.1.Nodup) (hW : WT G S) (h_a : a ∈ G.1) (k_a : G.2.1 a = 2) (hf : s_X2_many a S = r) : MetI l yX2_many cX2_many 1 .int 0 0 V G S [.ref a] r S := by
  intro sz
  refine x_in RX2 rfl (by decide +kernel) hN (Nat.le_of_ble_eq_true rfl) (fun p e s m args below meth c ls hsz hargs hnm C hP hS hl => ?_)
  subst hsz
  have hx := C.1
  have hb := C.2.1
  have hl : lv_has ls 1 [(0, .ref a)] := hl
  unfold s_X2_many at hf
  refine lv_iconst (v := 2) hx hb dX2_many_0 rfl ?_
  refine lv_aload_n hx hb dX2_many_1 rfl (lv_at hl 0 rfl) ?_
  refine gf_X2_24 C hP h_a k_a dX2_many_2 ?_
  refine lv_imul hx hb dX2_many_5 ?_
  cases hf
  exact x_reti C hP hS hW dX2_many_6
def s_X2_top (a : Nat) (S : HS) : Int32 :=
  if (gI S 200 a) = (3 : Int32) then
  gI S 206 a
  else
  gI S 205 a
set_option maxRecDepth 100000 in
set_option maxHeartbeats 4000000 in
theorem c_X2_top {l : Launch} {V : EV} {G : GS} {S : HS} {a : Nat} {r : Int32} (hN : G.1.Nodup) (hW : WT G S) (h_a : a ∈ G.1) (k_a : G.2.1 a = 2) (hf : s_X2_top a S = r) : MetI l yX2_top cX2_top 1 .int 0 0 V G S [.ref a] r S := by
  intro sz
  refine x_in RX2 rfl (by decide +kernel) hN (Nat.le_of_ble_eq_true rfl) (fun p e s m args below meth c ls hsz hargs hnm C hP hS hl => ?_)
  subst hsz
  have hx := C.1
  have hb := C.2.1
  have hl : lv_has ls 1 [(0, .ref a)] := hl
  unfold s_X2_top at hf
  refine lv_aload_n hx hb dX2_top_0 rfl (lv_at hl 0 rfl) ?_
  refine gf_X2_9 C hP h_a k_a dX2_top_1 ?_
  refine lv_iconst (v := 3) hx hb dX2_top_4 rfl ?_
  refine lv_icmp_ne (tgt := 15) hx hb dX2_top_5 (by decide) (fun c1 => ?_) (fun c1 => ?_)
  · have hf := if_f c1 hf
    refine lv_aload_n hx hb dX2_top_15 rfl (lv_at hl 0 rfl) ?_
    refine gf_X2_27 C hP h_a k_a dX2_top_16 ?_
    cases hf
    exact x_reti C hP hS hW dX2_top_19
  · have hf := if_t c1 hf
    refine lv_aload_n hx hb dX2_top_8 rfl (lv_at hl 0 rfl) ?_
    refine gf_X2_30 C hP h_a k_a dX2_top_9 ?_
    refine lv_goto (tgt := 19) hx hb dX2_top_12 (by decide) ?_
    cases hf
    exact x_reti C hP hS hW dX2_top_19
def s_X2_next (a : Nat) (p0 : Int32) (S : HS) : Int32 :=
  if (s_X2_isNan a p0 S) = (0 : Int32) then
  if (s_X2_isNought a p0 S) = (0 : Int32) then
  if (s_X2_isMinus a p0 S) = (0 : Int32) then
  if p0 = (s_X2_top a S) then
  p0
  else
  p0 + 1
  else
  p0 - 1
  else
  1
  else
  p0
set_option maxRecDepth 100000 in
set_option maxHeartbeats 4000000 in
theorem c_X2_next {l : Launch} {V : EV} {G : GS} {S : HS} {a : Nat} {p0 : Int32} {r : Int32} (hN : G.1.Nodup) (hW : WT G S) (h_a : a ∈ G.1) (k_a : G.2.1 a = 2) (hf : s_X2_next a p0 S = r) : MetI l yX2_next cX2_next 2 .int 2 58 V G S [.ref a, .int p0] r S := by
  intro sz
  refine x_in RX2 rfl (by decide +kernel) hN (Nat.le_of_ble_eq_true rfl) (fun p e s m args below meth c ls hsz hargs hnm C hP hS hl => ?_)
  subst hsz
  have hx := C.1
  have hb := C.2.1
  have hl : lv_has ls 2 [(0, .ref a), (1, .int p0)] := hl
  unfold s_X2_next at hf
  refine lv_aload_n hx hb dX2_next_0 rfl (lv_at hl 0 rfl) ?_
  refine lv_iload_n hx hb dX2_next_1 rfl (lv_at hl 1 rfl) ?_
  refine x_aft_z (x_runV (As := [.int p0]) (rest := []) C hP hS (c_X2_isNan (l := l) C.2.2.2.2.2.2.2.2.2.1 hW h_a k_a rfl s.heap.size) h_a k_a (by decide) rfl rfl km_X2_isNan ki_X2_isNan qm_X2_50 ⟨(Nat.le_of_ble_eq_true rfl), (Nat.le_of_ble_eq_true rfl)⟩ rfl hl.1 rfl (Nat.le_of_ble_eq_true rfl) ⟨Nat.zero_le _, Nat.zero_le _⟩ dX2_next_2) hS (fun H locs hP hS hW z1 => ?_)
  refine lv_if_eq (tgt := 10) hx hb dX2_next_5 (by decide) (fun c2 => ?_) (fun c2 => ?_)
  · have hf := if_t c2 hf
    refine lv_aload_n hx hb dX2_next_10 rfl (lv_at hl 0 rfl) ?_
    refine lv_iload_n hx hb dX2_next_11 rfl (lv_at hl 1 rfl) ?_
    refine x_aft_z (x_runV (As := [.int p0]) (rest := []) C hP hS (c_X2_isNought (l := l) C.2.2.2.2.2.2.2.2.2.1 hW h_a k_a rfl H.size) h_a k_a (by decide) rfl rfl km_X2_isNought ki_X2_isNought qm_X2_40 ⟨(Nat.le_of_ble_eq_true rfl), (Nat.le_of_ble_eq_true rfl)⟩ rfl hl.1 rfl (Nat.le_of_ble_eq_true rfl) ⟨Nat.zero_le _, Nat.zero_le _⟩ dX2_next_12) hS (fun H locs hP hS hW z3 => ?_)
    refine lv_if_eq (tgt := 20) hx hb dX2_next_15 (by decide) (fun c4 => ?_) (fun c4 => ?_)
    · have hf := if_t c4 hf
      refine lv_aload_n hx hb dX2_next_20 rfl (lv_at hl 0 rfl) ?_
      refine lv_iload_n hx hb dX2_next_21 rfl (lv_at hl 1 rfl) ?_
      refine x_aft_z (x_runV (As := [.int p0]) (rest := []) C hP hS (c_X2_isMinus (l := l) C.2.2.2.2.2.2.2.2.2.1 hW h_a k_a rfl H.size) h_a k_a (by decide) rfl rfl km_X2_isMinus ki_X2_isMinus qm_X2_68 ⟨(Nat.le_of_ble_eq_true rfl), (Nat.le_of_ble_eq_true rfl)⟩ rfl hl.1 rfl (Nat.le_of_ble_eq_true rfl) ⟨Nat.zero_le _, Nat.zero_le _⟩ dX2_next_22) hS (fun H locs hP hS hW z5 => ?_)
      refine lv_if_eq (tgt := 32) hx hb dX2_next_25 (by decide) (fun c6 => ?_) (fun c6 => ?_)
      · have hf := if_t c6 hf
        refine lv_iload_n hx hb dX2_next_32 rfl (lv_at hl 1 rfl) ?_
        refine lv_aload_n hx hb dX2_next_33 rfl (lv_at hl 0 rfl) ?_
        refine x_aft_i (x_runV (As := []) (rest := [.int p0]) C hP hS (c_X2_top (l := l) C.2.2.2.2.2.2.2.2.2.1 hW h_a k_a rfl H.size) h_a k_a (by decide) rfl rfl km_X2_top ki_X2_top qm_X2_71 ⟨(Nat.le_of_ble_eq_true rfl), (Nat.le_of_ble_eq_true rfl)⟩ rfl hl.1 rfl (Nat.le_of_ble_eq_true rfl) ⟨Nat.zero_le _, Nat.zero_le _⟩ dX2_next_34) hS (fun H locs hP hS hW => ?_)
        refine lv_icmp_ne (tgt := 44) hx hb dX2_next_37 (by decide) (fun c7 => ?_) (fun c7 => ?_)
        · have hf := if_f c7 hf
          refine lv_iload_n hx hb dX2_next_44 rfl (lv_at hl 1 rfl) ?_
          refine lv_iconst (v := 1) hx hb dX2_next_45 rfl ?_
          refine lv_iadd hx hb dX2_next_46 ?_
          cases hf
          exact x_reti C hP hS hW dX2_next_47
        · have hf := if_t c7 hf
          refine lv_iload_n hx hb dX2_next_40 rfl (lv_at hl 1 rfl) ?_
          refine lv_goto (tgt := 47) hx hb dX2_next_41 (by decide) ?_
          cases hf
          exact x_reti C hP hS hW dX2_next_47
      · have hf := if_f c6 hf
        refine lv_iload_n hx hb dX2_next_28 rfl (lv_at hl 1 rfl) ?_
        refine lv_iconst (v := 1) hx hb dX2_next_29 rfl ?_
        refine lv_isub hx hb dX2_next_30 ?_
        cases hf
        exact x_reti C hP hS hW dX2_next_31
    · have hf := if_f c4 hf
      refine lv_iconst (v := 1) hx hb dX2_next_18 rfl ?_
      cases hf
      exact x_reti C hP hS hW dX2_next_19
  · have hf := if_f c2 hf
    refine lv_iload_n hx hb dX2_next_8 rfl (lv_at hl 1 rfl) ?_
    cases hf
    exact x_reti C hP hS hW dX2_next_9
def s_X2_one (a : Nat) (S : HS) : Int32 :=
  (gI S 203 a) <<< ((gI S 202 a) &&& 31)
set_option maxRecDepth 100000 in
set_option maxHeartbeats 4000000 in
theorem c_X2_one {l : Launch} {V : EV} {G : GS} {S : HS} {a : Nat} {r : Int32} (hN : G.1.Nodup) (hW : WT G S) (h_a : a ∈ G.1) (k_a : G.2.1 a = 2) (hf : s_X2_one a S = r) : MetI l yX2_one cX2_one 1 .int 0 0 V G S [.ref a] r S := by
  intro sz
  refine x_in RX2 rfl (by decide +kernel) hN (Nat.le_of_ble_eq_true rfl) (fun p e s m args below meth c ls hsz hargs hnm C hP hS hl => ?_)
  subst hsz
  have hx := C.1
  have hb := C.2.1
  have hl : lv_has ls 1 [(0, .ref a)] := hl
  unfold s_X2_one at hf
  refine lv_aload_n hx hb dX2_one_0 rfl (lv_at hl 0 rfl) ?_
  refine gf_X2_21 C hP h_a k_a dX2_one_1 ?_
  refine lv_aload_n hx hb dX2_one_4 rfl (lv_at hl 0 rfl) ?_
  refine gf_X2_18 C hP h_a k_a dX2_one_5 ?_
  refine lv_ishl hx hb dX2_one_8 ?_
  cases hf
  exact x_reti C hP hS hW dX2_one_9
def s_X2_rank (a : Nat) (p0 : Int32) (S : HS) : Int32 :=
  if (s_X2_isMinus a p0 S) = (0 : Int32) then
  s_X2_size a p0 S
  else
  -(s_X2_size a p0 S)
set_option maxRecDepth 100000 in
set_option maxHeartbeats 4000000 in
theorem c_X2_rank {l : Launch} {V : EV} {G : GS} {S : HS} {a : Nat} {p0 : Int32} {r : Int32} (hN : G.1.Nodup) (hW : WT G S) (h_a : a ∈ G.1) (k_a : G.2.1 a = 2) (hf : s_X2_rank a p0 S = r) : MetI l yX2_rank cX2_rank 2 .int 1 29 V G S [.ref a, .int p0] r S := by
  intro sz
  refine x_in RX2 rfl (by decide +kernel) hN (Nat.le_of_ble_eq_true rfl) (fun p e s m args below meth c ls hsz hargs hnm C hP hS hl => ?_)
  subst hsz
  have hx := C.1
  have hb := C.2.1
  have hl : lv_has ls 2 [(0, .ref a), (1, .int p0)] := hl
  unfold s_X2_rank at hf
  refine lv_aload_n hx hb dX2_rank_0 rfl (lv_at hl 0 rfl) ?_
  refine lv_iload_n hx hb dX2_rank_1 rfl (lv_at hl 1 rfl) ?_
  refine x_aft_z (x_runV (As := [.int p0]) (rest := []) C hP hS (c_X2_isMinus (l := l) C.2.2.2.2.2.2.2.2.2.1 hW h_a k_a rfl s.heap.size) h_a k_a (by decide) rfl rfl km_X2_isMinus ki_X2_isMinus qm_X2_68 ⟨(Nat.le_of_ble_eq_true rfl), (Nat.le_of_ble_eq_true rfl)⟩ rfl hl.1 rfl (Nat.le_of_ble_eq_true rfl) ⟨Nat.zero_le _, Nat.zero_le _⟩ dX2_rank_2) hS (fun H locs hP hS hW z1 => ?_)
  refine lv_if_eq (tgt := 17) hx hb dX2_rank_5 (by decide) (fun c2 => ?_) (fun c2 => ?_)
  · have hf := if_t c2 hf
    refine lv_aload_n hx hb dX2_rank_17 rfl (lv_at hl 0 rfl) ?_
    refine lv_iload_n hx hb dX2_rank_18 rfl (lv_at hl 1 rfl) ?_
    refine x_aft_i (x_runV (As := [.int p0]) (rest := []) C hP hS (c_X2_size (l := l) C.2.2.2.2.2.2.2.2.2.1 hW h_a k_a rfl H.size) h_a k_a (by decide) rfl rfl km_X2_size ki_X2_size qm_X2_36 ⟨(Nat.le_of_ble_eq_true rfl), (Nat.le_of_ble_eq_true rfl)⟩ rfl hl.1 rfl (Nat.le_of_ble_eq_true rfl) ⟨Nat.zero_le _, Nat.zero_le _⟩ dX2_rank_19) hS (fun H locs hP hS hW => ?_)
    cases hf
    exact x_reti C hP hS hW dX2_rank_22
  · have hf := if_f c2 hf
    refine lv_aload_n hx hb dX2_rank_8 rfl (lv_at hl 0 rfl) ?_
    refine lv_iload_n hx hb dX2_rank_9 rfl (lv_at hl 1 rfl) ?_
    refine x_aft_i (x_runV (As := [.int p0]) (rest := []) C hP hS (c_X2_size (l := l) C.2.2.2.2.2.2.2.2.2.1 hW h_a k_a rfl H.size) h_a k_a (by decide) rfl rfl km_X2_size ki_X2_size qm_X2_36 ⟨(Nat.le_of_ble_eq_true rfl), (Nat.le_of_ble_eq_true rfl)⟩ rfl hl.1 rfl (Nat.le_of_ble_eq_true rfl) ⟨Nat.zero_le _, Nat.zero_le _⟩ dX2_rank_10) hS (fun H locs hP hS hW => ?_)
    refine lv_ineg hx hb dX2_rank_13 ?_
    refine lv_goto (tgt := 22) hx hb dX2_rank_14 (by decide) ?_
    cases hf
    exact x_reti C hP hS hW dX2_rank_22
def s_X2_turned (a : Nat) (p0 : Int32) (S : HS) : Int32 :=
  if (s_X2_isNan a p0 S) = (0 : Int32) then
  p0 ^^^ (gI S 204 a)
  else
  p0
set_option maxRecDepth 100000 in
set_option maxHeartbeats 4000000 in
theorem c_X2_turned {l : Launch} {V : EV} {G : GS} {S : HS} {a : Nat} {p0 : Int32} {r : Int32} (hN : G.1.Nodup) (hW : WT G S) (h_a : a ∈ G.1) (k_a : G.2.1 a = 2) (hf : s_X2_turned a p0 S = r) : MetI l yX2_turned cX2_turned 2 .int 2 58 V G S [.ref a, .int p0] r S := by
  intro sz
  refine x_in RX2 rfl (by decide +kernel) hN (Nat.le_of_ble_eq_true rfl) (fun p e s m args below meth c ls hsz hargs hnm C hP hS hl => ?_)
  subst hsz
  have hx := C.1
  have hb := C.2.1
  have hl : lv_has ls 2 [(0, .ref a), (1, .int p0)] := hl
  unfold s_X2_turned at hf
  refine lv_aload_n hx hb dX2_turned_0 rfl (lv_at hl 0 rfl) ?_
  refine lv_iload_n hx hb dX2_turned_1 rfl (lv_at hl 1 rfl) ?_
  refine x_aft_z (x_runV (As := [.int p0]) (rest := []) C hP hS (c_X2_isNan (l := l) C.2.2.2.2.2.2.2.2.2.1 hW h_a k_a rfl s.heap.size) h_a k_a (by decide) rfl rfl km_X2_isNan ki_X2_isNan qm_X2_50 ⟨(Nat.le_of_ble_eq_true rfl), (Nat.le_of_ble_eq_true rfl)⟩ rfl hl.1 rfl (Nat.le_of_ble_eq_true rfl) ⟨Nat.zero_le _, Nat.zero_le _⟩ dX2_turned_2) hS (fun H locs hP hS hW z1 => ?_)
  refine lv_if_eq (tgt := 12) hx hb dX2_turned_5 (by decide) (fun c2 => ?_) (fun c2 => ?_)
  · have hf := if_t c2 hf
    refine lv_iload_n hx hb dX2_turned_12 rfl (lv_at hl 1 rfl) ?_
    refine lv_aload_n hx hb dX2_turned_13 rfl (lv_at hl 0 rfl) ?_
    refine gf_X2_24 C hP h_a k_a dX2_turned_14 ?_
    refine lv_ixor hx hb dX2_turned_17 ?_
    cases hf
    exact x_reti C hP hS hW dX2_turned_18
  · have hf := if_f c2 hf
    refine lv_iload_n hx hb dX2_turned_8 rfl (lv_at hl 1 rfl) ?_
    refine lv_goto (tgt := 18) hx hb dX2_turned_9 (by decide) ?_
    cases hf
    exact x_reti C hP hS hW dX2_turned_18
def s_X3_asFact (p0 : Int32) (S : HS) : Int32 :=
  if p0 = (0 : Int32) then
  0
  else
  1
set_option maxRecDepth 100000 in
set_option maxHeartbeats 4000000 in
theorem c_X3_asFact {l : Launch} {V : EV} {G : GS} {S : HS} {p0 : Int32} {r : Int32} (hN : G.1.Nodup) (hW : WT G S) (hf : s_X3_asFact p0 S = r) : MetI l yX3_asFact cX3_asFact 1 .int 0 0 V G S [.int p0] r S := by
  intro sz
  refine x_in RX3 rfl (by decide +kernel) hN (Nat.le_of_ble_eq_true rfl) (fun p e s m args below meth c ls hsz hargs hnm C hP hS hl => ?_)
  subst hsz
  have hx := C.1
  have hb := C.2.1
  have hl : lv_has ls 1 [(0, .int p0)] := hl
  unfold s_X3_asFact at hf
  refine lv_iload_n hx hb dX3_asFact_0 rfl (lv_at hl 0 rfl) ?_
  refine lv_if_eq (tgt := 8) hx hb dX3_asFact_1 (by decide) (fun c1 => ?_) (fun c1 => ?_)
  · have hf := if_t c1 hf
    refine lv_iconst (v := 0) hx hb dX3_asFact_8 rfl ?_
    cases hf
    exact x_reti C hP hS hW dX3_asFact_9
  · have hf := if_f c1 hf
    refine lv_iconst (v := 1) hx hb dX3_asFact_4 rfl ?_
    refine lv_goto (tgt := 9) hx hb dX3_asFact_5 (by decide) ?_
    cases hf
    exact x_reti C hP hS hW dX3_asFact_9
def s_X8_isWord_L5 (F : Nat) (k37 : Nat → Int64 → HS → Option Int32) : Nat → Nat → Nat → Int64 → Int32 → HS → Option Int32
  | 0, _, _, _, _, _ => none
  | n + 1, v0, v1, v2, v4, S => if (sLen v1) ≤ v4 then
  k37 v0 v2 S
  else
  bd1 (sChr v1 v4) fun r2 =>
  bnd ((v2 <<< ((5 : Int32).toInt64 &&& 63)) ||| (((r2 - 97) + 1).toInt64) : Int64) fun x3 =>
  bnd (v4 + Int32.ofInt 1 : Int32) fun x4 =>
  s_X8_isWord_L5 F k37 n v0 v1 x3 x4 S
def s_X8_isWord_J37 (F : Nat) (v0 : Nat) (v2 : Int64) (S : HS) : Option Int32 :=
  if (gI S 802 v0) = (1 : Int32) then
  if (lg_cmp (gJ S 805 v0) v2) = (0 : Int32) then
  some 1
  else
  some 0
  else
  some 0
def s_X8_isWord (F : Nat) (a : Nat) (p0 : Nat) (S : HS) : Option Int32 :=
  s_X8_isWord_L5 F (s_X8_isWord_J37 F) F a p0 0 0 S
set_option maxRecDepth 100000 in
set_option maxHeartbeats 4000000 in
theorem b_X8_isWord_5 {p : Program} {l : Launch} {e : Env} {s : State} {m : MethodId} {args : Array Value} {below : List Frame} {meth : Method} {c : Code} {V : EV} {G : GS} {r : Int32} {F : Nat} (C : CX p s m args meth c RX8 cX8_isWord 5 (some .boolean) V G) {k37 : Nat → Int64 → HS → Option Int32} (hk37 : ∀ (v0 : Nat) (v2 : Int64) (h_v0 : v0 ∈ G.1) (k_v0 : G.2.1 v0 = 8) (S : HS) (H : Heap) (locs : List Loc) (ls : Array Slot), k37 v0 v2 S = some r → HP V G S H → va_S (AG G s.heap.size) s.heap H locs → WT G S → lv_has ls 5 [(0, .ref v0), (2, .long v2)] → W p l e (RM 11 431) s m args below meth c H locs 0 0 (MQ below (QZ V G S r s.heap.size) args s 0 0 (AG G s.heap.size)) (F0 m 37 ls [])) : ∀ n : Nat, ∀ (v0 : Nat) (v1 : Nat) (v2 : Int64) (v4 : Int32) (h_v0 : v0 ∈ G.1) (k_v0 : G.2.1 v0 = 8) (h_v1 : v1 < nSC) (S : HS) (H : Heap) (locs : List Loc) (ls : Array Slot), s_X8_isWord_L5 F k37 n v0 v1 v2 v4 S = some r → HP V G S H → va_S (AG G s.heap.size) s.heap H locs → WT G S → lv_has ls 5 [(0, .ref v0), (1, .ref (V.2.2.1 v1)), (2, .long v2), (4, .int v4)] → W p l e (RM 11 431) s m args below meth c H locs 0 0 (MQ below (QZ V G S r s.heap.size) args s 0 0 (AG G s.heap.size)) (F0 m 5 ls []) := by
  intro n
  induction n with
  | zero =>
    intro v0 v1 v2 v4 h_v0 k_v0 h_v1 S H locs ls hf
    rw [s_X8_isWord_L5] at hf
    cases hf
  | succ n ih =>
    intro v0 v1 v2 v4 h_v0 k_v0 h_v1 S H locs ls hf hP hS hW hl
    have hx := C.1
    have hb := C.2.1
    rw [s_X8_isWord_L5] at hf
    refine lv_iload hx hb dX8_isWord_5 (lv_at hl 3 rfl) ?_
    refine lv_aload_n hx hb dX8_isWord_7 rfl (lv_at hl 1 rfl) ?_
    refine x_strlen C hP hS hW h_v1 qm_X8_74 (by decide) hl.1 rfl (Nat.le_of_ble_eq_true rfl) ⟨Nat.zero_le _, Nat.zero_le _⟩ dX8_isWord_8 (fun H locs hP hS hW => ?_)
    refine lv_icmp_ge (tgt := 37) hx hb dX8_isWord_11 (by decide) (fun c1 => ?_) (fun c1 => ?_)
    · have hf := if_t c1 hf
      exact hk37 v0 v2 h_v0 k_v0 S H locs _ hf hP hS hW (lv_sub hl [0, 2] rfl)
    · have hf := if_f c1 hf
      refine lv_lload_n hx hb dX8_isWord_14 rfl (lv_at hl 2 rfl) ?_
      refine lv_iconst (v := 5) hx hb dX8_isWord_15 rfl ?_
      refine lv_lshl hx hb dX8_isWord_16 rfl ?_
      refine lv_aload_n hx hb dX8_isWord_17 rfl (lv_at hl 1 rfl) ?_
      refine lv_iload hx hb dX8_isWord_18 (lv_at hl 3 rfl) ?_
      obtain ⟨r2, er2, hf⟩ := bd1_e hf
      refine x_charAt C hP hS hW h_v1 er2 qm_X8_77 (by decide) hl.1 rfl (Nat.le_of_ble_eq_true rfl) ⟨Nat.zero_le _, Nat.zero_le _⟩ dX8_isWord_20 (fun H locs hP hS hW => ?_)
      refine lv_bipush (v := 97) hx hb dX8_isWord_23 kc_bipush_97 ?_
      refine lv_isub hx hb dX8_isWord_25 ?_
      refine lv_iconst (v := 1) hx hb dX8_isWord_26 rfl ?_
      refine lv_iadd hx hb dX8_isWord_27 ?_
      refine lv_i2l hx hb dX8_isWord_28 rfl ?_
      refine lv_lor hx hb dX8_isWord_29 ?_
      obtain ⟨x3, ex3, hf⟩ := bnd_e hf
      refine nm_l ex3 ?_
      refine lv_lstore_n (lv' := [(2, .long x3), (0, .ref v0), (1, .ref (V.2.2.1 v1)), (4, .int v4)]) hx hb dX8_isWord_30 rfl hl (by decide) rfl (fun ls hl => ?_)
      obtain ⟨x4, ex4, hf⟩ := bnd_e hf
      refine lv_iinc (v := x4) (lv' := [(4, .int x4), (2, .long x3), (0, .ref v0), (1, .ref (V.2.2.1 v1))]) hx hb dX8_isWord_31 hl (k := 3) rfl ex4.symm (by decide) rfl (fun ls hl => ?_)
      refine lv_goto (tgt := 5) hx hb dX8_isWord_34 (by decide) ?_
      exact ih v0 v1 x3 x4 h_v0 k_v0 h_v1 S H locs _ hf hP hS hW (lv_sub hl [2, 3, 1, 0] rfl)
set_option maxRecDepth 100000 in
set_option maxHeartbeats 4000000 in
theorem b_X8_isWord_37 {p : Program} {l : Launch} {e : Env} {s : State} {m : MethodId} {args : Array Value} {below : List Frame} {meth : Method} {c : Code} {V : EV} {G : GS} {r : Int32} {F : Nat} (C : CX p s m args meth c RX8 cX8_isWord 5 (some .boolean) V G) : ∀ (v0 : Nat) (v2 : Int64) (h_v0 : v0 ∈ G.1) (k_v0 : G.2.1 v0 = 8) (S : HS) (H : Heap) (locs : List Loc) (ls : Array Slot), s_X8_isWord_J37 F v0 v2 S = some r → HP V G S H → va_S (AG G s.heap.size) s.heap H locs → WT G S → lv_has ls 5 [(0, .ref v0), (2, .long v2)] → W p l e (RM 11 431) s m args below meth c H locs 0 0 (MQ below (QZ V G S r s.heap.size) args s 0 0 (AG G s.heap.size)) (F0 m 37 ls []) := by
  intro v0 v2 h_v0 k_v0 S H locs ls hf hP hS hW hl
  have hx := C.1
  have hb := C.2.1
  unfold s_X8_isWord_J37 at hf
  refine lv_aload_n hx hb dX8_isWord_37 rfl (lv_at hl 0 rfl) ?_
  refine gf_X8_39 C hP h_v0 k_v0 dX8_isWord_38 ?_
  refine lv_iconst (v := 1) hx hb dX8_isWord_41 rfl ?_
  refine lv_icmp_ne (tgt := 58) hx hb dX8_isWord_42 (by decide) (fun c5 => ?_) (fun c5 => ?_)
  · have hf := if_f c5 hf
    refine lv_iconst (v := 0) hx hb dX8_isWord_58 rfl ?_
    cases hf
    exact x_retZ C hP hS hW isZ_0 dX8_isWord_59
  · have hf := if_t c5 hf
    refine lv_aload_n hx hb dX8_isWord_45 rfl (lv_at hl 0 rfl) ?_
    refine gf_X8_61 C hP h_v0 k_v0 dX8_isWord_46 ?_
    refine lv_lload_n hx hb dX8_isWord_49 rfl (lv_at hl 1 rfl) ?_
    refine W.lcmp hx hb dX8_isWord_50 ?_
    refine lv_if_ne (tgt := 58) hx hb dX8_isWord_51 (by decide) (fun c6 => ?_) (fun c6 => ?_)
    · have hf := if_f c6 hf
      refine lv_iconst (v := 0) hx hb dX8_isWord_58 rfl ?_
      cases hf
      exact x_retZ C hP hS hW isZ_0 dX8_isWord_59
    · have hf := if_t c6 hf
      refine lv_iconst (v := 1) hx hb dX8_isWord_54 rfl ?_
      refine lv_goto (tgt := 59) hx hb dX8_isWord_55 (by decide) ?_
      cases hf
      exact x_retZ C hP hS hW isZ_1 dX8_isWord_59
set_option maxRecDepth 100000 in
set_option maxHeartbeats 4000000 in
theorem c_X8_isWord {l : Launch} {V : EV} {G : GS} {S : HS} {F : Nat} {a : Nat} {p0 : Nat} {r : Int32} (hN : G.1.Nodup) (hW : WT G S) (h_a : a ∈ G.1) (k_a : G.2.1 a = 8) (h_p0 : p0 < nSC) (hf : s_X8_isWord F a p0 S = some r) : MetZ l yX8_isWord cX8_isWord 5 11 431 V G S [.ref a, .ref (V.2.2.1 p0)] r S := by
  intro sz
  refine x_in RX8 rfl (by decide +kernel) hN (Nat.le_of_ble_eq_true rfl) (fun p e s m args below meth c ls hsz hargs hnm C hP hS hl => ?_)
  subst hsz
  have hx := C.1
  have hb := C.2.1
  have hl : lv_has ls 5 [(0, .ref a), (1, .ref (V.2.2.1 p0))] := hl
  unfold s_X8_isWord at hf
  refine lv_lconst (v := 0) hx hb dX8_isWord_0 rfl ?_
  refine lv_lstore_n (lv' := [(2, .long 0), (0, .ref a), (1, .ref (V.2.2.1 p0))]) hx hb dX8_isWord_1 rfl hl (by decide) rfl (fun ls hl => ?_)
  refine lv_iconst (v := 0) hx hb dX8_isWord_2 rfl ?_
  refine lv_istore (lv' := [(4, .int 0), (2, .long 0), (0, .ref a), (1, .ref (V.2.2.1 p0))]) hx hb dX8_isWord_3 hl (by decide) rfl (fun ls hl => ?_)
  exact b_X8_isWord_5 C (b_X8_isWord_37 C) F a p0 0 0 h_a k_a h_p0 S s.heap [] _ hf hP hS hW (lv_sub hl [2, 3, 1, 0] rfl)
def s_X3_factNamed (F : Nat) (a : Nat) (S : HS) : Option Int32 :=
  bd1 (gR S 300 a) fun t1 =>
  bd1 (s_X8_isWord F t1 17 S) fun r2 =>
  if r2 = (0 : Int32) then
  bd1 (gR S 300 a) fun t5 =>
  bd1 (s_X8_isWord F t5 18 S) fun r6 =>
  if r6 = (0 : Int32) then
  bd1 (gR S 300 a) fun t9 =>
  bd1 (s_X8_isWord F t9 19 S) fun r10 =>
  if r10 = (0 : Int32) then
  bd1 (gR S 300 a) fun t13 =>
  bd1 (s_X8_isWord F t13 20 S) fun r14 =>
  if r14 = (0 : Int32) then
  some (-1)
  else
  some 3
  else
  some 2
  else
  some 1
  else
  some 0
set_option maxRecDepth 100000 in
set_option maxHeartbeats 4000000 in
theorem c_X3_factNamed {l : Launch} {V : EV} {G : GS} {S : HS} {F : Nat} {a : Nat} {r : Int32} (hN : G.1.Nodup) (hW : WT G S) (h_a : a ∈ G.1) (k_a : G.2.1 a = 3) (hf : s_X3_factNamed F a S = some r) : MetI l yX3_factNamed cX3_factNamed 1 .int 12 463 V G S [.ref a] r S := by
  intro sz
  refine x_in RX3 rfl (by decide +kernel) hN (Nat.le_of_ble_eq_true rfl) (fun p e s m args below meth c ls hsz hargs hnm C hP hS hl => ?_)
  subst hsz
  have hx := C.1
  have hb := C.2.1
  have hl : lv_has ls 1 [(0, .ref a)] := hl
  unfold s_X3_factNamed at hf
  refine lv_aload_n hx hb dX3_factNamed_0 rfl (lv_at hl 0 rfl) ?_
  refine gf_X3_9 C hP h_a k_a dX3_factNamed_1 ?_
  obtain ⟨t1, et1, hf⟩ := bd1_e hf
  obtain ⟨h_t1, k_t1⟩ := wt_r hW h_a k_a (by decide) et1
  have k_t1 : G.2.1 t1 = 8 := k_t1
  rw [et1]
  refine va_ldcS hx hb C.2.2.2.2.1 (C.2.2.2.2.2.2.2.2.1.1.2 (RX3, 78, "minus", 17) (List.mem_of_getElem? (i := 22) rfl)) dX3_factNamed_4 ?_
  obtain ⟨r2, er2, hf⟩ := bd1_e hf
  refine x_aft_z (x_runV (As := [.ref (V.2.2.1 17)]) (rest := []) C hP hS (c_X8_isWord (l := l) C.2.2.2.2.2.2.2.2.2.1 hW h_t1 k_t1 (by decide) er2 s.heap.size) h_t1 k_t1 (by decide) rfl rfl km_X8_isWord ki_X8_isWord qm_X3_41 ⟨(Nat.le_of_ble_eq_true rfl), (Nat.le_of_ble_eq_true rfl)⟩ rfl hl.1 rfl (Nat.le_of_ble_eq_true rfl) ⟨Nat.zero_le _, Nat.zero_le _⟩ dX3_factNamed_6) hS (fun H locs hP hS hW z3 => ?_)
  refine lv_if_eq (tgt := 14) hx hb dX3_factNamed_9 (by decide) (fun c4 => ?_) (fun c4 => ?_)
  · have hf := if_t c4 hf
    refine lv_aload_n hx hb dX3_factNamed_14 rfl (lv_at hl 0 rfl) ?_
    refine gf_X3_9 C hP h_a k_a dX3_factNamed_15 ?_
    obtain ⟨t5, et5, hf⟩ := bd1_e hf
    obtain ⟨h_t5, k_t5⟩ := wt_r hW h_a k_a (by decide) et5
    have k_t5 : G.2.1 t5 = 8 := k_t5
    rw [et5]
    refine va_ldcS hx hb C.2.2.2.2.1 (C.2.2.2.2.2.2.2.2.1.1.2 (RX3, 80, "odd", 18) (List.mem_of_getElem? (i := 23) rfl)) dX3_factNamed_18 ?_
    obtain ⟨r6, er6, hf⟩ := bd1_e hf
    refine x_aft_z (x_runV (As := [.ref (V.2.2.1 18)]) (rest := []) C hP hS (c_X8_isWord (l := l) C.2.2.2.2.2.2.2.2.2.1 hW h_t5 k_t5 (by decide) er6 H.size) h_t5 k_t5 (by decide) rfl rfl km_X8_isWord ki_X8_isWord qm_X3_41 ⟨(Nat.le_of_ble_eq_true rfl), (Nat.le_of_ble_eq_true rfl)⟩ rfl hl.1 rfl (Nat.le_of_ble_eq_true rfl) ⟨Nat.zero_le _, Nat.zero_le _⟩ dX3_factNamed_20) hS (fun H locs hP hS hW z7 => ?_)
    refine lv_if_eq (tgt := 28) hx hb dX3_factNamed_23 (by decide) (fun c8 => ?_) (fun c8 => ?_)
    · have hf := if_t c8 hf
      refine lv_aload_n hx hb dX3_factNamed_28 rfl (lv_at hl 0 rfl) ?_
      refine gf_X3_9 C hP h_a k_a dX3_factNamed_29 ?_
      obtain ⟨t9, et9, hf⟩ := bd1_e hf
      obtain ⟨h_t9, k_t9⟩ := wt_r hW h_a k_a (by decide) et9
      have k_t9 : G.2.1 t9 = 8 := k_t9
      rw [et9]
      refine va_ldcS hx hb C.2.2.2.2.1 (C.2.2.2.2.2.2.2.2.1.1.2 (RX3, 82, "guard", 19) (List.mem_of_getElem? (i := 24) rfl)) dX3_factNamed_32 ?_
      obtain ⟨r10, er10, hf⟩ := bd1_e hf
      refine x_aft_z (x_runV (As := [.ref (V.2.2.1 19)]) (rest := []) C hP hS (c_X8_isWord (l := l) C.2.2.2.2.2.2.2.2.2.1 hW h_t9 k_t9 (by decide) er10 H.size) h_t9 k_t9 (by decide) rfl rfl km_X8_isWord ki_X8_isWord qm_X3_41 ⟨(Nat.le_of_ble_eq_true rfl), (Nat.le_of_ble_eq_true rfl)⟩ rfl hl.1 rfl (Nat.le_of_ble_eq_true rfl) ⟨Nat.zero_le _, Nat.zero_le _⟩ dX3_factNamed_34) hS (fun H locs hP hS hW z11 => ?_)
      refine lv_if_eq (tgt := 42) hx hb dX3_factNamed_37 (by decide) (fun c12 => ?_) (fun c12 => ?_)
      · have hf := if_t c12 hf
        refine lv_aload_n hx hb dX3_factNamed_42 rfl (lv_at hl 0 rfl) ?_
        refine gf_X3_9 C hP h_a k_a dX3_factNamed_43 ?_
        obtain ⟨t13, et13, hf⟩ := bd1_e hf
        obtain ⟨h_t13, k_t13⟩ := wt_r hW h_a k_a (by decide) et13
        have k_t13 : G.2.1 t13 = 8 := k_t13
        rw [et13]
        refine va_ldcS hx hb C.2.2.2.2.1 (C.2.2.2.2.2.2.2.2.1.1.2 (RX3, 84, "rest", 20) (List.mem_of_getElem? (i := 25) rfl)) dX3_factNamed_46 ?_
        obtain ⟨r14, er14, hf⟩ := bd1_e hf
        refine x_aft_z (x_runV (As := [.ref (V.2.2.1 20)]) (rest := []) C hP hS (c_X8_isWord (l := l) C.2.2.2.2.2.2.2.2.2.1 hW h_t13 k_t13 (by decide) er14 H.size) h_t13 k_t13 (by decide) rfl rfl km_X8_isWord ki_X8_isWord qm_X3_41 ⟨(Nat.le_of_ble_eq_true rfl), (Nat.le_of_ble_eq_true rfl)⟩ rfl hl.1 rfl (Nat.le_of_ble_eq_true rfl) ⟨Nat.zero_le _, Nat.zero_le _⟩ dX3_factNamed_48) hS (fun H locs hP hS hW z15 => ?_)
        refine lv_if_eq (tgt := 58) hx hb dX3_factNamed_51 (by decide) (fun c16 => ?_) (fun c16 => ?_)
        · have hf := if_t c16 hf
          refine lv_iconst (v := (-1)) hx hb dX3_factNamed_58 rfl ?_
          cases hf
          exact x_reti C hP hS hW dX3_factNamed_59
        · have hf := if_f c16 hf
          refine lv_iconst (v := 3) hx hb dX3_factNamed_54 rfl ?_
          refine lv_goto (tgt := 59) hx hb dX3_factNamed_55 (by decide) ?_
          cases hf
          exact x_reti C hP hS hW dX3_factNamed_59
      · have hf := if_f c12 hf
        refine lv_iconst (v := 2) hx hb dX3_factNamed_40 rfl ?_
        cases hf
        exact x_reti C hP hS hW dX3_factNamed_41
    · have hf := if_f c8 hf
      refine lv_iconst (v := 1) hx hb dX3_factNamed_26 rfl ?_
      cases hf
      exact x_reti C hP hS hW dX3_factNamed_27
  · have hf := if_f c4 hf
    refine lv_iconst (v := 0) hx hb dX3_factNamed_12 rfl ?_
    cases hf
    exact x_reti C hP hS hW dX3_factNamed_13
def s_X3_init (a : Nat) (p0 : Nat) (S : HS) : HS :=
  bnd (uR S 300 a (some p0)) fun S1 =>
  S1
set_option maxRecDepth 100000 in
set_option maxHeartbeats 4000000 in
theorem c_X3_init {l : Launch} {V : EV} {G : GS} {S : HS} {a : Nat} {p0 : Nat} {S' : HS} (hN : G.1.Nodup) (hW : WT G S) (h_a : a ∈ G.1) (k_a : G.2.1 a = 3) (h_p0 : p0 ∈ G.1) (k_p0 : G.2.1 p0 = 8) (hf : s_X3_init a p0 S = S') : MetV l yX3_init cX3_init 2 1 28 V G S [.ref a, .ref p0] S' := by
  intro sz
  refine x_in RX3 rfl (by decide +kernel) hN (Nat.le_of_ble_eq_true rfl) (fun p e s m args below meth c ls hsz hargs hnm C hP hS hl => ?_)
  subst hsz
  have hx := C.1
  have hb := C.2.1
  have hin : meth.name = "<init>" := hnm
  have hl : lv_has ls 2 [(0, .ref a), (1, .ref p0)] := hl
  unfold s_X3_init at hf
  refine lv_aload_n hx hb dX3_init_0 rfl (lv_at hl 0 rfl) ?_
  refine x_obj C qobj_X3_3 qobji qobjc hl.1 dX3_init_1 (by show _ ≤ _; decide) (by show _ ≤ _; decide) ?_
  refine lv_aload_n hx hb dX3_init_4 rfl (lv_at hl 0 rfl) ?_
  refine lv_aload_n hx hb dX3_init_5 rfl (lv_at hl 1 rfl) ?_
  obtain ⟨S1, eS1, hf⟩ := bnd_e hf
  refine pf_X3_9 C hP hS h_a k_a hin eS1 dX3_init_6 (fun H locs hP hS => ?_)
  have hW : WT G S1 := by rw [eS1]; exact wt_uR hW ⟨h_p0, k_p0⟩
  cases hf
  exact x_retv C hP hS hW dX3_init_9
def s_X8_isRight (a : Nat) (S : HS) : Int32 :=
  if (gI S 807 a) = (0 : Int32) then
  1
  else
  0
set_option maxRecDepth 100000 in
set_option maxHeartbeats 4000000 in
theorem c_X8_isRight {l : Launch} {V : EV} {G : GS} {S : HS} {a : Nat} {r : Int32} (hN : G.1.Nodup) (hW : WT G S) (h_a : a ∈ G.1) (k_a : G.2.1 a = 8) (hf : s_X8_isRight a S = r) : MetZ l yX8_isRight cX8_isRight 1 0 0 V G S [.ref a] r S := by
  intro sz
  refine x_in RX8 rfl (by decide +kernel) hN (Nat.le_of_ble_eq_true rfl) (fun p e s m args below meth c ls hsz hargs hnm C hP hS hl => ?_)
  subst hsz
  have hx := C.1
  have hb := C.2.1
  have hl : lv_has ls 1 [(0, .ref a)] := hl
  unfold s_X8_isRight at hf
  refine lv_aload_n hx hb dX8_isRight_0 rfl (lv_at hl 0 rfl) ?_
  refine gf_X8_19 C hP h_a k_a dX8_isRight_1 ?_
  refine lv_if_ne (tgt := 11) hx hb dX8_isRight_4 (by decide) (fun c1 => ?_) (fun c1 => ?_)
  · have hf := if_f c1 hf
    refine lv_iconst (v := 0) hx hb dX8_isRight_11 rfl ?_
    cases hf
    exact x_retZ C hP hS hW isZ_0 dX8_isRight_12
  · have hf := if_t c1 hf
    refine lv_iconst (v := 1) hx hb dX8_isRight_7 rfl ?_
    refine lv_goto (tgt := 12) hx hb dX8_isRight_8 (by decide) ?_
    cases hf
    exact x_retZ C hP hS hW isZ_1 dX8_isRight_12
def s_X8_signAt (N : Nat → Nat) (a : Nat) (p0 : Int32) (S : HS) : Option Int32 :=
  if p0 < (0 : Int32) then
  if isC (0 : Int32) = true then
  some 0
  else none
  else
  if (gI S 801 a) ≤ p0 then
  if isC (0 : Int32) = true then
  some 0
  else none
  else
  if (1000 : Int32) ≤ p0 then
  if isC (0 : Int32) = true then
  some 0
  else none
  else
  bd1 (gR S 800 a) fun t7 =>
  if inB p0 (N t7) = true then
  if isC (aI S t7 p0.toNatClampNeg) = true then
  some (aI S t7 p0.toNatClampNeg)
  else none
  else none
set_option maxRecDepth 100000 in
set_option maxHeartbeats 4000000 in
theorem c_X8_signAt {l : Launch} {V : EV} {G : GS} {S : HS} {a : Nat} {p0 : Int32} {r : Int32} (hN : G.1.Nodup) (hW : WT G S) (h_a : a ∈ G.1) (k_a : G.2.1 a = 8) (hf : s_X8_signAt G.2.2 a p0 S = some r) : MetI l yX8_signAt cX8_signAt 2 .char 0 0 V G S [.ref a, .int p0] r S := by
  intro sz
  refine x_in RX8 rfl (by decide +kernel) hN (Nat.le_of_ble_eq_true rfl) (fun p e s m args below meth c ls hsz hargs hnm C hP hS hl => ?_)
  subst hsz
  have hx := C.1
  have hb := C.2.1
  have hl : lv_has ls 2 [(0, .ref a), (1, .int p0)] := hl
  unfold s_X8_signAt at hf
  refine lv_iload_n hx hb dX8_signAt_0 rfl (lv_at hl 1 rfl) ?_
  refine lv_if_lt (tgt := 28) hx hb dX8_signAt_1 (by decide) (fun c1 => ?_) (fun c1 => ?_)
  · have hf := if_t c1 hf
    refine lv_iconst (v := 0) hx hb dX8_signAt_28 rfl ?_
    obtain ⟨h2, hf⟩ := if_s hf
    cases hf
    exact x_retz C hP hS hW (isC_n h2).1 dX8_signAt_29
  · have hf := if_f c1 hf
    refine lv_iload_n hx hb dX8_signAt_4 rfl (lv_at hl 1 rfl) ?_
    refine lv_aload_n hx hb dX8_signAt_5 rfl (lv_at hl 0 rfl) ?_
    refine gf_X8_15 C hP h_a k_a dX8_signAt_6 ?_
    refine lv_icmp_ge (tgt := 28) hx hb dX8_signAt_9 (by decide) (fun c3 => ?_) (fun c3 => ?_)
    · have hf := if_t c3 hf
      refine lv_iconst (v := 0) hx hb dX8_signAt_28 rfl ?_
      obtain ⟨h4, hf⟩ := if_s hf
      cases hf
      exact x_retz C hP hS hW (isC_n h4).1 dX8_signAt_29
    · have hf := if_f c3 hf
      refine lv_iload_n hx hb dX8_signAt_12 rfl (lv_at hl 1 rfl) ?_
      refine lv_sipush (v := 1000) hx hb dX8_signAt_13 kc_sipush_1000 ?_
      refine lv_icmp_ge (tgt := 28) hx hb dX8_signAt_16 (by decide) (fun c5 => ?_) (fun c5 => ?_)
      · have hf := if_t c5 hf
        refine lv_iconst (v := 0) hx hb dX8_signAt_28 rfl ?_
        obtain ⟨h6, hf⟩ := if_s hf
        cases hf
        exact x_retz C hP hS hW (isC_n h6).1 dX8_signAt_29
      · have hf := if_f c5 hf
        refine lv_aload_n hx hb dX8_signAt_19 rfl (lv_at hl 0 rfl) ?_
        refine gf_X8_9 C hP h_a k_a dX8_signAt_20 ?_
        obtain ⟨t7, et7, hf⟩ := bd1_e hf
        obtain ⟨h_t7, k_t7⟩ := wt_r hW h_a k_a (by decide) et7
        have k_t7 : G.2.1 t7 = 13 := k_t7
        rw [et7]
        refine lv_iload_n hx hb dX8_signAt_23 rfl (lv_at hl 1 rfl) ?_
        obtain ⟨h8, hf⟩ := if_s hf
        refine x_cald C hP h_t7 k_t7 h8 dX8_signAt_24 ?_
        refine lv_goto (tgt := 29) hx hb dX8_signAt_25 (by decide) ?_
        obtain ⟨h9, hf⟩ := if_s hf
        cases hf
        exact x_retz C hP hS hW (isC_n h9).1 dX8_signAt_29
def s_X8_isLetter (p0 : Int32) (S : HS) : Int32 :=
  if p0 < (97 : Int32) then
  0
  else
  if (122 : Int32) < p0 then
  0
  else
  1
set_option maxRecDepth 100000 in
set_option maxHeartbeats 4000000 in
theorem c_X8_isLetter {l : Launch} {V : EV} {G : GS} {S : HS} {p0 : Int32} {r : Int32} (hN : G.1.Nodup) (hW : WT G S) (hf : s_X8_isLetter p0 S = r) : MetZ l yX8_isLetter cX8_isLetter 1 0 0 V G S [.int p0] r S := by
  intro sz
  refine x_in RX8 rfl (by decide +kernel) hN (Nat.le_of_ble_eq_true rfl) (fun p e s m args below meth c ls hsz hargs hnm C hP hS hl => ?_)
  subst hsz
  have hx := C.1
  have hb := C.2.1
  have hl : lv_has ls 1 [(0, .int p0)] := hl
  unfold s_X8_isLetter at hf
  refine lv_iload_n hx hb dX8_isLetter_0 rfl (lv_at hl 0 rfl) ?_
  refine lv_bipush (v := 97) hx hb dX8_isLetter_1 kc_bipush_97 ?_
  refine lv_icmp_lt (tgt := 16) hx hb dX8_isLetter_3 (by decide) (fun c1 => ?_) (fun c1 => ?_)
  · have hf := if_t c1 hf
    refine lv_iconst (v := 0) hx hb dX8_isLetter_16 rfl ?_
    cases hf
    exact x_retZ C hP hS hW isZ_0 dX8_isLetter_17
  · have hf := if_f c1 hf
    refine lv_iload_n hx hb dX8_isLetter_6 rfl (lv_at hl 0 rfl) ?_
    refine lv_bipush (v := 122) hx hb dX8_isLetter_7 kc_bipush_122 ?_
    refine lv_icmp_gt (tgt := 16) hx hb dX8_isLetter_9 (by decide) (fun c2 => ?_) (fun c2 => ?_)
    · have hf := if_t c2 hf
      refine lv_iconst (v := 0) hx hb dX8_isLetter_16 rfl ?_
      cases hf
      exact x_retZ C hP hS hW isZ_0 dX8_isLetter_17
    · have hf := if_f c2 hf
      refine lv_iconst (v := 1) hx hb dX8_isLetter_12 rfl ?_
      refine lv_goto (tgt := 17) hx hb dX8_isLetter_13 (by decide) ?_
      cases hf
      exact x_retZ C hP hS hW isZ_1 dX8_isLetter_17
def s_X8_readWord_L12 (N : Nat → Nat) (F : Nat) (k62 : Nat → Int32 → HS → Option HS) : Nat → Nat → Int32 → Int32 → HS → Option HS
  | 0, _, _, _, _ => none
  | n + 1, v0, v1, v2, S => if (gI S 801 v0) ≤ v2 then
  k62 v0 v1 S
  else
  bd1 (s_X8_signAt N v0 v2 S) fun r4 =>
  if (s_X8_isLetter r4 S) = (0 : Int32) then
  k62 v0 v1 S
  else
  bd1 (s_X8_signAt N v0 v2 S) fun r7 =>
  bnd (uJ S 805 v0 (((gJ S 805 v0) <<< ((5 : Int32).toInt64 &&& 63)) ||| (((r7 - 97) + 1).toInt64))) fun S8 =>
  bnd (v1 + Int32.ofInt 1 : Int32) fun x9 =>
  bnd (v2 + Int32.ofInt 1 : Int32) fun x10 =>
  s_X8_readWord_L12 N F k62 n v0 x9 x10 S8
def s_X8_readWord_J84 (N : Nat → Nat) (F : Nat) (w0 : Nat) (w1 : Int32) (S : HS) : Option HS :=
  bnd (uI S 802 w0 w1) fun S13 =>
  some S13
def s_X8_readWord_J62 (N : Nat → Nat) (F : Nat) (v0 : Nat) (v1 : Int32) (S : HS) : Option HS :=
  bnd (uI S 804 v0 ((gI S 803 v0) + v1)) fun S11 =>
  if (8 : Int32) < v1 then
  s_X8_readWord_J84 N F v0 3 S11
  else
  s_X8_readWord_J84 N F v0 1 S11
def s_X8_readWord (N : Nat → Nat) (F : Nat) (a : Nat) (S : HS) : Option HS :=
  bnd (uJ S 805 a 0) fun S1 =>
  bnd (gI S1 803 a : Int32) fun x2 =>
  s_X8_readWord_L12 N F (s_X8_readWord_J62 N F) F a 0 x2 S1
set_option maxRecDepth 100000 in
set_option maxHeartbeats 4000000 in
theorem b_X8_readWord_12 {p : Program} {l : Launch} {e : Env} {s : State} {m : MethodId} {args : Array Value} {below : List Frame} {meth : Method} {c : Code} {V : EV} {G : GS} {S' : HS} {F : Nat} (C : CX p s m args meth c RX8 cX8_readWord 3 none V G) {k62 : Nat → Int32 → HS → Option HS} (hk62 : ∀ (v0 : Nat) (v1 : Int32) (h_v0 : v0 ∈ G.1) (k_v0 : G.2.1 v0 = 8) (S : HS) (H : Heap) (locs : List Loc) (ls : Array Slot), k62 v0 v1 S = some S' → HP V G S H → va_S (AG G s.heap.size) s.heap H locs → WT G S → lv_has ls 3 [(0, .ref v0), (1, .int v1)] → W p l e (RM 1 29) s m args below meth c H locs 0 0 (MQ below (QV V G S' s.heap.size) args s 0 0 (AG G s.heap.size)) (F0 m 62 ls [])) : ∀ n : Nat, ∀ (v0 : Nat) (v1 : Int32) (v2 : Int32) (h_v0 : v0 ∈ G.1) (k_v0 : G.2.1 v0 = 8) (S : HS) (H : Heap) (locs : List Loc) (ls : Array Slot), s_X8_readWord_L12 G.2.2 F k62 n v0 v1 v2 S = some S' → HP V G S H → va_S (AG G s.heap.size) s.heap H locs → WT G S → lv_has ls 3 [(0, .ref v0), (1, .int v1), (2, .int v2)] → W p l e (RM 1 29) s m args below meth c H locs 0 0 (MQ below (QV V G S' s.heap.size) args s 0 0 (AG G s.heap.size)) (F0 m 12 ls []) := by
  intro n
  induction n with
  | zero =>
    intro v0 v1 v2 h_v0 k_v0 S H locs ls hf
    rw [s_X8_readWord_L12] at hf
    cases hf
  | succ n ih =>
    intro v0 v1 v2 h_v0 k_v0 S H locs ls hf hP hS hW hl
    have hx := C.1
    have hb := C.2.1
    rw [s_X8_readWord_L12] at hf
    refine lv_iload_n hx hb dX8_readWord_12 rfl (lv_at hl 2 rfl) ?_
    refine lv_aload_n hx hb dX8_readWord_13 rfl (lv_at hl 0 rfl) ?_
    refine gf_X8_15 C hP h_v0 k_v0 dX8_readWord_14 ?_
    refine lv_icmp_ge (tgt := 62) hx hb dX8_readWord_17 (by decide) (fun c3 => ?_) (fun c3 => ?_)
    · have hf := if_t c3 hf
      exact hk62 v0 v1 h_v0 k_v0 S H locs _ hf hP hS hW (lv_sub hl [0, 1] rfl)
    · have hf := if_f c3 hf
      refine lv_aload_n hx hb dX8_readWord_20 rfl (lv_at hl 0 rfl) ?_
      refine lv_iload_n hx hb dX8_readWord_21 rfl (lv_at hl 2 rfl) ?_
      obtain ⟨r4, er4, hf⟩ := bd1_e hf
      refine x_aft_i (x_runV (As := [.int v2]) (rest := []) C hP hS (c_X8_signAt (l := l) C.2.2.2.2.2.2.2.2.2.1 hW h_v0 k_v0 er4 H.size) h_v0 k_v0 (by decide) rfl rfl km_X8_signAt ki_X8_signAt qm_X8_35 ⟨(Nat.le_of_ble_eq_true rfl), (Nat.le_of_ble_eq_true rfl)⟩ rfl hl.1 rfl (Nat.le_of_ble_eq_true rfl) ⟨Nat.zero_le _, Nat.zero_le _⟩ dX8_readWord_22) hS (fun H locs hP hS hW => ?_)
      refine x_aft_z (x_runS (As := [.int r4]) (rest := []) C hP hS (c_X8_isLetter (l := l) C.2.2.2.2.2.2.2.2.2.1 hW rfl H.size) km_X8_isLetter ks_X8_isLetter qm_X8_42 ⟨(Nat.le_of_ble_eq_true rfl), (Nat.le_of_ble_eq_true rfl)⟩ rfl hl.1 rfl (Nat.le_of_ble_eq_true rfl) ⟨Nat.zero_le _, Nat.zero_le _⟩ dX8_readWord_25) hS (fun H locs hP hS hW z5 => ?_)
      refine lv_if_eq (tgt := 62) hx hb dX8_readWord_28 (by decide) (fun c6 => ?_) (fun c6 => ?_)
      · have hf := if_t c6 hf
        exact hk62 v0 v1 h_v0 k_v0 S H locs _ hf hP hS hW (lv_sub hl [0, 1] rfl)
      · have hf := if_f c6 hf
        refine lv_aload_n hx hb dX8_readWord_31 rfl (lv_at hl 0 rfl) ?_
        refine lv_aload_n hx hb dX8_readWord_32 rfl (lv_at hl 0 rfl) ?_
        refine gf_X8_61 C hP h_v0 k_v0 dX8_readWord_33 ?_
        refine lv_iconst (v := 5) hx hb dX8_readWord_36 rfl ?_
        refine lv_lshl hx hb dX8_readWord_37 rfl ?_
        refine lv_aload_n hx hb dX8_readWord_38 rfl (lv_at hl 0 rfl) ?_
        refine lv_iload_n hx hb dX8_readWord_39 rfl (lv_at hl 2 rfl) ?_
        obtain ⟨r7, er7, hf⟩ := bd1_e hf
        refine x_aft_i (x_runV (As := [.int v2]) (rest := [.long ((gJ S 805 v0) <<< ((5 : Int32).toInt64 &&& 63)), .ref v0]) C hP hS (c_X8_signAt (l := l) C.2.2.2.2.2.2.2.2.2.1 hW h_v0 k_v0 er7 H.size) h_v0 k_v0 (by decide) rfl rfl km_X8_signAt ki_X8_signAt qm_X8_35 ⟨(Nat.le_of_ble_eq_true rfl), (Nat.le_of_ble_eq_true rfl)⟩ rfl hl.1 rfl (Nat.le_of_ble_eq_true rfl) ⟨Nat.zero_le _, Nat.zero_le _⟩ dX8_readWord_40) hS (fun H locs hP hS hW => ?_)
        refine lv_bipush (v := 97) hx hb dX8_readWord_43 kc_bipush_97 ?_
        refine lv_isub hx hb dX8_readWord_45 ?_
        refine lv_iconst (v := 1) hx hb dX8_readWord_46 rfl ?_
        refine lv_iadd hx hb dX8_readWord_47 ?_
        refine lv_i2l hx hb dX8_readWord_48 rfl ?_
        refine lv_lor hx hb dX8_readWord_49 ?_
        obtain ⟨S8, eS8, hf⟩ := bnd_e hf
        refine pf_X8_61 C hP hS h_v0 k_v0 eS8 dX8_readWord_50 (fun H locs hP hS => ?_)
        have hW : WT G S8 := by rw [eS8]; exact hW
        obtain ⟨x9, ex9, hf⟩ := bnd_e hf
        refine lv_iinc (v := x9) (lv' := [(1, .int x9), (0, .ref v0), (2, .int v2)]) hx hb dX8_readWord_53 hl (k := 1) rfl ex9.symm (by decide) rfl (fun ls hl => ?_)
        obtain ⟨x10, ex10, hf⟩ := bnd_e hf
        refine lv_iinc (v := x10) (lv' := [(2, .int x10), (1, .int x9), (0, .ref v0)]) hx hb dX8_readWord_56 hl (k := 2) rfl ex10.symm (by decide) rfl (fun ls hl => ?_)
        refine lv_goto (tgt := 12) hx hb dX8_readWord_59 (by decide) ?_
        exact ih v0 x9 x10 h_v0 k_v0 S8 H locs _ hf hP hS hW (lv_sub hl [2, 1, 0] rfl)
set_option maxRecDepth 100000 in
set_option maxHeartbeats 4000000 in
theorem b_X8_readWord_84 {p : Program} {l : Launch} {e : Env} {s : State} {m : MethodId} {args : Array Value} {below : List Frame} {meth : Method} {c : Code} {V : EV} {G : GS} {S' : HS} {F : Nat} (C : CX p s m args meth c RX8 cX8_readWord 3 none V G) : ∀ (w0 : Nat) (w1 : Int32) (h_w0 : w0 ∈ G.1) (k_w0 : G.2.1 w0 = 8) (S : HS) (H : Heap) (locs : List Loc) (ls : Array Slot), s_X8_readWord_J84 G.2.2 F w0 w1 S = some S' → HP V G S H → va_S (AG G s.heap.size) s.heap H locs → WT G S → lv_has ls 3 [] → W p l e (RM 1 29) s m args below meth c H locs 0 0 (MQ below (QV V G S' s.heap.size) args s 0 0 (AG G s.heap.size)) (F0 m 84 ls [.int w1, .ref w0]) := by
  intro w0 w1 h_w0 k_w0 S H locs ls hf hP hS hW hl
  have hx := C.1
  have hb := C.2.1
  unfold s_X8_readWord_J84 at hf
  obtain ⟨S13, eS13, hf⟩ := bnd_e hf
  refine pf_X8_39 C hP hS h_w0 k_w0 eS13 dX8_readWord_84 (fun H locs hP hS => ?_)
  have hW : WT G S13 := by rw [eS13]; exact hW
  cases hf
  exact x_retv C hP hS hW dX8_readWord_87
set_option maxRecDepth 100000 in
set_option maxHeartbeats 4000000 in
theorem b_X8_readWord_62 {p : Program} {l : Launch} {e : Env} {s : State} {m : MethodId} {args : Array Value} {below : List Frame} {meth : Method} {c : Code} {V : EV} {G : GS} {S' : HS} {F : Nat} (C : CX p s m args meth c RX8 cX8_readWord 3 none V G) : ∀ (v0 : Nat) (v1 : Int32) (h_v0 : v0 ∈ G.1) (k_v0 : G.2.1 v0 = 8) (S : HS) (H : Heap) (locs : List Loc) (ls : Array Slot), s_X8_readWord_J62 G.2.2 F v0 v1 S = some S' → HP V G S H → va_S (AG G s.heap.size) s.heap H locs → WT G S → lv_has ls 3 [(0, .ref v0), (1, .int v1)] → W p l e (RM 1 29) s m args below meth c H locs 0 0 (MQ below (QV V G S' s.heap.size) args s 0 0 (AG G s.heap.size)) (F0 m 62 ls []) := by
  intro v0 v1 h_v0 k_v0 S H locs ls hf hP hS hW hl
  have hx := C.1
  have hb := C.2.1
  unfold s_X8_readWord_J62 at hf
  refine lv_aload_n hx hb dX8_readWord_62 rfl (lv_at hl 0 rfl) ?_
  refine lv_aload_n hx hb dX8_readWord_63 rfl (lv_at hl 0 rfl) ?_
  refine gf_X8_32 C hP h_v0 k_v0 dX8_readWord_64 ?_
  refine lv_iload_n hx hb dX8_readWord_67 rfl (lv_at hl 1 rfl) ?_
  refine lv_iadd hx hb dX8_readWord_68 ?_
  obtain ⟨S11, eS11, hf⟩ := bnd_e hf
  refine pf_X8_26 C hP hS h_v0 k_v0 eS11 dX8_readWord_69 (fun H locs hP hS => ?_)
  have hW : WT G S11 := by rw [eS11]; exact hW
  refine lv_aload_n hx hb dX8_readWord_72 rfl (lv_at hl 0 rfl) ?_
  refine lv_iload_n hx hb dX8_readWord_73 rfl (lv_at hl 1 rfl) ?_
  refine lv_bipush (v := 8) hx hb dX8_readWord_74 kc_bipush_8 ?_
  refine lv_icmp_gt (tgt := 83) hx hb dX8_readWord_76 (by decide) (fun c12 => ?_) (fun c12 => ?_)
  · have hf := if_t c12 hf
    refine lv_iconst (v := 3) hx hb dX8_readWord_83 rfl ?_
    exact b_X8_readWord_84 C v0 3 h_v0 k_v0 S11 H locs _ hf hP hS hW (lv_sub hl [] rfl)
  · have hf := if_f c12 hf
    refine lv_iconst (v := 1) hx hb dX8_readWord_79 rfl ?_
    refine lv_goto (tgt := 84) hx hb dX8_readWord_80 (by decide) ?_
    exact b_X8_readWord_84 C v0 1 h_v0 k_v0 S11 H locs _ hf hP hS hW (lv_sub hl [] rfl)
set_option maxRecDepth 100000 in
set_option maxHeartbeats 4000000 in
theorem c_X8_readWord {l : Launch} {V : EV} {G : GS} {S : HS} {F : Nat} {a : Nat} {S' : HS} (hN : G.1.Nodup) (hW : WT G S) (h_a : a ∈ G.1) (k_a : G.2.1 a = 8) (hf : s_X8_readWord G.2.2 F a S = some S') : MetV l yX8_readWord cX8_readWord 3 1 29 V G S [.ref a] S' := by
  intro sz
  refine x_in RX8 rfl (by decide +kernel) hN (Nat.le_of_ble_eq_true rfl) (fun p e s m args below meth c ls hsz hargs hnm C hP hS hl => ?_)
  subst hsz
  have hx := C.1
  have hb := C.2.1
  have hl : lv_has ls 3 [(0, .ref a)] := hl
  unfold s_X8_readWord at hf
  refine lv_iconst (v := 0) hx hb dX8_readWord_0 rfl ?_
  refine lv_istore_n (lv' := [(1, .int 0), (0, .ref a)]) hx hb dX8_readWord_1 rfl hl (by decide) rfl (fun ls hl => ?_)
  refine lv_aload_n hx hb dX8_readWord_2 rfl (lv_at hl 1 rfl) ?_
  refine lv_lconst (v := 0) hx hb dX8_readWord_3 rfl ?_
  obtain ⟨S1, eS1, hf⟩ := bnd_e hf
  refine pf_X8_61 C hP hS h_a k_a eS1 dX8_readWord_4 (fun H locs hP hS => ?_)
  have hW : WT G S1 := by rw [eS1]; exact hW
  refine lv_aload_n hx hb dX8_readWord_7 rfl (lv_at hl 1 rfl) ?_
  refine gf_X8_32 C hP h_a k_a dX8_readWord_8 ?_
  obtain ⟨x2, ex2, hf⟩ := bnd_e hf
  refine nm_i ex2 ?_
  refine lv_istore_n (lv' := [(2, .int x2), (1, .int 0), (0, .ref a)]) hx hb dX8_readWord_11 rfl hl (by decide) rfl (fun ls hl => ?_)
  exact b_X8_readWord_12 C (b_X8_readWord_62 C) F a 0 x2 h_a k_a S1 H locs _ hf hP hS hW (lv_sub hl [2, 1, 0] rfl)
def s_X8_isDigit (p0 : Int32) (S : HS) : Int32 :=
  if p0 < (48 : Int32) then
  0
  else
  if (57 : Int32) < p0 then
  0
  else
  1
set_option maxRecDepth 100000 in
set_option maxHeartbeats 4000000 in
theorem c_X8_isDigit {l : Launch} {V : EV} {G : GS} {S : HS} {p0 : Int32} {r : Int32} (hN : G.1.Nodup) (hW : WT G S) (hf : s_X8_isDigit p0 S = r) : MetZ l yX8_isDigit cX8_isDigit 1 0 0 V G S [.int p0] r S := by
  intro sz
  refine x_in RX8 rfl (by decide +kernel) hN (Nat.le_of_ble_eq_true rfl) (fun p e s m args below meth c ls hsz hargs hnm C hP hS hl => ?_)
  subst hsz
  have hx := C.1
  have hb := C.2.1
  have hl : lv_has ls 1 [(0, .int p0)] := hl
  unfold s_X8_isDigit at hf
  refine lv_iload_n hx hb dX8_isDigit_0 rfl (lv_at hl 0 rfl) ?_
  refine lv_bipush (v := 48) hx hb dX8_isDigit_1 kc_bipush_48 ?_
  refine lv_icmp_lt (tgt := 16) hx hb dX8_isDigit_3 (by decide) (fun c1 => ?_) (fun c1 => ?_)
  · have hf := if_t c1 hf
    refine lv_iconst (v := 0) hx hb dX8_isDigit_16 rfl ?_
    cases hf
    exact x_retZ C hP hS hW isZ_0 dX8_isDigit_17
  · have hf := if_f c1 hf
    refine lv_iload_n hx hb dX8_isDigit_6 rfl (lv_at hl 0 rfl) ?_
    refine lv_bipush (v := 57) hx hb dX8_isDigit_7 kc_bipush_57 ?_
    refine lv_icmp_gt (tgt := 16) hx hb dX8_isDigit_9 (by decide) (fun c2 => ?_) (fun c2 => ?_)
    · have hf := if_t c2 hf
      refine lv_iconst (v := 0) hx hb dX8_isDigit_16 rfl ?_
      cases hf
      exact x_retZ C hP hS hW isZ_0 dX8_isDigit_17
    · have hf := if_f c2 hf
      refine lv_iconst (v := 1) hx hb dX8_isDigit_12 rfl ?_
      refine lv_goto (tgt := 17) hx hb dX8_isDigit_13 (by decide) ?_
      cases hf
      exact x_retZ C hP hS hW isZ_1 dX8_isDigit_17
def s_X8_readNumber_L12 (N : Nat → Nat) (F : Nat) (k60 : Nat → Int32 → HS → Option HS) : Nat → Nat → Int32 → Int32 → HS → Option HS
  | 0, _, _, _, _ => none
  | n + 1, v0, v1, v2, S => if (gI S 801 v0) ≤ v2 then
  k60 v0 v1 S
  else
  bd1 (s_X8_signAt N v0 v2 S) fun r4 =>
  if (s_X8_isDigit r4 S) = (0 : Int32) then
  k60 v0 v1 S
  else
  bd1 (s_X8_signAt N v0 v2 S) fun r7 =>
  bnd (uI S 806 v0 ((((gI S 806 v0) * 10) + r7) - 48)) fun S8 =>
  bnd (v1 + Int32.ofInt 1 : Int32) fun x9 =>
  bnd (v2 + Int32.ofInt 1 : Int32) fun x10 =>
  s_X8_readNumber_L12 N F k60 n v0 x9 x10 S8
def s_X8_readNumber_J81 (N : Nat → Nat) (F : Nat) (w0 : Nat) (w1 : Int32) (S : HS) : Option HS :=
  bnd (uI S 802 w0 w1) fun S13 =>
  some S13
def s_X8_readNumber_J60 (N : Nat → Nat) (F : Nat) (v0 : Nat) (v1 : Int32) (S : HS) : Option HS :=
  bnd (uI S 804 v0 ((gI S 803 v0) + v1)) fun S11 =>
  if (4 : Int32) < v1 then
  s_X8_readNumber_J81 N F v0 3 S11
  else
  s_X8_readNumber_J81 N F v0 2 S11
def s_X8_readNumber (N : Nat → Nat) (F : Nat) (a : Nat) (S : HS) : Option HS :=
  bnd (uI S 806 a 0) fun S1 =>
  bnd (gI S1 803 a : Int32) fun x2 =>
  s_X8_readNumber_L12 N F (s_X8_readNumber_J60 N F) F a 0 x2 S1
set_option maxRecDepth 100000 in
set_option maxHeartbeats 4000000 in
theorem b_X8_readNumber_12 {p : Program} {l : Launch} {e : Env} {s : State} {m : MethodId} {args : Array Value} {below : List Frame} {meth : Method} {c : Code} {V : EV} {G : GS} {S' : HS} {F : Nat} (C : CX p s m args meth c RX8 cX8_readNumber 3 none V G) {k60 : Nat → Int32 → HS → Option HS} (hk60 : ∀ (v0 : Nat) (v1 : Int32) (h_v0 : v0 ∈ G.1) (k_v0 : G.2.1 v0 = 8) (S : HS) (H : Heap) (locs : List Loc) (ls : Array Slot), k60 v0 v1 S = some S' → HP V G S H → va_S (AG G s.heap.size) s.heap H locs → WT G S → lv_has ls 3 [(0, .ref v0), (1, .int v1)] → W p l e (RM 1 29) s m args below meth c H locs 0 0 (MQ below (QV V G S' s.heap.size) args s 0 0 (AG G s.heap.size)) (F0 m 60 ls [])) : ∀ n : Nat, ∀ (v0 : Nat) (v1 : Int32) (v2 : Int32) (h_v0 : v0 ∈ G.1) (k_v0 : G.2.1 v0 = 8) (S : HS) (H : Heap) (locs : List Loc) (ls : Array Slot), s_X8_readNumber_L12 G.2.2 F k60 n v0 v1 v2 S = some S' → HP V G S H → va_S (AG G s.heap.size) s.heap H locs → WT G S → lv_has ls 3 [(0, .ref v0), (1, .int v1), (2, .int v2)] → W p l e (RM 1 29) s m args below meth c H locs 0 0 (MQ below (QV V G S' s.heap.size) args s 0 0 (AG G s.heap.size)) (F0 m 12 ls []) := by
  intro n
  induction n with
  | zero =>
    intro v0 v1 v2 h_v0 k_v0 S H locs ls hf
    rw [s_X8_readNumber_L12] at hf
    cases hf
  | succ n ih =>
    intro v0 v1 v2 h_v0 k_v0 S H locs ls hf hP hS hW hl
    have hx := C.1
    have hb := C.2.1
    rw [s_X8_readNumber_L12] at hf
    refine lv_iload_n hx hb dX8_readNumber_12 rfl (lv_at hl 2 rfl) ?_
    refine lv_aload_n hx hb dX8_readNumber_13 rfl (lv_at hl 0 rfl) ?_
    refine gf_X8_15 C hP h_v0 k_v0 dX8_readNumber_14 ?_
    refine lv_icmp_ge (tgt := 60) hx hb dX8_readNumber_17 (by decide) (fun c3 => ?_) (fun c3 => ?_)
    · have hf := if_t c3 hf
      exact hk60 v0 v1 h_v0 k_v0 S H locs _ hf hP hS hW (lv_sub hl [0, 1] rfl)
    · have hf := if_f c3 hf
      refine lv_aload_n hx hb dX8_readNumber_20 rfl (lv_at hl 0 rfl) ?_
      refine lv_iload_n hx hb dX8_readNumber_21 rfl (lv_at hl 2 rfl) ?_
      obtain ⟨r4, er4, hf⟩ := bd1_e hf
      refine x_aft_i (x_runV (As := [.int v2]) (rest := []) C hP hS (c_X8_signAt (l := l) C.2.2.2.2.2.2.2.2.2.1 hW h_v0 k_v0 er4 H.size) h_v0 k_v0 (by decide) rfl rfl km_X8_signAt ki_X8_signAt qm_X8_35 ⟨(Nat.le_of_ble_eq_true rfl), (Nat.le_of_ble_eq_true rfl)⟩ rfl hl.1 rfl (Nat.le_of_ble_eq_true rfl) ⟨Nat.zero_le _, Nat.zero_le _⟩ dX8_readNumber_22) hS (fun H locs hP hS hW => ?_)
      refine x_aft_z (x_runS (As := [.int r4]) (rest := []) C hP hS (c_X8_isDigit (l := l) C.2.2.2.2.2.2.2.2.2.1 hW rfl H.size) km_X8_isDigit ks_X8_isDigit qm_X8_49 ⟨(Nat.le_of_ble_eq_true rfl), (Nat.le_of_ble_eq_true rfl)⟩ rfl hl.1 rfl (Nat.le_of_ble_eq_true rfl) ⟨Nat.zero_le _, Nat.zero_le _⟩ dX8_readNumber_25) hS (fun H locs hP hS hW z5 => ?_)
      refine lv_if_eq (tgt := 60) hx hb dX8_readNumber_28 (by decide) (fun c6 => ?_) (fun c6 => ?_)
      · have hf := if_t c6 hf
        exact hk60 v0 v1 h_v0 k_v0 S H locs _ hf hP hS hW (lv_sub hl [0, 1] rfl)
      · have hf := if_f c6 hf
        refine lv_aload_n hx hb dX8_readNumber_31 rfl (lv_at hl 0 rfl) ?_
        refine lv_aload_n hx hb dX8_readNumber_32 rfl (lv_at hl 0 rfl) ?_
        refine gf_X8_65 C hP h_v0 k_v0 dX8_readNumber_33 ?_
        refine lv_bipush (v := 10) hx hb dX8_readNumber_36 kc_bipush_10 ?_
        refine lv_imul hx hb dX8_readNumber_38 ?_
        refine lv_aload_n hx hb dX8_readNumber_39 rfl (lv_at hl 0 rfl) ?_
        refine lv_iload_n hx hb dX8_readNumber_40 rfl (lv_at hl 2 rfl) ?_
        obtain ⟨r7, er7, hf⟩ := bd1_e hf
        refine x_aft_i (x_runV (As := [.int v2]) (rest := [.int ((gI S 806 v0) * 10), .ref v0]) C hP hS (c_X8_signAt (l := l) C.2.2.2.2.2.2.2.2.2.1 hW h_v0 k_v0 er7 H.size) h_v0 k_v0 (by decide) rfl rfl km_X8_signAt ki_X8_signAt qm_X8_35 ⟨(Nat.le_of_ble_eq_true rfl), (Nat.le_of_ble_eq_true rfl)⟩ rfl hl.1 rfl (Nat.le_of_ble_eq_true rfl) ⟨Nat.zero_le _, Nat.zero_le _⟩ dX8_readNumber_41) hS (fun H locs hP hS hW => ?_)
        refine lv_iadd hx hb dX8_readNumber_44 ?_
        refine lv_bipush (v := 48) hx hb dX8_readNumber_45 kc_bipush_48 ?_
        refine lv_isub hx hb dX8_readNumber_47 ?_
        obtain ⟨S8, eS8, hf⟩ := bnd_e hf
        refine pf_X8_65 C hP hS h_v0 k_v0 eS8 dX8_readNumber_48 (fun H locs hP hS => ?_)
        have hW : WT G S8 := by rw [eS8]; exact hW
        obtain ⟨x9, ex9, hf⟩ := bnd_e hf
        refine lv_iinc (v := x9) (lv' := [(1, .int x9), (0, .ref v0), (2, .int v2)]) hx hb dX8_readNumber_51 hl (k := 1) rfl ex9.symm (by decide) rfl (fun ls hl => ?_)
        obtain ⟨x10, ex10, hf⟩ := bnd_e hf
        refine lv_iinc (v := x10) (lv' := [(2, .int x10), (1, .int x9), (0, .ref v0)]) hx hb dX8_readNumber_54 hl (k := 2) rfl ex10.symm (by decide) rfl (fun ls hl => ?_)
        refine lv_goto (tgt := 12) hx hb dX8_readNumber_57 (by decide) ?_
        exact ih v0 x9 x10 h_v0 k_v0 S8 H locs _ hf hP hS hW (lv_sub hl [2, 1, 0] rfl)
set_option maxRecDepth 100000 in
set_option maxHeartbeats 4000000 in
theorem b_X8_readNumber_81 {p : Program} {l : Launch} {e : Env} {s : State} {m : MethodId} {args : Array Value} {below : List Frame} {meth : Method} {c : Code} {V : EV} {G : GS} {S' : HS} {F : Nat} (C : CX p s m args meth c RX8 cX8_readNumber 3 none V G) : ∀ (w0 : Nat) (w1 : Int32) (h_w0 : w0 ∈ G.1) (k_w0 : G.2.1 w0 = 8) (S : HS) (H : Heap) (locs : List Loc) (ls : Array Slot), s_X8_readNumber_J81 G.2.2 F w0 w1 S = some S' → HP V G S H → va_S (AG G s.heap.size) s.heap H locs → WT G S → lv_has ls 3 [] → W p l e (RM 1 29) s m args below meth c H locs 0 0 (MQ below (QV V G S' s.heap.size) args s 0 0 (AG G s.heap.size)) (F0 m 81 ls [.int w1, .ref w0]) := by
  intro w0 w1 h_w0 k_w0 S H locs ls hf hP hS hW hl
  have hx := C.1
  have hb := C.2.1
  unfold s_X8_readNumber_J81 at hf
  obtain ⟨S13, eS13, hf⟩ := bnd_e hf
  refine pf_X8_39 C hP hS h_w0 k_w0 eS13 dX8_readNumber_81 (fun H locs hP hS => ?_)
  have hW : WT G S13 := by rw [eS13]; exact hW
  cases hf
  exact x_retv C hP hS hW dX8_readNumber_84
set_option maxRecDepth 100000 in
set_option maxHeartbeats 4000000 in
theorem b_X8_readNumber_60 {p : Program} {l : Launch} {e : Env} {s : State} {m : MethodId} {args : Array Value} {below : List Frame} {meth : Method} {c : Code} {V : EV} {G : GS} {S' : HS} {F : Nat} (C : CX p s m args meth c RX8 cX8_readNumber 3 none V G) : ∀ (v0 : Nat) (v1 : Int32) (h_v0 : v0 ∈ G.1) (k_v0 : G.2.1 v0 = 8) (S : HS) (H : Heap) (locs : List Loc) (ls : Array Slot), s_X8_readNumber_J60 G.2.2 F v0 v1 S = some S' → HP V G S H → va_S (AG G s.heap.size) s.heap H locs → WT G S → lv_has ls 3 [(0, .ref v0), (1, .int v1)] → W p l e (RM 1 29) s m args below meth c H locs 0 0 (MQ below (QV V G S' s.heap.size) args s 0 0 (AG G s.heap.size)) (F0 m 60 ls []) := by
  intro v0 v1 h_v0 k_v0 S H locs ls hf hP hS hW hl
  have hx := C.1
  have hb := C.2.1
  unfold s_X8_readNumber_J60 at hf
  refine lv_aload_n hx hb dX8_readNumber_60 rfl (lv_at hl 0 rfl) ?_
  refine lv_aload_n hx hb dX8_readNumber_61 rfl (lv_at hl 0 rfl) ?_
  refine gf_X8_32 C hP h_v0 k_v0 dX8_readNumber_62 ?_
  refine lv_iload_n hx hb dX8_readNumber_65 rfl (lv_at hl 1 rfl) ?_
  refine lv_iadd hx hb dX8_readNumber_66 ?_
  obtain ⟨S11, eS11, hf⟩ := bnd_e hf
  refine pf_X8_26 C hP hS h_v0 k_v0 eS11 dX8_readNumber_67 (fun H locs hP hS => ?_)
  have hW : WT G S11 := by rw [eS11]; exact hW
  refine lv_aload_n hx hb dX8_readNumber_70 rfl (lv_at hl 0 rfl) ?_
  refine lv_iload_n hx hb dX8_readNumber_71 rfl (lv_at hl 1 rfl) ?_
  refine lv_iconst (v := 4) hx hb dX8_readNumber_72 rfl ?_
  refine lv_icmp_gt (tgt := 80) hx hb dX8_readNumber_73 (by decide) (fun c12 => ?_) (fun c12 => ?_)
  · have hf := if_t c12 hf
    refine lv_iconst (v := 3) hx hb dX8_readNumber_80 rfl ?_
    exact b_X8_readNumber_81 C v0 3 h_v0 k_v0 S11 H locs _ hf hP hS hW (lv_sub hl [] rfl)
  · have hf := if_f c12 hf
    refine lv_iconst (v := 2) hx hb dX8_readNumber_76 rfl ?_
    refine lv_goto (tgt := 81) hx hb dX8_readNumber_77 (by decide) ?_
    exact b_X8_readNumber_81 C v0 2 h_v0 k_v0 S11 H locs _ hf hP hS hW (lv_sub hl [] rfl)
set_option maxRecDepth 100000 in
set_option maxHeartbeats 4000000 in
theorem c_X8_readNumber {l : Launch} {V : EV} {G : GS} {S : HS} {F : Nat} {a : Nat} {S' : HS} (hN : G.1.Nodup) (hW : WT G S) (h_a : a ∈ G.1) (k_a : G.2.1 a = 8) (hf : s_X8_readNumber G.2.2 F a S = some S') : MetV l yX8_readNumber cX8_readNumber 3 1 29 V G S [.ref a] S' := by
  intro sz
  refine x_in RX8 rfl (by decide +kernel) hN (Nat.le_of_ble_eq_true rfl) (fun p e s m args below meth c ls hsz hargs hnm C hP hS hl => ?_)
  subst hsz
  have hx := C.1
  have hb := C.2.1
  have hl : lv_has ls 3 [(0, .ref a)] := hl
  unfold s_X8_readNumber at hf
  refine lv_iconst (v := 0) hx hb dX8_readNumber_0 rfl ?_
  refine lv_istore_n (lv' := [(1, .int 0), (0, .ref a)]) hx hb dX8_readNumber_1 rfl hl (by decide) rfl (fun ls hl => ?_)
  refine lv_aload_n hx hb dX8_readNumber_2 rfl (lv_at hl 1 rfl) ?_
  refine lv_iconst (v := 0) hx hb dX8_readNumber_3 rfl ?_
  obtain ⟨S1, eS1, hf⟩ := bnd_e hf
  refine pf_X8_65 C hP hS h_a k_a eS1 dX8_readNumber_4 (fun H locs hP hS => ?_)
  have hW : WT G S1 := by rw [eS1]; exact hW
  refine lv_aload_n hx hb dX8_readNumber_7 rfl (lv_at hl 1 rfl) ?_
  refine gf_X8_32 C hP h_a k_a dX8_readNumber_8 ?_
  obtain ⟨x2, ex2, hf⟩ := bnd_e hf
  refine nm_i ex2 ?_
  refine lv_istore_n (lv' := [(2, .int x2), (1, .int 0), (0, .ref a)]) hx hb dX8_readNumber_11 rfl hl (by decide) rfl (fun ls hl => ?_)
  exact b_X8_readNumber_12 C (b_X8_readNumber_60 C) F a 0 x2 h_a k_a S1 H locs _ hf hP hS hW (lv_sub hl [2, 1, 0] rfl)
def s_X8_isOneOf (p0 : Int32) (p1 : Nat) (S : HS) : Int32 :=
  if (sIdx p1 p0) < (0 : Int32) then
  0
  else
  1
set_option maxRecDepth 100000 in
set_option maxHeartbeats 4000000 in
theorem c_X8_isOneOf {l : Launch} {V : EV} {G : GS} {S : HS} {p0 : Int32} {p1 : Nat} {r : Int32} (hN : G.1.Nodup) (hW : WT G S) (h_p1 : p1 < nSC) (hf : s_X8_isOneOf p0 p1 S = r) : MetZ l yX8_isOneOf cX8_isOneOf 2 11 431 V G S [.int p0, .ref (V.2.2.1 p1)] r S := by
  intro sz
  refine x_in RX8 rfl (by decide +kernel) hN (Nat.le_of_ble_eq_true rfl) (fun p e s m args below meth c ls hsz hargs hnm C hP hS hl => ?_)
  subst hsz
  have hx := C.1
  have hb := C.2.1
  have hl : lv_has ls 2 [(0, .int p0), (1, .ref (V.2.2.1 p1))] := hl
  unfold s_X8_isOneOf at hf
  refine lv_aload_n hx hb dX8_isOneOf_0 rfl (lv_at hl 1 rfl) ?_
  refine lv_iload_n hx hb dX8_isOneOf_1 rfl (lv_at hl 0 rfl) ?_
  refine x_indexOf C hP hS hW h_p1 qm_X8_68 (by decide) hl.1 rfl (Nat.le_of_ble_eq_true rfl) ⟨Nat.zero_le _, Nat.zero_le _⟩ dX8_isOneOf_2 (fun H locs hP hS hW => ?_)
  refine lv_if_lt (tgt := 12) hx hb dX8_isOneOf_5 (by decide) (fun c1 => ?_) (fun c1 => ?_)
  · have hf := if_t c1 hf
    refine lv_iconst (v := 0) hx hb dX8_isOneOf_12 rfl ?_
    cases hf
    exact x_retZ C hP hS hW isZ_0 dX8_isOneOf_13
  · have hf := if_f c1 hf
    refine lv_iconst (v := 1) hx hb dX8_isOneOf_8 rfl ?_
    refine lv_goto (tgt := 13) hx hb dX8_isOneOf_9 (by decide) ?_
    cases hf
    exact x_retZ C hP hS hW isZ_1 dX8_isOneOf_13
def s_X8_advance_J43 (N : Nat → Nat) (F : Nat) (k10 : Nat → Int32 → HS → Option HS) (v0 : Nat) (v1 : Int32) (S : HS) : Option HS :=
  bnd (uI S 803 v0 ((gI S 803 v0) + 1)) fun S5 =>
  bnd (v1 + Int32.ofInt 1 : Int32) fun x6 =>
  k10 v0 x6 S5
def s_X8_advance_L10 (N : Nat → Nat) (F : Nat) (k59 : Nat → HS → Option HS) : Nat → Nat → Int32 → HS → Option HS
  | 0, _, _, _ => none
  | n + 1, v0, v1, S => if (1000 : Int32) ≤ v1 then
  k59 v0 S
  else
  bd1 (s_X8_signAt N v0 (gI S 803 v0) S) fun r3 =>
  if r3 = (10 : Int32) then
  s_X8_advance_J43 N F (s_X8_advance_L10 N F k59 n) v0 v1 S
  else
  bd1 (s_X8_signAt N v0 (gI S 803 v0) S) fun r7 =>
  if r7 = (32 : Int32) then
  s_X8_advance_J43 N F (s_X8_advance_L10 N F k59 n) v0 v1 S
  else
  k59 v0 S
def s_X8_advance_J156 (N : Nat → Nat) (F : Nat) (w0 : Nat) (w1 : Int32) (S : HS) : Option HS :=
  bnd (uI S 802 w0 w1) fun S18 =>
  some S18
def s_X8_advance_J59 (N : Nat → Nat) (F : Nat) (v0 : Nat) (S : HS) : Option HS :=
  bd1 (s_X8_signAt N v0 (gI S 803 v0) S) fun r9 =>
  bnd (uI S 804 v0 ((gI S 803 v0) + 1)) fun S10 =>
  if (gI S10 803 v0) < (gI S10 801 v0) then
  if (s_X8_isLetter r9 S10) = (0 : Int32) then
  if (s_X8_isDigit r9 S10) = (0 : Int32) then
  if (s_X8_isOneOf r9 0 S10) = (0 : Int32) then
  s_X8_advance_J156 N F v0 3 S10
  else
  s_X8_advance_J156 N F v0 r9 S10
  else
  bd1 (s_X8_readNumber N F v0 S10) fun S19 =>
  some S19
  else
  bd1 (s_X8_readWord N F v0 S10) fun S20 =>
  some S20
  else
  bnd (uI S10 802 v0 0) fun S21 =>
  bnd (uI S21 803 v0 (gI S21 801 v0)) fun S22 =>
  bnd (uI S22 804 v0 (gI S22 801 v0)) fun S23 =>
  some S23
def s_X8_advance (N : Nat → Nat) (F : Nat) (a : Nat) (S : HS) : Option HS :=
  bnd (uI S 803 a (gI S 804 a)) fun S1 =>
  s_X8_advance_L10 N F (s_X8_advance_J59 N F) F a 0 S1
set_option maxRecDepth 100000 in
set_option maxHeartbeats 4000000 in
theorem b_X8_advance_43 {p : Program} {l : Launch} {e : Env} {s : State} {m : MethodId} {args : Array Value} {below : List Frame} {meth : Method} {c : Code} {V : EV} {G : GS} {S' : HS} {F : Nat} (C : CX p s m args meth c RX8 cX8_advance 2 none V G) {k10 : Nat → Int32 → HS → Option HS} (hk10 : ∀ (v0 : Nat) (v1 : Int32) (h_v0 : v0 ∈ G.1) (k_v0 : G.2.1 v0 = 8) (S : HS) (H : Heap) (locs : List Loc) (ls : Array Slot), k10 v0 v1 S = some S' → HP V G S H → va_S (AG G s.heap.size) s.heap H locs → WT G S → lv_has ls 2 [(0, .ref v0), (1, .int v1)] → W p l e (RM 12 460) s m args below meth c H locs 0 0 (MQ below (QV V G S' s.heap.size) args s 0 0 (AG G s.heap.size)) (F0 m 10 ls [])) : ∀ (v0 : Nat) (v1 : Int32) (h_v0 : v0 ∈ G.1) (k_v0 : G.2.1 v0 = 8) (S : HS) (H : Heap) (locs : List Loc) (ls : Array Slot), s_X8_advance_J43 G.2.2 F k10 v0 v1 S = some S' → HP V G S H → va_S (AG G s.heap.size) s.heap H locs → WT G S → lv_has ls 2 [(0, .ref v0), (1, .int v1)] → W p l e (RM 12 460) s m args below meth c H locs 0 0 (MQ below (QV V G S' s.heap.size) args s 0 0 (AG G s.heap.size)) (F0 m 43 ls []) := by
  intro v0 v1 h_v0 k_v0 S H locs ls hf hP hS hW hl
  have hx := C.1
  have hb := C.2.1
  unfold s_X8_advance_J43 at hf
  refine lv_aload_n hx hb dX8_advance_43 rfl (lv_at hl 0 rfl) ?_
  refine lv_dup hx hb dX8_advance_44 rfl ?_
  refine gf_X8_32 C hP h_v0 k_v0 dX8_advance_45 ?_
  refine lv_iconst (v := 1) hx hb dX8_advance_48 rfl ?_
  refine lv_iadd hx hb dX8_advance_49 ?_
  obtain ⟨S5, eS5, hf⟩ := bnd_e hf
  refine pf_X8_32 C hP hS h_v0 k_v0 eS5 dX8_advance_50 (fun H locs hP hS => ?_)
  have hW : WT G S5 := by rw [eS5]; exact hW
  obtain ⟨x6, ex6, hf⟩ := bnd_e hf
  refine lv_iinc (v := x6) (lv' := [(1, .int x6), (0, .ref v0)]) hx hb dX8_advance_53 hl (k := 1) rfl ex6.symm (by decide) rfl (fun ls hl => ?_)
  refine lv_goto (tgt := 10) hx hb dX8_advance_56 (by decide) ?_
  exact hk10 v0 x6 h_v0 k_v0 S5 H locs _ hf hP hS hW (lv_sub hl [1, 0] rfl)
set_option maxRecDepth 100000 in
set_option maxHeartbeats 4000000 in
theorem b_X8_advance_10 {p : Program} {l : Launch} {e : Env} {s : State} {m : MethodId} {args : Array Value} {below : List Frame} {meth : Method} {c : Code} {V : EV} {G : GS} {S' : HS} {F : Nat} (C : CX p s m args meth c RX8 cX8_advance 2 none V G) {k59 : Nat → HS → Option HS} (hk59 : ∀ (v0 : Nat) (h_v0 : v0 ∈ G.1) (k_v0 : G.2.1 v0 = 8) (S : HS) (H : Heap) (locs : List Loc) (ls : Array Slot), k59 v0 S = some S' → HP V G S H → va_S (AG G s.heap.size) s.heap H locs → WT G S → lv_has ls 2 [(0, .ref v0)] → W p l e (RM 12 460) s m args below meth c H locs 0 0 (MQ below (QV V G S' s.heap.size) args s 0 0 (AG G s.heap.size)) (F0 m 59 ls [])) : ∀ n : Nat, ∀ (v0 : Nat) (v1 : Int32) (h_v0 : v0 ∈ G.1) (k_v0 : G.2.1 v0 = 8) (S : HS) (H : Heap) (locs : List Loc) (ls : Array Slot), s_X8_advance_L10 G.2.2 F k59 n v0 v1 S = some S' → HP V G S H → va_S (AG G s.heap.size) s.heap H locs → WT G S → lv_has ls 2 [(0, .ref v0), (1, .int v1)] → W p l e (RM 12 460) s m args below meth c H locs 0 0 (MQ below (QV V G S' s.heap.size) args s 0 0 (AG G s.heap.size)) (F0 m 10 ls []) := by
  intro n
  induction n with
  | zero =>
    intro v0 v1 h_v0 k_v0 S H locs ls hf
    rw [s_X8_advance_L10] at hf
    cases hf
  | succ n ih =>
    intro v0 v1 h_v0 k_v0 S H locs ls hf hP hS hW hl
    have hx := C.1
    have hb := C.2.1
    rw [s_X8_advance_L10] at hf
    refine lv_iload_n hx hb dX8_advance_10 rfl (lv_at hl 1 rfl) ?_
    refine lv_sipush (v := 1000) hx hb dX8_advance_11 kc_sipush_1000 ?_
    refine lv_icmp_ge (tgt := 59) hx hb dX8_advance_14 (by decide) (fun c2 => ?_) (fun c2 => ?_)
    · have hf := if_t c2 hf
      exact hk59 v0 h_v0 k_v0 S H locs _ hf hP hS hW (lv_sub hl [0] rfl)
    · have hf := if_f c2 hf
      refine lv_aload_n hx hb dX8_advance_17 rfl (lv_at hl 0 rfl) ?_
      refine lv_aload_n hx hb dX8_advance_18 rfl (lv_at hl 0 rfl) ?_
      refine gf_X8_32 C hP h_v0 k_v0 dX8_advance_19 ?_
      obtain ⟨r3, er3, hf⟩ := bd1_e hf
      refine x_aft_i (x_runV (As := [.int (gI S 803 v0)]) (rest := []) C hP hS (c_X8_signAt (l := l) C.2.2.2.2.2.2.2.2.2.1 hW h_v0 k_v0 er3 H.size) h_v0 k_v0 (by decide) rfl rfl km_X8_signAt ki_X8_signAt qm_X8_35 ⟨(Nat.le_of_ble_eq_true rfl), (Nat.le_of_ble_eq_true rfl)⟩ rfl hl.1 rfl (Nat.le_of_ble_eq_true rfl) ⟨Nat.zero_le _, Nat.zero_le _⟩ dX8_advance_22) hS (fun H locs hP hS hW => ?_)
      refine lv_bipush (v := 10) hx hb dX8_advance_25 kc_bipush_10 ?_
      refine lv_icmp_eq (tgt := 43) hx hb dX8_advance_27 (by decide) (fun c4 => ?_) (fun c4 => ?_)
      · have hf := if_t c4 hf
        exact b_X8_advance_43 C ih v0 v1 h_v0 k_v0 S H locs _ hf hP hS hW (lv_sub hl [0, 1] rfl)
      · have hf := if_f c4 hf
        refine lv_aload_n hx hb dX8_advance_30 rfl (lv_at hl 0 rfl) ?_
        refine lv_aload_n hx hb dX8_advance_31 rfl (lv_at hl 0 rfl) ?_
        refine gf_X8_32 C hP h_v0 k_v0 dX8_advance_32 ?_
        obtain ⟨r7, er7, hf⟩ := bd1_e hf
        refine x_aft_i (x_runV (As := [.int (gI S 803 v0)]) (rest := []) C hP hS (c_X8_signAt (l := l) C.2.2.2.2.2.2.2.2.2.1 hW h_v0 k_v0 er7 H.size) h_v0 k_v0 (by decide) rfl rfl km_X8_signAt ki_X8_signAt qm_X8_35 ⟨(Nat.le_of_ble_eq_true rfl), (Nat.le_of_ble_eq_true rfl)⟩ rfl hl.1 rfl (Nat.le_of_ble_eq_true rfl) ⟨Nat.zero_le _, Nat.zero_le _⟩ dX8_advance_35) hS (fun H locs hP hS hW => ?_)
        refine lv_bipush (v := 32) hx hb dX8_advance_38 kc_bipush_32 ?_
        refine lv_icmp_ne (tgt := 59) hx hb dX8_advance_40 (by decide) (fun c8 => ?_) (fun c8 => ?_)
        · have hf := if_f c8 hf
          exact hk59 v0 h_v0 k_v0 S H locs _ hf hP hS hW (lv_sub hl [0] rfl)
        · have hf := if_t c8 hf
          exact b_X8_advance_43 C ih v0 v1 h_v0 k_v0 S H locs _ hf hP hS hW (lv_sub hl [0, 1] rfl)
set_option maxRecDepth 100000 in
set_option maxHeartbeats 4000000 in
theorem b_X8_advance_156 {p : Program} {l : Launch} {e : Env} {s : State} {m : MethodId} {args : Array Value} {below : List Frame} {meth : Method} {c : Code} {V : EV} {G : GS} {S' : HS} {F : Nat} (C : CX p s m args meth c RX8 cX8_advance 2 none V G) : ∀ (w0 : Nat) (w1 : Int32) (h_w0 : w0 ∈ G.1) (k_w0 : G.2.1 w0 = 8) (S : HS) (H : Heap) (locs : List Loc) (ls : Array Slot), s_X8_advance_J156 G.2.2 F w0 w1 S = some S' → HP V G S H → va_S (AG G s.heap.size) s.heap H locs → WT G S → lv_has ls 2 [] → W p l e (RM 12 460) s m args below meth c H locs 0 0 (MQ below (QV V G S' s.heap.size) args s 0 0 (AG G s.heap.size)) (F0 m 156 ls [.int w1, .ref w0]) := by
  intro w0 w1 h_w0 k_w0 S H locs ls hf hP hS hW hl
  have hx := C.1
  have hb := C.2.1
  unfold s_X8_advance_J156 at hf
  obtain ⟨S18, eS18, hf⟩ := bnd_e hf
  refine pf_X8_39 C hP hS h_w0 k_w0 eS18 dX8_advance_156 (fun H locs hP hS => ?_)
  have hW : WT G S18 := by rw [eS18]; exact hW
  cases hf
  exact x_retv C hP hS hW dX8_advance_159
set_option maxRecDepth 100000 in
set_option maxHeartbeats 4000000 in
theorem b_X8_advance_59 {p : Program} {l : Launch} {e : Env} {s : State} {m : MethodId} {args : Array Value} {below : List Frame} {meth : Method} {c : Code} {V : EV} {G : GS} {S' : HS} {F : Nat} (C : CX p s m args meth c RX8 cX8_advance 2 none V G) : ∀ (v0 : Nat) (h_v0 : v0 ∈ G.1) (k_v0 : G.2.1 v0 = 8) (S : HS) (H : Heap) (locs : List Loc) (ls : Array Slot), s_X8_advance_J59 G.2.2 F v0 S = some S' → HP V G S H → va_S (AG G s.heap.size) s.heap H locs → WT G S → lv_has ls 2 [(0, .ref v0)] → W p l e (RM 12 460) s m args below meth c H locs 0 0 (MQ below (QV V G S' s.heap.size) args s 0 0 (AG G s.heap.size)) (F0 m 59 ls []) := by
  intro v0 h_v0 k_v0 S H locs ls hf hP hS hW hl
  have hx := C.1
  have hb := C.2.1
  unfold s_X8_advance_J59 at hf
  refine lv_aload_n hx hb dX8_advance_59 rfl (lv_at hl 0 rfl) ?_
  refine lv_aload_n hx hb dX8_advance_60 rfl (lv_at hl 0 rfl) ?_
  refine gf_X8_32 C hP h_v0 k_v0 dX8_advance_61 ?_
  obtain ⟨r9, er9, hf⟩ := bd1_e hf
  refine x_aft_i (x_runV (As := [.int (gI S 803 v0)]) (rest := []) C hP hS (c_X8_signAt (l := l) C.2.2.2.2.2.2.2.2.2.1 hW h_v0 k_v0 er9 H.size) h_v0 k_v0 (by decide) rfl rfl km_X8_signAt ki_X8_signAt qm_X8_35 ⟨(Nat.le_of_ble_eq_true rfl), (Nat.le_of_ble_eq_true rfl)⟩ rfl hl.1 rfl (Nat.le_of_ble_eq_true rfl) ⟨Nat.zero_le _, Nat.zero_le _⟩ dX8_advance_64) hS (fun H locs hP hS hW => ?_)
  refine lv_istore_n (lv' := [(1, .int r9), (0, .ref v0)]) hx hb dX8_advance_67 rfl hl (by decide) rfl (fun ls hl => ?_)
  refine lv_aload_n hx hb dX8_advance_68 rfl (lv_at hl 1 rfl) ?_
  refine lv_aload_n hx hb dX8_advance_69 rfl (lv_at hl 1 rfl) ?_
  refine gf_X8_32 C hP h_v0 k_v0 dX8_advance_70 ?_
  refine lv_iconst (v := 1) hx hb dX8_advance_73 rfl ?_
  refine lv_iadd hx hb dX8_advance_74 ?_
  obtain ⟨S10, eS10, hf⟩ := bnd_e hf
  refine pf_X8_26 C hP hS h_v0 k_v0 eS10 dX8_advance_75 (fun H locs hP hS => ?_)
  have hW : WT G S10 := by rw [eS10]; exact hW
  refine lv_aload_n hx hb dX8_advance_78 rfl (lv_at hl 1 rfl) ?_
  refine gf_X8_32 C hP h_v0 k_v0 dX8_advance_79 ?_
  refine lv_aload_n hx hb dX8_advance_82 rfl (lv_at hl 1 rfl) ?_
  refine gf_X8_15 C hP h_v0 k_v0 dX8_advance_83 ?_
  refine lv_icmp_lt (tgt := 113) hx hb dX8_advance_86 (by decide) (fun c11 => ?_) (fun c11 => ?_)
  · have hf := if_t c11 hf
    refine lv_iload_n hx hb dX8_advance_113 rfl (lv_at hl 0 rfl) ?_
    refine x_aft_z (x_runS (As := [.int r9]) (rest := []) C hP hS (c_X8_isLetter (l := l) C.2.2.2.2.2.2.2.2.2.1 hW rfl H.size) km_X8_isLetter ks_X8_isLetter qm_X8_42 ⟨(Nat.le_of_ble_eq_true rfl), (Nat.le_of_ble_eq_true rfl)⟩ rfl hl.1 rfl (Nat.le_of_ble_eq_true rfl) ⟨Nat.zero_le _, Nat.zero_le _⟩ dX8_advance_114) hS (fun H locs hP hS hW z12 => ?_)
    refine lv_if_eq (tgt := 127) hx hb dX8_advance_117 (by decide) (fun c13 => ?_) (fun c13 => ?_)
    · have hf := if_t c13 hf
      refine lv_iload_n hx hb dX8_advance_127 rfl (lv_at hl 0 rfl) ?_
      refine x_aft_z (x_runS (As := [.int r9]) (rest := []) C hP hS (c_X8_isDigit (l := l) C.2.2.2.2.2.2.2.2.2.1 hW rfl H.size) km_X8_isDigit ks_X8_isDigit qm_X8_49 ⟨(Nat.le_of_ble_eq_true rfl), (Nat.le_of_ble_eq_true rfl)⟩ rfl hl.1 rfl (Nat.le_of_ble_eq_true rfl) ⟨Nat.zero_le _, Nat.zero_le _⟩ dX8_advance_128) hS (fun H locs hP hS hW z14 => ?_)
      refine lv_if_eq (tgt := 141) hx hb dX8_advance_131 (by decide) (fun c15 => ?_) (fun c15 => ?_)
      · have hf := if_t c15 hf
        refine lv_aload_n hx hb dX8_advance_141 rfl (lv_at hl 1 rfl) ?_
        refine lv_iload_n hx hb dX8_advance_142 rfl (lv_at hl 0 rfl) ?_
        refine va_ldcS hx hb C.2.2.2.2.1 (C.2.2.2.2.2.2.2.2.1.1.2 (RX8, 55, "()<=+-*;", 0) (List.mem_of_getElem? (i := 0) rfl)) dX8_advance_143 ?_
        refine x_aft_z (x_runS (As := [.int r9, .ref (V.2.2.1 0)]) (rest := [.ref v0]) C hP hS (c_X8_isOneOf (l := l) C.2.2.2.2.2.2.2.2.2.1 hW (by decide) rfl H.size) km_X8_isOneOf ks_X8_isOneOf qm_X8_57 ⟨(Nat.le_of_ble_eq_true rfl), (Nat.le_of_ble_eq_true rfl)⟩ rfl hl.1 rfl (Nat.le_of_ble_eq_true rfl) ⟨Nat.zero_le _, Nat.zero_le _⟩ dX8_advance_145) hS (fun H locs hP hS hW z16 => ?_)
        refine lv_if_eq (tgt := 155) hx hb dX8_advance_148 (by decide) (fun c17 => ?_) (fun c17 => ?_)
        · have hf := if_t c17 hf
          refine lv_iconst (v := 3) hx hb dX8_advance_155 rfl ?_
          exact b_X8_advance_156 C v0 3 h_v0 k_v0 S10 H locs _ hf hP hS hW (lv_sub hl [] rfl)
        · have hf := if_f c17 hf
          refine lv_iload_n hx hb dX8_advance_151 rfl (lv_at hl 0 rfl) ?_
          refine lv_goto (tgt := 156) hx hb dX8_advance_152 (by decide) ?_
          exact b_X8_advance_156 C v0 r9 h_v0 k_v0 S10 H locs _ hf hP hS hW (lv_sub hl [] rfl)
      · have hf := if_f c15 hf
        refine lv_aload_n hx hb dX8_advance_134 rfl (lv_at hl 1 rfl) ?_
        obtain ⟨S19, eS19, hf⟩ := bd1_e hf
        refine x_aft_v (x_runV (As := []) (rest := []) C hP hS (c_X8_readNumber (l := l) C.2.2.2.2.2.2.2.2.2.1 hW h_v0 k_v0 eS19 H.size) h_v0 k_v0 (by decide) rfl rfl km_X8_readNumber ki_X8_readNumber qm_X8_52 ⟨(Nat.le_of_ble_eq_true rfl), (Nat.le_of_ble_eq_true rfl)⟩ rfl hl.1 rfl (Nat.le_of_ble_eq_true rfl) ⟨Nat.zero_le _, Nat.zero_le _⟩ dX8_advance_135) hS (fun H locs hP hS hW => ?_)
        refine lv_goto (tgt := 159) hx hb dX8_advance_138 (by decide) ?_
        cases hf
        exact x_retv C hP hS hW dX8_advance_159
    · have hf := if_f c13 hf
      refine lv_aload_n hx hb dX8_advance_120 rfl (lv_at hl 1 rfl) ?_
      obtain ⟨S20, eS20, hf⟩ := bd1_e hf
      refine x_aft_v (x_runV (As := []) (rest := []) C hP hS (c_X8_readWord (l := l) C.2.2.2.2.2.2.2.2.2.1 hW h_v0 k_v0 eS20 H.size) h_v0 k_v0 (by decide) rfl rfl km_X8_readWord ki_X8_readWord qm_X8_46 ⟨(Nat.le_of_ble_eq_true rfl), (Nat.le_of_ble_eq_true rfl)⟩ rfl hl.1 rfl (Nat.le_of_ble_eq_true rfl) ⟨Nat.zero_le _, Nat.zero_le _⟩ dX8_advance_121) hS (fun H locs hP hS hW => ?_)
      refine lv_goto (tgt := 159) hx hb dX8_advance_124 (by decide) ?_
      cases hf
      exact x_retv C hP hS hW dX8_advance_159
  · have hf := if_f c11 hf
    refine lv_aload_n hx hb dX8_advance_89 rfl (lv_at hl 1 rfl) ?_
    refine lv_iconst (v := 0) hx hb dX8_advance_90 rfl ?_
    obtain ⟨S21, eS21, hf⟩ := bnd_e hf
    refine pf_X8_39 C hP hS h_v0 k_v0 eS21 dX8_advance_91 (fun H locs hP hS => ?_)
    have hW : WT G S21 := by rw [eS21]; exact hW
    refine lv_aload_n hx hb dX8_advance_94 rfl (lv_at hl 1 rfl) ?_
    refine lv_aload_n hx hb dX8_advance_95 rfl (lv_at hl 1 rfl) ?_
    refine gf_X8_15 C hP h_v0 k_v0 dX8_advance_96 ?_
    obtain ⟨S22, eS22, hf⟩ := bnd_e hf
    refine pf_X8_32 C hP hS h_v0 k_v0 eS22 dX8_advance_99 (fun H locs hP hS => ?_)
    have hW : WT G S22 := by rw [eS22]; exact hW
    refine lv_aload_n hx hb dX8_advance_102 rfl (lv_at hl 1 rfl) ?_
    refine lv_aload_n hx hb dX8_advance_103 rfl (lv_at hl 1 rfl) ?_
    refine gf_X8_15 C hP h_v0 k_v0 dX8_advance_104 ?_
    obtain ⟨S23, eS23, hf⟩ := bnd_e hf
    refine pf_X8_26 C hP hS h_v0 k_v0 eS23 dX8_advance_107 (fun H locs hP hS => ?_)
    have hW : WT G S23 := by rw [eS23]; exact hW
    refine lv_goto (tgt := 159) hx hb dX8_advance_110 (by decide) ?_
    cases hf
    exact x_retv C hP hS hW dX8_advance_159
set_option maxRecDepth 100000 in
set_option maxHeartbeats 4000000 in
theorem c_X8_advance {l : Launch} {V : EV} {G : GS} {S : HS} {F : Nat} {a : Nat} {S' : HS} (hN : G.1.Nodup) (hW : WT G S) (h_a : a ∈ G.1) (k_a : G.2.1 a = 8) (hf : s_X8_advance G.2.2 F a S = some S') : MetV l yX8_advance cX8_advance 2 12 460 V G S [.ref a] S' := by
  intro sz
  refine x_in RX8 rfl (by decide +kernel) hN (Nat.le_of_ble_eq_true rfl) (fun p e s m args below meth c ls hsz hargs hnm C hP hS hl => ?_)
  subst hsz
  have hx := C.1
  have hb := C.2.1
  have hl : lv_has ls 2 [(0, .ref a)] := hl
  unfold s_X8_advance at hf
  refine lv_aload_n hx hb dX8_advance_0 rfl (lv_at hl 0 rfl) ?_
  refine lv_aload_n hx hb dX8_advance_1 rfl (lv_at hl 0 rfl) ?_
  refine gf_X8_26 C hP h_a k_a dX8_advance_2 ?_
  obtain ⟨S1, eS1, hf⟩ := bnd_e hf
  refine pf_X8_32 C hP hS h_a k_a eS1 dX8_advance_5 (fun H locs hP hS => ?_)
  have hW : WT G S1 := by rw [eS1]; exact hW
  refine lv_iconst (v := 0) hx hb dX8_advance_8 rfl ?_
  refine lv_istore_n (lv' := [(1, .int 0), (0, .ref a)]) hx hb dX8_advance_9 rfl hl (by decide) rfl (fun ls hl => ?_)
  exact b_X8_advance_10 C (b_X8_advance_59 C) F a 0 h_a k_a S1 H locs _ hf hP hS hW (lv_sub hl [1, 0] rfl)
def s_X3_readProduct_L8 (N : Nat → Nat) (F : Nat) (rp : Nat → Int32 → HS → Option (Int32 × HS)) : Nat → Nat → Int32 → Int32 → Int32 → HS → Option (Int32 × HS)
  | 0, _, _, _, _, _ => none
  | n + 1, v0, v1, v2, v3, S => if (1000 : Int32) < v3 then
  some (v2, S)
  else
  bd1 (gR S 300 v0) fun t4 =>
  if (s_X8_isRight t4 S) = (0 : Int32) then
  some (v2, S)
  else
  bd1 (gR S 300 v0) fun t7 =>
  if (gI S 802 t7) = (42 : Int32) then
  bd1 (gR S 300 v0) fun t9 =>
  bd1 (s_X8_advance N F t9 S) fun S10 =>
  bd2 (rp v0 v1 S10) fun r11 S12 =>
  bnd (v2 * r11 : Int32) fun x13 =>
  bnd (v3 + Int32.ofInt 1 : Int32) fun x14 =>
  s_X3_readProduct_L8 N F rp n v0 v1 x13 x14 S12
  else
  some (v2, S)
def s_X3_readProduct (N : Nat → Nat) (F : Nat) (rp : Nat → Int32 → HS → Option (Int32 × HS)) (a : Nat) (p0 : Int32) (S : HS) : Option (Int32 × HS) :=
  bd2 (rp a p0 S) fun r1 S2 =>
  s_X3_readProduct_L8 N F rp F a p0 r1 0 S2
set_option maxRecDepth 100000 in
set_option maxHeartbeats 4000000 in
theorem b_X3_readProduct_8 {p : Program} {l : Launch} {e : Env} {s : State} {m : MethodId} {args : Array Value} {below : List Frame} {meth : Method} {c : Code} {V : EV} {G : GS} {r : Int32} {S' : HS} {F : Nat} {fr lo : Nat} {rp : Nat → Int32 → HS → Option (Int32 × HS)} (hrp : ∀ (this : Nat) (q0 : Int32), ∀ {S S1 : HS} {r : Int32}, WT G S → this ∈ G.1 → G.2.1 this = 3 → rp this q0 S = some (r, S1) → MetI l yX3_readPart cX3_readPart 7 .int fr lo V G S [.ref this, .int q0] r S1) (C : CX p s m args meth c RX3 cX3_readProduct 4 (some .int) V G) : ∀ n : Nat, ∀ (v0 : Nat) (v1 : Int32) (v2 : Int32) (v3 : Int32) (h_v0 : v0 ∈ G.1) (k_v0 : G.2.1 v0 = 3) (S : HS) (H : Heap) (locs : List Loc) (ls : Array Slot), s_X3_readProduct_L8 G.2.2 F rp n v0 v1 v2 v3 S = some (r, S') → HP V G S H → va_S (AG G s.heap.size) s.heap H locs → WT G S → lv_has ls 4 [(0, .ref v0), (1, .int v1), (2, .int v2), (3, .int v3)] → W p l e (RM (fr + 13) (lo + 489)) s m args below meth c H locs 0 0 (MQ below (QI V G S' r s.heap.size) args s 0 0 (AG G s.heap.size)) (F0 m 8 ls []) := by
  intro n
  induction n with
  | zero =>
    intro v0 v1 v2 v3 h_v0 k_v0 S H locs ls hf
    rw [s_X3_readProduct_L8] at hf
    cases hf
  | succ n ih =>
    intro v0 v1 v2 v3 h_v0 k_v0 S H locs ls hf hP hS hW hl
    have hx := C.1
    have hb := C.2.1
    rw [s_X3_readProduct_L8] at hf
    refine lv_iload_n hx hb dX3_readProduct_8 rfl (lv_at hl 3 rfl) ?_
    refine lv_sipush (v := 1000) hx hb dX3_readProduct_9 kc_sipush_1000 ?_
    refine lv_icmp_gt (tgt := 58) hx hb dX3_readProduct_12 (by decide) (fun c3 => ?_) (fun c3 => ?_)
    · have hf := if_t c3 hf
      refine lv_iload_n hx hb dX3_readProduct_58 rfl (lv_at hl 2 rfl) ?_
      cases hf
      exact x_reti C hP hS hW dX3_readProduct_59
    · have hf := if_f c3 hf
      refine lv_aload_n hx hb dX3_readProduct_15 rfl (lv_at hl 0 rfl) ?_
      refine gf_X3_9 C hP h_v0 k_v0 dX3_readProduct_16 ?_
      obtain ⟨t4, et4, hf⟩ := bd1_e hf
      obtain ⟨h_t4, k_t4⟩ := wt_r hW h_v0 k_v0 (by decide) et4
      have k_t4 : G.2.1 t4 = 8 := k_t4
      rw [et4]
      refine x_aft_z (x_runV (As := []) (rest := []) C hP hS (c_X8_isRight (l := l) C.2.2.2.2.2.2.2.2.2.1 hW h_t4 k_t4 rfl H.size) h_t4 k_t4 (by decide) rfl rfl km_X8_isRight ki_X8_isRight qm_X3_21 ⟨(by show _ ≤ _; simp only [RM]; omega), (by show _ ≤ _; simp only [RM]; omega)⟩ rfl hl.1 rfl (Nat.le_of_ble_eq_true rfl) ⟨Nat.zero_le _, Nat.zero_le _⟩ dX3_readProduct_19) hS (fun H locs hP hS hW z5 => ?_)
      refine lv_if_eq (tgt := 58) hx hb dX3_readProduct_22 (by decide) (fun c6 => ?_) (fun c6 => ?_)
      · have hf := if_t c6 hf
        refine lv_iload_n hx hb dX3_readProduct_58 rfl (lv_at hl 2 rfl) ?_
        cases hf
        exact x_reti C hP hS hW dX3_readProduct_59
      · have hf := if_f c6 hf
        refine lv_aload_n hx hb dX3_readProduct_25 rfl (lv_at hl 0 rfl) ?_
        refine gf_X3_9 C hP h_v0 k_v0 dX3_readProduct_26 ?_
        obtain ⟨t7, et7, hf⟩ := bd1_e hf
        obtain ⟨h_t7, k_t7⟩ := wt_r hW h_v0 k_v0 (by decide) et7
        have k_t7 : G.2.1 t7 = 8 := k_t7
        rw [et7]
        refine gf_X3_57 C hP h_t7 k_t7 dX3_readProduct_29 ?_
        refine lv_bipush (v := 42) hx hb dX3_readProduct_32 kc_bipush_42 ?_
        refine lv_icmp_ne (tgt := 58) hx hb dX3_readProduct_34 (by decide) (fun c8 => ?_) (fun c8 => ?_)
        · have hf := if_f c8 hf
          refine lv_iload_n hx hb dX3_readProduct_58 rfl (lv_at hl 2 rfl) ?_
          cases hf
          exact x_reti C hP hS hW dX3_readProduct_59
        · have hf := if_t c8 hf
          refine lv_aload_n hx hb dX3_readProduct_37 rfl (lv_at hl 0 rfl) ?_
          refine gf_X3_9 C hP h_v0 k_v0 dX3_readProduct_38 ?_
          obtain ⟨t9, et9, hf⟩ := bd1_e hf
          obtain ⟨h_t9, k_t9⟩ := wt_r hW h_v0 k_v0 (by decide) et9
          have k_t9 : G.2.1 t9 = 8 := k_t9
          rw [et9]
          obtain ⟨S10, eS10, hf⟩ := bd1_e hf
          refine x_aft_v (x_runV (As := []) (rest := []) C hP hS (c_X8_advance (l := l) C.2.2.2.2.2.2.2.2.2.1 hW h_t9 k_t9 eS10 H.size) h_t9 k_t9 (by decide) rfl rfl km_X8_advance ki_X8_advance qm_X3_47 ⟨(by show _ ≤ _; simp only [RM]; omega), (by show _ ≤ _; simp only [RM]; omega)⟩ rfl hl.1 rfl (Nat.le_of_ble_eq_true rfl) ⟨Nat.zero_le _, Nat.zero_le _⟩ dX3_readProduct_41) hS (fun H locs hP hS hW => ?_)
          refine lv_iload_n hx hb dX3_readProduct_44 rfl (lv_at hl 2 rfl) ?_
          refine lv_aload_n hx hb dX3_readProduct_45 rfl (lv_at hl 0 rfl) ?_
          refine lv_iload_n hx hb dX3_readProduct_46 rfl (lv_at hl 1 rfl) ?_
          obtain ⟨r11, S12, eS12, hf⟩ := bd2_e hf
          refine x_aft_i (x_runV (As := [.int v1]) (rest := [.int v2]) C hP hS (hrp v0 v1 hW h_v0 k_v0 eS12 H.size) h_v0 k_v0 (by decide) rfl rfl km_X3_readPart ki_X3_readPart qm_X3_63 ⟨(by show _ ≤ _; simp only [RM]; omega), (by show _ ≤ _; simp only [RM]; omega)⟩ rfl hl.1 rfl (Nat.le_of_ble_eq_true rfl) ⟨Nat.zero_le _, Nat.zero_le _⟩ dX3_readProduct_47) hS (fun H locs hP hS hW => ?_)
          refine lv_imul hx hb dX3_readProduct_50 ?_
          obtain ⟨x13, ex13, hf⟩ := bnd_e hf
          refine nm_i ex13 ?_
          refine lv_istore_n (lv' := [(2, .int x13), (0, .ref v0), (1, .int v1), (3, .int v3)]) hx hb dX3_readProduct_51 rfl hl (by decide) rfl (fun ls hl => ?_)
          obtain ⟨x14, ex14, hf⟩ := bnd_e hf
          refine lv_iinc (v := x14) (lv' := [(3, .int x14), (2, .int x13), (0, .ref v0), (1, .int v1)]) hx hb dX3_readProduct_52 hl (k := 3) rfl ex14.symm (by decide) rfl (fun ls hl => ?_)
          refine lv_goto (tgt := 8) hx hb dX3_readProduct_55 (by decide) ?_
          exact ih v0 v1 x13 x14 h_v0 k_v0 S12 H locs _ hf hP hS hW (lv_sub hl [2, 3, 1, 0] rfl)
set_option maxRecDepth 100000 in
set_option maxHeartbeats 4000000 in
theorem c_X3_readProduct {l : Launch} {V : EV} {G : GS} {S : HS} {F : Nat} {a : Nat} {p0 : Int32} {r : Int32} {S' : HS} (hN : G.1.Nodup) (hW : WT G S) {fr lo : Nat} {rp : Nat → Int32 → HS → Option (Int32 × HS)} (hrp : ∀ (this : Nat) (q0 : Int32), ∀ {S S1 : HS} {r : Int32}, WT G S → this ∈ G.1 → G.2.1 this = 3 → rp this q0 S = some (r, S1) → MetI l yX3_readPart cX3_readPart 7 .int fr lo V G S [.ref this, .int q0] r S1) (h_a : a ∈ G.1) (k_a : G.2.1 a = 3) (hf : s_X3_readProduct G.2.2 F rp a p0 S = some (r, S')) : MetI l yX3_readProduct cX3_readProduct 4 .int (fr + 13) (lo + 489) V G S [.ref a, .int p0] r S' := by
  intro sz
  refine x_in RX3 rfl (by decide +kernel) hN (Nat.le_of_ble_eq_true rfl) (fun p e s m args below meth c ls hsz hargs hnm C hP hS hl => ?_)
  subst hsz
  have hx := C.1
  have hb := C.2.1
  have hl : lv_has ls 4 [(0, .ref a), (1, .int p0)] := hl
  unfold s_X3_readProduct at hf
  refine lv_aload_n hx hb dX3_readProduct_0 rfl (lv_at hl 0 rfl) ?_
  refine lv_iload_n hx hb dX3_readProduct_1 rfl (lv_at hl 1 rfl) ?_
  obtain ⟨r1, S2, eS2, hf⟩ := bd2_e hf
  refine x_aft_i (x_runV (As := [.int p0]) (rest := []) C hP hS (hrp a p0 hW h_a k_a eS2 s.heap.size) h_a k_a (by decide) rfl rfl km_X3_readPart ki_X3_readPart qm_X3_63 ⟨(by show _ ≤ _; simp only [RM]; omega), (by show _ ≤ _; simp only [RM]; omega)⟩ rfl hl.1 rfl (Nat.le_of_ble_eq_true rfl) ⟨Nat.zero_le _, Nat.zero_le _⟩ dX3_readProduct_2) hS (fun H locs hP hS hW => ?_)
  refine lv_istore_n (lv' := [(2, .int r1), (0, .ref a), (1, .int p0)]) hx hb dX3_readProduct_5 rfl hl (by decide) rfl (fun ls hl => ?_)
  refine lv_iconst (v := 0) hx hb dX3_readProduct_6 rfl ?_
  refine lv_istore_n (lv' := [(3, .int 0), (2, .int r1), (0, .ref a), (1, .int p0)]) hx hb dX3_readProduct_7 rfl hl (by decide) rfl (fun ls hl => ?_)
  exact b_X3_readProduct_8 hrp C F a p0 r1 0 h_a k_a S2 H locs _ hf hP hS hW (lv_sub hl [2, 3, 1, 0] rfl)
def s_X3_readSum_J94 (N : Nat → Nat) (F : Nat) (rp : Nat → Int32 → HS → Option (Int32 × HS)) (k8 : Nat → Int32 → Int32 → Int32 → HS → Option (Int32 × HS)) (v0 : Nat) (v1 : Int32) (v3 : Int32) (w0 : Int32) (S : HS) : Option (Int32 × HS) :=
  bnd (v3 + Int32.ofInt 1 : Int32) fun x15 =>
  k8 v0 v1 w0 x15 S
def s_X3_readSum_J64 (N : Nat → Nat) (F : Nat) (rp : Nat → Int32 → HS → Option (Int32 × HS)) (k8 : Nat → Int32 → Int32 → Int32 → HS → Option (Int32 × HS)) (v0 : Nat) (v1 : Int32) (v2 : Int32) (v3 : Int32) (v4 : Int32) (S : HS) : Option (Int32 × HS) :=
  bd1 (gR S 300 v0) fun t10 =>
  bd1 (s_X8_advance N F t10 S) fun S11 =>
  bd2 (s_X3_readProduct N F rp v0 v1 S11) fun r12 S13 =>
  if v4 = (0 : Int32) then
  s_X3_readSum_J94 N F rp k8 v0 v1 v3 (v2 - r12) S13
  else
  s_X3_readSum_J94 N F rp k8 v0 v1 v3 (v2 + r12) S13
def s_X3_readSum_J42 (N : Nat → Nat) (F : Nat) (rp : Nat → Int32 → HS → Option (Int32 × HS)) (k8 : Nat → Int32 → Int32 → Int32 → HS → Option (Int32 × HS)) (k61 : Int32 → HS → Option (Int32 × HS)) (v0 : Nat) (v1 : Int32) (v2 : Int32) (v3 : Int32) (w0 : Int32) (S : HS) : Option (Int32 × HS) :=
  if w0 = (0 : Int32) then
  bd1 (gR S 300 v0) fun t16 =>
  if (gI S 802 t16) = (45 : Int32) then
  s_X3_readSum_J64 N F rp k8 v0 v1 v2 v3 w0 S
  else
  k61 v2 S
  else
  s_X3_readSum_J64 N F rp k8 v0 v1 v2 v3 w0 S
def s_X3_readSum_L8 (N : Nat → Nat) (F : Nat) (rp : Nat → Int32 → HS → Option (Int32 × HS)) (k61 : Int32 → HS → Option (Int32 × HS)) : Nat → Nat → Int32 → Int32 → Int32 → HS → Option (Int32 × HS)
  | 0, _, _, _, _, _ => none
  | n + 1, v0, v1, v2, v3, S => if (1000 : Int32) < v3 then
  some (v2, S)
  else
  bd1 (gR S 300 v0) fun t4 =>
  if (s_X8_isRight t4 S) = (0 : Int32) then
  some (v2, S)
  else
  bd1 (gR S 300 v0) fun t7 =>
  if (gI S 802 t7) = (43 : Int32) then
  s_X3_readSum_J42 N F rp (s_X3_readSum_L8 N F rp k61 n) k61 v0 v1 v2 v3 1 S
  else
  s_X3_readSum_J42 N F rp (s_X3_readSum_L8 N F rp k61 n) k61 v0 v1 v2 v3 0 S
def s_X3_readSum_J61 (N : Nat → Nat) (F : Nat) (rp : Nat → Int32 → HS → Option (Int32 × HS)) (v2 : Int32) (S : HS) : Option (Int32 × HS) :=
  some (v2, S)
def s_X3_readSum (N : Nat → Nat) (F : Nat) (rp : Nat → Int32 → HS → Option (Int32 × HS)) (a : Nat) (p0 : Int32) (S : HS) : Option (Int32 × HS) :=
  bd2 (s_X3_readProduct N F rp a p0 S) fun r1 S2 =>
  s_X3_readSum_L8 N F rp (s_X3_readSum_J61 N F rp) F a p0 r1 0 S2
set_option maxRecDepth 100000 in
set_option maxHeartbeats 4000000 in
theorem b_X3_readSum_94 {p : Program} {l : Launch} {e : Env} {s : State} {m : MethodId} {args : Array Value} {below : List Frame} {meth : Method} {c : Code} {V : EV} {G : GS} {r : Int32} {S' : HS} {F : Nat} {fr lo : Nat} {rp : Nat → Int32 → HS → Option (Int32 × HS)} (hrp : ∀ (this : Nat) (q0 : Int32), ∀ {S S1 : HS} {r : Int32}, WT G S → this ∈ G.1 → G.2.1 this = 3 → rp this q0 S = some (r, S1) → MetI l yX3_readPart cX3_readPart 7 .int fr lo V G S [.ref this, .int q0] r S1) (C : CX p s m args meth c RX3 cX3_readSum 6 (some .int) V G) {k8 : Nat → Int32 → Int32 → Int32 → HS → Option (Int32 × HS)} (hk8 : ∀ (v0 : Nat) (v1 : Int32) (v2 : Int32) (v3 : Int32) (h_v0 : v0 ∈ G.1) (k_v0 : G.2.1 v0 = 3) (S : HS) (H : Heap) (locs : List Loc) (ls : Array Slot), k8 v0 v1 v2 v3 S = some (r, S') → HP V G S H → va_S (AG G s.heap.size) s.heap H locs → WT G S → lv_has ls 6 [(0, .ref v0), (1, .int v1), (2, .int v2), (3, .int v3)] → W p l e (RM (fr + 14) (lo + 520)) s m args below meth c H locs 0 0 (MQ below (QI V G S' r s.heap.size) args s 0 0 (AG G s.heap.size)) (F0 m 8 ls [])) : ∀ (v0 : Nat) (v1 : Int32) (v3 : Int32) (w0 : Int32) (h_v0 : v0 ∈ G.1) (k_v0 : G.2.1 v0 = 3) (S : HS) (H : Heap) (locs : List Loc) (ls : Array Slot), s_X3_readSum_J94 G.2.2 F rp k8 v0 v1 v3 w0 S = some (r, S') → HP V G S H → va_S (AG G s.heap.size) s.heap H locs → WT G S → lv_has ls 6 [(0, .ref v0), (1, .int v1), (3, .int v3)] → W p l e (RM (fr + 14) (lo + 520)) s m args below meth c H locs 0 0 (MQ below (QI V G S' r s.heap.size) args s 0 0 (AG G s.heap.size)) (F0 m 94 ls [.int w0]) := by
  intro v0 v1 v3 w0 h_v0 k_v0 S H locs ls hf hP hS hW hl
  have hx := C.1
  have hb := C.2.1
  unfold s_X3_readSum_J94 at hf
  refine lv_istore_n (lv' := [(2, .int w0), (0, .ref v0), (1, .int v1), (3, .int v3)]) hx hb dX3_readSum_94 rfl hl (by decide) rfl (fun ls hl => ?_)
  obtain ⟨x15, ex15, hf⟩ := bnd_e hf
  refine lv_iinc (v := x15) (lv' := [(3, .int x15), (2, .int w0), (0, .ref v0), (1, .int v1)]) hx hb dX3_readSum_95 hl (k := 3) rfl ex15.symm (by decide) rfl (fun ls hl => ?_)
  refine lv_goto (tgt := 8) hx hb dX3_readSum_98 (by decide) ?_
  exact hk8 v0 v1 w0 x15 h_v0 k_v0 S H locs _ hf hP hS hW (lv_sub hl [2, 3, 1, 0] rfl)
set_option maxRecDepth 100000 in
set_option maxHeartbeats 4000000 in
theorem b_X3_readSum_64 {p : Program} {l : Launch} {e : Env} {s : State} {m : MethodId} {args : Array Value} {below : List Frame} {meth : Method} {c : Code} {V : EV} {G : GS} {r : Int32} {S' : HS} {F : Nat} {fr lo : Nat} {rp : Nat → Int32 → HS → Option (Int32 × HS)} (hrp : ∀ (this : Nat) (q0 : Int32), ∀ {S S1 : HS} {r : Int32}, WT G S → this ∈ G.1 → G.2.1 this = 3 → rp this q0 S = some (r, S1) → MetI l yX3_readPart cX3_readPart 7 .int fr lo V G S [.ref this, .int q0] r S1) (C : CX p s m args meth c RX3 cX3_readSum 6 (some .int) V G) {k8 : Nat → Int32 → Int32 → Int32 → HS → Option (Int32 × HS)} (hk8 : ∀ (v0 : Nat) (v1 : Int32) (v2 : Int32) (v3 : Int32) (h_v0 : v0 ∈ G.1) (k_v0 : G.2.1 v0 = 3) (S : HS) (H : Heap) (locs : List Loc) (ls : Array Slot), k8 v0 v1 v2 v3 S = some (r, S') → HP V G S H → va_S (AG G s.heap.size) s.heap H locs → WT G S → lv_has ls 6 [(0, .ref v0), (1, .int v1), (2, .int v2), (3, .int v3)] → W p l e (RM (fr + 14) (lo + 520)) s m args below meth c H locs 0 0 (MQ below (QI V G S' r s.heap.size) args s 0 0 (AG G s.heap.size)) (F0 m 8 ls [])) : ∀ (v0 : Nat) (v1 : Int32) (v2 : Int32) (v3 : Int32) (v4 : Int32) (h_v0 : v0 ∈ G.1) (k_v0 : G.2.1 v0 = 3) (S : HS) (H : Heap) (locs : List Loc) (ls : Array Slot), s_X3_readSum_J64 G.2.2 F rp k8 v0 v1 v2 v3 v4 S = some (r, S') → HP V G S H → va_S (AG G s.heap.size) s.heap H locs → WT G S → lv_has ls 6 [(0, .ref v0), (1, .int v1), (2, .int v2), (3, .int v3), (4, .int v4)] → W p l e (RM (fr + 14) (lo + 520)) s m args below meth c H locs 0 0 (MQ below (QI V G S' r s.heap.size) args s 0 0 (AG G s.heap.size)) (F0 m 64 ls []) := by
  intro v0 v1 v2 v3 v4 h_v0 k_v0 S H locs ls hf hP hS hW hl
  have hx := C.1
  have hb := C.2.1
  unfold s_X3_readSum_J64 at hf
  refine lv_aload_n hx hb dX3_readSum_64 rfl (lv_at hl 0 rfl) ?_
  refine gf_X3_9 C hP h_v0 k_v0 dX3_readSum_65 ?_
  obtain ⟨t10, et10, hf⟩ := bd1_e hf
  obtain ⟨h_t10, k_t10⟩ := wt_r hW h_v0 k_v0 (by decide) et10
  have k_t10 : G.2.1 t10 = 8 := k_t10
  rw [et10]
  obtain ⟨S11, eS11, hf⟩ := bd1_e hf
  refine x_aft_v (x_runV (As := []) (rest := []) C hP hS (c_X8_advance (l := l) C.2.2.2.2.2.2.2.2.2.1 hW h_t10 k_t10 eS11 H.size) h_t10 k_t10 (by decide) rfl rfl km_X8_advance ki_X8_advance qm_X3_47 ⟨(by show _ ≤ _; simp only [RM]; omega), (by show _ ≤ _; simp only [RM]; omega)⟩ rfl hl.1 rfl (Nat.le_of_ble_eq_true rfl) ⟨Nat.zero_le _, Nat.zero_le _⟩ dX3_readSum_68) hS (fun H locs hP hS hW => ?_)
  refine lv_aload_n hx hb dX3_readSum_71 rfl (lv_at hl 0 rfl) ?_
  refine lv_iload_n hx hb dX3_readSum_72 rfl (lv_at hl 1 rfl) ?_
  obtain ⟨r12, S13, eS13, hf⟩ := bd2_e hf
  refine x_aft_i (x_runV (As := [.int v1]) (rest := []) C hP hS (c_X3_readProduct (l := l) C.2.2.2.2.2.2.2.2.2.1 hW hrp h_v0 k_v0 eS13 H.size) h_v0 k_v0 (by decide) rfl rfl km_X3_readProduct ki_X3_readProduct qm_X3_60 ⟨(by show _ ≤ _; simp only [RM]; omega), (by show _ ≤ _; simp only [RM]; omega)⟩ rfl hl.1 rfl (Nat.le_of_ble_eq_true rfl) ⟨Nat.zero_le _, Nat.zero_le _⟩ dX3_readSum_73) hS (fun H locs hP hS hW => ?_)
  refine lv_istore (lv' := [(5, .int r12), (0, .ref v0), (1, .int v1), (2, .int v2), (3, .int v3), (4, .int v4)]) hx hb dX3_readSum_76 hl (by decide) rfl (fun ls hl => ?_)
  refine lv_iload hx hb dX3_readSum_78 (lv_at hl 5 rfl) ?_
  refine lv_if_eq (tgt := 90) hx hb dX3_readSum_80 (by decide) (fun c14 => ?_) (fun c14 => ?_)
  · have hf := if_t c14 hf
    refine lv_iload_n hx hb dX3_readSum_90 rfl (lv_at hl 3 rfl) ?_
    refine lv_iload hx hb dX3_readSum_91 (lv_at hl 0 rfl) ?_
    refine lv_isub hx hb dX3_readSum_93 ?_
    exact b_X3_readSum_94 hrp C hk8 v0 v1 v3 (v2 - r12) h_v0 k_v0 S13 H locs _ hf hP hS hW (lv_sub hl [1, 2, 4] rfl)
  · have hf := if_f c14 hf
    refine lv_iload_n hx hb dX3_readSum_83 rfl (lv_at hl 3 rfl) ?_
    refine lv_iload hx hb dX3_readSum_84 (lv_at hl 0 rfl) ?_
    refine lv_iadd hx hb dX3_readSum_86 ?_
    refine lv_goto (tgt := 94) hx hb dX3_readSum_87 (by decide) ?_
    exact b_X3_readSum_94 hrp C hk8 v0 v1 v3 (v2 + r12) h_v0 k_v0 S13 H locs _ hf hP hS hW (lv_sub hl [1, 2, 4] rfl)
set_option maxRecDepth 100000 in
set_option maxHeartbeats 4000000 in
theorem b_X3_readSum_42 {p : Program} {l : Launch} {e : Env} {s : State} {m : MethodId} {args : Array Value} {below : List Frame} {meth : Method} {c : Code} {V : EV} {G : GS} {r : Int32} {S' : HS} {F : Nat} {fr lo : Nat} {rp : Nat → Int32 → HS → Option (Int32 × HS)} (hrp : ∀ (this : Nat) (q0 : Int32), ∀ {S S1 : HS} {r : Int32}, WT G S → this ∈ G.1 → G.2.1 this = 3 → rp this q0 S = some (r, S1) → MetI l yX3_readPart cX3_readPart 7 .int fr lo V G S [.ref this, .int q0] r S1) (C : CX p s m args meth c RX3 cX3_readSum 6 (some .int) V G) {k8 : Nat → Int32 → Int32 → Int32 → HS → Option (Int32 × HS)} (hk8 : ∀ (v0 : Nat) (v1 : Int32) (v2 : Int32) (v3 : Int32) (h_v0 : v0 ∈ G.1) (k_v0 : G.2.1 v0 = 3) (S : HS) (H : Heap) (locs : List Loc) (ls : Array Slot), k8 v0 v1 v2 v3 S = some (r, S') → HP V G S H → va_S (AG G s.heap.size) s.heap H locs → WT G S → lv_has ls 6 [(0, .ref v0), (1, .int v1), (2, .int v2), (3, .int v3)] → W p l e (RM (fr + 14) (lo + 520)) s m args below meth c H locs 0 0 (MQ below (QI V G S' r s.heap.size) args s 0 0 (AG G s.heap.size)) (F0 m 8 ls [])) {k61 : Int32 → HS → Option (Int32 × HS)} (hk61 : ∀ (v2 : Int32) (S : HS) (H : Heap) (locs : List Loc) (ls : Array Slot), k61 v2 S = some (r, S') → HP V G S H → va_S (AG G s.heap.size) s.heap H locs → WT G S → lv_has ls 6 [(2, .int v2)] → W p l e (RM (fr + 14) (lo + 520)) s m args below meth c H locs 0 0 (MQ below (QI V G S' r s.heap.size) args s 0 0 (AG G s.heap.size)) (F0 m 61 ls [])) : ∀ (v0 : Nat) (v1 : Int32) (v2 : Int32) (v3 : Int32) (w0 : Int32) (h_v0 : v0 ∈ G.1) (k_v0 : G.2.1 v0 = 3) (S : HS) (H : Heap) (locs : List Loc) (ls : Array Slot), s_X3_readSum_J42 G.2.2 F rp k8 k61 v0 v1 v2 v3 w0 S = some (r, S') → HP V G S H → va_S (AG G s.heap.size) s.heap H locs → WT G S → lv_has ls 6 [(0, .ref v0), (1, .int v1), (2, .int v2), (3, .int v3)] → W p l e (RM (fr + 14) (lo + 520)) s m args below meth c H locs 0 0 (MQ below (QI V G S' r s.heap.size) args s 0 0 (AG G s.heap.size)) (F0 m 42 ls [.int w0]) := by
  intro v0 v1 v2 v3 w0 h_v0 k_v0 S H locs ls hf hP hS hW hl
  have hx := C.1
  have hb := C.2.1
  unfold s_X3_readSum_J42 at hf
  refine lv_istore (lv' := [(4, .int w0), (0, .ref v0), (1, .int v1), (2, .int v2), (3, .int v3)]) hx hb dX3_readSum_42 hl (by decide) rfl (fun ls hl => ?_)
  refine lv_iload hx hb dX3_readSum_44 (lv_at hl 0 rfl) ?_
  refine lv_if_ne (tgt := 64) hx hb dX3_readSum_46 (by decide) (fun c9 => ?_) (fun c9 => ?_)
  · have hf := if_f c9 hf
    exact b_X3_readSum_64 hrp C hk8 v0 v1 v2 v3 w0 h_v0 k_v0 S H locs _ hf hP hS hW (lv_sub hl [1, 2, 3, 4, 0] rfl)
  · have hf := if_t c9 hf
    refine lv_aload_n hx hb dX3_readSum_49 rfl (lv_at hl 1 rfl) ?_
    refine gf_X3_9 C hP h_v0 k_v0 dX3_readSum_50 ?_
    obtain ⟨t16, et16, hf⟩ := bd1_e hf
    obtain ⟨h_t16, k_t16⟩ := wt_r hW h_v0 k_v0 (by decide) et16
    have k_t16 : G.2.1 t16 = 8 := k_t16
    rw [et16]
    refine gf_X3_57 C hP h_t16 k_t16 dX3_readSum_53 ?_
    refine lv_bipush (v := 45) hx hb dX3_readSum_56 kc_bipush_45 ?_
    refine lv_icmp_eq (tgt := 64) hx hb dX3_readSum_58 (by decide) (fun c17 => ?_) (fun c17 => ?_)
    · have hf := if_t c17 hf
      exact b_X3_readSum_64 hrp C hk8 v0 v1 v2 v3 w0 h_v0 k_v0 S H locs _ hf hP hS hW (lv_sub hl [1, 2, 3, 4, 0] rfl)
    · have hf := if_f c17 hf
      exact hk61 v2 S H locs _ hf hP hS hW (lv_sub hl [3] rfl)
set_option maxRecDepth 100000 in
set_option maxHeartbeats 4000000 in
theorem b_X3_readSum_8 {p : Program} {l : Launch} {e : Env} {s : State} {m : MethodId} {args : Array Value} {below : List Frame} {meth : Method} {c : Code} {V : EV} {G : GS} {r : Int32} {S' : HS} {F : Nat} {fr lo : Nat} {rp : Nat → Int32 → HS → Option (Int32 × HS)} (hrp : ∀ (this : Nat) (q0 : Int32), ∀ {S S1 : HS} {r : Int32}, WT G S → this ∈ G.1 → G.2.1 this = 3 → rp this q0 S = some (r, S1) → MetI l yX3_readPart cX3_readPart 7 .int fr lo V G S [.ref this, .int q0] r S1) (C : CX p s m args meth c RX3 cX3_readSum 6 (some .int) V G) {k61 : Int32 → HS → Option (Int32 × HS)} (hk61 : ∀ (v2 : Int32) (S : HS) (H : Heap) (locs : List Loc) (ls : Array Slot), k61 v2 S = some (r, S') → HP V G S H → va_S (AG G s.heap.size) s.heap H locs → WT G S → lv_has ls 6 [(2, .int v2)] → W p l e (RM (fr + 14) (lo + 520)) s m args below meth c H locs 0 0 (MQ below (QI V G S' r s.heap.size) args s 0 0 (AG G s.heap.size)) (F0 m 61 ls [])) : ∀ n : Nat, ∀ (v0 : Nat) (v1 : Int32) (v2 : Int32) (v3 : Int32) (h_v0 : v0 ∈ G.1) (k_v0 : G.2.1 v0 = 3) (S : HS) (H : Heap) (locs : List Loc) (ls : Array Slot), s_X3_readSum_L8 G.2.2 F rp k61 n v0 v1 v2 v3 S = some (r, S') → HP V G S H → va_S (AG G s.heap.size) s.heap H locs → WT G S → lv_has ls 6 [(0, .ref v0), (1, .int v1), (2, .int v2), (3, .int v3)] → W p l e (RM (fr + 14) (lo + 520)) s m args below meth c H locs 0 0 (MQ below (QI V G S' r s.heap.size) args s 0 0 (AG G s.heap.size)) (F0 m 8 ls []) := by
  intro n
  induction n with
  | zero =>
    intro v0 v1 v2 v3 h_v0 k_v0 S H locs ls hf
    rw [s_X3_readSum_L8] at hf
    cases hf
  | succ n ih =>
    intro v0 v1 v2 v3 h_v0 k_v0 S H locs ls hf hP hS hW hl
    have hx := C.1
    have hb := C.2.1
    rw [s_X3_readSum_L8] at hf
    refine lv_iload_n hx hb dX3_readSum_8 rfl (lv_at hl 3 rfl) ?_
    refine lv_sipush (v := 1000) hx hb dX3_readSum_9 kc_sipush_1000 ?_
    refine lv_icmp_gt (tgt := 101) hx hb dX3_readSum_12 (by decide) (fun c3 => ?_) (fun c3 => ?_)
    · have hf := if_t c3 hf
      refine lv_iload_n hx hb dX3_readSum_101 rfl (lv_at hl 2 rfl) ?_
      cases hf
      exact x_reti C hP hS hW dX3_readSum_102
    · have hf := if_f c3 hf
      refine lv_aload_n hx hb dX3_readSum_15 rfl (lv_at hl 0 rfl) ?_
      refine gf_X3_9 C hP h_v0 k_v0 dX3_readSum_16 ?_
      obtain ⟨t4, et4, hf⟩ := bd1_e hf
      obtain ⟨h_t4, k_t4⟩ := wt_r hW h_v0 k_v0 (by decide) et4
      have k_t4 : G.2.1 t4 = 8 := k_t4
      rw [et4]
      refine x_aft_z (x_runV (As := []) (rest := []) C hP hS (c_X8_isRight (l := l) C.2.2.2.2.2.2.2.2.2.1 hW h_t4 k_t4 rfl H.size) h_t4 k_t4 (by decide) rfl rfl km_X8_isRight ki_X8_isRight qm_X3_21 ⟨(by show _ ≤ _; simp only [RM]; omega), (by show _ ≤ _; simp only [RM]; omega)⟩ rfl hl.1 rfl (Nat.le_of_ble_eq_true rfl) ⟨Nat.zero_le _, Nat.zero_le _⟩ dX3_readSum_19) hS (fun H locs hP hS hW z5 => ?_)
      refine lv_if_eq (tgt := 101) hx hb dX3_readSum_22 (by decide) (fun c6 => ?_) (fun c6 => ?_)
      · have hf := if_t c6 hf
        refine lv_iload_n hx hb dX3_readSum_101 rfl (lv_at hl 2 rfl) ?_
        cases hf
        exact x_reti C hP hS hW dX3_readSum_102
      · have hf := if_f c6 hf
        refine lv_aload_n hx hb dX3_readSum_25 rfl (lv_at hl 0 rfl) ?_
        refine gf_X3_9 C hP h_v0 k_v0 dX3_readSum_26 ?_
        obtain ⟨t7, et7, hf⟩ := bd1_e hf
        obtain ⟨h_t7, k_t7⟩ := wt_r hW h_v0 k_v0 (by decide) et7
        have k_t7 : G.2.1 t7 = 8 := k_t7
        rw [et7]
        refine gf_X3_57 C hP h_t7 k_t7 dX3_readSum_29 ?_
        refine lv_bipush (v := 43) hx hb dX3_readSum_32 kc_bipush_43 ?_
        refine lv_icmp_ne (tgt := 41) hx hb dX3_readSum_34 (by decide) (fun c8 => ?_) (fun c8 => ?_)
        · have hf := if_f c8 hf
          refine lv_iconst (v := 0) hx hb dX3_readSum_41 rfl ?_
          exact b_X3_readSum_42 hrp C ih hk61 v0 v1 v2 v3 0 h_v0 k_v0 S H locs _ hf hP hS hW (lv_sub hl [0, 1, 2, 3] rfl)
        · have hf := if_t c8 hf
          refine lv_iconst (v := 1) hx hb dX3_readSum_37 rfl ?_
          refine lv_goto (tgt := 42) hx hb dX3_readSum_38 (by decide) ?_
          exact b_X3_readSum_42 hrp C ih hk61 v0 v1 v2 v3 1 h_v0 k_v0 S H locs _ hf hP hS hW (lv_sub hl [0, 1, 2, 3] rfl)
set_option maxRecDepth 100000 in
set_option maxHeartbeats 4000000 in
theorem b_X3_readSum_61 {p : Program} {l : Launch} {e : Env} {s : State} {m : MethodId} {args : Array Value} {below : List Frame} {meth : Method} {c : Code} {V : EV} {G : GS} {r : Int32} {S' : HS} {F : Nat} {fr lo : Nat} {rp : Nat → Int32 → HS → Option (Int32 × HS)} (hrp : ∀ (this : Nat) (q0 : Int32), ∀ {S S1 : HS} {r : Int32}, WT G S → this ∈ G.1 → G.2.1 this = 3 → rp this q0 S = some (r, S1) → MetI l yX3_readPart cX3_readPart 7 .int fr lo V G S [.ref this, .int q0] r S1) (C : CX p s m args meth c RX3 cX3_readSum 6 (some .int) V G) : ∀ (v2 : Int32) (S : HS) (H : Heap) (locs : List Loc) (ls : Array Slot), s_X3_readSum_J61 G.2.2 F rp v2 S = some (r, S') → HP V G S H → va_S (AG G s.heap.size) s.heap H locs → WT G S → lv_has ls 6 [(2, .int v2)] → W p l e (RM (fr + 14) (lo + 520)) s m args below meth c H locs 0 0 (MQ below (QI V G S' r s.heap.size) args s 0 0 (AG G s.heap.size)) (F0 m 61 ls []) := by
  intro v2 S H locs ls hf hP hS hW hl
  have hx := C.1
  have hb := C.2.1
  unfold s_X3_readSum_J61 at hf
  refine lv_goto (tgt := 101) hx hb dX3_readSum_61 (by decide) ?_
  refine lv_iload_n hx hb dX3_readSum_101 rfl (lv_at hl 0 rfl) ?_
  cases hf
  exact x_reti C hP hS hW dX3_readSum_102
set_option maxRecDepth 100000 in
set_option maxHeartbeats 4000000 in
theorem c_X3_readSum {l : Launch} {V : EV} {G : GS} {S : HS} {F : Nat} {a : Nat} {p0 : Int32} {r : Int32} {S' : HS} (hN : G.1.Nodup) (hW : WT G S) {fr lo : Nat} {rp : Nat → Int32 → HS → Option (Int32 × HS)} (hrp : ∀ (this : Nat) (q0 : Int32), ∀ {S S1 : HS} {r : Int32}, WT G S → this ∈ G.1 → G.2.1 this = 3 → rp this q0 S = some (r, S1) → MetI l yX3_readPart cX3_readPart 7 .int fr lo V G S [.ref this, .int q0] r S1) (h_a : a ∈ G.1) (k_a : G.2.1 a = 3) (hf : s_X3_readSum G.2.2 F rp a p0 S = some (r, S')) : MetI l yX3_readSum cX3_readSum 6 .int (fr + 14) (lo + 520) V G S [.ref a, .int p0] r S' := by
  intro sz
  refine x_in RX3 rfl (by decide +kernel) hN (Nat.le_of_ble_eq_true rfl) (fun p e s m args below meth c ls hsz hargs hnm C hP hS hl => ?_)
  subst hsz
  have hx := C.1
  have hb := C.2.1
  have hl : lv_has ls 6 [(0, .ref a), (1, .int p0)] := hl
  unfold s_X3_readSum at hf
  refine lv_aload_n hx hb dX3_readSum_0 rfl (lv_at hl 0 rfl) ?_
  refine lv_iload_n hx hb dX3_readSum_1 rfl (lv_at hl 1 rfl) ?_
  obtain ⟨r1, S2, eS2, hf⟩ := bd2_e hf
  refine x_aft_i (x_runV (As := [.int p0]) (rest := []) C hP hS (c_X3_readProduct (l := l) C.2.2.2.2.2.2.2.2.2.1 hW hrp h_a k_a eS2 s.heap.size) h_a k_a (by decide) rfl rfl km_X3_readProduct ki_X3_readProduct qm_X3_60 ⟨(by show _ ≤ _; simp only [RM]; omega), (by show _ ≤ _; simp only [RM]; omega)⟩ rfl hl.1 rfl (Nat.le_of_ble_eq_true rfl) ⟨Nat.zero_le _, Nat.zero_le _⟩ dX3_readSum_2) hS (fun H locs hP hS hW => ?_)
  refine lv_istore_n (lv' := [(2, .int r1), (0, .ref a), (1, .int p0)]) hx hb dX3_readSum_5 rfl hl (by decide) rfl (fun ls hl => ?_)
  refine lv_iconst (v := 0) hx hb dX3_readSum_6 rfl ?_
  refine lv_istore_n (lv' := [(3, .int 0), (2, .int r1), (0, .ref a), (1, .int p0)]) hx hb dX3_readSum_7 rfl hl (by decide) rfl (fun ls hl => ?_)
  exact b_X3_readSum_8 hrp C (b_X3_readSum_61 hrp C) F a p0 r1 0 h_a k_a S2 H locs _ hf hP hS hW (lv_sub hl [2, 3, 1, 0] rfl)
def s_X3_readTest_J103 (N : Nat → Nat) (F : Nat) (rp : Nat → Int32 → HS → Option (Int32 × HS)) (w0 : Int32) (S : HS) : Option (Int32 × HS) :=
  some (s_X3_asFact w0 S, S)
def s_X3_readTest_J59 (N : Nat → Nat) (F : Nat) (rp : Nat → Int32 → HS → Option (Int32 × HS)) (v0 : Nat) (v1 : Int32) (v2 : Int32) (w0 : Int32) (S : HS) : Option (Int32 × HS) :=
  bd1 (gR S 300 v0) fun t10 =>
  bd1 (s_X8_advance N F t10 S) fun S11 =>
  bd2 (s_X3_readSum N F rp v0 v1 S11) fun r12 S13 =>
  if w0 = (0 : Int32) then
  if v2 = r12 then
  s_X3_readTest_J103 N F rp 1 S13
  else
  s_X3_readTest_J103 N F rp 0 S13
  else
  if r12 ≤ v2 then
  s_X3_readTest_J103 N F rp 0 S13
  else
  s_X3_readTest_J103 N F rp 1 S13
def s_X3_readTest_J42 (N : Nat → Nat) (F : Nat) (rp : Nat → Int32 → HS → Option (Int32 × HS)) (v0 : Nat) (v1 : Int32) (v2 : Int32) (S : HS) : Option (Int32 × HS) :=
  bd1 (gR S 300 v0) fun t8 =>
  if (gI S 802 t8) = (60 : Int32) then
  s_X3_readTest_J59 N F rp v0 v1 v2 1 S
  else
  s_X3_readTest_J59 N F rp v0 v1 v2 0 S
def s_X3_readTest (N : Nat → Nat) (F : Nat) (rp : Nat → Int32 → HS → Option (Int32 × HS)) (a : Nat) (p0 : Int32) (S : HS) : Option (Int32 × HS) :=
  bd2 (s_X3_readSum N F rp a p0 S) fun r1 S2 =>
  bd1 (gR S2 300 a) fun t3 =>
  if (s_X8_isRight t3 S2) = (0 : Int32) then
  some (r1, S2)
  else
  bd1 (gR S2 300 a) fun t6 =>
  if (gI S2 802 t6) = (60 : Int32) then
  s_X3_readTest_J42 N F rp a p0 r1 S2
  else
  bd1 (gR S2 300 a) fun t17 =>
  if (gI S2 802 t17) = (61 : Int32) then
  s_X3_readTest_J42 N F rp a p0 r1 S2
  else
  some (r1, S2)
set_option maxRecDepth 100000 in
set_option maxHeartbeats 4000000 in
theorem b_X3_readTest_103 {p : Program} {l : Launch} {e : Env} {s : State} {m : MethodId} {args : Array Value} {below : List Frame} {meth : Method} {c : Code} {V : EV} {G : GS} {r : Int32} {S' : HS} {F : Nat} {fr lo : Nat} {rp : Nat → Int32 → HS → Option (Int32 × HS)} (hrp : ∀ (this : Nat) (q0 : Int32), ∀ {S S1 : HS} {r : Int32}, WT G S → this ∈ G.1 → G.2.1 this = 3 → rp this q0 S = some (r, S1) → MetI l yX3_readPart cX3_readPart 7 .int fr lo V G S [.ref this, .int q0] r S1) (C : CX p s m args meth c RX3 cX3_readTest 5 (some .int) V G) : ∀ (w0 : Int32) (S : HS) (H : Heap) (locs : List Loc) (ls : Array Slot), s_X3_readTest_J103 G.2.2 F rp w0 S = some (r, S') → HP V G S H → va_S (AG G s.heap.size) s.heap H locs → WT G S → lv_has ls 5 [] → W p l e (RM (fr + 15) (lo + 553)) s m args below meth c H locs 0 0 (MQ below (QI V G S' r s.heap.size) args s 0 0 (AG G s.heap.size)) (F0 m 103 ls [.int w0]) := by
  intro w0 S H locs ls hf hP hS hW hl
  have hx := C.1
  have hb := C.2.1
  unfold s_X3_readTest_J103 at hf
  refine x_aft_i (x_runS (As := [.int w0]) (rest := []) C hP hS (c_X3_asFact (l := l) C.2.2.2.2.2.2.2.2.2.1 hW rfl H.size) km_X3_asFact ks_X3_asFact qm_X3_50 ⟨(by show _ ≤ _; simp only [RM]; omega), (by show _ ≤ _; simp only [RM]; omega)⟩ rfl hl.1 rfl (Nat.le_of_ble_eq_true rfl) ⟨Nat.zero_le _, Nat.zero_le _⟩ dX3_readTest_103) hS (fun H locs hP hS hW => ?_)
  cases hf
  exact x_reti C hP hS hW dX3_readTest_106
set_option maxRecDepth 100000 in
set_option maxHeartbeats 4000000 in
theorem b_X3_readTest_59 {p : Program} {l : Launch} {e : Env} {s : State} {m : MethodId} {args : Array Value} {below : List Frame} {meth : Method} {c : Code} {V : EV} {G : GS} {r : Int32} {S' : HS} {F : Nat} {fr lo : Nat} {rp : Nat → Int32 → HS → Option (Int32 × HS)} (hrp : ∀ (this : Nat) (q0 : Int32), ∀ {S S1 : HS} {r : Int32}, WT G S → this ∈ G.1 → G.2.1 this = 3 → rp this q0 S = some (r, S1) → MetI l yX3_readPart cX3_readPart 7 .int fr lo V G S [.ref this, .int q0] r S1) (C : CX p s m args meth c RX3 cX3_readTest 5 (some .int) V G) : ∀ (v0 : Nat) (v1 : Int32) (v2 : Int32) (w0 : Int32) (h_v0 : v0 ∈ G.1) (k_v0 : G.2.1 v0 = 3) (S : HS) (H : Heap) (locs : List Loc) (ls : Array Slot), s_X3_readTest_J59 G.2.2 F rp v0 v1 v2 w0 S = some (r, S') → HP V G S H → va_S (AG G s.heap.size) s.heap H locs → WT G S → lv_has ls 5 [(0, .ref v0), (1, .int v1), (2, .int v2)] → W p l e (RM (fr + 15) (lo + 553)) s m args below meth c H locs 0 0 (MQ below (QI V G S' r s.heap.size) args s 0 0 (AG G s.heap.size)) (F0 m 59 ls [.int w0]) := by
  intro v0 v1 v2 w0 h_v0 k_v0 S H locs ls hf hP hS hW hl
  have hx := C.1
  have hb := C.2.1
  unfold s_X3_readTest_J59 at hf
  refine lv_istore_n (lv' := [(3, .int w0), (0, .ref v0), (1, .int v1), (2, .int v2)]) hx hb dX3_readTest_59 rfl hl (by decide) rfl (fun ls hl => ?_)
  refine lv_aload_n hx hb dX3_readTest_60 rfl (lv_at hl 1 rfl) ?_
  refine gf_X3_9 C hP h_v0 k_v0 dX3_readTest_61 ?_
  obtain ⟨t10, et10, hf⟩ := bd1_e hf
  obtain ⟨h_t10, k_t10⟩ := wt_r hW h_v0 k_v0 (by decide) et10
  have k_t10 : G.2.1 t10 = 8 := k_t10
  rw [et10]
  obtain ⟨S11, eS11, hf⟩ := bd1_e hf
  refine x_aft_v (x_runV (As := []) (rest := []) C hP hS (c_X8_advance (l := l) C.2.2.2.2.2.2.2.2.2.1 hW h_t10 k_t10 eS11 H.size) h_t10 k_t10 (by decide) rfl rfl km_X8_advance ki_X8_advance qm_X3_47 ⟨(by show _ ≤ _; simp only [RM]; omega), (by show _ ≤ _; simp only [RM]; omega)⟩ rfl hl.1 rfl (Nat.le_of_ble_eq_true rfl) ⟨Nat.zero_le _, Nat.zero_le _⟩ dX3_readTest_64) hS (fun H locs hP hS hW => ?_)
  refine lv_aload_n hx hb dX3_readTest_67 rfl (lv_at hl 1 rfl) ?_
  refine lv_iload_n hx hb dX3_readTest_68 rfl (lv_at hl 2 rfl) ?_
  obtain ⟨r12, S13, eS13, hf⟩ := bd2_e hf
  refine x_aft_i (x_runV (As := [.int v1]) (rest := []) C hP hS (c_X3_readSum (l := l) C.2.2.2.2.2.2.2.2.2.1 hW hrp h_v0 k_v0 eS13 H.size) h_v0 k_v0 (by decide) rfl rfl km_X3_readSum ki_X3_readSum qm_X3_54 ⟨(by show _ ≤ _; simp only [RM]; omega), (by show _ ≤ _; simp only [RM]; omega)⟩ rfl hl.1 rfl (Nat.le_of_ble_eq_true rfl) ⟨Nat.zero_le _, Nat.zero_le _⟩ dX3_readTest_69) hS (fun H locs hP hS hW => ?_)
  refine lv_istore (lv' := [(4, .int r12), (3, .int w0), (0, .ref v0), (1, .int v1), (2, .int v2)]) hx hb dX3_readTest_72 hl (by decide) rfl (fun ls hl => ?_)
  refine lv_iload_n hx hb dX3_readTest_74 rfl (lv_at hl 1 rfl) ?_
  refine lv_if_eq (tgt := 92) hx hb dX3_readTest_75 (by decide) (fun c14 => ?_) (fun c14 => ?_)
  · have hf := if_t c14 hf
    refine lv_iload_n hx hb dX3_readTest_92 rfl (lv_at hl 4 rfl) ?_
    refine lv_iload hx hb dX3_readTest_93 (lv_at hl 0 rfl) ?_
    refine lv_icmp_ne (tgt := 102) hx hb dX3_readTest_95 (by decide) (fun c15 => ?_) (fun c15 => ?_)
    · have hf := if_f c15 hf
      refine lv_iconst (v := 0) hx hb dX3_readTest_102 rfl ?_
      exact b_X3_readTest_103 hrp C 0 S13 H locs _ hf hP hS hW (lv_sub hl [] rfl)
    · have hf := if_t c15 hf
      refine lv_iconst (v := 1) hx hb dX3_readTest_98 rfl ?_
      refine lv_goto (tgt := 103) hx hb dX3_readTest_99 (by decide) ?_
      exact b_X3_readTest_103 hrp C 1 S13 H locs _ hf hP hS hW (lv_sub hl [] rfl)
  · have hf := if_f c14 hf
    refine lv_iload_n hx hb dX3_readTest_78 rfl (lv_at hl 4 rfl) ?_
    refine lv_iload hx hb dX3_readTest_79 (lv_at hl 0 rfl) ?_
    refine lv_icmp_ge (tgt := 88) hx hb dX3_readTest_81 (by decide) (fun c16 => ?_) (fun c16 => ?_)
    · have hf := if_t c16 hf
      refine lv_iconst (v := 0) hx hb dX3_readTest_88 rfl ?_
      refine lv_goto (tgt := 103) hx hb dX3_readTest_89 (by decide) ?_
      exact b_X3_readTest_103 hrp C 0 S13 H locs _ hf hP hS hW (lv_sub hl [] rfl)
    · have hf := if_f c16 hf
      refine lv_iconst (v := 1) hx hb dX3_readTest_84 rfl ?_
      refine lv_goto (tgt := 103) hx hb dX3_readTest_85 (by decide) ?_
      exact b_X3_readTest_103 hrp C 1 S13 H locs _ hf hP hS hW (lv_sub hl [] rfl)
set_option maxRecDepth 100000 in
set_option maxHeartbeats 4000000 in
theorem b_X3_readTest_42 {p : Program} {l : Launch} {e : Env} {s : State} {m : MethodId} {args : Array Value} {below : List Frame} {meth : Method} {c : Code} {V : EV} {G : GS} {r : Int32} {S' : HS} {F : Nat} {fr lo : Nat} {rp : Nat → Int32 → HS → Option (Int32 × HS)} (hrp : ∀ (this : Nat) (q0 : Int32), ∀ {S S1 : HS} {r : Int32}, WT G S → this ∈ G.1 → G.2.1 this = 3 → rp this q0 S = some (r, S1) → MetI l yX3_readPart cX3_readPart 7 .int fr lo V G S [.ref this, .int q0] r S1) (C : CX p s m args meth c RX3 cX3_readTest 5 (some .int) V G) : ∀ (v0 : Nat) (v1 : Int32) (v2 : Int32) (h_v0 : v0 ∈ G.1) (k_v0 : G.2.1 v0 = 3) (S : HS) (H : Heap) (locs : List Loc) (ls : Array Slot), s_X3_readTest_J42 G.2.2 F rp v0 v1 v2 S = some (r, S') → HP V G S H → va_S (AG G s.heap.size) s.heap H locs → WT G S → lv_has ls 5 [(0, .ref v0), (1, .int v1), (2, .int v2)] → W p l e (RM (fr + 15) (lo + 553)) s m args below meth c H locs 0 0 (MQ below (QI V G S' r s.heap.size) args s 0 0 (AG G s.heap.size)) (F0 m 42 ls []) := by
  intro v0 v1 v2 h_v0 k_v0 S H locs ls hf hP hS hW hl
  have hx := C.1
  have hb := C.2.1
  unfold s_X3_readTest_J42 at hf
  refine lv_aload_n hx hb dX3_readTest_42 rfl (lv_at hl 0 rfl) ?_
  refine gf_X3_9 C hP h_v0 k_v0 dX3_readTest_43 ?_
  obtain ⟨t8, et8, hf⟩ := bd1_e hf
  obtain ⟨h_t8, k_t8⟩ := wt_r hW h_v0 k_v0 (by decide) et8
  have k_t8 : G.2.1 t8 = 8 := k_t8
  rw [et8]
  refine gf_X3_57 C hP h_t8 k_t8 dX3_readTest_46 ?_
  refine lv_bipush (v := 60) hx hb dX3_readTest_49 kc_bipush_60 ?_
  refine lv_icmp_ne (tgt := 58) hx hb dX3_readTest_51 (by decide) (fun c9 => ?_) (fun c9 => ?_)
  · have hf := if_f c9 hf
    refine lv_iconst (v := 0) hx hb dX3_readTest_58 rfl ?_
    exact b_X3_readTest_59 hrp C v0 v1 v2 0 h_v0 k_v0 S H locs _ hf hP hS hW (lv_sub hl [0, 1, 2] rfl)
  · have hf := if_t c9 hf
    refine lv_iconst (v := 1) hx hb dX3_readTest_54 rfl ?_
    refine lv_goto (tgt := 59) hx hb dX3_readTest_55 (by decide) ?_
    exact b_X3_readTest_59 hrp C v0 v1 v2 1 h_v0 k_v0 S H locs _ hf hP hS hW (lv_sub hl [0, 1, 2] rfl)
set_option maxRecDepth 100000 in
set_option maxHeartbeats 4000000 in
theorem c_X3_readTest {l : Launch} {V : EV} {G : GS} {S : HS} {F : Nat} {a : Nat} {p0 : Int32} {r : Int32} {S' : HS} (hN : G.1.Nodup) (hW : WT G S) {fr lo : Nat} {rp : Nat → Int32 → HS → Option (Int32 × HS)} (hrp : ∀ (this : Nat) (q0 : Int32), ∀ {S S1 : HS} {r : Int32}, WT G S → this ∈ G.1 → G.2.1 this = 3 → rp this q0 S = some (r, S1) → MetI l yX3_readPart cX3_readPart 7 .int fr lo V G S [.ref this, .int q0] r S1) (h_a : a ∈ G.1) (k_a : G.2.1 a = 3) (hf : s_X3_readTest G.2.2 F rp a p0 S = some (r, S')) : MetI l yX3_readTest cX3_readTest 5 .int (fr + 15) (lo + 553) V G S [.ref a, .int p0] r S' := by
  intro sz
  refine x_in RX3 rfl (by decide +kernel) hN (Nat.le_of_ble_eq_true rfl) (fun p e s m args below meth c ls hsz hargs hnm C hP hS hl => ?_)
  subst hsz
  have hx := C.1
  have hb := C.2.1
  have hl : lv_has ls 5 [(0, .ref a), (1, .int p0)] := hl
  unfold s_X3_readTest at hf
  refine lv_aload_n hx hb dX3_readTest_0 rfl (lv_at hl 0 rfl) ?_
  refine lv_iload_n hx hb dX3_readTest_1 rfl (lv_at hl 1 rfl) ?_
  obtain ⟨r1, S2, eS2, hf⟩ := bd2_e hf
  refine x_aft_i (x_runV (As := [.int p0]) (rest := []) C hP hS (c_X3_readSum (l := l) C.2.2.2.2.2.2.2.2.2.1 hW hrp h_a k_a eS2 s.heap.size) h_a k_a (by decide) rfl rfl km_X3_readSum ki_X3_readSum qm_X3_54 ⟨(by show _ ≤ _; simp only [RM]; omega), (by show _ ≤ _; simp only [RM]; omega)⟩ rfl hl.1 rfl (Nat.le_of_ble_eq_true rfl) ⟨Nat.zero_le _, Nat.zero_le _⟩ dX3_readTest_2) hS (fun H locs hP hS hW => ?_)
  refine lv_istore_n (lv' := [(2, .int r1), (0, .ref a), (1, .int p0)]) hx hb dX3_readTest_5 rfl hl (by decide) rfl (fun ls hl => ?_)
  refine lv_aload_n hx hb dX3_readTest_6 rfl (lv_at hl 1 rfl) ?_
  refine gf_X3_9 C hP h_a k_a dX3_readTest_7 ?_
  obtain ⟨t3, et3, hf⟩ := bd1_e hf
  obtain ⟨h_t3, k_t3⟩ := wt_r hW h_a k_a (by decide) et3
  have k_t3 : G.2.1 t3 = 8 := k_t3
  rw [et3]
  refine x_aft_z (x_runV (As := []) (rest := []) C hP hS (c_X8_isRight (l := l) C.2.2.2.2.2.2.2.2.2.1 hW h_t3 k_t3 rfl H.size) h_t3 k_t3 (by decide) rfl rfl km_X8_isRight ki_X8_isRight qm_X3_21 ⟨(by show _ ≤ _; simp only [RM]; omega), (by show _ ≤ _; simp only [RM]; omega)⟩ rfl hl.1 rfl (Nat.le_of_ble_eq_true rfl) ⟨Nat.zero_le _, Nat.zero_le _⟩ dX3_readTest_10) hS (fun H locs hP hS hW z4 => ?_)
  refine lv_if_eq (tgt := 40) hx hb dX3_readTest_13 (by decide) (fun c5 => ?_) (fun c5 => ?_)
  · have hf := if_t c5 hf
    refine lv_iload_n hx hb dX3_readTest_40 rfl (lv_at hl 0 rfl) ?_
    cases hf
    exact x_reti C hP hS hW dX3_readTest_41
  · have hf := if_f c5 hf
    refine lv_aload_n hx hb dX3_readTest_16 rfl (lv_at hl 1 rfl) ?_
    refine gf_X3_9 C hP h_a k_a dX3_readTest_17 ?_
    obtain ⟨t6, et6, hf⟩ := bd1_e hf
    obtain ⟨h_t6, k_t6⟩ := wt_r hW h_a k_a (by decide) et6
    have k_t6 : G.2.1 t6 = 8 := k_t6
    rw [et6]
    refine gf_X3_57 C hP h_t6 k_t6 dX3_readTest_20 ?_
    refine lv_bipush (v := 60) hx hb dX3_readTest_23 kc_bipush_60 ?_
    refine lv_icmp_eq (tgt := 42) hx hb dX3_readTest_25 (by decide) (fun c7 => ?_) (fun c7 => ?_)
    · have hf := if_t c7 hf
      exact b_X3_readTest_42 hrp C a p0 r1 h_a k_a S2 H locs _ hf hP hS hW (lv_sub hl [1, 2, 0] rfl)
    · have hf := if_f c7 hf
      refine lv_aload_n hx hb dX3_readTest_28 rfl (lv_at hl 1 rfl) ?_
      refine gf_X3_9 C hP h_a k_a dX3_readTest_29 ?_
      obtain ⟨t17, et17, hf⟩ := bd1_e hf
      obtain ⟨h_t17, k_t17⟩ := wt_r hW h_a k_a (by decide) et17
      have k_t17 : G.2.1 t17 = 8 := k_t17
      rw [et17]
      refine gf_X3_57 C hP h_t17 k_t17 dX3_readTest_32 ?_
      refine lv_bipush (v := 61) hx hb dX3_readTest_35 kc_bipush_61 ?_
      refine lv_icmp_eq (tgt := 42) hx hb dX3_readTest_37 (by decide) (fun c18 => ?_) (fun c18 => ?_)
      · have hf := if_t c18 hf
        exact b_X3_readTest_42 hrp C a p0 r1 h_a k_a S2 H locs _ hf hP hS hW (lv_sub hl [1, 2, 0] rfl)
      · have hf := if_f c18 hf
        refine lv_iload_n hx hb dX3_readTest_40 rfl (lv_at hl 0 rfl) ?_
        cases hf
        exact x_reti C hP hS hW dX3_readTest_41
