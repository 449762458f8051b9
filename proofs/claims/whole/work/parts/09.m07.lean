def s_X12_worthAt_J146 (N : Nat → Nat) (F : Nat) (k4 : Nat → Int32 → Int32 → HS → Option (Int32 × HS)) (v0 : Nat) (v2 : Int32) (v3 : Int32) (S : HS) : Option (Int32 × HS) :=
  bnd (v3 + Int32.ofInt 1 : Int32) fun x19 =>
  k4 v0 v2 x19 S
def s_X12_worthAt_J76 (N : Nat → Nat) (F : Nat) (k4 : Nat → Int32 → Int32 → HS → Option (Int32 × HS)) (v0 : Nat) (v2 : Int32) (v3 : Int32) (w0 : Nat) (w1 : Int32) (w2 : Int32) (S : HS) : Option (Int32 × HS) :=
  if inB w1 (N w0) = true then
  bnd (wI S w0 (w1.toNatClampNeg) w2) fun S17 =>
  bnd (v2 + Int32.ofInt 1 : Int32) fun x18 =>
  s_X12_worthAt_J146 N F k4 v0 x18 v3 S17
  else none
def s_X12_worthAt_J39 (N : Nat → Nat) (F : Nat) (k4 : Nat → Int32 → Int32 → HS → Option (Int32 × HS)) (v0 : Nat) (v2 : Int32) (v3 : Int32) (v4 : Int32) (S : HS) : Option (Int32 × HS) :=
  bd1 (gR S 1216 v0) fun t10 =>
  if v4 = (1 : Int32) then
  bd1 (gR S 1211 v0) fun t20 =>
  if inB v3 (N t20) = true then
  s_X12_worthAt_J76 N F k4 v0 v2 v3 t10 v2 ((aI S t20 v3.toNatClampNeg) / 16) S
  else none
  else
  bd1 (gR S 1215 v0) fun t12 =>
  bd1 (gR S 1211 v0) fun t13 =>
  if inB v3 (N t13) = true then
  if inB ((aI S t13 v3.toNatClampNeg) / 16) (N t12) = true then
  s_X12_worthAt_J76 N F k4 v0 v2 v3 t10 v2 (aI S t12 ((aI S t13 v3.toNatClampNeg) / 16).toNatClampNeg) S
  else none
  else none
def s_X12_worthAt_J112 (N : Nat → Nat) (F : Nat) (k4 : Nat → Int32 → Int32 → HS → Option (Int32 × HS)) (v0 : Nat) (v2 : Int32) (v3 : Int32) (w0 : Nat) (w1 : Int32) (w2 : Int32) (S : HS) : Option (Int32 × HS) :=
  if inB w1 (N w0) = true then
  bnd (wI S w0 (w1.toNatClampNeg) w2) fun S37 =>
  s_X12_worthAt_J146 N F k4 v0 v2 v3 S37
  else none
def s_X12_worthAt_L4 (N : Nat → Nat) (F : Nat) : Nat → Nat → Int32 → Int32 → HS → Option (Int32 × HS)
  | 0, _, _, _, _ => none
  | n + 1, v0, v2, v3, S => bd1 (gR S 1211 v0) fun t1 =>
  if inB v3 (N t1) = true then
  if ((aI S t1 v3.toNatClampNeg) - (aI S t1 v3.toNatClampNeg) / 16 * 16) = (0 : Int32) then
  bd1 (gR S 1216 v0) fun t4 =>
  if inB (0 : Int32) (N t4) = true then
  some (aI S t4 (0 : Int32).toNatClampNeg, S)
  else none
  else
  bd1 (gR S 1211 v0) fun t6 =>
  if inB v3 (N t6) = true then
  bnd ((aI S t6 v3.toNatClampNeg) - (aI S t6 v3.toNatClampNeg) / 16 * 16 : Int32) fun x8 =>
  if x8 = (1 : Int32) then
  s_X12_worthAt_J39 N F (s_X12_worthAt_L4 N F n) v0 v2 v3 x8 S
  else
  if x8 = (2 : Int32) then
  s_X12_worthAt_J39 N F (s_X12_worthAt_L4 N F n) v0 v2 v3 x8 S
  else
  if x8 = (3 : Int32) then
  bd1 (gR S 1216 v0) fun t32 =>
  bd1 (gR S 1216 v0) fun t33 =>
  if inB (v2 - 1) (N t33) = true then
  if (aI S t33 (v2 - 1).toNatClampNeg) = (0 : Int32) then
  s_X12_worthAt_J112 N F (s_X12_worthAt_L4 N F n) v0 v2 v3 t32 (v2 - 1) 1 S
  else
  s_X12_worthAt_J112 N F (s_X12_worthAt_L4 N F n) v0 v2 v3 t32 (v2 - 1) 0 S
  else none
  else
  bnd (v2 + Int32.ofInt (-1) : Int32) fun x24 =>
  bd1 (gR S 1216 v0) fun t25 =>
  bd1 (gR S 1216 v0) fun t26 =>
  if inB (x24 - 1) (N t26) = true then
  bd1 (gR S 1216 v0) fun t28 =>
  if inB x24 (N t28) = true then
  if inB (x24 - 1) (N t25) = true then
  bnd (wI S t25 ((x24 - 1).toNatClampNeg) (s_X12_worked x8 (aI S t26 (x24 - 1).toNatClampNeg) (aI S t28 x24.toNatClampNeg) S)) fun S31 =>
  s_X12_worthAt_J146 N F (s_X12_worthAt_L4 N F n) v0 x24 v3 S31
  else none
  else none
  else none
  else none
  else none
def s_X12_worthAt (N : Nat → Nat) (F : Nat) (a : Nat) (p0 : Int32) (S : HS) : Option (Int32 × HS) :=
  s_X12_worthAt_L4 N F F a 0 p0 S
set_option maxRecDepth 100000 in
set_option maxHeartbeats 4000000 in
theorem b_X12_worthAt_146 {p : Program} {l : Launch} {e : Env} {s : State} {m : MethodId} {args : Array Value} {below : List Frame} {meth : Method} {c : Code} {V : EV} {G : GS} {r : Int32} {S' : HS} {F : Nat} (C : CX p s m args meth c RX12 cX12_worthAt 5 (some .int) V G) {k4 : Nat → Int32 → Int32 → HS → Option (Int32 × HS)} (hk4 : ∀ (v0 : Nat) (v2 : Int32) (v3 : Int32) (h_v0 : v0 ∈ G.1) (k_v0 : G.2.1 v0 = 12) (S : HS) (H : Heap) (locs : List Loc) (ls : Array Slot), k4 v0 v2 v3 S = some (r, S') → HP V G S H → va_S (AG G s.heap.size) s.heap H locs → WT G S → lv_has ls 5 [(0, .ref v0), (2, .int v2), (3, .int v3)] → W p l e (RM 1 30) s m args below meth c H locs 0 0 (MQ below (QI V G S' r s.heap.size) args s 0 0 (AG G s.heap.size)) (F0 m 4 ls [])) : ∀ (v0 : Nat) (v2 : Int32) (v3 : Int32) (h_v0 : v0 ∈ G.1) (k_v0 : G.2.1 v0 = 12) (S : HS) (H : Heap) (locs : List Loc) (ls : Array Slot), s_X12_worthAt_J146 G.2.2 F k4 v0 v2 v3 S = some (r, S') → HP V G S H → va_S (AG G s.heap.size) s.heap H locs → WT G S → lv_has ls 5 [(0, .ref v0), (2, .int v2), (3, .int v3)] → W p l e (RM 1 30) s m args below meth c H locs 0 0 (MQ below (QI V G S' r s.heap.size) args s 0 0 (AG G s.heap.size)) (F0 m 146 ls []) := by
  intro v0 v2 v3 h_v0 k_v0 S H locs ls hf hP hS hW hl
  have hx := C.1
  have hb := C.2.1
  unfold s_X12_worthAt_J146 at hf
  obtain ⟨x19, ex19, hf⟩ := bnd_e hf
  refine lv_iinc (v := x19) (lv' := [(3, .int x19), (0, .ref v0), (2, .int v2)]) hx hb dX12_worthAt_146 hl (k := 2) rfl ex19.symm (by decide) rfl (fun ls hl => ?_)
  refine lv_goto (tgt := 4) hx hb dX12_worthAt_149 (by decide) ?_
  exact hk4 v0 v2 x19 h_v0 k_v0 S H locs _ hf hP hS hW (lv_sub hl [1, 2, 0] rfl)
set_option maxRecDepth 100000 in
set_option maxHeartbeats 4000000 in
theorem b_X12_worthAt_76 {p : Program} {l : Launch} {e : Env} {s : State} {m : MethodId} {args : Array Value} {below : List Frame} {meth : Method} {c : Code} {V : EV} {G : GS} {r : Int32} {S' : HS} {F : Nat} (C : CX p s m args meth c RX12 cX12_worthAt 5 (some .int) V G) {k4 : Nat → Int32 → Int32 → HS → Option (Int32 × HS)} (hk4 : ∀ (v0 : Nat) (v2 : Int32) (v3 : Int32) (h_v0 : v0 ∈ G.1) (k_v0 : G.2.1 v0 = 12) (S : HS) (H : Heap) (locs : List Loc) (ls : Array Slot), k4 v0 v2 v3 S = some (r, S') → HP V G S H → va_S (AG G s.heap.size) s.heap H locs → WT G S → lv_has ls 5 [(0, .ref v0), (2, .int v2), (3, .int v3)] → W p l e (RM 1 30) s m args below meth c H locs 0 0 (MQ below (QI V G S' r s.heap.size) args s 0 0 (AG G s.heap.size)) (F0 m 4 ls [])) : ∀ (v0 : Nat) (v2 : Int32) (v3 : Int32) (w0 : Nat) (w1 : Int32) (w2 : Int32) (h_v0 : v0 ∈ G.1) (k_v0 : G.2.1 v0 = 12) (h_w0 : w0 ∈ G.1) (k_w0 : G.2.1 w0 = 14) (S : HS) (H : Heap) (locs : List Loc) (ls : Array Slot), s_X12_worthAt_J76 G.2.2 F k4 v0 v2 v3 w0 w1 w2 S = some (r, S') → HP V G S H → va_S (AG G s.heap.size) s.heap H locs → WT G S → lv_has ls 5 [(0, .ref v0), (2, .int v2), (3, .int v3)] → W p l e (RM 1 30) s m args below meth c H locs 0 0 (MQ below (QI V G S' r s.heap.size) args s 0 0 (AG G s.heap.size)) (F0 m 76 ls [.int w2, .int w1, .ref w0]) := by
  intro v0 v2 v3 w0 w1 w2 h_v0 k_v0 h_w0 k_w0 S H locs ls hf hP hS hW hl
  have hx := C.1
  have hb := C.2.1
  unfold s_X12_worthAt_J76 at hf
  obtain ⟨h16, hf⟩ := if_s hf
  obtain ⟨S17, eS17, hf⟩ := bnd_e hf
  refine x_iast C hP hS h_w0 k_w0 h16 eS17 dX12_worthAt_76 (fun H locs hP hS => ?_)
  have hW : WT G S17 := by rw [eS17]; exact hW
  obtain ⟨x18, ex18, hf⟩ := bnd_e hf
  refine lv_iinc (v := x18) (lv' := [(2, .int x18), (0, .ref v0), (3, .int v3)]) hx hb dX12_worthAt_77 hl (k := 1) rfl ex18.symm (by decide) rfl (fun ls hl => ?_)
  refine lv_goto (tgt := 146) hx hb dX12_worthAt_80 (by decide) ?_
  exact b_X12_worthAt_146 C hk4 v0 x18 v3 h_v0 k_v0 S17 H locs _ hf hP hS hW (lv_sub hl [1, 0, 2] rfl)
set_option maxRecDepth 100000 in
set_option maxHeartbeats 4000000 in
theorem b_X12_worthAt_39 {p : Program} {l : Launch} {e : Env} {s : State} {m : MethodId} {args : Array Value} {below : List Frame} {meth : Method} {c : Code} {V : EV} {G : GS} {r : Int32} {S' : HS} {F : Nat} (C : CX p s m args meth c RX12 cX12_worthAt 5 (some .int) V G) {k4 : Nat → Int32 → Int32 → HS → Option (Int32 × HS)} (hk4 : ∀ (v0 : Nat) (v2 : Int32) (v3 : Int32) (h_v0 : v0 ∈ G.1) (k_v0 : G.2.1 v0 = 12) (S : HS) (H : Heap) (locs : List Loc) (ls : Array Slot), k4 v0 v2 v3 S = some (r, S') → HP V G S H → va_S (AG G s.heap.size) s.heap H locs → WT G S → lv_has ls 5 [(0, .ref v0), (2, .int v2), (3, .int v3)] → W p l e (RM 1 30) s m args below meth c H locs 0 0 (MQ below (QI V G S' r s.heap.size) args s 0 0 (AG G s.heap.size)) (F0 m 4 ls [])) : ∀ (v0 : Nat) (v2 : Int32) (v3 : Int32) (v4 : Int32) (h_v0 : v0 ∈ G.1) (k_v0 : G.2.1 v0 = 12) (S : HS) (H : Heap) (locs : List Loc) (ls : Array Slot), s_X12_worthAt_J39 G.2.2 F k4 v0 v2 v3 v4 S = some (r, S') → HP V G S H → va_S (AG G s.heap.size) s.heap H locs → WT G S → lv_has ls 5 [(0, .ref v0), (2, .int v2), (3, .int v3), (4, .int v4)] → W p l e (RM 1 30) s m args below meth c H locs 0 0 (MQ below (QI V G S' r s.heap.size) args s 0 0 (AG G s.heap.size)) (F0 m 39 ls []) := by
  intro v0 v2 v3 v4 h_v0 k_v0 S H locs ls hf hP hS hW hl
  have hx := C.1
  have hb := C.2.1
  unfold s_X12_worthAt_J39 at hf
  refine lv_aload_n hx hb dX12_worthAt_39 rfl (lv_at hl 0 rfl) ?_
  refine gf_X12_92 C hP h_v0 k_v0 dX12_worthAt_40 ?_
  obtain ⟨t10, et10, hf⟩ := bd1_e hf
  obtain ⟨h_t10, k_t10⟩ := wt_r hW h_v0 k_v0 (by decide) et10
  have k_t10 : G.2.1 t10 = 14 := k_t10
  rw [et10]
  refine lv_iload_n hx hb dX12_worthAt_43 rfl (lv_at hl 1 rfl) ?_
  refine lv_iload hx hb dX12_worthAt_44 (lv_at hl 3 rfl) ?_
  refine lv_iconst (v := 1) hx hb dX12_worthAt_46 rfl ?_
  refine lv_icmp_ne (tgt := 62) hx hb dX12_worthAt_47 (by decide) (fun c11 => ?_) (fun c11 => ?_)
  · have hf := if_f c11 hf
    refine lv_aload_n hx hb dX12_worthAt_62 rfl (lv_at hl 0 rfl) ?_
    refine gf_X12_89 C hP h_v0 k_v0 dX12_worthAt_63 ?_
    obtain ⟨t12, et12, hf⟩ := bd1_e hf
    obtain ⟨h_t12, k_t12⟩ := wt_r hW h_v0 k_v0 (by decide) et12
    have k_t12 : G.2.1 t12 = 14 := k_t12
    rw [et12]
    refine lv_aload_n hx hb dX12_worthAt_66 rfl (lv_at hl 0 rfl) ?_
    refine gf_X12_80 C hP h_v0 k_v0 dX12_worthAt_67 ?_
    obtain ⟨t13, et13, hf⟩ := bd1_e hf
    obtain ⟨h_t13, k_t13⟩ := wt_r hW h_v0 k_v0 (by decide) et13
    have k_t13 : G.2.1 t13 = 14 := k_t13
    rw [et13]
    refine lv_iload_n hx hb dX12_worthAt_70 rfl (lv_at hl 2 rfl) ?_
    obtain ⟨h14, hf⟩ := if_s hf
    refine x_iald C hP h_t13 k_t13 h14 dX12_worthAt_71 ?_
    refine lv_bipush (v := 16) hx hb dX12_worthAt_72 kc_bipush_16 ?_
    refine lv_idiv hx hb dX12_worthAt_74 (by decide) ?_
    obtain ⟨h15, hf⟩ := if_s hf
    refine x_iald C hP h_t12 k_t12 h15 dX12_worthAt_75 ?_
    exact b_X12_worthAt_76 C hk4 v0 v2 v3 t10 v2 (aI S t12 ((aI S t13 v3.toNatClampNeg) / 16).toNatClampNeg) h_v0 k_v0 h_t10 k_t10 S H locs _ hf hP hS hW (lv_sub hl [0, 1, 2] rfl)
  · have hf := if_t c11 hf
    refine lv_aload_n hx hb dX12_worthAt_50 rfl (lv_at hl 0 rfl) ?_
    refine gf_X12_80 C hP h_v0 k_v0 dX12_worthAt_51 ?_
    obtain ⟨t20, et20, hf⟩ := bd1_e hf
    obtain ⟨h_t20, k_t20⟩ := wt_r hW h_v0 k_v0 (by decide) et20
    have k_t20 : G.2.1 t20 = 14 := k_t20
    rw [et20]
    refine lv_iload_n hx hb dX12_worthAt_54 rfl (lv_at hl 2 rfl) ?_
    obtain ⟨h21, hf⟩ := if_s hf
    refine x_iald C hP h_t20 k_t20 h21 dX12_worthAt_55 ?_
    refine lv_bipush (v := 16) hx hb dX12_worthAt_56 kc_bipush_16 ?_
    refine lv_idiv hx hb dX12_worthAt_58 (by decide) ?_
    refine lv_goto (tgt := 76) hx hb dX12_worthAt_59 (by decide) ?_
    exact b_X12_worthAt_76 C hk4 v0 v2 v3 t10 v2 ((aI S t20 v3.toNatClampNeg) / 16) h_v0 k_v0 h_t10 k_t10 S H locs _ hf hP hS hW (lv_sub hl [0, 1, 2] rfl)
set_option maxRecDepth 100000 in
set_option maxHeartbeats 4000000 in
theorem b_X12_worthAt_112 {p : Program} {l : Launch} {e : Env} {s : State} {m : MethodId} {args : Array Value} {below : List Frame} {meth : Method} {c : Code} {V : EV} {G : GS} {r : Int32} {S' : HS} {F : Nat} (C : CX p s m args meth c RX12 cX12_worthAt 5 (some .int) V G) {k4 : Nat → Int32 → Int32 → HS → Option (Int32 × HS)} (hk4 : ∀ (v0 : Nat) (v2 : Int32) (v3 : Int32) (h_v0 : v0 ∈ G.1) (k_v0 : G.2.1 v0 = 12) (S : HS) (H : Heap) (locs : List Loc) (ls : Array Slot), k4 v0 v2 v3 S = some (r, S') → HP V G S H → va_S (AG G s.heap.size) s.heap H locs → WT G S → lv_has ls 5 [(0, .ref v0), (2, .int v2), (3, .int v3)] → W p l e (RM 1 30) s m args below meth c H locs 0 0 (MQ below (QI V G S' r s.heap.size) args s 0 0 (AG G s.heap.size)) (F0 m 4 ls [])) : ∀ (v0 : Nat) (v2 : Int32) (v3 : Int32) (w0 : Nat) (w1 : Int32) (w2 : Int32) (h_v0 : v0 ∈ G.1) (k_v0 : G.2.1 v0 = 12) (h_w0 : w0 ∈ G.1) (k_w0 : G.2.1 w0 = 14) (S : HS) (H : Heap) (locs : List Loc) (ls : Array Slot), s_X12_worthAt_J112 G.2.2 F k4 v0 v2 v3 w0 w1 w2 S = some (r, S') → HP V G S H → va_S (AG G s.heap.size) s.heap H locs → WT G S → lv_has ls 5 [(0, .ref v0), (2, .int v2), (3, .int v3)] → W p l e (RM 1 30) s m args below meth c H locs 0 0 (MQ below (QI V G S' r s.heap.size) args s 0 0 (AG G s.heap.size)) (F0 m 112 ls [.int w2, .int w1, .ref w0]) := by
  intro v0 v2 v3 w0 w1 w2 h_v0 k_v0 h_w0 k_w0 S H locs ls hf hP hS hW hl
  have hx := C.1
  have hb := C.2.1
  unfold s_X12_worthAt_J112 at hf
  obtain ⟨h36, hf⟩ := if_s hf
  obtain ⟨S37, eS37, hf⟩ := bnd_e hf
  refine x_iast C hP hS h_w0 k_w0 h36 eS37 dX12_worthAt_112 (fun H locs hP hS => ?_)
  have hW : WT G S37 := by rw [eS37]; exact hW
  refine lv_goto (tgt := 146) hx hb dX12_worthAt_113 (by decide) ?_
  exact b_X12_worthAt_146 C hk4 v0 v2 v3 h_v0 k_v0 S37 H locs _ hf hP hS hW (lv_sub hl [0, 1, 2] rfl)
set_option maxRecDepth 100000 in
set_option maxHeartbeats 4000000 in
theorem b_X12_worthAt_4 {p : Program} {l : Launch} {e : Env} {s : State} {m : MethodId} {args : Array Value} {below : List Frame} {meth : Method} {c : Code} {V : EV} {G : GS} {r : Int32} {S' : HS} {F : Nat} (C : CX p s m args meth c RX12 cX12_worthAt 5 (some .int) V G) : ∀ n : Nat, ∀ (v0 : Nat) (v2 : Int32) (v3 : Int32) (h_v0 : v0 ∈ G.1) (k_v0 : G.2.1 v0 = 12) (S : HS) (H : Heap) (locs : List Loc) (ls : Array Slot), s_X12_worthAt_L4 G.2.2 F n v0 v2 v3 S = some (r, S') → HP V G S H → va_S (AG G s.heap.size) s.heap H locs → WT G S → lv_has ls 5 [(0, .ref v0), (2, .int v2), (3, .int v3)] → W p l e (RM 1 30) s m args below meth c H locs 0 0 (MQ below (QI V G S' r s.heap.size) args s 0 0 (AG G s.heap.size)) (F0 m 4 ls []) := by
  intro n
  induction n with
  | zero =>
    intro v0 v2 v3 h_v0 k_v0 S H locs ls hf
    rw [s_X12_worthAt_L4] at hf
    cases hf
  | succ n ih =>
    intro v0 v2 v3 h_v0 k_v0 S H locs ls hf hP hS hW hl
    have hx := C.1
    have hb := C.2.1
    rw [s_X12_worthAt_L4] at hf
    refine lv_aload_n hx hb dX12_worthAt_4 rfl (lv_at hl 0 rfl) ?_
    refine gf_X12_80 C hP h_v0 k_v0 dX12_worthAt_5 ?_
    obtain ⟨t1, et1, hf⟩ := bd1_e hf
    obtain ⟨h_t1, k_t1⟩ := wt_r hW h_v0 k_v0 (by decide) et1
    have k_t1 : G.2.1 t1 = 14 := k_t1
    rw [et1]
    refine lv_iload_n hx hb dX12_worthAt_8 rfl (lv_at hl 2 rfl) ?_
    obtain ⟨h2, hf⟩ := if_s hf
    refine x_iald C hP h_t1 k_t1 h2 dX12_worthAt_9 ?_
    refine lv_bipush (v := 16) hx hb dX12_worthAt_10 kc_bipush_16 ?_
    refine lv_irem hx hb dX12_worthAt_12 (by decide) ?_
    refine lv_if_eq (tgt := 152) hx hb dX12_worthAt_13 (by decide) (fun c3 => ?_) (fun c3 => ?_)
    · have hf := if_t c3 hf
      refine lv_aload_n hx hb dX12_worthAt_152 rfl (lv_at hl 0 rfl) ?_
      refine gf_X12_92 C hP h_v0 k_v0 dX12_worthAt_153 ?_
      obtain ⟨t4, et4, hf⟩ := bd1_e hf
      obtain ⟨h_t4, k_t4⟩ := wt_r hW h_v0 k_v0 (by decide) et4
      have k_t4 : G.2.1 t4 = 14 := k_t4
      rw [et4]
      refine lv_iconst (v := 0) hx hb dX12_worthAt_156 rfl ?_
      obtain ⟨h5, hf⟩ := if_s hf
      refine x_iald C hP h_t4 k_t4 h5 dX12_worthAt_157 ?_
      cases hf
      exact x_reti C hP hS hW dX12_worthAt_158
    · have hf := if_f c3 hf
      refine lv_aload_n hx hb dX12_worthAt_16 rfl (lv_at hl 0 rfl) ?_
      refine gf_X12_80 C hP h_v0 k_v0 dX12_worthAt_17 ?_
      obtain ⟨t6, et6, hf⟩ := bd1_e hf
      obtain ⟨h_t6, k_t6⟩ := wt_r hW h_v0 k_v0 (by decide) et6
      have k_t6 : G.2.1 t6 = 14 := k_t6
      rw [et6]
      refine lv_iload_n hx hb dX12_worthAt_20 rfl (lv_at hl 2 rfl) ?_
      obtain ⟨h7, hf⟩ := if_s hf
      refine x_iald C hP h_t6 k_t6 h7 dX12_worthAt_21 ?_
      refine lv_bipush (v := 16) hx hb dX12_worthAt_22 kc_bipush_16 ?_
      refine lv_irem hx hb dX12_worthAt_24 (by decide) ?_
      obtain ⟨x8, ex8, hf⟩ := bnd_e hf
      refine nm_i ex8 ?_
      refine lv_istore (lv' := [(4, .int x8), (0, .ref v0), (2, .int v2), (3, .int v3)]) hx hb dX12_worthAt_25 hl (by decide) rfl (fun ls hl => ?_)
      refine lv_iload hx hb dX12_worthAt_27 (lv_at hl 0 rfl) ?_
      refine lv_iconst (v := 1) hx hb dX12_worthAt_29 rfl ?_
      refine lv_icmp_eq (tgt := 39) hx hb dX12_worthAt_30 (by decide) (fun c9 => ?_) (fun c9 => ?_)
      · have hf := if_t c9 hf
        exact b_X12_worthAt_39 C ih v0 v2 v3 x8 h_v0 k_v0 S H locs _ hf hP hS hW (lv_sub hl [1, 2, 3, 0] rfl)
      · have hf := if_f c9 hf
        refine lv_iload hx hb dX12_worthAt_33 (lv_at hl 0 rfl) ?_
        refine lv_iconst (v := 2) hx hb dX12_worthAt_35 rfl ?_
        refine lv_icmp_ne (tgt := 83) hx hb dX12_worthAt_36 (by decide) (fun c22 => ?_) (fun c22 => ?_)
        · have hf := if_f c22 hf
          refine lv_iload hx hb dX12_worthAt_83 (lv_at hl 0 rfl) ?_
          refine lv_iconst (v := 3) hx hb dX12_worthAt_85 rfl ?_
          refine lv_icmp_ne (tgt := 116) hx hb dX12_worthAt_86 (by decide) (fun c23 => ?_) (fun c23 => ?_)
          · have hf := if_f c23 hf
            obtain ⟨x24, ex24, hf⟩ := bnd_e hf
            refine lv_iinc (v := x24) (lv' := [(2, .int x24), (4, .int x8), (0, .ref v0), (3, .int v3)]) hx hb dX12_worthAt_116 hl (k := 2) rfl ex24.symm (by decide) rfl (fun ls hl => ?_)
            refine lv_aload_n hx hb dX12_worthAt_119 rfl (lv_at hl 2 rfl) ?_
            refine gf_X12_92 C hP h_v0 k_v0 dX12_worthAt_120 ?_
            obtain ⟨t25, et25, hf⟩ := bd1_e hf
            obtain ⟨h_t25, k_t25⟩ := wt_r hW h_v0 k_v0 (by decide) et25
            have k_t25 : G.2.1 t25 = 14 := k_t25
            rw [et25]
            refine lv_iload_n hx hb dX12_worthAt_123 rfl (lv_at hl 0 rfl) ?_
            refine lv_iconst (v := 1) hx hb dX12_worthAt_124 rfl ?_
            refine lv_isub hx hb dX12_worthAt_125 ?_
            refine lv_iload hx hb dX12_worthAt_126 (lv_at hl 1 rfl) ?_
            refine lv_aload_n hx hb dX12_worthAt_128 rfl (lv_at hl 2 rfl) ?_
            refine gf_X12_92 C hP h_v0 k_v0 dX12_worthAt_129 ?_
            obtain ⟨t26, et26, hf⟩ := bd1_e hf
            obtain ⟨h_t26, k_t26⟩ := wt_r hW h_v0 k_v0 (by decide) et26
            have k_t26 : G.2.1 t26 = 14 := k_t26
            rw [et26]
            refine lv_iload_n hx hb dX12_worthAt_132 rfl (lv_at hl 0 rfl) ?_
            refine lv_iconst (v := 1) hx hb dX12_worthAt_133 rfl ?_
            refine lv_isub hx hb dX12_worthAt_134 ?_
            obtain ⟨h27, hf⟩ := if_s hf
            refine x_iald C hP h_t26 k_t26 h27 dX12_worthAt_135 ?_
            refine lv_aload_n hx hb dX12_worthAt_136 rfl (lv_at hl 2 rfl) ?_
            refine gf_X12_92 C hP h_v0 k_v0 dX12_worthAt_137 ?_
            obtain ⟨t28, et28, hf⟩ := bd1_e hf
            obtain ⟨h_t28, k_t28⟩ := wt_r hW h_v0 k_v0 (by decide) et28
            have k_t28 : G.2.1 t28 = 14 := k_t28
            rw [et28]
            refine lv_iload_n hx hb dX12_worthAt_140 rfl (lv_at hl 0 rfl) ?_
            obtain ⟨h29, hf⟩ := if_s hf
            refine x_iald C hP h_t28 k_t28 h29 dX12_worthAt_141 ?_
            refine x_aft_i (x_runS (As := [.int x8, .int (aI S t26 (x24 - 1).toNatClampNeg), .int (aI S t28 x24.toNatClampNeg)]) (rest := [.int (x24 - 1), .ref t25]) C hP hS (c_X12_worked (l := l) C.2.2.2.2.2.2.2.2.2.1 hW rfl H.size) km_X12_worked ks_X12_worked qm_X12_237 ⟨(Nat.le_of_ble_eq_true rfl), (Nat.le_of_ble_eq_true rfl)⟩ rfl hl.1 rfl (Nat.le_of_ble_eq_true rfl) ⟨Nat.zero_le _, Nat.zero_le _⟩ dX12_worthAt_142) hS (fun H locs hP hS hW => ?_)
            obtain ⟨h30, hf⟩ := if_s hf
            obtain ⟨S31, eS31, hf⟩ := bnd_e hf
            refine x_iast C hP hS h_t25 k_t25 h30 eS31 dX12_worthAt_145 (fun H locs hP hS => ?_)
            have hW : WT G S31 := by rw [eS31]; exact hW
            exact b_X12_worthAt_146 C ih v0 x24 v3 h_v0 k_v0 S31 H locs _ hf hP hS hW (lv_sub hl [2, 0, 3] rfl)
          · have hf := if_t c23 hf
            refine lv_aload_n hx hb dX12_worthAt_89 rfl (lv_at hl 1 rfl) ?_
            refine gf_X12_92 C hP h_v0 k_v0 dX12_worthAt_90 ?_
            obtain ⟨t32, et32, hf⟩ := bd1_e hf
            obtain ⟨h_t32, k_t32⟩ := wt_r hW h_v0 k_v0 (by decide) et32
            have k_t32 : G.2.1 t32 = 14 := k_t32
            rw [et32]
            refine lv_iload_n hx hb dX12_worthAt_93 rfl (lv_at hl 2 rfl) ?_
            refine lv_iconst (v := 1) hx hb dX12_worthAt_94 rfl ?_
            refine lv_isub hx hb dX12_worthAt_95 ?_
            refine lv_aload_n hx hb dX12_worthAt_96 rfl (lv_at hl 1 rfl) ?_
            refine gf_X12_92 C hP h_v0 k_v0 dX12_worthAt_97 ?_
            obtain ⟨t33, et33, hf⟩ := bd1_e hf
            obtain ⟨h_t33, k_t33⟩ := wt_r hW h_v0 k_v0 (by decide) et33
            have k_t33 : G.2.1 t33 = 14 := k_t33
            rw [et33]
            refine lv_iload_n hx hb dX12_worthAt_100 rfl (lv_at hl 2 rfl) ?_
            refine lv_iconst (v := 1) hx hb dX12_worthAt_101 rfl ?_
            refine lv_isub hx hb dX12_worthAt_102 ?_
            obtain ⟨h34, hf⟩ := if_s hf
            refine x_iald C hP h_t33 k_t33 h34 dX12_worthAt_103 ?_
            refine lv_if_ne (tgt := 111) hx hb dX12_worthAt_104 (by decide) (fun c35 => ?_) (fun c35 => ?_)
            · have hf := if_f c35 hf
              refine lv_iconst (v := 0) hx hb dX12_worthAt_111 rfl ?_
              exact b_X12_worthAt_112 C ih v0 v2 v3 t32 (v2 - 1) 0 h_v0 k_v0 h_t32 k_t32 S H locs _ hf hP hS hW (lv_sub hl [1, 2, 3] rfl)
            · have hf := if_t c35 hf
              refine lv_iconst (v := 1) hx hb dX12_worthAt_107 rfl ?_
              refine lv_goto (tgt := 112) hx hb dX12_worthAt_108 (by decide) ?_
              exact b_X12_worthAt_112 C ih v0 v2 v3 t32 (v2 - 1) 1 h_v0 k_v0 h_t32 k_t32 S H locs _ hf hP hS hW (lv_sub hl [1, 2, 3] rfl)
        · have hf := if_t c22 hf
          exact b_X12_worthAt_39 C ih v0 v2 v3 x8 h_v0 k_v0 S H locs _ hf hP hS hW (lv_sub hl [1, 2, 3, 0] rfl)
set_option maxRecDepth 100000 in
set_option maxHeartbeats 4000000 in
theorem c_X12_worthAt {l : Launch} {V : EV} {G : GS} {S : HS} {F : Nat} {a : Nat} {p0 : Int32} {r : Int32} {S' : HS} (hN : G.1.Nodup) (hW : WT G S) (h_a : a ∈ G.1) (k_a : G.2.1 a = 12) (hf : s_X12_worthAt G.2.2 F a p0 S = some (r, S')) : MetI l yX12_worthAt cX12_worthAt 5 .int 1 30 V G S [.ref a, .int p0] r S' := by
  intro sz
  refine x_in RX12 rfl (by decide +kernel) hN (Nat.le_of_ble_eq_true rfl) (fun p e s m args below meth c ls hsz hargs hnm C hP hS hl => ?_)
  subst hsz
  have hx := C.1
  have hb := C.2.1
  have hl : lv_has ls 5 [(0, .ref a), (1, .int p0)] := hl
  unfold s_X12_worthAt at hf
  refine lv_iconst (v := 0) hx hb dX12_worthAt_0 rfl ?_
  refine lv_istore_n (lv' := [(2, .int 0), (0, .ref a), (1, .int p0)]) hx hb dX12_worthAt_1 rfl hl (by decide) rfl (fun ls hl => ?_)
  refine lv_iload_n hx hb dX12_worthAt_2 rfl (lv_at hl 2 rfl) ?_
  refine lv_istore_n (lv' := [(3, .int p0), (2, .int 0), (0, .ref a), (1, .int p0)]) hx hb dX12_worthAt_3 rfl hl (by decide) rfl (fun ls hl => ?_)
  exact b_X12_worthAt_4 C F a 0 p0 h_a k_a S s.heap [] _ hf hP hS hW (lv_sub hl [2, 1, 0] rfl)
def s_X12_owns_J60 (N : Nat → Nat) (F : Nat) (v0 : Nat) (w0 : Nat) (w1 : Int32) (w2 : Int32) (S : HS) : Option (Int32 × HS) :=
  if inB w1 (N w0) = true then
  bnd (wI S w0 (w1.toNatClampNeg) w2) fun S16 =>
  bd1 (gR S16 1210 v0) fun t17 =>
  if inB (2 : Int32) (N t17) = true then
  if (aI S16 t17 (2 : Int32).toNatClampNeg) < (0 : Int32) then
  some (0, S16)
  else
  bd1 (gR S16 1210 v0) fun t20 =>
  if inB (2 : Int32) (N t20) = true then
  bd2 (s_X12_worthAt N F v0 (aI S16 t20 (2 : Int32).toNatClampNeg) S16) fun r22 S23 =>
  if r22 = (0 : Int32) then
  some (0, S23)
  else
  some (1, S23)
  else none
  else none
  else none
def s_X12_owns_J44 (N : Nat → Nat) (F : Nat) (v0 : Nat) (v4 : Int32) (w0 : Nat) (w1 : Int32) (w2 : Int32) (S : HS) : Option (Int32 × HS) :=
  if inB w1 (N w0) = true then
  bnd (wI S w0 (w1.toNatClampNeg) w2) fun S12 =>
  bd1 (gR S12 1215 v0) fun t13 =>
  if v4 = (0 : Int32) then
  s_X12_owns_J60 N F v0 t13 3 0 S12
  else
  s_X12_owns_J60 N F v0 t13 3 1 S12
  else none
def s_X12_owns_J29 (N : Nat → Nat) (F : Nat) (v0 : Nat) (v3 : Int32) (v4 : Int32) (w0 : Nat) (w1 : Int32) (w2 : Int32) (S : HS) : Option (Int32 × HS) :=
  if inB w1 (N w0) = true then
  bnd (wI S w0 (w1.toNatClampNeg) w2) fun S8 =>
  bd1 (gR S8 1215 v0) fun t9 =>
  if v3 = (0 : Int32) then
  s_X12_owns_J44 N F v0 v4 t9 2 0 S8
  else
  s_X12_owns_J44 N F v0 v4 t9 2 1 S8
  else none
def s_X12_owns_J14 (N : Nat → Nat) (F : Nat) (v0 : Nat) (v2 : Int32) (v3 : Int32) (v4 : Int32) (w0 : Nat) (w1 : Int32) (w2 : Int32) (S : HS) : Option (Int32 × HS) :=
  if inB w1 (N w0) = true then
  bnd (wI S w0 (w1.toNatClampNeg) w2) fun S4 =>
  bd1 (gR S4 1215 v0) fun t5 =>
  if v2 = (0 : Int32) then
  s_X12_owns_J29 N F v0 v3 v4 t5 1 0 S4
  else
  s_X12_owns_J29 N F v0 v3 v4 t5 1 1 S4
  else none
def s_X12_owns (N : Nat → Nat) (F : Nat) (a : Nat) (p0 : Int32) (p1 : Int32) (p2 : Int32) (p3 : Int32) (S : HS) : Option (Int32 × HS) :=
  bd1 (gR S 1215 a) fun t1 =>
  if p0 = (0 : Int32) then
  s_X12_owns_J14 N F a p1 p2 p3 t1 0 0 S
  else
  s_X12_owns_J14 N F a p1 p2 p3 t1 0 1 S
set_option maxRecDepth 100000 in
set_option maxHeartbeats 4000000 in
theorem b_X12_owns_60 {p : Program} {l : Launch} {e : Env} {s : State} {m : MethodId} {args : Array Value} {below : List Frame} {meth : Method} {c : Code} {V : EV} {G : GS} {r : Int32} {S' : HS} {F : Nat} (C : CX p s m args meth c RX12 cX12_owns 5 (some .boolean) V G) : ∀ (v0 : Nat) (w0 : Nat) (w1 : Int32) (w2 : Int32) (h_v0 : v0 ∈ G.1) (k_v0 : G.2.1 v0 = 12) (h_w0 : w0 ∈ G.1) (k_w0 : G.2.1 w0 = 14) (S : HS) (H : Heap) (locs : List Loc) (ls : Array Slot), s_X12_owns_J60 G.2.2 F v0 w0 w1 w2 S = some (r, S') → HP V G S H → va_S (AG G s.heap.size) s.heap H locs → WT G S → lv_has ls 5 [(0, .ref v0)] → W p l e (RM 2 62) s m args below meth c H locs 0 0 (MQ below (QZ V G S' r s.heap.size) args s 0 0 (AG G s.heap.size)) (F0 m 60 ls [.int w2, .int w1, .ref w0]) := by
  intro v0 w0 w1 w2 h_v0 k_v0 h_w0 k_w0 S H locs ls hf hP hS hW hl
  have hx := C.1
  have hb := C.2.1
  unfold s_X12_owns_J60 at hf
  obtain ⟨h15, hf⟩ := if_s hf
  obtain ⟨S16, eS16, hf⟩ := bnd_e hf
  refine x_iast C hP hS h_w0 k_w0 h15 eS16 dX12_owns_60 (fun H locs hP hS => ?_)
  have hW : WT G S16 := by rw [eS16]; exact hW
  refine lv_aload_n hx hb dX12_owns_61 rfl (lv_at hl 0 rfl) ?_
  refine gf_X12_77 C hP h_v0 k_v0 dX12_owns_62 ?_
  obtain ⟨t17, et17, hf⟩ := bd1_e hf
  obtain ⟨h_t17, k_t17⟩ := wt_r hW h_v0 k_v0 (by decide) et17
  have k_t17 : G.2.1 t17 = 14 := k_t17
  rw [et17]
  refine lv_iconst (v := 2) hx hb dX12_owns_65 rfl ?_
  obtain ⟨h18, hf⟩ := if_s hf
  refine x_iald C hP h_t17 k_t17 h18 dX12_owns_66 ?_
  refine lv_if_lt (tgt := 87) hx hb dX12_owns_67 (by decide) (fun c19 => ?_) (fun c19 => ?_)
  · have hf := if_t c19 hf
    refine lv_iconst (v := 0) hx hb dX12_owns_87 rfl ?_
    cases hf
    exact x_retZ C hP hS hW isZ_0 dX12_owns_88
  · have hf := if_f c19 hf
    refine lv_aload_n hx hb dX12_owns_70 rfl (lv_at hl 0 rfl) ?_
    refine lv_aload_n hx hb dX12_owns_71 rfl (lv_at hl 0 rfl) ?_
    refine gf_X12_77 C hP h_v0 k_v0 dX12_owns_72 ?_
    obtain ⟨t20, et20, hf⟩ := bd1_e hf
    obtain ⟨h_t20, k_t20⟩ := wt_r hW h_v0 k_v0 (by decide) et20
    have k_t20 : G.2.1 t20 = 14 := k_t20
    rw [et20]
    refine lv_iconst (v := 2) hx hb dX12_owns_75 rfl ?_
    obtain ⟨h21, hf⟩ := if_s hf
    refine x_iald C hP h_t20 k_t20 h21 dX12_owns_76 ?_
    obtain ⟨r22, S23, eS23, hf⟩ := bd2_e hf
    refine x_aft_i (x_runV (As := [.int (aI S16 t20 (2 : Int32).toNatClampNeg)]) (rest := []) C hP hS (c_X12_worthAt (l := l) C.2.2.2.2.2.2.2.2.2.1 hW h_v0 k_v0 eS23 H.size) h_v0 k_v0 (by decide) rfl rfl km_X12_worthAt ki_X12_worthAt qm_X12_286 ⟨(Nat.le_of_ble_eq_true rfl), (Nat.le_of_ble_eq_true rfl)⟩ rfl hl.1 rfl (Nat.le_of_ble_eq_true rfl) ⟨Nat.zero_le _, Nat.zero_le _⟩ dX12_owns_77) hS (fun H locs hP hS hW => ?_)
    refine lv_if_eq (tgt := 87) hx hb dX12_owns_80 (by decide) (fun c24 => ?_) (fun c24 => ?_)
    · have hf := if_t c24 hf
      refine lv_iconst (v := 0) hx hb dX12_owns_87 rfl ?_
      cases hf
      exact x_retZ C hP hS hW isZ_0 dX12_owns_88
    · have hf := if_f c24 hf
      refine lv_iconst (v := 1) hx hb dX12_owns_83 rfl ?_
      refine lv_goto (tgt := 88) hx hb dX12_owns_84 (by decide) ?_
      cases hf
      exact x_retZ C hP hS hW isZ_1 dX12_owns_88
set_option maxRecDepth 100000 in
set_option maxHeartbeats 4000000 in
theorem b_X12_owns_44 {p : Program} {l : Launch} {e : Env} {s : State} {m : MethodId} {args : Array Value} {below : List Frame} {meth : Method} {c : Code} {V : EV} {G : GS} {r : Int32} {S' : HS} {F : Nat} (C : CX p s m args meth c RX12 cX12_owns 5 (some .boolean) V G) : ∀ (v0 : Nat) (v4 : Int32) (w0 : Nat) (w1 : Int32) (w2 : Int32) (h_v0 : v0 ∈ G.1) (k_v0 : G.2.1 v0 = 12) (h_w0 : w0 ∈ G.1) (k_w0 : G.2.1 w0 = 14) (S : HS) (H : Heap) (locs : List Loc) (ls : Array Slot), s_X12_owns_J44 G.2.2 F v0 v4 w0 w1 w2 S = some (r, S') → HP V G S H → va_S (AG G s.heap.size) s.heap H locs → WT G S → lv_has ls 5 [(0, .ref v0), (4, .int v4)] → W p l e (RM 2 62) s m args below meth c H locs 0 0 (MQ below (QZ V G S' r s.heap.size) args s 0 0 (AG G s.heap.size)) (F0 m 44 ls [.int w2, .int w1, .ref w0]) := by
  intro v0 v4 w0 w1 w2 h_v0 k_v0 h_w0 k_w0 S H locs ls hf hP hS hW hl
  have hx := C.1
  have hb := C.2.1
  unfold s_X12_owns_J44 at hf
  obtain ⟨h11, hf⟩ := if_s hf
  obtain ⟨S12, eS12, hf⟩ := bnd_e hf
  refine x_iast C hP hS h_w0 k_w0 h11 eS12 dX12_owns_44 (fun H locs hP hS => ?_)
  have hW : WT G S12 := by rw [eS12]; exact hW
  refine lv_aload_n hx hb dX12_owns_45 rfl (lv_at hl 0 rfl) ?_
  refine gf_X12_89 C hP h_v0 k_v0 dX12_owns_46 ?_
  obtain ⟨t13, et13, hf⟩ := bd1_e hf
  obtain ⟨h_t13, k_t13⟩ := wt_r hW h_v0 k_v0 (by decide) et13
  have k_t13 : G.2.1 t13 = 14 := k_t13
  rw [et13]
  refine lv_iconst (v := 3) hx hb dX12_owns_49 rfl ?_
  refine lv_iload hx hb dX12_owns_50 (lv_at hl 1 rfl) ?_
  refine lv_if_eq (tgt := 59) hx hb dX12_owns_52 (by decide) (fun c14 => ?_) (fun c14 => ?_)
  · have hf := if_t c14 hf
    refine lv_iconst (v := 0) hx hb dX12_owns_59 rfl ?_
    exact b_X12_owns_60 C v0 t13 3 0 h_v0 k_v0 h_t13 k_t13 S12 H locs _ hf hP hS hW (lv_sub hl [0] rfl)
  · have hf := if_f c14 hf
    refine lv_iconst (v := 1) hx hb dX12_owns_55 rfl ?_
    refine lv_goto (tgt := 60) hx hb dX12_owns_56 (by decide) ?_
    exact b_X12_owns_60 C v0 t13 3 1 h_v0 k_v0 h_t13 k_t13 S12 H locs _ hf hP hS hW (lv_sub hl [0] rfl)
set_option maxRecDepth 100000 in
set_option maxHeartbeats 4000000 in
theorem b_X12_owns_29 {p : Program} {l : Launch} {e : Env} {s : State} {m : MethodId} {args : Array Value} {below : List Frame} {meth : Method} {c : Code} {V : EV} {G : GS} {r : Int32} {S' : HS} {F : Nat} (C : CX p s m args meth c RX12 cX12_owns 5 (some .boolean) V G) : ∀ (v0 : Nat) (v3 : Int32) (v4 : Int32) (w0 : Nat) (w1 : Int32) (w2 : Int32) (h_v0 : v0 ∈ G.1) (k_v0 : G.2.1 v0 = 12) (h_w0 : w0 ∈ G.1) (k_w0 : G.2.1 w0 = 14) (S : HS) (H : Heap) (locs : List Loc) (ls : Array Slot), s_X12_owns_J29 G.2.2 F v0 v3 v4 w0 w1 w2 S = some (r, S') → HP V G S H → va_S (AG G s.heap.size) s.heap H locs → WT G S → lv_has ls 5 [(0, .ref v0), (3, .int v3), (4, .int v4)] → W p l e (RM 2 62) s m args below meth c H locs 0 0 (MQ below (QZ V G S' r s.heap.size) args s 0 0 (AG G s.heap.size)) (F0 m 29 ls [.int w2, .int w1, .ref w0]) := by
  intro v0 v3 v4 w0 w1 w2 h_v0 k_v0 h_w0 k_w0 S H locs ls hf hP hS hW hl
  have hx := C.1
  have hb := C.2.1
  unfold s_X12_owns_J29 at hf
  obtain ⟨h7, hf⟩ := if_s hf
  obtain ⟨S8, eS8, hf⟩ := bnd_e hf
  refine x_iast C hP hS h_w0 k_w0 h7 eS8 dX12_owns_29 (fun H locs hP hS => ?_)
  have hW : WT G S8 := by rw [eS8]; exact hW
  refine lv_aload_n hx hb dX12_owns_30 rfl (lv_at hl 0 rfl) ?_
  refine gf_X12_89 C hP h_v0 k_v0 dX12_owns_31 ?_
  obtain ⟨t9, et9, hf⟩ := bd1_e hf
  obtain ⟨h_t9, k_t9⟩ := wt_r hW h_v0 k_v0 (by decide) et9
  have k_t9 : G.2.1 t9 = 14 := k_t9
  rw [et9]
  refine lv_iconst (v := 2) hx hb dX12_owns_34 rfl ?_
  refine lv_iload_n hx hb dX12_owns_35 rfl (lv_at hl 1 rfl) ?_
  refine lv_if_eq (tgt := 43) hx hb dX12_owns_36 (by decide) (fun c10 => ?_) (fun c10 => ?_)
  · have hf := if_t c10 hf
    refine lv_iconst (v := 0) hx hb dX12_owns_43 rfl ?_
    exact b_X12_owns_44 C v0 v4 t9 2 0 h_v0 k_v0 h_t9 k_t9 S8 H locs _ hf hP hS hW (lv_sub hl [0, 2] rfl)
  · have hf := if_f c10 hf
    refine lv_iconst (v := 1) hx hb dX12_owns_39 rfl ?_
    refine lv_goto (tgt := 44) hx hb dX12_owns_40 (by decide) ?_
    exact b_X12_owns_44 C v0 v4 t9 2 1 h_v0 k_v0 h_t9 k_t9 S8 H locs _ hf hP hS hW (lv_sub hl [0, 2] rfl)
set_option maxRecDepth 100000 in
set_option maxHeartbeats 4000000 in
theorem b_X12_owns_14 {p : Program} {l : Launch} {e : Env} {s : State} {m : MethodId} {args : Array Value} {below : List Frame} {meth : Method} {c : Code} {V : EV} {G : GS} {r : Int32} {S' : HS} {F : Nat} (C : CX p s m args meth c RX12 cX12_owns 5 (some .boolean) V G) : ∀ (v0 : Nat) (v2 : Int32) (v3 : Int32) (v4 : Int32) (w0 : Nat) (w1 : Int32) (w2 : Int32) (h_v0 : v0 ∈ G.1) (k_v0 : G.2.1 v0 = 12) (h_w0 : w0 ∈ G.1) (k_w0 : G.2.1 w0 = 14) (S : HS) (H : Heap) (locs : List Loc) (ls : Array Slot), s_X12_owns_J14 G.2.2 F v0 v2 v3 v4 w0 w1 w2 S = some (r, S') → HP V G S H → va_S (AG G s.heap.size) s.heap H locs → WT G S → lv_has ls 5 [(0, .ref v0), (2, .int v2), (3, .int v3), (4, .int v4)] → W p l e (RM 2 62) s m args below meth c H locs 0 0 (MQ below (QZ V G S' r s.heap.size) args s 0 0 (AG G s.heap.size)) (F0 m 14 ls [.int w2, .int w1, .ref w0]) := by
  intro v0 v2 v3 v4 w0 w1 w2 h_v0 k_v0 h_w0 k_w0 S H locs ls hf hP hS hW hl
  have hx := C.1
  have hb := C.2.1
  unfold s_X12_owns_J14 at hf
  obtain ⟨h3, hf⟩ := if_s hf
  obtain ⟨S4, eS4, hf⟩ := bnd_e hf
  refine x_iast C hP hS h_w0 k_w0 h3 eS4 dX12_owns_14 (fun H locs hP hS => ?_)
  have hW : WT G S4 := by rw [eS4]; exact hW
  refine lv_aload_n hx hb dX12_owns_15 rfl (lv_at hl 0 rfl) ?_
  refine gf_X12_89 C hP h_v0 k_v0 dX12_owns_16 ?_
  obtain ⟨t5, et5, hf⟩ := bd1_e hf
  obtain ⟨h_t5, k_t5⟩ := wt_r hW h_v0 k_v0 (by decide) et5
  have k_t5 : G.2.1 t5 = 14 := k_t5
  rw [et5]
  refine lv_iconst (v := 1) hx hb dX12_owns_19 rfl ?_
  refine lv_iload_n hx hb dX12_owns_20 rfl (lv_at hl 1 rfl) ?_
  refine lv_if_eq (tgt := 28) hx hb dX12_owns_21 (by decide) (fun c6 => ?_) (fun c6 => ?_)
  · have hf := if_t c6 hf
    refine lv_iconst (v := 0) hx hb dX12_owns_28 rfl ?_
    exact b_X12_owns_29 C v0 v3 v4 t5 1 0 h_v0 k_v0 h_t5 k_t5 S4 H locs _ hf hP hS hW (lv_sub hl [0, 2, 3] rfl)
  · have hf := if_f c6 hf
    refine lv_iconst (v := 1) hx hb dX12_owns_24 rfl ?_
    refine lv_goto (tgt := 29) hx hb dX12_owns_25 (by decide) ?_
    exact b_X12_owns_29 C v0 v3 v4 t5 1 1 h_v0 k_v0 h_t5 k_t5 S4 H locs _ hf hP hS hW (lv_sub hl [0, 2, 3] rfl)
set_option maxRecDepth 100000 in
set_option maxHeartbeats 4000000 in
theorem c_X12_owns {l : Launch} {V : EV} {G : GS} {S : HS} {F : Nat} {a : Nat} {p0 : Int32} {p1 : Int32} {p2 : Int32} {p3 : Int32} {r : Int32} {S' : HS} (hN : G.1.Nodup) (hW : WT G S) (h_a : a ∈ G.1) (k_a : G.2.1 a = 12) (hf : s_X12_owns G.2.2 F a p0 p1 p2 p3 S = some (r, S')) : MetZ l yX12_owns cX12_owns 5 2 62 V G S [.ref a, .int p0, .int p1, .int p2, .int p3] r S' := by
  intro sz
  refine x_in RX12 rfl (by decide +kernel) hN (Nat.le_of_ble_eq_true rfl) (fun p e s m args below meth c ls hsz hargs hnm C hP hS hl => ?_)
  subst hsz
  have hx := C.1
  have hb := C.2.1
  have hl : lv_has ls 5 [(0, .ref a), (1, .int p0), (2, .int p1), (3, .int p2), (4, .int p3)] := hl
  unfold s_X12_owns at hf
  refine lv_aload_n hx hb dX12_owns_0 rfl (lv_at hl 0 rfl) ?_
  refine gf_X12_89 C hP h_a k_a dX12_owns_1 ?_
  obtain ⟨t1, et1, hf⟩ := bd1_e hf
  obtain ⟨h_t1, k_t1⟩ := wt_r hW h_a k_a (by decide) et1
  have k_t1 : G.2.1 t1 = 14 := k_t1
  rw [et1]
  refine lv_iconst (v := 0) hx hb dX12_owns_4 rfl ?_
  refine lv_iload_n hx hb dX12_owns_5 rfl (lv_at hl 1 rfl) ?_
  refine lv_if_eq (tgt := 13) hx hb dX12_owns_6 (by decide) (fun c2 => ?_) (fun c2 => ?_)
  · have hf := if_t c2 hf
    refine lv_iconst (v := 0) hx hb dX12_owns_13 rfl ?_
    exact b_X12_owns_14 C a p1 p2 p3 t1 0 0 h_a k_a h_t1 k_t1 S s.heap [] _ hf hP hS hW (lv_sub hl [0, 2, 3, 4] rfl)
  · have hf := if_f c2 hf
    refine lv_iconst (v := 1) hx hb dX12_owns_9 rfl ?_
    refine lv_goto (tgt := 14) hx hb dX12_owns_10 (by decide) ?_
    exact b_X12_owns_14 C a p1 p2 p3 t1 0 1 h_a k_a h_t1 k_t1 S s.heap [] _ hf hP hS hW (lv_sub hl [0, 2, 3, 4] rfl)
def s_X12_isUp_J19 (N : Nat → Nat) (F : Nat) (v0 : Nat) (v1 : Int32) (v2 : Int32) (v3 : Int32) (w0 : Int32) (S : HS) : Option (Int32 × HS) :=
  if v1 = 0 then
  if (gI S 1222 v0) = (0 : Int32) then
  some (0, S)
  else
  if (gI S 1223 v0) = (0 : Int32) then
  if v3 = (0 : Int32) then
  some (0, S)
  else
  some (1, S)
  else
  some (1, S)
  else
  if v1 = 1 then
  some (0, S)
  else
  if v1 = 2 then
  if v2 = (0 : Int32) then
  some (0, S)
  else
  if w0 = (0 : Int32) then
  some (0, S)
  else
  some (1, S)
  else
  if v1 = 3 then
  if v2 = (0 : Int32) then
  if w0 = (0 : Int32) then
  some (0, S)
  else
  some (1, S)
  else
  some (0, S)
  else
  if v1 = 4 then
  if isZ (gI S 1222 v0) = true then
  some (gI S 1222 v0, S)
  else none
  else
  if w0 = (0 : Int32) then
  some (0, S)
  else
  bd2 (s_X12_owns N F v0 v2 v3 (gI S 1222 v0) (gI S 1223 v0) S) fun r16 S17 =>
  if r16 = (0 : Int32) then
  some (0, S17)
  else
  some (1, S17)
def s_X12_isUp (N : Nat → Nat) (F : Nat) (a : Nat) (p0 : Int32) (p1 : Int32) (p2 : Int32) (S : HS) : Option (Int32 × HS) :=
  if (gI S 1222 a) = (0 : Int32) then
  if (gI S 1223 a) = (0 : Int32) then
  s_X12_isUp_J19 N F a p0 p1 p2 0 S
  else
  s_X12_isUp_J19 N F a p0 p1 p2 1 S
  else
  s_X12_isUp_J19 N F a p0 p1 p2 1 S
set_option maxRecDepth 100000 in
set_option maxHeartbeats 4000000 in
theorem b_X12_isUp_19 {p : Program} {l : Launch} {e : Env} {s : State} {m : MethodId} {args : Array Value} {below : List Frame} {meth : Method} {c : Code} {V : EV} {G : GS} {r : Int32} {S' : HS} {F : Nat} (C : CX p s m args meth c RX12 cX12_isUp 5 (some .boolean) V G) : ∀ (v0 : Nat) (v1 : Int32) (v2 : Int32) (v3 : Int32) (w0 : Int32) (h_v0 : v0 ∈ G.1) (k_v0 : G.2.1 v0 = 12) (S : HS) (H : Heap) (locs : List Loc) (ls : Array Slot), s_X12_isUp_J19 G.2.2 F v0 v1 v2 v3 w0 S = some (r, S') → HP V G S H → va_S (AG G s.heap.size) s.heap H locs → WT G S → lv_has ls 5 [(0, .ref v0), (1, .int v1), (2, .int v2), (3, .int v3)] → W p l e (RM 3 94) s m args below meth c H locs 0 0 (MQ below (QZ V G S' r s.heap.size) args s 0 0 (AG G s.heap.size)) (F0 m 19 ls [.int w0]) := by
  intro v0 v1 v2 v3 w0 h_v0 k_v0 S H locs ls hf hP hS hW hl
  have hx := C.1
  have hb := C.2.1
  unfold s_X12_isUp_J19 at hf
  refine lv_istore (lv' := [(4, .int w0), (0, .ref v0), (1, .int v1), (2, .int v2), (3, .int v3)]) hx hb dX12_isUp_19 hl (by decide) rfl (fun ls hl => ?_)
  refine lv_iload_n hx hb dX12_isUp_21 rfl (lv_at hl 2 rfl) ?_
  by_cases c2 : v1 = 0
  · have hf := if_t c2 hf
    refine lv_tableIn (tgt := 56) (off := 34) hx hb dX12_isUp_22 (by rw [c2]; decide) (by rw [c2]; decide) (by rw [c2]; rfl) (by decide) ?_
    refine lv_aload_n hx hb dX12_isUp_56 rfl (lv_at hl 1 rfl) ?_
    refine gf_X12_289 C hP h_v0 k_v0 dX12_isUp_57 ?_
    refine lv_if_eq (tgt := 78) hx hb dX12_isUp_60 (by decide) (fun c3 => ?_) (fun c3 => ?_)
    · have hf := if_t c3 hf
      refine lv_iconst (v := 0) hx hb dX12_isUp_78 rfl ?_
      cases hf
      exact x_retZ C hP hS hW isZ_0 dX12_isUp_79
    · have hf := if_f c3 hf
      refine lv_aload_n hx hb dX12_isUp_63 rfl (lv_at hl 1 rfl) ?_
      refine gf_X12_293 C hP h_v0 k_v0 dX12_isUp_64 ?_
      refine lv_if_ne (tgt := 74) hx hb dX12_isUp_67 (by decide) (fun c4 => ?_) (fun c4 => ?_)
      · have hf := if_f c4 hf
        refine lv_iconst (v := 1) hx hb dX12_isUp_74 rfl ?_
        refine lv_goto (tgt := 79) hx hb dX12_isUp_75 (by decide) ?_
        cases hf
        exact x_retZ C hP hS hW isZ_1 dX12_isUp_79
      · have hf := if_t c4 hf
        refine lv_iload_n hx hb dX12_isUp_70 rfl (lv_at hl 4 rfl) ?_
        refine lv_if_eq (tgt := 78) hx hb dX12_isUp_71 (by decide) (fun c5 => ?_) (fun c5 => ?_)
        · have hf := if_t c5 hf
          refine lv_iconst (v := 0) hx hb dX12_isUp_78 rfl ?_
          cases hf
          exact x_retZ C hP hS hW isZ_0 dX12_isUp_79
        · have hf := if_f c5 hf
          refine lv_iconst (v := 1) hx hb dX12_isUp_74 rfl ?_
          refine lv_goto (tgt := 79) hx hb dX12_isUp_75 (by decide) ?_
          cases hf
          exact x_retZ C hP hS hW isZ_1 dX12_isUp_79
  have hf := if_f c2 hf
  by_cases c6 : v1 = 1
  · have hf := if_t c6 hf
    refine lv_tableIn (tgt := 80) (off := 58) hx hb dX12_isUp_22 (by rw [c6]; decide) (by rw [c6]; decide) (by rw [c6]; rfl) (by decide) ?_
    refine lv_iconst (v := 0) hx hb dX12_isUp_80 rfl ?_
    cases hf
    exact x_retZ C hP hS hW isZ_0 dX12_isUp_81
  have hf := if_f c6 hf
  by_cases c7 : v1 = 2
  · have hf := if_t c7 hf
    refine lv_tableIn (tgt := 82) (off := 60) hx hb dX12_isUp_22 (by rw [c7]; decide) (by rw [c7]; decide) (by rw [c7]; rfl) (by decide) ?_
    refine lv_iload_n hx hb dX12_isUp_82 rfl (lv_at hl 3 rfl) ?_
    refine lv_if_eq (tgt := 95) hx hb dX12_isUp_83 (by decide) (fun c8 => ?_) (fun c8 => ?_)
    · have hf := if_t c8 hf
      refine lv_iconst (v := 0) hx hb dX12_isUp_95 rfl ?_
      cases hf
      exact x_retZ C hP hS hW isZ_0 dX12_isUp_96
    · have hf := if_f c8 hf
      refine lv_iload hx hb dX12_isUp_86 (lv_at hl 0 rfl) ?_
      refine lv_if_eq (tgt := 95) hx hb dX12_isUp_88 (by decide) (fun c9 => ?_) (fun c9 => ?_)
      · have hf := if_t c9 hf
        refine lv_iconst (v := 0) hx hb dX12_isUp_95 rfl ?_
        cases hf
        exact x_retZ C hP hS hW isZ_0 dX12_isUp_96
      · have hf := if_f c9 hf
        refine lv_iconst (v := 1) hx hb dX12_isUp_91 rfl ?_
        refine lv_goto (tgt := 96) hx hb dX12_isUp_92 (by decide) ?_
        cases hf
        exact x_retZ C hP hS hW isZ_1 dX12_isUp_96
  have hf := if_f c7 hf
  by_cases c10 : v1 = 3
  · have hf := if_t c10 hf
    refine lv_tableIn (tgt := 97) (off := 75) hx hb dX12_isUp_22 (by rw [c10]; decide) (by rw [c10]; decide) (by rw [c10]; rfl) (by decide) ?_
    refine lv_iload_n hx hb dX12_isUp_97 rfl (lv_at hl 3 rfl) ?_
    refine lv_if_ne (tgt := 110) hx hb dX12_isUp_98 (by decide) (fun c11 => ?_) (fun c11 => ?_)
    · have hf := if_f c11 hf
      refine lv_iconst (v := 0) hx hb dX12_isUp_110 rfl ?_
      cases hf
      exact x_retZ C hP hS hW isZ_0 dX12_isUp_111
    · have hf := if_t c11 hf
      refine lv_iload hx hb dX12_isUp_101 (lv_at hl 0 rfl) ?_
      refine lv_if_eq (tgt := 110) hx hb dX12_isUp_103 (by decide) (fun c12 => ?_) (fun c12 => ?_)
      · have hf := if_t c12 hf
        refine lv_iconst (v := 0) hx hb dX12_isUp_110 rfl ?_
        cases hf
        exact x_retZ C hP hS hW isZ_0 dX12_isUp_111
      · have hf := if_f c12 hf
        refine lv_iconst (v := 1) hx hb dX12_isUp_106 rfl ?_
        refine lv_goto (tgt := 111) hx hb dX12_isUp_107 (by decide) ?_
        cases hf
        exact x_retZ C hP hS hW isZ_1 dX12_isUp_111
  have hf := if_f c10 hf
  by_cases c13 : v1 = 4
  · have hf := if_t c13 hf
    refine lv_tableIn (tgt := 112) (off := 90) hx hb dX12_isUp_22 (by rw [c13]; decide) (by rw [c13]; decide) (by rw [c13]; rfl) (by decide) ?_
    refine lv_aload_n hx hb dX12_isUp_112 rfl (lv_at hl 1 rfl) ?_
    refine gf_X12_289 C hP h_v0 k_v0 dX12_isUp_113 ?_
    obtain ⟨h14, hf⟩ := if_s hf
    cases hf
    exact x_retZ C hP hS hW h14 dX12_isUp_116
  have hf := if_f c13 hf
  refine lv_tableOut (tgt := 117) hx hb dX12_isUp_22 (sw_out (fun k h1 h2 e9 => by
    rcases (show k = 0 ∨ k = 1 ∨ k = 2 ∨ k = 3 ∨ k = 4 by omega) with rfl | rfl | rfl | rfl | rfl
    · exact c2 e9
    · exact c6 e9
    · exact c7 e9
    · exact c10 e9
    · exact c13 e9
    )) (by decide) ?_
  refine lv_iload hx hb dX12_isUp_117 (lv_at hl 0 rfl) ?_
  refine lv_if_eq (tgt := 143) hx hb dX12_isUp_119 (by decide) (fun c15 => ?_) (fun c15 => ?_)
  · have hf := if_t c15 hf
    refine lv_iconst (v := 0) hx hb dX12_isUp_143 rfl ?_
    cases hf
    exact x_retZ C hP hS hW isZ_0 dX12_isUp_144
  · have hf := if_f c15 hf
    refine lv_aload_n hx hb dX12_isUp_122 rfl (lv_at hl 1 rfl) ?_
    refine lv_iload_n hx hb dX12_isUp_123 rfl (lv_at hl 3 rfl) ?_
    refine lv_iload_n hx hb dX12_isUp_124 rfl (lv_at hl 4 rfl) ?_
    refine lv_aload_n hx hb dX12_isUp_125 rfl (lv_at hl 1 rfl) ?_
    refine gf_X12_289 C hP h_v0 k_v0 dX12_isUp_126 ?_
    refine lv_aload_n hx hb dX12_isUp_129 rfl (lv_at hl 1 rfl) ?_
    refine gf_X12_293 C hP h_v0 k_v0 dX12_isUp_130 ?_
    obtain ⟨r16, S17, eS17, hf⟩ := bd2_e hf
    refine x_aft_z (x_runV (As := [.int v2, .int v3, .int (gI S 1222 v0), .int (gI S 1223 v0)]) (rest := []) C hP hS (c_X12_owns (l := l) C.2.2.2.2.2.2.2.2.2.1 hW h_v0 k_v0 eS17 H.size) h_v0 k_v0 (by decide) rfl rfl km_X12_owns ki_X12_owns qm_X12_296 ⟨(Nat.le_of_ble_eq_true rfl), (Nat.le_of_ble_eq_true rfl)⟩ rfl hl.1 rfl (Nat.le_of_ble_eq_true rfl) ⟨Nat.zero_le _, Nat.zero_le _⟩ dX12_isUp_133) hS (fun H locs hP hS hW z18 => ?_)
    refine lv_if_eq (tgt := 143) hx hb dX12_isUp_136 (by decide) (fun c19 => ?_) (fun c19 => ?_)
    · have hf := if_t c19 hf
      refine lv_iconst (v := 0) hx hb dX12_isUp_143 rfl ?_
      cases hf
      exact x_retZ C hP hS hW isZ_0 dX12_isUp_144
    · have hf := if_f c19 hf
      refine lv_iconst (v := 1) hx hb dX12_isUp_139 rfl ?_
      refine lv_goto (tgt := 144) hx hb dX12_isUp_140 (by decide) ?_
      cases hf
      exact x_retZ C hP hS hW isZ_1 dX12_isUp_144
set_option maxRecDepth 100000 in
set_option maxHeartbeats 4000000 in
theorem c_X12_isUp {l : Launch} {V : EV} {G : GS} {S : HS} {F : Nat} {a : Nat} {p0 : Int32} {p1 : Int32} {p2 : Int32} {r : Int32} {S' : HS} (hN : G.1.Nodup) (hW : WT G S) (h_a : a ∈ G.1) (k_a : G.2.1 a = 12) (hf : s_X12_isUp G.2.2 F a p0 p1 p2 S = some (r, S')) : MetZ l yX12_isUp cX12_isUp 5 3 94 V G S [.ref a, .int p0, .int p1, .int p2] r S' := by
  intro sz
  refine x_in RX12 rfl (by decide +kernel) hN (Nat.le_of_ble_eq_true rfl) (fun p e s m args below meth c ls hsz hargs hnm C hP hS hl => ?_)
  subst hsz
  have hx := C.1
  have hb := C.2.1
  have hl : lv_has ls 5 [(0, .ref a), (1, .int p0), (2, .int p1), (3, .int p2)] := hl
  unfold s_X12_isUp at hf
  refine lv_aload_n hx hb dX12_isUp_0 rfl (lv_at hl 0 rfl) ?_
  refine gf_X12_289 C hP h_a k_a dX12_isUp_1 ?_
  refine lv_if_ne (tgt := 14) hx hb dX12_isUp_4 (by decide) (fun c1 => ?_) (fun c1 => ?_)
  · have hf := if_f c1 hf
    refine lv_iconst (v := 1) hx hb dX12_isUp_14 rfl ?_
    refine lv_goto (tgt := 19) hx hb dX12_isUp_15 (by decide) ?_
    exact b_X12_isUp_19 C a p0 p1 p2 1 h_a k_a S s.heap [] _ hf hP hS hW (lv_sub hl [0, 1, 2, 3] rfl)
  · have hf := if_t c1 hf
    refine lv_aload_n hx hb dX12_isUp_7 rfl (lv_at hl 0 rfl) ?_
    refine gf_X12_293 C hP h_a k_a dX12_isUp_8 ?_
    refine lv_if_eq (tgt := 18) hx hb dX12_isUp_11 (by decide) (fun c20 => ?_) (fun c20 => ?_)
    · have hf := if_t c20 hf
      refine lv_iconst (v := 0) hx hb dX12_isUp_18 rfl ?_
      exact b_X12_isUp_19 C a p0 p1 p2 0 h_a k_a S s.heap [] _ hf hP hS hW (lv_sub hl [0, 1, 2, 3] rfl)
    · have hf := if_f c20 hf
      refine lv_iconst (v := 1) hx hb dX12_isUp_14 rfl ?_
      refine lv_goto (tgt := 19) hx hb dX12_isUp_15 (by decide) ?_
      exact b_X12_isUp_19 C a p0 p1 p2 1 h_a k_a S s.heap [] _ hf hP hS hW (lv_sub hl [0, 1, 2, 3] rfl)
def s_X12_overflows_J97 (N : Nat → Nat) (F : Nat) (v0 : Nat) (v1 : Int32) (v4 : Int32) (w0 : Nat) (w1 : Int32) (S : HS) : Option (Int32 × HS) :=
  bnd (uI S 1224 w0 w1) fun S5 =>
  if v4 = (0 : Int32) then
  bd1 (s_X12_greatestOf N v0 v1 S5) fun r7 =>
  some (r7, S5)
  else
  bd1 (s_X12_infOf N v0 v1 S5) fun r8 =>
  some (r8, S5)
def s_X12_overflows_J84 (N : Nat → Nat) (F : Nat) (v0 : Nat) (v1 : Int32) (w0 : Int32) (S : HS) : Option (Int32 × HS) :=
  if w0 = (0 : Int32) then
  s_X12_overflows_J97 N F v0 v1 w0 v0 (-1) S
  else
  s_X12_overflows_J97 N F v0 v1 w0 v0 1 S
def s_X12_overflows_J54 (N : Nat → Nat) (F : Nat) (v0 : Nat) (v1 : Int32) (w0 : Int32) (S : HS) : Option (Int32 × HS) :=
  if w0 = (0 : Int32) then
  s_X12_overflows_J84 N F v0 v1 0 S
  else
  bd1 (s_X12_kindOf N v0 v1 S) fun r9 =>
  if r9 = (2 : Int32) then
  s_X12_overflows_J84 N F v0 v1 0 S
  else
  bd1 (s_X12_kindOf N v0 v1 S) fun r11 =>
  if r11 = (3 : Int32) then
  s_X12_overflows_J84 N F v0 v1 0 S
  else
  s_X12_overflows_J84 N F v0 v1 1 S
def s_X12_overflows_J33 (N : Nat → Nat) (F : Nat) (v0 : Nat) (v1 : Int32) (v2 : Int32) (v3 : Int32) (S : HS) : Option (Int32 × HS) :=
  if v3 = (5 : Int32) then
  bd2 (s_X12_owns N F v0 v2 1 1 1 S) fun r17 S18 =>
  if r17 = (0 : Int32) then
  s_X12_overflows_J54 N F v0 v1 0 S18
  else
  s_X12_overflows_J54 N F v0 v1 1 S18
  else
  s_X12_overflows_J54 N F v0 v1 0 S
def s_X12_overflows_J24 (N : Nat → Nat) (F : Nat) (v0 : Nat) (v1 : Int32) (v2 : Int32) (v3 : Int32) (S : HS) : Option (Int32 × HS) :=
  if v3 = (3 : Int32) then
  if v2 = (0 : Int32) then
  s_X12_overflows_J54 N F v0 v1 1 S
  else
  s_X12_overflows_J33 N F v0 v1 v2 v3 S
  else
  s_X12_overflows_J33 N F v0 v1 v2 v3 S
def s_X12_overflows (N : Nat → Nat) (F : Nat) (a : Nat) (p0 : Int32) (p1 : Int32) (p2 : Int32) (S : HS) : Option (Int32 × HS) :=
  bnd (uI S 1220 a 10) fun S1 =>
  if p2 = (0 : Int32) then
  s_X12_overflows_J54 N F a p0 1 S1
  else
  if p2 = (4 : Int32) then
  s_X12_overflows_J54 N F a p0 1 S1
  else
  if p2 = (2 : Int32) then
  if p1 = (0 : Int32) then
  s_X12_overflows_J24 N F a p0 p1 p2 S1
  else
  s_X12_overflows_J54 N F a p0 1 S1
  else
  s_X12_overflows_J24 N F a p0 p1 p2 S1
set_option maxRecDepth 100000 in
set_option maxHeartbeats 4000000 in
theorem b_X12_overflows_97 {p : Program} {l : Launch} {e : Env} {s : State} {m : MethodId} {args : Array Value} {below : List Frame} {meth : Method} {c : Code} {V : EV} {G : GS} {r : Int32} {S' : HS} {F : Nat} (C : CX p s m args meth c RX12 cX12_overflows 5 (some .int) V G) : ∀ (v0 : Nat) (v1 : Int32) (v4 : Int32) (w0 : Nat) (w1 : Int32) (h_v0 : v0 ∈ G.1) (k_v0 : G.2.1 v0 = 12) (h_w0 : w0 ∈ G.1) (k_w0 : G.2.1 w0 = 12) (S : HS) (H : Heap) (locs : List Loc) (ls : Array Slot), s_X12_overflows_J97 G.2.2 F v0 v1 v4 w0 w1 S = some (r, S') → HP V G S H → va_S (AG G s.heap.size) s.heap H locs → WT G S → lv_has ls 5 [(0, .ref v0), (1, .int v1), (4, .int v4)] → W p l e (RM 4 116) s m args below meth c H locs 0 0 (MQ below (QI V G S' r s.heap.size) args s 0 0 (AG G s.heap.size)) (F0 m 97 ls [.int w1, .ref w0]) := by
  intro v0 v1 v4 w0 w1 h_v0 k_v0 h_w0 k_w0 S H locs ls hf hP hS hW hl
  have hx := C.1
  have hb := C.2.1
  unfold s_X12_overflows_J97 at hf
  obtain ⟨S5, eS5, hf⟩ := bnd_e hf
  refine pf_X12_318 C hP hS h_w0 k_w0 eS5 dX12_overflows_97 (fun H locs hP hS => ?_)
  have hW : WT G S5 := by rw [eS5]; exact hW
  refine lv_iload hx hb dX12_overflows_100 (lv_at hl 2 rfl) ?_
  refine lv_if_eq (tgt := 113) hx hb dX12_overflows_102 (by decide) (fun c6 => ?_) (fun c6 => ?_)
  · have hf := if_t c6 hf
    refine lv_aload_n hx hb dX12_overflows_113 rfl (lv_at hl 0 rfl) ?_
    refine lv_iload_n hx hb dX12_overflows_114 rfl (lv_at hl 1 rfl) ?_
    obtain ⟨r7, er7, hf⟩ := bd1_e hf
    refine x_aft_i (x_runV (As := [.int v1]) (rest := []) C hP hS (c_X12_greatestOf (l := l) C.2.2.2.2.2.2.2.2.2.1 hW h_v0 k_v0 er7 H.size) h_v0 k_v0 (by decide) rfl rfl km_X12_greatestOf ki_X12_greatestOf qm_X12_327 ⟨(Nat.le_of_ble_eq_true rfl), (Nat.le_of_ble_eq_true rfl)⟩ rfl hl.1 rfl (Nat.le_of_ble_eq_true rfl) ⟨Nat.zero_le _, Nat.zero_le _⟩ dX12_overflows_115) hS (fun H locs hP hS hW => ?_)
    cases hf
    exact x_reti C hP hS hW dX12_overflows_118
  · have hf := if_f c6 hf
    refine lv_aload_n hx hb dX12_overflows_105 rfl (lv_at hl 0 rfl) ?_
    refine lv_iload_n hx hb dX12_overflows_106 rfl (lv_at hl 1 rfl) ?_
    obtain ⟨r8, er8, hf⟩ := bd1_e hf
    refine x_aft_i (x_runV (As := [.int v1]) (rest := []) C hP hS (c_X12_infOf (l := l) C.2.2.2.2.2.2.2.2.2.1 hW h_v0 k_v0 er8 H.size) h_v0 k_v0 (by decide) rfl rfl km_X12_infOf ki_X12_infOf qm_X12_261 ⟨(Nat.le_of_ble_eq_true rfl), (Nat.le_of_ble_eq_true rfl)⟩ rfl hl.1 rfl (Nat.le_of_ble_eq_true rfl) ⟨Nat.zero_le _, Nat.zero_le _⟩ dX12_overflows_107) hS (fun H locs hP hS hW => ?_)
    refine lv_goto (tgt := 118) hx hb dX12_overflows_110 (by decide) ?_
    cases hf
    exact x_reti C hP hS hW dX12_overflows_118
set_option maxRecDepth 100000 in
set_option maxHeartbeats 4000000 in
theorem b_X12_overflows_84 {p : Program} {l : Launch} {e : Env} {s : State} {m : MethodId} {args : Array Value} {below : List Frame} {meth : Method} {c : Code} {V : EV} {G : GS} {r : Int32} {S' : HS} {F : Nat} (C : CX p s m args meth c RX12 cX12_overflows 5 (some .int) V G) : ∀ (v0 : Nat) (v1 : Int32) (w0 : Int32) (h_v0 : v0 ∈ G.1) (k_v0 : G.2.1 v0 = 12) (S : HS) (H : Heap) (locs : List Loc) (ls : Array Slot), s_X12_overflows_J84 G.2.2 F v0 v1 w0 S = some (r, S') → HP V G S H → va_S (AG G s.heap.size) s.heap H locs → WT G S → lv_has ls 5 [(0, .ref v0), (1, .int v1)] → W p l e (RM 4 116) s m args below meth c H locs 0 0 (MQ below (QI V G S' r s.heap.size) args s 0 0 (AG G s.heap.size)) (F0 m 84 ls [.int w0]) := by
  intro v0 v1 w0 h_v0 k_v0 S H locs ls hf hP hS hW hl
  have hx := C.1
  have hb := C.2.1
  unfold s_X12_overflows_J84 at hf
  refine lv_istore (lv' := [(4, .int w0), (0, .ref v0), (1, .int v1)]) hx hb dX12_overflows_84 hl (by decide) rfl (fun ls hl => ?_)
  refine lv_aload_n hx hb dX12_overflows_86 rfl (lv_at hl 1 rfl) ?_
  refine lv_iload hx hb dX12_overflows_87 (lv_at hl 0 rfl) ?_
  refine lv_if_eq (tgt := 96) hx hb dX12_overflows_89 (by decide) (fun c4 => ?_) (fun c4 => ?_)
  · have hf := if_t c4 hf
    refine lv_iconst (v := (-1)) hx hb dX12_overflows_96 rfl ?_
    exact b_X12_overflows_97 C v0 v1 w0 v0 (-1) h_v0 k_v0 h_v0 k_v0 S H locs _ hf hP hS hW (lv_sub hl [1, 2, 0] rfl)
  · have hf := if_f c4 hf
    refine lv_iconst (v := 1) hx hb dX12_overflows_92 rfl ?_
    refine lv_goto (tgt := 97) hx hb dX12_overflows_93 (by decide) ?_
    exact b_X12_overflows_97 C v0 v1 w0 v0 1 h_v0 k_v0 h_v0 k_v0 S H locs _ hf hP hS hW (lv_sub hl [1, 2, 0] rfl)
set_option maxRecDepth 100000 in
set_option maxHeartbeats 4000000 in
theorem b_X12_overflows_54 {p : Program} {l : Launch} {e : Env} {s : State} {m : MethodId} {args : Array Value} {below : List Frame} {meth : Method} {c : Code} {V : EV} {G : GS} {r : Int32} {S' : HS} {F : Nat} (C : CX p s m args meth c RX12 cX12_overflows 5 (some .int) V G) : ∀ (v0 : Nat) (v1 : Int32) (w0 : Int32) (h_v0 : v0 ∈ G.1) (k_v0 : G.2.1 v0 = 12) (S : HS) (H : Heap) (locs : List Loc) (ls : Array Slot), s_X12_overflows_J54 G.2.2 F v0 v1 w0 S = some (r, S') → HP V G S H → va_S (AG G s.heap.size) s.heap H locs → WT G S → lv_has ls 5 [(0, .ref v0), (1, .int v1)] → W p l e (RM 4 116) s m args below meth c H locs 0 0 (MQ below (QI V G S' r s.heap.size) args s 0 0 (AG G s.heap.size)) (F0 m 54 ls [.int w0]) := by
  intro v0 v1 w0 h_v0 k_v0 S H locs ls hf hP hS hW hl
  have hx := C.1
  have hb := C.2.1
  unfold s_X12_overflows_J54 at hf
  refine lv_istore (lv' := [(4, .int w0), (0, .ref v0), (1, .int v1)]) hx hb dX12_overflows_54 hl (by decide) rfl (fun ls hl => ?_)
  refine lv_iload hx hb dX12_overflows_56 (lv_at hl 0 rfl) ?_
  refine lv_if_eq (tgt := 83) hx hb dX12_overflows_58 (by decide) (fun c3 => ?_) (fun c3 => ?_)
  · have hf := if_t c3 hf
    refine lv_iconst (v := 0) hx hb dX12_overflows_83 rfl ?_
    exact b_X12_overflows_84 C v0 v1 0 h_v0 k_v0 S H locs _ hf hP hS hW (lv_sub hl [1, 2] rfl)
  · have hf := if_f c3 hf
    refine lv_aload_n hx hb dX12_overflows_61 rfl (lv_at hl 1 rfl) ?_
    refine lv_iload_n hx hb dX12_overflows_62 rfl (lv_at hl 2 rfl) ?_
    obtain ⟨r9, er9, hf⟩ := bd1_e hf
    refine x_aft_i (x_runV (As := [.int v1]) (rest := []) C hP hS (c_X12_kindOf (l := l) C.2.2.2.2.2.2.2.2.2.1 hW h_v0 k_v0 er9 H.size) h_v0 k_v0 (by decide) rfl rfl km_X12_kindOf ki_X12_kindOf qm_X12_249 ⟨(Nat.le_of_ble_eq_true rfl), (Nat.le_of_ble_eq_true rfl)⟩ rfl hl.1 rfl (Nat.le_of_ble_eq_true rfl) ⟨Nat.zero_le _, Nat.zero_le _⟩ dX12_overflows_63) hS (fun H locs hP hS hW => ?_)
    refine lv_iconst (v := 2) hx hb dX12_overflows_66 rfl ?_
    refine lv_icmp_eq (tgt := 83) hx hb dX12_overflows_67 (by decide) (fun c10 => ?_) (fun c10 => ?_)
    · have hf := if_t c10 hf
      refine lv_iconst (v := 0) hx hb dX12_overflows_83 rfl ?_
      exact b_X12_overflows_84 C v0 v1 0 h_v0 k_v0 S H locs _ hf hP hS hW (lv_sub hl [1, 2] rfl)
    · have hf := if_f c10 hf
      refine lv_aload_n hx hb dX12_overflows_70 rfl (lv_at hl 1 rfl) ?_
      refine lv_iload_n hx hb dX12_overflows_71 rfl (lv_at hl 2 rfl) ?_
      obtain ⟨r11, er11, hf⟩ := bd1_e hf
      refine x_aft_i (x_runV (As := [.int v1]) (rest := []) C hP hS (c_X12_kindOf (l := l) C.2.2.2.2.2.2.2.2.2.1 hW h_v0 k_v0 er11 H.size) h_v0 k_v0 (by decide) rfl rfl km_X12_kindOf ki_X12_kindOf qm_X12_249 ⟨(Nat.le_of_ble_eq_true rfl), (Nat.le_of_ble_eq_true rfl)⟩ rfl hl.1 rfl (Nat.le_of_ble_eq_true rfl) ⟨Nat.zero_le _, Nat.zero_le _⟩ dX12_overflows_72) hS (fun H locs hP hS hW => ?_)
      refine lv_iconst (v := 3) hx hb dX12_overflows_75 rfl ?_
      refine lv_icmp_eq (tgt := 83) hx hb dX12_overflows_76 (by decide) (fun c12 => ?_) (fun c12 => ?_)
      · have hf := if_t c12 hf
        refine lv_iconst (v := 0) hx hb dX12_overflows_83 rfl ?_
        exact b_X12_overflows_84 C v0 v1 0 h_v0 k_v0 S H locs _ hf hP hS hW (lv_sub hl [1, 2] rfl)
      · have hf := if_f c12 hf
        refine lv_iconst (v := 1) hx hb dX12_overflows_79 rfl ?_
        refine lv_goto (tgt := 84) hx hb dX12_overflows_80 (by decide) ?_
        exact b_X12_overflows_84 C v0 v1 1 h_v0 k_v0 S H locs _ hf hP hS hW (lv_sub hl [1, 2] rfl)
set_option maxRecDepth 100000 in
set_option maxHeartbeats 4000000 in
theorem b_X12_overflows_33 {p : Program} {l : Launch} {e : Env} {s : State} {m : MethodId} {args : Array Value} {below : List Frame} {meth : Method} {c : Code} {V : EV} {G : GS} {r : Int32} {S' : HS} {F : Nat} (C : CX p s m args meth c RX12 cX12_overflows 5 (some .int) V G) : ∀ (v0 : Nat) (v1 : Int32) (v2 : Int32) (v3 : Int32) (h_v0 : v0 ∈ G.1) (k_v0 : G.2.1 v0 = 12) (S : HS) (H : Heap) (locs : List Loc) (ls : Array Slot), s_X12_overflows_J33 G.2.2 F v0 v1 v2 v3 S = some (r, S') → HP V G S H → va_S (AG G s.heap.size) s.heap H locs → WT G S → lv_has ls 5 [(0, .ref v0), (1, .int v1), (2, .int v2), (3, .int v3)] → W p l e (RM 4 116) s m args below meth c H locs 0 0 (MQ below (QI V G S' r s.heap.size) args s 0 0 (AG G s.heap.size)) (F0 m 33 ls []) := by
  intro v0 v1 v2 v3 h_v0 k_v0 S H locs ls hf hP hS hW hl
  have hx := C.1
  have hb := C.2.1
  unfold s_X12_overflows_J33 at hf
  refine lv_iload_n hx hb dX12_overflows_33 rfl (lv_at hl 3 rfl) ?_
  refine lv_iconst (v := 5) hx hb dX12_overflows_34 rfl ?_
  refine lv_icmp_ne (tgt := 53) hx hb dX12_overflows_35 (by decide) (fun c16 => ?_) (fun c16 => ?_)
  · have hf := if_f c16 hf
    refine lv_iconst (v := 0) hx hb dX12_overflows_53 rfl ?_
    exact b_X12_overflows_54 C v0 v1 0 h_v0 k_v0 S H locs _ hf hP hS hW (lv_sub hl [0, 1] rfl)
  · have hf := if_t c16 hf
    refine lv_aload_n hx hb dX12_overflows_38 rfl (lv_at hl 0 rfl) ?_
    refine lv_iload_n hx hb dX12_overflows_39 rfl (lv_at hl 2 rfl) ?_
    refine lv_iconst (v := 1) hx hb dX12_overflows_40 rfl ?_
    refine lv_iconst (v := 1) hx hb dX12_overflows_41 rfl ?_
    refine lv_iconst (v := 1) hx hb dX12_overflows_42 rfl ?_
    obtain ⟨r17, S18, eS18, hf⟩ := bd2_e hf
    refine x_aft_z (x_runV (As := [.int v2, .int 1, .int 1, .int 1]) (rest := []) C hP hS (c_X12_owns (l := l) C.2.2.2.2.2.2.2.2.2.1 hW h_v0 k_v0 eS18 H.size) h_v0 k_v0 (by decide) rfl rfl km_X12_owns ki_X12_owns qm_X12_296 ⟨(Nat.le_of_ble_eq_true rfl), (Nat.le_of_ble_eq_true rfl)⟩ rfl hl.1 rfl (Nat.le_of_ble_eq_true rfl) ⟨Nat.zero_le _, Nat.zero_le _⟩ dX12_overflows_43) hS (fun H locs hP hS hW z19 => ?_)
    refine lv_if_eq (tgt := 53) hx hb dX12_overflows_46 (by decide) (fun c20 => ?_) (fun c20 => ?_)
    · have hf := if_t c20 hf
      refine lv_iconst (v := 0) hx hb dX12_overflows_53 rfl ?_
      exact b_X12_overflows_54 C v0 v1 0 h_v0 k_v0 S18 H locs _ hf hP hS hW (lv_sub hl [0, 1] rfl)
    · have hf := if_f c20 hf
      refine lv_iconst (v := 1) hx hb dX12_overflows_49 rfl ?_
      refine lv_goto (tgt := 54) hx hb dX12_overflows_50 (by decide) ?_
      exact b_X12_overflows_54 C v0 v1 1 h_v0 k_v0 S18 H locs _ hf hP hS hW (lv_sub hl [0, 1] rfl)
set_option maxRecDepth 100000 in
set_option maxHeartbeats 4000000 in
theorem b_X12_overflows_24 {p : Program} {l : Launch} {e : Env} {s : State} {m : MethodId} {args : Array Value} {below : List Frame} {meth : Method} {c : Code} {V : EV} {G : GS} {r : Int32} {S' : HS} {F : Nat} (C : CX p s m args meth c RX12 cX12_overflows 5 (some .int) V G) : ∀ (v0 : Nat) (v1 : Int32) (v2 : Int32) (v3 : Int32) (h_v0 : v0 ∈ G.1) (k_v0 : G.2.1 v0 = 12) (S : HS) (H : Heap) (locs : List Loc) (ls : Array Slot), s_X12_overflows_J24 G.2.2 F v0 v1 v2 v3 S = some (r, S') → HP V G S H → va_S (AG G s.heap.size) s.heap H locs → WT G S → lv_has ls 5 [(0, .ref v0), (1, .int v1), (2, .int v2), (3, .int v3)] → W p l e (RM 4 116) s m args below meth c H locs 0 0 (MQ below (QI V G S' r s.heap.size) args s 0 0 (AG G s.heap.size)) (F0 m 24 ls []) := by
  intro v0 v1 v2 v3 h_v0 k_v0 S H locs ls hf hP hS hW hl
  have hx := C.1
  have hb := C.2.1
  unfold s_X12_overflows_J24 at hf
  refine lv_iload_n hx hb dX12_overflows_24 rfl (lv_at hl 3 rfl) ?_
  refine lv_iconst (v := 3) hx hb dX12_overflows_25 rfl ?_
  refine lv_icmp_ne (tgt := 33) hx hb dX12_overflows_26 (by decide) (fun c15 => ?_) (fun c15 => ?_)
  · have hf := if_f c15 hf
    exact b_X12_overflows_33 C v0 v1 v2 v3 h_v0 k_v0 S H locs _ hf hP hS hW (lv_sub hl [0, 1, 2, 3] rfl)
  · have hf := if_t c15 hf
    refine lv_iload_n hx hb dX12_overflows_29 rfl (lv_at hl 2 rfl) ?_
    refine lv_if_eq (tgt := 49) hx hb dX12_overflows_30 (by decide) (fun c21 => ?_) (fun c21 => ?_)
    · have hf := if_t c21 hf
      refine lv_iconst (v := 1) hx hb dX12_overflows_49 rfl ?_
      refine lv_goto (tgt := 54) hx hb dX12_overflows_50 (by decide) ?_
      exact b_X12_overflows_54 C v0 v1 1 h_v0 k_v0 S H locs _ hf hP hS hW (lv_sub hl [0, 1] rfl)
    · have hf := if_f c21 hf
      exact b_X12_overflows_33 C v0 v1 v2 v3 h_v0 k_v0 S H locs _ hf hP hS hW (lv_sub hl [0, 1, 2, 3] rfl)
set_option maxRecDepth 100000 in
set_option maxHeartbeats 4000000 in
theorem c_X12_overflows {l : Launch} {V : EV} {G : GS} {S : HS} {F : Nat} {a : Nat} {p0 : Int32} {p1 : Int32} {p2 : Int32} {r : Int32} {S' : HS} (hN : G.1.Nodup) (hW : WT G S) (h_a : a ∈ G.1) (k_a : G.2.1 a = 12) (hf : s_X12_overflows G.2.2 F a p0 p1 p2 S = some (r, S')) : MetI l yX12_overflows cX12_overflows 5 .int 4 116 V G S [.ref a, .int p0, .int p1, .int p2] r S' := by
  intro sz
  refine x_in RX12 rfl (by decide +kernel) hN (Nat.le_of_ble_eq_true rfl) (fun p e s m args below meth c ls hsz hargs hnm C hP hS hl => ?_)
  subst hsz
  have hx := C.1
  have hb := C.2.1
  have hl : lv_has ls 5 [(0, .ref a), (1, .int p0), (2, .int p1), (3, .int p2)] := hl
  unfold s_X12_overflows at hf
  refine lv_aload_n hx hb dX12_overflows_0 rfl (lv_at hl 0 rfl) ?_
  refine lv_bipush (v := 10) hx hb dX12_overflows_1 kc_bipush_10 ?_
  obtain ⟨S1, eS1, hf⟩ := bnd_e hf
  refine pf_X12_315 C hP hS h_a k_a eS1 dX12_overflows_3 (fun H locs hP hS => ?_)
  have hW : WT G S1 := by rw [eS1]; exact hW
  refine lv_iload_n hx hb dX12_overflows_6 rfl (lv_at hl 3 rfl) ?_
  refine lv_if_eq (tgt := 49) hx hb dX12_overflows_7 (by decide) (fun c2 => ?_) (fun c2 => ?_)
  · have hf := if_t c2 hf
    refine lv_iconst (v := 1) hx hb dX12_overflows_49 rfl ?_
    refine lv_goto (tgt := 54) hx hb dX12_overflows_50 (by decide) ?_
    exact b_X12_overflows_54 C a p0 1 h_a k_a S1 H locs _ hf hP hS hW (lv_sub hl [0, 1] rfl)
  · have hf := if_f c2 hf
    refine lv_iload_n hx hb dX12_overflows_10 rfl (lv_at hl 3 rfl) ?_
    refine lv_iconst (v := 4) hx hb dX12_overflows_11 rfl ?_
    refine lv_icmp_eq (tgt := 49) hx hb dX12_overflows_12 (by decide) (fun c13 => ?_) (fun c13 => ?_)
    · have hf := if_t c13 hf
      refine lv_iconst (v := 1) hx hb dX12_overflows_49 rfl ?_
      refine lv_goto (tgt := 54) hx hb dX12_overflows_50 (by decide) ?_
      exact b_X12_overflows_54 C a p0 1 h_a k_a S1 H locs _ hf hP hS hW (lv_sub hl [0, 1] rfl)
    · have hf := if_f c13 hf
      refine lv_iload_n hx hb dX12_overflows_15 rfl (lv_at hl 3 rfl) ?_
      refine lv_iconst (v := 2) hx hb dX12_overflows_16 rfl ?_
      refine lv_icmp_ne (tgt := 24) hx hb dX12_overflows_17 (by decide) (fun c14 => ?_) (fun c14 => ?_)
      · have hf := if_f c14 hf
        exact b_X12_overflows_24 C a p0 p1 p2 h_a k_a S1 H locs _ hf hP hS hW (lv_sub hl [0, 1, 2, 3] rfl)
      · have hf := if_t c14 hf
        refine lv_iload_n hx hb dX12_overflows_20 rfl (lv_at hl 2 rfl) ?_
        refine lv_if_ne (tgt := 49) hx hb dX12_overflows_21 (by decide) (fun c22 => ?_) (fun c22 => ?_)
        · have hf := if_f c22 hf
          refine lv_iconst (v := 1) hx hb dX12_overflows_49 rfl ?_
          refine lv_goto (tgt := 54) hx hb dX12_overflows_50 (by decide) ?_
          exact b_X12_overflows_54 C a p0 1 h_a k_a S1 H locs _ hf hP hS hW (lv_sub hl [0, 1] rfl)
        · have hf := if_t c22 hf
          exact b_X12_overflows_24 C a p0 p1 p2 h_a k_a S1 H locs _ hf hP hS hW (lv_sub hl [0, 1, 2, 3] rfl)
def s_X12_rounds_J288 (N : Nat → Nat) (F : Nat) (v0 : Nat) (v1 : Int32) (v2 : Int32) (v7 : Int32) (v8 : Int32) (v13 : Int64) (v17 : Int32) (w0 : Int32) (S : HS) : Option (Int32 × HS) :=
  bd1 (s_X12_highOf N v0 v1 S) fun r29 =>
  if w0 ≤ r29 then
  if ¬ (1 : Int64) <<< (v8.toInt64 &&& 63) = 0 then
  some ((v17 + (w0 <<< (v8 &&& 31))) + ((v13 - v13 / ((1 : Int64) <<< (v8.toInt64 &&& 63)) * ((1 : Int64) <<< (v8.toInt64 &&& 63))).toInt32), S)
  else none
  else
  bd2 (s_X12_overflows N F v0 v1 v2 v7 S) fun r32 S33 =>
  some (v17 + r32, S33)
def s_X12_rounds_J263 (N : Nat → Nat) (F : Nat) (v0 : Nat) (v1 : Int32) (v2 : Int32) (v7 : Int32) (v8 : Int32) (v12 : Int32) (v13 : Int64) (v17 : Int32) (S : HS) : Option (Int32 × HS) :=
  if (0 : Int32) ≤ (lg_cmp v13 ((1 : Int64) <<< (v8.toInt64 &&& 63))) then
  bd1 (s_X12_biasOf N v0 v1 S) fun r28 =>
  s_X12_rounds_J288 N F v0 v1 v2 v7 v8 v13 v17 ((v12 + r28) + v8) S
  else
  s_X12_rounds_J288 N F v0 v1 v2 v7 v8 v13 v17 0 S
def s_X12_rounds_J240 (N : Nat → Nat) (F : Nat) (v0 : Nat) (v1 : Int32) (v2 : Int32) (v7 : Int32) (v8 : Int32) (v12 : Int32) (v13 : Int64) (v17 : Int32) (S : HS) : Option (Int32 × HS) :=
  if (lg_cmp v13 ((1 : Int64) <<< ((v8 + 1).toInt64 &&& 63))) = (0 : Int32) then
  bnd (v13 / 2 : Int64) fun x34 =>
  bnd (v12 + Int32.ofInt 1 : Int32) fun x35 =>
  s_X12_rounds_J263 N F v0 v1 v2 v7 v8 x35 x34 v17 S
  else
  s_X12_rounds_J263 N F v0 v1 v2 v7 v8 v12 v13 v17 S
def s_X12_rounds_J210 (N : Nat → Nat) (F : Nat) (v0 : Nat) (v1 : Int32) (v2 : Int32) (v7 : Int32) (v8 : Int32) (v11 : Int32) (v12 : Int32) (v13 : Int64) (w0 : Int32) (S : HS) : Option (Int32 × HS) :=
  if v11 = (0 : Int32) then
  s_X12_rounds_J240 N F v0 v1 v2 v7 v8 v12 v13 w0 S
  else
  bd1 (s_X12_kindOf N v0 v1 S) fun r36 =>
  if r36 = (1 : Int32) then
  bnd (uI S 1220 v0 12) fun S38 =>
  bnd (uI S38 1224 v0 (-1)) fun S39 =>
  some (w0, S39)
  else
  s_X12_rounds_J240 N F v0 v1 v2 v7 v8 v12 v13 w0 S
def s_X12_rounds_J194 (N : Nat → Nat) (F : Nat) (v0 : Nat) (v1 : Int32) (v2 : Int32) (v7 : Int32) (v8 : Int32) (v11 : Int32) (v12 : Int32) (v13 : Int64) (w0 : Nat) (w1 : Int32) (S : HS) : Option (Int32 × HS) :=
  bnd (uI S 1224 w0 w1) fun S23 =>
  if v2 = (0 : Int32) then
  s_X12_rounds_J210 N F v0 v1 v2 v7 v8 v11 v12 v13 0 S23
  else
  bd1 (s_X12_signOf N v0 v1 S23) fun r40 =>
  s_X12_rounds_J210 N F v0 v1 v2 v7 v8 v11 v12 v13 r40 S23
def s_X12_rounds_J171 (N : Nat → Nat) (F : Nat) (v0 : Nat) (v1 : Int32) (v2 : Int32) (v7 : Int32) (v8 : Int32) (v11 : Int32) (v12 : Int32) (v13 : Int64) (v15 : Int32) (v16 : Int32) (w0 : Nat) (w1 : Int32) (S : HS) : Option (Int32 × HS) :=
  bnd (uI S 1220 w0 w1) fun S20 =>
  if v15 = (0 : Int32) then
  s_X12_rounds_J194 N F v0 v1 v2 v7 v8 v11 v12 v13 v0 0 S20
  else
  if v16 = (0 : Int32) then
  s_X12_rounds_J194 N F v0 v1 v2 v7 v8 v11 v12 v13 v0 (-1) S20
  else
  s_X12_rounds_J194 N F v0 v1 v2 v7 v8 v11 v12 v13 v0 1 S20
def s_X12_rounds_J141 (N : Nat → Nat) (F : Nat) (v0 : Nat) (v1 : Int32) (v2 : Int32) (v7 : Int32) (v8 : Int32) (v11 : Int32) (v12 : Int32) (v15 : Int32) (v16 : Int32) (w0 : Int64) (w1 : Int64) (S : HS) : Option (Int32 × HS) :=
  bnd (w0 + w1 : Int64) fun x17 =>
  bnd (uI S 1221 v0 1) fun S18 =>
  if v15 = (0 : Int32) then
  s_X12_rounds_J171 N F v0 v1 v2 v7 v8 v11 v12 x17 v15 v16 v0 0 S18
  else
  if v11 = (0 : Int32) then
  s_X12_rounds_J171 N F v0 v1 v2 v7 v8 v11 v12 x17 v15 v16 v0 8 S18
  else
  s_X12_rounds_J171 N F v0 v1 v2 v7 v8 v11 v12 x17 v15 v16 v0 12 S18
def s_X12_rounds_J124 (N : Nat → Nat) (F : Nat) (v0 : Nat) (v1 : Int32) (v2 : Int32) (v7 : Int32) (v8 : Int32) (v11 : Int32) (v12 : Int32) (v13 : Int64) (v15 : Int32) (w0 : Nat) (w1 : Int32) (w2 : Int32) (w3 : Int32) (S : HS) : Option (Int32 × HS) :=
  bd2 (s_X12_isUp N F w0 w1 w2 w3 S) fun r13 S14 =>
  if r13 = (0 : Int32) then
  s_X12_rounds_J141 N F v0 v1 v2 v7 v8 v11 v12 v15 r13 v13 0 S14
  else
  s_X12_rounds_J141 N F v0 v1 v2 v7 v8 v11 v12 v15 r13 v13 1 S14
def s_X12_rounds_J104 (N : Nat → Nat) (F : Nat) (v0 : Nat) (v1 : Int32) (v2 : Int32) (v7 : Int32) (v8 : Int32) (v11 : Int32) (v12 : Int32) (v13 : Int64) (w0 : Int32) (S : HS) : Option (Int32 × HS) :=
  if (lg_cmp (v13 &&& 1) (1 : Int64)) = (0 : Int32) then
  s_X12_rounds_J124 N F v0 v1 v2 v7 v8 v11 v12 v13 w0 v0 v7 v2 1 S
  else
  s_X12_rounds_J124 N F v0 v1 v2 v7 v8 v11 v12 v13 w0 v0 v7 v2 0 S
def s_X12_rounds_J69 (N : Nat → Nat) (F : Nat) (v0 : Nat) (v1 : Int32) (v2 : Int32) (v3 : Int64) (v5 : Int32) (v6 : Int32) (v7 : Int32) (v8 : Int32) (v11 : Int32) (w0 : Int32) (S : HS) : Option (Int32 × HS) :=
  bd2 (s_X12_cuts v0 v3 (w0 - v5) v6 S) fun r9 S10 =>
  if (gI S10 1222 v0) = (0 : Int32) then
  if (gI S10 1223 v0) = (0 : Int32) then
  s_X12_rounds_J104 N F v0 v1 v2 v7 v8 v11 w0 r9 0 S10
  else
  s_X12_rounds_J104 N F v0 v1 v2 v7 v8 v11 w0 r9 1 S10
  else
  s_X12_rounds_J104 N F v0 v1 v2 v7 v8 v11 w0 r9 1 S10
def s_X12_rounds_J47 (N : Nat → Nat) (F : Nat) (v0 : Nat) (v1 : Int32) (v2 : Int32) (v3 : Int64) (v5 : Int32) (v6 : Int32) (v7 : Int32) (v8 : Int32) (v9 : Int32) (v10 : Int32) (w0 : Int32) (S : HS) : Option (Int32 × HS) :=
  if (v10 - v8) ≤ v9 then
  s_X12_rounds_J69 N F v0 v1 v2 v3 v5 v6 v7 v8 w0 v9 S
  else
  s_X12_rounds_J69 N F v0 v1 v2 v3 v5 v6 v7 v8 w0 (v10 - v8) S
def s_X12_rounds (N : Nat → Nat) (F : Nat) (a : Nat) (p0 : Int32) (p1 : Int32) (p2 : Int64) (p3 : Int32) (p4 : Int32) (p5 : Int32) (S : HS) : Option (Int32 × HS) :=
  bd1 (s_X12_fracOf N a p0 S) fun r1 =>
  bd1 (s_X12_biasOf N a p0 S) fun r2 =>
  bnd ((1 - r2) - r1 : Int32) fun x3 =>
  bd1 (s_X12_lengthOf F p2 S) fun r4 =>
  bnd ((r4 - 1) + p3 : Int32) fun x5 =>
  bd1 (s_X12_biasOf N a p0 S) fun r6 =>
  if (1 - r6) ≤ x5 then
  s_X12_rounds_J47 N F a p0 p1 p2 p3 p4 p5 r1 x3 x5 0 S
  else
  s_X12_rounds_J47 N F a p0 p1 p2 p3 p4 p5 r1 x3 x5 1 S
set_option maxRecDepth 100000 in
set_option maxHeartbeats 4000000 in
theorem b_X12_rounds_288 {p : Program} {l : Launch} {e : Env} {s : State} {m : MethodId} {args : Array Value} {below : List Frame} {meth : Method} {c : Code} {V : EV} {G : GS} {r : Int32} {S' : HS} {F : Nat} (C : CX p s m args meth c RX12 cX12_rounds 19 (some .int) V G) : ∀ (v0 : Nat) (v1 : Int32) (v2 : Int32) (v7 : Int32) (v8 : Int32) (v13 : Int64) (v17 : Int32) (w0 : Int32) (h_v0 : v0 ∈ G.1) (k_v0 : G.2.1 v0 = 12) (S : HS) (H : Heap) (locs : List Loc) (ls : Array Slot), s_X12_rounds_J288 G.2.2 F v0 v1 v2 v7 v8 v13 v17 w0 S = some (r, S') → HP V G S H → va_S (AG G s.heap.size) s.heap H locs → WT G S → lv_has ls 19 [(0, .ref v0), (1, .int v1), (2, .int v2), (7, .int v7), (8, .int v8), (13, .long v13), (17, .int v17)] → W p l e (RM 5 148) s m args below meth c H locs 0 0 (MQ below (QI V G S' r s.heap.size) args s 0 0 (AG G s.heap.size)) (F0 m 288 ls [.int w0]) := by
  intro v0 v1 v2 v7 v8 v13 v17 w0 h_v0 k_v0 S H locs ls hf hP hS hW hl
  have hx := C.1
  have hb := C.2.1
  unfold s_X12_rounds_J288 at hf
  refine lv_istore (lv' := [(18, .int w0), (0, .ref v0), (1, .int v1), (2, .int v2), (7, .int v7), (8, .int v8), (13, .long v13), (17, .int v17)]) hx hb dX12_rounds_288 hl (by decide) rfl (fun ls hl => ?_)
  refine lv_iload hx hb dX12_rounds_290 (lv_at hl 0 rfl) ?_
  refine lv_aload_n hx hb dX12_rounds_292 rfl (lv_at hl 1 rfl) ?_
  refine lv_iload_n hx hb dX12_rounds_293 rfl (lv_at hl 2 rfl) ?_
  obtain ⟨r29, er29, hf⟩ := bd1_e hf
  refine x_aft_i (x_runV (As := [.int v1]) (rest := [.int w0]) C hP hS (c_X12_highOf (l := l) C.2.2.2.2.2.2.2.2.2.1 hW h_v0 k_v0 er29 H.size) h_v0 k_v0 (by decide) rfl rfl km_X12_highOf ki_X12_highOf qm_X12_258 ⟨(Nat.le_of_ble_eq_true rfl), (Nat.le_of_ble_eq_true rfl)⟩ rfl hl.1 rfl (Nat.le_of_ble_eq_true rfl) ⟨Nat.zero_le _, Nat.zero_le _⟩ dX12_rounds_294) hS (fun H locs hP hS hW => ?_)
  refine lv_icmp_le (tgt := 312) hx hb dX12_rounds_297 (by decide) (fun c30 => ?_) (fun c30 => ?_)
  · have hf := if_t c30 hf
    refine lv_iload hx hb dX12_rounds_312 (lv_at hl 7 rfl) ?_
    refine lv_iload hx hb dX12_rounds_314 (lv_at hl 0 rfl) ?_
    refine lv_iload hx hb dX12_rounds_316 (lv_at hl 5 rfl) ?_
    refine lv_ishl hx hb dX12_rounds_318 ?_
    refine lv_iadd hx hb dX12_rounds_319 ?_
    refine lv_lload hx hb dX12_rounds_320 (lv_at hl 6 rfl) ?_
    refine lv_lconst (v := 1) hx hb dX12_rounds_322 rfl ?_
    refine lv_iload hx hb dX12_rounds_323 (lv_at hl 5 rfl) ?_
    refine lv_lshl hx hb dX12_rounds_325 rfl ?_
    obtain ⟨h31, hf⟩ := if_s hf
    refine lv_lrem hx hb dX12_rounds_326 h31 ?_
    refine lv_l2i hx hb dX12_rounds_327 rfl ?_
    refine lv_iadd hx hb dX12_rounds_328 ?_
    cases hf
    exact x_reti C hP hS hW dX12_rounds_329
  · have hf := if_f c30 hf
    refine lv_iload hx hb dX12_rounds_300 (lv_at hl 7 rfl) ?_
    refine lv_aload_n hx hb dX12_rounds_302 rfl (lv_at hl 1 rfl) ?_
    refine lv_iload_n hx hb dX12_rounds_303 rfl (lv_at hl 2 rfl) ?_
    refine lv_iload_n hx hb dX12_rounds_304 rfl (lv_at hl 3 rfl) ?_
    refine lv_iload hx hb dX12_rounds_305 (lv_at hl 4 rfl) ?_
    obtain ⟨r32, S33, eS33, hf⟩ := bd2_e hf
    refine x_aft_i (x_runV (As := [.int v1, .int v2, .int v7]) (rest := [.int v17]) C hP hS (c_X12_overflows (l := l) C.2.2.2.2.2.2.2.2.2.1 hW h_v0 k_v0 eS33 H.size) h_v0 k_v0 (by decide) rfl rfl km_X12_overflows ki_X12_overflows qm_X12_323 ⟨(Nat.le_of_ble_eq_true rfl), (Nat.le_of_ble_eq_true rfl)⟩ rfl hl.1 rfl (Nat.le_of_ble_eq_true rfl) ⟨Nat.zero_le _, Nat.zero_le _⟩ dX12_rounds_307) hS (fun H locs hP hS hW => ?_)
    refine lv_iadd hx hb dX12_rounds_310 ?_
    cases hf
    exact x_reti C hP hS hW dX12_rounds_311
set_option maxRecDepth 100000 in
set_option maxHeartbeats 4000000 in
theorem b_X12_rounds_263 {p : Program} {l : Launch} {e : Env} {s : State} {m : MethodId} {args : Array Value} {below : List Frame} {meth : Method} {c : Code} {V : EV} {G : GS} {r : Int32} {S' : HS} {F : Nat} (C : CX p s m args meth c RX12 cX12_rounds 19 (some .int) V G) : ∀ (v0 : Nat) (v1 : Int32) (v2 : Int32) (v7 : Int32) (v8 : Int32) (v12 : Int32) (v13 : Int64) (v17 : Int32) (h_v0 : v0 ∈ G.1) (k_v0 : G.2.1 v0 = 12) (S : HS) (H : Heap) (locs : List Loc) (ls : Array Slot), s_X12_rounds_J263 G.2.2 F v0 v1 v2 v7 v8 v12 v13 v17 S = some (r, S') → HP V G S H → va_S (AG G s.heap.size) s.heap H locs → WT G S → lv_has ls 19 [(0, .ref v0), (1, .int v1), (2, .int v2), (7, .int v7), (8, .int v8), (12, .int v12), (13, .long v13), (17, .int v17)] → W p l e (RM 5 148) s m args below meth c H locs 0 0 (MQ below (QI V G S' r s.heap.size) args s 0 0 (AG G s.heap.size)) (F0 m 263 ls []) := by
  intro v0 v1 v2 v7 v8 v12 v13 v17 h_v0 k_v0 S H locs ls hf hP hS hW hl
  have hx := C.1
  have hb := C.2.1
  unfold s_X12_rounds_J263 at hf
  refine lv_lload hx hb dX12_rounds_263 (lv_at hl 6 rfl) ?_
  refine lv_lconst (v := 1) hx hb dX12_rounds_265 rfl ?_
  refine lv_iload hx hb dX12_rounds_266 (lv_at hl 4 rfl) ?_
  refine lv_lshl hx hb dX12_rounds_268 rfl ?_
  refine W.lcmp hx hb dX12_rounds_269 ?_
  refine lv_if_ge (tgt := 277) hx hb dX12_rounds_270 (by decide) (fun c27 => ?_) (fun c27 => ?_)
  · have hf := if_t c27 hf
    refine lv_iload hx hb dX12_rounds_277 (lv_at hl 5 rfl) ?_
    refine lv_aload_n hx hb dX12_rounds_279 rfl (lv_at hl 0 rfl) ?_
    refine lv_iload_n hx hb dX12_rounds_280 rfl (lv_at hl 1 rfl) ?_
    obtain ⟨r28, er28, hf⟩ := bd1_e hf
    refine x_aft_i (x_runV (As := [.int v1]) (rest := [.int v12]) C hP hS (c_X12_biasOf (l := l) C.2.2.2.2.2.2.2.2.2.1 hW h_v0 k_v0 er28 H.size) h_v0 k_v0 (by decide) rfl rfl km_X12_biasOf ki_X12_biasOf qm_X12_264 ⟨(Nat.le_of_ble_eq_true rfl), (Nat.le_of_ble_eq_true rfl)⟩ rfl hl.1 rfl (Nat.le_of_ble_eq_true rfl) ⟨Nat.zero_le _, Nat.zero_le _⟩ dX12_rounds_281) hS (fun H locs hP hS hW => ?_)
    refine lv_iadd hx hb dX12_rounds_284 ?_
    refine lv_iload hx hb dX12_rounds_285 (lv_at hl 4 rfl) ?_
    refine lv_iadd hx hb dX12_rounds_287 ?_
    exact b_X12_rounds_288 C v0 v1 v2 v7 v8 v13 v17 ((v12 + r28) + v8) h_v0 k_v0 S H locs _ hf hP hS hW (lv_sub hl [0, 1, 2, 3, 4, 6, 7] rfl)
  · have hf := if_f c27 hf
    refine lv_iconst (v := 0) hx hb dX12_rounds_273 rfl ?_
    refine lv_goto (tgt := 288) hx hb dX12_rounds_274 (by decide) ?_
    exact b_X12_rounds_288 C v0 v1 v2 v7 v8 v13 v17 0 h_v0 k_v0 S H locs _ hf hP hS hW (lv_sub hl [0, 1, 2, 3, 4, 6, 7] rfl)
set_option maxRecDepth 100000 in
set_option maxHeartbeats 4000000 in
theorem b_X12_rounds_240 {p : Program} {l : Launch} {e : Env} {s : State} {m : MethodId} {args : Array Value} {below : List Frame} {meth : Method} {c : Code} {V : EV} {G : GS} {r : Int32} {S' : HS} {F : Nat} (C : CX p s m args meth c RX12 cX12_rounds 19 (some .int) V G) : ∀ (v0 : Nat) (v1 : Int32) (v2 : Int32) (v7 : Int32) (v8 : Int32) (v12 : Int32) (v13 : Int64) (v17 : Int32) (h_v0 : v0 ∈ G.1) (k_v0 : G.2.1 v0 = 12) (S : HS) (H : Heap) (locs : List Loc) (ls : Array Slot), s_X12_rounds_J240 G.2.2 F v0 v1 v2 v7 v8 v12 v13 v17 S = some (r, S') → HP V G S H → va_S (AG G s.heap.size) s.heap H locs → WT G S → lv_has ls 19 [(0, .ref v0), (1, .int v1), (2, .int v2), (7, .int v7), (8, .int v8), (12, .int v12), (13, .long v13), (17, .int v17)] → W p l e (RM 5 148) s m args below meth c H locs 0 0 (MQ below (QI V G S' r s.heap.size) args s 0 0 (AG G s.heap.size)) (F0 m 240 ls []) := by
  intro v0 v1 v2 v7 v8 v12 v13 v17 h_v0 k_v0 S H locs ls hf hP hS hW hl
  have hx := C.1
  have hb := C.2.1
  unfold s_X12_rounds_J240 at hf
  refine lv_lload hx hb dX12_rounds_240 (lv_at hl 6 rfl) ?_
  refine lv_lconst (v := 1) hx hb dX12_rounds_242 rfl ?_
  refine lv_iload hx hb dX12_rounds_243 (lv_at hl 4 rfl) ?_
  refine lv_iconst (v := 1) hx hb dX12_rounds_245 rfl ?_
  refine lv_iadd hx hb dX12_rounds_246 ?_
  refine lv_lshl hx hb dX12_rounds_247 rfl ?_
  refine W.lcmp hx hb dX12_rounds_248 ?_
  refine lv_if_ne (tgt := 263) hx hb dX12_rounds_249 (by decide) (fun c26 => ?_) (fun c26 => ?_)
  · have hf := if_f c26 hf
    exact b_X12_rounds_263 C v0 v1 v2 v7 v8 v12 v13 v17 h_v0 k_v0 S H locs _ hf hP hS hW (lv_sub hl [0, 1, 2, 3, 4, 5, 6, 7] rfl)
  · have hf := if_t c26 hf
    refine lv_lload hx hb dX12_rounds_252 (lv_at hl 6 rfl) ?_
    refine lv_ldc2 (v := 2) hx hb C.2.2.2.2.1 (C.2.2.2.2.2.1 _ qc_X12_321) dX12_rounds_254 ?_
    refine lv_ldiv hx hb dX12_rounds_257 (by decide) ?_
    obtain ⟨x34, ex34, hf⟩ := bnd_e hf
    refine nm_l ex34 ?_
    refine lv_lstore (lv' := [(13, .long x34), (0, .ref v0), (1, .int v1), (2, .int v2), (7, .int v7), (8, .int v8), (12, .int v12), (17, .int v17)]) hx hb dX12_rounds_258 hl (by decide) rfl (fun ls hl => ?_)
    obtain ⟨x35, ex35, hf⟩ := bnd_e hf
    refine lv_iinc (v := x35) (lv' := [(12, .int x35), (13, .long x34), (0, .ref v0), (1, .int v1), (2, .int v2), (7, .int v7), (8, .int v8), (17, .int v17)]) hx hb dX12_rounds_260 hl (k := 6) rfl ex35.symm (by decide) rfl (fun ls hl => ?_)
    exact b_X12_rounds_263 C v0 v1 v2 v7 v8 x35 x34 v17 h_v0 k_v0 S H locs _ hf hP hS hW (lv_sub hl [2, 3, 4, 5, 6, 0, 1, 7] rfl)
set_option maxRecDepth 100000 in
set_option maxHeartbeats 4000000 in
theorem b_X12_rounds_210 {p : Program} {l : Launch} {e : Env} {s : State} {m : MethodId} {args : Array Value} {below : List Frame} {meth : Method} {c : Code} {V : EV} {G : GS} {r : Int32} {S' : HS} {F : Nat} (C : CX p s m args meth c RX12 cX12_rounds 19 (some .int) V G) : ∀ (v0 : Nat) (v1 : Int32) (v2 : Int32) (v7 : Int32) (v8 : Int32) (v11 : Int32) (v12 : Int32) (v13 : Int64) (w0 : Int32) (h_v0 : v0 ∈ G.1) (k_v0 : G.2.1 v0 = 12) (S : HS) (H : Heap) (locs : List Loc) (ls : Array Slot), s_X12_rounds_J210 G.2.2 F v0 v1 v2 v7 v8 v11 v12 v13 w0 S = some (r, S') → HP V G S H → va_S (AG G s.heap.size) s.heap H locs → WT G S → lv_has ls 19 [(0, .ref v0), (1, .int v1), (2, .int v2), (7, .int v7), (8, .int v8), (11, .int v11), (12, .int v12), (13, .long v13)] → W p l e (RM 5 148) s m args below meth c H locs 0 0 (MQ below (QI V G S' r s.heap.size) args s 0 0 (AG G s.heap.size)) (F0 m 210 ls [.int w0]) := by
  intro v0 v1 v2 v7 v8 v11 v12 v13 w0 h_v0 k_v0 S H locs ls hf hP hS hW hl
  have hx := C.1
  have hb := C.2.1
  unfold s_X12_rounds_J210 at hf
  refine lv_istore (lv' := [(17, .int w0), (0, .ref v0), (1, .int v1), (2, .int v2), (7, .int v7), (8, .int v8), (11, .int v11), (12, .int v12), (13, .long v13)]) hx hb dX12_rounds_210 hl (by decide) rfl (fun ls hl => ?_)
  refine lv_iload hx hb dX12_rounds_212 (lv_at hl 6 rfl) ?_
  refine lv_if_eq (tgt := 240) hx hb dX12_rounds_214 (by decide) (fun c25 => ?_) (fun c25 => ?_)
  · have hf := if_t c25 hf
    exact b_X12_rounds_240 C v0 v1 v2 v7 v8 v12 v13 w0 h_v0 k_v0 S H locs _ hf hP hS hW (lv_sub hl [1, 2, 3, 4, 5, 7, 8, 0] rfl)
  · have hf := if_f c25 hf
    refine lv_aload_n hx hb dX12_rounds_217 rfl (lv_at hl 1 rfl) ?_
    refine lv_iload_n hx hb dX12_rounds_218 rfl (lv_at hl 2 rfl) ?_
    obtain ⟨r36, er36, hf⟩ := bd1_e hf
    refine x_aft_i (x_runV (As := [.int v1]) (rest := []) C hP hS (c_X12_kindOf (l := l) C.2.2.2.2.2.2.2.2.2.1 hW h_v0 k_v0 er36 H.size) h_v0 k_v0 (by decide) rfl rfl km_X12_kindOf ki_X12_kindOf qm_X12_249 ⟨(Nat.le_of_ble_eq_true rfl), (Nat.le_of_ble_eq_true rfl)⟩ rfl hl.1 rfl (Nat.le_of_ble_eq_true rfl) ⟨Nat.zero_le _, Nat.zero_le _⟩ dX12_rounds_219) hS (fun H locs hP hS hW => ?_)
    refine lv_iconst (v := 1) hx hb dX12_rounds_222 rfl ?_
    refine lv_icmp_ne (tgt := 240) hx hb dX12_rounds_223 (by decide) (fun c37 => ?_) (fun c37 => ?_)
    · have hf := if_f c37 hf
      exact b_X12_rounds_240 C v0 v1 v2 v7 v8 v12 v13 w0 h_v0 k_v0 S H locs _ hf hP hS hW (lv_sub hl [1, 2, 3, 4, 5, 7, 8, 0] rfl)
    · have hf := if_t c37 hf
      refine lv_aload_n hx hb dX12_rounds_226 rfl (lv_at hl 1 rfl) ?_
      refine lv_bipush (v := 12) hx hb dX12_rounds_227 kc_bipush_12 ?_
      obtain ⟨S38, eS38, hf⟩ := bnd_e hf
      refine pf_X12_315 C hP hS h_v0 k_v0 eS38 dX12_rounds_229 (fun H locs hP hS => ?_)
      have hW : WT G S38 := by rw [eS38]; exact hW
      refine lv_aload_n hx hb dX12_rounds_232 rfl (lv_at hl 1 rfl) ?_
      refine lv_iconst (v := (-1)) hx hb dX12_rounds_233 rfl ?_
      obtain ⟨S39, eS39, hf⟩ := bnd_e hf
      refine pf_X12_318 C hP hS h_v0 k_v0 eS39 dX12_rounds_234 (fun H locs hP hS => ?_)
      have hW : WT G S39 := by rw [eS39]; exact hW
      refine lv_iload hx hb dX12_rounds_237 (lv_at hl 0 rfl) ?_
      cases hf
      exact x_reti C hP hS hW dX12_rounds_239
set_option maxRecDepth 100000 in
set_option maxHeartbeats 4000000 in
theorem b_X12_rounds_194 {p : Program} {l : Launch} {e : Env} {s : State} {m : MethodId} {args : Array Value} {below : List Frame} {meth : Method} {c : Code} {V : EV} {G : GS} {r : Int32} {S' : HS} {F : Nat} (C : CX p s m args meth c RX12 cX12_rounds 19 (some .int) V G) : ∀ (v0 : Nat) (v1 : Int32) (v2 : Int32) (v7 : Int32) (v8 : Int32) (v11 : Int32) (v12 : Int32) (v13 : Int64) (w0 : Nat) (w1 : Int32) (h_v0 : v0 ∈ G.1) (k_v0 : G.2.1 v0 = 12) (h_w0 : w0 ∈ G.1) (k_w0 : G.2.1 w0 = 12) (S : HS) (H : Heap) (locs : List Loc) (ls : Array Slot), s_X12_rounds_J194 G.2.2 F v0 v1 v2 v7 v8 v11 v12 v13 w0 w1 S = some (r, S') → HP V G S H → va_S (AG G s.heap.size) s.heap H locs → WT G S → lv_has ls 19 [(0, .ref v0), (1, .int v1), (2, .int v2), (7, .int v7), (8, .int v8), (11, .int v11), (12, .int v12), (13, .long v13)] → W p l e (RM 5 148) s m args below meth c H locs 0 0 (MQ below (QI V G S' r s.heap.size) args s 0 0 (AG G s.heap.size)) (F0 m 194 ls [.int w1, .ref w0]) := by
  intro v0 v1 v2 v7 v8 v11 v12 v13 w0 w1 h_v0 k_v0 h_w0 k_w0 S H locs ls hf hP hS hW hl
  have hx := C.1
  have hb := C.2.1
  unfold s_X12_rounds_J194 at hf
  obtain ⟨S23, eS23, hf⟩ := bnd_e hf
  refine pf_X12_318 C hP hS h_w0 k_w0 eS23 dX12_rounds_194 (fun H locs hP hS => ?_)
  have hW : WT G S23 := by rw [eS23]; exact hW
  refine lv_iload_n hx hb dX12_rounds_197 rfl (lv_at hl 2 rfl) ?_
  refine lv_if_eq (tgt := 209) hx hb dX12_rounds_198 (by decide) (fun c24 => ?_) (fun c24 => ?_)
  · have hf := if_t c24 hf
    refine lv_iconst (v := 0) hx hb dX12_rounds_209 rfl ?_
    exact b_X12_rounds_210 C v0 v1 v2 v7 v8 v11 v12 v13 0 h_v0 k_v0 S23 H locs _ hf hP hS hW (lv_sub hl [0, 1, 2, 3, 4, 5, 6, 7] rfl)
  · have hf := if_f c24 hf
    refine lv_aload_n hx hb dX12_rounds_201 rfl (lv_at hl 0 rfl) ?_
    refine lv_iload_n hx hb dX12_rounds_202 rfl (lv_at hl 1 rfl) ?_
    obtain ⟨r40, er40, hf⟩ := bd1_e hf
    refine x_aft_i (x_runV (As := [.int v1]) (rest := []) C hP hS (c_X12_signOf (l := l) C.2.2.2.2.2.2.2.2.2.1 hW h_v0 k_v0 er40 H.size) h_v0 k_v0 (by decide) rfl rfl km_X12_signOf ki_X12_signOf qm_X12_267 ⟨(Nat.le_of_ble_eq_true rfl), (Nat.le_of_ble_eq_true rfl)⟩ rfl hl.1 rfl (Nat.le_of_ble_eq_true rfl) ⟨Nat.zero_le _, Nat.zero_le _⟩ dX12_rounds_203) hS (fun H locs hP hS hW => ?_)
    refine lv_goto (tgt := 210) hx hb dX12_rounds_206 (by decide) ?_
    exact b_X12_rounds_210 C v0 v1 v2 v7 v8 v11 v12 v13 r40 h_v0 k_v0 S23 H locs _ hf hP hS hW (lv_sub hl [0, 1, 2, 3, 4, 5, 6, 7] rfl)
set_option maxRecDepth 100000 in
set_option maxHeartbeats 4000000 in
theorem b_X12_rounds_171 {p : Program} {l : Launch} {e : Env} {s : State} {m : MethodId} {args : Array Value} {below : List Frame} {meth : Method} {c : Code} {V : EV} {G : GS} {r : Int32} {S' : HS} {F : Nat} (C : CX p s m args meth c RX12 cX12_rounds 19 (some .int) V G) : ∀ (v0 : Nat) (v1 : Int32) (v2 : Int32) (v7 : Int32) (v8 : Int32) (v11 : Int32) (v12 : Int32) (v13 : Int64) (v15 : Int32) (v16 : Int32) (w0 : Nat) (w1 : Int32) (h_v0 : v0 ∈ G.1) (k_v0 : G.2.1 v0 = 12) (h_w0 : w0 ∈ G.1) (k_w0 : G.2.1 w0 = 12) (S : HS) (H : Heap) (locs : List Loc) (ls : Array Slot), s_X12_rounds_J171 G.2.2 F v0 v1 v2 v7 v8 v11 v12 v13 v15 v16 w0 w1 S = some (r, S') → HP V G S H → va_S (AG G s.heap.size) s.heap H locs → WT G S → lv_has ls 19 [(0, .ref v0), (1, .int v1), (2, .int v2), (7, .int v7), (8, .int v8), (11, .int v11), (12, .int v12), (13, .long v13), (15, .int v15), (16, .int v16)] → W p l e (RM 5 148) s m args below meth c H locs 0 0 (MQ below (QI V G S' r s.heap.size) args s 0 0 (AG G s.heap.size)) (F0 m 171 ls [.int w1, .ref w0]) := by
  intro v0 v1 v2 v7 v8 v11 v12 v13 v15 v16 w0 w1 h_v0 k_v0 h_w0 k_w0 S H locs ls hf hP hS hW hl
  have hx := C.1
  have hb := C.2.1
  unfold s_X12_rounds_J171 at hf
  obtain ⟨S20, eS20, hf⟩ := bnd_e hf
  refine pf_X12_315 C hP hS h_w0 k_w0 eS20 dX12_rounds_171 (fun H locs hP hS => ?_)
  have hW : WT G S20 := by rw [eS20]; exact hW
  refine lv_aload_n hx hb dX12_rounds_174 rfl (lv_at hl 0 rfl) ?_
  refine lv_iload hx hb dX12_rounds_175 (lv_at hl 8 rfl) ?_
  refine lv_if_ne (tgt := 184) hx hb dX12_rounds_177 (by decide) (fun c21 => ?_) (fun c21 => ?_)
  · have hf := if_f c21 hf
    refine lv_iload hx hb dX12_rounds_184 (lv_at hl 9 rfl) ?_
    refine lv_if_eq (tgt := 193) hx hb dX12_rounds_186 (by decide) (fun c22 => ?_) (fun c22 => ?_)
    · have hf := if_t c22 hf
      refine lv_iconst (v := (-1)) hx hb dX12_rounds_193 rfl ?_
      exact b_X12_rounds_194 C v0 v1 v2 v7 v8 v11 v12 v13 v0 (-1) h_v0 k_v0 h_v0 k_v0 S20 H locs _ hf hP hS hW (lv_sub hl [0, 1, 2, 3, 4, 5, 6, 7] rfl)
    · have hf := if_f c22 hf
      refine lv_iconst (v := 1) hx hb dX12_rounds_189 rfl ?_
      refine lv_goto (tgt := 194) hx hb dX12_rounds_190 (by decide) ?_
      exact b_X12_rounds_194 C v0 v1 v2 v7 v8 v11 v12 v13 v0 1 h_v0 k_v0 h_v0 k_v0 S20 H locs _ hf hP hS hW (lv_sub hl [0, 1, 2, 3, 4, 5, 6, 7] rfl)
  · have hf := if_t c21 hf
    refine lv_iconst (v := 0) hx hb dX12_rounds_180 rfl ?_
    refine lv_goto (tgt := 194) hx hb dX12_rounds_181 (by decide) ?_
    exact b_X12_rounds_194 C v0 v1 v2 v7 v8 v11 v12 v13 v0 0 h_v0 k_v0 h_v0 k_v0 S20 H locs _ hf hP hS hW (lv_sub hl [0, 1, 2, 3, 4, 5, 6, 7] rfl)
set_option maxRecDepth 100000 in
set_option maxHeartbeats 4000000 in
theorem b_X12_rounds_141 {p : Program} {l : Launch} {e : Env} {s : State} {m : MethodId} {args : Array Value} {below : List Frame} {meth : Method} {c : Code} {V : EV} {G : GS} {r : Int32} {S' : HS} {F : Nat} (C : CX p s m args meth c RX12 cX12_rounds 19 (some .int) V G) : ∀ (v0 : Nat) (v1 : Int32) (v2 : Int32) (v7 : Int32) (v8 : Int32) (v11 : Int32) (v12 : Int32) (v15 : Int32) (v16 : Int32) (w0 : Int64) (w1 : Int64) (h_v0 : v0 ∈ G.1) (k_v0 : G.2.1 v0 = 12) (S : HS) (H : Heap) (locs : List Loc) (ls : Array Slot), s_X12_rounds_J141 G.2.2 F v0 v1 v2 v7 v8 v11 v12 v15 v16 w0 w1 S = some (r, S') → HP V G S H → va_S (AG G s.heap.size) s.heap H locs → WT G S → lv_has ls 19 [(0, .ref v0), (1, .int v1), (2, .int v2), (7, .int v7), (8, .int v8), (11, .int v11), (12, .int v12), (15, .int v15), (16, .int v16)] → W p l e (RM 5 148) s m args below meth c H locs 0 0 (MQ below (QI V G S' r s.heap.size) args s 0 0 (AG G s.heap.size)) (F0 m 141 ls [.long w1, .long w0]) := by
  intro v0 v1 v2 v7 v8 v11 v12 v15 v16 w0 w1 h_v0 k_v0 S H locs ls hf hP hS hW hl
  have hx := C.1
  have hb := C.2.1
  unfold s_X12_rounds_J141 at hf
  refine lv_ladd hx hb dX12_rounds_141 ?_
  obtain ⟨x17, ex17, hf⟩ := bnd_e hf
  refine nm_l ex17 ?_
  refine lv_lstore (lv' := [(13, .long x17), (0, .ref v0), (1, .int v1), (2, .int v2), (7, .int v7), (8, .int v8), (11, .int v11), (12, .int v12), (15, .int v15), (16, .int v16)]) hx hb dX12_rounds_142 hl (by decide) rfl (fun ls hl => ?_)
  refine lv_aload_n hx hb dX12_rounds_144 rfl (lv_at hl 1 rfl) ?_
  refine lv_iconst (v := 1) hx hb dX12_rounds_145 rfl ?_
  obtain ⟨S18, eS18, hf⟩ := bnd_e hf
  refine pf_X12_312 C hP hS h_v0 k_v0 isZ_1 eS18 dX12_rounds_146 (fun H locs hP hS => ?_)
  have hW : WT G S18 := by rw [eS18]; exact hW
  refine lv_aload_n hx hb dX12_rounds_149 rfl (lv_at hl 1 rfl) ?_
  refine lv_iload hx hb dX12_rounds_150 (lv_at hl 8 rfl) ?_
  refine lv_if_eq (tgt := 170) hx hb dX12_rounds_152 (by decide) (fun c19 => ?_) (fun c19 => ?_)
  · have hf := if_t c19 hf
    refine lv_iconst (v := 0) hx hb dX12_rounds_170 rfl ?_
    exact b_X12_rounds_171 C v0 v1 v2 v7 v8 v11 v12 x17 v15 v16 v0 0 h_v0 k_v0 h_v0 k_v0 S18 H locs _ hf hP hS hW (lv_sub hl [1, 2, 3, 4, 5, 6, 7, 0, 8, 9] rfl)
  · have hf := if_f c19 hf
    refine lv_iload hx hb dX12_rounds_155 (lv_at hl 6 rfl) ?_
    refine lv_if_eq (tgt := 165) hx hb dX12_rounds_157 (by decide) (fun c41 => ?_) (fun c41 => ?_)
    · have hf := if_t c41 hf
      refine lv_bipush (v := 8) hx hb dX12_rounds_165 kc_bipush_8 ?_
      refine lv_goto (tgt := 171) hx hb dX12_rounds_167 (by decide) ?_
      exact b_X12_rounds_171 C v0 v1 v2 v7 v8 v11 v12 x17 v15 v16 v0 8 h_v0 k_v0 h_v0 k_v0 S18 H locs _ hf hP hS hW (lv_sub hl [1, 2, 3, 4, 5, 6, 7, 0, 8, 9] rfl)
    · have hf := if_f c41 hf
      refine lv_bipush (v := 12) hx hb dX12_rounds_160 kc_bipush_12 ?_
      refine lv_goto (tgt := 171) hx hb dX12_rounds_162 (by decide) ?_
      exact b_X12_rounds_171 C v0 v1 v2 v7 v8 v11 v12 x17 v15 v16 v0 12 h_v0 k_v0 h_v0 k_v0 S18 H locs _ hf hP hS hW (lv_sub hl [1, 2, 3, 4, 5, 6, 7, 0, 8, 9] rfl)
set_option maxRecDepth 100000 in
set_option maxHeartbeats 4000000 in
theorem b_X12_rounds_124 {p : Program} {l : Launch} {e : Env} {s : State} {m : MethodId} {args : Array Value} {below : List Frame} {meth : Method} {c : Code} {V : EV} {G : GS} {r : Int32} {S' : HS} {F : Nat} (C : CX p s m args meth c RX12 cX12_rounds 19 (some .int) V G) : ∀ (v0 : Nat) (v1 : Int32) (v2 : Int32) (v7 : Int32) (v8 : Int32) (v11 : Int32) (v12 : Int32) (v13 : Int64) (v15 : Int32) (w0 : Nat) (w1 : Int32) (w2 : Int32) (w3 : Int32) (h_v0 : v0 ∈ G.1) (k_v0 : G.2.1 v0 = 12) (h_w0 : w0 ∈ G.1) (k_w0 : G.2.1 w0 = 12) (S : HS) (H : Heap) (locs : List Loc) (ls : Array Slot), s_X12_rounds_J124 G.2.2 F v0 v1 v2 v7 v8 v11 v12 v13 v15 w0 w1 w2 w3 S = some (r, S') → HP V G S H → va_S (AG G s.heap.size) s.heap H locs → WT G S → lv_has ls 19 [(0, .ref v0), (1, .int v1), (2, .int v2), (7, .int v7), (8, .int v8), (11, .int v11), (12, .int v12), (13, .long v13), (15, .int v15)] → W p l e (RM 5 148) s m args below meth c H locs 0 0 (MQ below (QI V G S' r s.heap.size) args s 0 0 (AG G s.heap.size)) (F0 m 124 ls [.int w3, .int w2, .int w1, .ref w0]) := by
  intro v0 v1 v2 v7 v8 v11 v12 v13 v15 w0 w1 w2 w3 h_v0 k_v0 h_w0 k_w0 S H locs ls hf hP hS hW hl
  have hx := C.1
  have hb := C.2.1
  unfold s_X12_rounds_J124 at hf
  obtain ⟨r13, S14, eS14, hf⟩ := bd2_e hf
  refine x_aft_z (x_runV (As := [.int w1, .int w2, .int w3]) (rest := []) C hP hS (c_X12_isUp (l := l) C.2.2.2.2.2.2.2.2.2.1 hW h_w0 k_w0 eS14 H.size) h_w0 k_w0 (by decide) rfl rfl km_X12_isUp ki_X12_isUp qm_X12_308 ⟨(Nat.le_of_ble_eq_true rfl), (Nat.le_of_ble_eq_true rfl)⟩ rfl hl.1 rfl (Nat.le_of_ble_eq_true rfl) ⟨Nat.zero_le _, Nat.zero_le _⟩ dX12_rounds_124) hS (fun H locs hP hS hW z15 => ?_)
  refine lv_istore (lv' := [(16, .int r13), (0, .ref v0), (1, .int v1), (2, .int v2), (7, .int v7), (8, .int v8), (11, .int v11), (12, .int v12), (13, .long v13), (15, .int v15)]) hx hb dX12_rounds_127 hl (by decide) rfl (fun ls hl => ?_)
  refine lv_lload hx hb dX12_rounds_129 (lv_at hl 8 rfl) ?_
  refine lv_iload hx hb dX12_rounds_131 (lv_at hl 0 rfl) ?_
  refine lv_if_eq (tgt := 140) hx hb dX12_rounds_133 (by decide) (fun c16 => ?_) (fun c16 => ?_)
  · have hf := if_t c16 hf
    refine lv_lconst (v := 0) hx hb dX12_rounds_140 rfl ?_
    exact b_X12_rounds_141 C v0 v1 v2 v7 v8 v11 v12 v15 r13 v13 0 h_v0 k_v0 S14 H locs _ hf hP hS hW (lv_sub hl [1, 2, 3, 4, 5, 6, 7, 9, 0] rfl)
  · have hf := if_f c16 hf
    refine lv_lconst (v := 1) hx hb dX12_rounds_136 rfl ?_
    refine lv_goto (tgt := 141) hx hb dX12_rounds_137 (by decide) ?_
    exact b_X12_rounds_141 C v0 v1 v2 v7 v8 v11 v12 v15 r13 v13 1 h_v0 k_v0 S14 H locs _ hf hP hS hW (lv_sub hl [1, 2, 3, 4, 5, 6, 7, 9, 0] rfl)
set_option maxRecDepth 100000 in
set_option maxHeartbeats 4000000 in
theorem b_X12_rounds_104 {p : Program} {l : Launch} {e : Env} {s : State} {m : MethodId} {args : Array Value} {below : List Frame} {meth : Method} {c : Code} {V : EV} {G : GS} {r : Int32} {S' : HS} {F : Nat} (C : CX p s m args meth c RX12 cX12_rounds 19 (some .int) V G) : ∀ (v0 : Nat) (v1 : Int32) (v2 : Int32) (v7 : Int32) (v8 : Int32) (v11 : Int32) (v12 : Int32) (v13 : Int64) (w0 : Int32) (h_v0 : v0 ∈ G.1) (k_v0 : G.2.1 v0 = 12) (S : HS) (H : Heap) (locs : List Loc) (ls : Array Slot), s_X12_rounds_J104 G.2.2 F v0 v1 v2 v7 v8 v11 v12 v13 w0 S = some (r, S') → HP V G S H → va_S (AG G s.heap.size) s.heap H locs → WT G S → lv_has ls 19 [(0, .ref v0), (1, .int v1), (2, .int v2), (7, .int v7), (8, .int v8), (11, .int v11), (12, .int v12), (13, .long v13)] → W p l e (RM 5 148) s m args below meth c H locs 0 0 (MQ below (QI V G S' r s.heap.size) args s 0 0 (AG G s.heap.size)) (F0 m 104 ls [.int w0]) := by
  intro v0 v1 v2 v7 v8 v11 v12 v13 w0 h_v0 k_v0 S H locs ls hf hP hS hW hl
  have hx := C.1
  have hb := C.2.1
  unfold s_X12_rounds_J104 at hf
  refine lv_istore (lv' := [(15, .int w0), (0, .ref v0), (1, .int v1), (2, .int v2), (7, .int v7), (8, .int v8), (11, .int v11), (12, .int v12), (13, .long v13)]) hx hb dX12_rounds_104 hl (by decide) rfl (fun ls hl => ?_)
  refine lv_aload_n hx hb dX12_rounds_106 rfl (lv_at hl 1 rfl) ?_
  refine lv_iload hx hb dX12_rounds_107 (lv_at hl 4 rfl) ?_
  refine lv_iload_n hx hb dX12_rounds_109 rfl (lv_at hl 3 rfl) ?_
  refine lv_lload hx hb dX12_rounds_110 (lv_at hl 8 rfl) ?_
  refine lv_lconst (v := 1) hx hb dX12_rounds_112 rfl ?_
  refine lv_land hx hb dX12_rounds_113 ?_
  refine lv_lconst (v := 1) hx hb dX12_rounds_114 rfl ?_
  refine W.lcmp hx hb dX12_rounds_115 ?_
  refine lv_if_ne (tgt := 123) hx hb dX12_rounds_116 (by decide) (fun c12 => ?_) (fun c12 => ?_)
  · have hf := if_f c12 hf
    refine lv_iconst (v := 0) hx hb dX12_rounds_123 rfl ?_
    exact b_X12_rounds_124 C v0 v1 v2 v7 v8 v11 v12 v13 w0 v0 v7 v2 0 h_v0 k_v0 h_v0 k_v0 S H locs _ hf hP hS hW (lv_sub hl [1, 2, 3, 4, 5, 6, 7, 8, 0] rfl)
  · have hf := if_t c12 hf
    refine lv_iconst (v := 1) hx hb dX12_rounds_119 rfl ?_
    refine lv_goto (tgt := 124) hx hb dX12_rounds_120 (by decide) ?_
    exact b_X12_rounds_124 C v0 v1 v2 v7 v8 v11 v12 v13 w0 v0 v7 v2 1 h_v0 k_v0 h_v0 k_v0 S H locs _ hf hP hS hW (lv_sub hl [1, 2, 3, 4, 5, 6, 7, 8, 0] rfl)
set_option maxRecDepth 100000 in
set_option maxHeartbeats 4000000 in
theorem b_X12_rounds_69 {p : Program} {l : Launch} {e : Env} {s : State} {m : MethodId} {args : Array Value} {below : List Frame} {meth : Method} {c : Code} {V : EV} {G : GS} {r : Int32} {S' : HS} {F : Nat} (C : CX p s m args meth c RX12 cX12_rounds 19 (some .int) V G) : ∀ (v0 : Nat) (v1 : Int32) (v2 : Int32) (v3 : Int64) (v5 : Int32) (v6 : Int32) (v7 : Int32) (v8 : Int32) (v11 : Int32) (w0 : Int32) (h_v0 : v0 ∈ G.1) (k_v0 : G.2.1 v0 = 12) (S : HS) (H : Heap) (locs : List Loc) (ls : Array Slot), s_X12_rounds_J69 G.2.2 F v0 v1 v2 v3 v5 v6 v7 v8 v11 w0 S = some (r, S') → HP V G S H → va_S (AG G s.heap.size) s.heap H locs → WT G S → lv_has ls 19 [(0, .ref v0), (1, .int v1), (2, .int v2), (3, .long v3), (5, .int v5), (6, .int v6), (7, .int v7), (8, .int v8), (11, .int v11)] → W p l e (RM 5 148) s m args below meth c H locs 0 0 (MQ below (QI V G S' r s.heap.size) args s 0 0 (AG G s.heap.size)) (F0 m 69 ls [.int w0]) := by
  intro v0 v1 v2 v3 v5 v6 v7 v8 v11 w0 h_v0 k_v0 S H locs ls hf hP hS hW hl
  have hx := C.1
  have hb := C.2.1
  unfold s_X12_rounds_J69 at hf
  refine lv_istore (lv' := [(12, .int w0), (0, .ref v0), (1, .int v1), (2, .int v2), (3, .long v3), (5, .int v5), (6, .int v6), (7, .int v7), (8, .int v8), (11, .int v11)]) hx hb dX12_rounds_69 hl (by decide) rfl (fun ls hl => ?_)
  refine lv_aload_n hx hb dX12_rounds_71 rfl (lv_at hl 1 rfl) ?_
  refine lv_lload_n hx hb dX12_rounds_72 rfl (lv_at hl 4 rfl) ?_
  refine lv_iload hx hb dX12_rounds_73 (lv_at hl 0 rfl) ?_
  refine lv_iload hx hb dX12_rounds_75 (lv_at hl 5 rfl) ?_
  refine lv_isub hx hb dX12_rounds_77 ?_
  refine lv_iload hx hb dX12_rounds_78 (lv_at hl 6 rfl) ?_
  obtain ⟨r9, S10, eS10, hf⟩ := bd2_e hf
  refine x_aft_l (x_runV (As := [.long v3, .int (w0 - v5), .int v6]) (rest := []) C hP hS (c_X12_cuts (l := l) C.2.2.2.2.2.2.2.2.2.1 hW h_v0 k_v0 eS10 H.size) h_v0 k_v0 (by decide) rfl rfl km_X12_cuts ki_X12_cuts qm_X12_304 ⟨(Nat.le_of_ble_eq_true rfl), (Nat.le_of_ble_eq_true rfl)⟩ rfl hl.1 rfl (Nat.le_of_ble_eq_true rfl) ⟨Nat.zero_le _, Nat.zero_le _⟩ dX12_rounds_80) hS (fun H locs hP hS hW => ?_)
  refine lv_lstore (lv' := [(13, .long r9), (12, .int w0), (0, .ref v0), (1, .int v1), (2, .int v2), (3, .long v3), (5, .int v5), (6, .int v6), (7, .int v7), (8, .int v8), (11, .int v11)]) hx hb dX12_rounds_83 hl (by decide) rfl (fun ls hl => ?_)
  refine lv_aload_n hx hb dX12_rounds_85 rfl (lv_at hl 2 rfl) ?_
  refine gf_X12_289 C hP h_v0 k_v0 dX12_rounds_86 ?_
  refine lv_if_ne (tgt := 99) hx hb dX12_rounds_89 (by decide) (fun c11 => ?_) (fun c11 => ?_)
  · have hf := if_f c11 hf
    refine lv_iconst (v := 1) hx hb dX12_rounds_99 rfl ?_
    refine lv_goto (tgt := 104) hx hb dX12_rounds_100 (by decide) ?_
    exact b_X12_rounds_104 C v0 v1 v2 v7 v8 v11 w0 r9 1 h_v0 k_v0 S10 H locs _ hf hP hS hW (lv_sub hl [2, 3, 4, 8, 9, 10, 1, 0] rfl)
  · have hf := if_t c11 hf
    refine lv_aload_n hx hb dX12_rounds_92 rfl (lv_at hl 2 rfl) ?_
    refine gf_X12_293 C hP h_v0 k_v0 dX12_rounds_93 ?_
    refine lv_if_eq (tgt := 103) hx hb dX12_rounds_96 (by decide) (fun c42 => ?_) (fun c42 => ?_)
    · have hf := if_t c42 hf
      refine lv_iconst (v := 0) hx hb dX12_rounds_103 rfl ?_
      exact b_X12_rounds_104 C v0 v1 v2 v7 v8 v11 w0 r9 0 h_v0 k_v0 S10 H locs _ hf hP hS hW (lv_sub hl [2, 3, 4, 8, 9, 10, 1, 0] rfl)
    · have hf := if_f c42 hf
      refine lv_iconst (v := 1) hx hb dX12_rounds_99 rfl ?_
      refine lv_goto (tgt := 104) hx hb dX12_rounds_100 (by decide) ?_
      exact b_X12_rounds_104 C v0 v1 v2 v7 v8 v11 w0 r9 1 h_v0 k_v0 S10 H locs _ hf hP hS hW (lv_sub hl [2, 3, 4, 8, 9, 10, 1, 0] rfl)
set_option maxRecDepth 100000 in
set_option maxHeartbeats 4000000 in
theorem b_X12_rounds_47 {p : Program} {l : Launch} {e : Env} {s : State} {m : MethodId} {args : Array Value} {below : List Frame} {meth : Method} {c : Code} {V : EV} {G : GS} {r : Int32} {S' : HS} {F : Nat} (C : CX p s m args meth c RX12 cX12_rounds 19 (some .int) V G) : ∀ (v0 : Nat) (v1 : Int32) (v2 : Int32) (v3 : Int64) (v5 : Int32) (v6 : Int32) (v7 : Int32) (v8 : Int32) (v9 : Int32) (v10 : Int32) (w0 : Int32) (h_v0 : v0 ∈ G.1) (k_v0 : G.2.1 v0 = 12) (S : HS) (H : Heap) (locs : List Loc) (ls : Array Slot), s_X12_rounds_J47 G.2.2 F v0 v1 v2 v3 v5 v6 v7 v8 v9 v10 w0 S = some (r, S') → HP V G S H → va_S (AG G s.heap.size) s.heap H locs → WT G S → lv_has ls 19 [(0, .ref v0), (1, .int v1), (2, .int v2), (3, .long v3), (5, .int v5), (6, .int v6), (7, .int v7), (8, .int v8), (9, .int v9), (10, .int v10)] → W p l e (RM 5 148) s m args below meth c H locs 0 0 (MQ below (QI V G S' r s.heap.size) args s 0 0 (AG G s.heap.size)) (F0 m 47 ls [.int w0]) := by
  intro v0 v1 v2 v3 v5 v6 v7 v8 v9 v10 w0 h_v0 k_v0 S H locs ls hf hP hS hW hl
  have hx := C.1
  have hb := C.2.1
  unfold s_X12_rounds_J47 at hf
  refine lv_istore (lv' := [(11, .int w0), (0, .ref v0), (1, .int v1), (2, .int v2), (3, .long v3), (5, .int v5), (6, .int v6), (7, .int v7), (8, .int v8), (9, .int v9), (10, .int v10)]) hx hb dX12_rounds_47 hl (by decide) rfl (fun ls hl => ?_)
  refine lv_iload hx hb dX12_rounds_49 (lv_at hl 10 rfl) ?_
  refine lv_iload hx hb dX12_rounds_51 (lv_at hl 8 rfl) ?_
  refine lv_isub hx hb dX12_rounds_53 ?_
  refine lv_iload hx hb dX12_rounds_54 (lv_at hl 9 rfl) ?_
  refine lv_icmp_le (tgt := 67) hx hb dX12_rounds_56 (by decide) (fun c8 => ?_) (fun c8 => ?_)
  · have hf := if_t c8 hf
    refine lv_iload hx hb dX12_rounds_67 (lv_at hl 9 rfl) ?_
    exact b_X12_rounds_69 C v0 v1 v2 v3 v5 v6 v7 v8 w0 v9 h_v0 k_v0 S H locs _ hf hP hS hW (lv_sub hl [1, 2, 3, 4, 5, 6, 7, 8, 0] rfl)
  · have hf := if_f c8 hf
    refine lv_iload hx hb dX12_rounds_59 (lv_at hl 10 rfl) ?_
    refine lv_iload hx hb dX12_rounds_61 (lv_at hl 8 rfl) ?_
    refine lv_isub hx hb dX12_rounds_63 ?_
    refine lv_goto (tgt := 69) hx hb dX12_rounds_64 (by decide) ?_
    exact b_X12_rounds_69 C v0 v1 v2 v3 v5 v6 v7 v8 w0 (v10 - v8) h_v0 k_v0 S H locs _ hf hP hS hW (lv_sub hl [1, 2, 3, 4, 5, 6, 7, 8, 0] rfl)
set_option maxRecDepth 100000 in
set_option maxHeartbeats 4000000 in
theorem c_X12_rounds {l : Launch} {V : EV} {G : GS} {S : HS} {F : Nat} {a : Nat} {p0 : Int32} {p1 : Int32} {p2 : Int64} {p3 : Int32} {p4 : Int32} {p5 : Int32} {r : Int32} {S' : HS} (hN : G.1.Nodup) (hW : WT G S) (h_a : a ∈ G.1) (k_a : G.2.1 a = 12) (hf : s_X12_rounds G.2.2 F a p0 p1 p2 p3 p4 p5 S = some (r, S')) : MetI l yX12_rounds cX12_rounds 19 .int 5 148 V G S [.ref a, .int p0, .int p1, .long p2, .int p3, .int p4, .int p5] r S' := by
  intro sz
  refine x_in RX12 rfl (by decide +kernel) hN (Nat.le_of_ble_eq_true rfl) (fun p e s m args below meth c ls hsz hargs hnm C hP hS hl => ?_)
  subst hsz
  have hx := C.1
  have hb := C.2.1
  have hl : lv_has ls 19 [(0, .ref a), (1, .int p0), (2, .int p1), (3, .long p2), (5, .int p3), (6, .int p4), (7, .int p5)] := hl
  unfold s_X12_rounds at hf
  refine lv_aload_n hx hb dX12_rounds_0 rfl (lv_at hl 0 rfl) ?_
  refine lv_iload_n hx hb dX12_rounds_1 rfl (lv_at hl 1 rfl) ?_
  obtain ⟨r1, er1, hf⟩ := bd1_e hf
  refine x_aft_i (x_runV (As := [.int p0]) (rest := []) C hP hS (c_X12_fracOf (l := l) C.2.2.2.2.2.2.2.2.2.1 hW h_a k_a er1 s.heap.size) h_a k_a (by decide) rfl rfl km_X12_fracOf ki_X12_fracOf qm_X12_255 ⟨(Nat.le_of_ble_eq_true rfl), (Nat.le_of_ble_eq_true rfl)⟩ rfl hl.1 rfl (Nat.le_of_ble_eq_true rfl) ⟨Nat.zero_le _, Nat.zero_le _⟩ dX12_rounds_2) hS (fun H locs hP hS hW => ?_)
  refine lv_istore (lv' := [(8, .int r1), (0, .ref a), (1, .int p0), (2, .int p1), (3, .long p2), (5, .int p3), (6, .int p4), (7, .int p5)]) hx hb dX12_rounds_5 hl (by decide) rfl (fun ls hl => ?_)
  refine lv_iconst (v := 1) hx hb dX12_rounds_7 rfl ?_
  refine lv_aload_n hx hb dX12_rounds_8 rfl (lv_at hl 1 rfl) ?_
  refine lv_iload_n hx hb dX12_rounds_9 rfl (lv_at hl 2 rfl) ?_
  obtain ⟨r2, er2, hf⟩ := bd1_e hf
  refine x_aft_i (x_runV (As := [.int p0]) (rest := [.int 1]) C hP hS (c_X12_biasOf (l := l) C.2.2.2.2.2.2.2.2.2.1 hW h_a k_a er2 H.size) h_a k_a (by decide) rfl rfl km_X12_biasOf ki_X12_biasOf qm_X12_264 ⟨(Nat.le_of_ble_eq_true rfl), (Nat.le_of_ble_eq_true rfl)⟩ rfl hl.1 rfl (Nat.le_of_ble_eq_true rfl) ⟨Nat.zero_le _, Nat.zero_le _⟩ dX12_rounds_10) hS (fun H locs hP hS hW => ?_)
  refine lv_isub hx hb dX12_rounds_13 ?_
  refine lv_iload hx hb dX12_rounds_14 (lv_at hl 0 rfl) ?_
  refine lv_isub hx hb dX12_rounds_16 ?_
  obtain ⟨x3, ex3, hf⟩ := bnd_e hf
  refine nm_i ex3 ?_
  refine lv_istore (lv' := [(9, .int x3), (8, .int r1), (0, .ref a), (1, .int p0), (2, .int p1), (3, .long p2), (5, .int p3), (6, .int p4), (7, .int p5)]) hx hb dX12_rounds_17 hl (by decide) rfl (fun ls hl => ?_)
  refine lv_lload_n hx hb dX12_rounds_19 rfl (lv_at hl 5 rfl) ?_
  obtain ⟨r4, er4, hf⟩ := bd1_e hf
  refine x_aft_i (x_runS (As := [.long p2]) (rest := []) C hP hS (c_X12_lengthOf (l := l) C.2.2.2.2.2.2.2.2.2.1 hW er4 H.size) km_X12_lengthOf ks_X12_lengthOf qm_X12_300 ⟨(Nat.le_of_ble_eq_true rfl), (Nat.le_of_ble_eq_true rfl)⟩ rfl hl.1 rfl (Nat.le_of_ble_eq_true rfl) ⟨Nat.zero_le _, Nat.zero_le _⟩ dX12_rounds_20) hS (fun H locs hP hS hW => ?_)
  refine lv_iconst (v := 1) hx hb dX12_rounds_23 rfl ?_
  refine lv_isub hx hb dX12_rounds_24 ?_
  refine lv_iload hx hb dX12_rounds_25 (lv_at hl 6 rfl) ?_
  refine lv_iadd hx hb dX12_rounds_27 ?_
  obtain ⟨x5, ex5, hf⟩ := bnd_e hf
  refine nm_i ex5 ?_
  refine lv_istore (lv' := [(10, .int x5), (9, .int x3), (8, .int r1), (0, .ref a), (1, .int p0), (2, .int p1), (3, .long p2), (5, .int p3), (6, .int p4), (7, .int p5)]) hx hb dX12_rounds_28 hl (by decide) rfl (fun ls hl => ?_)
  refine lv_iload hx hb dX12_rounds_30 (lv_at hl 0 rfl) ?_
  refine lv_iconst (v := 1) hx hb dX12_rounds_32 rfl ?_
  refine lv_aload_n hx hb dX12_rounds_33 rfl (lv_at hl 3 rfl) ?_
  refine lv_iload_n hx hb dX12_rounds_34 rfl (lv_at hl 4 rfl) ?_
  obtain ⟨r6, er6, hf⟩ := bd1_e hf
  refine x_aft_i (x_runV (As := [.int p0]) (rest := [.int 1, .int x5]) C hP hS (c_X12_biasOf (l := l) C.2.2.2.2.2.2.2.2.2.1 hW h_a k_a er6 H.size) h_a k_a (by decide) rfl rfl km_X12_biasOf ki_X12_biasOf qm_X12_264 ⟨(Nat.le_of_ble_eq_true rfl), (Nat.le_of_ble_eq_true rfl)⟩ rfl hl.1 rfl (Nat.le_of_ble_eq_true rfl) ⟨Nat.zero_le _, Nat.zero_le _⟩ dX12_rounds_35) hS (fun H locs hP hS hW => ?_)
  refine lv_isub hx hb dX12_rounds_38 ?_
  refine lv_icmp_ge (tgt := 46) hx hb dX12_rounds_39 (by decide) (fun c7 => ?_) (fun c7 => ?_)
  · have hf := if_t c7 hf
    refine lv_iconst (v := 0) hx hb dX12_rounds_46 rfl ?_
    exact b_X12_rounds_47 C a p0 p1 p2 p3 p4 p5 r1 x3 x5 0 h_a k_a S H locs _ hf hP hS hW (lv_sub hl [3, 4, 5, 6, 7, 8, 9, 2, 1, 0] rfl)
  · have hf := if_f c7 hf
    refine lv_iconst (v := 1) hx hb dX12_rounds_42 rfl ?_
    refine lv_goto (tgt := 47) hx hb dX12_rounds_43 (by decide) ?_
    exact b_X12_rounds_47 C a p0 p1 p2 p3 p4 p5 r1 x3 x5 1 h_a k_a S H locs _ hf hP hS hW (lv_sub hl [3, 4, 5, 6, 7, 8, 9, 2, 1, 0] rfl)
def s_X12_adds_J239 (N : Nat → Nat) (F : Nat) (rp : Nat → Int32 → Int32 → Int64 → Int32 → Int32 → Int64 → Int32 → Int32 → HS → Option (Int32 × HS)) (v5 : Int32) (v10 : Int32) (v13 : Int32) (v19 : Int32) (w0 : Nat) (w1 : Int32) (w2 : Int32) (w3 : Int64) (S : HS) : Option (Int32 × HS) :=
  bd2 (s_X12_rounds N F w0 w1 w2 w3 (v5 - v13) v19 v10 S) fun r17 S18 =>
  some (r17, S18)
def s_X12_adds_J226 (N : Nat → Nat) (F : Nat) (rp : Nat → Int32 → Int32 → Int64 → Int32 → Int32 → Int64 → Int32 → Int32 → HS → Option (Int32 × HS)) (v5 : Int32) (v10 : Int32) (v13 : Int32) (v19 : Int32) (v20 : Int64) (v22 : Int32) (w0 : Nat) (w1 : Int32) (w2 : Int32) (S : HS) : Option (Int32 × HS) :=
  if v22 = (0 : Int32) then
  s_X12_adds_J239 N F rp v5 v10 v13 v19 w0 w1 w2 v20 S
  else
  s_X12_adds_J239 N F rp v5 v10 v13 v19 w0 w1 w2 (-v20) S
def s_X12_adds_J211 (N : Nat → Nat) (F : Nat) (rp : Nat → Int32 → Int32 → Int64 → Int32 → Int32 → Int64 → Int32 → Int32 → HS → Option (Int32 × HS)) (v0 : Nat) (v1 : Int32) (v2 : Int32) (v5 : Int32) (v6 : Int32) (v10 : Int32) (v13 : Int32) (v19 : Int32) (v20 : Int64) (w0 : Int32) (S : HS) : Option (Int32 × HS) :=
  if w0 = (0 : Int32) then
  s_X12_adds_J226 N F rp v5 v10 v13 v19 v20 w0 v0 v1 v2 S
  else
  s_X12_adds_J226 N F rp v5 v10 v13 v19 v20 w0 v0 v1 v6 S
def s_X12_adds_J199 (N : Nat → Nat) (F : Nat) (rp : Nat → Int32 → Int32 → Int64 → Int32 → Int32 → Int64 → Int32 → Int32 → HS → Option (Int32 × HS)) (v0 : Nat) (v1 : Int32) (v2 : Int32) (v5 : Int32) (v6 : Int32) (v10 : Int32) (v13 : Int32) (v19 : Int32) (v20 : Int64) (S : HS) : Option (Int32 × HS) :=
  if (0 : Int32) ≤ (lg_cmp v20 (0 : Int64)) then
  s_X12_adds_J211 N F rp v0 v1 v2 v5 v6 v10 v13 v19 v20 0 S
  else
  s_X12_adds_J211 N F rp v0 v1 v2 v5 v6 v10 v13 v19 v20 1 S
def s_X12_adds_J194 (N : Nat → Nat) (F : Nat) (rp : Nat → Int32 → Int32 → Int64 → Int32 → Int32 → Int64 → Int32 → Int32 → HS → Option (Int32 × HS)) (w0 : Nat) (w1 : Int32) (S : HS) : Option (Int32 × HS) :=
  bn2 (s_X12_tells w0 w1 0 S) fun r21 S22 =>
  some (r21, S22)
def s_X12_adds_J163 (N : Nat → Nat) (F : Nat) (rp : Nat → Int32 → Int32 → Int64 → Int32 → Int32 → Int64 → Int32 → Int32 → HS → Option (Int32 × HS)) (v0 : Nat) (v1 : Int32) (v2 : Int32) (v5 : Int32) (v6 : Int32) (v10 : Int32) (v13 : Int32) (v19 : Int32) (w0 : Int64) (w1 : Int64) (S : HS) : Option (Int32 × HS) :=
  bnd (w0 - w1 : Int64) fun x12 =>
  if (lg_cmp x12 (0 : Int64)) = (0 : Int32) then
  if v19 = (0 : Int32) then
  if v10 = (2 : Int32) then
  bd1 (s_X12_signOf N v0 v1 S) fun r23 =>
  s_X12_adds_J194 N F rp v0 r23 S
  else
  s_X12_adds_J194 N F rp v0 0 S
  else
  s_X12_adds_J199 N F rp v0 v1 v2 v5 v6 v10 v13 v19 x12 S
  else
  s_X12_adds_J199 N F rp v0 v1 v2 v5 v6 v10 v13 v19 x12 S
def s_X12_adds_J119 (N : Nat → Nat) (F : Nat) (rp : Nat → Int32 → Int32 → Int64 → Int32 → Int32 → Int64 → Int32 → Int32 → HS → Option (Int32 × HS)) (v0 : Nat) (v1 : Int32) (v2 : Int32) (v5 : Int32) (v6 : Int32) (v10 : Int32) (v13 : Int32) (v14 : Int64) (v17 : Int64) (w0 : Int32) (S : HS) : Option (Int32 × HS) :=
  if v2 = v6 then
  bd2 (s_X12_rounds N F v0 v1 v2 (v14 + v17) (v5 - v13) w0 v10 S) fun r24 S25 =>
  some (r24, S25)
  else
  if w0 = (0 : Int32) then
  s_X12_adds_J163 N F rp v0 v1 v2 v5 v6 v10 v13 w0 (v14 - v17) 0 S
  else
  s_X12_adds_J163 N F rp v0 v1 v2 v5 v6 v10 v13 w0 (v14 - v17) 1 S
def s_X12_adds_J86 (N : Nat → Nat) (F : Nat) (rp : Nat → Int32 → Int32 → Int64 → Int32 → Int32 → Int64 → Int32 → Int32 → HS → Option (Int32 × HS)) (v0 : Nat) (v1 : Int32) (v2 : Int32) (v5 : Int32) (v6 : Int32) (v7 : Int64) (v10 : Int32) (v13 : Int32) (v14 : Int64) (v16 : Int32) (w0 : Int64) (S : HS) : Option (Int32 × HS) :=
  if v16 ≤ (0 : Int32) then
  s_X12_adds_J119 N F rp v0 v1 v2 v5 v6 v10 v13 v14 w0 0 S
  else
  if (62 : Int32) < v16 then
  s_X12_adds_J119 N F rp v0 v1 v2 v5 v6 v10 v13 v14 w0 1 S
  else
  if (lg_cmp (v7 &&& (((1 : Int64) <<< (v16.toInt64 &&& 63)) - 1)) (0 : Int64)) = (0 : Int32) then
  s_X12_adds_J119 N F rp v0 v1 v2 v5 v6 v10 v13 v14 w0 0 S
  else
  s_X12_adds_J119 N F rp v0 v1 v2 v5 v6 v10 v13 v14 w0 1 S
def s_X12_adds_J55 (N : Nat → Nat) (F : Nat) (rp : Nat → Int32 → Int32 → Int64 → Int32 → Int32 → Int64 → Int32 → Int32 → HS → Option (Int32 × HS)) (v0 : Nat) (v1 : Int32) (v2 : Int32) (v3 : Int64) (v5 : Int32) (v6 : Int32) (v7 : Int64) (v10 : Int32) (v11 : Int32) (w0 : Int32) (S : HS) : Option (Int32 × HS) :=
  bnd (v3 <<< (w0.toInt64 &&& 63) : Int64) fun x6 =>
  bnd (v11 - w0 : Int32) fun x7 =>
  if x7 ≤ (62 : Int32) then
  s_X12_adds_J86 N F rp v0 v1 v2 v5 v6 v7 v10 w0 x6 x7 (v7 >>> (x7.toInt64 &&& 63)) S
  else
  s_X12_adds_J86 N F rp v0 v1 v2 v5 v6 v7 v10 w0 x6 x7 0 S
def s_X12_adds_body (N : Nat → Nat) (F : Nat) (rp : Nat → Int32 → Int32 → Int64 → Int32 → Int32 → Int64 → Int32 → Int32 → HS → Option (Int32 × HS)) (a : Nat) (p0 : Int32) (p1 : Int32) (p2 : Int64) (p3 : Int32) (p4 : Int32) (p5 : Int64) (p6 : Int32) (p7 : Int32) (S : HS) : Option (Int32 × HS) :=
  if p6 ≤ p3 then
  bnd (p3 - p6 : Int32) fun x2 =>
  bd1 (s_X12_lengthOf F p2 S) fun r3 =>
  bnd (61 - r3 : Int32) fun x4 =>
  if x4 ≤ x2 then
  s_X12_adds_J55 N F rp a p0 p1 p2 p3 p4 p5 p7 x2 x4 S
  else
  s_X12_adds_J55 N F rp a p0 p1 p2 p3 p4 p5 p7 x2 x2 S
  else
  bd2 (rp a p0 p4 p5 p6 p1 p2 p3 p7 S) fun r28 S29 =>
  some (r28, S29)
def s_X12_adds (N : Nat → Nat) (F : Nat) : Nat → Nat → Int32 → Int32 → Int64 → Int32 → Int32 → Int64 → Int32 → Int32 → HS → Option (Int32 × HS)
  | 0, _, _, _, _, _, _, _, _, _, _ => none
  | n + 1, a, p0, p1, p2, p3, p4, p5, p6, p7, S => s_X12_adds_body N F (s_X12_adds N F n) a p0 p1 p2 p3 p4 p5 p6 p7 S
set_option maxRecDepth 100000 in
set_option maxHeartbeats 4000000 in
theorem b_X12_adds_239 {p : Program} {l : Launch} {e : Env} {s : State} {m : MethodId} {args : Array Value} {below : List Frame} {meth : Method} {c : Code} {V : EV} {G : GS} {r : Int32} {S' : HS} {F : Nat} {fr lo : Nat} {rp : Nat → Int32 → Int32 → Int64 → Int32 → Int32 → Int64 → Int32 → Int32 → HS → Option (Int32 × HS)} (hrp : ∀ (this : Nat) (q0 : Int32) (q1 : Int32) (q2 : Int64) (q3 : Int32) (q4 : Int32) (q5 : Int64) (q6 : Int32) (q7 : Int32), ∀ {S S1 : HS} {r : Int32}, WT G S → this ∈ G.1 → G.2.1 this = 12 → rp this q0 q1 q2 q3 q4 q5 q6 q7 S = some (r, S1) → MetI l yX12_adds cX12_adds 23 .int fr lo V G S [.ref this, .int q0, .int q1, .long q2, .int q3, .int q4, .long q5, .int q6, .int q7] r S1) (C : CX p s m args meth c RX12 cX12_adds 23 (some .int) V G) : ∀ (v5 : Int32) (v10 : Int32) (v13 : Int32) (v19 : Int32) (w0 : Nat) (w1 : Int32) (w2 : Int32) (w3 : Int64) (h_w0 : w0 ∈ G.1) (k_w0 : G.2.1 w0 = 12) (S : HS) (H : Heap) (locs : List Loc) (ls : Array Slot), s_X12_adds_J239 G.2.2 F rp v5 v10 v13 v19 w0 w1 w2 w3 S = some (r, S') → HP V G S H → va_S (AG G s.heap.size) s.heap H locs → WT G S → lv_has ls 23 [(5, .int v5), (10, .int v10), (13, .int v13), (19, .int v19)] → W p l e (RM (fr + 6) (lo + 194)) s m args below meth c H locs 0 0 (MQ below (QI V G S' r s.heap.size) args s 0 0 (AG G s.heap.size)) (F0 m 239 ls [.long w3, .int w2, .int w1, .ref w0]) := by
  intro v5 v10 v13 v19 w0 w1 w2 w3 h_w0 k_w0 S H locs ls hf hP hS hW hl
  have hx := C.1
  have hb := C.2.1
  unfold s_X12_adds_J239 at hf
  refine lv_iload hx hb dX12_adds_239 (lv_at hl 0 rfl) ?_
  refine lv_iload hx hb dX12_adds_241 (lv_at hl 2 rfl) ?_
  refine lv_isub hx hb dX12_adds_243 ?_
  refine lv_iload hx hb dX12_adds_244 (lv_at hl 3 rfl) ?_
  refine lv_iload hx hb dX12_adds_246 (lv_at hl 1 rfl) ?_
  obtain ⟨r17, S18, eS18, hf⟩ := bd2_e hf
  refine x_aft_i (x_runV (As := [.int w1, .int w2, .long w3, .int (v5 - v13), .int v19, .int v10]) (rest := []) C hP hS (c_X12_rounds (l := l) C.2.2.2.2.2.2.2.2.2.1 hW h_w0 k_w0 eS18 H.size) h_w0 k_w0 (by decide) rfl rfl km_X12_rounds ki_X12_rounds qm_X12_334 ⟨(by show _ ≤ _; simp only [RM]; omega), (by show _ ≤ _; simp only [RM]; omega)⟩ rfl hl.1 rfl (Nat.le_of_ble_eq_true rfl) ⟨Nat.zero_le _, Nat.zero_le _⟩ dX12_adds_248) hS (fun H locs hP hS hW => ?_)
  cases hf
  exact x_reti C hP hS hW dX12_adds_251
set_option maxRecDepth 100000 in
set_option maxHeartbeats 4000000 in
theorem b_X12_adds_226 {p : Program} {l : Launch} {e : Env} {s : State} {m : MethodId} {args : Array Value} {below : List Frame} {meth : Method} {c : Code} {V : EV} {G : GS} {r : Int32} {S' : HS} {F : Nat} {fr lo : Nat} {rp : Nat → Int32 → Int32 → Int64 → Int32 → Int32 → Int64 → Int32 → Int32 → HS → Option (Int32 × HS)} (hrp : ∀ (this : Nat) (q0 : Int32) (q1 : Int32) (q2 : Int64) (q3 : Int32) (q4 : Int32) (q5 : Int64) (q6 : Int32) (q7 : Int32), ∀ {S S1 : HS} {r : Int32}, WT G S → this ∈ G.1 → G.2.1 this = 12 → rp this q0 q1 q2 q3 q4 q5 q6 q7 S = some (r, S1) → MetI l yX12_adds cX12_adds 23 .int fr lo V G S [.ref this, .int q0, .int q1, .long q2, .int q3, .int q4, .long q5, .int q6, .int q7] r S1) (C : CX p s m args meth c RX12 cX12_adds 23 (some .int) V G) : ∀ (v5 : Int32) (v10 : Int32) (v13 : Int32) (v19 : Int32) (v20 : Int64) (v22 : Int32) (w0 : Nat) (w1 : Int32) (w2 : Int32) (h_w0 : w0 ∈ G.1) (k_w0 : G.2.1 w0 = 12) (S : HS) (H : Heap) (locs : List Loc) (ls : Array Slot), s_X12_adds_J226 G.2.2 F rp v5 v10 v13 v19 v20 v22 w0 w1 w2 S = some (r, S') → HP V G S H → va_S (AG G s.heap.size) s.heap H locs → WT G S → lv_has ls 23 [(5, .int v5), (10, .int v10), (13, .int v13), (19, .int v19), (20, .long v20), (22, .int v22)] → W p l e (RM (fr + 6) (lo + 194)) s m args below meth c H locs 0 0 (MQ below (QI V G S' r s.heap.size) args s 0 0 (AG G s.heap.size)) (F0 m 226 ls [.int w2, .int w1, .ref w0]) := by
  intro v5 v10 v13 v19 v20 v22 w0 w1 w2 h_w0 k_w0 S H locs ls hf hP hS hW hl
  have hx := C.1
  have hb := C.2.1
  unfold s_X12_adds_J226 at hf
  refine lv_iload hx hb dX12_adds_226 (lv_at hl 5 rfl) ?_
  refine lv_if_eq (tgt := 237) hx hb dX12_adds_228 (by decide) (fun c16 => ?_) (fun c16 => ?_)
  · have hf := if_t c16 hf
    refine lv_lload hx hb dX12_adds_237 (lv_at hl 4 rfl) ?_
    exact b_X12_adds_239 hrp C v5 v10 v13 v19 w0 w1 w2 v20 h_w0 k_w0 S H locs _ hf hP hS hW (lv_sub hl [0, 1, 2, 3] rfl)
  · have hf := if_f c16 hf
    refine lv_lload hx hb dX12_adds_231 (lv_at hl 4 rfl) ?_
    refine lv_lneg hx hb dX12_adds_233 ?_
    refine lv_goto (tgt := 239) hx hb dX12_adds_234 (by decide) ?_
    exact b_X12_adds_239 hrp C v5 v10 v13 v19 w0 w1 w2 (-v20) h_w0 k_w0 S H locs _ hf hP hS hW (lv_sub hl [0, 1, 2, 3] rfl)
set_option maxRecDepth 100000 in
set_option maxHeartbeats 4000000 in
theorem b_X12_adds_211 {p : Program} {l : Launch} {e : Env} {s : State} {m : MethodId} {args : Array Value} {below : List Frame} {meth : Method} {c : Code} {V : EV} {G : GS} {r : Int32} {S' : HS} {F : Nat} {fr lo : Nat} {rp : Nat → Int32 → Int32 → Int64 → Int32 → Int32 → Int64 → Int32 → Int32 → HS → Option (Int32 × HS)} (hrp : ∀ (this : Nat) (q0 : Int32) (q1 : Int32) (q2 : Int64) (q3 : Int32) (q4 : Int32) (q5 : Int64) (q6 : Int32) (q7 : Int32), ∀ {S S1 : HS} {r : Int32}, WT G S → this ∈ G.1 → G.2.1 this = 12 → rp this q0 q1 q2 q3 q4 q5 q6 q7 S = some (r, S1) → MetI l yX12_adds cX12_adds 23 .int fr lo V G S [.ref this, .int q0, .int q1, .long q2, .int q3, .int q4, .long q5, .int q6, .int q7] r S1) (C : CX p s m args meth c RX12 cX12_adds 23 (some .int) V G) : ∀ (v0 : Nat) (v1 : Int32) (v2 : Int32) (v5 : Int32) (v6 : Int32) (v10 : Int32) (v13 : Int32) (v19 : Int32) (v20 : Int64) (w0 : Int32) (h_v0 : v0 ∈ G.1) (k_v0 : G.2.1 v0 = 12) (S : HS) (H : Heap) (locs : List Loc) (ls : Array Slot), s_X12_adds_J211 G.2.2 F rp v0 v1 v2 v5 v6 v10 v13 v19 v20 w0 S = some (r, S') → HP V G S H → va_S (AG G s.heap.size) s.heap H locs → WT G S → lv_has ls 23 [(0, .ref v0), (1, .int v1), (2, .int v2), (5, .int v5), (6, .int v6), (10, .int v10), (13, .int v13), (19, .int v19), (20, .long v20)] → W p l e (RM (fr + 6) (lo + 194)) s m args below meth c H locs 0 0 (MQ below (QI V G S' r s.heap.size) args s 0 0 (AG G s.heap.size)) (F0 m 211 ls [.int w0]) := by
  intro v0 v1 v2 v5 v6 v10 v13 v19 v20 w0 h_v0 k_v0 S H locs ls hf hP hS hW hl
  have hx := C.1
  have hb := C.2.1
  unfold s_X12_adds_J211 at hf
  refine lv_istore (lv' := [(22, .int w0), (0, .ref v0), (1, .int v1), (2, .int v2), (5, .int v5), (6, .int v6), (10, .int v10), (13, .int v13), (19, .int v19), (20, .long v20)]) hx hb dX12_adds_211 hl (by decide) rfl (fun ls hl => ?_)
  refine lv_aload_n hx hb dX12_adds_213 rfl (lv_at hl 1 rfl) ?_
  refine lv_iload_n hx hb dX12_adds_214 rfl (lv_at hl 2 rfl) ?_
  refine lv_iload hx hb dX12_adds_215 (lv_at hl 0 rfl) ?_
  refine lv_if_eq (tgt := 225) hx hb dX12_adds_217 (by decide) (fun c15 => ?_) (fun c15 => ?_)
  · have hf := if_t c15 hf
    refine lv_iload_n hx hb dX12_adds_225 rfl (lv_at hl 3 rfl) ?_
    exact b_X12_adds_226 hrp C v5 v10 v13 v19 v20 w0 v0 v1 v2 h_v0 k_v0 S H locs _ hf hP hS hW (lv_sub hl [4, 6, 7, 8, 9, 0] rfl)
  · have hf := if_f c15 hf
    refine lv_iload hx hb dX12_adds_220 (lv_at hl 5 rfl) ?_
    refine lv_goto (tgt := 226) hx hb dX12_adds_222 (by decide) ?_
    exact b_X12_adds_226 hrp C v5 v10 v13 v19 v20 w0 v0 v1 v6 h_v0 k_v0 S H locs _ hf hP hS hW (lv_sub hl [4, 6, 7, 8, 9, 0] rfl)
set_option maxRecDepth 100000 in
set_option maxHeartbeats 4000000 in
theorem b_X12_adds_199 {p : Program} {l : Launch} {e : Env} {s : State} {m : MethodId} {args : Array Value} {below : List Frame} {meth : Method} {c : Code} {V : EV} {G : GS} {r : Int32} {S' : HS} {F : Nat} {fr lo : Nat} {rp : Nat → Int32 → Int32 → Int64 → Int32 → Int32 → Int64 → Int32 → Int32 → HS → Option (Int32 × HS)} (hrp : ∀ (this : Nat) (q0 : Int32) (q1 : Int32) (q2 : Int64) (q3 : Int32) (q4 : Int32) (q5 : Int64) (q6 : Int32) (q7 : Int32), ∀ {S S1 : HS} {r : Int32}, WT G S → this ∈ G.1 → G.2.1 this = 12 → rp this q0 q1 q2 q3 q4 q5 q6 q7 S = some (r, S1) → MetI l yX12_adds cX12_adds 23 .int fr lo V G S [.ref this, .int q0, .int q1, .long q2, .int q3, .int q4, .long q5, .int q6, .int q7] r S1) (C : CX p s m args meth c RX12 cX12_adds 23 (some .int) V G) : ∀ (v0 : Nat) (v1 : Int32) (v2 : Int32) (v5 : Int32) (v6 : Int32) (v10 : Int32) (v13 : Int32) (v19 : Int32) (v20 : Int64) (h_v0 : v0 ∈ G.1) (k_v0 : G.2.1 v0 = 12) (S : HS) (H : Heap) (locs : List Loc) (ls : Array Slot), s_X12_adds_J199 G.2.2 F rp v0 v1 v2 v5 v6 v10 v13 v19 v20 S = some (r, S') → HP V G S H → va_S (AG G s.heap.size) s.heap H locs → WT G S → lv_has ls 23 [(0, .ref v0), (1, .int v1), (2, .int v2), (5, .int v5), (6, .int v6), (10, .int v10), (13, .int v13), (19, .int v19), (20, .long v20)] → W p l e (RM (fr + 6) (lo + 194)) s m args below meth c H locs 0 0 (MQ below (QI V G S' r s.heap.size) args s 0 0 (AG G s.heap.size)) (F0 m 199 ls []) := by
  intro v0 v1 v2 v5 v6 v10 v13 v19 v20 h_v0 k_v0 S H locs ls hf hP hS hW hl
  have hx := C.1
  have hb := C.2.1
  unfold s_X12_adds_J199 at hf
  refine lv_lload hx hb dX12_adds_199 (lv_at hl 8 rfl) ?_
  refine lv_lconst (v := 0) hx hb dX12_adds_201 rfl ?_
  refine W.lcmp hx hb dX12_adds_202 ?_
  refine lv_if_ge (tgt := 210) hx hb dX12_adds_203 (by decide) (fun c14 => ?_) (fun c14 => ?_)
  · have hf := if_t c14 hf
    refine lv_iconst (v := 0) hx hb dX12_adds_210 rfl ?_
    exact b_X12_adds_211 hrp C v0 v1 v2 v5 v6 v10 v13 v19 v20 0 h_v0 k_v0 S H locs _ hf hP hS hW (lv_sub hl [0, 1, 2, 3, 4, 5, 6, 7, 8] rfl)
  · have hf := if_f c14 hf
    refine lv_iconst (v := 1) hx hb dX12_adds_206 rfl ?_
    refine lv_goto (tgt := 211) hx hb dX12_adds_207 (by decide) ?_
    exact b_X12_adds_211 hrp C v0 v1 v2 v5 v6 v10 v13 v19 v20 1 h_v0 k_v0 S H locs _ hf hP hS hW (lv_sub hl [0, 1, 2, 3, 4, 5, 6, 7, 8] rfl)
set_option maxRecDepth 100000 in
set_option maxHeartbeats 4000000 in
theorem b_X12_adds_194 {p : Program} {l : Launch} {e : Env} {s : State} {m : MethodId} {args : Array Value} {below : List Frame} {meth : Method} {c : Code} {V : EV} {G : GS} {r : Int32} {S' : HS} {F : Nat} {fr lo : Nat} {rp : Nat → Int32 → Int32 → Int64 → Int32 → Int32 → Int64 → Int32 → Int32 → HS → Option (Int32 × HS)} (hrp : ∀ (this : Nat) (q0 : Int32) (q1 : Int32) (q2 : Int64) (q3 : Int32) (q4 : Int32) (q5 : Int64) (q6 : Int32) (q7 : Int32), ∀ {S S1 : HS} {r : Int32}, WT G S → this ∈ G.1 → G.2.1 this = 12 → rp this q0 q1 q2 q3 q4 q5 q6 q7 S = some (r, S1) → MetI l yX12_adds cX12_adds 23 .int fr lo V G S [.ref this, .int q0, .int q1, .long q2, .int q3, .int q4, .long q5, .int q6, .int q7] r S1) (C : CX p s m args meth c RX12 cX12_adds 23 (some .int) V G) : ∀ (w0 : Nat) (w1 : Int32) (h_w0 : w0 ∈ G.1) (k_w0 : G.2.1 w0 = 12) (S : HS) (H : Heap) (locs : List Loc) (ls : Array Slot), s_X12_adds_J194 G.2.2 F rp w0 w1 S = some (r, S') → HP V G S H → va_S (AG G s.heap.size) s.heap H locs → WT G S → lv_has ls 23 [] → W p l e (RM (fr + 6) (lo + 194)) s m args below meth c H locs 0 0 (MQ below (QI V G S' r s.heap.size) args s 0 0 (AG G s.heap.size)) (F0 m 194 ls [.int w1, .ref w0]) := by
  intro w0 w1 h_w0 k_w0 S H locs ls hf hP hS hW hl
  have hx := C.1
  have hb := C.2.1
  unfold s_X12_adds_J194 at hf
  refine lv_iconst (v := 0) hx hb dX12_adds_194 rfl ?_
  obtain ⟨r21, S22, eS22, hf⟩ := bn2_e hf
  refine x_aft_i (x_runV (As := [.int w1, .int 0]) (rest := []) C hP hS (c_X12_tells (l := l) C.2.2.2.2.2.2.2.2.2.1 hW h_w0 k_w0 eS22 H.size) h_w0 k_w0 (by decide) rfl rfl km_X12_tells ki_X12_tells qm_X12_338 ⟨(by show _ ≤ _; simp only [RM]; omega), (by show _ ≤ _; simp only [RM]; omega)⟩ rfl hl.1 rfl (Nat.le_of_ble_eq_true rfl) ⟨Nat.zero_le _, Nat.zero_le _⟩ dX12_adds_195) hS (fun H locs hP hS hW => ?_)
  cases hf
  exact x_reti C hP hS hW dX12_adds_198
set_option maxRecDepth 100000 in
set_option maxHeartbeats 4000000 in
theorem b_X12_adds_163 {p : Program} {l : Launch} {e : Env} {s : State} {m : MethodId} {args : Array Value} {below : List Frame} {meth : Method} {c : Code} {V : EV} {G : GS} {r : Int32} {S' : HS} {F : Nat} {fr lo : Nat} {rp : Nat → Int32 → Int32 → Int64 → Int32 → Int32 → Int64 → Int32 → Int32 → HS → Option (Int32 × HS)} (hrp : ∀ (this : Nat) (q0 : Int32) (q1 : Int32) (q2 : Int64) (q3 : Int32) (q4 : Int32) (q5 : Int64) (q6 : Int32) (q7 : Int32), ∀ {S S1 : HS} {r : Int32}, WT G S → this ∈ G.1 → G.2.1 this = 12 → rp this q0 q1 q2 q3 q4 q5 q6 q7 S = some (r, S1) → MetI l yX12_adds cX12_adds 23 .int fr lo V G S [.ref this, .int q0, .int q1, .long q2, .int q3, .int q4, .long q5, .int q6, .int q7] r S1) (C : CX p s m args meth c RX12 cX12_adds 23 (some .int) V G) : ∀ (v0 : Nat) (v1 : Int32) (v2 : Int32) (v5 : Int32) (v6 : Int32) (v10 : Int32) (v13 : Int32) (v19 : Int32) (w0 : Int64) (w1 : Int64) (h_v0 : v0 ∈ G.1) (k_v0 : G.2.1 v0 = 12) (S : HS) (H : Heap) (locs : List Loc) (ls : Array Slot), s_X12_adds_J163 G.2.2 F rp v0 v1 v2 v5 v6 v10 v13 v19 w0 w1 S = some (r, S') → HP V G S H → va_S (AG G s.heap.size) s.heap H locs → WT G S → lv_has ls 23 [(0, .ref v0), (1, .int v1), (2, .int v2), (5, .int v5), (6, .int v6), (10, .int v10), (13, .int v13), (19, .int v19)] → W p l e (RM (fr + 6) (lo + 194)) s m args below meth c H locs 0 0 (MQ below (QI V G S' r s.heap.size) args s 0 0 (AG G s.heap.size)) (F0 m 163 ls [.long w1, .long w0]) := by
  intro v0 v1 v2 v5 v6 v10 v13 v19 w0 w1 h_v0 k_v0 S H locs ls hf hP hS hW hl
  have hx := C.1
  have hb := C.2.1
  unfold s_X12_adds_J163 at hf
  refine lv_lsub hx hb dX12_adds_163 ?_
  obtain ⟨x12, ex12, hf⟩ := bnd_e hf
  refine nm_l ex12 ?_
  refine lv_lstore (lv' := [(20, .long x12), (0, .ref v0), (1, .int v1), (2, .int v2), (5, .int v5), (6, .int v6), (10, .int v10), (13, .int v13), (19, .int v19)]) hx hb dX12_adds_164 hl (by decide) rfl (fun ls hl => ?_)
  refine lv_lload hx hb dX12_adds_166 (lv_at hl 0 rfl) ?_
  refine lv_lconst (v := 0) hx hb dX12_adds_168 rfl ?_
  refine W.lcmp hx hb dX12_adds_169 ?_
  refine lv_if_ne (tgt := 199) hx hb dX12_adds_170 (by decide) (fun c13 => ?_) (fun c13 => ?_)
  · have hf := if_f c13 hf
    exact b_X12_adds_199 hrp C v0 v1 v2 v5 v6 v10 v13 v19 x12 h_v0 k_v0 S H locs _ hf hP hS hW (lv_sub hl [1, 2, 3, 4, 5, 6, 7, 8, 0] rfl)
  · have hf := if_t c13 hf
    refine lv_iload hx hb dX12_adds_173 (lv_at hl 8 rfl) ?_
    refine lv_if_ne (tgt := 199) hx hb dX12_adds_175 (by decide) (fun c19 => ?_) (fun c19 => ?_)
    · have hf := if_f c19 hf
      exact b_X12_adds_199 hrp C v0 v1 v2 v5 v6 v10 v13 v19 x12 h_v0 k_v0 S H locs _ hf hP hS hW (lv_sub hl [1, 2, 3, 4, 5, 6, 7, 8, 0] rfl)
    · have hf := if_t c19 hf
      refine lv_aload_n hx hb dX12_adds_178 rfl (lv_at hl 1 rfl) ?_
      refine lv_iload hx hb dX12_adds_179 (lv_at hl 6 rfl) ?_
      refine lv_iconst (v := 2) hx hb dX12_adds_181 rfl ?_
      refine lv_icmp_ne (tgt := 193) hx hb dX12_adds_182 (by decide) (fun c20 => ?_) (fun c20 => ?_)
      · have hf := if_f c20 hf
        refine lv_iconst (v := 0) hx hb dX12_adds_193 rfl ?_
        exact b_X12_adds_194 hrp C v0 0 h_v0 k_v0 S H locs _ hf hP hS hW (lv_sub hl [] rfl)
      · have hf := if_t c20 hf
        refine lv_aload_n hx hb dX12_adds_185 rfl (lv_at hl 1 rfl) ?_
        refine lv_iload_n hx hb dX12_adds_186 rfl (lv_at hl 2 rfl) ?_
        obtain ⟨r23, er23, hf⟩ := bd1_e hf
        refine x_aft_i (x_runV (As := [.int v1]) (rest := [.ref v0]) C hP hS (c_X12_signOf (l := l) C.2.2.2.2.2.2.2.2.2.1 hW h_v0 k_v0 er23 H.size) h_v0 k_v0 (by decide) rfl rfl km_X12_signOf ki_X12_signOf qm_X12_267 ⟨(by show _ ≤ _; simp only [RM]; omega), (by show _ ≤ _; simp only [RM]; omega)⟩ rfl hl.1 rfl (Nat.le_of_ble_eq_true rfl) ⟨Nat.zero_le _, Nat.zero_le _⟩ dX12_adds_187) hS (fun H locs hP hS hW => ?_)
        refine lv_goto (tgt := 194) hx hb dX12_adds_190 (by decide) ?_
        exact b_X12_adds_194 hrp C v0 r23 h_v0 k_v0 S H locs _ hf hP hS hW (lv_sub hl [] rfl)
set_option maxRecDepth 100000 in
set_option maxHeartbeats 4000000 in
theorem b_X12_adds_119 {p : Program} {l : Launch} {e : Env} {s : State} {m : MethodId} {args : Array Value} {below : List Frame} {meth : Method} {c : Code} {V : EV} {G : GS} {r : Int32} {S' : HS} {F : Nat} {fr lo : Nat} {rp : Nat → Int32 → Int32 → Int64 → Int32 → Int32 → Int64 → Int32 → Int32 → HS → Option (Int32 × HS)} (hrp : ∀ (this : Nat) (q0 : Int32) (q1 : Int32) (q2 : Int64) (q3 : Int32) (q4 : Int32) (q5 : Int64) (q6 : Int32) (q7 : Int32), ∀ {S S1 : HS} {r : Int32}, WT G S → this ∈ G.1 → G.2.1 this = 12 → rp this q0 q1 q2 q3 q4 q5 q6 q7 S = some (r, S1) → MetI l yX12_adds cX12_adds 23 .int fr lo V G S [.ref this, .int q0, .int q1, .long q2, .int q3, .int q4, .long q5, .int q6, .int q7] r S1) (C : CX p s m args meth c RX12 cX12_adds 23 (some .int) V G) : ∀ (v0 : Nat) (v1 : Int32) (v2 : Int32) (v5 : Int32) (v6 : Int32) (v10 : Int32) (v13 : Int32) (v14 : Int64) (v17 : Int64) (w0 : Int32) (h_v0 : v0 ∈ G.1) (k_v0 : G.2.1 v0 = 12) (S : HS) (H : Heap) (locs : List Loc) (ls : Array Slot), s_X12_adds_J119 G.2.2 F rp v0 v1 v2 v5 v6 v10 v13 v14 v17 w0 S = some (r, S') → HP V G S H → va_S (AG G s.heap.size) s.heap H locs → WT G S → lv_has ls 23 [(0, .ref v0), (1, .int v1), (2, .int v2), (5, .int v5), (6, .int v6), (10, .int v10), (13, .int v13), (14, .long v14), (17, .long v17)] → W p l e (RM (fr + 6) (lo + 194)) s m args below meth c H locs 0 0 (MQ below (QI V G S' r s.heap.size) args s 0 0 (AG G s.heap.size)) (F0 m 119 ls [.int w0]) := by
  intro v0 v1 v2 v5 v6 v10 v13 v14 v17 w0 h_v0 k_v0 S H locs ls hf hP hS hW hl
  have hx := C.1
  have hb := C.2.1
  unfold s_X12_adds_J119 at hf
  refine lv_istore (lv' := [(19, .int w0), (0, .ref v0), (1, .int v1), (2, .int v2), (5, .int v5), (6, .int v6), (10, .int v10), (13, .int v13), (14, .long v14), (17, .long v17)]) hx hb dX12_adds_119 hl (by decide) rfl (fun ls hl => ?_)
  refine lv_iload_n hx hb dX12_adds_121 rfl (lv_at hl 3 rfl) ?_
  refine lv_iload hx hb dX12_adds_122 (lv_at hl 5 rfl) ?_
  refine lv_icmp_ne (tgt := 148) hx hb dX12_adds_124 (by decide) (fun c10 => ?_) (fun c10 => ?_)
  · have hf := if_f c10 hf
    refine lv_lload hx hb dX12_adds_148 (lv_at hl 8 rfl) ?_
    refine lv_lload hx hb dX12_adds_150 (lv_at hl 9 rfl) ?_
    refine lv_lsub hx hb dX12_adds_152 ?_
    refine lv_iload hx hb dX12_adds_153 (lv_at hl 0 rfl) ?_
    refine lv_if_eq (tgt := 162) hx hb dX12_adds_155 (by decide) (fun c11 => ?_) (fun c11 => ?_)
    · have hf := if_t c11 hf
      refine lv_lconst (v := 0) hx hb dX12_adds_162 rfl ?_
      exact b_X12_adds_163 hrp C v0 v1 v2 v5 v6 v10 v13 w0 (v14 - v17) 0 h_v0 k_v0 S H locs _ hf hP hS hW (lv_sub hl [1, 2, 3, 4, 5, 6, 7, 0] rfl)
    · have hf := if_f c11 hf
      refine lv_lconst (v := 1) hx hb dX12_adds_158 rfl ?_
      refine lv_goto (tgt := 163) hx hb dX12_adds_159 (by decide) ?_
      exact b_X12_adds_163 hrp C v0 v1 v2 v5 v6 v10 v13 w0 (v14 - v17) 1 h_v0 k_v0 S H locs _ hf hP hS hW (lv_sub hl [1, 2, 3, 4, 5, 6, 7, 0] rfl)
  · have hf := if_t c10 hf
    refine lv_aload_n hx hb dX12_adds_127 rfl (lv_at hl 1 rfl) ?_
    refine lv_iload_n hx hb dX12_adds_128 rfl (lv_at hl 2 rfl) ?_
    refine lv_iload_n hx hb dX12_adds_129 rfl (lv_at hl 3 rfl) ?_
    refine lv_lload hx hb dX12_adds_130 (lv_at hl 8 rfl) ?_
    refine lv_lload hx hb dX12_adds_132 (lv_at hl 9 rfl) ?_
    refine lv_ladd hx hb dX12_adds_134 ?_
    refine lv_iload hx hb dX12_adds_135 (lv_at hl 4 rfl) ?_
    refine lv_iload hx hb dX12_adds_137 (lv_at hl 7 rfl) ?_
    refine lv_isub hx hb dX12_adds_139 ?_
    refine lv_iload hx hb dX12_adds_140 (lv_at hl 0 rfl) ?_
    refine lv_iload hx hb dX12_adds_142 (lv_at hl 6 rfl) ?_
    obtain ⟨r24, S25, eS25, hf⟩ := bd2_e hf
    refine x_aft_i (x_runV (As := [.int v1, .int v2, .long (v14 + v17), .int (v5 - v13), .int w0, .int v10]) (rest := []) C hP hS (c_X12_rounds (l := l) C.2.2.2.2.2.2.2.2.2.1 hW h_v0 k_v0 eS25 H.size) h_v0 k_v0 (by decide) rfl rfl km_X12_rounds ki_X12_rounds qm_X12_334 ⟨(by show _ ≤ _; simp only [RM]; omega), (by show _ ≤ _; simp only [RM]; omega)⟩ rfl hl.1 rfl (Nat.le_of_ble_eq_true rfl) ⟨Nat.zero_le _, Nat.zero_le _⟩ dX12_adds_144) hS (fun H locs hP hS hW => ?_)
    cases hf
    exact x_reti C hP hS hW dX12_adds_147
set_option maxRecDepth 100000 in
set_option maxHeartbeats 4000000 in
theorem b_X12_adds_86 {p : Program} {l : Launch} {e : Env} {s : State} {m : MethodId} {args : Array Value} {below : List Frame} {meth : Method} {c : Code} {V : EV} {G : GS} {r : Int32} {S' : HS} {F : Nat} {fr lo : Nat} {rp : Nat → Int32 → Int32 → Int64 → Int32 → Int32 → Int64 → Int32 → Int32 → HS → Option (Int32 × HS)} (hrp : ∀ (this : Nat) (q0 : Int32) (q1 : Int32) (q2 : Int64) (q3 : Int32) (q4 : Int32) (q5 : Int64) (q6 : Int32) (q7 : Int32), ∀ {S S1 : HS} {r : Int32}, WT G S → this ∈ G.1 → G.2.1 this = 12 → rp this q0 q1 q2 q3 q4 q5 q6 q7 S = some (r, S1) → MetI l yX12_adds cX12_adds 23 .int fr lo V G S [.ref this, .int q0, .int q1, .long q2, .int q3, .int q4, .long q5, .int q6, .int q7] r S1) (C : CX p s m args meth c RX12 cX12_adds 23 (some .int) V G) : ∀ (v0 : Nat) (v1 : Int32) (v2 : Int32) (v5 : Int32) (v6 : Int32) (v7 : Int64) (v10 : Int32) (v13 : Int32) (v14 : Int64) (v16 : Int32) (w0 : Int64) (h_v0 : v0 ∈ G.1) (k_v0 : G.2.1 v0 = 12) (S : HS) (H : Heap) (locs : List Loc) (ls : Array Slot), s_X12_adds_J86 G.2.2 F rp v0 v1 v2 v5 v6 v7 v10 v13 v14 v16 w0 S = some (r, S') → HP V G S H → va_S (AG G s.heap.size) s.heap H locs → WT G S → lv_has ls 23 [(0, .ref v0), (1, .int v1), (2, .int v2), (5, .int v5), (6, .int v6), (7, .long v7), (10, .int v10), (13, .int v13), (14, .long v14), (16, .int v16)] → W p l e (RM (fr + 6) (lo + 194)) s m args below meth c H locs 0 0 (MQ below (QI V G S' r s.heap.size) args s 0 0 (AG G s.heap.size)) (F0 m 86 ls [.long w0]) := by
  intro v0 v1 v2 v5 v6 v7 v10 v13 v14 v16 w0 h_v0 k_v0 S H locs ls hf hP hS hW hl
  have hx := C.1
  have hb := C.2.1
  unfold s_X12_adds_J86 at hf
  refine lv_lstore (lv' := [(17, .long w0), (0, .ref v0), (1, .int v1), (2, .int v2), (5, .int v5), (6, .int v6), (7, .long v7), (10, .int v10), (13, .int v13), (14, .long v14), (16, .int v16)]) hx hb dX12_adds_86 hl (by decide) rfl (fun ls hl => ?_)
  refine lv_iload hx hb dX12_adds_88 (lv_at hl 10 rfl) ?_
  refine lv_if_le (tgt := 118) hx hb dX12_adds_90 (by decide) (fun c9 => ?_) (fun c9 => ?_)
  · have hf := if_t c9 hf
    refine lv_iconst (v := 0) hx hb dX12_adds_118 rfl ?_
    exact b_X12_adds_119 hrp C v0 v1 v2 v5 v6 v10 v13 v14 w0 0 h_v0 k_v0 S H locs _ hf hP hS hW (lv_sub hl [1, 2, 3, 4, 5, 7, 8, 9, 0] rfl)
  · have hf := if_f c9 hf
    refine lv_iload hx hb dX12_adds_93 (lv_at hl 10 rfl) ?_
    refine lv_bipush (v := 62) hx hb dX12_adds_95 kc_bipush_62 ?_
    refine lv_icmp_gt (tgt := 114) hx hb dX12_adds_97 (by decide) (fun c26 => ?_) (fun c26 => ?_)
    · have hf := if_t c26 hf
      refine lv_iconst (v := 1) hx hb dX12_adds_114 rfl ?_
      refine lv_goto (tgt := 119) hx hb dX12_adds_115 (by decide) ?_
      exact b_X12_adds_119 hrp C v0 v1 v2 v5 v6 v10 v13 v14 w0 1 h_v0 k_v0 S H locs _ hf hP hS hW (lv_sub hl [1, 2, 3, 4, 5, 7, 8, 9, 0] rfl)
    · have hf := if_f c26 hf
      refine lv_lload hx hb dX12_adds_100 (lv_at hl 6 rfl) ?_
      refine lv_lconst (v := 1) hx hb dX12_adds_102 rfl ?_
      refine lv_iload hx hb dX12_adds_103 (lv_at hl 10 rfl) ?_
      refine lv_lshl hx hb dX12_adds_105 rfl ?_
      refine lv_lconst (v := 1) hx hb dX12_adds_106 rfl ?_
      refine lv_lsub hx hb dX12_adds_107 ?_
      refine lv_land hx hb dX12_adds_108 ?_
      refine lv_lconst (v := 0) hx hb dX12_adds_109 rfl ?_
      refine W.lcmp hx hb dX12_adds_110 ?_
      refine lv_if_eq (tgt := 118) hx hb dX12_adds_111 (by decide) (fun c27 => ?_) (fun c27 => ?_)
      · have hf := if_t c27 hf
        refine lv_iconst (v := 0) hx hb dX12_adds_118 rfl ?_
        exact b_X12_adds_119 hrp C v0 v1 v2 v5 v6 v10 v13 v14 w0 0 h_v0 k_v0 S H locs _ hf hP hS hW (lv_sub hl [1, 2, 3, 4, 5, 7, 8, 9, 0] rfl)
      · have hf := if_f c27 hf
        refine lv_iconst (v := 1) hx hb dX12_adds_114 rfl ?_
        refine lv_goto (tgt := 119) hx hb dX12_adds_115 (by decide) ?_
        exact b_X12_adds_119 hrp C v0 v1 v2 v5 v6 v10 v13 v14 w0 1 h_v0 k_v0 S H locs _ hf hP hS hW (lv_sub hl [1, 2, 3, 4, 5, 7, 8, 9, 0] rfl)
set_option maxRecDepth 100000 in
set_option maxHeartbeats 4000000 in
theorem b_X12_adds_55 {p : Program} {l : Launch} {e : Env} {s : State} {m : MethodId} {args : Array Value} {below : List Frame} {meth : Method} {c : Code} {V : EV} {G : GS} {r : Int32} {S' : HS} {F : Nat} {fr lo : Nat} {rp : Nat → Int32 → Int32 → Int64 → Int32 → Int32 → Int64 → Int32 → Int32 → HS → Option (Int32 × HS)} (hrp : ∀ (this : Nat) (q0 : Int32) (q1 : Int32) (q2 : Int64) (q3 : Int32) (q4 : Int32) (q5 : Int64) (q6 : Int32) (q7 : Int32), ∀ {S S1 : HS} {r : Int32}, WT G S → this ∈ G.1 → G.2.1 this = 12 → rp this q0 q1 q2 q3 q4 q5 q6 q7 S = some (r, S1) → MetI l yX12_adds cX12_adds 23 .int fr lo V G S [.ref this, .int q0, .int q1, .long q2, .int q3, .int q4, .long q5, .int q6, .int q7] r S1) (C : CX p s m args meth c RX12 cX12_adds 23 (some .int) V G) : ∀ (v0 : Nat) (v1 : Int32) (v2 : Int32) (v3 : Int64) (v5 : Int32) (v6 : Int32) (v7 : Int64) (v10 : Int32) (v11 : Int32) (w0 : Int32) (h_v0 : v0 ∈ G.1) (k_v0 : G.2.1 v0 = 12) (S : HS) (H : Heap) (locs : List Loc) (ls : Array Slot), s_X12_adds_J55 G.2.2 F rp v0 v1 v2 v3 v5 v6 v7 v10 v11 w0 S = some (r, S') → HP V G S H → va_S (AG G s.heap.size) s.heap H locs → WT G S → lv_has ls 23 [(0, .ref v0), (1, .int v1), (2, .int v2), (3, .long v3), (5, .int v5), (6, .int v6), (7, .long v7), (10, .int v10), (11, .int v11)] → W p l e (RM (fr + 6) (lo + 194)) s m args below meth c H locs 0 0 (MQ below (QI V G S' r s.heap.size) args s 0 0 (AG G s.heap.size)) (F0 m 55 ls [.int w0]) := by
  intro v0 v1 v2 v3 v5 v6 v7 v10 v11 w0 h_v0 k_v0 S H locs ls hf hP hS hW hl
  have hx := C.1
  have hb := C.2.1
  unfold s_X12_adds_J55 at hf
  refine lv_istore (lv' := [(13, .int w0), (0, .ref v0), (1, .int v1), (2, .int v2), (3, .long v3), (5, .int v5), (6, .int v6), (7, .long v7), (10, .int v10), (11, .int v11)]) hx hb dX12_adds_55 hl (by decide) rfl (fun ls hl => ?_)
  refine lv_lload_n hx hb dX12_adds_57 rfl (lv_at hl 4 rfl) ?_
  refine lv_iload hx hb dX12_adds_58 (lv_at hl 0 rfl) ?_
  refine lv_lshl hx hb dX12_adds_60 rfl ?_
  obtain ⟨x6, ex6, hf⟩ := bnd_e hf
  refine nm_l ex6 ?_
  refine lv_lstore (lv' := [(14, .long x6), (13, .int w0), (0, .ref v0), (1, .int v1), (2, .int v2), (3, .long v3), (5, .int v5), (6, .int v6), (7, .long v7), (10, .int v10), (11, .int v11)]) hx hb dX12_adds_61 hl (by decide) rfl (fun ls hl => ?_)
  refine lv_iload hx hb dX12_adds_63 (lv_at hl 10 rfl) ?_
  refine lv_iload hx hb dX12_adds_65 (lv_at hl 1 rfl) ?_
  refine lv_isub hx hb dX12_adds_67 ?_
  obtain ⟨x7, ex7, hf⟩ := bnd_e hf
  refine nm_i ex7 ?_
  refine lv_istore (lv' := [(16, .int x7), (14, .long x6), (13, .int w0), (0, .ref v0), (1, .int v1), (2, .int v2), (3, .long v3), (5, .int v5), (6, .int v6), (7, .long v7), (10, .int v10), (11, .int v11)]) hx hb dX12_adds_68 hl (by decide) rfl (fun ls hl => ?_)
  refine lv_iload hx hb dX12_adds_70 (lv_at hl 0 rfl) ?_
  refine lv_bipush (v := 62) hx hb dX12_adds_72 kc_bipush_62 ?_
  refine lv_icmp_le (tgt := 81) hx hb dX12_adds_74 (by decide) (fun c8 => ?_) (fun c8 => ?_)
  · have hf := if_t c8 hf
    refine lv_lload hx hb dX12_adds_81 (lv_at hl 9 rfl) ?_
    refine lv_iload hx hb dX12_adds_83 (lv_at hl 0 rfl) ?_
    refine lv_lshr hx hb dX12_adds_85 rfl ?_
    exact b_X12_adds_86 hrp C v0 v1 v2 v5 v6 v7 v10 w0 x6 x7 (v7 >>> (x7.toInt64 &&& 63)) h_v0 k_v0 S H locs _ hf hP hS hW (lv_sub hl [3, 4, 5, 7, 8, 9, 10, 2, 1, 0] rfl)
  · have hf := if_f c8 hf
    refine lv_lconst (v := 0) hx hb dX12_adds_77 rfl ?_
    refine lv_goto (tgt := 86) hx hb dX12_adds_78 (by decide) ?_
    exact b_X12_adds_86 hrp C v0 v1 v2 v5 v6 v7 v10 w0 x6 x7 0 h_v0 k_v0 S H locs _ hf hP hS hW (lv_sub hl [3, 4, 5, 7, 8, 9, 10, 2, 1, 0] rfl)
set_option maxRecDepth 100000 in
set_option maxHeartbeats 4000000 in
theorem c_X12_adds_body {l : Launch} {V : EV} {G : GS} {S : HS} {F : Nat} {a : Nat} {p0 : Int32} {p1 : Int32} {p2 : Int64} {p3 : Int32} {p4 : Int32} {p5 : Int64} {p6 : Int32} {p7 : Int32} {r : Int32} {S' : HS} (hN : G.1.Nodup) (hW : WT G S) {fr lo : Nat} {rp : Nat → Int32 → Int32 → Int64 → Int32 → Int32 → Int64 → Int32 → Int32 → HS → Option (Int32 × HS)} (hrp : ∀ (this : Nat) (q0 : Int32) (q1 : Int32) (q2 : Int64) (q3 : Int32) (q4 : Int32) (q5 : Int64) (q6 : Int32) (q7 : Int32), ∀ {S S1 : HS} {r : Int32}, WT G S → this ∈ G.1 → G.2.1 this = 12 → rp this q0 q1 q2 q3 q4 q5 q6 q7 S = some (r, S1) → MetI l yX12_adds cX12_adds 23 .int fr lo V G S [.ref this, .int q0, .int q1, .long q2, .int q3, .int q4, .long q5, .int q6, .int q7] r S1) (h_a : a ∈ G.1) (k_a : G.2.1 a = 12) (hf : s_X12_adds_body G.2.2 F rp a p0 p1 p2 p3 p4 p5 p6 p7 S = some (r, S')) : MetI l yX12_adds cX12_adds 23 .int (fr + 6) (lo + 194) V G S [.ref a, .int p0, .int p1, .long p2, .int p3, .int p4, .long p5, .int p6, .int p7] r S' := by
  intro sz
  refine x_in RX12 rfl (by decide +kernel) hN (Nat.le_of_ble_eq_true rfl) (fun p e s m args below meth c ls hsz hargs hnm C hP hS hl => ?_)
  subst hsz
  have hx := C.1
  have hb := C.2.1
  have hl : lv_has ls 23 [(0, .ref a), (1, .int p0), (2, .int p1), (3, .long p2), (5, .int p3), (6, .int p4), (7, .long p5), (9, .int p6), (10, .int p7)] := hl
  unfold s_X12_adds_body at hf
  refine lv_iload hx hb dX12_adds_0 (lv_at hl 4 rfl) ?_
  refine lv_iload hx hb dX12_adds_2 (lv_at hl 7 rfl) ?_
  refine lv_icmp_ge (tgt := 25) hx hb dX12_adds_4 (by decide) (fun c1 => ?_) (fun c1 => ?_)
  · have hf := if_t c1 hf
    refine lv_iload hx hb dX12_adds_25 (lv_at hl 4 rfl) ?_
    refine lv_iload hx hb dX12_adds_27 (lv_at hl 7 rfl) ?_
    refine lv_isub hx hb dX12_adds_29 ?_
    obtain ⟨x2, ex2, hf⟩ := bnd_e hf
    refine nm_i ex2 ?_
    refine lv_istore (lv' := [(11, .int x2), (0, .ref a), (1, .int p0), (2, .int p1), (3, .long p2), (5, .int p3), (6, .int p4), (7, .long p5), (9, .int p6), (10, .int p7)]) hx hb dX12_adds_30 hl (by decide) rfl (fun ls hl => ?_)
    refine lv_bipush (v := 61) hx hb dX12_adds_32 kc_bipush_61 ?_
    refine lv_lload_n hx hb dX12_adds_34 rfl (lv_at hl 4 rfl) ?_
    obtain ⟨r3, er3, hf⟩ := bd1_e hf
    refine x_aft_i (x_runS (As := [.long p2]) (rest := [.int 61]) C hP hS (c_X12_lengthOf (l := l) C.2.2.2.2.2.2.2.2.2.1 hW er3 s.heap.size) km_X12_lengthOf ks_X12_lengthOf qm_X12_300 ⟨(by show _ ≤ _; simp only [RM]; omega), (by show _ ≤ _; simp only [RM]; omega)⟩ rfl hl.1 rfl (Nat.le_of_ble_eq_true rfl) ⟨Nat.zero_le _, Nat.zero_le _⟩ dX12_adds_35) hS (fun H locs hP hS hW => ?_)
    refine lv_isub hx hb dX12_adds_38 ?_
    obtain ⟨x4, ex4, hf⟩ := bnd_e hf
    refine nm_i ex4 ?_
    refine lv_istore (lv' := [(12, .int x4), (11, .int x2), (0, .ref a), (1, .int p0), (2, .int p1), (3, .long p2), (5, .int p3), (6, .int p4), (7, .long p5), (9, .int p6), (10, .int p7)]) hx hb dX12_adds_39 hl (by decide) rfl (fun ls hl => ?_)
    refine lv_iload hx hb dX12_adds_41 (lv_at hl 1 rfl) ?_
    refine lv_iload hx hb dX12_adds_43 (lv_at hl 0 rfl) ?_
    refine lv_icmp_ge (tgt := 53) hx hb dX12_adds_45 (by decide) (fun c5 => ?_) (fun c5 => ?_)
    · have hf := if_t c5 hf
      refine lv_iload hx hb dX12_adds_53 (lv_at hl 0 rfl) ?_
      exact b_X12_adds_55 hrp C a p0 p1 p2 p3 p4 p5 p7 x2 x4 h_a k_a S H locs _ hf hP hS hW (lv_sub hl [2, 3, 4, 5, 6, 7, 8, 10, 1] rfl)
    · have hf := if_f c5 hf
      refine lv_iload hx hb dX12_adds_48 (lv_at hl 1 rfl) ?_
      refine lv_goto (tgt := 55) hx hb dX12_adds_50 (by decide) ?_
      exact b_X12_adds_55 hrp C a p0 p1 p2 p3 p4 p5 p7 x2 x2 h_a k_a S H locs _ hf hP hS hW (lv_sub hl [2, 3, 4, 5, 6, 7, 8, 10, 1] rfl)
  · have hf := if_f c1 hf
    refine lv_aload_n hx hb dX12_adds_7 rfl (lv_at hl 0 rfl) ?_
    refine lv_iload_n hx hb dX12_adds_8 rfl (lv_at hl 1 rfl) ?_
    refine lv_iload hx hb dX12_adds_9 (lv_at hl 5 rfl) ?_
    refine lv_lload hx hb dX12_adds_11 (lv_at hl 6 rfl) ?_
    refine lv_iload hx hb dX12_adds_13 (lv_at hl 7 rfl) ?_
    refine lv_iload_n hx hb dX12_adds_15 rfl (lv_at hl 2 rfl) ?_
    refine lv_lload_n hx hb dX12_adds_16 rfl (lv_at hl 3 rfl) ?_
    refine lv_iload hx hb dX12_adds_17 (lv_at hl 4 rfl) ?_
    refine lv_iload hx hb dX12_adds_19 (lv_at hl 8 rfl) ?_
    obtain ⟨r28, S29, eS29, hf⟩ := bd2_e hf
    refine x_aft_i (x_runV (As := [.int p0, .int p4, .long p5, .int p6, .int p1, .long p2, .int p3, .int p7]) (rest := []) C hP hS (hrp a p0 p4 p5 p6 p1 p2 p3 p7 hW h_a k_a eS29 s.heap.size) h_a k_a (by decide) rfl rfl km_X12_adds ki_X12_adds qm_X12_330 ⟨(by show _ ≤ _; simp only [RM]; omega), (by show _ ≤ _; simp only [RM]; omega)⟩ rfl hl.1 rfl (Nat.le_of_ble_eq_true rfl) ⟨Nat.zero_le _, Nat.zero_le _⟩ dX12_adds_21) hS (fun H locs hP hS hW => ?_)
    cases hf
    exact x_reti C hP hS hW dX12_adds_24
set_option maxRecDepth 100000 in
set_option maxHeartbeats 4000000 in
theorem c_X12_adds_at {l : Launch} {V : EV} {G : GS} {F : Nat} (hN : G.1.Nodup) : ∀ n : Nat, ∀ (a : Nat) (p0 : Int32) (p1 : Int32) (p2 : Int64) (p3 : Int32) (p4 : Int32) (p5 : Int64) (p6 : Int32) (p7 : Int32), ∀ {S S1 : HS} {r : Int32}, WT G S → a ∈ G.1 → G.2.1 a = 12 → s_X12_adds G.2.2 F n a p0 p1 p2 p3 p4 p5 p6 p7 S = some (r, S1) → MetI l yX12_adds cX12_adds 23 .int (6 * n) (194 * n) V G S [.ref a, .int p0, .int p1, .long p2, .int p3, .int p4, .long p5, .int p6, .int p7] r S1 := by
  intro n
  induction n with
  | zero =>
    intro a p0 p1 p2 p3 p4 p5 p6 p7 S S1 r _ _ _ hf
    rw [s_X12_adds] at hf
    cases hf
  | succ n ih =>
    intro a p0 p1 p2 p3 p4 p5 p6 p7 S S1 r hW h_a k_a hf
    rw [s_X12_adds] at hf
    exact c_X12_adds_body hN hW ih h_a k_a hf
def s_X12_sums__J74 (N : Nat → Nat) (F : Nat) (v0 : Nat) (v1 : Int32) (S : HS) : Option (Int32 × HS) :=
  bd1 (s_X12_nanOf N v0 v1 S) fun r12 =>
  bn2 (s_X12_tells v0 r12 0 S) fun r13 S14 =>
  some (r13, S14)
def s_X12_sums__J192 (N : Nat → Nat) (F : Nat) (w0 : Nat) (w1 : Int32) (w2 : Int32) (S : HS) : Option (Int32 × HS) :=
  bn2 (s_X12_tells w0 (w1 + w2) 0 S) fun r24 S25 =>
  some (r24, S25)
def s_X12_sums__J183 (N : Nat → Nat) (F : Nat) (v0 : Nat) (v1 : Int32) (w0 : Nat) (w1 : Int32) (S : HS) : Option (Int32 × HS) :=
  bd1 (s_X12_signOf N v0 v1 S) fun r26 =>
  s_X12_sums__J192 N F w0 w1 r26 S
def s_X12_sums__J159 (N : Nat → Nat) (F : Nat) (v0 : Nat) (v1 : Int32) (v9 : Int32) (v10 : Int32) (v11 : Int32) (S : HS) : Option (Int32 × HS) :=
  bd1 (s_X12_infOf N v0 v1 S) fun r21 =>
  if v11 = (0 : Int32) then
  if v10 = (0 : Int32) then
  s_X12_sums__J192 N F v0 r21 0 S
  else
  s_X12_sums__J183 N F v0 v1 v0 r21 S
  else
  if v9 = (0 : Int32) then
  s_X12_sums__J192 N F v0 r21 0 S
  else
  s_X12_sums__J183 N F v0 v1 v0 r21 S
def s_X12_sums__J270 (N : Nat → Nat) (F : Nat) (v0 : Nat) (v1 : Int32) (v2 : Int32) (v3 : Int32) (v4 : Int32) (v5 : Int32) (v8 : Int32) (v9 : Int32) (v10 : Int32) (v12 : Int32) (S : HS) : Option (Int32 × HS) :=
  if v12 = (0 : Int32) then
  bd1 (s_X12_wholeOf N v0 v1 v2 S) fun r32 =>
  bd1 (s_X12_wholeOf N v0 v1 v3 S) fun r33 =>
  bnd (r32 * r33 : Int64) fun x34 =>
  bd1 (s_X12_placeOf N v0 v1 v2 S) fun r35 =>
  bd1 (s_X12_placeOf N v0 v1 v3 S) fun r36 =>
  bnd (r35 + r36 : Int32) fun x37 =>
  if v8 = (0 : Int32) then
  bd2 (s_X12_rounds N F v0 v1 v9 x34 x37 0 v5 S) fun r43 S44 =>
  some (r43, S44)
  else
  bd1 (s_X12_wholeOf N v0 v1 v4 S) fun r39 =>
  bd1 (s_X12_placeOf N v0 v1 v4 S) fun r40 =>
  bd2 (s_X12_adds N F 3 v0 v1 v9 x34 x37 v10 r39 r40 v5 S) fun r41 S42 =>
  some (r41, S42)
  else
  bd1 (s_X12_wholeOf N v0 v1 v4 S) fun r45 =>
  bd1 (s_X12_placeOf N v0 v1 v4 S) fun r46 =>
  bd2 (s_X12_rounds N F v0 v1 v10 r45 r46 0 v5 S) fun r47 S48 =>
  some (r47, S48)
def s_X12_sums__J265 (N : Nat → Nat) (F : Nat) (w0 : Nat) (w1 : Int32) (S : HS) : Option (Int32 × HS) :=
  bn2 (s_X12_tells w0 w1 0 S) fun r53 S54 =>
  some (r53, S54)
def s_X12_sums__J248 (N : Nat → Nat) (F : Nat) (v0 : Nat) (v1 : Int32) (w0 : Int32) (S : HS) : Option (Int32 × HS) :=
  if w0 = (0 : Int32) then
  s_X12_sums__J265 N F v0 0 S
  else
  bd1 (s_X12_signOf N v0 v1 S) fun r55 =>
  s_X12_sums__J265 N F v0 r55 S
def s_X12_sums__J213 (N : Nat → Nat) (F : Nat) (v0 : Nat) (v1 : Int32) (v2 : Int32) (v3 : Int32) (v4 : Int32) (v5 : Int32) (v8 : Int32) (v9 : Int32) (v10 : Int32) (w0 : Int32) (S : HS) : Option (Int32 × HS) :=
  if w0 = (0 : Int32) then
  s_X12_sums__J270 N F v0 v1 v2 v3 v4 v5 v8 v9 v10 w0 S
  else
  if v8 = (0 : Int32) then
  if v9 = v10 then
  s_X12_sums__J248 N F v0 v1 v9 S
  else
  if v5 = (2 : Int32) then
  s_X12_sums__J248 N F v0 v1 1 S
  else
  s_X12_sums__J248 N F v0 v1 0 S
  else
  s_X12_sums__J270 N F v0 v1 v2 v3 v4 v5 v8 v9 v10 w0 S
def s_X12_sums__J148 (N : Nat → Nat) (F : Nat) (v0 : Nat) (v1 : Int32) (v2 : Int32) (v3 : Int32) (v4 : Int32) (v5 : Int32) (v6 : Int32) (v7 : Int32) (v8 : Int32) (v9 : Int32) (v10 : Int32) (v11 : Int32) (S : HS) : Option (Int32 × HS) :=
  if v11 = (0 : Int32) then
  if v8 = (3 : Int32) then
  s_X12_sums__J159 N F v0 v1 v9 v10 v11 S
  else
  if v6 = (0 : Int32) then
  s_X12_sums__J213 N F v0 v1 v2 v3 v4 v5 v8 v9 v10 1 S
  else
  if v7 = (0 : Int32) then
  s_X12_sums__J213 N F v0 v1 v2 v3 v4 v5 v8 v9 v10 1 S
  else
  s_X12_sums__J213 N F v0 v1 v2 v3 v4 v5 v8 v9 v10 0 S
  else
  s_X12_sums__J159 N F v0 v1 v9 v10 v11 S
def s_X12_sums__J137 (N : Nat → Nat) (F : Nat) (v0 : Nat) (v1 : Int32) (S : HS) : Option (Int32 × HS) :=
  bd1 (s_X12_nanOf N v0 v1 S) fun r59 =>
  bn2 (s_X12_tells v0 r59 1 S) fun r60 S61 =>
  some (r60, S61)
def s_X12_sums__J119 (N : Nat → Nat) (F : Nat) (v0 : Nat) (v1 : Int32) (v2 : Int32) (v3 : Int32) (v4 : Int32) (v5 : Int32) (v6 : Int32) (v7 : Int32) (v8 : Int32) (v9 : Int32) (v10 : Int32) (v11 : Int32) (S : HS) : Option (Int32 × HS) :=
  if v11 = (0 : Int32) then
  s_X12_sums__J148 N F v0 v1 v2 v3 v4 v5 v6 v7 v8 v9 v10 v11 S
  else
  if v8 = (3 : Int32) then
  if v9 = v10 then
  s_X12_sums__J148 N F v0 v1 v2 v3 v4 v5 v6 v7 v8 v9 v10 v11 S
  else
  s_X12_sums__J137 N F v0 v1 S
  else
  s_X12_sums__J148 N F v0 v1 v2 v3 v4 v5 v6 v7 v8 v9 v10 v11 S
def s_X12_sums__J102 (N : Nat → Nat) (F : Nat) (v0 : Nat) (v1 : Int32) (v2 : Int32) (v3 : Int32) (v4 : Int32) (v5 : Int32) (v6 : Int32) (v7 : Int32) (v8 : Int32) (v9 : Int32) (v10 : Int32) (w0 : Int32) (S : HS) : Option (Int32 × HS) :=
  if w0 = (0 : Int32) then
  s_X12_sums__J119 N F v0 v1 v2 v3 v4 v5 v6 v7 v8 v9 v10 w0 S
  else
  if v6 = (0 : Int32) then
  s_X12_sums__J137 N F v0 v1 S
  else
  if v7 = (0 : Int32) then
  s_X12_sums__J137 N F v0 v1 S
  else
  s_X12_sums__J119 N F v0 v1 v2 v3 v4 v5 v6 v7 v8 v9 v10 w0 S
def s_X12_sums__J45 (N : Nat → Nat) (F : Nat) (v0 : Nat) (v1 : Int32) (v2 : Int32) (v3 : Int32) (v4 : Int32) (v5 : Int32) (v6 : Int32) (v7 : Int32) (v8 : Int32) (w0 : Int32) (S : HS) : Option (Int32 × HS) :=
  bd1 (s_X12_isMinus N v0 v1 v4 S) fun r9 =>
  if v6 = (4 : Int32) then
  s_X12_sums__J74 N F v0 v1 S
  else
  if v7 = (4 : Int32) then
  s_X12_sums__J74 N F v0 v1 S
  else
  if v8 = (4 : Int32) then
  s_X12_sums__J74 N F v0 v1 S
  else
  if v6 = (3 : Int32) then
  s_X12_sums__J102 N F v0 v1 v2 v3 v4 v5 v6 v7 v8 w0 r9 1 S
  else
  if v7 = (3 : Int32) then
  s_X12_sums__J102 N F v0 v1 v2 v3 v4 v5 v6 v7 v8 w0 r9 1 S
  else
  s_X12_sums__J102 N F v0 v1 v2 v3 v4 v5 v6 v7 v8 w0 r9 0 S
def s_X12_sums_ (N : Nat → Nat) (F : Nat) (a : Nat) (p0 : Int32) (p1 : Int32) (p2 : Int32) (p3 : Int32) (p4 : Int32) (S : HS) : Option (Int32 × HS) :=
  bd1 (s_X12_sumClass N a p0 p1 S) fun r1 =>
  bd1 (s_X12_sumClass N a p0 p2 S) fun r2 =>
  bd1 (s_X12_sumClass N a p0 p3 S) fun r3 =>
  bd1 (s_X12_isMinus N a p0 p1 S) fun r4 =>
  bd1 (s_X12_isMinus N a p0 p2 S) fun r6 =>
  if r4 = r6 then
  s_X12_sums__J45 N F a p0 p1 p2 p3 p4 r1 r2 r3 0 S
  else
  s_X12_sums__J45 N F a p0 p1 p2 p3 p4 r1 r2 r3 1 S
set_option maxRecDepth 100000 in
set_option maxHeartbeats 4000000 in
theorem b_X12_sums__74 {p : Program} {l : Launch} {e : Env} {s : State} {m : MethodId} {args : Array Value} {below : List Frame} {meth : Method} {c : Code} {V : EV} {G : GS} {r : Int32} {S' : HS} {F : Nat} (C : CX p s m args meth c RX12 cX12_sums_ 16 (some .int) V G) : ∀ (v0 : Nat) (v1 : Int32) (h_v0 : v0 ∈ G.1) (k_v0 : G.2.1 v0 = 12) (S : HS) (H : Heap) (locs : List Loc) (ls : Array Slot), s_X12_sums__J74 G.2.2 F v0 v1 S = some (r, S') → HP V G S H → va_S (AG G s.heap.size) s.heap H locs → WT G S → lv_has ls 16 [(0, .ref v0), (1, .int v1)] → W p l e (RM 19 632) s m args below meth c H locs 0 0 (MQ below (QI V G S' r s.heap.size) args s 0 0 (AG G s.heap.size)) (F0 m 74 ls []) := by
  intro v0 v1 h_v0 k_v0 S H locs ls hf hP hS hW hl
  have hx := C.1
  have hb := C.2.1
  unfold s_X12_sums__J74 at hf
  refine lv_aload_n hx hb dX12_sums__74 rfl (lv_at hl 0 rfl) ?_
  refine lv_aload_n hx hb dX12_sums__75 rfl (lv_at hl 0 rfl) ?_
  refine lv_iload_n hx hb dX12_sums__76 rfl (lv_at hl 1 rfl) ?_
  obtain ⟨r12, er12, hf⟩ := bd1_e hf
  refine x_aft_i (x_runV (As := [.int v1]) (rest := [.ref v0]) C hP hS (c_X12_nanOf (l := l) C.2.2.2.2.2.2.2.2.2.1 hW h_v0 k_v0 er12 H.size) h_v0 k_v0 (by decide) rfl rfl km_X12_nanOf ki_X12_nanOf qm_X12_344 ⟨(Nat.le_of_ble_eq_true rfl), (Nat.le_of_ble_eq_true rfl)⟩ rfl hl.1 rfl (Nat.le_of_ble_eq_true rfl) ⟨Nat.zero_le _, Nat.zero_le _⟩ dX12_sums__77) hS (fun H locs hP hS hW => ?_)
  refine lv_iconst (v := 0) hx hb dX12_sums__80 rfl ?_
  obtain ⟨r13, S14, eS14, hf⟩ := bn2_e hf
  refine x_aft_i (x_runV (As := [.int r12, .int 0]) (rest := []) C hP hS (c_X12_tells (l := l) C.2.2.2.2.2.2.2.2.2.1 hW h_v0 k_v0 eS14 H.size) h_v0 k_v0 (by decide) rfl rfl km_X12_tells ki_X12_tells qm_X12_338 ⟨(Nat.le_of_ble_eq_true rfl), (Nat.le_of_ble_eq_true rfl)⟩ rfl hl.1 rfl (Nat.le_of_ble_eq_true rfl) ⟨Nat.zero_le _, Nat.zero_le _⟩ dX12_sums__81) hS (fun H locs hP hS hW => ?_)
  cases hf
  exact x_reti C hP hS hW dX12_sums__84
set_option maxRecDepth 100000 in
set_option maxHeartbeats 4000000 in
theorem b_X12_sums__192 {p : Program} {l : Launch} {e : Env} {s : State} {m : MethodId} {args : Array Value} {below : List Frame} {meth : Method} {c : Code} {V : EV} {G : GS} {r : Int32} {S' : HS} {F : Nat} (C : CX p s m args meth c RX12 cX12_sums_ 16 (some .int) V G) : ∀ (w0 : Nat) (w1 : Int32) (w2 : Int32) (h_w0 : w0 ∈ G.1) (k_w0 : G.2.1 w0 = 12) (S : HS) (H : Heap) (locs : List Loc) (ls : Array Slot), s_X12_sums__J192 G.2.2 F w0 w1 w2 S = some (r, S') → HP V G S H → va_S (AG G s.heap.size) s.heap H locs → WT G S → lv_has ls 16 [] → W p l e (RM 19 632) s m args below meth c H locs 0 0 (MQ below (QI V G S' r s.heap.size) args s 0 0 (AG G s.heap.size)) (F0 m 192 ls [.int w2, .int w1, .ref w0]) := by
  intro w0 w1 w2 h_w0 k_w0 S H locs ls hf hP hS hW hl
  have hx := C.1
  have hb := C.2.1
  unfold s_X12_sums__J192 at hf
  refine lv_iadd hx hb dX12_sums__192 ?_
  refine lv_iconst (v := 0) hx hb dX12_sums__193 rfl ?_
  obtain ⟨r24, S25, eS25, hf⟩ := bn2_e hf
  refine x_aft_i (x_runV (As := [.int (w1 + w2), .int 0]) (rest := []) C hP hS (c_X12_tells (l := l) C.2.2.2.2.2.2.2.2.2.1 hW h_w0 k_w0 eS25 H.size) h_w0 k_w0 (by decide) rfl rfl km_X12_tells ki_X12_tells qm_X12_338 ⟨(Nat.le_of_ble_eq_true rfl), (Nat.le_of_ble_eq_true rfl)⟩ rfl hl.1 rfl (Nat.le_of_ble_eq_true rfl) ⟨Nat.zero_le _, Nat.zero_le _⟩ dX12_sums__194) hS (fun H locs hP hS hW => ?_)
  cases hf
  exact x_reti C hP hS hW dX12_sums__197
set_option maxRecDepth 100000 in
set_option maxHeartbeats 4000000 in
theorem b_X12_sums__183 {p : Program} {l : Launch} {e : Env} {s : State} {m : MethodId} {args : Array Value} {below : List Frame} {meth : Method} {c : Code} {V : EV} {G : GS} {r : Int32} {S' : HS} {F : Nat} (C : CX p s m args meth c RX12 cX12_sums_ 16 (some .int) V G) : ∀ (v0 : Nat) (v1 : Int32) (w0 : Nat) (w1 : Int32) (h_v0 : v0 ∈ G.1) (k_v0 : G.2.1 v0 = 12) (h_w0 : w0 ∈ G.1) (k_w0 : G.2.1 w0 = 12) (S : HS) (H : Heap) (locs : List Loc) (ls : Array Slot), s_X12_sums__J183 G.2.2 F v0 v1 w0 w1 S = some (r, S') → HP V G S H → va_S (AG G s.heap.size) s.heap H locs → WT G S → lv_has ls 16 [(0, .ref v0), (1, .int v1)] → W p l e (RM 19 632) s m args below meth c H locs 0 0 (MQ below (QI V G S' r s.heap.size) args s 0 0 (AG G s.heap.size)) (F0 m 183 ls [.int w1, .ref w0]) := by
  intro v0 v1 w0 w1 h_v0 k_v0 h_w0 k_w0 S H locs ls hf hP hS hW hl
  have hx := C.1
  have hb := C.2.1
  unfold s_X12_sums__J183 at hf
  refine lv_aload_n hx hb dX12_sums__183 rfl (lv_at hl 0 rfl) ?_
  refine lv_iload_n hx hb dX12_sums__184 rfl (lv_at hl 1 rfl) ?_
  obtain ⟨r26, er26, hf⟩ := bd1_e hf
  refine x_aft_i (x_runV (As := [.int v1]) (rest := [.int w1, .ref w0]) C hP hS (c_X12_signOf (l := l) C.2.2.2.2.2.2.2.2.2.1 hW h_v0 k_v0 er26 H.size) h_v0 k_v0 (by decide) rfl rfl km_X12_signOf ki_X12_signOf qm_X12_267 ⟨(Nat.le_of_ble_eq_true rfl), (Nat.le_of_ble_eq_true rfl)⟩ rfl hl.1 rfl (Nat.le_of_ble_eq_true rfl) ⟨Nat.zero_le _, Nat.zero_le _⟩ dX12_sums__185) hS (fun H locs hP hS hW => ?_)
  refine lv_goto (tgt := 192) hx hb dX12_sums__188 (by decide) ?_
  exact b_X12_sums__192 C w0 w1 r26 h_w0 k_w0 S H locs _ hf hP hS hW (lv_sub hl [] rfl)
set_option maxRecDepth 100000 in
set_option maxHeartbeats 4000000 in
theorem b_X12_sums__159 {p : Program} {l : Launch} {e : Env} {s : State} {m : MethodId} {args : Array Value} {below : List Frame} {meth : Method} {c : Code} {V : EV} {G : GS} {r : Int32} {S' : HS} {F : Nat} (C : CX p s m args meth c RX12 cX12_sums_ 16 (some .int) V G) : ∀ (v0 : Nat) (v1 : Int32) (v9 : Int32) (v10 : Int32) (v11 : Int32) (h_v0 : v0 ∈ G.1) (k_v0 : G.2.1 v0 = 12) (S : HS) (H : Heap) (locs : List Loc) (ls : Array Slot), s_X12_sums__J159 G.2.2 F v0 v1 v9 v10 v11 S = some (r, S') → HP V G S H → va_S (AG G s.heap.size) s.heap H locs → WT G S → lv_has ls 16 [(0, .ref v0), (1, .int v1), (9, .int v9), (10, .int v10), (11, .int v11)] → W p l e (RM 19 632) s m args below meth c H locs 0 0 (MQ below (QI V G S' r s.heap.size) args s 0 0 (AG G s.heap.size)) (F0 m 159 ls []) := by
  intro v0 v1 v9 v10 v11 h_v0 k_v0 S H locs ls hf hP hS hW hl
  have hx := C.1
  have hb := C.2.1
  unfold s_X12_sums__J159 at hf
  refine lv_aload_n hx hb dX12_sums__159 rfl (lv_at hl 0 rfl) ?_
  refine lv_aload_n hx hb dX12_sums__160 rfl (lv_at hl 0 rfl) ?_
  refine lv_iload_n hx hb dX12_sums__161 rfl (lv_at hl 1 rfl) ?_
  obtain ⟨r21, er21, hf⟩ := bd1_e hf
  refine x_aft_i (x_runV (As := [.int v1]) (rest := [.ref v0]) C hP hS (c_X12_infOf (l := l) C.2.2.2.2.2.2.2.2.2.1 hW h_v0 k_v0 er21 H.size) h_v0 k_v0 (by decide) rfl rfl km_X12_infOf ki_X12_infOf qm_X12_261 ⟨(Nat.le_of_ble_eq_true rfl), (Nat.le_of_ble_eq_true rfl)⟩ rfl hl.1 rfl (Nat.le_of_ble_eq_true rfl) ⟨Nat.zero_le _, Nat.zero_le _⟩ dX12_sums__162) hS (fun H locs hP hS hW => ?_)
  refine lv_iload hx hb dX12_sums__165 (lv_at hl 4 rfl) ?_
  refine lv_if_eq (tgt := 178) hx hb dX12_sums__167 (by decide) (fun c22 => ?_) (fun c22 => ?_)
  · have hf := if_t c22 hf
    refine lv_iload hx hb dX12_sums__178 (lv_at hl 3 rfl) ?_
    refine lv_if_eq (tgt := 191) hx hb dX12_sums__180 (by decide) (fun c23 => ?_) (fun c23 => ?_)
    · have hf := if_t c23 hf
      refine lv_iconst (v := 0) hx hb dX12_sums__191 rfl ?_
      exact b_X12_sums__192 C v0 r21 0 h_v0 k_v0 S H locs _ hf hP hS hW (lv_sub hl [] rfl)
    · have hf := if_f c23 hf
      exact b_X12_sums__183 C v0 v1 v0 r21 h_v0 k_v0 h_v0 k_v0 S H locs _ hf hP hS hW (lv_sub hl [0, 1] rfl)
  · have hf := if_f c22 hf
    refine lv_iload hx hb dX12_sums__170 (lv_at hl 2 rfl) ?_
    refine lv_if_eq (tgt := 191) hx hb dX12_sums__172 (by decide) (fun c27 => ?_) (fun c27 => ?_)
    · have hf := if_t c27 hf
      refine lv_iconst (v := 0) hx hb dX12_sums__191 rfl ?_
      exact b_X12_sums__192 C v0 r21 0 h_v0 k_v0 S H locs _ hf hP hS hW (lv_sub hl [] rfl)
    · have hf := if_f c27 hf
      refine lv_goto (tgt := 183) hx hb dX12_sums__175 (by decide) ?_
      exact b_X12_sums__183 C v0 v1 v0 r21 h_v0 k_v0 h_v0 k_v0 S H locs _ hf hP hS hW (lv_sub hl [0, 1] rfl)
set_option maxRecDepth 100000 in
set_option maxHeartbeats 4000000 in
theorem b_X12_sums__270 {p : Program} {l : Launch} {e : Env} {s : State} {m : MethodId} {args : Array Value} {below : List Frame} {meth : Method} {c : Code} {V : EV} {G : GS} {r : Int32} {S' : HS} {F : Nat} (C : CX p s m args meth c RX12 cX12_sums_ 16 (some .int) V G) : ∀ (v0 : Nat) (v1 : Int32) (v2 : Int32) (v3 : Int32) (v4 : Int32) (v5 : Int32) (v8 : Int32) (v9 : Int32) (v10 : Int32) (v12 : Int32) (h_v0 : v0 ∈ G.1) (k_v0 : G.2.1 v0 = 12) (S : HS) (H : Heap) (locs : List Loc) (ls : Array Slot), s_X12_sums__J270 G.2.2 F v0 v1 v2 v3 v4 v5 v8 v9 v10 v12 S = some (r, S') → HP V G S H → va_S (AG G s.heap.size) s.heap H locs → WT G S → lv_has ls 16 [(0, .ref v0), (1, .int v1), (2, .int v2), (3, .int v3), (4, .int v4), (5, .int v5), (8, .int v8), (9, .int v9), (10, .int v10), (12, .int v12)] → W p l e (RM 19 632) s m args below meth c H locs 0 0 (MQ below (QI V G S' r s.heap.size) args s 0 0 (AG G s.heap.size)) (F0 m 270 ls []) := by
  intro v0 v1 v2 v3 v4 v5 v8 v9 v10 v12 h_v0 k_v0 S H locs ls hf hP hS hW hl
  have hx := C.1
  have hb := C.2.1
  unfold s_X12_sums__J270 at hf
  refine lv_iload hx hb dX12_sums__270 (lv_at hl 9 rfl) ?_
  refine lv_if_eq (tgt := 300) hx hb dX12_sums__272 (by decide) (fun c31 => ?_) (fun c31 => ?_)
  · have hf := if_t c31 hf
    refine lv_aload_n hx hb dX12_sums__300 rfl (lv_at hl 0 rfl) ?_
    refine lv_iload_n hx hb dX12_sums__301 rfl (lv_at hl 1 rfl) ?_
    refine lv_iload_n hx hb dX12_sums__302 rfl (lv_at hl 2 rfl) ?_
    obtain ⟨r32, er32, hf⟩ := bd1_e hf
    refine x_aft_l (x_runV (As := [.int v1, .int v2]) (rest := []) C hP hS (c_X12_wholeOf (l := l) C.2.2.2.2.2.2.2.2.2.1 hW h_v0 k_v0 er32 H.size) h_v0 k_v0 (by decide) rfl rfl km_X12_wholeOf ki_X12_wholeOf qm_X12_347 ⟨(Nat.le_of_ble_eq_true rfl), (Nat.le_of_ble_eq_true rfl)⟩ rfl hl.1 rfl (Nat.le_of_ble_eq_true rfl) ⟨Nat.zero_le _, Nat.zero_le _⟩ dX12_sums__303) hS (fun H locs hP hS hW => ?_)
    refine lv_aload_n hx hb dX12_sums__306 rfl (lv_at hl 0 rfl) ?_
    refine lv_iload_n hx hb dX12_sums__307 rfl (lv_at hl 1 rfl) ?_
    refine lv_iload_n hx hb dX12_sums__308 rfl (lv_at hl 3 rfl) ?_
    obtain ⟨r33, er33, hf⟩ := bd1_e hf
    refine x_aft_l (x_runV (As := [.int v1, .int v3]) (rest := [.long r32]) C hP hS (c_X12_wholeOf (l := l) C.2.2.2.2.2.2.2.2.2.1 hW h_v0 k_v0 er33 H.size) h_v0 k_v0 (by decide) rfl rfl km_X12_wholeOf ki_X12_wholeOf qm_X12_347 ⟨(Nat.le_of_ble_eq_true rfl), (Nat.le_of_ble_eq_true rfl)⟩ rfl hl.1 rfl (Nat.le_of_ble_eq_true rfl) ⟨Nat.zero_le _, Nat.zero_le _⟩ dX12_sums__309) hS (fun H locs hP hS hW => ?_)
    refine lv_lmul hx hb dX12_sums__312 ?_
    obtain ⟨x34, ex34, hf⟩ := bnd_e hf
    refine nm_l ex34 ?_
    refine lv_lstore (lv' := [(13, .long x34), (0, .ref v0), (1, .int v1), (2, .int v2), (3, .int v3), (4, .int v4), (5, .int v5), (8, .int v8), (9, .int v9), (10, .int v10), (12, .int v12)]) hx hb dX12_sums__313 hl (by decide) rfl (fun ls hl => ?_)
    refine lv_aload_n hx hb dX12_sums__315 rfl (lv_at hl 1 rfl) ?_
    refine lv_iload_n hx hb dX12_sums__316 rfl (lv_at hl 2 rfl) ?_
    refine lv_iload_n hx hb dX12_sums__317 rfl (lv_at hl 3 rfl) ?_
    obtain ⟨r35, er35, hf⟩ := bd1_e hf
    refine x_aft_i (x_runV (As := [.int v1, .int v2]) (rest := []) C hP hS (c_X12_placeOf (l := l) C.2.2.2.2.2.2.2.2.2.1 hW h_v0 k_v0 er35 H.size) h_v0 k_v0 (by decide) rfl rfl km_X12_placeOf ki_X12_placeOf qm_X12_351 ⟨(Nat.le_of_ble_eq_true rfl), (Nat.le_of_ble_eq_true rfl)⟩ rfl hl.1 rfl (Nat.le_of_ble_eq_true rfl) ⟨Nat.zero_le _, Nat.zero_le _⟩ dX12_sums__318) hS (fun H locs hP hS hW => ?_)
    refine lv_aload_n hx hb dX12_sums__321 rfl (lv_at hl 1 rfl) ?_
    refine lv_iload_n hx hb dX12_sums__322 rfl (lv_at hl 2 rfl) ?_
    refine lv_iload_n hx hb dX12_sums__323 rfl (lv_at hl 4 rfl) ?_
    obtain ⟨r36, er36, hf⟩ := bd1_e hf
    refine x_aft_i (x_runV (As := [.int v1, .int v3]) (rest := [.int r35]) C hP hS (c_X12_placeOf (l := l) C.2.2.2.2.2.2.2.2.2.1 hW h_v0 k_v0 er36 H.size) h_v0 k_v0 (by decide) rfl rfl km_X12_placeOf ki_X12_placeOf qm_X12_351 ⟨(Nat.le_of_ble_eq_true rfl), (Nat.le_of_ble_eq_true rfl)⟩ rfl hl.1 rfl (Nat.le_of_ble_eq_true rfl) ⟨Nat.zero_le _, Nat.zero_le _⟩ dX12_sums__324) hS (fun H locs hP hS hW => ?_)
    refine lv_iadd hx hb dX12_sums__327 ?_
    obtain ⟨x37, ex37, hf⟩ := bnd_e hf
    refine nm_i ex37 ?_
    refine lv_istore (lv' := [(15, .int x37), (13, .long x34), (0, .ref v0), (1, .int v1), (2, .int v2), (3, .int v3), (4, .int v4), (5, .int v5), (8, .int v8), (9, .int v9), (10, .int v10), (12, .int v12)]) hx hb dX12_sums__328 hl (by decide) rfl (fun ls hl => ?_)
    refine lv_iload hx hb dX12_sums__330 (lv_at hl 8 rfl) ?_
    refine lv_if_ne (tgt := 350) hx hb dX12_sums__332 (by decide) (fun c38 => ?_) (fun c38 => ?_)
    · have hf := if_f c38 hf
      refine lv_aload_n hx hb dX12_sums__350 rfl (lv_at hl 2 rfl) ?_
      refine lv_iload_n hx hb dX12_sums__351 rfl (lv_at hl 3 rfl) ?_
      refine lv_iload hx hb dX12_sums__352 (lv_at hl 9 rfl) ?_
      refine lv_lload hx hb dX12_sums__354 (lv_at hl 1 rfl) ?_
      refine lv_iload hx hb dX12_sums__356 (lv_at hl 0 rfl) ?_
      refine lv_iload hx hb dX12_sums__358 (lv_at hl 10 rfl) ?_
      refine lv_aload_n hx hb dX12_sums__360 rfl (lv_at hl 2 rfl) ?_
      refine lv_iload_n hx hb dX12_sums__361 rfl (lv_at hl 3 rfl) ?_
      refine lv_iload hx hb dX12_sums__362 (lv_at hl 6 rfl) ?_
      obtain ⟨r39, er39, hf⟩ := bd1_e hf
      refine x_aft_l (x_runV (As := [.int v1, .int v4]) (rest := [.int v10, .int x37, .long x34, .int v9, .int v1, .ref v0]) C hP hS (c_X12_wholeOf (l := l) C.2.2.2.2.2.2.2.2.2.1 hW h_v0 k_v0 er39 H.size) h_v0 k_v0 (by decide) rfl rfl km_X12_wholeOf ki_X12_wholeOf qm_X12_347 ⟨(Nat.le_of_ble_eq_true rfl), (Nat.le_of_ble_eq_true rfl)⟩ rfl hl.1 rfl (Nat.le_of_ble_eq_true rfl) ⟨Nat.zero_le _, Nat.zero_le _⟩ dX12_sums__364) hS (fun H locs hP hS hW => ?_)
      refine lv_aload_n hx hb dX12_sums__367 rfl (lv_at hl 2 rfl) ?_
      refine lv_iload_n hx hb dX12_sums__368 rfl (lv_at hl 3 rfl) ?_
      refine lv_iload hx hb dX12_sums__369 (lv_at hl 6 rfl) ?_
      obtain ⟨r40, er40, hf⟩ := bd1_e hf
      refine x_aft_i (x_runVw (As := [.int v1, .int v4]) (rest := [.long r39, .int v10, .int x37, .long x34, .int v9, .int v1, .ref v0]) C hP hS (c_X12_placeOf (l := l) C.2.2.2.2.2.2.2.2.2.1 hW h_v0 k_v0 er40 H.size) h_v0 k_v0 (by decide) rfl rfl km_X12_placeOf ki_X12_placeOf qm_X12_351 ⟨(Nat.le_of_ble_eq_true rfl), (Nat.le_of_ble_eq_true rfl)⟩ rfl hl.1 rfl (Nat.le_of_ble_eq_true rfl) ⟨Nat.zero_le _, Nat.zero_le _⟩ dX12_sums__371 qmw_X12_351) hS (fun H locs hP hS hW => ?_)
      refine lv_iload hx hb dX12_sums__374 (lv_at hl 7 rfl) ?_
      obtain ⟨r41, S42, eS42, hf⟩ := bd2_e hf
      refine x_aft_i (x_runV (As := [.int v1, .int v9, .long x34, .int x37, .int v10, .long r39, .int r40, .int v5]) (rest := []) C hP hS (c_X12_adds_at (l := l) C.2.2.2.2.2.2.2.2.2.1 3 v0 v1 v9 x34 x37 v10 r39 r40 v5 hW h_v0 k_v0 eS42 H.size) h_v0 k_v0 (by decide) rfl rfl km_X12_adds ki_X12_adds qm_X12_330 ⟨(by show _ ≤ _; decide), (by show _ ≤ _; decide)⟩ rfl hl.1 rfl (Nat.le_of_ble_eq_true rfl) ⟨Nat.zero_le _, Nat.zero_le _⟩ dX12_sums__376) hS (fun H locs hP hS hW => ?_)
      cases hf
      exact x_reti C hP hS hW dX12_sums__379
    · have hf := if_t c38 hf
      refine lv_aload_n hx hb dX12_sums__335 rfl (lv_at hl 2 rfl) ?_
      refine lv_iload_n hx hb dX12_sums__336 rfl (lv_at hl 3 rfl) ?_
      refine lv_iload hx hb dX12_sums__337 (lv_at hl 9 rfl) ?_
      refine lv_lload hx hb dX12_sums__339 (lv_at hl 1 rfl) ?_
      refine lv_iload hx hb dX12_sums__341 (lv_at hl 0 rfl) ?_
      refine lv_iconst (v := 0) hx hb dX12_sums__343 rfl ?_
      refine lv_iload hx hb dX12_sums__344 (lv_at hl 7 rfl) ?_
      obtain ⟨r43, S44, eS44, hf⟩ := bd2_e hf
      refine x_aft_i (x_runV (As := [.int v1, .int v9, .long x34, .int x37, .int 0, .int v5]) (rest := []) C hP hS (c_X12_rounds (l := l) C.2.2.2.2.2.2.2.2.2.1 hW h_v0 k_v0 eS44 H.size) h_v0 k_v0 (by decide) rfl rfl km_X12_rounds ki_X12_rounds qm_X12_334 ⟨(Nat.le_of_ble_eq_true rfl), (Nat.le_of_ble_eq_true rfl)⟩ rfl hl.1 rfl (Nat.le_of_ble_eq_true rfl) ⟨Nat.zero_le _, Nat.zero_le _⟩ dX12_sums__346) hS (fun H locs hP hS hW => ?_)
      cases hf
      exact x_reti C hP hS hW dX12_sums__349
  · have hf := if_f c31 hf
    refine lv_aload_n hx hb dX12_sums__275 rfl (lv_at hl 0 rfl) ?_
    refine lv_iload_n hx hb dX12_sums__276 rfl (lv_at hl 1 rfl) ?_
    refine lv_iload hx hb dX12_sums__277 (lv_at hl 8 rfl) ?_
    refine lv_aload_n hx hb dX12_sums__279 rfl (lv_at hl 0 rfl) ?_
    refine lv_iload_n hx hb dX12_sums__280 rfl (lv_at hl 1 rfl) ?_
    refine lv_iload hx hb dX12_sums__281 (lv_at hl 4 rfl) ?_
    obtain ⟨r45, er45, hf⟩ := bd1_e hf
    refine x_aft_l (x_runV (As := [.int v1, .int v4]) (rest := [.int v10, .int v1, .ref v0]) C hP hS (c_X12_wholeOf (l := l) C.2.2.2.2.2.2.2.2.2.1 hW h_v0 k_v0 er45 H.size) h_v0 k_v0 (by decide) rfl rfl km_X12_wholeOf ki_X12_wholeOf qm_X12_347 ⟨(Nat.le_of_ble_eq_true rfl), (Nat.le_of_ble_eq_true rfl)⟩ rfl hl.1 rfl (Nat.le_of_ble_eq_true rfl) ⟨Nat.zero_le _, Nat.zero_le _⟩ dX12_sums__283) hS (fun H locs hP hS hW => ?_)
    refine lv_aload_n hx hb dX12_sums__286 rfl (lv_at hl 0 rfl) ?_
    refine lv_iload_n hx hb dX12_sums__287 rfl (lv_at hl 1 rfl) ?_
    refine lv_iload hx hb dX12_sums__288 (lv_at hl 4 rfl) ?_
    obtain ⟨r46, er46, hf⟩ := bd1_e hf
    refine x_aft_i (x_runV (As := [.int v1, .int v4]) (rest := [.long r45, .int v10, .int v1, .ref v0]) C hP hS (c_X12_placeOf (l := l) C.2.2.2.2.2.2.2.2.2.1 hW h_v0 k_v0 er46 H.size) h_v0 k_v0 (by decide) rfl rfl km_X12_placeOf ki_X12_placeOf qm_X12_351 ⟨(Nat.le_of_ble_eq_true rfl), (Nat.le_of_ble_eq_true rfl)⟩ rfl hl.1 rfl (Nat.le_of_ble_eq_true rfl) ⟨Nat.zero_le _, Nat.zero_le _⟩ dX12_sums__290) hS (fun H locs hP hS hW => ?_)
    refine lv_iconst (v := 0) hx hb dX12_sums__293 rfl ?_
    refine lv_iload hx hb dX12_sums__294 (lv_at hl 5 rfl) ?_
    obtain ⟨r47, S48, eS48, hf⟩ := bd2_e hf
    refine x_aft_i (x_runV (As := [.int v1, .int v10, .long r45, .int r46, .int 0, .int v5]) (rest := []) C hP hS (c_X12_rounds (l := l) C.2.2.2.2.2.2.2.2.2.1 hW h_v0 k_v0 eS48 H.size) h_v0 k_v0 (by decide) rfl rfl km_X12_rounds ki_X12_rounds qm_X12_334 ⟨(Nat.le_of_ble_eq_true rfl), (Nat.le_of_ble_eq_true rfl)⟩ rfl hl.1 rfl (Nat.le_of_ble_eq_true rfl) ⟨Nat.zero_le _, Nat.zero_le _⟩ dX12_sums__296) hS (fun H locs hP hS hW => ?_)
    cases hf
    exact x_reti C hP hS hW dX12_sums__299
set_option maxRecDepth 100000 in
set_option maxHeartbeats 4000000 in
theorem b_X12_sums__265 {p : Program} {l : Launch} {e : Env} {s : State} {m : MethodId} {args : Array Value} {below : List Frame} {meth : Method} {c : Code} {V : EV} {G : GS} {r : Int32} {S' : HS} {F : Nat} (C : CX p s m args meth c RX12 cX12_sums_ 16 (some .int) V G) : ∀ (w0 : Nat) (w1 : Int32) (h_w0 : w0 ∈ G.1) (k_w0 : G.2.1 w0 = 12) (S : HS) (H : Heap) (locs : List Loc) (ls : Array Slot), s_X12_sums__J265 G.2.2 F w0 w1 S = some (r, S') → HP V G S H → va_S (AG G s.heap.size) s.heap H locs → WT G S → lv_has ls 16 [] → W p l e (RM 19 632) s m args below meth c H locs 0 0 (MQ below (QI V G S' r s.heap.size) args s 0 0 (AG G s.heap.size)) (F0 m 265 ls [.int w1, .ref w0]) := by
  intro w0 w1 h_w0 k_w0 S H locs ls hf hP hS hW hl
  have hx := C.1
  have hb := C.2.1
  unfold s_X12_sums__J265 at hf
  refine lv_iconst (v := 0) hx hb dX12_sums__265 rfl ?_
  obtain ⟨r53, S54, eS54, hf⟩ := bn2_e hf
  refine x_aft_i (x_runV (As := [.int w1, .int 0]) (rest := []) C hP hS (c_X12_tells (l := l) C.2.2.2.2.2.2.2.2.2.1 hW h_w0 k_w0 eS54 H.size) h_w0 k_w0 (by decide) rfl rfl km_X12_tells ki_X12_tells qm_X12_338 ⟨(Nat.le_of_ble_eq_true rfl), (Nat.le_of_ble_eq_true rfl)⟩ rfl hl.1 rfl (Nat.le_of_ble_eq_true rfl) ⟨Nat.zero_le _, Nat.zero_le _⟩ dX12_sums__266) hS (fun H locs hP hS hW => ?_)
  cases hf
  exact x_reti C hP hS hW dX12_sums__269
set_option maxRecDepth 100000 in
set_option maxHeartbeats 4000000 in
theorem b_X12_sums__248 {p : Program} {l : Launch} {e : Env} {s : State} {m : MethodId} {args : Array Value} {below : List Frame} {meth : Method} {c : Code} {V : EV} {G : GS} {r : Int32} {S' : HS} {F : Nat} (C : CX p s m args meth c RX12 cX12_sums_ 16 (some .int) V G) : ∀ (v0 : Nat) (v1 : Int32) (w0 : Int32) (h_v0 : v0 ∈ G.1) (k_v0 : G.2.1 v0 = 12) (S : HS) (H : Heap) (locs : List Loc) (ls : Array Slot), s_X12_sums__J248 G.2.2 F v0 v1 w0 S = some (r, S') → HP V G S H → va_S (AG G s.heap.size) s.heap H locs → WT G S → lv_has ls 16 [(0, .ref v0), (1, .int v1)] → W p l e (RM 19 632) s m args below meth c H locs 0 0 (MQ below (QI V G S' r s.heap.size) args s 0 0 (AG G s.heap.size)) (F0 m 248 ls [.int w0]) := by
  intro v0 v1 w0 h_v0 k_v0 S H locs ls hf hP hS hW hl
  have hx := C.1
  have hb := C.2.1
  unfold s_X12_sums__J248 at hf
  refine lv_istore (lv' := [(13, .int w0), (0, .ref v0), (1, .int v1)]) hx hb dX12_sums__248 hl (by decide) rfl (fun ls hl => ?_)
  refine lv_aload_n hx hb dX12_sums__250 rfl (lv_at hl 1 rfl) ?_
  refine lv_iload hx hb dX12_sums__251 (lv_at hl 0 rfl) ?_
  refine lv_if_eq (tgt := 264) hx hb dX12_sums__253 (by decide) (fun c52 => ?_) (fun c52 => ?_)
  · have hf := if_t c52 hf
    refine lv_iconst (v := 0) hx hb dX12_sums__264 rfl ?_
    exact b_X12_sums__265 C v0 0 h_v0 k_v0 S H locs _ hf hP hS hW (lv_sub hl [] rfl)
  · have hf := if_f c52 hf
    refine lv_aload_n hx hb dX12_sums__256 rfl (lv_at hl 1 rfl) ?_
    refine lv_iload_n hx hb dX12_sums__257 rfl (lv_at hl 2 rfl) ?_
    obtain ⟨r55, er55, hf⟩ := bd1_e hf
    refine x_aft_i (x_runV (As := [.int v1]) (rest := [.ref v0]) C hP hS (c_X12_signOf (l := l) C.2.2.2.2.2.2.2.2.2.1 hW h_v0 k_v0 er55 H.size) h_v0 k_v0 (by decide) rfl rfl km_X12_signOf ki_X12_signOf qm_X12_267 ⟨(Nat.le_of_ble_eq_true rfl), (Nat.le_of_ble_eq_true rfl)⟩ rfl hl.1 rfl (Nat.le_of_ble_eq_true rfl) ⟨Nat.zero_le _, Nat.zero_le _⟩ dX12_sums__258) hS (fun H locs hP hS hW => ?_)
    refine lv_goto (tgt := 265) hx hb dX12_sums__261 (by decide) ?_
    exact b_X12_sums__265 C v0 r55 h_v0 k_v0 S H locs _ hf hP hS hW (lv_sub hl [] rfl)
set_option maxRecDepth 100000 in
set_option maxHeartbeats 4000000 in
theorem b_X12_sums__213 {p : Program} {l : Launch} {e : Env} {s : State} {m : MethodId} {args : Array Value} {below : List Frame} {meth : Method} {c : Code} {V : EV} {G : GS} {r : Int32} {S' : HS} {F : Nat} (C : CX p s m args meth c RX12 cX12_sums_ 16 (some .int) V G) : ∀ (v0 : Nat) (v1 : Int32) (v2 : Int32) (v3 : Int32) (v4 : Int32) (v5 : Int32) (v8 : Int32) (v9 : Int32) (v10 : Int32) (w0 : Int32) (h_v0 : v0 ∈ G.1) (k_v0 : G.2.1 v0 = 12) (S : HS) (H : Heap) (locs : List Loc) (ls : Array Slot), s_X12_sums__J213 G.2.2 F v0 v1 v2 v3 v4 v5 v8 v9 v10 w0 S = some (r, S') → HP V G S H → va_S (AG G s.heap.size) s.heap H locs → WT G S → lv_has ls 16 [(0, .ref v0), (1, .int v1), (2, .int v2), (3, .int v3), (4, .int v4), (5, .int v5), (8, .int v8), (9, .int v9), (10, .int v10)] → W p l e (RM 19 632) s m args below meth c H locs 0 0 (MQ below (QI V G S' r s.heap.size) args s 0 0 (AG G s.heap.size)) (F0 m 213 ls [.int w0]) := by
  intro v0 v1 v2 v3 v4 v5 v8 v9 v10 w0 h_v0 k_v0 S H locs ls hf hP hS hW hl
  have hx := C.1
  have hb := C.2.1
  unfold s_X12_sums__J213 at hf
  refine lv_istore (lv' := [(12, .int w0), (0, .ref v0), (1, .int v1), (2, .int v2), (3, .int v3), (4, .int v4), (5, .int v5), (8, .int v8), (9, .int v9), (10, .int v10)]) hx hb dX12_sums__213 hl (by decide) rfl (fun ls hl => ?_)
  refine lv_iload hx hb dX12_sums__215 (lv_at hl 0 rfl) ?_
  refine lv_if_eq (tgt := 270) hx hb dX12_sums__217 (by decide) (fun c30 => ?_) (fun c30 => ?_)
  · have hf := if_t c30 hf
    exact b_X12_sums__270 C v0 v1 v2 v3 v4 v5 v8 v9 v10 w0 h_v0 k_v0 S H locs _ hf hP hS hW (lv_sub hl [1, 2, 3, 4, 5, 6, 7, 8, 9, 0] rfl)
  · have hf := if_f c30 hf
    refine lv_iload hx hb dX12_sums__220 (lv_at hl 7 rfl) ?_
    refine lv_if_ne (tgt := 270) hx hb dX12_sums__222 (by decide) (fun c49 => ?_) (fun c49 => ?_)
    · have hf := if_f c49 hf
      exact b_X12_sums__270 C v0 v1 v2 v3 v4 v5 v8 v9 v10 w0 h_v0 k_v0 S H locs _ hf hP hS hW (lv_sub hl [1, 2, 3, 4, 5, 6, 7, 8, 9, 0] rfl)
    · have hf := if_t c49 hf
      refine lv_iload hx hb dX12_sums__225 (lv_at hl 8 rfl) ?_
      refine lv_iload hx hb dX12_sums__227 (lv_at hl 9 rfl) ?_
      refine lv_icmp_ne (tgt := 237) hx hb dX12_sums__229 (by decide) (fun c50 => ?_) (fun c50 => ?_)
      · have hf := if_f c50 hf
        refine lv_iload hx hb dX12_sums__237 (lv_at hl 6 rfl) ?_
        refine lv_iconst (v := 2) hx hb dX12_sums__239 rfl ?_
        refine lv_icmp_ne (tgt := 247) hx hb dX12_sums__240 (by decide) (fun c51 => ?_) (fun c51 => ?_)
        · have hf := if_f c51 hf
          refine lv_iconst (v := 0) hx hb dX12_sums__247 rfl ?_
          exact b_X12_sums__248 C v0 v1 0 h_v0 k_v0 S H locs _ hf hP hS hW (lv_sub hl [1, 2] rfl)
        · have hf := if_t c51 hf
          refine lv_iconst (v := 1) hx hb dX12_sums__243 rfl ?_
          refine lv_goto (tgt := 248) hx hb dX12_sums__244 (by decide) ?_
          exact b_X12_sums__248 C v0 v1 1 h_v0 k_v0 S H locs _ hf hP hS hW (lv_sub hl [1, 2] rfl)
      · have hf := if_t c50 hf
        refine lv_iload hx hb dX12_sums__232 (lv_at hl 8 rfl) ?_
        refine lv_goto (tgt := 248) hx hb dX12_sums__234 (by decide) ?_
        exact b_X12_sums__248 C v0 v1 v9 h_v0 k_v0 S H locs _ hf hP hS hW (lv_sub hl [1, 2] rfl)
set_option maxRecDepth 100000 in
set_option maxHeartbeats 4000000 in
theorem b_X12_sums__148 {p : Program} {l : Launch} {e : Env} {s : State} {m : MethodId} {args : Array Value} {below : List Frame} {meth : Method} {c : Code} {V : EV} {G : GS} {r : Int32} {S' : HS} {F : Nat} (C : CX p s m args meth c RX12 cX12_sums_ 16 (some .int) V G) : ∀ (v0 : Nat) (v1 : Int32) (v2 : Int32) (v3 : Int32) (v4 : Int32) (v5 : Int32) (v6 : Int32) (v7 : Int32) (v8 : Int32) (v9 : Int32) (v10 : Int32) (v11 : Int32) (h_v0 : v0 ∈ G.1) (k_v0 : G.2.1 v0 = 12) (S : HS) (H : Heap) (locs : List Loc) (ls : Array Slot), s_X12_sums__J148 G.2.2 F v0 v1 v2 v3 v4 v5 v6 v7 v8 v9 v10 v11 S = some (r, S') → HP V G S H → va_S (AG G s.heap.size) s.heap H locs → WT G S → lv_has ls 16 [(0, .ref v0), (1, .int v1), (2, .int v2), (3, .int v3), (4, .int v4), (5, .int v5), (6, .int v6), (7, .int v7), (8, .int v8), (9, .int v9), (10, .int v10), (11, .int v11)] → W p l e (RM 19 632) s m args below meth c H locs 0 0 (MQ below (QI V G S' r s.heap.size) args s 0 0 (AG G s.heap.size)) (F0 m 148 ls []) := by
  intro v0 v1 v2 v3 v4 v5 v6 v7 v8 v9 v10 v11 h_v0 k_v0 S H locs ls hf hP hS hW hl
  have hx := C.1
  have hb := C.2.1
  unfold s_X12_sums__J148 at hf
  refine lv_iload hx hb dX12_sums__148 (lv_at hl 11 rfl) ?_
  refine lv_if_ne (tgt := 159) hx hb dX12_sums__150 (by decide) (fun c20 => ?_) (fun c20 => ?_)
  · have hf := if_f c20 hf
    exact b_X12_sums__159 C v0 v1 v9 v10 v11 h_v0 k_v0 S H locs _ hf hP hS hW (lv_sub hl [0, 1, 9, 10, 11] rfl)
  · have hf := if_t c20 hf
    refine lv_iload hx hb dX12_sums__153 (lv_at hl 8 rfl) ?_
    refine lv_iconst (v := 3) hx hb dX12_sums__155 rfl ?_
    refine lv_icmp_ne (tgt := 198) hx hb dX12_sums__156 (by decide) (fun c28 => ?_) (fun c28 => ?_)
    · have hf := if_f c28 hf
      refine lv_iload hx hb dX12_sums__198 (lv_at hl 6 rfl) ?_
      refine lv_if_eq (tgt := 208) hx hb dX12_sums__200 (by decide) (fun c29 => ?_) (fun c29 => ?_)
      · have hf := if_t c29 hf
        refine lv_iconst (v := 1) hx hb dX12_sums__208 rfl ?_
        refine lv_goto (tgt := 213) hx hb dX12_sums__209 (by decide) ?_
        exact b_X12_sums__213 C v0 v1 v2 v3 v4 v5 v8 v9 v10 1 h_v0 k_v0 S H locs _ hf hP hS hW (lv_sub hl [0, 1, 2, 3, 4, 5, 8, 9, 10] rfl)
      · have hf := if_f c29 hf
        refine lv_iload hx hb dX12_sums__203 (lv_at hl 7 rfl) ?_
        refine lv_if_ne (tgt := 212) hx hb dX12_sums__205 (by decide) (fun c56 => ?_) (fun c56 => ?_)
        · have hf := if_f c56 hf
          refine lv_iconst (v := 0) hx hb dX12_sums__212 rfl ?_
          exact b_X12_sums__213 C v0 v1 v2 v3 v4 v5 v8 v9 v10 0 h_v0 k_v0 S H locs _ hf hP hS hW (lv_sub hl [0, 1, 2, 3, 4, 5, 8, 9, 10] rfl)
        · have hf := if_t c56 hf
          refine lv_iconst (v := 1) hx hb dX12_sums__208 rfl ?_
          refine lv_goto (tgt := 213) hx hb dX12_sums__209 (by decide) ?_
          exact b_X12_sums__213 C v0 v1 v2 v3 v4 v5 v8 v9 v10 1 h_v0 k_v0 S H locs _ hf hP hS hW (lv_sub hl [0, 1, 2, 3, 4, 5, 8, 9, 10] rfl)
    · have hf := if_t c28 hf
      exact b_X12_sums__159 C v0 v1 v9 v10 v11 h_v0 k_v0 S H locs _ hf hP hS hW (lv_sub hl [0, 1, 9, 10, 11] rfl)
set_option maxRecDepth 100000 in
set_option maxHeartbeats 4000000 in
theorem b_X12_sums__137 {p : Program} {l : Launch} {e : Env} {s : State} {m : MethodId} {args : Array Value} {below : List Frame} {meth : Method} {c : Code} {V : EV} {G : GS} {r : Int32} {S' : HS} {F : Nat} (C : CX p s m args meth c RX12 cX12_sums_ 16 (some .int) V G) : ∀ (v0 : Nat) (v1 : Int32) (h_v0 : v0 ∈ G.1) (k_v0 : G.2.1 v0 = 12) (S : HS) (H : Heap) (locs : List Loc) (ls : Array Slot), s_X12_sums__J137 G.2.2 F v0 v1 S = some (r, S') → HP V G S H → va_S (AG G s.heap.size) s.heap H locs → WT G S → lv_has ls 16 [(0, .ref v0), (1, .int v1)] → W p l e (RM 19 632) s m args below meth c H locs 0 0 (MQ below (QI V G S' r s.heap.size) args s 0 0 (AG G s.heap.size)) (F0 m 137 ls []) := by
  intro v0 v1 h_v0 k_v0 S H locs ls hf hP hS hW hl
  have hx := C.1
  have hb := C.2.1
  unfold s_X12_sums__J137 at hf
  refine lv_aload_n hx hb dX12_sums__137 rfl (lv_at hl 0 rfl) ?_
  refine lv_aload_n hx hb dX12_sums__138 rfl (lv_at hl 0 rfl) ?_
  refine lv_iload_n hx hb dX12_sums__139 rfl (lv_at hl 1 rfl) ?_
  obtain ⟨r59, er59, hf⟩ := bd1_e hf
  refine x_aft_i (x_runV (As := [.int v1]) (rest := [.ref v0]) C hP hS (c_X12_nanOf (l := l) C.2.2.2.2.2.2.2.2.2.1 hW h_v0 k_v0 er59 H.size) h_v0 k_v0 (by decide) rfl rfl km_X12_nanOf ki_X12_nanOf qm_X12_344 ⟨(Nat.le_of_ble_eq_true rfl), (Nat.le_of_ble_eq_true rfl)⟩ rfl hl.1 rfl (Nat.le_of_ble_eq_true rfl) ⟨Nat.zero_le _, Nat.zero_le _⟩ dX12_sums__140) hS (fun H locs hP hS hW => ?_)
  refine lv_iconst (v := 1) hx hb dX12_sums__143 rfl ?_
  obtain ⟨r60, S61, eS61, hf⟩ := bn2_e hf
  refine x_aft_i (x_runV (As := [.int r59, .int 1]) (rest := []) C hP hS (c_X12_tells (l := l) C.2.2.2.2.2.2.2.2.2.1 hW h_v0 k_v0 eS61 H.size) h_v0 k_v0 (by decide) rfl rfl km_X12_tells ki_X12_tells qm_X12_338 ⟨(Nat.le_of_ble_eq_true rfl), (Nat.le_of_ble_eq_true rfl)⟩ rfl hl.1 rfl (Nat.le_of_ble_eq_true rfl) ⟨Nat.zero_le _, Nat.zero_le _⟩ dX12_sums__144) hS (fun H locs hP hS hW => ?_)
  cases hf
  exact x_reti C hP hS hW dX12_sums__147
set_option maxRecDepth 100000 in
set_option maxHeartbeats 4000000 in
theorem b_X12_sums__119 {p : Program} {l : Launch} {e : Env} {s : State} {m : MethodId} {args : Array Value} {below : List Frame} {meth : Method} {c : Code} {V : EV} {G : GS} {r : Int32} {S' : HS} {F : Nat} (C : CX p s m args meth c RX12 cX12_sums_ 16 (some .int) V G) : ∀ (v0 : Nat) (v1 : Int32) (v2 : Int32) (v3 : Int32) (v4 : Int32) (v5 : Int32) (v6 : Int32) (v7 : Int32) (v8 : Int32) (v9 : Int32) (v10 : Int32) (v11 : Int32) (h_v0 : v0 ∈ G.1) (k_v0 : G.2.1 v0 = 12) (S : HS) (H : Heap) (locs : List Loc) (ls : Array Slot), s_X12_sums__J119 G.2.2 F v0 v1 v2 v3 v4 v5 v6 v7 v8 v9 v10 v11 S = some (r, S') → HP V G S H → va_S (AG G s.heap.size) s.heap H locs → WT G S → lv_has ls 16 [(0, .ref v0), (1, .int v1), (2, .int v2), (3, .int v3), (4, .int v4), (5, .int v5), (6, .int v6), (7, .int v7), (8, .int v8), (9, .int v9), (10, .int v10), (11, .int v11)] → W p l e (RM 19 632) s m args below meth c H locs 0 0 (MQ below (QI V G S' r s.heap.size) args s 0 0 (AG G s.heap.size)) (F0 m 119 ls []) := by
  intro v0 v1 v2 v3 v4 v5 v6 v7 v8 v9 v10 v11 h_v0 k_v0 S H locs ls hf hP hS hW hl
  have hx := C.1
  have hb := C.2.1
  unfold s_X12_sums__J119 at hf
  refine lv_iload hx hb dX12_sums__119 (lv_at hl 11 rfl) ?_
  refine lv_if_eq (tgt := 148) hx hb dX12_sums__121 (by decide) (fun c19 => ?_) (fun c19 => ?_)
  · have hf := if_t c19 hf
    exact b_X12_sums__148 C v0 v1 v2 v3 v4 v5 v6 v7 v8 v9 v10 v11 h_v0 k_v0 S H locs _ hf hP hS hW (lv_sub hl [0, 1, 2, 3, 4, 5, 6, 7, 8, 9, 10, 11] rfl)
  · have hf := if_f c19 hf
    refine lv_iload hx hb dX12_sums__124 (lv_at hl 8 rfl) ?_
    refine lv_iconst (v := 3) hx hb dX12_sums__126 rfl ?_
    refine lv_icmp_ne (tgt := 148) hx hb dX12_sums__127 (by decide) (fun c57 => ?_) (fun c57 => ?_)
    · have hf := if_f c57 hf
      exact b_X12_sums__148 C v0 v1 v2 v3 v4 v5 v6 v7 v8 v9 v10 v11 h_v0 k_v0 S H locs _ hf hP hS hW (lv_sub hl [0, 1, 2, 3, 4, 5, 6, 7, 8, 9, 10, 11] rfl)
    · have hf := if_t c57 hf
      refine lv_iload hx hb dX12_sums__130 (lv_at hl 9 rfl) ?_
      refine lv_iload hx hb dX12_sums__132 (lv_at hl 10 rfl) ?_
      refine lv_icmp_eq (tgt := 148) hx hb dX12_sums__134 (by decide) (fun c58 => ?_) (fun c58 => ?_)
      · have hf := if_t c58 hf
        exact b_X12_sums__148 C v0 v1 v2 v3 v4 v5 v6 v7 v8 v9 v10 v11 h_v0 k_v0 S H locs _ hf hP hS hW (lv_sub hl [0, 1, 2, 3, 4, 5, 6, 7, 8, 9, 10, 11] rfl)
      · have hf := if_f c58 hf
        exact b_X12_sums__137 C v0 v1 h_v0 k_v0 S H locs _ hf hP hS hW (lv_sub hl [0, 1] rfl)
set_option maxRecDepth 100000 in
set_option maxHeartbeats 4000000 in
theorem b_X12_sums__102 {p : Program} {l : Launch} {e : Env} {s : State} {m : MethodId} {args : Array Value} {below : List Frame} {meth : Method} {c : Code} {V : EV} {G : GS} {r : Int32} {S' : HS} {F : Nat} (C : CX p s m args meth c RX12 cX12_sums_ 16 (some .int) V G) : ∀ (v0 : Nat) (v1 : Int32) (v2 : Int32) (v3 : Int32) (v4 : Int32) (v5 : Int32) (v6 : Int32) (v7 : Int32) (v8 : Int32) (v9 : Int32) (v10 : Int32) (w0 : Int32) (h_v0 : v0 ∈ G.1) (k_v0 : G.2.1 v0 = 12) (S : HS) (H : Heap) (locs : List Loc) (ls : Array Slot), s_X12_sums__J102 G.2.2 F v0 v1 v2 v3 v4 v5 v6 v7 v8 v9 v10 w0 S = some (r, S') → HP V G S H → va_S (AG G s.heap.size) s.heap H locs → WT G S → lv_has ls 16 [(0, .ref v0), (1, .int v1), (2, .int v2), (3, .int v3), (4, .int v4), (5, .int v5), (6, .int v6), (7, .int v7), (8, .int v8), (9, .int v9), (10, .int v10)] → W p l e (RM 19 632) s m args below meth c H locs 0 0 (MQ below (QI V G S' r s.heap.size) args s 0 0 (AG G s.heap.size)) (F0 m 102 ls [.int w0]) := by
  intro v0 v1 v2 v3 v4 v5 v6 v7 v8 v9 v10 w0 h_v0 k_v0 S H locs ls hf hP hS hW hl
  have hx := C.1
  have hb := C.2.1
  unfold s_X12_sums__J102 at hf
  refine lv_istore (lv' := [(11, .int w0), (0, .ref v0), (1, .int v1), (2, .int v2), (3, .int v3), (4, .int v4), (5, .int v5), (6, .int v6), (7, .int v7), (8, .int v8), (9, .int v9), (10, .int v10)]) hx hb dX12_sums__102 hl (by decide) rfl (fun ls hl => ?_)
  refine lv_iload hx hb dX12_sums__104 (lv_at hl 0 rfl) ?_
  refine lv_if_eq (tgt := 119) hx hb dX12_sums__106 (by decide) (fun c18 => ?_) (fun c18 => ?_)
  · have hf := if_t c18 hf
    exact b_X12_sums__119 C v0 v1 v2 v3 v4 v5 v6 v7 v8 v9 v10 w0 h_v0 k_v0 S H locs _ hf hP hS hW (lv_sub hl [1, 2, 3, 4, 5, 6, 7, 8, 9, 10, 11, 0] rfl)
  · have hf := if_f c18 hf
    refine lv_iload hx hb dX12_sums__109 (lv_at hl 7 rfl) ?_
    refine lv_if_eq (tgt := 137) hx hb dX12_sums__111 (by decide) (fun c62 => ?_) (fun c62 => ?_)
    · have hf := if_t c62 hf
      exact b_X12_sums__137 C v0 v1 h_v0 k_v0 S H locs _ hf hP hS hW (lv_sub hl [1, 2] rfl)
    · have hf := if_f c62 hf
      refine lv_iload hx hb dX12_sums__114 (lv_at hl 8 rfl) ?_
      refine lv_if_eq (tgt := 137) hx hb dX12_sums__116 (by decide) (fun c63 => ?_) (fun c63 => ?_)
      · have hf := if_t c63 hf
        exact b_X12_sums__137 C v0 v1 h_v0 k_v0 S H locs _ hf hP hS hW (lv_sub hl [1, 2] rfl)
      · have hf := if_f c63 hf
        exact b_X12_sums__119 C v0 v1 v2 v3 v4 v5 v6 v7 v8 v9 v10 w0 h_v0 k_v0 S H locs _ hf hP hS hW (lv_sub hl [1, 2, 3, 4, 5, 6, 7, 8, 9, 10, 11, 0] rfl)
set_option maxRecDepth 100000 in
set_option maxHeartbeats 4000000 in
theorem b_X12_sums__45 {p : Program} {l : Launch} {e : Env} {s : State} {m : MethodId} {args : Array Value} {below : List Frame} {meth : Method} {c : Code} {V : EV} {G : GS} {r : Int32} {S' : HS} {F : Nat} (C : CX p s m args meth c RX12 cX12_sums_ 16 (some .int) V G) : ∀ (v0 : Nat) (v1 : Int32) (v2 : Int32) (v3 : Int32) (v4 : Int32) (v5 : Int32) (v6 : Int32) (v7 : Int32) (v8 : Int32) (w0 : Int32) (h_v0 : v0 ∈ G.1) (k_v0 : G.2.1 v0 = 12) (S : HS) (H : Heap) (locs : List Loc) (ls : Array Slot), s_X12_sums__J45 G.2.2 F v0 v1 v2 v3 v4 v5 v6 v7 v8 w0 S = some (r, S') → HP V G S H → va_S (AG G s.heap.size) s.heap H locs → WT G S → lv_has ls 16 [(0, .ref v0), (1, .int v1), (2, .int v2), (3, .int v3), (4, .int v4), (5, .int v5), (6, .int v6), (7, .int v7), (8, .int v8)] → W p l e (RM 19 632) s m args below meth c H locs 0 0 (MQ below (QI V G S' r s.heap.size) args s 0 0 (AG G s.heap.size)) (F0 m 45 ls [.int w0]) := by
  intro v0 v1 v2 v3 v4 v5 v6 v7 v8 w0 h_v0 k_v0 S H locs ls hf hP hS hW hl
  have hx := C.1
  have hb := C.2.1
  unfold s_X12_sums__J45 at hf
  refine lv_istore (lv' := [(9, .int w0), (0, .ref v0), (1, .int v1), (2, .int v2), (3, .int v3), (4, .int v4), (5, .int v5), (6, .int v6), (7, .int v7), (8, .int v8)]) hx hb dX12_sums__45 hl (by decide) rfl (fun ls hl => ?_)
  refine lv_aload_n hx hb dX12_sums__47 rfl (lv_at hl 1 rfl) ?_
  refine lv_iload_n hx hb dX12_sums__48 rfl (lv_at hl 2 rfl) ?_
  refine lv_iload hx hb dX12_sums__49 (lv_at hl 5 rfl) ?_
  obtain ⟨r9, er9, hf⟩ := bd1_e hf
  refine x_aft_z (x_runV (As := [.int v1, .int v4]) (rest := []) C hP hS (c_X12_isMinus (l := l) C.2.2.2.2.2.2.2.2.2.1 hW h_v0 k_v0 er9 H.size) h_v0 k_v0 (by decide) rfl rfl km_X12_isMinus ki_X12_isMinus qm_X12_283 ⟨(Nat.le_of_ble_eq_true rfl), (Nat.le_of_ble_eq_true rfl)⟩ rfl hl.1 rfl (Nat.le_of_ble_eq_true rfl) ⟨Nat.zero_le _, Nat.zero_le _⟩ dX12_sums__51) hS (fun H locs hP hS hW z10 => ?_)
  refine lv_istore (lv' := [(10, .int r9), (9, .int w0), (0, .ref v0), (1, .int v1), (2, .int v2), (3, .int v3), (4, .int v4), (5, .int v5), (6, .int v6), (7, .int v7), (8, .int v8)]) hx hb dX12_sums__54 hl (by decide) rfl (fun ls hl => ?_)
  refine lv_iload hx hb dX12_sums__56 (lv_at hl 8 rfl) ?_
  refine lv_iconst (v := 4) hx hb dX12_sums__58 rfl ?_
  refine lv_icmp_eq (tgt := 74) hx hb dX12_sums__59 (by decide) (fun c11 => ?_) (fun c11 => ?_)
  · have hf := if_t c11 hf
    exact b_X12_sums__74 C v0 v1 h_v0 k_v0 S H locs _ hf hP hS hW (lv_sub hl [2, 3] rfl)
  · have hf := if_f c11 hf
    refine lv_iload hx hb dX12_sums__62 (lv_at hl 9 rfl) ?_
    refine lv_iconst (v := 4) hx hb dX12_sums__64 rfl ?_
    refine lv_icmp_eq (tgt := 74) hx hb dX12_sums__65 (by decide) (fun c15 => ?_) (fun c15 => ?_)
    · have hf := if_t c15 hf
      exact b_X12_sums__74 C v0 v1 h_v0 k_v0 S H locs _ hf hP hS hW (lv_sub hl [2, 3] rfl)
    · have hf := if_f c15 hf
      refine lv_iload hx hb dX12_sums__68 (lv_at hl 10 rfl) ?_
      refine lv_iconst (v := 4) hx hb dX12_sums__70 rfl ?_
      refine lv_icmp_ne (tgt := 85) hx hb dX12_sums__71 (by decide) (fun c16 => ?_) (fun c16 => ?_)
      · have hf := if_f c16 hf
        refine lv_iload hx hb dX12_sums__85 (lv_at hl 8 rfl) ?_
        refine lv_iconst (v := 3) hx hb dX12_sums__87 rfl ?_
        refine lv_icmp_eq (tgt := 97) hx hb dX12_sums__88 (by decide) (fun c17 => ?_) (fun c17 => ?_)
        · have hf := if_t c17 hf
          refine lv_iconst (v := 1) hx hb dX12_sums__97 rfl ?_
          refine lv_goto (tgt := 102) hx hb dX12_sums__98 (by decide) ?_
          exact b_X12_sums__102 C v0 v1 v2 v3 v4 v5 v6 v7 v8 w0 r9 1 h_v0 k_v0 S H locs _ hf hP hS hW (lv_sub hl [2, 3, 4, 5, 6, 7, 8, 9, 10, 1, 0] rfl)
        · have hf := if_f c17 hf
          refine lv_iload hx hb dX12_sums__91 (lv_at hl 9 rfl) ?_
          refine lv_iconst (v := 3) hx hb dX12_sums__93 rfl ?_
          refine lv_icmp_ne (tgt := 101) hx hb dX12_sums__94 (by decide) (fun c64 => ?_) (fun c64 => ?_)
          · have hf := if_f c64 hf
            refine lv_iconst (v := 0) hx hb dX12_sums__101 rfl ?_
            exact b_X12_sums__102 C v0 v1 v2 v3 v4 v5 v6 v7 v8 w0 r9 0 h_v0 k_v0 S H locs _ hf hP hS hW (lv_sub hl [2, 3, 4, 5, 6, 7, 8, 9, 10, 1, 0] rfl)
          · have hf := if_t c64 hf
            refine lv_iconst (v := 1) hx hb dX12_sums__97 rfl ?_
            refine lv_goto (tgt := 102) hx hb dX12_sums__98 (by decide) ?_
            exact b_X12_sums__102 C v0 v1 v2 v3 v4 v5 v6 v7 v8 w0 r9 1 h_v0 k_v0 S H locs _ hf hP hS hW (lv_sub hl [2, 3, 4, 5, 6, 7, 8, 9, 10, 1, 0] rfl)
      · have hf := if_t c16 hf
        exact b_X12_sums__74 C v0 v1 h_v0 k_v0 S H locs _ hf hP hS hW (lv_sub hl [2, 3] rfl)
set_option maxRecDepth 100000 in
set_option maxHeartbeats 4000000 in
theorem c_X12_sums_ {l : Launch} {V : EV} {G : GS} {S : HS} {F : Nat} {a : Nat} {p0 : Int32} {p1 : Int32} {p2 : Int32} {p3 : Int32} {p4 : Int32} {r : Int32} {S' : HS} (hN : G.1.Nodup) (hW : WT G S) (h_a : a ∈ G.1) (k_a : G.2.1 a = 12) (hf : s_X12_sums_ G.2.2 F a p0 p1 p2 p3 p4 S = some (r, S')) : MetI l yX12_sums_ cX12_sums_ 16 .int 19 632 V G S [.ref a, .int p0, .int p1, .int p2, .int p3, .int p4] r S' := by
  intro sz
  refine x_in RX12 rfl (by decide +kernel) hN (Nat.le_of_ble_eq_true rfl) (fun p e s m args below meth c ls hsz hargs hnm C hP hS hl => ?_)
  subst hsz
  have hx := C.1
  have hb := C.2.1
  have hl : lv_has ls 16 [(0, .ref a), (1, .int p0), (2, .int p1), (3, .int p2), (4, .int p3), (5, .int p4)] := hl
  unfold s_X12_sums_ at hf
  refine lv_aload_n hx hb dX12_sums__0 rfl (lv_at hl 0 rfl) ?_
  refine lv_iload_n hx hb dX12_sums__1 rfl (lv_at hl 1 rfl) ?_
  refine lv_iload_n hx hb dX12_sums__2 rfl (lv_at hl 2 rfl) ?_
  obtain ⟨r1, er1, hf⟩ := bd1_e hf
  refine x_aft_i (x_runV (As := [.int p0, .int p1]) (rest := []) C hP hS (c_X12_sumClass (l := l) C.2.2.2.2.2.2.2.2.2.1 hW h_a k_a er1 s.heap.size) h_a k_a (by decide) rfl rfl km_X12_sumClass ki_X12_sumClass qm_X12_341 ⟨(Nat.le_of_ble_eq_true rfl), (Nat.le_of_ble_eq_true rfl)⟩ rfl hl.1 rfl (Nat.le_of_ble_eq_true rfl) ⟨Nat.zero_le _, Nat.zero_le _⟩ dX12_sums__3) hS (fun H locs hP hS hW => ?_)
  refine lv_istore (lv' := [(6, .int r1), (0, .ref a), (1, .int p0), (2, .int p1), (3, .int p2), (4, .int p3), (5, .int p4)]) hx hb dX12_sums__6 hl (by decide) rfl (fun ls hl => ?_)
  refine lv_aload_n hx hb dX12_sums__8 rfl (lv_at hl 1 rfl) ?_
  refine lv_iload_n hx hb dX12_sums__9 rfl (lv_at hl 2 rfl) ?_
  refine lv_iload_n hx hb dX12_sums__10 rfl (lv_at hl 4 rfl) ?_
  obtain ⟨r2, er2, hf⟩ := bd1_e hf
  refine x_aft_i (x_runV (As := [.int p0, .int p2]) (rest := []) C hP hS (c_X12_sumClass (l := l) C.2.2.2.2.2.2.2.2.2.1 hW h_a k_a er2 H.size) h_a k_a (by decide) rfl rfl km_X12_sumClass ki_X12_sumClass qm_X12_341 ⟨(Nat.le_of_ble_eq_true rfl), (Nat.le_of_ble_eq_true rfl)⟩ rfl hl.1 rfl (Nat.le_of_ble_eq_true rfl) ⟨Nat.zero_le _, Nat.zero_le _⟩ dX12_sums__11) hS (fun H locs hP hS hW => ?_)
  refine lv_istore (lv' := [(7, .int r2), (6, .int r1), (0, .ref a), (1, .int p0), (2, .int p1), (3, .int p2), (4, .int p3), (5, .int p4)]) hx hb dX12_sums__14 hl (by decide) rfl (fun ls hl => ?_)
  refine lv_aload_n hx hb dX12_sums__16 rfl (lv_at hl 2 rfl) ?_
  refine lv_iload_n hx hb dX12_sums__17 rfl (lv_at hl 3 rfl) ?_
  refine lv_iload hx hb dX12_sums__18 (lv_at hl 6 rfl) ?_
  obtain ⟨r3, er3, hf⟩ := bd1_e hf
  refine x_aft_i (x_runV (As := [.int p0, .int p3]) (rest := []) C hP hS (c_X12_sumClass (l := l) C.2.2.2.2.2.2.2.2.2.1 hW h_a k_a er3 H.size) h_a k_a (by decide) rfl rfl km_X12_sumClass ki_X12_sumClass qm_X12_341 ⟨(Nat.le_of_ble_eq_true rfl), (Nat.le_of_ble_eq_true rfl)⟩ rfl hl.1 rfl (Nat.le_of_ble_eq_true rfl) ⟨Nat.zero_le _, Nat.zero_le _⟩ dX12_sums__20) hS (fun H locs hP hS hW => ?_)
  refine lv_istore (lv' := [(8, .int r3), (7, .int r2), (6, .int r1), (0, .ref a), (1, .int p0), (2, .int p1), (3, .int p2), (4, .int p3), (5, .int p4)]) hx hb dX12_sums__23 hl (by decide) rfl (fun ls hl => ?_)
  refine lv_aload_n hx hb dX12_sums__25 rfl (lv_at hl 3 rfl) ?_
  refine lv_iload_n hx hb dX12_sums__26 rfl (lv_at hl 4 rfl) ?_
  refine lv_iload_n hx hb dX12_sums__27 rfl (lv_at hl 5 rfl) ?_
  obtain ⟨r4, er4, hf⟩ := bd1_e hf
  refine x_aft_z (x_runV (As := [.int p0, .int p1]) (rest := []) C hP hS (c_X12_isMinus (l := l) C.2.2.2.2.2.2.2.2.2.1 hW h_a k_a er4 H.size) h_a k_a (by decide) rfl rfl km_X12_isMinus ki_X12_isMinus qm_X12_283 ⟨(Nat.le_of_ble_eq_true rfl), (Nat.le_of_ble_eq_true rfl)⟩ rfl hl.1 rfl (Nat.le_of_ble_eq_true rfl) ⟨Nat.zero_le _, Nat.zero_le _⟩ dX12_sums__28) hS (fun H locs hP hS hW z5 => ?_)
  refine lv_aload_n hx hb dX12_sums__31 rfl (lv_at hl 3 rfl) ?_
  refine lv_iload_n hx hb dX12_sums__32 rfl (lv_at hl 4 rfl) ?_
  refine lv_iload_n hx hb dX12_sums__33 rfl (lv_at hl 6 rfl) ?_
  obtain ⟨r6, er6, hf⟩ := bd1_e hf
  refine x_aft_z (x_runV (As := [.int p0, .int p2]) (rest := [.int r4]) C hP hS (c_X12_isMinus (l := l) C.2.2.2.2.2.2.2.2.2.1 hW h_a k_a er6 H.size) h_a k_a (by decide) rfl rfl km_X12_isMinus ki_X12_isMinus qm_X12_283 ⟨(Nat.le_of_ble_eq_true rfl), (Nat.le_of_ble_eq_true rfl)⟩ rfl hl.1 rfl (Nat.le_of_ble_eq_true rfl) ⟨Nat.zero_le _, Nat.zero_le _⟩ dX12_sums__34) hS (fun H locs hP hS hW z7 => ?_)
  refine lv_icmp_eq (tgt := 44) hx hb dX12_sums__37 (by decide) (fun c8 => ?_) (fun c8 => ?_)
  · have hf := if_t c8 hf
    refine lv_iconst (v := 0) hx hb dX12_sums__44 rfl ?_
    exact b_X12_sums__45 C a p0 p1 p2 p3 p4 r1 r2 r3 0 h_a k_a S H locs _ hf hP hS hW (lv_sub hl [3, 4, 5, 6, 7, 8, 2, 1, 0] rfl)
  · have hf := if_f c8 hf
    refine lv_iconst (v := 1) hx hb dX12_sums__40 rfl ?_
    refine lv_goto (tgt := 45) hx hb dX12_sums__41 (by decide) ?_
    exact b_X12_sums__45 C a p0 p1 p2 p3 p4 r1 r2 r3 1 h_a k_a S H locs _ hf hP hS hW (lv_sub hl [3, 4, 5, 6, 7, 8, 2, 1, 0] rfl)
