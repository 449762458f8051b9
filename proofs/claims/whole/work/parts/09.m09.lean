def s_X12_cutAll_J44 (N : Nat → Nat) (F : Nat) (k17 : Nat → Int32 → Int32 → HS → Option HS) (v0 : Nat) (v1 : Int32) (v2 : Int32) (S : HS) : Option HS :=
  bnd (v2 + Int32.ofInt 1 : Int32) fun x8 =>
  k17 v0 v1 x8 S
def s_X12_cutAll_J265 (N : Nat → Nat) (F : Nat) (k17 : Nat → Int32 → Int32 → HS → Option HS) (v0 : Nat) (v1 : Int32) (v2 : Int32) (v5 : Int64) (S : HS) : Option HS :=
  bd1 (gR S 1206 v0) fun t24 =>
  if inB v1 (N t24) = true then
  bnd (wJ S t24 (v1.toNatClampNeg) v5) fun S26 =>
  bnd (v1 + Int32.ofInt 1 : Int32) fun x27 =>
  k17 v0 x27 v2 S26
  else none
def s_X12_cutAll_J261 (N : Nat → Nat) (F : Nat) (k17 : Nat → Int32 → Int32 → HS → Option HS) (v0 : Nat) (v1 : Int32) (v2 : Int32) (v5 : Int64) (w0 : Nat) (w1 : Int32) (w2 : Int32) (S : HS) : Option HS :=
  if inB w1 (N w0) = true then
  bnd (wI S w0 (w1.toNatClampNeg) w2) fun S22 =>
  bnd (v2 + Int32.ofInt 1 : Int32) fun x23 =>
  s_X12_cutAll_J265 N F k17 v0 v1 x23 v5 S22
  else none
def s_X12_cutAll_J210 (N : Nat → Nat) (F : Nat) (k159 : Nat → Int32 → Int32 → Int32 → Int64 → HS → Option HS) (v0 : Nat) (v1 : Int32) (v2 : Int32) (v4 : Int32) (w0 : Int64) (S : HS) : Option HS :=
  bnd (v2 + Int32.ofInt 1 : Int32) fun x34 =>
  k159 v0 v1 x34 v4 w0 S
def s_X12_cutAll_L159 (N : Nat → Nat) (F : Nat) (k218 : Nat → Int32 → Int32 → Int32 → Int64 → HS → Option HS) : Nat → Nat → Int32 → Int32 → Int32 → Int64 → HS → Option HS
  | 0, _, _, _, _, _, _ => none
  | n + 1, v0, v1, v2, v4, v5, S => if (gI S 1203 v0) ≤ v2 then
  k218 v0 v1 v2 v4 v5 S
  else
  bd1 (gR S 1201 v0) fun t29 =>
  if inB v2 (N t29) = true then
  if (s_X12_isDigit (aI S t29 v2.toNatClampNeg) S) = (0 : Int32) then
  k218 v0 v1 v2 v4 v5 S
  else
  if (4 : Int32) ≤ (v2 - v4) then
  s_X12_cutAll_J210 N F (s_X12_cutAll_L159 N F k218 n) v0 v1 v2 v4 v5 S
  else
  bd1 (gR S 1201 v0) fun t35 =>
  if inB v2 (N t35) = true then
  s_X12_cutAll_J210 N F (s_X12_cutAll_L159 N F k218 n) v0 v1 v2 v4 (((10 * v5) + ((aI S t35 v2.toNatClampNeg).toInt64)) - 48) S
  else none
  else none
def s_X12_cutAll_J236 (N : Nat → Nat) (F : Nat) (k17 : Nat → Int32 → Int32 → HS → Option HS) (v0 : Nat) (v1 : Int32) (v2 : Int32) (v5 : Int64) (w0 : Nat) (w1 : Int32) (w2 : Int32) (S : HS) : Option HS :=
  if inB w1 (N w0) = true then
  bnd (wI S w0 (w1.toNatClampNeg) w2) fun S40 =>
  s_X12_cutAll_J265 N F k17 v0 v1 v2 v5 S40
  else none
def s_X12_cutAll_J218 (N : Nat → Nat) (F : Nat) (k17 : Nat → Int32 → Int32 → HS → Option HS) (v0 : Nat) (v1 : Int32) (v2 : Int32) (v4 : Int32) (v5 : Int64) (S : HS) : Option HS :=
  bd1 (gR S 1204 v0) fun t37 =>
  if (v2 - v4) ≤ (4 : Int32) then
  s_X12_cutAll_J236 N F k17 v0 v1 v2 v5 t37 v1 2 S
  else
  s_X12_cutAll_J236 N F k17 v0 v1 v2 v5 t37 v1 4 S
def s_X12_cutAll_J121 (N : Nat → Nat) (F : Nat) (k70 : Nat → Int32 → Int32 → Int32 → Int64 → HS → Option HS) (v0 : Nat) (v1 : Int32) (v2 : Int32) (v4 : Int32) (w0 : Int64) (S : HS) : Option HS :=
  bnd (v2 + Int32.ofInt 1 : Int32) fun x47 =>
  k70 v0 v1 x47 v4 w0 S
def s_X12_cutAll_L70 (N : Nat → Nat) (F : Nat) (k129 : Nat → Int32 → Int32 → Int32 → Int64 → HS → Option HS) : Nat → Nat → Int32 → Int32 → Int32 → Int64 → HS → Option HS
  | 0, _, _, _, _, _, _ => none
  | n + 1, v0, v1, v2, v4, v5, S => if (gI S 1203 v0) ≤ v2 then
  k129 v0 v1 v2 v4 v5 S
  else
  bd1 (gR S 1201 v0) fun t42 =>
  if inB v2 (N t42) = true then
  if (s_X12_isLetter (aI S t42 v2.toNatClampNeg) S) = (0 : Int32) then
  k129 v0 v1 v2 v4 v5 S
  else
  if (8 : Int32) ≤ (v2 - v4) then
  s_X12_cutAll_J121 N F (s_X12_cutAll_L70 N F k129 n) v0 v1 v2 v4 v5 S
  else
  bd1 (gR S 1201 v0) fun t48 =>
  if inB v2 (N t48) = true then
  s_X12_cutAll_J121 N F (s_X12_cutAll_L70 N F k129 n) v0 v1 v2 v4 ((37 * v5) + ((s_X12_rank (aI S t48 v2.toNatClampNeg) S).toInt64)) S
  else none
  else none
def s_X12_cutAll_J148 (N : Nat → Nat) (F : Nat) (k17 : Nat → Int32 → Int32 → HS → Option HS) (v0 : Nat) (v1 : Int32) (v2 : Int32) (v5 : Int64) (w0 : Nat) (w1 : Int32) (w2 : Int32) (S : HS) : Option HS :=
  if inB w1 (N w0) = true then
  bnd (wI S w0 (w1.toNatClampNeg) w2) fun S53 =>
  s_X12_cutAll_J265 N F k17 v0 v1 v2 v5 S53
  else none
def s_X12_cutAll_J129 (N : Nat → Nat) (F : Nat) (k17 : Nat → Int32 → Int32 → HS → Option HS) (v0 : Nat) (v1 : Int32) (v2 : Int32) (v4 : Int32) (v5 : Int64) (S : HS) : Option HS :=
  bd1 (gR S 1204 v0) fun t50 =>
  if (v2 - v4) ≤ (8 : Int32) then
  s_X12_cutAll_J148 N F k17 v0 v1 v2 v5 t50 v1 1 S
  else
  s_X12_cutAll_J148 N F k17 v0 v1 v2 v5 t50 v1 4 S
def s_X12_cutAll_L17 (N : Nat → Nat) (F : Nat) (k279 : Nat → Int32 → HS → Option HS) : Nat → Nat → Int32 → Int32 → HS → Option HS
  | 0, _, _, _, _ => none
  | n + 1, v0, v1, v2, S => if (gI S 1203 v0) ≤ v2 then
  k279 v0 v1 S
  else
  bd1 (gR S 1201 v0) fun t4 =>
  if inB v2 (N t4) = true then
  bnd (aI S t4 v2.toNatClampNeg : Int32) fun x6 =>
  if x6 = (10 : Int32) then
  s_X12_cutAll_J44 N F (s_X12_cutAll_L17 N F k279 n) v0 v1 v2 S
  else
  if x6 = (32 : Int32) then
  s_X12_cutAll_J44 N F (s_X12_cutAll_L17 N F k279 n) v0 v1 v2 S
  else
  bd1 (gR S 1205 v0) fun t10 =>
  if inB v1 (N t10) = true then
  bnd (wI S t10 (v1.toNatClampNeg) v2) fun S12 =>
  if (s_X12_isLetter x6 S12) = (0 : Int32) then
  if (s_X12_isDigit x6 S12) = (0 : Int32) then
  bnd (x6.toInt64 : Int64) fun x17 =>
  bd1 (gR S12 1204 v0) fun t18 =>
  if (s_X12_isSignOf x6 S12) = (0 : Int32) then
  s_X12_cutAll_J261 N F (s_X12_cutAll_L17 N F k279 n) v0 v1 v2 x17 t18 v1 4 S12
  else
  s_X12_cutAll_J261 N F (s_X12_cutAll_L17 N F k279 n) v0 v1 v2 x17 t18 v1 3 S12
  else
  s_X12_cutAll_L159 N F (s_X12_cutAll_J218 N F (s_X12_cutAll_L17 N F k279 n)) F v0 v1 v2 v2 0 S12
  else
  s_X12_cutAll_L70 N F (s_X12_cutAll_J129 N F (s_X12_cutAll_L17 N F k279 n)) F v0 v1 v2 v2 0 S12
  else none
  else none
def s_X12_cutAll_J279 (N : Nat → Nat) (F : Nat) (v0 : Nat) (v1 : Int32) (S : HS) : Option HS :=
  bd1 (gR S 1204 v0) fun t54 =>
  if inB v1 (N t54) = true then
  bnd (wI S t54 (v1.toNatClampNeg) 0) fun S56 =>
  bd1 (gR S56 1205 v0) fun t57 =>
  if inB v1 (N t57) = true then
  bnd (wI S56 t57 (v1.toNatClampNeg) (gI S56 1203 v0)) fun S59 =>
  bnd (uI S59 1207 v0 0) fun S60 =>
  bnd (uI S60 1208 v0 0) fun S61 =>
  some S61
  else none
  else none
def s_X12_cutAll (N : Nat → Nat) (F : Nat) (a : Nat) (S : HS) : Option HS :=
  bnd (uI S 1203 a (gI S 1202 a)) fun S1 =>
  bnd (uI S1 1202 a 0) fun S2 =>
  s_X12_cutAll_L17 N F (s_X12_cutAll_J279 N F) F a 0 0 S2
set_option maxRecDepth 100000 in
set_option maxHeartbeats 4000000 in
theorem b_X12_cutAll_44 {p : Program} {l : Launch} {e : Env} {s : State} {m : MethodId} {args : Array Value} {below : List Frame} {meth : Method} {c : Code} {V : EV} {G : GS} {S' : HS} {F : Nat} (C : CX p s m args meth c RX12 cX12_cutAll 7 none V G) {k17 : Nat → Int32 → Int32 → HS → Option HS} (hk17 : ∀ (v0 : Nat) (v1 : Int32) (v2 : Int32) (h_v0 : v0 ∈ G.1) (k_v0 : G.2.1 v0 = 12) (S : HS) (H : Heap) (locs : List Loc) (ls : Array Slot), k17 v0 v1 v2 S = some S' → HP V G S H → va_S (AG G s.heap.size) s.heap H locs → WT G S → lv_has ls 7 [(0, .ref v0), (1, .int v1), (2, .int v2)] → W p l e (RM 2 56) s m args below meth c H locs 0 0 (MQ below (QV V G S' s.heap.size) args s 0 0 (AG G s.heap.size)) (F0 m 17 ls [])) : ∀ (v0 : Nat) (v1 : Int32) (v2 : Int32) (h_v0 : v0 ∈ G.1) (k_v0 : G.2.1 v0 = 12) (S : HS) (H : Heap) (locs : List Loc) (ls : Array Slot), s_X12_cutAll_J44 G.2.2 F k17 v0 v1 v2 S = some S' → HP V G S H → va_S (AG G s.heap.size) s.heap H locs → WT G S → lv_has ls 7 [(0, .ref v0), (1, .int v1), (2, .int v2)] → W p l e (RM 2 56) s m args below meth c H locs 0 0 (MQ below (QV V G S' s.heap.size) args s 0 0 (AG G s.heap.size)) (F0 m 44 ls []) := by
  intro v0 v1 v2 h_v0 k_v0 S H locs ls hf hP hS hW hl
  have hx := C.1
  have hb := C.2.1
  unfold s_X12_cutAll_J44 at hf
  obtain ⟨x8, ex8, hf⟩ := bnd_e hf
  refine lv_iinc (v := x8) (lv' := [(2, .int x8), (0, .ref v0), (1, .int v1)]) hx hb dX12_cutAll_44 hl (k := 2) rfl ex8.symm (by decide) rfl (fun ls hl => ?_)
  refine lv_goto (tgt := 17) hx hb dX12_cutAll_47 (by decide) ?_
  exact hk17 v0 v1 x8 h_v0 k_v0 S H locs _ hf hP hS hW (lv_sub hl [1, 2, 0] rfl)
set_option maxRecDepth 100000 in
set_option maxHeartbeats 4000000 in
theorem b_X12_cutAll_265 {p : Program} {l : Launch} {e : Env} {s : State} {m : MethodId} {args : Array Value} {below : List Frame} {meth : Method} {c : Code} {V : EV} {G : GS} {S' : HS} {F : Nat} (C : CX p s m args meth c RX12 cX12_cutAll 7 none V G) {k17 : Nat → Int32 → Int32 → HS → Option HS} (hk17 : ∀ (v0 : Nat) (v1 : Int32) (v2 : Int32) (h_v0 : v0 ∈ G.1) (k_v0 : G.2.1 v0 = 12) (S : HS) (H : Heap) (locs : List Loc) (ls : Array Slot), k17 v0 v1 v2 S = some S' → HP V G S H → va_S (AG G s.heap.size) s.heap H locs → WT G S → lv_has ls 7 [(0, .ref v0), (1, .int v1), (2, .int v2)] → W p l e (RM 2 56) s m args below meth c H locs 0 0 (MQ below (QV V G S' s.heap.size) args s 0 0 (AG G s.heap.size)) (F0 m 17 ls [])) : ∀ (v0 : Nat) (v1 : Int32) (v2 : Int32) (v5 : Int64) (h_v0 : v0 ∈ G.1) (k_v0 : G.2.1 v0 = 12) (S : HS) (H : Heap) (locs : List Loc) (ls : Array Slot), s_X12_cutAll_J265 G.2.2 F k17 v0 v1 v2 v5 S = some S' → HP V G S H → va_S (AG G s.heap.size) s.heap H locs → WT G S → lv_has ls 7 [(0, .ref v0), (1, .int v1), (2, .int v2), (5, .long v5)] → W p l e (RM 2 56) s m args below meth c H locs 0 0 (MQ below (QV V G S' s.heap.size) args s 0 0 (AG G s.heap.size)) (F0 m 265 ls []) := by
  intro v0 v1 v2 v5 h_v0 k_v0 S H locs ls hf hP hS hW hl
  have hx := C.1
  have hb := C.2.1
  unfold s_X12_cutAll_J265 at hf
  refine lv_aload_n hx hb dX12_cutAll_265 rfl (lv_at hl 0 rfl) ?_
  refine gf_X12_30 C hP h_v0 k_v0 dX12_cutAll_266 ?_
  obtain ⟨t24, et24, hf⟩ := bd1_e hf
  obtain ⟨h_t24, k_t24⟩ := wt_r hW h_v0 k_v0 (by decide) et24
  have k_t24 : G.2.1 t24 = 15 := k_t24
  rw [et24]
  refine lv_iload_n hx hb dX12_cutAll_269 rfl (lv_at hl 1 rfl) ?_
  refine lv_lload hx hb dX12_cutAll_270 (lv_at hl 3 rfl) ?_
  obtain ⟨h25, hf⟩ := if_s hf
  obtain ⟨S26, eS26, hf⟩ := bnd_e hf
  refine x_last C hP hS h_t24 k_t24 h25 eS26 dX12_cutAll_272 (fun H locs hP hS => ?_)
  have hW : WT G S26 := by rw [eS26]; exact hW
  obtain ⟨x27, ex27, hf⟩ := bnd_e hf
  refine lv_iinc (v := x27) (lv' := [(1, .int x27), (0, .ref v0), (2, .int v2), (5, .long v5)]) hx hb dX12_cutAll_273 hl (k := 1) rfl ex27.symm (by decide) rfl (fun ls hl => ?_)
  refine lv_goto (tgt := 17) hx hb dX12_cutAll_276 (by decide) ?_
  exact hk17 v0 x27 v2 h_v0 k_v0 S26 H locs _ hf hP hS hW (lv_sub hl [1, 0, 2] rfl)
set_option maxRecDepth 100000 in
set_option maxHeartbeats 4000000 in
theorem b_X12_cutAll_261 {p : Program} {l : Launch} {e : Env} {s : State} {m : MethodId} {args : Array Value} {below : List Frame} {meth : Method} {c : Code} {V : EV} {G : GS} {S' : HS} {F : Nat} (C : CX p s m args meth c RX12 cX12_cutAll 7 none V G) {k17 : Nat → Int32 → Int32 → HS → Option HS} (hk17 : ∀ (v0 : Nat) (v1 : Int32) (v2 : Int32) (h_v0 : v0 ∈ G.1) (k_v0 : G.2.1 v0 = 12) (S : HS) (H : Heap) (locs : List Loc) (ls : Array Slot), k17 v0 v1 v2 S = some S' → HP V G S H → va_S (AG G s.heap.size) s.heap H locs → WT G S → lv_has ls 7 [(0, .ref v0), (1, .int v1), (2, .int v2)] → W p l e (RM 2 56) s m args below meth c H locs 0 0 (MQ below (QV V G S' s.heap.size) args s 0 0 (AG G s.heap.size)) (F0 m 17 ls [])) : ∀ (v0 : Nat) (v1 : Int32) (v2 : Int32) (v5 : Int64) (w0 : Nat) (w1 : Int32) (w2 : Int32) (h_v0 : v0 ∈ G.1) (k_v0 : G.2.1 v0 = 12) (h_w0 : w0 ∈ G.1) (k_w0 : G.2.1 w0 = 14) (S : HS) (H : Heap) (locs : List Loc) (ls : Array Slot), s_X12_cutAll_J261 G.2.2 F k17 v0 v1 v2 v5 w0 w1 w2 S = some S' → HP V G S H → va_S (AG G s.heap.size) s.heap H locs → WT G S → lv_has ls 7 [(0, .ref v0), (1, .int v1), (2, .int v2), (5, .long v5)] → W p l e (RM 2 56) s m args below meth c H locs 0 0 (MQ below (QV V G S' s.heap.size) args s 0 0 (AG G s.heap.size)) (F0 m 261 ls [.int w2, .int w1, .ref w0]) := by
  intro v0 v1 v2 v5 w0 w1 w2 h_v0 k_v0 h_w0 k_w0 S H locs ls hf hP hS hW hl
  have hx := C.1
  have hb := C.2.1
  unfold s_X12_cutAll_J261 at hf
  obtain ⟨h21, hf⟩ := if_s hf
  obtain ⟨S22, eS22, hf⟩ := bnd_e hf
  refine x_iast C hP hS h_w0 k_w0 h21 eS22 dX12_cutAll_261 (fun H locs hP hS => ?_)
  have hW : WT G S22 := by rw [eS22]; exact hW
  obtain ⟨x23, ex23, hf⟩ := bnd_e hf
  refine lv_iinc (v := x23) (lv' := [(2, .int x23), (0, .ref v0), (1, .int v1), (5, .long v5)]) hx hb dX12_cutAll_262 hl (k := 2) rfl ex23.symm (by decide) rfl (fun ls hl => ?_)
  exact b_X12_cutAll_265 C hk17 v0 v1 x23 v5 h_v0 k_v0 S22 H locs _ hf hP hS hW (lv_sub hl [1, 2, 0, 3] rfl)
set_option maxRecDepth 100000 in
set_option maxHeartbeats 4000000 in
theorem b_X12_cutAll_210 {p : Program} {l : Launch} {e : Env} {s : State} {m : MethodId} {args : Array Value} {below : List Frame} {meth : Method} {c : Code} {V : EV} {G : GS} {S' : HS} {F : Nat} (C : CX p s m args meth c RX12 cX12_cutAll 7 none V G) {k159 : Nat → Int32 → Int32 → Int32 → Int64 → HS → Option HS} (hk159 : ∀ (v0 : Nat) (v1 : Int32) (v2 : Int32) (v4 : Int32) (v5 : Int64) (h_v0 : v0 ∈ G.1) (k_v0 : G.2.1 v0 = 12) (S : HS) (H : Heap) (locs : List Loc) (ls : Array Slot), k159 v0 v1 v2 v4 v5 S = some S' → HP V G S H → va_S (AG G s.heap.size) s.heap H locs → WT G S → lv_has ls 7 [(0, .ref v0), (1, .int v1), (2, .int v2), (4, .int v4), (5, .long v5)] → W p l e (RM 2 56) s m args below meth c H locs 0 0 (MQ below (QV V G S' s.heap.size) args s 0 0 (AG G s.heap.size)) (F0 m 159 ls [])) : ∀ (v0 : Nat) (v1 : Int32) (v2 : Int32) (v4 : Int32) (w0 : Int64) (h_v0 : v0 ∈ G.1) (k_v0 : G.2.1 v0 = 12) (S : HS) (H : Heap) (locs : List Loc) (ls : Array Slot), s_X12_cutAll_J210 G.2.2 F k159 v0 v1 v2 v4 w0 S = some S' → HP V G S H → va_S (AG G s.heap.size) s.heap H locs → WT G S → lv_has ls 7 [(0, .ref v0), (1, .int v1), (2, .int v2), (4, .int v4)] → W p l e (RM 2 56) s m args below meth c H locs 0 0 (MQ below (QV V G S' s.heap.size) args s 0 0 (AG G s.heap.size)) (F0 m 210 ls [.long w0]) := by
  intro v0 v1 v2 v4 w0 h_v0 k_v0 S H locs ls hf hP hS hW hl
  have hx := C.1
  have hb := C.2.1
  unfold s_X12_cutAll_J210 at hf
  refine lv_lstore (lv' := [(5, .long w0), (0, .ref v0), (1, .int v1), (2, .int v2), (4, .int v4)]) hx hb dX12_cutAll_210 hl (by decide) rfl (fun ls hl => ?_)
  obtain ⟨x34, ex34, hf⟩ := bnd_e hf
  refine lv_iinc (v := x34) (lv' := [(2, .int x34), (5, .long w0), (0, .ref v0), (1, .int v1), (4, .int v4)]) hx hb dX12_cutAll_212 hl (k := 3) rfl ex34.symm (by decide) rfl (fun ls hl => ?_)
  refine lv_goto (tgt := 159) hx hb dX12_cutAll_215 (by decide) ?_
  exact hk159 v0 v1 x34 v4 w0 h_v0 k_v0 S H locs _ hf hP hS hW (lv_sub hl [2, 3, 0, 4, 1] rfl)
set_option maxRecDepth 100000 in
set_option maxHeartbeats 4000000 in
theorem b_X12_cutAll_159 {p : Program} {l : Launch} {e : Env} {s : State} {m : MethodId} {args : Array Value} {below : List Frame} {meth : Method} {c : Code} {V : EV} {G : GS} {S' : HS} {F : Nat} (C : CX p s m args meth c RX12 cX12_cutAll 7 none V G) {k218 : Nat → Int32 → Int32 → Int32 → Int64 → HS → Option HS} (hk218 : ∀ (v0 : Nat) (v1 : Int32) (v2 : Int32) (v4 : Int32) (v5 : Int64) (h_v0 : v0 ∈ G.1) (k_v0 : G.2.1 v0 = 12) (S : HS) (H : Heap) (locs : List Loc) (ls : Array Slot), k218 v0 v1 v2 v4 v5 S = some S' → HP V G S H → va_S (AG G s.heap.size) s.heap H locs → WT G S → lv_has ls 7 [(0, .ref v0), (1, .int v1), (2, .int v2), (4, .int v4), (5, .long v5)] → W p l e (RM 2 56) s m args below meth c H locs 0 0 (MQ below (QV V G S' s.heap.size) args s 0 0 (AG G s.heap.size)) (F0 m 218 ls [])) : ∀ n : Nat, ∀ (v0 : Nat) (v1 : Int32) (v2 : Int32) (v4 : Int32) (v5 : Int64) (h_v0 : v0 ∈ G.1) (k_v0 : G.2.1 v0 = 12) (S : HS) (H : Heap) (locs : List Loc) (ls : Array Slot), s_X12_cutAll_L159 G.2.2 F k218 n v0 v1 v2 v4 v5 S = some S' → HP V G S H → va_S (AG G s.heap.size) s.heap H locs → WT G S → lv_has ls 7 [(0, .ref v0), (1, .int v1), (2, .int v2), (4, .int v4), (5, .long v5)] → W p l e (RM 2 56) s m args below meth c H locs 0 0 (MQ below (QV V G S' s.heap.size) args s 0 0 (AG G s.heap.size)) (F0 m 159 ls []) := by
  intro n
  induction n with
  | zero =>
    intro v0 v1 v2 v4 v5 h_v0 k_v0 S H locs ls hf
    rw [s_X12_cutAll_L159] at hf
    cases hf
  | succ n ih =>
    intro v0 v1 v2 v4 v5 h_v0 k_v0 S H locs ls hf hP hS hW hl
    have hx := C.1
    have hb := C.2.1
    rw [s_X12_cutAll_L159] at hf
    refine lv_iload_n hx hb dX12_cutAll_159 rfl (lv_at hl 2 rfl) ?_
    refine lv_aload_n hx hb dX12_cutAll_160 rfl (lv_at hl 0 rfl) ?_
    refine gf_X12_122 C hP h_v0 k_v0 dX12_cutAll_161 ?_
    refine lv_icmp_ge (tgt := 218) hx hb dX12_cutAll_164 (by decide) (fun c28 => ?_) (fun c28 => ?_)
    · have hf := if_t c28 hf
      exact hk218 v0 v1 v2 v4 v5 h_v0 k_v0 S H locs _ hf hP hS hW (lv_sub hl [0, 1, 2, 3, 4] rfl)
    · have hf := if_f c28 hf
      refine lv_aload_n hx hb dX12_cutAll_167 rfl (lv_at hl 0 rfl) ?_
      refine gf_X12_14 C hP h_v0 k_v0 dX12_cutAll_168 ?_
      obtain ⟨t29, et29, hf⟩ := bd1_e hf
      obtain ⟨h_t29, k_t29⟩ := wt_r hW h_v0 k_v0 (by decide) et29
      have k_t29 : G.2.1 t29 = 14 := k_t29
      rw [et29]
      refine lv_iload_n hx hb dX12_cutAll_171 rfl (lv_at hl 2 rfl) ?_
      obtain ⟨h30, hf⟩ := if_s hf
      refine x_iald C hP h_t29 k_t29 h30 dX12_cutAll_172 ?_
      refine x_aft_z (x_runS (As := [.int (aI S t29 v2.toNatClampNeg)]) (rest := []) C hP hS (c_X12_isDigit (l := l) C.2.2.2.2.2.2.2.2.2.1 hW rfl H.size) km_X12_isDigit ks_X12_isDigit qm_X12_131 ⟨(Nat.le_of_ble_eq_true rfl), (Nat.le_of_ble_eq_true rfl)⟩ rfl hl.1 rfl (Nat.le_of_ble_eq_true rfl) ⟨Nat.zero_le _, Nat.zero_le _⟩ dX12_cutAll_173) hS (fun H locs hP hS hW z31 => ?_)
      refine lv_if_eq (tgt := 218) hx hb dX12_cutAll_176 (by decide) (fun c32 => ?_) (fun c32 => ?_)
      · have hf := if_t c32 hf
        exact hk218 v0 v1 v2 v4 v5 h_v0 k_v0 S H locs _ hf hP hS hW (lv_sub hl [0, 1, 2, 3, 4] rfl)
      · have hf := if_f c32 hf
        refine lv_iload_n hx hb dX12_cutAll_179 rfl (lv_at hl 2 rfl) ?_
        refine lv_iload hx hb dX12_cutAll_180 (lv_at hl 3 rfl) ?_
        refine lv_isub hx hb dX12_cutAll_182 ?_
        refine lv_iconst (v := 4) hx hb dX12_cutAll_183 rfl ?_
        refine lv_icmp_ge (tgt := 208) hx hb dX12_cutAll_184 (by decide) (fun c33 => ?_) (fun c33 => ?_)
        · have hf := if_t c33 hf
          refine lv_lload hx hb dX12_cutAll_208 (lv_at hl 4 rfl) ?_
          exact b_X12_cutAll_210 C ih v0 v1 v2 v4 v5 h_v0 k_v0 S H locs _ hf hP hS hW (lv_sub hl [0, 1, 2, 3] rfl)
        · have hf := if_f c33 hf
          refine lv_ldc2 (v := 10) hx hb C.2.2.2.2.1 (C.2.2.2.2.2.1 _ qc_X12_134) dX12_cutAll_187 ?_
          refine lv_lload hx hb dX12_cutAll_190 (lv_at hl 4 rfl) ?_
          refine lv_lmul hx hb dX12_cutAll_192 ?_
          refine lv_aload_n hx hb dX12_cutAll_193 rfl (lv_at hl 0 rfl) ?_
          refine gf_X12_14 C hP h_v0 k_v0 dX12_cutAll_194 ?_
          obtain ⟨t35, et35, hf⟩ := bd1_e hf
          obtain ⟨h_t35, k_t35⟩ := wt_r hW h_v0 k_v0 (by decide) et35
          have k_t35 : G.2.1 t35 = 14 := k_t35
          rw [et35]
          refine lv_iload_n hx hb dX12_cutAll_197 rfl (lv_at hl 2 rfl) ?_
          obtain ⟨h36, hf⟩ := if_s hf
          refine x_iald C hP h_t35 k_t35 h36 dX12_cutAll_198 ?_
          refine lv_i2l hx hb dX12_cutAll_199 rfl ?_
          refine lv_ladd hx hb dX12_cutAll_200 ?_
          refine lv_ldc2 (v := 48) hx hb C.2.2.2.2.1 (C.2.2.2.2.2.1 _ qc_X12_136) dX12_cutAll_201 ?_
          refine lv_lsub hx hb dX12_cutAll_204 ?_
          refine lv_goto (tgt := 210) hx hb dX12_cutAll_205 (by decide) ?_
          exact b_X12_cutAll_210 C ih v0 v1 v2 v4 (((10 * v5) + ((aI S t35 v2.toNatClampNeg).toInt64)) - 48) h_v0 k_v0 S H locs _ hf hP hS hW (lv_sub hl [0, 1, 2, 3] rfl)
set_option maxRecDepth 100000 in
set_option maxHeartbeats 4000000 in
theorem b_X12_cutAll_236 {p : Program} {l : Launch} {e : Env} {s : State} {m : MethodId} {args : Array Value} {below : List Frame} {meth : Method} {c : Code} {V : EV} {G : GS} {S' : HS} {F : Nat} (C : CX p s m args meth c RX12 cX12_cutAll 7 none V G) {k17 : Nat → Int32 → Int32 → HS → Option HS} (hk17 : ∀ (v0 : Nat) (v1 : Int32) (v2 : Int32) (h_v0 : v0 ∈ G.1) (k_v0 : G.2.1 v0 = 12) (S : HS) (H : Heap) (locs : List Loc) (ls : Array Slot), k17 v0 v1 v2 S = some S' → HP V G S H → va_S (AG G s.heap.size) s.heap H locs → WT G S → lv_has ls 7 [(0, .ref v0), (1, .int v1), (2, .int v2)] → W p l e (RM 2 56) s m args below meth c H locs 0 0 (MQ below (QV V G S' s.heap.size) args s 0 0 (AG G s.heap.size)) (F0 m 17 ls [])) : ∀ (v0 : Nat) (v1 : Int32) (v2 : Int32) (v5 : Int64) (w0 : Nat) (w1 : Int32) (w2 : Int32) (h_v0 : v0 ∈ G.1) (k_v0 : G.2.1 v0 = 12) (h_w0 : w0 ∈ G.1) (k_w0 : G.2.1 w0 = 14) (S : HS) (H : Heap) (locs : List Loc) (ls : Array Slot), s_X12_cutAll_J236 G.2.2 F k17 v0 v1 v2 v5 w0 w1 w2 S = some S' → HP V G S H → va_S (AG G s.heap.size) s.heap H locs → WT G S → lv_has ls 7 [(0, .ref v0), (1, .int v1), (2, .int v2), (5, .long v5)] → W p l e (RM 2 56) s m args below meth c H locs 0 0 (MQ below (QV V G S' s.heap.size) args s 0 0 (AG G s.heap.size)) (F0 m 236 ls [.int w2, .int w1, .ref w0]) := by
  intro v0 v1 v2 v5 w0 w1 w2 h_v0 k_v0 h_w0 k_w0 S H locs ls hf hP hS hW hl
  have hx := C.1
  have hb := C.2.1
  unfold s_X12_cutAll_J236 at hf
  obtain ⟨h39, hf⟩ := if_s hf
  obtain ⟨S40, eS40, hf⟩ := bnd_e hf
  refine x_iast C hP hS h_w0 k_w0 h39 eS40 dX12_cutAll_236 (fun H locs hP hS => ?_)
  have hW : WT G S40 := by rw [eS40]; exact hW
  refine lv_goto (tgt := 265) hx hb dX12_cutAll_237 (by decide) ?_
  exact b_X12_cutAll_265 C hk17 v0 v1 v2 v5 h_v0 k_v0 S40 H locs _ hf hP hS hW (lv_sub hl [0, 1, 2, 3] rfl)
set_option maxRecDepth 100000 in
set_option maxHeartbeats 4000000 in
theorem b_X12_cutAll_218 {p : Program} {l : Launch} {e : Env} {s : State} {m : MethodId} {args : Array Value} {below : List Frame} {meth : Method} {c : Code} {V : EV} {G : GS} {S' : HS} {F : Nat} (C : CX p s m args meth c RX12 cX12_cutAll 7 none V G) {k17 : Nat → Int32 → Int32 → HS → Option HS} (hk17 : ∀ (v0 : Nat) (v1 : Int32) (v2 : Int32) (h_v0 : v0 ∈ G.1) (k_v0 : G.2.1 v0 = 12) (S : HS) (H : Heap) (locs : List Loc) (ls : Array Slot), k17 v0 v1 v2 S = some S' → HP V G S H → va_S (AG G s.heap.size) s.heap H locs → WT G S → lv_has ls 7 [(0, .ref v0), (1, .int v1), (2, .int v2)] → W p l e (RM 2 56) s m args below meth c H locs 0 0 (MQ below (QV V G S' s.heap.size) args s 0 0 (AG G s.heap.size)) (F0 m 17 ls [])) : ∀ (v0 : Nat) (v1 : Int32) (v2 : Int32) (v4 : Int32) (v5 : Int64) (h_v0 : v0 ∈ G.1) (k_v0 : G.2.1 v0 = 12) (S : HS) (H : Heap) (locs : List Loc) (ls : Array Slot), s_X12_cutAll_J218 G.2.2 F k17 v0 v1 v2 v4 v5 S = some S' → HP V G S H → va_S (AG G s.heap.size) s.heap H locs → WT G S → lv_has ls 7 [(0, .ref v0), (1, .int v1), (2, .int v2), (4, .int v4), (5, .long v5)] → W p l e (RM 2 56) s m args below meth c H locs 0 0 (MQ below (QV V G S' s.heap.size) args s 0 0 (AG G s.heap.size)) (F0 m 218 ls []) := by
  intro v0 v1 v2 v4 v5 h_v0 k_v0 S H locs ls hf hP hS hW hl
  have hx := C.1
  have hb := C.2.1
  unfold s_X12_cutAll_J218 at hf
  refine lv_aload_n hx hb dX12_cutAll_218 rfl (lv_at hl 0 rfl) ?_
  refine gf_X12_24 C hP h_v0 k_v0 dX12_cutAll_219 ?_
  obtain ⟨t37, et37, hf⟩ := bd1_e hf
  obtain ⟨h_t37, k_t37⟩ := wt_r hW h_v0 k_v0 (by decide) et37
  have k_t37 : G.2.1 t37 = 14 := k_t37
  rw [et37]
  refine lv_iload_n hx hb dX12_cutAll_222 rfl (lv_at hl 1 rfl) ?_
  refine lv_iload_n hx hb dX12_cutAll_223 rfl (lv_at hl 2 rfl) ?_
  refine lv_iload hx hb dX12_cutAll_224 (lv_at hl 3 rfl) ?_
  refine lv_isub hx hb dX12_cutAll_226 ?_
  refine lv_iconst (v := 4) hx hb dX12_cutAll_227 rfl ?_
  refine lv_icmp_le (tgt := 235) hx hb dX12_cutAll_228 (by decide) (fun c38 => ?_) (fun c38 => ?_)
  · have hf := if_t c38 hf
    refine lv_iconst (v := 2) hx hb dX12_cutAll_235 rfl ?_
    exact b_X12_cutAll_236 C hk17 v0 v1 v2 v5 t37 v1 2 h_v0 k_v0 h_t37 k_t37 S H locs _ hf hP hS hW (lv_sub hl [0, 1, 2, 4] rfl)
  · have hf := if_f c38 hf
    refine lv_iconst (v := 4) hx hb dX12_cutAll_231 rfl ?_
    refine lv_goto (tgt := 236) hx hb dX12_cutAll_232 (by decide) ?_
    exact b_X12_cutAll_236 C hk17 v0 v1 v2 v5 t37 v1 4 h_v0 k_v0 h_t37 k_t37 S H locs _ hf hP hS hW (lv_sub hl [0, 1, 2, 4] rfl)
set_option maxRecDepth 100000 in
set_option maxHeartbeats 4000000 in
theorem b_X12_cutAll_121 {p : Program} {l : Launch} {e : Env} {s : State} {m : MethodId} {args : Array Value} {below : List Frame} {meth : Method} {c : Code} {V : EV} {G : GS} {S' : HS} {F : Nat} (C : CX p s m args meth c RX12 cX12_cutAll 7 none V G) {k70 : Nat → Int32 → Int32 → Int32 → Int64 → HS → Option HS} (hk70 : ∀ (v0 : Nat) (v1 : Int32) (v2 : Int32) (v4 : Int32) (v5 : Int64) (h_v0 : v0 ∈ G.1) (k_v0 : G.2.1 v0 = 12) (S : HS) (H : Heap) (locs : List Loc) (ls : Array Slot), k70 v0 v1 v2 v4 v5 S = some S' → HP V G S H → va_S (AG G s.heap.size) s.heap H locs → WT G S → lv_has ls 7 [(0, .ref v0), (1, .int v1), (2, .int v2), (4, .int v4), (5, .long v5)] → W p l e (RM 2 56) s m args below meth c H locs 0 0 (MQ below (QV V G S' s.heap.size) args s 0 0 (AG G s.heap.size)) (F0 m 70 ls [])) : ∀ (v0 : Nat) (v1 : Int32) (v2 : Int32) (v4 : Int32) (w0 : Int64) (h_v0 : v0 ∈ G.1) (k_v0 : G.2.1 v0 = 12) (S : HS) (H : Heap) (locs : List Loc) (ls : Array Slot), s_X12_cutAll_J121 G.2.2 F k70 v0 v1 v2 v4 w0 S = some S' → HP V G S H → va_S (AG G s.heap.size) s.heap H locs → WT G S → lv_has ls 7 [(0, .ref v0), (1, .int v1), (2, .int v2), (4, .int v4)] → W p l e (RM 2 56) s m args below meth c H locs 0 0 (MQ below (QV V G S' s.heap.size) args s 0 0 (AG G s.heap.size)) (F0 m 121 ls [.long w0]) := by
  intro v0 v1 v2 v4 w0 h_v0 k_v0 S H locs ls hf hP hS hW hl
  have hx := C.1
  have hb := C.2.1
  unfold s_X12_cutAll_J121 at hf
  refine lv_lstore (lv' := [(5, .long w0), (0, .ref v0), (1, .int v1), (2, .int v2), (4, .int v4)]) hx hb dX12_cutAll_121 hl (by decide) rfl (fun ls hl => ?_)
  obtain ⟨x47, ex47, hf⟩ := bnd_e hf
  refine lv_iinc (v := x47) (lv' := [(2, .int x47), (5, .long w0), (0, .ref v0), (1, .int v1), (4, .int v4)]) hx hb dX12_cutAll_123 hl (k := 3) rfl ex47.symm (by decide) rfl (fun ls hl => ?_)
  refine lv_goto (tgt := 70) hx hb dX12_cutAll_126 (by decide) ?_
  exact hk70 v0 v1 x47 v4 w0 h_v0 k_v0 S H locs _ hf hP hS hW (lv_sub hl [2, 3, 0, 4, 1] rfl)
set_option maxRecDepth 100000 in
set_option maxHeartbeats 4000000 in
theorem b_X12_cutAll_70 {p : Program} {l : Launch} {e : Env} {s : State} {m : MethodId} {args : Array Value} {below : List Frame} {meth : Method} {c : Code} {V : EV} {G : GS} {S' : HS} {F : Nat} (C : CX p s m args meth c RX12 cX12_cutAll 7 none V G) {k129 : Nat → Int32 → Int32 → Int32 → Int64 → HS → Option HS} (hk129 : ∀ (v0 : Nat) (v1 : Int32) (v2 : Int32) (v4 : Int32) (v5 : Int64) (h_v0 : v0 ∈ G.1) (k_v0 : G.2.1 v0 = 12) (S : HS) (H : Heap) (locs : List Loc) (ls : Array Slot), k129 v0 v1 v2 v4 v5 S = some S' → HP V G S H → va_S (AG G s.heap.size) s.heap H locs → WT G S → lv_has ls 7 [(0, .ref v0), (1, .int v1), (2, .int v2), (4, .int v4), (5, .long v5)] → W p l e (RM 2 56) s m args below meth c H locs 0 0 (MQ below (QV V G S' s.heap.size) args s 0 0 (AG G s.heap.size)) (F0 m 129 ls [])) : ∀ n : Nat, ∀ (v0 : Nat) (v1 : Int32) (v2 : Int32) (v4 : Int32) (v5 : Int64) (h_v0 : v0 ∈ G.1) (k_v0 : G.2.1 v0 = 12) (S : HS) (H : Heap) (locs : List Loc) (ls : Array Slot), s_X12_cutAll_L70 G.2.2 F k129 n v0 v1 v2 v4 v5 S = some S' → HP V G S H → va_S (AG G s.heap.size) s.heap H locs → WT G S → lv_has ls 7 [(0, .ref v0), (1, .int v1), (2, .int v2), (4, .int v4), (5, .long v5)] → W p l e (RM 2 56) s m args below meth c H locs 0 0 (MQ below (QV V G S' s.heap.size) args s 0 0 (AG G s.heap.size)) (F0 m 70 ls []) := by
  intro n
  induction n with
  | zero =>
    intro v0 v1 v2 v4 v5 h_v0 k_v0 S H locs ls hf
    rw [s_X12_cutAll_L70] at hf
    cases hf
  | succ n ih =>
    intro v0 v1 v2 v4 v5 h_v0 k_v0 S H locs ls hf hP hS hW hl
    have hx := C.1
    have hb := C.2.1
    rw [s_X12_cutAll_L70] at hf
    refine lv_iload_n hx hb dX12_cutAll_70 rfl (lv_at hl 2 rfl) ?_
    refine lv_aload_n hx hb dX12_cutAll_71 rfl (lv_at hl 0 rfl) ?_
    refine gf_X12_122 C hP h_v0 k_v0 dX12_cutAll_72 ?_
    refine lv_icmp_ge (tgt := 129) hx hb dX12_cutAll_75 (by decide) (fun c41 => ?_) (fun c41 => ?_)
    · have hf := if_t c41 hf
      exact hk129 v0 v1 v2 v4 v5 h_v0 k_v0 S H locs _ hf hP hS hW (lv_sub hl [0, 1, 2, 3, 4] rfl)
    · have hf := if_f c41 hf
      refine lv_aload_n hx hb dX12_cutAll_78 rfl (lv_at hl 0 rfl) ?_
      refine gf_X12_14 C hP h_v0 k_v0 dX12_cutAll_79 ?_
      obtain ⟨t42, et42, hf⟩ := bd1_e hf
      obtain ⟨h_t42, k_t42⟩ := wt_r hW h_v0 k_v0 (by decide) et42
      have k_t42 : G.2.1 t42 = 14 := k_t42
      rw [et42]
      refine lv_iload_n hx hb dX12_cutAll_82 rfl (lv_at hl 2 rfl) ?_
      obtain ⟨h43, hf⟩ := if_s hf
      refine x_iald C hP h_t42 k_t42 h43 dX12_cutAll_83 ?_
      refine x_aft_z (x_runS (As := [.int (aI S t42 v2.toNatClampNeg)]) (rest := []) C hP hS (c_X12_isLetter (l := l) C.2.2.2.2.2.2.2.2.2.1 hW rfl H.size) km_X12_isLetter ks_X12_isLetter qm_X12_118 ⟨(Nat.le_of_ble_eq_true rfl), (Nat.le_of_ble_eq_true rfl)⟩ rfl hl.1 rfl (Nat.le_of_ble_eq_true rfl) ⟨Nat.zero_le _, Nat.zero_le _⟩ dX12_cutAll_84) hS (fun H locs hP hS hW z44 => ?_)
      refine lv_if_eq (tgt := 129) hx hb dX12_cutAll_87 (by decide) (fun c45 => ?_) (fun c45 => ?_)
      · have hf := if_t c45 hf
        exact hk129 v0 v1 v2 v4 v5 h_v0 k_v0 S H locs _ hf hP hS hW (lv_sub hl [0, 1, 2, 3, 4] rfl)
      · have hf := if_f c45 hf
        refine lv_iload_n hx hb dX12_cutAll_90 rfl (lv_at hl 2 rfl) ?_
        refine lv_iload hx hb dX12_cutAll_91 (lv_at hl 3 rfl) ?_
        refine lv_isub hx hb dX12_cutAll_93 ?_
        refine lv_bipush (v := 8) hx hb dX12_cutAll_94 kc_bipush_8 ?_
        refine lv_icmp_ge (tgt := 119) hx hb dX12_cutAll_96 (by decide) (fun c46 => ?_) (fun c46 => ?_)
        · have hf := if_t c46 hf
          refine lv_lload hx hb dX12_cutAll_119 (lv_at hl 4 rfl) ?_
          exact b_X12_cutAll_121 C ih v0 v1 v2 v4 v5 h_v0 k_v0 S H locs _ hf hP hS hW (lv_sub hl [0, 1, 2, 3] rfl)
        · have hf := if_f c46 hf
          refine lv_ldc2 (v := 37) hx hb C.2.2.2.2.1 (C.2.2.2.2.2.1 _ qc_X12_125) dX12_cutAll_99 ?_
          refine lv_lload hx hb dX12_cutAll_102 (lv_at hl 4 rfl) ?_
          refine lv_lmul hx hb dX12_cutAll_104 ?_
          refine lv_aload_n hx hb dX12_cutAll_105 rfl (lv_at hl 0 rfl) ?_
          refine gf_X12_14 C hP h_v0 k_v0 dX12_cutAll_106 ?_
          obtain ⟨t48, et48, hf⟩ := bd1_e hf
          obtain ⟨h_t48, k_t48⟩ := wt_r hW h_v0 k_v0 (by decide) et48
          have k_t48 : G.2.1 t48 = 14 := k_t48
          rw [et48]
          refine lv_iload_n hx hb dX12_cutAll_109 rfl (lv_at hl 2 rfl) ?_
          obtain ⟨h49, hf⟩ := if_s hf
          refine x_iald C hP h_t48 k_t48 h49 dX12_cutAll_110 ?_
          refine x_aft_i (x_runS (As := [.int (aI S t48 v2.toNatClampNeg)]) (rest := [.long (37 * v5)]) C hP hS (c_X12_rank (l := l) C.2.2.2.2.2.2.2.2.2.1 hW rfl H.size) km_X12_rank ks_X12_rank qm_X12_127 ⟨(Nat.le_of_ble_eq_true rfl), (Nat.le_of_ble_eq_true rfl)⟩ rfl hl.1 rfl (Nat.le_of_ble_eq_true rfl) ⟨Nat.zero_le _, Nat.zero_le _⟩ dX12_cutAll_111) hS (fun H locs hP hS hW => ?_)
          refine lv_i2l hx hb dX12_cutAll_114 rfl ?_
          refine lv_ladd hx hb dX12_cutAll_115 ?_
          refine lv_goto (tgt := 121) hx hb dX12_cutAll_116 (by decide) ?_
          exact b_X12_cutAll_121 C ih v0 v1 v2 v4 ((37 * v5) + ((s_X12_rank (aI S t48 v2.toNatClampNeg) S).toInt64)) h_v0 k_v0 S H locs _ hf hP hS hW (lv_sub hl [0, 1, 2, 3] rfl)
set_option maxRecDepth 100000 in
set_option maxHeartbeats 4000000 in
theorem b_X12_cutAll_148 {p : Program} {l : Launch} {e : Env} {s : State} {m : MethodId} {args : Array Value} {below : List Frame} {meth : Method} {c : Code} {V : EV} {G : GS} {S' : HS} {F : Nat} (C : CX p s m args meth c RX12 cX12_cutAll 7 none V G) {k17 : Nat → Int32 → Int32 → HS → Option HS} (hk17 : ∀ (v0 : Nat) (v1 : Int32) (v2 : Int32) (h_v0 : v0 ∈ G.1) (k_v0 : G.2.1 v0 = 12) (S : HS) (H : Heap) (locs : List Loc) (ls : Array Slot), k17 v0 v1 v2 S = some S' → HP V G S H → va_S (AG G s.heap.size) s.heap H locs → WT G S → lv_has ls 7 [(0, .ref v0), (1, .int v1), (2, .int v2)] → W p l e (RM 2 56) s m args below meth c H locs 0 0 (MQ below (QV V G S' s.heap.size) args s 0 0 (AG G s.heap.size)) (F0 m 17 ls [])) : ∀ (v0 : Nat) (v1 : Int32) (v2 : Int32) (v5 : Int64) (w0 : Nat) (w1 : Int32) (w2 : Int32) (h_v0 : v0 ∈ G.1) (k_v0 : G.2.1 v0 = 12) (h_w0 : w0 ∈ G.1) (k_w0 : G.2.1 w0 = 14) (S : HS) (H : Heap) (locs : List Loc) (ls : Array Slot), s_X12_cutAll_J148 G.2.2 F k17 v0 v1 v2 v5 w0 w1 w2 S = some S' → HP V G S H → va_S (AG G s.heap.size) s.heap H locs → WT G S → lv_has ls 7 [(0, .ref v0), (1, .int v1), (2, .int v2), (5, .long v5)] → W p l e (RM 2 56) s m args below meth c H locs 0 0 (MQ below (QV V G S' s.heap.size) args s 0 0 (AG G s.heap.size)) (F0 m 148 ls [.int w2, .int w1, .ref w0]) := by
  intro v0 v1 v2 v5 w0 w1 w2 h_v0 k_v0 h_w0 k_w0 S H locs ls hf hP hS hW hl
  have hx := C.1
  have hb := C.2.1
  unfold s_X12_cutAll_J148 at hf
  obtain ⟨h52, hf⟩ := if_s hf
  obtain ⟨S53, eS53, hf⟩ := bnd_e hf
  refine x_iast C hP hS h_w0 k_w0 h52 eS53 dX12_cutAll_148 (fun H locs hP hS => ?_)
  have hW : WT G S53 := by rw [eS53]; exact hW
  refine lv_goto (tgt := 265) hx hb dX12_cutAll_149 (by decide) ?_
  exact b_X12_cutAll_265 C hk17 v0 v1 v2 v5 h_v0 k_v0 S53 H locs _ hf hP hS hW (lv_sub hl [0, 1, 2, 3] rfl)
set_option maxRecDepth 100000 in
set_option maxHeartbeats 4000000 in
theorem b_X12_cutAll_129 {p : Program} {l : Launch} {e : Env} {s : State} {m : MethodId} {args : Array Value} {below : List Frame} {meth : Method} {c : Code} {V : EV} {G : GS} {S' : HS} {F : Nat} (C : CX p s m args meth c RX12 cX12_cutAll 7 none V G) {k17 : Nat → Int32 → Int32 → HS → Option HS} (hk17 : ∀ (v0 : Nat) (v1 : Int32) (v2 : Int32) (h_v0 : v0 ∈ G.1) (k_v0 : G.2.1 v0 = 12) (S : HS) (H : Heap) (locs : List Loc) (ls : Array Slot), k17 v0 v1 v2 S = some S' → HP V G S H → va_S (AG G s.heap.size) s.heap H locs → WT G S → lv_has ls 7 [(0, .ref v0), (1, .int v1), (2, .int v2)] → W p l e (RM 2 56) s m args below meth c H locs 0 0 (MQ below (QV V G S' s.heap.size) args s 0 0 (AG G s.heap.size)) (F0 m 17 ls [])) : ∀ (v0 : Nat) (v1 : Int32) (v2 : Int32) (v4 : Int32) (v5 : Int64) (h_v0 : v0 ∈ G.1) (k_v0 : G.2.1 v0 = 12) (S : HS) (H : Heap) (locs : List Loc) (ls : Array Slot), s_X12_cutAll_J129 G.2.2 F k17 v0 v1 v2 v4 v5 S = some S' → HP V G S H → va_S (AG G s.heap.size) s.heap H locs → WT G S → lv_has ls 7 [(0, .ref v0), (1, .int v1), (2, .int v2), (4, .int v4), (5, .long v5)] → W p l e (RM 2 56) s m args below meth c H locs 0 0 (MQ below (QV V G S' s.heap.size) args s 0 0 (AG G s.heap.size)) (F0 m 129 ls []) := by
  intro v0 v1 v2 v4 v5 h_v0 k_v0 S H locs ls hf hP hS hW hl
  have hx := C.1
  have hb := C.2.1
  unfold s_X12_cutAll_J129 at hf
  refine lv_aload_n hx hb dX12_cutAll_129 rfl (lv_at hl 0 rfl) ?_
  refine gf_X12_24 C hP h_v0 k_v0 dX12_cutAll_130 ?_
  obtain ⟨t50, et50, hf⟩ := bd1_e hf
  obtain ⟨h_t50, k_t50⟩ := wt_r hW h_v0 k_v0 (by decide) et50
  have k_t50 : G.2.1 t50 = 14 := k_t50
  rw [et50]
  refine lv_iload_n hx hb dX12_cutAll_133 rfl (lv_at hl 1 rfl) ?_
  refine lv_iload_n hx hb dX12_cutAll_134 rfl (lv_at hl 2 rfl) ?_
  refine lv_iload hx hb dX12_cutAll_135 (lv_at hl 3 rfl) ?_
  refine lv_isub hx hb dX12_cutAll_137 ?_
  refine lv_bipush (v := 8) hx hb dX12_cutAll_138 kc_bipush_8 ?_
  refine lv_icmp_le (tgt := 147) hx hb dX12_cutAll_140 (by decide) (fun c51 => ?_) (fun c51 => ?_)
  · have hf := if_t c51 hf
    refine lv_iconst (v := 1) hx hb dX12_cutAll_147 rfl ?_
    exact b_X12_cutAll_148 C hk17 v0 v1 v2 v5 t50 v1 1 h_v0 k_v0 h_t50 k_t50 S H locs _ hf hP hS hW (lv_sub hl [0, 1, 2, 4] rfl)
  · have hf := if_f c51 hf
    refine lv_iconst (v := 4) hx hb dX12_cutAll_143 rfl ?_
    refine lv_goto (tgt := 148) hx hb dX12_cutAll_144 (by decide) ?_
    exact b_X12_cutAll_148 C hk17 v0 v1 v2 v5 t50 v1 4 h_v0 k_v0 h_t50 k_t50 S H locs _ hf hP hS hW (lv_sub hl [0, 1, 2, 4] rfl)
set_option maxRecDepth 100000 in
set_option maxHeartbeats 4000000 in
theorem b_X12_cutAll_17 {p : Program} {l : Launch} {e : Env} {s : State} {m : MethodId} {args : Array Value} {below : List Frame} {meth : Method} {c : Code} {V : EV} {G : GS} {S' : HS} {F : Nat} (C : CX p s m args meth c RX12 cX12_cutAll 7 none V G) {k279 : Nat → Int32 → HS → Option HS} (hk279 : ∀ (v0 : Nat) (v1 : Int32) (h_v0 : v0 ∈ G.1) (k_v0 : G.2.1 v0 = 12) (S : HS) (H : Heap) (locs : List Loc) (ls : Array Slot), k279 v0 v1 S = some S' → HP V G S H → va_S (AG G s.heap.size) s.heap H locs → WT G S → lv_has ls 7 [(0, .ref v0), (1, .int v1)] → W p l e (RM 2 56) s m args below meth c H locs 0 0 (MQ below (QV V G S' s.heap.size) args s 0 0 (AG G s.heap.size)) (F0 m 279 ls [])) : ∀ n : Nat, ∀ (v0 : Nat) (v1 : Int32) (v2 : Int32) (h_v0 : v0 ∈ G.1) (k_v0 : G.2.1 v0 = 12) (S : HS) (H : Heap) (locs : List Loc) (ls : Array Slot), s_X12_cutAll_L17 G.2.2 F k279 n v0 v1 v2 S = some S' → HP V G S H → va_S (AG G s.heap.size) s.heap H locs → WT G S → lv_has ls 7 [(0, .ref v0), (1, .int v1), (2, .int v2)] → W p l e (RM 2 56) s m args below meth c H locs 0 0 (MQ below (QV V G S' s.heap.size) args s 0 0 (AG G s.heap.size)) (F0 m 17 ls []) := by
  intro n
  induction n with
  | zero =>
    intro v0 v1 v2 h_v0 k_v0 S H locs ls hf
    rw [s_X12_cutAll_L17] at hf
    cases hf
  | succ n ih =>
    intro v0 v1 v2 h_v0 k_v0 S H locs ls hf hP hS hW hl
    have hx := C.1
    have hb := C.2.1
    rw [s_X12_cutAll_L17] at hf
    refine lv_iload_n hx hb dX12_cutAll_17 rfl (lv_at hl 2 rfl) ?_
    refine lv_aload_n hx hb dX12_cutAll_18 rfl (lv_at hl 0 rfl) ?_
    refine gf_X12_122 C hP h_v0 k_v0 dX12_cutAll_19 ?_
    refine lv_icmp_ge (tgt := 279) hx hb dX12_cutAll_22 (by decide) (fun c3 => ?_) (fun c3 => ?_)
    · have hf := if_t c3 hf
      exact hk279 v0 v1 h_v0 k_v0 S H locs _ hf hP hS hW (lv_sub hl [0, 1] rfl)
    · have hf := if_f c3 hf
      refine lv_aload_n hx hb dX12_cutAll_25 rfl (lv_at hl 0 rfl) ?_
      refine gf_X12_14 C hP h_v0 k_v0 dX12_cutAll_26 ?_
      obtain ⟨t4, et4, hf⟩ := bd1_e hf
      obtain ⟨h_t4, k_t4⟩ := wt_r hW h_v0 k_v0 (by decide) et4
      have k_t4 : G.2.1 t4 = 14 := k_t4
      rw [et4]
      refine lv_iload_n hx hb dX12_cutAll_29 rfl (lv_at hl 2 rfl) ?_
      obtain ⟨h5, hf⟩ := if_s hf
      refine x_iald C hP h_t4 k_t4 h5 dX12_cutAll_30 ?_
      obtain ⟨x6, ex6, hf⟩ := bnd_e hf
      refine nm_i ex6 ?_
      refine lv_istore_n (lv' := [(3, .int x6), (0, .ref v0), (1, .int v1), (2, .int v2)]) hx hb dX12_cutAll_31 rfl hl (by decide) rfl (fun ls hl => ?_)
      refine lv_iload_n hx hb dX12_cutAll_32 rfl (lv_at hl 0 rfl) ?_
      refine lv_bipush (v := 10) hx hb dX12_cutAll_33 kc_bipush_10 ?_
      refine lv_icmp_eq (tgt := 44) hx hb dX12_cutAll_35 (by decide) (fun c7 => ?_) (fun c7 => ?_)
      · have hf := if_t c7 hf
        exact b_X12_cutAll_44 C ih v0 v1 v2 h_v0 k_v0 S H locs _ hf hP hS hW (lv_sub hl [1, 2, 3] rfl)
      · have hf := if_f c7 hf
        refine lv_iload_n hx hb dX12_cutAll_38 rfl (lv_at hl 0 rfl) ?_
        refine lv_bipush (v := 32) hx hb dX12_cutAll_39 kc_bipush_32 ?_
        refine lv_icmp_ne (tgt := 50) hx hb dX12_cutAll_41 (by decide) (fun c9 => ?_) (fun c9 => ?_)
        · have hf := if_f c9 hf
          refine lv_iload_n hx hb dX12_cutAll_50 rfl (lv_at hl 3 rfl) ?_
          refine lv_istore (lv' := [(4, .int v2), (3, .int x6), (0, .ref v0), (1, .int v1), (2, .int v2)]) hx hb dX12_cutAll_51 hl (by decide) rfl (fun ls hl => ?_)
          refine lv_lconst (v := 0) hx hb dX12_cutAll_53 rfl ?_
          refine lv_lstore (lv' := [(5, .long 0), (4, .int v2), (3, .int x6), (0, .ref v0), (1, .int v1), (2, .int v2)]) hx hb dX12_cutAll_54 hl (by decide) rfl (fun ls hl => ?_)
          refine lv_aload_n hx hb dX12_cutAll_56 rfl (lv_at hl 3 rfl) ?_
          refine gf_X12_27 C hP h_v0 k_v0 dX12_cutAll_57 ?_
          obtain ⟨t10, et10, hf⟩ := bd1_e hf
          obtain ⟨h_t10, k_t10⟩ := wt_r hW h_v0 k_v0 (by decide) et10
          have k_t10 : G.2.1 t10 = 14 := k_t10
          rw [et10]
          refine lv_iload_n hx hb dX12_cutAll_60 rfl (lv_at hl 4 rfl) ?_
          refine lv_iload_n hx hb dX12_cutAll_61 rfl (lv_at hl 5 rfl) ?_
          obtain ⟨h11, hf⟩ := if_s hf
          obtain ⟨S12, eS12, hf⟩ := bnd_e hf
          refine x_iast C hP hS h_t10 k_t10 h11 eS12 dX12_cutAll_62 (fun H locs hP hS => ?_)
          have hW : WT G S12 := by rw [eS12]; exact hW
          refine lv_iload_n hx hb dX12_cutAll_63 rfl (lv_at hl 2 rfl) ?_
          refine x_aft_z (x_runS (As := [.int x6]) (rest := []) C hP hS (c_X12_isLetter (l := l) C.2.2.2.2.2.2.2.2.2.1 hW rfl H.size) km_X12_isLetter ks_X12_isLetter qm_X12_118 ⟨(Nat.le_of_ble_eq_true rfl), (Nat.le_of_ble_eq_true rfl)⟩ rfl hl.1 rfl (Nat.le_of_ble_eq_true rfl) ⟨Nat.zero_le _, Nat.zero_le _⟩ dX12_cutAll_64) hS (fun H locs hP hS hW z13 => ?_)
          refine lv_if_eq (tgt := 152) hx hb dX12_cutAll_67 (by decide) (fun c14 => ?_) (fun c14 => ?_)
          · have hf := if_t c14 hf
            refine lv_iload_n hx hb dX12_cutAll_152 rfl (lv_at hl 2 rfl) ?_
            refine x_aft_z (x_runS (As := [.int x6]) (rest := []) C hP hS (c_X12_isDigit (l := l) C.2.2.2.2.2.2.2.2.2.1 hW rfl H.size) km_X12_isDigit ks_X12_isDigit qm_X12_131 ⟨(Nat.le_of_ble_eq_true rfl), (Nat.le_of_ble_eq_true rfl)⟩ rfl hl.1 rfl (Nat.le_of_ble_eq_true rfl) ⟨Nat.zero_le _, Nat.zero_le _⟩ dX12_cutAll_153) hS (fun H locs hP hS hW z15 => ?_)
            refine lv_if_eq (tgt := 240) hx hb dX12_cutAll_156 (by decide) (fun c16 => ?_) (fun c16 => ?_)
            · have hf := if_t c16 hf
              refine lv_iload_n hx hb dX12_cutAll_240 rfl (lv_at hl 2 rfl) ?_
              refine lv_i2l hx hb dX12_cutAll_241 rfl ?_
              obtain ⟨x17, ex17, hf⟩ := bnd_e hf
              refine nm_l ex17 ?_
              refine lv_lstore (lv' := [(5, .long x17), (4, .int v2), (3, .int x6), (0, .ref v0), (1, .int v1), (2, .int v2)]) hx hb dX12_cutAll_242 hl (by decide) rfl (fun ls hl => ?_)
              refine lv_aload_n hx hb dX12_cutAll_244 rfl (lv_at hl 3 rfl) ?_
              refine gf_X12_24 C hP h_v0 k_v0 dX12_cutAll_245 ?_
              obtain ⟨t18, et18, hf⟩ := bd1_e hf
              obtain ⟨h_t18, k_t18⟩ := wt_r hW h_v0 k_v0 (by decide) et18
              have k_t18 : G.2.1 t18 = 14 := k_t18
              rw [et18]
              refine lv_iload_n hx hb dX12_cutAll_248 rfl (lv_at hl 4 rfl) ?_
              refine lv_iload_n hx hb dX12_cutAll_249 rfl (lv_at hl 2 rfl) ?_
              refine x_aft_z (x_runS (As := [.int x6]) (rest := [.int v1, .ref t18]) C hP hS (c_X12_isSignOf (l := l) C.2.2.2.2.2.2.2.2.2.1 hW rfl H.size) km_X12_isSignOf ks_X12_isSignOf qm_X12_138 ⟨(Nat.le_of_ble_eq_true rfl), (Nat.le_of_ble_eq_true rfl)⟩ rfl hl.1 rfl (Nat.le_of_ble_eq_true rfl) ⟨Nat.zero_le _, Nat.zero_le _⟩ dX12_cutAll_250) hS (fun H locs hP hS hW z19 => ?_)
              refine lv_if_eq (tgt := 260) hx hb dX12_cutAll_253 (by decide) (fun c20 => ?_) (fun c20 => ?_)
              · have hf := if_t c20 hf
                refine lv_iconst (v := 4) hx hb dX12_cutAll_260 rfl ?_
                exact b_X12_cutAll_261 C ih v0 v1 v2 x17 t18 v1 4 h_v0 k_v0 h_t18 k_t18 S12 H locs _ hf hP hS hW (lv_sub hl [3, 4, 5, 0] rfl)
              · have hf := if_f c20 hf
                refine lv_iconst (v := 3) hx hb dX12_cutAll_256 rfl ?_
                refine lv_goto (tgt := 261) hx hb dX12_cutAll_257 (by decide) ?_
                exact b_X12_cutAll_261 C ih v0 v1 v2 x17 t18 v1 3 h_v0 k_v0 h_t18 k_t18 S12 H locs _ hf hP hS hW (lv_sub hl [3, 4, 5, 0] rfl)
            · have hf := if_f c16 hf
              exact b_X12_cutAll_159 C (b_X12_cutAll_218 C ih) F v0 v1 v2 v2 0 h_v0 k_v0 S12 H locs _ hf hP hS hW (lv_sub hl [3, 4, 5, 1, 0] rfl)
          · have hf := if_f c14 hf
            exact b_X12_cutAll_70 C (b_X12_cutAll_129 C ih) F v0 v1 v2 v2 0 h_v0 k_v0 S12 H locs _ hf hP hS hW (lv_sub hl [3, 4, 5, 1, 0] rfl)
        · have hf := if_t c9 hf
          exact b_X12_cutAll_44 C ih v0 v1 v2 h_v0 k_v0 S H locs _ hf hP hS hW (lv_sub hl [1, 2, 3] rfl)
set_option maxRecDepth 100000 in
set_option maxHeartbeats 4000000 in
theorem b_X12_cutAll_279 {p : Program} {l : Launch} {e : Env} {s : State} {m : MethodId} {args : Array Value} {below : List Frame} {meth : Method} {c : Code} {V : EV} {G : GS} {S' : HS} {F : Nat} (C : CX p s m args meth c RX12 cX12_cutAll 7 none V G) : ∀ (v0 : Nat) (v1 : Int32) (h_v0 : v0 ∈ G.1) (k_v0 : G.2.1 v0 = 12) (S : HS) (H : Heap) (locs : List Loc) (ls : Array Slot), s_X12_cutAll_J279 G.2.2 F v0 v1 S = some S' → HP V G S H → va_S (AG G s.heap.size) s.heap H locs → WT G S → lv_has ls 7 [(0, .ref v0), (1, .int v1)] → W p l e (RM 2 56) s m args below meth c H locs 0 0 (MQ below (QV V G S' s.heap.size) args s 0 0 (AG G s.heap.size)) (F0 m 279 ls []) := by
  intro v0 v1 h_v0 k_v0 S H locs ls hf hP hS hW hl
  have hx := C.1
  have hb := C.2.1
  unfold s_X12_cutAll_J279 at hf
  refine lv_aload_n hx hb dX12_cutAll_279 rfl (lv_at hl 0 rfl) ?_
  refine gf_X12_24 C hP h_v0 k_v0 dX12_cutAll_280 ?_
  obtain ⟨t54, et54, hf⟩ := bd1_e hf
  obtain ⟨h_t54, k_t54⟩ := wt_r hW h_v0 k_v0 (by decide) et54
  have k_t54 : G.2.1 t54 = 14 := k_t54
  rw [et54]
  refine lv_iload_n hx hb dX12_cutAll_283 rfl (lv_at hl 1 rfl) ?_
  refine lv_iconst (v := 0) hx hb dX12_cutAll_284 rfl ?_
  obtain ⟨h55, hf⟩ := if_s hf
  obtain ⟨S56, eS56, hf⟩ := bnd_e hf
  refine x_iast C hP hS h_t54 k_t54 h55 eS56 dX12_cutAll_285 (fun H locs hP hS => ?_)
  have hW : WT G S56 := by rw [eS56]; exact hW
  refine lv_aload_n hx hb dX12_cutAll_286 rfl (lv_at hl 0 rfl) ?_
  refine gf_X12_27 C hP h_v0 k_v0 dX12_cutAll_287 ?_
  obtain ⟨t57, et57, hf⟩ := bd1_e hf
  obtain ⟨h_t57, k_t57⟩ := wt_r hW h_v0 k_v0 (by decide) et57
  have k_t57 : G.2.1 t57 = 14 := k_t57
  rw [et57]
  refine lv_iload_n hx hb dX12_cutAll_290 rfl (lv_at hl 1 rfl) ?_
  refine lv_aload_n hx hb dX12_cutAll_291 rfl (lv_at hl 0 rfl) ?_
  refine gf_X12_122 C hP h_v0 k_v0 dX12_cutAll_292 ?_
  obtain ⟨h58, hf⟩ := if_s hf
  obtain ⟨S59, eS59, hf⟩ := bnd_e hf
  refine x_iast C hP hS h_t57 k_t57 h58 eS59 dX12_cutAll_295 (fun H locs hP hS => ?_)
  have hW : WT G S59 := by rw [eS59]; exact hW
  refine lv_aload_n hx hb dX12_cutAll_296 rfl (lv_at hl 0 rfl) ?_
  refine lv_iconst (v := 0) hx hb dX12_cutAll_297 rfl ?_
  obtain ⟨S60, eS60, hf⟩ := bnd_e hf
  refine pf_X12_141 C hP hS h_v0 k_v0 eS60 dX12_cutAll_298 (fun H locs hP hS => ?_)
  have hW : WT G S60 := by rw [eS60]; exact hW
  refine lv_aload_n hx hb dX12_cutAll_301 rfl (lv_at hl 0 rfl) ?_
  refine lv_iconst (v := 0) hx hb dX12_cutAll_302 rfl ?_
  obtain ⟨S61, eS61, hf⟩ := bnd_e hf
  refine pf_X12_144 C hP hS h_v0 k_v0 eS61 dX12_cutAll_303 (fun H locs hP hS => ?_)
  have hW : WT G S61 := by rw [eS61]; exact hW
  cases hf
  exact x_retv C hP hS hW dX12_cutAll_306
set_option maxRecDepth 100000 in
set_option maxHeartbeats 4000000 in
theorem c_X12_cutAll {l : Launch} {V : EV} {G : GS} {S : HS} {F : Nat} {a : Nat} {S' : HS} (hN : G.1.Nodup) (hW : WT G S) (h_a : a ∈ G.1) (k_a : G.2.1 a = 12) (hf : s_X12_cutAll G.2.2 F a S = some S') : MetV l yX12_cutAll cX12_cutAll 7 2 56 V G S [.ref a] S' := by
  intro sz
  refine x_in RX12 rfl (by decide +kernel) hN (Nat.le_of_ble_eq_true rfl) (fun p e s m args below meth c ls hsz hargs hnm C hP hS hl => ?_)
  subst hsz
  have hx := C.1
  have hb := C.2.1
  have hl : lv_has ls 7 [(0, .ref a)] := hl
  unfold s_X12_cutAll at hf
  refine lv_aload_n hx hb dX12_cutAll_0 rfl (lv_at hl 0 rfl) ?_
  refine lv_aload_n hx hb dX12_cutAll_1 rfl (lv_at hl 0 rfl) ?_
  refine gf_X12_11 C hP h_a k_a dX12_cutAll_2 ?_
  obtain ⟨S1, eS1, hf⟩ := bnd_e hf
  refine pf_X12_122 C hP hS h_a k_a eS1 dX12_cutAll_5 (fun H locs hP hS => ?_)
  have hW : WT G S1 := by rw [eS1]; exact hW
  refine lv_aload_n hx hb dX12_cutAll_8 rfl (lv_at hl 0 rfl) ?_
  refine lv_iconst (v := 0) hx hb dX12_cutAll_9 rfl ?_
  obtain ⟨S2, eS2, hf⟩ := bnd_e hf
  refine pf_X12_11 C hP hS h_a k_a eS2 dX12_cutAll_10 (fun H locs hP hS => ?_)
  have hW : WT G S2 := by rw [eS2]; exact hW
  refine lv_iconst (v := 0) hx hb dX12_cutAll_13 rfl ?_
  refine lv_istore_n (lv' := [(1, .int 0), (0, .ref a)]) hx hb dX12_cutAll_14 rfl hl (by decide) rfl (fun ls hl => ?_)
  refine lv_iconst (v := 0) hx hb dX12_cutAll_15 rfl ?_
  refine lv_istore_n (lv' := [(2, .int 0), (1, .int 0), (0, .ref a)]) hx hb dX12_cutAll_16 rfl hl (by decide) rfl (fun ls hl => ?_)
  exact b_X12_cutAll_17 C (b_X12_cutAll_279 C) F a 0 0 h_a k_a S2 H locs _ hf hP hS hW (lv_sub hl [2, 1, 0] rfl)
def s_X12_multiplies (N : Nat → Nat) (F : Nat) (a : Nat) (p0 : Int32) (p1 : Int32) (p2 : Int32) (p3 : Int32) (p4 : Int32) (S : HS) : Option HS :=
  bd1 (gR S 1217 a) fun t1 =>
  if inB (p0 + 0) (N t1) = true then
  bd1 (gR S 1217 a) fun t3 =>
  if inB ((p0 + 4) + p2) (N t3) = true then
  bd1 (gR S 1217 a) fun t5 =>
  if inB ((p0 + 4) + p3) (N t5) = true then
  bd1 (gR S 1217 a) fun t7 =>
  if inB ((p0 + 4) + p4) (N t7) = true then
  bd1 (gR S 1217 a) fun t9 =>
  if inB (p0 + 1) (N t9) = true then
  bd2 (s_X12_sums_ N F a (aI S t1 (p0 + 0).toNatClampNeg) (aI S t3 ((p0 + 4) + p2).toNatClampNeg) (aI S t5 ((p0 + 4) + p3).toNatClampNeg) (aI S t7 ((p0 + 4) + p4).toNatClampNeg) (aI S t9 (p0 + 1).toNatClampNeg) S) fun r11 S12 =>
  bd1 (gR S12 1217 a) fun t13 =>
  if inB ((p0 + 4) + p1) (N t13) = true then
  bnd (wI S12 t13 (((p0 + 4) + p1).toNatClampNeg) r11) fun S15 =>
  bd1 (gR S15 1217 a) fun t16 =>
  if inB (p0 + 2) (N t16) = true then
  if inB (p0 + 2) (N t16) = true then
  bnd (wI S15 t16 ((p0 + 2).toNatClampNeg) ((aI S15 t16 (p0 + 2).toNatClampNeg) ||| (gI S15 1220 a))) fun S19 =>
  some S19
  else none
  else none
  else none
  else none
  else none
  else none
  else none
  else none
set_option maxRecDepth 100000 in
set_option maxHeartbeats 4000000 in
theorem c_X12_multiplies {l : Launch} {V : EV} {G : GS} {S : HS} {F : Nat} {a : Nat} {p0 : Int32} {p1 : Int32} {p2 : Int32} {p3 : Int32} {p4 : Int32} {S' : HS} (hN : G.1.Nodup) (hW : WT G S) (h_a : a ∈ G.1) (k_a : G.2.1 a = 12) (hf : s_X12_multiplies G.2.2 F a p0 p1 p2 p3 p4 S = some S') : MetV l yX12_multiplies cX12_multiplies 7 20 675 V G S [.ref a, .int p0, .int p1, .int p2, .int p3, .int p4] S' := by
  intro sz
  refine x_in RX12 rfl (by decide +kernel) hN (Nat.le_of_ble_eq_true rfl) (fun p e s m args below meth c ls hsz hargs hnm C hP hS hl => ?_)
  subst hsz
  have hx := C.1
  have hb := C.2.1
  have hl : lv_has ls 7 [(0, .ref a), (1, .int p0), (2, .int p1), (3, .int p2), (4, .int p3), (5, .int p4)] := hl
  unfold s_X12_multiplies at hf
  refine lv_aload_n hx hb dX12_multiplies_0 rfl (lv_at hl 0 rfl) ?_
  refine lv_aload_n hx hb dX12_multiplies_1 rfl (lv_at hl 0 rfl) ?_
  refine gf_X12_95 C hP h_a k_a dX12_multiplies_2 ?_
  obtain ⟨t1, et1, hf⟩ := bd1_e hf
  obtain ⟨h_t1, k_t1⟩ := wt_r hW h_a k_a (by decide) et1
  have k_t1 : G.2.1 t1 = 14 := k_t1
  rw [et1]
  refine lv_iload_n hx hb dX12_multiplies_5 rfl (lv_at hl 1 rfl) ?_
  refine lv_iconst (v := 0) hx hb dX12_multiplies_6 rfl ?_
  refine lv_iadd hx hb dX12_multiplies_7 ?_
  obtain ⟨h2, hf⟩ := if_s hf
  refine x_iald C hP h_t1 k_t1 h2 dX12_multiplies_8 ?_
  refine lv_aload_n hx hb dX12_multiplies_9 rfl (lv_at hl 0 rfl) ?_
  refine gf_X12_95 C hP h_a k_a dX12_multiplies_10 ?_
  obtain ⟨t3, et3, hf⟩ := bd1_e hf
  obtain ⟨h_t3, k_t3⟩ := wt_r hW h_a k_a (by decide) et3
  have k_t3 : G.2.1 t3 = 14 := k_t3
  rw [et3]
  refine lv_iload_n hx hb dX12_multiplies_13 rfl (lv_at hl 1 rfl) ?_
  refine lv_iconst (v := 4) hx hb dX12_multiplies_14 rfl ?_
  refine lv_iadd hx hb dX12_multiplies_15 ?_
  refine lv_iload_n hx hb dX12_multiplies_16 rfl (lv_at hl 3 rfl) ?_
  refine lv_iadd hx hb dX12_multiplies_17 ?_
  obtain ⟨h4, hf⟩ := if_s hf
  refine x_iald C hP h_t3 k_t3 h4 dX12_multiplies_18 ?_
  refine lv_aload_n hx hb dX12_multiplies_19 rfl (lv_at hl 0 rfl) ?_
  refine gf_X12_95 C hP h_a k_a dX12_multiplies_20 ?_
  obtain ⟨t5, et5, hf⟩ := bd1_e hf
  obtain ⟨h_t5, k_t5⟩ := wt_r hW h_a k_a (by decide) et5
  have k_t5 : G.2.1 t5 = 14 := k_t5
  rw [et5]
  refine lv_iload_n hx hb dX12_multiplies_23 rfl (lv_at hl 1 rfl) ?_
  refine lv_iconst (v := 4) hx hb dX12_multiplies_24 rfl ?_
  refine lv_iadd hx hb dX12_multiplies_25 ?_
  refine lv_iload hx hb dX12_multiplies_26 (lv_at hl 4 rfl) ?_
  refine lv_iadd hx hb dX12_multiplies_28 ?_
  obtain ⟨h6, hf⟩ := if_s hf
  refine x_iald C hP h_t5 k_t5 h6 dX12_multiplies_29 ?_
  refine lv_aload_n hx hb dX12_multiplies_30 rfl (lv_at hl 0 rfl) ?_
  refine gf_X12_95 C hP h_a k_a dX12_multiplies_31 ?_
  obtain ⟨t7, et7, hf⟩ := bd1_e hf
  obtain ⟨h_t7, k_t7⟩ := wt_r hW h_a k_a (by decide) et7
  have k_t7 : G.2.1 t7 = 14 := k_t7
  rw [et7]
  refine lv_iload_n hx hb dX12_multiplies_34 rfl (lv_at hl 1 rfl) ?_
  refine lv_iconst (v := 4) hx hb dX12_multiplies_35 rfl ?_
  refine lv_iadd hx hb dX12_multiplies_36 ?_
  refine lv_iload hx hb dX12_multiplies_37 (lv_at hl 5 rfl) ?_
  refine lv_iadd hx hb dX12_multiplies_39 ?_
  obtain ⟨h8, hf⟩ := if_s hf
  refine x_iald C hP h_t7 k_t7 h8 dX12_multiplies_40 ?_
  refine lv_aload_n hx hb dX12_multiplies_41 rfl (lv_at hl 0 rfl) ?_
  refine gf_X12_95 C hP h_a k_a dX12_multiplies_42 ?_
  obtain ⟨t9, et9, hf⟩ := bd1_e hf
  obtain ⟨h_t9, k_t9⟩ := wt_r hW h_a k_a (by decide) et9
  have k_t9 : G.2.1 t9 = 14 := k_t9
  rw [et9]
  refine lv_iload_n hx hb dX12_multiplies_45 rfl (lv_at hl 1 rfl) ?_
  refine lv_iconst (v := 1) hx hb dX12_multiplies_46 rfl ?_
  refine lv_iadd hx hb dX12_multiplies_47 ?_
  obtain ⟨h10, hf⟩ := if_s hf
  refine x_iald C hP h_t9 k_t9 h10 dX12_multiplies_48 ?_
  obtain ⟨r11, S12, eS12, hf⟩ := bd2_e hf
  refine x_aft_i (x_runV (As := [.int (aI S t1 (p0 + 0).toNatClampNeg), .int (aI S t3 ((p0 + 4) + p2).toNatClampNeg), .int (aI S t5 ((p0 + 4) + p3).toNatClampNeg), .int (aI S t7 ((p0 + 4) + p4).toNatClampNeg), .int (aI S t9 (p0 + 1).toNatClampNeg)]) (rest := []) C hP hS (c_X12_sums_ (l := l) C.2.2.2.2.2.2.2.2.2.1 hW h_a k_a eS12 s.heap.size) h_a k_a (by decide) rfl rfl km_X12_sums_ ki_X12_sums_ qm_X12_375 ⟨(Nat.le_of_ble_eq_true rfl), (Nat.le_of_ble_eq_true rfl)⟩ rfl hl.1 rfl (Nat.le_of_ble_eq_true rfl) ⟨Nat.zero_le _, Nat.zero_le _⟩ dX12_multiplies_49) hS (fun H locs hP hS hW => ?_)
  refine lv_istore (lv' := [(6, .int r11), (0, .ref a), (1, .int p0), (2, .int p1), (3, .int p2), (4, .int p3), (5, .int p4)]) hx hb dX12_multiplies_52 hl (by decide) rfl (fun ls hl => ?_)
  refine lv_aload_n hx hb dX12_multiplies_54 rfl (lv_at hl 1 rfl) ?_
  refine gf_X12_95 C hP h_a k_a dX12_multiplies_55 ?_
  obtain ⟨t13, et13, hf⟩ := bd1_e hf
  obtain ⟨h_t13, k_t13⟩ := wt_r hW h_a k_a (by decide) et13
  have k_t13 : G.2.1 t13 = 14 := k_t13
  rw [et13]
  refine lv_iload_n hx hb dX12_multiplies_58 rfl (lv_at hl 2 rfl) ?_
  refine lv_iconst (v := 4) hx hb dX12_multiplies_59 rfl ?_
  refine lv_iadd hx hb dX12_multiplies_60 ?_
  refine lv_iload_n hx hb dX12_multiplies_61 rfl (lv_at hl 3 rfl) ?_
  refine lv_iadd hx hb dX12_multiplies_62 ?_
  refine lv_iload hx hb dX12_multiplies_63 (lv_at hl 0 rfl) ?_
  obtain ⟨h14, hf⟩ := if_s hf
  obtain ⟨S15, eS15, hf⟩ := bnd_e hf
  refine x_iast C hP hS h_t13 k_t13 h14 eS15 dX12_multiplies_65 (fun H locs hP hS => ?_)
  have hW : WT G S15 := by rw [eS15]; exact hW
  refine lv_aload_n hx hb dX12_multiplies_66 rfl (lv_at hl 1 rfl) ?_
  refine gf_X12_95 C hP h_a k_a dX12_multiplies_67 ?_
  obtain ⟨t16, et16, hf⟩ := bd1_e hf
  obtain ⟨h_t16, k_t16⟩ := wt_r hW h_a k_a (by decide) et16
  have k_t16 : G.2.1 t16 = 14 := k_t16
  rw [et16]
  refine lv_iload_n hx hb dX12_multiplies_70 rfl (lv_at hl 2 rfl) ?_
  refine lv_iconst (v := 2) hx hb dX12_multiplies_71 rfl ?_
  refine lv_iadd hx hb dX12_multiplies_72 ?_
  refine lv_dup2_11 hx hb dX12_multiplies_73 rfl rfl ?_
  obtain ⟨h17, hf⟩ := if_s hf
  refine x_iald C hP h_t16 k_t16 h17 dX12_multiplies_74 ?_
  refine lv_aload_n hx hb dX12_multiplies_75 rfl (lv_at hl 1 rfl) ?_
  refine gf_X12_315 C hP h_a k_a dX12_multiplies_76 ?_
  refine lv_ior hx hb dX12_multiplies_79 ?_
  obtain ⟨h18, hf⟩ := if_s hf
  obtain ⟨S19, eS19, hf⟩ := bnd_e hf
  refine x_iast C hP hS h_t16 k_t16 h18 eS19 dX12_multiplies_80 (fun H locs hP hS => ?_)
  have hW : WT G S19 := by rw [eS19]; exact hW
  cases hf
  exact x_retv C hP hS hW dX12_multiplies_81
def s_X12_turns_J136 (N : Nat → Nat) (F : Nat) (v0 : Nat) (v1 : Int32) (v2 : Int32) (v3 : Int32) (v4 : Int32) (S : HS) : Option (Int32 × HS) :=
  bd1 (s_X12_isMinus N v0 v1 v3 S) fun r9 =>
  bd1 (s_X12_wholeOf N v0 v1 v3 S) fun r11 =>
  bd1 (s_X12_placeOf N v0 v1 v3 S) fun r12 =>
  bd2 (s_X12_rounds N F v0 v2 r9 r11 r12 0 v4 S) fun r13 S14 =>
  some (r13, S14)
def s_X12_turns_J18 (N : Nat → Nat) (F : Nat) (v0 : Nat) (v1 : Int32) (v2 : Int32) (v3 : Int32) (v4 : Int32) (w0 : Int32) (S : HS) : Option (Int32 × HS) :=
  bd1 (s_X12_classOf N v0 v1 v3 S) fun r4 =>
  if r4 = 0 then
  bn2 (s_X12_tells v0 w0 0 S) fun r6 S7 =>
  some (r6, S7)
  else
  if r4 = 1 then
  s_X12_turns_J136 N F v0 v1 v2 v3 v4 S
  else
  if r4 = 2 then
  s_X12_turns_J136 N F v0 v1 v2 v3 v4 S
  else
  if r4 = 3 then
  bd1 (s_X12_kindOf N v0 v2 S) fun r17 =>
  if r17 = (3 : Int32) then
  bd1 (s_X12_greatestOf N v0 v2 S) fun r22 =>
  bn2 (s_X12_tells v0 (w0 + r22) 1 S) fun r23 S24 =>
  some (r23, S24)
  else
  bd1 (s_X12_infOf N v0 v2 S) fun r19 =>
  bn2 (s_X12_tells v0 (w0 + r19) 0 S) fun r20 S21 =>
  some (r20, S21)
  else
  if r4 = 4 then
  bd1 (s_X12_kindOf N v0 v2 S) fun r26 =>
  if r26 = (3 : Int32) then
  bn2 (s_X12_tells v0 0 1 S) fun r31 S32 =>
  some (r31, S32)
  else
  bd1 (s_X12_nanOf N v0 v2 S) fun r28 =>
  bn2 (s_X12_tells v0 r28 0 S) fun r29 S30 =>
  some (r29, S30)
  else
  s_X12_turns_J136 N F v0 v1 v2 v3 v4 S
def s_X12_turns (N : Nat → Nat) (F : Nat) (a : Nat) (p0 : Int32) (p1 : Int32) (p2 : Int32) (p3 : Int32) (S : HS) : Option (Int32 × HS) :=
  bd1 (s_X12_isMinus N a p0 p2 S) fun r1 =>
  if r1 = (0 : Int32) then
  s_X12_turns_J18 N F a p0 p1 p2 p3 0 S
  else
  bd1 (s_X12_signOf N a p1 S) fun r33 =>
  s_X12_turns_J18 N F a p0 p1 p2 p3 r33 S
set_option maxRecDepth 100000 in
set_option maxHeartbeats 4000000 in
theorem b_X12_turns_136 {p : Program} {l : Launch} {e : Env} {s : State} {m : MethodId} {args : Array Value} {below : List Frame} {meth : Method} {c : Code} {V : EV} {G : GS} {r : Int32} {S' : HS} {F : Nat} (C : CX p s m args meth c RX12 cX12_turns 6 (some .int) V G) : ∀ (v0 : Nat) (v1 : Int32) (v2 : Int32) (v3 : Int32) (v4 : Int32) (h_v0 : v0 ∈ G.1) (k_v0 : G.2.1 v0 = 12) (S : HS) (H : Heap) (locs : List Loc) (ls : Array Slot), s_X12_turns_J136 G.2.2 F v0 v1 v2 v3 v4 S = some (r, S') → HP V G S H → va_S (AG G s.heap.size) s.heap H locs → WT G S → lv_has ls 6 [(0, .ref v0), (1, .int v1), (2, .int v2), (3, .int v3), (4, .int v4)] → W p l e (RM 6 194) s m args below meth c H locs 0 0 (MQ below (QI V G S' r s.heap.size) args s 0 0 (AG G s.heap.size)) (F0 m 136 ls []) := by
  intro v0 v1 v2 v3 v4 h_v0 k_v0 S H locs ls hf hP hS hW hl
  have hx := C.1
  have hb := C.2.1
  unfold s_X12_turns_J136 at hf
  refine lv_aload_n hx hb dX12_turns_136 rfl (lv_at hl 0 rfl) ?_
  refine lv_iload_n hx hb dX12_turns_137 rfl (lv_at hl 2 rfl) ?_
  refine lv_aload_n hx hb dX12_turns_138 rfl (lv_at hl 0 rfl) ?_
  refine lv_iload_n hx hb dX12_turns_139 rfl (lv_at hl 1 rfl) ?_
  refine lv_iload_n hx hb dX12_turns_140 rfl (lv_at hl 3 rfl) ?_
  obtain ⟨r9, er9, hf⟩ := bd1_e hf
  refine x_aft_z (x_runV (As := [.int v1, .int v3]) (rest := [.int v2, .ref v0]) C hP hS (c_X12_isMinus (l := l) C.2.2.2.2.2.2.2.2.2.1 hW h_v0 k_v0 er9 H.size) h_v0 k_v0 (by decide) rfl rfl km_X12_isMinus ki_X12_isMinus qm_X12_283 ⟨(Nat.le_of_ble_eq_true rfl), (Nat.le_of_ble_eq_true rfl)⟩ rfl hl.1 rfl (Nat.le_of_ble_eq_true rfl) ⟨Nat.zero_le _, Nat.zero_le _⟩ dX12_turns_141) hS (fun H locs hP hS hW z10 => ?_)
  refine lv_aload_n hx hb dX12_turns_144 rfl (lv_at hl 0 rfl) ?_
  refine lv_iload_n hx hb dX12_turns_145 rfl (lv_at hl 1 rfl) ?_
  refine lv_iload_n hx hb dX12_turns_146 rfl (lv_at hl 3 rfl) ?_
  obtain ⟨r11, er11, hf⟩ := bd1_e hf
  refine x_aft_l (x_runV (As := [.int v1, .int v3]) (rest := [.int r9, .int v2, .ref v0]) C hP hS (c_X12_wholeOf (l := l) C.2.2.2.2.2.2.2.2.2.1 hW h_v0 k_v0 er11 H.size) h_v0 k_v0 (by decide) rfl rfl km_X12_wholeOf ki_X12_wholeOf qm_X12_347 ⟨(Nat.le_of_ble_eq_true rfl), (Nat.le_of_ble_eq_true rfl)⟩ rfl hl.1 rfl (Nat.le_of_ble_eq_true rfl) ⟨Nat.zero_le _, Nat.zero_le _⟩ dX12_turns_147) hS (fun H locs hP hS hW => ?_)
  refine lv_aload_n hx hb dX12_turns_150 rfl (lv_at hl 0 rfl) ?_
  refine lv_iload_n hx hb dX12_turns_151 rfl (lv_at hl 1 rfl) ?_
  refine lv_iload_n hx hb dX12_turns_152 rfl (lv_at hl 3 rfl) ?_
  obtain ⟨r12, er12, hf⟩ := bd1_e hf
  refine x_aft_i (x_runV (As := [.int v1, .int v3]) (rest := [.long r11, .int r9, .int v2, .ref v0]) C hP hS (c_X12_placeOf (l := l) C.2.2.2.2.2.2.2.2.2.1 hW h_v0 k_v0 er12 H.size) h_v0 k_v0 (by decide) rfl rfl km_X12_placeOf ki_X12_placeOf qm_X12_351 ⟨(Nat.le_of_ble_eq_true rfl), (Nat.le_of_ble_eq_true rfl)⟩ rfl hl.1 rfl (Nat.le_of_ble_eq_true rfl) ⟨Nat.zero_le _, Nat.zero_le _⟩ dX12_turns_153) hS (fun H locs hP hS hW => ?_)
  refine lv_iconst (v := 0) hx hb dX12_turns_156 rfl ?_
  refine lv_iload hx hb dX12_turns_157 (lv_at hl 4 rfl) ?_
  obtain ⟨r13, S14, eS14, hf⟩ := bd2_e hf
  refine x_aft_i (x_runV (As := [.int v2, .int r9, .long r11, .int r12, .int 0, .int v4]) (rest := []) C hP hS (c_X12_rounds (l := l) C.2.2.2.2.2.2.2.2.2.1 hW h_v0 k_v0 eS14 H.size) h_v0 k_v0 (by decide) rfl rfl km_X12_rounds ki_X12_rounds qm_X12_334 ⟨(Nat.le_of_ble_eq_true rfl), (Nat.le_of_ble_eq_true rfl)⟩ rfl hl.1 rfl (Nat.le_of_ble_eq_true rfl) ⟨Nat.zero_le _, Nat.zero_le _⟩ dX12_turns_159) hS (fun H locs hP hS hW => ?_)
  cases hf
  exact x_reti C hP hS hW dX12_turns_162
set_option maxRecDepth 100000 in
set_option maxHeartbeats 4000000 in
theorem b_X12_turns_18 {p : Program} {l : Launch} {e : Env} {s : State} {m : MethodId} {args : Array Value} {below : List Frame} {meth : Method} {c : Code} {V : EV} {G : GS} {r : Int32} {S' : HS} {F : Nat} (C : CX p s m args meth c RX12 cX12_turns 6 (some .int) V G) : ∀ (v0 : Nat) (v1 : Int32) (v2 : Int32) (v3 : Int32) (v4 : Int32) (w0 : Int32) (h_v0 : v0 ∈ G.1) (k_v0 : G.2.1 v0 = 12) (S : HS) (H : Heap) (locs : List Loc) (ls : Array Slot), s_X12_turns_J18 G.2.2 F v0 v1 v2 v3 v4 w0 S = some (r, S') → HP V G S H → va_S (AG G s.heap.size) s.heap H locs → WT G S → lv_has ls 6 [(0, .ref v0), (1, .int v1), (2, .int v2), (3, .int v3), (4, .int v4)] → W p l e (RM 6 194) s m args below meth c H locs 0 0 (MQ below (QI V G S' r s.heap.size) args s 0 0 (AG G s.heap.size)) (F0 m 18 ls [.int w0]) := by
  intro v0 v1 v2 v3 v4 w0 h_v0 k_v0 S H locs ls hf hP hS hW hl
  have hx := C.1
  have hb := C.2.1
  unfold s_X12_turns_J18 at hf
  refine lv_istore (lv' := [(5, .int w0), (0, .ref v0), (1, .int v1), (2, .int v2), (3, .int v3), (4, .int v4)]) hx hb dX12_turns_18 hl (by decide) rfl (fun ls hl => ?_)
  refine lv_aload_n hx hb dX12_turns_20 rfl (lv_at hl 1 rfl) ?_
  refine lv_iload_n hx hb dX12_turns_21 rfl (lv_at hl 2 rfl) ?_
  refine lv_iload_n hx hb dX12_turns_22 rfl (lv_at hl 4 rfl) ?_
  obtain ⟨r4, er4, hf⟩ := bd1_e hf
  refine x_aft_i (x_runV (As := [.int v1, .int v3]) (rest := []) C hP hS (c_X12_classOf (l := l) C.2.2.2.2.2.2.2.2.2.1 hW h_v0 k_v0 er4 H.size) h_v0 k_v0 (by decide) rfl rfl km_X12_classOf ki_X12_classOf qm_X12_276 ⟨(Nat.le_of_ble_eq_true rfl), (Nat.le_of_ble_eq_true rfl)⟩ rfl hl.1 rfl (Nat.le_of_ble_eq_true rfl) ⟨Nat.zero_le _, Nat.zero_le _⟩ dX12_turns_23) hS (fun H locs hP hS hW => ?_)
  by_cases c5 : r4 = 0
  · have hf := if_t c5 hf
    refine lv_tableIn (tgt := 128) (off := 102) hx hb dX12_turns_26 (by rw [c5]; decide) (by rw [c5]; decide) (by rw [c5]; rfl) (by decide) ?_
    refine lv_aload_n hx hb dX12_turns_128 rfl (lv_at hl 1 rfl) ?_
    refine lv_iload hx hb dX12_turns_129 (lv_at hl 0 rfl) ?_
    refine lv_iconst (v := 0) hx hb dX12_turns_131 rfl ?_
    obtain ⟨r6, S7, eS7, hf⟩ := bn2_e hf
    refine x_aft_i (x_runV (As := [.int w0, .int 0]) (rest := []) C hP hS (c_X12_tells (l := l) C.2.2.2.2.2.2.2.2.2.1 hW h_v0 k_v0 eS7 H.size) h_v0 k_v0 (by decide) rfl rfl km_X12_tells ki_X12_tells qm_X12_338 ⟨(Nat.le_of_ble_eq_true rfl), (Nat.le_of_ble_eq_true rfl)⟩ rfl hl.1 rfl (Nat.le_of_ble_eq_true rfl) ⟨Nat.zero_le _, Nat.zero_le _⟩ dX12_turns_132) hS (fun H locs hP hS hW => ?_)
    cases hf
    exact x_reti C hP hS hW dX12_turns_135
  have hf := if_f c5 hf
  by_cases c8 : r4 = 1
  · have hf := if_t c8 hf
    refine lv_tableIn (tgt := 136) (off := 110) hx hb dX12_turns_26 (by rw [c8]; decide) (by rw [c8]; decide) (by rw [c8]; rfl) (by decide) ?_
    exact b_X12_turns_136 C v0 v1 v2 v3 v4 h_v0 k_v0 S H locs _ hf hP hS hW (lv_sub hl [1, 2, 3, 4, 5] rfl)
  have hf := if_f c8 hf
  by_cases c15 : r4 = 2
  · have hf := if_t c15 hf
    refine lv_tableIn (tgt := 136) (off := 110) hx hb dX12_turns_26 (by rw [c15]; decide) (by rw [c15]; decide) (by rw [c15]; rfl) (by decide) ?_
    exact b_X12_turns_136 C v0 v1 v2 v3 v4 h_v0 k_v0 S H locs _ hf hP hS hW (lv_sub hl [1, 2, 3, 4, 5] rfl)
  have hf := if_f c15 hf
  by_cases c16 : r4 = 3
  · have hf := if_t c16 hf
    refine lv_tableIn (tgt := 89) (off := 63) hx hb dX12_turns_26 (by rw [c16]; decide) (by rw [c16]; decide) (by rw [c16]; rfl) (by decide) ?_
    refine lv_aload_n hx hb dX12_turns_89 rfl (lv_at hl 1 rfl) ?_
    refine lv_iload_n hx hb dX12_turns_90 rfl (lv_at hl 3 rfl) ?_
    obtain ⟨r17, er17, hf⟩ := bd1_e hf
    refine x_aft_i (x_runV (As := [.int v2]) (rest := []) C hP hS (c_X12_kindOf (l := l) C.2.2.2.2.2.2.2.2.2.1 hW h_v0 k_v0 er17 H.size) h_v0 k_v0 (by decide) rfl rfl km_X12_kindOf ki_X12_kindOf qm_X12_249 ⟨(Nat.le_of_ble_eq_true rfl), (Nat.le_of_ble_eq_true rfl)⟩ rfl hl.1 rfl (Nat.le_of_ble_eq_true rfl) ⟨Nat.zero_le _, Nat.zero_le _⟩ dX12_turns_91) hS (fun H locs hP hS hW => ?_)
    refine lv_iconst (v := 3) hx hb dX12_turns_94 rfl ?_
    refine lv_icmp_ne (tgt := 114) hx hb dX12_turns_95 (by decide) (fun c18 => ?_) (fun c18 => ?_)
    · have hf := if_f c18 hf
      refine lv_aload_n hx hb dX12_turns_114 rfl (lv_at hl 1 rfl) ?_
      refine lv_iload hx hb dX12_turns_115 (lv_at hl 0 rfl) ?_
      refine lv_aload_n hx hb dX12_turns_117 rfl (lv_at hl 1 rfl) ?_
      refine lv_iload_n hx hb dX12_turns_118 rfl (lv_at hl 3 rfl) ?_
      obtain ⟨r19, er19, hf⟩ := bd1_e hf
      refine x_aft_i (x_runV (As := [.int v2]) (rest := [.int w0, .ref v0]) C hP hS (c_X12_infOf (l := l) C.2.2.2.2.2.2.2.2.2.1 hW h_v0 k_v0 er19 H.size) h_v0 k_v0 (by decide) rfl rfl km_X12_infOf ki_X12_infOf qm_X12_261 ⟨(Nat.le_of_ble_eq_true rfl), (Nat.le_of_ble_eq_true rfl)⟩ rfl hl.1 rfl (Nat.le_of_ble_eq_true rfl) ⟨Nat.zero_le _, Nat.zero_le _⟩ dX12_turns_119) hS (fun H locs hP hS hW => ?_)
      refine lv_iadd hx hb dX12_turns_122 ?_
      refine lv_iconst (v := 0) hx hb dX12_turns_123 rfl ?_
      obtain ⟨r20, S21, eS21, hf⟩ := bn2_e hf
      refine x_aft_i (x_runV (As := [.int (w0 + r19), .int 0]) (rest := []) C hP hS (c_X12_tells (l := l) C.2.2.2.2.2.2.2.2.2.1 hW h_v0 k_v0 eS21 H.size) h_v0 k_v0 (by decide) rfl rfl km_X12_tells ki_X12_tells qm_X12_338 ⟨(Nat.le_of_ble_eq_true rfl), (Nat.le_of_ble_eq_true rfl)⟩ rfl hl.1 rfl (Nat.le_of_ble_eq_true rfl) ⟨Nat.zero_le _, Nat.zero_le _⟩ dX12_turns_124) hS (fun H locs hP hS hW => ?_)
      cases hf
      exact x_reti C hP hS hW dX12_turns_127
    · have hf := if_t c18 hf
      refine lv_aload_n hx hb dX12_turns_98 rfl (lv_at hl 1 rfl) ?_
      refine lv_iload hx hb dX12_turns_99 (lv_at hl 0 rfl) ?_
      refine lv_aload_n hx hb dX12_turns_101 rfl (lv_at hl 1 rfl) ?_
      refine lv_iload_n hx hb dX12_turns_102 rfl (lv_at hl 3 rfl) ?_
      obtain ⟨r22, er22, hf⟩ := bd1_e hf
      refine x_aft_i (x_runV (As := [.int v2]) (rest := [.int w0, .ref v0]) C hP hS (c_X12_greatestOf (l := l) C.2.2.2.2.2.2.2.2.2.1 hW h_v0 k_v0 er22 H.size) h_v0 k_v0 (by decide) rfl rfl km_X12_greatestOf ki_X12_greatestOf qm_X12_327 ⟨(Nat.le_of_ble_eq_true rfl), (Nat.le_of_ble_eq_true rfl)⟩ rfl hl.1 rfl (Nat.le_of_ble_eq_true rfl) ⟨Nat.zero_le _, Nat.zero_le _⟩ dX12_turns_103) hS (fun H locs hP hS hW => ?_)
      refine lv_iadd hx hb dX12_turns_106 ?_
      refine lv_iconst (v := 1) hx hb dX12_turns_107 rfl ?_
      obtain ⟨r23, S24, eS24, hf⟩ := bn2_e hf
      refine x_aft_i (x_runV (As := [.int (w0 + r22), .int 1]) (rest := []) C hP hS (c_X12_tells (l := l) C.2.2.2.2.2.2.2.2.2.1 hW h_v0 k_v0 eS24 H.size) h_v0 k_v0 (by decide) rfl rfl km_X12_tells ki_X12_tells qm_X12_338 ⟨(Nat.le_of_ble_eq_true rfl), (Nat.le_of_ble_eq_true rfl)⟩ rfl hl.1 rfl (Nat.le_of_ble_eq_true rfl) ⟨Nat.zero_le _, Nat.zero_le _⟩ dX12_turns_108) hS (fun H locs hP hS hW => ?_)
      refine lv_goto (tgt := 127) hx hb dX12_turns_111 (by decide) ?_
      cases hf
      exact x_reti C hP hS hW dX12_turns_127
  have hf := if_f c16 hf
  by_cases c25 : r4 = 4
  · have hf := if_t c25 hf
    refine lv_tableIn (tgt := 60) (off := 34) hx hb dX12_turns_26 (by rw [c25]; decide) (by rw [c25]; decide) (by rw [c25]; rfl) (by decide) ?_
    refine lv_aload_n hx hb dX12_turns_60 rfl (lv_at hl 1 rfl) ?_
    refine lv_iload_n hx hb dX12_turns_61 rfl (lv_at hl 3 rfl) ?_
    obtain ⟨r26, er26, hf⟩ := bd1_e hf
    refine x_aft_i (x_runV (As := [.int v2]) (rest := []) C hP hS (c_X12_kindOf (l := l) C.2.2.2.2.2.2.2.2.2.1 hW h_v0 k_v0 er26 H.size) h_v0 k_v0 (by decide) rfl rfl km_X12_kindOf ki_X12_kindOf qm_X12_249 ⟨(Nat.le_of_ble_eq_true rfl), (Nat.le_of_ble_eq_true rfl)⟩ rfl hl.1 rfl (Nat.le_of_ble_eq_true rfl) ⟨Nat.zero_le _, Nat.zero_le _⟩ dX12_turns_62) hS (fun H locs hP hS hW => ?_)
    refine lv_iconst (v := 3) hx hb dX12_turns_65 rfl ?_
    refine lv_icmp_ne (tgt := 78) hx hb dX12_turns_66 (by decide) (fun c27 => ?_) (fun c27 => ?_)
    · have hf := if_f c27 hf
      refine lv_aload_n hx hb dX12_turns_78 rfl (lv_at hl 1 rfl) ?_
      refine lv_aload_n hx hb dX12_turns_79 rfl (lv_at hl 1 rfl) ?_
      refine lv_iload_n hx hb dX12_turns_80 rfl (lv_at hl 3 rfl) ?_
      obtain ⟨r28, er28, hf⟩ := bd1_e hf
      refine x_aft_i (x_runV (As := [.int v2]) (rest := [.ref v0]) C hP hS (c_X12_nanOf (l := l) C.2.2.2.2.2.2.2.2.2.1 hW h_v0 k_v0 er28 H.size) h_v0 k_v0 (by decide) rfl rfl km_X12_nanOf ki_X12_nanOf qm_X12_344 ⟨(Nat.le_of_ble_eq_true rfl), (Nat.le_of_ble_eq_true rfl)⟩ rfl hl.1 rfl (Nat.le_of_ble_eq_true rfl) ⟨Nat.zero_le _, Nat.zero_le _⟩ dX12_turns_81) hS (fun H locs hP hS hW => ?_)
      refine lv_iconst (v := 0) hx hb dX12_turns_84 rfl ?_
      obtain ⟨r29, S30, eS30, hf⟩ := bn2_e hf
      refine x_aft_i (x_runV (As := [.int r28, .int 0]) (rest := []) C hP hS (c_X12_tells (l := l) C.2.2.2.2.2.2.2.2.2.1 hW h_v0 k_v0 eS30 H.size) h_v0 k_v0 (by decide) rfl rfl km_X12_tells ki_X12_tells qm_X12_338 ⟨(Nat.le_of_ble_eq_true rfl), (Nat.le_of_ble_eq_true rfl)⟩ rfl hl.1 rfl (Nat.le_of_ble_eq_true rfl) ⟨Nat.zero_le _, Nat.zero_le _⟩ dX12_turns_85) hS (fun H locs hP hS hW => ?_)
      cases hf
      exact x_reti C hP hS hW dX12_turns_88
    · have hf := if_t c27 hf
      refine lv_aload_n hx hb dX12_turns_69 rfl (lv_at hl 1 rfl) ?_
      refine lv_iconst (v := 0) hx hb dX12_turns_70 rfl ?_
      refine lv_iconst (v := 1) hx hb dX12_turns_71 rfl ?_
      obtain ⟨r31, S32, eS32, hf⟩ := bn2_e hf
      refine x_aft_i (x_runV (As := [.int 0, .int 1]) (rest := []) C hP hS (c_X12_tells (l := l) C.2.2.2.2.2.2.2.2.2.1 hW h_v0 k_v0 eS32 H.size) h_v0 k_v0 (by decide) rfl rfl km_X12_tells ki_X12_tells qm_X12_338 ⟨(Nat.le_of_ble_eq_true rfl), (Nat.le_of_ble_eq_true rfl)⟩ rfl hl.1 rfl (Nat.le_of_ble_eq_true rfl) ⟨Nat.zero_le _, Nat.zero_le _⟩ dX12_turns_72) hS (fun H locs hP hS hW => ?_)
      refine lv_goto (tgt := 88) hx hb dX12_turns_75 (by decide) ?_
      cases hf
      exact x_reti C hP hS hW dX12_turns_88
  have hf := if_f c25 hf
  refine lv_tableOut (tgt := 136) hx hb dX12_turns_26 (sw_out (fun k h1 h2 e9 => by
    rcases (show k = 0 ∨ k = 1 ∨ k = 2 ∨ k = 3 ∨ k = 4 by omega) with rfl | rfl | rfl | rfl | rfl
    · exact c5 e9
    · exact c8 e9
    · exact c15 e9
    · exact c16 e9
    · exact c25 e9
    )) (by decide) ?_
  exact b_X12_turns_136 C v0 v1 v2 v3 v4 h_v0 k_v0 S H locs _ hf hP hS hW (lv_sub hl [1, 2, 3, 4, 5] rfl)
set_option maxRecDepth 100000 in
set_option maxHeartbeats 4000000 in
theorem c_X12_turns {l : Launch} {V : EV} {G : GS} {S : HS} {F : Nat} {a : Nat} {p0 : Int32} {p1 : Int32} {p2 : Int32} {p3 : Int32} {r : Int32} {S' : HS} (hN : G.1.Nodup) (hW : WT G S) (h_a : a ∈ G.1) (k_a : G.2.1 a = 12) (hf : s_X12_turns G.2.2 F a p0 p1 p2 p3 S = some (r, S')) : MetI l yX12_turns cX12_turns 6 .int 6 194 V G S [.ref a, .int p0, .int p1, .int p2, .int p3] r S' := by
  intro sz
  refine x_in RX12 rfl (by decide +kernel) hN (Nat.le_of_ble_eq_true rfl) (fun p e s m args below meth c ls hsz hargs hnm C hP hS hl => ?_)
  subst hsz
  have hx := C.1
  have hb := C.2.1
  have hl : lv_has ls 6 [(0, .ref a), (1, .int p0), (2, .int p1), (3, .int p2), (4, .int p3)] := hl
  unfold s_X12_turns at hf
  refine lv_aload_n hx hb dX12_turns_0 rfl (lv_at hl 0 rfl) ?_
  refine lv_iload_n hx hb dX12_turns_1 rfl (lv_at hl 1 rfl) ?_
  refine lv_iload_n hx hb dX12_turns_2 rfl (lv_at hl 3 rfl) ?_
  obtain ⟨r1, er1, hf⟩ := bd1_e hf
  refine x_aft_z (x_runV (As := [.int p0, .int p2]) (rest := []) C hP hS (c_X12_isMinus (l := l) C.2.2.2.2.2.2.2.2.2.1 hW h_a k_a er1 s.heap.size) h_a k_a (by decide) rfl rfl km_X12_isMinus ki_X12_isMinus qm_X12_283 ⟨(Nat.le_of_ble_eq_true rfl), (Nat.le_of_ble_eq_true rfl)⟩ rfl hl.1 rfl (Nat.le_of_ble_eq_true rfl) ⟨Nat.zero_le _, Nat.zero_le _⟩ dX12_turns_3) hS (fun H locs hP hS hW z2 => ?_)
  refine lv_if_eq (tgt := 17) hx hb dX12_turns_6 (by decide) (fun c3 => ?_) (fun c3 => ?_)
  · have hf := if_t c3 hf
    refine lv_iconst (v := 0) hx hb dX12_turns_17 rfl ?_
    exact b_X12_turns_18 C a p0 p1 p2 p3 0 h_a k_a S H locs _ hf hP hS hW (lv_sub hl [0, 1, 2, 3, 4] rfl)
  · have hf := if_f c3 hf
    refine lv_aload_n hx hb dX12_turns_9 rfl (lv_at hl 0 rfl) ?_
    refine lv_iload_n hx hb dX12_turns_10 rfl (lv_at hl 2 rfl) ?_
    obtain ⟨r33, er33, hf⟩ := bd1_e hf
    refine x_aft_i (x_runV (As := [.int p1]) (rest := []) C hP hS (c_X12_signOf (l := l) C.2.2.2.2.2.2.2.2.2.1 hW h_a k_a er33 H.size) h_a k_a (by decide) rfl rfl km_X12_signOf ki_X12_signOf qm_X12_267 ⟨(Nat.le_of_ble_eq_true rfl), (Nat.le_of_ble_eq_true rfl)⟩ rfl hl.1 rfl (Nat.le_of_ble_eq_true rfl) ⟨Nat.zero_le _, Nat.zero_le _⟩ dX12_turns_11) hS (fun H locs hP hS hW => ?_)
    refine lv_goto (tgt := 18) hx hb dX12_turns_14 (by decide) ?_
    exact b_X12_turns_18 C a p0 p1 p2 p3 r33 h_a k_a S H locs _ hf hP hS hW (lv_sub hl [0, 1, 2, 3, 4] rfl)
def s_X12_uses_L5 (N : Nat → Nat) (F : Nat) (k81 : Nat → Int32 → Int32 → Int32 → HS → Option (Int32 × HS)) : Nat → Nat → Int32 → Int32 → Int32 → Int32 → HS → Option (Int32 × HS)
  | 0, _, _, _, _, _, _ => none
  | n + 1, v0, v1, v2, v3, v4, S => bd1 (s_X12_regs N v0 S) fun r1 =>
  if r1 ≤ v4 then
  k81 v0 v1 v2 v3 S
  else
  bd1 (gR S 1217 v0) fun t3 =>
  if inB (v1 + 0) (N t3) = true then
  if (aI S t3 (v1 + 0).toNatClampNeg) < (0 : Int32) then
  k81 v0 v1 v2 v3 S
  else
  bd1 (gR S 1217 v0) fun t6 =>
  bd1 (gR S 1217 v0) fun t7 =>
  if inB (v1 + 0) (N t7) = true then
  bd1 (gR S 1217 v0) fun t9 =>
  if inB ((v1 + 4) + v4) (N t9) = true then
  bd1 (gR S 1217 v0) fun t11 =>
  if inB (v1 + 1) (N t11) = true then
  bd2 (s_X12_turns N F v0 (aI S t7 (v1 + 0).toNatClampNeg) v2 (aI S t9 ((v1 + 4) + v4).toNatClampNeg) (aI S t11 (v1 + 1).toNatClampNeg) S) fun r13 S14 =>
  if inB ((v1 + 4) + v4) (N t6) = true then
  bnd (wI S14 t6 (((v1 + 4) + v4).toNatClampNeg) r13) fun S16 =>
  bnd (v3 ||| (gI S16 1220 v0) : Int32) fun x17 =>
  bnd (v4 + Int32.ofInt 1 : Int32) fun x18 =>
  s_X12_uses_L5 N F k81 n v0 v1 v2 x17 x18 S16
  else none
  else none
  else none
  else none
  else none
def s_X12_uses_J81 (N : Nat → Nat) (F : Nat) (v0 : Nat) (v1 : Int32) (v2 : Int32) (v3 : Int32) (S : HS) : Option (Int32 × HS) :=
  bd1 (gR S 1217 v0) fun t19 =>
  if inB (v1 + 0) (N t19) = true then
  bnd (wI S t19 ((v1 + 0).toNatClampNeg) v2) fun S21 =>
  bd1 (gR S21 1217 v0) fun t22 =>
  if inB (v1 + 2) (N t22) = true then
  if inB (v1 + 2) (N t22) = true then
  bnd (wI S21 t22 ((v1 + 2).toNatClampNeg) ((aI S21 t22 (v1 + 2).toNatClampNeg) ||| v3)) fun S25 =>
  some (v3, S25)
  else none
  else none
  else none
def s_X12_uses (N : Nat → Nat) (F : Nat) (a : Nat) (p0 : Int32) (p1 : Int32) (S : HS) : Option (Int32 × HS) :=
  s_X12_uses_L5 N F (s_X12_uses_J81 N F) F a p0 p1 0 0 S
set_option maxRecDepth 100000 in
set_option maxHeartbeats 4000000 in
theorem b_X12_uses_5 {p : Program} {l : Launch} {e : Env} {s : State} {m : MethodId} {args : Array Value} {below : List Frame} {meth : Method} {c : Code} {V : EV} {G : GS} {r : Int32} {S' : HS} {F : Nat} (C : CX p s m args meth c RX12 cX12_uses 5 (some .int) V G) {k81 : Nat → Int32 → Int32 → Int32 → HS → Option (Int32 × HS)} (hk81 : ∀ (v0 : Nat) (v1 : Int32) (v2 : Int32) (v3 : Int32) (h_v0 : v0 ∈ G.1) (k_v0 : G.2.1 v0 = 12) (S : HS) (H : Heap) (locs : List Loc) (ls : Array Slot), k81 v0 v1 v2 v3 S = some (r, S') → HP V G S H → va_S (AG G s.heap.size) s.heap H locs → WT G S → lv_has ls 5 [(0, .ref v0), (1, .int v1), (2, .int v2), (3, .int v3)] → W p l e (RM 7 227) s m args below meth c H locs 0 0 (MQ below (QI V G S' r s.heap.size) args s 0 0 (AG G s.heap.size)) (F0 m 81 ls [])) : ∀ n : Nat, ∀ (v0 : Nat) (v1 : Int32) (v2 : Int32) (v3 : Int32) (v4 : Int32) (h_v0 : v0 ∈ G.1) (k_v0 : G.2.1 v0 = 12) (S : HS) (H : Heap) (locs : List Loc) (ls : Array Slot), s_X12_uses_L5 G.2.2 F k81 n v0 v1 v2 v3 v4 S = some (r, S') → HP V G S H → va_S (AG G s.heap.size) s.heap H locs → WT G S → lv_has ls 5 [(0, .ref v0), (1, .int v1), (2, .int v2), (3, .int v3), (4, .int v4)] → W p l e (RM 7 227) s m args below meth c H locs 0 0 (MQ below (QI V G S' r s.heap.size) args s 0 0 (AG G s.heap.size)) (F0 m 5 ls []) := by
  intro n
  induction n with
  | zero =>
    intro v0 v1 v2 v3 v4 h_v0 k_v0 S H locs ls hf
    rw [s_X12_uses_L5] at hf
    cases hf
  | succ n ih =>
    intro v0 v1 v2 v3 v4 h_v0 k_v0 S H locs ls hf hP hS hW hl
    have hx := C.1
    have hb := C.2.1
    rw [s_X12_uses_L5] at hf
    refine lv_iload hx hb dX12_uses_5 (lv_at hl 4 rfl) ?_
    refine lv_aload_n hx hb dX12_uses_7 rfl (lv_at hl 0 rfl) ?_
    obtain ⟨r1, er1, hf⟩ := bd1_e hf
    refine x_aft_i (x_runV (As := []) (rest := [.int v4]) C hP hS (c_X12_regs (l := l) C.2.2.2.2.2.2.2.2.2.1 hW h_v0 k_v0 er1 H.size) h_v0 k_v0 (by decide) rfl rfl km_X12_regs ki_X12_regs qm_X12_212 ⟨(Nat.le_of_ble_eq_true rfl), (Nat.le_of_ble_eq_true rfl)⟩ rfl hl.1 rfl (Nat.le_of_ble_eq_true rfl) ⟨Nat.zero_le _, Nat.zero_le _⟩ dX12_uses_8) hS (fun H locs hP hS hW => ?_)
    refine lv_icmp_ge (tgt := 81) hx hb dX12_uses_11 (by decide) (fun c2 => ?_) (fun c2 => ?_)
    · have hf := if_t c2 hf
      exact hk81 v0 v1 v2 v3 h_v0 k_v0 S H locs _ hf hP hS hW (lv_sub hl [0, 1, 2, 3] rfl)
    · have hf := if_f c2 hf
      refine lv_aload_n hx hb dX12_uses_14 rfl (lv_at hl 0 rfl) ?_
      refine gf_X12_95 C hP h_v0 k_v0 dX12_uses_15 ?_
      obtain ⟨t3, et3, hf⟩ := bd1_e hf
      obtain ⟨h_t3, k_t3⟩ := wt_r hW h_v0 k_v0 (by decide) et3
      have k_t3 : G.2.1 t3 = 14 := k_t3
      rw [et3]
      refine lv_iload_n hx hb dX12_uses_18 rfl (lv_at hl 1 rfl) ?_
      refine lv_iconst (v := 0) hx hb dX12_uses_19 rfl ?_
      refine lv_iadd hx hb dX12_uses_20 ?_
      obtain ⟨h4, hf⟩ := if_s hf
      refine x_iald C hP h_t3 k_t3 h4 dX12_uses_21 ?_
      refine lv_if_lt (tgt := 81) hx hb dX12_uses_22 (by decide) (fun c5 => ?_) (fun c5 => ?_)
      · have hf := if_t c5 hf
        exact hk81 v0 v1 v2 v3 h_v0 k_v0 S H locs _ hf hP hS hW (lv_sub hl [0, 1, 2, 3] rfl)
      · have hf := if_f c5 hf
        refine lv_aload_n hx hb dX12_uses_25 rfl (lv_at hl 0 rfl) ?_
        refine gf_X12_95 C hP h_v0 k_v0 dX12_uses_26 ?_
        obtain ⟨t6, et6, hf⟩ := bd1_e hf
        obtain ⟨h_t6, k_t6⟩ := wt_r hW h_v0 k_v0 (by decide) et6
        have k_t6 : G.2.1 t6 = 14 := k_t6
        rw [et6]
        refine lv_iload_n hx hb dX12_uses_29 rfl (lv_at hl 1 rfl) ?_
        refine lv_iconst (v := 4) hx hb dX12_uses_30 rfl ?_
        refine lv_iadd hx hb dX12_uses_31 ?_
        refine lv_iload hx hb dX12_uses_32 (lv_at hl 4 rfl) ?_
        refine lv_iadd hx hb dX12_uses_34 ?_
        refine lv_aload_n hx hb dX12_uses_35 rfl (lv_at hl 0 rfl) ?_
        refine lv_aload_n hx hb dX12_uses_36 rfl (lv_at hl 0 rfl) ?_
        refine gf_X12_95 C hP h_v0 k_v0 dX12_uses_37 ?_
        obtain ⟨t7, et7, hf⟩ := bd1_e hf
        obtain ⟨h_t7, k_t7⟩ := wt_r hW h_v0 k_v0 (by decide) et7
        have k_t7 : G.2.1 t7 = 14 := k_t7
        rw [et7]
        refine lv_iload_n hx hb dX12_uses_40 rfl (lv_at hl 1 rfl) ?_
        refine lv_iconst (v := 0) hx hb dX12_uses_41 rfl ?_
        refine lv_iadd hx hb dX12_uses_42 ?_
        obtain ⟨h8, hf⟩ := if_s hf
        refine x_iald C hP h_t7 k_t7 h8 dX12_uses_43 ?_
        refine lv_iload_n hx hb dX12_uses_44 rfl (lv_at hl 2 rfl) ?_
        refine lv_aload_n hx hb dX12_uses_45 rfl (lv_at hl 0 rfl) ?_
        refine gf_X12_95 C hP h_v0 k_v0 dX12_uses_46 ?_
        obtain ⟨t9, et9, hf⟩ := bd1_e hf
        obtain ⟨h_t9, k_t9⟩ := wt_r hW h_v0 k_v0 (by decide) et9
        have k_t9 : G.2.1 t9 = 14 := k_t9
        rw [et9]
        refine lv_iload_n hx hb dX12_uses_49 rfl (lv_at hl 1 rfl) ?_
        refine lv_iconst (v := 4) hx hb dX12_uses_50 rfl ?_
        refine lv_iadd hx hb dX12_uses_51 ?_
        refine lv_iload hx hb dX12_uses_52 (lv_at hl 4 rfl) ?_
        refine lv_iadd hx hb dX12_uses_54 ?_
        obtain ⟨h10, hf⟩ := if_s hf
        refine x_iald C hP h_t9 k_t9 h10 dX12_uses_55 ?_
        refine lv_aload_n hx hb dX12_uses_56 rfl (lv_at hl 0 rfl) ?_
        refine gf_X12_95 C hP h_v0 k_v0 dX12_uses_57 ?_
        obtain ⟨t11, et11, hf⟩ := bd1_e hf
        obtain ⟨h_t11, k_t11⟩ := wt_r hW h_v0 k_v0 (by decide) et11
        have k_t11 : G.2.1 t11 = 14 := k_t11
        rw [et11]
        refine lv_iload_n hx hb dX12_uses_60 rfl (lv_at hl 1 rfl) ?_
        refine lv_iconst (v := 1) hx hb dX12_uses_61 rfl ?_
        refine lv_iadd hx hb dX12_uses_62 ?_
        obtain ⟨h12, hf⟩ := if_s hf
        refine x_iald C hP h_t11 k_t11 h12 dX12_uses_63 ?_
        obtain ⟨r13, S14, eS14, hf⟩ := bd2_e hf
        refine x_aft_i (x_runV (As := [.int (aI S t7 (v1 + 0).toNatClampNeg), .int v2, .int (aI S t9 ((v1 + 4) + v4).toNatClampNeg), .int (aI S t11 (v1 + 1).toNatClampNeg)]) (rest := [.int ((v1 + 4) + v4), .ref t6]) C hP hS (c_X12_turns (l := l) C.2.2.2.2.2.2.2.2.2.1 hW h_v0 k_v0 eS14 H.size) h_v0 k_v0 (by decide) rfl rfl km_X12_turns ki_X12_turns qm_X12_390 ⟨(Nat.le_of_ble_eq_true rfl), (Nat.le_of_ble_eq_true rfl)⟩ rfl hl.1 rfl (Nat.le_of_ble_eq_true rfl) ⟨Nat.zero_le _, Nat.zero_le _⟩ dX12_uses_64) hS (fun H locs hP hS hW => ?_)
        obtain ⟨h15, hf⟩ := if_s hf
        obtain ⟨S16, eS16, hf⟩ := bnd_e hf
        refine x_iast C hP hS h_t6 k_t6 h15 eS16 dX12_uses_67 (fun H locs hP hS => ?_)
        have hW : WT G S16 := by rw [eS16]; exact hW
        refine lv_iload_n hx hb dX12_uses_68 rfl (lv_at hl 3 rfl) ?_
        refine lv_aload_n hx hb dX12_uses_69 rfl (lv_at hl 0 rfl) ?_
        refine gf_X12_315 C hP h_v0 k_v0 dX12_uses_70 ?_
        refine lv_ior hx hb dX12_uses_73 ?_
        obtain ⟨x17, ex17, hf⟩ := bnd_e hf
        refine nm_i ex17 ?_
        refine lv_istore_n (lv' := [(3, .int x17), (0, .ref v0), (1, .int v1), (2, .int v2), (4, .int v4)]) hx hb dX12_uses_74 rfl hl (by decide) rfl (fun ls hl => ?_)
        obtain ⟨x18, ex18, hf⟩ := bnd_e hf
        refine lv_iinc (v := x18) (lv' := [(4, .int x18), (3, .int x17), (0, .ref v0), (1, .int v1), (2, .int v2)]) hx hb dX12_uses_75 hl (k := 4) rfl ex18.symm (by decide) rfl (fun ls hl => ?_)
        refine lv_goto (tgt := 5) hx hb dX12_uses_78 (by decide) ?_
        exact ih v0 v1 v2 x17 x18 h_v0 k_v0 S16 H locs _ hf hP hS hW (lv_sub hl [2, 3, 4, 1, 0] rfl)
set_option maxRecDepth 100000 in
set_option maxHeartbeats 4000000 in
theorem b_X12_uses_81 {p : Program} {l : Launch} {e : Env} {s : State} {m : MethodId} {args : Array Value} {below : List Frame} {meth : Method} {c : Code} {V : EV} {G : GS} {r : Int32} {S' : HS} {F : Nat} (C : CX p s m args meth c RX12 cX12_uses 5 (some .int) V G) : ∀ (v0 : Nat) (v1 : Int32) (v2 : Int32) (v3 : Int32) (h_v0 : v0 ∈ G.1) (k_v0 : G.2.1 v0 = 12) (S : HS) (H : Heap) (locs : List Loc) (ls : Array Slot), s_X12_uses_J81 G.2.2 F v0 v1 v2 v3 S = some (r, S') → HP V G S H → va_S (AG G s.heap.size) s.heap H locs → WT G S → lv_has ls 5 [(0, .ref v0), (1, .int v1), (2, .int v2), (3, .int v3)] → W p l e (RM 7 227) s m args below meth c H locs 0 0 (MQ below (QI V G S' r s.heap.size) args s 0 0 (AG G s.heap.size)) (F0 m 81 ls []) := by
  intro v0 v1 v2 v3 h_v0 k_v0 S H locs ls hf hP hS hW hl
  have hx := C.1
  have hb := C.2.1
  unfold s_X12_uses_J81 at hf
  refine lv_aload_n hx hb dX12_uses_81 rfl (lv_at hl 0 rfl) ?_
  refine gf_X12_95 C hP h_v0 k_v0 dX12_uses_82 ?_
  obtain ⟨t19, et19, hf⟩ := bd1_e hf
  obtain ⟨h_t19, k_t19⟩ := wt_r hW h_v0 k_v0 (by decide) et19
  have k_t19 : G.2.1 t19 = 14 := k_t19
  rw [et19]
  refine lv_iload_n hx hb dX12_uses_85 rfl (lv_at hl 1 rfl) ?_
  refine lv_iconst (v := 0) hx hb dX12_uses_86 rfl ?_
  refine lv_iadd hx hb dX12_uses_87 ?_
  refine lv_iload_n hx hb dX12_uses_88 rfl (lv_at hl 2 rfl) ?_
  obtain ⟨h20, hf⟩ := if_s hf
  obtain ⟨S21, eS21, hf⟩ := bnd_e hf
  refine x_iast C hP hS h_t19 k_t19 h20 eS21 dX12_uses_89 (fun H locs hP hS => ?_)
  have hW : WT G S21 := by rw [eS21]; exact hW
  refine lv_aload_n hx hb dX12_uses_90 rfl (lv_at hl 0 rfl) ?_
  refine gf_X12_95 C hP h_v0 k_v0 dX12_uses_91 ?_
  obtain ⟨t22, et22, hf⟩ := bd1_e hf
  obtain ⟨h_t22, k_t22⟩ := wt_r hW h_v0 k_v0 (by decide) et22
  have k_t22 : G.2.1 t22 = 14 := k_t22
  rw [et22]
  refine lv_iload_n hx hb dX12_uses_94 rfl (lv_at hl 1 rfl) ?_
  refine lv_iconst (v := 2) hx hb dX12_uses_95 rfl ?_
  refine lv_iadd hx hb dX12_uses_96 ?_
  refine lv_dup2_11 hx hb dX12_uses_97 rfl rfl ?_
  obtain ⟨h23, hf⟩ := if_s hf
  refine x_iald C hP h_t22 k_t22 h23 dX12_uses_98 ?_
  refine lv_iload_n hx hb dX12_uses_99 rfl (lv_at hl 3 rfl) ?_
  refine lv_ior hx hb dX12_uses_100 ?_
  obtain ⟨h24, hf⟩ := if_s hf
  obtain ⟨S25, eS25, hf⟩ := bnd_e hf
  refine x_iast C hP hS h_t22 k_t22 h24 eS25 dX12_uses_101 (fun H locs hP hS => ?_)
  have hW : WT G S25 := by rw [eS25]; exact hW
  refine lv_iload_n hx hb dX12_uses_102 rfl (lv_at hl 3 rfl) ?_
  cases hf
  exact x_reti C hP hS hW dX12_uses_103
set_option maxRecDepth 100000 in
set_option maxHeartbeats 4000000 in
theorem c_X12_uses {l : Launch} {V : EV} {G : GS} {S : HS} {F : Nat} {a : Nat} {p0 : Int32} {p1 : Int32} {r : Int32} {S' : HS} (hN : G.1.Nodup) (hW : WT G S) (h_a : a ∈ G.1) (k_a : G.2.1 a = 12) (hf : s_X12_uses G.2.2 F a p0 p1 S = some (r, S')) : MetI l yX12_uses cX12_uses 5 .int 7 227 V G S [.ref a, .int p0, .int p1] r S' := by
  intro sz
  refine x_in RX12 rfl (by decide +kernel) hN (Nat.le_of_ble_eq_true rfl) (fun p e s m args below meth c ls hsz hargs hnm C hP hS hl => ?_)
  subst hsz
  have hx := C.1
  have hb := C.2.1
  have hl : lv_has ls 5 [(0, .ref a), (1, .int p0), (2, .int p1)] := hl
  unfold s_X12_uses at hf
  refine lv_iconst (v := 0) hx hb dX12_uses_0 rfl ?_
  refine lv_istore_n (lv' := [(3, .int 0), (0, .ref a), (1, .int p0), (2, .int p1)]) hx hb dX12_uses_1 rfl hl (by decide) rfl (fun ls hl => ?_)
  refine lv_iconst (v := 0) hx hb dX12_uses_2 rfl ?_
  refine lv_istore (lv' := [(4, .int 0), (3, .int 0), (0, .ref a), (1, .int p0), (2, .int p1)]) hx hb dX12_uses_3 hl (by decide) rfl (fun ls hl => ?_)
  exact b_X12_uses_5 C (b_X12_uses_81 C) F a p0 p1 0 0 h_a k_a S s.heap [] _ hf hP hS hW (lv_sub hl [2, 3, 4, 1, 0] rfl)
def s_X12_doesLine (N : Nat → Nat) (F : Nat) (a : Nat) (p0 : Int32) (S : HS) : Option HS :=
  bd1 (gR S 1214 a) fun t1 =>
  if inB p0 (N t1) = true then
  if (aI S t1 p0.toNatClampNeg) = (0 : Int32) then
  bd1 (gR S 1214 a) fun t22 =>
  if inB (p0 + 1) (N t22) = true then
  bd1 (gR S 1214 a) fun t24 =>
  if inB (p0 + 2) (N t24) = true then
  bd1 (gR S 1214 a) fun t26 =>
  if inB (p0 + 3) (N t26) = true then
  bd1 (gR S 1214 a) fun t28 =>
  if inB (p0 + 4) (N t28) = true then
  bd1 (s_X12_multiplies N F a 588 (aI S t22 (p0 + 1).toNatClampNeg) (aI S t24 (p0 + 2).toNatClampNeg) (aI S t26 (p0 + 3).toNatClampNeg) (aI S t28 (p0 + 4).toNatClampNeg) S) fun S30 =>
  some S30
  else none
  else none
  else none
  else none
  else
  bd1 (gR S 1214 a) fun t4 =>
  if inB p0 (N t4) = true then
  if (aI S t4 p0.toNatClampNeg) = (1 : Int32) then
  bd1 (gR S 1217 a) fun t17 =>
  bd1 (gR S 1214 a) fun t18 =>
  if inB (p0 + 1) (N t18) = true then
  if inB (589 : Int32) (N t17) = true then
  bnd (wI S t17 ((589 : Int32).toNatClampNeg) (aI S t18 (p0 + 1).toNatClampNeg)) fun S21 =>
  some S21
  else none
  else none
  else
  bd1 (gR S 1214 a) fun t7 =>
  if inB p0 (N t7) = true then
  if (aI S t7 p0.toNatClampNeg) = (2 : Int32) then
  bd1 (gR S 1217 a) fun t14 =>
  if inB (590 : Int32) (N t14) = true then
  bnd (wI S t14 ((590 : Int32).toNatClampNeg) 0) fun S16 =>
  some S16
  else none
  else
  bd1 (gR S 1214 a) fun t10 =>
  if inB (p0 + 1) (N t10) = true then
  bd2 (s_X12_uses N F a 588 (aI S t10 (p0 + 1).toNatClampNeg) S) fun r12 S13 =>
  some S13
  else none
  else none
  else none
  else none
set_option maxRecDepth 100000 in
set_option maxHeartbeats 4000000 in
theorem c_X12_doesLine {l : Launch} {V : EV} {G : GS} {S : HS} {F : Nat} {a : Nat} {p0 : Int32} {S' : HS} (hN : G.1.Nodup) (hW : WT G S) (h_a : a ∈ G.1) (k_a : G.2.1 a = 12) (hf : s_X12_doesLine G.2.2 F a p0 S = some S') : MetV l yX12_doesLine cX12_doesLine 2 21 709 V G S [.ref a, .int p0] S' := by
  intro sz
  refine x_in RX12 rfl (by decide +kernel) hN (Nat.le_of_ble_eq_true rfl) (fun p e s m args below meth c ls hsz hargs hnm C hP hS hl => ?_)
  subst hsz
  have hx := C.1
  have hb := C.2.1
  have hl : lv_has ls 2 [(0, .ref a), (1, .int p0)] := hl
  unfold s_X12_doesLine at hf
  refine lv_aload_n hx hb dX12_doesLine_0 rfl (lv_at hl 0 rfl) ?_
  refine gf_X12_86 C hP h_a k_a dX12_doesLine_1 ?_
  obtain ⟨t1, et1, hf⟩ := bd1_e hf
  obtain ⟨h_t1, k_t1⟩ := wt_r hW h_a k_a (by decide) et1
  have k_t1 : G.2.1 t1 = 14 := k_t1
  rw [et1]
  refine lv_iload_n hx hb dX12_doesLine_4 rfl (lv_at hl 1 rfl) ?_
  obtain ⟨h2, hf⟩ := if_s hf
  refine x_iald C hP h_t1 k_t1 h2 dX12_doesLine_5 ?_
  refine lv_if_ne (tgt := 51) hx hb dX12_doesLine_6 (by decide) (fun c3 => ?_) (fun c3 => ?_)
  · have hf := if_f c3 hf
    refine lv_aload_n hx hb dX12_doesLine_51 rfl (lv_at hl 0 rfl) ?_
    refine gf_X12_86 C hP h_a k_a dX12_doesLine_52 ?_
    obtain ⟨t4, et4, hf⟩ := bd1_e hf
    obtain ⟨h_t4, k_t4⟩ := wt_r hW h_a k_a (by decide) et4
    have k_t4 : G.2.1 t4 = 14 := k_t4
    rw [et4]
    refine lv_iload_n hx hb dX12_doesLine_55 rfl (lv_at hl 1 rfl) ?_
    obtain ⟨h5, hf⟩ := if_s hf
    refine x_iald C hP h_t4 k_t4 h5 dX12_doesLine_56 ?_
    refine lv_iconst (v := 1) hx hb dX12_doesLine_57 rfl ?_
    refine lv_icmp_ne (tgt := 80) hx hb dX12_doesLine_58 (by decide) (fun c6 => ?_) (fun c6 => ?_)
    · have hf := if_f c6 hf
      refine lv_aload_n hx hb dX12_doesLine_80 rfl (lv_at hl 0 rfl) ?_
      refine gf_X12_86 C hP h_a k_a dX12_doesLine_81 ?_
      obtain ⟨t7, et7, hf⟩ := bd1_e hf
      obtain ⟨h_t7, k_t7⟩ := wt_r hW h_a k_a (by decide) et7
      have k_t7 : G.2.1 t7 = 14 := k_t7
      rw [et7]
      refine lv_iload_n hx hb dX12_doesLine_84 rfl (lv_at hl 1 rfl) ?_
      obtain ⟨h8, hf⟩ := if_s hf
      refine x_iald C hP h_t7 k_t7 h8 dX12_doesLine_85 ?_
      refine lv_iconst (v := 2) hx hb dX12_doesLine_86 rfl ?_
      refine lv_icmp_ne (tgt := 102) hx hb dX12_doesLine_87 (by decide) (fun c9 => ?_) (fun c9 => ?_)
      · have hf := if_f c9 hf
        refine lv_aload_n hx hb dX12_doesLine_102 rfl (lv_at hl 0 rfl) ?_
        refine lv_sipush (v := 588) hx hb dX12_doesLine_103 kc_sipush_588 ?_
        refine lv_aload_n hx hb dX12_doesLine_106 rfl (lv_at hl 0 rfl) ?_
        refine gf_X12_86 C hP h_a k_a dX12_doesLine_107 ?_
        obtain ⟨t10, et10, hf⟩ := bd1_e hf
        obtain ⟨h_t10, k_t10⟩ := wt_r hW h_a k_a (by decide) et10
        have k_t10 : G.2.1 t10 = 14 := k_t10
        rw [et10]
        refine lv_iload_n hx hb dX12_doesLine_110 rfl (lv_at hl 1 rfl) ?_
        refine lv_iconst (v := 1) hx hb dX12_doesLine_111 rfl ?_
        refine lv_iadd hx hb dX12_doesLine_112 ?_
        obtain ⟨h11, hf⟩ := if_s hf
        refine x_iald C hP h_t10 k_t10 h11 dX12_doesLine_113 ?_
        obtain ⟨r12, S13, eS13, hf⟩ := bd2_e hf
        refine x_aft_i (x_runV (As := [.int 588, .int (aI S t10 (p0 + 1).toNatClampNeg)]) (rest := []) C hP hS (c_X12_uses (l := l) C.2.2.2.2.2.2.2.2.2.1 hW h_a k_a eS13 s.heap.size) h_a k_a (by decide) rfl rfl km_X12_uses ki_X12_uses qm_X12_394 ⟨(Nat.le_of_ble_eq_true rfl), (Nat.le_of_ble_eq_true rfl)⟩ rfl hl.1 rfl (Nat.le_of_ble_eq_true rfl) ⟨Nat.zero_le _, Nat.zero_le _⟩ dX12_doesLine_114) hS (fun H locs hP hS hW => ?_)
        refine lv_pop hx hb dX12_doesLine_117 rfl ?_
        cases hf
        exact x_retv C hP hS hW dX12_doesLine_118
      · have hf := if_t c9 hf
        refine lv_aload_n hx hb dX12_doesLine_90 rfl (lv_at hl 0 rfl) ?_
        refine gf_X12_95 C hP h_a k_a dX12_doesLine_91 ?_
        obtain ⟨t14, et14, hf⟩ := bd1_e hf
        obtain ⟨h_t14, k_t14⟩ := wt_r hW h_a k_a (by decide) et14
        have k_t14 : G.2.1 t14 = 14 := k_t14
        rw [et14]
        refine lv_sipush (v := 590) hx hb dX12_doesLine_94 kc_sipush_590 ?_
        refine lv_iconst (v := 0) hx hb dX12_doesLine_97 rfl ?_
        obtain ⟨h15, hf⟩ := if_s hf
        obtain ⟨S16, eS16, hf⟩ := bnd_e hf
        refine x_iast C hP hS h_t14 k_t14 h15 eS16 dX12_doesLine_98 (fun H locs hP hS => ?_)
        have hW : WT G S16 := by rw [eS16]; exact hW
        refine lv_goto (tgt := 118) hx hb dX12_doesLine_99 (by decide) ?_
        cases hf
        exact x_retv C hP hS hW dX12_doesLine_118
    · have hf := if_t c6 hf
      refine lv_aload_n hx hb dX12_doesLine_61 rfl (lv_at hl 0 rfl) ?_
      refine gf_X12_95 C hP h_a k_a dX12_doesLine_62 ?_
      obtain ⟨t17, et17, hf⟩ := bd1_e hf
      obtain ⟨h_t17, k_t17⟩ := wt_r hW h_a k_a (by decide) et17
      have k_t17 : G.2.1 t17 = 14 := k_t17
      rw [et17]
      refine lv_sipush (v := 589) hx hb dX12_doesLine_65 kc_sipush_589 ?_
      refine lv_aload_n hx hb dX12_doesLine_68 rfl (lv_at hl 0 rfl) ?_
      refine gf_X12_86 C hP h_a k_a dX12_doesLine_69 ?_
      obtain ⟨t18, et18, hf⟩ := bd1_e hf
      obtain ⟨h_t18, k_t18⟩ := wt_r hW h_a k_a (by decide) et18
      have k_t18 : G.2.1 t18 = 14 := k_t18
      rw [et18]
      refine lv_iload_n hx hb dX12_doesLine_72 rfl (lv_at hl 1 rfl) ?_
      refine lv_iconst (v := 1) hx hb dX12_doesLine_73 rfl ?_
      refine lv_iadd hx hb dX12_doesLine_74 ?_
      obtain ⟨h19, hf⟩ := if_s hf
      refine x_iald C hP h_t18 k_t18 h19 dX12_doesLine_75 ?_
      obtain ⟨h20, hf⟩ := if_s hf
      obtain ⟨S21, eS21, hf⟩ := bnd_e hf
      refine x_iast C hP hS h_t17 k_t17 h20 eS21 dX12_doesLine_76 (fun H locs hP hS => ?_)
      have hW : WT G S21 := by rw [eS21]; exact hW
      refine lv_goto (tgt := 118) hx hb dX12_doesLine_77 (by decide) ?_
      cases hf
      exact x_retv C hP hS hW dX12_doesLine_118
  · have hf := if_t c3 hf
    refine lv_aload_n hx hb dX12_doesLine_9 rfl (lv_at hl 0 rfl) ?_
    refine lv_sipush (v := 588) hx hb dX12_doesLine_10 kc_sipush_588 ?_
    refine lv_aload_n hx hb dX12_doesLine_13 rfl (lv_at hl 0 rfl) ?_
    refine gf_X12_86 C hP h_a k_a dX12_doesLine_14 ?_
    obtain ⟨t22, et22, hf⟩ := bd1_e hf
    obtain ⟨h_t22, k_t22⟩ := wt_r hW h_a k_a (by decide) et22
    have k_t22 : G.2.1 t22 = 14 := k_t22
    rw [et22]
    refine lv_iload_n hx hb dX12_doesLine_17 rfl (lv_at hl 1 rfl) ?_
    refine lv_iconst (v := 1) hx hb dX12_doesLine_18 rfl ?_
    refine lv_iadd hx hb dX12_doesLine_19 ?_
    obtain ⟨h23, hf⟩ := if_s hf
    refine x_iald C hP h_t22 k_t22 h23 dX12_doesLine_20 ?_
    refine lv_aload_n hx hb dX12_doesLine_21 rfl (lv_at hl 0 rfl) ?_
    refine gf_X12_86 C hP h_a k_a dX12_doesLine_22 ?_
    obtain ⟨t24, et24, hf⟩ := bd1_e hf
    obtain ⟨h_t24, k_t24⟩ := wt_r hW h_a k_a (by decide) et24
    have k_t24 : G.2.1 t24 = 14 := k_t24
    rw [et24]
    refine lv_iload_n hx hb dX12_doesLine_25 rfl (lv_at hl 1 rfl) ?_
    refine lv_iconst (v := 2) hx hb dX12_doesLine_26 rfl ?_
    refine lv_iadd hx hb dX12_doesLine_27 ?_
    obtain ⟨h25, hf⟩ := if_s hf
    refine x_iald C hP h_t24 k_t24 h25 dX12_doesLine_28 ?_
    refine lv_aload_n hx hb dX12_doesLine_29 rfl (lv_at hl 0 rfl) ?_
    refine gf_X12_86 C hP h_a k_a dX12_doesLine_30 ?_
    obtain ⟨t26, et26, hf⟩ := bd1_e hf
    obtain ⟨h_t26, k_t26⟩ := wt_r hW h_a k_a (by decide) et26
    have k_t26 : G.2.1 t26 = 14 := k_t26
    rw [et26]
    refine lv_iload_n hx hb dX12_doesLine_33 rfl (lv_at hl 1 rfl) ?_
    refine lv_iconst (v := 3) hx hb dX12_doesLine_34 rfl ?_
    refine lv_iadd hx hb dX12_doesLine_35 ?_
    obtain ⟨h27, hf⟩ := if_s hf
    refine x_iald C hP h_t26 k_t26 h27 dX12_doesLine_36 ?_
    refine lv_aload_n hx hb dX12_doesLine_37 rfl (lv_at hl 0 rfl) ?_
    refine gf_X12_86 C hP h_a k_a dX12_doesLine_38 ?_
    obtain ⟨t28, et28, hf⟩ := bd1_e hf
    obtain ⟨h_t28, k_t28⟩ := wt_r hW h_a k_a (by decide) et28
    have k_t28 : G.2.1 t28 = 14 := k_t28
    rw [et28]
    refine lv_iload_n hx hb dX12_doesLine_41 rfl (lv_at hl 1 rfl) ?_
    refine lv_iconst (v := 4) hx hb dX12_doesLine_42 rfl ?_
    refine lv_iadd hx hb dX12_doesLine_43 ?_
    obtain ⟨h29, hf⟩ := if_s hf
    refine x_iald C hP h_t28 k_t28 h29 dX12_doesLine_44 ?_
    obtain ⟨S30, eS30, hf⟩ := bd1_e hf
    refine x_aft_v (x_runV (As := [.int 588, .int (aI S t22 (p0 + 1).toNatClampNeg), .int (aI S t24 (p0 + 2).toNatClampNeg), .int (aI S t26 (p0 + 3).toNatClampNeg), .int (aI S t28 (p0 + 4).toNatClampNeg)]) (rest := []) C hP hS (c_X12_multiplies (l := l) C.2.2.2.2.2.2.2.2.2.1 hW h_a k_a eS30 s.heap.size) h_a k_a (by decide) rfl rfl km_X12_multiplies ki_X12_multiplies qm_X12_382 ⟨(Nat.le_of_ble_eq_true rfl), (Nat.le_of_ble_eq_true rfl)⟩ rfl hl.1 rfl (Nat.le_of_ble_eq_true rfl) ⟨Nat.zero_le _, Nat.zero_le _⟩ dX12_doesLine_45) hS (fun H locs hP hS hW => ?_)
    refine lv_goto (tgt := 118) hx hb dX12_doesLine_48 (by decide) ?_
    cases hf
    exact x_retv C hP hS hW dX12_doesLine_118
def s_X12_draw (a : Nat) (p0 : Int32) (S : HS) : Option (Int32 × HS) :=
  bnd (uJ S 1228 a ((((gJ S 1228 a) * 1103515245) + 12345) - (((gJ S 1228 a) * 1103515245) + 12345) / 2147483648 * 2147483648)) fun S1 =>
  if ¬ p0.toInt64 = 0 then
  some ((((gJ S1 1228 a) / 65536) - ((gJ S1 1228 a) / 65536) / p0.toInt64 * p0.toInt64).toInt32, S1)
  else none
set_option maxRecDepth 100000 in
set_option maxHeartbeats 4000000 in
theorem c_X12_draw {l : Launch} {V : EV} {G : GS} {S : HS} {a : Nat} {p0 : Int32} {r : Int32} {S' : HS} (hN : G.1.Nodup) (hW : WT G S) (h_a : a ∈ G.1) (k_a : G.2.1 a = 12) (hf : s_X12_draw a p0 S = some (r, S')) : MetI l yX12_draw cX12_draw 2 .int 0 0 V G S [.ref a, .int p0] r S' := by
  intro sz
  refine x_in RX12 rfl (by decide +kernel) hN (Nat.le_of_ble_eq_true rfl) (fun p e s m args below meth c ls hsz hargs hnm C hP hS hl => ?_)
  subst hsz
  have hx := C.1
  have hb := C.2.1
  have hl : lv_has ls 2 [(0, .ref a), (1, .int p0)] := hl
  unfold s_X12_draw at hf
  refine lv_aload_n hx hb dX12_draw_0 rfl (lv_at hl 0 rfl) ?_
  refine lv_aload_n hx hb dX12_draw_1 rfl (lv_at hl 0 rfl) ?_
  refine gf_X12_466 C hP h_a k_a dX12_draw_2 ?_
  refine lv_ldc2 (v := 1103515245) hx hb C.2.2.2.2.1 (C.2.2.2.2.2.1 _ qc_X12_470) dX12_draw_5 ?_
  refine lv_lmul hx hb dX12_draw_8 ?_
  refine lv_ldc2 (v := 12345) hx hb C.2.2.2.2.1 (C.2.2.2.2.2.1 _ qc_X12_472) dX12_draw_9 ?_
  refine lv_ladd hx hb dX12_draw_12 ?_
  refine lv_ldc2 (v := 2147483648) hx hb C.2.2.2.2.1 (C.2.2.2.2.2.1 _ qc_X12_474) dX12_draw_13 ?_
  refine lv_lrem hx hb dX12_draw_16 (by decide) ?_
  obtain ⟨S1, eS1, hf⟩ := bnd_e hf
  refine pf_X12_466 C hP hS h_a k_a eS1 dX12_draw_17 (fun H locs hP hS => ?_)
  have hW : WT G S1 := by rw [eS1]; exact hW
  refine lv_aload_n hx hb dX12_draw_20 rfl (lv_at hl 0 rfl) ?_
  refine gf_X12_466 C hP h_a k_a dX12_draw_21 ?_
  refine lv_ldc2 (v := 65536) hx hb C.2.2.2.2.1 (C.2.2.2.2.2.1 _ qc_X12_476) dX12_draw_24 ?_
  refine lv_ldiv hx hb dX12_draw_27 (by decide) ?_
  refine lv_iload_n hx hb dX12_draw_28 rfl (lv_at hl 1 rfl) ?_
  refine lv_i2l hx hb dX12_draw_29 rfl ?_
  obtain ⟨h2, hf⟩ := if_s hf
  refine lv_lrem hx hb dX12_draw_30 h2 ?_
  refine lv_l2i hx hb dX12_draw_31 rfl ?_
  cases hf
  exact x_reti C hP hS hW dX12_draw_32
def s_X12_exact (N : Nat → Nat) (F : Nat) (a : Nat) (p0 : Int32) (p1 : Int32) (p2 : Int32) (S : HS) : Option (Int32 × HS) :=
  bnd (uI S 1200 a 0) fun S1 =>
  bd1 (s_X12_areBits N a p0 p1 p2 S1) fun r2 =>
  if r2 = (0 : Int32) then
  some (0, S1)
  else
  bd2 (s_X12_sumNow N F a p0 p1 p2 S1) fun r5 S6 =>
  if ((gI S6 1220 a) &&& 8) = (0 : Int32) then
  some (1, S6)
  else
  some (0, S6)
set_option maxRecDepth 100000 in
set_option maxHeartbeats 4000000 in
theorem c_X12_exact {l : Launch} {V : EV} {G : GS} {S : HS} {F : Nat} {a : Nat} {p0 : Int32} {p1 : Int32} {p2 : Int32} {r : Int32} {S' : HS} (hN : G.1.Nodup) (hW : WT G S) (h_a : a ∈ G.1) (k_a : G.2.1 a = 12) (hf : s_X12_exact G.2.2 F a p0 p1 p2 S = some (r, S')) : MetZ l yX12_exact cX12_exact 4 21 706 V G S [.ref a, .int p0, .int p1, .int p2] r S' := by
  intro sz
  refine x_in RX12 rfl (by decide +kernel) hN (Nat.le_of_ble_eq_true rfl) (fun p e s m args below meth c ls hsz hargs hnm C hP hS hl => ?_)
  subst hsz
  have hx := C.1
  have hb := C.2.1
  have hl : lv_has ls 4 [(0, .ref a), (1, .int p0), (2, .int p1), (3, .int p2)] := hl
  unfold s_X12_exact at hf
  refine lv_aload_n hx hb dX12_exact_0 rfl (lv_at hl 0 rfl) ?_
  refine lv_iconst (v := 0) hx hb dX12_exact_1 rfl ?_
  obtain ⟨S1, eS1, hf⟩ := bnd_e hf
  refine pf_X12_1 C hP hS h_a k_a eS1 dX12_exact_2 (fun H locs hP hS => ?_)
  have hW : WT G S1 := by rw [eS1]; exact hW
  refine lv_aload_n hx hb dX12_exact_5 rfl (lv_at hl 0 rfl) ?_
  refine lv_iload_n hx hb dX12_exact_6 rfl (lv_at hl 1 rfl) ?_
  refine lv_iload_n hx hb dX12_exact_7 rfl (lv_at hl 2 rfl) ?_
  refine lv_iload_n hx hb dX12_exact_8 rfl (lv_at hl 3 rfl) ?_
  obtain ⟨r2, er2, hf⟩ := bd1_e hf
  refine x_aft_z (x_runV (As := [.int p0, .int p1, .int p2]) (rest := []) C hP hS (c_X12_areBits (l := l) C.2.2.2.2.2.2.2.2.2.1 hW h_a k_a er2 H.size) h_a k_a (by decide) rfl rfl km_X12_areBits ki_X12_areBits qm_X12_403 ⟨(Nat.le_of_ble_eq_true rfl), (Nat.le_of_ble_eq_true rfl)⟩ rfl hl.1 rfl (Nat.le_of_ble_eq_true rfl) ⟨Nat.zero_le _, Nat.zero_le _⟩ dX12_exact_9) hS (fun H locs hP hS hW z3 => ?_)
  refine lv_if_ne (tgt := 17) hx hb dX12_exact_12 (by decide) (fun c4 => ?_) (fun c4 => ?_)
  · have hf := if_f c4 hf
    refine lv_aload_n hx hb dX12_exact_17 rfl (lv_at hl 0 rfl) ?_
    refine lv_iload_n hx hb dX12_exact_18 rfl (lv_at hl 1 rfl) ?_
    refine lv_iload_n hx hb dX12_exact_19 rfl (lv_at hl 2 rfl) ?_
    refine lv_iload_n hx hb dX12_exact_20 rfl (lv_at hl 3 rfl) ?_
    obtain ⟨r5, S6, eS6, hf⟩ := bd2_e hf
    refine x_aft_i (x_runV (As := [.int p0, .int p1, .int p2]) (rest := []) C hP hS (c_X12_sumNow (l := l) C.2.2.2.2.2.2.2.2.2.1 hW h_a k_a eS6 H.size) h_a k_a (by decide) rfl rfl km_X12_sumNow ki_X12_sumNow qm_X12_415 ⟨(Nat.le_of_ble_eq_true rfl), (Nat.le_of_ble_eq_true rfl)⟩ rfl hl.1 rfl (Nat.le_of_ble_eq_true rfl) ⟨Nat.zero_le _, Nat.zero_le _⟩ dX12_exact_21) hS (fun H locs hP hS hW => ?_)
    refine lv_pop hx hb dX12_exact_24 rfl ?_
    refine lv_aload_n hx hb dX12_exact_25 rfl (lv_at hl 0 rfl) ?_
    refine gf_X12_315 C hP h_a k_a dX12_exact_26 ?_
    refine lv_bipush (v := 8) hx hb dX12_exact_29 kc_bipush_8 ?_
    refine lv_iand hx hb dX12_exact_31 ?_
    refine lv_if_ne (tgt := 39) hx hb dX12_exact_32 (by decide) (fun c7 => ?_) (fun c7 => ?_)
    · have hf := if_f c7 hf
      refine lv_iconst (v := 0) hx hb dX12_exact_39 rfl ?_
      cases hf
      exact x_retZ C hP hS hW isZ_0 dX12_exact_40
    · have hf := if_t c7 hf
      refine lv_iconst (v := 1) hx hb dX12_exact_35 rfl ?_
      refine lv_goto (tgt := 40) hx hb dX12_exact_36 (by decide) ?_
      cases hf
      exact x_retZ C hP hS hW isZ_1 dX12_exact_40
  · have hf := if_t c4 hf
    refine lv_iconst (v := 0) hx hb dX12_exact_15 rfl ?_
    cases hf
    exact x_retZ C hP hS hW isZ_0 dX12_exact_16
def s_X12_exacts (N : Nat → Nat) (F : Nat) (a : Nat) (p0 : Int32) (p1 : Int32) (S : HS) : Option (Int32 × HS) :=
  bnd (uI S 1200 a 0) fun S1 =>
  bd1 (s_X12_areSmall N a p0 p1 S1) fun r2 =>
  if r2 = (0 : Int32) then
  some ((-1), S1)
  else
  bd2 (s_X12_addends N F a p0 p1 0 0 S1) fun r5 S6 =>
  some (r5, S6)
set_option maxRecDepth 100000 in
set_option maxHeartbeats 4000000 in
theorem c_X12_exacts {l : Launch} {V : EV} {G : GS} {S : HS} {F : Nat} {a : Nat} {p0 : Int32} {p1 : Int32} {r : Int32} {S' : HS} (hN : G.1.Nodup) (hW : WT G S) (h_a : a ∈ G.1) (k_a : G.2.1 a = 12) (hf : s_X12_exacts G.2.2 F a p0 p1 S = some (r, S')) : MetI l yX12_exacts cX12_exacts 3 .int 22 742 V G S [.ref a, .int p0, .int p1] r S' := by
  intro sz
  refine x_in RX12 rfl (by decide +kernel) hN (Nat.le_of_ble_eq_true rfl) (fun p e s m args below meth c ls hsz hargs hnm C hP hS hl => ?_)
  subst hsz
  have hx := C.1
  have hb := C.2.1
  have hl : lv_has ls 3 [(0, .ref a), (1, .int p0), (2, .int p1)] := hl
  unfold s_X12_exacts at hf
  refine lv_aload_n hx hb dX12_exacts_0 rfl (lv_at hl 0 rfl) ?_
  refine lv_iconst (v := 0) hx hb dX12_exacts_1 rfl ?_
  obtain ⟨S1, eS1, hf⟩ := bnd_e hf
  refine pf_X12_1 C hP hS h_a k_a eS1 dX12_exacts_2 (fun H locs hP hS => ?_)
  have hW : WT G S1 := by rw [eS1]; exact hW
  refine lv_aload_n hx hb dX12_exacts_5 rfl (lv_at hl 0 rfl) ?_
  refine lv_iload_n hx hb dX12_exacts_6 rfl (lv_at hl 1 rfl) ?_
  refine lv_iload_n hx hb dX12_exacts_7 rfl (lv_at hl 2 rfl) ?_
  obtain ⟨r2, er2, hf⟩ := bd1_e hf
  refine x_aft_z (x_runV (As := [.int p0, .int p1]) (rest := []) C hP hS (c_X12_areSmall (l := l) C.2.2.2.2.2.2.2.2.2.1 hW h_a k_a er2 H.size) h_a k_a (by decide) rfl rfl km_X12_areSmall ki_X12_areSmall qm_X12_449 ⟨(Nat.le_of_ble_eq_true rfl), (Nat.le_of_ble_eq_true rfl)⟩ rfl hl.1 rfl (Nat.le_of_ble_eq_true rfl) ⟨Nat.zero_le _, Nat.zero_le _⟩ dX12_exacts_8) hS (fun H locs hP hS hW z3 => ?_)
  refine lv_if_eq (tgt := 25) hx hb dX12_exacts_11 (by decide) (fun c4 => ?_) (fun c4 => ?_)
  · have hf := if_t c4 hf
    refine lv_iconst (v := (-1)) hx hb dX12_exacts_25 rfl ?_
    cases hf
    exact x_reti C hP hS hW dX12_exacts_26
  · have hf := if_f c4 hf
    refine lv_aload_n hx hb dX12_exacts_14 rfl (lv_at hl 0 rfl) ?_
    refine lv_iload_n hx hb dX12_exacts_15 rfl (lv_at hl 1 rfl) ?_
    refine lv_iload_n hx hb dX12_exacts_16 rfl (lv_at hl 2 rfl) ?_
    refine lv_iconst (v := 0) hx hb dX12_exacts_17 rfl ?_
    refine lv_iconst (v := 0) hx hb dX12_exacts_18 rfl ?_
    obtain ⟨r5, S6, eS6, hf⟩ := bd2_e hf
    refine x_aft_i (x_runV (As := [.int p0, .int p1, .int 0, .int 0]) (rest := []) C hP hS (c_X12_addends (l := l) C.2.2.2.2.2.2.2.2.2.1 hW h_a k_a eS6 H.size) h_a k_a (by decide) rfl rfl km_X12_addends ki_X12_addends qm_X12_452 ⟨(Nat.le_of_ble_eq_true rfl), (Nat.le_of_ble_eq_true rfl)⟩ rfl hl.1 rfl (Nat.le_of_ble_eq_true rfl) ⟨Nat.zero_le _, Nat.zero_le _⟩ dX12_exacts_19) hS (fun H locs hP hS hW => ?_)
    refine lv_goto (tgt := 26) hx hb dX12_exacts_22 (by decide) ?_
    cases hf
    exact x_reti C hP hS hW dX12_exacts_26
def s_X12_lay_J69 (N : Nat → Nat) (F : Nat) (k3 : Nat → Int64 → Int32 → HS → Option HS) (v0 : Nat) (v1 : Int64) (v3 : Int32) (S : HS) : Option HS :=
  bnd (v3 + Int32.ofInt (-8) : Int32) fun x5 =>
  k3 v0 v1 x5 S
def s_X12_lay_J38 (N : Nat → Nat) (F : Nat) (k3 : Nat → Int64 → Int32 → HS → Option HS) (v0 : Nat) (v1 : Int64) (v3 : Int32) (v4 : Int32) (S : HS) : Option HS :=
  if (1000 : Int32) ≤ (gI S 1202 v0) then
  s_X12_lay_J69 N F k3 v0 v1 v3 S
  else
  bd1 (gR S 1201 v0) fun t6 =>
  if inB (gI S 1202 v0) (N t6) = true then
  bnd (wI S t6 ((gI S 1202 v0).toNatClampNeg) v4) fun S8 =>
  bnd (uI S8 1202 v0 ((gI S8 1202 v0) + 1)) fun S9 =>
  s_X12_lay_J69 N F k3 v0 v1 v3 S9
  else none
def s_X12_lay_L3 (N : Nat → Nat) (F : Nat) : Nat → Nat → Int64 → Int32 → HS → Option HS
  | 0, _, _, _, _ => none
  | n + 1, v0, v1, v3, S => if v3 < (0 : Int32) then
  some S
  else
  bnd (((v1 >>> (v3.toInt64 &&& 63)).toInt32) &&& 255 : Int32) fun x2 =>
  if x2 = (10 : Int32) then
  s_X12_lay_J38 N F (s_X12_lay_L3 N F n) v0 v1 v3 x2 S
  else
  if x2 < (32 : Int32) then
  s_X12_lay_J69 N F (s_X12_lay_L3 N F n) v0 v1 v3 S
  else
  if (126 : Int32) < x2 then
  s_X12_lay_J69 N F (s_X12_lay_L3 N F n) v0 v1 v3 S
  else
  s_X12_lay_J38 N F (s_X12_lay_L3 N F n) v0 v1 v3 x2 S
def s_X12_lay (N : Nat → Nat) (F : Nat) (a : Nat) (p0 : Int64) (S : HS) : Option HS :=
  s_X12_lay_L3 N F F a p0 56 S
set_option maxRecDepth 100000 in
set_option maxHeartbeats 4000000 in
theorem b_X12_lay_69 {p : Program} {l : Launch} {e : Env} {s : State} {m : MethodId} {args : Array Value} {below : List Frame} {meth : Method} {c : Code} {V : EV} {G : GS} {S' : HS} {F : Nat} (C : CX p s m args meth c RX12 cX12_lay 5 none V G) {k3 : Nat → Int64 → Int32 → HS → Option HS} (hk3 : ∀ (v0 : Nat) (v1 : Int64) (v3 : Int32) (h_v0 : v0 ∈ G.1) (k_v0 : G.2.1 v0 = 12) (S : HS) (H : Heap) (locs : List Loc) (ls : Array Slot), k3 v0 v1 v3 S = some S' → HP V G S H → va_S (AG G s.heap.size) s.heap H locs → WT G S → lv_has ls 5 [(0, .ref v0), (1, .long v1), (3, .int v3)] → W p l e (RM 0 0) s m args below meth c H locs 0 0 (MQ below (QV V G S' s.heap.size) args s 0 0 (AG G s.heap.size)) (F0 m 3 ls [])) : ∀ (v0 : Nat) (v1 : Int64) (v3 : Int32) (h_v0 : v0 ∈ G.1) (k_v0 : G.2.1 v0 = 12) (S : HS) (H : Heap) (locs : List Loc) (ls : Array Slot), s_X12_lay_J69 G.2.2 F k3 v0 v1 v3 S = some S' → HP V G S H → va_S (AG G s.heap.size) s.heap H locs → WT G S → lv_has ls 5 [(0, .ref v0), (1, .long v1), (3, .int v3)] → W p l e (RM 0 0) s m args below meth c H locs 0 0 (MQ below (QV V G S' s.heap.size) args s 0 0 (AG G s.heap.size)) (F0 m 69 ls []) := by
  intro v0 v1 v3 h_v0 k_v0 S H locs ls hf hP hS hW hl
  have hx := C.1
  have hb := C.2.1
  unfold s_X12_lay_J69 at hf
  obtain ⟨x5, ex5, hf⟩ := bnd_e hf
  refine lv_iinc (v := x5) (lv' := [(3, .int x5), (0, .ref v0), (1, .long v1)]) hx hb dX12_lay_69 hl (k := 2) rfl ex5.symm (by decide) rfl (fun ls hl => ?_)
  refine lv_goto (tgt := 3) hx hb dX12_lay_72 (by decide) ?_
  exact hk3 v0 v1 x5 h_v0 k_v0 S H locs _ hf hP hS hW (lv_sub hl [1, 2, 0] rfl)
set_option maxRecDepth 100000 in
set_option maxHeartbeats 4000000 in
theorem b_X12_lay_38 {p : Program} {l : Launch} {e : Env} {s : State} {m : MethodId} {args : Array Value} {below : List Frame} {meth : Method} {c : Code} {V : EV} {G : GS} {S' : HS} {F : Nat} (C : CX p s m args meth c RX12 cX12_lay 5 none V G) {k3 : Nat → Int64 → Int32 → HS → Option HS} (hk3 : ∀ (v0 : Nat) (v1 : Int64) (v3 : Int32) (h_v0 : v0 ∈ G.1) (k_v0 : G.2.1 v0 = 12) (S : HS) (H : Heap) (locs : List Loc) (ls : Array Slot), k3 v0 v1 v3 S = some S' → HP V G S H → va_S (AG G s.heap.size) s.heap H locs → WT G S → lv_has ls 5 [(0, .ref v0), (1, .long v1), (3, .int v3)] → W p l e (RM 0 0) s m args below meth c H locs 0 0 (MQ below (QV V G S' s.heap.size) args s 0 0 (AG G s.heap.size)) (F0 m 3 ls [])) : ∀ (v0 : Nat) (v1 : Int64) (v3 : Int32) (v4 : Int32) (h_v0 : v0 ∈ G.1) (k_v0 : G.2.1 v0 = 12) (S : HS) (H : Heap) (locs : List Loc) (ls : Array Slot), s_X12_lay_J38 G.2.2 F k3 v0 v1 v3 v4 S = some S' → HP V G S H → va_S (AG G s.heap.size) s.heap H locs → WT G S → lv_has ls 5 [(0, .ref v0), (1, .long v1), (3, .int v3), (4, .int v4)] → W p l e (RM 0 0) s m args below meth c H locs 0 0 (MQ below (QV V G S' s.heap.size) args s 0 0 (AG G s.heap.size)) (F0 m 38 ls []) := by
  intro v0 v1 v3 v4 h_v0 k_v0 S H locs ls hf hP hS hW hl
  have hx := C.1
  have hb := C.2.1
  unfold s_X12_lay_J38 at hf
  refine lv_aload_n hx hb dX12_lay_38 rfl (lv_at hl 0 rfl) ?_
  refine gf_X12_11 C hP h_v0 k_v0 dX12_lay_39 ?_
  refine lv_sipush (v := 1000) hx hb dX12_lay_42 kc_sipush_1000 ?_
  refine lv_icmp_ge (tgt := 69) hx hb dX12_lay_45 (by decide) (fun c4 => ?_) (fun c4 => ?_)
  · have hf := if_t c4 hf
    exact b_X12_lay_69 C hk3 v0 v1 v3 h_v0 k_v0 S H locs _ hf hP hS hW (lv_sub hl [0, 1, 2] rfl)
  · have hf := if_f c4 hf
    refine lv_aload_n hx hb dX12_lay_48 rfl (lv_at hl 0 rfl) ?_
    refine gf_X12_14 C hP h_v0 k_v0 dX12_lay_49 ?_
    obtain ⟨t6, et6, hf⟩ := bd1_e hf
    obtain ⟨h_t6, k_t6⟩ := wt_r hW h_v0 k_v0 (by decide) et6
    have k_t6 : G.2.1 t6 = 14 := k_t6
    rw [et6]
    refine lv_aload_n hx hb dX12_lay_52 rfl (lv_at hl 0 rfl) ?_
    refine gf_X12_11 C hP h_v0 k_v0 dX12_lay_53 ?_
    refine lv_iload hx hb dX12_lay_56 (lv_at hl 3 rfl) ?_
    obtain ⟨h7, hf⟩ := if_s hf
    obtain ⟨S8, eS8, hf⟩ := bnd_e hf
    refine x_iast C hP hS h_t6 k_t6 h7 eS8 dX12_lay_58 (fun H locs hP hS => ?_)
    have hW : WT G S8 := by rw [eS8]; exact hW
    refine lv_aload_n hx hb dX12_lay_59 rfl (lv_at hl 0 rfl) ?_
    refine lv_dup hx hb dX12_lay_60 rfl ?_
    refine gf_X12_11 C hP h_v0 k_v0 dX12_lay_61 ?_
    refine lv_iconst (v := 1) hx hb dX12_lay_64 rfl ?_
    refine lv_iadd hx hb dX12_lay_65 ?_
    obtain ⟨S9, eS9, hf⟩ := bnd_e hf
    refine pf_X12_11 C hP hS h_v0 k_v0 eS9 dX12_lay_66 (fun H locs hP hS => ?_)
    have hW : WT G S9 := by rw [eS9]; exact hW
    exact b_X12_lay_69 C hk3 v0 v1 v3 h_v0 k_v0 S9 H locs _ hf hP hS hW (lv_sub hl [0, 1, 2] rfl)
set_option maxRecDepth 100000 in
set_option maxHeartbeats 4000000 in
theorem b_X12_lay_3 {p : Program} {l : Launch} {e : Env} {s : State} {m : MethodId} {args : Array Value} {below : List Frame} {meth : Method} {c : Code} {V : EV} {G : GS} {S' : HS} {F : Nat} (C : CX p s m args meth c RX12 cX12_lay 5 none V G) : ∀ n : Nat, ∀ (v0 : Nat) (v1 : Int64) (v3 : Int32) (h_v0 : v0 ∈ G.1) (k_v0 : G.2.1 v0 = 12) (S : HS) (H : Heap) (locs : List Loc) (ls : Array Slot), s_X12_lay_L3 G.2.2 F n v0 v1 v3 S = some S' → HP V G S H → va_S (AG G s.heap.size) s.heap H locs → WT G S → lv_has ls 5 [(0, .ref v0), (1, .long v1), (3, .int v3)] → W p l e (RM 0 0) s m args below meth c H locs 0 0 (MQ below (QV V G S' s.heap.size) args s 0 0 (AG G s.heap.size)) (F0 m 3 ls []) := by
  intro n
  induction n with
  | zero =>
    intro v0 v1 v3 h_v0 k_v0 S H locs ls hf
    rw [s_X12_lay_L3] at hf
    cases hf
  | succ n ih =>
    intro v0 v1 v3 h_v0 k_v0 S H locs ls hf hP hS hW hl
    have hx := C.1
    have hb := C.2.1
    rw [s_X12_lay_L3] at hf
    refine lv_iload_n hx hb dX12_lay_3 rfl (lv_at hl 2 rfl) ?_
    refine lv_if_lt (tgt := 75) hx hb dX12_lay_4 (by decide) (fun c1 => ?_) (fun c1 => ?_)
    · have hf := if_t c1 hf
      cases hf
      exact x_retv C hP hS hW dX12_lay_75
    · have hf := if_f c1 hf
      refine lv_lload_n hx hb dX12_lay_7 rfl (lv_at hl 1 rfl) ?_
      refine lv_iload_n hx hb dX12_lay_8 rfl (lv_at hl 2 rfl) ?_
      refine lv_lshr hx hb dX12_lay_9 rfl ?_
      refine lv_l2i hx hb dX12_lay_10 rfl ?_
      refine lv_sipush (v := 255) hx hb dX12_lay_11 kc_sipush_255 ?_
      refine lv_iand hx hb dX12_lay_14 ?_
      obtain ⟨x2, ex2, hf⟩ := bnd_e hf
      refine nm_i ex2 ?_
      refine lv_istore (lv' := [(4, .int x2), (0, .ref v0), (1, .long v1), (3, .int v3)]) hx hb dX12_lay_15 hl (by decide) rfl (fun ls hl => ?_)
      refine lv_iload hx hb dX12_lay_17 (lv_at hl 0 rfl) ?_
      refine lv_bipush (v := 10) hx hb dX12_lay_19 kc_bipush_10 ?_
      refine lv_icmp_eq (tgt := 38) hx hb dX12_lay_21 (by decide) (fun c3 => ?_) (fun c3 => ?_)
      · have hf := if_t c3 hf
        exact b_X12_lay_38 C ih v0 v1 v3 x2 h_v0 k_v0 S H locs _ hf hP hS hW (lv_sub hl [1, 2, 3, 0] rfl)
      · have hf := if_f c3 hf
        refine lv_iload hx hb dX12_lay_24 (lv_at hl 0 rfl) ?_
        refine lv_bipush (v := 32) hx hb dX12_lay_26 kc_bipush_32 ?_
        refine lv_icmp_lt (tgt := 69) hx hb dX12_lay_28 (by decide) (fun c10 => ?_) (fun c10 => ?_)
        · have hf := if_t c10 hf
          exact b_X12_lay_69 C ih v0 v1 v3 h_v0 k_v0 S H locs _ hf hP hS hW (lv_sub hl [1, 2, 3] rfl)
        · have hf := if_f c10 hf
          refine lv_iload hx hb dX12_lay_31 (lv_at hl 0 rfl) ?_
          refine lv_bipush (v := 126) hx hb dX12_lay_33 kc_bipush_126 ?_
          refine lv_icmp_gt (tgt := 69) hx hb dX12_lay_35 (by decide) (fun c11 => ?_) (fun c11 => ?_)
          · have hf := if_t c11 hf
            exact b_X12_lay_69 C ih v0 v1 v3 h_v0 k_v0 S H locs _ hf hP hS hW (lv_sub hl [1, 2, 3] rfl)
          · have hf := if_f c11 hf
            exact b_X12_lay_38 C ih v0 v1 v3 x2 h_v0 k_v0 S H locs _ hf hP hS hW (lv_sub hl [1, 2, 3, 0] rfl)
set_option maxRecDepth 100000 in
set_option maxHeartbeats 4000000 in
theorem c_X12_lay {l : Launch} {V : EV} {G : GS} {S : HS} {F : Nat} {a : Nat} {p0 : Int64} {S' : HS} (hN : G.1.Nodup) (hW : WT G S) (h_a : a ∈ G.1) (k_a : G.2.1 a = 12) (hf : s_X12_lay G.2.2 F a p0 S = some S') : MetV l yX12_lay cX12_lay 5 0 0 V G S [.ref a, .long p0] S' := by
  intro sz
  refine x_in RX12 rfl (by decide +kernel) hN (Nat.le_of_ble_eq_true rfl) (fun p e s m args below meth c ls hsz hargs hnm C hP hS hl => ?_)
  subst hsz
  have hx := C.1
  have hb := C.2.1
  have hl : lv_has ls 5 [(0, .ref a), (1, .long p0)] := hl
  unfold s_X12_lay at hf
  refine lv_bipush (v := 56) hx hb dX12_lay_0 kc_bipush_56 ?_
  refine lv_istore_n (lv' := [(3, .int 56), (0, .ref a), (1, .long p0)]) hx hb dX12_lay_2 rfl hl (by decide) rfl (fun ls hl => ?_)
  exact b_X12_lay_3 C F a p0 56 h_a k_a S s.heap [] _ hf hP hS hW (lv_sub hl [1, 2, 0] rfl)
def s_X12_feed (N : Nat → Nat) (F : Nat) (a : Nat) (p0 : Int64) (p1 : Int64) (p2 : Int64) (S : HS) : Option (Int32 × HS) :=
  bnd (uI S 1200 a 0) fun S1 =>
  bd1 (s_X12_lay N F a p0 S1) fun S2 =>
  bd1 (s_X12_lay N F a p1 S2) fun S3 =>
  bd1 (s_X12_lay N F a p2 S3) fun S4 =>
  some (gI S4 1202 a, S4)
set_option maxRecDepth 100000 in
set_option maxHeartbeats 4000000 in
theorem c_X12_feed {l : Launch} {V : EV} {G : GS} {S : HS} {F : Nat} {a : Nat} {p0 : Int64} {p1 : Int64} {p2 : Int64} {r : Int32} {S' : HS} (hN : G.1.Nodup) (hW : WT G S) (h_a : a ∈ G.1) (k_a : G.2.1 a = 12) (hf : s_X12_feed G.2.2 F a p0 p1 p2 S = some (r, S')) : MetI l yX12_feed cX12_feed 7 .int 1 32 V G S [.ref a, .long p0, .long p1, .long p2] r S' := by
  intro sz
  refine x_in RX12 rfl (by decide +kernel) hN (Nat.le_of_ble_eq_true rfl) (fun p e s m args below meth c ls hsz hargs hnm C hP hS hl => ?_)
  subst hsz
  have hx := C.1
  have hb := C.2.1
  have hl : lv_has ls 7 [(0, .ref a), (1, .long p0), (3, .long p1), (5, .long p2)] := hl
  unfold s_X12_feed at hf
  refine lv_aload_n hx hb dX12_feed_0 rfl (lv_at hl 0 rfl) ?_
  refine lv_iconst (v := 0) hx hb dX12_feed_1 rfl ?_
  obtain ⟨S1, eS1, hf⟩ := bnd_e hf
  refine pf_X12_1 C hP hS h_a k_a eS1 dX12_feed_2 (fun H locs hP hS => ?_)
  have hW : WT G S1 := by rw [eS1]; exact hW
  refine lv_aload_n hx hb dX12_feed_5 rfl (lv_at hl 0 rfl) ?_
  refine lv_lload_n hx hb dX12_feed_6 rfl (lv_at hl 1 rfl) ?_
  obtain ⟨S2, eS2, hf⟩ := bd1_e hf
  refine x_aft_v (x_runV (As := [.long p0]) (rest := []) C hP hS (c_X12_lay (l := l) C.2.2.2.2.2.2.2.2.2.1 hW h_a k_a eS2 H.size) h_a k_a (by decide) rfl rfl km_X12_lay ki_X12_lay qm_X12_7 ⟨(Nat.le_of_ble_eq_true rfl), (Nat.le_of_ble_eq_true rfl)⟩ rfl hl.1 rfl (Nat.le_of_ble_eq_true rfl) ⟨Nat.zero_le _, Nat.zero_le _⟩ dX12_feed_7) hS (fun H locs hP hS hW => ?_)
  refine lv_aload_n hx hb dX12_feed_10 rfl (lv_at hl 0 rfl) ?_
  refine lv_lload_n hx hb dX12_feed_11 rfl (lv_at hl 2 rfl) ?_
  obtain ⟨S3, eS3, hf⟩ := bd1_e hf
  refine x_aft_v (x_runV (As := [.long p1]) (rest := []) C hP hS (c_X12_lay (l := l) C.2.2.2.2.2.2.2.2.2.1 hW h_a k_a eS3 H.size) h_a k_a (by decide) rfl rfl km_X12_lay ki_X12_lay qm_X12_7 ⟨(Nat.le_of_ble_eq_true rfl), (Nat.le_of_ble_eq_true rfl)⟩ rfl hl.1 rfl (Nat.le_of_ble_eq_true rfl) ⟨Nat.zero_le _, Nat.zero_le _⟩ dX12_feed_12) hS (fun H locs hP hS hW => ?_)
  refine lv_aload_n hx hb dX12_feed_15 rfl (lv_at hl 0 rfl) ?_
  refine lv_lload hx hb dX12_feed_16 (lv_at hl 3 rfl) ?_
  obtain ⟨S4, eS4, hf⟩ := bd1_e hf
  refine x_aft_v (x_runV (As := [.long p2]) (rest := []) C hP hS (c_X12_lay (l := l) C.2.2.2.2.2.2.2.2.2.1 hW h_a k_a eS4 H.size) h_a k_a (by decide) rfl rfl km_X12_lay ki_X12_lay qm_X12_7 ⟨(Nat.le_of_ble_eq_true rfl), (Nat.le_of_ble_eq_true rfl)⟩ rfl hl.1 rfl (Nat.le_of_ble_eq_true rfl) ⟨Nat.zero_le _, Nat.zero_le _⟩ dX12_feed_18) hS (fun H locs hP hS hW => ?_)
  refine lv_aload_n hx hb dX12_feed_21 rfl (lv_at hl 0 rfl) ?_
  refine gf_X12_11 C hP h_a k_a dX12_feed_22 ?_
  cases hf
  exact x_reti C hP hS hW dX12_feed_25
def s_X12_isAsSeen_J95 (N : Nat → Nat) (F : Nat) (k4 : Nat → Int32 → Int32 → Int32 → HS → Option (Int32 × HS)) (v0 : Nat) (v1 : Int32) (v3 : Int32) (w0 : Int32) (S : HS) : Option (Int32 × HS) :=
  bnd (v3 + Int32.ofInt 1 : Int32) fun x11 =>
  k4 v0 v1 w0 x11 S
def s_X12_isAsSeen_J87 (N : Nat → Nat) (F : Nat) (k4 : Nat → Int32 → Int32 → Int32 → HS → Option (Int32 × HS)) (v0 : Nat) (v1 : Int32) (v3 : Int32) (w0 : Int32) (w1 : Int32) (S : HS) : Option (Int32 × HS) :=
  if w0 = w1 then
  s_X12_isAsSeen_J95 N F k4 v0 v1 v3 1 S
  else
  s_X12_isAsSeen_J95 N F k4 v0 v1 v3 0 S
def s_X12_isAsSeen_J69 (N : Nat → Nat) (F : Nat) (k4 : Nat → Int32 → Int32 → Int32 → HS → Option (Int32 × HS)) (v0 : Nat) (v1 : Int32) (v3 : Int32) (v4 : Int32) (w0 : Int32) (S : HS) : Option (Int32 × HS) :=
  bd1 (gR S 1217 v0) fun t16 =>
  if inB (v4 + 1) (N t16) = true then
  if (aI S t16 (v4 + 1).toNatClampNeg) = (1 : Int32) then
  s_X12_isAsSeen_J87 N F k4 v0 v1 v3 w0 1 S
  else
  s_X12_isAsSeen_J87 N F k4 v0 v1 v3 w0 0 S
  else none
def s_X12_isAsSeen_L4 (N : Nat → Nat) (F : Nat) : Nat → Nat → Int32 → Int32 → Int32 → HS → Option (Int32 × HS)
  | 0, _, _, _, _, _ => none
  | n + 1, v0, v1, v2, v3, S => bd1 (gR S 1217 v0) fun t1 =>
  if inB (10 : Int32) (N t1) = true then
  if (aI S t1 (10 : Int32).toNatClampNeg) ≤ v3 then
  if isZ v2 = true then
  some (v2, S)
  else none
  else
  bnd (11 + (2 * v3) : Int32) fun x5 =>
  bd1 (gR S 1217 v0) fun t6 =>
  if inB x5 (N t6) = true then
  bd2 (s_X12_sumNow N F v0 v1 v1 (aI S t6 x5.toNatClampNeg) S) fun r8 S9 =>
  if v2 = (0 : Int32) then
  s_X12_isAsSeen_J95 N F (s_X12_isAsSeen_L4 N F n) v0 v1 v3 0 S9
  else
  bd1 (s_X12_used N v0 S9) fun r12 =>
  bd1 (s_X12_isNan N v0 r12 r8 S9) fun r13 =>
  if r13 = (0 : Int32) then
  bd1 (s_X12_rankOf N v0 r8 S9) fun r20 =>
  if r20 < (0 : Int32) then
  s_X12_isAsSeen_J69 N F (s_X12_isAsSeen_L4 N F n) v0 v1 v3 x5 0 S9
  else
  s_X12_isAsSeen_J69 N F (s_X12_isAsSeen_L4 N F n) v0 v1 v3 x5 1 S9
  else
  s_X12_isAsSeen_J69 N F (s_X12_isAsSeen_L4 N F n) v0 v1 v3 x5 0 S9
  else none
  else none
def s_X12_isAsSeen (N : Nat → Nat) (F : Nat) (a : Nat) (p0 : Int32) (S : HS) : Option (Int32 × HS) :=
  s_X12_isAsSeen_L4 N F F a p0 1 0 S
set_option maxRecDepth 100000 in
set_option maxHeartbeats 4000000 in
theorem b_X12_isAsSeen_95 {p : Program} {l : Launch} {e : Env} {s : State} {m : MethodId} {args : Array Value} {below : List Frame} {meth : Method} {c : Code} {V : EV} {G : GS} {r : Int32} {S' : HS} {F : Nat} (C : CX p s m args meth c RX12 cX12_isAsSeen 6 (some .boolean) V G) {k4 : Nat → Int32 → Int32 → Int32 → HS → Option (Int32 × HS)} (hk4 : ∀ (v0 : Nat) (v1 : Int32) (v2 : Int32) (v3 : Int32) (h_v0 : v0 ∈ G.1) (k_v0 : G.2.1 v0 = 12) (S : HS) (H : Heap) (locs : List Loc) (ls : Array Slot), k4 v0 v1 v2 v3 S = some (r, S') → HP V G S H → va_S (AG G s.heap.size) s.heap H locs → WT G S → lv_has ls 6 [(0, .ref v0), (1, .int v1), (2, .int v2), (3, .int v3)] → W p l e (RM 21 706) s m args below meth c H locs 0 0 (MQ below (QZ V G S' r s.heap.size) args s 0 0 (AG G s.heap.size)) (F0 m 4 ls [])) : ∀ (v0 : Nat) (v1 : Int32) (v3 : Int32) (w0 : Int32) (h_v0 : v0 ∈ G.1) (k_v0 : G.2.1 v0 = 12) (S : HS) (H : Heap) (locs : List Loc) (ls : Array Slot), s_X12_isAsSeen_J95 G.2.2 F k4 v0 v1 v3 w0 S = some (r, S') → HP V G S H → va_S (AG G s.heap.size) s.heap H locs → WT G S → lv_has ls 6 [(0, .ref v0), (1, .int v1), (3, .int v3)] → W p l e (RM 21 706) s m args below meth c H locs 0 0 (MQ below (QZ V G S' r s.heap.size) args s 0 0 (AG G s.heap.size)) (F0 m 95 ls [.int w0]) := by
  intro v0 v1 v3 w0 h_v0 k_v0 S H locs ls hf hP hS hW hl
  have hx := C.1
  have hb := C.2.1
  unfold s_X12_isAsSeen_J95 at hf
  refine lv_istore_n (lv' := [(2, .int w0), (0, .ref v0), (1, .int v1), (3, .int v3)]) hx hb dX12_isAsSeen_95 rfl hl (by decide) rfl (fun ls hl => ?_)
  obtain ⟨x11, ex11, hf⟩ := bnd_e hf
  refine lv_iinc (v := x11) (lv' := [(3, .int x11), (2, .int w0), (0, .ref v0), (1, .int v1)]) hx hb dX12_isAsSeen_96 hl (k := 3) rfl ex11.symm (by decide) rfl (fun ls hl => ?_)
  refine lv_goto (tgt := 4) hx hb dX12_isAsSeen_99 (by decide) ?_
  exact hk4 v0 v1 w0 x11 h_v0 k_v0 S H locs _ hf hP hS hW (lv_sub hl [2, 3, 1, 0] rfl)
set_option maxRecDepth 100000 in
set_option maxHeartbeats 4000000 in
theorem b_X12_isAsSeen_87 {p : Program} {l : Launch} {e : Env} {s : State} {m : MethodId} {args : Array Value} {below : List Frame} {meth : Method} {c : Code} {V : EV} {G : GS} {r : Int32} {S' : HS} {F : Nat} (C : CX p s m args meth c RX12 cX12_isAsSeen 6 (some .boolean) V G) {k4 : Nat → Int32 → Int32 → Int32 → HS → Option (Int32 × HS)} (hk4 : ∀ (v0 : Nat) (v1 : Int32) (v2 : Int32) (v3 : Int32) (h_v0 : v0 ∈ G.1) (k_v0 : G.2.1 v0 = 12) (S : HS) (H : Heap) (locs : List Loc) (ls : Array Slot), k4 v0 v1 v2 v3 S = some (r, S') → HP V G S H → va_S (AG G s.heap.size) s.heap H locs → WT G S → lv_has ls 6 [(0, .ref v0), (1, .int v1), (2, .int v2), (3, .int v3)] → W p l e (RM 21 706) s m args below meth c H locs 0 0 (MQ below (QZ V G S' r s.heap.size) args s 0 0 (AG G s.heap.size)) (F0 m 4 ls [])) : ∀ (v0 : Nat) (v1 : Int32) (v3 : Int32) (w0 : Int32) (w1 : Int32) (h_v0 : v0 ∈ G.1) (k_v0 : G.2.1 v0 = 12) (S : HS) (H : Heap) (locs : List Loc) (ls : Array Slot), s_X12_isAsSeen_J87 G.2.2 F k4 v0 v1 v3 w0 w1 S = some (r, S') → HP V G S H → va_S (AG G s.heap.size) s.heap H locs → WT G S → lv_has ls 6 [(0, .ref v0), (1, .int v1), (3, .int v3)] → W p l e (RM 21 706) s m args below meth c H locs 0 0 (MQ below (QZ V G S' r s.heap.size) args s 0 0 (AG G s.heap.size)) (F0 m 87 ls [.int w1, .int w0]) := by
  intro v0 v1 v3 w0 w1 h_v0 k_v0 S H locs ls hf hP hS hW hl
  have hx := C.1
  have hb := C.2.1
  unfold s_X12_isAsSeen_J87 at hf
  refine lv_icmp_ne (tgt := 94) hx hb dX12_isAsSeen_87 (by decide) (fun c19 => ?_) (fun c19 => ?_)
  · have hf := if_f c19 hf
    refine lv_iconst (v := 0) hx hb dX12_isAsSeen_94 rfl ?_
    exact b_X12_isAsSeen_95 C hk4 v0 v1 v3 0 h_v0 k_v0 S H locs _ hf hP hS hW (lv_sub hl [0, 1, 2] rfl)
  · have hf := if_t c19 hf
    refine lv_iconst (v := 1) hx hb dX12_isAsSeen_90 rfl ?_
    refine lv_goto (tgt := 95) hx hb dX12_isAsSeen_91 (by decide) ?_
    exact b_X12_isAsSeen_95 C hk4 v0 v1 v3 1 h_v0 k_v0 S H locs _ hf hP hS hW (lv_sub hl [0, 1, 2] rfl)
set_option maxRecDepth 100000 in
set_option maxHeartbeats 4000000 in
theorem b_X12_isAsSeen_69 {p : Program} {l : Launch} {e : Env} {s : State} {m : MethodId} {args : Array Value} {below : List Frame} {meth : Method} {c : Code} {V : EV} {G : GS} {r : Int32} {S' : HS} {F : Nat} (C : CX p s m args meth c RX12 cX12_isAsSeen 6 (some .boolean) V G) {k4 : Nat → Int32 → Int32 → Int32 → HS → Option (Int32 × HS)} (hk4 : ∀ (v0 : Nat) (v1 : Int32) (v2 : Int32) (v3 : Int32) (h_v0 : v0 ∈ G.1) (k_v0 : G.2.1 v0 = 12) (S : HS) (H : Heap) (locs : List Loc) (ls : Array Slot), k4 v0 v1 v2 v3 S = some (r, S') → HP V G S H → va_S (AG G s.heap.size) s.heap H locs → WT G S → lv_has ls 6 [(0, .ref v0), (1, .int v1), (2, .int v2), (3, .int v3)] → W p l e (RM 21 706) s m args below meth c H locs 0 0 (MQ below (QZ V G S' r s.heap.size) args s 0 0 (AG G s.heap.size)) (F0 m 4 ls [])) : ∀ (v0 : Nat) (v1 : Int32) (v3 : Int32) (v4 : Int32) (w0 : Int32) (h_v0 : v0 ∈ G.1) (k_v0 : G.2.1 v0 = 12) (S : HS) (H : Heap) (locs : List Loc) (ls : Array Slot), s_X12_isAsSeen_J69 G.2.2 F k4 v0 v1 v3 v4 w0 S = some (r, S') → HP V G S H → va_S (AG G s.heap.size) s.heap H locs → WT G S → lv_has ls 6 [(0, .ref v0), (1, .int v1), (3, .int v3), (4, .int v4)] → W p l e (RM 21 706) s m args below meth c H locs 0 0 (MQ below (QZ V G S' r s.heap.size) args s 0 0 (AG G s.heap.size)) (F0 m 69 ls [.int w0]) := by
  intro v0 v1 v3 v4 w0 h_v0 k_v0 S H locs ls hf hP hS hW hl
  have hx := C.1
  have hb := C.2.1
  unfold s_X12_isAsSeen_J69 at hf
  refine lv_aload_n hx hb dX12_isAsSeen_69 rfl (lv_at hl 0 rfl) ?_
  refine gf_X12_95 C hP h_v0 k_v0 dX12_isAsSeen_70 ?_
  obtain ⟨t16, et16, hf⟩ := bd1_e hf
  obtain ⟨h_t16, k_t16⟩ := wt_r hW h_v0 k_v0 (by decide) et16
  have k_t16 : G.2.1 t16 = 14 := k_t16
  rw [et16]
  refine lv_iload hx hb dX12_isAsSeen_73 (lv_at hl 3 rfl) ?_
  refine lv_iconst (v := 1) hx hb dX12_isAsSeen_75 rfl ?_
  refine lv_iadd hx hb dX12_isAsSeen_76 ?_
  obtain ⟨h17, hf⟩ := if_s hf
  refine x_iald C hP h_t16 k_t16 h17 dX12_isAsSeen_77 ?_
  refine lv_iconst (v := 1) hx hb dX12_isAsSeen_78 rfl ?_
  refine lv_icmp_ne (tgt := 86) hx hb dX12_isAsSeen_79 (by decide) (fun c18 => ?_) (fun c18 => ?_)
  · have hf := if_f c18 hf
    refine lv_iconst (v := 0) hx hb dX12_isAsSeen_86 rfl ?_
    exact b_X12_isAsSeen_87 C hk4 v0 v1 v3 w0 0 h_v0 k_v0 S H locs _ hf hP hS hW (lv_sub hl [0, 1, 2] rfl)
  · have hf := if_t c18 hf
    refine lv_iconst (v := 1) hx hb dX12_isAsSeen_82 rfl ?_
    refine lv_goto (tgt := 87) hx hb dX12_isAsSeen_83 (by decide) ?_
    exact b_X12_isAsSeen_87 C hk4 v0 v1 v3 w0 1 h_v0 k_v0 S H locs _ hf hP hS hW (lv_sub hl [0, 1, 2] rfl)
set_option maxRecDepth 100000 in
set_option maxHeartbeats 4000000 in
theorem b_X12_isAsSeen_4 {p : Program} {l : Launch} {e : Env} {s : State} {m : MethodId} {args : Array Value} {below : List Frame} {meth : Method} {c : Code} {V : EV} {G : GS} {r : Int32} {S' : HS} {F : Nat} (C : CX p s m args meth c RX12 cX12_isAsSeen 6 (some .boolean) V G) : ∀ n : Nat, ∀ (v0 : Nat) (v1 : Int32) (v2 : Int32) (v3 : Int32) (h_v0 : v0 ∈ G.1) (k_v0 : G.2.1 v0 = 12) (S : HS) (H : Heap) (locs : List Loc) (ls : Array Slot), s_X12_isAsSeen_L4 G.2.2 F n v0 v1 v2 v3 S = some (r, S') → HP V G S H → va_S (AG G s.heap.size) s.heap H locs → WT G S → lv_has ls 6 [(0, .ref v0), (1, .int v1), (2, .int v2), (3, .int v3)] → W p l e (RM 21 706) s m args below meth c H locs 0 0 (MQ below (QZ V G S' r s.heap.size) args s 0 0 (AG G s.heap.size)) (F0 m 4 ls []) := by
  intro n
  induction n with
  | zero =>
    intro v0 v1 v2 v3 h_v0 k_v0 S H locs ls hf
    rw [s_X12_isAsSeen_L4] at hf
    cases hf
  | succ n ih =>
    intro v0 v1 v2 v3 h_v0 k_v0 S H locs ls hf hP hS hW hl
    have hx := C.1
    have hb := C.2.1
    rw [s_X12_isAsSeen_L4] at hf
    refine lv_iload_n hx hb dX12_isAsSeen_4 rfl (lv_at hl 3 rfl) ?_
    refine lv_aload_n hx hb dX12_isAsSeen_5 rfl (lv_at hl 0 rfl) ?_
    refine gf_X12_95 C hP h_v0 k_v0 dX12_isAsSeen_6 ?_
    obtain ⟨t1, et1, hf⟩ := bd1_e hf
    obtain ⟨h_t1, k_t1⟩ := wt_r hW h_v0 k_v0 (by decide) et1
    have k_t1 : G.2.1 t1 = 14 := k_t1
    rw [et1]
    refine lv_bipush (v := 10) hx hb dX12_isAsSeen_9 kc_bipush_10 ?_
    obtain ⟨h2, hf⟩ := if_s hf
    refine x_iald C hP h_t1 k_t1 h2 dX12_isAsSeen_11 ?_
    refine lv_icmp_ge (tgt := 102) hx hb dX12_isAsSeen_12 (by decide) (fun c3 => ?_) (fun c3 => ?_)
    · have hf := if_t c3 hf
      refine lv_iload_n hx hb dX12_isAsSeen_102 rfl (lv_at hl 2 rfl) ?_
      obtain ⟨h4, hf⟩ := if_s hf
      cases hf
      exact x_retZ C hP hS hW h4 dX12_isAsSeen_103
    · have hf := if_f c3 hf
      refine lv_bipush (v := 11) hx hb dX12_isAsSeen_15 kc_bipush_11 ?_
      refine lv_iconst (v := 2) hx hb dX12_isAsSeen_17 rfl ?_
      refine lv_iload_n hx hb dX12_isAsSeen_18 rfl (lv_at hl 3 rfl) ?_
      refine lv_imul hx hb dX12_isAsSeen_19 ?_
      refine lv_iadd hx hb dX12_isAsSeen_20 ?_
      obtain ⟨x5, ex5, hf⟩ := bnd_e hf
      refine nm_i ex5 ?_
      refine lv_istore (lv' := [(4, .int x5), (0, .ref v0), (1, .int v1), (2, .int v2), (3, .int v3)]) hx hb dX12_isAsSeen_21 hl (by decide) rfl (fun ls hl => ?_)
      refine lv_aload_n hx hb dX12_isAsSeen_23 rfl (lv_at hl 1 rfl) ?_
      refine lv_iload_n hx hb dX12_isAsSeen_24 rfl (lv_at hl 2 rfl) ?_
      refine lv_iload_n hx hb dX12_isAsSeen_25 rfl (lv_at hl 2 rfl) ?_
      refine lv_aload_n hx hb dX12_isAsSeen_26 rfl (lv_at hl 1 rfl) ?_
      refine gf_X12_95 C hP h_v0 k_v0 dX12_isAsSeen_27 ?_
      obtain ⟨t6, et6, hf⟩ := bd1_e hf
      obtain ⟨h_t6, k_t6⟩ := wt_r hW h_v0 k_v0 (by decide) et6
      have k_t6 : G.2.1 t6 = 14 := k_t6
      rw [et6]
      refine lv_iload hx hb dX12_isAsSeen_30 (lv_at hl 0 rfl) ?_
      obtain ⟨h7, hf⟩ := if_s hf
      refine x_iald C hP h_t6 k_t6 h7 dX12_isAsSeen_32 ?_
      obtain ⟨r8, S9, eS9, hf⟩ := bd2_e hf
      refine x_aft_i (x_runV (As := [.int v1, .int v1, .int (aI S t6 x5.toNatClampNeg)]) (rest := []) C hP hS (c_X12_sumNow (l := l) C.2.2.2.2.2.2.2.2.2.1 hW h_v0 k_v0 eS9 H.size) h_v0 k_v0 (by decide) rfl rfl km_X12_sumNow ki_X12_sumNow qm_X12_415 ⟨(Nat.le_of_ble_eq_true rfl), (Nat.le_of_ble_eq_true rfl)⟩ rfl hl.1 rfl (Nat.le_of_ble_eq_true rfl) ⟨Nat.zero_le _, Nat.zero_le _⟩ dX12_isAsSeen_33) hS (fun H locs hP hS hW => ?_)
      refine lv_istore (lv' := [(5, .int r8), (4, .int x5), (0, .ref v0), (1, .int v1), (2, .int v2), (3, .int v3)]) hx hb dX12_isAsSeen_36 hl (by decide) rfl (fun ls hl => ?_)
      refine lv_iload_n hx hb dX12_isAsSeen_38 rfl (lv_at hl 4 rfl) ?_
      refine lv_if_eq (tgt := 94) hx hb dX12_isAsSeen_39 (by decide) (fun c10 => ?_) (fun c10 => ?_)
      · have hf := if_t c10 hf
        refine lv_iconst (v := 0) hx hb dX12_isAsSeen_94 rfl ?_
        exact b_X12_isAsSeen_95 C ih v0 v1 v3 0 h_v0 k_v0 S9 H locs _ hf hP hS hW (lv_sub hl [2, 3, 5] rfl)
      · have hf := if_f c10 hf
        refine lv_aload_n hx hb dX12_isAsSeen_42 rfl (lv_at hl 2 rfl) ?_
        refine lv_aload_n hx hb dX12_isAsSeen_43 rfl (lv_at hl 2 rfl) ?_
        obtain ⟨r12, er12, hf⟩ := bd1_e hf
        refine x_aft_i (x_runV (As := []) (rest := [.ref v0]) C hP hS (c_X12_used (l := l) C.2.2.2.2.2.2.2.2.2.1 hW h_v0 k_v0 er12 H.size) h_v0 k_v0 (by decide) rfl rfl km_X12_used ki_X12_used qm_X12_357 ⟨(Nat.le_of_ble_eq_true rfl), (Nat.le_of_ble_eq_true rfl)⟩ rfl hl.1 rfl (Nat.le_of_ble_eq_true rfl) ⟨Nat.zero_le _, Nat.zero_le _⟩ dX12_isAsSeen_44) hS (fun H locs hP hS hW => ?_)
        refine lv_iload hx hb dX12_isAsSeen_47 (lv_at hl 0 rfl) ?_
        obtain ⟨r13, er13, hf⟩ := bd1_e hf
        refine x_aft_z (x_runV (As := [.int r12, .int r8]) (rest := []) C hP hS (c_X12_isNan (l := l) C.2.2.2.2.2.2.2.2.2.1 hW h_v0 k_v0 er13 H.size) h_v0 k_v0 (by decide) rfl rfl km_X12_isNan ki_X12_isNan qm_X12_279 ⟨(Nat.le_of_ble_eq_true rfl), (Nat.le_of_ble_eq_true rfl)⟩ rfl hl.1 rfl (Nat.le_of_ble_eq_true rfl) ⟨Nat.zero_le _, Nat.zero_le _⟩ dX12_isAsSeen_49) hS (fun H locs hP hS hW z14 => ?_)
        refine lv_if_ne (tgt := 68) hx hb dX12_isAsSeen_52 (by decide) (fun c15 => ?_) (fun c15 => ?_)
        · have hf := if_f c15 hf
          refine lv_iconst (v := 0) hx hb dX12_isAsSeen_68 rfl ?_
          exact b_X12_isAsSeen_69 C ih v0 v1 v3 x5 0 h_v0 k_v0 S9 H locs _ hf hP hS hW (lv_sub hl [2, 3, 5, 1] rfl)
        · have hf := if_t c15 hf
          refine lv_aload_n hx hb dX12_isAsSeen_55 rfl (lv_at hl 2 rfl) ?_
          refine lv_iload hx hb dX12_isAsSeen_56 (lv_at hl 0 rfl) ?_
          obtain ⟨r20, er20, hf⟩ := bd1_e hf
          refine x_aft_i (x_runV (As := [.int r8]) (rest := []) C hP hS (c_X12_rankOf (l := l) C.2.2.2.2.2.2.2.2.2.1 hW h_v0 k_v0 er20 H.size) h_v0 k_v0 (by decide) rfl rfl km_X12_rankOf ki_X12_rankOf qm_X12_406 ⟨(Nat.le_of_ble_eq_true rfl), (Nat.le_of_ble_eq_true rfl)⟩ rfl hl.1 rfl (Nat.le_of_ble_eq_true rfl) ⟨Nat.zero_le _, Nat.zero_le _⟩ dX12_isAsSeen_58) hS (fun H locs hP hS hW => ?_)
          refine lv_if_lt (tgt := 68) hx hb dX12_isAsSeen_61 (by decide) (fun c21 => ?_) (fun c21 => ?_)
          · have hf := if_t c21 hf
            refine lv_iconst (v := 0) hx hb dX12_isAsSeen_68 rfl ?_
            exact b_X12_isAsSeen_69 C ih v0 v1 v3 x5 0 h_v0 k_v0 S9 H locs _ hf hP hS hW (lv_sub hl [2, 3, 5, 1] rfl)
          · have hf := if_f c21 hf
            refine lv_iconst (v := 1) hx hb dX12_isAsSeen_64 rfl ?_
            refine lv_goto (tgt := 69) hx hb dX12_isAsSeen_65 (by decide) ?_
            exact b_X12_isAsSeen_69 C ih v0 v1 v3 x5 1 h_v0 k_v0 S9 H locs _ hf hP hS hW (lv_sub hl [2, 3, 5, 1] rfl)
set_option maxRecDepth 100000 in
set_option maxHeartbeats 4000000 in
theorem c_X12_isAsSeen {l : Launch} {V : EV} {G : GS} {S : HS} {F : Nat} {a : Nat} {p0 : Int32} {r : Int32} {S' : HS} (hN : G.1.Nodup) (hW : WT G S) (h_a : a ∈ G.1) (k_a : G.2.1 a = 12) (hf : s_X12_isAsSeen G.2.2 F a p0 S = some (r, S')) : MetZ l yX12_isAsSeen cX12_isAsSeen 6 21 706 V G S [.ref a, .int p0] r S' := by
  intro sz
  refine x_in RX12 rfl (by decide +kernel) hN (Nat.le_of_ble_eq_true rfl) (fun p e s m args below meth c ls hsz hargs hnm C hP hS hl => ?_)
  subst hsz
  have hx := C.1
  have hb := C.2.1
  have hl : lv_has ls 6 [(0, .ref a), (1, .int p0)] := hl
  unfold s_X12_isAsSeen at hf
  refine lv_iconst (v := 1) hx hb dX12_isAsSeen_0 rfl ?_
  refine lv_istore_n (lv' := [(2, .int 1), (0, .ref a), (1, .int p0)]) hx hb dX12_isAsSeen_1 rfl hl (by decide) rfl (fun ls hl => ?_)
  refine lv_iconst (v := 0) hx hb dX12_isAsSeen_2 rfl ?_
  refine lv_istore_n (lv' := [(3, .int 0), (2, .int 1), (0, .ref a), (1, .int p0)]) hx hb dX12_isAsSeen_3 rfl hl (by decide) rfl (fun ls hl => ?_)
  exact b_X12_isAsSeen_4 C F a p0 1 0 h_a k_a S s.heap [] _ hf hP hS hW (lv_sub hl [2, 3, 1, 0] rfl)
def s_X12_fit_J40 (N : Nat → Nat) (F : Nat) (k18 : Nat → Int32 → Int32 → HS → Option (Int32 × HS)) (v0 : Nat) (v2 : Int32) (w0 : Int32) (w1 : Int32) (S : HS) : Option (Int32 × HS) :=
  bnd (w0 + w1 : Int32) fun x11 =>
  bnd (v2 + Int32.ofInt 1 : Int32) fun x12 =>
  k18 v0 x11 x12 S
def s_X12_fit_L18 (N : Nat → Nat) (F : Nat) : Nat → Nat → Int32 → Int32 → HS → Option (Int32 × HS)
  | 0, _, _, _, _ => none
  | n + 1, v0, v1, v2, S => bd1 (s_X12_allBits N v0 S) fun r5 =>
  if r5 ≤ v2 then
  some (v1, S)
  else
  bd2 (s_X12_isAsSeen N F v0 v2 S) fun r7 S8 =>
  if r7 = (0 : Int32) then
  s_X12_fit_J40 N F (s_X12_fit_L18 N F n) v0 v2 v1 0 S8
  else
  s_X12_fit_J40 N F (s_X12_fit_L18 N F n) v0 v2 v1 1 S8
def s_X12_fit (N : Nat → Nat) (F : Nat) (a : Nat) (S : HS) : Option (Int32 × HS) :=
  bnd (uI S 1200 a 0) fun S1 =>
  bd1 (s_X12_isSmall N a S1) fun r2 =>
  if r2 = (0 : Int32) then
  some ((-1), S1)
  else
  s_X12_fit_L18 N F F a 0 0 S1
set_option maxRecDepth 100000 in
set_option maxHeartbeats 4000000 in
theorem b_X12_fit_40 {p : Program} {l : Launch} {e : Env} {s : State} {m : MethodId} {args : Array Value} {below : List Frame} {meth : Method} {c : Code} {V : EV} {G : GS} {r : Int32} {S' : HS} {F : Nat} (C : CX p s m args meth c RX12 cX12_fit 3 (some .int) V G) {k18 : Nat → Int32 → Int32 → HS → Option (Int32 × HS)} (hk18 : ∀ (v0 : Nat) (v1 : Int32) (v2 : Int32) (h_v0 : v0 ∈ G.1) (k_v0 : G.2.1 v0 = 12) (S : HS) (H : Heap) (locs : List Loc) (ls : Array Slot), k18 v0 v1 v2 S = some (r, S') → HP V G S H → va_S (AG G s.heap.size) s.heap H locs → WT G S → lv_has ls 3 [(0, .ref v0), (1, .int v1), (2, .int v2)] → W p l e (RM 22 739) s m args below meth c H locs 0 0 (MQ below (QI V G S' r s.heap.size) args s 0 0 (AG G s.heap.size)) (F0 m 18 ls [])) : ∀ (v0 : Nat) (v2 : Int32) (w0 : Int32) (w1 : Int32) (h_v0 : v0 ∈ G.1) (k_v0 : G.2.1 v0 = 12) (S : HS) (H : Heap) (locs : List Loc) (ls : Array Slot), s_X12_fit_J40 G.2.2 F k18 v0 v2 w0 w1 S = some (r, S') → HP V G S H → va_S (AG G s.heap.size) s.heap H locs → WT G S → lv_has ls 3 [(0, .ref v0), (2, .int v2)] → W p l e (RM 22 739) s m args below meth c H locs 0 0 (MQ below (QI V G S' r s.heap.size) args s 0 0 (AG G s.heap.size)) (F0 m 40 ls [.int w1, .int w0]) := by
  intro v0 v2 w0 w1 h_v0 k_v0 S H locs ls hf hP hS hW hl
  have hx := C.1
  have hb := C.2.1
  unfold s_X12_fit_J40 at hf
  refine lv_iadd hx hb dX12_fit_40 ?_
  obtain ⟨x11, ex11, hf⟩ := bnd_e hf
  refine nm_i ex11 ?_
  refine lv_istore_n (lv' := [(1, .int x11), (0, .ref v0), (2, .int v2)]) hx hb dX12_fit_41 rfl hl (by decide) rfl (fun ls hl => ?_)
  obtain ⟨x12, ex12, hf⟩ := bnd_e hf
  refine lv_iinc (v := x12) (lv' := [(2, .int x12), (1, .int x11), (0, .ref v0)]) hx hb dX12_fit_42 hl (k := 2) rfl ex12.symm (by decide) rfl (fun ls hl => ?_)
  refine lv_goto (tgt := 18) hx hb dX12_fit_45 (by decide) ?_
  exact hk18 v0 x11 x12 h_v0 k_v0 S H locs _ hf hP hS hW (lv_sub hl [2, 1, 0] rfl)
set_option maxRecDepth 100000 in
set_option maxHeartbeats 4000000 in
theorem b_X12_fit_18 {p : Program} {l : Launch} {e : Env} {s : State} {m : MethodId} {args : Array Value} {below : List Frame} {meth : Method} {c : Code} {V : EV} {G : GS} {r : Int32} {S' : HS} {F : Nat} (C : CX p s m args meth c RX12 cX12_fit 3 (some .int) V G) : ∀ n : Nat, ∀ (v0 : Nat) (v1 : Int32) (v2 : Int32) (h_v0 : v0 ∈ G.1) (k_v0 : G.2.1 v0 = 12) (S : HS) (H : Heap) (locs : List Loc) (ls : Array Slot), s_X12_fit_L18 G.2.2 F n v0 v1 v2 S = some (r, S') → HP V G S H → va_S (AG G s.heap.size) s.heap H locs → WT G S → lv_has ls 3 [(0, .ref v0), (1, .int v1), (2, .int v2)] → W p l e (RM 22 739) s m args below meth c H locs 0 0 (MQ below (QI V G S' r s.heap.size) args s 0 0 (AG G s.heap.size)) (F0 m 18 ls []) := by
  intro n
  induction n with
  | zero =>
    intro v0 v1 v2 h_v0 k_v0 S H locs ls hf
    rw [s_X12_fit_L18] at hf
    cases hf
  | succ n ih =>
    intro v0 v1 v2 h_v0 k_v0 S H locs ls hf hP hS hW hl
    have hx := C.1
    have hb := C.2.1
    rw [s_X12_fit_L18] at hf
    refine lv_iload_n hx hb dX12_fit_18 rfl (lv_at hl 2 rfl) ?_
    refine lv_aload_n hx hb dX12_fit_19 rfl (lv_at hl 0 rfl) ?_
    obtain ⟨r5, er5, hf⟩ := bd1_e hf
    refine x_aft_i (x_runV (As := []) (rest := [.int v2]) C hP hS (c_X12_allBits (l := l) C.2.2.2.2.2.2.2.2.2.1 hW h_v0 k_v0 er5 H.size) h_v0 k_v0 (by decide) rfl rfl km_X12_allBits ki_X12_allBits qm_X12_446 ⟨(Nat.le_of_ble_eq_true rfl), (Nat.le_of_ble_eq_true rfl)⟩ rfl hl.1 rfl (Nat.le_of_ble_eq_true rfl) ⟨Nat.zero_le _, Nat.zero_le _⟩ dX12_fit_20) hS (fun H locs hP hS hW => ?_)
    refine lv_icmp_ge (tgt := 48) hx hb dX12_fit_23 (by decide) (fun c6 => ?_) (fun c6 => ?_)
    · have hf := if_t c6 hf
      refine lv_iload_n hx hb dX12_fit_48 rfl (lv_at hl 1 rfl) ?_
      cases hf
      exact x_reti C hP hS hW dX12_fit_49
    · have hf := if_f c6 hf
      refine lv_iload_n hx hb dX12_fit_26 rfl (lv_at hl 1 rfl) ?_
      refine lv_aload_n hx hb dX12_fit_27 rfl (lv_at hl 0 rfl) ?_
      refine lv_iload_n hx hb dX12_fit_28 rfl (lv_at hl 2 rfl) ?_
      obtain ⟨r7, S8, eS8, hf⟩ := bd2_e hf
      refine x_aft_z (x_runV (As := [.int v2]) (rest := [.int v1]) C hP hS (c_X12_isAsSeen (l := l) C.2.2.2.2.2.2.2.2.2.1 hW h_v0 k_v0 eS8 H.size) h_v0 k_v0 (by decide) rfl rfl km_X12_isAsSeen ki_X12_isAsSeen qm_X12_463 ⟨(Nat.le_of_ble_eq_true rfl), (Nat.le_of_ble_eq_true rfl)⟩ rfl hl.1 rfl (Nat.le_of_ble_eq_true rfl) ⟨Nat.zero_le _, Nat.zero_le _⟩ dX12_fit_29) hS (fun H locs hP hS hW z9 => ?_)
      refine lv_if_eq (tgt := 39) hx hb dX12_fit_32 (by decide) (fun c10 => ?_) (fun c10 => ?_)
      · have hf := if_t c10 hf
        refine lv_iconst (v := 0) hx hb dX12_fit_39 rfl ?_
        exact b_X12_fit_40 C ih v0 v2 v1 0 h_v0 k_v0 S8 H locs _ hf hP hS hW (lv_sub hl [0, 2] rfl)
      · have hf := if_f c10 hf
        refine lv_iconst (v := 1) hx hb dX12_fit_35 rfl ?_
        refine lv_goto (tgt := 40) hx hb dX12_fit_36 (by decide) ?_
        exact b_X12_fit_40 C ih v0 v2 v1 1 h_v0 k_v0 S8 H locs _ hf hP hS hW (lv_sub hl [0, 2] rfl)
set_option maxRecDepth 100000 in
set_option maxHeartbeats 4000000 in
theorem c_X12_fit {l : Launch} {V : EV} {G : GS} {S : HS} {F : Nat} {a : Nat} {r : Int32} {S' : HS} (hN : G.1.Nodup) (hW : WT G S) (h_a : a ∈ G.1) (k_a : G.2.1 a = 12) (hf : s_X12_fit G.2.2 F a S = some (r, S')) : MetI l yX12_fit cX12_fit 3 .int 22 739 V G S [.ref a] r S' := by
  intro sz
  refine x_in RX12 rfl (by decide +kernel) hN (Nat.le_of_ble_eq_true rfl) (fun p e s m args below meth c ls hsz hargs hnm C hP hS hl => ?_)
  subst hsz
  have hx := C.1
  have hb := C.2.1
  have hl : lv_has ls 3 [(0, .ref a)] := hl
  unfold s_X12_fit at hf
  refine lv_aload_n hx hb dX12_fit_0 rfl (lv_at hl 0 rfl) ?_
  refine lv_iconst (v := 0) hx hb dX12_fit_1 rfl ?_
  obtain ⟨S1, eS1, hf⟩ := bnd_e hf
  refine pf_X12_1 C hP hS h_a k_a eS1 dX12_fit_2 (fun H locs hP hS => ?_)
  have hW : WT G S1 := by rw [eS1]; exact hW
  refine lv_aload_n hx hb dX12_fit_5 rfl (lv_at hl 0 rfl) ?_
  obtain ⟨r2, er2, hf⟩ := bd1_e hf
  refine x_aft_z (x_runV (As := []) (rest := []) C hP hS (c_X12_isSmall (l := l) C.2.2.2.2.2.2.2.2.2.1 hW h_a k_a er2 H.size) h_a k_a (by decide) rfl rfl km_X12_isSmall ki_X12_isSmall qm_X12_443 ⟨(Nat.le_of_ble_eq_true rfl), (Nat.le_of_ble_eq_true rfl)⟩ rfl hl.1 rfl (Nat.le_of_ble_eq_true rfl) ⟨Nat.zero_le _, Nat.zero_le _⟩ dX12_fit_6) hS (fun H locs hP hS hW z3 => ?_)
  refine lv_if_ne (tgt := 14) hx hb dX12_fit_9 (by decide) (fun c4 => ?_) (fun c4 => ?_)
  · have hf := if_f c4 hf
    refine lv_iconst (v := 0) hx hb dX12_fit_14 rfl ?_
    refine lv_istore_n (lv' := [(1, .int 0), (0, .ref a)]) hx hb dX12_fit_15 rfl hl (by decide) rfl (fun ls hl => ?_)
    refine lv_iconst (v := 0) hx hb dX12_fit_16 rfl ?_
    refine lv_istore_n (lv' := [(2, .int 0), (1, .int 0), (0, .ref a)]) hx hb dX12_fit_17 rfl hl (by decide) rfl (fun ls hl => ?_)
    exact b_X12_fit_18 C F a 0 0 h_a k_a S1 H locs _ hf hP hS hW (lv_sub hl [2, 1, 0] rfl)
  · have hf := if_t c4 hf
    refine lv_iconst (v := (-1)) hx hb dX12_fit_12 rfl ?_
    cases hf
    exact x_reti C hP hS hW dX12_fit_13
def s_X12_isReg (N : Nat → Nat) (a : Nat) (p0 : Int32) (S : HS) : Option Int32 :=
  if p0 < (0 : Int32) then
  some 0
  else
  bd1 (s_X12_regs N a S) fun r2 =>
  if r2 ≤ p0 then
  some 0
  else
  some 1
set_option maxRecDepth 100000 in
set_option maxHeartbeats 4000000 in
theorem c_X12_isReg {l : Launch} {V : EV} {G : GS} {S : HS} {a : Nat} {p0 : Int32} {r : Int32} (hN : G.1.Nodup) (hW : WT G S) (h_a : a ∈ G.1) (k_a : G.2.1 a = 12) (hf : s_X12_isReg G.2.2 a p0 S = some r) : MetZ l yX12_isReg cX12_isReg 2 1 28 V G S [.ref a, .int p0] r S := by
  intro sz
  refine x_in RX12 rfl (by decide +kernel) hN (Nat.le_of_ble_eq_true rfl) (fun p e s m args below meth c ls hsz hargs hnm C hP hS hl => ?_)
  subst hsz
  have hx := C.1
  have hb := C.2.1
  have hl : lv_has ls 2 [(0, .ref a), (1, .int p0)] := hl
  unfold s_X12_isReg at hf
  refine lv_iload_n hx hb dX12_isReg_0 rfl (lv_at hl 1 rfl) ?_
  refine lv_if_lt (tgt := 16) hx hb dX12_isReg_1 (by decide) (fun c1 => ?_) (fun c1 => ?_)
  · have hf := if_t c1 hf
    refine lv_iconst (v := 0) hx hb dX12_isReg_16 rfl ?_
    cases hf
    exact x_retZ C hP hS hW isZ_0 dX12_isReg_17
  · have hf := if_f c1 hf
    refine lv_iload_n hx hb dX12_isReg_4 rfl (lv_at hl 1 rfl) ?_
    refine lv_aload_n hx hb dX12_isReg_5 rfl (lv_at hl 0 rfl) ?_
    obtain ⟨r2, er2, hf⟩ := bd1_e hf
    refine x_aft_i (x_runV (As := []) (rest := [.int p0]) C hP hS (c_X12_regs (l := l) C.2.2.2.2.2.2.2.2.2.1 hW h_a k_a er2 s.heap.size) h_a k_a (by decide) rfl rfl km_X12_regs ki_X12_regs qm_X12_212 ⟨(Nat.le_of_ble_eq_true rfl), (Nat.le_of_ble_eq_true rfl)⟩ rfl hl.1 rfl (Nat.le_of_ble_eq_true rfl) ⟨Nat.zero_le _, Nat.zero_le _⟩ dX12_isReg_6) hS (fun H locs hP hS hW => ?_)
    refine lv_icmp_ge (tgt := 16) hx hb dX12_isReg_9 (by decide) (fun c3 => ?_) (fun c3 => ?_)
    · have hf := if_t c3 hf
      refine lv_iconst (v := 0) hx hb dX12_isReg_16 rfl ?_
      cases hf
      exact x_retZ C hP hS hW isZ_0 dX12_isReg_17
    · have hf := if_f c3 hf
      refine lv_iconst (v := 1) hx hb dX12_isReg_12 rfl ?_
      refine lv_goto (tgt := 17) hx hb dX12_isReg_13 (by decide) ?_
      cases hf
      exact x_retZ C hP hS hW isZ_1 dX12_isReg_17
def s_X12_keyOf_J22 (v0 : Int32) (v1 : Int32) (v4 : Int32) (w0 : Int32) (S : HS) : Int64 :=
  v0.toInt64 + (4 * (v1.toInt64 + (8 * (v4.toInt64 + (134217728 * w0.toInt64)))))
def s_X12_keyOf_J10 (v0 : Int32) (v1 : Int32) (v2 : Int32) (v3 : Int32) (w0 : Int32) (S : HS) : Int64 :=
  if v3 ≤ v2 then
  s_X12_keyOf_J22 v0 v1 w0 v2 S
  else
  s_X12_keyOf_J22 v0 v1 w0 v3 S
def s_X12_keyOf (p0 : Int32) (p1 : Int32) (p2 : Int32) (p3 : Int32) (S : HS) : Int64 :=
  if p3 ≤ p2 then
  s_X12_keyOf_J10 p0 p1 p2 p3 p3 S
  else
  s_X12_keyOf_J10 p0 p1 p2 p3 p2 S
set_option maxRecDepth 100000 in
set_option maxHeartbeats 4000000 in
theorem b_X12_keyOf_22 {p : Program} {l : Launch} {e : Env} {s : State} {m : MethodId} {args : Array Value} {below : List Frame} {meth : Method} {c : Code} {V : EV} {G : GS} {r : Int64} (C : CX p s m args meth c RX12 cX12_keyOf 6 (some .long) V G) : ∀ (v0 : Int32) (v1 : Int32) (v4 : Int32) (w0 : Int32) (S : HS) (H : Heap) (locs : List Loc) (ls : Array Slot), s_X12_keyOf_J22 v0 v1 v4 w0 S = r → HP V G S H → va_S (AG G s.heap.size) s.heap H locs → WT G S → lv_has ls 6 [(0, .int v0), (1, .int v1), (4, .int v4)] → W p l e (RM 0 0) s m args below meth c H locs 0 0 (MQ below (QJ V G S r s.heap.size) args s 0 0 (AG G s.heap.size)) (F0 m 22 ls [.int w0]) := by
  intro v0 v1 v4 w0 S H locs ls hf hP hS hW hl
  have hx := C.1
  have hb := C.2.1
  unfold s_X12_keyOf_J22 at hf
  refine lv_istore (lv' := [(5, .int w0), (0, .int v0), (1, .int v1), (4, .int v4)]) hx hb dX12_keyOf_22 hl (by decide) rfl (fun ls hl => ?_)
  refine lv_iload_n hx hb dX12_keyOf_24 rfl (lv_at hl 1 rfl) ?_
  refine lv_i2l hx hb dX12_keyOf_25 rfl ?_
  refine lv_ldc2 (v := 4) hx hb C.2.2.2.2.1 (C.2.2.2.2.2.1 _ qc_X12_369) dX12_keyOf_26 ?_
  refine lv_iload_n hx hb dX12_keyOf_29 rfl (lv_at hl 2 rfl) ?_
  refine lv_i2l hx hb dX12_keyOf_30 rfl ?_
  refine lv_ldc2 (v := 8) hx hb C.2.2.2.2.1 (C.2.2.2.2.2.1 _ qc_X12_371) dX12_keyOf_31 ?_
  refine lv_iload hx hb dX12_keyOf_34 (lv_at hl 3 rfl) ?_
  refine lv_i2l hx hb dX12_keyOf_36 rfl ?_
  refine lv_ldc2 (v := 134217728) hx hb C.2.2.2.2.1 (C.2.2.2.2.2.1 _ qc_X12_373) dX12_keyOf_37 ?_
  refine lv_iload hx hb dX12_keyOf_40 (lv_at hl 0 rfl) ?_
  refine lv_i2l hx hb dX12_keyOf_42 rfl ?_
  refine lv_lmul hx hb dX12_keyOf_43 ?_
  refine lv_ladd hx hb dX12_keyOf_44 ?_
  refine lv_lmul hx hb dX12_keyOf_45 ?_
  refine lv_ladd hx hb dX12_keyOf_46 ?_
  refine lv_lmul hx hb dX12_keyOf_47 ?_
  refine lv_ladd hx hb dX12_keyOf_48 ?_
  cases hf
  exact x_retl C hP hS hW dX12_keyOf_49
set_option maxRecDepth 100000 in
set_option maxHeartbeats 4000000 in
theorem b_X12_keyOf_10 {p : Program} {l : Launch} {e : Env} {s : State} {m : MethodId} {args : Array Value} {below : List Frame} {meth : Method} {c : Code} {V : EV} {G : GS} {r : Int64} (C : CX p s m args meth c RX12 cX12_keyOf 6 (some .long) V G) : ∀ (v0 : Int32) (v1 : Int32) (v2 : Int32) (v3 : Int32) (w0 : Int32) (S : HS) (H : Heap) (locs : List Loc) (ls : Array Slot), s_X12_keyOf_J10 v0 v1 v2 v3 w0 S = r → HP V G S H → va_S (AG G s.heap.size) s.heap H locs → WT G S → lv_has ls 6 [(0, .int v0), (1, .int v1), (2, .int v2), (3, .int v3)] → W p l e (RM 0 0) s m args below meth c H locs 0 0 (MQ below (QJ V G S r s.heap.size) args s 0 0 (AG G s.heap.size)) (F0 m 10 ls [.int w0]) := by
  intro v0 v1 v2 v3 w0 S H locs ls hf hP hS hW hl
  have hx := C.1
  have hb := C.2.1
  unfold s_X12_keyOf_J10 at hf
  refine lv_istore (lv' := [(4, .int w0), (0, .int v0), (1, .int v1), (2, .int v2), (3, .int v3)]) hx hb dX12_keyOf_10 hl (by decide) rfl (fun ls hl => ?_)
  refine lv_iload_n hx hb dX12_keyOf_12 rfl (lv_at hl 3 rfl) ?_
  refine lv_iload_n hx hb dX12_keyOf_13 rfl (lv_at hl 4 rfl) ?_
  refine lv_icmp_ge (tgt := 21) hx hb dX12_keyOf_14 (by decide) (fun c2 => ?_) (fun c2 => ?_)
  · have hf := if_t c2 hf
    refine lv_iload_n hx hb dX12_keyOf_21 rfl (lv_at hl 3 rfl) ?_
    exact b_X12_keyOf_22 C v0 v1 w0 v2 S H locs _ hf hP hS hW (lv_sub hl [1, 2, 0] rfl)
  · have hf := if_f c2 hf
    refine lv_iload_n hx hb dX12_keyOf_17 rfl (lv_at hl 4 rfl) ?_
    refine lv_goto (tgt := 22) hx hb dX12_keyOf_18 (by decide) ?_
    exact b_X12_keyOf_22 C v0 v1 w0 v3 S H locs _ hf hP hS hW (lv_sub hl [1, 2, 0] rfl)
set_option maxRecDepth 100000 in
set_option maxHeartbeats 4000000 in
theorem c_X12_keyOf {l : Launch} {V : EV} {G : GS} {S : HS} {p0 : Int32} {p1 : Int32} {p2 : Int32} {p3 : Int32} {r : Int64} (hN : G.1.Nodup) (hW : WT G S) (hf : s_X12_keyOf p0 p1 p2 p3 S = r) : MetJ l yX12_keyOf cX12_keyOf 6 0 0 V G S [.int p0, .int p1, .int p2, .int p3] r S := by
  intro sz
  refine x_in RX12 rfl (by decide +kernel) hN (Nat.le_of_ble_eq_true rfl) (fun p e s m args below meth c ls hsz hargs hnm C hP hS hl => ?_)
  subst hsz
  have hx := C.1
  have hb := C.2.1
  have hl : lv_has ls 6 [(0, .int p0), (1, .int p1), (2, .int p2), (3, .int p3)] := hl
  unfold s_X12_keyOf at hf
  refine lv_iload_n hx hb dX12_keyOf_0 rfl (lv_at hl 2 rfl) ?_
  refine lv_iload_n hx hb dX12_keyOf_1 rfl (lv_at hl 3 rfl) ?_
  refine lv_icmp_ge (tgt := 9) hx hb dX12_keyOf_2 (by decide) (fun c1 => ?_) (fun c1 => ?_)
  · have hf := if_t c1 hf
    refine lv_iload_n hx hb dX12_keyOf_9 rfl (lv_at hl 3 rfl) ?_
    exact b_X12_keyOf_10 C p0 p1 p2 p3 p3 S s.heap [] _ hf hP hS hW (lv_sub hl [0, 1, 2, 3] rfl)
  · have hf := if_f c1 hf
    refine lv_iload_n hx hb dX12_keyOf_5 rfl (lv_at hl 2 rfl) ?_
    refine lv_goto (tgt := 10) hx hb dX12_keyOf_6 (by decide) ?_
    exact b_X12_keyOf_10 C p0 p1 p2 p3 p2 S s.heap [] _ hf hP hS hW (lv_sub hl [0, 1, 2, 3] rfl)
def s_X12_fma (N : Nat → Nat) (F : Nat) (a : Nat) (p0 : Int32) (p1 : Int32) (p2 : Int32) (p3 : Int32) (S : HS) : Option (Int32 × HS) :=
  bnd (uI S 1200 a 0) fun S1 =>
  bd1 (s_X12_used N a S1) fun r2 =>
  if r2 < (0 : Int32) then
  some ((-1), S1)
  else
  bd1 (s_X12_isReg N a p0 S1) fun r4 =>
  if r4 = (0 : Int32) then
  some ((-1), S1)
  else
  bd1 (s_X12_isReg N a p1 S1) fun r7 =>
  if r7 = (0 : Int32) then
  some ((-1), S1)
  else
  bd1 (s_X12_isReg N a p2 S1) fun r10 =>
  if r10 = (0 : Int32) then
  some ((-1), S1)
  else
  bd1 (s_X12_isReg N a p3 S1) fun r13 =>
  if r13 = (0 : Int32) then
  some ((-1), S1)
  else
  bd1 (s_X12_keeps N F a S1) fun S16 =>
  bd1 (gR S16 1217 a) fun t17 =>
  if inB (3 : Int32) (N t17) = true then
  bnd (aI S16 t17 (3 : Int32).toNatClampNeg : Int32) fun x19 =>
  bd1 (gR S16 1225 a) fun t20 =>
  bd1 (s_X12_used N a S16) fun r21 =>
  bd1 (gR S16 1217 a) fun t22 =>
  if inB (1 : Int32) (N t22) = true then
  bd1 (gR S16 1217 a) fun t24 =>
  if inB (4 + p1) (N t24) = true then
  bd1 (gR S16 1217 a) fun t26 =>
  if inB (4 + p2) (N t26) = true then
  if inB x19 (N t20) = true then
  bnd (wJ S16 t20 (x19.toNatClampNeg) (s_X12_keyOf r21 (aI S16 t22 (1 : Int32).toNatClampNeg) (aI S16 t24 (4 + p1).toNatClampNeg) (aI S16 t26 (4 + p2).toNatClampNeg) S16)) fun S29 =>
  bd1 (gR S29 1226 a) fun t30 =>
  bd1 (gR S29 1217 a) fun t31 =>
  if inB (4 + p3) (N t31) = true then
  if inB x19 (N t30) = true then
  bnd (wJ S29 t30 (x19.toNatClampNeg) ((aI S29 t31 (4 + p3).toNatClampNeg).toInt64)) fun S34 =>
  bd1 (s_X12_multiplies N F a 0 p0 p1 p2 p3 S34) fun S35 =>
  bd1 (gR S35 1226 a) fun t36 =>
  if inB x19 (N t36) = true then
  bd1 (gR S35 1217 a) fun t38 =>
  if inB (4 + p0) (N t38) = true then
  if inB x19 (N t36) = true then
  bnd (wJ S35 t36 (x19.toNatClampNeg) ((aJ S35 t36 x19.toNatClampNeg) + (134217728 * ((aI S35 t38 (4 + p0).toNatClampNeg).toInt64)))) fun S41 =>
  bd1 (gR S41 1217 a) fun t42 =>
  if inB (3 : Int32) (N t42) = true then
  if inB (3 : Int32) (N t42) = true then
  bnd (wI S41 t42 ((3 : Int32).toNatClampNeg) ((aI S41 t42 (3 : Int32).toNatClampNeg) + 1)) fun S45 =>
  some (gI S45 1220 a, S45)
  else none
  else none
  else none
  else none
  else none
  else none
  else none
  else none
  else none
  else none
  else none
  else none
set_option maxRecDepth 100000 in
set_option maxHeartbeats 4000000 in
theorem c_X12_fma {l : Launch} {V : EV} {G : GS} {S : HS} {F : Nat} {a : Nat} {p0 : Int32} {p1 : Int32} {p2 : Int32} {p3 : Int32} {r : Int32} {S' : HS} (hN : G.1.Nodup) (hW : WT G S) (h_a : a ∈ G.1) (k_a : G.2.1 a = 12) (hf : s_X12_fma G.2.2 F a p0 p1 p2 p3 S = some (r, S')) : MetI l yX12_fma cX12_fma 6 .int 21 709 V G S [.ref a, .int p0, .int p1, .int p2, .int p3] r S' := by
  intro sz
  refine x_in RX12 rfl (by decide +kernel) hN (Nat.le_of_ble_eq_true rfl) (fun p e s m args below meth c ls hsz hargs hnm C hP hS hl => ?_)
  subst hsz
  have hx := C.1
  have hb := C.2.1
  have hl : lv_has ls 6 [(0, .ref a), (1, .int p0), (2, .int p1), (3, .int p2), (4, .int p3)] := hl
  unfold s_X12_fma at hf
  refine lv_aload_n hx hb dX12_fma_0 rfl (lv_at hl 0 rfl) ?_
  refine lv_iconst (v := 0) hx hb dX12_fma_1 rfl ?_
  obtain ⟨S1, eS1, hf⟩ := bnd_e hf
  refine pf_X12_1 C hP hS h_a k_a eS1 dX12_fma_2 (fun H locs hP hS => ?_)
  have hW : WT G S1 := by rw [eS1]; exact hW
  refine lv_aload_n hx hb dX12_fma_5 rfl (lv_at hl 0 rfl) ?_
  obtain ⟨r2, er2, hf⟩ := bd1_e hf
  refine x_aft_i (x_runV (As := []) (rest := []) C hP hS (c_X12_used (l := l) C.2.2.2.2.2.2.2.2.2.1 hW h_a k_a er2 H.size) h_a k_a (by decide) rfl rfl km_X12_used ki_X12_used qm_X12_357 ⟨(Nat.le_of_ble_eq_true rfl), (Nat.le_of_ble_eq_true rfl)⟩ rfl hl.1 rfl (Nat.le_of_ble_eq_true rfl) ⟨Nat.zero_le _, Nat.zero_le _⟩ dX12_fma_6) hS (fun H locs hP hS hW => ?_)
  refine lv_if_lt (tgt := 45) hx hb dX12_fma_9 (by decide) (fun c3 => ?_) (fun c3 => ?_)
  · have hf := if_t c3 hf
    refine lv_iconst (v := (-1)) hx hb dX12_fma_45 rfl ?_
    cases hf
    exact x_reti C hP hS hW dX12_fma_46
  · have hf := if_f c3 hf
    refine lv_aload_n hx hb dX12_fma_12 rfl (lv_at hl 0 rfl) ?_
    refine lv_iload_n hx hb dX12_fma_13 rfl (lv_at hl 1 rfl) ?_
    obtain ⟨r4, er4, hf⟩ := bd1_e hf
    refine x_aft_z (x_runV (As := [.int p0]) (rest := []) C hP hS (c_X12_isReg (l := l) C.2.2.2.2.2.2.2.2.2.1 hW h_a k_a er4 H.size) h_a k_a (by decide) rfl rfl km_X12_isReg ki_X12_isReg qm_X12_360 ⟨(Nat.le_of_ble_eq_true rfl), (Nat.le_of_ble_eq_true rfl)⟩ rfl hl.1 rfl (Nat.le_of_ble_eq_true rfl) ⟨Nat.zero_le _, Nat.zero_le _⟩ dX12_fma_14) hS (fun H locs hP hS hW z5 => ?_)
    refine lv_if_eq (tgt := 45) hx hb dX12_fma_17 (by decide) (fun c6 => ?_) (fun c6 => ?_)
    · have hf := if_t c6 hf
      refine lv_iconst (v := (-1)) hx hb dX12_fma_45 rfl ?_
      cases hf
      exact x_reti C hP hS hW dX12_fma_46
    · have hf := if_f c6 hf
      refine lv_aload_n hx hb dX12_fma_20 rfl (lv_at hl 0 rfl) ?_
      refine lv_iload_n hx hb dX12_fma_21 rfl (lv_at hl 2 rfl) ?_
      obtain ⟨r7, er7, hf⟩ := bd1_e hf
      refine x_aft_z (x_runV (As := [.int p1]) (rest := []) C hP hS (c_X12_isReg (l := l) C.2.2.2.2.2.2.2.2.2.1 hW h_a k_a er7 H.size) h_a k_a (by decide) rfl rfl km_X12_isReg ki_X12_isReg qm_X12_360 ⟨(Nat.le_of_ble_eq_true rfl), (Nat.le_of_ble_eq_true rfl)⟩ rfl hl.1 rfl (Nat.le_of_ble_eq_true rfl) ⟨Nat.zero_le _, Nat.zero_le _⟩ dX12_fma_22) hS (fun H locs hP hS hW z8 => ?_)
      refine lv_if_eq (tgt := 45) hx hb dX12_fma_25 (by decide) (fun c9 => ?_) (fun c9 => ?_)
      · have hf := if_t c9 hf
        refine lv_iconst (v := (-1)) hx hb dX12_fma_45 rfl ?_
        cases hf
        exact x_reti C hP hS hW dX12_fma_46
      · have hf := if_f c9 hf
        refine lv_aload_n hx hb dX12_fma_28 rfl (lv_at hl 0 rfl) ?_
        refine lv_iload_n hx hb dX12_fma_29 rfl (lv_at hl 3 rfl) ?_
        obtain ⟨r10, er10, hf⟩ := bd1_e hf
        refine x_aft_z (x_runV (As := [.int p2]) (rest := []) C hP hS (c_X12_isReg (l := l) C.2.2.2.2.2.2.2.2.2.1 hW h_a k_a er10 H.size) h_a k_a (by decide) rfl rfl km_X12_isReg ki_X12_isReg qm_X12_360 ⟨(Nat.le_of_ble_eq_true rfl), (Nat.le_of_ble_eq_true rfl)⟩ rfl hl.1 rfl (Nat.le_of_ble_eq_true rfl) ⟨Nat.zero_le _, Nat.zero_le _⟩ dX12_fma_30) hS (fun H locs hP hS hW z11 => ?_)
        refine lv_if_eq (tgt := 45) hx hb dX12_fma_33 (by decide) (fun c12 => ?_) (fun c12 => ?_)
        · have hf := if_t c12 hf
          refine lv_iconst (v := (-1)) hx hb dX12_fma_45 rfl ?_
          cases hf
          exact x_reti C hP hS hW dX12_fma_46
        · have hf := if_f c12 hf
          refine lv_aload_n hx hb dX12_fma_36 rfl (lv_at hl 0 rfl) ?_
          refine lv_iload hx hb dX12_fma_37 (lv_at hl 4 rfl) ?_
          obtain ⟨r13, er13, hf⟩ := bd1_e hf
          refine x_aft_z (x_runV (As := [.int p3]) (rest := []) C hP hS (c_X12_isReg (l := l) C.2.2.2.2.2.2.2.2.2.1 hW h_a k_a er13 H.size) h_a k_a (by decide) rfl rfl km_X12_isReg ki_X12_isReg qm_X12_360 ⟨(Nat.le_of_ble_eq_true rfl), (Nat.le_of_ble_eq_true rfl)⟩ rfl hl.1 rfl (Nat.le_of_ble_eq_true rfl) ⟨Nat.zero_le _, Nat.zero_le _⟩ dX12_fma_39) hS (fun H locs hP hS hW z14 => ?_)
          refine lv_if_ne (tgt := 47) hx hb dX12_fma_42 (by decide) (fun c15 => ?_) (fun c15 => ?_)
          · have hf := if_f c15 hf
            refine lv_aload_n hx hb dX12_fma_47 rfl (lv_at hl 0 rfl) ?_
            obtain ⟨S16, eS16, hf⟩ := bd1_e hf
            refine x_aft_v (x_runV (As := []) (rest := []) C hP hS (c_X12_keeps (l := l) C.2.2.2.2.2.2.2.2.2.1 hW h_a k_a eS16 H.size) h_a k_a (by decide) rfl rfl km_X12_keeps ki_X12_keeps qm_X12_366 ⟨(Nat.le_of_ble_eq_true rfl), (Nat.le_of_ble_eq_true rfl)⟩ rfl hl.1 rfl (Nat.le_of_ble_eq_true rfl) ⟨Nat.zero_le _, Nat.zero_le _⟩ dX12_fma_48) hS (fun H locs hP hS hW => ?_)
            refine lv_aload_n hx hb dX12_fma_51 rfl (lv_at hl 0 rfl) ?_
            refine gf_X12_95 C hP h_a k_a dX12_fma_52 ?_
            obtain ⟨t17, et17, hf⟩ := bd1_e hf
            obtain ⟨h_t17, k_t17⟩ := wt_r hW h_a k_a (by decide) et17
            have k_t17 : G.2.1 t17 = 14 := k_t17
            rw [et17]
            refine lv_iconst (v := 3) hx hb dX12_fma_55 rfl ?_
            obtain ⟨h18, hf⟩ := if_s hf
            refine x_iald C hP h_t17 k_t17 h18 dX12_fma_56 ?_
            obtain ⟨x19, ex19, hf⟩ := bnd_e hf
            refine nm_i ex19 ?_
            refine lv_istore (lv' := [(5, .int x19), (0, .ref a), (1, .int p0), (2, .int p1), (3, .int p2), (4, .int p3)]) hx hb dX12_fma_57 hl (by decide) rfl (fun ls hl => ?_)
            refine lv_aload_n hx hb dX12_fma_59 rfl (lv_at hl 1 rfl) ?_
            refine gf_X12_102 C hP h_a k_a dX12_fma_60 ?_
            obtain ⟨t20, et20, hf⟩ := bd1_e hf
            obtain ⟨h_t20, k_t20⟩ := wt_r hW h_a k_a (by decide) et20
            have k_t20 : G.2.1 t20 = 15 := k_t20
            rw [et20]
            refine lv_iload hx hb dX12_fma_63 (lv_at hl 0 rfl) ?_
            refine lv_aload_n hx hb dX12_fma_65 rfl (lv_at hl 1 rfl) ?_
            obtain ⟨r21, er21, hf⟩ := bd1_e hf
            refine x_aft_i (x_runV (As := []) (rest := [.int x19, .ref t20]) C hP hS (c_X12_used (l := l) C.2.2.2.2.2.2.2.2.2.1 hW h_a k_a er21 H.size) h_a k_a (by decide) rfl rfl km_X12_used ki_X12_used qm_X12_357 ⟨(Nat.le_of_ble_eq_true rfl), (Nat.le_of_ble_eq_true rfl)⟩ rfl hl.1 rfl (Nat.le_of_ble_eq_true rfl) ⟨Nat.zero_le _, Nat.zero_le _⟩ dX12_fma_66) hS (fun H locs hP hS hW => ?_)
            refine lv_aload_n hx hb dX12_fma_69 rfl (lv_at hl 1 rfl) ?_
            refine gf_X12_95 C hP h_a k_a dX12_fma_70 ?_
            obtain ⟨t22, et22, hf⟩ := bd1_e hf
            obtain ⟨h_t22, k_t22⟩ := wt_r hW h_a k_a (by decide) et22
            have k_t22 : G.2.1 t22 = 14 := k_t22
            rw [et22]
            refine lv_iconst (v := 1) hx hb dX12_fma_73 rfl ?_
            obtain ⟨h23, hf⟩ := if_s hf
            refine x_iald C hP h_t22 k_t22 h23 dX12_fma_74 ?_
            refine lv_aload_n hx hb dX12_fma_75 rfl (lv_at hl 1 rfl) ?_
            refine gf_X12_95 C hP h_a k_a dX12_fma_76 ?_
            obtain ⟨t24, et24, hf⟩ := bd1_e hf
            obtain ⟨h_t24, k_t24⟩ := wt_r hW h_a k_a (by decide) et24
            have k_t24 : G.2.1 t24 = 14 := k_t24
            rw [et24]
            refine lv_iconst (v := 4) hx hb dX12_fma_79 rfl ?_
            refine lv_iload_n hx hb dX12_fma_80 rfl (lv_at hl 3 rfl) ?_
            refine lv_iadd hx hb dX12_fma_81 ?_
            obtain ⟨h25, hf⟩ := if_s hf
            refine x_iald C hP h_t24 k_t24 h25 dX12_fma_82 ?_
            refine lv_aload_n hx hb dX12_fma_83 rfl (lv_at hl 1 rfl) ?_
            refine gf_X12_95 C hP h_a k_a dX12_fma_84 ?_
            obtain ⟨t26, et26, hf⟩ := bd1_e hf
            obtain ⟨h_t26, k_t26⟩ := wt_r hW h_a k_a (by decide) et26
            have k_t26 : G.2.1 t26 = 14 := k_t26
            rw [et26]
            refine lv_iconst (v := 4) hx hb dX12_fma_87 rfl ?_
            refine lv_iload_n hx hb dX12_fma_88 rfl (lv_at hl 4 rfl) ?_
            refine lv_iadd hx hb dX12_fma_89 ?_
            obtain ⟨h27, hf⟩ := if_s hf
            refine x_iald C hP h_t26 k_t26 h27 dX12_fma_90 ?_
            refine x_aft_l (x_runS (As := [.int r21, .int (aI S16 t22 (1 : Int32).toNatClampNeg), .int (aI S16 t24 (4 + p1).toNatClampNeg), .int (aI S16 t26 (4 + p2).toNatClampNeg)]) (rest := [.int x19, .ref t20]) C hP hS (c_X12_keyOf (l := l) C.2.2.2.2.2.2.2.2.2.1 hW rfl H.size) km_X12_keyOf ks_X12_keyOf qm_X12_378 ⟨(Nat.le_of_ble_eq_true rfl), (Nat.le_of_ble_eq_true rfl)⟩ rfl hl.1 rfl (Nat.le_of_ble_eq_true rfl) ⟨Nat.zero_le _, Nat.zero_le _⟩ dX12_fma_91) hS (fun H locs hP hS hW => ?_)
            obtain ⟨h28, hf⟩ := if_s hf
            obtain ⟨S29, eS29, hf⟩ := bnd_e hf
            refine x_last C hP hS h_t20 k_t20 h28 eS29 dX12_fma_94 (fun H locs hP hS => ?_)
            have hW : WT G S29 := by rw [eS29]; exact hW
            refine lv_aload_n hx hb dX12_fma_95 rfl (lv_at hl 1 rfl) ?_
            refine gf_X12_105 C hP h_a k_a dX12_fma_96 ?_
            obtain ⟨t30, et30, hf⟩ := bd1_e hf
            obtain ⟨h_t30, k_t30⟩ := wt_r hW h_a k_a (by decide) et30
            have k_t30 : G.2.1 t30 = 15 := k_t30
            rw [et30]
            refine lv_iload hx hb dX12_fma_99 (lv_at hl 0 rfl) ?_
            refine lv_aload_n hx hb dX12_fma_101 rfl (lv_at hl 1 rfl) ?_
            refine gf_X12_95 C hP h_a k_a dX12_fma_102 ?_
            obtain ⟨t31, et31, hf⟩ := bd1_e hf
            obtain ⟨h_t31, k_t31⟩ := wt_r hW h_a k_a (by decide) et31
            have k_t31 : G.2.1 t31 = 14 := k_t31
            rw [et31]
            refine lv_iconst (v := 4) hx hb dX12_fma_105 rfl ?_
            refine lv_iload hx hb dX12_fma_106 (lv_at hl 5 rfl) ?_
            refine lv_iadd hx hb dX12_fma_108 ?_
            obtain ⟨h32, hf⟩ := if_s hf
            refine x_iald C hP h_t31 k_t31 h32 dX12_fma_109 ?_
            refine lv_i2l hx hb dX12_fma_110 rfl ?_
            obtain ⟨h33, hf⟩ := if_s hf
            obtain ⟨S34, eS34, hf⟩ := bnd_e hf
            refine x_last C hP hS h_t30 k_t30 h33 eS34 dX12_fma_111 (fun H locs hP hS => ?_)
            have hW : WT G S34 := by rw [eS34]; exact hW
            refine lv_aload_n hx hb dX12_fma_112 rfl (lv_at hl 1 rfl) ?_
            refine lv_iconst (v := 0) hx hb dX12_fma_113 rfl ?_
            refine lv_iload_n hx hb dX12_fma_114 rfl (lv_at hl 2 rfl) ?_
            refine lv_iload_n hx hb dX12_fma_115 rfl (lv_at hl 3 rfl) ?_
            refine lv_iload_n hx hb dX12_fma_116 rfl (lv_at hl 4 rfl) ?_
            refine lv_iload hx hb dX12_fma_117 (lv_at hl 5 rfl) ?_
            obtain ⟨S35, eS35, hf⟩ := bd1_e hf
            refine x_aft_v (x_runV (As := [.int 0, .int p0, .int p1, .int p2, .int p3]) (rest := []) C hP hS (c_X12_multiplies (l := l) C.2.2.2.2.2.2.2.2.2.1 hW h_a k_a eS35 H.size) h_a k_a (by decide) rfl rfl km_X12_multiplies ki_X12_multiplies qm_X12_382 ⟨(Nat.le_of_ble_eq_true rfl), (Nat.le_of_ble_eq_true rfl)⟩ rfl hl.1 rfl (Nat.le_of_ble_eq_true rfl) ⟨Nat.zero_le _, Nat.zero_le _⟩ dX12_fma_119) hS (fun H locs hP hS hW => ?_)
            refine lv_aload_n hx hb dX12_fma_122 rfl (lv_at hl 1 rfl) ?_
            refine gf_X12_105 C hP h_a k_a dX12_fma_123 ?_
            obtain ⟨t36, et36, hf⟩ := bd1_e hf
            obtain ⟨h_t36, k_t36⟩ := wt_r hW h_a k_a (by decide) et36
            have k_t36 : G.2.1 t36 = 15 := k_t36
            rw [et36]
            refine lv_iload hx hb dX12_fma_126 (lv_at hl 0 rfl) ?_
            refine lv_dup2_11 hx hb dX12_fma_128 rfl rfl ?_
            obtain ⟨h37, hf⟩ := if_s hf
            refine x_lald C hP h_t36 k_t36 h37 dX12_fma_129 ?_
            refine lv_ldc2 (v := 134217728) hx hb C.2.2.2.2.1 (C.2.2.2.2.2.1 _ qc_X12_373) dX12_fma_130 ?_
            refine lv_aload_n hx hb dX12_fma_133 rfl (lv_at hl 1 rfl) ?_
            refine gf_X12_95 C hP h_a k_a dX12_fma_134 ?_
            obtain ⟨t38, et38, hf⟩ := bd1_e hf
            obtain ⟨h_t38, k_t38⟩ := wt_r hW h_a k_a (by decide) et38
            have k_t38 : G.2.1 t38 = 14 := k_t38
            rw [et38]
            refine lv_iconst (v := 4) hx hb dX12_fma_137 rfl ?_
            refine lv_iload_n hx hb dX12_fma_138 rfl (lv_at hl 2 rfl) ?_
            refine lv_iadd hx hb dX12_fma_139 ?_
            obtain ⟨h39, hf⟩ := if_s hf
            refine x_iald C hP h_t38 k_t38 h39 dX12_fma_140 ?_
            refine lv_i2l hx hb dX12_fma_141 rfl ?_
            refine lv_lmul hx hb dX12_fma_142 ?_
            refine lv_ladd hx hb dX12_fma_143 ?_
            obtain ⟨h40, hf⟩ := if_s hf
            obtain ⟨S41, eS41, hf⟩ := bnd_e hf
            refine x_last C hP hS h_t36 k_t36 h40 eS41 dX12_fma_144 (fun H locs hP hS => ?_)
            have hW : WT G S41 := by rw [eS41]; exact hW
            refine lv_aload_n hx hb dX12_fma_145 rfl (lv_at hl 1 rfl) ?_
            refine gf_X12_95 C hP h_a k_a dX12_fma_146 ?_
            obtain ⟨t42, et42, hf⟩ := bd1_e hf
            obtain ⟨h_t42, k_t42⟩ := wt_r hW h_a k_a (by decide) et42
            have k_t42 : G.2.1 t42 = 14 := k_t42
            rw [et42]
            refine lv_iconst (v := 3) hx hb dX12_fma_149 rfl ?_
            refine lv_dup2_11 hx hb dX12_fma_150 rfl rfl ?_
            obtain ⟨h43, hf⟩ := if_s hf
            refine x_iald C hP h_t42 k_t42 h43 dX12_fma_151 ?_
            refine lv_iconst (v := 1) hx hb dX12_fma_152 rfl ?_
            refine lv_iadd hx hb dX12_fma_153 ?_
            obtain ⟨h44, hf⟩ := if_s hf
            obtain ⟨S45, eS45, hf⟩ := bnd_e hf
            refine x_iast C hP hS h_t42 k_t42 h44 eS45 dX12_fma_154 (fun H locs hP hS => ?_)
            have hW : WT G S45 := by rw [eS45]; exact hW
            refine lv_aload_n hx hb dX12_fma_155 rfl (lv_at hl 1 rfl) ?_
            refine gf_X12_315 C hP h_a k_a dX12_fma_156 ?_
            cases hf
            exact x_reti C hP hS hW dX12_fma_159
          · have hf := if_t c15 hf
            refine lv_iconst (v := (-1)) hx hb dX12_fma_45 rfl ?_
            cases hf
            exact x_reti C hP hS hW dX12_fma_46
def s_X12_isForm (N : Nat → Nat) (a : Nat) (p0 : Int32) (S : HS) : Option Int32 :=
  if p0 < (0 : Int32) then
  some 0
  else
  bd1 (s_X12_forms N a S) fun r2 =>
  if r2 ≤ p0 then
  some 0
  else
  some 1
set_option maxRecDepth 100000 in
set_option maxHeartbeats 4000000 in
theorem c_X12_isForm {l : Launch} {V : EV} {G : GS} {S : HS} {a : Nat} {p0 : Int32} {r : Int32} (hN : G.1.Nodup) (hW : WT G S) (h_a : a ∈ G.1) (k_a : G.2.1 a = 12) (hf : s_X12_isForm G.2.2 a p0 S = some r) : MetZ l yX12_isForm cX12_isForm 2 1 28 V G S [.ref a, .int p0] r S := by
  intro sz
  refine x_in RX12 rfl (by decide +kernel) hN (Nat.le_of_ble_eq_true rfl) (fun p e s m args below meth c ls hsz hargs hnm C hP hS hl => ?_)
  subst hsz
  have hx := C.1
  have hb := C.2.1
  have hl : lv_has ls 2 [(0, .ref a), (1, .int p0)] := hl
  unfold s_X12_isForm at hf
  refine lv_iload_n hx hb dX12_isForm_0 rfl (lv_at hl 1 rfl) ?_
  refine lv_if_lt (tgt := 16) hx hb dX12_isForm_1 (by decide) (fun c1 => ?_) (fun c1 => ?_)
  · have hf := if_t c1 hf
    refine lv_iconst (v := 0) hx hb dX12_isForm_16 rfl ?_
    cases hf
    exact x_retZ C hP hS hW isZ_0 dX12_isForm_17
  · have hf := if_f c1 hf
    refine lv_iload_n hx hb dX12_isForm_4 rfl (lv_at hl 1 rfl) ?_
    refine lv_aload_n hx hb dX12_isForm_5 rfl (lv_at hl 0 rfl) ?_
    obtain ⟨r2, er2, hf⟩ := bd1_e hf
    refine x_aft_i (x_runV (As := []) (rest := [.int p0]) C hP hS (c_X12_forms (l := l) C.2.2.2.2.2.2.2.2.2.1 hW h_a k_a er2 s.heap.size) h_a k_a (by decide) rfl rfl km_X12_forms ki_X12_forms qm_X12_219 ⟨(Nat.le_of_ble_eq_true rfl), (Nat.le_of_ble_eq_true rfl)⟩ rfl hl.1 rfl (Nat.le_of_ble_eq_true rfl) ⟨Nat.zero_le _, Nat.zero_le _⟩ dX12_isForm_6) hS (fun H locs hP hS hW => ?_)
    refine lv_icmp_ge (tgt := 16) hx hb dX12_isForm_9 (by decide) (fun c3 => ?_) (fun c3 => ?_)
    · have hf := if_t c3 hf
      refine lv_iconst (v := 0) hx hb dX12_isForm_16 rfl ?_
      cases hf
      exact x_retZ C hP hS hW isZ_0 dX12_isForm_17
    · have hf := if_f c3 hf
      refine lv_iconst (v := 1) hx hb dX12_isForm_12 rfl ?_
      refine lv_goto (tgt := 17) hx hb dX12_isForm_13 (by decide) ?_
      cases hf
      exact x_retZ C hP hS hW isZ_1 dX12_isForm_17
def s_X12_form (N : Nat → Nat) (a : Nat) (p0 : Int32) (p1 : Int32) (S : HS) : Option (Int32 × HS) :=
  bnd (uI S 1200 a 0) fun S1 =>
  bd1 (s_X12_isForm N a p0 S1) fun r2 =>
  if r2 = (0 : Int32) then
  some ((-1), S1)
  else
  if p1 = 0 then
  bd1 (s_X12_kindOf N a p0 S1) fun r6 =>
  some (r6, S1)
  else
  if p1 = 1 then
  bd1 (s_X12_expOf N a p0 S1) fun r8 =>
  some (r8, S1)
  else
  if p1 = 2 then
  bd1 (s_X12_fracOf N a p0 S1) fun r10 =>
  some (r10, S1)
  else
  if p1 = 3 then
  bd1 (s_X12_biasOf N a p0 S1) fun r12 =>
  some (r12, S1)
  else
  if p1 = 4 then
  bd1 (s_X12_greatestOf N a p0 S1) fun r14 =>
  some (r14, S1)
  else
  if p1 = 5 then
  bd1 (s_X12_nanOf N a p0 S1) fun r16 =>
  some (r16, S1)
  else
  some ((-1), S1)
set_option maxRecDepth 100000 in
set_option maxHeartbeats 4000000 in
theorem c_X12_form {l : Launch} {V : EV} {G : GS} {S : HS} {a : Nat} {p0 : Int32} {p1 : Int32} {r : Int32} {S' : HS} (hN : G.1.Nodup) (hW : WT G S) (h_a : a ∈ G.1) (k_a : G.2.1 a = 12) (hf : s_X12_form G.2.2 a p0 p1 S = some (r, S')) : MetI l yX12_form cX12_form 3 .int 4 116 V G S [.ref a, .int p0, .int p1] r S' := by
  intro sz
  refine x_in RX12 rfl (by decide +kernel) hN (Nat.le_of_ble_eq_true rfl) (fun p e s m args below meth c ls hsz hargs hnm C hP hS hl => ?_)
  subst hsz
  have hx := C.1
  have hb := C.2.1
  have hl : lv_has ls 3 [(0, .ref a), (1, .int p0), (2, .int p1)] := hl
  unfold s_X12_form at hf
  refine lv_aload_n hx hb dX12_form_0 rfl (lv_at hl 0 rfl) ?_
  refine lv_iconst (v := 0) hx hb dX12_form_1 rfl ?_
  obtain ⟨S1, eS1, hf⟩ := bnd_e hf
  refine pf_X12_1 C hP hS h_a k_a eS1 dX12_form_2 (fun H locs hP hS => ?_)
  have hW : WT G S1 := by rw [eS1]; exact hW
  refine lv_aload_n hx hb dX12_form_5 rfl (lv_at hl 0 rfl) ?_
  refine lv_iload_n hx hb dX12_form_6 rfl (lv_at hl 1 rfl) ?_
  obtain ⟨r2, er2, hf⟩ := bd1_e hf
  refine x_aft_z (x_runV (As := [.int p0]) (rest := []) C hP hS (c_X12_isForm (l := l) C.2.2.2.2.2.2.2.2.2.1 hW h_a k_a er2 H.size) h_a k_a (by decide) rfl rfl km_X12_isForm ki_X12_isForm qm_X12_354 ⟨(Nat.le_of_ble_eq_true rfl), (Nat.le_of_ble_eq_true rfl)⟩ rfl hl.1 rfl (Nat.le_of_ble_eq_true rfl) ⟨Nat.zero_le _, Nat.zero_le _⟩ dX12_form_7) hS (fun H locs hP hS hW z3 => ?_)
  refine lv_if_ne (tgt := 15) hx hb dX12_form_10 (by decide) (fun c4 => ?_) (fun c4 => ?_)
  · have hf := if_f c4 hf
    refine lv_iload_n hx hb dX12_form_15 rfl (lv_at hl 2 rfl) ?_
    by_cases c5 : p1 = 0
    · have hf := if_t c5 hf
      refine lv_tableIn (tgt := 56) (off := 40) hx hb dX12_form_16 (by rw [c5]; decide) (by rw [c5]; decide) (by rw [c5]; rfl) (by decide) ?_
      refine lv_aload_n hx hb dX12_form_56 rfl (lv_at hl 0 rfl) ?_
      refine lv_iload_n hx hb dX12_form_57 rfl (lv_at hl 1 rfl) ?_
      obtain ⟨r6, er6, hf⟩ := bd1_e hf
      refine x_aft_i (x_runV (As := [.int p0]) (rest := []) C hP hS (c_X12_kindOf (l := l) C.2.2.2.2.2.2.2.2.2.1 hW h_a k_a er6 H.size) h_a k_a (by decide) rfl rfl km_X12_kindOf ki_X12_kindOf qm_X12_249 ⟨(Nat.le_of_ble_eq_true rfl), (Nat.le_of_ble_eq_true rfl)⟩ rfl hl.1 rfl (Nat.le_of_ble_eq_true rfl) ⟨Nat.zero_le _, Nat.zero_le _⟩ dX12_form_58) hS (fun H locs hP hS hW => ?_)
      cases hf
      exact x_reti C hP hS hW dX12_form_61
    have hf := if_f c5 hf
    by_cases c7 : p1 = 1
    · have hf := if_t c7 hf
      refine lv_tableIn (tgt := 62) (off := 46) hx hb dX12_form_16 (by rw [c7]; decide) (by rw [c7]; decide) (by rw [c7]; rfl) (by decide) ?_
      refine lv_aload_n hx hb dX12_form_62 rfl (lv_at hl 0 rfl) ?_
      refine lv_iload_n hx hb dX12_form_63 rfl (lv_at hl 1 rfl) ?_
      obtain ⟨r8, er8, hf⟩ := bd1_e hf
      refine x_aft_i (x_runV (As := [.int p0]) (rest := []) C hP hS (c_X12_expOf (l := l) C.2.2.2.2.2.2.2.2.2.1 hW h_a k_a er8 H.size) h_a k_a (by decide) rfl rfl km_X12_expOf ki_X12_expOf qm_X12_246 ⟨(Nat.le_of_ble_eq_true rfl), (Nat.le_of_ble_eq_true rfl)⟩ rfl hl.1 rfl (Nat.le_of_ble_eq_true rfl) ⟨Nat.zero_le _, Nat.zero_le _⟩ dX12_form_64) hS (fun H locs hP hS hW => ?_)
      cases hf
      exact x_reti C hP hS hW dX12_form_67
    have hf := if_f c7 hf
    by_cases c9 : p1 = 2
    · have hf := if_t c9 hf
      refine lv_tableIn (tgt := 68) (off := 52) hx hb dX12_form_16 (by rw [c9]; decide) (by rw [c9]; decide) (by rw [c9]; rfl) (by decide) ?_
      refine lv_aload_n hx hb dX12_form_68 rfl (lv_at hl 0 rfl) ?_
      refine lv_iload_n hx hb dX12_form_69 rfl (lv_at hl 1 rfl) ?_
      obtain ⟨r10, er10, hf⟩ := bd1_e hf
      refine x_aft_i (x_runV (As := [.int p0]) (rest := []) C hP hS (c_X12_fracOf (l := l) C.2.2.2.2.2.2.2.2.2.1 hW h_a k_a er10 H.size) h_a k_a (by decide) rfl rfl km_X12_fracOf ki_X12_fracOf qm_X12_255 ⟨(Nat.le_of_ble_eq_true rfl), (Nat.le_of_ble_eq_true rfl)⟩ rfl hl.1 rfl (Nat.le_of_ble_eq_true rfl) ⟨Nat.zero_le _, Nat.zero_le _⟩ dX12_form_70) hS (fun H locs hP hS hW => ?_)
      cases hf
      exact x_reti C hP hS hW dX12_form_73
    have hf := if_f c9 hf
    by_cases c11 : p1 = 3
    · have hf := if_t c11 hf
      refine lv_tableIn (tgt := 74) (off := 58) hx hb dX12_form_16 (by rw [c11]; decide) (by rw [c11]; decide) (by rw [c11]; rfl) (by decide) ?_
      refine lv_aload_n hx hb dX12_form_74 rfl (lv_at hl 0 rfl) ?_
      refine lv_iload_n hx hb dX12_form_75 rfl (lv_at hl 1 rfl) ?_
      obtain ⟨r12, er12, hf⟩ := bd1_e hf
      refine x_aft_i (x_runV (As := [.int p0]) (rest := []) C hP hS (c_X12_biasOf (l := l) C.2.2.2.2.2.2.2.2.2.1 hW h_a k_a er12 H.size) h_a k_a (by decide) rfl rfl km_X12_biasOf ki_X12_biasOf qm_X12_264 ⟨(Nat.le_of_ble_eq_true rfl), (Nat.le_of_ble_eq_true rfl)⟩ rfl hl.1 rfl (Nat.le_of_ble_eq_true rfl) ⟨Nat.zero_le _, Nat.zero_le _⟩ dX12_form_76) hS (fun H locs hP hS hW => ?_)
      cases hf
      exact x_reti C hP hS hW dX12_form_79
    have hf := if_f c11 hf
    by_cases c13 : p1 = 4
    · have hf := if_t c13 hf
      refine lv_tableIn (tgt := 80) (off := 64) hx hb dX12_form_16 (by rw [c13]; decide) (by rw [c13]; decide) (by rw [c13]; rfl) (by decide) ?_
      refine lv_aload_n hx hb dX12_form_80 rfl (lv_at hl 0 rfl) ?_
      refine lv_iload_n hx hb dX12_form_81 rfl (lv_at hl 1 rfl) ?_
      obtain ⟨r14, er14, hf⟩ := bd1_e hf
      refine x_aft_i (x_runV (As := [.int p0]) (rest := []) C hP hS (c_X12_greatestOf (l := l) C.2.2.2.2.2.2.2.2.2.1 hW h_a k_a er14 H.size) h_a k_a (by decide) rfl rfl km_X12_greatestOf ki_X12_greatestOf qm_X12_327 ⟨(Nat.le_of_ble_eq_true rfl), (Nat.le_of_ble_eq_true rfl)⟩ rfl hl.1 rfl (Nat.le_of_ble_eq_true rfl) ⟨Nat.zero_le _, Nat.zero_le _⟩ dX12_form_82) hS (fun H locs hP hS hW => ?_)
      cases hf
      exact x_reti C hP hS hW dX12_form_85
    have hf := if_f c13 hf
    by_cases c15 : p1 = 5
    · have hf := if_t c15 hf
      refine lv_tableIn (tgt := 86) (off := 70) hx hb dX12_form_16 (by rw [c15]; decide) (by rw [c15]; decide) (by rw [c15]; rfl) (by decide) ?_
      refine lv_aload_n hx hb dX12_form_86 rfl (lv_at hl 0 rfl) ?_
      refine lv_iload_n hx hb dX12_form_87 rfl (lv_at hl 1 rfl) ?_
      obtain ⟨r16, er16, hf⟩ := bd1_e hf
      refine x_aft_i (x_runV (As := [.int p0]) (rest := []) C hP hS (c_X12_nanOf (l := l) C.2.2.2.2.2.2.2.2.2.1 hW h_a k_a er16 H.size) h_a k_a (by decide) rfl rfl km_X12_nanOf ki_X12_nanOf qm_X12_344 ⟨(Nat.le_of_ble_eq_true rfl), (Nat.le_of_ble_eq_true rfl)⟩ rfl hl.1 rfl (Nat.le_of_ble_eq_true rfl) ⟨Nat.zero_le _, Nat.zero_le _⟩ dX12_form_88) hS (fun H locs hP hS hW => ?_)
      cases hf
      exact x_reti C hP hS hW dX12_form_91
    have hf := if_f c15 hf
    refine lv_tableOut (tgt := 92) hx hb dX12_form_16 (sw_out (fun k h1 h2 e9 => by
      rcases (show k = 0 ∨ k = 1 ∨ k = 2 ∨ k = 3 ∨ k = 4 ∨ k = 5 by omega) with rfl | rfl | rfl | rfl | rfl | rfl
      · exact c5 e9
      · exact c7 e9
      · exact c9 e9
      · exact c11 e9
      · exact c13 e9
      · exact c15 e9
      )) (by decide) ?_
    refine lv_iconst (v := (-1)) hx hb dX12_form_92 rfl ?_
    cases hf
    exact x_reti C hP hS hW dX12_form_93
  · have hf := if_t c4 hf
    refine lv_iconst (v := (-1)) hx hb dX12_form_13 rfl ?_
    cases hf
    exact x_reti C hP hS hW dX12_form_14
def s_X12_isPlaced (N : Nat → Nat) (a : Nat) (p0 : Int32) (S : HS) : Option Int32 :=
  bd1 (s_X12_used N a S) fun r1 =>
  bd1 (s_X12_sumClass N a r1 p0 S) fun r2 =>
  if r2 = (1 : Int32) then
  some 1
  else
  if r2 = (2 : Int32) then
  some 1
  else
  some 0
set_option maxRecDepth 100000 in
set_option maxHeartbeats 4000000 in
theorem c_X12_isPlaced {l : Launch} {V : EV} {G : GS} {S : HS} {a : Nat} {p0 : Int32} {r : Int32} (hN : G.1.Nodup) (hW : WT G S) (h_a : a ∈ G.1) (k_a : G.2.1 a = 12) (hf : s_X12_isPlaced G.2.2 a p0 S = some r) : MetZ l yX12_isPlaced cX12_isPlaced 3 6 181 V G S [.ref a, .int p0] r S := by
  intro sz
  refine x_in RX12 rfl (by decide +kernel) hN (Nat.le_of_ble_eq_true rfl) (fun p e s m args below meth c ls hsz hargs hnm C hP hS hl => ?_)
  subst hsz
  have hx := C.1
  have hb := C.2.1
  have hl : lv_has ls 3 [(0, .ref a), (1, .int p0)] := hl
  unfold s_X12_isPlaced at hf
  refine lv_aload_n hx hb dX12_isPlaced_0 rfl (lv_at hl 0 rfl) ?_
  refine lv_aload_n hx hb dX12_isPlaced_1 rfl (lv_at hl 0 rfl) ?_
  obtain ⟨r1, er1, hf⟩ := bd1_e hf
  refine x_aft_i (x_runV (As := []) (rest := [.ref a]) C hP hS (c_X12_used (l := l) C.2.2.2.2.2.2.2.2.2.1 hW h_a k_a er1 s.heap.size) h_a k_a (by decide) rfl rfl km_X12_used ki_X12_used qm_X12_357 ⟨(Nat.le_of_ble_eq_true rfl), (Nat.le_of_ble_eq_true rfl)⟩ rfl hl.1 rfl (Nat.le_of_ble_eq_true rfl) ⟨Nat.zero_le _, Nat.zero_le _⟩ dX12_isPlaced_2) hS (fun H locs hP hS hW => ?_)
  refine lv_iload_n hx hb dX12_isPlaced_5 rfl (lv_at hl 1 rfl) ?_
  obtain ⟨r2, er2, hf⟩ := bd1_e hf
  refine x_aft_i (x_runV (As := [.int r1, .int p0]) (rest := []) C hP hS (c_X12_sumClass (l := l) C.2.2.2.2.2.2.2.2.2.1 hW h_a k_a er2 H.size) h_a k_a (by decide) rfl rfl km_X12_sumClass ki_X12_sumClass qm_X12_341 ⟨(Nat.le_of_ble_eq_true rfl), (Nat.le_of_ble_eq_true rfl)⟩ rfl hl.1 rfl (Nat.le_of_ble_eq_true rfl) ⟨Nat.zero_le _, Nat.zero_le _⟩ dX12_isPlaced_6) hS (fun H locs hP hS hW => ?_)
  refine lv_istore_n (lv' := [(2, .int r2), (0, .ref a), (1, .int p0)]) hx hb dX12_isPlaced_9 rfl hl (by decide) rfl (fun ls hl => ?_)
  refine lv_iload_n hx hb dX12_isPlaced_10 rfl (lv_at hl 0 rfl) ?_
  refine lv_iconst (v := 1) hx hb dX12_isPlaced_11 rfl ?_
  refine lv_icmp_eq (tgt := 20) hx hb dX12_isPlaced_12 (by decide) (fun c3 => ?_) (fun c3 => ?_)
  · have hf := if_t c3 hf
    refine lv_iconst (v := 1) hx hb dX12_isPlaced_20 rfl ?_
    refine lv_goto (tgt := 25) hx hb dX12_isPlaced_21 (by decide) ?_
    cases hf
    exact x_retZ C hP hS hW isZ_1 dX12_isPlaced_25
  · have hf := if_f c3 hf
    refine lv_iload_n hx hb dX12_isPlaced_15 rfl (lv_at hl 0 rfl) ?_
    refine lv_iconst (v := 2) hx hb dX12_isPlaced_16 rfl ?_
    refine lv_icmp_ne (tgt := 24) hx hb dX12_isPlaced_17 (by decide) (fun c4 => ?_) (fun c4 => ?_)
    · have hf := if_f c4 hf
      refine lv_iconst (v := 0) hx hb dX12_isPlaced_24 rfl ?_
      cases hf
      exact x_retZ C hP hS hW isZ_0 dX12_isPlaced_25
    · have hf := if_t c4 hf
      refine lv_iconst (v := 1) hx hb dX12_isPlaced_20 rfl ?_
      refine lv_goto (tgt := 25) hx hb dX12_isPlaced_21 (by decide) ?_
      cases hf
      exact x_retZ C hP hS hW isZ_1 dX12_isPlaced_25
def s_X12_gap_J40 (N : Nat → Nat) (v0 : Nat) (v1 : Int32) (v2 : Int32) (v3 : Int32) (w0 : Nat) (w1 : Int32) (S : HS) : Option (Int32 × HS) :=
  bnd (uI S 1200 w0 w1) fun S4 =>
  if (gI S4 1200 v0) ≤ (0 : Int32) then
  bd1 (s_X12_used N v0 S4) fun r6 =>
  bd1 (s_X12_placeOf N v0 r6 v1 S4) fun r7 =>
  bd1 (s_X12_used N v0 S4) fun r8 =>
  bd1 (s_X12_placeOf N v0 r8 v2 S4) fun r9 =>
  bd1 (s_X12_used N v0 S4) fun r10 =>
  bd1 (s_X12_placeOf N v0 r10 v3 S4) fun r11 =>
  some ((r7 + r9) - r11, S4)
  else
  some (0, S4)
def s_X12_gap (N : Nat → Nat) (a : Nat) (p0 : Int32) (p1 : Int32) (p2 : Int32) (S : HS) : Option (Int32 × HS) :=
  bd1 (s_X12_areBits N a p0 p1 p2 S) fun r1 =>
  if r1 = (0 : Int32) then
  s_X12_gap_J40 N a p0 p1 p2 a 1 S
  else
  bd1 (s_X12_isPlaced N a p0 S) fun r12 =>
  if r12 = (0 : Int32) then
  s_X12_gap_J40 N a p0 p1 p2 a 1 S
  else
  bd1 (s_X12_isPlaced N a p1 S) fun r15 =>
  if r15 = (0 : Int32) then
  s_X12_gap_J40 N a p0 p1 p2 a 1 S
  else
  bd1 (s_X12_isPlaced N a p2 S) fun r18 =>
  if r18 = (0 : Int32) then
  s_X12_gap_J40 N a p0 p1 p2 a 1 S
  else
  s_X12_gap_J40 N a p0 p1 p2 a 0 S
set_option maxRecDepth 100000 in
set_option maxHeartbeats 4000000 in
theorem b_X12_gap_40 {p : Program} {l : Launch} {e : Env} {s : State} {m : MethodId} {args : Array Value} {below : List Frame} {meth : Method} {c : Code} {V : EV} {G : GS} {r : Int32} {S' : HS} (C : CX p s m args meth c RX12 cX12_gap 4 (some .int) V G) : ∀ (v0 : Nat) (v1 : Int32) (v2 : Int32) (v3 : Int32) (w0 : Nat) (w1 : Int32) (h_v0 : v0 ∈ G.1) (k_v0 : G.2.1 v0 = 12) (h_w0 : w0 ∈ G.1) (k_w0 : G.2.1 w0 = 12) (S : HS) (H : Heap) (locs : List Loc) (ls : Array Slot), s_X12_gap_J40 G.2.2 v0 v1 v2 v3 w0 w1 S = some (r, S') → HP V G S H → va_S (AG G s.heap.size) s.heap H locs → WT G S → lv_has ls 4 [(0, .ref v0), (1, .int v1), (2, .int v2), (3, .int v3)] → W p l e (RM 7 211) s m args below meth c H locs 0 0 (MQ below (QI V G S' r s.heap.size) args s 0 0 (AG G s.heap.size)) (F0 m 40 ls [.int w1, .ref w0]) := by
  intro v0 v1 v2 v3 w0 w1 h_v0 k_v0 h_w0 k_w0 S H locs ls hf hP hS hW hl
  have hx := C.1
  have hb := C.2.1
  unfold s_X12_gap_J40 at hf
  obtain ⟨S4, eS4, hf⟩ := bnd_e hf
  refine pf_X12_1 C hP hS h_w0 k_w0 eS4 dX12_gap_40 (fun H locs hP hS => ?_)
  have hW : WT G S4 := by rw [eS4]; exact hW
  refine lv_aload_n hx hb dX12_gap_43 rfl (lv_at hl 0 rfl) ?_
  refine gf_X12_1 C hP h_v0 k_v0 dX12_gap_44 ?_
  refine lv_if_le (tgt := 54) hx hb dX12_gap_47 (by decide) (fun c5 => ?_) (fun c5 => ?_)
  · have hf := if_t c5 hf
    refine lv_aload_n hx hb dX12_gap_54 rfl (lv_at hl 0 rfl) ?_
    refine lv_aload_n hx hb dX12_gap_55 rfl (lv_at hl 0 rfl) ?_
    obtain ⟨r6, er6, hf⟩ := bd1_e hf
    refine x_aft_i (x_runV (As := []) (rest := [.ref v0]) C hP hS (c_X12_used (l := l) C.2.2.2.2.2.2.2.2.2.1 hW h_v0 k_v0 er6 H.size) h_v0 k_v0 (by decide) rfl rfl km_X12_used ki_X12_used qm_X12_357 ⟨(Nat.le_of_ble_eq_true rfl), (Nat.le_of_ble_eq_true rfl)⟩ rfl hl.1 rfl (Nat.le_of_ble_eq_true rfl) ⟨Nat.zero_le _, Nat.zero_le _⟩ dX12_gap_56) hS (fun H locs hP hS hW => ?_)
    refine lv_iload_n hx hb dX12_gap_59 rfl (lv_at hl 1 rfl) ?_
    obtain ⟨r7, er7, hf⟩ := bd1_e hf
    refine x_aft_i (x_runV (As := [.int r6, .int v1]) (rest := []) C hP hS (c_X12_placeOf (l := l) C.2.2.2.2.2.2.2.2.2.1 hW h_v0 k_v0 er7 H.size) h_v0 k_v0 (by decide) rfl rfl km_X12_placeOf ki_X12_placeOf qm_X12_351 ⟨(Nat.le_of_ble_eq_true rfl), (Nat.le_of_ble_eq_true rfl)⟩ rfl hl.1 rfl (Nat.le_of_ble_eq_true rfl) ⟨Nat.zero_le _, Nat.zero_le _⟩ dX12_gap_60) hS (fun H locs hP hS hW => ?_)
    refine lv_aload_n hx hb dX12_gap_63 rfl (lv_at hl 0 rfl) ?_
    refine lv_aload_n hx hb dX12_gap_64 rfl (lv_at hl 0 rfl) ?_
    obtain ⟨r8, er8, hf⟩ := bd1_e hf
    refine x_aft_i (x_runV (As := []) (rest := [.ref v0, .int r7]) C hP hS (c_X12_used (l := l) C.2.2.2.2.2.2.2.2.2.1 hW h_v0 k_v0 er8 H.size) h_v0 k_v0 (by decide) rfl rfl km_X12_used ki_X12_used qm_X12_357 ⟨(Nat.le_of_ble_eq_true rfl), (Nat.le_of_ble_eq_true rfl)⟩ rfl hl.1 rfl (Nat.le_of_ble_eq_true rfl) ⟨Nat.zero_le _, Nat.zero_le _⟩ dX12_gap_65) hS (fun H locs hP hS hW => ?_)
    refine lv_iload_n hx hb dX12_gap_68 rfl (lv_at hl 2 rfl) ?_
    obtain ⟨r9, er9, hf⟩ := bd1_e hf
    refine x_aft_i (x_runV (As := [.int r8, .int v2]) (rest := [.int r7]) C hP hS (c_X12_placeOf (l := l) C.2.2.2.2.2.2.2.2.2.1 hW h_v0 k_v0 er9 H.size) h_v0 k_v0 (by decide) rfl rfl km_X12_placeOf ki_X12_placeOf qm_X12_351 ⟨(Nat.le_of_ble_eq_true rfl), (Nat.le_of_ble_eq_true rfl)⟩ rfl hl.1 rfl (Nat.le_of_ble_eq_true rfl) ⟨Nat.zero_le _, Nat.zero_le _⟩ dX12_gap_69) hS (fun H locs hP hS hW => ?_)
    refine lv_iadd hx hb dX12_gap_72 ?_
    refine lv_aload_n hx hb dX12_gap_73 rfl (lv_at hl 0 rfl) ?_
    refine lv_aload_n hx hb dX12_gap_74 rfl (lv_at hl 0 rfl) ?_
    obtain ⟨r10, er10, hf⟩ := bd1_e hf
    refine x_aft_i (x_runV (As := []) (rest := [.ref v0, .int (r7 + r9)]) C hP hS (c_X12_used (l := l) C.2.2.2.2.2.2.2.2.2.1 hW h_v0 k_v0 er10 H.size) h_v0 k_v0 (by decide) rfl rfl km_X12_used ki_X12_used qm_X12_357 ⟨(Nat.le_of_ble_eq_true rfl), (Nat.le_of_ble_eq_true rfl)⟩ rfl hl.1 rfl (Nat.le_of_ble_eq_true rfl) ⟨Nat.zero_le _, Nat.zero_le _⟩ dX12_gap_75) hS (fun H locs hP hS hW => ?_)
    refine lv_iload_n hx hb dX12_gap_78 rfl (lv_at hl 3 rfl) ?_
    obtain ⟨r11, er11, hf⟩ := bd1_e hf
    refine x_aft_i (x_runV (As := [.int r10, .int v3]) (rest := [.int (r7 + r9)]) C hP hS (c_X12_placeOf (l := l) C.2.2.2.2.2.2.2.2.2.1 hW h_v0 k_v0 er11 H.size) h_v0 k_v0 (by decide) rfl rfl km_X12_placeOf ki_X12_placeOf qm_X12_351 ⟨(Nat.le_of_ble_eq_true rfl), (Nat.le_of_ble_eq_true rfl)⟩ rfl hl.1 rfl (Nat.le_of_ble_eq_true rfl) ⟨Nat.zero_le _, Nat.zero_le _⟩ dX12_gap_79) hS (fun H locs hP hS hW => ?_)
    refine lv_isub hx hb dX12_gap_82 ?_
    cases hf
    exact x_reti C hP hS hW dX12_gap_83
  · have hf := if_f c5 hf
    refine lv_iconst (v := 0) hx hb dX12_gap_50 rfl ?_
    refine lv_goto (tgt := 83) hx hb dX12_gap_51 (by decide) ?_
    cases hf
    exact x_reti C hP hS hW dX12_gap_83
set_option maxRecDepth 100000 in
set_option maxHeartbeats 4000000 in
theorem c_X12_gap {l : Launch} {V : EV} {G : GS} {S : HS} {a : Nat} {p0 : Int32} {p1 : Int32} {p2 : Int32} {r : Int32} {S' : HS} (hN : G.1.Nodup) (hW : WT G S) (h_a : a ∈ G.1) (k_a : G.2.1 a = 12) (hf : s_X12_gap G.2.2 a p0 p1 p2 S = some (r, S')) : MetI l yX12_gap cX12_gap 4 .int 7 211 V G S [.ref a, .int p0, .int p1, .int p2] r S' := by
  intro sz
  refine x_in RX12 rfl (by decide +kernel) hN (Nat.le_of_ble_eq_true rfl) (fun p e s m args below meth c ls hsz hargs hnm C hP hS hl => ?_)
  subst hsz
  have hx := C.1
  have hb := C.2.1
  have hl : lv_has ls 4 [(0, .ref a), (1, .int p0), (2, .int p1), (3, .int p2)] := hl
  unfold s_X12_gap at hf
  refine lv_aload_n hx hb dX12_gap_0 rfl (lv_at hl 0 rfl) ?_
  refine lv_aload_n hx hb dX12_gap_1 rfl (lv_at hl 0 rfl) ?_
  refine lv_iload_n hx hb dX12_gap_2 rfl (lv_at hl 1 rfl) ?_
  refine lv_iload_n hx hb dX12_gap_3 rfl (lv_at hl 2 rfl) ?_
  refine lv_iload_n hx hb dX12_gap_4 rfl (lv_at hl 3 rfl) ?_
  obtain ⟨r1, er1, hf⟩ := bd1_e hf
  refine x_aft_z (x_runV (As := [.int p0, .int p1, .int p2]) (rest := [.ref a]) C hP hS (c_X12_areBits (l := l) C.2.2.2.2.2.2.2.2.2.1 hW h_a k_a er1 s.heap.size) h_a k_a (by decide) rfl rfl km_X12_areBits ki_X12_areBits qm_X12_403 ⟨(Nat.le_of_ble_eq_true rfl), (Nat.le_of_ble_eq_true rfl)⟩ rfl hl.1 rfl (Nat.le_of_ble_eq_true rfl) ⟨Nat.zero_le _, Nat.zero_le _⟩ dX12_gap_5) hS (fun H locs hP hS hW z2 => ?_)
  refine lv_if_eq (tgt := 39) hx hb dX12_gap_8 (by decide) (fun c3 => ?_) (fun c3 => ?_)
  · have hf := if_t c3 hf
    refine lv_iconst (v := 1) hx hb dX12_gap_39 rfl ?_
    exact b_X12_gap_40 C a p0 p1 p2 a 1 h_a k_a h_a k_a S H locs _ hf hP hS hW (lv_sub hl [0, 1, 2, 3] rfl)
  · have hf := if_f c3 hf
    refine lv_aload_n hx hb dX12_gap_11 rfl (lv_at hl 0 rfl) ?_
    refine lv_iload_n hx hb dX12_gap_12 rfl (lv_at hl 1 rfl) ?_
    obtain ⟨r12, er12, hf⟩ := bd1_e hf
    refine x_aft_z (x_runV (As := [.int p0]) (rest := [.ref a]) C hP hS (c_X12_isPlaced (l := l) C.2.2.2.2.2.2.2.2.2.1 hW h_a k_a er12 H.size) h_a k_a (by decide) rfl rfl km_X12_isPlaced ki_X12_isPlaced qm_X12_424 ⟨(Nat.le_of_ble_eq_true rfl), (Nat.le_of_ble_eq_true rfl)⟩ rfl hl.1 rfl (Nat.le_of_ble_eq_true rfl) ⟨Nat.zero_le _, Nat.zero_le _⟩ dX12_gap_13) hS (fun H locs hP hS hW z13 => ?_)
    refine lv_if_eq (tgt := 39) hx hb dX12_gap_16 (by decide) (fun c14 => ?_) (fun c14 => ?_)
    · have hf := if_t c14 hf
      refine lv_iconst (v := 1) hx hb dX12_gap_39 rfl ?_
      exact b_X12_gap_40 C a p0 p1 p2 a 1 h_a k_a h_a k_a S H locs _ hf hP hS hW (lv_sub hl [0, 1, 2, 3] rfl)
    · have hf := if_f c14 hf
      refine lv_aload_n hx hb dX12_gap_19 rfl (lv_at hl 0 rfl) ?_
      refine lv_iload_n hx hb dX12_gap_20 rfl (lv_at hl 2 rfl) ?_
      obtain ⟨r15, er15, hf⟩ := bd1_e hf
      refine x_aft_z (x_runV (As := [.int p1]) (rest := [.ref a]) C hP hS (c_X12_isPlaced (l := l) C.2.2.2.2.2.2.2.2.2.1 hW h_a k_a er15 H.size) h_a k_a (by decide) rfl rfl km_X12_isPlaced ki_X12_isPlaced qm_X12_424 ⟨(Nat.le_of_ble_eq_true rfl), (Nat.le_of_ble_eq_true rfl)⟩ rfl hl.1 rfl (Nat.le_of_ble_eq_true rfl) ⟨Nat.zero_le _, Nat.zero_le _⟩ dX12_gap_21) hS (fun H locs hP hS hW z16 => ?_)
      refine lv_if_eq (tgt := 39) hx hb dX12_gap_24 (by decide) (fun c17 => ?_) (fun c17 => ?_)
      · have hf := if_t c17 hf
        refine lv_iconst (v := 1) hx hb dX12_gap_39 rfl ?_
        exact b_X12_gap_40 C a p0 p1 p2 a 1 h_a k_a h_a k_a S H locs _ hf hP hS hW (lv_sub hl [0, 1, 2, 3] rfl)
      · have hf := if_f c17 hf
        refine lv_aload_n hx hb dX12_gap_27 rfl (lv_at hl 0 rfl) ?_
        refine lv_iload_n hx hb dX12_gap_28 rfl (lv_at hl 3 rfl) ?_
        obtain ⟨r18, er18, hf⟩ := bd1_e hf
        refine x_aft_z (x_runV (As := [.int p2]) (rest := [.ref a]) C hP hS (c_X12_isPlaced (l := l) C.2.2.2.2.2.2.2.2.2.1 hW h_a k_a er18 H.size) h_a k_a (by decide) rfl rfl km_X12_isPlaced ki_X12_isPlaced qm_X12_424 ⟨(Nat.le_of_ble_eq_true rfl), (Nat.le_of_ble_eq_true rfl)⟩ rfl hl.1 rfl (Nat.le_of_ble_eq_true rfl) ⟨Nat.zero_le _, Nat.zero_le _⟩ dX12_gap_29) hS (fun H locs hP hS hW z19 => ?_)
        refine lv_if_eq (tgt := 39) hx hb dX12_gap_32 (by decide) (fun c20 => ?_) (fun c20 => ?_)
        · have hf := if_t c20 hf
          refine lv_iconst (v := 1) hx hb dX12_gap_39 rfl ?_
          exact b_X12_gap_40 C a p0 p1 p2 a 1 h_a k_a h_a k_a S H locs _ hf hP hS hW (lv_sub hl [0, 1, 2, 3] rfl)
        · have hf := if_f c20 hf
          refine lv_iconst (v := 0) hx hb dX12_gap_35 rfl ?_
          refine lv_goto (tgt := 40) hx hb dX12_gap_36 (by decide) ?_
          exact b_X12_gap_40 C a p0 p1 p2 a 0 h_a k_a h_a k_a S H locs _ hf hP hS hW (lv_sub hl [0, 1, 2, 3] rfl)
def s_X12_isHalf (N : Nat → Nat) (F : Nat) (a : Nat) (p0 : Int32) (p1 : Int32) (p2 : Int32) (S : HS) : Option (Int32 × HS) :=
  bd2 (s_X12_sumNow N F a p0 p1 p2 S) fun r1 S2 =>
  if (gI S2 1221 a) = (0 : Int32) then
  some (0, S2)
  else
  if (gI S2 1222 a) = (0 : Int32) then
  some (0, S2)
  else
  if (gI S2 1223 a) = (0 : Int32) then
  some (1, S2)
  else
  some (0, S2)
set_option maxRecDepth 100000 in
set_option maxHeartbeats 4000000 in
theorem c_X12_isHalf {l : Launch} {V : EV} {G : GS} {S : HS} {F : Nat} {a : Nat} {p0 : Int32} {p1 : Int32} {p2 : Int32} {r : Int32} {S' : HS} (hN : G.1.Nodup) (hW : WT G S) (h_a : a ∈ G.1) (k_a : G.2.1 a = 12) (hf : s_X12_isHalf G.2.2 F a p0 p1 p2 S = some (r, S')) : MetZ l yX12_isHalf cX12_isHalf 4 21 706 V G S [.ref a, .int p0, .int p1, .int p2] r S' := by
  intro sz
  refine x_in RX12 rfl (by decide +kernel) hN (Nat.le_of_ble_eq_true rfl) (fun p e s m args below meth c ls hsz hargs hnm C hP hS hl => ?_)
  subst hsz
  have hx := C.1
  have hb := C.2.1
  have hl : lv_has ls 4 [(0, .ref a), (1, .int p0), (2, .int p1), (3, .int p2)] := hl
  unfold s_X12_isHalf at hf
  refine lv_aload_n hx hb dX12_isHalf_0 rfl (lv_at hl 0 rfl) ?_
  refine lv_iload_n hx hb dX12_isHalf_1 rfl (lv_at hl 1 rfl) ?_
  refine lv_iload_n hx hb dX12_isHalf_2 rfl (lv_at hl 2 rfl) ?_
  refine lv_iload_n hx hb dX12_isHalf_3 rfl (lv_at hl 3 rfl) ?_
  obtain ⟨r1, S2, eS2, hf⟩ := bd2_e hf
  refine x_aft_i (x_runV (As := [.int p0, .int p1, .int p2]) (rest := []) C hP hS (c_X12_sumNow (l := l) C.2.2.2.2.2.2.2.2.2.1 hW h_a k_a eS2 s.heap.size) h_a k_a (by decide) rfl rfl km_X12_sumNow ki_X12_sumNow qm_X12_415 ⟨(Nat.le_of_ble_eq_true rfl), (Nat.le_of_ble_eq_true rfl)⟩ rfl hl.1 rfl (Nat.le_of_ble_eq_true rfl) ⟨Nat.zero_le _, Nat.zero_le _⟩ dX12_isHalf_4) hS (fun H locs hP hS hW => ?_)
  refine lv_pop hx hb dX12_isHalf_7 rfl ?_
  refine lv_aload_n hx hb dX12_isHalf_8 rfl (lv_at hl 0 rfl) ?_
  refine gf_X12_312 C hP h_a k_a dX12_isHalf_9 ?_
  refine lv_if_eq (tgt := 33) hx hb dX12_isHalf_12 (by decide) (fun c3 => ?_) (fun c3 => ?_)
  · have hf := if_t c3 hf
    refine lv_iconst (v := 0) hx hb dX12_isHalf_33 rfl ?_
    cases hf
    exact x_retZ C hP hS hW isZ_0 dX12_isHalf_34
  · have hf := if_f c3 hf
    refine lv_aload_n hx hb dX12_isHalf_15 rfl (lv_at hl 0 rfl) ?_
    refine gf_X12_289 C hP h_a k_a dX12_isHalf_16 ?_
    refine lv_if_eq (tgt := 33) hx hb dX12_isHalf_19 (by decide) (fun c4 => ?_) (fun c4 => ?_)
    · have hf := if_t c4 hf
      refine lv_iconst (v := 0) hx hb dX12_isHalf_33 rfl ?_
      cases hf
      exact x_retZ C hP hS hW isZ_0 dX12_isHalf_34
    · have hf := if_f c4 hf
      refine lv_aload_n hx hb dX12_isHalf_22 rfl (lv_at hl 0 rfl) ?_
      refine gf_X12_293 C hP h_a k_a dX12_isHalf_23 ?_
      refine lv_if_ne (tgt := 33) hx hb dX12_isHalf_26 (by decide) (fun c5 => ?_) (fun c5 => ?_)
      · have hf := if_f c5 hf
        refine lv_iconst (v := 0) hx hb dX12_isHalf_33 rfl ?_
        cases hf
        exact x_retZ C hP hS hW isZ_0 dX12_isHalf_34
      · have hf := if_t c5 hf
        refine lv_iconst (v := 1) hx hb dX12_isHalf_29 rfl ?_
        refine lv_goto (tgt := 34) hx hb dX12_isHalf_30 (by decide) ?_
        cases hf
        exact x_retZ C hP hS hW isZ_1 dX12_isHalf_34
