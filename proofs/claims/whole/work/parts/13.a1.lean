theorem SIM.up {N N2 : Nat → Nat} {S S2 : HS} {x m : Nat} {A B : Nat → Nat} {n : Nat} (h : SIM N N2 S S2 x m A B n) : SIM N N2 S S2 x m A B (n + 1) := by
  obtain ⟨b, c, nx, T, hX, hM, hT, hnx⟩ := h
  exact ⟨b, c, nx, T, hX, hM, hT.up, Nat.le_succ_of_le hnx⟩
theorem INV.up {V : EV} {sz x y o n : Nat} {H : Heap} (h : INV V sz x y o n H) : INV V sz x y o (n + 1) H := by
  obtain ⟨GX, GM, SX, SM, A, B, f, hI, hr⟩ := h
  exact ⟨GX, GM, SX, SM, A, B, f, hI.up, hr⟩
theorem disp53 (z : Int32) : (z.toInt < 0 ∨ 52 < z.toInt) ∨ ∃ j : Nat, j ≤ 52 ∧ z = ii (j : Int) := by
  by_cases h : z.toInt < 0 ∨ 52 < z.toInt
  · exact Or.inl h
  · refine Or.inr ⟨z.toInt.toNat, by omega, ?_⟩
    rw [Int.toNat_of_nonneg (by omega), ii_of]
def iN (n : Nat) : Int32 := ii ((7 * n : Nat) : Int)
theorem iN_in {n L : Nat} (h : 7 * n + 7 ≤ L) (hL : L ≤ 3584) (k : Int32) (h1 : 0 ≤ k.toInt) (h2 : k.toInt ≤ 6) : vp_in (iN n + k) L := by
  refine vp_in_iff.mpr ?_
  have e : iN n + k = ii (((7 * n : Nat) : Int) + k.toInt) := by
    have h9 := ii_add ((7 * n : Nat) : Int) k.toInt
    rw [ii_of] at h9
    exact h9
  rw [e, ii_t (by omega) (by omega)]
  omega
theorem iN_up (n : Nat) : iN n + Int32.ofInt 7 = iN (n + 1) := by
  unfold iN
  rw [show Int32.ofInt 7 = ii 7 from rfl, ii_add]
  congr 1
theorem iN_gt {n L : Nat} (hL : L ≤ 3584) (hn : n ≤ 512) (h : ¬ Int32.ofNat L - 7 < iN n) : 7 * n + 7 ≤ L := by
  rw [← ii_nat, show (7 : Int32) = ii 7 from rfl, ii_sub] at h
  unfold iN at h
  rw [ii_lt (by omega) (by omega) (by omega) (by omega)] at h
  omega
section LOOP
variable {p : Program} {l : Launch} {e : Env} {s : State} {m : MethodId} {below : List Frame} {meth : Method} {c : Code} {V : EV} {b L x y o : Nat} {xs : Nat → Int32}
set_option maxRecDepth 100000 in
set_option maxHeartbeats 4000000 in
theorem law_disp {args : Array Value} {H : Heap} {locs : List Loc} {cells slots n : Nat} {Q : State → Prop} {i : Int32} {ls : Array Slot} (hst : l.stackTraces = false) (LC : LCX p s m args meth c V b L xs i n cells slots) (I : INV V s.heap.size x y o n H) (hS : va_S (AG G00 s.heap.size) s.heap H locs) (hl : lv_has ls 7 (LL b x y o i)) (kk : KK p l e s m args below meth c Q V x y o b i n cells slots) (z : Int32) : W p l e room_1 s m args below meth c H locs cells slots Q (F0 m 40 ls [.int z]) := by
  have hx := LC.1.1
  have hb := LC.1.2.1
  rcases disp53 z with h | ⟨j, hj, hz⟩
  · refine lv_tableOut (tgt := 2429) hx hb dL_law_40 h (by decide) ?_
    exact kk _ _ _ _ _ I.up hS hl (Nat.le_add_right _ _) (Nat.le_add_right _ _)
  by_cases c0 : j = 0
  · have z0 : z = 0 := by rw [hz, c0]; rfl
    refine lv_tableIn (tgt := 268) (off := 228) hx hb dL_law_40 (by rw [z0]; decide) (by rw [z0]; decide) (by rw [z0]; rfl) (by decide) ?_
    exact k_feed LC I hS hl kk
  by_cases c1 : j = 1
  · have z0 : z = 1 := by rw [hz, c1]; rfl
    refine lv_tableIn (tgt := 415) (off := 375) hx hb dL_law_40 (by rw [z0]; decide) (by rw [z0]; decide) (by rw [z0]; rfl) (by decide) ?_
    exact k_unit LC I hS hl kk
  by_cases c2 : j = 2
  · have z0 : z = 2 := by rw [hz, c2]; rfl
    refine lv_tableIn (tgt := 428) (off := 388) hx hb dL_law_40 (by rw [z0]; decide) (by rw [z0]; decide) (by rw [z0]; rfl) (by decide) ?_
    exact k_plan LC I hS hl kk
  by_cases c3 : j = 3
  · have z0 : z = 3 := by rw [hz, c3]; rfl
    refine lv_tableIn (tgt := 441) (off := 401) hx hb dL_law_40 (by rw [z0]; decide) (by rw [z0]; decide) (by rw [z0]; rfl) (by decide) ?_
    exact k_form LC I hS hl kk
  by_cases c4 : j = 4
  · have z0 : z = 4 := by rw [hz, c4]; rfl
    refine lv_tableIn (tgt := 478) (off := 438) hx hb dL_law_40 (by rw [z0]; decide) (by rw [z0]; decide) (by rw [z0]; rfl) (by decide) ?_
    exact k_reg LC I hS hl kk
  by_cases c5 : j = 5
  · have z0 : z = 5 := by rw [hz, c5]; rfl
    refine lv_tableIn (tgt := 503) (off := 463) hx hb dL_law_40 (by rw [z0]; decide) (by rw [z0]; decide) (by rw [z0]; rfl) (by decide) ?_
    exact k_set LC I hS hl kk
  by_cases c6 : j = 6
  · have z0 : z = 6 := by rw [hz, c6]; rfl
    refine lv_tableIn (tgt := 540) (off := 500) hx hb dL_law_40 (by rw [z0]; decide) (by rw [z0]; decide) (by rw [z0]; rfl) (by decide) ?_
    exact k_fma LC I hS hl kk
  by_cases c7 : j = 7
  · have z0 : z = 7 := by rw [hz, c7]; rfl
    refine lv_tableIn (tgt := 601) (off := 561) hx hb dL_law_40 (by rw [z0]; decide) (by rw [z0]; decide) (by rw [z0]; rfl) (by decide) ?_
    exact k_mode LC I hS hl kk
  by_cases c8 : j = 8
  · have z0 : z = 8 := by rw [hz, c8]; rfl
    refine lv_tableIn (tgt := 626) (off := 586) hx hb dL_law_40 (by rw [z0]; decide) (by rw [z0]; decide) (by rw [z0]; rfl) (by decide) ?_
    exact k_clear LC I hS hl kk
  by_cases c9 : j = 9
  · have z0 : z = 9 := by rw [hz, c9]; rfl
    refine lv_tableIn (tgt := 639) (off := 599) hx hb dL_law_40 (by rw [z0]; decide) (by rw [z0]; decide) (by rw [z0]; rfl) (by decide) ?_
    exact k_use LC I hS hl kk
  by_cases c10 : j = 10
  · have z0 : z = 10 := by rw [hz, c10]; rfl
    refine lv_tableIn (tgt := 664) (off := 624) hx hb dL_law_40 (by rw [z0]; decide) (by rw [z0]; decide) (by rw [z0]; rfl) (by decide) ?_
    exact k_undo LC I hS hl kk
  by_cases c11 : j = 11
  · have z0 : z = 11 := by rw [hz, c11]; rfl
    refine lv_tableIn (tgt := 677) (off := 637) hx hb dL_law_40 (by rw [z0]; decide) (by rw [z0]; decide) (by rw [z0]; rfl) (by decide) ?_
    exact k_judged LC I hS hl kk
  by_cases c12 : j = 12
  · have z0 : z = 12 := by rw [hz, c12]; rfl
    refine lv_tableIn (tgt := 702) (off := 662) hx hb dL_law_40 (by rw [z0]; decide) (by rw [z0]; decide) (by rw [z0]; rfl) (by decide) ?_
    exact k_sort LC I hS hl kk
  by_cases c13 : j = 13
  · have z0 : z = 13 := by rw [hz, c13]; rfl
    refine lv_tableIn (tgt := 727) (off := 687) hx hb dL_law_40 (by rw [z0]; decide) (by rw [z0]; decide) (by rw [z0]; rfl) (by decide) ?_
    exact k_order LC I hS hl kk
  by_cases c14 : j = 14
  · have z0 : z = 14 := by rw [hz, c14]; rfl
    refine lv_tableIn (tgt := 764) (off := 724) hx hb dL_law_40 (by rw [z0]; decide) (by rw [z0]; decide) (by rw [z0]; rfl) (by decide) ?_
    exact k_above LC I hS hl kk
  by_cases c15 : j = 15
  · have z0 : z = 15 := by rw [hz, c15]; rfl
    refine lv_tableIn (tgt := 789) (off := 749) hx hb dL_law_40 (by rw [z0]; decide) (by rw [z0]; decide) (by rw [z0]; rfl) (by decide) ?_
    exact k_below LC I hS hl kk
  by_cases c16 : j = 16
  · have z0 : z = 16 := by rw [hz, c16]; rfl
    refine lv_tableIn (tgt := 814) (off := 774) hx hb dL_law_40 (by rw [z0]; decide) (by rw [z0]; decide) (by rw [z0]; rfl) (by decide) ?_
    exact k_sum LC I hS hl kk
  by_cases c17 : j = 17
  · have z0 : z = 17 := by rw [hz, c17]; rfl
    refine lv_tableIn (tgt := 875) (off := 835) hx hb dL_law_40 (by rw [z0]; decide) (by rw [z0]; decide) (by rw [z0]; rfl) (by decide) ?_
    exact k_marks LC I hS hl kk
  by_cases c18 : j = 18
  · have z0 : z = 18 := by rw [hz, c18]; rfl
    refine lv_tableIn (tgt := 936) (off := 896) hx hb dL_law_40 (by rw [z0]; decide) (by rw [z0]; decide) (by rw [z0]; rfl) (by decide) ?_
    exact k_exact LC I hS hl kk
  by_cases c19 : j = 19
  · have z0 : z = 19 := by rw [hz, c19]; rfl
    refine lv_tableIn (tgt := 985) (off := 945) hx hb dL_law_40 (by rw [z0]; decide) (by rw [z0]; decide) (by rw [z0]; rfl) (by decide) ?_
    exact k_spread LC I hS hl kk
  by_cases c20 : j = 20
  · have z0 : z = 20 := by rw [hz, c20]; rfl
    refine lv_tableIn (tgt := 1034) (off := 994) hx hb dL_law_40 (by rw [z0]; decide) (by rw [z0]; decide) (by rw [z0]; rfl) (by decide) ?_
    exact k_twice LC I hS hl kk
  by_cases c21 : j = 21
  · have z0 : z = 21 := by rw [hz, c21]; rfl
    refine lv_tableIn (tgt := 1083) (off := 1043) hx hb dL_law_40 (by rw [z0]; decide) (by rw [z0]; decide) (by rw [z0]; rfl) (by decide) ?_
    exact k_remains LC I hS hl kk
  by_cases c22 : j = 22
  · have z0 : z = 22 := by rw [hz, c22]; rfl
    refine lv_tableIn (tgt := 1120) (off := 1080) hx hb dL_law_40 (by rw [z0]; decide) (by rw [z0]; decide) (by rw [z0]; rfl) (by decide) ?_
    exact k_half LC I hS hl kk
  by_cases c23 : j = 23
  · have z0 : z = 23 := by rw [hz, c23]; rfl
    refine lv_tableIn (tgt := 1169) (off := 1129) hx hb dL_law_40 (by rw [z0]; decide) (by rw [z0]; decide) (by rw [z0]; rfl) (by decide) ?_
    exact k_part LC I hS hl kk
  by_cases c24 : j = 24
  · have z0 : z = 24 := by rw [hz, c24]; rfl
    refine lv_tableIn (tgt := 1206) (off := 1166) hx hb dL_law_40 (by rw [z0]; decide) (by rw [z0]; decide) (by rw [z0]; rfl) (by decide) ?_
    exact k_join LC I hS hl kk
  by_cases c25 : j = 25
  · have z0 : z = 25 := by rw [hz, c25]; rfl
    refine lv_tableIn (tgt := 1255) (off := 1215) hx hb dL_law_40 (by rw [z0]; decide) (by rw [z0]; decide) (by rw [z0]; rfl) (by decide) ?_
    exact k_scale LC I hS hl kk
  by_cases c26 : j = 26
  · have z0 : z = 26 := by rw [hz, c26]; rfl
    refine lv_tableIn (tgt := 1292) (off := 1252) hx hb dL_law_40 (by rw [z0]; decide) (by rw [z0]; decide) (by rw [z0]; rfl) (by decide) ?_
    exact k_side LC I hS hl kk
  by_cases c27 : j = 27
  · have z0 : z = 27 := by rw [hz, c27]; rfl
    refine lv_tableIn (tgt := 1353) (off := 1313) hx hb dL_law_40 (by rw [z0]; decide) (by rw [z0]; decide) (by rw [z0]; rfl) (by decide) ?_
    exact k_apart LC I hS hl kk
  by_cases c28 : j = 28
  · have z0 : z = 28 := by rw [hz, c28]; rfl
    refine lv_tableIn (tgt := 1390) (off := 1350) hx hb dL_law_40 (by rw [z0]; decide) (by rw [z0]; decide) (by rw [z0]; rfl) (by decide) ?_
    exact k_poly LC I hS hl kk
  by_cases c29 : j = 29
  · have z0 : z = 29 := by rw [hz, c29]; rfl
    refine lv_tableIn (tgt := 1427) (off := 1387) hx hb dL_law_40 (by rw [z0]; decide) (by rw [z0]; decide) (by rw [z0]; rfl) (by decide) ?_
    exact k_total LC I hS hl kk
  by_cases c30 : j = 30
  · have z0 : z = 30 := by rw [hz, c30]; rfl
    refine lv_tableIn (tgt := 1440) (off := 1400) hx hb dL_law_40 (by rw [z0]; decide) (by rw [z0]; decide) (by rw [z0]; rfl) (by decide) ?_
    exact k_settles LC I hS hl kk
  by_cases c31 : j = 31
  · have z0 : z = 31 := by rw [hz, c31]; rfl
    refine lv_tableIn (tgt := 1501) (off := 1461) hx hb dL_law_40 (by rw [z0]; decide) (by rw [z0]; decide) (by rw [z0]; rfl) (by decide) ?_
    exact k_gap hst LC I hS hl kk
  by_cases c32 : j = 32
  · have z0 : z = 32 := by rw [hz, c32]; rfl
    refine lv_tableIn (tgt := 1581) (off := 1541) hx hb dL_law_40 (by rw [z0]; decide) (by rw [z0]; decide) (by rw [z0]; rfl) (by decide) ?_
    exact k_leads LC I hS hl kk
  by_cases c33 : j = 33
  · have z0 : z = 33 := by rw [hz, c33]; rfl
    refine lv_tableIn (tgt := 1682) (off := 1642) hx hb dL_law_40 (by rw [z0]; decide) (by rw [z0]; decide) (by rw [z0]; rfl) (by decide) ?_
    exact k_off LC I hS hl kk
  by_cases c34 : j = 34
  · have z0 : z = 34 := by rw [hz, c34]; rfl
    refine lv_tableIn (tgt := 1783) (off := 1743) hx hb dL_law_40 (by rw [z0]; decide) (by rw [z0]; decide) (by rw [z0]; rfl) (by decide) ?_
    exact k_whole hst LC I hS hl kk
  by_cases c35 : j = 35
  · have z0 : z = 35 := by rw [hz, c35]; rfl
    refine lv_tableIn (tgt := 1839) (off := 1799) hx hb dL_law_40 (by rw [z0]; decide) (by rw [z0]; decide) (by rw [z0]; rfl) (by decide) ?_
    exact k_of LC I hS hl kk
  by_cases c36 : j = 36
  · have z0 : z = 36 := by rw [hz, c36]; rfl
    refine lv_tableIn (tgt := 1864) (off := 1824) hx hb dL_law_40 (by rw [z0]; decide) (by rw [z0]; decide) (by rw [z0]; rfl) (by decide) ?_
    exact k_into LC I hS hl kk
  by_cases c37 : j = 37
  · have z0 : z = 37 := by rw [hz, c37]; rfl
    refine lv_tableIn (tgt := 1901) (off := 1861) hx hb dL_law_40 (by rw [z0]; decide) (by rw [z0]; decide) (by rw [z0]; rfl) (by decide) ?_
    exact k_exacts LC I hS hl kk
  by_cases c38 : j = 38
  · have z0 : z = 38 := by rw [hz, c38]; rfl
    refine lv_tableIn (tgt := 1938) (off := 1898) hx hb dL_law_40 (by rw [z0]; decide) (by rw [z0]; decide) (by rw [z0]; rfl) (by decide) ?_
    exact k_swallows LC I hS hl kk
  by_cases c39 : j = 39
  · have z0 : z = 39 := by rw [hz, c39]; rfl
    refine lv_tableIn (tgt := 1975) (off := 1935) hx hb dL_law_40 (by rw [z0]; decide) (by rw [z0]; decide) (by rw [z0]; rfl) (by decide) ?_
    exact k_raises LC I hS hl kk
  by_cases c40 : j = 40
  · have z0 : z = 40 := by rw [hz, c40]; rfl
    refine lv_tableIn (tgt := 2024) (off := 1984) hx hb dL_law_40 (by rw [z0]; decide) (by rw [z0]; decide) (by rw [z0]; rfl) (by decide) ?_
    exact k_ties LC I hS hl kk
  by_cases c41 : j = 41
  · have z0 : z = 41 := by rw [hz, c41]; rfl
    refine lv_tableIn (tgt := 2061) (off := 2021) hx hb dL_law_40 (by rw [z0]; decide) (by rw [z0]; decide) (by rw [z0]; rfl) (by decide) ?_
    exact k_root LC I hS hl kk
  by_cases c42 : j = 42
  · have z0 : z = 42 := by rw [hz, c42]; rfl
    refine lv_tableIn (tgt := 2086) (off := 2046) hx hb dL_law_40 (by rw [z0]; decide) (by rw [z0]; decide) (by rw [z0]; rfl) (by decide) ?_
    exact k_inverse LC I hS hl kk
  by_cases c43 : j = 43
  · have z0 : z = 43 := by rw [hz, c43]; rfl
    refine lv_tableIn (tgt := 2111) (off := 2071) hx hb dL_law_40 (by rw [z0]; decide) (by rw [z0]; decide) (by rw [z0]; rfl) (by decide) ?_
    exact k_asked LC I hS hl kk
  by_cases c44 : j = 44
  · have z0 : z = 44 := by rw [hz, c44]; rfl
    refine lv_tableIn (tgt := 2124) (off := 2084) hx hb dL_law_40 (by rw [z0]; decide) (by rw [z0]; decide) (by rw [z0]; rfl) (by decide) ?_
    exact k_often LC I hS hl kk
  by_cases c45 : j = 45
  · have z0 : z = 45 := by rw [hz, c45]; rfl
    refine lv_tableIn (tgt := 2149) (off := 2109) hx hb dL_law_40 (by rw [z0]; decide) (by rw [z0]; decide) (by rw [z0]; rfl) (by decide) ?_
    exact k_times LC I hS hl kk
  by_cases c46 : j = 46
  · have z0 : z = 46 := by rw [hz, c46]; rfl
    refine lv_tableIn (tgt := 2210) (off := 2170) hx hb dL_law_40 (by rw [z0]; decide) (by rw [z0]; decide) (by rw [z0]; rfl) (by decide) ?_
    exact k_results LC I hS hl kk
  by_cases c47 : j = 47
  · have z0 : z = 47 := by rw [hz, c47]; rfl
    refine lv_tableIn (tgt := 2223) (off := 2183) hx hb dL_law_40 (by rw [z0]; decide) (by rw [z0]; decide) (by rw [z0]; rfl) (by decide) ?_
    exact k_see LC I hS hl kk
  by_cases c48 : j = 48
  · have z0 : z = 48 := by rw [hz, c48]; rfl
    refine lv_tableIn (tgt := 2276) (off := 2236) hx hb dL_law_40 (by rw [z0]; decide) (by rw [z0]; decide) (by rw [z0]; rfl) (by decide) ?_
    exact k_fit LC I hS hl kk
  by_cases c49 : j = 49
  · have z0 : z = 49 := by rw [hz, c49]; rfl
    refine lv_tableIn (tgt := 2289) (off := 2249) hx hb dL_law_40 (by rw [z0]; decide) (by rw [z0]; decide) (by rw [z0]; rfl) (by decide) ?_
    exact k_least LC I hS hl kk
  by_cases c50 : j = 50
  · have z0 : z = 50 := by rw [hz, c50]; rfl
    refine lv_tableIn (tgt := 2302) (off := 2262) hx hb dL_law_40 (by rw [z0]; decide) (by rw [z0]; decide) (by rw [z0]; rfl) (by decide) ?_
    exact k_plans LC I hS hl kk
  by_cases c51 : j = 51
  · have z0 : z = 51 := by rw [hz, c51]; rfl
    refine lv_tableIn (tgt := 2351) (off := 2311) hx hb dL_law_40 (by rw [z0]; decide) (by rw [z0]; decide) (by rw [z0]; rfl) (by decide) ?_
    exact k_mark LC I hS hl kk
  by_cases c52 : j = 52
  · have z0 : z = 52 := by rw [hz, c52]; rfl
    refine lv_tableIn (tgt := 2404) (off := 2364) hx hb dL_law_40 (by rw [z0]; decide) (by rw [z0]; decide) (by rw [z0]; rfl) (by decide) ?_
    exact k_count LC I hS hl kk
  exact absurd hj (by omega)
set_option maxRecDepth 100000 in
set_option maxHeartbeats 4000000 in
theorem law_loop (hst : l.stackTraces = false) (C0 : CX p s m #[Value.ref b] meth c RL cL_law 7 ret V G00) (hXs : va_X b L xs s s.heap) (hbl : b < s.heap.size) (hL : L ≤ 3584) {cells0 slots0 : Nat} (hc0 : cells0 + 513536 ≤ 601024) (hs0 : slots0 + 4105216 ≤ 7293034) :
    ∀ (d n : Nat) (H : Heap) (locs : List Loc) (ls : Array Slot) (cells slots : Nat), n + d = 512 → INV V s.heap.size x y o n H → va_S (AG G00 s.heap.size) s.heap H locs → lv_has ls 7 (LL b x y o (iN n)) → cells ≤ cells0 + 1003 * n → slots ≤ slots0 + 8018 * n →
      W p l e room_1 s m #[Value.ref b] below meth c H locs cells slots (lw_Z below #[Value.ref b] s) (F0 m 23 ls []) := by
  have hx := C0.1
  have hb := C0.2.1
  have hbA : ¬ AG G00 s.heap.size b := fun z => z.elim (fun z => nomatch z) (fun z => Nat.not_le.mpr hbl z)
  intro d
  induction d with
  | zero =>
    intro n H locs ls cells slots hd I hS hl hc hs
    have hcR : cells ≤ 601024 := by omega
    have hsR : slots ≤ 7293034 := by omega
    refine lv_iload hx hb dL_law_23 (lv_at hl 4 rfl) ?_
    refine lv_aload_n hx hb dL_law_25 rfl (lv_at hl 0 rfl) ?_
    refine va_slen hx hb hXs hbl hbA hS dL_law_26 ?_
    refine lv_bipush (v := 7) hx hb dL_law_27 kc_bipush_7 ?_
    refine lv_isub hx hb dL_law_29 ?_
    refine lv_icmp_gt (tgt := 2435) hx hb dL_law_30 (by decide) (fun _ => ?_) (fun k => absurd (iN_gt hL (by omega) k) (by omega))
    refine lv_iconst (v := 1) hx hb dL_law_2435 rfl ?_
    exact va_forget (fun q h => (hS.2.2 q h).elim (fun z => nomatch z) id) (W.widen hcR hsR (lw_ret hx hb C0.2.2.1 C0.2.2.2.2.2.2.2.1 dL_law_2436))
  | succ d ih =>
    intro n H locs ls cells slots hd I hS hl hc hs
    have hcR : cells ≤ 601024 := by omega
    have hsR : slots ≤ 7293034 := by omega
    refine lv_iload hx hb dL_law_23 (lv_at hl 4 rfl) ?_
    refine lv_aload_n hx hb dL_law_25 rfl (lv_at hl 0 rfl) ?_
    refine va_slen hx hb hXs hbl hbA hS dL_law_26 ?_
    refine lv_bipush (v := 7) hx hb dL_law_27 kc_bipush_7 ?_
    refine lv_isub hx hb dL_law_29 ?_
    refine lv_icmp_gt (tgt := 2435) hx hb dL_law_30 (by decide) (fun _ => ?_) (fun k => ?_)
    · refine lv_iconst (v := 1) hx hb dL_law_2435 rfl ?_
      exact va_forget (fun q h => (hS.2.2 q h).elim (fun z => nomatch z) id) (W.widen hcR hsR (lw_ret hx hb C0.2.2.1 C0.2.2.2.2.2.2.2.1 dL_law_2436))
    · have h7 := iN_gt hL (by omega) k
      have hin := iN_in h7 hL
      have hin0 : vp_in (iN n) L := vp_in_iff.mpr (by unfold iN; rw [ii_t (by omega) (by omega)]; omega)
      refine lv_aload_n hx hb dL_law_33 rfl (lv_at hl 0 rfl) ?_
      refine lv_iload hx hb dL_law_34 (lv_at hl 4 rfl) ?_
      refine va_sld hx hb hXs hbl hbA hS hin0 dL_law_36 ?_
      refine lv_bipush (v := 63) hx hb dL_law_37 kc_bipush_63 ?_
      refine lv_iand hx hb dL_law_39 ?_
      refine law_disp hst ⟨C0, hXs, hbl, by omega, hin, by show cells + 1003 ≤ 601024; omega, by show slots + 8018 ≤ 7293034; omega⟩ I hS hl (fun H1 locs1 ls1 cells1 slots1 I1 hS1 hl1 hc1 hs1 => ?_) _
      refine lv_iinc (v := iN (n + 1)) (lv' := [(4, .int (iN (n + 1))), (0, .ref b), (1, .ref x), (2, .ref y), (3, .ref o)]) hx hb dL_law_2429 hl1 (k := 4) rfl (iN_up n) (by decide) rfl (fun ls2 hl2 => ?_)
      refine lv_goto (tgt := 23) hx hb dL_law_2432 (by decide) ?_
      exact ih (n + 1) H1 locs1 ls2 cells1 slots1 (by omega) I1 hS1 (lv_sub hl2 [1, 2, 3, 4, 0] rfl) (by omega) (by omega)
end LOOP
