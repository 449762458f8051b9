def S00 : HS := (fun _ _ => 0, fun _ _ => 0, fun _ _ => none, fun _ _ => 0, fun _ _ => 0, fun _ _ => none)
theorem wt_00 : WT G00 S00 := by
  have n0 : ∀ a, ¬ a ∈ G00.1 := fun a h => by cases h
  exact ⟨fun a ha => absurd ha (n0 a), fun a ha => absurd ha (n0 a), fun a ha => absurd ha (n0 a)⟩
theorem hp_00 {V : EV} {H : Heap} : HP V G00 S00 H := fun k q hq => by cases hq
theorem cx_start {p : Program} {s : State} {m : MethodId} {meth : Method} {c : Code} {b L : Nat} {xs : Nat → Int32} (C0 : lw_At p s m meth c b L xs) : ∃ V : EV, CX p s m #[Value.ref b] meth c RL cL_law 7 ret V G00 := by
  obtain ⟨hx, hb, hr, hml, hown, hts, hX, hbl, hlocks, hgv⟩ := C0
  have hg : ∀ w ∈ gFl, w.before #[Value.ref b] s = true := flat_of_before _ hgv
  have htb : ∀ w ∈ TB, w.before #[Value.ref b] s = true := fun w h => hts w (List.mem_filter.mp h).1
  have ho2 : va_AO RX2 s := va_AO.of (hts (.arrayOver (.object RX2)) (by decide +kernel))
  have ho7 : va_AO RX7 s := va_AO.of (hts (.arrayOver (.object RX7)) (by decide +kernel))
  have hA : ∀ a : Nat, a < s.heap.size → ¬ AG G00 s.heap.size a := fun a h z => z.elim (fun z => nomatch z) (fun z => Nat.not_le.mpr h z)
  obtain ⟨D, cy, hK⟩ := k_start htb ho2 ho7
  obtain ⟨adK, adV, h1, h2⟩ := str_start hts hg hA
  refine ⟨(D, cy, adK, adV), hx, hb, hr, hml, hown, htb, hK, hlocks, ⟨⟨h1, h2⟩, ?_, ?_, ?_, ?_⟩, List.nodup_nil, nw_of hts, ho2, ho7, dw_of hts⟩
  · exact va_Zof (hts (.laysStatic "java/lang/String" "COMPACT_STRINGS" "Z") (by decide +kernel)) (hts (.initialized "java/lang/String") (by decide +kernel)) (va_eqi (hg (.eq (.static "java/lang/String" "COMPACT_STRINGS" "Z") (.int 1)) (by decide +kernel))) hA
  · exact va_Zqof (hts (.laysStatic "jdk/internal/util/Preconditions" "SIOOBE_FORMATTER" "Ljava/util/function/BiFunction;") (by decide +kernel)) (hts (.initialized "jdk/internal/util/Preconditions") (by decide +kernel)) (hg (.isRef (.static "jdk/internal/util/Preconditions" "SIOOBE_FORMATTER" "Ljava/util/function/BiFunction;")) (by decide +kernel)) hA
  · exact vx_Zqof (hts (.laysStatic Bundle.tN "UNASSIGNED_STACK" Bundle.steD) (by decide +kernel)) (hts (.initialized Bundle.tN) (by decide +kernel)) (hg (.isRef (.static Bundle.tN "UNASSIGNED_STACK" Bundle.steD)) (by decide +kernel)) hA
  · exact vx_Zqof (hts (.laysStatic Bundle.tN "SUPPRESSED_SENTINEL" Bundle.listD) (by decide +kernel)) (hts (.initialized Bundle.tN) (by decide +kernel)) (hg (.isRef (.static Bundle.tN "SUPPRESSED_SENTINEL" Bundle.listD)) (by decide +kernel)) hA
theorem mkW_in {cy : Nat → ClassId} {G : GS} {S : HS} {k : Nat} {q : Nat × va_E} (hq : (mkW cy G S)[k]? = some q) : q.1 ∈ G.1 := by
  unfold mkW va_pl at hq
  rw [List.getElem?_map] at hq
  cases hg : G.1[k]? with
  | none => rw [hg] at hq; cases hq
  | some a => rw [hg] at hq; cases hq; exact List.mem_of_getElem? hg
theorem hp_split {V : EV} {G : GS} {S : HS} {q k n : Nat} {H : Heap} (hq : q ∉ G.1) (hk : k < 13) (h : HP V (pushG G q k n) (zap q S) H) : HP V G S H ∧ HP V (pushG G00 q k n) (zap q S00) H := by
  have e1 : mkW V.2.1 G S ++ [(q, cellf V.2.1 (pushG G q k n) (zap q S) q)] = mkW V.2.1 (pushG G q k n) (zap q S) := push_W hq rfl
  have e2 : cellf V.2.1 (pushG G q k n) (zap q S) q = cellf V.2.1 (pushG G00 q k n) (zap q S00) q := by
    rw [cell_obj push_kq hk, cell_obj push_kq hk]
    exact congrArg (fun z => Sum.inr (k, z)) (List.map_congr_left (fun x _ => (fval_new x).trans (fval_new x).symm))
  unfold HP at h
  rw [← e1] at h
  refine ⟨fun j z hj => h j z ?_, fun j z hj => h ((mkW V.2.1 G S).length + j) z ?_⟩
  · rw [List.getElem?_append_left (List.getElem?_eq_some_iff.mp hj).1]; exact hj
  · rw [List.getElem?_append_right (Nat.le_add_right _ _), Nat.add_sub_cancel_left, e2]
    exact hj
theorem va_D_app {A : Nat → Prop} {w1 w2 : va_W} (d1 : va_D A w1) (d2 : va_D A w2) (hd : ∀ (i j : Nat) (a b : Nat × va_E), w1[i]? = some a → w2[j]? = some b → a.1 ≠ b.1) : va_D A (w1 ++ w2) := by
  refine ⟨fun i j a b hi hj hab => ?_, fun k q hq => ?_⟩
  · by_cases h1 : i < w1.length
    · rw [List.getElem?_append_left h1] at hi
      by_cases h2 : j < w1.length
      · rw [List.getElem?_append_left h2] at hj
        exact d1.1 i j a b hi hj hab
      · rw [List.getElem?_append_right (Nat.not_lt.mp h2)] at hj
        exact absurd hab (hd _ _ _ _ hi hj)
    · rw [List.getElem?_append_right (Nat.not_lt.mp h1)] at hi
      by_cases h2 : j < w1.length
      · rw [List.getElem?_append_left h2] at hj
        exact absurd hab.symm (hd _ _ _ _ hj hi)
      · rw [List.getElem?_append_right (Nat.not_lt.mp h2)] at hj
        have := d2.1 _ _ a b hi hj hab
        omega
  · by_cases h1 : k < w1.length
    · rw [List.getElem?_append_left h1] at hq; exact d1.2 k q hq
    · rw [List.getElem?_append_right (Nat.not_lt.mp h1)] at hq; exact d2.2 _ q hq
section STARTW
variable {p : Program} {l : Launch} {e : Env} {s : State} {m : MethodId} {below : List Frame} {meth : Method} {c : Code} {V : EV} {b L : Nat} {xs : Nat → Int32}
/-- out = new long[1], beside both worlds -/
theorem x_out {args : Array Value} {R : Room} {H : Heap} {locs : List Loc} {cells slots : Nat} {Q : State → Prop} {GX GM : GS} {SX SM : HS} {ls : Array Slot} {rest : List Value} (C0 : CX p s m args meth c RL cL_law 7 ret V G00) (hPX : HP V GX SX H) (hPM : HP V GM SM H) (nX : GX.1.Nodup) (nM : GM.1.Nodup) (dX : ∀ q, q ∈ GX.1 → s.heap.size ≤ q ∧ q ∉ GM.1) (dM : ∀ q, q ∈ GM.1 → s.heap.size ≤ q) (hS : va_S (AG G00 s.heap.size) s.heap H locs) (hc : cells + 1 ≤ R.cells) (hs : slots + 1 ≤ R.slots)
    (kk : ∀ (o : Nat) (H1 : Heap), HP V GX SX H1 → HP V GM SM H1 → HO V o (fun _ => 0) H1 → o ∉ GX.1 → o ∉ GM.1 → s.heap.size ≤ o → va_S (AG G00 s.heap.size) s.heap H1 locs → W p l e R s m args below meth c H1 locs (cells + 1) (slots + 1) Q (F0 m 19 ls (.ref o :: rest))) : W p l e R s m args below meth c H locs cells slots Q (F0 m 17 ls (.int 1 :: rest)) := by
  have hD : va_D (AG G00 s.heap.size) (mkW V.2.1 GX SX ++ mkW V.2.1 GM SM) := va_D_app (mk_D nX (fun q h => Or.inr (dX q h).1)) (mk_D nM (fun q h => Or.inr (dM q h))) (fun i j a b hi hj z => (dX _ (mkW_in hi)).2 (z ▸ mkW_in hj))
  refine va_newa (atype := .long) (ty := .long) (N' := 1) (a0 := (1, .inr (.inl (fun _ => 0)))) C0.1 C0.2.1 (C0.2.2.2.2.2.1 _ qarr_J) rfl C0.2.2.2.2.2.2.1 (va_P.app hPX hPM) hD hS (fun q h => Or.inr h) (arr_J 1) (by decide) (by decide) (by decide) hc hs dL_law_17 (fun o cA H1 hK1 hP1 hD1 hS1 => ?_)
  have e1 : va_RA s cA .long := (hK1.2 (tyl V.2.1).length (cA, .long) (by rw [List.getElem?_append_right (Nat.le_refl _), Nat.sub_self]; rfl)).2
  have e2 : cA = V.2.1 2 := ra_one (D := V.1) e1 (C0.2.2.2.2.2.2.1.2 2 (V.2.1 2, .long) rfl).2
  subst e2
  generalize hwx : mkW V.2.1 GX SX = wx at hP1 hD1
  generalize hwm : mkW V.2.1 GM SM = wm at hP1 hD1
  have hlast : ((wx ++ wm) ++ [((o : Nat), (Sum.inl (V.2.1 2, 1, .inr (.inl (fun _ => 0))) : va_E))])[(wx ++ wm).length]? = some (o, .inl (V.2.1 2, 1, .inr (.inl (fun _ => 0)))) := by rw [List.getElem?_append_right (Nat.le_refl _), Nat.sub_self]; rfl
  have inx : ∀ (j : Nat) (z : Nat × va_E), wx[j]? = some z → ((wx ++ wm) ++ [((o : Nat), (Sum.inl (V.2.1 2, 1, .inr (.inl (fun _ => 0))) : va_E))])[j]? = some z := fun j z hj => by
    have hl := (List.getElem?_eq_some_iff.mp hj).1
    rw [List.getElem?_append_left (by rw [List.length_append]; omega), List.getElem?_append_left hl]; exact hj
  have inm : ∀ (j : Nat) (z : Nat × va_E), wm[j]? = some z → ((wx ++ wm) ++ [((o : Nat), (Sum.inl (V.2.1 2, 1, .inr (.inl (fun _ => 0))) : va_E))])[wx.length + j]? = some z := fun j z hj => by
    have hl := (List.getElem?_eq_some_iff.mp hj).1
    rw [List.getElem?_append_left (by rw [List.length_append]; omega), List.getElem?_append_right (Nat.le_add_right _ _), Nat.add_sub_cancel_left]; exact hj
  refine kk o H1 (by unfold HP; rw [hwx]; exact fun j z hj => hP1 j z (inx j z hj)) (by unfold HP; rw [hwm]; exact fun j z hj => hP1 _ z (inm j z hj)) (fun j z hj => ?_) (fun h => ?_) (fun h => ?_) ((hD1.2 _ _ hlast).elim (fun z => nomatch z) id) hS1
  · cases j with
    | zero => cases hj; exact hP1 _ _ hlast
    | succ j => cases hj
  · obtain ⟨j, hj⟩ := mk_get (cy := V.2.1) (S := SX) h
    rw [hwx] at hj
    have hl := (List.getElem?_eq_some_iff.mp hj).1
    have := hD1.1 _ _ _ _ (inx _ _ hj) hlast rfl
    rw [List.length_append] at this
    omega
  · obtain ⟨j, hj⟩ := mk_get (cy := V.2.1) (S := SM) h
    rw [hwm] at hj
    have hl := (List.getElem?_eq_some_iff.mp hj).1
    have := hD1.1 _ _ _ _ (inm _ _ hj) hlast rfl
    rw [List.length_append] at this
    omega
end STARTW
