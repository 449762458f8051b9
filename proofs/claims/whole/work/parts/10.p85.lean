section
section YCUT4
variable {N : Nat → Nat} {F : Nat} {S : HS} {m : Nat} {B : Nat → Nat} {tp : List Nat}
/- the model's reader stands at token i, with the fault f; the text's tokens are cut -/
def YRD (S : HS) (m : Nat) (B : Nat → Nat) (tp : List Nat) (n : Nat) (i : Nat) (f : Nat) : Prop := n ≤ tp.length ∧ i ≤ n ∧ YTK S (B 1) (B 2) (B 3) tp n ∧ tp.length ≤ tQ0 tp (pt tp n) ∧ aI S (B 1) n = 0 ∧ aI S (B 2) n = ii tp.length ∧ gI S 1207 m = ii i ∧ gI S 1208 m = ii f
theorem y_cutAll (hF : 3000 ≤ F) (hB : ∀ i j, B i = B j ↔ i = j) (hL : YLAY N S.2.2.1 m B) (hT : YTP S m B tp) (hlen : tp.length ≤ 1000) (hok : ∀ c, c ∈ tp → tpok c) :
    ∃ n S', s_X12_cutAll N F m S = some S' ∧ YRD S' m B tp n 0 0 ∧ gI S' 1202 m = 0 ∧ (∀ f p, ¬ (p = m ∧ (f = 1202 ∨ f = 1203 ∨ f = 1207 ∨ f = 1208)) → gI S' f p = gI S f p) ∧ S'.2.1 = S.2.1 ∧ S'.2.2.1 = S.2.2.1 ∧ (∀ p, p ≠ B 1 → p ≠ B 2 → aI S' p = aI S p) ∧ (∀ p, p ≠ B 3 → aJ S' p = aJ S p) := by
  have r1 : gR S 1201 m = some (B 0) := hL.1.1
  have r4 : gR S 1204 m = some (B 1) := hL.1.2.1
  have r5 : gR S 1205 m = some (B 2) := hL.1.2.2.1
  have r6 : gR S 1206 m = some (B 3) := hL.1.2.2.2.1
  have n0 : N (B 0) = 1000 := hL.2.2.1.1
  have n1 : N (B 1) = 1002 := hL.2.2.1.2.1
  have n2 : N (B 2) = 1002 := hL.2.2.1.2.2.1
  have n3 : N (B 3) = 1002 := hL.2.2.1.2.2.2.1
  unfold s_X12_cutAll
  rw [bnd_def, bnd_def, hT.1]
  generalize hS2 : uI (uI S 1203 m (ii tp.length)) 1202 m 0 = S2
  have g3 : gI S2 1203 m = ii tp.length := by rw [← hS2, gI_uI, if_neg (by omega), gI_uI, if_pos ⟨rfl, rfl⟩]
  have g2 : gI S2 1202 m = 0 := by rw [← hS2, gI_uI, if_pos ⟨rfl, rfl⟩]
  have rr : S2.2.2.1 = S.2.2.1 := by rw [← hS2]; rfl
  have ai : ∀ p, aI S2 p = aI S p := fun p => by rw [← hS2]; rfl
  have aj : ∀ p, aJ S2 p = aJ S p := fun p => by rw [← hS2]; rfl
  have hM : TPM N S2 m (B 0) tp := ⟨by rw [gR_of rr]; exact r1, n0, g3, hlen, hok, fun i c hc => by rw [ai]; exact hT.2 i c hc⟩
  obtain ⟨n, S3, c1, c2, c3, c4, c5⟩ := y_cutLoop (N := N) (F := F) (S := S2) (b1 := B 1) (b2' := B 2) (b3 := B 3) hF hM (by rw [ne_eq, hB]; decide) (by rw [ne_eq, hB]; decide) (by rw [ne_eq, hB]; decide) (by rw [gR_of rr]; exact r4) (by rw [gR_of rr]; exact r5) (by rw [gR_of rr]; exact r6) n1 n2 n3 (s_X12_cutAll_J279 N F) tp.length 0 0 F S2 (by omega) (by omega) (by omega) (by omega) rfl (CUF.refl _ _ _ _) (fun k hk => by omega)
  have c1' : s_X12_cutAll_L17 N F (s_X12_cutAll_J279 N F) F m 0 0 S2 = s_X12_cutAll_J279 N F m (ii n) S3 := c1
  rw [c1']
  have cl := cl_of (x := ii (n : Int)) (z := n) rfl (by omega)
  have q4 : gR S3 1204 m = some (B 1) := by rw [gR_of c4.2.2.1, gR_of rr]; exact r4
  have q5 : gR (wI S3 (B 1) n 0) 1205 m = some (B 2) := by show gR S3 1205 m = _; rw [gR_of c4.2.2.1, gR_of rr]; exact r5
  have q3 : gI (wI S3 (B 1) n 0) 1203 m = ii tp.length := by show gI S3 1203 m = _; rw [gI_of c4.1]; exact g3
  unfold s_X12_cutAll_J279
  rw [q4, bd1_some, if_pos (by rw [n1]; exact in_of (z := n) rfl (by omega) (by decide)), bnd_def, cl, q5, bd1_some, if_pos (by rw [n2]; exact in_of (z := n) rfl (by omega) (by decide)), bnd_def, q3, bnd_def, bnd_def]
  generalize hS5 : uI (uI (wI (wI S3 (B 1) n 0) (B 2) n (ii tp.length)) 1207 m 0) 1208 m 0 = S5
  have b12 : B 1 ≠ B 2 := by rw [ne_eq, hB]; decide
  have e1 : ∀ j, aI S5 (B 1) j = if j = n then 0 else aI S3 (B 1) j := fun j => by rw [← hS5]; show aI (wI (wI S3 (B 1) n 0) (B 2) n (ii tp.length)) (B 1) j = _; rw [aI_wI_o _ _ _ _ b12, aI_wI_s]
  have e2 : ∀ j, aI S5 (B 2) j = if j = n then ii tp.length else aI S3 (B 2) j := fun j => by rw [← hS5]; show aI (wI (wI S3 (B 1) n 0) (B 2) n (ii tp.length)) (B 2) j = _; rw [aI_wI_s, aI_wI_o _ _ _ _ (Ne.symm b12)]
  have e3 : ∀ p, aJ S5 p = aJ S3 p := fun p => by rw [← hS5]; rfl
  refine ⟨n, S5, rfl, ⟨c2, by omega, fun k hk => ?_, c3, by rw [e1, if_pos rfl], by rw [e2, if_pos rfl], by rw [← hS5, gI_uI, if_neg (by omega), gI_uI, if_pos ⟨rfl, rfl⟩]; rfl, by rw [← hS5, gI_uI, if_pos ⟨rfl, rfl⟩]; rfl⟩, ?_, fun f p hf => ?_, ?_, ?_, fun p p1 p2 => ?_, fun p p1 => ?_⟩
  · rw [e1, e2, e3, if_neg (by omega), if_neg (by omega)]; exact c5 k hk
  · rw [← hS5, gI_uI, if_neg (by omega), gI_uI, if_neg (by omega)]; show gI S3 1202 m = 0; rw [gI_of c4.1]; exact g2
  · rw [← hS5, gI_uI, if_neg (by omega), gI_uI, if_neg (by omega)]
    show gI S3 f p = _
    rw [gI_of c4.1, ← hS2, gI_uI, if_neg (by omega), gI_uI, if_neg (by omega)]
  · rw [← hS5]; show S3.2.1 = _; rw [c4.2.1, ← hS2]; rfl
  · rw [← hS5]; show S3.2.2.1 = _; rw [c4.2.2.1, ← hS2]; rfl
  · rw [← hS5]; show aI (wI (wI S3 (B 1) n 0) (B 2) n (ii tp.length)) p = _; rw [aI_wI_o _ _ _ _ p2, aI_wI_o _ _ _ _ p1, c4.2.2.2.1 p p1 p2, ai]
  · rw [e3, c4.2.2.2.2.1 p p1, aj]
end YCUT4
end
section
/- both readers at the i-th token, with the fault f -/
def XRD (S : HS) (a : Nat) (tp : List Nat) (i f : Nat) : Prop := gI S 803 a = ii (tQ0 tp (pt tp i)) ∧ gI S 804 a = ii (pt tp (i + 1)) ∧ gI S 802 a = ii (tWhat tp (pt tp i)) ∧ (tWhat tp (pt tp i) = 1 → gJ S 805 a = jj (nm32 (wl tp (tQ0 tp (pt tp i)) (tW tp (pt tp i))))) ∧ (tWhat tp (pt tp i) = 2 → gI S 806 a = ii (dv tp (tQ0 tp (pt tp i)) (tD0 tp (pt tp i)))) ∧ gI S 807 a = ii f
theorem tEnd_le (tp : List Nat) {p : Nat} (hp : p ≤ tp.length) : tEnd tp p ≤ tp.length := by
  have h1 := run_le isLt (tp.drop (tQ0 tp p))
  have h2 := run_le isDg (tp.drop (tQ0 tp p))
  rw [List.length_drop] at h1 h2
  have h3 := tQ0_le tp hp
  unfold tEnd tW tD0
  split
  · omega
  · split
    · omega
    · split <;> omega
theorem pt_le (tp : List Nat) : ∀ k, pt tp k ≤ tp.length
  | 0 => Nat.zero_le _
  | k + 1 => tEnd_le tp (pt_le tp k)
def bl (f k place : Nat) : Nat := if f = 0 then k + 16 * place else f
/- reading and blaming -/
def RDB (a : Nat) (S S' : HS) : Prop := (∀ f b, ¬ (b = a ∧ 802 ≤ f ∧ f ≤ 807) → gI S' f b = gI S f b) ∧ S'.2.2 = S.2.2
theorem RDB.refl (a : Nat) (S : HS) : RDB a S S := ⟨fun _ _ _ => rfl, rfl⟩
theorem RDB.trans {a : Nat} {S S1 S2 : HS} (h1 : RDB a S S1) (h2 : RDB a S1 S2) : RDB a S S2 := ⟨fun f b h => (h2.1 f b h).trans (h1.1 f b h), h2.2.trans h1.2⟩
theorem RDF.b {a : Nat} {S S' : HS} (h : RDF a S S') : RDB a S S' := ⟨fun f b q => h.1 f b (fun r => q ⟨r.1, r.2.1, by omega⟩), h.2⟩
theorem TPE.rb {N : Nat → Nat} {S S' : HS} {a r : Nat} {tp : List Nat} (h : TPE N S a r tp) (hF : RDB a S S') : TPE N S' a r tp := by
  obtain ⟨h1, h2, h3, h4, h5, h6⟩ := h
  refine ⟨?_, h2, by rw [hF.1 801 a (by omega)]; exact h3, h4, h5, fun i c hc => ?_⟩
  · unfold gR; rw [hF.2]; exact h1
  · unfold aI; rw [hF.2]; exact h6 i c hc
section XRDS
variable {N N2 : Nat → Nat} {F : Nat} {S S2 : HS} {a r m : Nat} {B : Nat → Nat} {tp : List Nat} {n i f : Nat}
theorem x_begin (hF : 3000 ≤ F) (h : TPE N S a r tp) : ∃ S', s_X8_begin N F a S = some S' ∧ RDB a S S' ∧ XRD S' a tp 0 0 := by
  unfold s_X8_begin s_X8_readFrom
  rw [bnd_def, bnd_def]
  have f1 : RDB a S (uI (uI S 807 a 0) 804 a 0) := ⟨fun f b q => by rw [gI_uI, if_neg (by omega), gI_uI, if_neg (by omega)], rfl⟩
  obtain ⟨S3, s1, s2, s3, s4, s5, s6, s7⟩ := x_advance (F := F) hF (h.rb f1) (p := 0) (Nat.zero_le _) (by rw [gI_uI, if_pos ⟨rfl, rfl⟩]; rfl)
  rw [s1, bd1_some, bd1_some]
  exact ⟨S3, rfl, f1.trans s2.b, s3, s4, s5, s6, s7, by rw [s2.1 807 a (by omega), gI_uI, if_neg (by omega), gI_uI, if_pos ⟨rfl, rfl⟩]; rfl⟩
/- the class goes on -/
theorem x_next (hF : 3000 ≤ F) (h : TPE N S a r tp) (hX : XRD S a tp i f) : ∃ S', s_X8_advance N F a S = some S' ∧ RDB a S S' ∧ XRD S' a tp (i + 1) f := by
  obtain ⟨S3, s1, s2, s3, s4, s5, s6, s7⟩ := x_advance (F := F) hF h (pt_le tp (i + 1)) hX.2.1
  exact ⟨S3, s1, s2.b, s3, s4, s5, s6, s7, by rw [s2.1 807 a (by omega)]; exact hX.2.2.2.2.2⟩
theorem x_blame {k : Nat} (hX : XRD S a tp i f) (hf : f < 100000) : RDB a S (s_X8_blame a (ii k) S) ∧ XRD (s_X8_blame a (ii k) S) a tp i (bl f k (tQ0 tp (pt tp i))) := by
  obtain ⟨h1, h2, h3, h4, h5, h6⟩ := hX
  have c0 : (ii (f : Int) = (0 : Int32)) = (f = 0) := by rw [k0, ii_eq (by omega) (by omega) (by omega) (by omega)]; apply propext; omega
  unfold s_X8_blame bl
  rw [h6, h1]
  simp only [c0, bnd_def]
  by_cases w : f = 0
  · rw [if_pos w, if_pos w]
    refine ⟨⟨fun g b q => by rw [gI_uI, if_neg (by omega)], rfl⟩, by rw [gI_uI, if_neg (by omega)]; exact h1, by rw [gI_uI, if_neg (by omega)]; exact h2, by rw [gI_uI, if_neg (by omega)]; exact h3, h4, fun q => by rw [gI_uI, if_neg (by omega)]; exact h5 q, ?_⟩
    rw [gI_uI, if_pos ⟨rfl, rfl⟩, k16, ii_mul, ii_add]; congr 1
  · rw [if_neg w, if_neg w]
    exact ⟨RDB.refl _ _, h1, h2, h3, h4, h5, h6⟩
end XRDS
end
section
def sO (tp : List Nat) (p : Nat) : Nat := if tWhat tp p = 0 then 0 else ySo tp p
theorem tWhat_0 {tp : List Nat} {p : Nat} : tWhat tp p = 0 ↔ tp.length ≤ tQ0 tp p := by
  unfold tWhat
  constructor
  · intro h
    by_cases w : tp.length ≤ tQ0 tp p
    · exact w
    · rw [if_neg w] at h
      split at h
      · split at h <;> omega
      · split at h
        · split at h <;> omega
        · split at h
          · rename_i hs
            rw [h] at hs
            exact absurd hs (by decide)
          · omega
  · intro h; rw [if_pos h]
theorem tWhat_s {tp : List Nat} {p : Nat} (h : 4 ≤ tWhat tp p) : tWhat tp p = tC tp p := by
  unfold tWhat at *
  split at h
  · omega
  · rename_i w; rw [if_neg w]
    split at h
    · split at h <;> omega
    · rename_i w1; rw [if_neg w1]
      split at h
      · split at h <;> omega
      · rename_i w2; rw [if_neg w2]
        split at h
        · rename_i w3; rw [if_pos w3]
        · omega
section JREAD
variable {N N2 : Nat → Nat} {F : Nat} {S S2 : HS} {a r m : Nat} {B : Nat → Nat} {tp : List Nat} {n i f : Nat}
/- the model's rows at the token -/
theorem y_at (hL : YLAY N2 S2.2.2.1 m B) (h : YRD S2 m B tp n i f) (hlen : tp.length ≤ 1000) : gR S2 1204 m = some (B 1) ∧ gR S2 1205 m = some (B 2) ∧ gR S2 1206 m = some (B 3) ∧ gI S2 1207 m = ii i ∧ gI S2 1208 m = ii f ∧ (inB (ii (i : Int)) (N2 (B 1)) = true ∧ inB (ii (i : Int)) (N2 (B 2)) = true ∧ inB (ii (i : Int)) (N2 (B 3)) = true) ∧ (ii (i : Int)).toNatClampNeg = i ∧ aI S2 (B 1) i = ii (sO tp (pt tp i)) ∧ aI S2 (B 2) i = ii (tQ0 tp (pt tp i)) ∧ (tWhat tp (pt tp i) ≠ 0 → tWhat tp (pt tp i) ≠ 3 → aJ S2 (B 3) i = jj (yVa tp (pt tp i))) ∧ (tWhat tp (pt tp i) = 0 ↔ i = n) := by
  obtain ⟨h1, h2, h3, h4, h5, h6, h7, h8⟩ := h
  have n1 : N2 (B 1) = 1002 := hL.2.2.1.2.1
  have n2 : N2 (B 2) = 1002 := hL.2.2.1.2.2.1
  have n3 : N2 (B 3) = 1002 := hL.2.2.1.2.2.2.1
  have hq := tQ0_le tp (pt_le tp i)
  have hw : tWhat tp (pt tp i) = 0 ↔ i = n := by
    rw [tWhat_0]
    constructor
    · intro q
      by_cases w : i < n
      · have := (h3 i w).1; omega
      · omega
    · intro q; subst q; exact h4
  refine ⟨hL.1.2.1, hL.1.2.2.1, hL.1.2.2.2.1, h7, h8, ⟨by rw [n1]; exact in_of (z := i) rfl (by omega) (by decide), by rw [n2]; exact in_of (z := i) rfl (by omega) (by decide), by rw [n3]; exact in_of (z := i) rfl (by omega) (by decide)⟩, cl_of (z := i) rfl (by omega), ?_, ?_, ?_, hw⟩
  · unfold sO
    by_cases w : i = n
    · rw [if_pos (hw.mpr w), w]; exact h5
    · rw [if_neg (fun q => w (hw.mp q))]; exact (h3 i (by omega)).2.1
  · by_cases w : i = n
    · have := tWhat_0.mp (hw.mpr w)
      rw [w, h6]; rw [w] at this hq; congr 1; omega
    · exact (h3 i (by omega)).2.2.1
  · intro q1 q2
    have w : ¬ i = n := fun q => q1 (hw.mpr q)
    exact (h3 i (by omega)).2.2.2 q2
theorem y_wrong {k : Nat} (hL : YLAY N2 S2.2.2.1 m B) (h : YRD S2 m B tp n i f) (hlen : tp.length ≤ 1000) (hf : f < 100000) : ∃ S', s_X12_wrong N2 m (ii k) S2 = some S' ∧ YRD S' m B tp n i (bl f k (tQ0 tp (pt tp i))) ∧ (∀ g p, ¬ (p = m ∧ g = 1208) → gI S' g p = gI S2 g p) ∧ S'.2 = S2.2 := by
  obtain ⟨a1, a2, a3, a4, a5, ⟨a6, a7, a8⟩, a9, a10, a11, _⟩ := y_at hL h hlen
  have c0 : (ii (f : Int) = (0 : Int32)) = (f = 0) := by rw [k0, ii_eq (by omega) (by omega) (by omega) (by omega)]; apply propext; omega
  obtain ⟨h1, h2, h3, h4, h5, h6, h7, h8⟩ := h
  unfold s_X12_wrong bl
  rw [a5]
  simp only [c0]
  by_cases w : f = 0
  · rw [if_pos w, if_pos w, a2, bd1_some, a4, if_pos a7, bnd_def, a9, a11]
    refine ⟨_, rfl, ⟨h1, h2, h3, h4, h5, h6, by rw [gI_uI, if_neg (by omega)]; exact h7, ?_⟩, fun g p q => by rw [gI_uI, if_neg (fun r => q ⟨r.2, r.1⟩)], rfl⟩
    rw [gI_uI, if_pos ⟨rfl, rfl⟩, k16, ii_mul, ii_add]; congr 1
  · rw [if_neg w, if_neg w]
    exact ⟨S2, rfl, ⟨h1, h2, h3, h4, h5, h6, h7, h8⟩, fun _ _ _ => rfl, rfl⟩
end JREAD
end
section
section JSIGN
variable {N N2 : Nat → Nat} {F : Nat} {S S2 : HS} {a r m : Nat} {B : Nat → Nat} {tp : List Nat} {n i f : Nat}
/- what the model's reader may change -/
def YBF (m : Nat) (S S' : HS) : Prop := (∀ g p, ¬ (p = m ∧ (g = 1207 ∨ g = 1208)) → gI S' g p = gI S g p) ∧ S'.2 = S.2
theorem YBF.refl (m : Nat) (S : HS) : YBF m S S := ⟨fun _ _ _ => rfl, rfl⟩
theorem YBF.trans {m : Nat} {S S1 S2 : HS} (h1 : YBF m S S1) (h2 : YBF m S1 S2) : YBF m S S2 := ⟨fun g p q => (h2.1 g p q).trans (h1.1 g p q), h2.2.trans h1.2⟩
/- the model goes on -/
theorem y_next (h : YRD S2 m B tp n i f) (hi : i < n) : YRD (uI S2 1207 m (ii i + 1)) m B tp n (i + 1) f ∧ YBF m S2 (uI S2 1207 m (ii i + 1)) := by
  obtain ⟨h1, h2, h3, h4, h5, h6, h7, h8⟩ := h
  exact ⟨⟨h1, by omega, h3, h4, h5, h6, by rw [gI_uI, if_pos ⟨rfl, rfl⟩, k1, ii_add]; rfl, by rw [gI_uI, if_neg (by omega)]; exact h8⟩, ⟨fun g p q => by rw [gI_uI, if_neg (fun r => q ⟨r.2, Or.inl r.1⟩)], rfl⟩⟩
/- a sign is passed, or both blame -/
theorem j_sign (hF : 3000 ≤ F) (hT : TPE N S a r tp) (hX : XRD S a tp i f) (hL : YLAY N2 S2.2.2.1 m B) (hY : YRD S2 m B tp n i f) (hf : f < 100000) {c : Nat} (hc : 40 ≤ c) (hc2 : c < 127) :
    ∃ S' S2' i' f', s_X8_passSign N F a (ii c) S = some S' ∧ s_X12_takeSign N2 m (ii c) S2 = some S2' ∧ RDB a S S' ∧ YBF m S2 S2' ∧ XRD S' a tp i' f' ∧ YRD S2' m B tp n i' f' ∧ f' < 100000 ∧ (f ≠ 0 → f' = f) ∧ i ≤ i' := by
  have hlen := hT.2.2.2.1
  obtain ⟨a1, a2, a3, a4, a5, ⟨a6, a7, a8⟩, a9, a10, a11, a12, a13⟩ := y_at hL hY hlen
  have hq := tQ0_le tp (pt_le tp i)
  have hw127 : tWhat tp (pt tp i) < 127 := by
    unfold tWhat
    have := chT_b hT.2.2.2.2.1 (tQ0 tp (pt tp i))
    have h2 : tC tp (pt tp i) < 127 := this
    split
    · omega
    · split
      · split <;> omega
      · split
        · split <;> omega
        · split <;> omega
  have c0 : (ii (f : Int) = (0 : Int32)) = (f = 0) := by rw [k0, ii_eq (by omega) (by omega) (by omega) (by omega)]; apply propext; omega
  have cw : (ii (tWhat tp (pt tp i) : Int) = ii (c : Int)) = (tWhat tp (pt tp i) = c) := by rw [ii_eq (by omega) (by omega) (by omega) (by omega)]; apply propext; omega
  -- the two blames
  obtain ⟨x1, x2⟩ := x_blame (k := 1) hX hf
  obtain ⟨S4, y1, y2, y3, y4⟩ := y_wrong (k := 1) hL hY hlen hf
  have y1' : s_X12_wrong N2 m 1 S2 = some S4 := y1
  have hbl : bl f 1 (tQ0 tp (pt tp i)) < 100000 ∧ (f ≠ 0 → bl f 1 (tQ0 tp (pt tp i)) = f) := by
    unfold bl
    refine ⟨by split <;> omega, fun q => by rw [if_neg q]⟩
  have yb : YBF m S2 S4 := ⟨fun g p q => y3 g p (fun r => q ⟨r.1, Or.inr r.2⟩), y4⟩
  unfold s_X8_passSign s_X8_isRight s_X12_takeSign s_X12_isSign s_X8_passSign_J22
  rw [hX.2.2.2.2.2, hX.2.2.1, a5, a1, a4]
  simp only [c0, cw, bnd_def]
  by_cases w : f = 0
  · rw [if_pos w, if_neg (show ¬ (1 : Int32) = 0 by decide), if_pos w, bd1_some, if_pos a6, a9, a10]
    by_cases w2 : tWhat tp (pt tp i) = c
    · have hso : sO tp (pt tp i) = 3 := by unfold sO ySo; rw [if_neg (by omega), if_neg (by omega), if_neg (by omega), if_neg (by omega)]
      have hva : yVa tp (pt tp i) = c := by unfold yVa; rw [if_neg (by omega), if_neg (by omega), ← tWhat_s (by omega)]; exact w2
      have hlt : i < n := by have := hY.2.1; have : ¬ i = n := fun q => by have := a13.mpr q; omega
                             omega
      obtain ⟨S3, s1, s2, s3⟩ := x_next (F := F) hF hT hX
      obtain ⟨n1, n2⟩ := y_next hY hlt
      rw [if_pos w2, s1, bd1_some, hso, if_pos (show ii ((3 : Nat) : Int) = (3 : Int32) from rfl), a3, bd1_some, if_pos a8, a12 (by omega) (by omega), hva, ii_jj (by omega) (by omega), if_pos (by rw [cmp0 (by omega) (by omega)]), bd1_some, if_neg (show ¬ (1 : Int32) = 0 by decide)]
      exact ⟨S3, _, i + 1, f, rfl, rfl, s2, n2, s3, n1, hf, fun _ => rfl, by omega⟩
    · have hno : (if ii (sO tp (pt tp i) : Int) = (3 : Int32) then bd1 (gR S2 1206 m) fun t5 => if inB (ii (i : Int)) (N2 t5) = true then if lg_cmp (aJ S2 t5 i) (ii (c : Int)).toInt64 = 0 then some (1 : Int32) else some 0 else none else some 0) = some 0 := by
        by_cases w3 : ii (sO tp (pt tp i) : Int) = (3 : Int32)
        · rw [if_pos w3, a3, bd1_some, if_pos a8]
          have hso : sO tp (pt tp i) < 5 := by unfold sO ySo; split; omega; split; omega; split; omega; split <;> omega
          have h3 : sO tp (pt tp i) = 3 := by rw [k3, ii_eq (by omega) (by omega) (by omega) (by omega)] at w3; omega
          have hne : tWhat tp (pt tp i) ≠ 0 ∧ tWhat tp (pt tp i) ≠ 1 ∧ tWhat tp (pt tp i) ≠ 2 ∧ tWhat tp (pt tp i) ≠ 3 := by
            unfold sO ySo at h3
            split at h3
            · omega
            · split at h3
              · omega
              · split at h3
                · omega
                · split at h3 <;> omega
          have hva : yVa tp (pt tp i) = tWhat tp (pt tp i) := by unfold yVa; rw [if_neg hne.2.1, if_neg hne.2.2.1, ← tWhat_s (by omega)]
          rw [a12 hne.1 hne.2.2.2, hva, ii_jj (by omega) (by omega), if_neg (by rw [cmp0 (by omega) (by omega)]; exact w2)]
        · rw [if_neg w3]
      rw [if_neg w2, hno, bd1_some, if_pos rfl, y1', bd1_some]
      exact ⟨_, S4, i, _, rfl, rfl, x1, yb, x2, y2, hbl.1, hbl.2, Nat.le_refl _⟩
  · rw [if_neg w, if_pos rfl, if_neg w, bd1_some, if_pos rfl, y1', bd1_some]
    exact ⟨_, S4, i, _, rfl, rfl, x1, yb, x2, y2, hbl.1, hbl.2, Nat.le_refl _⟩
end JSIGN
end
section
section JNUM
variable {N N2 : Nat → Nat} {F : Nat} {S S2 : HS} {a r m : Nat} {B : Nat → Nat} {tp : List Nat} {n i f : Nat}
theorem sO_2 {tp : List Nat} {p : Nat} : (ii (sO tp p : Int) = (2 : Int32)) = (tWhat tp p = 2) := by
  have h : sO tp p < 5 := by unfold sO ySo; split; omega; split; omega; split; omega; split <;> omega
  rw [k2, ii_eq (by omega) (by omega) (by omega) (by omega)]
  apply propext
  unfold sO ySo at *
  constructor
  · intro q; split at q; omega; split at q; omega; split at q; assumption; split at q <;> omega
  · intro q; rw [q]; decide
/- a number between lo and hi is passed, or both blame -/
theorem j_num (hF : 3000 ≤ F) (hT : TPE N S a r tp) (hX : XRD S a tp i f) (hL : YLAY N2 S2.2.2.1 m B) (hY : YRD S2 m B tp n i f) (hf : f < 100000) {lo hi : Nat} (hlo : lo ≤ 10000) (hhi : hi ≤ 10000) :
    ∃ v v' S' S2' i' f', s_X8_passNumber N F a (ii lo) (ii hi) S = some (v, S') ∧ s_X12_takeNumber N2 m (ii lo) (ii hi) S2 = some (v', S2') ∧ RDB a S S' ∧ YBF m S2 S2' ∧ XRD S' a tp i' f' ∧ YRD S2' m B tp n i' f' ∧ f' < 100000 ∧ (f ≠ 0 → f' = f) ∧ (f' = 0 → v' = v ∧ ∃ z : Nat, v = ii z ∧ lo ≤ z ∧ z ≤ hi) ∧ i ≤ i' := by
  have hlen := hT.2.2.2.1
  obtain ⟨a1, a2, a3, a4, a5, ⟨a6, a7, a8⟩, a9, a10, a11, a12, a13⟩ := y_at hL hY hlen
  have hq := tQ0_le tp (pt_le tp i)
  have hw127 : tWhat tp (pt tp i) < 127 := by
    unfold tWhat
    have := chT_b hT.2.2.2.2.1 (tQ0 tp (pt tp i))
    have h2 : tC tp (pt tp i) < 127 := this
    split
    · omega
    · split
      · split <;> omega
      · split
        · split <;> omega
        · split <;> omega
  have c0 : (ii (f : Int) = (0 : Int32)) = (f = 0) := by rw [k0, ii_eq (by omega) (by omega) (by omega) (by omega)]; apply propext; omega
  have cw : (ii (tWhat tp (pt tp i) : Int) = (2 : Int32)) = (tWhat tp (pt tp i) = 2) := by rw [k2, ii_eq (by omega) (by omega) (by omega) (by omega)]; apply propext; omega
  have blm : ∀ k : Nat, 1 ≤ k → k < 10 → ∃ S4, RDB a S (s_X8_blame a (ii k) S) ∧ XRD (s_X8_blame a (ii k) S) a tp i (bl f k (tQ0 tp (pt tp i))) ∧ s_X12_wrong N2 m (ii k) S2 = some S4 ∧ YRD S4 m B tp n i (bl f k (tQ0 tp (pt tp i))) ∧ YBF m S2 S4 ∧ bl f k (tQ0 tp (pt tp i)) < 100000 ∧ bl f k (tQ0 tp (pt tp i)) ≠ 0 ∧ (f ≠ 0 → bl f k (tQ0 tp (pt tp i)) = f) ∧ s_X12_takeNumber_J70 N2 m S4 = some (0, S4) := by
    intro k hk hk2
    obtain ⟨x1, x2⟩ := x_blame (k := k) hX hf
    obtain ⟨S4, y1, y2, y3, y4⟩ := y_wrong (k := k) hL hY hlen hf
    have hb : bl f k (tQ0 tp (pt tp i)) < 100000 ∧ bl f k (tQ0 tp (pt tp i)) ≠ 0 := by unfold bl; split <;> omega
    refine ⟨S4, x1, x2, y1, y2, ⟨fun g p q => y3 g p (fun r => q ⟨r.1, Or.inr r.2⟩), y4⟩, hb.1, hb.2, fun q => by unfold bl; rw [if_neg q], ?_⟩
    unfold s_X12_takeNumber_J70
    rw [y2.2.2.2.2.2.2.2, if_neg (by rw [k0, ii_le (by omega) (by omega) (by omega) (by omega)]; omega)]
  obtain ⟨S4, b1, b2', b3, b4, b5, b6, b7, b8, b9⟩ := blm 1 (by omega) (by omega)
  obtain ⟨S5, d1, d2, d3, d4, d5, d6, d7, d8, d9⟩ := blm 4 (by omega) (by omega)
  have b3' : s_X12_wrong N2 m 1 S2 = some S4 := b3
  have d3' : s_X12_wrong N2 m 4 S2 = some S5 := d3
  unfold s_X8_passNumber s_X8_isRight s_X12_takeNumber s_X8_passNumber_J15 s_X8_passNumber_J37
  rw [hX.2.2.2.2.2, hX.2.2.1, a5, a1, a4]
  simp only [c0, cw, bnd_def]
  by_cases w : f = 0
  · rw [if_pos w, if_neg (show ¬ (1 : Int32) = 0 by decide), if_pos w, bd1_some, if_pos a6, a9, a10]
    simp only [sO_2]
    by_cases w2 : tWhat tp (pt tp i) = 2
    · have hg := hX.2.2.2.2.1 w2
      have hva : yVa tp (pt tp i) = dv tp (tQ0 tp (pt tp i)) (tD0 tp (pt tp i)) := by unfold yVa; rw [w2, if_neg (by decide), if_pos rfl]
      have haj := a12 (by omega) (by omega)
      rw [hva] at haj
      have hd4 : tD0 tp (pt tp i) ≤ 4 := by
        unfold tWhat at w2
        split at w2
        · omega
        · split at w2
          · split at w2 <;> omega
          · split at w2
            · split at w2 <;> omega
            · split at w2
              · rename_i q1 q2 q3 q4; rw [w2] at q4; exact absurd q4 (by decide)
              · omega
      have hrd := run_le isDg (tp.drop (tQ0 tp (pt tp i)))
      rw [List.length_drop] at hrd
      have hdb := dv_b (tp := tp) (q := tQ0 tp (pt tp i)) (tD0 tp (pt tp i)) (Nat.le_refl _) (by unfold tD0; omega)
      have hp10 := pw10 ⟨tD0 tp (pt tp i), by omega⟩
      have hz : dv tp (tQ0 tp (pt tp i)) (tD0 tp (pt tp i)) < 10000 := Nat.lt_of_lt_of_le hdb hp10
      have hlt : i < n := by
        have h1 := hY.2.1
        have h2 : ¬ i = n := fun q => by have := a13.mpr q; omega
        omega
      generalize dv tp (tQ0 tp (pt tp i)) (tD0 tp (pt tp i)) = z at *
      unfold s_X12_takeNumber_J28 s_X12_takeNumber_J65
      rw [if_pos w2, if_pos w2, hg, a5, a3, a4, bd1_some, if_pos a8, a9, haj, ii_jj (by omega) (by omega), ii_jj (by omega) (by omega), lg_c (by omega) (by omega) (by omega) (by omega)]
      have l1 : (ii (z : Int) < ii (lo : Int)) = (z < lo) := by rw [ii_lt (by omega) (by omega) (by omega) (by omega)]; apply propext; omega
      have l2 : (ii (z : Int) ≤ ii (hi : Int)) = (z ≤ hi) := by rw [ii_le (by omega) (by omega) (by omega) (by omega)]; apply propext; omega
      have l3 : ((if (lo : Int) < (z : Int) then (1 : Int32) else if (z : Int) = (lo : Int) then 0 else -1) < 0) = (z < lo) := by
        apply propext
        by_cases q : (lo : Int) < z
        · rw [if_pos q]; exact ⟨fun r => absurd r (by decide), fun r => by omega⟩
        · rw [if_neg q]
          by_cases q2 : (z : Int) = lo
          · rw [if_pos q2]; exact ⟨fun r => absurd r (by decide), fun r => by omega⟩
          · rw [if_neg q2]; exact ⟨fun _ => by omega, fun _ => by decide⟩
      have l4 : ((if (hi : Int) < (z : Int) then (1 : Int32) else if (z : Int) = (hi : Int) then 0 else -1) ≤ 0) = (z ≤ hi) := by
        apply propext
        by_cases q : (hi : Int) < z
        · rw [if_pos q]; exact ⟨fun r => absurd r (by decide), fun r => by omega⟩
        · rw [if_neg q]
          by_cases q2 : (z : Int) = hi
          · rw [if_pos q2]; exact ⟨fun _ => by omega, fun _ => by decide⟩
          · rw [if_neg q2]; exact ⟨fun _ => by omega, fun _ => by decide⟩
      simp only [c0, l1, l2, l3]
      by_cases q1 : z < lo
      · rw [if_pos q1, if_pos w, if_pos q1, d3', bd1_some, d9]
        exact ⟨_, _, _, S5, i, _, rfl, rfl, d1, d5, d2, d4, d6, d8, fun q => absurd q d7, Nat.le_refl _⟩
      rw [if_neg q1, if_pos w, if_neg q1, bd1_some, if_pos a8, haj, lg_c (by omega) (by omega) (by omega) (by omega)]
      simp only [l4]
      by_cases q2 : z ≤ hi
      · obtain ⟨S3, s1, s2, s3⟩ := x_next (F := F) hF hT hX
        obtain ⟨n1, n2⟩ := y_next hY hlt
        have ea : (ii (i : Int) + 1 : Int32) - 1 = ii (i : Int) := by rw [k1, ii_add, ii_sub]; congr 1; omega
        unfold s_X12_takeNumber_J70
        have g7 : gI (uI S2 1207 m (ii i + 1)) 1207 m = ii i + 1 := by rw [gI_uI, if_pos ⟨rfl, rfl⟩]
        have g6 : gR (uI S2 1207 m (ii i + 1)) 1206 m = some (B 3) := a3
        have gj : aJ (uI S2 1207 m (ii i + 1)) (B 3) i = jj z := haj
        rw [if_pos q2, if_pos q2, s1, bd1_some, a5, if_pos (by rw [k0, ii_le (by omega) (by omega) (by omega) (by omega)]; omega), a4, bnd_def, g6, bd1_some, g7, ea, if_pos a8, a9, gj, jj_ii]
        exact ⟨_, _, S3, _, i + 1, f, rfl, rfl, s2, n2, s3, n1, hf, fun _ => rfl, fun _ => ⟨rfl, z, rfl, by omega, q2⟩, by omega⟩
      · rw [if_neg q2, if_neg q2, d3', bd1_some, d9]
        exact ⟨_, _, _, S5, i, _, rfl, rfl, d1, d5, d2, d4, d6, d8, fun q => absurd q d7, Nat.le_refl _⟩
    · rw [if_neg w2, if_neg w2, b3', bd1_some, b9]
      exact ⟨_, _, _, S4, i, _, rfl, rfl, b1, b5, b2', b4, b6, b8, fun q => absurd q b7, Nat.le_refl _⟩
  · have hb1 : bl f 1 (tQ0 tp (pt tp i)) = f := b8 w
    unfold s_X12_takeNumber_J28 s_X12_takeNumber_J70
    rw [if_neg w, if_pos rfl, if_neg w, a5]
    simp only [c0]
    rw [if_neg w, if_neg (by rw [k0, ii_le (by omega) (by omega) (by omega) (by omega)]; omega)]
    rw [hb1] at b2'
    exact ⟨_, _, _, S2, i, f, rfl, rfl, b1, YBF.refl _ _, b2', hY, hf, fun _ => rfl, fun q => absurd q w, Nat.le_refl _⟩
end JNUM
end
section
/- words as numbers tell the words apart -/
def nmr (b : Nat) : List Nat → Nat
  | [] => 0
  | c :: r => nmr b r * b + c
theorem nmr_inj {b : Nat} (hb : 0 < b) : ∀ (l l' : List Nat), (∀ c, c ∈ l → 1 ≤ c ∧ c < b) → (∀ c, c ∈ l' → 1 ≤ c ∧ c < b) → nmr b l = nmr b l' → l = l'
  | [], [], _, _, _ => rfl
  | [], c :: r, _, h2, h => by
    have := (h2 c (List.mem_cons_self ..)).1
    have h' : 0 = nmr b r * b + c := h
    omega
  | c :: r, [], h1, _, h => by
    have := (h1 c (List.mem_cons_self ..)).1
    have h' : nmr b r * b + c = 0 := h
    omega
  | c :: r, d :: s, h1, h2, h => by
    have hc := h1 c (List.mem_cons_self ..)
    have hd := h2 d (List.mem_cons_self ..)
    have h' : nmr b r * b + c = nmr b s * b + d := h
    have e1 : (nmr b r * b + c) % b = c := by rw [Nat.mul_comm, Nat.mul_add_mod, Nat.mod_eq_of_lt hc.2]
    have e2 : (nmr b s * b + d) % b = d := by rw [Nat.mul_comm, Nat.mul_add_mod, Nat.mod_eq_of_lt hd.2]
    have ec : c = d := by rw [← e1, ← e2, h']
    subst ec
    have em : nmr b r * b = nmr b s * b := by omega
    have er := Nat.eq_of_mul_eq_mul_right hb em
    rw [nmr_inj hb r s (fun x hx => h1 x (List.mem_cons_of_mem _ hx)) (fun x hx => h2 x (List.mem_cons_of_mem _ hx)) er]
theorem nm32_r (l : List Nat) : nm32 l = nmr 32 l.reverse := by
  unfold nm32
  rw [← List.foldr_reverse]
  induction l.reverse with
  | nil => rfl
  | cons c r ih => show List.foldr _ 0 r * 32 + c = _; rw [ih]; rfl
theorem nm37_r (l : List Nat) : nm37 l = nmr 37 l.reverse := by
  unfold nm37
  rw [← List.foldr_reverse]
  induction l.reverse with
  | nil => rfl
  | cons c r ih => show 37 * List.foldr _ 0 r + c = nmr 37 r * 37 + c; rw [ih, Nat.mul_comm]
theorem word_eq {l l' : List Nat} (h1 : ∀ c, c ∈ l → 1 ≤ c ∧ c < 32) (h2 : ∀ c, c ∈ l' → 1 ≤ c ∧ c < 32) : (nm32 l = nm32 l' ↔ l = l') ∧ (nm37 l = nm37 l' ↔ l = l') := by
  have r1 : ∀ (b : Nat), 32 ≤ b → ∀ k : List Nat, (∀ c, c ∈ k → 1 ≤ c ∧ c < 32) → ∀ c, c ∈ k.reverse → 1 ≤ c ∧ c < b := fun b hb k hk c hc => by have := hk c (List.mem_reverse.mp hc); omega
  constructor
  · refine ⟨fun h => ?_, fun h => by rw [h]⟩
    rw [nm32_r, nm32_r] at h
    exact List.reverse_inj.mp (nmr_inj (by decide) _ _ (r1 32 (by omega) l h1) (r1 32 (by omega) l' h2) h)
  · refine ⟨fun h => ?_, fun h => by rw [h]⟩
    rw [nm37_r, nm37_r] at h
    exact List.reverse_inj.mp (nmr_inj (by decide) _ _ (r1 37 (by omega) l h1) (r1 37 (by omega) l' h2) h)
end
