/-! 46.cgspec: taken from whole (wip/p37/port.py) -/
/-! 46.cgspec: what a cargo's text means (wip/whole/src/46_cgspec.py) -/
/-- a row of pallets, bulk told -/
abbrev CD : Type := Row × Int
def C0 : CD := (fun j => if 93 ≤ j ∧ j < 98 then -1 else 0, 0)
def addPal (ρ : Row) (T : Tq) (τ : Sg) (w s : Int) : Row := fun j => if j = 11 then ρ 11 + 1 else if j = 83 + ρ 11 then w else if j = 88 + ρ 11 then s else if j = 98 + ρ 11 then sT τ - sF τ else if 103 + 8 * ρ 11 ≤ j ∧ j < 103 + 8 * ρ 11 + 8 then (if j - (103 + 8 * ρ 11) < sT τ - sF τ then T.1 (sF τ + (j - (103 + 8 * ρ 11))) else 0) else ρ j
def palS0 (σ : Sg) (C : CD) : Sg := iff' (5 ≤ C.1 11) σ 4
def palS1 (T : Tq) (σ : Sg) (C : CD) : Int × Sg := wordC T (palS0 σ C)
def palS2 (T : Tq) (σ : Sg) (C : CD) : Int × Sg := numC T (iff' (callF C.1 (palS1 T σ C).1 ≠ -1) (palS1 T σ C).2 3) 1 99
def palS3 (T : Tq) (σ : Sg) (C : CD) : Int × Sg := numC T (palS2 T σ C).2 1 9
def palL (T : Tq) (σ : Sg) (C : CD) : Sg × CD := ((palS3 T σ C).2, if sE (palS3 T σ C).2 = 0 then (addPal C.1 T (nxt T (palS0 σ C)) (palS2 T σ C).1 (palS3 T σ C).1, C.2) else C)
def bulkS1 (T : Tq) (σ : Sg) (C : CD) : Int × Sg := numC T (iff' (C.2 = 1) σ 3) 0 198
def bulkL (T : Tq) (σ : Sg) (C : CD) : Sg × CD := ((bulkS1 T σ C).2, rset C.1 12 (bulkS1 T σ C).1, 1)
def lineC (T : Tq) (σ : Sg) (C : CD) : Sg × CD := if tellsF T σ 9 = true then palL T σ C else if tellsF T σ 10 = true then bulkL T σ C else (failC σ 1, C)
def loopC (T : Tq) : Nat → Sg → CD → Sg × CD
  | 0, σ, C => (σ, C)
  | n + 1, σ, C => if sE (nxt T σ) = 0 ∧ sK (nxt T σ) ≠ 0 then loopC T n (lendC T (lineC T (nxt T σ) C).1) (lineC T (nxt T σ) C).2 else (nxt T σ, C)
def cargoR (T : Tq) : Sg × CD := loopC T 300 (beginC T 300) C0
def cargoF (G : Gh) : Int × Gh := if sE (cargoR (gTp G, gTl G)).1 ≠ 0 then (-1000 - sP (cargoR (gTp G, gTl G)).1, setFl G (sE (cargoR (gTp G, gTl G)).1)) else ((cargoR (gTp G, gTl G)).2.1 11, setNew G (setlR (gRow G) (cargoR (gTp G, gTl G)).2.1))
def COK (C : CD) : Prop := (0 ≤ C.1 11 ∧ C.1 11 ≤ 5) ∧ (0 ≤ C.1 12 ∧ C.1 12 ≤ 999) ∧ (C.1 5 = 0 ∧ C.1 51 = 0 ∧ C.1 52 = 0) ∧ (∀ k, 0 ≤ k → k < 5 → C.1 (93 + k) = -1) ∧ WFp C.1 ∧ W99 C.1 ∧ (C.2 = 0 ∨ C.2 = 1) ∧ ∀ j, ¬ (0 ≤ j ∧ j < 143) → C.1 j = 0
theorem C0_ok : COK C0 := by
  have e : ∀ j, ¬ (93 ≤ j ∧ j < 98) → C0.1 j = 0 := fun j hj => if_neg hj
  refine ⟨?_, ?_, ⟨e 5 (by omega), e 51 (by omega), e 52 (by omega)⟩, fun k k0 k1 => if_pos (by omega), fun k k0 k1 => ?_, fun k k0 k1 => ?_, Or.inl rfl, fun j hj => e j (by omega)⟩
  · rw [e 11 (by omega)]; decide
  · rw [e 12 (by omega)]; decide
  · rw [e 11 (by omega)] at k1; omega
  · rw [e 11 (by omega)] at k1; omega
theorem addPal_lo {ρ : Row} {T : Tq} {τ : Sg} {w s j : Int} (h : j ≠ 11 ∧ j < 83 ∨ 93 ≤ j ∧ j < 98 ∨ 143 ≤ j) (h5 : 0 ≤ ρ 11 ∧ ρ 11 < 5) : addPal ρ T τ w s j = ρ j := by
  unfold addPal
  rw [if_neg (by omega), if_neg (by omega), if_neg (by omega), if_neg (by omega), if_neg (by omega)]
theorem addPal_11 {ρ : Row} {T : Tq} {τ : Sg} {w s : Int} : addPal ρ T τ w s 11 = ρ 11 + 1 := if_pos rfl
theorem addPal_old {ρ : Row} {T : Tq} {τ : Sg} {w s k : Int} (h5 : 0 ≤ ρ 11 ∧ ρ 11 < 5) (hk : 0 ≤ k ∧ k < ρ 11) : addPal ρ T τ w s (83 + k) = ρ (83 + k) ∧ addPal ρ T τ w s (88 + k) = ρ (88 + k) ∧ addPal ρ T τ w s (98 + k) = ρ (98 + k) ∧ ∀ i, 0 ≤ i → i < 8 → addPal ρ T τ w s (103 + 8 * k + i) = ρ (103 + 8 * k + i) := by
  unfold addPal
  refine ⟨?_, ?_, ?_, fun i i0 i1 => ?_⟩ <;> rw [if_neg (by omega), if_neg (by omega), if_neg (by omega), if_neg (by omega), if_neg (by omega)]
theorem addPal_new {ρ : Row} {T : Tq} {τ : Sg} {w s : Int} (h5 : 0 ≤ ρ 11 ∧ ρ 11 < 5) : addPal ρ T τ w s (83 + ρ 11) = w ∧ addPal ρ T τ w s (88 + ρ 11) = s ∧ addPal ρ T τ w s (98 + ρ 11) = sT τ - sF τ ∧ ∀ i, 0 ≤ i → i < 8 → addPal ρ T τ w s (103 + 8 * ρ 11 + i) = if i < sT τ - sF τ then T.1 (sF τ + i) else 0 := by
  unfold addPal
  refine ⟨?_, ?_, ?_, fun i i0 i1 => ?_⟩
  · rw [if_neg (by omega), if_pos (by omega)]
  · rw [if_neg (by omega), if_neg (by omega), if_pos (by omega)]
  · rw [if_neg (by omega), if_neg (by omega), if_neg (by omega), if_pos (by omega)]
  · rw [if_neg (by omega), if_neg (by omega), if_neg (by omega), if_neg (by omega), if_pos (by omega), show 103 + 8 * ρ 11 + i - (103 + 8 * ρ 11) = i by omega]
theorem addPal_ok {C : CD} (h : COK C) {T : Tq} {τ : Sg} {w s : Int} (h5 : C.1 11 < 5) (hw : 1 ≤ w ∧ w ≤ 99) (hs : 1 ≤ s ∧ s ≤ 9) (hn : 1 ≤ sT τ - sF τ ∧ sT τ - sF τ ≤ 8) (hl : letters (fun i => T.1 (sF τ + i)) (sT τ - sF τ).toNat) : COK (addPal C.1 T τ w s, C.2) := by
  obtain ⟨a1, a2, a3, a4, a5, a6, a7, a8⟩ := h
  have e11 : addPal C.1 T τ w s 11 = C.1 11 + 1 := addPal_11
  have lo := fun j (h : j ≠ 11 ∧ j < 83 ∨ 93 ≤ j ∧ j < 98 ∨ 143 ≤ j) => addPal_lo (ρ := C.1) (T := T) (τ := τ) (w := w) (s := s) h ⟨a1.1, h5⟩
  refine ⟨?_, ?_, ?_, fun k k0 k1 => ?_, fun k k0 k1 => ?_, fun k k0 k1 => ?_, a7, fun j hj => ?_⟩ <;> dsimp only at *
  · rw [e11]; omega
  · rw [lo 12 (by omega)]; exact a2
  · rw [lo 5 (by omega), lo 51 (by omega), lo 52 (by omega)]; exact a3
  · rw [lo _ (by omega)]; exact a4 k k0 k1
  · rw [e11] at k1
    rw [lo 5 (by omega), lo (93 + k) (by omega)]
    by_cases e : k = C.1 11
    · subst e
      obtain ⟨q1, q2, q3, q4⟩ := addPal_new (ρ := C.1) (T := T) (τ := τ) (w := w) (s := s) ⟨a1.1, h5⟩
      rw [q1, q2, q3, a4 _ k0 (by omega)]
      refine ⟨by omega, hs, by omega, by omega, fun i i0 i1 => ?_⟩
      rw [q4 i i0 i1]
      refine ⟨fun h => ?_, fun h => if_neg (by omega)⟩
      rw [if_pos h]
      exact hl i i0 (by omega)
    · obtain ⟨q1, q2, q3, q4⟩ := addPal_old (ρ := C.1) (T := T) (τ := τ) (w := w) (s := s) ⟨a1.1, h5⟩ (k := k) ⟨k0, by omega⟩
      obtain ⟨p1, p2, p3, p4, p5⟩ := a5 k k0 (by omega)
      rw [q1, q2, q3]
      refine ⟨p1, p2, p3, p4, fun i i0 i1 => ?_⟩
      rw [q4 i i0 i1]
      exact p5 i i0 i1
  · rw [e11] at k1
    by_cases e : k = C.1 11
    · subst e
      rw [(addPal_new ⟨a1.1, h5⟩).1]
      exact hw.2
    · rw [(addPal_old ⟨a1.1, h5⟩ ⟨k0, by omega⟩).1]
      exact a6 k k0 (by omega)
  · rw [lo j (by omega)]; exact a8 j hj
theorem pkF_set {ρ : Row} {i x k : Int} (h : i < 98) (hk : 0 ≤ k) : pkF (rset ρ i x) k = pkF ρ k := by
  unfold pkF pkN
  rw [rset_ne (by omega)]
  exact fld_congr _ _ _ fun j a j0 j1 => by dsimp only; rw [rset_ne (by omega)]
theorem lineC_ok {T : Tq} (hL : T.2 ≤ 540) {σ : Sg} (h : SgOK T σ) (C : CD) : SgOK T (lineC T σ C).1 := by
  unfold lineC
  split
  · exact (num_ok hL (num_ok hL (iff_ok (word_ok hL (iff_ok h (by decide))).1 (by decide)) _ _).1 _ _).1
  · split
    · exact (num_ok hL (iff_ok h (by decide)) _ _).1
    · exact fail_ok h (by decide)
theorem pal_0 {T : Tq} {σ : Sg} {C : CD} (h : sE (palS3 T σ C).2 = 0) : (1 ≤ (palS2 T σ C).1 ∧ (palS2 T σ C).1 ≤ 99) ∧ (1 ≤ (palS3 T σ C).1 ∧ (palS3 T σ C).1 ≤ 9) ∧ C.1 11 < 5 ∧ callF C.1 (palS1 T σ C).1 = -1 ∧ sE (wordC T (palS0 σ C)).2 = 0 ∧ sE (palS0 σ C) = 0 ∧ palS0 σ C = σ := by
  have f3 := num_0 h
  have f2 := num_0 f3.1
  have f1 := iff_0 (by decide) f2.1
  have w := word_0 f1.2.2
  have f0 := iff_0 (by decide) (show sE (iff' (5 ≤ C.1 11) σ 4) = 0 from w.1)
  exact ⟨f2.2.2.2.1, f3.2.2.2.1, by omega, by omega, f1.2.2, w.1, f0.1⟩
theorem lineC_C {T : Tq} (hL : T.2 ≤ 540) {σ : Sg} (hs : SgOK T σ) {C : CD} (h : COK C) : COK (lineC T σ C).2 := by
  unfold lineC
  split
  · unfold palL
    dsimp only
    by_cases e : sE (palS3 T σ C).2 = 0
    · rw [if_pos e]
      obtain ⟨q1, q2, q3, q4, q5, q6, q7⟩ := pal_0 e
      have w := word_0 q5
      have hs0 : SgOK T (palS0 σ C) := iff_ok hs (by decide)
      obtain ⟨l1, l2⟩ := nxt_word hL hs0 q6 w.2.2.1
      exact addPal_ok h q3 q1 q2 (by omega) l2
    · rw [if_neg e]; exact h
  · split
    · unfold bulkL
      obtain ⟨a1, a2, a3, a4, a5, a6, a7, a8⟩ := h
      have hv := (num_ok hL (σ := iff' (C.2 = 1) σ 3) (iff_ok hs (by decide)) 0 198).2
      refine ⟨?_, ?_, ?_, fun k k0 k1 => ?_, fun k k0 k1 => ?_, fun k k0 k1 => ?_, Or.inr rfl, fun j hj => ?_⟩ <;> dsimp only at *
      · simp (disch := omega) only [rset_eq, rset_ne]; exact a1
      · simp (disch := omega) only [rset_eq, rset_ne]; exact hv
      · simp (disch := omega) only [rset_eq, rset_ne]; exact a3
      · simp (disch := omega) only [rset_eq, rset_ne]; exact a4 k k0 k1
      · simp (disch := omega) only [rset_eq, rset_ne] at k1
        simp (disch := omega) only [rset_eq, rset_ne]
        obtain ⟨p1, p2, p3, p4, p5⟩ := a5 k k0 k1
        refine ⟨p1, p2, p3, p4, fun i i0 i1 => ?_⟩
        simp (disch := omega) only [rset_eq, rset_ne]
        exact p5 i i0 i1
      · simp (disch := omega) only [rset_eq, rset_ne] at k1
        simp (disch := omega) only [rset_eq, rset_ne]
        exact a6 k k0 k1
      · simp (disch := omega) only [rset_eq, rset_ne]; exact a8 j hj
    · exact h
theorem loopC_ok {T : Tq} (hL : T.2 ≤ 540) : ∀ (n : Nat) {σ : Sg} {C : CD}, SgOK T σ → COK C → SgOK T (loopC T n σ C).1 ∧ COK (loopC T n σ C).2
  | 0, σ, C, hs, h => ⟨hs, h⟩
  | n + 1, σ, C, hs, h => by
    rw [loopC]
    have h1 := (nxt_ok hL hs).1
    split
    · exact loopC_ok hL n (lend_ok hL (lineC_ok hL h1 C)) (lineC_C hL h1 h)
    · exact ⟨h1, h⟩
theorem lineC_E {T : Tq} {σ : Sg} {C : CD} (h : C.1 12 ≤ 198) (hC : COK C) (h0 : sE (lineC T σ C).1 = 0) : (lineC T σ C).2.1 12 ≤ 198 := by
  unfold lineC at *
  by_cases e0 : tellsF T σ 9 = true
  · rw [if_pos e0] at h0 ⊢
    unfold palL
    dsimp only
    by_cases e : sE (palS3 T σ C).2 = 0
    · rw [if_pos e]
      obtain ⟨q1, q2, q3, -⟩ := pal_0 e
      dsimp only
      rw [addPal_lo (by omega) ⟨hC.1.1, q3⟩]
      exact h
    · rw [if_neg e]; exact h
  rw [if_neg e0] at h0 ⊢
  by_cases e0 : tellsF T σ 10 = true
  · rw [if_pos e0] at h0 ⊢
    have f1 := num_0 (show sE (bulkS1 T σ C).2 = 0 from h0)
    unfold bulkL
    dsimp only
    rw [rset_eq]
    exact f1.2.2.2.1.2
  rw [if_neg e0]
  exact h
theorem loopC_f {T : Tq} : ∀ (n : Nat) {σ : Sg} {C : CD}, sE (loopC T n σ C).1 = 0 → sE σ = 0
  | 0, σ, C, h => h
  | n + 1, σ, C, h => by
    rw [loopC] at h
    split at h
    · rename_i e
      rw [← nxt_E T σ]; exact e.1
    · rw [← nxt_E T σ]; exact h
theorem loopC_E {T : Tq} (hL : T.2 ≤ 540) : ∀ (n : Nat) {σ : Sg} {C : CD}, SgOK T σ → COK C → C.1 12 ≤ 198 → sE (loopC T n σ C).1 = 0 → (loopC T n σ C).2.1 12 ≤ 198
  | 0, σ, C, _, _, h, _ => h
  | n + 1, σ, C, hs, hC, h, h0 => by
    rw [loopC] at h0 ⊢
    have h1 := (nxt_ok hL hs).1
    split
    · rename_i e
      rw [if_pos e] at h0
      exact loopC_E hL n (lend_ok hL (lineC_ok hL h1 C)) (lineC_C hL h1 hC) (lineC_E h hC (lend_0 (loopC_f n h0)).1) h0
    · exact h
theorem cargoR_ok {T : Tq} (hL : 0 ≤ T.2 ∧ T.2 ≤ 540) : SgOK T (cargoR T).1 ∧ COK (cargoR T).2 ∧ (sE (cargoR T).1 = 0 → (cargoR T).2.1 12 ≤ 198) := by
  have h1 := beginC_ok hL.1 (T := T) (n := 300) (by omega)
  have h2 := loopC_ok hL.2 300 h1 C0_ok
  exact ⟨h2.1, h2.2, loopC_E hL.2 300 h1 C0_ok (by decide)⟩

