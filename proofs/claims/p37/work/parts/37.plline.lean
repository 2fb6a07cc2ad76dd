/-! 37.plline: taken from whole (wip/p37/port.py) -/
variable {n_ : Sh}
/-! 37.plline: each line leaves what is read good (wip/whole/src/37_plline.py) -/
/-- a word at hand: small letters, one to eight -/
theorem nxt_word {T : Tq} (hL : T.2 ≤ 540) {σ : Sg} (hs : SgOK T σ) (h0 : sE σ = 0) (h : sK (nxt T σ) = 1) : (0 ≤ sF (nxt T σ) ∧ 1 ≤ sT (nxt T σ) - sF (nxt T σ) ∧ sT (nxt T σ) - sF (nxt T σ) ≤ 8 ∧ sT (nxt T σ) ≤ T.2) ∧ letters (fun i => T.1 (sF (nxt T σ) + i)) (sT (nxt T σ) - sF (nxt T σ)).toNat := by
  have hok := (nxt_ok hL hs).1
  unfold SgOK at hok
  have key : ∀ a pl : Int, sK (nx2 T a pl) = 1 → 1 ≤ sT (nx2 T a pl) - sF (nx2 T a pl) ∧ sT (nx2 T a pl) - sF (nx2 T a pl) ≤ 8 ∧ letters (fun i => T.1 (sF (nx2 T a pl) + i)) (sT (nx2 T a pl) - sF (nx2 T a pl)).toNat := by
    intro a pl h
    unfold nx2 at *
    by_cases h1 : T.2 ≤ a
    · rw [if_pos h1] at h; exact absurd h (show ¬ (0 : Int) = 1 by decide)
    · rw [if_neg h1] at h ⊢
      by_cases h2 : T.1 a = 59
      · rw [if_pos h2] at h; exact absurd h (show ¬ (3 : Int) = 1 by decide)
      · rw [if_neg h2] at h ⊢
        simp only [mkT, mkF, mkK] at h ⊢
        obtain ⟨q1, q2, q3, q4⟩ := dgE_spec (f := T.1) (T.2 - a).toNat a
        generalize runE (fun i => isAl (T.1 i)) (T.2 - a).toNat a = e at *
        generalize dgE T.1 (T.2 - a).toNat a = d at *
        unfold kindF at h
        by_cases c1 : d = 0 ∧ 1 ≤ e - a ∧ e - a ≤ 8
        · refine ⟨c1.2.1, c1.2.2, fun i i0 i1 => ?_⟩
          exact of_decide_eq_true (q4 c1.1 (a + i) (by omega) (by omega))
        · rw [if_neg c1] at h
          split at h <;> omega
  unfold nxt at *
  rw [if_neg (show ¬ sE σ ≠ 0 by omega)] at *
  have q := key _ _ h
  exact ⟨⟨by omega, q.1, q.2.1, by omega⟩, q.2.2⟩
theorem word_name {T : Tq} (hL : T.2 ≤ 540) {σ : Sg} (hs : SgOK T σ) (h : sE (wordC T σ).2 = 0) : 0 < (wordC T σ).1 ∧ (wordC T σ).1 < 1099511627776 := by
  refine ⟨?_, (word_ok hL hs).2.2⟩
  obtain ⟨a, b, c, d, e⟩ := word_0 h
  obtain ⟨q1, q2⟩ := nxt_word hL hs a c
  rw [e]
  rcases pkC_eq (T := T) (a := sF (nxt T σ)) (e := sT (nxt T σ)) (by omega) with ⟨h1, h2⟩ | ⟨h1, h2⟩
  · rw [h2]
    exact (pkN_nn _ h1).2 (by omega)
  · exact absurd q2 h1
theorem lineP_D {T : Tq} (hL : T.2 ≤ 540) {σ : Sg} (hs : SgOK T σ) {D : PD} (h : DOK D) : DOK (lineP T σ D).2 := by
  have hc := h.1
  unfold cntOK at hc
  unfold lineP
  by_cases e0 : tellsF T σ 0 = true
  · rw [if_pos e0]
    refine h.lo (fun j hj => ?_) rfl ⟨Or.inr rfl, h.2.2.2.2.2.2.2.2.2.2.1.2⟩
    unfold emptyL
    simp (disch := omega) only [rset_ne]
  rw [if_neg e0]
  by_cases e0 : tellsF T σ 1 = true
  · rw [if_pos e0]
    refine h.lo (fun j hj => ?_) rfl ⟨h.2.2.2.2.2.2.2.2.2.2.1.1, Or.inr rfl⟩
    unfold spanL
    simp (disch := omega) only [rset_ne]
  rw [if_neg e0]
  by_cases e0 : tellsF T σ 2 = true
  · rw [if_pos e0]
    unfold holdL
    dsimp only
    by_cases e : sE (holdS3 T σ D).2 = 0
    · rw [if_pos e]
      have f3 := front_0 e
      have f2 := num_0 f3.1
      have f1 := newN_0 f2.1
      have f1e : sE (wordC T (iff' (3 ≤ D.1 4) σ 4)).2 = 0 := by rw [← f1.1]; exact f2.1
      have f0 := iff_0 (by decide) (word_0 f1e).1
      refine addHold_ok h (by omega) ?_ f2.2.2.2.1 (front_ok hL (num_ok hL (newN_ok hL (iff_ok hs (by decide)) D).1 _ _).1).2
      unfold holdS1
      rw [f1.1]
      exact word_name hL (iff_ok hs (by decide)) f1e
    · rw [if_neg e]; exact h
  rw [if_neg e0]
  by_cases e0 : tellsF T σ 3 = true
  · rw [if_pos e0]
    unfold spotL
    dsimp only
    by_cases e : sE (spotS2 T σ D).2 = 0
    · rw [if_pos e]
      have f2 := num_0 e
      have f1 := num_0 f2.1
      have f0 := iff_0 (by decide) f1.1
      have g0 := iff_0 (by decide) f0.2.2
      exact addSpot_ok h (by omega) f0.2.1 f1.2.2.2.1 f2.2.2.2.1
    · rw [if_neg e]; exact h
  rw [if_neg e0]
  by_cases e0 : tellsF T σ 4 = true
  · rw [if_pos e0]
    unfold jointL
    dsimp only
    by_cases e : sE (jointS1 T σ D).2 = 0
    · rw [if_pos e]
      have f1 := num_0 e
      have f0 := iff_0 (by decide) f1.1
      exact addJoint_ok h (by simpa using f0.2.1) f1.2.2.2.1
    · rw [if_neg e]; exact h
  rw [if_neg e0]
  by_cases e0 : tellsF T σ 5 = true
  · rw [if_pos e0]
    unfold binL
    dsimp only
    by_cases e : sE (binS2 T σ D).2 = 0
    · rw [if_pos e]
      have f2 := num_0 e
      have f1 := num_0 f2.1
      have f0 := iff_0 (by decide) f1.1
      exact addBin_ok h (by omega) f1.2.2.2.1 f2.2.2.2.1
    · rw [if_neg e]; exact h
  rw [if_neg e0]
  by_cases e0 : tellsF T σ 6 = true
  · rw [if_pos e0]
    unfold tankL
    dsimp only
    by_cases e : sE (tankS3 T σ D).2 = 0
    · rw [if_pos e]
      have f3 := num_0 e
      have f2 := num_0 f3.1
      have f1 := newN_0 f2.1
      have f1e : sE (wordC T (iff' (3 ≤ D.1 8) σ 4)).2 = 0 := by rw [← f1.1]; exact f2.1
      have f0 := iff_0 (by decide) (word_0 f1e).1
      refine addTank_ok h (by omega) ?_ f2.2.2.2.1 f3.2.2.2.1
      unfold tankS1
      rw [f1.1]
      exact word_name hL (iff_ok hs (by decide)) f1e
    · rw [if_neg e]; exact h
  rw [if_neg e0]
  by_cases e0 : tellsF T σ 7 = true
  · rw [if_pos e0]
    unfold burnL
    dsimp only
    by_cases e : sE (burnS2 T σ D).2 = 0
    · rw [if_pos e]
      have f2 := num_0 e
      have f1 := iff_0 (by decide) f2.1
      have f0 := iff_0 (by decide) (word_0 f1.2.2).1
      have ht := tankF_rng (D := D) (by omega) (burnS1 T σ D).1
      have h2 := f2.2.2.2.1
      exact addBurn_ok h (by omega) (ht.resolve_left f1.2.1) ⟨h2.1, Int.le_trans h2.2 (Int.le_of_eq (if_neg f1.2.1))⟩
    · rw [if_neg e]; exact h
  rw [if_neg e0]
  by_cases e0 : tellsF T σ 8 = true
  · rw [if_pos e0]
    unfold stopL
    by_cases e : 12 ≤ D.1 9 ∨ 4 ≤ D.1 10
    · rw [if_pos e]; exact h
    · rw [if_neg e]
      exact addStop_ok h (by omega) (by omega)
  rw [if_neg e0]
  exact h
theorem loopP_ok {T : Tq} (hL : T.2 ≤ 540) : ∀ (n : Nat) {σ : Sg} {D : PD}, SgOK T σ → DOK D → SgOK T (loopP T n σ D).1 ∧ DOK (loopP T n σ D).2
  | 0, σ, D, hs, h => ⟨hs, h⟩
  | n + 1, σ, D, hs, h => by
    rw [loopP]
    have h1 := (nxt_ok hL hs).1
    split
    · exact loopP_ok hL n (lend_ok hL (lineP_ok hL h1 D)) (lineP_D hL h1 h)
    · exact ⟨h1, h⟩
/-- a line's end is one byte at least -/
theorem lend_0 {T : Tq} {σ : Sg} (h : sE (lendC T σ) = 0) : sE σ = 0 ∧ lendC T σ = nxt T σ ∧ sK (nxt T σ) = 3 ∧ sT σ < sT (nxt T σ) := by
  have hE := nxt_E T σ
  rw [lendC_eq] at *
  by_cases e : sK (nxt T σ) ≠ 3
  · rw [if_pos e] at h
    exact absurd h (fail_yes (by decide))
  · rw [if_neg e] at h ⊢
    have e2 : sK (nxt T σ) = 3 := by omega
    have e0 : sE σ = 0 := by omega
    refine ⟨e0, rfl, e2, ?_⟩
    clear h e hE
    unfold nxt at *
    rw [if_neg (show ¬ sE σ ≠ 0 by omega)] at *
    have q := (runE_spec (q := isSp T.1) (T.2 - sT σ).toNat (sT σ)).1
    generalize runE (isSp T.1) (T.2 - sT σ).toNat (sT σ) = a at *
    unfold nx2 at *
    by_cases h1 : T.2 ≤ a
    · rw [if_pos h1] at e2; exact absurd e2 (show ¬ (0 : Int) = 3 by decide)
    · rw [if_neg h1] at e2 ⊢
      by_cases h2 : T.1 a = 59
      · rw [if_pos h2]; simp only [mkT]; omega
      · rw [if_neg h2] at e2
        exfalso
        simp only [mkK] at e2
        unfold kindF at e2
        split at e2
        · omega
        · split at e2 <;> omega

