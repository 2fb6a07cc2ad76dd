/-! 20.steps: what the calls do with a row, and that it stays a good one (wip/whole/src/20_steps.py) -/
theorem rset_ne {ρ : Row} {i x j : Int} (h : j ≠ i) : rset ρ i x j = ρ j := if_neg h
theorem rset_eq {ρ : Row} {i x : Int} : rset ρ i x i = x := if_pos rfl
theorem rset_rset {ρ : Row} {i x y : Int} : rset (rset ρ i x) i y = rset ρ i y := by
  funext j
  by_cases h : j = i
  · rw [h, rset_eq, rset_eq]
  · rw [rset_ne h, rset_ne h, rset_ne h]
theorem rset_id {ρ : Row} {i : Int} : rset ρ i (ρ i) = ρ := by
  funext j
  by_cases h : j = i
  · rw [h, rset_eq]
  · rw [rset_ne h]
theorem rset_z {ρ : Row} {i x : Int} (hi : 0 ≤ i ∧ i < 143) (h : ∀ j, ¬ (0 ≤ j ∧ j < 143) → ρ j = 0) : ∀ j, ¬ (0 ≤ j ∧ j < 143) → rset ρ i x j = 0 := fun j hj => (rset_ne (by omega)).trans (h j hj)
theorem WF.of {ρ ρ' : Row} (hw : WF ρ) (e : PlEq ρ ρ') (h1 : 0 ≤ ρ' 11 ∧ ρ' 11 ≤ 5) (h2 : ρ' 12 = ρ 12) (h3 : ∀ b, 0 ≤ b → b < 2 → (b < ρ 7 → 0 ≤ ρ' (51 + b) ∧ ρ' (51 + b) ≤ ρ (49 + b)) ∧ (ρ 7 ≤ b → ρ' (51 + b) = 0)) (hp : WFp ρ') (hd : WFd ρ') : WF ρ' := by
  have hn := hw.1.1
  unfold WFn at hn
  refine ⟨e.wfP hw.1 h1 (by omega), fun b b0 b1 => ?_, hp, hd⟩
  have q := hw.2.1 b b0 b1
  rw [e 7 (by omega), e (47 + b) (by omega), e (49 + b) (by omega)]
  exact ⟨fun h => ⟨(q.1 h).1, (q.1 h).2.1, (h3 b b0 b1).1 h⟩, (h3 b b0 b1).2⟩
theorem WF.bins {ρ : Row} (hw : WF ρ) {ρ' : Row} (h : ∀ b, 0 ≤ b → b < 2 → ρ' (51 + b) = ρ (51 + b)) : ∀ b, 0 ≤ b → b < 2 → (b < ρ 7 → 0 ≤ ρ' (51 + b) ∧ ρ' (51 + b) ≤ ρ (49 + b)) ∧ (ρ 7 ≤ b → ρ' (51 + b) = 0) := fun b b0 b1 => by
  have q := hw.2.1 b b0 b1
  rw [h b b0 b1]
  exact ⟨fun h => (q.1 h).2.2, q.2⟩
theorem WFp.of {ρ ρ' : Row} (hp : WFp ρ) (σ : Int → Int) (h : ∀ k, 0 ≤ k → k < ρ' 11 → (0 ≤ σ k ∧ σ k < ρ 11) ∧ ρ' (88 + k) = ρ (88 + σ k) ∧ ρ' (98 + k) = ρ (98 + σ k) ∧ ∀ i, 0 ≤ i → i < 8 → ρ' (103 + 8 * k + i) = ρ (103 + 8 * σ k + i))
    (h1 : ∀ k, 0 ≤ k → k < ρ' 11 → 1 ≤ ρ' (83 + k) ∧ ρ' (83 + k) ≤ 198) (h2 : ∀ k, 0 ≤ k → k < ρ' 11 → -1 ≤ ρ' (93 + k) ∧ ρ' (93 + k) < ρ' 5) : WFp ρ' := by
  intro k k0 k1
  obtain ⟨a, b, c, d⟩ := h k k0 k1
  obtain ⟨q1, q2, q3, q4, q5⟩ := hp (σ k) a.1 a.2
  refine ⟨h1 k k0 k1, by rw [b]; exact q2, h2 k k0 k1, by rw [c]; exact q4, fun i i0 i1 => ?_⟩
  rw [c, d i i0 i1]
  exact q5 i i0 i1
/-- one cell of a pallet is set: the weight or where it lies -/
theorem WFp.set {ρ : Row} (hn : WFn ρ) (hp : WFp ρ) {j x : Int} (hj : (83 ≤ j ∧ j < 88 ∧ 1 ≤ x ∧ x ≤ 198) ∨ (93 ≤ j ∧ j < 98 ∧ -1 ≤ x ∧ x < ρ 5)) : WFp (rset ρ j x) := by
  unfold WFn at hn
  refine hp.of (fun k => k) (fun k k0 k1 => ?_) (fun k k0 k1 => ?_) (fun k k0 k1 => ?_)
  · rw [rset_ne (by omega)] at k1
    exact ⟨⟨k0, k1⟩, rset_ne (by omega), rset_ne (by omega), fun i i0 i1 => rset_ne (by omega)⟩
  · rw [rset_ne (by omega)] at k1
    have q := (hp k k0 k1).1
    by_cases e : 83 + k = j
    · rw [e, rset_eq]; omega
    · rw [rset_ne e]; exact q
  · rw [rset_ne (by omega)] at k1
    have q := (hp k k0 k1).2.2.1
    rw [rset_ne (i := j) (j := 5) (by omega)]
    by_cases e : 93 + k = j
    · rw [e, rset_eq]; omega
    · rw [rset_ne e]; exact q
theorem WF.weigh {ρ : Row} (hw : WF ρ) {k w : Int} (hk : 0 ≤ k ∧ k < ρ 11) (h : 1 ≤ w ∧ w ≤ 198) : WF (rset ρ (83 + k) w) := by
  have hn := hw.1.1
  unfold WFn at hn
  refine hw.of ((PlEq.rf ρ).set (by omega)) (by rw [rset_ne (by omega)]; omega) (rset_ne (by omega)) (hw.bins (fun b b0 b1 => rset_ne (by omega))) (hw.2.2.1.set hw.1.1 (by omega)) (fun i j i0 i1 j1 e => ?_)
  rw [rset_ne (by omega)] at j1
  rw [rset_ne (by omega), rset_ne (by omega)] at e
  rw [rset_ne (by omega)]
  exact hw.2.2.2 i j i0 i1 j1 e
theorem onF_none {ρ : Row} {s : Int} (h : onF ρ s < 0) : ∀ k, 0 ≤ k → k < ρ 11 → ρ (93 + k) ≠ s := by
  unfold onF at h
  rcases fnd_spec (p := fun k => decide (ρ (93 + k) = s)) (ρ 11).toNat 0 with ⟨_, h2⟩ | ⟨h1, _⟩
  · intro k k0 k1 e
    have := h2 k (by omega) (by omega)
    simp [e] at this
  · omega
theorem WF.lies {ρ : Row} (hw : WF ρ) {k s : Int} (hk : 0 ≤ k ∧ k < ρ 11) (h : s = -1 ∨ (0 ≤ s ∧ s < ρ 5 ∧ onF ρ s < 0)) : WF (rset ρ (93 + k) s) := by
  have hn := hw.1.1
  unfold WFn at hn
  refine hw.of ((PlEq.rf ρ).set (by omega)) (by rw [rset_ne (by omega)]; omega) (rset_ne (by omega)) (hw.bins (fun b b0 b1 => rset_ne (by omega))) (hw.2.2.1.set hw.1.1 (by omega)) (fun i j i0 i1 j1 e => ?_)
  rw [rset_ne (by omega)] at j1
  by_cases ei : i = k
  · subst ei
    rw [rset_eq, rset_ne (by omega)] at e
    rw [rset_eq]
    rcases h with h | ⟨_, _, h⟩
    · exact h
    · exact absurd e.symm (onF_none h j (by omega) (by omega))
  · rw [rset_ne (j := 93 + i) (by omega)] at e ⊢
    by_cases ej : j = k
    · subst ej
      rw [rset_eq] at e
      rcases h with h | ⟨_, _, h⟩
      · omega
      · exact absurd e (onF_none h i (by omega) (by omega))
    · rw [rset_ne (by omega)] at e
      exact hw.2.2.2 i j i0 i1 j1 e
theorem WF.pour {ρ : Row} (hw : WF ρ) {b n : Int} (hb : 0 ≤ b ∧ b < ρ 7) (h : 0 ≤ n ∧ n ≤ ρ (49 + b)) : WF (rset ρ (51 + b) n) := by
  have hn := hw.1.1
  unfold WFn at hn
  refine hw.of ((PlEq.rf ρ).set (by omega)) (by rw [rset_ne (by omega)]; omega) (rset_ne (by omega)) (fun d d0 d1 => ?_) ?_ (fun i j i0 i1 j1 e => ?_)
  · have q := hw.2.1 d d0 d1
    by_cases e : d = b
    · subst e
      rw [rset_eq]
      omega
    · rw [rset_ne (by omega)]
      exact ⟨fun h => (q.1 h).2.2, q.2⟩
  · refine hw.2.2.1.of (fun k => k) (fun k k0 k1 => ?_) (fun k k0 k1 => ?_) (fun k k0 k1 => ?_)
    · rw [rset_ne (by omega)] at k1
      exact ⟨⟨k0, k1⟩, rset_ne (by omega), rset_ne (by omega), fun i i0 i1 => rset_ne (by omega)⟩
    · rw [rset_ne (by omega)] at k1 ⊢
      exact (hw.2.2.1 k k0 k1).1
    · rw [rset_ne (by omega)] at k1
      rw [rset_ne (by omega), rset_ne (by omega)]
      exact (hw.2.2.1 k k0 k1).2.2.1
  · rw [rset_ne (by omega)] at j1
    rw [rset_ne (by omega), rset_ne (by omega)] at e
    rw [rset_ne (by omega)]
    exact hw.2.2.2 i j i0 i1 j1 e
/-- two pallets change their places -/
def swR (ρ : Row) (a b : Int) : Row := rset (rset ρ (93 + a) (ρ (93 + b))) (93 + b) (ρ (93 + a))
theorem sw_at {ρ : Row} {a b k : Int} : swR ρ a b (93 + k) = if k = b then ρ (93 + a) else if k = a then ρ (93 + b) else ρ (93 + k) := by
  unfold swR rset
  by_cases h1 : k = b
  · rw [if_pos (by omega), if_pos h1]
  · rw [if_neg (by omega), if_neg h1]
    by_cases h2 : k = a
    · rw [if_pos (by omega), if_pos h2]
    · rw [if_neg (by omega), if_neg h2]
theorem sw_ne {ρ : Row} {a b j : Int} (h : j ≠ 93 + a) (h2 : j ≠ 93 + b) : swR ρ a b j = ρ j := by
  unfold swR
  rw [rset_ne h2, rset_ne h]
theorem sw_comm {ρ : Row} {a b : Int} (h : a ≠ b) : swR ρ a b = swR ρ b a := by
  funext j
  unfold swR rset
  by_cases h1 : j = 93 + b
  · rw [if_pos h1, if_neg (by omega), if_pos h1]
  · rw [if_neg h1]
    by_cases h2 : j = 93 + a
    · rw [if_pos h2, if_pos h2]
    · rw [if_neg h2, if_neg h2, if_neg h1]
theorem sw_sw {ρ : Row} {a b : Int} (h : a ≠ b) : swR (swR ρ a b) a b = ρ := by
  funext j
  by_cases h1 : j = 93 + b
  · rw [h1, sw_at, if_pos rfl, sw_at, if_neg h, if_pos rfl]
  · by_cases h2 : j = 93 + a
    · rw [h2, sw_at, if_neg h, if_pos rfl, sw_at, if_pos rfl]
    · rw [sw_ne h2 h1, sw_ne h2 h1]
theorem WF.sw {ρ : Row} (hw : WF ρ) {a b : Int} (ha : 0 ≤ a ∧ a < ρ 11) (hb : 0 ≤ b ∧ b < ρ 11) (hab : a ≠ b) : WF (swR ρ a b) := by
  have hn := hw.1.1
  unfold WFn at hn
  have qa := (hw.2.2.1 a (by omega) (by omega)).2.2.1
  have qb := (hw.2.2.1 b (by omega) (by omega)).2.2.1
  refine hw.of (((PlEq.rf ρ).set (by omega)).set (by omega)) (by rw [sw_ne (by omega) (by omega)]; omega) (sw_ne (by omega) (by omega)) (hw.bins (fun b b0 b1 => sw_ne (by omega) (by omega))) (((hw.2.2.1.set hw.1.1 (by omega)).set (by unfold WFn; simp only [rset_ne (show (4 : Int) ≠ 93 + a by omega), rset_ne (show (5 : Int) ≠ 93 + a by omega), rset_ne (show (6 : Int) ≠ 93 + a by omega), rset_ne (show (7 : Int) ≠ 93 + a by omega), rset_ne (show (8 : Int) ≠ 93 + a by omega), rset_ne (show (9 : Int) ≠ 93 + a by omega), rset_ne (show (10 : Int) ≠ 93 + a by omega), rset_ne (show (11 : Int) ≠ 93 + a by omega), rset_ne (show (12 : Int) ≠ 93 + a by omega), rset_ne (show (0 : Int) ≠ 93 + a by omega), rset_ne (show (1 : Int) ≠ 93 + a by omega), rset_ne (show (2 : Int) ≠ 93 + a by omega), rset_ne (show (3 : Int) ≠ 93 + a by omega)]; omega) (by rw [rset_ne (by omega)]; omega))) (fun i j i0 i1 j1 e => ?_)
  rw [sw_ne (by omega) (by omega)] at j1
  rw [sw_at, sw_at] at e
  rw [sw_at]
  have D := fun x y (x0 : 0 ≤ x) (x1 : x < ρ 11) (y0 : 0 ≤ y) (y1 : y < ρ 11) (hxy : x ≠ y) (e : ρ (93 + x) = ρ (93 + y)) => show ρ (93 + x) = -1 from by
    rcases Int.lt_trichotomy x y with h | h | h
    · exact hw.2.2.2 x y x0 h y1 e
    · exact absurd h hxy
    · rw [e]; exact hw.2.2.2 y x y0 h x1 e.symm
  by_cases e1 : i = b
  · rw [if_pos e1] at e ⊢
    by_cases e2 : j = b
    · omega
    · rw [if_neg e2] at e
      by_cases e3 : j = a
      · rw [if_pos e3] at e
        exact D a b (by omega) (by omega) (by omega) (by omega) hab e
      · rw [if_neg e3] at e
        exact D a j (by omega) (by omega) (by omega) (by omega) (by omega) e
  · rw [if_neg e1] at e ⊢
    by_cases e4 : i = a
    · rw [if_pos e4] at e ⊢
      by_cases e2 : j = b
      · rw [if_pos e2] at e
        exact D b a (by omega) (by omega) (by omega) (by omega) (by omega) e
      · rw [if_neg e2, if_neg (by omega)] at e
        exact D b j (by omega) (by omega) (by omega) (by omega) (by omega) e
    · rw [if_neg e4] at e ⊢
      by_cases e2 : j = b
      · rw [if_pos e2] at e
        exact D i a (by omega) (by omega) (by omega) (by omega) (by omega) e
      · rw [if_neg e2] at e
        by_cases e3 : j = a
        · rw [if_pos e3] at e
          exact D i b (by omega) (by omega) (by omega) (by omega) (by omega) e
        · rw [if_neg e3] at e
          exact D i j (by omega) (by omega) (by omega) (by omega) (by omega) e
/-- the pallets in another order -/
def pmR (ρ : Row) (σ : Int → Int) : Row := fun j => if 83 ≤ j ∧ j < 88 then ρ (83 + σ (j - 83)) else if 88 ≤ j ∧ j < 93 then ρ (88 + σ (j - 88)) else if 93 ≤ j ∧ j < 98 then ρ (93 + σ (j - 93)) else if 98 ≤ j ∧ j < 103 then ρ (98 + σ (j - 98)) else if 103 ≤ j ∧ j < 143 then ρ (103 + 8 * σ ((j - 103) / 8) + (j - 103) % 8) else ρ j
theorem pm_lo {ρ : Row} {σ : Int → Int} {j : Int} (h : j < 83 ∨ 143 ≤ j) : pmR ρ σ j = ρ j := by
  unfold pmR
  rw [if_neg (by omega), if_neg (by omega), if_neg (by omega), if_neg (by omega), if_neg (by omega)]
theorem pm_83 {ρ : Row} {σ : Int → Int} {k : Int} (h : 0 ≤ k ∧ k < 5) : pmR ρ σ (83 + k) = ρ (83 + σ k) := by
  unfold pmR
  rw [if_pos (by omega), show 83 + k - 83 = k by omega]
theorem pm_88 {ρ : Row} {σ : Int → Int} {k : Int} (h : 0 ≤ k ∧ k < 5) : pmR ρ σ (88 + k) = ρ (88 + σ k) := by
  unfold pmR
  rw [if_neg (by omega), if_pos (by omega), show 88 + k - 88 = k by omega]
theorem pm_93 {ρ : Row} {σ : Int → Int} {k : Int} (h : 0 ≤ k ∧ k < 5) : pmR ρ σ (93 + k) = ρ (93 + σ k) := by
  unfold pmR
  rw [if_neg (by omega), if_neg (by omega), if_pos (by omega), show 93 + k - 93 = k by omega]
theorem pm_98 {ρ : Row} {σ : Int → Int} {k : Int} (h : 0 ≤ k ∧ k < 5) : pmR ρ σ (98 + k) = ρ (98 + σ k) := by
  unfold pmR
  rw [if_neg (by omega), if_neg (by omega), if_neg (by omega), if_pos (by omega), show 98 + k - 98 = k by omega]
theorem pm_103 {ρ : Row} {σ : Int → Int} {k i : Int} (h : 0 ≤ k ∧ k < 5) (hi : 0 ≤ i ∧ i < 8) : pmR ρ σ (103 + 8 * k + i) = ρ (103 + 8 * σ k + i) := by
  unfold pmR
  rw [if_neg (by omega), if_neg (by omega), if_neg (by omega), if_neg (by omega), if_pos (by omega), show (103 + 8 * k + i - 103) / 8 = k by omega, show (103 + 8 * k + i - 103) % 8 = i by omega]
theorem pm_id {ρ : Row} : pmR ρ (fun i => i) = ρ := by
  funext j
  unfold pmR
  split
  · congr 1; (try dsimp only); omega
  · split
    · congr 1; (try dsimp only); omega
    · split
      · congr 1; (try dsimp only); omega
      · split
        · congr 1; (try dsimp only); omega
        · split
          · congr 1; (try dsimp only); omega
          · rfl
theorem pm_congr {ρ : Row} {σ τ : Int → Int} (h : ∀ k, 0 ≤ k → k < 5 → σ k = τ k) : pmR ρ σ = pmR ρ τ := by
  funext j
  unfold pmR
  split
  · rw [h _ (by omega) (by omega)]
  · split
    · rw [h _ (by omega) (by omega)]
    · split
      · rw [h _ (by omega) (by omega)]
      · split
        · rw [h _ (by omega) (by omega)]
        · split
          · rw [h _ (by omega) (by omega)]
          · rfl
/-- pallet a of one row as pallet b of another one -/
def mvR (ρ σ : Row) (a b : Int) : Row := fun j => if j = 83 + b then σ (83 + a) else if j = 88 + b then σ (88 + a) else if j = 93 + b then σ (93 + a) else if j = 98 + b then σ (98 + a) else if 103 + 8 * b ≤ j ∧ j < 103 + 8 * b + 8 then σ (103 + 8 * a + (j - (103 + 8 * b))) else ρ j
theorem mv_pm {ρ : Row} {σ τ : Int → Int} {a b : Int} (ha : 0 ≤ a ∧ a < 5) (hb : 0 ≤ b ∧ b < 5) : mvR (pmR ρ σ) (pmR ρ τ) a b = pmR ρ (fun i => if i = b then τ a else σ i) := by
  funext j
  unfold mvR
  rw [pm_83 ha, pm_88 ha, pm_93 ha, pm_98 ha]
  by_cases h1 : 83 ≤ j ∧ j < 88
  · rw [show j = 83 + (j - 83) by omega, pm_83 (by omega), pm_83 (by omega)]
    by_cases e : j - 83 = b
    · rw [if_pos (by omega), if_pos e]
    · rw [if_neg (by omega), if_neg (by omega), if_neg (by omega), if_neg (by omega), if_neg (by omega), if_neg e]
  · by_cases h2 : 88 ≤ j ∧ j < 93
    · rw [show j = 88 + (j - 88) by omega, pm_88 (by omega), pm_88 (by omega), if_neg (by omega)]
      by_cases e : j - 88 = b
      · rw [if_pos (by omega), if_pos e]
      · rw [if_neg (by omega), if_neg (by omega), if_neg (by omega), if_neg (by omega), if_neg e]
    · by_cases h3 : 93 ≤ j ∧ j < 98
      · rw [show j = 93 + (j - 93) by omega, pm_93 (by omega), pm_93 (by omega), if_neg (by omega), if_neg (by omega)]
        by_cases e : j - 93 = b
        · rw [if_pos (by omega), if_pos e]
        · rw [if_neg (by omega), if_neg (by omega), if_neg (by omega), if_neg e]
      · by_cases h4 : 98 ≤ j ∧ j < 103
        · rw [show j = 98 + (j - 98) by omega, pm_98 (by omega), pm_98 (by omega), if_neg (by omega), if_neg (by omega), if_neg (by omega)]
          by_cases e : j - 98 = b
          · rw [if_pos (by omega), if_pos e]
          · rw [if_neg (by omega), if_neg (by omega), if_neg e]
        · rw [if_neg (by omega), if_neg (by omega), if_neg (by omega), if_neg (by omega)]
          by_cases h5 : 103 ≤ j ∧ j < 143
          · obtain ⟨k, i, hk, hi, rfl⟩ : ∃ k i : Int, (0 ≤ k ∧ k < 5) ∧ (0 ≤ i ∧ i < 8) ∧ j = 103 + 8 * k + i := ⟨(j - 103) / 8, (j - 103) % 8, by omega, by omega, by omega⟩
            rw [pm_103 hk hi, pm_103 hk hi]
            by_cases e : k = b
            · subst e
              rw [if_pos (by omega), if_pos rfl, pm_103 ha (by omega)]
              congr 1
              omega
            · rw [if_neg (by omega), if_neg e]
          · rw [if_neg (by omega), pm_lo (by omega), pm_lo (by omega)]
/-- behind k all go one ahead -/
def shf (k n : Int) : Int → Int := fun i => if k ≤ i ∧ i < n then i + 1 else i
/-- and k comes last -/
def lst (k n : Int) : Int → Int := fun i => if k ≤ i ∧ i < n then i + 1 else if i = n then k else i
theorem WF.pm {ρ : Row} (hw : WF ρ) (σ : Int → Int) {n : Int} (h0 : 0 ≤ n ∧ n ≤ ρ 11) (h : ∀ k, 0 ≤ k → k < n → 0 ≤ σ k ∧ σ k < ρ 11) (hi : ∀ i j, 0 ≤ i → i < j → j < n → σ i ≠ σ j) : WF (rset (pmR ρ σ) 11 n) := by
  have hn := hw.1.1
  unfold WFn at hn
  have e : PlEq ρ (rset (pmR ρ σ) 11 n) := fun j hj => (rset_ne (by omega)).trans (pm_lo (by omega))
  refine hw.of e (by rw [rset_eq]; omega) ((rset_ne (by omega)).trans (pm_lo (by omega))) (hw.bins (fun b b0 b1 => (rset_ne (by omega)).trans (pm_lo (by omega)))) ?_ (fun i j i0 i1 j1 e => ?_)
  · refine hw.2.2.1.of σ (fun k k0 k1 => ?_) (fun k k0 k1 => ?_) (fun k k0 k1 => ?_)
    · rw [rset_eq] at k1
      exact ⟨h k k0 k1, (rset_ne (by omega)).trans (pm_88 (by omega)), (rset_ne (by omega)).trans (pm_98 (by omega)), fun i i0 i1 => (rset_ne (by omega)).trans (pm_103 (by omega) (by omega))⟩
    · rw [rset_eq] at k1
      rw [rset_ne (by omega), pm_83 (by omega)]
      exact (hw.2.2.1 (σ k) (h k k0 k1).1 (h k k0 k1).2).1
    · rw [rset_eq] at k1
      rw [rset_ne (by omega), pm_93 (by omega), rset_ne (by omega), pm_lo (by omega)]
      exact (hw.2.2.1 (σ k) (h k k0 k1).1 (h k k0 k1).2).2.2.1
  · rw [rset_eq] at j1
    rw [rset_ne (by omega), rset_ne (by omega), pm_93 (by omega), pm_93 (by omega)] at e
    rw [rset_ne (by omega), pm_93 (by omega)]
    have a := h i i0 (by omega)
    have b := h j (by omega) j1
    rcases Int.lt_trichotomy (σ i) (σ j) with q | q | q
    · exact hw.2.2.2 _ _ a.1 q b.2 e
    · exact absurd q (hi i j i0 i1 j1)
    · rw [e]; exact hw.2.2.2 _ _ b.1 q a.2 e.symm
/-- a late one comes -/
def comR (ρ : Row) (w t : Int) : Row := fun j => if j = 11 then ρ 11 + 1 else if j = 83 + ρ 11 then w else if j = 88 + ρ 11 then t else if j = 93 + ρ 11 then -1 else if j = 98 + ρ 11 then 0 else if 103 + 8 * ρ 11 ≤ j ∧ j < 103 + 8 * ρ 11 + 8 then 0 else ρ j
theorem com_ne {ρ : Row} {w t j : Int} (h : j ≠ 11 ∧ j ≠ 83 + ρ 11 ∧ j ≠ 88 + ρ 11 ∧ j ≠ 93 + ρ 11 ∧ j ≠ 98 + ρ 11 ∧ ¬ (103 + 8 * ρ 11 ≤ j ∧ j < 103 + 8 * ρ 11 + 8)) : comR ρ w t j = ρ j := by
  unfold comR
  rw [if_neg h.1, if_neg h.2.1, if_neg h.2.2.1, if_neg h.2.2.2.1, if_neg h.2.2.2.2.1, if_neg h.2.2.2.2.2]
theorem WF.com {ρ : Row} (hw : WF ρ) {w t : Int} (h : ρ 11 < 5) (hx : 1 ≤ w ∧ w ≤ 99) (ht : 1 ≤ t ∧ t ≤ 9) : WF (comR ρ w t) := by
  have hn := hw.1.1
  unfold WFn at hn
  have e11 : comR ρ w t 11 = ρ 11 + 1 := if_pos rfl
  refine hw.of (fun j hj => com_ne (by omega)) (by rw [e11]; omega) (com_ne (by omega)) (hw.bins (fun b b0 b1 => com_ne (by omega))) (fun k k0 k1 => ?_) (fun i j i0 i1 j1 e => ?_)
  · rw [e11] at k1
    by_cases hk : k = ρ 11
    · subst hk
      rw [show comR ρ w t (83 + ρ 11) = w by unfold comR; rw [if_neg (by omega), if_pos rfl], show comR ρ w t (88 + ρ 11) = t by unfold comR; rw [if_neg (by omega), if_neg (by omega), if_pos rfl], show comR ρ w t (93 + ρ 11) = -1 by unfold comR; rw [if_neg (by omega), if_neg (by omega), if_neg (by omega), if_pos rfl], show comR ρ w t (98 + ρ 11) = 0 by unfold comR; rw [if_neg (by omega), if_neg (by omega), if_neg (by omega), if_neg (by omega), if_pos rfl], com_ne (j := 5) (by omega)]
      refine ⟨by omega, by omega, by omega, by omega, fun i i0 i1 => ⟨fun q => by omega, fun _ => ?_⟩⟩
      unfold comR
      rw [if_neg (by omega), if_neg (by omega), if_neg (by omega), if_neg (by omega), if_neg (by omega), if_pos (by omega)]
    · rw [com_ne (j := 83 + k) (by omega), com_ne (j := 88 + k) (by omega), com_ne (j := 93 + k) (by omega), com_ne (j := 98 + k) (by omega), com_ne (j := 5) (by omega)]
      obtain ⟨q1, q2, q3, q4, q5⟩ := hw.2.2.1 k k0 (by omega)
      refine ⟨q1, q2, q3, q4, fun i i0 i1 => ?_⟩
      rw [com_ne (by omega)]
      exact q5 i i0 i1
  · rw [e11] at j1
    rw [com_ne (by omega)] at e ⊢
    by_cases hj : j = ρ 11
    · subst hj
      rw [show comR ρ w t (93 + ρ 11) = -1 by unfold comR; rw [if_neg (by omega), if_neg (by omega), if_neg (by omega), if_pos rfl]] at e
      exact e
    · rw [com_ne (by omega)] at e
      exact hw.2.2.2 i j i0 i1 (by omega) e
/-! the calls, as functions of the state -/
abbrev palG (G : Gh) (k : Int) : Prop := 0 ≤ k ∧ k < gRow G 11
def putF (G : Gh) (k s : Int) : Int × Gh := if ¬ (palG G k ∧ 0 ≤ s ∧ s < gRow G 5) then (-1, G) else if 0 ≤ onF (gRow G) s then (if onF (gRow G) s = k then 2 else 1, G) else (0, setRow (keepG G) (rset (gRow G) (93 + k) s))
def offF (G : Gh) (k : Int) : Int × Gh := if palG G k ∧ 0 ≤ gRow G (93 + k) then (gRow G (93 + k), setRow (keepG G) (rset (gRow G) (93 + k) (-1))) else (-1, G)
def set0F (G : Gh) (j v : Int) : Int × Gh := if gRow G j = v then (1, G) else (0, setRow (keepG G) (rset (gRow G) j v))
def pourF (G : Gh) (b n : Int) : Int × Gh := if (0 ≤ b ∧ b < gRow G 7) ∧ 0 ≤ n ∧ n ≤ gRow G (49 + b) then set0F G (51 + b) n else (-1, G)
def weighF (G : Gh) (k w : Int) : Int × Gh := if palG G k ∧ 1 ≤ w ∧ w ≤ 99 then set0F G (83 + k) w else (-1, G)
def comeF (G : Gh) (w t : Int) : Int × Gh := if gRow G 11 < 5 ∧ (1 ≤ w ∧ w ≤ 99) ∧ 1 ≤ t ∧ t ≤ 9 then (gRow G 11, setRow (keepG G) (comR (gRow G) w t)) else (-1, G)
def dropF (G : Gh) (k : Int) : Int × Gh := if palG G k then (gRow G 11 - 1, setRow (keepG G) (rset (pmR (gRow G) (shf k (gRow G 11 - 1))) 11 (gRow G 11 - 1))) else (-1, G)
def againF (G : Gh) (k : Int) : Int × Gh := if palG G k then (gRow G 11 - 1, setRow (keepG G) (pmR (gRow G) (lst k (gRow G 11 - 1)))) else (-1, G)
def undoF (G : Gh) : Int × Gh := match gUnd G with
  | [] => (-1, G)
  | u :: t => (t.length, (u, t, G.2.2))
def imageF (G : Gh) (k : Int) : Int × Gh := if k = 0 then (1, (G.1, G.2.1, some G.1, G.2.2.2)) else if k = 1 then (1, (G.1, G.2.1, G.2.2.1, some G.1, G.2.2.2.2)) else (0, G)
def restF (G : Gh) (k : Int) : Int × Gh := match (if k = 0 then gI0 G else if k = 1 then gI1 G else none : Option Row) with
  | none => (0, G)
  | some ρ => (1, (ρ, [], G.2.2))
def sp1 (r : Int) : Int := if r < 0 then 99 else r - 1
def spB (ρ : Row) (k n : Int) : Bool := decide (brokF (rset ρ (83 + k) (ρ (83 + k) + n)) ≠ 0)
def spareF (ρ : Row) (k : Int) : Int := if (0 ≤ k ∧ k < ρ 11) ∧ brokF ρ = 0 then sp1 (fnd (spB ρ k) 99 1) else -1
/-- a pair that may change places -/
def swp (ρ : Row) (a b : Int) : Int := if 0 ≤ ρ (93 + a) ∧ 0 ≤ ρ (93 + b) ∧ brokF (swR ρ a b) = 0 then 1 else 0
def swapsF (ρ : Row) : Int := sumF (fun a => sumF (fun b => swp ρ a b) a.toNat 0) (ρ 11).toNat 0
/-- a number's byte -/
def byt (v k : Int) : Int := iand (iushr v k) 255
abbrev Tq : Type := (Int → Int) × Int
def put1 (q : Tq) (x : Int) : Tq := (rset q.1 q.2 x, q.2 + 1)
def put4 (q : Tq) (v : Int) : Tq := fld (fun k q => put1 q (byt v (24 - 8 * k))) 4 0 q
abbrev setTap (G : Gh) (q : Tq) : Gh := (G.1, G.2.1, G.2.2.1, G.2.2.2.1, q.1, q.2, G.2.2.2.2.2.2)
def feedF (G : Gh) (a b c d e : Int) : Int × Gh := if 540 < gTl G + 20 then (-1, G) else (gTl G + 20, setTap G (put4 (put4 (put4 (put4 (put4 (gTp G, gTl G) a) b) c) d) e))
def endF (G : Gh) (n : Int) : Int × Gh := if 0 ≤ n ∧ n ≤ gTl G then (1, setTap G (gTp G, n)) else (0, G)

