/-! 13.model1: taken from whole (wip/p37/port.py) -/
def WL (ρ : Row) : Prop := (0 ≤ ρ 11 ∧ ρ 11 ≤ 5) ∧ (0 ≤ ρ 5 ∧ ρ 5 ≤ 6) ∧ ∀ k, 0 ≤ k → k < ρ 11 → (-1 ≤ ρ (93 + k) ∧ ρ (93 + k) ≤ 5) ∧ (1 ≤ ρ (83 + k) ∧ ρ (83 + k) ≤ 198) ∧ (1 ≤ ρ (88 + k) ∧ ρ (88 + k) ≤ 9)
theorem WF.wl {ρ : Row} (h : WF ρ) : WL ρ := by
  have hn := h.1.1
  unfold WFn at hn
  refine ⟨by omega, by omega, fun k h1 h2 => ?_⟩
  have := h.2.2.1 k h1 h2
  omega

