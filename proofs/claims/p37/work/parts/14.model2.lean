/-! 14.model2: taken from whole (wip/p37/port.py) -/
/-! 14.model2: the reference: stages, rules (wip/whole/src/14_model2.py) -/
theorem mul_abs {a b : Int} (ha : -5000 ≤ a ∧ a ≤ 5000) (hb : 0 ≤ b ∧ b ≤ 99) : -500000 ≤ a * b ∧ a * b ≤ 500000 := by
  have h1 : a * b ≤ 5000 * b := Int.mul_le_mul_of_nonneg_right ha.2 hb.1
  have h2 : -5000 * b ≤ a * b := Int.mul_le_mul_of_nonneg_right ha.1 hb.1
  omega
theorem ior_rng (x y : Int) : -2147483648 ≤ ior x y ∧ ior x y < 2147483648 := by
  unfold ior
  have h1 := Int32.le_toInt (Int32.ofInt x ||| Int32.ofInt y)
  have h2 := Int32.toInt_lt (Int32.ofInt x ||| Int32.ofInt y)
  omega
theorem fld_rng {f : Int → Int → Int} (hf : ∀ j a, -2147483648 ≤ a ∧ a < 2147483648 → -2147483648 ≤ f j a ∧ f j a < 2147483648) : ∀ (n : Nat) (k a : Int), -2147483648 ≤ a ∧ a < 2147483648 → -2147483648 ≤ fld f n k a ∧ fld f n k a < 2147483648
  | 0, _, _, h => h
  | n + 1, k, a, h => fld_rng hf n (k + 1) _ (hf k a h)
theorem blkF_rng (ρ : Row) (k : Int) : -2147483648 ≤ blkF ρ k ∧ blkF ρ k < 2147483648 := by
  unfold blkF
  split
  · omega
  · refine fld_rng (fun j a h => ?_) _ _ _ (by omega)
    split
    · exact ior_rng _ _
    · exact h
theorem plc_rng {ρ : Row} (hn : WFn ρ) (r : Int) : 0 ≤ plcF ρ r ∧ plcF ρ r ≤ 13 := by
  unfold WFn at hn
  unfold plcF
  split
  · omega
  · split
    · omega
    · split
      · omega
      · split
        · omega
        · split <;> omega
theorem brok_rng (ρ : Row) : 0 ≤ brokF ρ ∧ brokF ρ ≤ 7 := by
  unfold brokF
  simp only
  rcases fnd_spec (p := fun r => decide (0 ≤ atF ρ r)) 7 1 with ⟨h, _⟩ | ⟨h1, h2, _⟩
  · rw [h]; simp
  · split <;> omega
