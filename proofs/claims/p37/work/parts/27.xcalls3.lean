/-! 27.xcalls3: taken from whole (wip/p37/port.py) -/
theorem PosX.pc {R : IX} {p pd c cd : Nat} (h : PosX R p pd c cd) : (p = 4 ∨ p = 27) ∧ (c = 50 ∨ c = 56) := by
  have := h.1
  have := h.2.1
  omega
