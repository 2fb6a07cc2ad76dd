/-! 81.hand: taken from whole (wip/p37/port.py) -/
/-! who must be handled -/
def hs0 (ρ : Row) (g : Int) : Int → Bool := fun k => decide (ρ (93 + k) ≠ tgF ρ g k)
