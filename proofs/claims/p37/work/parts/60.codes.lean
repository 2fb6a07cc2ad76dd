/-! 60.codes: taken from whole (wip/p37/port.py) -/
/-- the digit of pallet k in a layout's number -/
def dg (N c k : Int) : Int := (c / 7 ^ (N - 1 - k).toNat) % 7
def layR (ρ : Row) (c : Int) : Row := fun j => if 93 ≤ j ∧ j < 93 + ρ 11 then dg (ρ 11) c (j - 93) - 1 else ρ j
