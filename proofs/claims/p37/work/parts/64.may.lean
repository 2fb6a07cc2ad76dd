/-! 64.may: taken from whole (wip/p37/port.py) -/
/-! 64.may: whether one more pallet may lie there (wip/whole/src/64_may.py) -/
def ls (ρ : Row) (k s : Int) : Int := sumF (fun j => if ρ (93 + j) = s then ρ (83 + j) else 0) k.toNat 0
def hl (ρ : Row) (k h : Int) : Int := sumF (fun j => if ρ (19 + ρ (93 + j)) = h then ρ (83 + j) else 0) k.toNat 0
