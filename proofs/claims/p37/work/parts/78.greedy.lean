/-! 78.greedy: taken from whole (wip/p37/port.py) -/
def tgF (ρ : Row) (g : Int) : Int → Int := fun k => layR ρ g (93 + k)
