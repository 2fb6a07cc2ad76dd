/-! 61.goods: taken from whole (wip/p37/port.py) -/
/-! 61.goods: good loadings, in order (wip/whole/src/61_goods.py) -/
/-! how many layouts are whole -/
def allN (q : Nat → Bool) : Nat → Bool
  | 0 => true
  | n + 1 => q n && allN q n
def dgN (N c k : Nat) : Nat := c / 7 ^ (N - 1 - k) % 7
