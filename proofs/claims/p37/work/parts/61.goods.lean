/-! 61.goods: taken from whole (wip/p37/port.py) -/
/-! 61.goods: good loadings, in order (wip/whole/src/61_goods.py) -/
/-! how many layouts are whole -/
def allN (q : Nat → Bool) : Nat → Bool
  | 0 => true
  | n + 1 => q n && allN q n
def dgN (N c k : Nat) : Nat := c / 7 ^ (N - 1 - k) % 7
def wD (N c : Nat) : Bool := Nat.blt c (7 ^ N) && allN (fun k => !(dgN N c k == 0) && allN (fun j => !(dgN N c j == dgN N c k)) k) N
def cI (N : Nat) : Nat → Nat → Nat
  | 0, _ => 0
  | n + 1, a => (if wD N a then 1 else 0) + cI N n (a + 1)
