/-! 79.refbfs: taken from whole (wip/p37/port.py) -/
/-! 79.refbfs: what waits, in the reference (wip/whole/src/79_refbfs.py) -/
def vD (N c : Nat) : Bool := Nat.blt c (7 ^ N) && allN (fun k => allN (fun j => (dgN N c j == 0) || !(dgN N c j == dgN N c k)) k) N
def cV (N : Nat) : Nat → Nat → Nat
  | 0, _ => 0
  | n + 1, a => (if vD N a then 1 else 0) + cV N n (a + 1)
