/-! 75.bfs: taken from whole (wip/p37/port.py) -/
/-! 75.bfs: what waits in a row, in order of ways (wip/whole/src/75_bfs.py) -/
abbrev Wrd : Type := List Int
def val : Wrd → Int
  | [] => 0
  | l :: t => 100 * val t + l + 1
