/-! 19.modelmut: taken from whole (wip/p37/port.py) -/
/-! 19.modelmut: the reference's calls that change its row (wip/whole/src/19_modelmut.py) -/
def cpK (μ : Mem) (s : Nat) (a : Int) (d : Nat) (b n : Int) : Mem := (fun q j => if q = d ∧ b ≤ j ∧ j < b + n then μ.1 s (a + (j - b)) else μ.1 q j, μ.2)
theorem Kp.cp {S : Nat → Prop} {μ μ2 : Mem} {s d : Nat} {a b n : Int} (h1 : Kp S μ μ2) (h : ¬ S d) : Kp S μ (cpK μ2 s a d b n) := h1.tr fun q hq => ⟨funext fun j => ifn (fun e => h (e ▸ hq)), rfl, rfl⟩
abbrev keepG (G : Gh) : Gh := (gRow G, (gRow G :: gUnd G).take 8, G.2.2)
