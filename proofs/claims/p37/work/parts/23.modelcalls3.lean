/-! 23.modelcalls3: taken from whole (wip/p37/port.py) -/
theorem byt_rng (v s : Int) : 0 ≤ byt v s ∧ byt v s ≤ 255 := by
  unfold byt iand
  have h : (Int32.ofInt (iushr v s) &&& Int32.ofInt 255).toBitVec.toNat ≤ 255 := by
    rw [Int32.toBitVec_and, BitVec.toNat_and]
    exact Nat.and_le_right
  show 0 ≤ (Int32.ofInt (iushr v s) &&& Int32.ofInt 255).toBitVec.toInt ∧ (Int32.ofInt (iushr v s) &&& Int32.ofInt 255).toBitVec.toInt ≤ 255
  rw [BitVec.toInt_eq_toNat_of_lt (by omega)]
  omega
theorem put1_l {q : Tq} {x : Int} : (put1 q x).2 = q.2 + 1 := rfl
theorem put4_l (q : Tq) (v : Int) : (put4 q v).2 = q.2 + 4 := by
  simp only [put4, fld, put1]
  omega
