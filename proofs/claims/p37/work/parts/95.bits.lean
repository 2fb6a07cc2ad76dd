/-! 95.bits: bytes in a row of ints -/
theorem bit255 (i : Nat) : (255#32).getLsbD i = decide (i < 8) := by
  have e : (255#32) = BitVec.ofNat 32 (2 ^ 8 - 1) := rfl
  rw [e, BitVec.getLsbD_ofNat, Nat.testBit_two_pow_sub_one]
  by_cases h : i < 8
  · have h2 : i < 32 := by omega
    simp [h, h2]
  · simp [h]
theorem or_byte (X C : BitVec 32) {s s' : Nat} (hs : s = 0 ∨ s = 8 ∨ s = 16 ∨ s = 24) (hs' : s' = 0 ∨ s' = 8 ∨ s' = 16 ∨ s' = 24) : ((X ||| ((C &&& 255#32) <<< s')) >>> s) &&& 255#32 = ((X >>> s) &&& 255#32) ||| (if s = s' then C &&& 255#32 else 0#32) := by
  apply BitVec.eq_of_getLsbD_eq
  intro i hi
  by_cases e : s = s'
  · subst e
    rw [if_pos rfl]
    simp only [BitVec.getLsbD_and, BitVec.getLsbD_or, BitVec.getLsbD_ushiftRight, BitVec.getLsbD_shiftLeft, bit255]
    by_cases h8 : i < 8
    · have h1 : s + i < 32 := by omega
      have h2 : ¬ (s + i < s) := by omega
      have h3 : s + i - s = i := by omega
      simp [h8, h1, h2, h3]
    · simp [h8]
  · rw [if_neg e]
    simp only [BitVec.getLsbD_and, BitVec.getLsbD_or, BitVec.getLsbD_ushiftRight, BitVec.getLsbD_shiftLeft, bit255, BitVec.getLsbD_zero]
    by_cases h8 : i < 8
    · have h : s + i < s' ∨ ¬ (s + i - s' < 8) := by omega
      rcases h with h | h
      · simp [h8, h]
      · simp [h8, h]
    · simp [h8]
theorem shl_bv (A : Int32) : ∀ s : Nat, s = 0 ∨ s = 8 ∨ s = 16 ∨ s = 24 → (A <<< (Int32.ofInt (s : Int) &&& 31)).toBitVec = A.toBitVec <<< s := by
  rintro s (rfl | rfl | rfl | rfl) <;> rfl
theorem ushr_bv (A : Int32) : ∀ s : Nat, s = 0 ∨ s = 8 ∨ s = 16 ∨ s = 24 → (A.toUInt32 >>> ((Int32.ofInt (s : Int)).toUInt32 &&& Int32.toUInt32 31)).toInt32.toBitVec = A.toBitVec >>> s := by
  rintro s (rfl | rfl | rfl | rfl) <;> rfl
theorem byt_bv (v : Int) {s : Nat} (hs : s = 0 ∨ s = 8 ∨ s = 16 ∨ s = 24) : byt v (s : Int) = (((Int32.ofInt v).toBitVec >>> s) &&& 255#32).toInt := by
  unfold byt iand iushr
  rw [Int32.ofInt_toInt, ← ushr_bv _ s hs]
  rfl
theorem word_bv (x c : Int) {s : Nat} (hs : s = 0 ∨ s = 8 ∨ s = 16 ∨ s = 24) : (Int32.ofInt (ior x (ishl (iand c 255) (s : Int)))).toBitVec = (Int32.ofInt x).toBitVec ||| (((Int32.ofInt c).toBitVec &&& 255#32) <<< s) := by
  unfold ior ishl iand
  rw [Int32.ofInt_toInt, Int32.ofInt_toInt, Int32.ofInt_toInt, Int32.toBitVec_or, shl_bv _ s hs]
  rfl
theorem iand_bv (c : Int) : iand c 255 = ((Int32.ofInt c).toBitVec &&& 255#32).toInt := rfl
theorem byt_same {x c : Int} {s : Nat} (hs : s = 0 ∨ s = 8 ∨ s = 16 ∨ s = 24) (h0 : byt x (s : Int) = 0) : byt (ior x (ishl (iand c 255) (s : Int))) (s : Int) = iand c 255 := by
  rw [byt_bv _ hs] at h0 ⊢
  have h1 : ((Int32.ofInt x).toBitVec >>> s) &&& 255#32 = 0#32 := BitVec.eq_of_toInt_eq (h0.trans rfl)
  rw [word_bv _ _ hs, or_byte _ _ hs hs, h1, if_pos rfl, iand_bv, BitVec.zero_or]
theorem byt_diff {x c : Int} {s s' : Nat} (hs : s = 0 ∨ s = 8 ∨ s = 16 ∨ s = 24) (hs' : s' = 0 ∨ s' = 8 ∨ s' = 16 ∨ s' = 24) (h : s ≠ s') : byt (ior x (ishl (iand c 255) (s' : Int))) (s : Int) = byt x (s : Int) := by
  rw [byt_bv _ hs, byt_bv _ hs, word_bv _ _ hs', or_byte _ _ hs hs', if_neg h, BitVec.or_zero]
theorem iand_255 {c : Int} (h : 0 ≤ c ∧ c ≤ 255) : iand c 255 = c := by
  obtain ⟨n, rfl⟩ := Int.eq_ofNat_of_zero_le h.1
  have hn : n ≤ 255 := by omega
  have key : ∀ m : Fin 256, iand ((m.val : Nat) : Int) 255 = ((m.val : Nat) : Int) := by decide +kernel
  exact key ⟨n, by omega⟩
/-- a row of ints that holds bytes -/
def TB (f : Int → Int) (bs : List Int) : Prop := f 0 = bs.length ∧ (∀ j, 1 ≤ j → -2147483648 ≤ f j ∧ f j < 2147483648) ∧ ∀ k : Nat, byt (f (1 + ((k / 4 : Nat) : Int))) ((24 - 8 * (k % 4) : Nat) : Int) = bs.getD k 0
theorem TB.put {f : Int → Int} {bs : List Int} (h : TB f bs) {c : Int} (hc : 0 ≤ c ∧ c ≤ 255) {q x : Int} (hq : q = 1 + ((bs.length / 4 : Nat) : Int)) (hx : x = ior (f q) (ishl (iand c 255) ((24 - 8 * (bs.length % 4) : Nat) : Int))) :
    TB (fun j => if j = 0 then ((bs.length : Nat) : Int) + 1 else if j = q then x else f j) (bs ++ [c]) := by
  obtain ⟨h1, h2, h3⟩ := h
  have hsh : ∀ k : Nat, (24 - 8 * (k % 4)) = 0 ∨ (24 - 8 * (k % 4)) = 8 ∨ (24 - 8 * (k % 4)) = 16 ∨ (24 - 8 * (k % 4)) = 24 := fun k => by
    have := Nat.mod_lt k (show 4 > 0 by decide)
    omega
  refine ⟨?_, fun j hj => ?_, fun k => ?_⟩
  · dsimp only
    rw [if_pos rfl]
    simp only [List.length_append, List.length_cons, List.length_nil]
    omega
  · dsimp only
    rw [if_neg (by omega)]
    by_cases e : j = q
    · rw [if_pos e, hx]
      exact ior_rng _ _
    · rw [if_neg e]
      exact h2 j hj
  · dsimp only
    rw [if_neg (by omega)]
    by_cases e : (1 + ((k / 4 : Nat) : Int)) = q
    · rw [if_pos e, hx]
      have e4 : k / 4 = bs.length / 4 := by omega
      rw [← e]
      by_cases ek : k = bs.length
      · subst ek
        rw [byt_same (hsh _), iand_255 hc]
        · rw [List.getD_eq_getElem?_getD, List.getElem?_append_right (Nat.le_refl _)]
          simp
        · rw [h3, List.getD_eq_getElem?_getD, List.getElem?_eq_none (Nat.le_refl _)]
          rfl
      · rw [byt_diff (hsh _) (hsh _) (by
          have := Nat.mod_lt k (show 4 > 0 by decide)
          have := Nat.mod_lt bs.length (show 4 > 0 by decide)
          omega), h3]
        rw [List.getD_eq_getElem?_getD, List.getD_eq_getElem?_getD]
        by_cases hl : k < bs.length
        · rw [List.getElem?_append_left hl]
        · rw [List.getElem?_eq_none (by omega), List.getElem?_eq_none (by simp only [List.length_append, List.length_cons, List.length_nil]; omega)]
    · rw [if_neg e, h3]
      rw [List.getD_eq_getElem?_getD, List.getD_eq_getElem?_getD]
      by_cases hl : k < bs.length
      · rw [List.getElem?_append_left hl]
      · have : k ≠ bs.length := fun q0 => e (by rw [hq, q0])
        rw [List.getElem?_eq_none (by omega), List.getElem?_eq_none (by simp only [List.length_append, List.length_cons, List.length_nil]; omega)]
theorem TB.nil {f : Int → Int} (h : ∀ j, f j = 0) : TB f [] := by
  refine ⟨by rw [h]; rfl, fun j _ => by rw [h]; omega, fun k => ?_⟩
  rw [h]
  have hk := Nat.mod_lt k (show 4 > 0 by decide)
  have hh : k % 4 = 0 ∨ k % 4 = 1 ∨ k % 4 = 2 ∨ k % 4 = 3 := by omega
  rcases hh with e | e | e | e <;> rw [e] <;> rfl
