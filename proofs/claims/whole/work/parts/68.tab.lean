/-! 68.tab: the class's table, what it tells (wip/whole/src/68_tab.py) -/
theorem ixor_neg {a b : Int} (ha : -2147483648 ≤ a ∧ a < 2147483648) (hb : -2147483648 ≤ b ∧ b < 2147483648) : 0 ≤ ixor a b ↔ (a < 0 ↔ b < 0) := by
  unfold ixor
  have e : ∀ x : Int, -2147483648 ≤ x ∧ x < 2147483648 → ((Int32.ofInt x).toBitVec.msb = true ↔ x < 0) := fun x hx => by
    rw [BitVec.msb_eq_toInt, decide_eq_true_eq]
    have : (Int32.ofInt x).toBitVec.toInt = x := by
      have := Int32.toInt_ofInt_of_le hx.1 hx.2
      exact this
    rw [this]
  have h1 : (Int32.ofInt a ^^^ Int32.ofInt b).toInt = (Int32.ofInt a ^^^ Int32.ofInt b).toBitVec.toInt := rfl
  have h2 : (Int32.ofInt a ^^^ Int32.ofInt b).toBitVec.msb = ((Int32.ofInt a).toBitVec.msb ^^ (Int32.ofInt b).toBitVec.msb) := by
    rw [Int32.toBitVec_xor, BitVec.msb_xor]
  have h3 : (Int32.ofInt a ^^^ Int32.ofInt b).toBitVec.msb = decide ((Int32.ofInt a ^^^ Int32.ofInt b).toBitVec.toInt < 0) := BitVec.msb_eq_toInt
  rw [h1]
  rw [h2] at h3
  have ea := e a ha
  have eb := e b hb
  cases p : (Int32.ofInt a).toBitVec.msb <;> cases q : (Int32.ofInt b).toBitVec.msb <;> rw [p, q] at h3 <;> rw [p] at ea <;> rw [q] at eb
  · have : ¬ ((Int32.ofInt a ^^^ Int32.ofInt b).toBitVec.toInt < 0) := of_decide_eq_false h3.symm
    simp at ea eb
    omega
  · have : (Int32.ofInt a ^^^ Int32.ofInt b).toBitVec.toInt < 0 := of_decide_eq_true h3.symm
    simp at ea eb
    omega
  · have : (Int32.ofInt a ^^^ Int32.ofInt b).toBitVec.toInt < 0 := of_decide_eq_true h3.symm
    simp at ea eb
    omega
  · have : ¬ ((Int32.ofInt a ^^^ Int32.ofInt b).toBitVec.toInt < 0) := of_decide_eq_false h3.symm
    simp at ea eb
    omega
theorem ixor_rng (a b : Int) : -2147483648 ≤ ixor a b ∧ ixor a b < 2147483648 := by
  unfold ixor
  have h1 := Int32.le_toInt (Int32.ofInt a ^^^ Int32.ofInt b)
  have h2 := Int32.toInt_lt (Int32.ofInt a ^^^ Int32.ofInt b)
  omega
theorem fdiv_same {a b : Int} (hb : b ≠ 0) (h : a < 0 ↔ b < 0) : a.fdiv b = a.tdiv b := by
  rcases Int.lt_trichotomy b 0 with c | c | c
  · have ha : a < 0 := h.2 c
    rw [← Int.neg_fdiv_neg, Int.fdiv_eq_ediv_of_nonneg _ (by omega), ← Int.tdiv_eq_ediv_of_nonneg (by omega), Int.neg_tdiv_neg]
  · exact absurd c hb
  · have ha : ¬ a < 0 := fun x => by have := h.1 x; omega
    rw [Int.fdiv_eq_ediv_of_nonneg _ (by omega), Int.tdiv_eq_ediv_of_nonneg (by omega)]
theorem fdiv_uniq {a b q : Int} (hb : 0 < b) (h1 : q * b ≤ a) (h2 : a < (q + 1) * b) : a.fdiv b = q := by
  rw [Int.fdiv_eq_ediv_of_nonneg _ (by omega)]
  have e1 := (Int.le_ediv_iff_mul_le hb).2 h1
  have e2 := (Int.ediv_lt_iff_lt_mul hb).2 h2
  omega
theorem fdiv_pos {a b : Int} (hb : 0 < b) (ha : a < 0) : a.fdiv b = if a.tdiv b * b = a then a.tdiv b else a.tdiv b - 1 := by
  have h := Int.tmod_add_mul_tdiv a b
  have hm := Int.tmod_lt_of_pos a hb
  have hn : a.tmod b ≤ 0 := by
    have := Int.tmod_nonneg (a := -a) b (by omega)
    rw [Int.neg_tmod] at this
    omega
  have hm2 : - b < a.tmod b := by
    have := Int.tmod_lt_of_pos (-a) hb
    rw [Int.neg_tmod] at this
    omega
  have e : a.tdiv b * b = b * a.tdiv b := Int.mul_comm _ _
  split
  · rename_i c
    refine fdiv_uniq hb (by omega) ?_
    rw [Int.add_mul]
    omega
  · rename_i c
    refine fdiv_uniq hb ?_ ?_
    · rw [Int.sub_mul]; omega
    · rw [show a.tdiv b - 1 + 1 = a.tdiv b by omega]; omega
theorem fdiv_diff {a b : Int} (hb : b ≠ 0) (h : ¬ (a < 0 ↔ b < 0)) : a.fdiv b = if a.tdiv b * b = a then a.tdiv b else a.tdiv b - 1 := by
  by_cases c : 0 < b
  · exact fdiv_pos c (by
      by_cases q : a < 0
      · exact q
      · exact absurd ⟨fun x => absurd x q, fun x => by omega⟩ h)
  · have ha : ¬ a < 0 := fun x => h ⟨fun _ => by omega, fun _ => x⟩
    by_cases z : a = 0
    · subst z
      simp
    · have := fdiv_pos (a := -a) (b := -b) (by omega) (by omega)
      rw [Int.neg_fdiv_neg, Int.neg_tdiv_neg] at this
      rw [this]
      have e : a.tdiv b * -b = -(a.tdiv b * b) := Int.mul_neg _ _
      rw [e]
      by_cases q : a.tdiv b * b = a
      · rw [if_pos q, if_pos (by omega)]
      · rw [if_neg q, if_neg (by omega)]
theorem tdiv_rng {a b : Int} (ha : -2000000000 ≤ a ∧ a ≤ 2000000000) : -2000000000 ≤ a.tdiv b ∧ a.tdiv b ≤ 2000000000 := by
  have h := Int.natAbs_tdiv_le_natAbs a b
  omega
theorem j_floorDiv {sh : Sh} {μ : Mem} {a b : Int} (ha : -2000000000 ≤ a ∧ a ≤ 2000000000) (hb : -1000 ≤ b ∧ b ≤ 1000) (hz : b ≠ 0) : FMet yJ9_floorDiv_7cf53 gJ9_floorDiv_7cf53 sh [vI a, vI b] μ (some (vI (a.fdiv b))) μ := by
  have hr := tdiv_rng (b := b) ha
  have hx := ixor_neg (a := a) (b := b) (by omega) (by omega)
  have hxr := ixor_rng a b
  have hm : a.tdiv b * b = a - a.tmod b := by
    have := Int.tmod_add_mul_tdiv a b
    rw [Int.mul_comm] at this
    omega
  have hmr : -2147483648 ≤ a.tdiv b * b ∧ a.tdiv b * b < 2147483648 := by
    rw [hm]
    have h1 := Int.natAbs_tmod a b
    have h2 := Nat.mod_lt a.natAbs (y := b.natAbs) (by omega)
    omega
  refine AMet.ofF (by decide +kernel) rfl (by decide) rfl ?_
  refine r_iload_n dJ9_floorDiv_7cf53_0 rfl ?_
  refine r_iload_n dJ9_floorDiv_7cf53_1 rfl ?_
  refine r_idiv dJ9_floorDiv_7cf53_2 (by omega) (by omega) ?_
  refine r_istore_n dJ9_floorDiv_7cf53_3 rfl ?_
  refine r_iload_n dJ9_floorDiv_7cf53_4 rfl ?_
  refine r_iload_n dJ9_floorDiv_7cf53_5 rfl ?_
  refine r_ixor dJ9_floorDiv_7cf53_6 ?_
  refine q_if_ge (tgt := 21) dJ9_floorDiv_7cf53_7 rfl (by omega) (fun c7 => ?_) (fun c7 => ?_)
  · refine r_iload_n dJ9_floorDiv_7cf53_21 rfl ?_
    refine r_ireturn dJ9_floorDiv_7cf53_22 rfl rfl rfl ?_
    refine ⟨rI ?_, rfl, rfl⟩
    first
    | (rw [fdiv_same hz (hx.1 c7)]; done)
    | (rw [fdiv_diff hz (fun h => by have := hx.2 h; omega), if_pos c14]; done)
  · refine r_iload_n dJ9_floorDiv_7cf53_10 rfl ?_
    refine r_iload_n dJ9_floorDiv_7cf53_11 rfl ?_
    refine r_imul dJ9_floorDiv_7cf53_12 ?_
    refine r_iload_n dJ9_floorDiv_7cf53_13 rfl ?_
    refine q_icmp_eq (tgt := 21) dJ9_floorDiv_7cf53_14 rfl (by omega) (by omega) (fun c14 => ?_) (fun c14 => ?_)
    · refine r_iload_n dJ9_floorDiv_7cf53_21 rfl ?_
      refine r_ireturn dJ9_floorDiv_7cf53_22 rfl rfl rfl ?_
      refine ⟨rI ?_, rfl, rfl⟩
      first
      | (rw [fdiv_same hz (hx.1 c7)]; done)
      | (rw [fdiv_diff hz (fun h => by have := hx.2 h; omega), if_pos c14]; done)
    · refine r_iload_n dJ9_floorDiv_7cf53_17 rfl ?_
      refine r_iconst dJ9_floorDiv_7cf53_18 ?_
      refine r_isub dJ9_floorDiv_7cf53_19 ?_
      refine r_ireturn dJ9_floorDiv_7cf53_20 rfl rfl rfl ?_
      refine ⟨rI ?_, rfl, rfl⟩
      rw [fdiv_diff hz (fun h => by have := hx.2 h; omega), if_neg c14]
/-! packed places -/
theorem i32_nat {x : Nat} (hx : x < 2147483648) : (Int32.ofInt (x : Int)).toBitVec.toNat = x := by
  show (BitVec.ofInt 32 (x : Int)).toNat = x
  rw [BitVec.toNat_ofInt]
  omega
theorem i32_of {v : Int32} {x : Nat} (h : v.toBitVec.toNat = x) (hx : x < 2147483648) : v.toInt = (x : Int) := by
  show v.toBitVec.toInt = (x : Int)
  rw [BitVec.toInt_eq_toNat_of_lt (by omega), h]
theorem ior_nat {x y : Nat} (hx : x < 2147483648) (hy : y < 2147483648) : ior (x : Int) (y : Int) = ((x ||| y : Nat) : Int) := by
  unfold ior
  refine i32_of ?_ ?_
  · rw [Int32.toBitVec_or, BitVec.toNat_or, i32_nat hx, i32_nat hy]
  · exact Nat.or_lt_two_pow (n := 31) hx hy
theorem ishl_tab3 : ∀ k : Nat, k < 5 → ∀ b : Nat, b < 8 → ishl (b : Int) (3 * (k : Int)) = ((b * 8 ^ k : Nat) : Int) := by decide
theorem pack_one {a : Nat} {k b : Nat} (hk : k < 5) (ha : a < 8 ^ k) (hb : b < 8) : ior (a : Int) (ishl (b : Int) (3 * (k : Int))) = ((a + b * 8 ^ k : Nat) : Int) := by
  rw [ishl_tab3 k hk b hb]
  have e8 : 8 ^ k = 2 ^ (3 * k) := by rw [Nat.pow_mul]
  have h8 : 8 ^ k ≤ 4096 := by
    rcases (show k = 0 ∨ k = 1 ∨ k = 2 ∨ k = 3 ∨ k = 4 by omega) with rfl | rfl | rfl | rfl | rfl <;> decide
  have hbk : b * 8 ^ k ≤ 7 * 4096 := Nat.mul_le_mul (by omega) h8
  rw [ior_nat (by omega) (by omega)]
  congr 1
  have ha2 : a < 2 ^ (3 * k) := by rw [← e8]; exact ha
  rw [e8, Nat.or_comm, ← Nat.shiftLeft_eq, ← Nat.shiftLeft_add_eq_or_of_lt ha2, Nat.add_comm]
def packC (N c : Int) : Int := fld (fun k a => ior a (ishl (dg N c k - 1) (3 * k))) N.toNat 0 0
theorem pack_val {f : Int → Int} : ∀ n : Nat, n ≤ 5 → (∀ k : Int, 0 ≤ k → k < n → 0 ≤ f k ∧ f k < 8) → ∃ v : Nat, fld (fun k a => ior a (ishl (f k) (3 * k))) n 0 0 = (v : Int) ∧ v < 8 ^ n ∧ ∀ k : Nat, k < n → ((v / 8 ^ k % 8 : Nat) : Int) = f k
  | 0, _, _ => ⟨0, rfl, by decide, fun k h => by omega⟩
  | n + 1, h5, h => by
    obtain ⟨v, e, hv, hd⟩ := pack_val (f := f) n (by omega) (fun k k0 k1 => h k k0 (by omega))
    have hn := h n (by omega) (by omega)
    have e2 := pack_one (a := v) (k := n) (b := (f n).toNat) (by omega) hv (by omega)
    rw [show (((f n).toNat : Nat) : Int) = f n by omega] at e2
    have h8 : 8 ^ (n + 1) = 8 ^ n * 8 := Nat.pow_succ ..
    have hp : 0 < 8 ^ n := Nat.pow_pos (by decide)
    refine ⟨v + (f n).toNat * 8 ^ n, ?_, ?_, fun k hk => ?_⟩
    · rw [fld_snoc, Int.zero_add, e]
      exact e2
    · have : (f n).toNat * 8 ^ n ≤ 7 * 8 ^ n := Nat.mul_le_mul_right _ (by omega)
      omega
    · by_cases c : k = n
      · subst c
        rw [Nat.add_mul_div_right _ _ hp, Nat.div_eq_of_lt hv]
        omega
      · rw [← hd k (by omega)]
        have e3 : (f n).toNat * 8 ^ n = 8 ^ k * (8 * ((f n).toNat * 8 ^ (n - k - 1))) := by
          rw [show n = k + (1 + (n - k - 1)) by omega, Nat.pow_add, Nat.pow_add, show k + (1 + (n - k - 1)) - k - 1 = n - k - 1 by omega]
          simp only [Nat.pow_one]
          rw [Nat.mul_left_comm, Nat.mul_left_comm (f _).toNat]
        rw [e3, Nat.add_mul_div_left _ _ (Nat.pow_pos (by decide)), Nat.add_mul_mod_self_left]
theorem ishr_nat {v k : Nat} (hv : v < 2147483648) (hk : k < 5) : ishr (v : Int) (3 * (k : Int)) = ((v / 8 ^ k : Nat) : Int) := by
  unfold ishr
  have hle : v / 8 ^ k ≤ v := Nat.div_le_self _ _
  refine i32_of ?_ (by omega)
  rw [Int32.toBitVec_shiftRight, show (3 * (k : Int)) = ((3 * k : Nat) : Int) by omega, sm_tab (3 * k) (by omega)]
  simp only [BitVec.sshiftRight', BitVec.toNat_ofNat]
  rw [show 3 * k % 2 ^ 32 = 3 * k by omega, BitVec.sshiftRight_eq_of_msb_false, BitVec.toNat_ushiftRight, i32_nat hv, Nat.shiftRight_eq_div_pow, Nat.pow_mul]
  rw [BitVec.msb_eq_false_iff_two_mul_lt, i32_nat hv]
  omega
theorem iand7 {v : Nat} (hv : v < 2147483648) : iand (v : Int) 7 = ((v % 8 : Nat) : Int) := by
  unfold iand
  refine i32_of ?_ (by omega)
  rw [Int32.toBitVec_and, BitVec.toNat_and, i32_nat hv]
  exact Nat.and_two_pow_sub_one_eq_mod v 3
theorem unpack {N c k : Int} (hN : N ≤ 5) (hk : 0 ≤ k ∧ k < N) (h : ∀ j, 0 ≤ j → j < N → 1 ≤ dg N c j) : iand (ishr (packC N c) (3 * k)) 7 = dg N c k - 1 := by
  obtain ⟨v, e, hv, hd⟩ := pack_val (f := fun j => dg N c j - 1) N.toNat (by omega) (fun j j0 j1 => by
    have := h j j0 (by omega)
    have := dg_rng N c j
    try dsimp only
    omega)
  have h8 : 8 ^ N.toNat ≤ 32768 := by
    rcases (show N.toNat = 0 ∨ N.toNat = 1 ∨ N.toNat = 2 ∨ N.toNat = 3 ∨ N.toNat = 4 ∨ N.toNat = 5 by omega) with h | h | h | h | h | h <;> rw [h] <;> decide
  unfold packC
  rw [e]
  have q := hd k.toNat (by omega)
  try dsimp only at q
  rw [show ((k.toNat : Nat) : Int) = k by omega] at q
  rw [← q]
  have r := ishr_nat (v := v) (k := k.toNat) (by omega) (by omega)
  rw [show ((k.toNat : Nat) : Int) = k by omega] at r
  have hle : v / 8 ^ k.toNat ≤ v := Nat.div_le_self _ _
  rw [r, iand7 (by omega)]
/-! the table's cells -/
def upC (L : List Ent) (n : Nat) : Int := ((expE (L.take n)).length : Int)
def RW (μ : Mem) (N : Int) (L : List Ent) : Prop := μ.1 172 1 = L.length ∧ L.length ≤ 720 ∧ (expE L).length ≤ 72000 ∧ ∀ (i : Nat) (e : Ent), L[i]? = some e → μ.1 173 i = packC N e.1 ∧ μ.1 174 i = e.2.1 ∧ μ.1 175 i = upC L (i + 1)
theorem upC_le {L : List Ent} {n : Nat} : 0 ≤ upC L n ∧ upC L n ≤ (expE L).length := by
  unfold upC
  have h : (expE L).length = (expE (L.take n)).length + (expE (L.drop n)).length := by
    rw [← List.length_append, ← exp_app, List.take_append_drop]
  omega
theorem upC_all (L : List Ent) : upC L L.length = (expE L).length := by unfold upC; rw [List.take_length]
theorem upC_0 (L : List Ent) : upC L 0 = 0 := rfl
def upF (L : List Ent) (r : Int) : Int := if 0 ≤ r ∧ r < L.length then upC L (r.toNat + 1) else 0
theorem upF_s {L : List Ent} {r : Int} (h : -1 ≤ r ∧ r < L.length) : upF L r = upC L (r + 1).toNat := by
  unfold upF
  by_cases c : 0 ≤ r
  · rw [if_pos ⟨c, h.2⟩, show (r + 1).toNat = r.toNat + 1 by omega]
  · rw [if_neg (by omega), show (r + 1).toNat = 0 by omega, upC_0]
theorem seqL_len : ∀ (n : Nat) (b : Int), (seqL b n).length = n
  | 0, _ => rfl
  | n + 1, b => by rw [seqL, List.length_cons, seqL_len n]
theorem upC_s {L : List Ent} {i : Nat} {e : Ent} (h : L[i]? = some e) : upC L (i + 1) = upC L i + e.2.2.toNat := by
  unfold upC
  obtain ⟨hi, he⟩ := List.getElem?_eq_some_iff.1 h
  rw [List.take_succ_eq_append_getElem hi, exp_app, List.length_append, he]
  have : (expE [e]).length = e.2.2.toNat := by
    show (seqL (200 * e.1 + e.2.1) e.2.2.toNat ++ []).length = _
    rw [List.append_nil, seqL_len]
  omega
theorem upC_app {L : List Ent} {e : Ent} {n : Nat} (h : n ≤ L.length) : upC (L ++ [e]) n = upC L n := by
  unfold upC
  rw [List.take_append_of_le_length h]
theorem getD_of {L : List Ent} {i : Nat} (h : i < L.length) : ∃ e, L[i]? = some e := ⟨_, List.getElem?_eq_getElem h⟩
/-- which objects the table has -/
def IsTab (R : IX) : Prop := R 172 2 = some 173 ∧ R 172 3 = some 174 ∧ R 172 4 = some 175 ∧ R 172 9 = some 176 ∧ R 172 10 = some 177 ∧ R 172 11 = some 178 ∧ R 172 12 = some 179 ∧ R 172 13 = some 180 ∧ R 172 14 = some 181
theorem Lay.tab {R : IX} (h : Lay R) : IsTab R := ⟨h (172, 2, 173) (List.mem_of_getElem? (i := 169) rfl), h (172, 3, 174) (List.mem_of_getElem? (i := 170) rfl), h (172, 4, 175) (List.mem_of_getElem? (i := 171) rfl), h (172, 9, 176) (List.mem_of_getElem? (i := 172) rfl), h (172, 10, 177) (List.mem_of_getElem? (i := 173) rfl), h (172, 11, 178) (List.mem_of_getElem? (i := 174) rfl), h (172, 12, 179) (List.mem_of_getElem? (i := 175) rfl), h (172, 13, 180) (List.mem_of_getElem? (i := 176) rfl), h (172, 14, 181) (List.mem_of_getElem? (i := 177) rfl)⟩
theorem c_upTo {μ : Mem} (hT : IsTab μ.2.2) {N : Int} {L : List Ent} (hW : RW μ N L) {r : Int} (hr : -2147483648 ≤ r ∧ r < 2147483648)  : FMet yX8_upTo gX8_upTo SH [vR 172, vI r] μ (some (vI (upF L r))) μ := by
  obtain ⟨t2, t3, t4, t9, t10, t11, t12, t13, t14⟩ := id hT
  have x172 : SH[172]? = some (7, 15) := rfl
  have x173 : SH[173]? = some (20, 720) := rfl
  have x174 : SH[174]? = some (20, 720) := rfl
  have x175 : SH[175]? = some (20, 720) := rfl
  have x176 : SH[176]? = some (20, 5) := rfl
  have x177 : SH[177]? = some (20, 5) := rfl
  have x178 : SH[178]? = some (20, 5) := rfl
  have x179 : SH[179]? = some (20, 6) := rfl
  have x180 : SH[180]? = some (20, 3) := rfl
  have x181 : SH[181]? = some (20, 10) := rfl
  obtain ⟨n1, n2, n3, n4⟩ := id hW
  refine AMet.of (by decide) rfl (by decide) rfl ?_
  refine r_iload_n dX8_upTo_0 rfl ?_
  refine q_if_lt (tgt := 21) dX8_upTo_1 rfl (by omega) (fun c1 => ?_) (fun c1 => ?_)
  · refine r_iconst dX8_upTo_21 ?_
    refine r_ireturn dX8_upTo_22 rfl rfl rfl ?_
    refine ⟨rI ?_, rfl, rfl⟩
    unfold upF
    first
    | (rw [if_pos (by omega)]; done)
    | (rw [if_neg (by omega)]; done)
  · refine r_iload_n dX8_upTo_4 rfl ?_
    refine r_aload_n dX8_upTo_5 rfl ?_
    refine r_getI dX8_upTo_6 fl_X8_43 rfl (by assumption) ?_
    refine q_icmp_ge (tgt := 21) dX8_upTo_9 rfl (by omega) (by omega) (fun c9 => ?_) (fun c9 => ?_)
    · refine r_iconst dX8_upTo_21 ?_
      refine r_ireturn dX8_upTo_22 rfl rfl rfl ?_
      refine ⟨rI ?_, rfl, rfl⟩
      unfold upF
      first
      | (rw [if_pos (by omega)]; done)
      | (rw [if_neg (by omega)]; done)
    · refine r_aload_n dX8_upTo_12 rfl ?_
      refine r_getR dX8_upTo_13 fl_X8_18 rfl (by assumption) (by assumption) ?_
      refine r_iload_n dX8_upTo_16 rfl ?_
      refine r_iald dX8_upTo_17 (by assumption) rfl (by omega) ?_
      obtain ⟨e, he⟩ := getD_of (L := L) (i := r.toNat) (by omega)
      have q := (n4 r.toNat e he).2.2
      rw [show ((r.toNat : Nat) : Int) = r by omega] at q
      rw [q]
      refine r_goto (tgt := 22) dX8_upTo_18 rfl ?_
      refine r_ireturn dX8_upTo_22 rfl rfl rfl ?_
      refine ⟨rI ?_, rfl, rfl⟩
      unfold upF
      first
      | (rw [if_pos (by omega)]; done)
      | (rw [if_neg (by omega)]; done)
theorem c_total {μ : Mem} (hT : IsTab μ.2.2) {N : Int} {L : List Ent} (hW : RW μ N L)  : FMet yX8_total gX8_total SH [vR 172] μ (some (vI ((expE L).length : Int))) μ := by
  obtain ⟨t2, t3, t4, t9, t10, t11, t12, t13, t14⟩ := id hT
  have x172 : SH[172]? = some (7, 15) := rfl
  have x173 : SH[173]? = some (20, 720) := rfl
  have x174 : SH[174]? = some (20, 720) := rfl
  have x175 : SH[175]? = some (20, 720) := rfl
  have x176 : SH[176]? = some (20, 5) := rfl
  have x177 : SH[177]? = some (20, 5) := rfl
  have x178 : SH[178]? = some (20, 5) := rfl
  have x179 : SH[179]? = some (20, 6) := rfl
  have x180 : SH[180]? = some (20, 3) := rfl
  have x181 : SH[181]? = some (20, 10) := rfl
  obtain ⟨n1, n2, n3, n4⟩ := id hW
  refine AMet.of (by decide) rfl (by decide) rfl ?_
  refine r_aload_n dX8_total_0 rfl ?_
  refine r_aload_n dX8_total_1 rfl ?_
  refine r_getI dX8_total_2 fl_X8_43 rfl (by assumption) ?_
  refine r_iconst dX8_total_5 ?_
  refine r_isub dX8_total_6 ?_
  refine r_cV1F1 dX8_total_7 ml_X8_99 yl_X8_upTo ⟨rfl, rfl⟩ (by assumption) ⟨_, rfl⟩ rfl rfl rfl rfl (c_upTo hT hW (by omega)) ?_
  refine r_ireturn dX8_total_10 rfl rfl rfl ?_
  refine ⟨rI ?_, rfl, rfl⟩
  rw [n1, upF_s (by omega), show ((L.length : Int) - 1 + 1).toNat = L.length by omega, upC_all]
def rowF (L : List Ent) (i : Int) : Int := if 0 ≤ i then fnd (fun r => decide (i < upC L (r.toNat + 1))) L.length 0 else -1
theorem c_rowOf {μ : Mem} (hT : IsTab μ.2.2) {N : Int} {L : List Ent} (hW : RW μ N L) {i : Int} (hi : -2147483648 ≤ i ∧ i < 2147483648)  : FMet yX8_rowOf gX8_rowOf SH [vR 172, vI i] μ (some (vI (rowF L i))) μ := by
  obtain ⟨t2, t3, t4, t9, t10, t11, t12, t13, t14⟩ := id hT
  have x172 : SH[172]? = some (7, 15) := rfl
  have x173 : SH[173]? = some (20, 720) := rfl
  have x174 : SH[174]? = some (20, 720) := rfl
  have x175 : SH[175]? = some (20, 720) := rfl
  have x176 : SH[176]? = some (20, 5) := rfl
  have x177 : SH[177]? = some (20, 5) := rfl
  have x178 : SH[178]? = some (20, 5) := rfl
  have x179 : SH[179]? = some (20, 6) := rfl
  have x180 : SH[180]? = some (20, 3) := rfl
  have x181 : SH[181]? = some (20, 10) := rfl
  obtain ⟨n1, n2, n3, n4⟩ := id hW
  have loop : ∀ (f n : Nat) (k : Int), n < f → 0 ≤ k → k + n = L.length → AW gX8_rowOf SH μ 0 0 2 [some (vR 172), some (vI i), some (vI k)] [] (fun r2 sh2 μ2 => r2 = some (vI (if 0 ≤ i then fnd (fun r => decide (i < upC L (r.toNat + 1))) n k else -1)) ∧ sh2 = SH ∧ μ2 = μ) := by
    intro f
    induction f with
    | zero => intro n; intros; omega
    | succ f ih =>
      intro n k hf hk hn2
      refine r_iload_n dX8_rowOf_2 rfl ?_
      refine r_aload_n dX8_rowOf_3 rfl ?_
      refine r_getI dX8_rowOf_4 fl_X8_43 rfl (by assumption) ?_
      refine q_icmp_ge (tgt := 32) dX8_rowOf_7 rfl (by omega) (by omega) (fun c7 => ?_) (fun c7 => ?_)
      · refine r_iconst dX8_rowOf_32 ?_
        refine r_ireturn dX8_rowOf_33 rfl rfl rfl ?_
        refine ⟨rI ?_, rfl, rfl⟩
        first
        | (rw [if_neg (by omega)]; done)
        | (obtain rfl : n = 0 := by omega
           split <;> rfl)
      · refine r_iload_n dX8_rowOf_10 rfl ?_
        refine q_if_lt (tgt := 32) dX8_rowOf_11 rfl (by omega) (fun c11 => ?_) (fun c11 => ?_)
        · refine r_iconst dX8_rowOf_32 ?_
          refine r_ireturn dX8_rowOf_33 rfl rfl rfl ?_
          refine ⟨rI ?_, rfl, rfl⟩
          first
          | (rw [if_neg (by omega)]; done)
          | (obtain rfl : n = 0 := by omega
             split <;> rfl)
        · refine r_iload_n dX8_rowOf_14 rfl ?_
          refine r_aload_n dX8_rowOf_15 rfl ?_
          refine r_getR dX8_rowOf_16 fl_X8_18 rfl (by assumption) (by assumption) ?_
          refine r_iload_n dX8_rowOf_19 rfl ?_
          refine r_iald dX8_rowOf_20 (by assumption) rfl (by omega) ?_
          obtain ⟨e, he⟩ := getD_of (L := L) (i := k.toNat) (by omega)
          have q := (n4 k.toNat e he).2.2
          have hu := upC_le (L := L) (n := k.toNat + 1)
          rw [show ((k.toNat : Nat) : Int) = k by omega] at q
          rw [q]
          refine q_icmp_ge (tgt := 26) dX8_rowOf_21 rfl (by omega) (by omega) (fun c21 => ?_) (fun c21 => ?_)
          · refine r_iinc dX8_rowOf_26 rfl rfl ?_
            refine r_goto (tgt := 2) dX8_rowOf_29 rfl ?_
            obtain ⟨q, rfl⟩ : ∃ q, n = q + 1 := ⟨n - 1, by omega⟩
            refine AW.mono (ih q (k + 1) (by omega) (by omega) (by omega)) ?_
            rintro r sh2 μ2 ⟨rfl, h⟩
            refine ⟨rI ?_, h⟩
            rw [if_pos (by omega), if_pos (by omega), fnd, if_neg (by rw [decide_eq_true_eq]; omega)]
          · refine r_iload_n dX8_rowOf_24 rfl ?_
            refine r_ireturn dX8_rowOf_25 rfl rfl rfl ?_
            obtain ⟨q, rfl⟩ : ∃ q, n = q + 1 := ⟨n - 1, by omega⟩
            refine ⟨rI ?_, rfl, rfl⟩
            rw [if_pos (by omega), fnd, if_pos (decide_eq_true (by omega))]
  refine AMet.of (by decide) rfl (by decide) rfl ?_
  refine r_iconst dX8_rowOf_0 ?_
  refine r_istore_n dX8_rowOf_1 rfl ?_
  exact loop _ L.length 0 (Nat.lt_succ_self _) (by omega) (by omega)
theorem c_spotIn {μ : Mem} (hT : IsTab μ.2.2) {N : Int} {L : List Ent} (hW : RW μ N L) {r k : Int} (hr : -2147483648 ≤ r ∧ r < 2147483648) (hk : -2147483648 ≤ k ∧ k < 2147483648) (hN : N ≤ 5) (hd : ∀ (i : Nat) (e : Ent), L[i]? = some e → ∀ j, 0 ≤ j → j < N → 1 ≤ dg N e.1 j) {e : Ent} (he : 0 ≤ r ∧ L[r.toNat]? = some e) (hkN : 0 ≤ k ∧ k < N) : FMet yX8_spotIn gX8_spotIn SH [vR 172, vI r, vI k] μ (some (vI (dg N e.1 k - 1))) μ := by
  obtain ⟨t2, t3, t4, t9, t10, t11, t12, t13, t14⟩ := id hT
  have x172 : SH[172]? = some (7, 15) := rfl
  have x173 : SH[173]? = some (20, 720) := rfl
  have x174 : SH[174]? = some (20, 720) := rfl
  have x175 : SH[175]? = some (20, 720) := rfl
  have x176 : SH[176]? = some (20, 5) := rfl
  have x177 : SH[177]? = some (20, 5) := rfl
  have x178 : SH[178]? = some (20, 5) := rfl
  have x179 : SH[179]? = some (20, 6) := rfl
  have x180 : SH[180]? = some (20, 3) := rfl
  have x181 : SH[181]? = some (20, 10) := rfl
  obtain ⟨n1, n2, n3, n4⟩ := id hW
  have hlt : r.toNat < L.length := (List.getElem?_eq_some_iff.1 he.2).1
  have q := (n4 r.toNat e he.2).1
  rw [show ((r.toNat : Nat) : Int) = r by omega] at q
  refine AMet.of (by decide) rfl (by decide) rfl ?_
  refine r_iload_n dX8_spotIn_0 rfl ?_
  refine q_if_lt (tgt := 25) dX8_spotIn_1 rfl (by omega) (fun c1 => ?_) (fun c1 => ?_)
  · exact absurd c1 (by omega)
  · refine r_iload_n dX8_spotIn_4 rfl ?_
    refine r_aload_n dX8_spotIn_5 rfl ?_
    refine r_getI dX8_spotIn_6 fl_X8_43 rfl (by assumption) ?_
    refine q_icmp_ge (tgt := 25) dX8_spotIn_9 rfl (by omega) (by omega) (fun c9 => ?_) (fun c9 => ?_)
    · exact absurd c9 (by omega)
    · refine r_iload_n dX8_spotIn_12 rfl ?_
      refine q_if_lt (tgt := 25) dX8_spotIn_13 rfl (by omega) (fun c13 => ?_) (fun c13 => ?_)
      · exact absurd c13 (by omega)
      · refine r_iload_n dX8_spotIn_16 rfl ?_
        refine r_iconst dX8_spotIn_17 ?_
        refine q_icmp_ge (tgt := 25) dX8_spotIn_18 rfl (by omega) (by omega) (fun c18 => ?_) (fun c18 => ?_)
        · exact absurd c18 (by omega)
        · refine r_iconst dX8_spotIn_21 ?_
          refine r_goto (tgt := 26) dX8_spotIn_22 rfl ?_
          refine r_istore_n dX8_spotIn_26 rfl ?_
          refine r_iload_n dX8_spotIn_27 rfl ?_
          refine q_if_eq (tgt := 47) dX8_spotIn_28 rfl (by decide) (fun c28 => ?_) (fun c28 => ?_)
          · exact absurd c28 (by decide)
          · refine r_aload_n dX8_spotIn_31 rfl ?_
            refine r_getR dX8_spotIn_32 fl_X8_11 rfl (by assumption) (by assumption) ?_
            refine r_iload_n dX8_spotIn_35 rfl ?_
            refine r_iald dX8_spotIn_36 (by assumption) rfl (by omega) ?_
            rw [q]
            refine r_iconst dX8_spotIn_37 ?_
            refine r_iload_n dX8_spotIn_38 rfl ?_
            refine r_imul dX8_spotIn_39 ?_
            refine r_ishr dX8_spotIn_40 ?_
            refine r_bipush dX8_spotIn_41 (by decide) ?_
            refine r_iand dX8_spotIn_43 ?_
            refine r_goto (tgt := 48) dX8_spotIn_44 rfl ?_
            refine r_ireturn dX8_spotIn_48 rfl rfl rfl ?_
            refine ⟨rI ?_, rfl, rfl⟩
            exact unpack hN hkN (hd _ _ he.2)
theorem c_amountIn {μ : Mem} (hT : IsTab μ.2.2) {N : Int} {L : List Ent} (hW : RW μ N L) {i r b : Int} (hi : -2147483648 ≤ i ∧ i < 2147483648) (hr : -2147483648 ≤ r ∧ r < 2147483648) (hb : -2147483648 ≤ b ∧ b < 2147483648) {c : Nat} (hc : IsCargo SH μ.2.2 c) (h6 : μ.2.2 172 6 = some c) {e : Ent} (he : 0 ≤ r ∧ L[r.toNat]? = some e) : FMet yX8_amountIn gX8_amountIn SH [vR 172, vI i, vI r, vI b] μ (some (vI (if b = 0 then e.2.1 + i - upC L r.toNat else μ.1 c 5 - (e.2.1 + i - upC L r.toNat)))) μ := by
  obtain ⟨t2, t3, t4, t9, t10, t11, t12, t13, t14⟩ := id hT
  have x172 : SH[172]? = some (7, 15) := rfl
  have x173 : SH[173]? = some (20, 720) := rfl
  have x174 : SH[174]? = some (20, 720) := rfl
  have x175 : SH[175]? = some (20, 720) := rfl
  have x176 : SH[176]? = some (20, 5) := rfl
  have x177 : SH[177]? = some (20, 5) := rfl
  have x178 : SH[178]? = some (20, 5) := rfl
  have x179 : SH[179]? = some (20, 6) := rfl
  have x180 : SH[180]? = some (20, 3) := rfl
  have x181 : SH[181]? = some (20, 10) := rfl
  obtain ⟨n1, n2, n3, n4⟩ := id hW
  obtain ⟨h0, h1, h2, h3, h4, h7, s1, s2, s3, s4, s5⟩ := id hc
  have hlt : r.toNat < L.length := (List.getElem?_eq_some_iff.1 he.2).1
  have q := (n4 r.toNat e he.2).2.1
  rw [show ((r.toNat : Nat) : Int) = r by omega] at q
  refine AMet.of (by decide) rfl (by decide) rfl ?_
  refine r_iload_n dX8_amountIn_0 rfl ?_
  refine q_if_lt (tgt := 12) dX8_amountIn_1 rfl (by omega) (fun c1 => ?_) (fun c1 => ?_)
  · exact absurd c1 (by omega)
  · refine r_iload_n dX8_amountIn_4 rfl ?_
    refine r_aload_n dX8_amountIn_5 rfl ?_
    refine r_getI dX8_amountIn_6 fl_X8_43 rfl (by assumption) ?_
    refine q_icmp_lt (tgt := 14) dX8_amountIn_9 rfl (by omega) (by omega) (fun c9 => ?_) (fun c9 => ?_)
    · refine r_aload_n dX8_amountIn_14 rfl ?_
      refine r_getR dX8_amountIn_15 fl_X8_15 rfl (by assumption) (by assumption) ?_
      refine r_iload_n dX8_amountIn_18 rfl ?_
      refine r_iald dX8_amountIn_19 (by assumption) rfl (by omega) ?_
      rw [q]
      refine r_iload_n dX8_amountIn_20 rfl ?_
      refine r_iadd dX8_amountIn_21 ?_
      refine r_aload_n dX8_amountIn_22 rfl ?_
      refine r_iload_n dX8_amountIn_23 rfl ?_
      refine r_iconst dX8_amountIn_24 ?_
      refine r_isub dX8_amountIn_25 ?_
      refine r_cV1F1 dX8_amountIn_26 ml_X8_99 yl_X8_upTo ⟨rfl, rfl⟩ (by assumption) ⟨_, rfl⟩ rfl rfl rfl rfl (c_upTo hT hW (by omega)) ?_
      rw [upF_s (by omega), show (r - 1 + 1).toNat = r.toNat by omega]
      refine r_isub dX8_amountIn_29 ?_
      refine r_istore dX8_amountIn_30 rfl ?_
      refine r_iload_n dX8_amountIn_32 rfl ?_
      refine q_if_ne (tgt := 41) dX8_amountIn_33 rfl (by omega) (fun c33 => ?_) (fun c33 => ?_)
      · refine r_aload_n dX8_amountIn_41 rfl ?_
        refine r_getR dX8_amountIn_42 fl_X8_51 rfl (by assumption) (by assumption) ?_
        refine r_getI dX8_amountIn_45 fl_X8_55 rfl (by assumption) ?_
        refine r_iload dX8_amountIn_48 rfl ?_
        refine r_isub dX8_amountIn_50 ?_
        refine r_ireturn dX8_amountIn_51 rfl rfl rfl ?_
        refine ⟨rI ?_, rfl, rfl⟩
        first
        | (rw [if_pos c33]; done)
        | (rw [if_neg c33]; done)
      · refine r_iload dX8_amountIn_36 rfl ?_
        refine r_goto (tgt := 51) dX8_amountIn_38 rfl ?_
        refine r_ireturn dX8_amountIn_51 rfl rfl rfl ?_
        refine ⟨rI ?_, rfl, rfl⟩
        first
        | (rw [if_pos c33]; done)
        | (rw [if_neg c33]; done)
    · exact absurd c9 (by omega)
theorem c_takesAmount {μ : Mem} (hT : IsTab μ.2.2) {N : Int} {L : List Ent} (hW : RW μ N L) {r a : Int} (hr : -2147483648 ≤ r ∧ r < 2147483648) (ha : -2147483648 ≤ a ∧ a < 2147483648) {e : Ent} (he : 0 ≤ r ∧ L[r.toNat]? = some e) (hb : 0 ≤ e.2.1 ∧ e.2.1 ≤ 1000) (hb2 : 0 ≤ e.2.2 ∧ e.2.2 ≤ 1000) : FMet yX8_takesAmount gX8_takesAmount SH [vR 172, vI r, vI a] μ (some (vI (b2i (decide (e.2.1 ≤ a ∧ a < e.2.1 + e.2.2))))) μ := by
  obtain ⟨t2, t3, t4, t9, t10, t11, t12, t13, t14⟩ := id hT
  have x172 : SH[172]? = some (7, 15) := rfl
  have x173 : SH[173]? = some (20, 720) := rfl
  have x174 : SH[174]? = some (20, 720) := rfl
  have x175 : SH[175]? = some (20, 720) := rfl
  have x176 : SH[176]? = some (20, 5) := rfl
  have x177 : SH[177]? = some (20, 5) := rfl
  have x178 : SH[178]? = some (20, 5) := rfl
  have x179 : SH[179]? = some (20, 6) := rfl
  have x180 : SH[180]? = some (20, 3) := rfl
  have x181 : SH[181]? = some (20, 10) := rfl
  obtain ⟨n1, n2, n3, n4⟩ := id hW
  have hlt : r.toNat < L.length := (List.getElem?_eq_some_iff.1 he.2).1
  have q := (n4 r.toNat e he.2).2.1
  rw [show ((r.toNat : Nat) : Int) = r by omega] at q
  have hs := upC_s he.2
  refine AMet.of (by decide) rfl (by decide) rfl ?_
  refine r_iload_n dX8_takesAmount_0 rfl ?_
  refine q_if_lt (tgt := 12) dX8_takesAmount_1 rfl (by omega) (fun c1 => ?_) (fun c1 => ?_)
  · exact absurd c1 (by omega)
  · refine r_iload_n dX8_takesAmount_4 rfl ?_
    refine r_aload_n dX8_takesAmount_5 rfl ?_
    refine r_getI dX8_takesAmount_6 fl_X8_43 rfl (by assumption) ?_
    refine q_icmp_lt (tgt := 14) dX8_takesAmount_9 rfl (by omega) (by omega) (fun c9 => ?_) (fun c9 => ?_)
    · refine r_aload_n dX8_takesAmount_14 rfl ?_
      refine r_iload_n dX8_takesAmount_15 rfl ?_
      refine r_cV1F1 dX8_takesAmount_16 ml_X8_99 yl_X8_upTo ⟨rfl, rfl⟩ (by assumption) ⟨_, rfl⟩ rfl rfl rfl rfl (c_upTo hT hW (by omega)) ?_
      rw [upF_s (by omega), show (r + 1).toNat = r.toNat + 1 by omega, hs]
      refine r_aload_n dX8_takesAmount_19 rfl ?_
      refine r_iload_n dX8_takesAmount_20 rfl ?_
      refine r_iconst dX8_takesAmount_21 ?_
      refine r_isub dX8_takesAmount_22 ?_
      refine r_cV1F1 dX8_takesAmount_23 ml_X8_99 yl_X8_upTo ⟨rfl, rfl⟩ (by assumption) ⟨_, rfl⟩ rfl rfl rfl rfl (c_upTo hT hW (by omega)) ?_
      rw [upF_s (by omega), show (r - 1 + 1).toNat = r.toNat by omega]
      refine r_isub dX8_takesAmount_26 ?_
      refine r_istore_n dX8_takesAmount_27 rfl ?_
      refine r_iload_n dX8_takesAmount_28 rfl ?_
      refine r_aload_n dX8_takesAmount_29 rfl ?_
      refine r_getR dX8_takesAmount_30 fl_X8_15 rfl (by assumption) (by assumption) ?_
      refine r_iload_n dX8_takesAmount_33 rfl ?_
      refine r_iald dX8_takesAmount_34 (by assumption) rfl (by omega) ?_
      rw [q]
      refine q_icmp_lt (tgt := 54) dX8_takesAmount_35 rfl (by omega) (by omega) (fun c35 => ?_) (fun c35 => ?_)
      · refine r_iconst dX8_takesAmount_54 ?_
        refine r_zreturn dX8_takesAmount_55 (by first | exact Or.inl rfl | exact Or.inr rfl | exact b2i_01 _ | omega) rfl rfl rfl ?_
        refine ⟨rI ?_, rfl, rfl⟩
        first
        | (rw [decide_eq_true (by omega)]; rfl)
        | (rw [decide_eq_false (by omega)]; rfl)
      · refine r_iload_n dX8_takesAmount_38 rfl ?_
        refine r_aload_n dX8_takesAmount_39 rfl ?_
        refine r_getR dX8_takesAmount_40 fl_X8_15 rfl (by assumption) (by assumption) ?_
        refine r_iload_n dX8_takesAmount_43 rfl ?_
        refine r_iald dX8_takesAmount_44 (by assumption) rfl (by omega) ?_
        rw [q]
        refine r_iload_n dX8_takesAmount_45 rfl ?_
        refine r_iadd dX8_takesAmount_46 ?_
        refine q_icmp_ge (tgt := 54) dX8_takesAmount_47 rfl (by omega) (by omega) (fun c47 => ?_) (fun c47 => ?_)
        · refine r_iconst dX8_takesAmount_54 ?_
          refine r_zreturn dX8_takesAmount_55 (by first | exact Or.inl rfl | exact Or.inr rfl | exact b2i_01 _ | omega) rfl rfl rfl ?_
          refine ⟨rI ?_, rfl, rfl⟩
          first
          | (rw [decide_eq_true (by omega)]; rfl)
          | (rw [decide_eq_false (by omega)]; rfl)
        · refine r_iconst dX8_takesAmount_50 ?_
          refine r_goto (tgt := 55) dX8_takesAmount_51 rfl ?_
          refine r_zreturn dX8_takesAmount_55 (by first | exact Or.inl rfl | exact Or.inr rfl | exact b2i_01 _ | omega) rfl rfl rfl ?_
          refine ⟨rI ?_, rfl, rfl⟩
          first
          | (rw [decide_eq_true (by omega)]; rfl)
          | (rw [decide_eq_false (by omega)]; rfl)
    · exact absurd c9 (by omega)
