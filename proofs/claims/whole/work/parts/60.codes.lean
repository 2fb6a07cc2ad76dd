/-! 60.codes: bits, layouts as numbers by 7 (wip/whole/src/60_codes.py) -/
theorem and1 (b : BitVec 32) : (b &&& 1#32 = 1#32) ↔ b.getLsbD 0 = true := by
  constructor
  · intro h
    have : (b &&& 1#32).getLsbD 0 = (1#32 : BitVec 32).getLsbD 0 := by rw [h]
    simpa using this
  · intro h
    ext i hi
    by_cases e : i = 0
    · subst e; simpa using h
    · simp [BitVec.getElem_and, BitVec.getElem_one, e]
theorem sm_tab : ∀ s : Nat, s < 32 → (Int32.ofInt (s : Int) &&& 31).toBitVec.smod 32 = BitVec.ofNat 32 s := by decide
theorem bit_lsb {w : Int} {s : Nat} (hs : s < 32) : bit w s = (Int32.ofInt w).toBitVec.getLsbD s := by
  unfold bit iand ishr
  rw [b_toInt]
  have e1 : (Int32.ofInt w >>> (Int32.ofInt (s : Int) &&& 31)).toBitVec = (Int32.ofInt w).toBitVec.sshiftRight s := by
    rw [Int32.toBitVec_shiftRight, sm_tab s hs]
    simp only [BitVec.sshiftRight', BitVec.toNat_ofNat]
    congr 1
    omega
  rw [Bool.eq_iff_iff, decide_eq_true_eq]
  have e2 : ((Int32.ofInt w >>> (Int32.ofInt (s : Int) &&& 31) &&& Int32.ofInt 1).toInt = 1) ↔ ((Int32.ofInt w >>> (Int32.ofInt (s : Int) &&& 31)).toBitVec &&& 1#32 = 1#32) := by
    constructor
    · intro h
      have h2 : (Int32.ofInt w >>> (Int32.ofInt (s : Int) &&& 31) &&& Int32.ofInt 1) = Int32.ofInt 1 := by
        rw [← b_toInt (Int32.ofInt w >>> (Int32.ofInt (s : Int) &&& 31) &&& Int32.ofInt 1), h]
      have := congrArg Int32.toBitVec h2
      rw [Int32.toBitVec_and] at this
      exact this
    · intro h
      have h2 : (Int32.ofInt w >>> (Int32.ofInt (s : Int) &&& 31) &&& Int32.ofInt 1) = Int32.ofInt 1 := by
        apply Int32.toBitVec_inj.1
        rw [Int32.toBitVec_and]
        exact h
      rw [h2]
      rfl
  rw [e2, and1, e1]
  rw [BitVec.getLsbD_sshiftRight]
  simp [hs]
theorem bit_ior {a b : Int} {s : Nat} (hs : s < 32) : bit (ior a b) s = (bit a s || bit b s) := by
  rw [bit_lsb hs, bit_lsb hs, bit_lsb hs]
  unfold ior
  rw [b_toInt, Int32.toBitVec_or, BitVec.getLsbD_or]
theorem bit_shl0 : ∀ k : Nat, k < 8 → ∀ s : Nat, s < 8 → bit (ishl 1 (k : Int)) (s : Int) = decide (s = k) := by decide
theorem bit_0 : ∀ s : Nat, s < 8 → bit 0 (s : Int) = false := by decide
theorem bit_iand {a b : Int} {s : Nat} (hs : s < 32) : bit (iand a b) s = (bit a s && bit b s) := by
  rw [bit_lsb hs, bit_lsb hs, bit_lsb hs]
  unfold iand
  rw [b_toInt, Int32.toBitVec_and, BitVec.getLsbD_and]
theorem bit_set {a s k : Int} (hs : 0 ≤ s ∧ s < 8) (hk : 0 ≤ k ∧ k < 8) : bit (ior a (ishl 1 k)) s = (bit a s || decide (s = k)) := by
  obtain ⟨s, rfl⟩ := Int.eq_ofNat_of_zero_le hs.1
  obtain ⟨k, rfl⟩ := Int.eq_ofNat_of_zero_le hk.1
  rw [bit_ior (by omega), bit_shl0 k (by omega) s (by omega)]
  congr 1
  rw [Bool.eq_iff_iff, decide_eq_true_eq, decide_eq_true_eq]
  omega
/-- the digit of pallet k in a layout's number -/
def dg (N c k : Int) : Int := (c / 7 ^ (N - 1 - k).toNat) % 7
def layR (ρ : Row) (c : Int) : Row := fun j => if 93 ≤ j ∧ j < 93 + ρ 11 then dg (ρ 11) c (j - 93) - 1 else ρ j
def codeR (ρ : Row) : Int := fld (fun k v => 7 * v + ρ (93 + k) + 1) (ρ 11).toNat 0 0
theorem pw_pos (n : Nat) : (0 : Int) < 7 ^ n := Int.pow_pos (by decide)
theorem div7 (c : Int) (n : Nat) : c / 7 ^ n / 7 = c / 7 ^ (n + 1) := by
  rw [Int.ediv_ediv_of_nonneg (by have := pw_pos n; omega), Int.pow_succ]
theorem dg_rng (N c k : Int) : 0 ≤ dg N c k ∧ dg N c k < 7 := by unfold dg; omega
/-- a number by its digits -/
theorem fld7_div {f : Int → Int} (hf : ∀ k, 0 ≤ f k ∧ f k < 7) : ∀ n : Nat, (0 ≤ fld (fun k v => 7 * v + f k) n 0 0 ∧ fld (fun k v => 7 * v + f k) n 0 0 < 7 ^ n) ∧ ∀ k : Nat, k < n → fld (fun k v => 7 * v + f k) n 0 0 / 7 ^ (n - 1 - k) % 7 = f k
  | 0 => ⟨by simp [fld], fun k h => absurd h (by omega)⟩
  | n + 1 => by
    obtain ⟨⟨a, b⟩, c⟩ := fld7_div hf n
    rw [fld_snoc, Int.zero_add]
    generalize fld (fun k v => 7 * v + f k) n 0 0 = V at *
    have h := hf n
    have hp : (7 : Int) ^ (n + 1) = 7 ^ n * 7 := Int.pow_succ _ _
    refine ⟨⟨by omega, by omega⟩, fun k hk => ?_⟩
    by_cases e : k = n
    · subst e
      rw [Nat.add_sub_cancel, Nat.sub_self, Int.pow_zero, Int.ediv_one]
      omega
    · rw [← c k (by omega), show n + 1 - 1 - k = 1 + (n - 1 - k) by omega, Int.pow_add, ← Int.ediv_ediv_of_nonneg (by decide)]
      congr 2
      omega
theorem codeR_f (ρ : Row) : codeR ρ = fld (fun k v => 7 * v + (ρ (93 + k) + 1)) (ρ 11).toNat 0 0 := fld_congr _ _ _ fun j a _ _ => by omega
theorem codeR_spec {ρ : Row} (h : ∀ k, 0 ≤ k → k < ρ 11 → -1 ≤ ρ (93 + k) ∧ ρ (93 + k) < 6) : (0 ≤ codeR ρ ∧ codeR ρ < 7 ^ (ρ 11).toNat) ∧ ∀ k, 0 ≤ k → k < ρ 11 → dg (ρ 11) (codeR ρ) k = ρ (93 + k) + 1 := by
  have e : codeR ρ = fld (fun k v => 7 * v + (if 0 ≤ k ∧ k < ρ 11 then ρ (93 + k) + 1 else 0)) (ρ 11).toNat 0 0 := by
    rw [codeR_f]
    refine fld_congr _ _ _ fun j a j0 j1 => ?_
    rw [if_pos (by omega)]
  have q := fld7_div (f := fun k => if 0 ≤ k ∧ k < ρ 11 then ρ (93 + k) + 1 else 0) (fun k => by
    try dsimp only
    split
    · rename_i hk
      have := h k hk.1 hk.2
      omega
    · omega) (ρ 11).toNat
  rw [← e] at q
  refine ⟨q.1, fun k k0 k1 => ?_⟩
  have q2 := q.2 k.toNat (by omega)
  try dsimp only at q2
  rw [if_pos (by omega), show ((k.toNat : Nat) : Int) = k by omega] at q2
  unfold dg
  rw [show (ρ 11 - 1 - k).toNat = (ρ 11).toNat - 1 - k.toNat by omega]
  exact q2
theorem lay_code {ρ : Row} (h : ∀ k, 0 ≤ k → k < ρ 11 → -1 ≤ ρ (93 + k) ∧ ρ (93 + k) < 6) : layR ρ (codeR ρ) = ρ := by
  funext j
  unfold layR
  by_cases e : 93 ≤ j ∧ j < 93 + ρ 11
  · rw [if_pos e, (codeR_spec h).2 (j - 93) (by omega) (by omega), show 93 + (j - 93) = j by omega]
    omega
  · rw [if_neg e]
theorem lay_11 (ρ : Row) (c : Int) : layR ρ c 11 = ρ 11 := if_neg (by omega)
theorem lay_ne {ρ : Row} {c j : Int} (h : ¬ (93 ≤ j ∧ j < 93 + ρ 11)) : layR ρ c j = ρ j := if_neg h
theorem lay_at {ρ : Row} {c k : Int} (h : 0 ≤ k ∧ k < ρ 11) : layR ρ c (93 + k) = dg (ρ 11) c k - 1 := by
  unfold layR
  rw [if_pos (by omega), show 93 + k - 93 = k by omega]
theorem lay_lay {ρ : Row} {c d : Int} : layR (layR ρ c) d = layR ρ d := by
  funext j
  by_cases e : 93 ≤ j ∧ j < 93 + ρ 11
  · unfold layR
    rw [show (if 93 ≤ (11 : Int) ∧ (11 : Int) < 93 + ρ 11 then dg (ρ 11) c (11 - 93) - 1 else ρ 11) = ρ 11 from if_neg (by omega), if_pos e, if_pos e]
  · rw [lay_ne (by rw [lay_11]; exact e), lay_ne e, lay_ne e]
theorem fldpre {N c : Int} (hc : 0 ≤ c ∧ c < 7 ^ N.toNat) (hN : 0 ≤ N) : ∀ n : Nat, (n : Int) ≤ N → fld (fun k v => 7 * v + dg N c k) n 0 0 = c / 7 ^ (N.toNat - n)
  | 0, _ => by
    rw [fld, Nat.sub_zero]
    exact (Int.ediv_eq_zero_of_lt hc.1 hc.2).symm
  | n + 1, h => by
    rw [fld_snoc, fldpre hc hN n (by omega), Int.zero_add]
    unfold dg
    rw [show N.toNat - n = (N.toNat - (n + 1)) + 1 by omega, ← div7, show (N - 1 - (n : Int)).toNat = N.toNat - (n + 1) by omega]
    omega
theorem code_lay {ρ : Row} {c : Int} (hN : 0 ≤ ρ 11) (hc : 0 ≤ c ∧ c < 7 ^ (ρ 11).toNat) : codeR (layR ρ c) = c := by
  rw [codeR_f, lay_11]
  have h := fldpre hc hN (ρ 11).toNat (by omega)
  rw [Nat.sub_self, Int.pow_zero, Int.ediv_one] at h
  rw [← h]
  refine fld_congr _ _ _ fun j a j0 j1 => ?_
  try dsimp only
  rw [h, lay_at ⟨by omega, by omega⟩]
  omega
theorem pw_le {N : Int} (h : 0 ≤ N ∧ N ≤ 5) : (7 : Int) ^ N.toNat ≤ 16807 := by
  rcases (show N = 0 ∨ N = 1 ∨ N = 2 ∨ N = 3 ∨ N = 4 ∨ N = 5 by omega) with rfl | rfl | rfl | rfl | rfl | rfl <;> decide
/-- all are on spots, each on its own -/
def wholeF (ρ : Row) : Bool := allF (fun k => decide (0 ≤ ρ (93 + k) ∧ ρ (93 + k) < ρ 5) && allF (fun j => decide (ρ (93 + j) ≠ ρ (93 + k))) k.toNat 0) (ρ 11).toNat 0
theorem whole_iff {ρ : Row} (hn : 0 ≤ ρ 11) : wholeF ρ = true ↔ ∀ k, 0 ≤ k → k < ρ 11 → (0 ≤ ρ (93 + k) ∧ ρ (93 + k) < ρ 5) ∧ ∀ j, 0 ≤ j → j < k → ρ (93 + j) ≠ ρ (93 + k) := by
  unfold wholeF
  rw [allF_iff]
  constructor
  · intro h k k0 k1
    have q := h k k0 (by omega)
    rw [Bool.and_eq_true, decide_eq_true_eq, allF_iff] at q
    exact ⟨q.1, fun j j0 j1 => of_decide_eq_true (q.2 j j0 (by omega))⟩
  · intro h k k0 k1
    have q := h k k0 (by omega)
    rw [Bool.and_eq_true, decide_eq_true_eq, allF_iff]
    exact ⟨q.1, fun j j0 j1 => decide_eq_true (q.2 j j0 (by omega))⟩
theorem m_code {sh : Sh} {μ : Mem} {m : Nat} {ρ : Row} (hM : IsModel sh μ.2.2 m) (hr : μ.1 (m + 1) = ρ) (hN : 0 ≤ ρ 11 ∧ ρ 11 ≤ 5)  : FMet yX12_code gX12_code sh [vR m] μ (some (vI (codeR ρ))) μ := by
  obtain ⟨g0, f1, z1, f2, z2, f3, z3, f4, z4, f5, z5, f6, z6, f7, z7, f8, z8, f9, z9, f10, z10, f11, z11, f12, z12, f13, z13, f14, z14⟩ := id hM
  have lB : ∀ (f n : Nat) (k : Int) (v : Int), n < f → 0 ≤ k → k + n = ρ 11 → AW gX12_code sh μ 0 0 4 [some (vR m), some (vI v), some (vI k)] [] (fun r2 sh2 μ2 => r2 = some (vI (fld (fun k v => 7 * v + ρ (93 + k) + 1) n k v)) ∧ sh2 = sh ∧ μ2 = μ) := by
    intro f
    induction f with
    | zero => intro n; intros; omega
    | succ f ih =>
      intro n k v hf hk hn2
      refine r_iload_n dX12_code_4 rfl ?_
      refine r_aload_n dX12_code_5 rfl ?_
      refine r_getR dX12_code_6 fl_X12_7 rfl (by assumption) (by assumption) ?_
      refine r_bipush dX12_code_9 (by decide) ?_
      refine r_iald dX12_code_11 (by assumption) rfl (by omega) ?_
      (try rw [hr])
      refine q_icmp_ge (tgt := 38) dX12_code_12 rfl (by omega) (by omega) (fun c12 => ?_) (fun c12 => ?_)
      · refine r_iload_n dX12_code_38 rfl ?_
        refine r_ireturn dX12_code_39 rfl rfl rfl ?_
        obtain rfl : n = 0 := by omega
        exact ⟨rfl, rfl, rfl⟩
      · obtain ⟨q, rfl⟩ : ∃ q, n = q + 1 := ⟨n - 1, by omega⟩
        refine r_bipush dX12_code_15 (by decide) ?_
        refine r_iload_n dX12_code_17 rfl ?_
        refine r_imul dX12_code_18 ?_
        refine r_aload_n dX12_code_19 rfl ?_
        refine r_getR dX12_code_20 fl_X12_7 rfl (by assumption) (by assumption) ?_
        refine r_bipush dX12_code_23 (by decide) ?_
        refine r_iload_n dX12_code_25 rfl ?_
        refine r_iadd dX12_code_26 ?_
        refine r_iald dX12_code_27 (by assumption) rfl (by omega) ?_
        (try rw [hr])
        refine r_iadd dX12_code_28 ?_
        refine r_iconst dX12_code_29 ?_
        refine r_iadd dX12_code_30 ?_
        refine r_istore_n dX12_code_31 rfl ?_
        refine r_iinc dX12_code_32 rfl rfl ?_
        refine r_goto (tgt := 4) dX12_code_35 rfl ?_
        rw [fld]
        exact ih q (k + 1) _ (by omega) (by omega) (by omega)
  refine AMet.of (by decide) rfl (by decide) rfl ?_
  refine r_iconst dX12_code_0 ?_
  refine r_istore_n dX12_code_1 rfl ?_
  refine r_iconst dX12_code_2 ?_
  refine r_istore_n dX12_code_3 rfl ?_
  exact lB _ (ρ 11).toNat 0 0 (Nat.lt_succ_self _) (by omega) (by omega)
theorem m_codes {sh : Sh} {μ : Mem} {m : Nat} {ρ : Row} (hM : IsModel sh μ.2.2 m) (hr : μ.1 (m + 1) = ρ) (hN : 0 ≤ ρ 11 ∧ ρ 11 ≤ 5)  : FMet yX12_codes gX12_codes sh [vR m] μ (some (vI (7 ^ (ρ 11).toNat))) μ := by
  obtain ⟨g0, f1, z1, f2, z2, f3, z3, f4, z4, f5, z5, f6, z6, f7, z7, f8, z8, f9, z9, f10, z10, f11, z11, f12, z12, f13, z13, f14, z14⟩ := id hM
  have lB : ∀ (f n : Nat) (k : Int), n < f → 0 ≤ k → k + n = ρ 11 → AW gX12_codes sh μ 0 0 4 [some (vR m), some (vI (7 ^ k.toNat)), some (vI k)] [] (fun r2 sh2 μ2 => r2 = some (vI (7 ^ (ρ 11).toNat)) ∧ sh2 = sh ∧ μ2 = μ) := by
    intro f
    induction f with
    | zero => intro n; intros; omega
    | succ f ih =>
      intro n k hf hk hn2
      refine r_iload_n dX12_codes_4 rfl ?_
      refine r_aload_n dX12_codes_5 rfl ?_
      refine r_getR dX12_codes_6 fl_X12_7 rfl (by assumption) (by assumption) ?_
      refine r_bipush dX12_codes_9 (by decide) ?_
      refine r_iald dX12_codes_11 (by assumption) rfl (by omega) ?_
      (try rw [hr])
      refine q_icmp_ge (tgt := 26) dX12_codes_12 rfl (by omega) (by omega) (fun c12 => ?_) (fun c12 => ?_)
      · refine r_iload_n dX12_codes_26 rfl ?_
        refine r_ireturn dX12_codes_27 rfl rfl rfl ?_
        obtain rfl : k = ρ 11 := by omega
        exact ⟨rfl, rfl, rfl⟩
      · refine r_iload_n dX12_codes_15 rfl ?_
        refine r_bipush dX12_codes_16 (by decide) ?_
        refine r_imul dX12_codes_18 ?_
        refine r_istore_n dX12_codes_19 rfl ?_
        refine r_iinc dX12_codes_20 rfl rfl ?_
        refine r_goto (tgt := 4) dX12_codes_23 rfl ?_
        rw [show (7 : Int) ^ k.toNat * 7 = 7 ^ (k + 1).toNat by rw [show (k + 1).toNat = k.toNat + 1 by omega, Int.pow_succ]]
        exact ih (n - 1) (k + 1) (by omega) (by omega) (by omega)
  refine AMet.of (by decide) rfl (by decide) rfl ?_
  refine r_iconst dX12_codes_0 ?_
  refine r_istore_n dX12_codes_1 rfl ?_
  refine r_iconst dX12_codes_2 ?_
  refine r_istore_n dX12_codes_3 rfl ?_
  exact lB _ (ρ 11).toNat 0 (Nat.lt_succ_self _) (by omega) (by omega)
theorem m_lays {sh : Sh} {μ : Mem} {m : Nat} {ρ : Row} (hM : IsModel sh μ.2.2 m) (hr : μ.1 (m + 1) = ρ) (hN : 0 ≤ ρ 11 ∧ ρ 11 ≤ 5) {c : Int} (hc : 0 ≤ c ∧ c < 16807)  : FMet yX12_lays gX12_lays sh [vR m, vI c] μ none (wRow μ m (layR ρ c)) := by
  obtain ⟨g0, f1, z1, f2, z2, f3, z3, f4, z4, f5, z5, f6, z6, f7, z7, f8, z8, f9, z9, f10, z10, f11, z11, f12, z12, f13, z13, f14, z14⟩ := id hM
  have lB : ∀ (f n : Nat) (k : Int), n < f → k + 1 = n → k < ρ 11 → AW gX12_lays sh (wRow μ m (fun j => if 94 + k ≤ j ∧ j < 93 + ρ 11 then dg (ρ 11) c (j - 93) - 1 else ρ j)) 0 0 12 [some (vR m), some (vI c), some (vI (c / 7 ^ (ρ 11 - 1 - k).toNat)), some (vI k)] [] (fun r2 sh2 μ2 => r2 = none ∧ sh2 = sh ∧ μ2 = wRow μ m (layR ρ c)) := by
    intro f
    induction f with
    | zero => intro n; intros; omega
    | succ f ih =>
      intro n k hf hn2 hkN
      have hd1 := Int.ediv_nonneg (a := c) (b := 7 ^ (ρ 11 - 1 - k).toNat) hc.1 (by have := pw_pos (ρ 11 - 1 - k).toNat; omega)
      have hd2 := Int.ediv_le_self (7 ^ (ρ 11 - 1 - k).toNat) hc.1
      refine r_iload_n dX12_lays_12 rfl ?_
      refine q_if_lt (tgt := 42) dX12_lays_13 rfl (by omega) (fun c13 => ?_) (fun c13 => ?_)
      · refine r_return dX12_lays_42 rfl rfl rfl ?_
        refine ⟨rfl, rfl, ?_⟩
        obtain rfl : k = -1 := by omega
        rfl
      · refine r_aload_n dX12_lays_16 rfl ?_
        refine r_getR dX12_lays_17 fl_X12_7 rfl (by assumption) (by assumption) ?_
        refine r_bipush dX12_lays_20 (by decide) ?_
        refine r_iload_n dX12_lays_22 rfl ?_
        refine r_iadd dX12_lays_23 ?_
        refine r_iload_n dX12_lays_24 rfl ?_
        refine r_bipush dX12_lays_25 (by decide) ?_
        refine r_irem dX12_lays_27 (by omega) (by omega) ?_
        rw [Int.tmod_eq_emod_of_nonneg hd1]
        refine r_iconst dX12_lays_28 ?_
        refine r_isub dX12_lays_29 ?_
        refine r_iast dX12_lays_30 (by assumption) rfl (by omega) ?_
        rw [wRow_set]
        refine r_iload_n dX12_lays_31 rfl ?_
        refine r_bipush dX12_lays_32 (by decide) ?_
        refine r_idiv dX12_lays_34 (by omega) (by omega) ?_
        rw [Int.tdiv_eq_ediv_of_nonneg hd1]
        refine r_istore_n dX12_lays_35 rfl ?_
        refine r_iinc dX12_lays_36 rfl rfl ?_
        refine r_goto (tgt := 12) dX12_lays_39 rfl ?_
        rw [div7, show (ρ 11 - 1 - k).toNat + 1 = (ρ 11 - 1 - (k + -1)).toNat by omega]
        have h := ih (n - 1) (k + -1) (by omega) (by omega) (by omega)
        rw [show rset (fun j => if 94 + k ≤ j ∧ j < 93 + ρ 11 then dg (ρ 11) c (j - 93) - 1 else ρ j) (93 + k) (c / 7 ^ (ρ 11 - 1 - k).toNat % 7 - 1) = (fun j => if 94 + (k + -1) ≤ j ∧ j < 93 + ρ 11 then dg (ρ 11) c (j - 93) - 1 else ρ j) from funext fun j => ?_]
        · exact h
        · by_cases e : j = 93 + k
          · rw [e, rset_eq, if_pos (by omega)]
            unfold dg
            rw [show 93 + k - 93 = k by omega]
          · rw [rset_ne e]
            by_cases e2 : 94 + k ≤ j ∧ j < 93 + ρ 11
            · rw [if_pos e2, if_pos (by omega)]
            · rw [if_neg e2, if_neg (by omega)]
  refine AMet.of (by decide) rfl (by decide) rfl ?_
  refine r_iload_n dX12_lays_0 rfl ?_
  refine r_istore_n dX12_lays_1 rfl ?_
  refine r_aload_n dX12_lays_2 rfl ?_
  refine r_getR dX12_lays_3 fl_X12_7 rfl (by assumption) (by assumption) ?_
  refine r_bipush dX12_lays_6 (by decide) ?_
  refine r_iald dX12_lays_8 (by assumption) rfl (by omega) ?_
  rw [hr]
  refine r_iconst dX12_lays_9 ?_
  refine r_isub dX12_lays_10 ?_
  refine r_istore_n dX12_lays_11 rfl ?_
  have h := lB _ (ρ 11).toNat (ρ 11 - 1) (Nat.lt_succ_self _) (by omega) (by omega)
  rw [show (ρ 11 - 1 - (ρ 11 - 1)).toNat = 0 by omega, Int.pow_zero, Int.ediv_one] at h
  have e : wRow μ m (fun j => if 94 + (ρ 11 - 1) ≤ j ∧ j < 93 + ρ 11 then dg (ρ 11) c (j - 93) - 1 else ρ j) = μ := wRow_id (hr.trans (funext fun j => (if_neg (by omega)).symm))
  rw [e] at h
  exact h
theorem m_spotBy {sh : Sh} {μ : Mem} {m : Nat} {ρ : Row} (hM : IsModel sh μ.2.2 m) (hr : μ.1 (m + 1) = ρ) (hN : 0 ≤ ρ 11 ∧ ρ 11 ≤ 5) {c k0 : Int} (hc : 0 ≤ c ∧ c < 16807) (hk0 : 0 ≤ k0 ∧ k0 < ρ 11)  : FMet yX12_spotBy gX12_spotBy sh [vR m, vI c, vI k0] μ (some (vI (dg (ρ 11) c k0 - 1))) μ := by
  obtain ⟨g0, f1, z1, f2, z2, f3, z3, f4, z4, f5, z5, f6, z6, f7, z7, f8, z8, f9, z9, f10, z10, f11, z11, f12, z12, f13, z13, f14, z14⟩ := id hM
  have lB : ∀ (f n : Nat) (k : Int) (e : Int), n < f → 0 ≤ k → k + n = ρ 11 - 1 - k0 → e = k0 + n → AW gX12_spotBy sh μ 0 0 13 [some (vR m), some (vI c), some (vI k0), some (vI (c / 7 ^ (ρ 11 - 1 - e).toNat)), some (vI e)] [] (fun r2 sh2 μ2 => r2 = some (vI (dg (ρ 11) c k0 - 1)) ∧ sh2 = sh ∧ μ2 = μ) := by
    intro f
    induction f with
    | zero => intro n; intros; omega
    | succ f ih =>
      intro n k e hf hk hn2 he
      have hd1 := Int.ediv_nonneg (a := c) (b := 7 ^ (ρ 11 - 1 - e).toNat) hc.1 (by have := pw_pos (ρ 11 - 1 - e).toNat; omega)
      have hd2 := Int.ediv_le_self (7 ^ (ρ 11 - 1 - e).toNat) hc.1
      refine r_iload dX12_spotBy_13 rfl ?_
      refine r_iload_n dX12_spotBy_15 rfl ?_
      refine q_icmp_le (tgt := 30) dX12_spotBy_16 rfl (by omega) (by omega) (fun c16 => ?_) (fun c16 => ?_)
      · refine r_iload_n dX12_spotBy_30 rfl ?_
        refine r_bipush dX12_spotBy_31 (by decide) ?_
        refine r_irem dX12_spotBy_33 (by omega) (by omega) ?_
        rw [Int.tmod_eq_emod_of_nonneg hd1]
        refine r_iconst dX12_spotBy_34 ?_
        refine r_isub dX12_spotBy_35 ?_
        refine r_ireturn dX12_spotBy_36 rfl rfl rfl ?_
        obtain rfl : e = k0 := by omega
        exact ⟨rfl, rfl, rfl⟩
      · refine r_iload_n dX12_spotBy_19 rfl ?_
        refine r_bipush dX12_spotBy_20 (by decide) ?_
        refine r_idiv dX12_spotBy_22 (by omega) (by omega) ?_
        rw [Int.tdiv_eq_ediv_of_nonneg hd1]
        refine r_istore_n dX12_spotBy_23 rfl ?_
        refine r_iinc dX12_spotBy_24 rfl rfl ?_
        refine r_goto (tgt := 13) dX12_spotBy_27 rfl ?_
        rw [div7, show (ρ 11 - 1 - e).toNat + 1 = (ρ 11 - 1 - (e + -1)).toNat by omega]
        exact ih (n - 1) (k + 1) (e + -1) (by omega) (by omega) (by omega) (by omega)
  refine AMet.of (by decide) rfl (by decide) rfl ?_
  refine r_iload_n dX12_spotBy_0 rfl ?_
  refine r_istore_n dX12_spotBy_1 rfl ?_
  refine r_aload_n dX12_spotBy_2 rfl ?_
  refine r_getR dX12_spotBy_3 fl_X12_7 rfl (by assumption) (by assumption) ?_
  refine r_bipush dX12_spotBy_6 (by decide) ?_
  refine r_iald dX12_spotBy_8 (by assumption) rfl (by omega) ?_
  rw [hr]
  refine r_iconst dX12_spotBy_9 ?_
  refine r_isub dX12_spotBy_10 ?_
  refine r_istore dX12_spotBy_11 rfl ?_
  have h := lB _ (ρ 11 - 1 - k0).toNat 0 (ρ 11 - 1) (Nat.lt_succ_self _) (by omega) (by omega) (by omega)
  rw [show (ρ 11 - 1 - (ρ 11 - 1)).toNat = 0 by omega, Int.pow_zero, Int.ediv_one] at h
  exact h
theorem m_isWhole {sh : Sh} {μ : Mem} {m : Nat} {ρ : Row} (hM : IsModel sh μ.2.2 m) (hr : μ.1 (m + 1) = ρ) (hN : 0 ≤ ρ 11 ∧ ρ 11 ≤ 5) (h5 : 0 ≤ ρ 5 ∧ ρ 5 ≤ 6) (hl : ∀ k, 0 ≤ k → k < ρ 11 → -1 ≤ ρ (93 + k) ∧ ρ (93 + k) < 6)  : FMet yX12_isWhole gX12_isWhole sh [vR m] μ (some (vI (b2i (wholeF ρ)))) μ := by
  obtain ⟨g0, f1, z1, f2, z2, f3, z3, f4, z4, f5, z5, f6, z6, f7, z7, f8, z8, f9, z9, f10, z10, f11, z11, f12, z12, f13, z13, f14, z14⟩ := id hM
  have lB : ∀ (f n : Nat) (k : Int) (s : Int) (o3 : Option AV), n < f → 0 ≤ k → k + n = ρ 11 → (∀ x, 0 ≤ x → x < 6 → (bit s x = true ↔ ∃ j, 0 ≤ j ∧ j < k ∧ ρ (93 + j) = x)) → AW gX12_isWhole sh μ 0 0 4 [some (vR m), some (vI s), some (vI k), o3] [] (fun r2 sh2 μ2 => r2 = some (vI (b2i (allF (fun k => decide (0 ≤ ρ (93 + k) ∧ ρ (93 + k) < ρ 5) && allF (fun j => decide (ρ (93 + j) ≠ ρ (93 + k))) k.toNat 0) n k))) ∧ sh2 = sh ∧ μ2 = μ) := by
    intro f
    induction f with
    | zero => intro n; intros; omega
    | succ f ih =>
      intro n k s o3 hf hk hn2 hs
      refine r_iload_n dX12_isWhole_4 rfl ?_
      refine r_aload_n dX12_isWhole_5 rfl ?_
      refine r_getR dX12_isWhole_6 fl_X12_7 rfl (by assumption) (by assumption) ?_
      refine r_bipush dX12_isWhole_9 (by decide) ?_
      refine r_iald dX12_isWhole_11 (by assumption) rfl (by omega) ?_
      (try rw [hr])
      refine q_icmp_ge (tgt := 61) dX12_isWhole_12 rfl (by omega) (by omega) (fun c12 => ?_) (fun c12 => ?_)
      · refine r_iconst dX12_isWhole_61 ?_
        refine r_zreturn dX12_isWhole_62 (by first | exact Or.inl rfl | exact Or.inr rfl | exact b2i_01 _ | omega) rfl rfl rfl ?_
        obtain rfl : n = 0 := by omega
        exact ⟨rfl, rfl, rfl⟩
      · obtain ⟨q, rfl⟩ : ∃ q, n = q + 1 := ⟨n - 1, by omega⟩
        have hlk := hl k (by omega) (by omega)
        refine r_aload_n dX12_isWhole_15 rfl ?_
        refine r_getR dX12_isWhole_16 fl_X12_7 rfl (by assumption) (by assumption) ?_
        refine r_bipush dX12_isWhole_19 (by decide) ?_
        refine r_iload_n dX12_isWhole_21 rfl ?_
        refine r_iadd dX12_isWhole_22 ?_
        refine r_iald dX12_isWhole_23 (by assumption) rfl (by omega) ?_
        (try rw [hr])
        refine r_istore_n dX12_isWhole_24 rfl ?_
        refine r_iload_n dX12_isWhole_25 rfl ?_
        refine q_if_lt (tgt := 47) dX12_isWhole_26 rfl (by omega) (fun c26 => ?_) (fun c26 => ?_)
        · refine r_iconst dX12_isWhole_47 ?_
          refine r_zreturn dX12_isWhole_48 (by first | exact Or.inl rfl | exact Or.inr rfl | exact b2i_01 _ | omega) rfl rfl rfl ?_
          refine ⟨rI ?_, rfl, rfl⟩
          rw [allF, if_neg]
          · rfl
          · rw [Bool.and_eq_true, decide_eq_true_eq, allF_iff]
            rintro ⟨h1, h2⟩
            first
            | omega
            | (obtain ⟨j, j0, j1, e⟩ := (hs (ρ (93 + k)) (by omega) (by omega)).1 c44
               exact of_decide_eq_true (h2 j j0 (by omega)) e)
        · refine r_iload_n dX12_isWhole_29 rfl ?_
          refine r_aload_n dX12_isWhole_30 rfl ?_
          refine r_getR dX12_isWhole_31 fl_X12_7 rfl (by assumption) (by assumption) ?_
          refine r_iconst dX12_isWhole_34 ?_
          refine r_iald dX12_isWhole_35 (by assumption) rfl (by omega) ?_
          (try rw [hr])
          refine q_icmp_ge (tgt := 47) dX12_isWhole_36 rfl (by omega) (by omega) (fun c36 => ?_) (fun c36 => ?_)
          · refine r_iconst dX12_isWhole_47 ?_
            refine r_zreturn dX12_isWhole_48 (by first | exact Or.inl rfl | exact Or.inr rfl | exact b2i_01 _ | omega) rfl rfl rfl ?_
            refine ⟨rI ?_, rfl, rfl⟩
            rw [allF, if_neg]
            · rfl
            · rw [Bool.and_eq_true, decide_eq_true_eq, allF_iff]
              rintro ⟨h1, h2⟩
              first
              | omega
              | (obtain ⟨j, j0, j1, e⟩ := (hs (ρ (93 + k)) (by omega) (by omega)).1 c44
                 exact of_decide_eq_true (h2 j j0 (by omega)) e)
          · refine r_iload_n dX12_isWhole_39 rfl ?_
            refine r_iload_n dX12_isWhole_40 rfl ?_
            refine r_cS2F1 dX12_isWhole_41 ml_X12_255 yl_X12_bitOf ⟨rfl, rfl⟩ rfl rfl rfl rfl (m_bitOf) ?_
            refine r_if_eqB (tgt := 49) dX12_isWhole_44 rfl (fun c44 => ?_) (fun c44 => ?_)
            · refine r_iload_n dX12_isWhole_49 rfl ?_
              refine r_iconst dX12_isWhole_50 ?_
              refine r_iload_n dX12_isWhole_51 rfl ?_
              refine r_ishl dX12_isWhole_52 ?_
              refine r_ior dX12_isWhole_53 ?_
              refine r_istore_n dX12_isWhole_54 rfl ?_
              refine r_iinc dX12_isWhole_55 rfl rfl ?_
              refine r_goto (tgt := 4) dX12_isWhole_58 rfl ?_
              have hno : allF (fun j => decide (ρ (93 + j) ≠ ρ (93 + k))) k.toNat 0 = true := by
                rw [allF_iff]
                intro j j0 j1
                refine decide_eq_true fun e => ?_
                have := (hs (ρ (93 + k)) (by omega) (by omega)).2 ⟨j, j0, by omega, e⟩
                rw [c44] at this
                exact Bool.false_ne_true this
              rw [allF, if_pos (by rw [decide_eq_true ⟨by omega, by omega⟩, Bool.true_and]; exact hno)]
              refine ih q (k + 1) _ _ (by omega) (by omega) (by omega) (fun x x0 x6 => ?_)
              rw [bit_set ⟨x0, by omega⟩ ⟨by omega, by omega⟩, Bool.or_eq_true, hs x x0 x6, decide_eq_true_eq]
              constructor
              · rintro (⟨j, j0, j1, e⟩ | e)
                · exact ⟨j, j0, by omega, e⟩
                · exact ⟨k, by omega, by omega, e.symm⟩
              · rintro ⟨j, j0, j1, e⟩
                by_cases h : j = k
                · subst h; exact Or.inr e.symm
                · exact Or.inl ⟨j, j0, by omega, e⟩
            · refine r_iconst dX12_isWhole_47 ?_
              refine r_zreturn dX12_isWhole_48 (by first | exact Or.inl rfl | exact Or.inr rfl | exact b2i_01 _ | omega) rfl rfl rfl ?_
              refine ⟨rI ?_, rfl, rfl⟩
              rw [allF, if_neg]
              · rfl
              · rw [Bool.and_eq_true, decide_eq_true_eq, allF_iff]
                rintro ⟨h1, h2⟩
                first
                | omega
                | (obtain ⟨j, j0, j1, e⟩ := (hs (ρ (93 + k)) (by omega) (by omega)).1 c44
                   exact of_decide_eq_true (h2 j j0 (by omega)) e)
  refine AMet.of (by decide) rfl (by decide) rfl ?_
  refine r_iconst dX12_isWhole_0 ?_
  refine r_istore_n dX12_isWhole_1 rfl ?_
  refine r_iconst dX12_isWhole_2 ?_
  refine r_istore_n dX12_isWhole_3 rfl ?_
  refine lB _ (ρ 11).toNat 0 0 _ (Nat.lt_succ_self _) (by omega) (by omega) (fun x x0 x6 => ?_)
  have hz := bit_0 x.toNat (by omega)
  rw [show ((x.toNat : Nat) : Int) = x by omega] at hz
  rw [hz]
  exact ⟨fun h => absurd h (by decide), fun ⟨j, j0, j1, _⟩ => by omega⟩
