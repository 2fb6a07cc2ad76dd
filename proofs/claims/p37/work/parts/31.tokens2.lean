/-! 31.tokens2: taken from whole (wip/p37/port.py) -/
variable {n_ : Sh}
/-! 31.tokens2: words, numbers and names of the text (wip/whole/src/31_tokens2.py) -/
theorem lshl5 {x : Int} (h : 0 ≤ x ∧ x < 288230376151711744) : lshl x 5 = 32 * x := by
  unfold lshl
  have e : (Int32.ofInt 5).toInt64 &&& 63 = 5 := by decide
  rw [e, ← Int64.toInt_toBitVec, Int64.toBitVec_shiftLeft]
  have e2 : (Int64.toBitVec 5).smod 64 = 5#64 := by decide
  rw [e2]
  have : (Int64.ofInt x).toBitVec = BitVec.ofNat 64 x.toNat := by
    rw [Int64.toBitVec_ofInt]
    obtain ⟨n, rfl⟩ := Int.eq_ofNat_of_zero_le h.1
    simp
  rw [this]
  rw [BitVec.toInt_eq_toNat_of_lt]
  · simp [BitVec.toNat_shiftLeft, Nat.shiftLeft_eq]
    omega
  · simp [BitVec.toNat_shiftLeft, Nat.shiftLeft_eq]
    omega
theorem lushr_div {x : Int} (h : 0 ≤ x ∧ x < 9223372036854775808) : ∀ s : Nat, s < 8 → lushr x (5 * s) = x / 2 ^ (5 * s) := by
  intro s hs
  have key : ∀ t : Nat, t < 64 → ((Int64.ofInt x).toUInt64 >>> UInt64.ofNat t).toInt64.toInt = x / 2 ^ t := by
    intro t ht
    obtain ⟨n, rfl⟩ := Int.eq_ofNat_of_zero_le h.1
    have e : (Int64.ofInt (n : Int)).toUInt64 = UInt64.ofNat n := by
      apply UInt64.toBitVec_inj.1
      simp
      rfl
    rw [e]
    have e2 : ((UInt64.ofNat n >>> UInt64.ofNat t).toInt64).toInt = (((UInt64.ofNat n >>> UInt64.ofNat t)).toNat : Int) := by
      rw [← Int64.toInt_toBitVec]
      show (UInt64.toBitVec _).toInt = _
      rw [BitVec.toInt_eq_toNat_of_lt]
      · simp
      · simp [Nat.shiftRight_eq_div_pow]
        have : (n % 18446744073709551616) / 2 ^ (t % 64) ≤ n % 18446744073709551616 := Nat.div_le_self _ _
        omega
    rw [e2]
    simp [Nat.shiftRight_eq_div_pow]
    rw [Int.emod_eq_of_lt (by omega) (by omega)]
    have : t % 64 = t := by omega
    rw [this]
  have k2 : (Int32.ofInt (5 * (s : Int))).toInt64.toUInt64 &&& Int64.toUInt64 63 = UInt64.ofNat (5 * s) := by
    have : ∀ s : Nat, s < 8 → (Int32.ofInt (5 * (s : Int))).toInt64.toUInt64 &&& Int64.toUInt64 63 = UInt64.ofNat (5 * s) := by decide
    exact this s hs
  unfold lushr
  rw [k2]
  have := key (5 * s) (by omega)
  rw [this]
def beginC (T : Tq) (n : Int) : Sg := if n < T.2 then (0, n, 0, 1, n) else (0, 0, 0, 0, 0)
theorem beginC_ok {T : Tq} (h : 0 ≤ T.2) {n : Int} (hn : 0 ≤ n ∧ n ≤ 540) : SgOK T (beginC T n) := by
  unfold beginC SgOK
  split <;> simp only [mkT, mkF, mkK, mkE, mkP] <;> omega
theorem x_begin {μ : Mem} {T : Tq} {σ : Sg} (hL : Lay μ.2.2) (hT : TapX μ T.1 T.2) {n : Int} (hn : 0 ≤ n ∧ n ≤ 540)  : FMet yX9_begin gX9_begin (SH n_) [vR 2, vI n] (wTok μ σ) none (wTok μ (beginC T n)) := by
  have x2 : (SH n_)[2]? = some (8, 7) := rfl
  have x3 : (SH n_)[3]? = some (20, 540) := rfl
  have r20 := hL.r2_0
  obtain ⟨t1, t2, t3⟩ := id hT
  refine AMet.of (by decide) rfl (by decide) rfl ?_
  refine r_aload_n dX9_begin_0 rfl ?_
  refine r_iconst dX9_begin_1 ?_
  refine r_putI dX9_begin_2 fl_X9_19 (by assumption) ?_
  simp only [ws2, ws3, ws4, ws5, ws6, mkT, mkF, mkK, mkE, mkP]
  refine r_aload_n dX9_begin_5 rfl ?_
  refine r_iconst dX9_begin_6 ?_
  refine r_putI dX9_begin_7 fl_X9_22 (by assumption) ?_
  simp only [ws2, ws3, ws4, ws5, ws6, mkT, mkF, mkK, mkE, mkP]
  refine r_aload_n dX9_begin_10 rfl ?_
  refine r_iconst dX9_begin_11 ?_
  refine r_putI dX9_begin_12 fl_X9_25 (by assumption) ?_
  simp only [ws2, ws3, ws4, ws5, ws6, mkT, mkF, mkK, mkE, mkP]
  refine r_aload_n dX9_begin_15 rfl ?_
  refine r_iconst dX9_begin_16 ?_
  refine r_putI dX9_begin_17 fl_X9_28 (by assumption) ?_
  simp only [ws2, ws3, ws4, ws5, ws6, mkT, mkF, mkK, mkE, mkP]
  refine r_aload_n dX9_begin_20 rfl ?_
  refine r_iconst dX9_begin_21 ?_
  refine r_putI dX9_begin_22 fl_X9_31 (by assumption) ?_
  simp only [ws2, ws3, ws4, ws5, ws6, mkT, mkF, mkK, mkE, mkP]
  refine r_aload_n dX9_begin_25 rfl ?_
  refine r_getI dX9_begin_26 fl_X9_15 rfl (by assumption) ?_
  (try simp only [wt1, wt2, wt3, wt4, wt5, wt6, wtx, mkT, mkF, mkK, mkE, mkP])
  refine r_iload_n dX9_begin_29 rfl ?_
  refine q_icmp_le (tgt := 43) dX9_begin_30 rfl (by omega) (by omega) (fun c30 => ?_) (fun c30 => ?_)
  · refine r_return dX9_begin_43 rfl rfl rfl ?_
    refine ⟨rfl, rfl, ?_⟩
    unfold beginC
    first
      | rw [if_pos (by omega)]; rfl
      | rw [if_neg (by omega)]
  · refine r_aload_n dX9_begin_33 rfl ?_
    refine r_iload_n dX9_begin_34 rfl ?_
    refine r_putI dX9_begin_35 fl_X9_19 (by assumption) ?_
    simp only [ws2, ws3, ws4, ws5, ws6, mkT, mkF, mkK, mkE, mkP]
    refine r_aload_n dX9_begin_38 rfl ?_
    refine r_iconst dX9_begin_39 ?_
    refine r_cV1F0 dX9_begin_40 ml_X9_34 yl_X9_fail ⟨rfl, rfl⟩ (by assumption) ⟨_, rfl⟩ rfl rfl rfl rfl (x_fail (σ := (0, n, 0, 0, 0)) hL hT (by unfold SgOK; simp only [mkT, mkF, mkK, mkE, mkP]; omega)) ?_
    refine r_return dX9_begin_43 rfl rfl rfl ?_
    refine ⟨rfl, rfl, ?_⟩
    unfold beginC
    first
      | rw [if_pos (by omega)]; rfl
      | rw [if_neg (by omega)]
theorem numC_eq (T : Tq) (σ : Sg) (lo hi : Int) : numC T σ lo hi = if sE (nxt T σ) ≠ 0 then (0, nxt T σ) else if sK (nxt T σ) ≠ 2 then (0, failC (nxt T σ) 1) else (numV T (sF (nxt T σ)) (sT (nxt T σ)), if numV T (sF (nxt T σ)) (sT (nxt T σ)) < lo ∨ hi < numV T (sF (nxt T σ)) (sT (nxt T σ)) then failC (nxt T σ) 2 else nxt T σ) := by
  unfold numC
  dsimp only
  split
  · rfl
  · split
    · rfl
    · split <;> rfl
theorem nxt_le {T : Tq} {σ : Sg} (h0 : sE (nxt T σ) = 0) : sF (nxt T σ) ≤ sT (nxt T σ) := by
  unfold nxt at *
  by_cases e : sE σ ≠ 0
  · rw [if_pos e] at h0
    exact absurd h0 e
  · rw [if_neg e]
    unfold nx2
    split
    · exact Int.le_refl _
    · split
      · simp only [mkF, mkT]; omega
      · simp only [mkF, mkT]
        exact (runE_spec _ _).1
/-- a number at hand is small -/
theorem nxt_num {T : Tq} {σ : Sg} (h0 : sE (nxt T σ) = 0) (h : sK (nxt T σ) = 2) : (0 ≤ numV T (sF (nxt T σ)) (sT (nxt T σ)) ∧ numV T (sF (nxt T σ)) (sT (nxt T σ)) ≤ 999) ∧ sF (nxt T σ) ≤ sT (nxt T σ) := by
  unfold nxt at *
  by_cases e : sE σ ≠ 0
  · rw [if_pos e] at h0
    exact absurd h0 e
  · rw [if_neg e] at h ⊢
    refine ⟨(numV_rng h).1, ?_⟩
    unfold nx2
    split
    · exact Int.le_refl _
    · split
      · simp only [mkF, mkT]; omega
      · simp only [mkF, mkT]
        exact (runE_spec _ _).1
theorem x_number {μ : Mem} {T : Tq} {σ : Sg} (hL : Lay μ.2.2) (hT : TapX μ T.1 T.2) (hs : SgOK T σ) {lo hi : Int} (hlo : -2147483648 ≤ lo ∧ lo < 2147483648) (hhi : -2147483648 ≤ hi ∧ hi < 2147483648)  : FMet yX9_number gX9_number (SH n_) [vR 2, vI lo, vI hi] (wTok μ σ) (some (vI (numC T σ lo hi).1)) (wTok μ (numC T σ lo hi).2) := by
  have x2 : (SH n_)[2]? = some (8, 7) := rfl
  have x3 : (SH n_)[3]? = some (20, 540) := rfl
  have r20 := hL.r2_0
  obtain ⟨t1, t2, t3⟩ := id hT
  have hs0 := hs
  unfold SgOK at hs0
  obtain ⟨h1a, h1b, h1c⟩ := nxt_ok t2.2 hs
  rw [numC_eq]
  have hnum := nxt_num (T := T) (σ := σ)
  unfold numV at *
  generalize hs1d : nxt T σ = s1 at *
  have hs1 := h1a
  unfold SgOK at hs1
  have lB : ∀ (f n : Nat) (k : Int) (v : Int), n < f → 0 ≤ k → k + n = sT s1 → (0 ≤ fld (fun i v => v * 10 + T.1 i - 48) n k v ∧ fld (fun i v => v * 10 + T.1 i - 48) n k v ≤ 999) → sF s1 ≤ k → AW gX9_number (SH n_) (wTok μ s1) 0 0 36 [some (vR 2), some (vI lo), some (vI hi), some (vI v), some (vI k)] [] (fun r2 sh2 μ2 => r2 = some (vI (fld (fun i v => v * 10 + T.1 i - 48) n k v)) ∧ sh2 = (SH n_) ∧ μ2 = wTok μ (if fld (fun i v => v * 10 + T.1 i - 48) n k v < lo ∨ hi < fld (fun i v => v * 10 + T.1 i - 48) n k v then failC s1 2 else s1)) := by
    intro f
    induction f with
    | zero => intro n; intros; omega
    | succ f ih =>
      intro n k v hf hk hn2 hv ha
      refine r_iload dX9_number_36 rfl ?_
      refine r_aload_n dX9_number_38 rfl ?_
      refine r_getI dX9_number_39 fl_X9_22 rfl (by assumption) ?_
      (try simp only [wt1, wt2, wt3, wt4, wt5, wt6, wtx, mkT, mkF, mkK, mkE, mkP])
      refine q_icmp_ge (tgt := 67) dX9_number_42 rfl (by omega) (by omega) (fun c42 => ?_) (fun c42 => ?_)
      · obtain rfl : n = 0 := by omega
        unfold fld at hv
        refine r_iload_n dX9_number_67 rfl ?_
        refine r_iload_n dX9_number_68 rfl ?_
        refine q_icmp_lt (tgt := 77) dX9_number_69 rfl (by omega) (by omega) (fun c69 => ?_) (fun c69 => ?_)
        · refine r_aload_n dX9_number_77 rfl ?_
          refine r_iconst dX9_number_78 ?_
          refine r_cV1F0 dX9_number_79 ml_X9_34 yl_X9_fail ⟨rfl, rfl⟩ (by assumption) ⟨_, rfl⟩ rfl rfl rfl rfl (x_fail hL hT h1a) ?_
          refine r_iload_n dX9_number_82 rfl ?_
          refine r_ireturn dX9_number_83 rfl rfl rfl ?_
          refine ⟨rfl, rfl, ?_⟩
          unfold fld
          first | rw [if_pos (by omega)] | rw [if_neg (by omega)]
        · refine r_iload_n dX9_number_72 rfl ?_
          refine r_iload_n dX9_number_73 rfl ?_
          refine q_icmp_le (tgt := 82) dX9_number_74 rfl (by omega) (by omega) (fun c74 => ?_) (fun c74 => ?_)
          · refine r_iload_n dX9_number_82 rfl ?_
            refine r_ireturn dX9_number_83 rfl rfl rfl ?_
            refine ⟨rfl, rfl, ?_⟩
            unfold fld
            first | rw [if_pos (by omega)] | rw [if_neg (by omega)]
          · refine r_aload_n dX9_number_77 rfl ?_
            refine r_iconst dX9_number_78 ?_
            refine r_cV1F0 dX9_number_79 ml_X9_34 yl_X9_fail ⟨rfl, rfl⟩ (by assumption) ⟨_, rfl⟩ rfl rfl rfl rfl (x_fail hL hT h1a) ?_
            refine r_iload_n dX9_number_82 rfl ?_
            refine r_ireturn dX9_number_83 rfl rfl rfl ?_
            refine ⟨rfl, rfl, ?_⟩
            unfold fld
            first | rw [if_pos (by omega)] | rw [if_neg (by omega)]
      · have tk := t3 k (by omega) (by omega)
        obtain ⟨q, rfl⟩ : ∃ q, n = q + 1 := ⟨n - 1, by omega⟩
        refine r_iload_n dX9_number_45 rfl ?_
        refine r_bipush dX9_number_46 (by decide) ?_
        refine r_imul dX9_number_48 ?_
        refine r_aload_n dX9_number_49 rfl ?_
        refine r_getR dX9_number_50 fl_X9_9 rfl (by assumption) (by assumption) ?_
        refine r_iload dX9_number_53 rfl ?_
        refine r_iald dX9_number_55 (by assumption) rfl (by omega) ?_
        simp only [wtx]
        rw [tk.1]
        refine r_iadd dX9_number_56 ?_
        refine r_bipush dX9_number_57 (by decide) ?_
        refine r_isub dX9_number_59 ?_
        refine r_istore_n dX9_number_60 rfl ?_
        refine r_iinc dX9_number_61 rfl rfl ?_
        refine r_goto (tgt := 36) dX9_number_64 rfl ?_
        exact ih q (k + 1) (v * 10 + T.1 k - 48) (by omega) (by omega) (by omega) hv (by omega)
  refine AMet.of (by decide) rfl (by decide) rfl ?_
  refine r_aload_n dX9_number_0 rfl ?_
  refine r_cV0F0 dX9_number_1 ml_X9_49 yl_X9_next ⟨rfl, rfl⟩ (by assumption) ⟨_, rfl⟩ rfl rfl rfl rfl (x_next hL hT hs) ?_
  rw [hs1d]
  refine r_aload_n dX9_number_4 rfl ?_
  refine r_getI dX9_number_5 fl_X9_28 rfl (by assumption) ?_
  (try simp only [wt1, wt2, wt3, wt4, wt5, wt6, wtx, mkT, mkF, mkK, mkE, mkP])
  refine q_if_eq (tgt := 13) dX9_number_8 rfl (by omega) (fun c8 => ?_) (fun c8 => ?_)
  · refine r_aload_n dX9_number_13 rfl ?_
    refine r_getI dX9_number_14 fl_X9_25 rfl (by assumption) ?_
    (try simp only [wt1, wt2, wt3, wt4, wt5, wt6, wtx, mkT, mkF, mkK, mkE, mkP])
    refine r_iconst dX9_number_17 ?_
    refine q_icmp_eq (tgt := 28) dX9_number_18 rfl (by omega) (by omega) (fun c18 => ?_) (fun c18 => ?_)
    · refine r_iconst dX9_number_28 ?_
      refine r_istore_n dX9_number_29 rfl ?_
      refine r_aload_n dX9_number_30 rfl ?_
      refine r_getI dX9_number_31 fl_X9_19 rfl (by assumption) ?_
      (try simp only [wt1, wt2, wt3, wt4, wt5, wt6, wtx, mkT, mkF, mkK, mkE, mkP])
      refine r_istore dX9_number_34 rfl ?_
      have hq := hnum (by omega) (by omega)
      refine AW.mono (lB _ (sT s1 - sF s1).toNat (sF s1) 0 (Nat.lt_succ_self _) (by omega) (by omega) hq.1 (by omega)) ?_
      rintro r sh2 μ2 ⟨rfl, rfl, rfl⟩
      rw [if_neg (show ¬ sE s1 ≠ 0 by omega), if_neg (show ¬ sK s1 ≠ 2 by omega)]
      exact ⟨rfl, rfl, rfl⟩
    · refine r_aload_n dX9_number_21 rfl ?_
      refine r_iconst dX9_number_22 ?_
      refine r_cV1F0 dX9_number_23 ml_X9_34 yl_X9_fail ⟨rfl, rfl⟩ (by assumption) ⟨_, rfl⟩ rfl rfl rfl rfl (x_fail hL hT h1a) ?_
      refine r_iconst dX9_number_26 ?_
      refine r_ireturn dX9_number_27 rfl rfl rfl ?_
      first
        | rw [if_pos (show sE s1 ≠ 0 by omega)]; exact ⟨rfl, rfl, rfl⟩
        | rw [if_neg (show ¬ sE s1 ≠ 0 by omega), if_pos (show sK s1 ≠ 2 by omega)]; exact ⟨rfl, rfl, rfl⟩
  · refine r_iconst dX9_number_11 ?_
    refine r_ireturn dX9_number_12 rfl rfl rfl ?_
    first
      | rw [if_pos (show sE s1 ≠ 0 by omega)]; exact ⟨rfl, rfl, rfl⟩
      | rw [if_neg (show ¬ sE s1 ≠ 0 by omega), if_pos (show sK s1 ≠ 2 by omega)]; exact ⟨rfl, rfl, rfl⟩
theorem pw8 {v : Int} {n : Nat} (h : v < 32 ^ n) (hn : n < 8) : v < 288230376151711744 := by
  have : n = 0 ∨ n = 1 ∨ n = 2 ∨ n = 3 ∨ n = 4 ∨ n = 5 ∨ n = 6 ∨ n = 7 := by omega
  rcases this with rfl | rfl | rfl | rfl | rfl | rfl | rfl | rfl <;> omega
theorem x_packed {μ : Mem} {T : Tq} {σ : Sg} (hL : Lay μ.2.2) (hT : TapX μ T.1 T.2) {a e : Int} (ha : -2147483648 ≤ a ∧ a < 2147483648) (he : 0 ≤ e ∧ e ≤ 540) (hae : a ≤ e)  : FMet yX9_packed gX9_packed (SH n_) [vR 2, vI a, vI e] (wTok μ σ) (some (vL (pkC T a e))) (wTok μ σ) := by
  have x2 : (SH n_)[2]? = some (8, 7) := rfl
  have x3 : (SH n_)[3]? = some (20, 540) := rfl
  have r20 := hL.r2_0
  obtain ⟨t1, t2, t3⟩ := id hT
  have lB : ∀ (f n : Nat) (k : Int) (v : Int), n < f → 0 ≤ k → k + n = e → (0 ≤ v ∧ v < 32 ^ (k - a).toNat) → (0 ≤ a ∧ a ≤ k ∧ e ≤ T.2 ∧ e - a ≤ 8) → AW gX9_packed (SH n_) (wTok μ σ) 0 0 27 [some (vR 2), some (vI a), some (vI e), some (vL v), none, some (vI k)] [] (fun r2 sh2 μ2 => r2 = some (vL (if allF (fun i => isSm (T.1 i)) n k then fld (fun i v => v * 32 + (T.1 i - 97 + 1)) n k v else 0)) ∧ sh2 = (SH n_) ∧ μ2 = wTok μ σ) := by
    intro f
    induction f with
    | zero => intro n; intros; omega
    | succ f ih =>
      intro n k v hf hk hn2 hv ha
      refine r_iload dX9_packed_27 rfl ?_
      refine r_iload_n dX9_packed_29 rfl ?_
      refine q_icmp_ge (tgt := 72) dX9_packed_30 rfl (by omega) (by omega) (fun c30 => ?_) (fun c30 => ?_)
      · obtain rfl : n = 0 := by omega
        refine r_lload_n dX9_packed_72 rfl ?_
        refine r_lreturn dX9_packed_73 rfl rfl rfl ?_
        exact ⟨rfl, rfl, rfl⟩
      · have tk := t3 k (by omega) (by omega)
        obtain ⟨q, rfl⟩ : ∃ q, n = q + 1 := ⟨n - 1, by omega⟩
        refine r_aload_n dX9_packed_33 rfl ?_
        refine r_getR dX9_packed_34 fl_X9_9 rfl (by assumption) (by assumption) ?_
        refine r_iload dX9_packed_37 rfl ?_
        refine r_iald dX9_packed_39 (by assumption) rfl (by omega) ?_
        simp only [wtx]
        rw [tk.1]
        refine r_cS1F1 dX9_packed_40 ml_X9_38 yl_X9_isLetter ⟨rfl, rfl⟩ rfl rfl rfl rfl (x_isLetter (by omega)) ?_
        refine r_if_neB (tgt := 48) dX9_packed_43 rfl (fun c43 => ?_) (fun c43 => ?_)
        · refine r_lload_n dX9_packed_48 rfl ?_
          refine r_iconst dX9_packed_49 ?_
          refine r_lshl dX9_packed_50 ?_
          rw [lshl5 ⟨hv.1, pw8 hv.2 (by omega)⟩]
          refine r_aload_n dX9_packed_51 rfl ?_
          refine r_getR dX9_packed_52 fl_X9_9 rfl (by assumption) (by assumption) ?_
          refine r_iload dX9_packed_55 rfl ?_
          refine r_iald dX9_packed_57 (by assumption) rfl (by omega) ?_
          simp only [wtx]
          rw [tk.1]
          refine r_bipush dX9_packed_58 (by decide) ?_
          refine r_isub dX9_packed_60 ?_
          refine r_iconst dX9_packed_61 ?_
          refine r_iadd dX9_packed_62 ?_
          refine r_i2l dX9_packed_63 (by omega) ?_
          refine r_ladd dX9_packed_64 ?_
          refine r_lstore_n dX9_packed_65 rfl ?_
          refine r_iinc dX9_packed_66 rfl rfl ?_
          refine r_goto (tgt := 27) dX9_packed_69 rfl ?_
          have hc := of_decide_eq_true (show decide (97 ≤ T.1 k ∧ T.1 k ≤ 122) = true from c43)
          rw [allF, if_pos c43, Int.mul_comm 32 v]
          have hp : (32 : Int) ^ (k + 1 - a).toNat = 32 ^ (k - a).toNat * 32 := by rw [show (k + 1 - a).toNat = (k - a).toNat + 1 by omega, Int.pow_succ]
          exact ih q (k + 1) (v * 32 + (T.1 k - 97 + 1)) (by omega) (by omega) (by omega) (by rw [hp]; omega) (by omega)
        · refine r_lconst (x := 0) dX9_packed_46 rfl ?_
          refine r_lreturn dX9_packed_47 rfl rfl rfl ?_
          have h0 : allF (fun i => isSm (T.1 i)) (q + 1) k = false := by
            rw [allF, if_neg]
            rw [c43]; exact Bool.false_ne_true
          rw [h0]
          exact ⟨rfl, rfl, rfl⟩
  refine AMet.of (by decide) rfl (by decide) rfl ?_
  refine r_iload_n dX9_packed_0 rfl ?_
  refine q_if_lt (tgt := 20) dX9_packed_1 rfl (by omega) (fun c1 => ?_) (fun c1 => ?_)
  · refine r_lconst (x := 0) dX9_packed_20 rfl ?_
    refine r_lreturn dX9_packed_21 rfl rfl rfl ?_
    refine ⟨?_, rfl, rfl⟩
    unfold pkC
    rw [if_pos (by omega)]
  · refine r_iload_n dX9_packed_4 rfl ?_
    refine r_aload_n dX9_packed_5 rfl ?_
    refine r_getI dX9_packed_6 fl_X9_15 rfl (by assumption) ?_
    (try simp only [wt1, wt2, wt3, wt4, wt5, wt6, wtx, mkT, mkF, mkK, mkE, mkP])
    refine q_icmp_gt (tgt := 20) dX9_packed_9 rfl (by omega) (by omega) (fun c9 => ?_) (fun c9 => ?_)
    · refine r_lconst (x := 0) dX9_packed_20 rfl ?_
      refine r_lreturn dX9_packed_21 rfl rfl rfl ?_
      refine ⟨?_, rfl, rfl⟩
      unfold pkC
      rw [if_pos (by omega)]
    · refine r_iload_n dX9_packed_12 rfl ?_
      refine r_iload_n dX9_packed_13 rfl ?_
      refine r_isub dX9_packed_14 ?_
      refine r_bipush dX9_packed_15 (by decide) ?_
      refine q_icmp_le (tgt := 22) dX9_packed_17 rfl (by omega) (by omega) (fun c17 => ?_) (fun c17 => ?_)
      · refine r_lconst (x := 0) dX9_packed_22 rfl ?_
        refine r_lstore_n dX9_packed_23 rfl ?_
        refine r_iload_n dX9_packed_24 rfl ?_
        refine r_istore dX9_packed_25 rfl ?_
        refine AW.mono (lB _ (e - a).toNat a 0 (Nat.lt_succ_self _) (by omega) (by omega) ?_ (by omega)) ?_
        · rw [show (a - a).toNat = 0 by omega]; decide
        · rintro r sh2 μ2 ⟨rfl, rfl, rfl⟩
          refine ⟨?_, rfl, rfl⟩
          unfold pkC
          rw [if_neg (show ¬ (a < 0 ∨ T.2 < e ∨ 8 < e - a) by omega)]
          rfl
      · refine r_lconst (x := 0) dX9_packed_20 rfl ?_
        refine r_lreturn dX9_packed_21 rfl rfl rfl ?_
        refine ⟨?_, rfl, rfl⟩
        unfold pkC
        rw [if_pos (by omega)]

