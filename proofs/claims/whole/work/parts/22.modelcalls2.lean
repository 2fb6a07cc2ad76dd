/-! 22.modelcalls2: the reference's calls, second part (wip/whole/src/22_modelcalls2.py) -/
theorem mp_own {sh : Sh} {μ : Mem} {m : Nat} {ρ0 : Row} (hM : IsModel sh μ.2.2 m) {a b : Int} (ha : 0 ≤ a ∧ a < 5) (hb : 0 ≤ b ∧ b < 5) (hab : a ≠ b) : FMet yX12_movesPallet gX12_movesPallet sh [vR m, vR (m + 1), vI a, vI b] (wRow μ m ρ0) none (wRow μ m (mvR ρ0 ρ0 a b)) := by
  obtain ⟨g0, f1, z1, f2, z2, f3, z3, f4, z4, f5, z5, f6, z6, f7, z7, f8, z8, f9, z9, f10, z10, f11, z11, f12, z12, f13, z13, f14, z14⟩ := id hM
  have loop : ∀ (f n : Nat) (k : Int), n < f → 0 ≤ k → k + n = 8 → AW gX12_movesPallet sh (wRow μ m (mvN ρ0 ρ0 a b k)) 0 0 63 [some (vR m), some (vR (m + 1)), some (vI a), some (vI b), some (vI k)] [] (fun r2 sh2 μ2 => r2 = none ∧ sh2 = sh ∧ μ2 = (wRow μ m (mvR ρ0 ρ0 a b))) := by
    intro f
    induction f with
    | zero => intro n; intros; omega
    | succ f ih =>
      intro n k hf hk hn2
      refine r_iload dX12_movesPallet_63 rfl ?_
      refine r_bipush dX12_movesPallet_65 (by decide) ?_
      refine q_icmp_ge (tgt := 103) dX12_movesPallet_67 rfl (by omega) (by omega) (fun c67 => ?_) (fun c67 => ?_)
      · refine r_return dX12_movesPallet_103 rfl rfl rfl ?_
        obtain rfl : k = 8 := by omega
        exact ⟨rfl, rfl, rfl⟩
      · have e9 : mvN ρ0 ρ0 a b k (103 + 8 * a + k) = ρ0 (103 + 8 * a + k) := by
          unfold mvN
          rw [if_neg (by omega), if_neg (by omega), if_neg (by omega), if_neg (by omega), if_neg (by omega)]
        refine r_aload_n dX12_movesPallet_70 rfl ?_
        refine r_getR dX12_movesPallet_71 fl_X12_7 rfl (by assumption) (by assumption) ?_
        refine r_bipush dX12_movesPallet_74 (by decide) ?_
        refine r_bipush dX12_movesPallet_76 (by decide) ?_
        refine r_iload_n dX12_movesPallet_78 rfl ?_
        refine r_imul dX12_movesPallet_79 ?_
        refine r_iadd dX12_movesPallet_80 ?_
        refine r_iload dX12_movesPallet_81 rfl ?_
        refine r_iadd dX12_movesPallet_83 ?_
        refine r_aload_n dX12_movesPallet_84 rfl ?_
        refine r_bipush dX12_movesPallet_85 (by decide) ?_
        refine r_bipush dX12_movesPallet_87 (by decide) ?_
        refine r_iload_n dX12_movesPallet_89 rfl ?_
        refine r_imul dX12_movesPallet_90 ?_
        refine r_iadd dX12_movesPallet_91 ?_
        refine r_iload dX12_movesPallet_92 rfl ?_
        refine r_iadd dX12_movesPallet_94 ?_
        refine r_iald dX12_movesPallet_95 (by assumption) rfl (by omega) ?_
        rw [wRow_row, e9]
        refine r_iast dX12_movesPallet_96 (by assumption) rfl (by omega) ?_
        refine r_iinc dX12_movesPallet_97 rfl rfl ?_
        refine r_goto (tgt := 63) dX12_movesPallet_100 rfl ?_
        rw [wRow_set, mvN_s hb (by omega)]
        exact ih (n - 1) (k + 1) (by omega) (by omega) (by omega)
  refine AMet.of (by decide) rfl (by decide) rfl ?_
  refine r_aload_n dX12_movesPallet_0 rfl ?_
  refine r_getR dX12_movesPallet_1 fl_X12_7 rfl (by assumption) (by assumption) ?_
  refine r_bipush dX12_movesPallet_4 (by decide) ?_
  refine r_iload_n dX12_movesPallet_6 rfl ?_
  refine r_iadd dX12_movesPallet_7 ?_
  refine r_aload_n dX12_movesPallet_8 rfl ?_
  refine r_bipush dX12_movesPallet_9 (by decide) ?_
  refine r_iload_n dX12_movesPallet_11 rfl ?_
  refine r_iadd dX12_movesPallet_12 ?_
  refine r_iald dX12_movesPallet_13 (by assumption) rfl (by omega) ?_
  (try rw [wRow_row])
  (repeat rw [rset_ne (by omega)])
  refine r_iast dX12_movesPallet_14 (by assumption) rfl (by omega) ?_
  rw [wRow_set]
  refine r_aload_n dX12_movesPallet_15 rfl ?_
  refine r_getR dX12_movesPallet_16 fl_X12_7 rfl (by assumption) (by assumption) ?_
  refine r_bipush dX12_movesPallet_19 (by decide) ?_
  refine r_iload_n dX12_movesPallet_21 rfl ?_
  refine r_iadd dX12_movesPallet_22 ?_
  refine r_aload_n dX12_movesPallet_23 rfl ?_
  refine r_bipush dX12_movesPallet_24 (by decide) ?_
  refine r_iload_n dX12_movesPallet_26 rfl ?_
  refine r_iadd dX12_movesPallet_27 ?_
  refine r_iald dX12_movesPallet_28 (by assumption) rfl (by omega) ?_
  (try rw [wRow_row])
  (repeat rw [rset_ne (by omega)])
  refine r_iast dX12_movesPallet_29 (by assumption) rfl (by omega) ?_
  rw [wRow_set]
  refine r_aload_n dX12_movesPallet_30 rfl ?_
  refine r_getR dX12_movesPallet_31 fl_X12_7 rfl (by assumption) (by assumption) ?_
  refine r_bipush dX12_movesPallet_34 (by decide) ?_
  refine r_iload_n dX12_movesPallet_36 rfl ?_
  refine r_iadd dX12_movesPallet_37 ?_
  refine r_aload_n dX12_movesPallet_38 rfl ?_
  refine r_bipush dX12_movesPallet_39 (by decide) ?_
  refine r_iload_n dX12_movesPallet_41 rfl ?_
  refine r_iadd dX12_movesPallet_42 ?_
  refine r_iald dX12_movesPallet_43 (by assumption) rfl (by omega) ?_
  (try rw [wRow_row])
  (repeat rw [rset_ne (by omega)])
  refine r_iast dX12_movesPallet_44 (by assumption) rfl (by omega) ?_
  rw [wRow_set]
  refine r_aload_n dX12_movesPallet_45 rfl ?_
  refine r_getR dX12_movesPallet_46 fl_X12_7 rfl (by assumption) (by assumption) ?_
  refine r_bipush dX12_movesPallet_49 (by decide) ?_
  refine r_iload_n dX12_movesPallet_51 rfl ?_
  refine r_iadd dX12_movesPallet_52 ?_
  refine r_aload_n dX12_movesPallet_53 rfl ?_
  refine r_bipush dX12_movesPallet_54 (by decide) ?_
  refine r_iload_n dX12_movesPallet_56 rfl ?_
  refine r_iadd dX12_movesPallet_57 ?_
  refine r_iald dX12_movesPallet_58 (by assumption) rfl (by omega) ?_
  (try rw [wRow_row])
  (repeat rw [rset_ne (by omega)])
  refine r_iast dX12_movesPallet_59 (by assumption) rfl (by omega) ?_
  rw [wRow_set, mvN_0 hb]
  refine r_iconst dX12_movesPallet_60 ?_
  refine r_istore dX12_movesPallet_61 rfl ?_
  exact loop 9 8 0 (by omega) (by omega) (by omega)
theorem mp_spare {sh : Sh} {μ : Mem} {m : Nat} {ρ0 : Row} (hM : IsModel sh μ.2.2 m) {a b : Int} (ha : 0 ≤ a ∧ a < 5) (hb : 0 ≤ b ∧ b < 5)  : FMet yX12_movesPallet gX12_movesPallet sh [vR m, vR (m + 2), vI a, vI b] (wRow μ m ρ0) none (wRow μ m (mvR ρ0 (μ.1 (m + 2)) a b)) := by
  obtain ⟨g0, f1, z1, f2, z2, f3, z3, f4, z4, f5, z5, f6, z6, f7, z7, f8, z8, f9, z9, f10, z10, f11, z11, f12, z12, f13, z13, f14, z14⟩ := id hM
  have loop : ∀ (f n : Nat) (k : Int), n < f → 0 ≤ k → k + n = 8 → AW gX12_movesPallet sh (wRow μ m (mvN ρ0 (μ.1 (m + 2)) a b k)) 0 0 63 [some (vR m), some (vR (m + 2)), some (vI a), some (vI b), some (vI k)] [] (fun r2 sh2 μ2 => r2 = none ∧ sh2 = sh ∧ μ2 = (wRow μ m (mvR ρ0 (μ.1 (m + 2)) a b))) := by
    intro f
    induction f with
    | zero => intro n; intros; omega
    | succ f ih =>
      intro n k hf hk hn2
      refine r_iload dX12_movesPallet_63 rfl ?_
      refine r_bipush dX12_movesPallet_65 (by decide) ?_
      refine q_icmp_ge (tgt := 103) dX12_movesPallet_67 rfl (by omega) (by omega) (fun c67 => ?_) (fun c67 => ?_)
      · refine r_return dX12_movesPallet_103 rfl rfl rfl ?_
        obtain rfl : k = 8 := by omega
        exact ⟨rfl, rfl, rfl⟩
      · refine r_aload_n dX12_movesPallet_70 rfl ?_
        refine r_getR dX12_movesPallet_71 fl_X12_7 rfl (by assumption) (by assumption) ?_
        refine r_bipush dX12_movesPallet_74 (by decide) ?_
        refine r_bipush dX12_movesPallet_76 (by decide) ?_
        refine r_iload_n dX12_movesPallet_78 rfl ?_
        refine r_imul dX12_movesPallet_79 ?_
        refine r_iadd dX12_movesPallet_80 ?_
        refine r_iload dX12_movesPallet_81 rfl ?_
        refine r_iadd dX12_movesPallet_83 ?_
        refine r_aload_n dX12_movesPallet_84 rfl ?_
        refine r_bipush dX12_movesPallet_85 (by decide) ?_
        refine r_bipush dX12_movesPallet_87 (by decide) ?_
        refine r_iload_n dX12_movesPallet_89 rfl ?_
        refine r_imul dX12_movesPallet_90 ?_
        refine r_iadd dX12_movesPallet_91 ?_
        refine r_iload dX12_movesPallet_92 rfl ?_
        refine r_iadd dX12_movesPallet_94 ?_
        refine r_iald dX12_movesPallet_95 (by assumption) rfl (by omega) ?_
        rw [wRow_ne (by omega)]
        refine r_iast dX12_movesPallet_96 (by assumption) rfl (by omega) ?_
        refine r_iinc dX12_movesPallet_97 rfl rfl ?_
        refine r_goto (tgt := 63) dX12_movesPallet_100 rfl ?_
        rw [wRow_set, mvN_s hb (by omega)]
        exact ih (n - 1) (k + 1) (by omega) (by omega) (by omega)
  refine AMet.of (by decide) rfl (by decide) rfl ?_
  refine r_aload_n dX12_movesPallet_0 rfl ?_
  refine r_getR dX12_movesPallet_1 fl_X12_7 rfl (by assumption) (by assumption) ?_
  refine r_bipush dX12_movesPallet_4 (by decide) ?_
  refine r_iload_n dX12_movesPallet_6 rfl ?_
  refine r_iadd dX12_movesPallet_7 ?_
  refine r_aload_n dX12_movesPallet_8 rfl ?_
  refine r_bipush dX12_movesPallet_9 (by decide) ?_
  refine r_iload_n dX12_movesPallet_11 rfl ?_
  refine r_iadd dX12_movesPallet_12 ?_
  refine r_iald dX12_movesPallet_13 (by assumption) rfl (by omega) ?_
  rw [wRow_ne (by omega)]
  refine r_iast dX12_movesPallet_14 (by assumption) rfl (by omega) ?_
  rw [wRow_set]
  refine r_aload_n dX12_movesPallet_15 rfl ?_
  refine r_getR dX12_movesPallet_16 fl_X12_7 rfl (by assumption) (by assumption) ?_
  refine r_bipush dX12_movesPallet_19 (by decide) ?_
  refine r_iload_n dX12_movesPallet_21 rfl ?_
  refine r_iadd dX12_movesPallet_22 ?_
  refine r_aload_n dX12_movesPallet_23 rfl ?_
  refine r_bipush dX12_movesPallet_24 (by decide) ?_
  refine r_iload_n dX12_movesPallet_26 rfl ?_
  refine r_iadd dX12_movesPallet_27 ?_
  refine r_iald dX12_movesPallet_28 (by assumption) rfl (by omega) ?_
  rw [wRow_ne (by omega)]
  refine r_iast dX12_movesPallet_29 (by assumption) rfl (by omega) ?_
  rw [wRow_set]
  refine r_aload_n dX12_movesPallet_30 rfl ?_
  refine r_getR dX12_movesPallet_31 fl_X12_7 rfl (by assumption) (by assumption) ?_
  refine r_bipush dX12_movesPallet_34 (by decide) ?_
  refine r_iload_n dX12_movesPallet_36 rfl ?_
  refine r_iadd dX12_movesPallet_37 ?_
  refine r_aload_n dX12_movesPallet_38 rfl ?_
  refine r_bipush dX12_movesPallet_39 (by decide) ?_
  refine r_iload_n dX12_movesPallet_41 rfl ?_
  refine r_iadd dX12_movesPallet_42 ?_
  refine r_iald dX12_movesPallet_43 (by assumption) rfl (by omega) ?_
  rw [wRow_ne (by omega)]
  refine r_iast dX12_movesPallet_44 (by assumption) rfl (by omega) ?_
  rw [wRow_set]
  refine r_aload_n dX12_movesPallet_45 rfl ?_
  refine r_getR dX12_movesPallet_46 fl_X12_7 rfl (by assumption) (by assumption) ?_
  refine r_bipush dX12_movesPallet_49 (by decide) ?_
  refine r_iload_n dX12_movesPallet_51 rfl ?_
  refine r_iadd dX12_movesPallet_52 ?_
  refine r_aload_n dX12_movesPallet_53 rfl ?_
  refine r_bipush dX12_movesPallet_54 (by decide) ?_
  refine r_iload_n dX12_movesPallet_56 rfl ?_
  refine r_iadd dX12_movesPallet_57 ?_
  refine r_iald dX12_movesPallet_58 (by assumption) rfl (by omega) ?_
  rw [wRow_ne (by omega)]
  refine r_iast dX12_movesPallet_59 (by assumption) rfl (by omega) ?_
  rw [wRow_set, mvN_0 hb]
  refine r_iconst dX12_movesPallet_60 ?_
  refine r_istore dX12_movesPallet_61 rfl ?_
  exact loop 9 8 0 (by omega) (by omega) (by omega)
theorem m_goesW {sh : Sh} {μ : Mem} {m : Nat} {ρ0 : Row} (hM : IsModel sh μ.2.2 m) {k0 : Int} (hk0 : 0 ≤ k0 ∧ k0 < ρ0 11) (h5 : ρ0 11 ≤ 5) : FMet yX12_goes gX12_goes sh [vR m, vI k0] (wRow μ m ρ0) none (wRow μ m (pmR ρ0 (shf k0 (ρ0 11 - 1)))) := by
  obtain ⟨g0, f1, z1, f2, z2, f3, z3, f4, z4, f5, z5, f6, z6, f7, z7, f8, z8, f9, z9, f10, z10, f11, z11, f12, z12, f13, z13, f14, z14⟩ := id hM
  have e11 : ∀ σ, (wRow μ m (pmR ρ0 σ)).1 (m + 1) 11 = ρ0 11 := fun σ => by rw [wRow_row, pm_lo (by omega)]
  have loop : ∀ (f n : Nat) (k : Int), n < f → k0 ≤ k → k + n = ρ0 11 - 1 → AW gX12_goes sh (wRow μ m (pmR ρ0 (shf k0 k))) 0 0 2 [some (vR m), some (vI k0), some (vI k)] [] (fun r2 sh2 μ2 => r2 = none ∧ sh2 = sh ∧ μ2 = (wRow μ m (pmR ρ0 (shf k0 (ρ0 11 - 1))))) := by
    intro f
    induction f with
    | zero => intro n; intros; omega
    | succ f ih =>
      intro n k hf hk hn2
      refine r_iload_n dX12_goes_2 rfl ?_
      refine r_aload_n dX12_goes_3 rfl ?_
      refine r_getR dX12_goes_4 fl_X12_7 rfl (by assumption) (by assumption) ?_
      refine r_bipush dX12_goes_7 (by decide) ?_
      refine r_iald dX12_goes_9 (by assumption) rfl (by omega) ?_
      rw [e11]
      refine r_iconst dX12_goes_10 ?_
      refine r_isub dX12_goes_11 ?_
      refine q_icmp_ge (tgt := 33) dX12_goes_12 rfl (by omega) (by omega) (fun c12 => ?_) (fun c12 => ?_)
      · refine r_return dX12_goes_33 rfl rfl rfl ?_
        obtain rfl : k = ρ0 11 - 1 := by omega
        exact ⟨rfl, rfl, rfl⟩
      · refine r_aload_n dX12_goes_15 rfl ?_
        refine r_aload_n dX12_goes_16 rfl ?_
        refine r_getR dX12_goes_17 fl_X12_7 rfl (by assumption) (by assumption) ?_
        refine r_iload_n dX12_goes_20 rfl ?_
        refine r_iconst dX12_goes_21 ?_
        refine r_iadd dX12_goes_22 ?_
        refine r_iload_n dX12_goes_23 rfl ?_
        refine r_cV3F0 dX12_goes_24 ml_X12_235 yl_X12_movesPallet ⟨rfl, rfl⟩ (by assumption) ⟨_, rfl⟩ rfl rfl rfl rfl (mp_own (m := m) (ρ0 := pmR ρ0 (shf k0 k)) hM (a := k + 1) (b := k) (by omega) (by omega) (by omega)) ?_
        refine r_iinc dX12_goes_27 rfl rfl ?_
        refine r_goto (tgt := 2) dX12_goes_30 rfl ?_
        rw [mv_pm (by omega) (by omega), pm_congr (τ := shf k0 (k + 1)) (fun i i0 i1 => by
          unfold shf
          by_cases e : i = k
          · rw [if_pos e, if_neg (by omega), if_pos (by omega), e]
          · rw [if_neg e]
            by_cases e2 : k0 ≤ i ∧ i < k
            · rw [if_pos e2, if_pos (by omega)]
            · rw [if_neg e2, if_neg (by omega)])]
        exact ih (n - 1) (k + 1) (by omega) (by omega) (by omega)
  refine AMet.of (by decide) rfl (by decide) rfl ?_
  refine r_iload_n dX12_goes_0 rfl ?_
  refine r_istore_n dX12_goes_1 rfl ?_
  have hl := loop _ (ρ0 11 - 1 - k0).toNat k0 (Nat.lt_succ_self _) (by omega) (by omega)
  rw [pm_congr (τ := fun i => i) (fun i i0 i1 => by unfold shf; rw [if_neg (by omega)]), pm_id] at hl
  exact hl
theorem m_goes {sh : Sh} {μ : Mem} {m : Nat} (hM : IsModel sh μ.2.2 m) {k0 : Int} (hk0 : 0 ≤ k0 ∧ k0 < μ.1 (m + 1) 11) (h5 : μ.1 (m + 1) 11 ≤ 5) : FMet yX12_goes gX12_goes sh [vR m, vI k0] μ none (wRow μ m (pmR (μ.1 (m + 1)) (shf k0 (μ.1 (m + 1) 11 - 1)))) := by
  have h := m_goesW (ρ0 := μ.1 (m + 1)) hM hk0 h5
  rw [wRow_id rfl] at h
  exact h
theorem pm_z {ρ : Row} {σ : Int → Int} (h : ∀ j, ¬ (0 ≤ j ∧ j < 143) → ρ j = 0) : ∀ j, ¬ (0 ≤ j ∧ j < 143) → pmR ρ σ j = 0 := fun j hj => (pm_lo (by omega)).trans (h j hj)
theorem mv_congr {ρ σ τ : Row} {a b : Int} (ha : 0 ≤ a ∧ a < 5) (h : ∀ j, 0 ≤ j → j < 143 → σ j = τ j) : mvR ρ σ a b = mvR ρ τ a b := by
  funext j
  unfold mvR
  rw [h (83 + a) (by omega) (by omega), h (88 + a) (by omega) (by omega), h (93 + a) (by omega) (by omega), h (98 + a) (by omega) (by omega)]
  by_cases e : 103 + 8 * b ≤ j ∧ j < 103 + 8 * b + 8
  · rw [if_pos e, if_pos e, h (103 + 8 * a + (j - (103 + 8 * b))) (by omega) (by omega)]
  · rw [if_neg e, if_neg e]
theorem lst_mv {ρ : Row} {k n : Int} (hk : 0 ≤ k ∧ k ≤ n) (hn : n < 5) : mvR (pmR ρ (shf k n)) ρ k n = pmR ρ (lst k n) := by
  have h := mv_pm (ρ := ρ) (σ := shf k n) (τ := fun i => i) (a := k) (b := n) (by omega) (by omega)
  rw [pm_id] at h
  rw [h]
  refine pm_congr (fun i i0 i1 => ?_)
  unfold lst shf
  by_cases e : i = n
  · rw [if_pos e, if_neg (by omega), if_pos e]
  · rw [if_neg e]
    by_cases e2 : k ≤ i ∧ i < n
    · rw [if_pos e2, if_pos e2]
    · rw [if_neg e2, if_neg e2, if_neg e]
theorem m_drop {sh : Sh} {μ : Mem} {m : Nat} {G : Gh} (hI : InM sh m μ G) (hw : WF (gRow G)) {k : Int} (hk : -2147483648 ≤ k ∧ k < 2147483648)  : IMet yX12_drop gX12_drop sh [vR m, vI k] μ (fun x μ2 => x = (dropF G k).1 ∧ MS sh m μ μ2 (dropF G k).2) := by
  have hM := hI.1
  obtain ⟨g0, f1, z1, f2, z2, f3, z3, f4, z4, f5, z5, f6, z6, f7, z7, f8, z8, f9, z9, f10, z10, f11, z11, f12, z12, f13, z13, f14, z14⟩ := id hM
  have u5 := hI.2.2.1.2.1
  have u8 := hI.2.2.1.1
  have hr := hI.2.1.1
  have hwm : WF (μ.1 (m + 1)) := by rw [hr]; exact hw
  have hwl := hwm.wl
  have hn := hwm.1.1
  unfold WFn at hn
  refine AMet.of (by decide) rfl (by decide) rfl ?_
  refine r_aload_n dX12_drop_0 rfl ?_
  refine r_iload_n dX12_drop_1 rfl ?_
  refine r_cV1F1 dX12_drop_2 ml_X12_216 yl_X12_isPallet ⟨rfl, rfl⟩ (by assumption) ⟨_, rfl⟩ rfl rfl rfl rfl (m_isPallet hM hwl hk) ?_
  refine r_if_neB (tgt := 10) dX12_drop_5 rfl (fun c5 => ?_) (fun c5 => ?_)
  · have d5 := of_decide_eq_true c5
    refine r_aload_n dX12_drop_10 rfl ?_
    refine r_cV0N dX12_drop_11 ml_X12_228 yl_X12_keeps ⟨rfl, rfl⟩ (by assumption) ⟨_, rfl⟩ rfl rfl rfl rfl (m_keeps hI) ?_
    rintro μ3 ⟨⟨hI3, hk3, hR3⟩, hk4, hk5⟩
    have hM3 := hI3.1
    obtain ⟨g0, f1, z1, f2, z2, f3, z3, f4, z4, f5, z5, f6, z6, f7, z7, f8, z8, f9, z9, f10, z10, f11, z11, f12, z12, f13, z13, f14, z14⟩ := id hM3
    have hr3 : μ3.1 (m + 1) = gRow G := hI3.2.1.1
    have e11 : μ3.1 (m + 1) 11 = μ.1 (m + 1) 11 := by rw [hr3, hr]
    have hM4 : ∀ ρ, IsModel sh (wRow μ3 m ρ).2.2 m := fun _ => hM3
    have ew : ∀ σ, (wRow μ3 m (pmR (μ3.1 (m + 1)) σ)).1 (m + 1) 11 = μ.1 (m + 1) 11 := fun σ => by rw [wRow_row, pm_lo (by omega), e11]
    refine r_aload_n dX12_drop_14 rfl ?_
    refine r_iload_n dX12_drop_15 rfl ?_
    refine r_cV1F0 dX12_drop_16 ml_X12_239 yl_X12_goes ⟨rfl, rfl⟩ (by assumption) ⟨_, rfl⟩ rfl rfl rfl rfl (m_goes hM3 (by omega) (by omega)) ?_
    refine r_aload_n dX12_drop_19 rfl ?_
    refine r_getR dX12_drop_20 fl_X12_7 rfl (by assumption) (by assumption) ?_
    refine r_bipush dX12_drop_23 (by decide) ?_
    refine r_dup2 dX12_drop_25 rfl rfl ?_
    refine r_iald dX12_drop_26 (by assumption) rfl (by omega) ?_
    rw [ew]
    refine r_iconst dX12_drop_27 ?_
    refine r_isub dX12_drop_28 ?_
    refine r_iast dX12_drop_29 (by assumption) rfl (by omega) ?_
    rw [wRow_set]
    refine r_aload_n dX12_drop_30 rfl ?_
    refine r_getR dX12_drop_31 fl_X12_7 rfl (by assumption) (by assumption) ?_
    refine r_bipush dX12_drop_34 (by decide) ?_
    refine r_iald dX12_drop_36 (by assumption) rfl (by omega) ?_
    rw [wRow_row, rset_eq]
    refine r_ireturn dX12_drop_37 rfl rfl rfl ?_
    refine ⟨rfl, _, rfl, ?_⟩
    unfold dropF palG
    rw [if_pos (by rw [← hr]; omega), e11, hr3, hr]
    exact ⟨rfl, hI3.wr (rset_z (by omega) (pm_z hI.2.1.2)), hk3.wr (by (try dsimp only); omega), hR3⟩
  · have d5 := of_decide_eq_false c5
    refine r_iconst dX12_drop_8 ?_
    refine r_ireturn dX12_drop_9 rfl rfl rfl ?_
    refine ⟨rfl, _, rfl, ?_⟩
    unfold dropF palG
    rw [← hr, if_neg (by omega)]
    exact ⟨rfl, hI, Kp.rf _ _, rfl⟩
theorem m_again {sh : Sh} {μ : Mem} {m : Nat} {G : Gh} (hI : InM sh m μ G) (hw : WF (gRow G)) {k : Int} (hk : -2147483648 ≤ k ∧ k < 2147483648)  : IMet yX12_again gX12_again sh [vR m, vI k] μ (fun x μ2 => x = (againF G k).1 ∧ MS sh m μ μ2 (againF G k).2) := by
  have hM := hI.1
  obtain ⟨g0, f1, z1, f2, z2, f3, z3, f4, z4, f5, z5, f6, z6, f7, z7, f8, z8, f9, z9, f10, z10, f11, z11, f12, z12, f13, z13, f14, z14⟩ := id hM
  have u5 := hI.2.2.1.2.1
  have u8 := hI.2.2.1.1
  have hr := hI.2.1.1
  have hwm : WF (μ.1 (m + 1)) := by rw [hr]; exact hw
  have hwl := hwm.wl
  have hn := hwm.1.1
  unfold WFn at hn
  refine AMet.of (by decide) rfl (by decide) rfl ?_
  refine r_aload_n dX12_again_0 rfl ?_
  refine r_iload_n dX12_again_1 rfl ?_
  refine r_cV1F1 dX12_again_2 ml_X12_216 yl_X12_isPallet ⟨rfl, rfl⟩ (by assumption) ⟨_, rfl⟩ rfl rfl rfl rfl (m_isPallet hM hwl hk) ?_
  refine r_if_neB (tgt := 10) dX12_again_5 rfl (fun c5 => ?_) (fun c5 => ?_)
  · have d5 := of_decide_eq_true c5
    refine r_aload_n dX12_again_10 rfl ?_
    refine r_cV0N dX12_again_11 ml_X12_228 yl_X12_keeps ⟨rfl, rfl⟩ (by assumption) ⟨_, rfl⟩ rfl rfl rfl rfl (m_keeps hI) ?_
    rintro μ3 ⟨⟨hI3, hk3, hR3⟩, hk4, hk5⟩
    have hM3 := hI3.1
    obtain ⟨g0, f1, z1, f2, z2, f3, z3, f4, z4, f5, z5, f6, z6, f7, z7, f8, z8, f9, z9, f10, z10, f11, z11, f12, z12, f13, z13, f14, z14⟩ := id hM3
    have hr3 : μ3.1 (m + 1) = gRow G := hI3.2.1.1
    have e11 : μ3.1 (m + 1) 11 = μ.1 (m + 1) 11 := by rw [hr3, hr]
    refine r_aload_n dX12_again_14 rfl ?_
    refine r_getR dX12_again_15 fl_X12_7 rfl (by assumption) (by assumption) ?_
    refine r_iconst dX12_again_18 ?_
    refine r_aload_n dX12_again_19 rfl ?_
    refine r_getR dX12_again_20 fl_X12_13 rfl (by assumption) (by assumption) ?_
    refine r_iconst dX12_again_23 ?_
    refine r_cS4F0 dX12_again_24 ml_X12_187 yl_X12_copies ⟨rfl, rfl⟩ rfl rfl rfl rfl (m_copies (s := m + 1) (d := m + 2) z1 z2 rfl rfl (by omega) (by omega) (by omega)) ?_
    generalize hm4 : cpK μ3 (m + 1) 0 (m + 2) 0 143 = μ4
    have hm4 := hm4.symm
    have hM4 : IsModel sh μ4.2.2 m := by rw [hm4]; exact hM3
    have hR4 : μ4.2 = μ3.2 := by rw [hm4]; rfl
    have hk6 : Kp (fun a => a ≠ m + 2) μ3 μ4 := by rw [hm4]; exact (Kp.rf _ μ3).cp (by omega)
    have hI4 := hI3.mc (μ2 := μ4) ⟨McR.kp (hk6.mono (fun q hq => by (try dsimp only at *); omega)), (hk6 _ (by (try dsimp only); omega)).1⟩ hM4
    have e14 : μ4.1 (m + 1) = μ3.1 (m + 1) := (hk6 _ (by (try dsimp only); omega)).1
    have e12 : ∀ j, 0 ≤ j → j < 143 → μ4.1 (m + 2) j = μ.1 (m + 1) j := by
      intro j j0 j1
      rw [hm4, hr, ← hr3]
      show (if m + 2 = m + 2 ∧ 0 ≤ j ∧ j < 0 + 143 then μ3.1 (m + 1) (0 + (j - 0)) else μ3.1 (m + 2) j) = _
      rw [if_pos (by omega)]
      exact congrArg _ (by omega)
    obtain ⟨g0, f1, z1, f2, z2, f3, z3, f4, z4, f5, z5, f6, z6, f7, z7, f8, z8, f9, z9, f10, z10, f11, z11, f12, z12, f13, z13, f14, z14⟩ := id hM4
    have ew : ∀ σ, (wRow μ4 m (pmR (μ4.1 (m + 1)) σ)).1 (m + 1) 11 = μ.1 (m + 1) 11 := fun σ => by rw [wRow_row, pm_lo (by omega), e14, e11]
    refine r_aload_n dX12_again_27 rfl ?_
    refine r_iload_n dX12_again_28 rfl ?_
    refine r_cV1F0 dX12_again_29 ml_X12_239 yl_X12_goes ⟨rfl, rfl⟩ (by assumption) ⟨_, rfl⟩ rfl rfl rfl rfl (m_goes hM4 (by rw [e14, e11]; omega) (by rw [e14, e11]; omega)) ?_
    refine r_aload_n dX12_again_32 rfl ?_
    refine r_aload_n dX12_again_33 rfl ?_
    refine r_getR dX12_again_34 fl_X12_13 rfl (by assumption) (by assumption) ?_
    refine r_iload_n dX12_again_37 rfl ?_
    refine r_aload_n dX12_again_38 rfl ?_
    refine r_getR dX12_again_39 fl_X12_7 rfl (by assumption) (by assumption) ?_
    refine r_bipush dX12_again_42 (by decide) ?_
    refine r_iald dX12_again_44 (by assumption) rfl (by omega) ?_
    rw [ew]
    refine r_iconst dX12_again_45 ?_
    refine r_isub dX12_again_46 ?_
    refine r_cV3F0 dX12_again_47 ml_X12_235 yl_X12_movesPallet ⟨rfl, rfl⟩ (by assumption) ⟨_, rfl⟩ rfl rfl rfl rfl (mp_spare (m := m) (μ := μ4) hM4 (a := k) (b := μ.1 (m + 1) 11 - 1) (by omega) (by omega)) ?_
    rw [e14, e11, hr3, ← hr, mv_congr (by omega) e12, lst_mv (by omega) (by omega)]
    have ew2 : ∀ σ, (wRow μ4 m (pmR (μ.1 (m + 1)) σ)).1 (m + 1) 11 = μ.1 (m + 1) 11 := fun σ => by rw [wRow_row, pm_lo (by omega)]
    refine r_aload_n dX12_again_50 rfl ?_
    refine r_getR dX12_again_51 fl_X12_7 rfl (by assumption) (by assumption) ?_
    refine r_bipush dX12_again_54 (by decide) ?_
    refine r_iald dX12_again_56 (by assumption) rfl (by omega) ?_
    rw [ew2]
    refine r_iconst dX12_again_57 ?_
    refine r_isub dX12_again_58 ?_
    refine r_ireturn dX12_again_59 rfl rfl rfl ?_
    refine ⟨rfl, _, rfl, ?_⟩
    unfold againF palG
    rw [if_pos (by rw [← hr]; omega), hr]
    exact ⟨rfl, hI4.wr (pm_z hI.2.1.2), (hk3.tr (hk6.mono (fun q hq => by (try dsimp only at *); omega))).wr (by (try dsimp only); omega), hR4.trans hR3⟩
  · have d5 := of_decide_eq_false c5
    refine r_iconst dX12_again_8 ?_
    refine r_ireturn dX12_again_9 rfl rfl rfl ?_
    refine ⟨rfl, _, rfl, ?_⟩
    unfold againF palG
    rw [← hr, if_neg (by omega)]
    exact ⟨rfl, hI, Kp.rf _ _, rfl⟩
def cmN (ρ : Row) (w t k : Int) : Row := fun j => if j = 83 + ρ 11 then w else if j = 88 + ρ 11 then t else if j = 93 + ρ 11 then -1 else if j = 98 + ρ 11 then 0 else if 103 + 8 * ρ 11 ≤ j ∧ j < 103 + 8 * ρ 11 + k then 0 else ρ j
theorem cmN_0 {ρ : Row} {w t : Int} (h : 0 ≤ ρ 11 ∧ ρ 11 < 5) : rset (rset (rset (rset ρ (83 + ρ 11) w) (88 + ρ 11) t) (93 + ρ 11) (-1)) (98 + ρ 11) 0 = cmN ρ w t 0 := by
  funext j
  unfold cmN rset
  by_cases h1 : j = 83 + ρ 11
  · rw [if_neg (by omega), if_neg (by omega), if_neg (by omega), if_pos h1, if_pos h1]
  · by_cases h2 : j = 88 + ρ 11
    · rw [if_neg (by omega), if_neg (by omega), if_pos h2, if_neg h1, if_pos h2]
    · by_cases h3 : j = 93 + ρ 11
      · rw [if_neg (by omega), if_pos h3, if_neg h1, if_neg h2, if_pos h3]
      · by_cases h4 : j = 98 + ρ 11
        · rw [if_pos h4, if_neg h1, if_neg h2, if_neg h3, if_pos h4]
        · rw [if_neg h4, if_neg h3, if_neg h2, if_neg h1, if_neg h1, if_neg h2, if_neg h3, if_neg h4, if_neg (by omega)]
theorem cmN_s {ρ : Row} {w t k : Int} (h : 0 ≤ ρ 11 ∧ ρ 11 < 5) (hk : 0 ≤ k ∧ k < 8) : rset (cmN ρ w t k) (103 + 8 * ρ 11 + k) 0 = cmN ρ w t (k + 1) := by
  funext j
  unfold rset
  by_cases h1 : j = 103 + 8 * ρ 11 + k
  · rw [if_pos h1]
    unfold cmN
    rw [if_neg (by omega), if_neg (by omega), if_neg (by omega), if_neg (by omega), if_pos (by omega)]
  · rw [if_neg h1]
    unfold cmN
    by_cases h5 : 103 + 8 * ρ 11 ≤ j ∧ j < 103 + 8 * ρ 11 + k
    · rw [if_pos h5, if_pos (show 103 + 8 * ρ 11 ≤ j ∧ j < 103 + 8 * ρ 11 + (k + 1) by omega)]
    · rw [if_neg h5, if_neg (show ¬ (103 + 8 * ρ 11 ≤ j ∧ j < 103 + 8 * ρ 11 + (k + 1)) by omega)]
theorem cmN_8 {ρ : Row} {w t : Int} (h : 0 ≤ ρ 11 ∧ ρ 11 < 5) : rset (cmN ρ w t 8) 11 (ρ 11 + 1) = comR ρ w t := rfl
theorem com_z {ρ : Row} {w t : Int} (h : 0 ≤ ρ 11 ∧ ρ 11 < 5) (hz : ∀ j, ¬ (0 ≤ j ∧ j < 143) → ρ j = 0) : ∀ j, ¬ (0 ≤ j ∧ j < 143) → comR ρ w t j = 0 := fun j hj => (com_ne (by omega)).trans (hz j hj)
theorem m_come {sh : Sh} {μ : Mem} {m : Nat} {G : Gh} (hI : InM sh m μ G) (hw : WF (gRow G)) {w t : Int} (hw0 : -2147483648 ≤ w ∧ w < 2147483648) (ht0 : -2147483648 ≤ t ∧ t < 2147483648)  : IMet yX12_come gX12_come sh [vR m, vI w, vI t] μ (fun x μ2 => x = (comeF G w t).1 ∧ MS sh m μ μ2 (comeF G w t).2) := by
  have hM := hI.1
  obtain ⟨g0, f1, z1, f2, z2, f3, z3, f4, z4, f5, z5, f6, z6, f7, z7, f8, z8, f9, z9, f10, z10, f11, z11, f12, z12, f13, z13, f14, z14⟩ := id hM
  have u5 := hI.2.2.1.2.1
  have u8 := hI.2.2.1.1
  have hr := hI.2.1.1
  have hwm : WF (μ.1 (m + 1)) := by rw [hr]; exact hw
  have hwl := hwm.wl
  have hn := hwm.1.1
  unfold WFn at hn
  have lp : ∀ (μ3 : Mem) (ρ0 : Row), IsModel sh μ3.2.2 m → ρ0 = μ.1 (m + 1) → ρ0 11 < 5 → AW gX12_come sh (wRow μ3 m (cmN ρ0 w t 0)) 0 0 82 [some (vR m), some (vI w), some (vI t), some (vI (ρ0 11)), some (vI 0)] [] (fun r2 sh2 μ2 => r2 = some (vI (ρ0 11)) ∧ sh2 = sh ∧ μ2 = wRow μ3 m (comR ρ0 w t)) := by
    intro μ3 ρ0 hM3 hρ h5
    have e11 : ρ0 11 = μ.1 (m + 1) 11 := by rw [hρ]
    obtain ⟨g0, f1, z1, f2, z2, f3, z3, f4, z4, f5, z5, f6, z6, f7, z7, f8, z8, f9, z9, f10, z10, f11, z11, f12, z12, f13, z13, f14, z14⟩ := id hM3
    have loop : ∀ (f n : Nat) (k : Int), n < f → 0 ≤ k → k + n = 8 → AW gX12_come sh (wRow μ3 m (cmN ρ0 w t k)) 0 0 82 [some (vR m), some (vI w), some (vI t), some (vI (ρ0 11)), some (vI k)] [] (fun r2 sh2 μ2 => r2 = some (vI (ρ0 11)) ∧ sh2 = sh ∧ μ2 = wRow μ3 m (comR ρ0 w t)) := by
      intro f
      induction f with
      | zero => intro n; intros; omega
      | succ f ih =>
        intro n k hf hk hn2
        refine r_iload dX12_come_82 rfl ?_
        refine r_bipush dX12_come_84 (by decide) ?_
        refine q_icmp_ge (tgt := 111) dX12_come_86 rfl (by omega) (by omega) (fun c86 => ?_) (fun c86 => ?_)
        · obtain rfl : k = 8 := by omega
          have e9 : (wRow μ3 m (cmN ρ0 w t 8)).1 (m + 1) 11 = ρ0 11 := by
            rw [wRow_row]
            unfold cmN
            rw [if_neg (by omega), if_neg (by omega), if_neg (by omega), if_neg (by omega), if_neg (by omega)]
          refine r_aload_n dX12_come_111 rfl ?_
          refine r_getR dX12_come_112 fl_X12_7 rfl (by assumption) (by assumption) ?_
          refine r_bipush dX12_come_115 (by decide) ?_
          refine r_dup2 dX12_come_117 rfl rfl ?_
          refine r_iald dX12_come_118 (by assumption) rfl (by omega) ?_
          rw [e9]
          refine r_iconst dX12_come_119 ?_
          refine r_iadd dX12_come_120 ?_
          refine r_iast dX12_come_121 (by assumption) rfl (by omega) ?_
          rw [wRow_set, cmN_8 (by omega)]
          refine r_iload_n dX12_come_122 rfl ?_
          refine r_ireturn dX12_come_123 rfl rfl rfl ?_
          exact ⟨rfl, rfl, rfl⟩
        · refine r_aload_n dX12_come_89 rfl ?_
          refine r_getR dX12_come_90 fl_X12_7 rfl (by assumption) (by assumption) ?_
          refine r_bipush dX12_come_93 (by decide) ?_
          refine r_bipush dX12_come_95 (by decide) ?_
          refine r_iload_n dX12_come_97 rfl ?_
          refine r_imul dX12_come_98 ?_
          refine r_iadd dX12_come_99 ?_
          refine r_iload dX12_come_100 rfl ?_
          refine r_iadd dX12_come_102 ?_
          refine r_iconst dX12_come_103 ?_
          refine r_iast dX12_come_104 (by assumption) rfl (by omega) ?_
          refine r_iinc dX12_come_105 rfl rfl ?_
          refine r_goto (tgt := 82) dX12_come_108 rfl ?_
          rw [wRow_set, cmN_s (by omega) (by omega)]
          exact ih (n - 1) (k + 1) (by omega) (by omega) (by omega)
    exact loop 9 8 0 (by omega) (by omega) (by omega)
  refine AMet.of (by decide) rfl (by decide) rfl ?_
  refine r_aload_n dX12_come_0 rfl ?_
  refine r_getR dX12_come_1 fl_X12_7 rfl (by assumption) (by assumption) ?_
  refine r_bipush dX12_come_4 (by decide) ?_
  refine r_iald dX12_come_6 (by assumption) rfl (by omega) ?_
  refine r_istore_n dX12_come_7 rfl ?_
  refine r_iload_n dX12_come_8 rfl ?_
  refine r_iconst dX12_come_9 ?_
  refine q_icmp_eq (tgt := 33) dX12_come_10 rfl (by omega) (by omega) (fun c10 => ?_) (fun c10 => ?_)
  · refine r_iconst dX12_come_33 ?_
    refine r_ireturn dX12_come_34 rfl rfl rfl ?_
    refine ⟨rfl, _, rfl, ?_⟩
    unfold comeF
    rw [← hr, if_neg (by omega)]
    exact ⟨rfl, hI, Kp.rf _ _, rfl⟩
  · refine r_iload_n dX12_come_13 rfl ?_
    refine r_iconst dX12_come_14 ?_
    refine r_bipush dX12_come_15 (by decide) ?_
    refine r_cS3F1 dX12_come_17 ml_X12_73 yl_X12_isIn ⟨rfl, rfl⟩ rfl rfl rfl rfl (m_isIn hw0 (by omega) (by omega)) ?_
    refine r_if_eqB (tgt := 33) dX12_come_20 rfl (fun c20 => ?_) (fun c20 => ?_)
    · have d20 := of_decide_eq_false c20
      refine r_iconst dX12_come_33 ?_
      refine r_ireturn dX12_come_34 rfl rfl rfl ?_
      refine ⟨rfl, _, rfl, ?_⟩
      unfold comeF
      rw [← hr, if_neg (by omega)]
      exact ⟨rfl, hI, Kp.rf _ _, rfl⟩
    · have d20 := of_decide_eq_true c20
      refine r_iload_n dX12_come_23 rfl ?_
      refine r_iconst dX12_come_24 ?_
      refine r_bipush dX12_come_25 (by decide) ?_
      refine r_cS3F1 dX12_come_27 ml_X12_73 yl_X12_isIn ⟨rfl, rfl⟩ rfl rfl rfl rfl (m_isIn ht0 (by omega) (by omega)) ?_
      refine r_if_neB (tgt := 35) dX12_come_30 rfl (fun c30 => ?_) (fun c30 => ?_)
      · have d30 := of_decide_eq_true c30
        refine r_aload_n dX12_come_35 rfl ?_
        refine r_cV0N dX12_come_36 ml_X12_228 yl_X12_keeps ⟨rfl, rfl⟩ (by assumption) ⟨_, rfl⟩ rfl rfl rfl rfl (m_keeps hI) ?_
        rintro μ3 ⟨⟨hI3, hk3, hR3⟩, hk4, hk5⟩
        have hM3 := hI3.1
        obtain ⟨g0, f1, z1, f2, z2, f3, z3, f4, z4, f5, z5, f6, z6, f7, z7, f8, z8, f9, z9, f10, z10, f11, z11, f12, z12, f13, z13, f14, z14⟩ := id hM3
        have hr3 : μ3.1 (m + 1) = gRow G := hI3.2.1.1
        have w0 : setI μ3 (m + 1) (83 + μ.1 (m + 1) 11) w = wRow μ3 m (rset (μ.1 (m + 1)) (83 + μ.1 (m + 1) 11) w) := by
          rw [← wRow_set, wRow_id (by rw [hr3, hr])]
        refine r_aload_n dX12_come_39 rfl ?_
        refine r_getR dX12_come_40 fl_X12_7 rfl (by assumption) (by assumption) ?_
        refine r_bipush dX12_come_43 (by decide) ?_
        refine r_iload_n dX12_come_45 rfl ?_
        refine r_iadd dX12_come_46 ?_
        refine r_iload_n dX12_come_47 rfl ?_
        refine r_iast dX12_come_48 (by assumption) rfl (by omega) ?_
        rw [w0]
        refine r_aload_n dX12_come_49 rfl ?_
        refine r_getR dX12_come_50 fl_X12_7 rfl (by assumption) (by assumption) ?_
        refine r_bipush dX12_come_53 (by decide) ?_
        refine r_iload_n dX12_come_55 rfl ?_
        refine r_iadd dX12_come_56 ?_
        refine r_iload_n dX12_come_57 rfl ?_
        refine r_iast dX12_come_58 (by assumption) rfl (by omega) ?_
        rw [wRow_set]
        refine r_aload_n dX12_come_59 rfl ?_
        refine r_getR dX12_come_60 fl_X12_7 rfl (by assumption) (by assumption) ?_
        refine r_bipush dX12_come_63 (by decide) ?_
        refine r_iload_n dX12_come_65 rfl ?_
        refine r_iadd dX12_come_66 ?_
        refine r_iconst dX12_come_67 ?_
        refine r_iast dX12_come_68 (by assumption) rfl (by omega) ?_
        rw [wRow_set]
        refine r_aload_n dX12_come_69 rfl ?_
        refine r_getR dX12_come_70 fl_X12_7 rfl (by assumption) (by assumption) ?_
        refine r_bipush dX12_come_73 (by decide) ?_
        refine r_iload_n dX12_come_75 rfl ?_
        refine r_iadd dX12_come_76 ?_
        refine r_iconst dX12_come_77 ?_
        refine r_iast dX12_come_78 (by assumption) rfl (by omega) ?_
        rw [wRow_set, cmN_0 (by omega)]
        refine r_iconst dX12_come_79 ?_
        refine r_istore dX12_come_80 rfl ?_
        refine AW.mono (lp μ3 (μ.1 (m + 1)) hM3 rfl (by omega)) ?_
        rintro r sh2 μ2 ⟨rfl, rfl, rfl⟩
        refine ⟨rfl, _, rfl, ?_⟩
        unfold comeF
        rw [if_pos (by rw [← hr]; omega), hr]
        exact ⟨rfl, hI3.wr (com_z (by rw [← hr]; omega) hI.2.1.2), hk3.wr (by (try dsimp only); omega), hR3⟩
      · have d30 := of_decide_eq_false c30
        refine r_iconst dX12_come_33 ?_
        refine r_ireturn dX12_come_34 rfl rfl rfl ?_
        refine ⟨rfl, _, rfl, ?_⟩
        unfold comeF
        rw [← hr, if_neg (by omega)]
        exact ⟨rfl, hI, Kp.rf _ _, rfl⟩
