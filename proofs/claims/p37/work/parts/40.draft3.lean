/-! 40.draft3: taken from whole (wip/p37/port.py) -/
variable {n_ : Sh}
/-! 40.draft3: what is added to a voyage and a plane, and what is reckoned (wip/whole/src/40_draft3.py) -/
theorem baseW_s {ρ : Row} {i : Int} (hi : 0 ≤ i) : baseW ρ (i + 1) = baseW ρ i + (if ρ (59 + i) < 0 then 0 else -ρ (71 + i)) := by
  unfold baseW
  rw [show (i + 1).toNat = i.toNat + 1 by omega, sumF_snoc, show (0 : Int) + (i.toNat : Int) = i by omega]
  omega
theorem baseM_s {ρ : Row} {i : Int} (hi : 0 ≤ i) : baseM ρ (i + 1) = baseM ρ i + (if ρ (59 + i) < 0 then 0 else -ρ (71 + i) * ρ (53 + ρ (59 + i))) := by
  unfold baseM
  rw [show (i + 1).toNat = i.toNat + 1 by omega, sumF_snoc, show (0 : Int) + (i.toNat : Int) = i by omega]
  omega
theorem stopsF_s {ρ : Row} {i : Int} (hi : 0 ≤ i) : stopsF ρ (i + 1) = stopsF ρ i + (if ρ (59 + i) < 0 then 1 else 0) := by
  unfold stopsF
  rw [show (i + 1).toNat = i.toNat + 1 by omega, sumF_snoc, show (0 : Int) + (i.toNat : Int) = i by omega]
theorem d_hasTank {sh : Sh} {μ : Mem} {a : Nat} (hA : IsVoyage sh μ.2.2 a) {s : Int} (hs : -2147483648 ≤ s ∧ s < 2147483648) (hz : 0 ≤ μ.1 a 0 ∧ μ.1 a 0 ≤ 3)  : FMet yX10_hasTank gX10_hasTank sh [vR a, vI s] μ (some (vI (b2i (decide (0 ≤ s ∧ s < μ.1 a 0))))) μ := by
  obtain ⟨g0, q1, q2, q3, q4, q6, q7, q9, q10, q11, z1, z2, z3, z4, z5, z6, z7, z8, z9⟩ := id hA
  refine AMet.of (by decide) rfl (by decide) rfl ?_
  refine r_iload_n dX10_hasTank_0 rfl ?_
  refine q_if_lt (tgt := 16) dX10_hasTank_1 rfl (by omega) (fun c1 => ?_) (fun c1 => ?_)
  · refine r_iconst dX10_hasTank_16 ?_
    refine r_zreturn dX10_hasTank_17 (by first | exact Or.inl rfl | exact Or.inr rfl | exact b2i_01 _ | omega) rfl rfl rfl ?_
    refine ⟨rI ?_, rfl, rfl⟩
    first | (rw [decide_eq_true (by omega)]; rfl) | (rw [decide_eq_false (by omega)]; rfl)
  · refine r_iload_n dX10_hasTank_4 rfl ?_
    refine r_aload_n dX10_hasTank_5 rfl ?_
    refine r_getI dX10_hasTank_6 fl_X10_40 rfl (by assumption) ?_
    refine q_icmp_ge (tgt := 16) dX10_hasTank_9 rfl (by omega) (by omega) (fun c9 => ?_) (fun c9 => ?_)
    · refine r_iconst dX10_hasTank_16 ?_
      refine r_zreturn dX10_hasTank_17 (by first | exact Or.inl rfl | exact Or.inr rfl | exact b2i_01 _ | omega) rfl rfl rfl ?_
      refine ⟨rI ?_, rfl, rfl⟩
      first | (rw [decide_eq_true (by omega)]; rfl) | (rw [decide_eq_false (by omega)]; rfl)
    · refine r_iconst dX10_hasTank_12 ?_
      refine r_goto (tgt := 17) dX10_hasTank_13 rfl ?_
      refine r_zreturn dX10_hasTank_17 (by first | exact Or.inl rfl | exact Or.inr rfl | exact b2i_01 _ | omega) rfl rfl rfl ?_
      refine ⟨rI ?_, rfl, rfl⟩
      first | (rw [decide_eq_true (by omega)]; rfl) | (rw [decide_eq_false (by omega)]; rfl)
theorem d_clearV {sh : Sh} {μ : Mem} {a : Nat} (hA : IsVoyage sh μ.2.2 a)  : FMet yX10_clear gX10_clear sh [vR a] μ none (setI (setI (setI μ a 0 0) a 5 0) a 8 0) := by
  obtain ⟨g0, q1, q2, q3, q4, q6, q7, q9, q10, q11, z1, z2, z3, z4, z5, z6, z7, z8, z9⟩ := id hA
  refine AMet.of (by decide) rfl (by decide) rfl ?_
  refine r_aload_n dX10_clear_0 rfl ?_
  refine r_iconst dX10_clear_1 ?_
  refine r_putI dX10_clear_2 fl_X10_40 (by assumption) ?_
  refine r_aload_n dX10_clear_5 rfl ?_
  refine r_iconst dX10_clear_6 ?_
  refine r_putI dX10_clear_7 fl_X10_44 (by assumption) ?_
  refine r_aload_n dX10_clear_10 rfl ?_
  refine r_iconst dX10_clear_11 ?_
  refine r_putI dX10_clear_12 fl_X10_47 (by assumption) ?_
  refine r_return dX10_clear_15 rfl rfl rfl ?_
  exact ⟨rfl, rfl, rfl⟩
theorem d_tankCalled {sh : Sh} {μ : Mem} {a : Nat} (hA : IsVoyage sh μ.2.2 a) {v : Int} (hz : 0 ≤ μ.1 a 0 ∧ μ.1 a 0 ≤ 3) (hv : 0 ≤ v ∧ v < 9223372036854775808) (hl : ∀ k, 0 ≤ k → k < μ.1 a 0 → 0 ≤ μ.2.1 (a + 1) k ∧ μ.2.1 (a + 1) k < 9223372036854775808)  : FMet yX10_tankCalled gX10_tankCalled sh [vR a, vL v] μ (some (vI (fnd (fun h => decide (μ.2.1 (a + 1) h = v))  (μ.1 a 0).toNat 0))) μ := by
  obtain ⟨g0, q1, q2, q3, q4, q6, q7, q9, q10, q11, z1, z2, z3, z4, z5, z6, z7, z8, z9⟩ := id hA
  have lB : ∀ (f n : Nat) (k : Int), n < f → 0 ≤ k → k + n = μ.1 a 0 → AW gX10_tankCalled sh μ 0 0 2 [some (vR a), some (vL v), none, some (vI k)] [] (fun r2 sh2 μ2 => r2 = some (vI ((fnd (fun h => decide (μ.2.1 (a + 1) h = v)) n k))) ∧ sh2 = sh ∧ μ2 = μ) := by
    intro f
    induction f with
    | zero => intro n; intros; omega
    | succ f ih =>
      intro n k hf hk hn2
      refine r_iload_n dX10_tankCalled_2 rfl ?_
      refine r_aload_n dX10_tankCalled_3 rfl ?_
      refine r_getI dX10_tankCalled_4 fl_X10_40 rfl (by assumption) ?_
      refine q_icmp_ge (tgt := 29) dX10_tankCalled_7 rfl (by omega) (by omega) (fun c7 => ?_) (fun c7 => ?_)
      · refine r_iconst dX10_tankCalled_29 ?_
        refine r_ireturn dX10_tankCalled_30 rfl rfl rfl ?_
        obtain rfl : n = 0 := by omega
        exact ⟨rfl, rfl, rfl⟩
      · obtain ⟨q, rfl⟩ : ∃ q, n = q + 1 := ⟨n - 1, by omega⟩
        have hlk := hl k (by omega) (by omega)
        refine r_aload_n dX10_tankCalled_10 rfl ?_
        refine r_getR dX10_tankCalled_11 fl_X10_9 rfl (by assumption) (by assumption) ?_
        refine r_iload_n dX10_tankCalled_14 rfl ?_
        refine r_lald dX10_tankCalled_15 (by assumption) rfl (by omega) ?_
        refine r_lload_n dX10_tankCalled_16 rfl ?_
        refine r_lcmp dX10_tankCalled_17 (by omega) (by omega) ?_
        refine q_if_ne (tgt := 23) dX10_tankCalled_18 rfl (by simp only [icmpL]; split <;> (try split) <;> omega) (fun c18 => ?_) (fun c18 => ?_)
        · have c18 : ¬ μ.2.1 (a + 1) k = v := by intro hh; rw [hh] at c18; simp [icmpL] at c18
          rw [fnd, if_neg (by rw [decide_eq_true_eq]; exact c18)]
          refine r_iinc dX10_tankCalled_23 rfl rfl ?_
          refine r_goto (tgt := 2) dX10_tankCalled_26 rfl ?_
          exact ih q (k + 1) (by omega) (by omega) (by omega)
        · have c18 : μ.2.1 (a + 1) k = v := by simp only [icmpL] at c18; split at c18 <;> (try split at c18) <;> omega
          rw [fnd, if_pos (decide_eq_true c18)]
          refine r_iload_n dX10_tankCalled_21 rfl ?_
          refine r_ireturn dX10_tankCalled_22 rfl rfl rfl ?_
          exact ⟨rfl, rfl, rfl⟩
  refine AMet.of (by decide) rfl (by decide) rfl ?_
  refine r_iconst dX10_tankCalled_0 ?_
  refine r_istore_n dX10_tankCalled_1 rfl ?_
  exact lB _ (μ.1 a 0).toNat 0 (Nat.lt_succ_self _) (by omega) (by omega)
theorem d_leftIn {sh : Sh} {μ : Mem} {a : Nat} (hA : IsVoyage sh μ.2.2 a) {s : Int} (hs : -2147483648 ≤ s ∧ s < 2147483648) (hz : 0 ≤ μ.1 a 0 ∧ μ.1 a 0 ≤ 3)  : FMet yX10_leftIn gX10_leftIn sh [vR a, vI s] μ (some (vI (if 0 ≤ s ∧ s < μ.1 a 0 then μ.1 (a + 4) s else 0))) μ := by
  obtain ⟨g0, q1, q2, q3, q4, q6, q7, q9, q10, q11, z1, z2, z3, z4, z5, z6, z7, z8, z9⟩ := id hA
  refine AMet.of (by decide) rfl (by decide) rfl ?_
  refine r_aload_n dX10_leftIn_0 rfl ?_
  refine r_iload_n dX10_leftIn_1 rfl ?_
  refine r_cV1F1 dX10_leftIn_2 ml_X10_56 yl_X10_hasTank ⟨rfl, rfl⟩ (by assumption) ⟨_, rfl⟩ rfl rfl rfl rfl (d_hasTank hA (by omega) (by omega)) ?_
  refine r_if_eqB (tgt := 17) dX10_leftIn_5 rfl (fun c5 => ?_) (fun c5 => ?_)
  · have c5 := of_decide_eq_false c5
    refine r_iconst dX10_leftIn_17 ?_
    refine r_ireturn dX10_leftIn_18 rfl rfl rfl ?_
    refine ⟨rI ?_, rfl, rfl⟩
    first | rw [if_pos c5] | rw [if_neg c5]
  · have c5 := of_decide_eq_true c5
    refine r_aload_n dX10_leftIn_8 rfl ?_
    refine r_getR dX10_leftIn_9 fl_X10_22 rfl (by assumption) (by assumption) ?_
    refine r_iload_n dX10_leftIn_12 rfl ?_
    refine r_iald dX10_leftIn_13 (by assumption) rfl (by omega) ?_
    refine r_goto (tgt := 18) dX10_leftIn_14 rfl ?_
    refine r_ireturn dX10_leftIn_18 rfl rfl rfl ?_
    refine ⟨rI ?_, rfl, rfl⟩
    first | rw [if_pos c5] | rw [if_neg c5]
def adT (μ : Mem) (a : Nat) (v x l : Int) : Mem := setI (setI (setI (setI (setL μ (a + 1) (μ.1 a 0) v) (a + 2) (μ.1 a 0) x) (a + 3) (μ.1 a 0) l) (a + 4) (μ.1 a 0) l) a 0 (μ.1 a 0 + 1)
theorem d_addTank {sh : Sh} {μ : Mem} {a : Nat} (hA : IsVoyage sh μ.2.2 a) {v x l : Int} (hz : 0 ≤ μ.1 a 0 ∧ μ.1 a 0 < 3)  : FMet yX10_addTank gX10_addTank sh [vR a, vL v, vI x, vI l] μ none (adT μ a v x l) := by
  obtain ⟨g0, q1, q2, q3, q4, q6, q7, q9, q10, q11, z1, z2, z3, z4, z5, z6, z7, z8, z9⟩ := id hA
  refine AMet.of (by decide) rfl (by decide) rfl ?_
  refine r_aload_n dX10_addTank_0 rfl ?_
  refine r_getI dX10_addTank_1 fl_X10_40 rfl (by assumption) ?_
  (try simp (disch := omega) only [sI_at, sI_ne, sI_nj, sI_L, sL_at, sL_ne, sL_nj, sL_I])
  refine r_iconst dX10_addTank_4 ?_
  refine q_icmp_lt (tgt := 9) dX10_addTank_5 rfl (by omega) (by omega) (fun c5 => ?_) (fun c5 => ?_)
  · refine r_aload_n dX10_addTank_9 rfl ?_
    refine r_getR dX10_addTank_10 fl_X10_9 rfl (by assumption) (by assumption) ?_
    refine r_aload_n dX10_addTank_13 rfl ?_
    refine r_getI dX10_addTank_14 fl_X10_40 rfl (by assumption) ?_
    (try simp (disch := omega) only [sI_at, sI_ne, sI_nj, sI_L, sL_at, sL_ne, sL_nj, sL_I])
    refine r_lload_n dX10_addTank_17 rfl ?_
    refine r_last dX10_addTank_18 (by assumption) rfl (by omega) ?_
    refine r_aload_n dX10_addTank_19 rfl ?_
    refine r_getR dX10_addTank_20 fl_X10_15 rfl (by assumption) (by assumption) ?_
    refine r_aload_n dX10_addTank_23 rfl ?_
    refine r_getI dX10_addTank_24 fl_X10_40 rfl (by assumption) ?_
    (try simp (disch := omega) only [sI_at, sI_ne, sI_nj, sI_L, sL_at, sL_ne, sL_nj, sL_I])
    refine r_iload_n dX10_addTank_27 rfl ?_
    refine r_iast dX10_addTank_28 (by assumption) rfl (by omega) ?_
    refine r_aload_n dX10_addTank_29 rfl ?_
    refine r_getR dX10_addTank_30 fl_X10_19 rfl (by assumption) (by assumption) ?_
    refine r_aload_n dX10_addTank_33 rfl ?_
    refine r_getI dX10_addTank_34 fl_X10_40 rfl (by assumption) ?_
    (try simp (disch := omega) only [sI_at, sI_ne, sI_nj, sI_L, sL_at, sL_ne, sL_nj, sL_I])
    refine r_iload dX10_addTank_37 rfl ?_
    refine r_iast dX10_addTank_39 (by assumption) rfl (by omega) ?_
    refine r_aload_n dX10_addTank_40 rfl ?_
    refine r_getR dX10_addTank_41 fl_X10_22 rfl (by assumption) (by assumption) ?_
    refine r_aload_n dX10_addTank_44 rfl ?_
    refine r_getI dX10_addTank_45 fl_X10_40 rfl (by assumption) ?_
    (try simp (disch := omega) only [sI_at, sI_ne, sI_nj, sI_L, sL_at, sL_ne, sL_nj, sL_I])
    refine r_iload dX10_addTank_48 rfl ?_
    refine r_iast dX10_addTank_50 (by assumption) rfl (by omega) ?_
    refine r_aload_n dX10_addTank_51 rfl ?_
    refine r_dup dX10_addTank_52 rfl ?_
    refine r_getI dX10_addTank_53 fl_X10_40 rfl (by assumption) ?_
    (try simp (disch := omega) only [sI_at, sI_ne, sI_nj, sI_L, sL_at, sL_ne, sL_nj, sL_I])
    refine r_iconst dX10_addTank_56 ?_
    refine r_iadd dX10_addTank_57 ?_
    refine r_putI dX10_addTank_58 fl_X10_40 (by assumption) ?_
    refine r_return dX10_addTank_61 rfl rfl rfl ?_
    exact ⟨rfl, rfl, rfl⟩
  · exact absurd c5 (by omega)
def adB (μ : Mem) (a : Nat) (t n : Int) : Mem := setI (setI (setI (setI μ (a + 4) t (μ.1 (a + 4) t - n)) (a + 5) (μ.1 a 5) t) (a + 6) (μ.1 a 5) n) a 5 (μ.1 a 5 + 1)
theorem d_addBurn {sh : Sh} {μ : Mem} {a : Nat} (hA : IsVoyage sh μ.2.2 a) {t n : Int} (hz : 0 ≤ μ.1 a 0 ∧ μ.1 a 0 ≤ 3) (h5 : 0 ≤ μ.1 a 5 ∧ μ.1 a 5 < 12) (ht : 0 ≤ t ∧ t < μ.1 a 0)  : FMet yX10_addBurn gX10_addBurn sh [vR a, vI t, vI n] μ none (adB μ a t n) := by
  obtain ⟨g0, q1, q2, q3, q4, q6, q7, q9, q10, q11, z1, z2, z3, z4, z5, z6, z7, z8, z9⟩ := id hA
  refine AMet.of (by decide) rfl (by decide) rfl ?_
  refine r_aload_n dX10_addBurn_0 rfl ?_
  refine r_getI dX10_addBurn_1 fl_X10_44 rfl (by assumption) ?_
  (try simp (disch := omega) only [sI_at, sI_ne, sI_nj, sI_L, sL_at, sL_ne, sL_nj, sL_I])
  refine r_bipush dX10_addBurn_4 (by decide) ?_
  refine q_icmp_ge (tgt := 17) dX10_addBurn_6 rfl (by omega) (by omega) (fun c6 => ?_) (fun c6 => ?_)
  · exact absurd c6 (by omega)
  · refine r_aload_n dX10_addBurn_9 rfl ?_
    refine r_iload_n dX10_addBurn_10 rfl ?_
    refine r_cV1F1 dX10_addBurn_11 ml_X10_56 yl_X10_hasTank ⟨rfl, rfl⟩ (by assumption) ⟨_, rfl⟩ rfl rfl rfl rfl (d_hasTank hA (by omega) (by omega)) ?_
    refine r_if_neB (tgt := 18) dX10_addBurn_14 rfl (fun c14 => ?_) (fun c14 => ?_)
    · refine r_aload_n dX10_addBurn_18 rfl ?_
      refine r_getR dX10_addBurn_19 fl_X10_22 rfl (by assumption) (by assumption) ?_
      refine r_iload_n dX10_addBurn_22 rfl ?_
      refine r_dup2 dX10_addBurn_23 rfl rfl ?_
      refine r_iald dX10_addBurn_24 (by assumption) rfl (by omega) ?_
      refine r_iload_n dX10_addBurn_25 rfl ?_
      refine r_isub dX10_addBurn_26 ?_
      refine r_iast dX10_addBurn_27 (by assumption) rfl (by omega) ?_
      refine r_aload_n dX10_addBurn_28 rfl ?_
      refine r_getR dX10_addBurn_29 fl_X10_25 rfl (by assumption) (by assumption) ?_
      refine r_aload_n dX10_addBurn_32 rfl ?_
      refine r_getI dX10_addBurn_33 fl_X10_44 rfl (by assumption) ?_
      (try simp (disch := omega) only [sI_at, sI_ne, sI_nj, sI_L, sL_at, sL_ne, sL_nj, sL_I])
      refine r_iload_n dX10_addBurn_36 rfl ?_
      refine r_iast dX10_addBurn_37 (by assumption) rfl (by omega) ?_
      refine r_aload_n dX10_addBurn_38 rfl ?_
      refine r_getR dX10_addBurn_39 fl_X10_28 rfl (by assumption) (by assumption) ?_
      refine r_aload_n dX10_addBurn_42 rfl ?_
      refine r_getI dX10_addBurn_43 fl_X10_44 rfl (by assumption) ?_
      (try simp (disch := omega) only [sI_at, sI_ne, sI_nj, sI_L, sL_at, sL_ne, sL_nj, sL_I])
      refine r_iload_n dX10_addBurn_46 rfl ?_
      refine r_iast dX10_addBurn_47 (by assumption) rfl (by omega) ?_
      refine r_aload_n dX10_addBurn_48 rfl ?_
      refine r_dup dX10_addBurn_49 rfl ?_
      refine r_getI dX10_addBurn_50 fl_X10_44 rfl (by assumption) ?_
      (try simp (disch := omega) only [sI_at, sI_ne, sI_nj, sI_L, sL_at, sL_ne, sL_nj, sL_I])
      refine r_iconst dX10_addBurn_53 ?_
      refine r_iadd dX10_addBurn_54 ?_
      refine r_putI dX10_addBurn_55 fl_X10_44 (by assumption) ?_
      refine r_return dX10_addBurn_58 rfl rfl rfl ?_
      exact ⟨rfl, rfl, rfl⟩
    · exact absurd c14 (by rw [decide_eq_true (by omega)]; decide)
def adS (μ : Mem) (a : Nat) : Mem := setI (setI (setI (setI μ (a + 5) (μ.1 a 5) (-1)) (a + 6) (μ.1 a 5) 0) a 5 (μ.1 a 5 + 1)) a 8 (μ.1 a 8 + 1)
theorem d_addStop {sh : Sh} {μ : Mem} {a : Nat} (hA : IsVoyage sh μ.2.2 a) (h5 : 0 ≤ μ.1 a 5 ∧ μ.1 a 5 < 12)  : FMet yX10_addStop gX10_addStop sh [vR a] μ none (adS μ a) := by
  obtain ⟨g0, q1, q2, q3, q4, q6, q7, q9, q10, q11, z1, z2, z3, z4, z5, z6, z7, z8, z9⟩ := id hA
  refine AMet.of (by decide) rfl (by decide) rfl ?_
  refine r_aload_n dX10_addStop_0 rfl ?_
  refine r_getI dX10_addStop_1 fl_X10_44 rfl (by assumption) ?_
  (try simp (disch := omega) only [sI_at, sI_ne, sI_nj, sI_L, sL_at, sL_ne, sL_nj, sL_I])
  refine r_bipush dX10_addStop_4 (by decide) ?_
  refine q_icmp_lt (tgt := 10) dX10_addStop_6 rfl (by omega) (by omega) (fun c6 => ?_) (fun c6 => ?_)
  · refine r_aload_n dX10_addStop_10 rfl ?_
    refine r_getR dX10_addStop_11 fl_X10_25 rfl (by assumption) (by assumption) ?_
    refine r_aload_n dX10_addStop_14 rfl ?_
    refine r_getI dX10_addStop_15 fl_X10_44 rfl (by assumption) ?_
    (try simp (disch := omega) only [sI_at, sI_ne, sI_nj, sI_L, sL_at, sL_ne, sL_nj, sL_I])
    refine r_iconst dX10_addStop_18 ?_
    refine r_iast dX10_addStop_19 (by assumption) rfl (by omega) ?_
    refine r_aload_n dX10_addStop_20 rfl ?_
    refine r_getR dX10_addStop_21 fl_X10_28 rfl (by assumption) (by assumption) ?_
    refine r_aload_n dX10_addStop_24 rfl ?_
    refine r_getI dX10_addStop_25 fl_X10_44 rfl (by assumption) ?_
    (try simp (disch := omega) only [sI_at, sI_ne, sI_nj, sI_L, sL_at, sL_ne, sL_nj, sL_I])
    refine r_iconst dX10_addStop_28 ?_
    refine r_iast dX10_addStop_29 (by assumption) rfl (by omega) ?_
    refine r_aload_n dX10_addStop_30 rfl ?_
    refine r_dup dX10_addStop_31 rfl ?_
    refine r_getI dX10_addStop_32 fl_X10_44 rfl (by assumption) ?_
    (try simp (disch := omega) only [sI_at, sI_ne, sI_nj, sI_L, sL_at, sL_ne, sL_nj, sL_I])
    refine r_iconst dX10_addStop_35 ?_
    refine r_iadd dX10_addStop_36 ?_
    refine r_putI dX10_addStop_37 fl_X10_44 (by assumption) ?_
    refine r_aload_n dX10_addStop_40 rfl ?_
    refine r_dup dX10_addStop_41 rfl ?_
    refine r_getI dX10_addStop_42 fl_X10_47 rfl (by assumption) ?_
    (try simp (disch := omega) only [sI_at, sI_ne, sI_nj, sI_L, sL_at, sL_ne, sL_nj, sL_I])
    refine r_iconst dX10_addStop_45 ?_
    refine r_iadd dX10_addStop_46 ?_
    refine r_putI dX10_addStop_47 fl_X10_47 (by assumption) ?_
    refine r_return dX10_addStop_50 rfl rfl rfl ?_
    exact ⟨rfl, rfl, rfl⟩
  · exact absurd c6 (by omega)
theorem d_reckon {sh : Sh} {μ : Mem} {a : Nat} {ρ : Row} (hV : RV sh μ a ρ) (h8 : 0 ≤ ρ 8 ∧ ρ 8 ≤ 3) (h9 : 0 ≤ ρ 9 ∧ ρ 9 ≤ 12) (hg : WFg ρ) {w m : Int} (hw : w = ρ 0) (hm : m = ρ 1)  : AMet yX10_reckon gX10_reckon sh [vR a, vI w, vI m] μ (fun r2 sh2 μ2 => r2 = none ∧ sh2 = sh ∧ RelV sh μ2 a ρ ∧ Kp (fun q => q ≠ a + 7 ∧ q ≠ a + 8 ∧ q ≠ a + 9) μ μ2 ∧ μ2.2 = μ.2) := by
  obtain ⟨hA, v0, vt, v5, v8, vi⟩ := id hV
  obtain ⟨g0, q1, q2, q3, q4, q6, q7, q9, q10, q11, z1, z2, z3, z4, z5, z6, z7, z8, z9⟩ := id hA
  have l2 : ∀ (f n : Nat) (k : Int) (o4 o5 : Option AV) (μ' : Mem), n < f → 0 ≤ k → k + n = ρ 9 → (μ'.2 = μ.2 ∧ (∀ q : Nat, q ≠ a + 7 → q ≠ a + 8 → q ≠ a + 9 → μ'.1 q = μ.1 q)) → (∀ i, 0 ≤ i → i ≤ k → μ'.1 (a + 7) i = baseW ρ i ∧ μ'.1 (a + 8) i = baseM ρ i ∧ μ'.1 (a + 9) i = stopsF ρ i) → AW gX10_reckon sh μ' 0 0 78 [some (vR a), some (vI w), some (vI m), some (vI k), o4, o5] [] (fun r2 sh2 μ2 => r2 = none ∧ sh2 = sh ∧ RelV sh μ2 a ρ ∧ Kp (fun q => q ≠ a + 7 ∧ q ≠ a + 8 ∧ q ≠ a + 9) μ μ2 ∧ μ2.2 = μ.2) := by
    intro f
    induction f with
    | zero => intro n; intros; omega
    | succ f ih =>
      intro n k o4 o5 μ' hf hk0 hn2 hk hw1
      have hRR : μ'.2.2 = μ.2.2 := by rw [hk.1]
      have hA' : IsVoyage sh μ'.2.2 a := by rw [hRR]; exact hA
      obtain ⟨g0, q1, q2, q3, q4, q6, q7, q9, q10, q11, z1, z2, z3, z4, z5, z6, z7, z8, z9⟩ := id hA'
      refine r_iload_n dX10_reckon_78 rfl ?_
      refine r_aload_n dX10_reckon_79 rfl ?_
      refine r_getI dX10_reckon_80 fl_X10_44 rfl (by assumption) ?_
      (try rw [hk.2 a (by omega) (by omega) (by omega)]); (try simp (disch := omega) only [sI_at, sI_ne, sI_nj, sI_L, sL_at, sL_ne, sL_nj, sL_I]); (try rw [v0]); (try rw [v5])
      refine q_icmp_ge (tgt := 193) dX10_reckon_83 rfl (by omega) (by omega) (fun c83 => ?_) (fun c83 => ?_)
      · refine r_return dX10_reckon_193 rfl rfl rfl ?_
        refine ⟨rfl, rfl, ⟨hA', ?_, fun t t0 t1 => ?_, ?_, ?_, fun i i0 i1 => hw1 i i0 (by omega)⟩, fun q hq => ⟨hk.2 q hq.1 hq.2.1 hq.2.2, by rw [hk.1], by rw [hk.1]⟩, hk.1⟩
        · rw [hk.2 a (by omega) (by omega) (by omega)]; exact v0
        · rw [hk.2 (a + 2) (by omega) (by omega) (by omega), hk.2 (a + 3) (by omega) (by omega) (by omega)]; exact ⟨(vt t t0 t1).1, (vt t t0 t1).2.1⟩
        · rw [hk.2 a (by omega) (by omega) (by omega)]; exact v5
        · rw [hk.2 a (by omega) (by omega) (by omega)]; exact v8
      · obtain ⟨q, rfl⟩ : ∃ q, n = q + 1 := ⟨n - 1, by omega⟩
        have hgk := hg.1 k (by omega) (by omega)
        have vik := vi k (by omega) (by omega)
        have hwk := hw1 k (by omega) (by omega)
        have h0 : μ'.1 a 0 = ρ 8 := (congrFun (hk.2 a (by omega) (by omega) (by omega)) 0).trans v0
        have ek : ∀ q : Nat, q ≠ a + 7 → q ≠ a + 8 → q ≠ a + 9 → ∀ i, μ'.1 q i = μ.1 q i := fun q a1 a2 a3 i => congrFun (hk.2 q a1 a2 a3) i
        refine r_aload_n dX10_reckon_86 rfl ?_
        refine r_getR dX10_reckon_87 fl_X10_25 rfl (by assumption) (by assumption) ?_
        refine r_iload_n dX10_reckon_90 rfl ?_
        refine r_iald dX10_reckon_91 (by assumption) rfl (by omega) ?_
        rw [ek (a + 5) (by omega) (by omega) (by omega), vik.1]
        refine r_istore dX10_reckon_92 rfl ?_
        refine r_aload_n dX10_reckon_94 rfl ?_
        refine r_iload dX10_reckon_95 rfl ?_
        refine r_cV1F1 dX10_reckon_97 ml_X10_56 yl_X10_hasTank ⟨rfl, rfl⟩ (by assumption) ⟨_, rfl⟩ rfl rfl rfl rfl (d_hasTank hA' (by omega) (by omega)) ?_
        rw [h0]
        refine r_if_eqB (tgt := 113) dX10_reckon_100 rfl (fun c100 => ?_) (fun c100 => ?_)
        · have c100 := of_decide_eq_false c100
          refine r_iconst dX10_reckon_113 ?_
          refine r_istore dX10_reckon_114 rfl ?_
          refine r_aload_n dX10_reckon_116 rfl ?_
          refine r_getR dX10_reckon_117 fl_X10_31 rfl (by assumption) (by assumption) ?_
          refine r_iload_n dX10_reckon_120 rfl ?_
          refine r_iconst dX10_reckon_121 ?_
          refine r_iadd dX10_reckon_122 ?_
          refine r_aload_n dX10_reckon_123 rfl ?_
          refine r_getR dX10_reckon_124 fl_X10_31 rfl (by assumption) (by assumption) ?_
          refine r_iload_n dX10_reckon_127 rfl ?_
          refine r_iald dX10_reckon_128 (by assumption) rfl (by omega) ?_
          rw [hwk.1]
          refine r_aload_n dX10_reckon_129 rfl ?_
          refine r_getR dX10_reckon_130 fl_X10_28 rfl (by assumption) (by assumption) ?_
          refine r_iload_n dX10_reckon_133 rfl ?_
          refine r_iald dX10_reckon_134 (by assumption) rfl (by omega) ?_
          rw [ek (a + 6) (by omega) (by omega) (by omega), vik.2]
          refine r_isub dX10_reckon_135 ?_
          refine r_iast dX10_reckon_136 (by assumption) rfl (by omega) ?_
          refine r_aload_n dX10_reckon_137 rfl ?_
          refine r_getR dX10_reckon_138 fl_X10_34 rfl (by assumption) (by assumption) ?_
          refine r_iload_n dX10_reckon_141 rfl ?_
          refine r_iconst dX10_reckon_142 ?_
          refine r_iadd dX10_reckon_143 ?_
          refine r_aload_n dX10_reckon_144 rfl ?_
          refine r_getR dX10_reckon_145 fl_X10_34 rfl (by assumption) (by assumption) ?_
          refine r_iload_n dX10_reckon_148 rfl ?_
          refine r_iald dX10_reckon_149 (by assumption) rfl (by omega) ?_
          simp (disch := omega) only [sI_at, sI_ne, sI_nj, sI_L, sL_at, sL_ne, sL_nj, sL_I]
          rw [hwk.2.1]
          refine r_aload_n dX10_reckon_150 rfl ?_
          refine r_getR dX10_reckon_151 fl_X10_28 rfl (by assumption) (by assumption) ?_
          refine r_iload_n dX10_reckon_154 rfl ?_
          refine r_iald dX10_reckon_155 (by assumption) rfl (by omega) ?_
          simp (disch := omega) only [sI_at, sI_ne, sI_nj, sI_L, sL_at, sL_ne, sL_nj, sL_I]
          rw [ek (a + 6) (by omega) (by omega) (by omega), vik.2]
          refine r_iload dX10_reckon_156 rfl ?_
          refine r_imul dX10_reckon_158 ?_
          refine r_isub dX10_reckon_159 ?_
          refine r_iast dX10_reckon_160 (by assumption) rfl (by omega) ?_
          refine r_aload_n dX10_reckon_161 rfl ?_
          refine r_getR dX10_reckon_162 fl_X10_37 rfl (by assumption) (by assumption) ?_
          refine r_iload_n dX10_reckon_165 rfl ?_
          refine r_iconst dX10_reckon_166 ?_
          refine r_iadd dX10_reckon_167 ?_
          refine r_aload_n dX10_reckon_168 rfl ?_
          refine r_getR dX10_reckon_169 fl_X10_37 rfl (by assumption) (by assumption) ?_
          refine r_iload_n dX10_reckon_172 rfl ?_
          refine r_iald dX10_reckon_173 (by assumption) rfl (by omega) ?_
          simp (disch := omega) only [sI_at, sI_ne, sI_nj, sI_L, sL_at, sL_ne, sL_nj, sL_I]
          rw [hwk.2.2]
          refine r_iload dX10_reckon_174 rfl ?_
          refine r_iconst dX10_reckon_176 ?_
          refine q_icmp_ne (tgt := 184) dX10_reckon_177 rfl (by omega) (by omega) (fun c177 => ?_) (fun c177 => ?_)
          · refine r_iconst dX10_reckon_184 ?_
            refine r_iadd dX10_reckon_185 ?_
            refine r_iast dX10_reckon_186 (by assumption) rfl (by omega) ?_
            refine r_iinc dX10_reckon_187 rfl rfl ?_
            refine r_goto (tgt := 78) dX10_reckon_190 rfl ?_
            refine ih q (k + 1) _ _ _ (by omega) (by omega) (by omega) ⟨hk.1, fun q a1 a2 a3 => (setI_ne a3).trans ((setI_ne a2).trans ((setI_ne a1).trans (hk.2 q a1 a2 a3)))⟩ (fun i i0 i1 => ?_)
            by_cases e : i = k + 1
            · subst e
              rw [baseW_s hk0, baseM_s hk0, stopsF_s hk0]
              simp (disch := omega) only [sI_at, sI_ne, sI_nj, sI_L, sL_at, sL_ne, sL_nj, sL_I]
              first
              | (rw [if_pos (by omega), if_pos (by omega), if_pos (by omega), if_pos (by omega)]; refine ⟨by omega, by omega, by omega⟩)
              | (rw [if_neg (by omega), if_neg (by omega), if_neg (by omega), if_neg (by omega)]; refine ⟨by omega, ?_, by omega⟩; rw [Int.neg_mul]; omega)
            · simp (disch := omega) only [sI_at, sI_ne, sI_nj, sI_L, sL_at, sL_ne, sL_nj, sL_I]
              exact hw1 i i0 (by omega)
          · refine r_iconst dX10_reckon_180 ?_
            refine r_goto (tgt := 185) dX10_reckon_181 rfl ?_
            refine r_iadd dX10_reckon_185 ?_
            refine r_iast dX10_reckon_186 (by assumption) rfl (by omega) ?_
            refine r_iinc dX10_reckon_187 rfl rfl ?_
            refine r_goto (tgt := 78) dX10_reckon_190 rfl ?_
            refine ih q (k + 1) _ _ _ (by omega) (by omega) (by omega) ⟨hk.1, fun q a1 a2 a3 => (setI_ne a3).trans ((setI_ne a2).trans ((setI_ne a1).trans (hk.2 q a1 a2 a3)))⟩ (fun i i0 i1 => ?_)
            by_cases e : i = k + 1
            · subst e
              rw [baseW_s hk0, baseM_s hk0, stopsF_s hk0]
              simp (disch := omega) only [sI_at, sI_ne, sI_nj, sI_L, sL_at, sL_ne, sL_nj, sL_I]
              first
              | (rw [if_pos (by omega), if_pos (by omega), if_pos (by omega), if_pos (by omega)]; refine ⟨by omega, by omega, by omega⟩)
              | (rw [if_neg (by omega), if_neg (by omega), if_neg (by omega), if_neg (by omega)]; refine ⟨by omega, ?_, by omega⟩; rw [Int.neg_mul]; omega)
            · simp (disch := omega) only [sI_at, sI_ne, sI_nj, sI_L, sL_at, sL_ne, sL_nj, sL_I]
              exact hw1 i i0 (by omega)
        · have c100 := of_decide_eq_true c100
          refine r_aload_n dX10_reckon_103 rfl ?_
          refine r_getR dX10_reckon_104 fl_X10_15 rfl (by assumption) (by assumption) ?_
          refine r_iload dX10_reckon_107 rfl ?_
          refine r_iald dX10_reckon_109 (by assumption) rfl (by omega) ?_
          rw [ek (a + 2) (by omega) (by omega) (by omega), (vt (ρ (59 + k)) (by omega) (by omega)).1]
          refine r_goto (tgt := 114) dX10_reckon_110 rfl ?_
          refine r_istore dX10_reckon_114 rfl ?_
          refine r_aload_n dX10_reckon_116 rfl ?_
          refine r_getR dX10_reckon_117 fl_X10_31 rfl (by assumption) (by assumption) ?_
          refine r_iload_n dX10_reckon_120 rfl ?_
          refine r_iconst dX10_reckon_121 ?_
          refine r_iadd dX10_reckon_122 ?_
          refine r_aload_n dX10_reckon_123 rfl ?_
          refine r_getR dX10_reckon_124 fl_X10_31 rfl (by assumption) (by assumption) ?_
          refine r_iload_n dX10_reckon_127 rfl ?_
          refine r_iald dX10_reckon_128 (by assumption) rfl (by omega) ?_
          rw [hwk.1]
          refine r_aload_n dX10_reckon_129 rfl ?_
          refine r_getR dX10_reckon_130 fl_X10_28 rfl (by assumption) (by assumption) ?_
          refine r_iload_n dX10_reckon_133 rfl ?_
          refine r_iald dX10_reckon_134 (by assumption) rfl (by omega) ?_
          rw [ek (a + 6) (by omega) (by omega) (by omega), vik.2]
          refine r_isub dX10_reckon_135 ?_
          refine r_iast dX10_reckon_136 (by assumption) rfl (by omega) ?_
          refine r_aload_n dX10_reckon_137 rfl ?_
          refine r_getR dX10_reckon_138 fl_X10_34 rfl (by assumption) (by assumption) ?_
          refine r_iload_n dX10_reckon_141 rfl ?_
          refine r_iconst dX10_reckon_142 ?_
          refine r_iadd dX10_reckon_143 ?_
          refine r_aload_n dX10_reckon_144 rfl ?_
          refine r_getR dX10_reckon_145 fl_X10_34 rfl (by assumption) (by assumption) ?_
          refine r_iload_n dX10_reckon_148 rfl ?_
          refine r_iald dX10_reckon_149 (by assumption) rfl (by omega) ?_
          simp (disch := omega) only [sI_at, sI_ne, sI_nj, sI_L, sL_at, sL_ne, sL_nj, sL_I]
          rw [hwk.2.1]
          refine r_aload_n dX10_reckon_150 rfl ?_
          refine r_getR dX10_reckon_151 fl_X10_28 rfl (by assumption) (by assumption) ?_
          refine r_iload_n dX10_reckon_154 rfl ?_
          refine r_iald dX10_reckon_155 (by assumption) rfl (by omega) ?_
          simp (disch := omega) only [sI_at, sI_ne, sI_nj, sI_L, sL_at, sL_ne, sL_nj, sL_I]
          rw [ek (a + 6) (by omega) (by omega) (by omega), vik.2]
          refine r_iload dX10_reckon_156 rfl ?_
          refine r_imul dX10_reckon_158 ?_
          refine r_isub dX10_reckon_159 ?_
          refine r_iast dX10_reckon_160 (by assumption) rfl (by omega) ?_
          refine r_aload_n dX10_reckon_161 rfl ?_
          refine r_getR dX10_reckon_162 fl_X10_37 rfl (by assumption) (by assumption) ?_
          refine r_iload_n dX10_reckon_165 rfl ?_
          refine r_iconst dX10_reckon_166 ?_
          refine r_iadd dX10_reckon_167 ?_
          refine r_aload_n dX10_reckon_168 rfl ?_
          refine r_getR dX10_reckon_169 fl_X10_37 rfl (by assumption) (by assumption) ?_
          refine r_iload_n dX10_reckon_172 rfl ?_
          refine r_iald dX10_reckon_173 (by assumption) rfl (by omega) ?_
          simp (disch := omega) only [sI_at, sI_ne, sI_nj, sI_L, sL_at, sL_ne, sL_nj, sL_I]
          rw [hwk.2.2]
          refine r_iload dX10_reckon_174 rfl ?_
          refine r_iconst dX10_reckon_176 ?_
          refine q_icmp_ne (tgt := 184) dX10_reckon_177 rfl (by omega) (by omega) (fun c177 => ?_) (fun c177 => ?_)
          · refine r_iconst dX10_reckon_184 ?_
            refine r_iadd dX10_reckon_185 ?_
            refine r_iast dX10_reckon_186 (by assumption) rfl (by omega) ?_
            refine r_iinc dX10_reckon_187 rfl rfl ?_
            refine r_goto (tgt := 78) dX10_reckon_190 rfl ?_
            refine ih q (k + 1) _ _ _ (by omega) (by omega) (by omega) ⟨hk.1, fun q a1 a2 a3 => (setI_ne a3).trans ((setI_ne a2).trans ((setI_ne a1).trans (hk.2 q a1 a2 a3)))⟩ (fun i i0 i1 => ?_)
            by_cases e : i = k + 1
            · subst e
              rw [baseW_s hk0, baseM_s hk0, stopsF_s hk0]
              simp (disch := omega) only [sI_at, sI_ne, sI_nj, sI_L, sL_at, sL_ne, sL_nj, sL_I]
              first
              | (rw [if_pos (by omega), if_pos (by omega), if_pos (by omega), if_pos (by omega)]; refine ⟨by omega, by omega, by omega⟩)
              | (rw [if_neg (by omega), if_neg (by omega), if_neg (by omega), if_neg (by omega)]; refine ⟨by omega, ?_, by omega⟩; rw [Int.neg_mul]; omega)
            · simp (disch := omega) only [sI_at, sI_ne, sI_nj, sI_L, sL_at, sL_ne, sL_nj, sL_I]
              exact hw1 i i0 (by omega)
          · refine r_iconst dX10_reckon_180 ?_
            refine r_goto (tgt := 185) dX10_reckon_181 rfl ?_
            refine r_iadd dX10_reckon_185 ?_
            refine r_iast dX10_reckon_186 (by assumption) rfl (by omega) ?_
            refine r_iinc dX10_reckon_187 rfl rfl ?_
            refine r_goto (tgt := 78) dX10_reckon_190 rfl ?_
            refine ih q (k + 1) _ _ _ (by omega) (by omega) (by omega) ⟨hk.1, fun q a1 a2 a3 => (setI_ne a3).trans ((setI_ne a2).trans ((setI_ne a1).trans (hk.2 q a1 a2 a3)))⟩ (fun i i0 i1 => ?_)
            by_cases e : i = k + 1
            · subst e
              rw [baseW_s hk0, baseM_s hk0, stopsF_s hk0]
              simp (disch := omega) only [sI_at, sI_ne, sI_nj, sI_L, sL_at, sL_ne, sL_nj, sL_I]
              first
              | (rw [if_pos (by omega), if_pos (by omega), if_pos (by omega), if_pos (by omega)]; refine ⟨by omega, by omega, by omega⟩)
              | (rw [if_neg (by omega), if_neg (by omega), if_neg (by omega), if_neg (by omega)]; refine ⟨by omega, ?_, by omega⟩; rw [Int.neg_mul]; omega)
            · simp (disch := omega) only [sI_at, sI_ne, sI_nj, sI_L, sL_at, sL_ne, sL_nj, sL_I]
              exact hw1 i i0 (by omega)
  have l1 : ∀ (f n : Nat) (k : Int) (o4 o5 : Option AV) (μ' : Mem), n < f → 0 ≤ k → k + n = ρ 8 → (μ'.2 = μ.2 ∧ (∀ q : Nat, q ≠ a + 7 → q ≠ a + 8 → q ≠ a + 9 → μ'.1 q = μ.1 q)) → (μ'.1 (a + 7) 0 + sumF (fun t => ρ (56 + t)) n k = baseW ρ 0 ∧ μ'.1 (a + 8) 0 + sumF (fun t => ρ (56 + t) * ρ (53 + t)) n k = baseM ρ 0 ∧ μ'.1 (a + 9) 0 = 0) → AW gX10_reckon sh μ' 0 0 25 [some (vR a), some (vI w), some (vI m), some (vI k), o4, o5] [] (fun r2 sh2 μ2 => r2 = none ∧ sh2 = sh ∧ RelV sh μ2 a ρ ∧ Kp (fun q => q ≠ a + 7 ∧ q ≠ a + 8 ∧ q ≠ a + 9) μ μ2 ∧ μ2.2 = μ.2) := by
    intro f
    induction f with
    | zero => intro n; intros; omega
    | succ f ih =>
      intro n k o4 o5 μ' hf hk0 hn2 hk hw1
      have hRR : μ'.2.2 = μ.2.2 := by rw [hk.1]
      have hA' : IsVoyage sh μ'.2.2 a := by rw [hRR]; exact hA
      obtain ⟨g0, q1, q2, q3, q4, q6, q7, q9, q10, q11, z1, z2, z3, z4, z5, z6, z7, z8, z9⟩ := id hA'
      refine r_iload_n dX10_reckon_25 rfl ?_
      refine r_aload_n dX10_reckon_26 rfl ?_
      refine r_getI dX10_reckon_27 fl_X10_40 rfl (by assumption) ?_
      (try rw [hk.2 a (by omega) (by omega) (by omega)]); (try simp (disch := omega) only [sI_at, sI_ne, sI_nj, sI_L, sL_at, sL_ne, sL_nj, sL_I]); (try rw [v0]); (try rw [v5])
      refine q_icmp_ge (tgt := 76) dX10_reckon_30 rfl (by omega) (by omega) (fun c30 => ?_) (fun c30 => ?_)
      · refine r_iconst dX10_reckon_76 ?_
        refine r_istore_n dX10_reckon_77 rfl ?_
        obtain rfl : n = 0 := by omega
        refine l2 _ (ρ 9).toNat 0 _ _ μ' (Nat.lt_succ_self _) (by omega) (by omega) hk (fun i i0 i1 => ?_)
        obtain rfl : i = 0 := by omega
        have h1 := hw1.1
        have h2 := hw1.2.1
        rw [sumF] at h1 h2
        exact ⟨by omega, by omega, hw1.2.2⟩
      · obtain ⟨q, rfl⟩ : ∃ q, n = q + 1 := ⟨n - 1, by omega⟩
        have vtk := vt k (by omega) (by omega)
        have ek : ∀ q : Nat, q ≠ a + 7 → q ≠ a + 8 → q ≠ a + 9 → ∀ i, μ'.1 q i = μ.1 q i := fun q a1 a2 a3 i => congrFun (hk.2 q a1 a2 a3) i
        refine r_aload_n dX10_reckon_33 rfl ?_
        refine r_getR dX10_reckon_34 fl_X10_31 rfl (by assumption) (by assumption) ?_
        refine r_iconst dX10_reckon_37 ?_
        refine r_dup2 dX10_reckon_38 rfl rfl ?_
        refine r_iald dX10_reckon_39 (by assumption) rfl (by omega) ?_
        refine r_aload_n dX10_reckon_40 rfl ?_
        refine r_getR dX10_reckon_41 fl_X10_19 rfl (by assumption) (by assumption) ?_
        refine r_iload_n dX10_reckon_44 rfl ?_
        refine r_iald dX10_reckon_45 (by assumption) rfl (by omega) ?_
        rw [ek (a + 3) (by omega) (by omega) (by omega), vtk.2.1]
        refine r_iadd dX10_reckon_46 ?_
        refine r_iast dX10_reckon_47 (by assumption) rfl (by omega) ?_
        refine r_aload_n dX10_reckon_48 rfl ?_
        refine r_getR dX10_reckon_49 fl_X10_34 rfl (by assumption) (by assumption) ?_
        refine r_iconst dX10_reckon_52 ?_
        refine r_dup2 dX10_reckon_53 rfl rfl ?_
        refine r_iald dX10_reckon_54 (by assumption) rfl (by omega) ?_
        refine r_aload_n dX10_reckon_55 rfl ?_
        simp (disch := omega) only [sI_at, sI_ne, sI_nj, sI_L, sL_at, sL_ne, sL_nj, sL_I]
        refine r_getR dX10_reckon_56 fl_X10_19 rfl (by assumption) (by assumption) ?_
        refine r_iload_n dX10_reckon_59 rfl ?_
        refine r_iald dX10_reckon_60 (by assumption) rfl (by omega) ?_
        simp (disch := omega) only [sI_at, sI_ne, sI_nj, sI_L, sL_at, sL_ne, sL_nj, sL_I]
        rw [ek (a + 3) (by omega) (by omega) (by omega), vtk.2.1]
        refine r_aload_n dX10_reckon_61 rfl ?_
        refine r_getR dX10_reckon_62 fl_X10_15 rfl (by assumption) (by assumption) ?_
        refine r_iload_n dX10_reckon_65 rfl ?_
        refine r_iald dX10_reckon_66 (by assumption) rfl (by omega) ?_
        simp (disch := omega) only [sI_at, sI_ne, sI_nj, sI_L, sL_at, sL_ne, sL_nj, sL_I]
        rw [ek (a + 2) (by omega) (by omega) (by omega), vtk.1]
        refine r_imul dX10_reckon_67 ?_
        refine r_iadd dX10_reckon_68 ?_
        refine r_iast dX10_reckon_69 (by assumption) rfl (by omega) ?_
        refine r_iinc dX10_reckon_70 rfl rfl ?_
        refine r_goto (tgt := 25) dX10_reckon_73 rfl ?_
        have h1 := hw1.1
        have h2 := hw1.2.1
        rw [sumF] at h1 h2
        refine ih q (k + 1) _ _ _ (by omega) (by omega) (by omega) ⟨hk.1, fun q a1 a2 a3 => (setI_ne a2).trans ((setI_ne a1).trans (hk.2 q a1 a2 a3))⟩ ⟨?_, ?_, ?_⟩
        · simp (disch := omega) only [sI_at, sI_ne, sI_nj, sI_L, sL_at, sL_ne, sL_nj, sL_I]
          omega
        · simp (disch := omega) only [sI_at, sI_ne, sI_nj, sI_L, sL_at, sL_ne, sL_nj, sL_I]
          omega
        · simp (disch := omega) only [sI_at, sI_ne, sI_nj, sI_L, sL_at, sL_ne, sL_nj, sL_I]
          exact hw1.2.2
  refine AMet.of (by decide) rfl (by decide) rfl ?_
  refine r_aload_n dX10_reckon_0 rfl ?_
  refine r_getR dX10_reckon_1 fl_X10_31 rfl (by assumption) (by assumption) ?_
  refine r_iconst dX10_reckon_4 ?_
  refine r_iload_n dX10_reckon_5 rfl ?_
  refine r_iast dX10_reckon_6 (by assumption) rfl (by omega) ?_
  refine r_aload_n dX10_reckon_7 rfl ?_
  refine r_getR dX10_reckon_8 fl_X10_34 rfl (by assumption) (by assumption) ?_
  refine r_iconst dX10_reckon_11 ?_
  refine r_iload_n dX10_reckon_12 rfl ?_
  refine r_iload_n dX10_reckon_13 rfl ?_
  refine r_imul dX10_reckon_14 ?_
  refine r_iast dX10_reckon_15 (by assumption) rfl (by omega) ?_
  refine r_aload_n dX10_reckon_16 rfl ?_
  refine r_getR dX10_reckon_17 fl_X10_37 rfl (by assumption) (by assumption) ?_
  refine r_iconst dX10_reckon_20 ?_
  refine r_iconst dX10_reckon_21 ?_
  refine r_iast dX10_reckon_22 (by assumption) rfl (by omega) ?_
  refine r_iconst dX10_reckon_23 ?_
  refine r_istore_n dX10_reckon_24 rfl ?_
  refine l1 _ (ρ 8).toNat 0 _ _ _ (Nat.lt_succ_self _) (by omega) (by omega) ⟨rfl, fun q a1 a2 a3 => (setI_ne a3).trans ((setI_ne a2).trans (setI_ne a1))⟩ ⟨?_, ?_, ?_⟩
  · simp (disch := omega) only [sI_at, sI_ne, sI_nj, sI_L, sL_at, sL_ne, sL_nj, sL_I]
    rw [hw]
    unfold baseW
    rw [Int.toNat_zero, sumF, Int.add_zero]
  · simp (disch := omega) only [sI_at, sI_ne, sI_nj, sI_L, sL_at, sL_ne, sL_nj, sL_I]
    rw [hw, hm]
    unfold baseM
    rw [Int.toNat_zero, sumF, Int.add_zero]
  · simp (disch := omega) only [sI_at, sI_ne, sI_nj, sI_L, sL_at, sL_ne, sL_nj, sL_I]
def adN (μ : Mem) (p : Nat) (x l : Int) : Mem := setI (setI (setI μ (p + 1) (μ.1 p 4) x) (p + 2) (μ.1 p 4) l) p 4 (μ.1 p 4 + 1)
theorem d_addBin {sh : Sh} {μ : Mem} {p : Nat} (hP : IsPlane sh μ.2.2 p) {x l : Int} (h4 : 0 ≤ μ.1 p 4 ∧ μ.1 p 4 < 2)  : FMet yX5_addBin gX5_addBin sh [vR p, vI x, vI l] μ none (adN μ p x l) := by
  obtain ⟨i0, i5, i6, i7, i8, j1, j2, hIF, hIV⟩ := id hP
  refine AMet.of (by decide) rfl (by decide) rfl ?_
  refine r_aload_n dX5_addBin_0 rfl ?_
  refine r_getI dX5_addBin_1 fl_X5_52 rfl (by assumption) ?_
  (try simp (disch := omega) only [sI_at, sI_ne, sI_nj, sI_L, sL_at, sL_ne, sL_nj, sL_I])
  refine r_iconst dX5_addBin_4 ?_
  refine q_icmp_ge (tgt := 38) dX5_addBin_5 rfl (by omega) (by omega) (fun c5 => ?_) (fun c5 => ?_)
  · exact absurd c5 (by omega)
  · refine r_aload_n dX5_addBin_8 rfl ?_
    refine r_getR dX5_addBin_9 fl_X5_9 rfl (by assumption) (by assumption) ?_
    refine r_aload_n dX5_addBin_12 rfl ?_
    refine r_getI dX5_addBin_13 fl_X5_52 rfl (by assumption) ?_
    (try simp (disch := omega) only [sI_at, sI_ne, sI_nj, sI_L, sL_at, sL_ne, sL_nj, sL_I])
    refine r_iload_n dX5_addBin_16 rfl ?_
    refine r_iast dX5_addBin_17 (by assumption) rfl (by omega) ?_
    refine r_aload_n dX5_addBin_18 rfl ?_
    refine r_getR dX5_addBin_19 fl_X5_15 rfl (by assumption) (by assumption) ?_
    refine r_aload_n dX5_addBin_22 rfl ?_
    refine r_getI dX5_addBin_23 fl_X5_52 rfl (by assumption) ?_
    (try simp (disch := omega) only [sI_at, sI_ne, sI_nj, sI_L, sL_at, sL_ne, sL_nj, sL_I])
    refine r_iload_n dX5_addBin_26 rfl ?_
    refine r_iast dX5_addBin_27 (by assumption) rfl (by omega) ?_
    refine r_aload_n dX5_addBin_28 rfl ?_
    refine r_dup dX5_addBin_29 rfl ?_
    refine r_getI dX5_addBin_30 fl_X5_52 rfl (by assumption) ?_
    (try simp (disch := omega) only [sI_at, sI_ne, sI_nj, sI_L, sL_at, sL_ne, sL_nj, sL_I])
    refine r_iconst dX5_addBin_33 ?_
    refine r_iadd dX5_addBin_34 ?_
    refine r_putI dX5_addBin_35 fl_X5_52 (by assumption) ?_
    refine r_return dX5_addBin_38 rfl rfl rfl ?_
    exact ⟨rfl, rfl, rfl⟩
def clrP0 (μ : Mem) (p : Nat) : Mem := setI (setI (setI (setI (setI (setI (setI (setI (setI μ p 0 100) p 1 50) p 2 40) p 3 60) p 4 0) (p + 1) 0 0) (p + 2) 0 0) (p + 1) 1 0) (p + 2) 1 0
def clrP (μ : Mem) (p : Nat) : Mem := setI (setI (setI (setI (setI (setI (clrP0 μ p) (p + 3) 0 0) (p + 3) 4 0) (p + 3) 9 0) (p + 13) 0 0) (p + 13) 5 0) (p + 13) 8 0
theorem d_clearP {sh : Sh} {μ : Mem} {p : Nat} (hP : IsPlane sh μ.2.2 p)  : FMet yX5_clear gX5_clear sh [vR p] μ none (clrP μ p) := by
  obtain ⟨i0, i5, i6, i7, i8, j1, j2, hIF, hIV⟩ := id hP
  obtain ⟨if0, -⟩ := id hIF
  obtain ⟨iv0, -⟩ := id hIV
  refine AMet.of (by decide) rfl (by decide) rfl ?_
  refine r_aload_n dX5_clear_0 rfl ?_
  refine r_bipush dX5_clear_1 (by decide) ?_
  refine r_putI dX5_clear_3 fl_X5_35 (by assumption) ?_
  refine r_aload_n dX5_clear_6 rfl ?_
  refine r_bipush dX5_clear_7 (by decide) ?_
  refine r_putI dX5_clear_9 fl_X5_39 (by assumption) ?_
  refine r_aload_n dX5_clear_12 rfl ?_
  refine r_bipush dX5_clear_13 (by decide) ?_
  refine r_putI dX5_clear_15 fl_X5_46 (by assumption) ?_
  refine r_aload_n dX5_clear_18 rfl ?_
  refine r_bipush dX5_clear_19 (by decide) ?_
  refine r_putI dX5_clear_21 fl_X5_49 (by assumption) ?_
  refine r_aload_n dX5_clear_24 rfl ?_
  refine r_iconst dX5_clear_25 ?_
  refine r_putI dX5_clear_26 fl_X5_52 (by assumption) ?_
  refine r_iconst dX5_clear_29 ?_
  refine r_istore_n dX5_clear_30 rfl ?_
  refine r_iload_n dX5_clear_31 rfl ?_
  refine r_iconst dX5_clear_32 ?_
  refine q_icmp_ge (tgt := 56) dX5_clear_33 rfl (by omega) (by omega) (fun c33 => ?_) (fun c33 => ?_)
  · exact absurd c33 (by decide)
  · refine r_aload_n dX5_clear_36 rfl ?_
    refine r_getR dX5_clear_37 fl_X5_9 rfl (by assumption) (by assumption) ?_
    refine r_iload_n dX5_clear_40 rfl ?_
    refine r_iconst dX5_clear_41 ?_
    refine r_iast dX5_clear_42 (by assumption) rfl (by omega) ?_
    refine r_aload_n dX5_clear_43 rfl ?_
    refine r_getR dX5_clear_44 fl_X5_15 rfl (by assumption) (by assumption) ?_
    refine r_iload_n dX5_clear_47 rfl ?_
    refine r_iconst dX5_clear_48 ?_
    refine r_iast dX5_clear_49 (by assumption) rfl (by omega) ?_
    refine r_iinc dX5_clear_50 rfl rfl ?_
    refine r_goto (tgt := 31) dX5_clear_53 rfl ?_
    refine r_iload_n dX5_clear_31 rfl ?_
    refine r_iconst dX5_clear_32 ?_
    refine q_icmp_ge (tgt := 56) dX5_clear_33 rfl (by omega) (by omega) (fun c33 => ?_) (fun c33 => ?_)
    · exact absurd c33 (by decide)
    · refine r_aload_n dX5_clear_36 rfl ?_
      refine r_getR dX5_clear_37 fl_X5_9 rfl (by assumption) (by assumption) ?_
      refine r_iload_n dX5_clear_40 rfl ?_
      refine r_iconst dX5_clear_41 ?_
      refine r_iast dX5_clear_42 (by assumption) rfl (by omega) ?_
      refine r_aload_n dX5_clear_43 rfl ?_
      refine r_getR dX5_clear_44 fl_X5_15 rfl (by assumption) (by assumption) ?_
      refine r_iload_n dX5_clear_47 rfl ?_
      refine r_iconst dX5_clear_48 ?_
      refine r_iast dX5_clear_49 (by assumption) rfl (by omega) ?_
      refine r_iinc dX5_clear_50 rfl rfl ?_
      refine r_goto (tgt := 31) dX5_clear_53 rfl ?_
      refine r_iload_n dX5_clear_31 rfl ?_
      refine r_iconst dX5_clear_32 ?_
      refine q_icmp_ge (tgt := 56) dX5_clear_33 rfl (by omega) (by omega) (fun c33 => ?_) (fun c33 => ?_)
      · refine r_aload_n dX5_clear_56 rfl ?_
        refine r_getR dX5_clear_57 fl_X5_21 rfl (by assumption) (by assumption) ?_
        refine r_cV0F0 dX5_clear_60 ml_X5_55 yl_X1_clear ⟨rfl, rfl⟩ (by assumption) ⟨_, rfl⟩ rfl rfl rfl rfl (d_clearF (show IsFloor sh _ (p + 3) from hIF)) ?_
        refine r_aload_n dX5_clear_63 rfl ?_
        refine r_getR dX5_clear_64 fl_X5_28 rfl (by assumption) (by assumption) ?_
        refine r_cV0F0 dX5_clear_67 ml_X5_56 yl_X10_clear ⟨rfl, rfl⟩ (by assumption) ⟨_, rfl⟩ rfl rfl rfl rfl (d_clearV (show IsVoyage sh _ (p + 13) from hIV)) ?_
        refine r_return dX5_clear_70 rfl rfl rfl ?_
        exact ⟨rfl, rfl, rfl⟩
      · exact absurd c33 (by decide)

