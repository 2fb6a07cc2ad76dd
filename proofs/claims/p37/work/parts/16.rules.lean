/-! 16.rules: taken from whole (wip/p37/port.py) -/
variable {n_ : Sh}
/-! 16.rules: the class's questions: floor, cargo, rules, over a row (wip/whole/src/16_rules.py) -/
theorem c_hasR {sh : Sh} {μ : Mem} {c : Nat} {ρ : Row} {k : Int} (hC : RelC sh μ c ρ) (hn : 0 ≤ ρ 11 ∧ ρ 11 ≤ 5) (hk : -2147483648 ≤ k ∧ k < 2147483648) : FMet yX0_has gX0_has sh [vR c, vI k] μ (some (vI (b2i (decide (0 ≤ k ∧ k < ρ 11))))) μ := by
  have h := c_has hC.1 hk (by rw [hC.2.1]; exact hn)
  rw [hC.2.1] at h
  exact h

theorem c_lyingOnR {sh : Sh} {μ : Mem} {c : Nat} {ρ : Row} {s : Int} (hC : RelC sh μ c ρ) (hw : WL ρ) (hs : 0 ≤ s ∧ s < 2147483648) : FMet yX0_lyingOn gX0_lyingOn sh [vR c, vI s] μ (some (vI (onF ρ s))) μ := by
  obtain ⟨hIC, e0, e5, e51, e52, eC⟩ := id hC
  have h := c_lyingOn (s := s) hIC (by omega) (by rw [e0]; exact hw.1) (fun k h1 h2 => by rw [(eC k h1 (by omega)).2.2.1]; have := hw.2.2 k h1 (by omega); omega)
  rw [e0, fnd_congr (q := fun k => decide (ρ (93 + k) = s)) _ _ (fun j h1 h2 => by rw [(eC j h1 (by omega)).2.2.1]; simp only [decide_eq_decide]; omega)] at h
  exact h

theorem c_weightOnR {sh : Sh} {μ : Mem} {c : Nat} {ρ : Row} {s : Int} (hC : RelC sh μ c ρ) (hw : WL ρ) (hs : 0 ≤ s ∧ s < 2147483648) : FMet yX0_weightOn gX0_weightOn sh [vR c, vI s] μ (some (vI (wOnF ρ s))) μ := by
  obtain ⟨hIC, e0, e5, e51, e52, eC⟩ := id hC
  have hr := onF_rng (ρ := ρ) hw.1.1 s
  have h := c_weightOn (s := s) hIC (by omega) (by rw [e0]; exact hw.1) (fun k h1 h2 => by rw [(eC k h1 (by omega)).2.2.1]; have := hw.2.2 k h1 (by omega); omega) (j := onF ρ s) (by rw [e0]; exact fnd_congr _ _ (fun j h1 h2 => by rw [(eC j h1 (by omega)).2.2.1]; simp only [decide_eq_decide]; omega)) (by rw [e0]; have := hw.1; omega)
  have e : (if onF ρ s < 0 then 0 else μ.1 (c + 2) (onF ρ s)) = wOnF ρ s := by
    unfold wOnF
    split
    · rfl
    · exact (eC _ (by omega) (by omega)).1
  rw [e] at h
  exact h

theorem c_inBinsR {sh : Sh} {μ : Mem} {c : Nat} {ρ : Row} (hC : RelC sh μ c ρ)  : FMet yX0_inBins gX0_inBins sh [vR c] μ (some (vI (ρ 51 + ρ 52))) μ := by
  have h := c_inBins hC.1
  rw [hC.2.2.2.1, hC.2.2.2.2.1] at h
  exact h

theorem c_hasSpot {sh : Sh} {μ : Mem} {a : Nat} {ρ : Row} {s : Int} (hF : RelF sh μ a ρ) (hw : WFn ρ) (hs : -2147483648 ≤ s ∧ s < 2147483648) : FMet yX1_hasSpot gX1_hasSpot sh [vR a, vI s] μ (some (vI (b2i (decide (0 ≤ s ∧ s < ρ 5))))) μ := by
  unfold WFn at hw
  obtain ⟨hIF, kf0, kh, kf4, ks, kf9, kj⟩ := id hF
  obtain ⟨u0, u1, u2, u3, u5, u6, u7, u8, u10, u11, y1, y2, y3, y4, y5, y6, y7, y8, y9⟩ := id hIF
  refine AMet.of (by decide) rfl (by decide) rfl ?_
  refine r_iload_n dX1_hasSpot_0 rfl ?_
  refine q_if_lt (tgt := 16) dX1_hasSpot_1 rfl (by omega) (fun c1 => ?_) (fun c1 => ?_)
  · refine r_iconst dX1_hasSpot_16 ?_
    refine r_zreturn dX1_hasSpot_17 (by first | exact Or.inl rfl | exact Or.inr rfl | exact b2i_01 _ | omega) rfl rfl rfl ?_
    refine ⟨?_, rfl, rfl⟩; congr 2; simp only [b2i, decide_eq_true_eq]; split <;> omega
  · refine r_iload_n dX1_hasSpot_4 rfl ?_
    refine r_aload_n dX1_hasSpot_5 rfl ?_
    refine r_getI dX1_hasSpot_6 fl_X1_45 rfl (by assumption) ?_
    refine q_icmp_ge (tgt := 16) dX1_hasSpot_9 rfl (by omega) (by omega) (fun c9 => ?_) (fun c9 => ?_)
    · refine r_iconst dX1_hasSpot_16 ?_
      refine r_zreturn dX1_hasSpot_17 (by first | exact Or.inl rfl | exact Or.inr rfl | exact b2i_01 _ | omega) rfl rfl rfl ?_
      refine ⟨?_, rfl, rfl⟩; congr 2; simp only [b2i, decide_eq_true_eq]; split <;> omega
    · refine r_iconst dX1_hasSpot_12 ?_
      refine r_goto (tgt := 17) dX1_hasSpot_13 rfl ?_
      refine r_zreturn dX1_hasSpot_17 (by first | exact Or.inl rfl | exact Or.inr rfl | exact b2i_01 _ | omega) rfl rfl rfl ?_
      refine ⟨?_, rfl, rfl⟩; congr 2; simp only [b2i, decide_eq_true_eq]; split <;> omega
theorem c_hasHold {sh : Sh} {μ : Mem} {a : Nat} {ρ : Row} {s : Int} (hF : RelF sh μ a ρ) (hw : WFn ρ) (hs : -2147483648 ≤ s ∧ s < 2147483648) : FMet yX1_hasHold gX1_hasHold sh [vR a, vI s] μ (some (vI (b2i (decide (0 ≤ s ∧ s < ρ 4))))) μ := by
  unfold WFn at hw
  obtain ⟨hIF, kf0, kh, kf4, ks, kf9, kj⟩ := id hF
  obtain ⟨u0, u1, u2, u3, u5, u6, u7, u8, u10, u11, y1, y2, y3, y4, y5, y6, y7, y8, y9⟩ := id hIF
  refine AMet.of (by decide) rfl (by decide) rfl ?_
  refine r_iload_n dX1_hasHold_0 rfl ?_
  refine q_if_lt (tgt := 16) dX1_hasHold_1 rfl (by omega) (fun c1 => ?_) (fun c1 => ?_)
  · refine r_iconst dX1_hasHold_16 ?_
    refine r_zreturn dX1_hasHold_17 (by first | exact Or.inl rfl | exact Or.inr rfl | exact b2i_01 _ | omega) rfl rfl rfl ?_
    refine ⟨?_, rfl, rfl⟩; congr 2; simp only [b2i, decide_eq_true_eq]; split <;> omega
  · refine r_iload_n dX1_hasHold_4 rfl ?_
    refine r_aload_n dX1_hasHold_5 rfl ?_
    refine r_getI dX1_hasHold_6 fl_X1_41 rfl (by assumption) ?_
    refine q_icmp_ge (tgt := 16) dX1_hasHold_9 rfl (by omega) (by omega) (fun c9 => ?_) (fun c9 => ?_)
    · refine r_iconst dX1_hasHold_16 ?_
      refine r_zreturn dX1_hasHold_17 (by first | exact Or.inl rfl | exact Or.inr rfl | exact b2i_01 _ | omega) rfl rfl rfl ?_
      refine ⟨?_, rfl, rfl⟩; congr 2; simp only [b2i, decide_eq_true_eq]; split <;> omega
    · refine r_iconst dX1_hasHold_12 ?_
      refine r_goto (tgt := 17) dX1_hasHold_13 rfl ?_
      refine r_zreturn dX1_hasHold_17 (by first | exact Or.inl rfl | exact Or.inr rfl | exact b2i_01 _ | omega) rfl rfl rfl ?_
      refine ⟨?_, rfl, rfl⟩; congr 2; simp only [b2i, decide_eq_true_eq]; split <;> omega
theorem c_hasTank {sh : Sh} {μ : Mem} {a : Nat} {ρ : Row} {s : Int} (hV : RelV sh μ a ρ) (hw : WFn ρ) (hs : -2147483648 ≤ s ∧ s < 2147483648) : FMet yX10_hasTank gX10_hasTank sh [vR a, vI s] μ (some (vI (b2i (decide (0 ≤ s ∧ s < ρ 8))))) μ := by
  unfold WFn at hw
  obtain ⟨hIV, v0, vt, v5, v8, vi⟩ := id hV
  obtain ⟨t0, t1, t2, t3, t4, t6, t7, t9, t10, t11, x1, x2, x3, x4, x5, x6, x7, x8, x9⟩ := id hIV
  refine AMet.of (by decide) rfl (by decide) rfl ?_
  refine r_iload_n dX10_hasTank_0 rfl ?_
  refine q_if_lt (tgt := 16) dX10_hasTank_1 rfl (by omega) (fun c1 => ?_) (fun c1 => ?_)
  · refine r_iconst dX10_hasTank_16 ?_
    refine r_zreturn dX10_hasTank_17 (by first | exact Or.inl rfl | exact Or.inr rfl | exact b2i_01 _ | omega) rfl rfl rfl ?_
    refine ⟨?_, rfl, rfl⟩; congr 2; simp only [b2i, decide_eq_true_eq]; split <;> omega
  · refine r_iload_n dX10_hasTank_4 rfl ?_
    refine r_aload_n dX10_hasTank_5 rfl ?_
    refine r_getI dX10_hasTank_6 fl_X10_40 rfl (by assumption) ?_
    refine q_icmp_ge (tgt := 16) dX10_hasTank_9 rfl (by omega) (by omega) (fun c9 => ?_) (fun c9 => ?_)
    · refine r_iconst dX10_hasTank_16 ?_
      refine r_zreturn dX10_hasTank_17 (by first | exact Or.inl rfl | exact Or.inr rfl | exact b2i_01 _ | omega) rfl rfl rfl ?_
      refine ⟨?_, rfl, rfl⟩; congr 2; simp only [b2i, decide_eq_true_eq]; split <;> omega
    · refine r_iconst dX10_hasTank_12 ?_
      refine r_goto (tgt := 17) dX10_hasTank_13 rfl ?_
      refine r_zreturn dX10_hasTank_17 (by first | exact Or.inl rfl | exact Or.inr rfl | exact b2i_01 _ | omega) rfl rfl rfl ?_
      refine ⟨?_, rfl, rfl⟩; congr 2; simp only [b2i, decide_eq_true_eq]; split <;> omega
theorem c_hasBin {sh : Sh} {μ : Mem} {p : Nat} {ρ : Row} {s : Int} (hP : RelP sh μ p ρ) (hw : WFn ρ) (hs : -2147483648 ≤ s ∧ s < 2147483648) : FMet yX5_hasBin gX5_hasBin sh [vR p, vI s] μ (some (vI (b2i (decide (0 ≤ s ∧ s < ρ 7))))) μ := by
  unfold WFn at hw
  obtain ⟨hIP, p0, p1, p2, p3, p4, pb, hF, hV⟩ := id hP
  obtain ⟨i0, i5, i6, i7, i8, j1, j2, hIF0, hIV0⟩ := id hIP
  refine AMet.of (by decide) rfl (by decide) rfl ?_
  refine r_iload_n dX5_hasBin_0 rfl ?_
  refine q_if_lt (tgt := 16) dX5_hasBin_1 rfl (by omega) (fun c1 => ?_) (fun c1 => ?_)
  · refine r_iconst dX5_hasBin_16 ?_
    refine r_zreturn dX5_hasBin_17 (by first | exact Or.inl rfl | exact Or.inr rfl | exact b2i_01 _ | omega) rfl rfl rfl ?_
    refine ⟨?_, rfl, rfl⟩; congr 2; simp only [b2i, decide_eq_true_eq]; split <;> omega
  · refine r_iload_n dX5_hasBin_4 rfl ?_
    refine r_aload_n dX5_hasBin_5 rfl ?_
    refine r_getI dX5_hasBin_6 fl_X5_52 rfl (by assumption) ?_
    refine q_icmp_ge (tgt := 16) dX5_hasBin_9 rfl (by omega) (by omega) (fun c9 => ?_) (fun c9 => ?_)
    · refine r_iconst dX5_hasBin_16 ?_
      refine r_zreturn dX5_hasBin_17 (by first | exact Or.inl rfl | exact Or.inr rfl | exact b2i_01 _ | omega) rfl rfl rfl ?_
      refine ⟨?_, rfl, rfl⟩; congr 2; simp only [b2i, decide_eq_true_eq]; split <;> omega
    · refine r_iconst dX5_hasBin_12 ?_
      refine r_goto (tgt := 17) dX5_hasBin_13 rfl ?_
      refine r_zreturn dX5_hasBin_17 (by first | exact Or.inl rfl | exact Or.inr rfl | exact b2i_01 _ | omega) rfl rfl rfl ?_
      refine ⟨?_, rfl, rfl⟩; congr 2; simp only [b2i, decide_eq_true_eq]; split <;> omega
theorem c_isOnWay {sh : Sh} {μ : Mem} {a : Nat} {ρ : Row} {s f : Int} (hF : RelF sh μ a ρ) (hw : WFn ρ) (hs : -2147483648 ≤ s ∧ s < 2147483648) (hf : -2147483648 ≤ f ∧ f < 2147483648) : FMet yX1_isOnWay gX1_isOnWay sh [vR a, vI s, vI f] μ (some (vI (b2i (decide ((0 ≤ s ∧ s < ρ 5) ∧ (0 ≤ f ∧ f < ρ 5) ∧ bit (wayF ρ f) s = true))))) μ := by
  have hn := hw
  unfold WFn at hn
  obtain ⟨hIF, kf0, kh, kf4, ks, kf9, kj⟩ := id hF
  obtain ⟨u0, u1, u2, u3, u5, u6, u7, u8, u10, u11, y1, y2, y3, y4, y5, y6, y7, y8, y9⟩ := id hIF
  refine AMet.of (by decide) rfl (by decide) rfl ?_
  refine r_aload_n dX1_isOnWay_0 rfl ?_
  refine r_iload_n dX1_isOnWay_1 rfl ?_
  refine r_cV1F1 dX1_isOnWay_2 ml_X1_61 yl_X1_hasSpot ⟨rfl, rfl⟩ (by assumption) ⟨_, rfl⟩ rfl rfl rfl rfl (c_hasSpot hF hw hs) ?_
  refine r_if_eqB (tgt := 34) dX1_isOnWay_5 rfl (fun c5 => ?_) (fun c5 => ?_)
  · have d5 := of_decide_eq_false c5
    refine r_iconst dX1_isOnWay_34 ?_
    refine r_zreturn dX1_isOnWay_35 (by first | exact Or.inl rfl | exact Or.inr rfl | exact b2i_01 _ | omega) rfl rfl rfl ?_
    refine ⟨?_, rfl, rfl⟩
    congr 2
    simp only [b2i, decide_eq_true_eq, bit]
    first | (rw [if_pos ⟨d5, d13, c27⟩]; done) | (rw [if_neg (fun q => c27 q.2.2)]; done) | (rw [if_neg (fun q => d13 q.2.1)]; done) | (rw [if_neg (fun q => d5 q.1)]; done)
  · have d5 := of_decide_eq_true c5
    refine r_aload_n dX1_isOnWay_8 rfl ?_
    refine r_iload_n dX1_isOnWay_9 rfl ?_
    refine r_cV1F1 dX1_isOnWay_10 ml_X1_61 yl_X1_hasSpot ⟨rfl, rfl⟩ (by assumption) ⟨_, rfl⟩ rfl rfl rfl rfl (c_hasSpot hF hw hf) ?_
    refine r_if_eqB (tgt := 34) dX1_isOnWay_13 rfl (fun c13 => ?_) (fun c13 => ?_)
    · have d13 := of_decide_eq_false c13
      refine r_iconst dX1_isOnWay_34 ?_
      refine r_zreturn dX1_isOnWay_35 (by first | exact Or.inl rfl | exact Or.inr rfl | exact b2i_01 _ | omega) rfl rfl rfl ?_
      refine ⟨?_, rfl, rfl⟩
      congr 2
      simp only [b2i, decide_eq_true_eq, bit]
      first | (rw [if_pos ⟨d5, d13, c27⟩]; done) | (rw [if_neg (fun q => c27 q.2.2)]; done) | (rw [if_neg (fun q => d13 q.2.1)]; done) | (rw [if_neg (fun q => d5 q.1)]; done)
    · have d13 := of_decide_eq_true c13
      refine r_aload_n dX1_isOnWay_16 rfl ?_
      refine r_getR dX1_isOnWay_17 fl_X1_32 rfl (by assumption) (by assumption) ?_
      refine r_iload_n dX1_isOnWay_20 rfl ?_
      refine r_iald dX1_isOnWay_21 (by assumption) rfl (by omega) ?_
      rw [(ks f (by omega) (by omega)).2.2.2]
      refine r_iload_n dX1_isOnWay_22 rfl ?_
      refine r_ishr dX1_isOnWay_23 ?_
      refine r_iconst dX1_isOnWay_24 ?_
      refine r_iand dX1_isOnWay_25 ?_
      refine r_iconst dX1_isOnWay_26 ?_
      refine q_icmp_ne (tgt := 34) dX1_isOnWay_27 rfl (iand_rng _ _) (by decide) (fun c27 => ?_) (fun c27 => ?_)
      · refine r_iconst dX1_isOnWay_34 ?_
        refine r_zreturn dX1_isOnWay_35 (by first | exact Or.inl rfl | exact Or.inr rfl | exact b2i_01 _ | omega) rfl rfl rfl ?_
        refine ⟨?_, rfl, rfl⟩
        congr 2
        simp only [b2i, decide_eq_true_eq, bit]
        first | (rw [if_pos ⟨d5, d13, c27⟩]; done) | (rw [if_neg (fun q => c27 q.2.2)]; done) | (rw [if_neg (fun q => d13 q.2.1)]; done) | (rw [if_neg (fun q => d5 q.1)]; done)
      · refine r_iconst dX1_isOnWay_30 ?_
        refine r_goto (tgt := 35) dX1_isOnWay_31 rfl ?_
        refine r_zreturn dX1_isOnWay_35 (by first | exact Or.inl rfl | exact Or.inr rfl | exact b2i_01 _ | omega) rfl rfl rfl ?_
        refine ⟨?_, rfl, rfl⟩
        congr 2
        simp only [b2i, decide_eq_true_eq, bit]
        first | (rw [if_pos ⟨d5, d13, c27⟩]; done) | (rw [if_neg (fun q => c27 q.2.2)]; done) | (rw [if_neg (fun q => d13 q.2.1)]; done) | (rw [if_neg (fun q => d5 q.1)]; done)
theorem c_outPallet {sh : Sh} {μ : Mem} {c : Nat} {ρ : Row} (hC : RelC sh μ c ρ) (hw : WF ρ)  : FMet yX7_outPallet gX7_outPallet sh [vR c] μ (some (vI (atF ρ 1))) μ := by
  obtain ⟨⟨hn, hss, hh, hj, ht, hg⟩, hb, hp, hd⟩ := id hw
  unfold WFn at hn
  have hwl := hw.wl
  obtain ⟨hIC, e0, e5, e51, e52, eC⟩ := id hC
  obtain ⟨h0, h1, h2, h3, h4, h6, s1, s2, s3, s4, s5⟩ := id hIC
  have loop : ∀ (f n : Nat) (k : Int), n < f → 0 ≤ k → k + n = ρ 11 → AW gX7_outPallet sh μ 0 0 2 [some (vR c), some (vI k)] [] (fun r2 sh2 μ2 => r2 = some (vI (fnd (brkF ρ 1) n k)) ∧ sh2 = sh ∧ μ2 = μ) := by
    intro f
    induction f with
    | zero => intro n; intros; omega
    | succ f ih =>
      intro n k hf hk hn2
      refine r_iload_n dX7_outPallet_2 rfl ?_
      refine r_aload_n dX7_outPallet_3 rfl ?_
      refine r_getI dX7_outPallet_4 fl_X7_52 rfl (by assumption) ?_
      refine q_icmp_ge (tgt := 28) dX7_outPallet_7 rfl (by omega) (by omega) (fun c7 => ?_) (fun c7 => ?_)
      · refine r_iconst dX7_outPallet_28 ?_
        refine r_ireturn dX7_outPallet_29 rfl rfl rfl ?_
        obtain rfl | ⟨q, rfl⟩ : n = 0 ∨ ∃ q, n = q + 1 := by cases n <;> simp
        · first | exact ⟨rfl, rfl, rfl⟩ | omega
        · first | omega | (refine ⟨?_, rfl, rfl⟩; rw [fnd, if_pos (by simp only [brkF]; simp; omega)])
      · have q1 := hp k (by omega) (by omega)
        have q2 := eC k (by omega) (by omega)
        refine r_aload_n dX7_outPallet_10 rfl ?_
        refine r_getR dX7_outPallet_11 fl_X7_55 rfl (by assumption) (by assumption) ?_
        refine r_iload_n dX7_outPallet_14 rfl ?_
        refine r_iald dX7_outPallet_15 (by assumption) rfl (by omega) ?_
        refine r_iconst dX7_outPallet_16 ?_
        refine q_icmp_ne (tgt := 22) dX7_outPallet_17 rfl (by omega) (by omega) (fun c17 => ?_) (fun c17 => ?_)
        · refine r_iinc dX7_outPallet_22 rfl rfl ?_
          refine r_goto (tgt := 2) dX7_outPallet_25 rfl ?_
          refine AW.mono (ih (n - 1) (k + 1) (by omega) (by omega) (by omega)) ?_
          obtain ⟨q, rfl⟩ : ∃ q, n = q + 1 := ⟨n - 1, by omega⟩
          rintro r sh2 μ2 ⟨rfl, h⟩
          refine ⟨?_, h⟩
          rw [fnd, if_neg (by simp only [brkF]; simp; omega)]
          rfl
        · refine r_iload_n dX7_outPallet_20 rfl ?_
          refine r_ireturn dX7_outPallet_21 rfl rfl rfl ?_
          obtain rfl | ⟨q, rfl⟩ : n = 0 ∨ ∃ q, n = q + 1 := by cases n <;> simp
          · first | exact ⟨rfl, rfl, rfl⟩ | omega
          · first | omega | (refine ⟨?_, rfl, rfl⟩; rw [fnd, if_pos (by simp only [brkF]; simp; omega)])
  refine AMet.of (by decide) rfl (by decide) rfl ?_
  refine r_iconst dX7_outPallet_0 ?_
  refine r_istore_n dX7_outPallet_1 rfl ?_
  refine AW.mono (loop _ (ρ 11).toNat 0 (Nat.lt_succ_self _) (by omega) (by omega)) ?_
  rintro r sh2 μ2 ⟨rfl, hq⟩
  exact ⟨rfl, hq⟩
theorem c_heavySpot {sh : Sh} {μ : Mem} {c a : Nat} {ρ : Row} (hF : RelF sh μ a ρ) (hC : RelC sh μ c ρ) (hw : WF ρ)  : FMet yX7_heavySpot gX7_heavySpot sh [vR a, vR c] μ (some (vI (atF ρ 2))) μ := by
  obtain ⟨⟨hn, hss, hh, hj, ht, hg⟩, hb, hp, hd⟩ := id hw
  unfold WFn at hn
  have hwl := hw.wl
  obtain ⟨hIC, e0, e5, e51, e52, eC⟩ := id hC
  obtain ⟨h0, h1, h2, h3, h4, h6, s1, s2, s3, s4, s5⟩ := id hIC
  obtain ⟨hIF, kf0, kh, kf4, ks, kf9, kj⟩ := id hF
  obtain ⟨u0, u1, u2, u3, u5, u6, u7, u8, u10, u11, y1, y2, y3, y4, y5, y6, y7, y8, y9⟩ := id hIF
  have loop : ∀ (f n : Nat) (k : Int), n < f → 0 ≤ k → k + n = ρ 5 → AW gX7_heavySpot sh μ 0 0 2 [some (vR a), some (vR c), some (vI k)] [] (fun r2 sh2 μ2 => r2 = some (vI (fnd (brkF ρ 2) n k)) ∧ sh2 = sh ∧ μ2 = μ) := by
    intro f
    induction f with
    | zero => intro n; intros; omega
    | succ f ih =>
      intro n k hf hk hn2
      refine r_iload_n dX7_heavySpot_2 rfl ?_
      refine r_aload_n dX7_heavySpot_3 rfl ?_
      refine r_getI dX7_heavySpot_4 fl_X7_59 rfl (by assumption) ?_
      refine q_icmp_ge (tgt := 32) dX7_heavySpot_7 rfl (by omega) (by omega) (fun c7 => ?_) (fun c7 => ?_)
      · refine r_iconst dX7_heavySpot_32 ?_
        refine r_ireturn dX7_heavySpot_33 rfl rfl rfl ?_
        obtain rfl | ⟨q, rfl⟩ : n = 0 ∨ ∃ q, n = q + 1 := by cases n <;> simp
        · first | exact ⟨rfl, rfl, rfl⟩ | omega
        · first | omega | (refine ⟨?_, rfl, rfl⟩; rw [fnd, if_pos (by simp only [brkF]; simp; omega)])
      · have q1 := hss k (by omega) (by omega)
        have q2 := ks k (by omega) (by omega)
        have q3 := wOnF_rng hw.1.1 hp k
        refine r_aload_n dX7_heavySpot_10 rfl ?_
        refine r_iload_n dX7_heavySpot_11 rfl ?_
        refine r_cV1F1 dX7_heavySpot_12 ml_X7_64 yl_X0_weightOn ⟨rfl, rfl⟩ (by assumption) ⟨_, rfl⟩ rfl rfl rfl rfl (c_weightOnR hC hwl (by omega)) ?_
        refine r_aload_n dX7_heavySpot_15 rfl ?_
        refine r_getR dX7_heavySpot_16 fl_X7_68 rfl (by assumption) (by assumption) ?_
        refine r_iload_n dX7_heavySpot_19 rfl ?_
        refine r_iald dX7_heavySpot_20 (by assumption) rfl (by omega) ?_
        refine q_icmp_le (tgt := 26) dX7_heavySpot_21 rfl (by omega) (by omega) (fun c21 => ?_) (fun c21 => ?_)
        · refine r_iinc dX7_heavySpot_26 rfl rfl ?_
          refine r_goto (tgt := 2) dX7_heavySpot_29 rfl ?_
          refine AW.mono (ih (n - 1) (k + 1) (by omega) (by omega) (by omega)) ?_
          obtain ⟨q, rfl⟩ : ∃ q, n = q + 1 := ⟨n - 1, by omega⟩
          rintro r sh2 μ2 ⟨rfl, h⟩
          refine ⟨?_, h⟩
          rw [fnd, if_neg (by simp only [brkF]; simp; omega)]
          rfl
        · refine r_iload_n dX7_heavySpot_24 rfl ?_
          refine r_ireturn dX7_heavySpot_25 rfl rfl rfl ?_
          obtain rfl | ⟨q, rfl⟩ : n = 0 ∨ ∃ q, n = q + 1 := by cases n <;> simp
          · first | exact ⟨rfl, rfl, rfl⟩ | omega
          · first | omega | (refine ⟨?_, rfl, rfl⟩; rw [fnd, if_pos (by simp only [brkF]; simp; omega)])
  refine AMet.of (by decide) rfl (by decide) rfl ?_
  refine r_iconst dX7_heavySpot_0 ?_
  refine r_istore_n dX7_heavySpot_1 rfl ?_
  refine AW.mono (loop _ (ρ 5).toNat 0 (Nat.lt_succ_self _) (by omega) (by omega)) ?_
  rintro r sh2 μ2 ⟨rfl, hq⟩
  exact ⟨rfl, hq⟩
theorem c_heavyJoint {sh : Sh} {μ : Mem} {c a : Nat} {ρ : Row} (hF : RelF sh μ a ρ) (hC : RelC sh μ c ρ) (hw : WF ρ)  : FMet yX7_heavyJoint gX7_heavyJoint sh [vR a, vR c] μ (some (vI (atF ρ 3))) μ := by
  obtain ⟨⟨hn, hss, hh, hj, ht, hg⟩, hb, hp, hd⟩ := id hw
  unfold WFn at hn
  have hwl := hw.wl
  obtain ⟨hIC, e0, e5, e51, e52, eC⟩ := id hC
  obtain ⟨h0, h1, h2, h3, h4, h6, s1, s2, s3, s4, s5⟩ := id hIC
  obtain ⟨hIF, kf0, kh, kf4, ks, kf9, kj⟩ := id hF
  obtain ⟨u0, u1, u2, u3, u5, u6, u7, u8, u10, u11, y1, y2, y3, y4, y5, y6, y7, y8, y9⟩ := id hIF
  have loop : ∀ (f n : Nat) (k : Int) (o3 : Option AV), n < f → 0 ≤ k → k + n = ρ 6 → AW gX7_heavyJoint sh μ 0 0 2 [some (vR a), some (vR c), some (vI k), o3] [] (fun r2 sh2 μ2 => r2 = some (vI (fnd (brkF ρ 3) n k)) ∧ sh2 = sh ∧ μ2 = μ) := by
    intro f
    induction f with
    | zero => intro n; intros; omega
    | succ f ih =>
      intro n k o3 hf hk hn2
      refine r_iload_n dX7_heavyJoint_2 rfl ?_
      refine r_aload_n dX7_heavyJoint_3 rfl ?_
      refine r_getI dX7_heavyJoint_4 fl_X7_71 rfl (by assumption) ?_
      refine q_icmp_ge (tgt := 47) dX7_heavyJoint_7 rfl (by omega) (by omega) (fun c7 => ?_) (fun c7 => ?_)
      · refine r_iconst dX7_heavyJoint_47 ?_
        refine r_ireturn dX7_heavyJoint_48 rfl rfl rfl ?_
        obtain rfl | ⟨q, rfl⟩ : n = 0 ∨ ∃ q, n = q + 1 := by cases n <;> simp
        · first | exact ⟨rfl, rfl, rfl⟩ | omega
        · first | omega | (refine ⟨?_, rfl, rfl⟩; rw [fnd, if_pos (by simp only [brkF]; simp; omega)])
      · have q1 := hj k (by omega) (by omega)
        have q2 := kj k (by omega) (by omega)
        have q3 := wOnF_rng hw.1.1 hp (ρ (37 + k))
        have q4 := wOnF_rng hw.1.1 hp (ρ (37 + k) + 1)
        refine r_aload_n dX7_heavyJoint_10 rfl ?_
        refine r_getR dX7_heavyJoint_11 fl_X7_74 rfl (by assumption) (by assumption) ?_
        refine r_iload_n dX7_heavyJoint_14 rfl ?_
        refine r_iald dX7_heavyJoint_15 (by assumption) rfl (by omega) ?_
        rw [q2.1]
        refine r_istore_n dX7_heavyJoint_16 rfl ?_
        refine r_aload_n dX7_heavyJoint_17 rfl ?_
        refine r_iload_n dX7_heavyJoint_18 rfl ?_
        refine r_cV1F1 dX7_heavyJoint_19 ml_X7_64 yl_X0_weightOn ⟨rfl, rfl⟩ (by assumption) ⟨_, rfl⟩ rfl rfl rfl rfl (c_weightOnR hC hwl (by omega)) ?_
        refine r_aload_n dX7_heavyJoint_22 rfl ?_
        refine r_iload_n dX7_heavyJoint_23 rfl ?_
        refine r_iconst dX7_heavyJoint_24 ?_
        refine r_isub dX7_heavyJoint_25 ?_
        rw [show ρ (37 + k) + 1 - 1 = ρ (37 + k) by omega]
        refine r_cV1F1 dX7_heavyJoint_26 ml_X7_64 yl_X0_weightOn ⟨rfl, rfl⟩ (by assumption) ⟨_, rfl⟩ rfl rfl rfl rfl (c_weightOnR hC hwl (by omega)) ?_
        refine r_iadd dX7_heavyJoint_29 ?_
        refine r_aload_n dX7_heavyJoint_30 rfl ?_
        refine r_getR dX7_heavyJoint_31 fl_X7_77 rfl (by assumption) (by assumption) ?_
        refine r_iload_n dX7_heavyJoint_34 rfl ?_
        refine r_iald dX7_heavyJoint_35 (by assumption) rfl (by omega) ?_
        refine q_icmp_le (tgt := 41) dX7_heavyJoint_36 rfl (by omega) (by omega) (fun c36 => ?_) (fun c36 => ?_)
        · refine r_iinc dX7_heavyJoint_41 rfl rfl ?_
          refine r_goto (tgt := 2) dX7_heavyJoint_44 rfl ?_
          refine AW.mono (ih (n - 1) (k + 1) _ (by omega) (by omega) (by omega)) ?_
          obtain ⟨q, rfl⟩ : ∃ q, n = q + 1 := ⟨n - 1, by omega⟩
          rintro r sh2 μ2 ⟨rfl, h⟩
          refine ⟨?_, h⟩
          rw [fnd, if_neg (by simp only [brkF]; simp; omega)]
          rfl
        · refine r_iload_n dX7_heavyJoint_39 rfl ?_
          refine r_ireturn dX7_heavyJoint_40 rfl rfl rfl ?_
          obtain rfl | ⟨q, rfl⟩ : n = 0 ∨ ∃ q, n = q + 1 := by cases n <;> simp
          · first | exact ⟨rfl, rfl, rfl⟩ | omega
          · first | omega | (refine ⟨?_, rfl, rfl⟩; rw [fnd, if_pos (by simp only [brkF]; simp; omega)])
  refine AMet.of (by decide) rfl (by decide) rfl ?_
  refine r_iconst dX7_heavyJoint_0 ?_
  refine r_istore_n dX7_heavyJoint_1 rfl ?_
  refine AW.mono (loop _ (ρ 6).toNat 0 none (Nat.lt_succ_self _) (by omega) (by omega)) ?_
  rintro r sh2 μ2 ⟨rfl, hq⟩
  exact ⟨rfl, hq⟩
theorem c_loadOfHold {sh : Sh} {μ : Mem} {c a : Nat} {ρ : Row} {h : Int} (hF : RelF sh μ a ρ) (hC : RelC sh μ c ρ) (hw : WF ρ) (hh0 : -2147483648 ≤ h ∧ h < 2147483648) : FMet yX7_loadOfHold gX7_loadOfHold sh [vR a, vR c, vI h] μ (some (vI (inHoldF ρ h))) μ := by
  obtain ⟨⟨hn, hss, hh, hj, ht, hg⟩, hb, hp, hd⟩ := id hw
  unfold WFn at hn
  have hwl := hw.wl
  obtain ⟨hIC, e0, e5, e51, e52, eC⟩ := id hC
  obtain ⟨h0, h1, h2, h3, h4, h6, s1, s2, s3, s4, s5⟩ := id hIC
  obtain ⟨hIF, kf0, kh, kf4, ks, kf9, kj⟩ := id hF
  obtain ⟨u0, u1, u2, u3, u5, u6, u7, u8, u10, u11, y1, y2, y3, y4, y5, y6, y7, y8, y9⟩ := id hIF
  have loop : ∀ (f n : Nat) (k : Int) (b : Int) (o5 : Option AV), n < f → 0 ≤ k → k + n = ρ 11 → AW gX7_loadOfHold sh μ 0 0 5 [some (vR a), some (vR c), some (vI h), some (vI b), some (vI k), o5] [] (fun r2 sh2 μ2 => r2 = some (vI (b + sumF (fun j => if (0 ≤ ρ (93 + j) ∧ ρ (93 + j) < ρ 5) ∧ ρ (19 + ρ (93 + j)) = h then ρ (83 + j) else 0) n k)) ∧ sh2 = sh ∧ μ2 = μ) := by
    intro f
    induction f with
    | zero => intro n; intros; omega
    | succ f ih =>
      intro n k b o5 hf hk hn2
      refine r_iload dX7_loadOfHold_5 rfl ?_
      refine r_aload_n dX7_loadOfHold_7 rfl ?_
      refine r_getI dX7_loadOfHold_8 fl_X7_52 rfl (by assumption) ?_
      refine q_icmp_ge (tgt := 59) dX7_loadOfHold_11 rfl (by omega) (by omega) (fun c11 => ?_) (fun c11 => ?_)
      · refine r_iload_n dX7_loadOfHold_59 rfl ?_
        refine r_ireturn dX7_loadOfHold_60 rfl rfl rfl ?_
        obtain rfl : n = 0 := by omega
        refine ⟨?_, rfl, rfl⟩
        simp [sumF]
      · have q1 := hp k (by omega) (by omega)
        have q2 := eC k (by omega) (by omega)
        refine r_aload_n dX7_loadOfHold_14 rfl ?_
        refine r_getR dX7_loadOfHold_15 fl_X7_55 rfl (by assumption) (by assumption) ?_
        refine r_iload dX7_loadOfHold_18 rfl ?_
        refine r_iald dX7_loadOfHold_20 (by assumption) rfl (by omega) ?_
        rw [q2.2.2.1]
        refine r_istore dX7_loadOfHold_21 rfl ?_
        refine r_aload_n dX7_loadOfHold_23 rfl ?_
        refine r_iload dX7_loadOfHold_24 rfl ?_
        refine r_cV1F1 dX7_loadOfHold_26 ml_X7_90 yl_X1_hasSpot ⟨rfl, rfl⟩ (by assumption) ⟨_, rfl⟩ rfl rfl rfl rfl (c_hasSpot hF hw.1.1 (by omega)) ?_
        refine r_if_eqB (tgt := 53) dX7_loadOfHold_29 rfl (fun c29 => ?_) (fun c29 => ?_)
        · have d29 := of_decide_eq_false c29
          refine r_iinc dX7_loadOfHold_53 rfl rfl ?_
          refine r_goto (tgt := 5) dX7_loadOfHold_56 rfl ?_
          obtain ⟨q, rfl⟩ : ∃ q, n = q + 1 := ⟨n - 1, by omega⟩
          refine AW.mono (ih q (k + 1) _ _ (by omega) (by omega) (by omega)) ?_
          rintro r sh2 μ2 ⟨rfl, hq⟩
          refine ⟨?_, hq⟩
          rw [sumF]
          congr 2
          first | (rw [if_pos ⟨d29, by omega⟩]; omega) | (rw [if_neg (by omega)]; omega)
        · have d29 := of_decide_eq_true c29
          refine r_aload_n dX7_loadOfHold_32 rfl ?_
          have q3 := hss (ρ (93 + k)) (by omega) (by omega)
          have q4 := ks (ρ (93 + k)) (by omega) (by omega)
          refine r_getR dX7_loadOfHold_33 fl_X7_94 rfl (by assumption) (by assumption) ?_
          refine r_iload dX7_loadOfHold_36 rfl ?_
          refine r_iald dX7_loadOfHold_38 (by assumption) rfl (by omega) ?_
          refine r_iload_n dX7_loadOfHold_39 rfl ?_
          refine q_icmp_ne (tgt := 53) dX7_loadOfHold_40 rfl (by omega) (by omega) (fun c40 => ?_) (fun c40 => ?_)
          · refine r_iinc dX7_loadOfHold_53 rfl rfl ?_
            refine r_goto (tgt := 5) dX7_loadOfHold_56 rfl ?_
            obtain ⟨q, rfl⟩ : ∃ q, n = q + 1 := ⟨n - 1, by omega⟩
            refine AW.mono (ih q (k + 1) _ _ (by omega) (by omega) (by omega)) ?_
            rintro r sh2 μ2 ⟨rfl, hq⟩
            refine ⟨?_, hq⟩
            rw [sumF]
            congr 2
            first | (rw [if_pos ⟨d29, by omega⟩]; omega) | (rw [if_neg (by omega)]; omega)
          · refine r_iload_n dX7_loadOfHold_43 rfl ?_
            refine r_aload_n dX7_loadOfHold_44 rfl ?_
            refine r_getR dX7_loadOfHold_45 fl_X7_97 rfl (by assumption) (by assumption) ?_
            refine r_iload dX7_loadOfHold_48 rfl ?_
            refine r_iald dX7_loadOfHold_50 (by assumption) rfl (by omega) ?_
            rw [q2.1]
            refine r_iadd dX7_loadOfHold_51 ?_
            refine r_istore_n dX7_loadOfHold_52 rfl ?_
            refine r_iinc dX7_loadOfHold_53 rfl rfl ?_
            refine r_goto (tgt := 5) dX7_loadOfHold_56 rfl ?_
            obtain ⟨q, rfl⟩ : ∃ q, n = q + 1 := ⟨n - 1, by omega⟩
            refine AW.mono (ih q (k + 1) _ _ (by omega) (by omega) (by omega)) ?_
            rintro r sh2 μ2 ⟨rfl, hq⟩
            refine ⟨?_, hq⟩
            rw [sumF]
            congr 2
            first | (rw [if_pos ⟨d29, by omega⟩]; omega) | (rw [if_neg (by omega)]; omega)
  refine AMet.of (by decide) rfl (by decide) rfl ?_
  refine r_iconst dX7_loadOfHold_0 ?_
  refine r_istore_n dX7_loadOfHold_1 rfl ?_
  refine r_iconst dX7_loadOfHold_2 ?_
  refine r_istore dX7_loadOfHold_3 rfl ?_
  refine AW.mono (loop _ (ρ 11).toNat 0 0 none (Nat.lt_succ_self _) (by omega) (by omega)) ?_
  rintro r sh2 μ2 ⟨rfl, hq⟩
  refine ⟨?_, hq⟩
  rw [inHold_sum hw.1.1 hd, Int.zero_add]
theorem c_heavyHold {sh : Sh} {μ : Mem} {c a : Nat} {ρ : Row} (hF : RelF sh μ a ρ) (hC : RelC sh μ c ρ) (hw : WF ρ)  : FMet yX7_heavyHold gX7_heavyHold sh [vR a, vR c] μ (some (vI (atF ρ 4))) μ := by
  obtain ⟨⟨hn, hss, hh, hj, ht, hg⟩, hb, hp, hd⟩ := id hw
  unfold WFn at hn
  have hwl := hw.wl
  obtain ⟨hIC, e0, e5, e51, e52, eC⟩ := id hC
  obtain ⟨h0, h1, h2, h3, h4, h6, s1, s2, s3, s4, s5⟩ := id hIC
  obtain ⟨hIF, kf0, kh, kf4, ks, kf9, kj⟩ := id hF
  obtain ⟨u0, u1, u2, u3, u5, u6, u7, u8, u10, u11, y1, y2, y3, y4, y5, y6, y7, y8, y9⟩ := id hIF
  have loop : ∀ (f n : Nat) (k : Int), n < f → 0 ≤ k → k + n = ρ 4 → AW gX7_heavyHold sh μ 0 0 2 [some (vR a), some (vR c), some (vI k)] [] (fun r2 sh2 μ2 => r2 = some (vI (fnd (brkF ρ 4) n k)) ∧ sh2 = sh ∧ μ2 = μ) := by
    intro f
    induction f with
    | zero => intro n; intros; omega
    | succ f ih =>
      intro n k hf hk hn2
      refine r_iload_n dX7_heavyHold_2 rfl ?_
      refine r_aload_n dX7_heavyHold_3 rfl ?_
      refine r_getI dX7_heavyHold_4 fl_X7_80 rfl (by assumption) ?_
      refine q_icmp_ge (tgt := 33) dX7_heavyHold_7 rfl (by omega) (by omega) (fun c7 => ?_) (fun c7 => ?_)
      · refine r_iconst dX7_heavyHold_33 ?_
        refine r_ireturn dX7_heavyHold_34 rfl rfl rfl ?_
        obtain rfl | ⟨q, rfl⟩ : n = 0 ∨ ∃ q, n = q + 1 := by cases n <;> simp
        · first | exact ⟨rfl, rfl, rfl⟩ | omega
        · first | omega | (refine ⟨?_, rfl, rfl⟩; rw [fnd, if_pos (by simp only [brkF]; simp; omega)])
      · have q1 := hh k (by omega) (by omega)
        have q2 := kh k (by omega) (by omega)
        have q3 := inHoldF_rng hw.1.1 hp k
        refine r_aload_n dX7_heavyHold_10 rfl ?_
        refine r_aload_n dX7_heavyHold_11 rfl ?_
        refine r_iload_n dX7_heavyHold_12 rfl ?_
        refine r_cS3F1 dX7_heavyHold_13 ml_X7_83 yl_X7_loadOfHold ⟨rfl, rfl⟩ rfl rfl rfl rfl (c_loadOfHold hF hC hw (by omega)) ?_
        refine r_aload_n dX7_heavyHold_16 rfl ?_
        refine r_getR dX7_heavyHold_17 fl_X7_87 rfl (by assumption) (by assumption) ?_
        refine r_iload_n dX7_heavyHold_20 rfl ?_
        refine r_iald dX7_heavyHold_21 (by assumption) rfl (by omega) ?_
        refine q_icmp_le (tgt := 27) dX7_heavyHold_22 rfl (by omega) (by omega) (fun c22 => ?_) (fun c22 => ?_)
        · refine r_iinc dX7_heavyHold_27 rfl rfl ?_
          refine r_goto (tgt := 2) dX7_heavyHold_30 rfl ?_
          refine AW.mono (ih (n - 1) (k + 1) (by omega) (by omega) (by omega)) ?_
          obtain ⟨q, rfl⟩ : ∃ q, n = q + 1 := ⟨n - 1, by omega⟩
          rintro r sh2 μ2 ⟨rfl, h⟩
          refine ⟨?_, h⟩
          rw [fnd, if_neg (by simp only [brkF]; simp; omega)]
          rfl
        · refine r_iload_n dX7_heavyHold_25 rfl ?_
          refine r_ireturn dX7_heavyHold_26 rfl rfl rfl ?_
          obtain rfl | ⟨q, rfl⟩ : n = 0 ∨ ∃ q, n = q + 1 := by cases n <;> simp
          · first | exact ⟨rfl, rfl, rfl⟩ | omega
          · first | omega | (refine ⟨?_, rfl, rfl⟩; rw [fnd, if_pos (by simp only [brkF]; simp; omega)])
  refine AMet.of (by decide) rfl (by decide) rfl ?_
  refine r_iconst dX7_heavyHold_0 ?_
  refine r_istore_n dX7_heavyHold_1 rfl ?_
  refine AW.mono (loop _ (ρ 4).toNat 0 (Nat.lt_succ_self _) (by omega) (by omega)) ?_
  rintro r sh2 μ2 ⟨rfl, hq⟩
  exact ⟨rfl, hq⟩
theorem fld_id {α : Type} {f : Int → α → α} : ∀ (n : Nat) (k : Int) (a : α), (∀ j b, k ≤ j → j < k + n → f j b = b) → fld f n k a = a
  | 0, _, _, _ => rfl
  | n + 1, k, a, h => by rw [fld, h k a (by omega) (by omega), fld_id n (k + 1) a (fun j b h1 h2 => h j b (by omega) (by omega))]
theorem c_blockersOf {sh : Sh} {μ : Mem} {c a : Nat} {ρ : Row} {k0 : Int} (hF : RelF sh μ a ρ) (hC : RelC sh μ c ρ) (hw : WF ρ) (hk0 : 0 ≤ k0 ∧ k0 < ρ 11) : FMet yX7_blockersOf gX7_blockersOf sh [vR a, vR c, vI k0] μ (some (vI (blkF ρ k0))) μ := by
  obtain ⟨⟨hn, hss, hh, hj, ht, hg⟩, hb, hp, hd⟩ := id hw
  unfold WFn at hn
  have hwl := hw.wl
  obtain ⟨hIC, e0, e5, e51, e52, eC⟩ := id hC
  obtain ⟨h0, h1, h2, h3, h4, h6, s1, s2, s3, s4, s5⟩ := id hIC
  obtain ⟨hIF, kf0, kh, kf4, ks, kf9, kj⟩ := id hF
  obtain ⟨u0, u1, u2, u3, u5, u6, u7, u8, u10, u11, y1, y2, y3, y4, y5, y6, y7, y8, y9⟩ := id hIF
  have r1 := hp k0 (by omega) (by omega)
  have r2 := eC k0 (by omega) (by omega)
  have loop : ∀ (f n : Nat) (k : Int) (b : Int) (o5 : Option AV), n < f → 0 ≤ k → k + n = ρ 11 → AW gX7_blockersOf sh μ 0 0 5 [some (vR a), some (vR c), some (vI k0), some (vI b), some (vI k), o5] [] (fun r2 sh2 μ2 => r2 = some (vI (fld (fun j b => if ρ (88 + k0) < ρ (88 + j) ∧ (0 ≤ ρ (93 + j) ∧ ρ (93 + j) < ρ 5) ∧ (0 ≤ ρ (93 + k0) ∧ ρ (93 + k0) < ρ 5) ∧ bit (wayF ρ (ρ (93 + k0))) (ρ (93 + j)) = true then ior b (ishl 1 j) else b) n k b)) ∧ sh2 = sh ∧ μ2 = μ) := by
    intro f
    induction f with
    | zero => intro n; intros; omega
    | succ f ih =>
      intro n k b o5 hf hk hn2
      refine r_iload dX7_blockersOf_5 rfl ?_
      refine r_aload_n dX7_blockersOf_7 rfl ?_
      refine r_getI dX7_blockersOf_8 fl_X7_52 rfl (by assumption) ?_
      refine q_icmp_ge (tgt := 83) dX7_blockersOf_11 rfl (by omega) (by omega) (fun c11 => ?_) (fun c11 => ?_)
      · refine r_iload_n dX7_blockersOf_83 rfl ?_
        refine r_ireturn dX7_blockersOf_84 rfl rfl rfl ?_
        obtain rfl : n = 0 := by omega
        exact ⟨rfl, rfl, rfl⟩
      · refine r_aload_n dX7_blockersOf_14 rfl ?_
        refine r_iload_n dX7_blockersOf_15 rfl ?_
        refine r_cV1F1 dX7_blockersOf_16 ml_X7_106 yl_X0_has ⟨rfl, rfl⟩ (by assumption) ⟨_, rfl⟩ rfl rfl rfl rfl (c_hasR hC (by omega) (by omega)) ?_
        refine r_if_eqB (tgt := 83) dX7_blockersOf_19 rfl (fun c19 => ?_) (fun c19 => ?_)
        · exact absurd hk0 (of_decide_eq_false c19)
        · have q1 := hp k (by omega) (by omega)
          have q2 := eC k (by omega) (by omega)
          refine r_aload_n dX7_blockersOf_22 rfl ?_
          refine r_getR dX7_blockersOf_23 fl_X7_109 rfl (by assumption) (by assumption) ?_
          refine r_iload dX7_blockersOf_26 rfl ?_
          refine r_iald dX7_blockersOf_28 (by assumption) rfl (by omega) ?_
          rw [q2.2.1]
          refine r_aload_n dX7_blockersOf_29 rfl ?_
          refine r_getR dX7_blockersOf_30 fl_X7_109 rfl (by assumption) (by assumption) ?_
          refine r_iload_n dX7_blockersOf_33 rfl ?_
          refine r_iald dX7_blockersOf_34 (by assumption) rfl (by omega) ?_
          rw [r2.2.1]
          refine q_icmp_le (tgt := 42) dX7_blockersOf_35 rfl (by omega) (by omega) (fun c35 => ?_) (fun c35 => ?_)
          · refine r_iconst dX7_blockersOf_42 ?_
            refine r_istore dX7_blockersOf_43 rfl ?_
            refine r_iload dX7_blockersOf_45 rfl ?_
            refine q_if_eq (tgt := 77) dX7_blockersOf_47 rfl (by omega) (fun c47 => ?_) (fun c47 => ?_)
            · refine r_iinc dX7_blockersOf_77 rfl rfl ?_
              refine r_goto (tgt := 5) dX7_blockersOf_80 rfl ?_
              obtain ⟨q, rfl⟩ : ∃ q, n = q + 1 := ⟨n - 1, by omega⟩
              refine AW.mono (ih q (k + 1) _ _ (by omega) (by omega) (by omega)) ?_
              rintro r sh2 μ2 ⟨rfl, hq⟩
              refine ⟨?_, hq⟩
              rw [fld]
              congr 3
              first | (rw [if_pos ⟨by omega, d67⟩]; done) | (rw [if_neg (fun z => d67 z.2)]; done) | (rw [if_neg (by omega)]; done)
            · refine r_aload_n dX7_blockersOf_50 rfl ?_
              refine r_aload_n dX7_blockersOf_51 rfl ?_
              refine r_getR dX7_blockersOf_52 fl_X7_55 rfl (by assumption) (by assumption) ?_
              refine r_iload dX7_blockersOf_55 rfl ?_
              refine r_iald dX7_blockersOf_57 (by assumption) rfl (by omega) ?_
              rw [q2.2.2.1]
              refine r_aload_n dX7_blockersOf_58 rfl ?_
              refine r_getR dX7_blockersOf_59 fl_X7_55 rfl (by assumption) (by assumption) ?_
              refine r_iload_n dX7_blockersOf_62 rfl ?_
              refine r_iald dX7_blockersOf_63 (by assumption) rfl (by omega) ?_
              rw [r2.2.2.1]
              refine r_cV2F1 dX7_blockersOf_64 ml_X7_112 yl_X1_isOnWay ⟨rfl, rfl⟩ (by assumption) ⟨_, rfl⟩ rfl rfl rfl rfl (c_isOnWay hF hw.1.1 (by omega) (by omega)) ?_
              refine r_if_eqB (tgt := 77) dX7_blockersOf_67 rfl (fun c67 => ?_) (fun c67 => ?_)
              · have d67 := of_decide_eq_false c67
                refine r_iinc dX7_blockersOf_77 rfl rfl ?_
                refine r_goto (tgt := 5) dX7_blockersOf_80 rfl ?_
                obtain ⟨q, rfl⟩ : ∃ q, n = q + 1 := ⟨n - 1, by omega⟩
                refine AW.mono (ih q (k + 1) _ _ (by omega) (by omega) (by omega)) ?_
                rintro r sh2 μ2 ⟨rfl, hq⟩
                refine ⟨?_, hq⟩
                rw [fld]
                congr 3
                first | (rw [if_pos ⟨by omega, d67⟩]; done) | (rw [if_neg (fun z => d67 z.2)]; done) | (rw [if_neg (by omega)]; done)
              · have d67 := of_decide_eq_true c67
                refine r_iload_n dX7_blockersOf_70 rfl ?_
                refine r_iconst dX7_blockersOf_71 ?_
                refine r_iload dX7_blockersOf_72 rfl ?_
                refine r_ishl dX7_blockersOf_74 ?_
                refine r_ior dX7_blockersOf_75 ?_
                refine r_istore_n dX7_blockersOf_76 rfl ?_
                refine r_iinc dX7_blockersOf_77 rfl rfl ?_
                refine r_goto (tgt := 5) dX7_blockersOf_80 rfl ?_
                obtain ⟨q, rfl⟩ : ∃ q, n = q + 1 := ⟨n - 1, by omega⟩
                refine AW.mono (ih q (k + 1) _ _ (by omega) (by omega) (by omega)) ?_
                rintro r sh2 μ2 ⟨rfl, hq⟩
                refine ⟨?_, hq⟩
                rw [fld]
                congr 3
                first | (rw [if_pos ⟨by omega, d67⟩]; done) | (rw [if_neg (fun z => d67 z.2)]; done) | (rw [if_neg (by omega)]; done)
          · refine r_iconst dX7_blockersOf_38 ?_
            refine r_goto (tgt := 43) dX7_blockersOf_39 rfl ?_
            refine r_istore dX7_blockersOf_43 rfl ?_
            refine r_iload dX7_blockersOf_45 rfl ?_
            refine q_if_eq (tgt := 77) dX7_blockersOf_47 rfl (by omega) (fun c47 => ?_) (fun c47 => ?_)
            · refine r_iinc dX7_blockersOf_77 rfl rfl ?_
              refine r_goto (tgt := 5) dX7_blockersOf_80 rfl ?_
              obtain ⟨q, rfl⟩ : ∃ q, n = q + 1 := ⟨n - 1, by omega⟩
              refine AW.mono (ih q (k + 1) _ _ (by omega) (by omega) (by omega)) ?_
              rintro r sh2 μ2 ⟨rfl, hq⟩
              refine ⟨?_, hq⟩
              rw [fld]
              congr 3
              first | (rw [if_pos ⟨by omega, d67⟩]; done) | (rw [if_neg (fun z => d67 z.2)]; done) | (rw [if_neg (by omega)]; done)
            · refine r_aload_n dX7_blockersOf_50 rfl ?_
              refine r_aload_n dX7_blockersOf_51 rfl ?_
              refine r_getR dX7_blockersOf_52 fl_X7_55 rfl (by assumption) (by assumption) ?_
              refine r_iload dX7_blockersOf_55 rfl ?_
              refine r_iald dX7_blockersOf_57 (by assumption) rfl (by omega) ?_
              rw [q2.2.2.1]
              refine r_aload_n dX7_blockersOf_58 rfl ?_
              refine r_getR dX7_blockersOf_59 fl_X7_55 rfl (by assumption) (by assumption) ?_
              refine r_iload_n dX7_blockersOf_62 rfl ?_
              refine r_iald dX7_blockersOf_63 (by assumption) rfl (by omega) ?_
              rw [r2.2.2.1]
              refine r_cV2F1 dX7_blockersOf_64 ml_X7_112 yl_X1_isOnWay ⟨rfl, rfl⟩ (by assumption) ⟨_, rfl⟩ rfl rfl rfl rfl (c_isOnWay hF hw.1.1 (by omega) (by omega)) ?_
              refine r_if_eqB (tgt := 77) dX7_blockersOf_67 rfl (fun c67 => ?_) (fun c67 => ?_)
              · have d67 := of_decide_eq_false c67
                refine r_iinc dX7_blockersOf_77 rfl rfl ?_
                refine r_goto (tgt := 5) dX7_blockersOf_80 rfl ?_
                obtain ⟨q, rfl⟩ : ∃ q, n = q + 1 := ⟨n - 1, by omega⟩
                refine AW.mono (ih q (k + 1) _ _ (by omega) (by omega) (by omega)) ?_
                rintro r sh2 μ2 ⟨rfl, hq⟩
                refine ⟨?_, hq⟩
                rw [fld]
                congr 3
                first | (rw [if_pos ⟨by omega, d67⟩]; done) | (rw [if_neg (fun z => d67 z.2)]; done) | (rw [if_neg (by omega)]; done)
              · have d67 := of_decide_eq_true c67
                refine r_iload_n dX7_blockersOf_70 rfl ?_
                refine r_iconst dX7_blockersOf_71 ?_
                refine r_iload dX7_blockersOf_72 rfl ?_
                refine r_ishl dX7_blockersOf_74 ?_
                refine r_ior dX7_blockersOf_75 ?_
                refine r_istore_n dX7_blockersOf_76 rfl ?_
                refine r_iinc dX7_blockersOf_77 rfl rfl ?_
                refine r_goto (tgt := 5) dX7_blockersOf_80 rfl ?_
                obtain ⟨q, rfl⟩ : ∃ q, n = q + 1 := ⟨n - 1, by omega⟩
                refine AW.mono (ih q (k + 1) _ _ (by omega) (by omega) (by omega)) ?_
                rintro r sh2 μ2 ⟨rfl, hq⟩
                refine ⟨?_, hq⟩
                rw [fld]
                congr 3
                first | (rw [if_pos ⟨by omega, d67⟩]; done) | (rw [if_neg (fun z => d67 z.2)]; done) | (rw [if_neg (by omega)]; done)
  refine AMet.of (by decide) rfl (by decide) rfl ?_
  refine r_iconst dX7_blockersOf_0 ?_
  refine r_istore_n dX7_blockersOf_1 rfl ?_
  refine r_iconst dX7_blockersOf_2 ?_
  refine r_istore dX7_blockersOf_3 rfl ?_
  refine AW.mono (loop _ (ρ 11).toNat 0 0 none (Nat.lt_succ_self _) (by omega) (by omega)) ?_
  rintro r sh2 μ2 ⟨rfl, hq⟩
  refine ⟨?_, hq⟩
  unfold blkF
  congr 2
  by_cases hz : ρ (93 + k0) < 0
  · rw [if_pos hz]
    exact fld_id _ _ _ (fun j b h1 h2 => by rw [if_neg (by omega)])
  · rw [if_neg hz]
    refine fld_congr _ _ _ (fun j b h1 h2 => ?_)
    have q1 := hp j (by omega) (by omega)
    by_cases hb1 : 0 ≤ ρ (93 + j) ∧ bit (wayF ρ (ρ (93 + k0))) (ρ (93 + j)) = true ∧ ρ (88 + k0) < ρ (88 + j)
    · rw [if_pos hb1, if_pos ⟨hb1.2.2, by omega, by omega, hb1.2.1⟩]
    · rw [if_neg hb1, if_neg (fun z => hb1 ⟨z.2.1.1, z.2.2.2, z.1⟩)]
theorem c_blockedSpot {sh : Sh} {μ : Mem} {c a : Nat} {ρ : Row} (hF : RelF sh μ a ρ) (hC : RelC sh μ c ρ) (hw : WF ρ)  : FMet yX7_blockedSpot gX7_blockedSpot sh [vR a, vR c] μ (some (vI (atF ρ 6))) μ := by
  obtain ⟨⟨hn, hss, hh, hj, ht, hg⟩, hb, hp, hd⟩ := id hw
  unfold WFn at hn
  have hwl := hw.wl
  obtain ⟨hIC, e0, e5, e51, e52, eC⟩ := id hC
  obtain ⟨h0, h1, h2, h3, h4, h6, s1, s2, s3, s4, s5⟩ := id hIC
  obtain ⟨hIF, kf0, kh, kf4, ks, kf9, kj⟩ := id hF
  obtain ⟨u0, u1, u2, u3, u5, u6, u7, u8, u10, u11, y1, y2, y3, y4, y5, y6, y7, y8, y9⟩ := id hIF
  have loop : ∀ (f n : Nat) (k : Int) (o3 : Option AV), n < f → 0 ≤ k → k + n = ρ 5 → AW gX7_blockedSpot sh μ 0 0 2 [some (vR a), some (vR c), some (vI k), o3] [] (fun r2 sh2 μ2 => r2 = some (vI (fnd (brkF ρ 6) n k)) ∧ sh2 = sh ∧ μ2 = μ) := by
    intro f
    induction f with
    | zero => intro n; intros; omega
    | succ f ih =>
      intro n k o3 hf hk hn2
      refine r_iload_n dX7_blockedSpot_2 rfl ?_
      refine r_aload_n dX7_blockedSpot_3 rfl ?_
      refine r_getI dX7_blockedSpot_4 fl_X7_59 rfl (by assumption) ?_
      refine q_icmp_ge (tgt := 38) dX7_blockedSpot_7 rfl (by omega) (by omega) (fun c7 => ?_) (fun c7 => ?_)
      · refine r_iconst dX7_blockedSpot_38 ?_
        refine r_ireturn dX7_blockedSpot_39 rfl rfl rfl ?_
        obtain rfl | ⟨q, rfl⟩ : n = 0 ∨ ∃ q, n = q + 1 := by cases n <;> simp
        · first | exact ⟨rfl, rfl, rfl⟩ | omega
        · first | omega | (refine ⟨?_, rfl, rfl⟩; rw [fnd, if_pos (by simp only [brkF]; simp; omega)])
      · have q1 := onF_rng (ρ := ρ) (by omega) k
        refine r_aload_n dX7_blockedSpot_10 rfl ?_
        refine r_iload_n dX7_blockedSpot_11 rfl ?_
        refine r_cV1F1 dX7_blockedSpot_12 ml_X7_100 yl_X0_lyingOn ⟨rfl, rfl⟩ (by assumption) ⟨_, rfl⟩ rfl rfl rfl rfl (c_lyingOnR hC hwl (by omega)) ?_
        refine r_istore_n dX7_blockedSpot_15 rfl ?_
        refine r_iload_n dX7_blockedSpot_16 rfl ?_
        refine r_iconst dX7_blockedSpot_17 ?_
        refine q_icmp_eq (tgt := 32) dX7_blockedSpot_18 rfl (by omega) (by omega) (fun c18 => ?_) (fun c18 => ?_)
        · refine r_iinc dX7_blockedSpot_32 rfl rfl ?_
          refine r_goto (tgt := 2) dX7_blockedSpot_35 rfl ?_
          refine AW.mono (ih (n - 1) (k + 1) _ (by omega) (by omega) (by omega)) ?_
          obtain ⟨q, rfl⟩ : ∃ q, n = q + 1 := ⟨n - 1, by omega⟩
          rintro r sh2 μ2 ⟨rfl, h⟩
          refine ⟨?_, h⟩
          rw [fnd, if_neg (by simp only [brkF]; simp; omega)]
          rfl
        · refine r_aload_n dX7_blockedSpot_21 rfl ?_
          refine r_aload_n dX7_blockedSpot_22 rfl ?_
          refine r_iload_n dX7_blockedSpot_23 rfl ?_
          refine r_cS3F1 dX7_blockedSpot_24 ml_X7_103 yl_X7_blockersOf ⟨rfl, rfl⟩ rfl rfl rfl rfl (c_blockersOf hF hC hw (by omega)) ?_
          have q2 := blkF_rng ρ (onF ρ k)
          refine q_if_eq (tgt := 32) dX7_blockedSpot_27 rfl (by omega) (fun c27 => ?_) (fun c27 => ?_)
          · refine r_iinc dX7_blockedSpot_32 rfl rfl ?_
            refine r_goto (tgt := 2) dX7_blockedSpot_35 rfl ?_
            refine AW.mono (ih (n - 1) (k + 1) _ (by omega) (by omega) (by omega)) ?_
            obtain ⟨q, rfl⟩ : ∃ q, n = q + 1 := ⟨n - 1, by omega⟩
            rintro r sh2 μ2 ⟨rfl, h⟩
            refine ⟨?_, h⟩
            rw [fnd, if_neg (by simp only [brkF]; simp; omega)]
            rfl
          · refine r_iload_n dX7_blockedSpot_30 rfl ?_
            refine r_ireturn dX7_blockedSpot_31 rfl rfl rfl ?_
            obtain rfl | ⟨q, rfl⟩ : n = 0 ∨ ∃ q, n = q + 1 := by cases n <;> simp
            · first | exact ⟨rfl, rfl, rfl⟩ | omega
            · first | omega | (refine ⟨?_, rfl, rfl⟩; rw [fnd, if_pos (by simp only [brkF]; simp; omega)])
  refine AMet.of (by decide) rfl (by decide) rfl ?_
  refine r_iconst dX7_blockedSpot_0 ?_
  refine r_istore_n dX7_blockedSpot_1 rfl ?_
  refine AW.mono (loop _ (ρ 5).toNat 0 none (Nat.lt_succ_self _) (by omega) (by omega)) ?_
  rintro r sh2 μ2 ⟨rfl, hq⟩
  exact ⟨rfl, hq⟩
theorem c_weightAt {sh : Sh} {μ : Mem} {c p : Nat} {ρ : Row} {i : Int} (hP : RelP sh μ p ρ) (hC : RelC sh μ c ρ) (hw : WF ρ) (hi : 0 ≤ i ∧ i ≤ ρ 9) : FMet yX7_weightAt gX7_weightAt sh [vR p, vR c, vI i] μ (some (vI (stW ρ i))) μ := by
  obtain ⟨⟨hn, hss, hh, hj, ht, hg⟩, hb, hp, hd⟩ := id hw
  unfold WFn at hn
  have hwl := hw.wl
  obtain ⟨hIC, e0, e5, e51, e52, eC⟩ := id hC
  obtain ⟨h0, h1, h2, h3, h4, h6, s1, s2, s3, s4, s5⟩ := id hIC
  obtain ⟨hIP, p0, p1, p2, p3, p4, pb, hF, hV⟩ := id hP
  obtain ⟨i0, i5, i6, i7, i8, j1, j2, hIF0, hIV0⟩ := id hIP
  obtain ⟨hIV, v0, vt, v5, v8, vi⟩ := id hV
  obtain ⟨t0, t1, t2, t3, t4, t6, t7, t9, t10, t11, x1, x2, x3, x4, x5, x6, x7, x8, x9⟩ := id hIV
  have wi := vi i hi.1 hi.2
  have sr := stopsF_rng ρ i hi.1
  have loop : ∀ (f n : Nat) (k : Int) (b : Int), n < f → 0 ≤ k → k + n = ρ 11 → AW gX7_weightAt sh μ 0 0 18 [some (vR p), some (vR c), some (vI i), some (vI b), some (vI k)] [] (fun r2 sh2 μ2 => r2 = some (vI (b + sumF (fun j => if 0 ≤ ρ (93 + j) ∧ stopsF ρ i < ρ (88 + j) then ρ (83 + j) else 0) n k)) ∧ sh2 = sh ∧ μ2 = μ) := by
    intro f
    induction f with
    | zero => intro n; intros; omega
    | succ f ih =>
      intro n k b hf hk hn2
      refine r_iload dX7_weightAt_18 rfl ?_
      refine r_aload_n dX7_weightAt_20 rfl ?_
      refine r_getI dX7_weightAt_21 fl_X7_52 rfl (by assumption) ?_
      refine q_icmp_ge (tgt := 73) dX7_weightAt_24 rfl (by omega) (by omega) (fun c24 => ?_) (fun c24 => ?_)
      · refine r_iload_n dX7_weightAt_73 rfl ?_
        refine r_ireturn dX7_weightAt_74 rfl rfl rfl ?_
        obtain rfl : n = 0 := by omega
        refine ⟨?_, rfl, rfl⟩
        simp [sumF]
      · have q1 := hp k (by omega) (by omega)
        have q2 := eC k (by omega) (by omega)
        refine r_aload_n dX7_weightAt_27 rfl ?_
        refine r_getR dX7_weightAt_28 fl_X7_55 rfl (by assumption) (by assumption) ?_
        refine r_iload dX7_weightAt_31 rfl ?_
        refine r_iald dX7_weightAt_33 (by assumption) rfl (by omega) ?_
        refine r_iconst dX7_weightAt_34 ?_
        refine q_icmp_eq (tgt := 67) dX7_weightAt_35 rfl (by omega) (by omega) (fun c35 => ?_) (fun c35 => ?_)
        · refine r_iinc dX7_weightAt_67 rfl rfl ?_
          refine r_goto (tgt := 18) dX7_weightAt_70 rfl ?_
          obtain ⟨q, rfl⟩ : ∃ q, n = q + 1 := ⟨n - 1, by omega⟩
          refine AW.mono (ih q (k + 1) _  (by omega) (by omega) (by omega)) ?_
          rintro r sh2 μ2 ⟨rfl, hq⟩
          refine ⟨?_, hq⟩
          rw [sumF]
          congr 2
          first | (rw [if_pos (by omega)]; omega) | (rw [if_neg (by omega)]; omega)
        · refine r_aload_n dX7_weightAt_38 rfl ?_
          refine r_getR dX7_weightAt_39 fl_X7_109 rfl (by assumption) (by assumption) ?_
          refine r_iload dX7_weightAt_42 rfl ?_
          refine r_iald dX7_weightAt_44 (by assumption) rfl (by omega) ?_
          refine r_aload_n dX7_weightAt_45 rfl ?_
          refine r_getR dX7_weightAt_46 fl_X7_116 rfl (by assumption) (by assumption) ?_
          refine r_getR dX7_weightAt_49 fl_X7_140 rfl (by assumption) (by assumption) ?_
          refine r_iload_n dX7_weightAt_52 rfl ?_
          refine r_iald dX7_weightAt_53 (by assumption) rfl (by omega) ?_
          refine q_icmp_le (tgt := 67) dX7_weightAt_54 rfl (by omega) (by omega) (fun c54 => ?_) (fun c54 => ?_)
          · refine r_iinc dX7_weightAt_67 rfl rfl ?_
            refine r_goto (tgt := 18) dX7_weightAt_70 rfl ?_
            obtain ⟨q, rfl⟩ : ∃ q, n = q + 1 := ⟨n - 1, by omega⟩
            refine AW.mono (ih q (k + 1) _  (by omega) (by omega) (by omega)) ?_
            rintro r sh2 μ2 ⟨rfl, hq⟩
            refine ⟨?_, hq⟩
            rw [sumF]
            congr 2
            first | (rw [if_pos (by omega)]; omega) | (rw [if_neg (by omega)]; omega)
          · refine r_iload_n dX7_weightAt_57 rfl ?_
            refine r_aload_n dX7_weightAt_58 rfl ?_
            refine r_getR dX7_weightAt_59 fl_X7_97 rfl (by assumption) (by assumption) ?_
            refine r_iload dX7_weightAt_62 rfl ?_
            refine r_iald dX7_weightAt_64 (by assumption) rfl (by omega) ?_
            rw [q2.1]
            refine r_iadd dX7_weightAt_65 ?_
            refine r_istore_n dX7_weightAt_66 rfl ?_
            refine r_iinc dX7_weightAt_67 rfl rfl ?_
            refine r_goto (tgt := 18) dX7_weightAt_70 rfl ?_
            obtain ⟨q, rfl⟩ : ∃ q, n = q + 1 := ⟨n - 1, by omega⟩
            refine AW.mono (ih q (k + 1) _  (by omega) (by omega) (by omega)) ?_
            rintro r sh2 μ2 ⟨rfl, hq⟩
            refine ⟨?_, hq⟩
            rw [sumF]
            congr 2
            first | (rw [if_pos (by omega)]; omega) | (rw [if_neg (by omega)]; omega)
  refine AMet.of (by decide) rfl (by decide) rfl ?_
  refine r_aload_n dX7_weightAt_0 rfl ?_
  refine r_getR dX7_weightAt_1 fl_X7_116 rfl (by assumption) (by assumption) ?_
  refine r_getR dX7_weightAt_4 fl_X7_138 rfl (by assumption) (by assumption) ?_
  refine r_iload_n dX7_weightAt_7 rfl ?_
  refine r_iald dX7_weightAt_8 (by assumption) rfl (by omega) ?_
  rw [wi.1]
  refine r_aload_n dX7_weightAt_9 rfl ?_
  refine r_cV0F1 dX7_weightAt_10 ml_X7_35 yl_X0_inBins ⟨rfl, rfl⟩ (by assumption) ⟨_, rfl⟩ rfl rfl rfl rfl (c_inBinsR hC) ?_
  refine r_iadd dX7_weightAt_13 ?_
  refine r_istore_n dX7_weightAt_14 rfl ?_
  refine r_iconst dX7_weightAt_15 ?_
  refine r_istore dX7_weightAt_16 rfl ?_
  refine AW.mono (loop _ (ρ 11).toNat 0 _ (Nat.lt_succ_self _) (by omega) (by omega)) ?_
  rintro r sh2 μ2 ⟨rfl, hq⟩
  refine ⟨?_, hq⟩
  unfold stW palW
  rw [binW_eq hw.1.1 hb]
theorem c_momentAt {sh : Sh} {μ : Mem} {c p : Nat} {ρ : Row} {i : Int} (hP : RelP sh μ p ρ) (hC : RelC sh μ c ρ) (hw : WF ρ) (hi : 0 ≤ i ∧ i ≤ ρ 9) : FMet yX7_momentAt gX7_momentAt sh [vR p, vR c, vI i] μ (some (vI (stM ρ i))) μ := by
  obtain ⟨⟨hn, hss, hh, hj, ht, hg⟩, hb, hp, hd⟩ := id hw
  unfold WFn at hn
  have hwl := hw.wl
  obtain ⟨hIC, e0, e5, e51, e52, eC⟩ := id hC
  obtain ⟨h0, h1, h2, h3, h4, h6, s1, s2, s3, s4, s5⟩ := id hIC
  obtain ⟨hIP, p0, p1, p2, p3, p4, pb, hF, hV⟩ := id hP
  obtain ⟨i0, i5, i6, i7, i8, j1, j2, hIF0, hIV0⟩ := id hIP
  obtain ⟨hIF, kf0, kh, kf4, ks, kf9, kj⟩ := id hF
  obtain ⟨u0, u1, u2, u3, u5, u6, u7, u8, u10, u11, y1, y2, y3, y4, y5, y6, y7, y8, y9⟩ := id hIF
  obtain ⟨hIV, v0, vt, v5, v8, vi⟩ := id hV
  obtain ⟨t0, t1, t2, t3, t4, t6, t7, t9, t10, t11, x1, x2, x3, x4, x5, x6, x7, x8, x9⟩ := id hIV
  have wi := vi i hi.1 hi.2
  have sr := stopsF_rng ρ i hi.1
  have lp2 : ∀ (f n : Nat) (k : Int) (b : Int) (o5 : Option AV), n < f → 0 ≤ k → k + n = ρ 11 → AW gX7_momentAt sh μ 0 0 49 [some (vR p), some (vR c), some (vI i), some (vI b), some (vI k), o5] [] (fun r2 sh2 μ2 => r2 = some (vI (b + sumF (fun j => if 0 ≤ ρ (93 + j) ∧ stopsF ρ i < ρ (88 + j) then ρ (83 + j) * ρ (25 + ρ (93 + j)) else 0) n k)) ∧ sh2 = sh ∧ μ2 = μ) := by
    intro f
    induction f with
    | zero => intro n; intros; omega
    | succ f ih =>
      intro n k b o5 hf hk hn2
      refine r_iload dX7_momentAt_49 rfl ?_
      refine r_aload_n dX7_momentAt_51 rfl ?_
      refine r_getI dX7_momentAt_52 fl_X7_52 rfl (by assumption) ?_
      refine q_icmp_ge (tgt := 125) dX7_momentAt_55 rfl (by omega) (by omega) (fun c55 => ?_) (fun c55 => ?_)
      · refine r_iload_n dX7_momentAt_125 rfl ?_
        refine r_ireturn dX7_momentAt_126 rfl rfl rfl ?_
        obtain rfl : n = 0 := by omega
        refine ⟨?_, rfl, rfl⟩
        simp [sumF]
      · have q1 := hp k (by omega) (by omega)
        have q2 := eC k (by omega) (by omega)
        refine r_aload_n dX7_momentAt_58 rfl ?_
        refine r_getR dX7_momentAt_59 fl_X7_55 rfl (by assumption) (by assumption) ?_
        refine r_iload dX7_momentAt_62 rfl ?_
        refine r_iald dX7_momentAt_64 (by assumption) rfl (by omega) ?_
        rw [q2.2.2.1]
        refine r_istore dX7_momentAt_65 rfl ?_
        refine r_aload_n dX7_momentAt_67 rfl ?_
        refine r_getR dX7_momentAt_68 fl_X7_19 rfl (by assumption) (by assumption) ?_
        refine r_iload dX7_momentAt_71 rfl ?_
        refine r_cV1F1 dX7_momentAt_73 ml_X7_90 yl_X1_hasSpot ⟨rfl, rfl⟩ (by assumption) ⟨_, rfl⟩ rfl rfl rfl rfl (c_hasSpot hF hw.1.1 (by omega)) ?_
        refine r_if_eqB (tgt := 119) dX7_momentAt_76 rfl (fun c76 => ?_) (fun c76 => ?_)
        · have d76 := of_decide_eq_false c76
          refine r_iinc dX7_momentAt_119 rfl rfl ?_
          refine r_goto (tgt := 49) dX7_momentAt_122 rfl ?_
          obtain ⟨q, rfl⟩ : ∃ q, n = q + 1 := ⟨n - 1, by omega⟩
          refine AW.mono (ih q (k + 1) _ _ (by omega) (by omega) (by omega)) ?_
          rintro r sh2 μ2 ⟨rfl, hq⟩
          refine ⟨?_, hq⟩
          rw [sumF]
          congr 2
          first | (rw [if_pos (by omega)]; omega) | (rw [if_neg (by omega)]; omega)
        · have d76 := of_decide_eq_true c76
          refine r_aload_n dX7_momentAt_79 rfl ?_
          refine r_getR dX7_momentAt_80 fl_X7_109 rfl (by assumption) (by assumption) ?_
          refine r_iload dX7_momentAt_83 rfl ?_
          refine r_iald dX7_momentAt_85 (by assumption) rfl (by omega) ?_
          refine r_aload_n dX7_momentAt_86 rfl ?_
          refine r_getR dX7_momentAt_87 fl_X7_116 rfl (by assumption) (by assumption) ?_
          refine r_getR dX7_momentAt_90 fl_X7_140 rfl (by assumption) (by assumption) ?_
          refine r_iload_n dX7_momentAt_93 rfl ?_
          refine r_iald dX7_momentAt_94 (by assumption) rfl (by omega) ?_
          refine q_icmp_le (tgt := 119) dX7_momentAt_95 rfl (by omega) (by omega) (fun c95 => ?_) (fun c95 => ?_)
          · refine r_iinc dX7_momentAt_119 rfl rfl ?_
            refine r_goto (tgt := 49) dX7_momentAt_122 rfl ?_
            obtain ⟨q, rfl⟩ : ∃ q, n = q + 1 := ⟨n - 1, by omega⟩
            refine AW.mono (ih q (k + 1) _ _ (by omega) (by omega) (by omega)) ?_
            rintro r sh2 μ2 ⟨rfl, hq⟩
            refine ⟨?_, hq⟩
            rw [sumF]
            congr 2
            first | (rw [if_pos (by omega)]; omega) | (rw [if_neg (by omega)]; omega)
          · refine r_iload_n dX7_momentAt_98 rfl ?_
            refine r_aload_n dX7_momentAt_99 rfl ?_
            refine r_getR dX7_momentAt_100 fl_X7_97 rfl (by assumption) (by assumption) ?_
            refine r_iload dX7_momentAt_103 rfl ?_
            refine r_iald dX7_momentAt_105 (by assumption) rfl (by omega) ?_
            rw [q2.1]
            refine r_aload_n dX7_momentAt_106 rfl ?_
            have q3 := ks (ρ (93 + k)) (by omega) (by omega)
            refine r_getR dX7_momentAt_107 fl_X7_19 rfl (by assumption) (by assumption) ?_
            refine r_getR dX7_momentAt_110 fl_X7_154 rfl (by assumption) (by assumption) ?_
            refine r_iload dX7_momentAt_113 rfl ?_
            refine r_iald dX7_momentAt_115 (by assumption) rfl (by omega) ?_
            rw [q3.2.1]
            refine r_imul dX7_momentAt_116 ?_
            refine r_iadd dX7_momentAt_117 ?_
            refine r_istore_n dX7_momentAt_118 rfl ?_
            refine r_iinc dX7_momentAt_119 rfl rfl ?_
            refine r_goto (tgt := 49) dX7_momentAt_122 rfl ?_
            obtain ⟨q, rfl⟩ : ∃ q, n = q + 1 := ⟨n - 1, by omega⟩
            refine AW.mono (ih q (k + 1) _ _ (by omega) (by omega) (by omega)) ?_
            rintro r sh2 μ2 ⟨rfl, hq⟩
            refine ⟨?_, hq⟩
            rw [sumF]
            congr 2
            first | (rw [if_pos (by omega)]; omega) | (rw [if_neg (by omega)]; omega)
  have loop : ∀ (f n : Nat) (k : Int) (b : Int) (o5 : Option AV), n < f → 0 ≤ k → k + n = ρ 7 → AW gX7_momentAt sh μ 0 0 13 [some (vR p), some (vR c), some (vI i), some (vI b), some (vI k), o5] [] (fun r2 sh2 μ2 => r2 = some (vI (b + sumF (fun j => ρ (51 + j) * ρ (47 + j)) n k + palM ρ (stopsF ρ i))) ∧ sh2 = sh ∧ μ2 = μ) := by
    intro f
    induction f with
    | zero => intro n; intros; omega
    | succ f ih =>
      intro n k b o5 hf hk hn2
      refine r_iload dX7_momentAt_13 rfl ?_
      refine r_aload_n dX7_momentAt_15 rfl ?_
      refine r_getI dX7_momentAt_16 fl_X7_145 rfl (by assumption) ?_
      refine q_icmp_ge (tgt := 46) dX7_momentAt_19 rfl (by omega) (by omega) (fun c19 => ?_) (fun c19 => ?_)
      · refine r_iconst dX7_momentAt_46 ?_
        refine r_istore dX7_momentAt_47 rfl ?_
        obtain rfl : n = 0 := by omega
        refine AW.mono (lp2 _ (ρ 11).toNat 0 _ _ (Nat.lt_succ_self _) (by omega) (by omega)) ?_
        rintro r sh2 μ2 ⟨rfl, hq⟩
        refine ⟨?_, hq⟩
        simp [sumF, palM]
      · have q1 := pb k (by omega) (by omega)
        have q2 : μ.1 (c + 5) k = ρ (51 + k) := by rcases (show k = 0 ∨ k = 1 by omega) with rfl | rfl <;> assumption
        refine r_iload_n dX7_momentAt_22 rfl ?_
        refine r_aload_n dX7_momentAt_23 rfl ?_
        refine r_getR dX7_momentAt_24 fl_X7_148 rfl (by assumption) (by assumption) ?_
        refine r_iload dX7_momentAt_27 rfl ?_
        refine r_iald dX7_momentAt_29 (by assumption) rfl (by omega) ?_
        rw [q2]
        refine r_aload_n dX7_momentAt_30 rfl ?_
        refine r_getR dX7_momentAt_31 fl_X7_151 rfl (by assumption) (by assumption) ?_
        refine r_iload dX7_momentAt_34 rfl ?_
        refine r_iald dX7_momentAt_36 (by assumption) rfl (by omega) ?_
        rw [(q1.1 (by omega)).1]
        refine r_imul dX7_momentAt_37 ?_
        refine r_iadd dX7_momentAt_38 ?_
        refine r_istore_n dX7_momentAt_39 rfl ?_
        refine r_iinc dX7_momentAt_40 rfl rfl ?_
        refine r_goto (tgt := 13) dX7_momentAt_43 rfl ?_
        obtain ⟨q, rfl⟩ : ∃ q, n = q + 1 := ⟨n - 1, by omega⟩
        refine AW.mono (ih q (k + 1) _ _ (by omega) (by omega) (by omega)) ?_
        rintro r sh2 μ2 ⟨rfl, hq⟩
        refine ⟨?_, hq⟩
        rw [sumF]
        congr 2
        omega
  refine AMet.of (by decide) rfl (by decide) rfl ?_
  refine r_aload_n dX7_momentAt_0 rfl ?_
  refine r_getR dX7_momentAt_1 fl_X7_116 rfl (by assumption) (by assumption) ?_
  refine r_getR dX7_momentAt_4 fl_X7_143 rfl (by assumption) (by assumption) ?_
  refine r_iload_n dX7_momentAt_7 rfl ?_
  refine r_iald dX7_momentAt_8 (by assumption) rfl (by omega) ?_
  rw [wi.2.1]
  refine r_istore_n dX7_momentAt_9 rfl ?_
  refine r_iconst dX7_momentAt_10 ?_
  refine r_istore dX7_momentAt_11 rfl ?_
  refine AW.mono (loop _ (ρ 7).toNat 0 _ _ (Nat.lt_succ_self _) (by omega) (by omega)) ?_
  rintro r sh2 μ2 ⟨rfl, hq⟩
  refine ⟨?_, hq⟩
  rfl
theorem st_rng2 {ρ : Row} (hw : WF ρ) {i : Int} (hi : 0 ≤ i ∧ i ≤ ρ 9) : (-5000 ≤ stW ρ i ∧ stW ρ i ≤ 5000) ∧ (-500000 ≤ stM ρ i ∧ stM ρ i ≤ 500000) ∧ (-500000 ≤ stW ρ i * ρ 2 ∧ stW ρ i * ρ 2 ≤ 500000) ∧ (-500000 ≤ stW ρ i * ρ 3 ∧ stW ρ i * ρ 3 ≤ 500000) := by
  have hr := st_rng hw hi
  have hn := hw.1.1
  unfold WFn at hn
  have hW : -5000 ≤ stW ρ i ∧ stW ρ i ≤ 5000 := by have a1 := hr.2.2.2.2.1 (stopsF ρ i); unfold stW; omega
  have hMM : -500000 ≤ stM ρ i ∧ stM ρ i ≤ 500000 := by have a1 := hr.2.2.2.2.2 (stopsF ρ i); unfold stM; omega
  exact ⟨hW, hMM, mul_abs hW (by omega), mul_abs hW (by omega)⟩
theorem c_stageOutOfSpan {sh : Sh} {μ : Mem} {c p : Nat} {ρ : Row} (hP : RelP sh μ p ρ) (hC : RelC sh μ c ρ) (hw : WF ρ)  : FMet yX7_stageOutOfSpan gX7_stageOutOfSpan sh [vR p, vR c] μ (some (vI (atF ρ 7))) μ := by
  obtain ⟨⟨hn, hss, hh, hj, ht, hg⟩, hb, hp, hd⟩ := id hw
  unfold WFn at hn
  have hwl := hw.wl
  obtain ⟨hIC, e0, e5, e51, e52, eC⟩ := id hC
  obtain ⟨h0, h1, h2, h3, h4, h6, s1, s2, s3, s4, s5⟩ := id hIC
  obtain ⟨hIP, p0, p1, p2, p3, p4, pb, hF, hV⟩ := id hP
  obtain ⟨i0, i5, i6, i7, i8, j1, j2, hIF0, hIV0⟩ := id hIP
  obtain ⟨hIV, v0, vt, v5, v8, vi⟩ := id hV
  obtain ⟨t0, t1, t2, t3, t4, t6, t7, t9, t10, t11, x1, x2, x3, x4, x5, x6, x7, x8, x9⟩ := id hIV
  have loop : ∀ (f n : Nat) (k : Int) (o3 o4 : Option AV), n < f → 0 ≤ k → k + n = ρ 9 + 1 → AW gX7_stageOutOfSpan sh μ 0 0 2 [some (vR p), some (vR c), some (vI k), o3, o4] [] (fun r2 sh2 μ2 => r2 = some (vI (fnd (brkF ρ 7) n k)) ∧ sh2 = sh ∧ μ2 = μ) := by
    intro f
    induction f with
    | zero => intro n; intros; omega
    | succ f ih =>
      intro n k o3 o4 hf hk hn2
      refine r_iload_n dX7_stageOutOfSpan_2 rfl ?_
      refine r_aload_n dX7_stageOutOfSpan_3 rfl ?_
      refine r_getR dX7_stageOutOfSpan_4 fl_X7_116 rfl (by assumption) (by assumption) ?_
      refine r_getI dX7_stageOutOfSpan_7 fl_X7_120 rfl (by assumption) ?_
      refine q_icmp_gt (tgt := 58) dX7_stageOutOfSpan_10 rfl (by omega) (by omega) (fun c10 => ?_) (fun c10 => ?_)
      · refine r_iconst dX7_stageOutOfSpan_58 ?_
        refine r_ireturn dX7_stageOutOfSpan_59 rfl rfl rfl ?_
        obtain rfl | ⟨q, rfl⟩ : n = 0 ∨ ∃ q, n = q + 1 := by cases n <;> simp
        · first | exact ⟨rfl, rfl, rfl⟩ | omega
        · first | omega | (refine ⟨?_, rfl, rfl⟩; rw [fnd, if_pos (by simp only [brkF]; simp; omega)])
      · have q1 := st_rng2 hw (i := k) (by omega)
        refine r_aload_n dX7_stageOutOfSpan_13 rfl ?_
        refine r_aload_n dX7_stageOutOfSpan_14 rfl ?_
        refine r_iload_n dX7_stageOutOfSpan_15 rfl ?_
        refine r_cS3F1 dX7_stageOutOfSpan_16 ml_X7_125 yl_X7_weightAt ⟨rfl, rfl⟩ rfl rfl rfl rfl (c_weightAt hP hC hw (by omega)) ?_
        refine r_istore_n dX7_stageOutOfSpan_19 rfl ?_
        refine r_aload_n dX7_stageOutOfSpan_20 rfl ?_
        refine r_aload_n dX7_stageOutOfSpan_21 rfl ?_
        refine r_iload_n dX7_stageOutOfSpan_22 rfl ?_
        refine r_cS3F1 dX7_stageOutOfSpan_23 ml_X7_129 yl_X7_momentAt ⟨rfl, rfl⟩ rfl rfl rfl rfl (c_momentAt hP hC hw (by omega)) ?_
        refine r_istore dX7_stageOutOfSpan_26 rfl ?_
        refine r_iload dX7_stageOutOfSpan_28 rfl ?_
        refine r_iload_n dX7_stageOutOfSpan_30 rfl ?_
        refine r_aload_n dX7_stageOutOfSpan_31 rfl ?_
        refine r_getI dX7_stageOutOfSpan_32 fl_X7_132 rfl (by assumption) ?_
        rw [p2]
        refine r_imul dX7_stageOutOfSpan_35 ?_
        refine q_icmp_lt (tgt := 50) dX7_stageOutOfSpan_36 rfl (by omega) (by omega) (fun c36 => ?_) (fun c36 => ?_)
        · refine r_iload_n dX7_stageOutOfSpan_50 rfl ?_
          refine r_ireturn dX7_stageOutOfSpan_51 rfl rfl rfl ?_
          obtain rfl | ⟨q, rfl⟩ : n = 0 ∨ ∃ q, n = q + 1 := by cases n <;> simp
          · first | exact ⟨rfl, rfl, rfl⟩ | omega
          · first | omega | (refine ⟨?_, rfl, rfl⟩; rw [fnd, if_pos (by simp only [brkF]; simp; omega)])
        · refine r_iload dX7_stageOutOfSpan_39 rfl ?_
          refine r_iload_n dX7_stageOutOfSpan_41 rfl ?_
          refine r_aload_n dX7_stageOutOfSpan_42 rfl ?_
          refine r_getI dX7_stageOutOfSpan_43 fl_X7_135 rfl (by assumption) ?_
          rw [p3]
          refine r_imul dX7_stageOutOfSpan_46 ?_
          refine q_icmp_le (tgt := 52) dX7_stageOutOfSpan_47 rfl (by omega) (by omega) (fun c47 => ?_) (fun c47 => ?_)
          · refine r_iinc dX7_stageOutOfSpan_52 rfl rfl ?_
            refine r_goto (tgt := 2) dX7_stageOutOfSpan_55 rfl ?_
            refine AW.mono (ih (n - 1) (k + 1) _ _ (by omega) (by omega) (by omega)) ?_
            obtain ⟨q, rfl⟩ : ∃ q, n = q + 1 := ⟨n - 1, by omega⟩
            rintro r sh2 μ2 ⟨rfl, h⟩
            refine ⟨?_, h⟩
            rw [fnd, if_neg (by simp only [brkF]; simp; omega)]
            rfl
          · refine r_iload_n dX7_stageOutOfSpan_50 rfl ?_
            refine r_ireturn dX7_stageOutOfSpan_51 rfl rfl rfl ?_
            obtain rfl | ⟨q, rfl⟩ : n = 0 ∨ ∃ q, n = q + 1 := by cases n <;> simp
            · first | exact ⟨rfl, rfl, rfl⟩ | omega
            · first | omega | (refine ⟨?_, rfl, rfl⟩; rw [fnd, if_pos (by simp only [brkF]; simp; omega)])
  refine AMet.of (by decide) rfl (by decide) rfl ?_
  refine r_iconst dX7_stageOutOfSpan_0 ?_
  refine r_istore_n dX7_stageOutOfSpan_1 rfl ?_
  refine AW.mono (loop _ (ρ 9 + 1).toNat 0 none none (Nat.lt_succ_self _) (by omega) (by omega)) ?_
  rintro r sh2 μ2 ⟨rfl, hq⟩
  exact ⟨rfl, hq⟩

