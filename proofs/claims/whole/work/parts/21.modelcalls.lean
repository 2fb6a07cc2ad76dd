/-! 21.modelcalls: the reference's calls (wip/whole/src/21_modelcalls.py) -/
theorem m_sets0 {sh : Sh} {μ : Mem} {m : Nat} {G : Gh} (hI : InM sh m μ G) {j v : Int} (hj : 0 ≤ j ∧ j < 143) (hv : -2147483648 ≤ v ∧ v < 2147483648) (hjr : -2147483648 ≤ gRow G j ∧ gRow G j < 2147483648) : IMet yX12_sets0 gX12_sets0 sh [vR m, vI j, vI v] μ (fun x μ2 => x = (set0F G j v).1 ∧ MS sh m μ μ2 (set0F G j v).2) := by
  have hM := hI.1
  obtain ⟨g0, f1, z1, f2, z2, f3, z3, f4, z4, f5, z5, f6, z6, f7, z7, f8, z8, f9, z9, f10, z10, f11, z11, f12, z12, f13, z13, f14, z14⟩ := id hM
  have u5 := hI.2.2.1.2.1
  have u8 := hI.2.2.1.1
  have hr := hI.2.1.1
  have hjm : -2147483648 ≤ μ.1 (m + 1) j ∧ μ.1 (m + 1) j < 2147483648 := by rw [hr]; exact hjr
  refine AMet.of (by decide) rfl (by decide) rfl ?_
  refine r_aload_n dX12_sets0_0 rfl ?_
  refine r_getR dX12_sets0_1 fl_X12_7 rfl (by assumption) (by assumption) ?_
  refine r_iload_n dX12_sets0_4 rfl ?_
  refine r_iald dX12_sets0_5 (by assumption) rfl (by omega) ?_
  refine r_iload_n dX12_sets0_6 rfl ?_
  refine q_icmp_ne (tgt := 12) dX12_sets0_7 rfl (by omega) (by omega) (fun c7 => ?_) (fun c7 => ?_)
  · refine r_aload_n dX12_sets0_12 rfl ?_
    refine r_cV0N dX12_sets0_13 ml_X12_228 yl_X12_keeps ⟨rfl, rfl⟩ (by assumption) ⟨_, rfl⟩ rfl rfl rfl rfl (m_keeps hI) ?_
    rintro μ3 ⟨⟨hI3, hk3, hR3⟩, hk4, hk5⟩
    have hM3 := hI3.1
    obtain ⟨g0, f1, z1, f2, z2, f3, z3, f4, z4, f5, z5, f6, z6, f7, z7, f8, z8, f9, z9, f10, z10, f11, z11, f12, z12, f13, z13, f14, z14⟩ := id hM3
    have hr3 : μ3.1 (m + 1) = gRow G := hI3.2.1.1
    refine r_aload_n dX12_sets0_16 rfl ?_
    refine r_getR dX12_sets0_17 fl_X12_7 rfl (by assumption) (by assumption) ?_
    refine r_iload_n dX12_sets0_20 rfl ?_
    refine r_iload_n dX12_sets0_21 rfl ?_
    refine r_iast dX12_sets0_22 (by assumption) rfl (by omega) ?_
    refine r_iconst dX12_sets0_23 ?_
    refine r_ireturn dX12_sets0_24 rfl rfl rfl ?_
    refine ⟨rfl, _, rfl, ?_⟩
    unfold set0F
    rw [if_neg (by rw [← hr]; exact c7)]
    exact ⟨rfl, hI3.set hj, hk3.sI (by (try dsimp only); omega), hR3⟩
  · refine r_iconst dX12_sets0_10 ?_
    refine r_ireturn dX12_sets0_11 rfl rfl rfl ?_
    refine ⟨rfl, _, rfl, ?_⟩
    unfold set0F
    rw [← hr, if_pos c7]
    exact ⟨rfl, hI, Kp.rf _ _, rfl⟩
theorem m_put {sh : Sh} {μ : Mem} {m : Nat} {G : Gh} (hI : InM sh m μ G) (hw : WF (gRow G)) {k s : Int} (hk : -2147483648 ≤ k ∧ k < 2147483648) (hs : -2147483648 ≤ s ∧ s < 2147483648)  : IMet yX12_put gX12_put sh [vR m, vI k, vI s] μ (fun x μ2 => x = (putF G k s).1 ∧ MS sh m μ μ2 (putF G k s).2) := by
  have hM := hI.1
  obtain ⟨g0, f1, z1, f2, z2, f3, z3, f4, z4, f5, z5, f6, z6, f7, z7, f8, z8, f9, z9, f10, z10, f11, z11, f12, z12, f13, z13, f14, z14⟩ := id hM
  have u5 := hI.2.2.1.2.1
  have u8 := hI.2.2.1.1
  have hr := hI.2.1.1
  have hwm : WF (μ.1 (m + 1)) := by rw [hr]; exact hw
  have hwl := hwm.wl
  have hn := hwm.1.1
  unfold WFn at hn
  have hon := onF_rng (ρ := μ.1 (m + 1)) (by omega) s
  have hon2 := fun h => onF_none (ρ := μ.1 (m + 1)) (s := s) h k
  refine AMet.of (by decide) rfl (by decide) rfl ?_
  refine r_aload_n dX12_put_0 rfl ?_
  refine r_iload_n dX12_put_1 rfl ?_
  refine r_cV1F1 dX12_put_2 ml_X12_216 yl_X12_isPallet ⟨rfl, rfl⟩ (by assumption) ⟨_, rfl⟩ rfl rfl rfl rfl (m_isPallet hM hwl hk) ?_
  refine r_if_eqB (tgt := 16) dX12_put_5 rfl (fun c5 => ?_) (fun c5 => ?_)
  · have d5 := of_decide_eq_false c5
    refine r_iconst dX12_put_16 ?_
    refine r_ireturn dX12_put_17 rfl rfl rfl ?_
    refine ⟨rfl, _, rfl, ?_⟩
    unfold putF palG
    rw [← hr, if_pos (by omega)]
    exact ⟨rfl, hI, Kp.rf _ _, rfl⟩
  · have d5 := of_decide_eq_true c5
    refine r_aload_n dX12_put_8 rfl ?_
    refine r_iload_n dX12_put_9 rfl ?_
    refine r_cV1F1 dX12_put_10 ml_X12_219 yl_X12_isSpot ⟨rfl, rfl⟩ (by assumption) ⟨_, rfl⟩ rfl rfl rfl rfl (m_isSpot hM hwl hs) ?_
    refine r_if_neB (tgt := 18) dX12_put_13 rfl (fun c13 => ?_) (fun c13 => ?_)
    · have d13 := of_decide_eq_true c13
      refine r_aload_n dX12_put_18 rfl ?_
      refine r_iload_n dX12_put_19 rfl ?_
      refine r_cV1F1 dX12_put_20 ml_X12_210 yl_X12_on ⟨rfl, rfl⟩ (by assumption) ⟨_, rfl⟩ rfl rfl rfl rfl (m_on hM hwl hs) ?_
      refine q_if_lt (tgt := 41) dX12_put_23 rfl (by omega) (fun c23 => ?_) (fun c23 => ?_)
      · refine r_aload_n dX12_put_41 rfl ?_
        refine r_bipush dX12_put_42 (by decide) ?_
        refine r_iload_n dX12_put_44 rfl ?_
        refine r_iadd dX12_put_45 ?_
        refine r_iload_n dX12_put_46 rfl ?_
        refine r_cV2I dX12_put_47 ml_X12_231 yl_X12_sets0 ⟨rfl, rfl⟩ (by assumption) ⟨_, rfl⟩ rfl rfl rfl rfl (m_sets0 hI (j := 93 + k) (by omega) hs (by rw [← hr]; have := (hwm.2.2.1 k (by omega) (by omega)).2.2.1; omega)) ?_
        rintro x μ3 ⟨rfl, h3⟩
        refine r_ireturn dX12_put_50 rfl rfl rfl ?_
        refine ⟨rfl, _, rfl, ?_⟩
        have hne : ¬ gRow G (93 + k) = s := by rw [← hr]; exact hon2 (by omega) (by omega) (by omega)
        unfold putF palG
        rw [if_neg (by rw [← hr]; omega), if_neg (by rw [← hr]; omega)]
        unfold set0F at h3 ⊢
        rw [if_neg hne] at h3 ⊢
        exact ⟨rfl, h3⟩
      · refine r_aload_n dX12_put_26 rfl ?_
        refine r_iload_n dX12_put_27 rfl ?_
        refine r_cV1F1 dX12_put_28 ml_X12_210 yl_X12_on ⟨rfl, rfl⟩ (by assumption) ⟨_, rfl⟩ rfl rfl rfl rfl (m_on hM hwl hs) ?_
        refine r_iload_n dX12_put_31 rfl ?_
        refine q_icmp_ne (tgt := 39) dX12_put_32 rfl (by omega) (by omega) (fun c32 => ?_) (fun c32 => ?_)
        · refine r_iconst dX12_put_39 ?_
          refine r_ireturn dX12_put_40 rfl rfl rfl ?_
          refine ⟨rfl, _, rfl, ?_⟩
          unfold putF palG
          rw [← hr, if_neg (by omega), if_pos (by omega)]
          first | rw [if_pos (by omega)] | rw [if_neg (by omega)]
          exact ⟨rfl, hI, Kp.rf _ _, rfl⟩
        · refine r_iconst dX12_put_35 ?_
          refine r_goto (tgt := 40) dX12_put_36 rfl ?_
          refine r_ireturn dX12_put_40 rfl rfl rfl ?_
          refine ⟨rfl, _, rfl, ?_⟩
          unfold putF palG
          rw [← hr, if_neg (by omega), if_pos (by omega)]
          first | rw [if_pos (by omega)] | rw [if_neg (by omega)]
          exact ⟨rfl, hI, Kp.rf _ _, rfl⟩
    · have d13 := of_decide_eq_false c13
      refine r_iconst dX12_put_16 ?_
      refine r_ireturn dX12_put_17 rfl rfl rfl ?_
      refine ⟨rfl, _, rfl, ?_⟩
      unfold putF palG
      rw [← hr, if_pos (by omega)]
      exact ⟨rfl, hI, Kp.rf _ _, rfl⟩
theorem m_off {sh : Sh} {μ : Mem} {m : Nat} {G : Gh} (hI : InM sh m μ G) (hw : WF (gRow G)) {k : Int} (hk : -2147483648 ≤ k ∧ k < 2147483648)  : IMet yX12_off gX12_off sh [vR m, vI k] μ (fun x μ2 => x = (offF G k).1 ∧ MS sh m μ μ2 (offF G k).2) := by
  have hM := hI.1
  obtain ⟨g0, f1, z1, f2, z2, f3, z3, f4, z4, f5, z5, f6, z6, f7, z7, f8, z8, f9, z9, f10, z10, f11, z11, f12, z12, f13, z13, f14, z14⟩ := id hM
  have u5 := hI.2.2.1.2.1
  have u8 := hI.2.2.1.1
  have hr := hI.2.1.1
  have hwm : WF (μ.1 (m + 1)) := by rw [hr]; exact hw
  have hwl := hwm.wl
  have hn := hwm.1.1
  unfold WFn at hn
  refine AMet.of (by decide) rfl (by decide) rfl ?_
  refine r_aload_n dX12_off_0 rfl ?_
  refine r_iload_n dX12_off_1 rfl ?_
  refine r_cV1F1 dX12_off_2 ml_X12_216 yl_X12_isPallet ⟨rfl, rfl⟩ (by assumption) ⟨_, rfl⟩ rfl rfl rfl rfl (m_isPallet hM hwl hk) ?_
  refine r_if_eqB (tgt := 20) dX12_off_5 rfl (fun c5 => ?_) (fun c5 => ?_)
  · have d5 := of_decide_eq_false c5
    refine r_iconst dX12_off_20 ?_
    refine r_ireturn dX12_off_21 rfl rfl rfl ?_
    refine ⟨rfl, _, rfl, ?_⟩
    unfold offF palG
    rw [← hr, if_neg (by omega)]
    exact ⟨rfl, hI, Kp.rf _ _, rfl⟩
  · have d5 := of_decide_eq_true c5
    have q := (hwm.2.2.1 k (by omega) (by omega)).2.2.1
    refine r_aload_n dX12_off_8 rfl ?_
    refine r_getR dX12_off_9 fl_X12_7 rfl (by assumption) (by assumption) ?_
    refine r_bipush dX12_off_12 (by decide) ?_
    refine r_iload_n dX12_off_14 rfl ?_
    refine r_iadd dX12_off_15 ?_
    refine r_iald dX12_off_16 (by assumption) rfl (by omega) ?_
    refine q_if_ge (tgt := 22) dX12_off_17 rfl (by omega) (fun c17 => ?_) (fun c17 => ?_)
    · refine r_aload_n dX12_off_22 rfl ?_
      refine r_cV0N dX12_off_23 ml_X12_228 yl_X12_keeps ⟨rfl, rfl⟩ (by assumption) ⟨_, rfl⟩ rfl rfl rfl rfl (m_keeps hI) ?_
      rintro μ3 ⟨⟨hI3, hk3, hR3⟩, hk4, hk5⟩
      have hM3 := hI3.1
      obtain ⟨g0, f1, z1, f2, z2, f3, z3, f4, z4, f5, z5, f6, z6, f7, z7, f8, z8, f9, z9, f10, z10, f11, z11, f12, z12, f13, z13, f14, z14⟩ := id hM3
      have hr3 : μ3.1 (m + 1) = gRow G := hI3.2.1.1
      refine r_aload_n dX12_off_26 rfl ?_
      refine r_getR dX12_off_27 fl_X12_7 rfl (by assumption) (by assumption) ?_
      refine r_bipush dX12_off_30 (by decide) ?_
      refine r_iload_n dX12_off_32 rfl ?_
      refine r_iadd dX12_off_33 ?_
      refine r_iald dX12_off_34 (by assumption) rfl (by omega) ?_
      refine r_istore_n dX12_off_35 rfl ?_
      refine r_aload_n dX12_off_36 rfl ?_
      refine r_getR dX12_off_37 fl_X12_7 rfl (by assumption) (by assumption) ?_
      refine r_bipush dX12_off_40 (by decide) ?_
      refine r_iload_n dX12_off_42 rfl ?_
      refine r_iadd dX12_off_43 ?_
      refine r_iconst dX12_off_44 ?_
      refine r_iast dX12_off_45 (by assumption) rfl (by omega) ?_
      refine r_iload_n dX12_off_46 rfl ?_
      refine r_ireturn dX12_off_47 rfl rfl rfl ?_
      refine ⟨rfl, _, rfl, ?_⟩
      unfold offF palG
      rw [if_pos (by rw [← hr]; omega)]
      exact ⟨by rw [hr3], hI3.set (by omega), hk3.sI (by (try dsimp only); omega), hR3⟩
    · refine r_iconst dX12_off_20 ?_
      refine r_ireturn dX12_off_21 rfl rfl rfl ?_
      refine ⟨rfl, _, rfl, ?_⟩
      unfold offF palG
      rw [← hr, if_neg (by omega)]
      exact ⟨rfl, hI, Kp.rf _ _, rfl⟩
theorem m_pour {sh : Sh} {μ : Mem} {m : Nat} {G : Gh} (hI : InM sh m μ G) (hw : WF (gRow G)) {b n : Int} (hb : -2147483648 ≤ b ∧ b < 2147483648) (hn0 : -2147483648 ≤ n ∧ n < 2147483648)  : IMet yX12_pour gX12_pour sh [vR m, vI b, vI n] μ (fun x μ2 => x = (pourF G b n).1 ∧ MS sh m μ μ2 (pourF G b n).2) := by
  have hM := hI.1
  obtain ⟨g0, f1, z1, f2, z2, f3, z3, f4, z4, f5, z5, f6, z6, f7, z7, f8, z8, f9, z9, f10, z10, f11, z11, f12, z12, f13, z13, f14, z14⟩ := id hM
  have u5 := hI.2.2.1.2.1
  have u8 := hI.2.2.1.1
  have hr := hI.2.1.1
  have hwm : WF (μ.1 (m + 1)) := by rw [hr]; exact hw
  have hwl := hwm.wl
  have hn := hwm.1.1
  unfold WFn at hn
  refine AMet.of (by decide) rfl (by decide) rfl ?_
  refine r_iload_n dX12_pour_0 rfl ?_
  refine r_iconst dX12_pour_1 ?_
  refine r_aload_n dX12_pour_2 rfl ?_
  refine r_getR dX12_pour_3 fl_X12_7 rfl (by assumption) (by assumption) ?_
  refine r_bipush dX12_pour_6 (by decide) ?_
  refine r_iald dX12_pour_8 (by assumption) rfl (by omega) ?_
  refine r_iconst dX12_pour_9 ?_
  refine r_isub dX12_pour_10 ?_
  refine r_cS3F1 dX12_pour_11 ml_X12_73 yl_X12_isIn ⟨rfl, rfl⟩ rfl rfl rfl rfl (m_isIn hb (by omega) (by omega)) ?_
  refine r_if_eqB (tgt := 46) dX12_pour_14 rfl (fun c14 => ?_) (fun c14 => ?_)
  · have d14 := of_decide_eq_false c14
    refine r_iconst dX12_pour_46 ?_
    refine r_ireturn dX12_pour_47 rfl rfl rfl ?_
    refine ⟨rfl, _, rfl, ?_⟩
    unfold pourF
    first | (rw [if_pos (by rw [← hr]; omega)]; exact ⟨rfl, h3⟩) | (rw [if_neg (by rw [← hr]; omega)]; exact ⟨rfl, hI, Kp.rf _ _, rfl⟩)
  · have d14 := of_decide_eq_true c14
    have q := (hwm.2.1 b (by omega) (by omega)).1 (by omega)
    refine r_iload_n dX12_pour_17 rfl ?_
    refine r_iconst dX12_pour_18 ?_
    refine r_aload_n dX12_pour_19 rfl ?_
    refine r_getR dX12_pour_20 fl_X12_7 rfl (by assumption) (by assumption) ?_
    refine r_bipush dX12_pour_23 (by decide) ?_
    refine r_iload_n dX12_pour_25 rfl ?_
    refine r_iadd dX12_pour_26 ?_
    refine r_iald dX12_pour_27 (by assumption) rfl (by omega) ?_
    refine r_cS3F1 dX12_pour_28 ml_X12_73 yl_X12_isIn ⟨rfl, rfl⟩ rfl rfl rfl rfl (m_isIn hn0 (by omega) (by omega)) ?_
    refine r_if_eqB (tgt := 46) dX12_pour_31 rfl (fun c31 => ?_) (fun c31 => ?_)
    · have d31 := of_decide_eq_false c31
      refine r_iconst dX12_pour_46 ?_
      refine r_ireturn dX12_pour_47 rfl rfl rfl ?_
      refine ⟨rfl, _, rfl, ?_⟩
      unfold pourF
      first | (rw [if_pos (by rw [← hr]; omega)]; exact ⟨rfl, h3⟩) | (rw [if_neg (by rw [← hr]; omega)]; exact ⟨rfl, hI, Kp.rf _ _, rfl⟩)
    · have d31 := of_decide_eq_true c31
      refine r_aload_n dX12_pour_34 rfl ?_
      refine r_bipush dX12_pour_35 (by decide) ?_
      refine r_iload_n dX12_pour_37 rfl ?_
      refine r_iadd dX12_pour_38 ?_
      refine r_iload_n dX12_pour_39 rfl ?_
      refine r_cV2I dX12_pour_40 ml_X12_231 yl_X12_sets0 ⟨rfl, rfl⟩ (by assumption) ⟨_, rfl⟩ rfl rfl rfl rfl (m_sets0 hI (j := 51 + b) (by omega) hn0 (by rw [← hr]; omega)) ?_
      rintro x μ3 ⟨rfl, h3⟩
      refine r_goto (tgt := 47) dX12_pour_43 rfl ?_
      refine r_ireturn dX12_pour_47 rfl rfl rfl ?_
      refine ⟨rfl, _, rfl, ?_⟩
      unfold pourF
      first | (rw [if_pos (by rw [← hr]; omega)]; exact ⟨rfl, h3⟩) | (rw [if_neg (by rw [← hr]; omega)]; exact ⟨rfl, hI, Kp.rf _ _, rfl⟩)
theorem m_weigh {sh : Sh} {μ : Mem} {m : Nat} {G : Gh} (hI : InM sh m μ G) (hw : WF (gRow G)) {k w : Int} (hk : -2147483648 ≤ k ∧ k < 2147483648) (hw0 : -2147483648 ≤ w ∧ w < 2147483648)  : IMet yX12_weigh gX12_weigh sh [vR m, vI k, vI w] μ (fun x μ2 => x = (weighF G k w).1 ∧ MS sh m μ μ2 (weighF G k w).2) := by
  have hM := hI.1
  obtain ⟨g0, f1, z1, f2, z2, f3, z3, f4, z4, f5, z5, f6, z6, f7, z7, f8, z8, f9, z9, f10, z10, f11, z11, f12, z12, f13, z13, f14, z14⟩ := id hM
  have u5 := hI.2.2.1.2.1
  have u8 := hI.2.2.1.1
  have hr := hI.2.1.1
  have hwm : WF (μ.1 (m + 1)) := by rw [hr]; exact hw
  have hwl := hwm.wl
  have hn := hwm.1.1
  unfold WFn at hn
  refine AMet.of (by decide) rfl (by decide) rfl ?_
  refine r_aload_n dX12_weigh_0 rfl ?_
  refine r_iload_n dX12_weigh_1 rfl ?_
  refine r_cV1F1 dX12_weigh_2 ml_X12_216 yl_X12_isPallet ⟨rfl, rfl⟩ (by assumption) ⟨_, rfl⟩ rfl rfl rfl rfl (m_isPallet hM hwl hk) ?_
  refine r_if_eqB (tgt := 30) dX12_weigh_5 rfl (fun c5 => ?_) (fun c5 => ?_)
  · have d5 := of_decide_eq_false c5
    refine r_iconst dX12_weigh_30 ?_
    refine r_ireturn dX12_weigh_31 rfl rfl rfl ?_
    refine ⟨rfl, _, rfl, ?_⟩
    unfold weighF palG
    first | (rw [if_pos (by rw [← hr]; omega)]; exact ⟨rfl, h3⟩) | (rw [if_neg (by rw [← hr]; omega)]; exact ⟨rfl, hI, Kp.rf _ _, rfl⟩)
  · have d5 := of_decide_eq_true c5
    have q := (hwm.2.2.1 k (by omega) (by omega)).1
    refine r_iload_n dX12_weigh_8 rfl ?_
    refine r_iconst dX12_weigh_9 ?_
    refine r_bipush dX12_weigh_10 (by decide) ?_
    refine r_cS3F1 dX12_weigh_12 ml_X12_73 yl_X12_isIn ⟨rfl, rfl⟩ rfl rfl rfl rfl (m_isIn hw0 (by omega) (by omega)) ?_
    refine r_if_eqB (tgt := 30) dX12_weigh_15 rfl (fun c15 => ?_) (fun c15 => ?_)
    · have d15 := of_decide_eq_false c15
      refine r_iconst dX12_weigh_30 ?_
      refine r_ireturn dX12_weigh_31 rfl rfl rfl ?_
      refine ⟨rfl, _, rfl, ?_⟩
      unfold weighF palG
      first | (rw [if_pos (by rw [← hr]; omega)]; exact ⟨rfl, h3⟩) | (rw [if_neg (by rw [← hr]; omega)]; exact ⟨rfl, hI, Kp.rf _ _, rfl⟩)
    · have d15 := of_decide_eq_true c15
      refine r_aload_n dX12_weigh_18 rfl ?_
      refine r_bipush dX12_weigh_19 (by decide) ?_
      refine r_iload_n dX12_weigh_21 rfl ?_
      refine r_iadd dX12_weigh_22 ?_
      refine r_iload_n dX12_weigh_23 rfl ?_
      refine r_cV2I dX12_weigh_24 ml_X12_231 yl_X12_sets0 ⟨rfl, rfl⟩ (by assumption) ⟨_, rfl⟩ rfl rfl rfl rfl (m_sets0 hI (j := 83 + k) (by omega) hw0 (by rw [← hr]; omega)) ?_
      rintro x μ3 ⟨rfl, h3⟩
      refine r_goto (tgt := 31) dX12_weigh_27 rfl ?_
      refine r_ireturn dX12_weigh_31 rfl rfl rfl ?_
      refine ⟨rfl, _, rfl, ?_⟩
      unfold weighF palG
      first | (rw [if_pos (by rw [← hr]; omega)]; exact ⟨rfl, h3⟩) | (rw [if_neg (by rw [← hr]; omega)]; exact ⟨rfl, hI, Kp.rf _ _, rfl⟩)
theorem InM.cp {sh : Sh} {m : Nat} {μ : Mem} {G : Gh} (h : InM sh m μ G) (s : Nat) (a : Int) : (cpK μ s a (m + 1) 0 143).1 (m + 1) = cut (μ.1 s) a := cp_row (by rw [h.2.1.1]; exact h.2.1.2)
theorem cp_ne {μ : Mem} {s d q : Nat} {a b n : Int} (h : q ≠ d) : (cpK μ s a d b n).1 q = μ.1 q := funext fun j => ifn h
theorem m_undo {sh : Sh} {μ : Mem} {m : Nat} {G : Gh} (hI : InM sh m μ G)  : IMet yX12_undo gX12_undo sh [vR m] μ (fun x μ2 => x = (undoF G).1 ∧ MS sh m μ μ2 (undoF G).2) := by
  have hM := hI.1
  obtain ⟨g0, f1, z1, f2, z2, f3, z3, f4, z4, f5, z5, f6, z6, f7, z7, f8, z8, f9, z9, f10, z10, f11, z11, f12, z12, f13, z13, f14, z14⟩ := id hM
  have u5 := hI.2.2.1.2.1
  have u8 := hI.2.2.1.1
  have hr := hI.2.1.1
  rcases hus : gUnd G with _ | ⟨u, t⟩
  · have e0 : μ.1 m 5 = 0 := by rw [u5, hus]; rfl
    refine AMet.of (by decide) rfl (by decide) rfl ?_
    refine r_aload_n dX12_undo_0 rfl ?_
    refine r_getI dX12_undo_1 fl_X12_191 rfl (by assumption) ?_
    refine q_if_ne (tgt := 9) dX12_undo_4 rfl (by omega) (fun c4 => ?_) (fun c4 => ?_)
    · exact absurd e0 c4
    · refine r_iconst dX12_undo_7 ?_
      refine r_ireturn dX12_undo_8 rfl rfl rfl ?_
      refine ⟨rfl, _, rfl, ?_⟩
      unfold undoF
      rw [hus]
      exact ⟨rfl, hI, Kp.rf _ _, rfl⟩
  · have e0 : μ.1 m 5 = t.length + 1 := by rw [u5, hus]; rfl
    have e7 : t.length ≤ 7 := by rw [hus] at u8; exact Nat.le_of_succ_le_succ u8
    have e1 : (setI μ m 5 (μ.1 m 5 - 1)).1 m 5 = t.length := by simp [setI]; omega
    have e2 : (cpK (setI μ m 5 (μ.1 m 5 - 1)) (m + 4) (143 * t.length) (m + 1) 0 143).1 m 5 = t.length := by simp [cpK, setI]; omega
    have hu := hI.2.2.1.2.2
    rw [hus] at hu
    have hu0 := hu 0 u rfl
    rw [show 143 * (((u :: t).length : Nat) - 1 - ((0 : Nat) : Int)) = 143 * t.length by simp] at hu0
    refine AMet.of (by decide) rfl (by decide) rfl ?_
    refine r_aload_n dX12_undo_0 rfl ?_
    refine r_getI dX12_undo_1 fl_X12_191 rfl (by assumption) ?_
    refine q_if_ne (tgt := 9) dX12_undo_4 rfl (by omega) (fun c4 => ?_) (fun c4 => ?_)
    · refine r_aload_n dX12_undo_9 rfl ?_
      refine r_dup dX12_undo_10 rfl ?_
      refine r_getI dX12_undo_11 fl_X12_191 rfl (by assumption) ?_
      refine r_iconst dX12_undo_14 ?_
      refine r_isub dX12_undo_15 ?_
      refine r_putI dX12_undo_16 fl_X12_191 (by assumption) ?_
      refine r_aload_n dX12_undo_19 rfl ?_
      refine r_getR dX12_undo_20 fl_X12_19 rfl (by assumption) (by assumption) ?_
      refine r_sipush dX12_undo_23 (by decide) ?_
      refine r_aload_n dX12_undo_26 rfl ?_
      refine r_getI dX12_undo_27 fl_X12_191 rfl (by assumption) ?_
      rw [e1]
      refine r_imul dX12_undo_30 ?_
      refine r_aload_n dX12_undo_31 rfl ?_
      refine r_getR dX12_undo_32 fl_X12_7 rfl (by assumption) (by assumption) ?_
      refine r_iconst dX12_undo_35 ?_
      refine r_cS4F0 dX12_undo_36 ml_X12_187 yl_X12_copies ⟨rfl, rfl⟩ rfl rfl rfl rfl (m_copies (s := m + 4) (d := m + 1) z4 z1 rfl rfl (by omega) (by omega) (by omega)) ?_
      refine r_aload_n dX12_undo_39 rfl ?_
      refine r_getI dX12_undo_40 fl_X12_191 rfl (by assumption) ?_
      rw [e2]
      refine r_ireturn dX12_undo_43 rfl rfl rfl ?_
      refine ⟨rfl, _, rfl, ?_⟩
      unfold undoF
      rw [hus]
      generalize hm3 : cpK (setI μ m 5 (μ.1 m 5 - 1)) (m + 4) (143 * t.length) (m + 1) 0 143 = μ3 at e2 ⊢
      have hm3 := hm3.symm
      have hk4 : Kp (fun a => a ≠ m ∧ a ≠ m + 1) μ μ3 := by rw [hm3]; exact ((Kp.rf _ μ).sI (by omega)).cp (by omega)
      have hk5 : ∀ i, i ≠ 5 → μ3.1 m i = μ.1 m i := by
        intro i hi
        rw [hm3]
        simp [cpK, setI, hi]
      obtain ⟨i0, ⟨i1, i2⟩, i3, ⟨i4, i5⟩, i6, i7, i8⟩ := hI
      refine ⟨rfl, ⟨by rw [hm3]; exact hM, ⟨?_, ?_⟩, ⟨Nat.le_succ_of_le e7, e2, fun q x hx => ?_⟩, ⟨i4.mono (hk4 _ (by (try dsimp only); omega)).1 (hk4 _ (by (try dsimp only); omega)).1, i5.mono (hk4 _ (by (try dsimp only); omega)).1 (hk4 _ (by (try dsimp only); omega)).1⟩, i6.mono (hk5 7 (by decide)) (hk4 _ (by (try dsimp only); omega)).1, (hk5 14 (by decide)).trans i7, i8.mono (hk5 33 (by decide)) (hk4 _ (by (try dsimp only); omega)).1⟩, hk4.mono (fun q hq => by (try dsimp only at *); omega), by rw [hm3]; rfl⟩
      · rw [hm3, cp_row (by rw [setI_ne (by omega), i1]; exact i2), setI_ne (by omega)]
        exact hu0
      · rw [← hu0]
        exact cut_z _ _
      · rw [(hk4 _ (by (try dsimp only); omega)).1]
        have := hu (q + 1) x (by rw [List.getElem?_cons_succ]; exact hx)
        rw [← this]
        exact congrArg _ (by simp only [List.length_cons]; show 143 * ((t.length : Int) - 1 - q) = _; omega)
    · exact absurd c4 (by omega)
theorem m_image {sh : Sh} {μ : Mem} {m : Nat} {G : Gh} (hI : InM sh m μ G) {k : Int} (hk : -2147483648 ≤ k ∧ k < 2147483648)  : IMet yX12_image gX12_image sh [vR m, vI k] μ (fun x μ2 => x = (imageF G k).1 ∧ MS sh m μ μ2 (imageF G k).2) := by
  have hM := hI.1
  obtain ⟨g0, f1, z1, f2, z2, f3, z3, f4, z4, f5, z5, f6, z6, f7, z7, f8, z8, f9, z9, f10, z10, f11, z11, f12, z12, f13, z13, f14, z14⟩ := id hM
  have u5 := hI.2.2.1.2.1
  have u8 := hI.2.2.1.1
  have hr := hI.2.1.1
  refine AMet.of (by decide) rfl (by decide) rfl ?_
  refine r_iload_n dX12_image_0 rfl ?_
  refine r_iconst dX12_image_1 ?_
  refine r_iconst dX12_image_2 ?_
  refine r_cS3F1 dX12_image_3 ml_X12_73 yl_X12_isIn ⟨rfl, rfl⟩ rfl rfl rfl rfl (m_isIn hk (by omega) (by omega)) ?_
  refine r_if_neB (tgt := 11) dX12_image_6 rfl (fun c6 => ?_) (fun c6 => ?_)
  · have d6 := of_decide_eq_true c6
    refine r_aload_n dX12_image_11 rfl ?_
    refine r_getR dX12_image_12 fl_X12_7 rfl (by assumption) (by assumption) ?_
    refine r_iconst dX12_image_15 ?_
    refine r_aload_n dX12_image_16 rfl ?_
    refine r_getR dX12_image_17 fl_X12_16 rfl (by assumption) (by assumption) ?_
    refine r_sipush dX12_image_20 (by decide) ?_
    refine r_iload_n dX12_image_23 rfl ?_
    refine r_imul dX12_image_24 ?_
    refine r_cS4F0 dX12_image_25 ml_X12_187 yl_X12_copies ⟨rfl, rfl⟩ rfl rfl rfl rfl (m_copies (s := m + 1) (d := m + 3) z1 z3 rfl rfl (by omega) (by omega) (by omega)) ?_
    refine r_aload_n dX12_image_28 rfl ?_
    refine r_getR dX12_image_29 fl_X12_22 rfl (by assumption) (by assumption) ?_
    refine r_iload_n dX12_image_32 rfl ?_
    refine r_iconst dX12_image_33 ?_
    refine r_zast dX12_image_34 (by assumption) rfl (by omega) (by first | exact Or.inl rfl | exact Or.inr rfl | exact b2i_01 _ | omega) ?_
    refine r_iconst dX12_image_35 ?_
    refine r_zreturn dX12_image_36 (by first | exact Or.inl rfl | exact Or.inr rfl | exact b2i_01 _ | omega) rfl rfl rfl ?_
    generalize hm3 : setI (cpK μ (m + 1) 0 (m + 3) (143 * k) 143) (m + 5) k 1 = μ3
    have hm3 := hm3.symm
    have hk4 : Kp (fun a => a ≠ m + 3 ∧ a ≠ m + 5) μ μ3 := by rw [hm3]; exact ((Kp.rf _ μ).cp (by omega)).sI (by omega)
    obtain ⟨i0, ⟨i1, i2⟩, i3, ⟨i4, i5⟩, i6, i7, i8⟩ := hI
    have hk5 : ∀ i, μ3.1 m i = μ.1 m i := congrFun (hk4 m (by (try dsimp only); omega)).1
    have j5 : ∀ j, j ≠ k → μ3.1 (m + 5) j = μ.1 (m + 5) j := by
      intro j hj
      rw [hm3]
      simp [setI, cpK, hj]
    have j3 : ∀ j, j ≠ k → 0 ≤ j → j ≤ 1 → cut (μ3.1 (m + 3)) (143 * j) = cut (μ.1 (m + 3)) (143 * j) := by
      intro j hj j0 j1
      rw [hm3, setI_ne (by omega), cut_cp_ne (by omega)]
    have hold : ∀ (j : Int) (oo : Option Row), j ≠ k → 0 ≤ j → j ≤ 1 → ImgM m μ j oo → ImgM m μ3 j oo := by
      intro j oo hj j0 j1 h
      cases oo with
      | none => unfold ImgM at *; rw [j5 j hj]; exact h
      | some ρ => unfold ImgM at *; rw [j5 j hj, j3 j hj j0 j1]; exact h
    have hnew : ImgM m μ3 k (some (gRow G)) := by
      refine ⟨?_, ?_⟩
      · rw [hm3]; simp [setI, nz]
      · rw [hm3, setI_ne (by omega), cut_cp, i1, cut_id i2]
    have hkp : Kp (fun a => a < m) μ μ3 := hk4.mono (fun q hq => by (try dsimp only at *); omega)
    have r1 : μ3.2 = μ.2 := by rw [hm3]; rfl
    have r2 := i3.mono (μ2 := μ3) (hk5 5) (hk4 _ (by (try dsimp only); omega)).1
    have r3 := i6.mono (μ2 := μ3) (hk5 7) (hk4 _ (by (try dsimp only); omega)).1
    have r4 := i8.mono (μ2 := μ3) (hk5 33) (hk4 _ (by (try dsimp only); omega)).1
    have r5 : IsModel sh μ3.2.2 m := by rw [r1]; exact hM
    have r6 : μ3.1 (m + 1) = gRow G := (hk4 _ (by (try dsimp only); omega)).1.trans i1
    refine ⟨rfl, _, rfl, ?_⟩
    unfold imageF
    rcases (show k = 0 ∨ k = 1 by omega) with rfl | rfl
    · exact ⟨rfl, ⟨r5, ⟨r6, i2⟩, r2, ⟨hnew, hold 1 _ (by decide) (by decide) (by decide) i5⟩, r3, (hk5 14).trans i7, r4⟩, hkp, r1⟩
    · exact ⟨rfl, ⟨r5, ⟨r6, i2⟩, r2, ⟨hold 0 _ (by decide) (by decide) (by decide) i4, hnew⟩, r3, (hk5 14).trans i7, r4⟩, hkp, r1⟩
  · have d6 := of_decide_eq_false c6
    refine r_iconst dX12_image_9 ?_
    refine r_zreturn dX12_image_10 (by first | exact Or.inl rfl | exact Or.inr rfl | exact b2i_01 _ | omega) rfl rfl rfl ?_
    refine ⟨rfl, _, rfl, ?_⟩
    unfold imageF
    rw [if_neg (by omega), if_neg (by omega)]
    exact ⟨rfl, hI, Kp.rf _ _, rfl⟩
theorem InM.img {sh : Sh} {m : Nat} {μ : Mem} {G : Gh} (h : InM sh m μ G) {k : Int} (hk : 0 ≤ k ∧ k ≤ 1) : ImgM m μ k (if k = 0 then gI0 G else if k = 1 then gI1 G else none : Option Row) := by
  rcases (show k = 0 ∨ k = 1 by omega) with rfl | rfl
  · exact h.2.2.2.1.1
  · exact h.2.2.2.1.2
theorem m_restore {sh : Sh} {μ : Mem} {m : Nat} {G : Gh} (hI : InM sh m μ G) {k : Int} (hk : -2147483648 ≤ k ∧ k < 2147483648)  : IMet yX12_restore gX12_restore sh [vR m, vI k] μ (fun x μ2 => x = (restF G k).1 ∧ MS sh m μ μ2 (restF G k).2) := by
  have hM := hI.1
  obtain ⟨g0, f1, z1, f2, z2, f3, z3, f4, z4, f5, z5, f6, z6, f7, z7, f8, z8, f9, z9, f10, z10, f11, z11, f12, z12, f13, z13, f14, z14⟩ := id hM
  have u5 := hI.2.2.1.2.1
  have u8 := hI.2.2.1.1
  have hr := hI.2.1.1
  refine AMet.of (by decide) rfl (by decide) rfl ?_
  refine r_iload_n dX12_restore_0 rfl ?_
  refine r_iconst dX12_restore_1 ?_
  refine r_iconst dX12_restore_2 ?_
  refine r_cS3F1 dX12_restore_3 ml_X12_73 yl_X12_isIn ⟨rfl, rfl⟩ rfl rfl rfl rfl (m_isIn hk (by omega) (by omega)) ?_
  refine r_if_eqB (tgt := 18) dX12_restore_6 rfl (fun c6 => ?_) (fun c6 => ?_)
  · have d6 := of_decide_eq_false c6
    refine r_iconst dX12_restore_18 ?_
    refine r_zreturn dX12_restore_19 (by first | exact Or.inl rfl | exact Or.inr rfl | exact b2i_01 _ | omega) rfl rfl rfl ?_
    refine ⟨rfl, _, rfl, ?_⟩
    unfold restF
    first
      | (rw [if_neg (show ¬ k = 0 by omega), if_neg (show ¬ k = 1 by omega)]; exact ⟨rfl, hI, Kp.rf _ _, rfl⟩)
      | (revert him; generalize (if k = 0 then gI0 G else if k = 1 then gI1 G else none : Option Row) = oo; intro him; cases oo with
         | none => exact ⟨rfl, hI, Kp.rf _ _, rfl⟩
         | some ρ => exact absurd c15 (by rw [him.1]; decide))
  · have d6 := of_decide_eq_true c6
    have him := hI.img d6
    refine r_aload_n dX12_restore_9 rfl ?_
    refine r_getR dX12_restore_10 fl_X12_22 rfl (by assumption) (by assumption) ?_
    refine r_iload_n dX12_restore_13 rfl ?_
    refine r_zald dX12_restore_14 (by assumption) rfl (by omega) ?_
    refine q_if_ne (tgt := 20) dX12_restore_15 rfl (by unfold nz; split <;> omega) (fun c15 => ?_) (fun c15 => ?_)
    · refine r_aload_n dX12_restore_20 rfl ?_
      refine r_getR dX12_restore_21 fl_X12_16 rfl (by assumption) (by assumption) ?_
      refine r_sipush dX12_restore_24 (by decide) ?_
      refine r_iload_n dX12_restore_27 rfl ?_
      refine r_imul dX12_restore_28 ?_
      refine r_aload_n dX12_restore_29 rfl ?_
      refine r_getR dX12_restore_30 fl_X12_7 rfl (by assumption) (by assumption) ?_
      refine r_iconst dX12_restore_33 ?_
      refine r_cS4F0 dX12_restore_34 ml_X12_187 yl_X12_copies ⟨rfl, rfl⟩ rfl rfl rfl rfl (m_copies (s := m + 3) (d := m + 1) z3 z1 rfl rfl (by omega) (by omega) (by omega)) ?_
      refine r_aload_n dX12_restore_37 rfl ?_
      refine r_iconst dX12_restore_38 ?_
      refine r_putI dX12_restore_39 fl_X12_191 (by assumption) ?_
      refine r_iconst dX12_restore_42 ?_
      refine r_zreturn dX12_restore_43 (by first | exact Or.inl rfl | exact Or.inr rfl | exact b2i_01 _ | omega) rfl rfl rfl ?_
      refine ⟨rfl, _, rfl, ?_⟩
      unfold restF
      revert him
      generalize (if k = 0 then gI0 G else if k = 1 then gI1 G else none : Option Row) = oo
      intro him
      cases oo with
      | none => exact absurd him c15
      | some ρ =>
        generalize hm3 : setI (cpK μ (m + 3) (143 * k) (m + 1) 0 143) m 5 0 = μ3
        have hm3 := hm3.symm
        have hk4 : Kp (fun a => a ≠ m ∧ a ≠ m + 1) μ μ3 := by rw [hm3]; exact ((Kp.rf _ μ).cp (by omega)).sI (by omega)
        have hk5 : ∀ i, i ≠ 5 → μ3.1 m i = μ.1 m i := by
          intro i hi
          rw [hm3]
          simp [cpK, setI, hi]
        obtain ⟨i0, ⟨i1, i2⟩, i3, ⟨i4, i5⟩, i6, i7, i8⟩ := hI
        refine ⟨rfl, ⟨by rw [hm3]; exact hM, ⟨?_, ?_⟩, ⟨Nat.zero_le _, Eq.trans (b := (0 : Int)) (by rw [hm3]; simp [setI]) rfl, fun q x hx => absurd (show ([] : List Row)[q]? = some x from hx) (by simp)⟩, ⟨i4.mono (hk4 _ (by (try dsimp only); omega)).1 (hk4 _ (by (try dsimp only); omega)).1, i5.mono (hk4 _ (by (try dsimp only); omega)).1 (hk4 _ (by (try dsimp only); omega)).1⟩, i6.mono (hk5 7 (by decide)) (hk4 _ (by (try dsimp only); omega)).1, (hk5 14 (by decide)).trans i7, i8.mono (hk5 33 (by decide)) (hk4 _ (by (try dsimp only); omega)).1⟩, hk4.mono (fun q hq => by (try dsimp only at *); omega), by rw [hm3]; rfl⟩
        · rw [hm3, setI_ne (by omega), cp_row (by rw [i1]; exact i2)]
          exact him.2
        · have := him.2
          rw [← this]
          exact cut_z _ _
    · refine r_iconst dX12_restore_18 ?_
      refine r_zreturn dX12_restore_19 (by first | exact Or.inl rfl | exact Or.inr rfl | exact b2i_01 _ | omega) rfl rfl rfl ?_
      refine ⟨rfl, _, rfl, ?_⟩
      unfold restF
      first
        | (rw [if_neg (show ¬ k = 0 by omega), if_neg (show ¬ k = 1 by omega)]; exact ⟨rfl, hI, Kp.rf _ _, rfl⟩)
        | (revert him; generalize (if k = 0 then gI0 G else if k = 1 then gI1 G else none : Option Row) = oo; intro him; cases oo with
           | none => exact ⟨rfl, hI, Kp.rf _ _, rfl⟩
           | some ρ => exact absurd c15 (by rw [him.1]; decide))
def wRow (μ : Mem) (m : Nat) (ρ : Row) : Mem := (fun q => if q = m + 1 then ρ else μ.1 q, μ.2)
theorem wRow_id {μ : Mem} {m : Nat} {ρ : Row} (h : μ.1 (m + 1) = ρ) : wRow μ m ρ = μ := by
  refine Prod.ext (funext fun q => ?_) rfl
  simp only [wRow]
  split
  · rename_i e; rw [e, h]
  · rfl
theorem wRow_row {μ : Mem} {m : Nat} {ρ : Row} : (wRow μ m ρ).1 (m + 1) = ρ := by simp [wRow]
theorem wRow_ne {μ : Mem} {m q : Nat} {ρ : Row} (h : q ≠ m + 1) : (wRow μ m ρ).1 q = μ.1 q := by simp [wRow, h]
theorem wRow_set {μ : Mem} {m : Nat} {ρ : Row} {i x : Int} : setI (wRow μ m ρ) (m + 1) i x = wRow μ m (rset ρ i x) := by
  refine Prod.ext (funext fun q => funext fun j => ?_) rfl
  simp only [wRow, setI, rset]
  by_cases h : q = m + 1
  · subst h
    by_cases h2 : j = i
    · simp [h2, rset_eq]
    · simp [h2, rset_ne h2]
  · simp [h]
theorem wRow_w {μ : Mem} {m : Nat} {ρ ρ2 : Row} : wRow (wRow μ m ρ) m ρ2 = wRow μ m ρ2 := by
  refine Prod.ext (funext fun q => ?_) rfl
  simp only [wRow]
  split <;> rfl
theorem Kp.wr {S : Nat → Prop} {μ μ2 : Mem} {m : Nat} {ρ : Row} (h1 : Kp S μ μ2) (h : ¬ S (m + 1)) : Kp S μ (wRow μ2 m ρ) := h1.tr fun q hq => ⟨if_neg (fun e : q = m + 1 => h (e ▸ hq)), rfl, rfl⟩
theorem InM.wr {sh : Sh} {m : Nat} {μ : Mem} {G : Gh} (h : InM sh m μ G) {ρ : Row} (hz : ∀ j, ¬ (0 ≤ j ∧ j < 143) → ρ j = 0) : InM sh m (wRow μ m ρ) (setRow G ρ) :=
  h.mcR (McR.kp ((Kp.rf _ _).wr (by omega))) h.1 wRow_row hz
/-- the row with some of the name's letters moved -/
def mvN (ρ σ : Row) (a b k : Int) : Row := fun j => if j = 83 + b then σ (83 + a) else if j = 88 + b then σ (88 + a) else if j = 93 + b then σ (93 + a) else if j = 98 + b then σ (98 + a) else if 103 + 8 * b ≤ j ∧ j < 103 + 8 * b + k then σ (103 + 8 * a + (j - (103 + 8 * b))) else ρ j
theorem mvN_0 {ρ σ : Row} {a b : Int} (hb : 0 ≤ b ∧ b < 5) : rset (rset (rset (rset ρ (83 + b) (σ (83 + a))) (88 + b) (σ (88 + a))) (93 + b) (σ (93 + a))) (98 + b) (σ (98 + a)) = mvN ρ σ a b 0 := by
  funext j
  unfold mvN rset
  by_cases h1 : j = 83 + b
  · rw [if_neg (by omega), if_neg (by omega), if_neg (by omega), if_pos h1, if_pos h1]
  · by_cases h2 : j = 88 + b
    · rw [if_neg (by omega), if_neg (by omega), if_pos h2, if_neg h1, if_pos h2]
    · by_cases h3 : j = 93 + b
      · rw [if_neg (by omega), if_pos h3, if_neg h1, if_neg h2, if_pos h3]
      · by_cases h4 : j = 98 + b
        · rw [if_pos h4, if_neg h1, if_neg h2, if_neg h3, if_pos h4]
        · rw [if_neg h4, if_neg h3, if_neg h2, if_neg h1, if_neg h1, if_neg h2, if_neg h3, if_neg h4, if_neg (by omega)]
theorem mvN_s {ρ σ : Row} {a b k : Int} (hb : 0 ≤ b ∧ b < 5) (hk : 0 ≤ k ∧ k < 8) : rset (mvN ρ σ a b k) (103 + 8 * b + k) (σ (103 + 8 * a + k)) = mvN ρ σ a b (k + 1) := by
  funext j
  unfold rset
  by_cases h : j = 103 + 8 * b + k
  · rw [if_pos h]
    unfold mvN
    rw [if_neg (by omega), if_neg (by omega), if_neg (by omega), if_neg (by omega), if_pos (by omega)]
    exact congrArg _ (by omega)
  · rw [if_neg h]
    unfold mvN
    by_cases h5 : 103 + 8 * b ≤ j ∧ j < 103 + 8 * b + k
    · rw [if_pos h5, if_pos (show 103 + 8 * b ≤ j ∧ j < 103 + 8 * b + (k + 1) by omega)]
    · rw [if_neg h5, if_neg (show ¬ (103 + 8 * b ≤ j ∧ j < 103 + 8 * b + (k + 1)) by omega)]
