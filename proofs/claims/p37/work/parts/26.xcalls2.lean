/-! 26.xcalls2: taken from whole (wip/p37/port.py) -/
variable {n_ : Sh}
/-! 26.xcalls2: the class's calls that change its cargo, second part (wip/whole/src/26_xcalls2.py) -/
theorem x_put {μ : Mem} {G : Gh} {p pd c cd : Nat} (hX : InX n_ μ G p pd c cd) {k s : Int} (hk : -2147483648 ≤ k ∧ k < 2147483648) (hs : -2147483648 ≤ s ∧ s < 2147483648)  : IMet yX11_put gX11_put (SH n_) [vR 0, vI k, vI s] μ (fun x μ2 => x = (putF G k s).1 ∧ XS n_ μ μ2 G (putF G k s).2 p pd c cd) := by
  obtain ⟨hL, hPos, ⟨hP, hC, hw, h99⟩, hH, ⟨hi0, hi1⟩, hT, hFk, hTm⟩ := id hX
  obtain ⟨hp0, hc0, r2, r3, r4, r5⟩ := id hPos
  have rr0 := hL.r0_0
  have rr6 := hL.r0_6
  have rr7 := hL.r0_7
  have rr8 := hL.r0_8
  have rr9 := hL.r0_9
  have rr10 := hL.r0_10
  have rt := hL.r1_0
  have x0 : (SH n_)[0]? = some (10, 11) := rfl
  have x1 : (SH n_)[1]? = some (6, 4) := rfl
  have x2 : (SH n_)[2]? = some (8, 7) := rfl
  have x62 : (SH n_)[62]? = some (2, 3) := rfl
  have x172 : (SH n_)[172]? = some (7, 15) := rfl
  obtain ⟨hIC, e0, e5, e51, e52, eC⟩ := id hC
  obtain ⟨h0, h1, h2, h3, h4, h6, s1, s2, s3, s4, s5⟩ := id hIC
  obtain ⟨hIP, p0, p1, p2, p3, p4, pb, hF, hV⟩ := id hP
  obtain ⟨i0, i5, i6, i7, i8, j1, j2, hIF0, hIV0⟩ := id hIP
  have hIF1 := hIF0.1
  have hIV1 := hIV0.1
  have hn := hw.1.1
  unfold WFn at hn
  have hwl := hw.wl
  have hc5 : c = 50 ∨ c = 56 := by omega
  have hon := onF_rng (ρ := gRow G) (by omega) s
  refine AMet.of (by decide) rfl (by decide) rfl ?_
  refine r_aload_n dX11_put_0 rfl ?_
  refine r_getR dX11_put_1 fl_X11_29 rfl (by assumption) (by assumption) ?_
  refine r_iload_n dX11_put_4 rfl ?_
  refine r_cV1F1 dX11_put_5 ml_X11_144 yl_X0_has ⟨rfl, rfl⟩ (by assumption) ⟨_, rfl⟩ rfl rfl rfl rfl (c_hasR hC (by omega) hk) ?_
  refine r_if_eqB (tgt := 25) dX11_put_8 rfl (fun c8 => ?_) (fun c8 => ?_)
  · have d8 := of_decide_eq_false c8
    refine r_iconst dX11_put_25 ?_
    refine r_ireturn dX11_put_26 rfl rfl rfl ?_
    refine ⟨rfl, _, rfl, ?_⟩
    unfold putF palG
    rw [if_pos (by omega)]
    exact ⟨rfl, XS.rf hX⟩
  · have d8 := of_decide_eq_true c8
    refine r_aload_n dX11_put_11 rfl ?_
    refine r_getR dX11_put_12 fl_X11_19 rfl (by assumption) (by assumption) ?_
    refine r_getR dX11_put_15 fl_X11_97 rfl (by assumption) (by assumption) ?_
    refine r_iload_n dX11_put_18 rfl ?_
    refine r_cV1F1 dX11_put_19 ml_X11_173 yl_X1_hasSpot ⟨rfl, rfl⟩ (by assumption) ⟨_, rfl⟩ rfl rfl rfl rfl (c_hasSpot hF hw.1.1 hs) ?_
    refine r_if_neB (tgt := 27) dX11_put_22 rfl (fun c22 => ?_) (fun c22 => ?_)
    · have d22 := of_decide_eq_true c22
      refine r_aload_n dX11_put_27 rfl ?_
      refine r_getR dX11_put_28 fl_X11_29 rfl (by assumption) (by assumption) ?_
      refine r_iload_n dX11_put_31 rfl ?_
      refine r_cV1F1 dX11_put_32 ml_X11_185 yl_X0_lyingOn ⟨rfl, rfl⟩ (by assumption) ⟨_, rfl⟩ rfl rfl rfl rfl (c_lyingOnR hC hwl (by omega)) ?_
      refine r_istore_n dX11_put_35 rfl ?_
      refine r_iload_n dX11_put_36 rfl ?_
      refine r_iload_n dX11_put_37 rfl ?_
      refine q_icmp_ne (tgt := 43) dX11_put_38 rfl (by omega) (by omega) (fun c38 => ?_) (fun c38 => ?_)
      · refine r_iload_n dX11_put_43 rfl ?_
        refine r_iconst dX11_put_44 ?_
        refine q_icmp_eq (tgt := 50) dX11_put_45 rfl (by omega) (by omega) (fun c45 => ?_) (fun c45 => ?_)
        · refine r_aload_n dX11_put_50 rfl ?_
          refine r_getR dX11_put_51 fl_X11_39 rfl (by assumption) (by assumption) ?_
          refine r_aload_n dX11_put_54 rfl ?_
          refine r_getR dX11_put_55 fl_X11_29 rfl (by assumption) (by assumption) ?_
          refine r_cV1F0 dX11_put_58 ml_X11_213 yl_X2_keep ⟨rfl, rfl⟩ (by assumption) ⟨_, rfl⟩ rfl rfl rfl rfl (c_keep hL hc5 hIC hH.2.2.1 (by have := hH.2.1; have := hH.1; omega)) ?_
          have hCk : RelC (SH n_) (kpX μ c) c (gRow G) := hC.mono ((Kp.rf _ μ).kx (fun q q0 q1 => by (try dsimp only); omega) hH.2.2.1)
          have hHk := hH.keep hL hc5 hC hw h99
          have hKk : Kp (fun q => ¬ (62 ≤ q ∧ q < 112)) μ (kpX μ c) := (Kp.rf _ μ).kx (fun q q0 q1 => by (try dsimp only); omega) hH.2.2.1
          refine r_aload_n dX11_put_61 rfl ?_
          refine r_getR dX11_put_62 fl_X11_29 rfl (by assumption) (by assumption) ?_
          refine r_getR dX11_put_65 fl_X11_155 rfl (by assumption) (by assumption) ?_
          refine r_iload_n dX11_put_68 rfl ?_
          refine r_iload_n dX11_put_69 rfl ?_
          refine r_iast dX11_put_70 (by assumption) rfl (by omega) ?_
          refine r_iconst dX11_put_71 ?_
          refine r_ireturn dX11_put_72 rfl rfl rfl ?_
          refine ⟨rfl, _, rfl, ?_⟩
          have kk := ((show Kp (fun q => ¬ (62 ≤ q ∧ q < 112) ∧ q ≠ c + 4) μ _ from hKk.mono (fun q hq => by (try dsimp only at *); omega)).sI (a := c + 4) (i := k) (x := s) (by (try dsimp only); omega))
          have hX2 := hX.cargo (μ2 := setI (kpX μ c) (c + 4) k (s)) (us' := (gRow G :: gUnd G).take 8) (ρ' := rset (gRow G) (93 + k) (s)) rfl (kk.mono (fun q hq => by (try dsimp only at *); omega)) (hCk.setS hw (by omega)) ((PlEq.rf _).set (by omega)) (hw.lies (by omega) (Or.inr ⟨by omega, by omega, by omega⟩)) (h99.set (by omega) (by omega) (by omega)) ((hHk.mono ((Kp.rf _ _).sI (by (try dsimp only); omega))).row ((PlEq.rf _).set (by omega)))
          unfold putF palG
          rw [if_neg (by omega), if_neg (by omega)]
          exact ⟨rfl, hX2, kk.mono (fun q hq => by (try dsimp only at *); omega), Or.inl ⟨kk.mono (fun q hq => by (try dsimp only at *); omega), fun j j1 j2 j3 => rset_ne (by omega)⟩, rfl⟩
        · refine r_iconst dX11_put_48 ?_
          refine r_ireturn dX11_put_49 rfl rfl rfl ?_
          refine ⟨rfl, _, rfl, ?_⟩
          unfold putF palG
          rw [if_neg (by omega), if_pos (by omega), if_neg (by omega)]
          exact ⟨rfl, XS.rf hX⟩
      · refine r_iconst dX11_put_41 ?_
        refine r_ireturn dX11_put_42 rfl rfl rfl ?_
        refine ⟨rfl, _, rfl, ?_⟩
        unfold putF palG
        rw [if_neg (by omega), if_pos (by omega), if_pos (by omega)]
        exact ⟨rfl, XS.rf hX⟩
    · have d22 := of_decide_eq_false c22
      refine r_iconst dX11_put_25 ?_
      refine r_ireturn dX11_put_26 rfl rfl rfl ?_
      refine ⟨rfl, _, rfl, ?_⟩
      unfold putF palG
      rw [if_pos (by omega)]
      exact ⟨rfl, XS.rf hX⟩
theorem x_off {μ : Mem} {G : Gh} {p pd c cd : Nat} (hX : InX n_ μ G p pd c cd) {k : Int} (hk : -2147483648 ≤ k ∧ k < 2147483648)  : IMet yX11_off gX11_off (SH n_) [vR 0, vI k] μ (fun x μ2 => x = (offF G k).1 ∧ XS n_ μ μ2 G (offF G k).2 p pd c cd) := by
  obtain ⟨hL, hPos, ⟨hP, hC, hw, h99⟩, hH, ⟨hi0, hi1⟩, hT, hFk, hTm⟩ := id hX
  obtain ⟨hp0, hc0, r2, r3, r4, r5⟩ := id hPos
  have rr0 := hL.r0_0
  have rr6 := hL.r0_6
  have rr7 := hL.r0_7
  have rr8 := hL.r0_8
  have rr9 := hL.r0_9
  have rr10 := hL.r0_10
  have rt := hL.r1_0
  have x0 : (SH n_)[0]? = some (10, 11) := rfl
  have x1 : (SH n_)[1]? = some (6, 4) := rfl
  have x2 : (SH n_)[2]? = some (8, 7) := rfl
  have x62 : (SH n_)[62]? = some (2, 3) := rfl
  have x172 : (SH n_)[172]? = some (7, 15) := rfl
  obtain ⟨hIC, e0, e5, e51, e52, eC⟩ := id hC
  obtain ⟨h0, h1, h2, h3, h4, h6, s1, s2, s3, s4, s5⟩ := id hIC
  obtain ⟨hIP, p0, p1, p2, p3, p4, pb, hF, hV⟩ := id hP
  obtain ⟨i0, i5, i6, i7, i8, j1, j2, hIF0, hIV0⟩ := id hIP
  have hIF1 := hIF0.1
  have hIV1 := hIV0.1
  have hn := hw.1.1
  unfold WFn at hn
  have hwl := hw.wl
  have hc5 : c = 50 ∨ c = 56 := by omega
  refine AMet.of (by decide) rfl (by decide) rfl ?_
  refine r_aload_n dX11_off_0 rfl ?_
  refine r_getR dX11_off_1 fl_X11_29 rfl (by assumption) (by assumption) ?_
  refine r_iload_n dX11_off_4 rfl ?_
  refine r_cV1F1 dX11_off_5 ml_X11_144 yl_X0_has ⟨rfl, rfl⟩ (by assumption) ⟨_, rfl⟩ rfl rfl rfl rfl (c_hasR hC (by omega) hk) ?_
  refine r_if_eqB (tgt := 24) dX11_off_8 rfl (fun c8 => ?_) (fun c8 => ?_)
  · have d8 := of_decide_eq_false c8
    refine r_iconst dX11_off_24 ?_
    refine r_ireturn dX11_off_25 rfl rfl rfl ?_
    refine ⟨rfl, _, rfl, ?_⟩
    unfold offF palG
    rw [if_neg (by omega)]
    exact ⟨rfl, XS.rf hX⟩
  · have d8 := of_decide_eq_true c8
    have q1 := (eC k (by omega) (by omega)).2.2.1
    have q2 := (hw.2.2.1 k (by omega) (by omega)).2.2.1
    refine r_aload_n dX11_off_11 rfl ?_
    refine r_getR dX11_off_12 fl_X11_29 rfl (by assumption) (by assumption) ?_
    refine r_getR dX11_off_15 fl_X11_155 rfl (by assumption) (by assumption) ?_
    refine r_iload_n dX11_off_18 rfl ?_
    refine r_iald dX11_off_19 (by assumption) rfl (by omega) ?_
    refine r_iconst dX11_off_20 ?_
    refine q_icmp_ne (tgt := 26) dX11_off_21 rfl (by omega) (by omega) (fun c21 => ?_) (fun c21 => ?_)
    · skip
      refine r_aload_n dX11_off_26 rfl ?_
      refine r_getR dX11_off_27 fl_X11_39 rfl (by assumption) (by assumption) ?_
      refine r_aload_n dX11_off_30 rfl ?_
      refine r_getR dX11_off_31 fl_X11_29 rfl (by assumption) (by assumption) ?_
      refine r_cV1F0 dX11_off_34 ml_X11_213 yl_X2_keep ⟨rfl, rfl⟩ (by assumption) ⟨_, rfl⟩ rfl rfl rfl rfl (c_keep hL hc5 hIC hH.2.2.1 (by have := hH.2.1; have := hH.1; omega)) ?_
      have hCk : RelC (SH n_) (kpX μ c) c (gRow G) := hC.mono ((Kp.rf _ μ).kx (fun q q0 q1 => by (try dsimp only); omega) hH.2.2.1)
      have hHk := hH.keep hL hc5 hC hw h99
      have hKk : Kp (fun q => ¬ (62 ≤ q ∧ q < 112)) μ (kpX μ c) := (Kp.rf _ μ).kx (fun q q0 q1 => by (try dsimp only); omega) hH.2.2.1
      refine r_aload_n dX11_off_37 rfl ?_
      refine r_getR dX11_off_38 fl_X11_29 rfl (by assumption) (by assumption) ?_
      refine r_getR dX11_off_41 fl_X11_155 rfl (by assumption) (by assumption) ?_
      refine r_iload_n dX11_off_44 rfl ?_
      refine r_iald dX11_off_45 (by assumption) rfl (by omega) ?_
      refine r_istore_n dX11_off_46 rfl ?_
      refine r_aload_n dX11_off_47 rfl ?_
      refine r_getR dX11_off_48 fl_X11_29 rfl (by assumption) (by assumption) ?_
      refine r_getR dX11_off_51 fl_X11_155 rfl (by assumption) (by assumption) ?_
      refine r_iload_n dX11_off_54 rfl ?_
      refine r_iconst dX11_off_55 ?_
      refine r_iast dX11_off_56 (by assumption) rfl (by omega) ?_
      refine r_iload_n dX11_off_57 rfl ?_
      refine r_ireturn dX11_off_58 rfl rfl rfl ?_
      refine ⟨rfl, _, rfl, ?_⟩
      have kk := ((show Kp (fun q => ¬ (62 ≤ q ∧ q < 112) ∧ q ≠ c + 4) μ _ from hKk.mono (fun q hq => by (try dsimp only at *); omega)).sI (a := c + 4) (i := k) (x := -1) (by (try dsimp only); omega))
      have hX2 := hX.cargo (μ2 := setI (kpX μ c) (c + 4) k (-1)) (us' := (gRow G :: gUnd G).take 8) (ρ' := rset (gRow G) (93 + k) (-1)) rfl (kk.mono (fun q hq => by (try dsimp only at *); omega)) (hCk.setS hw (by omega)) ((PlEq.rf _).set (by omega)) (hw.lies (by omega) (Or.inl rfl)) (h99.set (by omega) (by omega) (by omega)) ((hHk.mono ((Kp.rf _ _).sI (by (try dsimp only); omega))).row ((PlEq.rf _).set (by omega)))
      have q3 := (hCk.2.2.2.2.2 k (by omega) (by omega)).2.2.1
      unfold offF palG
      rw [if_pos (by omega)]
      exact ⟨q3, hX2, kk.mono (fun q hq => by (try dsimp only at *); omega), Or.inl ⟨kk.mono (fun q hq => by (try dsimp only at *); omega), fun j j1 j2 j3 => rset_ne (by omega)⟩, rfl⟩
    · refine r_iconst dX11_off_24 ?_
      refine r_ireturn dX11_off_25 rfl rfl rfl ?_
      refine ⟨rfl, _, rfl, ?_⟩
      unfold offF palG
      rw [if_neg (by omega)]
      exact ⟨rfl, XS.rf hX⟩
theorem x_pour {μ : Mem} {G : Gh} {p pd c cd : Nat} (hX : InX n_ μ G p pd c cd) {b n : Int} (hb : -2147483648 ≤ b ∧ b < 2147483648) (hn0 : -2147483648 ≤ n ∧ n < 2147483648)  : IMet yX11_pour gX11_pour (SH n_) [vR 0, vI b, vI n] μ (fun x μ2 => x = (pourF G b n).1 ∧ XS n_ μ μ2 G (pourF G b n).2 p pd c cd) := by
  obtain ⟨hL, hPos, ⟨hP, hC, hw, h99⟩, hH, ⟨hi0, hi1⟩, hT, hFk, hTm⟩ := id hX
  obtain ⟨hp0, hc0, r2, r3, r4, r5⟩ := id hPos
  have rr0 := hL.r0_0
  have rr6 := hL.r0_6
  have rr7 := hL.r0_7
  have rr8 := hL.r0_8
  have rr9 := hL.r0_9
  have rr10 := hL.r0_10
  have rt := hL.r1_0
  have x0 : (SH n_)[0]? = some (10, 11) := rfl
  have x1 : (SH n_)[1]? = some (6, 4) := rfl
  have x2 : (SH n_)[2]? = some (8, 7) := rfl
  have x62 : (SH n_)[62]? = some (2, 3) := rfl
  have x172 : (SH n_)[172]? = some (7, 15) := rfl
  obtain ⟨hIC, e0, e5, e51, e52, eC⟩ := id hC
  obtain ⟨h0, h1, h2, h3, h4, h6, s1, s2, s3, s4, s5⟩ := id hIC
  obtain ⟨hIP, p0, p1, p2, p3, p4, pb, hF, hV⟩ := id hP
  obtain ⟨i0, i5, i6, i7, i8, j1, j2, hIF0, hIV0⟩ := id hIP
  have hIF1 := hIF0.1
  have hIV1 := hIV0.1
  have hn := hw.1.1
  unfold WFn at hn
  have hwl := hw.wl
  have hc5 : c = 50 ∨ c = 56 := by omega
  refine AMet.of (by decide) rfl (by decide) rfl ?_
  refine r_aload_n dX11_pour_0 rfl ?_
  refine r_getR dX11_pour_1 fl_X11_19 rfl (by assumption) (by assumption) ?_
  refine r_iload_n dX11_pour_4 rfl ?_
  refine r_cV1F1 dX11_pour_5 ml_X11_192 yl_X5_hasBin ⟨rfl, rfl⟩ (by assumption) ⟨_, rfl⟩ rfl rfl rfl rfl (c_hasBin hP hw.1.1 hb) ?_
  refine r_if_eqB (tgt := 28) dX11_pour_8 rfl (fun c8 => ?_) (fun c8 => ?_)
  · have d8 := of_decide_eq_false c8
    refine r_iconst dX11_pour_28 ?_
    refine r_ireturn dX11_pour_29 rfl rfl rfl ?_
    refine ⟨rfl, _, rfl, ?_⟩
    unfold pourF
    rw [if_neg (by omega)]
    exact ⟨rfl, XS.rf hX⟩
  · have d8 := of_decide_eq_true c8
    have q1 := (pb b (by omega) (by omega)).1 (by omega)
    have q2 := (hw.2.1 b (by omega) (by omega)).1 (by omega)
    have q3 : μ.1 (c + 5) b = gRow G (51 + b) := by rcases (show b = 0 ∨ b = 1 by omega) with rfl | rfl <;> assumption
    refine r_iload_n dX11_pour_11 rfl ?_
    refine q_if_lt (tgt := 28) dX11_pour_12 rfl (by omega) (fun c12 => ?_) (fun c12 => ?_)
    · refine r_iconst dX11_pour_28 ?_
      refine r_ireturn dX11_pour_29 rfl rfl rfl ?_
      refine ⟨rfl, _, rfl, ?_⟩
      unfold pourF
      rw [if_neg (by omega)]
      exact ⟨rfl, XS.rf hX⟩
    · refine r_iload_n dX11_pour_15 rfl ?_
      refine r_aload_n dX11_pour_16 rfl ?_
      refine r_getR dX11_pour_17 fl_X11_19 rfl (by assumption) (by assumption) ?_
      refine r_getR dX11_pour_20 fl_X11_216 rfl (by assumption) (by assumption) ?_
      refine r_iload_n dX11_pour_23 rfl ?_
      refine r_iald dX11_pour_24 (by assumption) rfl (by omega) ?_
      refine q_icmp_le (tgt := 30) dX11_pour_25 rfl (by omega) (by omega) (fun c25 => ?_) (fun c25 => ?_)
      · refine r_aload_n dX11_pour_30 rfl ?_
        refine r_getR dX11_pour_31 fl_X11_29 rfl (by assumption) (by assumption) ?_
        refine r_getR dX11_pour_34 fl_X11_195 rfl (by assumption) (by assumption) ?_
        refine r_iload_n dX11_pour_37 rfl ?_
        refine r_iald dX11_pour_38 (by assumption) rfl (by omega) ?_
        refine r_iload_n dX11_pour_39 rfl ?_
        refine q_icmp_ne (tgt := 45) dX11_pour_40 rfl (by omega) (by omega) (fun c40 => ?_) (fun c40 => ?_)
        · refine r_aload_n dX11_pour_45 rfl ?_
          refine r_getR dX11_pour_46 fl_X11_39 rfl (by assumption) (by assumption) ?_
          refine r_aload_n dX11_pour_49 rfl ?_
          refine r_getR dX11_pour_50 fl_X11_29 rfl (by assumption) (by assumption) ?_
          refine r_cV1F0 dX11_pour_53 ml_X11_213 yl_X2_keep ⟨rfl, rfl⟩ (by assumption) ⟨_, rfl⟩ rfl rfl rfl rfl (c_keep hL hc5 hIC hH.2.2.1 (by have := hH.2.1; have := hH.1; omega)) ?_
          have hCk : RelC (SH n_) (kpX μ c) c (gRow G) := hC.mono ((Kp.rf _ μ).kx (fun q q0 q1 => by (try dsimp only); omega) hH.2.2.1)
          have hHk := hH.keep hL hc5 hC hw h99
          have hKk : Kp (fun q => ¬ (62 ≤ q ∧ q < 112)) μ (kpX μ c) := (Kp.rf _ μ).kx (fun q q0 q1 => by (try dsimp only); omega) hH.2.2.1
          refine r_aload_n dX11_pour_56 rfl ?_
          refine r_getR dX11_pour_57 fl_X11_29 rfl (by assumption) (by assumption) ?_
          refine r_getR dX11_pour_60 fl_X11_195 rfl (by assumption) (by assumption) ?_
          refine r_iload_n dX11_pour_63 rfl ?_
          refine r_iload_n dX11_pour_64 rfl ?_
          refine r_iast dX11_pour_65 (by assumption) rfl (by omega) ?_
          refine r_iconst dX11_pour_66 ?_
          refine r_ireturn dX11_pour_67 rfl rfl rfl ?_
          refine ⟨rfl, _, rfl, ?_⟩
          have kk := ((show Kp (fun q => ¬ (62 ≤ q ∧ q < 112) ∧ q ≠ c + 5) μ _ from hKk.mono (fun q hq => by (try dsimp only at *); omega)).sI (a := c + 5) (i := b) (x := n) (by (try dsimp only); omega))
          have hX2 := hX.cargo (μ2 := setI (kpX μ c) (c + 5) b (n)) (us' := (gRow G :: gUnd G).take 8) (ρ' := rset (gRow G) (51 + b) (n)) rfl (kk.mono (fun q hq => by (try dsimp only at *); omega)) (hCk.setB hw (by omega)) ((PlEq.rf _).set (by omega)) (hw.pour (by omega) (by omega)) (h99.set (by omega) (by omega) (by omega)) ((hHk.mono ((Kp.rf _ _).sI (by (try dsimp only); omega))).row ((PlEq.rf _).set (by omega)))
          unfold pourF set0F
          rw [if_pos (by omega), if_neg (by omega)]
          exact ⟨rfl, hX2, kk.mono (fun q hq => by (try dsimp only at *); omega), Or.inl ⟨kk.mono (fun q hq => by (try dsimp only at *); omega), fun j j1 j2 j3 => rset_ne (by omega)⟩, rfl⟩
        · refine r_iconst dX11_pour_43 ?_
          refine r_ireturn dX11_pour_44 rfl rfl rfl ?_
          refine ⟨rfl, _, rfl, ?_⟩
          unfold pourF set0F
          rw [if_pos (by omega), if_pos (by omega)]
          exact ⟨rfl, XS.rf hX⟩
      · refine r_iconst dX11_pour_28 ?_
        refine r_ireturn dX11_pour_29 rfl rfl rfl ?_
        refine ⟨rfl, _, rfl, ?_⟩
        unfold pourF
        rw [if_neg (by omega)]
        exact ⟨rfl, XS.rf hX⟩
theorem x_weigh {μ : Mem} {G : Gh} {p pd c cd : Nat} (hX : InX n_ μ G p pd c cd) {k w : Int} (hk : -2147483648 ≤ k ∧ k < 2147483648) (hw0 : -2147483648 ≤ w ∧ w < 2147483648)  : IMet yX11_weigh gX11_weigh (SH n_) [vR 0, vI k, vI w] μ (fun x μ2 => x = (weighF G k w).1 ∧ XS n_ μ μ2 G (weighF G k w).2 p pd c cd) := by
  obtain ⟨hL, hPos, ⟨hP, hC, hw, h99⟩, hH, ⟨hi0, hi1⟩, hT, hFk, hTm⟩ := id hX
  obtain ⟨hp0, hc0, r2, r3, r4, r5⟩ := id hPos
  have rr0 := hL.r0_0
  have rr6 := hL.r0_6
  have rr7 := hL.r0_7
  have rr8 := hL.r0_8
  have rr9 := hL.r0_9
  have rr10 := hL.r0_10
  have rt := hL.r1_0
  have x0 : (SH n_)[0]? = some (10, 11) := rfl
  have x1 : (SH n_)[1]? = some (6, 4) := rfl
  have x2 : (SH n_)[2]? = some (8, 7) := rfl
  have x62 : (SH n_)[62]? = some (2, 3) := rfl
  have x172 : (SH n_)[172]? = some (7, 15) := rfl
  obtain ⟨hIC, e0, e5, e51, e52, eC⟩ := id hC
  obtain ⟨h0, h1, h2, h3, h4, h6, s1, s2, s3, s4, s5⟩ := id hIC
  obtain ⟨hIP, p0, p1, p2, p3, p4, pb, hF, hV⟩ := id hP
  obtain ⟨i0, i5, i6, i7, i8, j1, j2, hIF0, hIV0⟩ := id hIP
  have hIF1 := hIF0.1
  have hIV1 := hIV0.1
  have hn := hw.1.1
  unfold WFn at hn
  have hwl := hw.wl
  have hc5 : c = 50 ∨ c = 56 := by omega
  refine AMet.of (by decide) rfl (by decide) rfl ?_
  refine r_aload_n dX11_weigh_0 rfl ?_
  refine r_getR dX11_weigh_1 fl_X11_29 rfl (by assumption) (by assumption) ?_
  refine r_iload_n dX11_weigh_4 rfl ?_
  refine r_cV1F1 dX11_weigh_5 ml_X11_144 yl_X0_has ⟨rfl, rfl⟩ (by assumption) ⟨_, rfl⟩ rfl rfl rfl rfl (c_hasR hC (by omega) hk) ?_
  refine r_if_eqB (tgt := 22) dX11_weigh_8 rfl (fun c8 => ?_) (fun c8 => ?_)
  · have d8 := of_decide_eq_false c8
    refine r_iconst dX11_weigh_22 ?_
    refine r_ireturn dX11_weigh_23 rfl rfl rfl ?_
    refine ⟨rfl, _, rfl, ?_⟩
    unfold weighF palG
    rw [if_neg (by omega)]
    exact ⟨rfl, XS.rf hX⟩
  · have d8 := of_decide_eq_true c8
    refine r_iload_n dX11_weigh_11 rfl ?_
    refine r_iconst dX11_weigh_12 ?_
    refine q_icmp_lt (tgt := 22) dX11_weigh_13 rfl (by omega) (by omega) (fun c13 => ?_) (fun c13 => ?_)
    · refine r_iconst dX11_weigh_22 ?_
      refine r_ireturn dX11_weigh_23 rfl rfl rfl ?_
      refine ⟨rfl, _, rfl, ?_⟩
      unfold weighF palG
      rw [if_neg (by omega)]
      exact ⟨rfl, XS.rf hX⟩
    · refine r_iload_n dX11_weigh_16 rfl ?_
      refine r_bipush dX11_weigh_17 (by decide) ?_
      refine q_icmp_le (tgt := 24) dX11_weigh_19 rfl (by omega) (by omega) (fun c19 => ?_) (fun c19 => ?_)
      · have q1 := (eC k (by omega) (by omega)).1
        have q2 := (hw.2.2.1 k (by omega) (by omega)).1
        refine r_aload_n dX11_weigh_24 rfl ?_
        refine r_getR dX11_weigh_25 fl_X11_29 rfl (by assumption) (by assumption) ?_
        refine r_getR dX11_weigh_28 fl_X11_148 rfl (by assumption) (by assumption) ?_
        refine r_iload_n dX11_weigh_31 rfl ?_
        refine r_iald dX11_weigh_32 (by assumption) rfl (by omega) ?_
        refine r_iload_n dX11_weigh_33 rfl ?_
        refine q_icmp_ne (tgt := 39) dX11_weigh_34 rfl (by omega) (by omega) (fun c34 => ?_) (fun c34 => ?_)
        · refine r_aload_n dX11_weigh_39 rfl ?_
          refine r_getR dX11_weigh_40 fl_X11_39 rfl (by assumption) (by assumption) ?_
          refine r_aload_n dX11_weigh_43 rfl ?_
          refine r_getR dX11_weigh_44 fl_X11_29 rfl (by assumption) (by assumption) ?_
          refine r_cV1F0 dX11_weigh_47 ml_X11_213 yl_X2_keep ⟨rfl, rfl⟩ (by assumption) ⟨_, rfl⟩ rfl rfl rfl rfl (c_keep hL hc5 hIC hH.2.2.1 (by have := hH.2.1; have := hH.1; omega)) ?_
          have hCk : RelC (SH n_) (kpX μ c) c (gRow G) := hC.mono ((Kp.rf _ μ).kx (fun q q0 q1 => by (try dsimp only); omega) hH.2.2.1)
          have hHk := hH.keep hL hc5 hC hw h99
          have hKk : Kp (fun q => ¬ (62 ≤ q ∧ q < 112)) μ (kpX μ c) := (Kp.rf _ μ).kx (fun q q0 q1 => by (try dsimp only); omega) hH.2.2.1
          refine r_aload_n dX11_weigh_50 rfl ?_
          refine r_getR dX11_weigh_51 fl_X11_56 rfl (by assumption) (by assumption) ?_
          refine r_cV0F0 dX11_weigh_54 ml_X11_283 yl_X8_forget ⟨rfl, rfl⟩ (by assumption) ⟨_, rfl⟩ rfl rfl rfl rfl (c_forget) ?_
          have hCf : RelC (SH n_) (setI (kpX μ c) 172 0 0) c (gRow G) := hCk.mono ((Kp.rf _ _).sI (by (try dsimp only); omega))
          have hHf : HistX n_ (setI (kpX μ c) 172 0 0) (gRow G) ((gRow G :: gUnd G).take 8) := hHk.mono ((Kp.rf _ _).sI (by (try dsimp only); omega))
          have hKf : Kp (fun q => ¬ (62 ≤ q ∧ q < 112) ∧ q ≠ 172) μ (setI (kpX μ c) 172 0 0) := (hKk.mono (fun q hq => by (try dsimp only at *); omega)).sI (by (try dsimp only); omega)
          have hIf := hCf.1
          refine r_aload_n dX11_weigh_57 rfl ?_
          refine r_getR dX11_weigh_58 fl_X11_29 rfl (by assumption) (by assumption) ?_
          refine r_getR dX11_weigh_61 fl_X11_148 rfl (by assumption) (by assumption) ?_
          refine r_iload_n dX11_weigh_64 rfl ?_
          refine r_iload_n dX11_weigh_65 rfl ?_
          refine r_iast dX11_weigh_66 (by assumption) rfl (by omega) ?_
          refine r_iconst dX11_weigh_67 ?_
          refine r_ireturn dX11_weigh_68 rfl rfl rfl ?_
          refine ⟨rfl, _, rfl, ?_⟩
          have kk := ((show Kp (fun q => ¬ (62 ≤ q ∧ q < 112) ∧ q ≠ 172 ∧ q ≠ c + 2) μ _ from hKf.mono (fun q hq => by (try dsimp only at *); omega)).sI (a := c + 2) (i := k) (x := w) (by (try dsimp only); omega))
          have hX2 := hX.cargo (μ2 := setI (setI (kpX μ c) 172 0 0) (c + 2) k (w)) (us' := (gRow G :: gUnd G).take 8) (ρ' := rset (gRow G) (83 + k) (w)) rfl (kk.mono (fun q hq => by (try dsimp only at *); omega)) (hCf.setW hw (by omega)) ((PlEq.rf _).set (by omega)) (hw.weigh (by omega) (by omega)) (h99.set (by omega) (by omega) (by omega)) ((hHf.mono ((Kp.rf _ _).sI (by (try dsimp only); omega))).row ((PlEq.rf _).set (by omega)))
          unfold weighF palG set0F
          rw [if_pos (by omega), if_neg (by omega)]
          exact ⟨rfl, hX2, kk.mono (fun q hq => by (try dsimp only at *); omega), Or.inr ⟨by rw [sI_ne (by omega)]; exact sI_at, kk.mono (fun q hq => by (try dsimp only at *); omega)⟩, rfl⟩
        · refine r_iconst dX11_weigh_37 ?_
          refine r_ireturn dX11_weigh_38 rfl rfl rfl ?_
          refine ⟨rfl, _, rfl, ?_⟩
          unfold weighF palG set0F
          rw [if_pos (by omega), if_pos (by omega)]
          exact ⟨rfl, XS.rf hX⟩
      · refine r_iconst dX11_weigh_22 ?_
        refine r_ireturn dX11_weigh_23 rfl rfl rfl ?_
        refine ⟨rfl, _, rfl, ?_⟩
        unfold weighF palG
        rw [if_neg (by omega)]
        exact ⟨rfl, XS.rf hX⟩
theorem x_undo {μ : Mem} {G : Gh} {p pd c cd : Nat} (hX : InX n_ μ G p pd c cd)  : IMet yX11_undo gX11_undo (SH n_) [vR 0] μ (fun x μ2 => x = (undoF G).1 ∧ XS n_ μ μ2 G (undoF G).2 p pd c cd) := by
  obtain ⟨hL, hPos, ⟨hP, hC, hw, h99⟩, hH, ⟨hi0, hi1⟩, hT, hFk, hTm⟩ := id hX
  obtain ⟨hp0, hc0, r2, r3, r4, r5⟩ := id hPos
  have rr0 := hL.r0_0
  have rr6 := hL.r0_6
  have rr7 := hL.r0_7
  have rr8 := hL.r0_8
  have rr9 := hL.r0_9
  have rr10 := hL.r0_10
  have rt := hL.r1_0
  have x0 : (SH n_)[0]? = some (10, 11) := rfl
  have x1 : (SH n_)[1]? = some (6, 4) := rfl
  have x2 : (SH n_)[2]? = some (8, 7) := rfl
  have x62 : (SH n_)[62]? = some (2, 3) := rfl
  have x172 : (SH n_)[172]? = some (7, 15) := rfl
  obtain ⟨hIC, e0, e5, e51, e52, eC⟩ := id hC
  obtain ⟨h0, h1, h2, h3, h4, h6, s1, s2, s3, s4, s5⟩ := id hIC
  obtain ⟨hIP, p0, p1, p2, p3, p4, pb, hF, hV⟩ := id hP
  obtain ⟨i0, i5, i6, i7, i8, j1, j2, hIF0, hIV0⟩ := id hIP
  have hIF1 := hIF0.1
  have hIV1 := hIV0.1
  have hn := hw.1.1
  unfold WFn at hn
  have hwl := hw.wl
  have hc5 : c = 50 ∨ c = 56 := by omega
  have hu2 := hH.2.1
  have hu1 := hH.1
  rcases hus : gUnd G with _ | ⟨u, t⟩
  · have z0 : μ.1 62 2 = 0 := by rw [hu2, hus]; rfl
    refine AMet.of (by decide) rfl (by decide) rfl ?_
    refine r_aload_n dX11_undo_0 rfl ?_
    refine r_getR dX11_undo_1 fl_X11_39 rfl (by assumption) (by assumption) ?_
    refine r_getI dX11_undo_4 fl_X11_293 rfl (by assumption) ?_
    refine q_if_ne (tgt := 12) dX11_undo_7 rfl (by omega) (fun c7 => ?_) (fun c7 => ?_)
    · exact absurd z0 c7
    · refine r_iconst dX11_undo_10 ?_
      refine r_ireturn dX11_undo_11 rfl rfl rfl ?_
      refine ⟨rfl, _, rfl, ?_⟩
      unfold undoF
      rw [hus]
      exact ⟨rfl, XS.rf hX⟩
  · have z0 : μ.1 62 2 = t.length + 1 := by rw [hu2, hus]; rfl
    have z7 : t.length ≤ 7 := by rw [hus] at hu1; exact Nat.le_of_succ_le_succ hu1
    have hH2 : HistX n_ (setI μ 172 0 0) (gRow G) (u :: t) := by rw [← hus]; exact hH.mono ((Kp.rf _ _).sI (by (try dsimp only); omega))
    obtain ⟨u1, u2, u3, u4, u5⟩ := hH2.undo (c := c) hL hc5 hIC
    have z2 : (bbX (setI μ 172 0 0) c).1 62 2 = t.length := u1.2.1
    have kb : Kp (fun q => ¬ (c ≤ q ∧ q < c + 6) ∧ q ≠ 62 ∧ q ≠ 172) μ (bbX (setI μ 172 0 0) c) := ((((Kp.rf _ μ).sI (by (try dsimp only); omega)).sI (by (try dsimp only); omega)).cc (fun q q0 q1 => by (try dsimp only); omega)).sI (by (try dsimp only); omega)
    have t4 : (bbX (setI μ 172 0 0) c).1 172 0 = 0 := (congrFun (((((Kp.rf (fun q => q = 172) (setI μ 172 0 0)).sI (by (try dsimp only); omega)).cc (fun q q0 q1 => by (try dsimp only); omega)).sI (by (try dsimp only); omega)) 172 rfl).1 0).trans sI_at
    refine AMet.of (by decide) rfl (by decide) rfl ?_
    refine r_aload_n dX11_undo_0 rfl ?_
    refine r_getR dX11_undo_1 fl_X11_39 rfl (by assumption) (by assumption) ?_
    refine r_getI dX11_undo_4 fl_X11_293 rfl (by assumption) ?_
    refine q_if_ne (tgt := 12) dX11_undo_7 rfl (by omega) (fun c7 => ?_) (fun c7 => ?_)
    · refine r_aload_n dX11_undo_12 rfl ?_
      refine r_getR dX11_undo_13 fl_X11_56 rfl (by assumption) (by assumption) ?_
      refine r_cV0F0 dX11_undo_16 ml_X11_283 yl_X8_forget ⟨rfl, rfl⟩ (by assumption) ⟨_, rfl⟩ rfl rfl rfl rfl (c_forget) ?_
      refine r_aload_n dX11_undo_19 rfl ?_
      refine r_getR dX11_undo_20 fl_X11_39 rfl (by assumption) (by assumption) ?_
      refine r_aload_n dX11_undo_23 rfl ?_
      refine r_getR dX11_undo_24 fl_X11_29 rfl (by assumption) (by assumption) ?_
      refine r_cV1F0 dX11_undo_27 ml_X11_294 yl_X2_bringBack ⟨rfl, rfl⟩ (by assumption) ⟨_, rfl⟩ rfl rfl rfl rfl (c_bringBack (μ := setI μ 172 0 0) hL hc5 hIC hH2.2.2.1 (by rw [hH2.2.1]; simp only [List.length_cons]; omega)) ?_
      refine r_aload_n dX11_undo_30 rfl ?_
      refine r_getR dX11_undo_31 fl_X11_39 rfl (by assumption) (by assumption) ?_
      refine r_getI dX11_undo_34 fl_X11_293 rfl (by assumption) ?_
      rw [z2]
      refine r_ireturn dX11_undo_37 rfl rfl rfl ?_
      refine ⟨rfl, _, rfl, ?_⟩
      have hX2 := hX.cargo (μ2 := bbX (setI μ 172 0 0) c) (us' := t) (ρ' := u) rfl (kb.mono (fun q hq => by (try dsimp only at *); omega)) u2 u3 u4 u5 u1
      unfold undoF
      rw [hus]
      exact ⟨rfl, hX2, kb.mono (fun q hq => by (try dsimp only at *); omega), Or.inr ⟨t4, kb.mono (fun q hq => by (try dsimp only at *); omega)⟩, rfl⟩
    · exact absurd c7 (by omega)

