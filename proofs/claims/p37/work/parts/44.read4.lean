/-! 44.read4: taken from whole (wip/p37/port.py) -/
variable {n_ : Sh}
/-! 44.read4: the class reads a plane (wip/whole/src/44_read4.py) -/
theorem TapX.kp {μ μ2 : Mem} {tp : Int → Int} {tl : Int} {S : Nat → Prop} (h : TapX μ tp tl) (hk : Kp S μ μ2) (h2 : S 2 ∧ S 3) : TapX μ2 tp tl := h.mono (congrFun (hk 2 h2.1).1 1) (hk 3 h2.2).1
theorem RV.wt {μ : Mem} {σ : Sg} {a : Nat} {ρ : Row} (h : RV (SH n_) μ a ρ) (ha : 3 ≤ a) : RV (SH n_) (wTok μ σ) a ρ := h.mono ((Kp.rf _ μ).wt (by (try dsimp only); omega)) rfl
theorem x_readEmpty {μ : Mem} {T : Tq} {σ : Sg} {D : PD} {pd : Nat} (hL : Lay μ.2.2) (hT : TapX μ T.1 T.2) (hs : SgOK T σ) (hpd : pd = 4 ∨ pd = 27) (hR : RD n_ μ pd D) (hD : DOK D)  : VMet yX6_readEmpty gX6_readEmpty (SH n_) [vR 1, vR pd] (wTok μ σ) (fun μ2 => RDS n_ μ pd (emptyL T σ D) μ2) := by
  have x1 : (SH n_)[1]? = some (6, 4) := rfl
  have x2 : (SH n_)[2]? = some (8, 7) := rfl
  have x3 : (SH n_)[3]? = some (20, 540) := rfl
  have r20 := hL.r2_0
  have rt := hL.r1_0
  obtain ⟨t1, t2, t3⟩ := id hT
  have hs0 := hs
  unfold SgOK at hs0
  have hc := hD.1
  unfold cntOK at hc
  obtain ⟨hIP, p0, p1, p2, p3, p4, pb, hF, hV, ⟨nh, nt⟩, e1, e2⟩ := id hR
  obtain ⟨i0, i5, i6, i7, i8, j1, j2, hIF, hIV⟩ := id hIP
  obtain ⟨-, f0, fh, f4, fs, f9, fj⟩ := id hF
  obtain ⟨-, v0, vt, v5, v8, vi⟩ := id hV
  have if0 := hIF.1
  have iv0 := hIV.1
  have s1 : SgOK T (iff' (D.2.2.1 = 1) σ 3) := iff_ok hs (by decide)
  have hT1 : TapX (setI μ 1 1 1) T.1 T.2 := hT.kp ((Kp.rf (fun q => q = 2 ∨ q = 3) μ).sI (by omega)) ⟨Or.inl rfl, Or.inr rfl⟩
  have hfl := hD.2.2.2.2.2.2.2.2.2.2.1
  have hx1 := x_number (n_ := n_) (μ := setI μ 1 1 1) hL hT1 s1 (lo := 1) (hi := 999) (by omega) (by omega)
  have ok1 := num_ok t2.2 s1 1 999
  have hN : emptyL T σ D = ((emptyS2 T σ D).2, rset (rset D.1 0 (emptyS1 T σ D).1) 1 (emptyS2 T σ D).1, D.2.1, 1, D.2.2.2) := rfl
  have h2d : emptyS2 T σ D = numC T (emptyS1 T σ D).2 0 99 := rfl
  rw [← show emptyS1 T σ D = numC T (iff' (D.2.2.1 = 1) σ 3) 1 999 from rfl] at hx1 ok1
  generalize emptyS1 T σ D = n1 at *
  have hT2 : TapX (setI (setI μ 1 1 1) pd 0 n1.1) T.1 T.2 := hT1.kp ((Kp.rf (fun q => q = 2 ∨ q = 3) _).sI (by omega)) ⟨Or.inl rfl, Or.inr rfl⟩
  have hx2 := x_number (n_ := n_) (μ := setI (setI μ 1 1 1) pd 0 n1.1) hL hT2 ok1.1 (lo := 0) (hi := 99) (by omega) (by omega)
  have ok2 := num_ok t2.2 ok1.1 0 99
  rw [← h2d] at hx2 ok2
  generalize emptyS2 T σ D = n2 at *
  rw [hN]
  refine AMet.of (by decide) rfl (by decide) rfl ?_
  refine r_aload_n dX6_readEmpty_0 rfl ?_
  refine r_getI dX6_readEmpty_1 fl_X6_18 rfl (by assumption) ?_
  (try simp (disch := omega) only [wt2, wt4, wt_ne, mkT, mkF, mkK, mkE, mkP]); (try rw [f0]); (try rw [f4]); (try rw [f9]); (try rw [v0]); (try rw [v5]); (try rw [v8]); (try rw [p4]); (try rw [e1]); (try rw [e2]); (try simp (disch := omega) only [sI_at, sI_ne, sI_nj, sI_L, sL_at, sL_ne, sL_nj, sL_I])
  refine q_if_eq (tgt := 15) dX6_readEmpty_4 rfl (by omega) (fun c4 => ?_) (fun c4 => ?_)
  · rw [show wTok μ σ = wTok μ (iff' (D.2.2.1 = 1) σ 3) from congrArg (wTok μ) (iff_neg (by omega)).symm]
    refine r_aload_n dX6_readEmpty_15 rfl ?_
    refine r_iconst dX6_readEmpty_16 ?_
    refine r_putZ dX6_readEmpty_17 fl_X6_18 (by assumption) (by first | exact Or.inl rfl | exact Or.inr rfl | exact b2i_01 _ | omega) ?_
    rw [setI_wt (by omega)]
    refine r_aload_n dX6_readEmpty_20 rfl ?_
    refine r_aload_n dX6_readEmpty_21 rfl ?_
    refine r_getR dX6_readEmpty_22 fl_X6_12 rfl (by assumption) (by assumption) ?_
    refine r_iconst dX6_readEmpty_25 ?_
    refine r_sipush dX6_readEmpty_26 (by decide) ?_
    refine r_cV2F1 dX6_readEmpty_29 ml_X6_146 yl_X9_number ⟨rfl, rfl⟩ (by assumption) ⟨_, rfl⟩ rfl rfl rfl rfl (hx1) ?_
    refine r_putI dX6_readEmpty_32 fl_X6_104 (by assumption) ?_
    rw [setI_wt (by omega)]
    refine r_aload_n dX6_readEmpty_35 rfl ?_
    refine r_aload_n dX6_readEmpty_36 rfl ?_
    refine r_getR dX6_readEmpty_37 fl_X6_12 rfl (by assumption) (by assumption) ?_
    refine r_iconst dX6_readEmpty_40 ?_
    refine r_bipush dX6_readEmpty_41 (by decide) ?_
    refine r_cV2F1 dX6_readEmpty_43 ml_X6_146 yl_X9_number ⟨rfl, rfl⟩ (by assumption) ⟨_, rfl⟩ rfl rfl rfl rfl (hx2) ?_
    refine r_putI dX6_readEmpty_46 fl_X6_108 (by assumption) ?_
    rw [setI_wt (by omega)]
    refine r_return dX6_readEmpty_49 rfl rfl rfl ?_
    refine ⟨rfl, rfl, _, rfl, ?_, ?_, rfl⟩
    · refine hR.P hD ((((Kp.rf _ μ).sI (by omega)).sI (by (try dsimp only); omega)).sI (by (try dsimp only); omega)) rfl (fun j hj => ?_) rfl ?_ (fun b b0 b1 => ?_) ?_
      · simp (disch := omega) only [rset_eq, rset_ne]
      · simp (disch := omega) only [rset_eq, rset_ne]
        simp (disch := omega) only [sI_at, sI_ne, sI_nj, sI_L, sL_at, sL_ne, sL_nj, sL_I]
        exact ⟨trivial, trivial, p2, p3, p4⟩
      · simp (disch := omega) only [rset_eq, rset_ne]
        simp (disch := omega) only [sI_at, sI_ne, sI_nj, sI_L, sL_at, sL_ne, sL_nj, sL_I]
        exact pb b b0 b1
      · simp (disch := omega) only [sI_at, sI_ne, sI_nj, sI_L, sL_at, sL_ne, sL_nj, sL_I]
        exact ⟨trivial, e2⟩
    · exact ((((Kp.rf _ μ).sI (by omega)).sI (by (try dsimp only); omega)).sI (by (try dsimp only); omega))
  · refine r_aload_n dX6_readEmpty_7 rfl ?_
    refine r_getR dX6_readEmpty_8 fl_X6_12 rfl (by assumption) (by assumption) ?_
    refine r_iconst dX6_readEmpty_11 ?_
    refine r_cV1F0 dX6_readEmpty_12 ml_X6_98 yl_X9_fail ⟨rfl, rfl⟩ (by assumption) ⟨_, rfl⟩ rfl rfl rfl rfl (x_fail hL hT hs) ?_
    rw [← iff_pos (c := D.2.2.1 = 1) (σ := σ) (k := 3) (by omega)]
    refine r_aload_n dX6_readEmpty_15 rfl ?_
    refine r_iconst dX6_readEmpty_16 ?_
    refine r_putZ dX6_readEmpty_17 fl_X6_18 (by assumption) (by first | exact Or.inl rfl | exact Or.inr rfl | exact b2i_01 _ | omega) ?_
    rw [setI_wt (by omega)]
    refine r_aload_n dX6_readEmpty_20 rfl ?_
    refine r_aload_n dX6_readEmpty_21 rfl ?_
    refine r_getR dX6_readEmpty_22 fl_X6_12 rfl (by assumption) (by assumption) ?_
    refine r_iconst dX6_readEmpty_25 ?_
    refine r_sipush dX6_readEmpty_26 (by decide) ?_
    refine r_cV2F1 dX6_readEmpty_29 ml_X6_146 yl_X9_number ⟨rfl, rfl⟩ (by assumption) ⟨_, rfl⟩ rfl rfl rfl rfl (hx1) ?_
    refine r_putI dX6_readEmpty_32 fl_X6_104 (by assumption) ?_
    rw [setI_wt (by omega)]
    refine r_aload_n dX6_readEmpty_35 rfl ?_
    refine r_aload_n dX6_readEmpty_36 rfl ?_
    refine r_getR dX6_readEmpty_37 fl_X6_12 rfl (by assumption) (by assumption) ?_
    refine r_iconst dX6_readEmpty_40 ?_
    refine r_bipush dX6_readEmpty_41 (by decide) ?_
    refine r_cV2F1 dX6_readEmpty_43 ml_X6_146 yl_X9_number ⟨rfl, rfl⟩ (by assumption) ⟨_, rfl⟩ rfl rfl rfl rfl (hx2) ?_
    refine r_putI dX6_readEmpty_46 fl_X6_108 (by assumption) ?_
    rw [setI_wt (by omega)]
    refine r_return dX6_readEmpty_49 rfl rfl rfl ?_
    refine ⟨rfl, rfl, _, rfl, ?_, ?_, rfl⟩
    · refine hR.P hD ((((Kp.rf _ μ).sI (by omega)).sI (by (try dsimp only); omega)).sI (by (try dsimp only); omega)) rfl (fun j hj => ?_) rfl ?_ (fun b b0 b1 => ?_) ?_
      · simp (disch := omega) only [rset_eq, rset_ne]
      · simp (disch := omega) only [rset_eq, rset_ne]
        simp (disch := omega) only [sI_at, sI_ne, sI_nj, sI_L, sL_at, sL_ne, sL_nj, sL_I]
        exact ⟨trivial, trivial, p2, p3, p4⟩
      · simp (disch := omega) only [rset_eq, rset_ne]
        simp (disch := omega) only [sI_at, sI_ne, sI_nj, sI_L, sL_at, sL_ne, sL_nj, sL_I]
        exact pb b b0 b1
      · simp (disch := omega) only [sI_at, sI_ne, sI_nj, sI_L, sL_at, sL_ne, sL_nj, sL_I]
        exact ⟨trivial, e2⟩
    · exact ((((Kp.rf _ μ).sI (by omega)).sI (by (try dsimp only); omega)).sI (by (try dsimp only); omega))
theorem x_readSpan {μ : Mem} {T : Tq} {σ : Sg} {D : PD} {pd : Nat} (hL : Lay μ.2.2) (hT : TapX μ T.1 T.2) (hs : SgOK T σ) (hpd : pd = 4 ∨ pd = 27) (hR : RD n_ μ pd D) (hD : DOK D)  : VMet yX6_readSpan gX6_readSpan (SH n_) [vR 1, vR pd] (wTok μ σ) (fun μ2 => RDS n_ μ pd (spanL T σ D) μ2) := by
  have x1 : (SH n_)[1]? = some (6, 4) := rfl
  have x2 : (SH n_)[2]? = some (8, 7) := rfl
  have x3 : (SH n_)[3]? = some (20, 540) := rfl
  have r20 := hL.r2_0
  have rt := hL.r1_0
  obtain ⟨t1, t2, t3⟩ := id hT
  have hs0 := hs
  unfold SgOK at hs0
  have hc := hD.1
  unfold cntOK at hc
  obtain ⟨hIP, p0, p1, p2, p3, p4, pb, hF, hV, ⟨nh, nt⟩, e1, e2⟩ := id hR
  obtain ⟨i0, i5, i6, i7, i8, j1, j2, hIF, hIV⟩ := id hIP
  obtain ⟨-, f0, fh, f4, fs, f9, fj⟩ := id hF
  obtain ⟨-, v0, vt, v5, v8, vi⟩ := id hV
  have if0 := hIF.1
  have iv0 := hIV.1
  have s1 : SgOK T (iff' (D.2.2.2 = 1) σ 3) := iff_ok hs (by decide)
  have hT1 : TapX (setI μ 1 2 1) T.1 T.2 := hT.kp ((Kp.rf (fun q => q = 2 ∨ q = 3) μ).sI (by omega)) ⟨Or.inl rfl, Or.inr rfl⟩
  have hfl := hD.2.2.2.2.2.2.2.2.2.2.1
  have hx1 := x_number (n_ := n_) (μ := setI μ 1 2 1) hL hT1 s1 (lo := 0) (hi := 99) (by omega) (by omega)
  have ok1 := num_ok t2.2 s1 0 99
  have hN : spanL T σ D = ((spanS2 T σ D).2, rset (rset D.1 2 (spanS1 T σ D).1) 3 (spanS2 T σ D).1, D.2.1, D.2.2.1, 1) := rfl
  have h2d : spanS2 T σ D = numC T (spanS1 T σ D).2 ((spanS1 T σ D).1 + 1) 99 := rfl
  rw [← show spanS1 T σ D = numC T (iff' (D.2.2.2 = 1) σ 3) 0 99 from rfl] at hx1 ok1
  generalize spanS1 T σ D = n1 at *
  have hT2 : TapX (setI (setI μ 1 2 1) pd 2 n1.1) T.1 T.2 := hT1.kp ((Kp.rf (fun q => q = 2 ∨ q = 3) _).sI (by omega)) ⟨Or.inl rfl, Or.inr rfl⟩
  have hx2 := x_number (n_ := n_) (μ := setI (setI μ 1 2 1) pd 2 n1.1) hL hT2 ok1.1 (lo := (n1.1 + 1)) (hi := 99) (by omega) (by omega)
  have ok2 := num_ok t2.2 ok1.1 (n1.1 + 1) 99
  rw [← h2d] at hx2 ok2
  generalize spanS2 T σ D = n2 at *
  rw [hN]
  refine AMet.of (by decide) rfl (by decide) rfl ?_
  refine r_aload_n dX6_readSpan_0 rfl ?_
  refine r_getI dX6_readSpan_1 fl_X6_22 rfl (by assumption) ?_
  (try simp (disch := omega) only [wt2, wt4, wt_ne, mkT, mkF, mkK, mkE, mkP]); (try rw [f0]); (try rw [f4]); (try rw [f9]); (try rw [v0]); (try rw [v5]); (try rw [v8]); (try rw [p4]); (try rw [e1]); (try rw [e2]); (try simp (disch := omega) only [sI_at, sI_ne, sI_nj, sI_L, sL_at, sL_ne, sL_nj, sL_I])
  refine q_if_eq (tgt := 15) dX6_readSpan_4 rfl (by omega) (fun c4 => ?_) (fun c4 => ?_)
  · rw [show wTok μ σ = wTok μ (iff' (D.2.2.2 = 1) σ 3) from congrArg (wTok μ) (iff_neg (by omega)).symm]
    refine r_aload_n dX6_readSpan_15 rfl ?_
    refine r_iconst dX6_readSpan_16 ?_
    refine r_putZ dX6_readSpan_17 fl_X6_22 (by assumption) (by first | exact Or.inl rfl | exact Or.inr rfl | exact b2i_01 _ | omega) ?_
    rw [setI_wt (by omega)]
    refine r_aload_n dX6_readSpan_20 rfl ?_
    refine r_aload_n dX6_readSpan_21 rfl ?_
    refine r_getR dX6_readSpan_22 fl_X6_12 rfl (by assumption) (by assumption) ?_
    refine r_iconst dX6_readSpan_25 ?_
    refine r_bipush dX6_readSpan_26 (by decide) ?_
    refine r_cV2F1 dX6_readSpan_28 ml_X6_146 yl_X9_number ⟨rfl, rfl⟩ (by assumption) ⟨_, rfl⟩ rfl rfl rfl rfl (hx1) ?_
    refine r_putI dX6_readSpan_31 fl_X6_150 (by assumption) ?_
    rw [setI_wt (by omega)]
    refine r_aload_n dX6_readSpan_34 rfl ?_
    refine r_aload_n dX6_readSpan_35 rfl ?_
    refine r_getR dX6_readSpan_36 fl_X6_12 rfl (by assumption) (by assumption) ?_
    refine r_aload_n dX6_readSpan_39 rfl ?_
    refine r_getI dX6_readSpan_40 fl_X6_150 rfl (by assumption) ?_
    (try simp (disch := omega) only [wt2, wt4, wt_ne, mkT, mkF, mkK, mkE, mkP]); (try rw [f0]); (try rw [f4]); (try rw [f9]); (try rw [v0]); (try rw [v5]); (try rw [v8]); (try rw [p4]); (try rw [e1]); (try rw [e2]); (try simp (disch := omega) only [sI_at, sI_ne, sI_nj, sI_L, sL_at, sL_ne, sL_nj, sL_I])
    refine r_iconst dX6_readSpan_43 ?_
    refine r_iadd dX6_readSpan_44 ?_
    refine r_bipush dX6_readSpan_45 (by decide) ?_
    refine r_cV2F1 dX6_readSpan_47 ml_X6_146 yl_X9_number ⟨rfl, rfl⟩ (by assumption) ⟨_, rfl⟩ rfl rfl rfl rfl (hx2) ?_
    refine r_putI dX6_readSpan_50 fl_X6_153 (by assumption) ?_
    rw [setI_wt (by omega)]
    refine r_return dX6_readSpan_53 rfl rfl rfl ?_
    refine ⟨rfl, rfl, _, rfl, ?_, ?_, rfl⟩
    · refine hR.P hD ((((Kp.rf _ μ).sI (by omega)).sI (by (try dsimp only); omega)).sI (by (try dsimp only); omega)) rfl (fun j hj => ?_) rfl ?_ (fun b b0 b1 => ?_) ?_
      · simp (disch := omega) only [rset_eq, rset_ne]
      · simp (disch := omega) only [rset_eq, rset_ne]
        simp (disch := omega) only [sI_at, sI_ne, sI_nj, sI_L, sL_at, sL_ne, sL_nj, sL_I]
        exact ⟨p0, p1, trivial, trivial, p4⟩
      · simp (disch := omega) only [rset_eq, rset_ne]
        simp (disch := omega) only [sI_at, sI_ne, sI_nj, sI_L, sL_at, sL_ne, sL_nj, sL_I]
        exact pb b b0 b1
      · simp (disch := omega) only [sI_at, sI_ne, sI_nj, sI_L, sL_at, sL_ne, sL_nj, sL_I]
        exact ⟨e1, trivial⟩
    · exact ((((Kp.rf _ μ).sI (by omega)).sI (by (try dsimp only); omega)).sI (by (try dsimp only); omega))
  · refine r_aload_n dX6_readSpan_7 rfl ?_
    refine r_getR dX6_readSpan_8 fl_X6_12 rfl (by assumption) (by assumption) ?_
    refine r_iconst dX6_readSpan_11 ?_
    refine r_cV1F0 dX6_readSpan_12 ml_X6_98 yl_X9_fail ⟨rfl, rfl⟩ (by assumption) ⟨_, rfl⟩ rfl rfl rfl rfl (x_fail hL hT hs) ?_
    rw [← iff_pos (c := D.2.2.2 = 1) (σ := σ) (k := 3) (by omega)]
    refine r_aload_n dX6_readSpan_15 rfl ?_
    refine r_iconst dX6_readSpan_16 ?_
    refine r_putZ dX6_readSpan_17 fl_X6_22 (by assumption) (by first | exact Or.inl rfl | exact Or.inr rfl | exact b2i_01 _ | omega) ?_
    rw [setI_wt (by omega)]
    refine r_aload_n dX6_readSpan_20 rfl ?_
    refine r_aload_n dX6_readSpan_21 rfl ?_
    refine r_getR dX6_readSpan_22 fl_X6_12 rfl (by assumption) (by assumption) ?_
    refine r_iconst dX6_readSpan_25 ?_
    refine r_bipush dX6_readSpan_26 (by decide) ?_
    refine r_cV2F1 dX6_readSpan_28 ml_X6_146 yl_X9_number ⟨rfl, rfl⟩ (by assumption) ⟨_, rfl⟩ rfl rfl rfl rfl (hx1) ?_
    refine r_putI dX6_readSpan_31 fl_X6_150 (by assumption) ?_
    rw [setI_wt (by omega)]
    refine r_aload_n dX6_readSpan_34 rfl ?_
    refine r_aload_n dX6_readSpan_35 rfl ?_
    refine r_getR dX6_readSpan_36 fl_X6_12 rfl (by assumption) (by assumption) ?_
    refine r_aload_n dX6_readSpan_39 rfl ?_
    refine r_getI dX6_readSpan_40 fl_X6_150 rfl (by assumption) ?_
    (try simp (disch := omega) only [wt2, wt4, wt_ne, mkT, mkF, mkK, mkE, mkP]); (try rw [f0]); (try rw [f4]); (try rw [f9]); (try rw [v0]); (try rw [v5]); (try rw [v8]); (try rw [p4]); (try rw [e1]); (try rw [e2]); (try simp (disch := omega) only [sI_at, sI_ne, sI_nj, sI_L, sL_at, sL_ne, sL_nj, sL_I])
    refine r_iconst dX6_readSpan_43 ?_
    refine r_iadd dX6_readSpan_44 ?_
    refine r_bipush dX6_readSpan_45 (by decide) ?_
    refine r_cV2F1 dX6_readSpan_47 ml_X6_146 yl_X9_number ⟨rfl, rfl⟩ (by assumption) ⟨_, rfl⟩ rfl rfl rfl rfl (hx2) ?_
    refine r_putI dX6_readSpan_50 fl_X6_153 (by assumption) ?_
    rw [setI_wt (by omega)]
    refine r_return dX6_readSpan_53 rfl rfl rfl ?_
    refine ⟨rfl, rfl, _, rfl, ?_, ?_, rfl⟩
    · refine hR.P hD ((((Kp.rf _ μ).sI (by omega)).sI (by (try dsimp only); omega)).sI (by (try dsimp only); omega)) rfl (fun j hj => ?_) rfl ?_ (fun b b0 b1 => ?_) ?_
      · simp (disch := omega) only [rset_eq, rset_ne]
      · simp (disch := omega) only [rset_eq, rset_ne]
        simp (disch := omega) only [sI_at, sI_ne, sI_nj, sI_L, sL_at, sL_ne, sL_nj, sL_I]
        exact ⟨p0, p1, trivial, trivial, p4⟩
      · simp (disch := omega) only [rset_eq, rset_ne]
        simp (disch := omega) only [sI_at, sI_ne, sI_nj, sI_L, sL_at, sL_ne, sL_nj, sL_I]
        exact pb b b0 b1
      · simp (disch := omega) only [sI_at, sI_ne, sI_nj, sI_L, sL_at, sL_ne, sL_nj, sL_I]
        exact ⟨e1, trivial⟩
    · exact ((((Kp.rf _ μ).sI (by omega)).sI (by (try dsimp only); omega)).sI (by (try dsimp only); omega))
theorem RD.start {μ : Mem} {pd : Nat} (hP : IsPlane (SH n_) μ.2.2 pd) (hp : 3 ≤ pd) : RD n_ (clrP (setI (setI μ 1 1 0) 1 2 0) pd) pd D0 := by
  have e : ∀ j, 4 ≤ j → bareR j = 0 := fun j hj => by unfold bareR; rw [if_neg (by omega), if_neg (by omega), if_neg (by omega), if_neg (by omega)]
  have h0 : bareR 0 = 100 := rfl
  have h1 : bareR 1 = 50 := rfl
  have h2 : bareR 2 = 40 := rfl
  have h3 : bareR 3 = 60 := rfl
  have eD : D0.1 = bareR := rfl
  refine ⟨hP, ?_, ?_, ?_, ?_, ?_, fun b b0 b1 => ?_, ⟨hP.2.2.2.2.2.2.2.1, ?_, fun h h0 h1 => ?_, ?_, fun h h0 h1 => ?_, ?_, fun h h0 h1 => ?_⟩, ⟨hP.2.2.2.2.2.2.2.2, ?_, fun h h0 h1 => ?_, ?_, ?_, fun h h0 h1 => ?_⟩, ⟨fun h h0 h1 => ?_, fun h h0 h1 => ?_⟩, ?_, ?_⟩ <;> (try rw [eD] at *)
  · rw [h0]; unfold clrP clrP0; simp (disch := omega) only [sI_at, sI_ne, sI_nj, sI_L, sL_at, sL_ne, sL_nj, sL_I]
  · rw [h1]; unfold clrP clrP0; simp (disch := omega) only [sI_at, sI_ne, sI_nj, sI_L, sL_at, sL_ne, sL_nj, sL_I]
  · rw [h2]; unfold clrP clrP0; simp (disch := omega) only [sI_at, sI_ne, sI_nj, sI_L, sL_at, sL_ne, sL_nj, sL_I]
  · rw [h3]; unfold clrP clrP0; simp (disch := omega) only [sI_at, sI_ne, sI_nj, sI_L, sL_at, sL_ne, sL_nj, sL_I]
  · rw [e 7 (by omega)]; unfold clrP clrP0; simp (disch := omega) only [sI_at, sI_ne, sI_nj, sI_L, sL_at, sL_ne, sL_nj, sL_I]
  · rw [e 7 (by omega)]
    unfold clrP clrP0
    refine ⟨fun h => by omega, fun _ => ?_⟩
    rcases (show b = 0 ∨ b = 1 by omega) with rfl | rfl
    · simp (disch := omega) only [sI_at, sI_ne, sI_nj, sI_L, sL_at, sL_ne, sL_nj, sL_I]
      exact ⟨trivial, trivial⟩
    · simp (disch := omega) only [sI_at, sI_ne, sI_nj, sI_L, sL_at, sL_ne, sL_nj, sL_I]
      exact ⟨trivial, trivial⟩
  · rw [e 4 (by omega)]; unfold clrP clrP0; simp (disch := omega) only [sI_at, sI_ne, sI_nj, sI_L, sL_at, sL_ne, sL_nj, sL_I]
  · rw [e 4 (by omega)] at h1; omega
  · rw [e 5 (by omega)]; unfold clrP clrP0; simp (disch := omega) only [sI_at, sI_ne, sI_nj, sI_L, sL_at, sL_ne, sL_nj, sL_I]
  · rw [e 5 (by omega)] at h1; omega
  · rw [e 6 (by omega)]; unfold clrP clrP0; simp (disch := omega) only [sI_at, sI_ne, sI_nj, sI_L, sL_at, sL_ne, sL_nj, sL_I]
  · rw [e 6 (by omega)] at h1; omega
  · rw [e 8 (by omega)]; unfold clrP clrP0; simp (disch := omega) only [sI_at, sI_ne, sI_nj, sI_L, sL_at, sL_ne, sL_nj, sL_I]
  · rw [e 8 (by omega)] at h1; omega
  · rw [e 9 (by omega)]; unfold clrP clrP0; simp (disch := omega) only [sI_at, sI_ne, sI_nj, sI_L, sL_at, sL_ne, sL_nj, sL_I]
  · rw [e 10 (by omega)]; unfold clrP clrP0; simp (disch := omega) only [sI_at, sI_ne, sI_nj, sI_L, sL_at, sL_ne, sL_nj, sL_I]
  · rw [e 9 (by omega)] at h1; omega
  · rw [e 4 (by omega)] at h1; omega
  · rw [e 8 (by omega)] at h1; omega
  · unfold clrP clrP0; simp (disch := omega) only [sI_at, sI_ne, sI_nj, sI_L, sL_at, sL_ne, sL_nj, sL_I]; rfl
  · unfold clrP clrP0; simp (disch := omega) only [sI_at, sI_ne, sI_nj, sI_L, sL_at, sL_ne, sL_nj, sL_I]; rfl
theorem Kp.clrP {S : Nat → Prop} {μ : Mem} {p : Nat} (h : ∀ q, p ≤ q → q < p + 23 → ¬ S q) : Kp S μ (clrP μ p) :=
  (((((((((((((((Kp.rf S μ).sI (h _ (by omega) (by omega))).sI (h _ (by omega) (by omega))).sI (h _ (by omega) (by omega))).sI (h _ (by omega) (by omega))).sI (h _ (by omega) (by omega))).sI (h _ (by omega) (by omega))).sI (h _ (by omega) (by omega))).sI (h _ (by omega) (by omega))).sI (h _ (by omega) (by omega))).sI (h _ (by omega) (by omega))).sI (h _ (by omega) (by omega))).sI (h _ (by omega) (by omega))).sI (h _ (by omega) (by omega))).sI (h _ (by omega) (by omega))).sI (h _ (by omega) (by omega))
def PRes (n_ : Sh) (μ : Mem) (pd : Nat) (r : Sg × PD) (μ2 : Mem) : Prop := ∃ μ3, μ2 = setI (wTok μ3 r.1) 2 1 0 ∧ (SgOK (μ.1 3, μ.1 2 1) r.1 ∧ RelP (SH n_) μ3 pd r.2.1) ∧ Kp (fun a => a ≠ 1 ∧ ¬ (pd ≤ a ∧ a < pd + 23)) μ μ3 ∧ μ3.2.2 = μ.2.2
theorem x_readPlane {μ : Mem} {T : Tq} {pd : Nat} (hL : Lay μ.2.2) (hT : TapX μ T.1 T.2) (hpd : pd = 4 ∨ pd = 27) (hIP : IsPlane (SH n_) μ.2.2 pd)  : VMet yX6_readPlane gX6_readPlane (SH n_) [vR 1, vR pd] μ (fun μ2 => PRes n_ μ pd (planeR T) μ2) := by
  have x1 : (SH n_)[1]? = some (6, 4) := rfl
  have x2 : (SH n_)[2]? = some (8, 7) := rfl
  have r20 := hL.r2_0
  have rt := hL.r1_0
  obtain ⟨t1, t2, t3⟩ := id hT
  have hse : ∀ σ, SgOK T σ → SgOK (μ.1 3, μ.1 2 1) σ := fun σ h => by
    unfold SgOK at *
    rw [show ((μ.1 3, μ.1 2 1) : Tq).2 = T.2 from t1]
    exact h
  obtain ⟨i0, -⟩ := id hIP
  have lB : ∀ (f n : Nat) (k : Int) (μ' : Mem) (σ : Sg) (D : PD), n < f → 0 ≤ k → k + n = 500 → μ'.2.2 = μ.2.2 → Kp (fun a => a ≠ 1 ∧ ¬ (pd ≤ a ∧ a < pd + 23)) μ μ' → SgOK T σ → RD n_ μ' pd D → DOK D → AW gX6_readPlane (SH n_) (wTok μ' σ) 0 0 26 [some (vR 1), some (vR pd), some (vI k)] [] (fun r2 sh2 μ2 => r2 = none ∧ sh2 = (SH n_) ∧ PRes n_ μ pd (loopP T n σ D) μ2) := by
    intro f
    induction f with
    | zero => intro n; intros; omega
    | succ f ih =>
      intro n k μ' σ D hf hk0 hn2 hRR hkp hs hR1 hD1
      have hL1 : Lay μ'.2.2 := by rw [hRR]; exact hL
      have hT1 : TapX μ' T.1 T.2 := hT.kp hkp ⟨by (try dsimp only); omega, by (try dsimp only); omega⟩
      have hs1 := (nxt_ok t2.2 hs).1
      have r20 := hL1.r2_0
      have rt := hL1.r1_0
      refine r_iload_n dX6_readPlane_26 rfl ?_
      refine r_sipush dX6_readPlane_27 (by decide) ?_
      refine q_icmp_ge (tgt := 253) dX6_readPlane_30 rfl (by omega) (by omega) (fun c30 => ?_) (fun c30 => ?_)
      · obtain ⟨hIP, -⟩ := id hR1
        obtain ⟨i0, i5, i6, i7, i8, j1, j2, hIF, hIV⟩ := id hIP
        have iv0 := hIV.1
        have hc := hD1.1
        unfold cntOK at hc
        refine r_aload_n dX6_readPlane_253 rfl ?_
        refine r_getR dX6_readPlane_254 fl_X6_85 rfl (by assumption) (by assumption) ?_
        refine r_aload_n dX6_readPlane_257 rfl ?_
        refine r_getI dX6_readPlane_258 fl_X6_104 rfl (by assumption) ?_
        refine r_aload_n dX6_readPlane_261 rfl ?_
        refine r_getI dX6_readPlane_262 fl_X6_108 rfl (by assumption) ?_
        refine r_cV2N dX6_readPlane_265 ml_X6_111 yl_X10_reckon ⟨rfl, rfl⟩ (by assumption) ⟨_, rfl⟩ rfl rfl rfl rfl (d_reckon (μ := wTok μ' σ) ((hR1.2.2.2.2.2.2.2.2.1).wt (by omega)) (by omega) (by omega) hD1.2.2.2.2.2.1 (by rw [wt_ne (by omega)]; exact hR1.2.1) (by rw [wt_ne (by omega)]; exact hR1.2.2.1)) ?_
        rintro μ3 ⟨hV3, hk3, hR3⟩
        have rt3 : μ3.2.2 1 0 = some 2 := by rw [hR3]; exact rt
        refine r_aload_n dX6_readPlane_268 rfl ?_
        refine r_getR dX6_readPlane_269 fl_X6_12 rfl (by assumption) (by assumption) ?_
        refine r_iconst dX6_readPlane_272 ?_
        refine r_putI dX6_readPlane_273 fl_X6_117 (by assumption) ?_
        refine r_return dX6_readPlane_276 rfl rfl rfl ?_
        refine ⟨rfl, rfl, ?_⟩
        obtain ⟨u1, u2⟩ := un_tok hk3 (by (try dsimp only); omega)
        rw [show loopP T n σ D = (σ, D) by obtain rfl : n = 0 := (by omega); rfl]
        refine ⟨_, congrArg (fun m => setI m 2 1 0) u1, ⟨hse _ hs, ?_⟩, (hkp.tr (u2.mono (fun q hq => by (try dsimp only at *); omega))), ?_⟩
        · have ke := fun q (h : q ≠ pd + 13 + 7 ∧ q ≠ pd + 13 + 8 ∧ q ≠ pd + 13 + 9) => u2 q h
          obtain ⟨hIP, p0, p1, p2, p3, p4, pb, hF, hV, -, -, -⟩ := id hR1
          have eP : (wTok μ3 (tk μ')).2.2 = μ'.2.2 := by show μ3.2.2 = _; rw [hR3]; rfl
          refine ⟨by rw [eP]; exact hIP, ?_, ?_, ?_, ?_, ?_, fun b b0 b1 => ?_, hF.mono (u2.mono fun q hq => by (try dsimp only at *); omega), hV3.mono ((Kp.rf _ μ3).wt (by (try dsimp only); omega))⟩
          · rw [(ke pd (by omega)).1]; exact p0
          · rw [(ke pd (by omega)).1]; exact p1
          · rw [(ke pd (by omega)).1]; exact p2
          · rw [(ke pd (by omega)).1]; exact p3
          · rw [(ke pd (by omega)).1]; exact p4
          · rw [(ke (pd + 1) (by omega)).1, (ke (pd + 2) (by omega)).1]; exact pb b b0 b1
        · show μ3.2.2 = _
          rw [hR3]
          exact hRR
      · obtain ⟨q, rfl⟩ : ∃ q, n = q + 1 := ⟨n - 1, by omega⟩
        refine r_aload_n dX6_readPlane_33 rfl ?_
        refine r_cV0F1 dX6_readPlane_34 ml_X6_34 yl_X6_atLine ⟨rfl, rfl⟩ (by assumption) ⟨_, rfl⟩ rfl rfl rfl rfl (x_atLine hL1 hT1 hs) ?_
        refine r_if_eqB (tgt := 253) dX6_readPlane_37 rfl (fun c37 => ?_) (fun c37 => ?_)
        · have c37 := of_decide_eq_false c37
          obtain ⟨hIP, -⟩ := id hR1
          obtain ⟨i0, i5, i6, i7, i8, j1, j2, hIF, hIV⟩ := id hIP
          have iv0 := hIV.1
          have hc := hD1.1
          unfold cntOK at hc
          refine r_aload_n dX6_readPlane_253 rfl ?_
          refine r_getR dX6_readPlane_254 fl_X6_85 rfl (by assumption) (by assumption) ?_
          refine r_aload_n dX6_readPlane_257 rfl ?_
          refine r_getI dX6_readPlane_258 fl_X6_104 rfl (by assumption) ?_
          refine r_aload_n dX6_readPlane_261 rfl ?_
          refine r_getI dX6_readPlane_262 fl_X6_108 rfl (by assumption) ?_
          refine r_cV2N dX6_readPlane_265 ml_X6_111 yl_X10_reckon ⟨rfl, rfl⟩ (by assumption) ⟨_, rfl⟩ rfl rfl rfl rfl (d_reckon (μ := wTok μ' (nxt T σ)) ((hR1.2.2.2.2.2.2.2.2.1).wt (by omega)) (by omega) (by omega) hD1.2.2.2.2.2.1 (by rw [wt_ne (by omega)]; exact hR1.2.1) (by rw [wt_ne (by omega)]; exact hR1.2.2.1)) ?_
          rintro μ3 ⟨hV3, hk3, hR3⟩
          have rt3 : μ3.2.2 1 0 = some 2 := by rw [hR3]; exact rt
          refine r_aload_n dX6_readPlane_268 rfl ?_
          refine r_getR dX6_readPlane_269 fl_X6_12 rfl (by assumption) (by assumption) ?_
          refine r_iconst dX6_readPlane_272 ?_
          refine r_putI dX6_readPlane_273 fl_X6_117 (by assumption) ?_
          refine r_return dX6_readPlane_276 rfl rfl rfl ?_
          refine ⟨rfl, rfl, ?_⟩
          obtain ⟨u1, u2⟩ := un_tok hk3 (by (try dsimp only); omega)
          rw [show loopP T (q + 1) σ D = (nxt T σ, D) by rw [loopP, if_neg c37]]
          refine ⟨_, congrArg (fun m => setI m 2 1 0) u1, ⟨hse _ hs1, ?_⟩, (hkp.tr (u2.mono (fun q hq => by (try dsimp only at *); omega))), ?_⟩
          · have ke := fun q (h : q ≠ pd + 13 + 7 ∧ q ≠ pd + 13 + 8 ∧ q ≠ pd + 13 + 9) => u2 q h
            obtain ⟨hIP, p0, p1, p2, p3, p4, pb, hF, hV, -, -, -⟩ := id hR1
            have eP : (wTok μ3 (tk μ')).2.2 = μ'.2.2 := by show μ3.2.2 = _; rw [hR3]; rfl
            refine ⟨by rw [eP]; exact hIP, ?_, ?_, ?_, ?_, ?_, fun b b0 b1 => ?_, hF.mono (u2.mono fun q hq => by (try dsimp only at *); omega), hV3.mono ((Kp.rf _ μ3).wt (by (try dsimp only); omega))⟩
            · rw [(ke pd (by omega)).1]; exact p0
            · rw [(ke pd (by omega)).1]; exact p1
            · rw [(ke pd (by omega)).1]; exact p2
            · rw [(ke pd (by omega)).1]; exact p3
            · rw [(ke pd (by omega)).1]; exact p4
            · rw [(ke (pd + 1) (by omega)).1, (ke (pd + 2) (by omega)).1]; exact pb b b0 b1
          · show μ3.2.2 = _
            rw [hR3]
            exact hRR
        · have c37 := of_decide_eq_true c37
          obtain ⟨hIP, -⟩ := id hR1
          obtain ⟨i0, i5, i6, i7, i8, j1, j2, hIF, hIV⟩ := id hIP
          have iv0 := hIV.1
          have if0 := hIF.1
          refine r_aload_n dX6_readPlane_40 rfl ?_
          refine r_getR dX6_readPlane_41 fl_X6_12 rfl (by assumption) (by assumption) ?_
          refine r_ldcX 0 dX6_readPlane_44 (by decide) rfl rfl ?_
          refine r_cV1F1 dX6_readPlane_46 ml_X6_40 yl_X9_tells ⟨rfl, rfl⟩ (by assumption) ⟨_, rfl⟩ rfl rfl rfl rfl (x_tells hL1 hT1 hs1 (i := 0) (by decide)) ?_
          refine r_if_eqB (tgt := 60) dX6_readPlane_49 rfl (fun c49 => ?_) (fun c49 => ?_)
          · refine r_aload_n dX6_readPlane_60 rfl ?_
            refine r_getR dX6_readPlane_61 fl_X6_12 rfl (by assumption) (by assumption) ?_
            refine r_ldcX 1 dX6_readPlane_64 (by decide) rfl rfl ?_
            refine r_cV1F1 dX6_readPlane_66 ml_X6_40 yl_X9_tells ⟨rfl, rfl⟩ (by assumption) ⟨_, rfl⟩ rfl rfl rfl rfl (x_tells hL1 hT1 hs1 (i := 1) (by decide)) ?_
            refine r_if_eqB (tgt := 80) dX6_readPlane_69 rfl (fun c69 => ?_) (fun c69 => ?_)
            · refine r_aload_n dX6_readPlane_80 rfl ?_
              refine r_getR dX6_readPlane_81 fl_X6_12 rfl (by assumption) (by assumption) ?_
              refine r_ldcX 2 dX6_readPlane_84 (by decide) rfl rfl ?_
              refine r_cV1F1 dX6_readPlane_86 ml_X6_40 yl_X9_tells ⟨rfl, rfl⟩ (by assumption) ⟨_, rfl⟩ rfl rfl rfl rfl (x_tells hL1 hT1 hs1 (i := 2) (by decide)) ?_
              refine r_if_eqB (tgt := 100) dX6_readPlane_89 rfl (fun c89 => ?_) (fun c89 => ?_)
              · refine r_aload_n dX6_readPlane_100 rfl ?_
                refine r_getR dX6_readPlane_101 fl_X6_12 rfl (by assumption) (by assumption) ?_
                refine r_ldcX 3 dX6_readPlane_104 (by decide) rfl rfl ?_
                refine r_cV1F1 dX6_readPlane_106 ml_X6_40 yl_X9_tells ⟨rfl, rfl⟩ (by assumption) ⟨_, rfl⟩ rfl rfl rfl rfl (x_tells hL1 hT1 hs1 (i := 3) (by decide)) ?_
                refine r_if_eqB (tgt := 123) dX6_readPlane_109 rfl (fun c109 => ?_) (fun c109 => ?_)
                · refine r_aload_n dX6_readPlane_123 rfl ?_
                  refine r_getR dX6_readPlane_124 fl_X6_12 rfl (by assumption) (by assumption) ?_
                  refine r_ldcX 4 dX6_readPlane_127 (by decide) rfl rfl ?_
                  refine r_cV1F1 dX6_readPlane_129 ml_X6_40 yl_X9_tells ⟨rfl, rfl⟩ (by assumption) ⟨_, rfl⟩ rfl rfl rfl rfl (x_tells hL1 hT1 hs1 (i := 4) (by decide)) ?_
                  refine r_if_eqB (tgt := 146) dX6_readPlane_132 rfl (fun c132 => ?_) (fun c132 => ?_)
                  · refine r_aload_n dX6_readPlane_146 rfl ?_
                    refine r_getR dX6_readPlane_147 fl_X6_12 rfl (by assumption) (by assumption) ?_
                    refine r_ldcX 5 dX6_readPlane_150 (by decide) rfl rfl ?_
                    refine r_cV1F1 dX6_readPlane_152 ml_X6_40 yl_X9_tells ⟨rfl, rfl⟩ (by assumption) ⟨_, rfl⟩ rfl rfl rfl rfl (x_tells hL1 hT1 hs1 (i := 5) (by decide)) ?_
                    refine r_if_eqB (tgt := 166) dX6_readPlane_155 rfl (fun c155 => ?_) (fun c155 => ?_)
                    · refine r_aload_n dX6_readPlane_166 rfl ?_
                      refine r_getR dX6_readPlane_167 fl_X6_12 rfl (by assumption) (by assumption) ?_
                      refine r_ldcX 6 dX6_readPlane_170 (by decide) rfl rfl ?_
                      refine r_cV1F1 dX6_readPlane_172 ml_X6_40 yl_X9_tells ⟨rfl, rfl⟩ (by assumption) ⟨_, rfl⟩ rfl rfl rfl rfl (x_tells hL1 hT1 hs1 (i := 6) (by decide)) ?_
                      refine r_if_eqB (tgt := 186) dX6_readPlane_175 rfl (fun c175 => ?_) (fun c175 => ?_)
                      · refine r_aload_n dX6_readPlane_186 rfl ?_
                        refine r_getR dX6_readPlane_187 fl_X6_12 rfl (by assumption) (by assumption) ?_
                        refine r_ldcX 7 dX6_readPlane_190 (by decide) rfl rfl ?_
                        refine r_cV1F1 dX6_readPlane_192 ml_X6_40 yl_X9_tells ⟨rfl, rfl⟩ (by assumption) ⟨_, rfl⟩ rfl rfl rfl rfl (x_tells hL1 hT1 hs1 (i := 7) (by decide)) ?_
                        refine r_if_eqB (tgt := 209) dX6_readPlane_195 rfl (fun c195 => ?_) (fun c195 => ?_)
                        · refine r_aload_n dX6_readPlane_209 rfl ?_
                          refine r_getR dX6_readPlane_210 fl_X6_12 rfl (by assumption) (by assumption) ?_
                          refine r_ldcX 8 dX6_readPlane_213 (by decide) rfl rfl ?_
                          refine r_cV1F1 dX6_readPlane_215 ml_X6_40 yl_X9_tells ⟨rfl, rfl⟩ (by assumption) ⟨_, rfl⟩ rfl rfl rfl rfl (x_tells hL1 hT1 hs1 (i := 8) (by decide)) ?_
                          refine r_if_eqB (tgt := 232) dX6_readPlane_218 rfl (fun c218 => ?_) (fun c218 => ?_)
                          · refine r_aload_n dX6_readPlane_232 rfl ?_
                            refine r_getR dX6_readPlane_233 fl_X6_12 rfl (by assumption) (by assumption) ?_
                            refine r_iconst dX6_readPlane_236 ?_
                            refine r_cV1F0 dX6_readPlane_237 ml_X6_98 yl_X9_fail ⟨rfl, rfl⟩ (by assumption) ⟨_, rfl⟩ rfl rfl rfl rfl (x_fail hL1 hT1 hs1) ?_
                            have hl : lineP T (nxt T σ) D = (failC (nxt T σ) 1, D) := by
                              unfold lineP
                              rw [if_neg (by rw [c49]; decide), if_neg (by rw [c69]; decide), if_neg (by rw [c89]; decide), if_neg (by rw [c109]; decide), if_neg (by rw [c132]; decide), if_neg (by rw [c155]; decide), if_neg (by rw [c175]; decide), if_neg (by rw [c195]; decide), if_neg (by rw [c218]; decide)]
                            have hR5 : RD n_ μ' pd (lineP T (nxt T σ) D).2 := by rw [hl]; exact hR1
                            have hk5 : Kp (fun a => a ≠ 1 ∧ ¬ (pd ≤ a ∧ a < pd + 23)) μ' μ' := Kp.rf _ _
                            have hRR5 : μ'.2.2 = μ'.2.2 := rfl
                            rw [show failC (nxt T σ) 1 = (lineP T (nxt T σ) D).1 by rw [hl]]
                            refine r_aload_n dX6_readPlane_240 rfl ?_
                            refine r_getR dX6_readPlane_241 fl_X6_12 rfl (by assumption) (by assumption) ?_
                            refine r_cV0F0 dX6_readPlane_244 ml_X6_101 yl_X9_lineEnd ⟨rfl, rfl⟩ (by assumption) ⟨_, rfl⟩ rfl rfl rfl rfl (x_lineEnd (by rw [hRR5]; exact hL1) (hT1.kp hk5 ⟨by (try dsimp only); omega, by (try dsimp only); omega⟩) (lineP_ok t2.2 hs1 D)) ?_
                            refine r_iinc dX6_readPlane_247 rfl rfl ?_
                            refine r_goto (tgt := 26) dX6_readPlane_250 rfl ?_
                            have hst : loopP T (q + 1) σ D = loopP T q (lendC T (lineP T (nxt T σ) D).1) (lineP T (nxt T σ) D).2 := by rw [loopP, if_pos c37]
                            rw [hst]
                            exact ih q (k + 1) _ _ _ (by omega) (by omega) (by omega) (hRR5.trans hRR) (hkp.tr hk5) (lend_ok t2.2 (lineP_ok t2.2 hs1 D)) hR5 (lineP_D t2.2 hs1 hD1)
                          · refine r_aload_n dX6_readPlane_221 rfl ?_
                            refine r_aload_n dX6_readPlane_222 rfl ?_
                            refine r_getR dX6_readPlane_223 fl_X6_85 rfl (by assumption) (by assumption) ?_
                            refine r_cV1N dX6_readPlane_226 ml_X6_95 yl_X6_readStop ⟨rfl, rfl⟩ (by assumption) ⟨_, rfl⟩ rfl rfl rfl rfl (x_readStop hL1 hT1 hs1 hpd hR1 hD1) ?_
                            rintro μ4 ⟨μ5, rfl, hR5, hk5, hRR5⟩
                            have rt5 : μ5.2.2 1 0 = some 2 := by rw [hRR5]; exact rt
                            have hl : lineP T (nxt T σ) D = stopL T (nxt T σ) D := by
                              unfold lineP
                              rw [if_neg (by rw [c49]; decide), if_neg (by rw [c69]; decide), if_neg (by rw [c89]; decide), if_neg (by rw [c109]; decide), if_neg (by rw [c132]; decide), if_neg (by rw [c155]; decide), if_neg (by rw [c175]; decide), if_neg (by rw [c195]; decide), if_pos c218]
                            rw [← hl] at hR5 ⊢
                            refine r_goto (tgt := 240) dX6_readPlane_229 rfl ?_
                            refine r_aload_n dX6_readPlane_240 rfl ?_
                            refine r_getR dX6_readPlane_241 fl_X6_12 rfl (by assumption) (by assumption) ?_
                            refine r_cV0F0 dX6_readPlane_244 ml_X6_101 yl_X9_lineEnd ⟨rfl, rfl⟩ (by assumption) ⟨_, rfl⟩ rfl rfl rfl rfl (x_lineEnd (by rw [hRR5]; exact hL1) (hT1.kp hk5 ⟨by (try dsimp only); omega, by (try dsimp only); omega⟩) (lineP_ok t2.2 hs1 D)) ?_
                            refine r_iinc dX6_readPlane_247 rfl rfl ?_
                            refine r_goto (tgt := 26) dX6_readPlane_250 rfl ?_
                            have hst : loopP T (q + 1) σ D = loopP T q (lendC T (lineP T (nxt T σ) D).1) (lineP T (nxt T σ) D).2 := by rw [loopP, if_pos c37]
                            rw [hst]
                            exact ih q (k + 1) _ _ _ (by omega) (by omega) (by omega) (hRR5.trans hRR) (hkp.tr hk5) (lend_ok t2.2 (lineP_ok t2.2 hs1 D)) hR5 (lineP_D t2.2 hs1 hD1)
                        · refine r_aload_n dX6_readPlane_198 rfl ?_
                          refine r_aload_n dX6_readPlane_199 rfl ?_
                          refine r_getR dX6_readPlane_200 fl_X6_85 rfl (by assumption) (by assumption) ?_
                          refine r_cV1N dX6_readPlane_203 ml_X6_89 yl_X6_readBurn ⟨rfl, rfl⟩ (by assumption) ⟨_, rfl⟩ rfl rfl rfl rfl (x_readBurn hL1 hT1 hs1 hpd hR1 hD1) ?_
                          rintro μ4 ⟨μ5, rfl, hR5, hk5, hRR5⟩
                          have rt5 : μ5.2.2 1 0 = some 2 := by rw [hRR5]; exact rt
                          have hl : lineP T (nxt T σ) D = burnL T (nxt T σ) D := by
                            unfold lineP
                            rw [if_neg (by rw [c49]; decide), if_neg (by rw [c69]; decide), if_neg (by rw [c89]; decide), if_neg (by rw [c109]; decide), if_neg (by rw [c132]; decide), if_neg (by rw [c155]; decide), if_neg (by rw [c175]; decide), if_pos c195]
                          rw [← hl] at hR5 ⊢
                          refine r_goto (tgt := 240) dX6_readPlane_206 rfl ?_
                          refine r_aload_n dX6_readPlane_240 rfl ?_
                          refine r_getR dX6_readPlane_241 fl_X6_12 rfl (by assumption) (by assumption) ?_
                          refine r_cV0F0 dX6_readPlane_244 ml_X6_101 yl_X9_lineEnd ⟨rfl, rfl⟩ (by assumption) ⟨_, rfl⟩ rfl rfl rfl rfl (x_lineEnd (by rw [hRR5]; exact hL1) (hT1.kp hk5 ⟨by (try dsimp only); omega, by (try dsimp only); omega⟩) (lineP_ok t2.2 hs1 D)) ?_
                          refine r_iinc dX6_readPlane_247 rfl rfl ?_
                          refine r_goto (tgt := 26) dX6_readPlane_250 rfl ?_
                          have hst : loopP T (q + 1) σ D = loopP T q (lendC T (lineP T (nxt T σ) D).1) (lineP T (nxt T σ) D).2 := by rw [loopP, if_pos c37]
                          rw [hst]
                          exact ih q (k + 1) _ _ _ (by omega) (by omega) (by omega) (hRR5.trans hRR) (hkp.tr hk5) (lend_ok t2.2 (lineP_ok t2.2 hs1 D)) hR5 (lineP_D t2.2 hs1 hD1)
                      · refine r_aload_n dX6_readPlane_178 rfl ?_
                        refine r_aload_n dX6_readPlane_179 rfl ?_
                        refine r_cV1N dX6_readPlane_180 ml_X6_80 yl_X6_readTank ⟨rfl, rfl⟩ (by assumption) ⟨_, rfl⟩ rfl rfl rfl rfl (x_readTank hL1 hT1 hs1 hpd hR1 hD1) ?_
                        rintro μ4 ⟨μ5, rfl, hR5, hk5, hRR5⟩
                        have rt5 : μ5.2.2 1 0 = some 2 := by rw [hRR5]; exact rt
                        have hl : lineP T (nxt T σ) D = tankL T (nxt T σ) D := by
                          unfold lineP
                          rw [if_neg (by rw [c49]; decide), if_neg (by rw [c69]; decide), if_neg (by rw [c89]; decide), if_neg (by rw [c109]; decide), if_neg (by rw [c132]; decide), if_neg (by rw [c155]; decide), if_pos c175]
                        rw [← hl] at hR5 ⊢
                        refine r_goto (tgt := 240) dX6_readPlane_183 rfl ?_
                        refine r_aload_n dX6_readPlane_240 rfl ?_
                        refine r_getR dX6_readPlane_241 fl_X6_12 rfl (by assumption) (by assumption) ?_
                        refine r_cV0F0 dX6_readPlane_244 ml_X6_101 yl_X9_lineEnd ⟨rfl, rfl⟩ (by assumption) ⟨_, rfl⟩ rfl rfl rfl rfl (x_lineEnd (by rw [hRR5]; exact hL1) (hT1.kp hk5 ⟨by (try dsimp only); omega, by (try dsimp only); omega⟩) (lineP_ok t2.2 hs1 D)) ?_
                        refine r_iinc dX6_readPlane_247 rfl rfl ?_
                        refine r_goto (tgt := 26) dX6_readPlane_250 rfl ?_
                        have hst : loopP T (q + 1) σ D = loopP T q (lendC T (lineP T (nxt T σ) D).1) (lineP T (nxt T σ) D).2 := by rw [loopP, if_pos c37]
                        rw [hst]
                        exact ih q (k + 1) _ _ _ (by omega) (by omega) (by omega) (hRR5.trans hRR) (hkp.tr hk5) (lend_ok t2.2 (lineP_ok t2.2 hs1 D)) hR5 (lineP_D t2.2 hs1 hD1)
                    · refine r_aload_n dX6_readPlane_158 rfl ?_
                      refine r_aload_n dX6_readPlane_159 rfl ?_
                      refine r_cV1N dX6_readPlane_160 ml_X6_75 yl_X6_readBin ⟨rfl, rfl⟩ (by assumption) ⟨_, rfl⟩ rfl rfl rfl rfl (x_readBin hL1 hT1 hs1 hpd hR1 hD1) ?_
                      rintro μ4 ⟨μ5, rfl, hR5, hk5, hRR5⟩
                      have rt5 : μ5.2.2 1 0 = some 2 := by rw [hRR5]; exact rt
                      have hl : lineP T (nxt T σ) D = binL T (nxt T σ) D := by
                        unfold lineP
                        rw [if_neg (by rw [c49]; decide), if_neg (by rw [c69]; decide), if_neg (by rw [c89]; decide), if_neg (by rw [c109]; decide), if_neg (by rw [c132]; decide), if_pos c155]
                      rw [← hl] at hR5 ⊢
                      refine r_goto (tgt := 240) dX6_readPlane_163 rfl ?_
                      refine r_aload_n dX6_readPlane_240 rfl ?_
                      refine r_getR dX6_readPlane_241 fl_X6_12 rfl (by assumption) (by assumption) ?_
                      refine r_cV0F0 dX6_readPlane_244 ml_X6_101 yl_X9_lineEnd ⟨rfl, rfl⟩ (by assumption) ⟨_, rfl⟩ rfl rfl rfl rfl (x_lineEnd (by rw [hRR5]; exact hL1) (hT1.kp hk5 ⟨by (try dsimp only); omega, by (try dsimp only); omega⟩) (lineP_ok t2.2 hs1 D)) ?_
                      refine r_iinc dX6_readPlane_247 rfl rfl ?_
                      refine r_goto (tgt := 26) dX6_readPlane_250 rfl ?_
                      have hst : loopP T (q + 1) σ D = loopP T q (lendC T (lineP T (nxt T σ) D).1) (lineP T (nxt T σ) D).2 := by rw [loopP, if_pos c37]
                      rw [hst]
                      exact ih q (k + 1) _ _ _ (by omega) (by omega) (by omega) (hRR5.trans hRR) (hkp.tr hk5) (lend_ok t2.2 (lineP_ok t2.2 hs1 D)) hR5 (lineP_D t2.2 hs1 hD1)
                  · refine r_aload_n dX6_readPlane_135 rfl ?_
                    refine r_aload_n dX6_readPlane_136 rfl ?_
                    refine r_getR dX6_readPlane_137 fl_X6_60 rfl (by assumption) (by assumption) ?_
                    refine r_cV1N dX6_readPlane_140 ml_X6_70 yl_X6_readJoint ⟨rfl, rfl⟩ (by assumption) ⟨_, rfl⟩ rfl rfl rfl rfl (x_readJoint hL1 hT1 hs1 hpd hR1 hD1) ?_
                    rintro μ4 ⟨μ5, rfl, hR5, hk5, hRR5⟩
                    have rt5 : μ5.2.2 1 0 = some 2 := by rw [hRR5]; exact rt
                    have hl : lineP T (nxt T σ) D = jointL T (nxt T σ) D := by
                      unfold lineP
                      rw [if_neg (by rw [c49]; decide), if_neg (by rw [c69]; decide), if_neg (by rw [c89]; decide), if_neg (by rw [c109]; decide), if_pos c132]
                    rw [← hl] at hR5 ⊢
                    refine r_goto (tgt := 240) dX6_readPlane_143 rfl ?_
                    refine r_aload_n dX6_readPlane_240 rfl ?_
                    refine r_getR dX6_readPlane_241 fl_X6_12 rfl (by assumption) (by assumption) ?_
                    refine r_cV0F0 dX6_readPlane_244 ml_X6_101 yl_X9_lineEnd ⟨rfl, rfl⟩ (by assumption) ⟨_, rfl⟩ rfl rfl rfl rfl (x_lineEnd (by rw [hRR5]; exact hL1) (hT1.kp hk5 ⟨by (try dsimp only); omega, by (try dsimp only); omega⟩) (lineP_ok t2.2 hs1 D)) ?_
                    refine r_iinc dX6_readPlane_247 rfl rfl ?_
                    refine r_goto (tgt := 26) dX6_readPlane_250 rfl ?_
                    have hst : loopP T (q + 1) σ D = loopP T q (lendC T (lineP T (nxt T σ) D).1) (lineP T (nxt T σ) D).2 := by rw [loopP, if_pos c37]
                    rw [hst]
                    exact ih q (k + 1) _ _ _ (by omega) (by omega) (by omega) (hRR5.trans hRR) (hkp.tr hk5) (lend_ok t2.2 (lineP_ok t2.2 hs1 D)) hR5 (lineP_D t2.2 hs1 hD1)
                · refine r_aload_n dX6_readPlane_112 rfl ?_
                  refine r_aload_n dX6_readPlane_113 rfl ?_
                  refine r_getR dX6_readPlane_114 fl_X6_60 rfl (by assumption) (by assumption) ?_
                  refine r_cV1N dX6_readPlane_117 ml_X6_64 yl_X6_readSpot ⟨rfl, rfl⟩ (by assumption) ⟨_, rfl⟩ rfl rfl rfl rfl (x_readSpot hL1 hT1 hs1 hpd hR1 hD1) ?_
                  rintro μ4 ⟨μ5, rfl, hR5, hk5, hRR5⟩
                  have rt5 : μ5.2.2 1 0 = some 2 := by rw [hRR5]; exact rt
                  have hl : lineP T (nxt T σ) D = spotL T (nxt T σ) D := by
                    unfold lineP
                    rw [if_neg (by rw [c49]; decide), if_neg (by rw [c69]; decide), if_neg (by rw [c89]; decide), if_pos c109]
                  rw [← hl] at hR5 ⊢
                  refine r_goto (tgt := 240) dX6_readPlane_120 rfl ?_
                  refine r_aload_n dX6_readPlane_240 rfl ?_
                  refine r_getR dX6_readPlane_241 fl_X6_12 rfl (by assumption) (by assumption) ?_
                  refine r_cV0F0 dX6_readPlane_244 ml_X6_101 yl_X9_lineEnd ⟨rfl, rfl⟩ (by assumption) ⟨_, rfl⟩ rfl rfl rfl rfl (x_lineEnd (by rw [hRR5]; exact hL1) (hT1.kp hk5 ⟨by (try dsimp only); omega, by (try dsimp only); omega⟩) (lineP_ok t2.2 hs1 D)) ?_
                  refine r_iinc dX6_readPlane_247 rfl rfl ?_
                  refine r_goto (tgt := 26) dX6_readPlane_250 rfl ?_
                  have hst : loopP T (q + 1) σ D = loopP T q (lendC T (lineP T (nxt T σ) D).1) (lineP T (nxt T σ) D).2 := by rw [loopP, if_pos c37]
                  rw [hst]
                  exact ih q (k + 1) _ _ _ (by omega) (by omega) (by omega) (hRR5.trans hRR) (hkp.tr hk5) (lend_ok t2.2 (lineP_ok t2.2 hs1 D)) hR5 (lineP_D t2.2 hs1 hD1)
              · refine r_aload_n dX6_readPlane_92 rfl ?_
                refine r_aload_n dX6_readPlane_93 rfl ?_
                refine r_cV1N dX6_readPlane_94 ml_X6_55 yl_X6_readHold ⟨rfl, rfl⟩ (by assumption) ⟨_, rfl⟩ rfl rfl rfl rfl (x_readHold hL1 hT1 hs1 hpd hR1 hD1) ?_
                rintro μ4 ⟨μ5, rfl, hR5, hk5, hRR5⟩
                have rt5 : μ5.2.2 1 0 = some 2 := by rw [hRR5]; exact rt
                have hl : lineP T (nxt T σ) D = holdL T (nxt T σ) D := by
                  unfold lineP
                  rw [if_neg (by rw [c49]; decide), if_neg (by rw [c69]; decide), if_pos c89]
                rw [← hl] at hR5 ⊢
                refine r_goto (tgt := 240) dX6_readPlane_97 rfl ?_
                refine r_aload_n dX6_readPlane_240 rfl ?_
                refine r_getR dX6_readPlane_241 fl_X6_12 rfl (by assumption) (by assumption) ?_
                refine r_cV0F0 dX6_readPlane_244 ml_X6_101 yl_X9_lineEnd ⟨rfl, rfl⟩ (by assumption) ⟨_, rfl⟩ rfl rfl rfl rfl (x_lineEnd (by rw [hRR5]; exact hL1) (hT1.kp hk5 ⟨by (try dsimp only); omega, by (try dsimp only); omega⟩) (lineP_ok t2.2 hs1 D)) ?_
                refine r_iinc dX6_readPlane_247 rfl rfl ?_
                refine r_goto (tgt := 26) dX6_readPlane_250 rfl ?_
                have hst : loopP T (q + 1) σ D = loopP T q (lendC T (lineP T (nxt T σ) D).1) (lineP T (nxt T σ) D).2 := by rw [loopP, if_pos c37]
                rw [hst]
                exact ih q (k + 1) _ _ _ (by omega) (by omega) (by omega) (hRR5.trans hRR) (hkp.tr hk5) (lend_ok t2.2 (lineP_ok t2.2 hs1 D)) hR5 (lineP_D t2.2 hs1 hD1)
            · refine r_aload_n dX6_readPlane_72 rfl ?_
              refine r_aload_n dX6_readPlane_73 rfl ?_
              refine r_cV1N dX6_readPlane_74 ml_X6_50 yl_X6_readSpan ⟨rfl, rfl⟩ (by assumption) ⟨_, rfl⟩ rfl rfl rfl rfl (x_readSpan hL1 hT1 hs1 hpd hR1 hD1) ?_
              rintro μ4 ⟨μ5, rfl, hR5, hk5, hRR5⟩
              have rt5 : μ5.2.2 1 0 = some 2 := by rw [hRR5]; exact rt
              have hl : lineP T (nxt T σ) D = spanL T (nxt T σ) D := by
                unfold lineP
                rw [if_neg (by rw [c49]; decide), if_pos c69]
              rw [← hl] at hR5 ⊢
              refine r_goto (tgt := 240) dX6_readPlane_77 rfl ?_
              refine r_aload_n dX6_readPlane_240 rfl ?_
              refine r_getR dX6_readPlane_241 fl_X6_12 rfl (by assumption) (by assumption) ?_
              refine r_cV0F0 dX6_readPlane_244 ml_X6_101 yl_X9_lineEnd ⟨rfl, rfl⟩ (by assumption) ⟨_, rfl⟩ rfl rfl rfl rfl (x_lineEnd (by rw [hRR5]; exact hL1) (hT1.kp hk5 ⟨by (try dsimp only); omega, by (try dsimp only); omega⟩) (lineP_ok t2.2 hs1 D)) ?_
              refine r_iinc dX6_readPlane_247 rfl rfl ?_
              refine r_goto (tgt := 26) dX6_readPlane_250 rfl ?_
              have hst : loopP T (q + 1) σ D = loopP T q (lendC T (lineP T (nxt T σ) D).1) (lineP T (nxt T σ) D).2 := by rw [loopP, if_pos c37]
              rw [hst]
              exact ih q (k + 1) _ _ _ (by omega) (by omega) (by omega) (hRR5.trans hRR) (hkp.tr hk5) (lend_ok t2.2 (lineP_ok t2.2 hs1 D)) hR5 (lineP_D t2.2 hs1 hD1)
          · refine r_aload_n dX6_readPlane_52 rfl ?_
            refine r_aload_n dX6_readPlane_53 rfl ?_
            refine r_cV1N dX6_readPlane_54 ml_X6_44 yl_X6_readEmpty ⟨rfl, rfl⟩ (by assumption) ⟨_, rfl⟩ rfl rfl rfl rfl (x_readEmpty hL1 hT1 hs1 hpd hR1 hD1) ?_
            rintro μ4 ⟨μ5, rfl, hR5, hk5, hRR5⟩
            have rt5 : μ5.2.2 1 0 = some 2 := by rw [hRR5]; exact rt
            have hl : lineP T (nxt T σ) D = emptyL T (nxt T σ) D := by
              unfold lineP
              rw [if_pos c49]
            rw [← hl] at hR5 ⊢
            refine r_goto (tgt := 240) dX6_readPlane_57 rfl ?_
            refine r_aload_n dX6_readPlane_240 rfl ?_
            refine r_getR dX6_readPlane_241 fl_X6_12 rfl (by assumption) (by assumption) ?_
            refine r_cV0F0 dX6_readPlane_244 ml_X6_101 yl_X9_lineEnd ⟨rfl, rfl⟩ (by assumption) ⟨_, rfl⟩ rfl rfl rfl rfl (x_lineEnd (by rw [hRR5]; exact hL1) (hT1.kp hk5 ⟨by (try dsimp only); omega, by (try dsimp only); omega⟩) (lineP_ok t2.2 hs1 D)) ?_
            refine r_iinc dX6_readPlane_247 rfl rfl ?_
            refine r_goto (tgt := 26) dX6_readPlane_250 rfl ?_
            have hst : loopP T (q + 1) σ D = loopP T q (lendC T (lineP T (nxt T σ) D).1) (lineP T (nxt T σ) D).2 := by rw [loopP, if_pos c37]
            rw [hst]
            exact ih q (k + 1) _ _ _ (by omega) (by omega) (by omega) (hRR5.trans hRR) (hkp.tr hk5) (lend_ok t2.2 (lineP_ok t2.2 hs1 D)) hR5 (lineP_D t2.2 hs1 hD1)
  refine AMet.of (by decide) rfl (by decide) rfl ?_
  refine r_aload_n dX6_readPlane_0 rfl ?_
  refine r_iconst dX6_readPlane_1 ?_
  refine r_putZ dX6_readPlane_2 fl_X6_18 (by assumption) (by first | exact Or.inl rfl | exact Or.inr rfl | exact b2i_01 _ | omega) ?_
  refine r_aload_n dX6_readPlane_5 rfl ?_
  refine r_iconst dX6_readPlane_6 ?_
  refine r_putZ dX6_readPlane_7 fl_X6_22 (by assumption) (by first | exact Or.inl rfl | exact Or.inr rfl | exact b2i_01 _ | omega) ?_
  have hkc : Kp (fun a => a ≠ 1 ∧ ¬ (pd ≤ a ∧ a < pd + 23)) μ (clrP (setI (setI μ 1 1 0) 1 2 0) pd) := (((Kp.rf _ μ).sI (by omega)).sI (by omega)).tr (Kp.clrP fun q q0 q1 => by (try dsimp only); omega)
  have hb := x_begin (n_ := n_) (μ := clrP (setI (setI μ 1 1 0) 1 2 0) pd) (σ := tk (clrP (setI (setI μ 1 1 0) 1 2 0) pd)) hL (hT.kp hkc ⟨by (try dsimp only); omega, by (try dsimp only); omega⟩) (n := 500) (by omega)
  rw [tk_tk] at hb
  refine r_aload_n dX6_readPlane_10 rfl ?_
  refine r_cV0F0 dX6_readPlane_11 ml_X6_25 yl_X5_clear ⟨rfl, rfl⟩ (by assumption) ⟨_, rfl⟩ rfl rfl rfl rfl (d_clearP (μ := setI (setI μ 1 1 0) 1 2 0) hIP) ?_
  refine r_aload_n dX6_readPlane_14 rfl ?_
  refine r_getR dX6_readPlane_15 fl_X6_12 rfl (by assumption) (by assumption) ?_
  refine r_sipush dX6_readPlane_18 (by decide) ?_
  refine r_cV1F0 dX6_readPlane_21 ml_X6_30 yl_X9_begin ⟨rfl, rfl⟩ (by assumption) ⟨_, rfl⟩ rfl rfl rfl rfl (hb) ?_
  refine r_iconst dX6_readPlane_24 ?_
  refine r_istore_n dX6_readPlane_25 rfl ?_
  exact lB _ 500 0 _ _ D0 (Nat.lt_succ_self _) (by omega) (by omega) rfl hkc (beginC_ok t2.1 (by omega)) (RD.start hIP (by omega)) D0_ok

