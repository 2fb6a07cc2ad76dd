/-! 43.read3: taken from whole (wip/p37/port.py) -/
variable {n_ : Sh}
/-! 43.read3: the class reads a line (wip/whole/src/43_read3.py) -/
def RDS (n_ : Sh) (μ : Mem) (pd : Nat) (r : Sg × PD) (μ2 : Mem) : Prop := ∃ μ', μ2 = wTok μ' r.1 ∧ RD n_ μ' pd r.2 ∧ Kp (fun a => a ≠ 1 ∧ ¬ (pd ≤ a ∧ a < pd + 23)) μ μ' ∧ μ'.2.2 = μ.2.2
theorem RDS.no {μ : Mem} {pd : Nat} {σ : Sg} {D : PD} (h : RD n_ μ pd D) : RDS n_ μ pd (σ, D) (wTok μ σ) := ⟨μ, rfl, h, Kp.rf _ _, rfl⟩
/-- the token's numbers as they are -/
def tk (μ : Mem) : Sg := (μ.1 2 6, μ.1 2 5, μ.1 2 4, μ.1 2 2, μ.1 2 3)
theorem tk_tk (μ : Mem) : wTok μ (tk μ) = μ := wt_eta rfl rfl rfl rfl rfl
theorem un_tok {S : Nat → Prop} {μ μ3 : Mem} {τ : Sg} (hk : Kp S (wTok μ τ) μ3) (h2 : S 2) : μ3 = wTok (wTok μ3 (tk μ)) τ ∧ Kp S μ (wTok μ3 (tk μ)) := by
  have e := fun j => congrFun (hk 2 h2).1 j
  refine ⟨?_, fun q hq => ?_⟩
  · rw [wt_wt]
    exact (wt_eta ((e 2).trans wt2) ((e 3).trans wt3) ((e 4).trans wt4) ((e 5).trans wt5) ((e 6).trans wt6)).symm
  · have k := hk q hq
    refine ⟨funext fun j => ?_, k.2.1, k.2.2⟩
    by_cases h : q = 2
    · subst h
      by_cases hj : 2 ≤ j ∧ j ≤ 6
      · rcases (show j = 2 ∨ j = 3 ∨ j = 4 ∨ j = 5 ∨ j = 6 by omega) with rfl | rfl | rfl | rfl | rfl
        · exact wt2
        · exact wt3
        · exact wt4
        · exact wt5
        · exact wt6
      · have a : (wTok μ3 (tk μ)).1 2 j = μ3.1 2 j := if_neg (by omega)
        have b : (wTok μ τ).1 2 j = μ.1 2 j := if_neg (by omega)
        rw [a, e j, b]
    · rw [wt_ne h, k.1, wt_ne h]
theorem x_readHold {μ : Mem} {T : Tq} {σ : Sg} {D : PD} {pd : Nat} (hL : Lay μ.2.2) (hT : TapX μ T.1 T.2) (hs : SgOK T σ) (hpd : pd = 4 ∨ pd = 27) (hR : RD n_ μ pd D) (hD : DOK D)  : VMet yX6_readHold gX6_readHold (SH n_) [vR 1, vR pd] (wTok μ σ) (fun μ2 => RDS n_ μ pd (holdL T σ D) μ2) := by
  have x1 : (SH n_)[1]? = some (6, 4) := rfl
  have x2 : (SH n_)[2]? = some (8, 7) := rfl
  have x3 : (SH n_)[3]? = some (20, 540) := rfl
  have r20 := hL.r2_0
  have rt := hL.r1_0
  obtain ⟨t1, t2, t3⟩ := id hT
  have hs0 := hs
  unfold SgOK at hs0
  have hc := hD.1
  unfold cntOK at hc
  obtain ⟨hIP, p0, p1, p2, p3, p4, pb, hF, hV, ⟨nh, nt⟩, e1, e2⟩ := id hR
  obtain ⟨i0, i5, i6, i7, i8, j1, j2, hIF, hIV⟩ := id hIP
  obtain ⟨-, f0, fh, f4, fs, f9, fj⟩ := id hF
  obtain ⟨-, v0, vt, v5, v8, vi⟩ := id hV
  have if0 := hIF.1
  have iv0 := hIV.1
  have s1 : SgOK T (iff' (3 ≤ D.1 4) σ 4) := iff_ok hs (by decide)
  have hx1 := x_newName (n_ := n_) hL hT s1 hpd hR hD
  have ok1 := newN_ok t2.2 s1 D
  have hx2 := x_number (n_ := n_) hL hT ok1.1 (lo := 1) (hi := 999) (by omega) (by omega)
  have ok2 := num_ok t2.2 ok1.1 1 999
  have hx3 := x_isFrontDoor (n_ := n_) hL hT ok2.1
  have ok3 := front_ok t2.2 ok2.1
  have hlt : sE (holdS3 T σ D).2 = 0 → D.1 4 < 3 := fun e => by
    have f3 := front_0 e
    have f2 := num_0 f3.1
    have f1 := newN_0 f2.1
    have f1e : sE (wordC T (iff' (3 ≤ D.1 4) σ 4)).2 = 0 := by rw [← f1.1]; exact f2.1
    have f0 := iff_0 (by decide) (word_0 f1e).1
    omega
  have hN : holdL T σ D = ((holdS3 T σ D).2, if sE (holdS3 T σ D).2 = 0 then addHold D (holdS1 T σ D).1 (holdS2 T σ D).1 (holdS3 T σ D).1 else D) := rfl
  rw [← show holdS1 T σ D = newN T (iff' (3 ≤ D.1 4) σ 4) D from rfl] at hx1 hx2 hx3 ok1 ok2 ok3
  rw [← show holdS2 T σ D = numC T (holdS1 T σ D).2 1 999 from rfl] at hx2 hx3 ok2 ok3
  rw [← show holdS3 T σ D = frontC T (holdS2 T σ D).2 from rfl] at hx3 ok3
  generalize holdS1 T σ D = n1 at *
  generalize holdS2 T σ D = n2 at *
  generalize holdS3 T σ D = n3 at *
  have ok3e := ok3.1
  unfold SgOK at ok3e
  rw [hN]
  refine AMet.of (by decide) rfl (by decide) rfl ?_
  refine r_aload_n dX6_readHold_0 rfl ?_
  refine r_getR dX6_readHold_1 fl_X6_60 rfl (by assumption) (by assumption) ?_
  refine r_getI dX6_readHold_4 fl_X6_156 rfl (by assumption) ?_
  (try simp (disch := omega) only [wt2, wt4, wt_ne, mkT, mkF, mkK, mkE, mkP]); (try rw [f0]); (try rw [f4]); (try rw [f9]); (try rw [v0]); (try rw [v5]); (try rw [v8]); (try rw [p4]); (try rw [e1]); (try rw [e2])
  refine r_iconst dX6_readHold_7 ?_
  refine q_icmp_lt (tgt := 19) dX6_readHold_8 rfl (by omega) (by omega) (fun c8 => ?_) (fun c8 => ?_)
  · rw [show wTok μ σ = wTok μ (iff' (3 ≤ D.1 4) σ 4) from congrArg (wTok μ) (iff_neg (by omega)).symm]
    refine r_aload_n dX6_readHold_19 rfl ?_
    refine r_aload_n dX6_readHold_20 rfl ?_
    refine r_cV1F1 dX6_readHold_21 ml_X6_161 yl_X6_newName ⟨rfl, rfl⟩ (by assumption) ⟨_, rfl⟩ rfl rfl rfl rfl (hx1) ?_
    refine r_lstore_n dX6_readHold_24 rfl ?_
    refine r_aload_n dX6_readHold_25 rfl ?_
    refine r_getR dX6_readHold_26 fl_X6_12 rfl (by assumption) (by assumption) ?_
    refine r_iconst dX6_readHold_29 ?_
    refine r_sipush dX6_readHold_30 (by decide) ?_
    refine r_cV2F1 dX6_readHold_33 ml_X6_146 yl_X9_number ⟨rfl, rfl⟩ (by assumption) ⟨_, rfl⟩ rfl rfl rfl rfl (hx2) ?_
    refine r_istore dX6_readHold_36 rfl ?_
    refine r_aload_n dX6_readHold_38 rfl ?_
    refine r_cV0F1 dX6_readHold_39 ml_X6_165 yl_X6_isFrontDoor ⟨rfl, rfl⟩ (by assumption) ⟨_, rfl⟩ rfl rfl rfl rfl (hx3) ?_
    refine r_istore dX6_readHold_42 rfl ?_
    refine r_aload_n dX6_readHold_44 rfl ?_
    refine r_getR dX6_readHold_45 fl_X6_12 rfl (by assumption) (by assumption) ?_
    refine r_getI dX6_readHold_48 fl_X6_140 rfl (by assumption) ?_
    (try simp (disch := omega) only [wt2, wt4, wt_ne, mkT, mkF, mkK, mkE, mkP]); (try rw [f0]); (try rw [f4]); (try rw [f9]); (try rw [v0]); (try rw [v5]); (try rw [v8]); (try rw [p4]); (try rw [e1]); (try rw [e2])
    refine q_if_ne (tgt := 66) dX6_readHold_51 rfl (by omega) (fun c51 => ?_) (fun c51 => ?_)
    · refine r_return dX6_readHold_66 rfl rfl rfl ?_
      refine ⟨rfl, rfl, ?_⟩
      first
      | (rw [if_neg (show ¬ sE n3.2 = 0 by omega)]; exact RDS.no hR)
      | (rw [if_pos (show sE n3.2 = 0 by omega)]; exact ⟨_, rfl, rd_adH hR hD (hlt (by omega)) ok3.2 (by omega), kp_adH (fun q q0 q1 => by (try dsimp only at *); omega), rfl⟩)
    · refine r_aload_n dX6_readHold_54 rfl ?_
      refine r_getR dX6_readHold_55 fl_X6_60 rfl (by assumption) (by assumption) ?_
      refine r_lload_n dX6_readHold_58 rfl ?_
      refine r_iload dX6_readHold_59 rfl ?_
      refine r_iload dX6_readHold_61 rfl ?_
      refine r_cV3F0 dX6_readHold_63 ml_X6_168 yl_X1_addHold ⟨rfl, rfl⟩ (by assumption) ⟨_, rfl⟩ rfl rfl rfl rfl (d_addHold (μ := wTok μ n3.2) hIF (by rw [wt_ne (by omega), f0]; have := hlt (by omega); omega) ok3.2) ?_
      rw [adH_wt (by omega)]
      refine r_return dX6_readHold_66 rfl rfl rfl ?_
      refine ⟨rfl, rfl, ?_⟩
      first
      | (rw [if_neg (show ¬ sE n3.2 = 0 by omega)]; exact RDS.no hR)
      | (rw [if_pos (show sE n3.2 = 0 by omega)]; exact ⟨_, rfl, rd_adH hR hD (hlt (by omega)) ok3.2 (by omega), kp_adH (fun q q0 q1 => by (try dsimp only at *); omega), rfl⟩)
  · refine r_aload_n dX6_readHold_11 rfl ?_
    refine r_getR dX6_readHold_12 fl_X6_12 rfl (by assumption) (by assumption) ?_
    refine r_iconst dX6_readHold_15 ?_
    refine r_cV1F0 dX6_readHold_16 ml_X6_98 yl_X9_fail ⟨rfl, rfl⟩ (by assumption) ⟨_, rfl⟩ rfl rfl rfl rfl (x_fail hL hT hs) ?_
    rw [← iff_pos (c := 3 ≤ D.1 4) (σ := σ) (k := 4) (by omega)]
    refine r_aload_n dX6_readHold_19 rfl ?_
    refine r_aload_n dX6_readHold_20 rfl ?_
    refine r_cV1F1 dX6_readHold_21 ml_X6_161 yl_X6_newName ⟨rfl, rfl⟩ (by assumption) ⟨_, rfl⟩ rfl rfl rfl rfl (hx1) ?_
    refine r_lstore_n dX6_readHold_24 rfl ?_
    refine r_aload_n dX6_readHold_25 rfl ?_
    refine r_getR dX6_readHold_26 fl_X6_12 rfl (by assumption) (by assumption) ?_
    refine r_iconst dX6_readHold_29 ?_
    refine r_sipush dX6_readHold_30 (by decide) ?_
    refine r_cV2F1 dX6_readHold_33 ml_X6_146 yl_X9_number ⟨rfl, rfl⟩ (by assumption) ⟨_, rfl⟩ rfl rfl rfl rfl (hx2) ?_
    refine r_istore dX6_readHold_36 rfl ?_
    refine r_aload_n dX6_readHold_38 rfl ?_
    refine r_cV0F1 dX6_readHold_39 ml_X6_165 yl_X6_isFrontDoor ⟨rfl, rfl⟩ (by assumption) ⟨_, rfl⟩ rfl rfl rfl rfl (hx3) ?_
    refine r_istore dX6_readHold_42 rfl ?_
    refine r_aload_n dX6_readHold_44 rfl ?_
    refine r_getR dX6_readHold_45 fl_X6_12 rfl (by assumption) (by assumption) ?_
    refine r_getI dX6_readHold_48 fl_X6_140 rfl (by assumption) ?_
    (try simp (disch := omega) only [wt2, wt4, wt_ne, mkT, mkF, mkK, mkE, mkP]); (try rw [f0]); (try rw [f4]); (try rw [f9]); (try rw [v0]); (try rw [v5]); (try rw [v8]); (try rw [p4]); (try rw [e1]); (try rw [e2])
    refine q_if_ne (tgt := 66) dX6_readHold_51 rfl (by omega) (fun c51 => ?_) (fun c51 => ?_)
    · refine r_return dX6_readHold_66 rfl rfl rfl ?_
      refine ⟨rfl, rfl, ?_⟩
      first
      | (rw [if_neg (show ¬ sE n3.2 = 0 by omega)]; exact RDS.no hR)
      | (rw [if_pos (show sE n3.2 = 0 by omega)]; exact ⟨_, rfl, rd_adH hR hD (hlt (by omega)) ok3.2 (by omega), kp_adH (fun q q0 q1 => by (try dsimp only at *); omega), rfl⟩)
    · refine r_aload_n dX6_readHold_54 rfl ?_
      refine r_getR dX6_readHold_55 fl_X6_60 rfl (by assumption) (by assumption) ?_
      refine r_lload_n dX6_readHold_58 rfl ?_
      refine r_iload dX6_readHold_59 rfl ?_
      refine r_iload dX6_readHold_61 rfl ?_
      refine r_cV3F0 dX6_readHold_63 ml_X6_168 yl_X1_addHold ⟨rfl, rfl⟩ (by assumption) ⟨_, rfl⟩ rfl rfl rfl rfl (d_addHold (μ := wTok μ n3.2) hIF (by rw [wt_ne (by omega), f0]; have := hlt (by omega); omega) ok3.2) ?_
      rw [adH_wt (by omega)]
      refine r_return dX6_readHold_66 rfl rfl rfl ?_
      refine ⟨rfl, rfl, ?_⟩
      first
      | (rw [if_neg (show ¬ sE n3.2 = 0 by omega)]; exact RDS.no hR)
      | (rw [if_pos (show sE n3.2 = 0 by omega)]; exact ⟨_, rfl, rd_adH hR hD (hlt (by omega)) ok3.2 (by omega), kp_adH (fun q q0 q1 => by (try dsimp only at *); omega), rfl⟩)
theorem x_readSpot {μ : Mem} {T : Tq} {σ : Sg} {D : PD} {pd : Nat} (hL : Lay μ.2.2) (hT : TapX μ T.1 T.2) (hs : SgOK T σ) (hpd : pd = 4 ∨ pd = 27) (hR : RD n_ μ pd D) (hD : DOK D)  : VMet yX6_readSpot gX6_readSpot (SH n_) [vR 1, vR (pd + 3)] (wTok μ σ) (fun μ2 => RDS n_ μ pd (spotL T σ D) μ2) := by
  have x1 : (SH n_)[1]? = some (6, 4) := rfl
  have x2 : (SH n_)[2]? = some (8, 7) := rfl
  have x3 : (SH n_)[3]? = some (20, 540) := rfl
  have r20 := hL.r2_0
  have rt := hL.r1_0
  obtain ⟨t1, t2, t3⟩ := id hT
  have hs0 := hs
  unfold SgOK at hs0
  have hc := hD.1
  unfold cntOK at hc
  obtain ⟨hIP, p0, p1, p2, p3, p4, pb, hF, hV, ⟨nh, nt⟩, e1, e2⟩ := id hR
  obtain ⟨i0, i5, i6, i7, i8, j1, j2, hIF, hIV⟩ := id hIP
  obtain ⟨-, f0, fh, f4, fs, f9, fj⟩ := id hF
  obtain ⟨-, v0, vt, v5, v8, vi⟩ := id hV
  have if0 := hIF.1
  have iv0 := hIV.1
  have s0 : SgOK T (iff' (6 ≤ D.1 5) σ 4) := iff_ok hs (by decide)
  have s1 : SgOK T (iff' (D.1 4 = 0) (iff' (6 ≤ D.1 5) σ 4) 5) := iff_ok s0 (by decide)
  have hx1 := x_number (n_ := n_) hL hT s1 (lo := 0) (hi := 99) (by omega) (by omega)
  have ok1 := num_ok t2.2 s1 0 99
  have hx2 := x_number (n_ := n_) hL hT ok1.1 (lo := 1) (hi := 99) (by omega) (by omega)
  have ok2 := num_ok t2.2 ok1.1 1 99
  have hlt : sE (spotS2 T σ D).2 = 0 → D.1 5 < 6 ∧ D.1 4 ≠ 0 := fun e => by
    have f2 := num_0 e
    have f1 := num_0 f2.1
    have f0 := iff_0 (by decide) f1.1
    have g0 := iff_0 (by decide) f0.2.2
    exact ⟨by omega, f0.2.1⟩
  have hN : spotL T σ D = ((spotS2 T σ D).2, if sE (spotS2 T σ D).2 = 0 then addSpot D (spotS1 T σ D).1 (spotS2 T σ D).1 else D) := rfl
  rw [← show spotS1 T σ D = numC T (iff' (D.1 4 = 0) (iff' (6 ≤ D.1 5) σ 4) 5) 0 99 from rfl] at hx1 hx2 ok1 ok2
  rw [← show spotS2 T σ D = numC T (spotS1 T σ D).2 1 99 from rfl] at hx2 ok2
  generalize spotS1 T σ D = n1 at *
  generalize spotS2 T σ D = n2 at *
  have ok3e := ok2.1
  unfold SgOK at ok3e
  rw [hN]
  refine AMet.of (by decide) rfl (by decide) rfl ?_
  refine r_aload_n dX6_readSpot_0 rfl ?_
  refine r_getI dX6_readSpot_1 fl_X6_176 rfl (by assumption) ?_
  (try simp (disch := omega) only [wt2, wt4, wt_ne, mkT, mkF, mkK, mkE, mkP]); (try rw [f0]); (try rw [f4]); (try rw [f9]); (try rw [v0]); (try rw [v5]); (try rw [v8]); (try rw [p4]); (try rw [e1]); (try rw [e2])
  refine r_bipush dX6_readSpot_4 (by decide) ?_
  refine q_icmp_lt (tgt := 17) dX6_readSpot_6 rfl (by omega) (by omega) (fun c6 => ?_) (fun c6 => ?_)
  · rw [show wTok μ σ = wTok μ (iff' (6 ≤ D.1 5) σ 4) from congrArg (wTok μ) (iff_neg (by omega)).symm]
    refine r_aload_n dX6_readSpot_17 rfl ?_
    refine r_getI dX6_readSpot_18 fl_X6_156 rfl (by assumption) ?_
    (try simp (disch := omega) only [wt2, wt4, wt_ne, mkT, mkF, mkK, mkE, mkP]); (try rw [f0]); (try rw [f4]); (try rw [f9]); (try rw [v0]); (try rw [v5]); (try rw [v8]); (try rw [p4]); (try rw [e1]); (try rw [e2])
    refine q_if_ne (tgt := 32) dX6_readSpot_21 rfl (by omega) (fun c21 => ?_) (fun c21 => ?_)
    · rw [show wTok μ (iff' (6 ≤ D.1 5) σ 4) = wTok μ (iff' (D.1 4 = 0) (iff' (6 ≤ D.1 5) σ 4) 5) from congrArg (wTok μ) (iff_neg (by omega)).symm]
      refine r_aload_n dX6_readSpot_32 rfl ?_
      refine r_getR dX6_readSpot_33 fl_X6_12 rfl (by assumption) (by assumption) ?_
      refine r_iconst dX6_readSpot_36 ?_
      refine r_bipush dX6_readSpot_37 (by decide) ?_
      refine r_cV2F1 dX6_readSpot_39 ml_X6_146 yl_X9_number ⟨rfl, rfl⟩ (by assumption) ⟨_, rfl⟩ rfl rfl rfl rfl (hx1) ?_
      refine r_istore_n dX6_readSpot_42 rfl ?_
      refine r_aload_n dX6_readSpot_43 rfl ?_
      refine r_getR dX6_readSpot_44 fl_X6_12 rfl (by assumption) (by assumption) ?_
      refine r_iconst dX6_readSpot_47 ?_
      refine r_bipush dX6_readSpot_48 (by decide) ?_
      refine r_cV2F1 dX6_readSpot_50 ml_X6_146 yl_X9_number ⟨rfl, rfl⟩ (by assumption) ⟨_, rfl⟩ rfl rfl rfl rfl (hx2) ?_
      refine r_istore_n dX6_readSpot_53 rfl ?_
      refine r_aload_n dX6_readSpot_54 rfl ?_
      refine r_getR dX6_readSpot_55 fl_X6_12 rfl (by assumption) (by assumption) ?_
      refine r_getI dX6_readSpot_58 fl_X6_140 rfl (by assumption) ?_
      (try simp (disch := omega) only [wt2, wt4, wt_ne, mkT, mkF, mkK, mkE, mkP]); (try rw [f0]); (try rw [f4]); (try rw [f9]); (try rw [v0]); (try rw [v5]); (try rw [v8]); (try rw [p4]); (try rw [e1]); (try rw [e2])
      refine q_if_ne (tgt := 70) dX6_readSpot_61 rfl (by omega) (fun c61 => ?_) (fun c61 => ?_)
      · refine r_return dX6_readSpot_70 rfl rfl rfl ?_
        refine ⟨rfl, rfl, ?_⟩
        first
        | (rw [if_neg (show ¬ sE n2.2 = 0 by omega)]; exact RDS.no hR)
        | (rw [if_pos (show sE n2.2 = 0 by omega)]
           obtain ⟨u1, u2⟩ := un_tok hk3 (by (try dsimp only); omega)
           exact ⟨_, u1, hR.spot hD (hlt (by omega)).1 (hF3.wt (by omega)) u2 (show (wTok μ3 (tk μ)).2 = μ.2 from hR3) (by omega), u2.mono (fun q q0 => by (try dsimp only at *); omega), by show μ3.2.2 = _; rw [hR3]; rfl⟩)
      · refine r_aload_n dX6_readSpot_64 rfl ?_
        refine r_iload_n dX6_readSpot_65 rfl ?_
        refine r_iload_n dX6_readSpot_66 rfl ?_
        refine r_cV2N dX6_readSpot_67 ml_X6_179 yl_X1_addSpot ⟨rfl, rfl⟩ (by assumption) ⟨_, rfl⟩ rfl rfl rfl rfl (d_addSpot (μ := wTok μ n2.2) (hF.wt (by omega)) (by have := hlt (by omega); omega) (by have := hlt (by omega); omega) (by omega) hD.2.1 hD.2.2.1 (by omega) (by omega)) ?_
        rintro μ3 ⟨hF3, hk3, hR3, -⟩
        refine r_return dX6_readSpot_70 rfl rfl rfl ?_
        refine ⟨rfl, rfl, ?_⟩
        first
        | (rw [if_neg (show ¬ sE n2.2 = 0 by omega)]; exact RDS.no hR)
        | (rw [if_pos (show sE n2.2 = 0 by omega)]
           obtain ⟨u1, u2⟩ := un_tok hk3 (by (try dsimp only); omega)
           exact ⟨_, u1, hR.spot hD (hlt (by omega)).1 (hF3.wt (by omega)) u2 (show (wTok μ3 (tk μ)).2 = μ.2 from hR3) (by omega), u2.mono (fun q q0 => by (try dsimp only at *); omega), by show μ3.2.2 = _; rw [hR3]; rfl⟩)
    · refine r_aload_n dX6_readSpot_24 rfl ?_
      refine r_getR dX6_readSpot_25 fl_X6_12 rfl (by assumption) (by assumption) ?_
      refine r_iconst dX6_readSpot_28 ?_
      refine r_cV1F0 dX6_readSpot_29 ml_X6_98 yl_X9_fail ⟨rfl, rfl⟩ (by assumption) ⟨_, rfl⟩ rfl rfl rfl rfl (x_fail hL hT s0) ?_
      rw [← iff_pos (c := D.1 4 = 0) (σ := (iff' (6 ≤ D.1 5) σ 4)) (k := 5) (by omega)]
      refine r_aload_n dX6_readSpot_32 rfl ?_
      refine r_getR dX6_readSpot_33 fl_X6_12 rfl (by assumption) (by assumption) ?_
      refine r_iconst dX6_readSpot_36 ?_
      refine r_bipush dX6_readSpot_37 (by decide) ?_
      refine r_cV2F1 dX6_readSpot_39 ml_X6_146 yl_X9_number ⟨rfl, rfl⟩ (by assumption) ⟨_, rfl⟩ rfl rfl rfl rfl (hx1) ?_
      refine r_istore_n dX6_readSpot_42 rfl ?_
      refine r_aload_n dX6_readSpot_43 rfl ?_
      refine r_getR dX6_readSpot_44 fl_X6_12 rfl (by assumption) (by assumption) ?_
      refine r_iconst dX6_readSpot_47 ?_
      refine r_bipush dX6_readSpot_48 (by decide) ?_
      refine r_cV2F1 dX6_readSpot_50 ml_X6_146 yl_X9_number ⟨rfl, rfl⟩ (by assumption) ⟨_, rfl⟩ rfl rfl rfl rfl (hx2) ?_
      refine r_istore_n dX6_readSpot_53 rfl ?_
      refine r_aload_n dX6_readSpot_54 rfl ?_
      refine r_getR dX6_readSpot_55 fl_X6_12 rfl (by assumption) (by assumption) ?_
      refine r_getI dX6_readSpot_58 fl_X6_140 rfl (by assumption) ?_
      (try simp (disch := omega) only [wt2, wt4, wt_ne, mkT, mkF, mkK, mkE, mkP]); (try rw [f0]); (try rw [f4]); (try rw [f9]); (try rw [v0]); (try rw [v5]); (try rw [v8]); (try rw [p4]); (try rw [e1]); (try rw [e2])
      refine q_if_ne (tgt := 70) dX6_readSpot_61 rfl (by omega) (fun c61 => ?_) (fun c61 => ?_)
      · refine r_return dX6_readSpot_70 rfl rfl rfl ?_
        refine ⟨rfl, rfl, ?_⟩
        first
        | (rw [if_neg (show ¬ sE n2.2 = 0 by omega)]; exact RDS.no hR)
        | (rw [if_pos (show sE n2.2 = 0 by omega)]
           obtain ⟨u1, u2⟩ := un_tok hk3 (by (try dsimp only); omega)
           exact ⟨_, u1, hR.spot hD (hlt (by omega)).1 (hF3.wt (by omega)) u2 (show (wTok μ3 (tk μ)).2 = μ.2 from hR3) (by omega), u2.mono (fun q q0 => by (try dsimp only at *); omega), by show μ3.2.2 = _; rw [hR3]; rfl⟩)
      · refine r_aload_n dX6_readSpot_64 rfl ?_
        refine r_iload_n dX6_readSpot_65 rfl ?_
        refine r_iload_n dX6_readSpot_66 rfl ?_
        refine r_cV2N dX6_readSpot_67 ml_X6_179 yl_X1_addSpot ⟨rfl, rfl⟩ (by assumption) ⟨_, rfl⟩ rfl rfl rfl rfl (d_addSpot (μ := wTok μ n2.2) (hF.wt (by omega)) (by have := hlt (by omega); omega) (by have := hlt (by omega); omega) (by omega) hD.2.1 hD.2.2.1 (by omega) (by omega)) ?_
        rintro μ3 ⟨hF3, hk3, hR3, -⟩
        refine r_return dX6_readSpot_70 rfl rfl rfl ?_
        refine ⟨rfl, rfl, ?_⟩
        first
        | (rw [if_neg (show ¬ sE n2.2 = 0 by omega)]; exact RDS.no hR)
        | (rw [if_pos (show sE n2.2 = 0 by omega)]
           obtain ⟨u1, u2⟩ := un_tok hk3 (by (try dsimp only); omega)
           exact ⟨_, u1, hR.spot hD (hlt (by omega)).1 (hF3.wt (by omega)) u2 (show (wTok μ3 (tk μ)).2 = μ.2 from hR3) (by omega), u2.mono (fun q q0 => by (try dsimp only at *); omega), by show μ3.2.2 = _; rw [hR3]; rfl⟩)
  · refine r_aload_n dX6_readSpot_9 rfl ?_
    refine r_getR dX6_readSpot_10 fl_X6_12 rfl (by assumption) (by assumption) ?_
    refine r_iconst dX6_readSpot_13 ?_
    refine r_cV1F0 dX6_readSpot_14 ml_X6_98 yl_X9_fail ⟨rfl, rfl⟩ (by assumption) ⟨_, rfl⟩ rfl rfl rfl rfl (x_fail hL hT hs) ?_
    rw [← iff_pos (c := 6 ≤ D.1 5) (σ := σ) (k := 4) (by omega)]
    refine r_aload_n dX6_readSpot_17 rfl ?_
    refine r_getI dX6_readSpot_18 fl_X6_156 rfl (by assumption) ?_
    (try simp (disch := omega) only [wt2, wt4, wt_ne, mkT, mkF, mkK, mkE, mkP]); (try rw [f0]); (try rw [f4]); (try rw [f9]); (try rw [v0]); (try rw [v5]); (try rw [v8]); (try rw [p4]); (try rw [e1]); (try rw [e2])
    refine q_if_ne (tgt := 32) dX6_readSpot_21 rfl (by omega) (fun c21 => ?_) (fun c21 => ?_)
    · rw [show wTok μ (iff' (6 ≤ D.1 5) σ 4) = wTok μ (iff' (D.1 4 = 0) (iff' (6 ≤ D.1 5) σ 4) 5) from congrArg (wTok μ) (iff_neg (by omega)).symm]
      refine r_aload_n dX6_readSpot_32 rfl ?_
      refine r_getR dX6_readSpot_33 fl_X6_12 rfl (by assumption) (by assumption) ?_
      refine r_iconst dX6_readSpot_36 ?_
      refine r_bipush dX6_readSpot_37 (by decide) ?_
      refine r_cV2F1 dX6_readSpot_39 ml_X6_146 yl_X9_number ⟨rfl, rfl⟩ (by assumption) ⟨_, rfl⟩ rfl rfl rfl rfl (hx1) ?_
      refine r_istore_n dX6_readSpot_42 rfl ?_
      refine r_aload_n dX6_readSpot_43 rfl ?_
      refine r_getR dX6_readSpot_44 fl_X6_12 rfl (by assumption) (by assumption) ?_
      refine r_iconst dX6_readSpot_47 ?_
      refine r_bipush dX6_readSpot_48 (by decide) ?_
      refine r_cV2F1 dX6_readSpot_50 ml_X6_146 yl_X9_number ⟨rfl, rfl⟩ (by assumption) ⟨_, rfl⟩ rfl rfl rfl rfl (hx2) ?_
      refine r_istore_n dX6_readSpot_53 rfl ?_
      refine r_aload_n dX6_readSpot_54 rfl ?_
      refine r_getR dX6_readSpot_55 fl_X6_12 rfl (by assumption) (by assumption) ?_
      refine r_getI dX6_readSpot_58 fl_X6_140 rfl (by assumption) ?_
      (try simp (disch := omega) only [wt2, wt4, wt_ne, mkT, mkF, mkK, mkE, mkP]); (try rw [f0]); (try rw [f4]); (try rw [f9]); (try rw [v0]); (try rw [v5]); (try rw [v8]); (try rw [p4]); (try rw [e1]); (try rw [e2])
      refine q_if_ne (tgt := 70) dX6_readSpot_61 rfl (by omega) (fun c61 => ?_) (fun c61 => ?_)
      · refine r_return dX6_readSpot_70 rfl rfl rfl ?_
        refine ⟨rfl, rfl, ?_⟩
        first
        | (rw [if_neg (show ¬ sE n2.2 = 0 by omega)]; exact RDS.no hR)
        | (rw [if_pos (show sE n2.2 = 0 by omega)]
           obtain ⟨u1, u2⟩ := un_tok hk3 (by (try dsimp only); omega)
           exact ⟨_, u1, hR.spot hD (hlt (by omega)).1 (hF3.wt (by omega)) u2 (show (wTok μ3 (tk μ)).2 = μ.2 from hR3) (by omega), u2.mono (fun q q0 => by (try dsimp only at *); omega), by show μ3.2.2 = _; rw [hR3]; rfl⟩)
      · refine r_aload_n dX6_readSpot_64 rfl ?_
        refine r_iload_n dX6_readSpot_65 rfl ?_
        refine r_iload_n dX6_readSpot_66 rfl ?_
        refine r_cV2N dX6_readSpot_67 ml_X6_179 yl_X1_addSpot ⟨rfl, rfl⟩ (by assumption) ⟨_, rfl⟩ rfl rfl rfl rfl (d_addSpot (μ := wTok μ n2.2) (hF.wt (by omega)) (by have := hlt (by omega); omega) (by have := hlt (by omega); omega) (by omega) hD.2.1 hD.2.2.1 (by omega) (by omega)) ?_
        rintro μ3 ⟨hF3, hk3, hR3, -⟩
        refine r_return dX6_readSpot_70 rfl rfl rfl ?_
        refine ⟨rfl, rfl, ?_⟩
        first
        | (rw [if_neg (show ¬ sE n2.2 = 0 by omega)]; exact RDS.no hR)
        | (rw [if_pos (show sE n2.2 = 0 by omega)]
           obtain ⟨u1, u2⟩ := un_tok hk3 (by (try dsimp only); omega)
           exact ⟨_, u1, hR.spot hD (hlt (by omega)).1 (hF3.wt (by omega)) u2 (show (wTok μ3 (tk μ)).2 = μ.2 from hR3) (by omega), u2.mono (fun q q0 => by (try dsimp only at *); omega), by show μ3.2.2 = _; rw [hR3]; rfl⟩)
    · refine r_aload_n dX6_readSpot_24 rfl ?_
      refine r_getR dX6_readSpot_25 fl_X6_12 rfl (by assumption) (by assumption) ?_
      refine r_iconst dX6_readSpot_28 ?_
      refine r_cV1F0 dX6_readSpot_29 ml_X6_98 yl_X9_fail ⟨rfl, rfl⟩ (by assumption) ⟨_, rfl⟩ rfl rfl rfl rfl (x_fail hL hT s0) ?_
      rw [← iff_pos (c := D.1 4 = 0) (σ := (iff' (6 ≤ D.1 5) σ 4)) (k := 5) (by omega)]
      refine r_aload_n dX6_readSpot_32 rfl ?_
      refine r_getR dX6_readSpot_33 fl_X6_12 rfl (by assumption) (by assumption) ?_
      refine r_iconst dX6_readSpot_36 ?_
      refine r_bipush dX6_readSpot_37 (by decide) ?_
      refine r_cV2F1 dX6_readSpot_39 ml_X6_146 yl_X9_number ⟨rfl, rfl⟩ (by assumption) ⟨_, rfl⟩ rfl rfl rfl rfl (hx1) ?_
      refine r_istore_n dX6_readSpot_42 rfl ?_
      refine r_aload_n dX6_readSpot_43 rfl ?_
      refine r_getR dX6_readSpot_44 fl_X6_12 rfl (by assumption) (by assumption) ?_
      refine r_iconst dX6_readSpot_47 ?_
      refine r_bipush dX6_readSpot_48 (by decide) ?_
      refine r_cV2F1 dX6_readSpot_50 ml_X6_146 yl_X9_number ⟨rfl, rfl⟩ (by assumption) ⟨_, rfl⟩ rfl rfl rfl rfl (hx2) ?_
      refine r_istore_n dX6_readSpot_53 rfl ?_
      refine r_aload_n dX6_readSpot_54 rfl ?_
      refine r_getR dX6_readSpot_55 fl_X6_12 rfl (by assumption) (by assumption) ?_
      refine r_getI dX6_readSpot_58 fl_X6_140 rfl (by assumption) ?_
      (try simp (disch := omega) only [wt2, wt4, wt_ne, mkT, mkF, mkK, mkE, mkP]); (try rw [f0]); (try rw [f4]); (try rw [f9]); (try rw [v0]); (try rw [v5]); (try rw [v8]); (try rw [p4]); (try rw [e1]); (try rw [e2])
      refine q_if_ne (tgt := 70) dX6_readSpot_61 rfl (by omega) (fun c61 => ?_) (fun c61 => ?_)
      · refine r_return dX6_readSpot_70 rfl rfl rfl ?_
        refine ⟨rfl, rfl, ?_⟩
        first
        | (rw [if_neg (show ¬ sE n2.2 = 0 by omega)]; exact RDS.no hR)
        | (rw [if_pos (show sE n2.2 = 0 by omega)]
           obtain ⟨u1, u2⟩ := un_tok hk3 (by (try dsimp only); omega)
           exact ⟨_, u1, hR.spot hD (hlt (by omega)).1 (hF3.wt (by omega)) u2 (show (wTok μ3 (tk μ)).2 = μ.2 from hR3) (by omega), u2.mono (fun q q0 => by (try dsimp only at *); omega), by show μ3.2.2 = _; rw [hR3]; rfl⟩)
      · refine r_aload_n dX6_readSpot_64 rfl ?_
        refine r_iload_n dX6_readSpot_65 rfl ?_
        refine r_iload_n dX6_readSpot_66 rfl ?_
        refine r_cV2N dX6_readSpot_67 ml_X6_179 yl_X1_addSpot ⟨rfl, rfl⟩ (by assumption) ⟨_, rfl⟩ rfl rfl rfl rfl (d_addSpot (μ := wTok μ n2.2) (hF.wt (by omega)) (by have := hlt (by omega); omega) (by have := hlt (by omega); omega) (by omega) hD.2.1 hD.2.2.1 (by omega) (by omega)) ?_
        rintro μ3 ⟨hF3, hk3, hR3, -⟩
        refine r_return dX6_readSpot_70 rfl rfl rfl ?_
        refine ⟨rfl, rfl, ?_⟩
        first
        | (rw [if_neg (show ¬ sE n2.2 = 0 by omega)]; exact RDS.no hR)
        | (rw [if_pos (show sE n2.2 = 0 by omega)]
           obtain ⟨u1, u2⟩ := un_tok hk3 (by (try dsimp only); omega)
           exact ⟨_, u1, hR.spot hD (hlt (by omega)).1 (hF3.wt (by omega)) u2 (show (wTok μ3 (tk μ)).2 = μ.2 from hR3) (by omega), u2.mono (fun q q0 => by (try dsimp only at *); omega), by show μ3.2.2 = _; rw [hR3]; rfl⟩)
theorem x_readJoint {μ : Mem} {T : Tq} {σ : Sg} {D : PD} {pd : Nat} (hL : Lay μ.2.2) (hT : TapX μ T.1 T.2) (hs : SgOK T σ) (hpd : pd = 4 ∨ pd = 27) (hR : RD n_ μ pd D) (hD : DOK D)  : VMet yX6_readJoint gX6_readJoint (SH n_) [vR 1, vR (pd + 3)] (wTok μ σ) (fun μ2 => RDS n_ μ pd (jointL T σ D) μ2) := by
  have x1 : (SH n_)[1]? = some (6, 4) := rfl
  have x2 : (SH n_)[2]? = some (8, 7) := rfl
  have x3 : (SH n_)[3]? = some (20, 540) := rfl
  have r20 := hL.r2_0
  have rt := hL.r1_0
  obtain ⟨t1, t2, t3⟩ := id hT
  have hs0 := hs
  unfold SgOK at hs0
  have hc := hD.1
  unfold cntOK at hc
  obtain ⟨hIP, p0, p1, p2, p3, p4, pb, hF, hV, ⟨nh, nt⟩, e1, e2⟩ := id hR
  obtain ⟨i0, i5, i6, i7, i8, j1, j2, hIF, hIV⟩ := id hIP
  obtain ⟨-, f0, fh, f4, fs, f9, fj⟩ := id hF
  obtain ⟨-, v0, vt, v5, v8, vi⟩ := id hV
  have if0 := hIF.1
  have iv0 := hIV.1
  have s1 : SgOK T (iff' (canJ D.1 = false) σ 5) := iff_ok hs (by decide)
  have hx1 := x_number (n_ := n_) hL hT s1 (lo := 1) (hi := 999) (by omega) (by omega)
  have ok1 := num_ok t2.2 s1 1 999
  have hlt : sE (jointS1 T σ D).2 = 0 → canJ D.1 = true := fun e => by
    have f1 := num_0 e
    have f0 := iff_0 (by decide) f1.1
    simpa using f0.2.1
  have h9 : canJ D.1 = true → D.1 6 ≤ 4 := fun hcj => by
    have hcj := of_decide_eq_true hcj
    have q6 := hD.2.2.2.1 (D.1 6 - 1)
    omega
  have hN : jointL T σ D = ((jointS1 T σ D).2, if sE (jointS1 T σ D).2 = 0 then addJoint D (jointS1 T σ D).1 else D) := rfl
  rw [← show jointS1 T σ D = numC T (iff' (canJ D.1 = false) σ 5) 1 999 from rfl] at hx1 ok1
  generalize jointS1 T σ D = n2 at *
  have ok3e := ok1.1
  unfold SgOK at ok3e
  rw [hN]
  refine AMet.of (by decide) rfl (by decide) rfl ?_
  refine r_aload_n dX6_readJoint_0 rfl ?_
  refine r_cV0F1 dX6_readJoint_1 ml_X6_182 yl_X1_takesJoint ⟨rfl, rfl⟩ (by assumption) ⟨_, rfl⟩ rfl rfl rfl rfl (q_takesJoint hpd hR hD) ?_
  refine r_if_neB (tgt := 15) dX6_readJoint_4 rfl (fun c4 => ?_) (fun c4 => ?_)
  · rw [show wTok μ σ = wTok μ (iff' (canJ D.1 = false) σ 5) from congrArg (wTok μ) (iff_neg (by rw [c4]; decide)).symm]
    refine r_aload_n dX6_readJoint_15 rfl ?_
    refine r_getR dX6_readJoint_16 fl_X6_12 rfl (by assumption) (by assumption) ?_
    refine r_iconst dX6_readJoint_19 ?_
    refine r_sipush dX6_readJoint_20 (by decide) ?_
    refine r_cV2F1 dX6_readJoint_23 ml_X6_146 yl_X9_number ⟨rfl, rfl⟩ (by assumption) ⟨_, rfl⟩ rfl rfl rfl rfl (hx1) ?_
    refine r_istore_n dX6_readJoint_26 rfl ?_
    refine r_aload_n dX6_readJoint_27 rfl ?_
    refine r_getR dX6_readJoint_28 fl_X6_12 rfl (by assumption) (by assumption) ?_
    refine r_getI dX6_readJoint_31 fl_X6_140 rfl (by assumption) ?_
    (try simp (disch := omega) only [wt2, wt4, wt_ne, mkT, mkF, mkK, mkE, mkP]); (try rw [f0]); (try rw [f4]); (try rw [f9]); (try rw [v0]); (try rw [v5]); (try rw [v8]); (try rw [p4]); (try rw [e1]); (try rw [e2])
    refine q_if_ne (tgt := 42) dX6_readJoint_34 rfl (by omega) (fun c34 => ?_) (fun c34 => ?_)
    · refine r_return dX6_readJoint_42 rfl rfl rfl ?_
      refine ⟨rfl, rfl, ?_⟩
      first
      | (rw [if_neg (show ¬ sE n2.2 = 0 by omega)]; exact RDS.no hR)
      | (rw [if_pos (show sE n2.2 = 0 by omega)]; exact ⟨_, rfl, rd_adJ hR hD (hlt (by omega)) (by omega), kp_adJ (fun q q0 q1 => by (try dsimp only at *); omega), rfl⟩)
    · refine r_aload_n dX6_readJoint_37 rfl ?_
      refine r_iload_n dX6_readJoint_38 rfl ?_
      refine r_cV1F0 dX6_readJoint_39 ml_X6_185 yl_X1_addJoint ⟨rfl, rfl⟩ (by assumption) ⟨_, rfl⟩ rfl rfl rfl rfl (d_addJoint (μ := wTok μ n2.2) hIF (by rw [wt_ne (by omega), f9]; have := h9 (hlt (by omega)); omega)) ?_
      rw [adJ_wt (by omega)]
      refine r_return dX6_readJoint_42 rfl rfl rfl ?_
      refine ⟨rfl, rfl, ?_⟩
      first
      | (rw [if_neg (show ¬ sE n2.2 = 0 by omega)]; exact RDS.no hR)
      | (rw [if_pos (show sE n2.2 = 0 by omega)]; exact ⟨_, rfl, rd_adJ hR hD (hlt (by omega)) (by omega), kp_adJ (fun q q0 q1 => by (try dsimp only at *); omega), rfl⟩)
  · refine r_aload_n dX6_readJoint_7 rfl ?_
    refine r_getR dX6_readJoint_8 fl_X6_12 rfl (by assumption) (by assumption) ?_
    refine r_iconst dX6_readJoint_11 ?_
    refine r_cV1F0 dX6_readJoint_12 ml_X6_98 yl_X9_fail ⟨rfl, rfl⟩ (by assumption) ⟨_, rfl⟩ rfl rfl rfl rfl (x_fail hL hT hs) ?_
    rw [← iff_pos (c := canJ D.1 = false) (σ := σ) (k := 5) c4]
    refine r_aload_n dX6_readJoint_15 rfl ?_
    refine r_getR dX6_readJoint_16 fl_X6_12 rfl (by assumption) (by assumption) ?_
    refine r_iconst dX6_readJoint_19 ?_
    refine r_sipush dX6_readJoint_20 (by decide) ?_
    refine r_cV2F1 dX6_readJoint_23 ml_X6_146 yl_X9_number ⟨rfl, rfl⟩ (by assumption) ⟨_, rfl⟩ rfl rfl rfl rfl (hx1) ?_
    refine r_istore_n dX6_readJoint_26 rfl ?_
    refine r_aload_n dX6_readJoint_27 rfl ?_
    refine r_getR dX6_readJoint_28 fl_X6_12 rfl (by assumption) (by assumption) ?_
    refine r_getI dX6_readJoint_31 fl_X6_140 rfl (by assumption) ?_
    (try simp (disch := omega) only [wt2, wt4, wt_ne, mkT, mkF, mkK, mkE, mkP]); (try rw [f0]); (try rw [f4]); (try rw [f9]); (try rw [v0]); (try rw [v5]); (try rw [v8]); (try rw [p4]); (try rw [e1]); (try rw [e2])
    refine q_if_ne (tgt := 42) dX6_readJoint_34 rfl (by omega) (fun c34 => ?_) (fun c34 => ?_)
    · refine r_return dX6_readJoint_42 rfl rfl rfl ?_
      refine ⟨rfl, rfl, ?_⟩
      first
      | (rw [if_neg (show ¬ sE n2.2 = 0 by omega)]; exact RDS.no hR)
      | (rw [if_pos (show sE n2.2 = 0 by omega)]; exact ⟨_, rfl, rd_adJ hR hD (hlt (by omega)) (by omega), kp_adJ (fun q q0 q1 => by (try dsimp only at *); omega), rfl⟩)
    · refine r_aload_n dX6_readJoint_37 rfl ?_
      refine r_iload_n dX6_readJoint_38 rfl ?_
      refine r_cV1F0 dX6_readJoint_39 ml_X6_185 yl_X1_addJoint ⟨rfl, rfl⟩ (by assumption) ⟨_, rfl⟩ rfl rfl rfl rfl (d_addJoint (μ := wTok μ n2.2) hIF (by rw [wt_ne (by omega), f9]; have := h9 (hlt (by omega)); omega)) ?_
      rw [adJ_wt (by omega)]
      refine r_return dX6_readJoint_42 rfl rfl rfl ?_
      refine ⟨rfl, rfl, ?_⟩
      first
      | (rw [if_neg (show ¬ sE n2.2 = 0 by omega)]; exact RDS.no hR)
      | (rw [if_pos (show sE n2.2 = 0 by omega)]; exact ⟨_, rfl, rd_adJ hR hD (hlt (by omega)) (by omega), kp_adJ (fun q q0 q1 => by (try dsimp only at *); omega), rfl⟩)
theorem x_readBin {μ : Mem} {T : Tq} {σ : Sg} {D : PD} {pd : Nat} (hL : Lay μ.2.2) (hT : TapX μ T.1 T.2) (hs : SgOK T σ) (hpd : pd = 4 ∨ pd = 27) (hR : RD n_ μ pd D) (hD : DOK D)  : VMet yX6_readBin gX6_readBin (SH n_) [vR 1, vR pd] (wTok μ σ) (fun μ2 => RDS n_ μ pd (binL T σ D) μ2) := by
  have x1 : (SH n_)[1]? = some (6, 4) := rfl
  have x2 : (SH n_)[2]? = some (8, 7) := rfl
  have x3 : (SH n_)[3]? = some (20, 540) := rfl
  have r20 := hL.r2_0
  have rt := hL.r1_0
  obtain ⟨t1, t2, t3⟩ := id hT
  have hs0 := hs
  unfold SgOK at hs0
  have hc := hD.1
  unfold cntOK at hc
  obtain ⟨hIP, p0, p1, p2, p3, p4, pb, hF, hV, ⟨nh, nt⟩, e1, e2⟩ := id hR
  obtain ⟨i0, i5, i6, i7, i8, j1, j2, hIF, hIV⟩ := id hIP
  obtain ⟨-, f0, fh, f4, fs, f9, fj⟩ := id hF
  obtain ⟨-, v0, vt, v5, v8, vi⟩ := id hV
  have if0 := hIF.1
  have iv0 := hIV.1
  have s1 : SgOK T (iff' (2 ≤ D.1 7) σ 4) := iff_ok hs (by decide)
  have hx1 := x_number (n_ := n_) hL hT s1 (lo := 0) (hi := 99) (by omega) (by omega)
  have ok1 := num_ok t2.2 s1 0 99
  have hx2 := x_number (n_ := n_) hL hT ok1.1 (lo := 1) (hi := 99) (by omega) (by omega)
  have ok2 := num_ok t2.2 ok1.1 1 99
  have hlt : sE (binS2 T σ D).2 = 0 → D.1 7 < 2 := fun e => by
    have f2 := num_0 e
    have f1 := num_0 f2.1
    have f0 := iff_0 (by decide) f1.1
    omega
  have hN : binL T σ D = ((binS2 T σ D).2, if sE (binS2 T σ D).2 = 0 then addBin D (binS1 T σ D).1 (binS2 T σ D).1 else D) := rfl
  rw [← show binS1 T σ D = numC T (iff' (2 ≤ D.1 7) σ 4) 0 99 from rfl] at hx1 hx2 ok1 ok2
  rw [← show binS2 T σ D = numC T (binS1 T σ D).2 1 99 from rfl] at hx2 ok2
  generalize binS1 T σ D = n1 at *
  generalize binS2 T σ D = n2 at *
  have ok3e := ok2.1
  unfold SgOK at ok3e
  rw [hN]
  refine AMet.of (by decide) rfl (by decide) rfl ?_
  refine r_aload_n dX6_readBin_0 rfl ?_
  refine r_getI dX6_readBin_1 fl_X6_188 rfl (by assumption) ?_
  (try simp (disch := omega) only [wt2, wt4, wt_ne, mkT, mkF, mkK, mkE, mkP]); (try rw [f0]); (try rw [f4]); (try rw [f9]); (try rw [v0]); (try rw [v5]); (try rw [v8]); (try rw [p4]); (try rw [e1]); (try rw [e2])
  refine r_iconst dX6_readBin_4 ?_
  refine q_icmp_lt (tgt := 16) dX6_readBin_5 rfl (by omega) (by omega) (fun c5 => ?_) (fun c5 => ?_)
  · rw [show wTok μ σ = wTok μ (iff' (2 ≤ D.1 7) σ 4) from congrArg (wTok μ) (iff_neg (by omega)).symm]
    refine r_aload_n dX6_readBin_16 rfl ?_
    refine r_getR dX6_readBin_17 fl_X6_12 rfl (by assumption) (by assumption) ?_
    refine r_iconst dX6_readBin_20 ?_
    refine r_bipush dX6_readBin_21 (by decide) ?_
    refine r_cV2F1 dX6_readBin_23 ml_X6_146 yl_X9_number ⟨rfl, rfl⟩ (by assumption) ⟨_, rfl⟩ rfl rfl rfl rfl (hx1) ?_
    refine r_istore_n dX6_readBin_26 rfl ?_
    refine r_aload_n dX6_readBin_27 rfl ?_
    refine r_getR dX6_readBin_28 fl_X6_12 rfl (by assumption) (by assumption) ?_
    refine r_iconst dX6_readBin_31 ?_
    refine r_bipush dX6_readBin_32 (by decide) ?_
    refine r_cV2F1 dX6_readBin_34 ml_X6_146 yl_X9_number ⟨rfl, rfl⟩ (by assumption) ⟨_, rfl⟩ rfl rfl rfl rfl (hx2) ?_
    refine r_istore_n dX6_readBin_37 rfl ?_
    refine r_aload_n dX6_readBin_38 rfl ?_
    refine r_getR dX6_readBin_39 fl_X6_12 rfl (by assumption) (by assumption) ?_
    refine r_getI dX6_readBin_42 fl_X6_140 rfl (by assumption) ?_
    (try simp (disch := omega) only [wt2, wt4, wt_ne, mkT, mkF, mkK, mkE, mkP]); (try rw [f0]); (try rw [f4]); (try rw [f9]); (try rw [v0]); (try rw [v5]); (try rw [v8]); (try rw [p4]); (try rw [e1]); (try rw [e2])
    refine q_if_ne (tgt := 54) dX6_readBin_45 rfl (by omega) (fun c45 => ?_) (fun c45 => ?_)
    · refine r_return dX6_readBin_54 rfl rfl rfl ?_
      refine ⟨rfl, rfl, ?_⟩
      first
      | (rw [if_neg (show ¬ sE n2.2 = 0 by omega)]; exact RDS.no hR)
      | (rw [if_pos (show sE n2.2 = 0 by omega)]; exact ⟨_, rfl, rd_adN hR hD (hlt (by omega)) (by omega), kp_adN (fun q q0 q1 => by (try dsimp only at *); omega), rfl⟩)
    · refine r_aload_n dX6_readBin_48 rfl ?_
      refine r_iload_n dX6_readBin_49 rfl ?_
      refine r_iload_n dX6_readBin_50 rfl ?_
      refine r_cV2F0 dX6_readBin_51 ml_X6_191 yl_X5_addBin ⟨rfl, rfl⟩ (by assumption) ⟨_, rfl⟩ rfl rfl rfl rfl (d_addBin (μ := wTok μ n2.2) hIP (by rw [wt_ne (by omega), p4]; have := hlt (by omega); omega)) ?_
      rw [adN_wt (by omega)]
      refine r_return dX6_readBin_54 rfl rfl rfl ?_
      refine ⟨rfl, rfl, ?_⟩
      first
      | (rw [if_neg (show ¬ sE n2.2 = 0 by omega)]; exact RDS.no hR)
      | (rw [if_pos (show sE n2.2 = 0 by omega)]; exact ⟨_, rfl, rd_adN hR hD (hlt (by omega)) (by omega), kp_adN (fun q q0 q1 => by (try dsimp only at *); omega), rfl⟩)
  · refine r_aload_n dX6_readBin_8 rfl ?_
    refine r_getR dX6_readBin_9 fl_X6_12 rfl (by assumption) (by assumption) ?_
    refine r_iconst dX6_readBin_12 ?_
    refine r_cV1F0 dX6_readBin_13 ml_X6_98 yl_X9_fail ⟨rfl, rfl⟩ (by assumption) ⟨_, rfl⟩ rfl rfl rfl rfl (x_fail hL hT hs) ?_
    rw [← iff_pos (c := 2 ≤ D.1 7) (σ := σ) (k := 4) (by omega)]
    refine r_aload_n dX6_readBin_16 rfl ?_
    refine r_getR dX6_readBin_17 fl_X6_12 rfl (by assumption) (by assumption) ?_
    refine r_iconst dX6_readBin_20 ?_
    refine r_bipush dX6_readBin_21 (by decide) ?_
    refine r_cV2F1 dX6_readBin_23 ml_X6_146 yl_X9_number ⟨rfl, rfl⟩ (by assumption) ⟨_, rfl⟩ rfl rfl rfl rfl (hx1) ?_
    refine r_istore_n dX6_readBin_26 rfl ?_
    refine r_aload_n dX6_readBin_27 rfl ?_
    refine r_getR dX6_readBin_28 fl_X6_12 rfl (by assumption) (by assumption) ?_
    refine r_iconst dX6_readBin_31 ?_
    refine r_bipush dX6_readBin_32 (by decide) ?_
    refine r_cV2F1 dX6_readBin_34 ml_X6_146 yl_X9_number ⟨rfl, rfl⟩ (by assumption) ⟨_, rfl⟩ rfl rfl rfl rfl (hx2) ?_
    refine r_istore_n dX6_readBin_37 rfl ?_
    refine r_aload_n dX6_readBin_38 rfl ?_
    refine r_getR dX6_readBin_39 fl_X6_12 rfl (by assumption) (by assumption) ?_
    refine r_getI dX6_readBin_42 fl_X6_140 rfl (by assumption) ?_
    (try simp (disch := omega) only [wt2, wt4, wt_ne, mkT, mkF, mkK, mkE, mkP]); (try rw [f0]); (try rw [f4]); (try rw [f9]); (try rw [v0]); (try rw [v5]); (try rw [v8]); (try rw [p4]); (try rw [e1]); (try rw [e2])
    refine q_if_ne (tgt := 54) dX6_readBin_45 rfl (by omega) (fun c45 => ?_) (fun c45 => ?_)
    · refine r_return dX6_readBin_54 rfl rfl rfl ?_
      refine ⟨rfl, rfl, ?_⟩
      first
      | (rw [if_neg (show ¬ sE n2.2 = 0 by omega)]; exact RDS.no hR)
      | (rw [if_pos (show sE n2.2 = 0 by omega)]; exact ⟨_, rfl, rd_adN hR hD (hlt (by omega)) (by omega), kp_adN (fun q q0 q1 => by (try dsimp only at *); omega), rfl⟩)
    · refine r_aload_n dX6_readBin_48 rfl ?_
      refine r_iload_n dX6_readBin_49 rfl ?_
      refine r_iload_n dX6_readBin_50 rfl ?_
      refine r_cV2F0 dX6_readBin_51 ml_X6_191 yl_X5_addBin ⟨rfl, rfl⟩ (by assumption) ⟨_, rfl⟩ rfl rfl rfl rfl (d_addBin (μ := wTok μ n2.2) hIP (by rw [wt_ne (by omega), p4]; have := hlt (by omega); omega)) ?_
      rw [adN_wt (by omega)]
      refine r_return dX6_readBin_54 rfl rfl rfl ?_
      refine ⟨rfl, rfl, ?_⟩
      first
      | (rw [if_neg (show ¬ sE n2.2 = 0 by omega)]; exact RDS.no hR)
      | (rw [if_pos (show sE n2.2 = 0 by omega)]; exact ⟨_, rfl, rd_adN hR hD (hlt (by omega)) (by omega), kp_adN (fun q q0 q1 => by (try dsimp only at *); omega), rfl⟩)
theorem x_readTank {μ : Mem} {T : Tq} {σ : Sg} {D : PD} {pd : Nat} (hL : Lay μ.2.2) (hT : TapX μ T.1 T.2) (hs : SgOK T σ) (hpd : pd = 4 ∨ pd = 27) (hR : RD n_ μ pd D) (hD : DOK D)  : VMet yX6_readTank gX6_readTank (SH n_) [vR 1, vR pd] (wTok μ σ) (fun μ2 => RDS n_ μ pd (tankL T σ D) μ2) := by
  have x1 : (SH n_)[1]? = some (6, 4) := rfl
  have x2 : (SH n_)[2]? = some (8, 7) := rfl
  have x3 : (SH n_)[3]? = some (20, 540) := rfl
  have r20 := hL.r2_0
  have rt := hL.r1_0
  obtain ⟨t1, t2, t3⟩ := id hT
  have hs0 := hs
  unfold SgOK at hs0
  have hc := hD.1
  unfold cntOK at hc
  obtain ⟨hIP, p0, p1, p2, p3, p4, pb, hF, hV, ⟨nh, nt⟩, e1, e2⟩ := id hR
  obtain ⟨i0, i5, i6, i7, i8, j1, j2, hIF, hIV⟩ := id hIP
  obtain ⟨-, f0, fh, f4, fs, f9, fj⟩ := id hF
  obtain ⟨-, v0, vt, v5, v8, vi⟩ := id hV
  have if0 := hIF.1
  have iv0 := hIV.1
  have s1 : SgOK T (iff' (3 ≤ D.1 8) σ 4) := iff_ok hs (by decide)
  have hx1 := x_newName (n_ := n_) hL hT s1 hpd hR hD
  have ok1 := newN_ok t2.2 s1 D
  have hx2 := x_number (n_ := n_) hL hT ok1.1 (lo := 0) (hi := 99) (by omega) (by omega)
  have ok2 := num_ok t2.2 ok1.1 0 99
  have hx3 := x_number (n_ := n_) hL hT ok2.1 (lo := 1) (hi := 99) (by omega) (by omega)
  have ok3 := num_ok t2.2 ok2.1 1 99
  have hlt : sE (tankS3 T σ D).2 = 0 → D.1 8 < 3 := fun e => by
    have f3 := num_0 e
    have f2 := num_0 f3.1
    have f1 := newN_0 f2.1
    have f1e : sE (wordC T (iff' (3 ≤ D.1 8) σ 4)).2 = 0 := by rw [← f1.1]; exact f2.1
    have f0 := iff_0 (by decide) (word_0 f1e).1
    omega
  have hN : tankL T σ D = ((tankS3 T σ D).2, if sE (tankS3 T σ D).2 = 0 then addTank D (tankS1 T σ D).1 (tankS2 T σ D).1 (tankS3 T σ D).1 else D) := rfl
  rw [← show tankS1 T σ D = newN T (iff' (3 ≤ D.1 8) σ 4) D from rfl] at hx1 hx2 hx3 ok1 ok2 ok3
  rw [← show tankS2 T σ D = numC T (tankS1 T σ D).2 0 99 from rfl] at hx2 hx3 ok2 ok3
  rw [← show tankS3 T σ D = numC T (tankS2 T σ D).2 1 99 from rfl] at hx3 ok3
  generalize tankS1 T σ D = n1 at *
  generalize tankS2 T σ D = n2 at *
  generalize tankS3 T σ D = n3 at *
  have ok3e := ok3.1
  unfold SgOK at ok3e
  rw [hN]
  refine AMet.of (by decide) rfl (by decide) rfl ?_
  refine r_aload_n dX6_readTank_0 rfl ?_
  refine r_getR dX6_readTank_1 fl_X6_85 rfl (by assumption) (by assumption) ?_
  refine r_getI dX6_readTank_4 fl_X6_194 rfl (by assumption) ?_
  (try simp (disch := omega) only [wt2, wt4, wt_ne, mkT, mkF, mkK, mkE, mkP]); (try rw [f0]); (try rw [f4]); (try rw [f9]); (try rw [v0]); (try rw [v5]); (try rw [v8]); (try rw [p4]); (try rw [e1]); (try rw [e2])
  refine r_iconst dX6_readTank_7 ?_
  refine q_icmp_lt (tgt := 19) dX6_readTank_8 rfl (by omega) (by omega) (fun c8 => ?_) (fun c8 => ?_)
  · rw [show wTok μ σ = wTok μ (iff' (3 ≤ D.1 8) σ 4) from congrArg (wTok μ) (iff_neg (by omega)).symm]
    refine r_aload_n dX6_readTank_19 rfl ?_
    refine r_aload_n dX6_readTank_20 rfl ?_
    refine r_cV1F1 dX6_readTank_21 ml_X6_161 yl_X6_newName ⟨rfl, rfl⟩ (by assumption) ⟨_, rfl⟩ rfl rfl rfl rfl (hx1) ?_
    refine r_lstore_n dX6_readTank_24 rfl ?_
    refine r_aload_n dX6_readTank_25 rfl ?_
    refine r_getR dX6_readTank_26 fl_X6_12 rfl (by assumption) (by assumption) ?_
    refine r_iconst dX6_readTank_29 ?_
    refine r_bipush dX6_readTank_30 (by decide) ?_
    refine r_cV2F1 dX6_readTank_32 ml_X6_146 yl_X9_number ⟨rfl, rfl⟩ (by assumption) ⟨_, rfl⟩ rfl rfl rfl rfl (hx2) ?_
    refine r_istore dX6_readTank_35 rfl ?_
    refine r_aload_n dX6_readTank_37 rfl ?_
    refine r_getR dX6_readTank_38 fl_X6_12 rfl (by assumption) (by assumption) ?_
    refine r_iconst dX6_readTank_41 ?_
    refine r_bipush dX6_readTank_42 (by decide) ?_
    refine r_cV2F1 dX6_readTank_44 ml_X6_146 yl_X9_number ⟨rfl, rfl⟩ (by assumption) ⟨_, rfl⟩ rfl rfl rfl rfl (hx3) ?_
    refine r_istore dX6_readTank_47 rfl ?_
    refine r_aload_n dX6_readTank_49 rfl ?_
    refine r_getR dX6_readTank_50 fl_X6_12 rfl (by assumption) (by assumption) ?_
    refine r_getI dX6_readTank_53 fl_X6_140 rfl (by assumption) ?_
    (try simp (disch := omega) only [wt2, wt4, wt_ne, mkT, mkF, mkK, mkE, mkP]); (try rw [f0]); (try rw [f4]); (try rw [f9]); (try rw [v0]); (try rw [v5]); (try rw [v8]); (try rw [p4]); (try rw [e1]); (try rw [e2])
    refine q_if_ne (tgt := 71) dX6_readTank_56 rfl (by omega) (fun c56 => ?_) (fun c56 => ?_)
    · refine r_return dX6_readTank_71 rfl rfl rfl ?_
      refine ⟨rfl, rfl, ?_⟩
      first
      | (rw [if_neg (show ¬ sE n3.2 = 0 by omega)]; exact RDS.no hR)
      | (rw [if_pos (show sE n3.2 = 0 by omega)]; exact ⟨_, rfl, rd_adT hR hD (hlt (by omega)) (by omega), kp_adT (fun q q0 q1 => by (try dsimp only at *); omega), rfl⟩)
    · refine r_aload_n dX6_readTank_59 rfl ?_
      refine r_getR dX6_readTank_60 fl_X6_85 rfl (by assumption) (by assumption) ?_
      refine r_lload_n dX6_readTank_63 rfl ?_
      refine r_iload dX6_readTank_64 rfl ?_
      refine r_iload dX6_readTank_66 rfl ?_
      refine r_cV3F0 dX6_readTank_68 ml_X6_197 yl_X10_addTank ⟨rfl, rfl⟩ (by assumption) ⟨_, rfl⟩ rfl rfl rfl rfl (d_addTank (μ := wTok μ n3.2) hIV (by rw [wt_ne (by omega), v0]; have := hlt (by omega); omega)) ?_
      rw [adT_wt (by omega)]
      refine r_return dX6_readTank_71 rfl rfl rfl ?_
      refine ⟨rfl, rfl, ?_⟩
      first
      | (rw [if_neg (show ¬ sE n3.2 = 0 by omega)]; exact RDS.no hR)
      | (rw [if_pos (show sE n3.2 = 0 by omega)]; exact ⟨_, rfl, rd_adT hR hD (hlt (by omega)) (by omega), kp_adT (fun q q0 q1 => by (try dsimp only at *); omega), rfl⟩)
  · refine r_aload_n dX6_readTank_11 rfl ?_
    refine r_getR dX6_readTank_12 fl_X6_12 rfl (by assumption) (by assumption) ?_
    refine r_iconst dX6_readTank_15 ?_
    refine r_cV1F0 dX6_readTank_16 ml_X6_98 yl_X9_fail ⟨rfl, rfl⟩ (by assumption) ⟨_, rfl⟩ rfl rfl rfl rfl (x_fail hL hT hs) ?_
    rw [← iff_pos (c := 3 ≤ D.1 8) (σ := σ) (k := 4) (by omega)]
    refine r_aload_n dX6_readTank_19 rfl ?_
    refine r_aload_n dX6_readTank_20 rfl ?_
    refine r_cV1F1 dX6_readTank_21 ml_X6_161 yl_X6_newName ⟨rfl, rfl⟩ (by assumption) ⟨_, rfl⟩ rfl rfl rfl rfl (hx1) ?_
    refine r_lstore_n dX6_readTank_24 rfl ?_
    refine r_aload_n dX6_readTank_25 rfl ?_
    refine r_getR dX6_readTank_26 fl_X6_12 rfl (by assumption) (by assumption) ?_
    refine r_iconst dX6_readTank_29 ?_
    refine r_bipush dX6_readTank_30 (by decide) ?_
    refine r_cV2F1 dX6_readTank_32 ml_X6_146 yl_X9_number ⟨rfl, rfl⟩ (by assumption) ⟨_, rfl⟩ rfl rfl rfl rfl (hx2) ?_
    refine r_istore dX6_readTank_35 rfl ?_
    refine r_aload_n dX6_readTank_37 rfl ?_
    refine r_getR dX6_readTank_38 fl_X6_12 rfl (by assumption) (by assumption) ?_
    refine r_iconst dX6_readTank_41 ?_
    refine r_bipush dX6_readTank_42 (by decide) ?_
    refine r_cV2F1 dX6_readTank_44 ml_X6_146 yl_X9_number ⟨rfl, rfl⟩ (by assumption) ⟨_, rfl⟩ rfl rfl rfl rfl (hx3) ?_
    refine r_istore dX6_readTank_47 rfl ?_
    refine r_aload_n dX6_readTank_49 rfl ?_
    refine r_getR dX6_readTank_50 fl_X6_12 rfl (by assumption) (by assumption) ?_
    refine r_getI dX6_readTank_53 fl_X6_140 rfl (by assumption) ?_
    (try simp (disch := omega) only [wt2, wt4, wt_ne, mkT, mkF, mkK, mkE, mkP]); (try rw [f0]); (try rw [f4]); (try rw [f9]); (try rw [v0]); (try rw [v5]); (try rw [v8]); (try rw [p4]); (try rw [e1]); (try rw [e2])
    refine q_if_ne (tgt := 71) dX6_readTank_56 rfl (by omega) (fun c56 => ?_) (fun c56 => ?_)
    · refine r_return dX6_readTank_71 rfl rfl rfl ?_
      refine ⟨rfl, rfl, ?_⟩
      first
      | (rw [if_neg (show ¬ sE n3.2 = 0 by omega)]; exact RDS.no hR)
      | (rw [if_pos (show sE n3.2 = 0 by omega)]; exact ⟨_, rfl, rd_adT hR hD (hlt (by omega)) (by omega), kp_adT (fun q q0 q1 => by (try dsimp only at *); omega), rfl⟩)
    · refine r_aload_n dX6_readTank_59 rfl ?_
      refine r_getR dX6_readTank_60 fl_X6_85 rfl (by assumption) (by assumption) ?_
      refine r_lload_n dX6_readTank_63 rfl ?_
      refine r_iload dX6_readTank_64 rfl ?_
      refine r_iload dX6_readTank_66 rfl ?_
      refine r_cV3F0 dX6_readTank_68 ml_X6_197 yl_X10_addTank ⟨rfl, rfl⟩ (by assumption) ⟨_, rfl⟩ rfl rfl rfl rfl (d_addTank (μ := wTok μ n3.2) hIV (by rw [wt_ne (by omega), v0]; have := hlt (by omega); omega)) ?_
      rw [adT_wt (by omega)]
      refine r_return dX6_readTank_71 rfl rfl rfl ?_
      refine ⟨rfl, rfl, ?_⟩
      first
      | (rw [if_neg (show ¬ sE n3.2 = 0 by omega)]; exact RDS.no hR)
      | (rw [if_pos (show sE n3.2 = 0 by omega)]; exact ⟨_, rfl, rd_adT hR hD (hlt (by omega)) (by omega), kp_adT (fun q q0 q1 => by (try dsimp only at *); omega), rfl⟩)
theorem x_readBurn {μ : Mem} {T : Tq} {σ : Sg} {D : PD} {pd : Nat} (hL : Lay μ.2.2) (hT : TapX μ T.1 T.2) (hs : SgOK T σ) (hpd : pd = 4 ∨ pd = 27) (hR : RD n_ μ pd D) (hD : DOK D)  : VMet yX6_readBurn gX6_readBurn (SH n_) [vR 1, vR (pd + 13)] (wTok μ σ) (fun μ2 => RDS n_ μ pd (burnL T σ D) μ2) := by
  have x1 : (SH n_)[1]? = some (6, 4) := rfl
  have x2 : (SH n_)[2]? = some (8, 7) := rfl
  have x3 : (SH n_)[3]? = some (20, 540) := rfl
  have r20 := hL.r2_0
  have rt := hL.r1_0
  obtain ⟨t1, t2, t3⟩ := id hT
  have hs0 := hs
  unfold SgOK at hs0
  have hc := hD.1
  unfold cntOK at hc
  obtain ⟨hIP, p0, p1, p2, p3, p4, pb, hF, hV, ⟨nh, nt⟩, e1, e2⟩ := id hR
  obtain ⟨i0, i5, i6, i7, i8, j1, j2, hIF, hIV⟩ := id hIP
  obtain ⟨-, f0, fh, f4, fs, f9, fj⟩ := id hF
  obtain ⟨-, v0, vt, v5, v8, vi⟩ := id hV
  have if0 := hIF.1
  have iv0 := hIV.1
  have s1 : SgOK T (iff' (12 ≤ D.1 9) σ 4) := iff_ok hs (by decide)
  have hx1 := x_newWord (n_ := n_) hL hT s1
  have ok1 := word_ok t2.2 s1
  have htr := tankF_rng (D := D) (by omega) (burnS1 T σ D).1
  have hlr : 0 ≤ (if burnT T σ D = -1 then 0 else leftF D.1 (burnT T σ D)) ∧ (if burnT T σ D = -1 then 0 else leftF D.1 (burnT T σ D)) ≤ 99 := by
    have htr : burnT T σ D = -1 ∨ 0 ≤ burnT T σ D ∧ burnT T σ D < D.1 8 := htr
    split
    · omega
    · have q := hD.2.2.2.2.2.2.2.2.1 (burnT T σ D) (by omega) (by omega)
      exact q
  have s2 : SgOK T (iff' (burnT T σ D = -1) (burnS1 T σ D).2 3) := iff_ok ok1.1 (by decide)
  have hx2 := x_number (n_ := n_) hL hT s2 (lo := 1) (hi := (if burnT T σ D = -1 then 0 else leftF D.1 (burnT T σ D))) (by omega) (by omega)
  have ok2 := num_ok t2.2 s2 1 (if burnT T σ D = -1 then 0 else leftF D.1 (burnT T σ D))
  have hlt : sE (burnS2 T σ D).2 = 0 → D.1 9 < 12 ∧ burnT T σ D ≠ -1 := fun e => by
    have f2 := num_0 e
    have f1 := iff_0 (by decide) f2.1
    have f0 := iff_0 (by decide) (word_0 f1.2.2).1
    exact ⟨by omega, f1.2.1⟩
  have hN : burnL T σ D = ((burnS2 T σ D).2, if sE (burnS2 T σ D).2 = 0 then addBurn D (burnT T σ D) (burnS2 T σ D).1 else D) := rfl
  rw [← show burnS1 T σ D = wordC T (iff' (12 ≤ D.1 9) σ 4) from rfl] at hx1 ok1
  rw [← show burnS2 T σ D = numC T (iff' (burnT T σ D = -1) (burnS1 T σ D).2 3) 1 (if burnT T σ D = -1 then 0 else leftF D.1 (burnT T σ D)) from rfl] at hx2 ok2
  have hbt : burnT T σ D = tankF D (burnS1 T σ D).1 := rfl
  rw [← hbt] at htr
  generalize burnT T σ D = bt at *
  generalize burnS1 T σ D = n1 at *
  generalize burnS2 T σ D = n2 at *
  have ok3e := ok2.1
  unfold SgOK at ok3e
  rw [hN]
  refine AMet.of (by decide) rfl (by decide) rfl ?_
  refine r_aload_n dX6_readBurn_0 rfl ?_
  refine r_getI dX6_readBurn_1 fl_X6_201 rfl (by assumption) ?_
  (try simp (disch := omega) only [wt2, wt4, wt_ne, mkT, mkF, mkK, mkE, mkP]); (try rw [f0]); (try rw [f4]); (try rw [f9]); (try rw [v0]); (try rw [v5]); (try rw [v8]); (try rw [p4]); (try rw [e1]); (try rw [e2])
  refine r_bipush dX6_readBurn_4 (by decide) ?_
  refine q_icmp_lt (tgt := 17) dX6_readBurn_6 rfl (by omega) (by omega) (fun c6 => ?_) (fun c6 => ?_)
  · rw [show wTok μ σ = wTok μ (iff' (12 ≤ D.1 9) σ 4) from congrArg (wTok μ) (iff_neg (by omega)).symm]
    refine r_aload_n dX6_readBurn_17 rfl ?_
    refine r_aload_n dX6_readBurn_18 rfl ?_
    refine r_getR dX6_readBurn_19 fl_X6_12 rfl (by assumption) (by assumption) ?_
    refine r_cV0F1 dX6_readBurn_22 ml_X6_204 yl_X9_newWord ⟨rfl, rfl⟩ (by assumption) ⟨_, rfl⟩ rfl rfl rfl rfl (hx1) ?_
    refine r_cV1F1 dX6_readBurn_25 ml_X6_208 yl_X10_tankCalled ⟨rfl, rfl⟩ (by assumption) ⟨_, rfl⟩ rfl rfl rfl rfl (q_tankCalled hpd hR hD (by omega)) ?_
    rw [← hbt]
    refine r_istore_n dX6_readBurn_28 rfl ?_
    refine r_iload_n dX6_readBurn_29 rfl ?_
    refine r_iconst dX6_readBurn_30 ?_
    refine q_icmp_ne (tgt := 42) dX6_readBurn_31 rfl (by omega) (by omega) (fun c31 => ?_) (fun c31 => ?_)
    · rw [show wTok μ n1.2 = wTok μ (iff' (bt = -1) n1.2 3) from congrArg (wTok μ) (iff_neg (by omega)).symm]
      refine r_aload_n dX6_readBurn_42 rfl ?_
      refine r_getR dX6_readBurn_43 fl_X6_12 rfl (by assumption) (by assumption) ?_
      refine r_iconst dX6_readBurn_46 ?_
      refine r_aload_n dX6_readBurn_47 rfl ?_
      refine r_iload_n dX6_readBurn_48 rfl ?_
      refine r_cV1F1 dX6_readBurn_49 ml_X6_212 yl_X10_leftIn ⟨rfl, rfl⟩ (by assumption) ⟨_, rfl⟩ rfl rfl rfl rfl (q_leftIn hpd hR hD htr) ?_
      refine r_cV2F1 dX6_readBurn_52 ml_X6_146 yl_X9_number ⟨rfl, rfl⟩ (by assumption) ⟨_, rfl⟩ rfl rfl rfl rfl (hx2) ?_
      refine r_istore_n dX6_readBurn_55 rfl ?_
      refine r_aload_n dX6_readBurn_56 rfl ?_
      refine r_getR dX6_readBurn_57 fl_X6_12 rfl (by assumption) (by assumption) ?_
      refine r_getI dX6_readBurn_60 fl_X6_140 rfl (by assumption) ?_
      (try simp (disch := omega) only [wt2, wt4, wt_ne, mkT, mkF, mkK, mkE, mkP]); (try rw [f0]); (try rw [f4]); (try rw [f9]); (try rw [v0]); (try rw [v5]); (try rw [v8]); (try rw [p4]); (try rw [e1]); (try rw [e2])
      refine q_if_ne (tgt := 72) dX6_readBurn_63 rfl (by omega) (fun c63 => ?_) (fun c63 => ?_)
      · refine r_return dX6_readBurn_72 rfl rfl rfl ?_
        refine ⟨rfl, rfl, ?_⟩
        first
        | (rw [if_neg (show ¬ sE n2.2 = 0 by omega)]; exact RDS.no hR)
        | (rw [if_pos (show sE n2.2 = 0 by omega)]; exact ⟨_, rfl, rd_adB hR hD (hlt (by omega)).1 (htr.resolve_left (hlt (by omega)).2) (by omega), kp_adB (fun q q0 q1 => by (try dsimp only at *); omega), rfl⟩)
      · refine r_aload_n dX6_readBurn_66 rfl ?_
        refine r_iload_n dX6_readBurn_67 rfl ?_
        refine r_iload_n dX6_readBurn_68 rfl ?_
        refine r_cV2F0 dX6_readBurn_69 ml_X6_216 yl_X10_addBurn ⟨rfl, rfl⟩ (by assumption) ⟨_, rfl⟩ rfl rfl rfl rfl (d_addBurn (μ := wTok μ n2.2) hIV (by rw [wt_ne (by omega), v0]; omega) (by rw [wt_ne (by omega), v5]; have := hlt (by omega); omega) (by rw [wt_ne (by omega), v0]; have := hlt (by omega); omega)) ?_
        rw [adB_wt (by omega)]
        refine r_return dX6_readBurn_72 rfl rfl rfl ?_
        refine ⟨rfl, rfl, ?_⟩
        first
        | (rw [if_neg (show ¬ sE n2.2 = 0 by omega)]; exact RDS.no hR)
        | (rw [if_pos (show sE n2.2 = 0 by omega)]; exact ⟨_, rfl, rd_adB hR hD (hlt (by omega)).1 (htr.resolve_left (hlt (by omega)).2) (by omega), kp_adB (fun q q0 q1 => by (try dsimp only at *); omega), rfl⟩)
    · refine r_aload_n dX6_readBurn_34 rfl ?_
      refine r_getR dX6_readBurn_35 fl_X6_12 rfl (by assumption) (by assumption) ?_
      refine r_iconst dX6_readBurn_38 ?_
      refine r_cV1F0 dX6_readBurn_39 ml_X6_98 yl_X9_fail ⟨rfl, rfl⟩ (by assumption) ⟨_, rfl⟩ rfl rfl rfl rfl (x_fail hL hT ok1.1) ?_
      rw [← iff_pos (c := bt = -1) (σ := n1.2) (k := 3) (by omega)]
      refine r_aload_n dX6_readBurn_42 rfl ?_
      refine r_getR dX6_readBurn_43 fl_X6_12 rfl (by assumption) (by assumption) ?_
      refine r_iconst dX6_readBurn_46 ?_
      refine r_aload_n dX6_readBurn_47 rfl ?_
      refine r_iload_n dX6_readBurn_48 rfl ?_
      refine r_cV1F1 dX6_readBurn_49 ml_X6_212 yl_X10_leftIn ⟨rfl, rfl⟩ (by assumption) ⟨_, rfl⟩ rfl rfl rfl rfl (q_leftIn hpd hR hD htr) ?_
      refine r_cV2F1 dX6_readBurn_52 ml_X6_146 yl_X9_number ⟨rfl, rfl⟩ (by assumption) ⟨_, rfl⟩ rfl rfl rfl rfl (hx2) ?_
      refine r_istore_n dX6_readBurn_55 rfl ?_
      refine r_aload_n dX6_readBurn_56 rfl ?_
      refine r_getR dX6_readBurn_57 fl_X6_12 rfl (by assumption) (by assumption) ?_
      refine r_getI dX6_readBurn_60 fl_X6_140 rfl (by assumption) ?_
      (try simp (disch := omega) only [wt2, wt4, wt_ne, mkT, mkF, mkK, mkE, mkP]); (try rw [f0]); (try rw [f4]); (try rw [f9]); (try rw [v0]); (try rw [v5]); (try rw [v8]); (try rw [p4]); (try rw [e1]); (try rw [e2])
      refine q_if_ne (tgt := 72) dX6_readBurn_63 rfl (by omega) (fun c63 => ?_) (fun c63 => ?_)
      · refine r_return dX6_readBurn_72 rfl rfl rfl ?_
        refine ⟨rfl, rfl, ?_⟩
        first
        | (rw [if_neg (show ¬ sE n2.2 = 0 by omega)]; exact RDS.no hR)
        | (rw [if_pos (show sE n2.2 = 0 by omega)]; exact ⟨_, rfl, rd_adB hR hD (hlt (by omega)).1 (htr.resolve_left (hlt (by omega)).2) (by omega), kp_adB (fun q q0 q1 => by (try dsimp only at *); omega), rfl⟩)
      · refine r_aload_n dX6_readBurn_66 rfl ?_
        refine r_iload_n dX6_readBurn_67 rfl ?_
        refine r_iload_n dX6_readBurn_68 rfl ?_
        refine r_cV2F0 dX6_readBurn_69 ml_X6_216 yl_X10_addBurn ⟨rfl, rfl⟩ (by assumption) ⟨_, rfl⟩ rfl rfl rfl rfl (d_addBurn (μ := wTok μ n2.2) hIV (by rw [wt_ne (by omega), v0]; omega) (by rw [wt_ne (by omega), v5]; have := hlt (by omega); omega) (by rw [wt_ne (by omega), v0]; have := hlt (by omega); omega)) ?_
        rw [adB_wt (by omega)]
        refine r_return dX6_readBurn_72 rfl rfl rfl ?_
        refine ⟨rfl, rfl, ?_⟩
        first
        | (rw [if_neg (show ¬ sE n2.2 = 0 by omega)]; exact RDS.no hR)
        | (rw [if_pos (show sE n2.2 = 0 by omega)]; exact ⟨_, rfl, rd_adB hR hD (hlt (by omega)).1 (htr.resolve_left (hlt (by omega)).2) (by omega), kp_adB (fun q q0 q1 => by (try dsimp only at *); omega), rfl⟩)
  · refine r_aload_n dX6_readBurn_9 rfl ?_
    refine r_getR dX6_readBurn_10 fl_X6_12 rfl (by assumption) (by assumption) ?_
    refine r_iconst dX6_readBurn_13 ?_
    refine r_cV1F0 dX6_readBurn_14 ml_X6_98 yl_X9_fail ⟨rfl, rfl⟩ (by assumption) ⟨_, rfl⟩ rfl rfl rfl rfl (x_fail hL hT hs) ?_
    rw [← iff_pos (c := 12 ≤ D.1 9) (σ := σ) (k := 4) (by omega)]
    refine r_aload_n dX6_readBurn_17 rfl ?_
    refine r_aload_n dX6_readBurn_18 rfl ?_
    refine r_getR dX6_readBurn_19 fl_X6_12 rfl (by assumption) (by assumption) ?_
    refine r_cV0F1 dX6_readBurn_22 ml_X6_204 yl_X9_newWord ⟨rfl, rfl⟩ (by assumption) ⟨_, rfl⟩ rfl rfl rfl rfl (hx1) ?_
    refine r_cV1F1 dX6_readBurn_25 ml_X6_208 yl_X10_tankCalled ⟨rfl, rfl⟩ (by assumption) ⟨_, rfl⟩ rfl rfl rfl rfl (q_tankCalled hpd hR hD (by omega)) ?_
    rw [← hbt]
    refine r_istore_n dX6_readBurn_28 rfl ?_
    refine r_iload_n dX6_readBurn_29 rfl ?_
    refine r_iconst dX6_readBurn_30 ?_
    refine q_icmp_ne (tgt := 42) dX6_readBurn_31 rfl (by omega) (by omega) (fun c31 => ?_) (fun c31 => ?_)
    · rw [show wTok μ n1.2 = wTok μ (iff' (bt = -1) n1.2 3) from congrArg (wTok μ) (iff_neg (by omega)).symm]
      refine r_aload_n dX6_readBurn_42 rfl ?_
      refine r_getR dX6_readBurn_43 fl_X6_12 rfl (by assumption) (by assumption) ?_
      refine r_iconst dX6_readBurn_46 ?_
      refine r_aload_n dX6_readBurn_47 rfl ?_
      refine r_iload_n dX6_readBurn_48 rfl ?_
      refine r_cV1F1 dX6_readBurn_49 ml_X6_212 yl_X10_leftIn ⟨rfl, rfl⟩ (by assumption) ⟨_, rfl⟩ rfl rfl rfl rfl (q_leftIn hpd hR hD htr) ?_
      refine r_cV2F1 dX6_readBurn_52 ml_X6_146 yl_X9_number ⟨rfl, rfl⟩ (by assumption) ⟨_, rfl⟩ rfl rfl rfl rfl (hx2) ?_
      refine r_istore_n dX6_readBurn_55 rfl ?_
      refine r_aload_n dX6_readBurn_56 rfl ?_
      refine r_getR dX6_readBurn_57 fl_X6_12 rfl (by assumption) (by assumption) ?_
      refine r_getI dX6_readBurn_60 fl_X6_140 rfl (by assumption) ?_
      (try simp (disch := omega) only [wt2, wt4, wt_ne, mkT, mkF, mkK, mkE, mkP]); (try rw [f0]); (try rw [f4]); (try rw [f9]); (try rw [v0]); (try rw [v5]); (try rw [v8]); (try rw [p4]); (try rw [e1]); (try rw [e2])
      refine q_if_ne (tgt := 72) dX6_readBurn_63 rfl (by omega) (fun c63 => ?_) (fun c63 => ?_)
      · refine r_return dX6_readBurn_72 rfl rfl rfl ?_
        refine ⟨rfl, rfl, ?_⟩
        first
        | (rw [if_neg (show ¬ sE n2.2 = 0 by omega)]; exact RDS.no hR)
        | (rw [if_pos (show sE n2.2 = 0 by omega)]; exact ⟨_, rfl, rd_adB hR hD (hlt (by omega)).1 (htr.resolve_left (hlt (by omega)).2) (by omega), kp_adB (fun q q0 q1 => by (try dsimp only at *); omega), rfl⟩)
      · refine r_aload_n dX6_readBurn_66 rfl ?_
        refine r_iload_n dX6_readBurn_67 rfl ?_
        refine r_iload_n dX6_readBurn_68 rfl ?_
        refine r_cV2F0 dX6_readBurn_69 ml_X6_216 yl_X10_addBurn ⟨rfl, rfl⟩ (by assumption) ⟨_, rfl⟩ rfl rfl rfl rfl (d_addBurn (μ := wTok μ n2.2) hIV (by rw [wt_ne (by omega), v0]; omega) (by rw [wt_ne (by omega), v5]; have := hlt (by omega); omega) (by rw [wt_ne (by omega), v0]; have := hlt (by omega); omega)) ?_
        rw [adB_wt (by omega)]
        refine r_return dX6_readBurn_72 rfl rfl rfl ?_
        refine ⟨rfl, rfl, ?_⟩
        first
        | (rw [if_neg (show ¬ sE n2.2 = 0 by omega)]; exact RDS.no hR)
        | (rw [if_pos (show sE n2.2 = 0 by omega)]; exact ⟨_, rfl, rd_adB hR hD (hlt (by omega)).1 (htr.resolve_left (hlt (by omega)).2) (by omega), kp_adB (fun q q0 q1 => by (try dsimp only at *); omega), rfl⟩)
    · refine r_aload_n dX6_readBurn_34 rfl ?_
      refine r_getR dX6_readBurn_35 fl_X6_12 rfl (by assumption) (by assumption) ?_
      refine r_iconst dX6_readBurn_38 ?_
      refine r_cV1F0 dX6_readBurn_39 ml_X6_98 yl_X9_fail ⟨rfl, rfl⟩ (by assumption) ⟨_, rfl⟩ rfl rfl rfl rfl (x_fail hL hT ok1.1) ?_
      rw [← iff_pos (c := bt = -1) (σ := n1.2) (k := 3) (by omega)]
      refine r_aload_n dX6_readBurn_42 rfl ?_
      refine r_getR dX6_readBurn_43 fl_X6_12 rfl (by assumption) (by assumption) ?_
      refine r_iconst dX6_readBurn_46 ?_
      refine r_aload_n dX6_readBurn_47 rfl ?_
      refine r_iload_n dX6_readBurn_48 rfl ?_
      refine r_cV1F1 dX6_readBurn_49 ml_X6_212 yl_X10_leftIn ⟨rfl, rfl⟩ (by assumption) ⟨_, rfl⟩ rfl rfl rfl rfl (q_leftIn hpd hR hD htr) ?_
      refine r_cV2F1 dX6_readBurn_52 ml_X6_146 yl_X9_number ⟨rfl, rfl⟩ (by assumption) ⟨_, rfl⟩ rfl rfl rfl rfl (hx2) ?_
      refine r_istore_n dX6_readBurn_55 rfl ?_
      refine r_aload_n dX6_readBurn_56 rfl ?_
      refine r_getR dX6_readBurn_57 fl_X6_12 rfl (by assumption) (by assumption) ?_
      refine r_getI dX6_readBurn_60 fl_X6_140 rfl (by assumption) ?_
      (try simp (disch := omega) only [wt2, wt4, wt_ne, mkT, mkF, mkK, mkE, mkP]); (try rw [f0]); (try rw [f4]); (try rw [f9]); (try rw [v0]); (try rw [v5]); (try rw [v8]); (try rw [p4]); (try rw [e1]); (try rw [e2])
      refine q_if_ne (tgt := 72) dX6_readBurn_63 rfl (by omega) (fun c63 => ?_) (fun c63 => ?_)
      · refine r_return dX6_readBurn_72 rfl rfl rfl ?_
        refine ⟨rfl, rfl, ?_⟩
        first
        | (rw [if_neg (show ¬ sE n2.2 = 0 by omega)]; exact RDS.no hR)
        | (rw [if_pos (show sE n2.2 = 0 by omega)]; exact ⟨_, rfl, rd_adB hR hD (hlt (by omega)).1 (htr.resolve_left (hlt (by omega)).2) (by omega), kp_adB (fun q q0 q1 => by (try dsimp only at *); omega), rfl⟩)
      · refine r_aload_n dX6_readBurn_66 rfl ?_
        refine r_iload_n dX6_readBurn_67 rfl ?_
        refine r_iload_n dX6_readBurn_68 rfl ?_
        refine r_cV2F0 dX6_readBurn_69 ml_X6_216 yl_X10_addBurn ⟨rfl, rfl⟩ (by assumption) ⟨_, rfl⟩ rfl rfl rfl rfl (d_addBurn (μ := wTok μ n2.2) hIV (by rw [wt_ne (by omega), v0]; omega) (by rw [wt_ne (by omega), v5]; have := hlt (by omega); omega) (by rw [wt_ne (by omega), v0]; have := hlt (by omega); omega)) ?_
        rw [adB_wt (by omega)]
        refine r_return dX6_readBurn_72 rfl rfl rfl ?_
        refine ⟨rfl, rfl, ?_⟩
        first
        | (rw [if_neg (show ¬ sE n2.2 = 0 by omega)]; exact RDS.no hR)
        | (rw [if_pos (show sE n2.2 = 0 by omega)]; exact ⟨_, rfl, rd_adB hR hD (hlt (by omega)).1 (htr.resolve_left (hlt (by omega)).2) (by omega), kp_adB (fun q q0 q1 => by (try dsimp only at *); omega), rfl⟩)
theorem x_readStop {μ : Mem} {T : Tq} {σ : Sg} {D : PD} {pd : Nat} (hL : Lay μ.2.2) (hT : TapX μ T.1 T.2) (hs : SgOK T σ) (hpd : pd = 4 ∨ pd = 27) (hR : RD n_ μ pd D) (hD : DOK D)  : VMet yX6_readStop gX6_readStop (SH n_) [vR 1, vR (pd + 13)] (wTok μ σ) (fun μ2 => RDS n_ μ pd (stopL T σ D) μ2) := by
  have x1 : (SH n_)[1]? = some (6, 4) := rfl
  have x2 : (SH n_)[2]? = some (8, 7) := rfl
  have x3 : (SH n_)[3]? = some (20, 540) := rfl
  have r20 := hL.r2_0
  have rt := hL.r1_0
  obtain ⟨t1, t2, t3⟩ := id hT
  have hs0 := hs
  unfold SgOK at hs0
  have hc := hD.1
  unfold cntOK at hc
  obtain ⟨hIP, p0, p1, p2, p3, p4, pb, hF, hV, ⟨nh, nt⟩, e1, e2⟩ := id hR
  obtain ⟨i0, i5, i6, i7, i8, j1, j2, hIF, hIV⟩ := id hIP
  obtain ⟨-, f0, fh, f4, fs, f9, fj⟩ := id hF
  obtain ⟨-, v0, vt, v5, v8, vi⟩ := id hV
  have if0 := hIF.1
  have iv0 := hIV.1
  unfold stopL
  refine AMet.of (by decide) rfl (by decide) rfl ?_
  refine r_aload_n dX6_readStop_0 rfl ?_
  refine r_getI dX6_readStop_1 fl_X6_201 rfl (by assumption) ?_
  (try simp (disch := omega) only [wt2, wt4, wt_ne, mkT, mkF, mkK, mkE, mkP]); (try rw [f0]); (try rw [f4]); (try rw [f9]); (try rw [v0]); (try rw [v5]); (try rw [v8]); (try rw [p4]); (try rw [e1]); (try rw [e2])
  refine r_bipush dX6_readStop_4 (by decide) ?_
  refine q_icmp_ge (tgt := 17) dX6_readStop_6 rfl (by omega) (by omega) (fun c6 => ?_) (fun c6 => ?_)
  · refine r_aload_n dX6_readStop_17 rfl ?_
    refine r_getR dX6_readStop_18 fl_X6_12 rfl (by assumption) (by assumption) ?_
    refine r_iconst dX6_readStop_21 ?_
    refine r_cV1F0 dX6_readStop_22 ml_X6_98 yl_X9_fail ⟨rfl, rfl⟩ (by assumption) ⟨_, rfl⟩ rfl rfl rfl rfl (x_fail hL hT hs) ?_
    refine r_goto (tgt := 32) dX6_readStop_25 rfl ?_
    refine r_return dX6_readStop_32 rfl rfl rfl ?_
    refine ⟨rfl, rfl, ?_⟩
    first
    | (rw [if_pos (show 12 ≤ D.1 9 ∨ 4 ≤ D.1 10 by omega)]; exact RDS.no hR)
    | (rw [if_neg (show ¬ (12 ≤ D.1 9 ∨ 4 ≤ D.1 10) by omega)]; exact ⟨_, rfl, rd_adS hR hD (by omega) (by omega), kp_adS (fun q q0 q1 => by (try dsimp only at *); omega), rfl⟩)
  · refine r_aload_n dX6_readStop_9 rfl ?_
    refine r_getI dX6_readStop_10 fl_X6_219 rfl (by assumption) ?_
    (try simp (disch := omega) only [wt2, wt4, wt_ne, mkT, mkF, mkK, mkE, mkP]); (try rw [f0]); (try rw [f4]); (try rw [f9]); (try rw [v0]); (try rw [v5]); (try rw [v8]); (try rw [p4]); (try rw [e1]); (try rw [e2])
    refine r_iconst dX6_readStop_13 ?_
    refine q_icmp_lt (tgt := 28) dX6_readStop_14 rfl (by omega) (by omega) (fun c14 => ?_) (fun c14 => ?_)
    · refine r_aload_n dX6_readStop_28 rfl ?_
      refine r_cV0F0 dX6_readStop_29 ml_X6_222 yl_X10_addStop ⟨rfl, rfl⟩ (by assumption) ⟨_, rfl⟩ rfl rfl rfl rfl (d_addStop (μ := wTok μ σ) hIV (by rw [wt_ne (by omega), v5]; omega)) ?_
      rw [adS_wt (by omega)]
      refine r_return dX6_readStop_32 rfl rfl rfl ?_
      refine ⟨rfl, rfl, ?_⟩
      first
      | (rw [if_pos (show 12 ≤ D.1 9 ∨ 4 ≤ D.1 10 by omega)]; exact RDS.no hR)
      | (rw [if_neg (show ¬ (12 ≤ D.1 9 ∨ 4 ≤ D.1 10) by omega)]; exact ⟨_, rfl, rd_adS hR hD (by omega) (by omega), kp_adS (fun q q0 q1 => by (try dsimp only at *); omega), rfl⟩)
    · refine r_aload_n dX6_readStop_17 rfl ?_
      refine r_getR dX6_readStop_18 fl_X6_12 rfl (by assumption) (by assumption) ?_
      refine r_iconst dX6_readStop_21 ?_
      refine r_cV1F0 dX6_readStop_22 ml_X6_98 yl_X9_fail ⟨rfl, rfl⟩ (by assumption) ⟨_, rfl⟩ rfl rfl rfl rfl (x_fail hL hT hs) ?_
      refine r_goto (tgt := 32) dX6_readStop_25 rfl ?_
      refine r_return dX6_readStop_32 rfl rfl rfl ?_
      refine ⟨rfl, rfl, ?_⟩
      first
      | (rw [if_pos (show 12 ≤ D.1 9 ∨ 4 ≤ D.1 10 by omega)]; exact RDS.no hR)
      | (rw [if_neg (show ¬ (12 ≤ D.1 9 ∨ 4 ≤ D.1 10) by omega)]; exact ⟨_, rfl, rd_adS hR hD (by omega) (by omega), kp_adS (fun q q0 q1 => by (try dsimp only at *); omega), rfl⟩)

