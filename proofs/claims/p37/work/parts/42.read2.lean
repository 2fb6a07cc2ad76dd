/-! 42.read2: taken from whole (wip/p37/port.py) -/
variable {n_ : Sh}
/-! 42.read2: the class reads a line (wip/whole/src/42_read2.py) -/
theorem q_holdCalled {μ : Mem} {σ : Sg} {D : PD} {pd : Nat} (hpd : pd = 4 ∨ pd = 27) (hR : RD n_ μ pd D) (hD : DOK D) {v : Int} (hv : 0 ≤ v ∧ v < 9223372036854775808) : FMet yX1_isHoldCalled gX1_isHoldCalled (SH n_) [vR (pd + 3), vL v] (wTok μ σ) (some (vI (b2i (decide (0 ≤ holdF D v))))) (wTok μ σ) := by
  have hc := hD.1
  unfold cntOK at hc
  obtain ⟨hIP, p0, p1, p2, p3, p4, pb, hF, hV, ⟨nh, nt⟩, e1, e2⟩ := id hR
  obtain ⟨i0, i5, i6, i7, i8, j1, j2, hIF, hIV⟩ := id hIP
  obtain ⟨-, f0, fh, f4, fs, f9, fj⟩ := id hF
  obtain ⟨-, v0, vt, v5, v8, vi⟩ := id hV
  have if0 := hIF.1
  have iv0 := hIV.1
  have h := d_isHoldCalled (sh := (SH n_)) (μ := wTok μ σ) (a := pd + 3) (v := v) hIF (by rw [wt_ne (by omega), f0]; omega) hv (fun k k0 k1 => by
    rw [wt_ne (by omega), f0] at k1
    have q := hD.2.2.2.2.2.2.2.2.2.1 k (Or.inl ⟨k0, k1⟩)
    rw [wt_L, nh k k0 k1]
    omega)
  rw [wt_ne (by omega), f0] at h
  rw [show holdF D v = fnd (fun h => decide ((wTok μ σ).2.1 (pd + 3 + 1) h = v)) (D.1 4).toNat 0 from fnd_congr _ _ fun j j0 j1 => by rw [wt_L, nh j j0 (by omega)]]
  exact h
theorem q_tankCalled {μ : Mem} {σ : Sg} {D : PD} {pd : Nat} (hpd : pd = 4 ∨ pd = 27) (hR : RD n_ μ pd D) (hD : DOK D) {v : Int} (hv : 0 ≤ v ∧ v < 9223372036854775808) : FMet yX10_tankCalled gX10_tankCalled (SH n_) [vR (pd + 13), vL v] (wTok μ σ) (some (vI (tankF D v))) (wTok μ σ) := by
  have hc := hD.1
  unfold cntOK at hc
  obtain ⟨hIP, p0, p1, p2, p3, p4, pb, hF, hV, ⟨nh, nt⟩, e1, e2⟩ := id hR
  obtain ⟨i0, i5, i6, i7, i8, j1, j2, hIF, hIV⟩ := id hIP
  obtain ⟨-, f0, fh, f4, fs, f9, fj⟩ := id hF
  obtain ⟨-, v0, vt, v5, v8, vi⟩ := id hV
  have if0 := hIF.1
  have iv0 := hIV.1
  have h := d_tankCalled (sh := (SH n_)) (μ := wTok μ σ) (a := pd + 13) (v := v) hIV (by rw [wt_ne (by omega), v0]; omega) hv (fun k k0 k1 => by
    rw [wt_ne (by omega), v0] at k1
    have q := hD.2.2.2.2.2.2.2.2.2.1 (3 + k) (Or.inr ⟨by omega, by omega⟩)
    rw [wt_L, nt k k0 k1]
    omega)
  rw [wt_ne (by omega), v0] at h
  rw [show tankF D v = fnd (fun h => decide ((wTok μ σ).2.1 (pd + 13 + 1) h = v)) (D.1 8).toNat 0 from fnd_congr _ _ fun j j0 j1 => by rw [wt_L, nt j j0 (by omega)]]
  exact h
theorem q_leftIn {μ : Mem} {σ : Sg} {D : PD} {pd : Nat} (hpd : pd = 4 ∨ pd = 27) (hR : RD n_ μ pd D) (hD : DOK D) {t : Int} (ht : t = -1 ∨ 0 ≤ t ∧ t < D.1 8) : FMet yX10_leftIn gX10_leftIn (SH n_) [vR (pd + 13), vI t] (wTok μ σ) (some (vI (if t = -1 then 0 else leftF D.1 t))) (wTok μ σ) := by
  have hc := hD.1
  unfold cntOK at hc
  obtain ⟨hIP, p0, p1, p2, p3, p4, pb, hF, hV, ⟨nh, nt⟩, e1, e2⟩ := id hR
  obtain ⟨i0, i5, i6, i7, i8, j1, j2, hIF, hIV⟩ := id hIP
  obtain ⟨-, f0, fh, f4, fs, f9, fj⟩ := id hF
  obtain ⟨-, v0, vt, v5, v8, vi⟩ := id hV
  have if0 := hIF.1
  have iv0 := hIV.1
  have h := d_leftIn (sh := (SH n_)) (μ := wTok μ σ) (a := pd + 13) (s := t) hIV (by omega) (by rw [wt_ne (by omega), v0]; omega)
  simp (disch := omega) only [wt_ne] at h
  rw [v0] at h
  rw [show (if t = -1 then 0 else leftF D.1 t) = (if 0 ≤ t ∧ t < D.1 8 then μ.1 (pd + 13 + 4) t else 0) by
    by_cases e : t = -1
    · rw [if_pos e, if_neg (by omega)]
    · rw [if_neg e, if_pos (by omega), (vt t (by omega) (by omega)).2.2]]
  exact h
theorem RelF.wt {μ : Mem} {σ : Sg} {a : Nat} {ρ : Row} (h : RelF (SH n_) μ a ρ) (ha : 3 ≤ a) : RelF (SH n_) (wTok μ σ) a ρ := h.mono ((Kp.rf _ μ).wt (by (try dsimp only); omega))
theorem q_takesJoint {μ : Mem} {σ : Sg} {D : PD} {pd : Nat} (hpd : pd = 4 ∨ pd = 27) (hR : RD n_ μ pd D) (hD : DOK D) : FMet yX1_takesJoint gX1_takesJoint (SH n_) [vR (pd + 3)] (wTok μ σ) (some (vI (b2i (canJ D.1)))) (wTok μ σ) := by
  have hc := hD.1
  unfold cntOK at hc
  obtain ⟨hIP, p0, p1, p2, p3, p4, pb, hF, hV, ⟨nh, nt⟩, e1, e2⟩ := id hR
  obtain ⟨i0, i5, i6, i7, i8, j1, j2, hIF, hIV⟩ := id hIP
  obtain ⟨-, f0, fh, f4, fs, f9, fj⟩ := id hF
  obtain ⟨-, v0, vt, v5, v8, vi⟩ := id hV
  have if0 := hIF.1
  have iv0 := hIV.1
  exact d_takesJoint (hF.wt (by omega)) (by omega) (by omega) (by omega) hD.2.1 hD.2.2.2.1 hD.2.2.2.2.2.2.1
theorem x_newName {μ : Mem} {T : Tq} {σ : Sg} {D : PD} {pd : Nat} (hL : Lay μ.2.2) (hT : TapX μ T.1 T.2) (hs : SgOK T σ) (hpd : pd = 4 ∨ pd = 27) (hR : RD n_ μ pd D) (hD : DOK D)  : FMet yX6_newName gX6_newName (SH n_) [vR 1, vR pd] (wTok μ σ) (some (vL (newN T σ D).1)) (wTok μ (newN T σ D).2) := by
  have x1 : (SH n_)[1]? = some (6, 4) := rfl
  have x2 : (SH n_)[2]? = some (8, 7) := rfl
  have x3 : (SH n_)[3]? = some (20, 540) := rfl
  have r20 := hL.r2_0
  have rt := hL.r1_0
  obtain ⟨t1, t2, t3⟩ := id hT
  have hs0 := hs
  unfold SgOK at hs0
  have hc := hD.1
  unfold cntOK at hc
  obtain ⟨hIP, p0, p1, p2, p3, p4, pb, hF, hV, ⟨nh, nt⟩, e1, e2⟩ := id hR
  obtain ⟨i0, i5, i6, i7, i8, j1, j2, hIF, hIV⟩ := id hIP
  obtain ⟨-, f0, fh, f4, fs, f9, fj⟩ := id hF
  obtain ⟨-, v0, vt, v5, v8, vi⟩ := id hV
  have if0 := hIF.1
  have iv0 := hIV.1
  obtain ⟨w1, w2⟩ := word_ok t2.2 hs
  have hN : newN T σ D = ((wordC T σ).1, if 0 ≤ holdF D (wordC T σ).1 ∨ 0 ≤ tankF D (wordC T σ).1 then failC (wordC T σ).2 3 else (wordC T σ).2) := rfl
  have hW := x_newWord (n_ := n_) hL hT hs
  generalize wordC T σ = q at *
  have htr := tankF_rng (D := D) (by omega) q.1
  refine AMet.of (by decide) rfl (by decide) rfl ?_
  refine r_aload_n dX6_newName_0 rfl ?_
  refine r_getR dX6_newName_1 fl_X6_12 rfl (by assumption) (by assumption) ?_
  refine r_cV0F1 dX6_newName_4 ml_X6_204 yl_X9_newWord ⟨rfl, rfl⟩ (by assumption) ⟨_, rfl⟩ rfl rfl rfl rfl (hW) ?_
  refine r_lstore_n dX6_newName_7 rfl ?_
  refine r_aload_n dX6_newName_8 rfl ?_
  refine r_getR dX6_newName_9 fl_X6_60 rfl (by assumption) (by assumption) ?_
  refine r_lload_n dX6_newName_12 rfl ?_
  refine r_cV1F1 dX6_newName_13 ml_X6_225 yl_X1_isHoldCalled ⟨rfl, rfl⟩ (by assumption) ⟨_, rfl⟩ rfl rfl rfl rfl (q_holdCalled hpd hR hD (by omega)) ?_
  refine r_if_neB (tgt := 31) dX6_newName_16 rfl (fun c16 => ?_) (fun c16 => ?_)
  · have c16 := of_decide_eq_true c16
    refine r_aload_n dX6_newName_31 rfl ?_
    refine r_getR dX6_newName_32 fl_X6_12 rfl (by assumption) (by assumption) ?_
    refine r_iconst dX6_newName_35 ?_
    refine r_cV1F0 dX6_newName_36 ml_X6_98 yl_X9_fail ⟨rfl, rfl⟩ (by assumption) ⟨_, rfl⟩ rfl rfl rfl rfl (x_fail hL hT w1) ?_
    refine r_lload_n dX6_newName_39 rfl ?_
    refine r_lreturn dX6_newName_40 rfl rfl rfl ?_
    rw [hN]
    first
    | (rw [if_pos (by omega)]; exact ⟨rfl, rfl, rfl⟩)
    | (rw [if_neg (by omega)]; exact ⟨rfl, rfl, rfl⟩)
  · have c16 := of_decide_eq_false c16
    refine r_aload_n dX6_newName_19 rfl ?_
    refine r_getR dX6_newName_20 fl_X6_85 rfl (by assumption) (by assumption) ?_
    refine r_lload_n dX6_newName_23 rfl ?_
    refine r_cV1F1 dX6_newName_24 ml_X6_208 yl_X10_tankCalled ⟨rfl, rfl⟩ (by assumption) ⟨_, rfl⟩ rfl rfl rfl rfl (q_tankCalled hpd hR hD (by omega)) ?_
    refine r_iconst dX6_newName_27 ?_
    refine q_icmp_eq (tgt := 39) dX6_newName_28 rfl (by omega) (by omega) (fun c28 => ?_) (fun c28 => ?_)
    · refine r_lload_n dX6_newName_39 rfl ?_
      refine r_lreturn dX6_newName_40 rfl rfl rfl ?_
      rw [hN]
      first
      | (rw [if_pos (by omega)]; exact ⟨rfl, rfl, rfl⟩)
      | (rw [if_neg (by omega)]; exact ⟨rfl, rfl, rfl⟩)
    · refine r_aload_n dX6_newName_31 rfl ?_
      refine r_getR dX6_newName_32 fl_X6_12 rfl (by assumption) (by assumption) ?_
      refine r_iconst dX6_newName_35 ?_
      refine r_cV1F0 dX6_newName_36 ml_X6_98 yl_X9_fail ⟨rfl, rfl⟩ (by assumption) ⟨_, rfl⟩ rfl rfl rfl rfl (x_fail hL hT w1) ?_
      refine r_lload_n dX6_newName_39 rfl ?_
      refine r_lreturn dX6_newName_40 rfl rfl rfl ?_
      rw [hN]
      first
      | (rw [if_pos (by omega)]; exact ⟨rfl, rfl, rfl⟩)
      | (rw [if_neg (by omega)]; exact ⟨rfl, rfl, rfl⟩)
theorem x_isFrontDoor {μ : Mem} {T : Tq} {σ : Sg} (hL : Lay μ.2.2) (hT : TapX μ T.1 T.2) (hs : SgOK T σ)  : FMet yX6_isFrontDoor gX6_isFrontDoor (SH n_) [vR 1] (wTok μ σ) (some (vI (frontC T σ).1)) (wTok μ (frontC T σ).2) := by
  have x1 : (SH n_)[1]? = some (6, 4) := rfl
  have x2 : (SH n_)[2]? = some (8, 7) := rfl
  have x3 : (SH n_)[3]? = some (20, 540) := rfl
  have r20 := hL.r2_0
  have rt := hL.r1_0
  obtain ⟨t1, t2, t3⟩ := id hT
  have hs0 := hs
  unfold SgOK at hs0
  have h1 := (nxt_ok t2.2 hs).1
  have hX := x_next (n_ := n_) hL hT hs
  have hN : frontC T σ = (b2i (tellsF T (nxt T σ) 11), if tellsF T (nxt T σ) 11 = true ∨ tellsF T (nxt T σ) 12 = true then nxt T σ else failC (nxt T σ) 1) := rfl
  generalize nxt T σ = q at *
  refine AMet.of (by decide) rfl (by decide) rfl ?_
  refine r_aload_n dX6_isFrontDoor_0 rfl ?_
  refine r_getR dX6_isFrontDoor_1 fl_X6_12 rfl (by assumption) (by assumption) ?_
  refine r_cV0F0 dX6_isFrontDoor_4 ml_X6_137 yl_X9_next ⟨rfl, rfl⟩ (by assumption) ⟨_, rfl⟩ rfl rfl rfl rfl (hX) ?_
  refine r_aload_n dX6_isFrontDoor_7 rfl ?_
  refine r_getR dX6_isFrontDoor_8 fl_X6_12 rfl (by assumption) (by assumption) ?_
  refine r_ldcX 11 dX6_isFrontDoor_11 (by decide) rfl rfl ?_
  refine r_cV1F1 dX6_isFrontDoor_13 ml_X6_40 yl_X9_tells ⟨rfl, rfl⟩ (by assumption) ⟨_, rfl⟩ rfl rfl rfl rfl (x_tells hL hT h1 (i := 11) (by decide)) ?_
  refine r_istore_n dX6_isFrontDoor_16 rfl ?_
  refine r_iload_n dX6_isFrontDoor_17 rfl ?_
  refine q_if_ne (tgt := 41) dX6_isFrontDoor_18 rfl (by have := b2i_01 (tellsF T q 11); omega) (fun c18 => ?_) (fun c18 => ?_)
  · have c18 : tellsF T q 11 = true := by
      cases h : tellsF T q 11
      · rw [h] at c18; exact absurd rfl c18
      · rfl
    refine r_iload_n dX6_isFrontDoor_41 rfl ?_
    refine r_zreturn dX6_isFrontDoor_42 (b2i_01 _) rfl rfl rfl ?_
    rw [hN]
    first
    | (rw [if_pos (Or.inl c18)]; exact ⟨rfl, rfl, rfl⟩)
    | (rw [if_pos (Or.inr c30)]; exact ⟨rfl, rfl, rfl⟩)
    | (rw [if_neg (fun h => by rw [c18, c30] at h; exact absurd h (by decide))]; exact ⟨rfl, rfl, rfl⟩)
  · have c18 : tellsF T q 11 = false := by
      cases h : tellsF T q 11
      · rfl
      · rw [h] at c18; exact absurd c18 (by decide)
    refine r_aload_n dX6_isFrontDoor_21 rfl ?_
    refine r_getR dX6_isFrontDoor_22 fl_X6_12 rfl (by assumption) (by assumption) ?_
    refine r_ldcX 12 dX6_isFrontDoor_25 (by decide) rfl rfl ?_
    refine r_cV1F1 dX6_isFrontDoor_27 ml_X6_40 yl_X9_tells ⟨rfl, rfl⟩ (by assumption) ⟨_, rfl⟩ rfl rfl rfl rfl (x_tells hL hT h1 (i := 12) (by decide)) ?_
    refine r_if_neB (tgt := 41) dX6_isFrontDoor_30 rfl (fun c30 => ?_) (fun c30 => ?_)
    · refine r_iload_n dX6_isFrontDoor_41 rfl ?_
      refine r_zreturn dX6_isFrontDoor_42 (b2i_01 _) rfl rfl rfl ?_
      rw [hN]
      first
      | (rw [if_pos (Or.inl c18)]; exact ⟨rfl, rfl, rfl⟩)
      | (rw [if_pos (Or.inr c30)]; exact ⟨rfl, rfl, rfl⟩)
      | (rw [if_neg (fun h => by rw [c18, c30] at h; exact absurd h (by decide))]; exact ⟨rfl, rfl, rfl⟩)
    · refine r_aload_n dX6_isFrontDoor_33 rfl ?_
      refine r_getR dX6_isFrontDoor_34 fl_X6_12 rfl (by assumption) (by assumption) ?_
      refine r_iconst dX6_isFrontDoor_37 ?_
      refine r_cV1F0 dX6_isFrontDoor_38 ml_X6_98 yl_X9_fail ⟨rfl, rfl⟩ (by assumption) ⟨_, rfl⟩ rfl rfl rfl rfl (x_fail hL hT h1) ?_
      refine r_iload_n dX6_isFrontDoor_41 rfl ?_
      refine r_zreturn dX6_isFrontDoor_42 (b2i_01 _) rfl rfl rfl ?_
      rw [hN]
      first
      | (rw [if_pos (Or.inl c18)]; exact ⟨rfl, rfl, rfl⟩)
      | (rw [if_pos (Or.inr c30)]; exact ⟨rfl, rfl, rfl⟩)
      | (rw [if_neg (fun h => by rw [c18, c30] at h; exact absurd h (by decide))]; exact ⟨rfl, rfl, rfl⟩)
theorem x_atLine {μ : Mem} {T : Tq} {σ : Sg} (hL : Lay μ.2.2) (hT : TapX μ T.1 T.2) (hs : SgOK T σ)  : FMet yX6_atLine gX6_atLine (SH n_) [vR 1] (wTok μ σ) (some (vI (b2i (decide (sE (nxt T σ) = 0 ∧ sK (nxt T σ) ≠ 0))))) (wTok μ (nxt T σ)) := by
  have x1 : (SH n_)[1]? = some (6, 4) := rfl
  have x2 : (SH n_)[2]? = some (8, 7) := rfl
  have x3 : (SH n_)[3]? = some (20, 540) := rfl
  have r20 := hL.r2_0
  have rt := hL.r1_0
  obtain ⟨t1, t2, t3⟩ := id hT
  have hs0 := hs
  unfold SgOK at hs0
  have h1 := (nxt_ok t2.2 hs).1
  have hX := x_next (n_ := n_) hL hT hs
  generalize nxt T σ = q at *
  have h10 := h1
  unfold SgOK at h10
  refine AMet.of (by decide) rfl (by decide) rfl ?_
  refine r_aload_n dX6_atLine_0 rfl ?_
  refine r_getR dX6_atLine_1 fl_X6_12 rfl (by assumption) (by assumption) ?_
  refine r_cV0F0 dX6_atLine_4 ml_X6_137 yl_X9_next ⟨rfl, rfl⟩ (by assumption) ⟨_, rfl⟩ rfl rfl rfl rfl (hX) ?_
  refine r_aload_n dX6_atLine_7 rfl ?_
  refine r_getR dX6_atLine_8 fl_X6_12 rfl (by assumption) (by assumption) ?_
  refine r_getI dX6_atLine_11 fl_X6_140 rfl (by assumption) ?_
  (try simp only [wt2, wt4, mkT, mkF, mkK, mkE, mkP])
  refine q_if_ne (tgt := 31) dX6_atLine_14 rfl (by omega) (fun c14 => ?_) (fun c14 => ?_)
  · refine r_iconst dX6_atLine_31 ?_
    refine r_zreturn dX6_atLine_32 (by first | exact Or.inl rfl | exact Or.inr rfl | exact b2i_01 _ | omega) rfl rfl rfl ?_
    refine ⟨rI ?_, rfl, rfl⟩
    first | (rw [decide_eq_true (by omega)]; rfl) | (rw [decide_eq_false (by omega)]; rfl)
  · refine r_aload_n dX6_atLine_17 rfl ?_
    refine r_getR dX6_atLine_18 fl_X6_12 rfl (by assumption) (by assumption) ?_
    refine r_getI dX6_atLine_21 fl_X6_143 rfl (by assumption) ?_
    (try simp only [wt2, wt4, mkT, mkF, mkK, mkE, mkP])
    refine q_if_eq (tgt := 31) dX6_atLine_24 rfl (by omega) (fun c24 => ?_) (fun c24 => ?_)
    · refine r_iconst dX6_atLine_31 ?_
      refine r_zreturn dX6_atLine_32 (by first | exact Or.inl rfl | exact Or.inr rfl | exact b2i_01 _ | omega) rfl rfl rfl ?_
      refine ⟨rI ?_, rfl, rfl⟩
      first | (rw [decide_eq_true (by omega)]; rfl) | (rw [decide_eq_false (by omega)]; rfl)
    · refine r_iconst dX6_atLine_27 ?_
      refine r_goto (tgt := 32) dX6_atLine_28 rfl ?_
      refine r_zreturn dX6_atLine_32 (by first | exact Or.inl rfl | exact Or.inr rfl | exact b2i_01 _ | omega) rfl rfl rfl ?_
      refine ⟨rI ?_, rfl, rfl⟩
      first | (rw [decide_eq_true (by omega)]; rfl) | (rw [decide_eq_false (by omega)]; rfl)

