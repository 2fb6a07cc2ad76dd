/-! 99l.start: the law from its entry (wip/p37/src/99l.py) -/
theorem stl_p {ρp ρc : Row} {j : Int} (h : ((0 ≤ j ∧ j ≤ 10) ∨ (13 ≤ j ∧ j ≤ 50) ∨ (53 ≤ j ∧ j ≤ 82))) : setlR ρp ρc j = ρp j := by
  unfold setlR
  rw [if_neg (by omega), if_neg (by omega), if_neg (by omega)]
theorem stl_k {ρp ρc : Row} {j : Int} (h : j = 11 ∨ j = 12 ∨ (83 ≤ j ∧ j < 93)) : setlR ρp ρc j = ρc j := by
  unfold setlR
  rw [if_neg (by omega), if_neg (by omega), if_pos (by omega)]
theorem stl_o {ρp ρc : Row} {j : Int} (h : 93 ≤ j ∧ j < 98) : setlR ρp ρc j = -1 := by
  unfold setlR
  rw [if_pos h]
theorem stl_51 {ρp ρc : Row} : setlR ρp ρc 51 = 0 := by
  unfold setlR
  rw [if_neg (by omega), if_pos (by omega)]
/-- the law's state agrees with the class's at first -/
theorem LR_start {z c at_ : Int → Int} {ρ ρc : Row} (hz : ZOK z) (hc : COK2 z c) (hf : CF c ρc) (e : ρ = setlR (setlR (lk (endL z)) bareR) ρc) (hw : WF ρ) (ha : ∀ k, 0 ≤ k → k < 3 → at_ k = -1) : LR z c at_ 0 ρ := by
  obtain ⟨⟨n0, n3⟩, hp, b0, b1⟩ := id hc
  have z18 := hz.2.2.2.2.2.2.2.2.2.2.2.1
  have hpl : PlEq (lk (endL z)) ρ := fun j hj => by rw [e, stl_p hj, stl_p hj]
  refine ⟨PF.of hpl, ⟨by rw [e, stl_k (by omega)]; exact hf.1, by rw [e, stl_k (by omega)]; exact hf.2.1, by rw [e]; exact stl_51, fun k k0 k1 => ?_⟩, hw, hz, ⟨⟨n0, n3⟩, fun k k0 k1 => ?_, by omega, by omega⟩⟩
  · have q := hf.2.2 k k0 k1
    rw [e, stl_k (by omega), stl_k (by omega), stl_o (by omega), ha k k0 (by omega)]
    exact ⟨q.1, q.2, rfl⟩
  · have q := hp k k0 k1
    rw [ha k k0 (by omega)]
    exact ⟨q.1, q.2, by omega⟩
theorem UI_start {z c at_ : Int → Int} {G : Gh} (h : LR z c at_ 0 (gRow G)) (hu : gUnd G = []) (ha : ∀ k, 0 ≤ k → k < 3 → at_ k = -1) : UI (c 11) G 0 := by
  obtain ⟨hp, ⟨e11, e12, e51, hrow⟩, -, -, ⟨⟨n0, n3⟩, -⟩⟩ := h
  refine ⟨by omega, by rw [hu]; rfl, fun _ => ⟨gRow G, by rw [hu]; rfl, e11, hp.2.1.2.2.2.1, e51, fun k k0 k1 => ?_⟩⟩
  rw [(hrow k k0 k1).2.2]
  exact ha k k0 (by omega)
set_option maxRecDepth 100000 in
set_option maxHeartbeats 4000000 in
theorem law_start (μ0 : Mem) : AL gL_law [] μ0 0 0 0 (entL gL_law [vX 62]) [] PL := by
  refine l_new dL_law_0 nl_L_16 rfl rfl ?_
  have hl0 : ([] : Sh).length = 0 := rfl
  rw [hl0]
  refine l_dup dL_law_3 rfl ?_
  refine l_callI (vs := []) dL_law_4 ml_L_94 yl_X11_init rfl (i_X11 (a := 0) rfl rfl (bornZ _ _)) rfl rfl rfl rfl rfl ?_
  rintro r1 t1 μ1 ⟨rfl, rfl, hN1, hP1⟩
  have hX1 : InX [] μ1 G0 4 27 50 56 := start_X hN1 hP1
  simp only [Option.toList_none, List.nil_append]
  rw [SH_eq]
  refine l_astore_n dL_law_7 rfl ?_
  refine l_sipush dL_law_8 (by decide) ?_
  refine l_newaI dL_law_11 ac_I rfl rfl rfl rfl ?_
  have hl188 : (SH []).length = 188 := rfl
  rw [hl188]
  show AL gL_law (SH [(20, 160)]) (born μ1 188) _ _ _ _ _ PL
  refine l_astore_n dL_law_13 rfl ?_
  refine l_aload_nX dL_law_14 rfl ?_
  refine l_callS (vs := [vX 62]) dL_law_15 ml_L_95 yl_L_plane (c_planeL (sh := SH [(20, 160)])) rfl rfl rfl rfl rfl ?_
  rintro r2 t2 μ2 ⟨rfl, rfl, hz2, hK2⟩
  have hl189 : (SH [(20, 160)]).length = 189 := rfl
  rw [hl189] at hz2 hK2 ⊢
  have ht189 : (SH [(20, 160), (20, 23)])[189]? = some (20, 23) := rfl
  show AL gL_law (SH [(20, 160), (20, 23)]) μ2 _ _ _ _ [vR 189] PL
  refine l_astore_n dL_law_18 rfl ?_
  refine l_aload_nX dL_law_19 rfl ?_
  refine l_aload_n dL_law_20 rfl ?_
  refine l_callS (vs := [vX 62, vR 189]) dL_law_21 ml_L_98 yl_L_cargo (c_cargoL (sh := SH [(20, 160), (20, 23)]) (b := 189) ht189 hz2) rfl rfl rfl rfl rfl ?_
  rintro r3 t3 μ3 ⟨rfl, rfl, hc3, hK3⟩
  have hl190 : (SH [(20, 160), (20, 23)]).length = 190 := rfl
  rw [hl190] at hc3 hK3 ⊢
  show AL gL_law (SH [(20, 160), (20, 23), (20, 12)]) μ3 _ _ _ _ [vR 190] PL
  have x0 : (SH [(20, 160), (20, 23), (20, 12)])[0]? = some (10, 11) := rfl
  have x188 : (SH [(20, 160), (20, 23), (20, 12)])[188]? = some (20, 160) := rfl
  have x189 : (SH [(20, 160), (20, 23), (20, 12)])[189]? = some (20, 23) := rfl
  have x190 : (SH [(20, 160), (20, 23), (20, 12)])[190]? = some (20, 12) := rfl
  have e189 : μ3.1 189 = μ2.1 189 := (hK3 189 (by decide)).1
  have hX3 : InX [(20, 160), (20, 23), (20, 12)] μ3 G0 4 27 50 56 := hX1.grow (SH_sub [] [(20, 160), (20, 23), (20, 12)]) ((((Kp.rf _ μ1).bn (by (try dsimp only); omega)).tr (hK2.mono (fun q hq => by (try dsimp only at *); omega))).tr (hK3.mono (fun q hq => by (try dsimp only at *); omega)))
  have hT3 : TB (μ3.1 188) [] := by
    rw [(hK3 188 (by decide)).1, (hK2 188 (by decide)).1]
    exact TB.nil (bornZ μ1 188)
  rw [← e189] at hz2 hc3
  refine l_astore dL_law_24 rfl ?_
  refine l_aload_n dL_law_26 rfl ?_
  refine l_aload_n dL_law_27 rfl ?_
  refine l_aload_n dL_law_28 rfl ?_
  refine l_cS3I dL_law_29 ml_L_101 yl_L_isPlane ⟨rfl, rfl⟩ rfl rfl rfl rfl (c_isPlane hX3 x188 x189 hT3 hz2 rfl rfl) ?_
  rintro w4 μ4 ⟨hw4, p4, pd4, c4, cd4, G4, hX4, hR4, h04, hU4, hT4, hK4⟩
  have e190 : μ4.1 190 = μ3.1 190 := (hK4 190 (by decide)).1
  rw [← e190] at hc3
  refine lq_if_eq (tgt := 45) dL_law_32 rfl (by omega) (fun c32 => ?_) (fun c32 => ?_)
  · exfalso; omega
  · refine l_aload_n dL_law_35 rfl ?_
    refine l_aload_n dL_law_36 rfl ?_
    refine l_aload dL_law_37 rfl ?_
    refine l_cS3I dL_law_39 ml_L_105 yl_L_isCargo ⟨rfl, rfl⟩ rfl rfl rfl rfl (c_isCargo hX4 x188 x190 hT4 hz2 hc3 h04) ?_
    rintro w5 μ5 ⟨hw5, p5, pd5, c5, cd5, G5, hX5, ⟨ρc, hf5, hR5⟩, h05, hU5, hT5, hK5⟩
    refine lq_if_ne (tgt := 47) dL_law_42 rfl (by omega) (fun c42 => ?_) (fun c42 => ?_)
    · refine l_iconst dL_law_47 ?_
      refine l_newaI dL_law_48 ac_I rfl rfl rfl rfl ?_
      have hl191 : (SH [(20, 160), (20, 23), (20, 12)]).length = 191 := rfl
      rw [hl191]
      show AL gL_law (SH (TL [])) (born μ5 191) _ _ _ _ _ PL
      have y191 : (SH (TL []))[191]? = some (20, 3) := rfl
      refine l_dup dL_law_50 rfl ?_
      refine l_iconst dL_law_51 ?_
      refine l_iconst dL_law_52 ?_
      refine l_iast dL_law_53 (by assumption) rfl (by omega) ?_
      refine l_dup dL_law_54 rfl ?_
      refine l_iconst dL_law_55 ?_
      refine l_iconst dL_law_56 ?_
      refine l_iast dL_law_57 (by assumption) rfl (by omega) ?_
      refine l_dup dL_law_58 rfl ?_
      refine l_iconst dL_law_59 ?_
      refine l_iconst dL_law_60 ?_
      refine l_iast dL_law_61 (by assumption) rfl (by omega) ?_
      refine l_astore dL_law_62 rfl ?_
      refine l_iconst dL_law_64 ?_
      refine l_istore dL_law_65 rfl ?_
      refine l_iconst dL_law_67 ?_
      refine l_istore dL_law_68 rfl ?_
      refine l_iconst dL_law_70 ?_
      refine l_istore dL_law_71 rfl ?_
      obtain ⟨M, hM⟩ : ∃ M, M = setI (setI (setI (born μ5 191) 191 0 (-1)) 191 1 (-1)) 191 2 (-1) := ⟨_, rfl⟩
      rw [← hM]
      have hKM : Kp (fun q => q ≠ 191) μ5 M := by
        rw [hM]
        exact ((((Kp.rf (fun q => q ≠ 191) μ5).bn (fun q => q rfl)).sI (fun q => q rfl)).sI (fun q => q rfl)).sI (fun q => q rfl)
      have f189 : M.1 189 = μ3.1 189 := by rw [(hKM 189 (by decide)).1, (hK5 189 (by decide)).1, (hK4 189 (by decide)).1]
      have f190 : M.1 190 = μ4.1 190 := by rw [(hKM 190 (by decide)).1, (hK5 190 (by decide)).1]
      have f191 : ∀ k, 0 ≤ k → k < 3 → M.1 191 k = -1 := fun k k0 k1 => by
        rw [hM]
        simp only [sI1]
        rcases (show k = 0 ∨ k = 1 ∨ k = 2 by omega) with rfl | rfl | rfl <;> simp
      have hR5' : gRow G5 = setlR (setlR (lk (endL (μ3.1 189))) bareR) ρc := by rw [hR5, hR4]
      have hXM : InX (TL []) M G5 p5 pd5 c5 cd5 := hX5.grow (SH_sub [(20, 160), (20, 23), (20, 12)] [(20, 3)]) (hKM.mono (fun q hq => by (try dsimp only at *); omega))
      have hLR : LR (M.1 189) (M.1 190) (M.1 191) 0 (gRow G5) := by
        rw [f189, f190]
        exact LR_start hz2 hc3 hf5 hR5' hX5.2.2.1.2.2.1 f191
      have hUI : UI (M.1 190 11) G5 0 := UI_start hLR hU5 f191
      exact AL.lw (la_loop 12 [] M G5 _ _ 0 0 4 (by omega) (by omega) ⟨⟨p5, pd5, c5, cd5, hXM⟩, hLR⟩ hUI (by omega) (by decide +kernel) (by decide +kernel)) (by repeat first | exact trivial | refine And.intro rfl ?_)
    · exfalso; omega
