/-! 27.xcalls3: images, trials, tape, counts of the class (wip/whole/src/27_xcalls3.py) -/
theorem x_imageAt0 {μ : Mem} {G : Gh} {p pd c cd : Nat} (hX : InX μ G p pd c cd)  : FMet yX11_imageAt gX11_imageAt SH [vR 0, vI 0] μ (some (vR 112)) μ := by
  obtain ⟨hL, hPos, ⟨hP, hC, hw, h99⟩, hH, ⟨hi0, hi1⟩, hT, hFk, hTm⟩ := id hX
  obtain ⟨hp0, hc0, r2, r3, r4, r5⟩ := id hPos
  have rr0 := hL.r0_0
  have rr6 := hL.r0_6
  have rr7 := hL.r0_7
  have rr8 := hL.r0_8
  have rr9 := hL.r0_9
  have rr10 := hL.r0_10
  have rt := hL.r1_0
  have x0 : SH[0]? = some (10, 11) := rfl
  have x1 : SH[1]? = some (6, 4) := rfl
  have x2 : SH[2]? = some (8, 7) := rfl
  have x62 : SH[62]? = some (2, 3) := rfl
  have x172 : SH[172]? = some (7, 15) := rfl
  obtain ⟨hIC, e0, e5, e51, e52, eC⟩ := id hC
  obtain ⟨h0, h1, h2, h3, h4, h6, s1, s2, s3, s4, s5⟩ := id hIC
  obtain ⟨hIP, p0, p1, p2, p3, p4, pb, hF, hV⟩ := id hP
  obtain ⟨i0, i5, i6, i7, i8, j1, j2, hIF0, hIV0⟩ := id hIP
  have hIF1 := hIF0.1
  have hIV1 := hIV0.1
  have hn := hw.1.1
  unfold WFn at hn
  have hwl := hw.wl
  have hc5 : c = 50 ∨ c = 56 := by omega
  refine AMet.of (by decide) rfl (by decide) rfl ?_
  refine r_iload_n dX11_imageAt_0 rfl ?_
  refine q_if_ne (tgt := 9) dX11_imageAt_1 rfl (by omega) (fun c1 => ?_) (fun c1 => ?_)
  · exact absurd rfl c1
  · refine r_aload_n dX11_imageAt_4 rfl ?_
    refine r_getR dX11_imageAt_5 fl_X11_46 rfl (by assumption) (by assumption) ?_
    refine r_areturn dX11_imageAt_8 rfl rfl rfl ?_
    exact ⟨rfl, rfl, rfl⟩
theorem x_imageAt1 {μ : Mem} {G : Gh} {p pd c cd : Nat} (hX : InX μ G p pd c cd)  : FMet yX11_imageAt gX11_imageAt SH [vR 0, vI 1] μ (some (vR 142)) μ := by
  obtain ⟨hL, hPos, ⟨hP, hC, hw, h99⟩, hH, ⟨hi0, hi1⟩, hT, hFk, hTm⟩ := id hX
  obtain ⟨hp0, hc0, r2, r3, r4, r5⟩ := id hPos
  have rr0 := hL.r0_0
  have rr6 := hL.r0_6
  have rr7 := hL.r0_7
  have rr8 := hL.r0_8
  have rr9 := hL.r0_9
  have rr10 := hL.r0_10
  have rt := hL.r1_0
  have x0 : SH[0]? = some (10, 11) := rfl
  have x1 : SH[1]? = some (6, 4) := rfl
  have x2 : SH[2]? = some (8, 7) := rfl
  have x62 : SH[62]? = some (2, 3) := rfl
  have x172 : SH[172]? = some (7, 15) := rfl
  obtain ⟨hIC, e0, e5, e51, e52, eC⟩ := id hC
  obtain ⟨h0, h1, h2, h3, h4, h6, s1, s2, s3, s4, s5⟩ := id hIC
  obtain ⟨hIP, p0, p1, p2, p3, p4, pb, hF, hV⟩ := id hP
  obtain ⟨i0, i5, i6, i7, i8, j1, j2, hIF0, hIV0⟩ := id hIP
  have hIF1 := hIF0.1
  have hIV1 := hIV0.1
  have hn := hw.1.1
  unfold WFn at hn
  have hwl := hw.wl
  have hc5 : c = 50 ∨ c = 56 := by omega
  refine AMet.of (by decide) rfl (by decide) rfl ?_
  refine r_iload_n dX11_imageAt_0 rfl ?_
  refine q_if_ne (tgt := 9) dX11_imageAt_1 rfl (by omega) (fun c1 => ?_) (fun c1 => ?_)
  · refine r_iload_n dX11_imageAt_9 rfl ?_
    refine r_iconst dX11_imageAt_10 ?_
    refine q_icmp_ne (tgt := 21) dX11_imageAt_11 rfl (by omega) (by omega) (fun c11 => ?_) (fun c11 => ?_)
    · exact absurd rfl c11
    · refine r_aload_n dX11_imageAt_14 rfl ?_
      refine r_getR dX11_imageAt_15 fl_X11_50 rfl (by assumption) (by assumption) ?_
      refine r_goto (tgt := 22) dX11_imageAt_18 rfl ?_
      refine r_areturn dX11_imageAt_22 rfl rfl rfl ?_
      exact ⟨rfl, rfl, rfl⟩
  · exact absurd c1 (by decide)
theorem x_imageAtN {μ : Mem} {G : Gh} {p pd c cd : Nat} (hX : InX μ G p pd c cd) {k : Int} (hk : -2147483648 ≤ k ∧ k < 2147483648) (hk2 : k ≠ 0 ∧ k ≠ 1) : FMet yX11_imageAt gX11_imageAt SH [vR 0, vI k] μ (some vN) μ := by
  obtain ⟨hL, hPos, ⟨hP, hC, hw, h99⟩, hH, ⟨hi0, hi1⟩, hT, hFk, hTm⟩ := id hX
  obtain ⟨hp0, hc0, r2, r3, r4, r5⟩ := id hPos
  have rr0 := hL.r0_0
  have rr6 := hL.r0_6
  have rr7 := hL.r0_7
  have rr8 := hL.r0_8
  have rr9 := hL.r0_9
  have rr10 := hL.r0_10
  have rt := hL.r1_0
  have x0 : SH[0]? = some (10, 11) := rfl
  have x1 : SH[1]? = some (6, 4) := rfl
  have x2 : SH[2]? = some (8, 7) := rfl
  have x62 : SH[62]? = some (2, 3) := rfl
  have x172 : SH[172]? = some (7, 15) := rfl
  obtain ⟨hIC, e0, e5, e51, e52, eC⟩ := id hC
  obtain ⟨h0, h1, h2, h3, h4, h6, s1, s2, s3, s4, s5⟩ := id hIC
  obtain ⟨hIP, p0, p1, p2, p3, p4, pb, hF, hV⟩ := id hP
  obtain ⟨i0, i5, i6, i7, i8, j1, j2, hIF0, hIV0⟩ := id hIP
  have hIF1 := hIF0.1
  have hIV1 := hIV0.1
  have hn := hw.1.1
  unfold WFn at hn
  have hwl := hw.wl
  have hc5 : c = 50 ∨ c = 56 := by omega
  refine AMet.of (by decide) rfl (by decide) rfl ?_
  refine r_iload_n dX11_imageAt_0 rfl ?_
  refine q_if_ne (tgt := 9) dX11_imageAt_1 rfl (by omega) (fun c1 => ?_) (fun c1 => ?_)
  · refine r_iload_n dX11_imageAt_9 rfl ?_
    refine r_iconst dX11_imageAt_10 ?_
    refine q_icmp_ne (tgt := 21) dX11_imageAt_11 rfl (by omega) (by omega) (fun c11 => ?_) (fun c11 => ?_)
    · refine r_null dX11_imageAt_21 ?_
      refine r_areturnN dX11_imageAt_22 rfl rfl rfl ?_
      exact ⟨rfl, rfl, rfl⟩
    · exact absurd c11 hk2.2
  · exact absurd c1 hk2.1
theorem ImgX.fill {μ : Mem} {a : Nat} {p c : Nat} {ρ : Row} (hL : Lay μ.2.2) (ha : a = 112 ∨ a = 142) (hP : RelP SH μ p ρ) (hC : RelC SH μ c ρ) (hp : p = 4 ∨ p = 27) (hc : c = 50 ∨ c = 56) (hw : WF ρ) (h99 : W99 ρ) : ImgX (cpCargo (cpPlane (setI μ a 0 1) (a + 1) p) (a + 24) c) a (some ρ) := by
  have hn := hw.1.1
  unfold WFn at hn
  have k1 : Kp (fun q => q ≠ a) μ (setI μ a 0 1) := (Kp.rf _ μ).sI (by simp)
  have k2 : Kp (fun q => ¬ (a + 1 ≤ q ∧ q < a + 24)) (setI μ a 0 1) (cpPlane (setI μ a 0 1) (a + 1) p) := (Kp.rf _ _).cP (fun q q0 q1 => by (try dsimp only); omega)
  have k3 : Kp (fun q => ¬ (a + 24 ≤ q ∧ q < a + 30)) (cpPlane (setI μ a 0 1) (a + 1) p) (cpCargo (cpPlane (setI μ a 0 1) (a + 1) p) (a + 24) c) := (Kp.rf _ _).cc (fun q q0 q1 => by (try dsimp only); omega)
  have hpl : IsPlane SH μ.2.2 (a + 1) := ha.elim (fun e => by subst e; exact hL.p113) (fun e => by subst e; exact hL.p143)
  have hcl : IsCargo SH μ.2.2 (a + 24) := ha.elim (fun e => by subst e; exact hL.c136) (fun e => by subst e; exact hL.c166)
  refine ⟨?_, ?_, ?_, hw, h99⟩
  · rw [(k3 a (by (try dsimp only); omega)).1, (k2 a (by (try dsimp only); omega)).1]
    exact sI_at
  · exact ((hP.mono (k1.mono (fun q hq => by (try dsimp only at *); omega))).cp hw.1.1 (p := a + 1) hpl (by omega)).mono (k3.mono (fun q hq => by (try dsimp only at *); omega))
  · exact ((hC.mono (k1.mono (fun q hq => by (try dsimp only at *); omega))).mono (k2.mono (fun q hq => by (try dsimp only at *); omega))).cp (by omega) (c := a + 24) hcl (by omega)
theorem PosX.pc {R : IX} {p pd c cd : Nat} (h : PosX R p pd c cd) : (p = 4 ∨ p = 27) ∧ (c = 50 ∨ c = 56) := by
  have := h.1
  have := h.2.1
  omega
theorem InX.fill {μ : Mem} {G : Gh} {p pd c cd : Nat} (hX : InX μ G p pd c cd) {a : Nat} (ha : a = 112 ∨ a = 142) {i0 i1 : Option Row} (h0 : a = 112 → i0 = some (gRow G) ∧ i1 = gI1 G) (h1 : a = 142 → i0 = gI0 G ∧ i1 = some (gRow G)) : XS μ (cpCargo (cpPlane (setI μ a 0 1) (a + 1) p) (a + 24) c) G (G.1, G.2.1, i0, i1, G.2.2.2.2) p pd c cd := by
  obtain ⟨hL, hPos, ⟨hP, hC, hw, h99⟩, hH, ⟨hi0, hi1⟩, hT, hFk, hTm⟩ := id hX
  have hpc := hPos.pc
  have hf := ImgX.fill hL ha hP hC hpc.1 hpc.2 hw h99
  have kk : Kp (fun q => ¬ (a ≤ q ∧ q < a + 30)) μ (cpCargo (cpPlane (setI μ a 0 1) (a + 1) p) (a + 24) c) := (((Kp.rf _ μ).sI (by (try dsimp only); omega)).cP (fun q q0 q1 => by (try dsimp only); omega)).cc (fun q q0 q1 => by (try dsimp only); omega)
  refine ⟨⟨hL, hPos, ⟨hP.mono (kk.mono (fun q hq => by (try dsimp only at *); omega)), hC.mono (kk.mono (fun q hq => by (try dsimp only at *); omega)), hw, h99⟩, hH.mono (kk.mono (fun q hq => by (try dsimp only at *); omega)), ⟨?_, ?_⟩, hT.mono (congrFun (kk 2 (by (try dsimp only); omega)).1 1) (kk 3 (by (try dsimp only); omega)).1, by rw [(kk 0 (by (try dsimp only); omega)).1]; exact hFk, hTm.mono (congrFun (kk 182 (by (try dsimp only); omega)).1 1) (kk 183 (by (try dsimp only); omega)).1⟩, kk.mono (fun q hq => by (try dsimp only at *); omega), Or.inl ⟨kk.mono (fun q hq => by (try dsimp only at *); omega), fun _ _ _ _ => rfl⟩, rfl⟩
  · rcases ha with rfl | rfl
    · rw [show gI0 (G.1, G.2.1, i0, i1, G.2.2.2.2) = i0 from rfl, (h0 rfl).1]; exact hf
    · rw [show gI0 (G.1, G.2.1, i0, i1, G.2.2.2.2) = i0 from rfl, (h1 rfl).1]
      exact hi0.mono (kk.mono (fun q hq => by (try dsimp only at *); omega))
  · rcases ha with rfl | rfl
    · rw [show gI1 (G.1, G.2.1, i0, i1, G.2.2.2.2) = i1 from rfl, (h0 rfl).2]
      exact hi1.mono (kk.mono (fun q hq => by (try dsimp only at *); omega))
    · rw [show gI1 (G.1, G.2.1, i0, i1, G.2.2.2.2) = i1 from rfl, (h1 rfl).2]; exact hf
theorem x_image {μ : Mem} {G : Gh} {p pd c cd : Nat} (hX : InX μ G p pd c cd) {k : Int} (hk : -2147483648 ≤ k ∧ k < 2147483648)  : IMet yX11_image gX11_image SH [vR 0, vI k] μ (fun x μ2 => x = (imageF G k).1 ∧ XS μ μ2 G (imageF G k).2 p pd c cd) := by
  obtain ⟨hL, hPos, ⟨hP, hC, hw, h99⟩, hH, ⟨hi0, hi1⟩, hT, hFk, hTm⟩ := id hX
  obtain ⟨hp0, hc0, r2, r3, r4, r5⟩ := id hPos
  have rr0 := hL.r0_0
  have rr6 := hL.r0_6
  have rr7 := hL.r0_7
  have rr8 := hL.r0_8
  have rr9 := hL.r0_9
  have rr10 := hL.r0_10
  have rt := hL.r1_0
  have x0 : SH[0]? = some (10, 11) := rfl
  have x1 : SH[1]? = some (6, 4) := rfl
  have x2 : SH[2]? = some (8, 7) := rfl
  have x62 : SH[62]? = some (2, 3) := rfl
  have x172 : SH[172]? = some (7, 15) := rfl
  obtain ⟨hIC, e0, e5, e51, e52, eC⟩ := id hC
  obtain ⟨h0, h1, h2, h3, h4, h6, s1, s2, s3, s4, s5⟩ := id hIC
  obtain ⟨hIP, p0, p1, p2, p3, p4, pb, hF, hV⟩ := id hP
  obtain ⟨i0, i5, i6, i7, i8, j1, j2, hIF0, hIV0⟩ := id hIP
  have hIF1 := hIF0.1
  have hIV1 := hIV0.1
  have hn := hw.1.1
  unfold WFn at hn
  have hwl := hw.wl
  have hc5 : c = 50 ∨ c = 56 := by omega
  rcases (show k = 0 ∨ k = 1 ∨ (k ≠ 0 ∧ k ≠ 1) by omega) with hk0 | hk0 | hk0
  · subst hk0
    have hpl := hL.p113
    have hcl := hL.c136
    have g1 : SH[112]? = some (3, 3) := rfl
    have g2 : SH[113]? = some (5, 9) := rfl
    have g3 : SH[136]? = some (0, 7) := rfl
    have f1 := hL.r112_1
    have f2 := hL.r112_2
    refine AMet.of (by decide) rfl (by decide) rfl ?_
    refine r_aload_n dX11_image_0 rfl ?_
    refine r_iload_n dX11_image_1 rfl ?_
    refine r_cV1F1 dX11_image_2 ml_X11_297 yl_X11_imageAt ⟨rfl, rfl⟩ (by assumption) ⟨_, rfl⟩ rfl rfl rfl rfl (x_imageAt0 hX) ?_
    refine r_astore_n dX11_image_5 rfl ?_
    refine r_aload_n dX11_image_6 rfl ?_
    refine r_ifnonnull (tgt := 12) dX11_image_7 rfl ?_
    refine r_aload_n dX11_image_12 rfl ?_
    refine r_iconst dX11_image_13 ?_
    refine r_putZ dX11_image_14 fl_X11_301 (by assumption) (by first | exact Or.inl rfl | exact Or.inr rfl | exact b2i_01 _ | omega) ?_
    refine r_aload_n dX11_image_17 rfl ?_
    refine r_getR dX11_image_18 fl_X11_305 rfl (by assumption) (by assumption) ?_
    refine r_aload_n dX11_image_21 rfl ?_
    refine r_getR dX11_image_22 fl_X11_19 rfl (by assumption) (by assumption) ?_
    refine r_cV1F0 dX11_image_25 ml_X11_308 yl_X5_copyFrom ⟨rfl, rfl⟩ (by assumption) ⟨_, rfl⟩ rfl rfl rfl rfl (c_copyP (p := 113) (o := p) hpl hIP) ?_
    refine r_aload_n dX11_image_28 rfl ?_
    refine r_getR dX11_image_29 fl_X11_311 rfl (by assumption) (by assumption) ?_
    refine r_aload_n dX11_image_32 rfl ?_
    refine r_getR dX11_image_33 fl_X11_29 rfl (by assumption) (by assumption) ?_
    refine r_cV1F0 dX11_image_36 ml_X11_314 yl_X0_copyFrom ⟨rfl, rfl⟩ (by assumption) ⟨_, rfl⟩ rfl rfl rfl rfl (c_copyC (c := 136) (o := c) hcl hIC) ?_
    refine r_iconst dX11_image_39 ?_
    refine r_zreturn dX11_image_40 (by first | exact Or.inl rfl | exact Or.inr rfl | exact b2i_01 _ | omega) rfl rfl rfl ?_
    refine ⟨rfl, _, rfl, ?_⟩
    unfold imageF
    exact ⟨rfl, hX.fill (a := 112) (by omega) (fun e => ⟨rfl, rfl⟩) (fun e => by omega)⟩
  · subst hk0
    have hpl := hL.p143
    have hcl := hL.c166
    have g1 : SH[142]? = some (3, 3) := rfl
    have g2 : SH[143]? = some (5, 9) := rfl
    have g3 : SH[166]? = some (0, 7) := rfl
    have f1 := hL.r142_1
    have f2 := hL.r142_2
    refine AMet.of (by decide) rfl (by decide) rfl ?_
    refine r_aload_n dX11_image_0 rfl ?_
    refine r_iload_n dX11_image_1 rfl ?_
    refine r_cV1F1 dX11_image_2 ml_X11_297 yl_X11_imageAt ⟨rfl, rfl⟩ (by assumption) ⟨_, rfl⟩ rfl rfl rfl rfl (x_imageAt1 hX) ?_
    refine r_astore_n dX11_image_5 rfl ?_
    refine r_aload_n dX11_image_6 rfl ?_
    refine r_ifnonnull (tgt := 12) dX11_image_7 rfl ?_
    refine r_aload_n dX11_image_12 rfl ?_
    refine r_iconst dX11_image_13 ?_
    refine r_putZ dX11_image_14 fl_X11_301 (by assumption) (by first | exact Or.inl rfl | exact Or.inr rfl | exact b2i_01 _ | omega) ?_
    refine r_aload_n dX11_image_17 rfl ?_
    refine r_getR dX11_image_18 fl_X11_305 rfl (by assumption) (by assumption) ?_
    refine r_aload_n dX11_image_21 rfl ?_
    refine r_getR dX11_image_22 fl_X11_19 rfl (by assumption) (by assumption) ?_
    refine r_cV1F0 dX11_image_25 ml_X11_308 yl_X5_copyFrom ⟨rfl, rfl⟩ (by assumption) ⟨_, rfl⟩ rfl rfl rfl rfl (c_copyP (p := 143) (o := p) hpl hIP) ?_
    refine r_aload_n dX11_image_28 rfl ?_
    refine r_getR dX11_image_29 fl_X11_311 rfl (by assumption) (by assumption) ?_
    refine r_aload_n dX11_image_32 rfl ?_
    refine r_getR dX11_image_33 fl_X11_29 rfl (by assumption) (by assumption) ?_
    refine r_cV1F0 dX11_image_36 ml_X11_314 yl_X0_copyFrom ⟨rfl, rfl⟩ (by assumption) ⟨_, rfl⟩ rfl rfl rfl rfl (c_copyC (c := 166) (o := c) hcl hIC) ?_
    refine r_iconst dX11_image_39 ?_
    refine r_zreturn dX11_image_40 (by first | exact Or.inl rfl | exact Or.inr rfl | exact b2i_01 _ | omega) rfl rfl rfl ?_
    refine ⟨rfl, _, rfl, ?_⟩
    unfold imageF
    exact ⟨rfl, hX.fill (a := 142) (by omega) (fun e => by omega) (fun e => ⟨rfl, rfl⟩)⟩
  · refine AMet.of (by decide) rfl (by decide) rfl ?_
    refine r_aload_n dX11_image_0 rfl ?_
    refine r_iload_n dX11_image_1 rfl ?_
    refine r_cV1F1 dX11_image_2 ml_X11_297 yl_X11_imageAt ⟨rfl, rfl⟩ (by assumption) ⟨_, rfl⟩ rfl rfl rfl rfl (x_imageAtN hX hk hk0) ?_
    refine r_astore_nN dX11_image_5 rfl ?_
    refine r_aload_nN dX11_image_6 rfl ?_
    refine r_ifnonnullN dX11_image_7 ?_
    refine r_iconst dX11_image_10 ?_
    refine r_zreturn dX11_image_11 (by first | exact Or.inl rfl | exact Or.inr rfl | exact b2i_01 _ | omega) rfl rfl rfl ?_
    refine ⟨rfl, _, rfl, ?_⟩
    unfold imageF
    rw [if_neg hk0.1, if_neg hk0.2]
    exact ⟨rfl, XS.rf hX⟩
theorem InX.rest {μ : Mem} {G : Gh} {p pd c cd : Nat} (hX : InX μ G p pd c cd) {a : Nat} (ha : a = 112 ∨ a = 142) {ρ : Row} (hI : ImgX μ a (some ρ)) : XS μ (setI (setI (cpCargo (cpPlane μ p (a + 1)) c (a + 24)) 62 2 0) 172 0 0) G (ρ, [], G.2.2) p pd c cd := by
  obtain ⟨hL, hPos, ⟨hP, hC, hw, h99⟩, hH, ⟨hi0, hi1⟩, hT, hFk, hTm⟩ := id hX
  have hpc := hPos.pc
  obtain ⟨q1, q2, q3, q4, q5⟩ := id hI
  have hn := q4.1.1
  unfold WFn at hn
  have k2 : Kp (fun q => ¬ (p ≤ q ∧ q < p + 23)) μ (cpPlane μ p (a + 1)) := (Kp.rf _ _).cP (fun q q0 q1 => by (try dsimp only); omega)
  have k3 : Kp (fun q => ¬ (c ≤ q ∧ q < c + 6)) (cpPlane μ p (a + 1)) (cpCargo (cpPlane μ p (a + 1)) c (a + 24)) := (Kp.rf _ _).cc (fun q q0 q1 => by (try dsimp only); omega)
  have k4 : Kp (fun q => q ≠ 62 ∧ q ≠ 172) (cpCargo (cpPlane μ p (a + 1)) c (a + 24)) (setI (setI (cpCargo (cpPlane μ p (a + 1)) c (a + 24)) 62 2 0) 172 0 0) := ((Kp.rf _ _).sI (by simp)).sI (by simp)
  have kk : Kp (fun q => ¬ (p ≤ q ∧ q < p + 23) ∧ ¬ (c ≤ q ∧ q < c + 6) ∧ q ≠ 62 ∧ q ≠ 172) μ (setI (setI (cpCargo (cpPlane μ p (a + 1)) c (a + 24)) 62 2 0) 172 0 0) := ((k2.mono (fun q hq => by (try dsimp only at *); omega)).tr (k3.mono (fun q hq => by (try dsimp only at *); omega))).tr (k4.mono (fun q hq => by (try dsimp only at *); omega))
  have hP2 := ((q2.cp q4.1.1 (p := p) hP.1 (by omega)).mono (k3.mono (fun q hq => by (try dsimp only at *); omega))).mono (k4.mono (fun q hq => by (try dsimp only at *); omega))
  have hC2 := (((q3.mono (k2.mono (fun q hq => by (try dsimp only at *); omega))).cp (by omega) (c := c) hC.1 (by omega))).mono (k4.mono (fun q hq => by (try dsimp only at *); omega))
  refine ⟨⟨hL, hPos, ⟨hP2, hC2, q4, q5⟩, ⟨Nat.zero_le _, ?_, ?_, fun t u hu => absurd (show ([] : List Row)[t]? = some u from hu) (by simp)⟩, ⟨hi0.mono (kk.mono (fun q hq => by (try dsimp only at *); omega)), hi1.mono (kk.mono (fun q hq => by (try dsimp only at *); omega))⟩, hT.mono (congrFun (kk 2 (by (try dsimp only); omega)).1 1) (kk 3 (by (try dsimp only); omega)).1, by rw [(kk 0 (by (try dsimp only); omega)).1]; exact hFk, hTm.mono (congrFun (kk 182 (by (try dsimp only); omega)).1 1) (kk 183 (by (try dsimp only); omega)).1⟩, kk.mono (fun q hq => by (try dsimp only at *); omega), Or.inr ⟨sI_at, kk.mono (fun q hq => by (try dsimp only at *); omega)⟩, rfl⟩
  · rw [sI_ne (by omega), sI_at]; rfl
  · rw [sI_ne (by omega), sI_nj (by omega), (k3 62 (by (try dsimp only); omega)).1, (k2 62 (by (try dsimp only); omega)).1]
    exact hH.2.2.1
theorem x_restore {μ : Mem} {G : Gh} {p pd c cd : Nat} (hX : InX μ G p pd c cd) {k : Int} (hk : -2147483648 ≤ k ∧ k < 2147483648)  : IMet yX11_restore gX11_restore SH [vR 0, vI k] μ (fun x μ2 => x = (restF G k).1 ∧ XS μ μ2 G (restF G k).2 p pd c cd) := by
  obtain ⟨hL, hPos, ⟨hP, hC, hw, h99⟩, hH, ⟨hi0, hi1⟩, hT, hFk, hTm⟩ := id hX
  obtain ⟨hp0, hc0, r2, r3, r4, r5⟩ := id hPos
  have rr0 := hL.r0_0
  have rr6 := hL.r0_6
  have rr7 := hL.r0_7
  have rr8 := hL.r0_8
  have rr9 := hL.r0_9
  have rr10 := hL.r0_10
  have rt := hL.r1_0
  have x0 : SH[0]? = some (10, 11) := rfl
  have x1 : SH[1]? = some (6, 4) := rfl
  have x2 : SH[2]? = some (8, 7) := rfl
  have x62 : SH[62]? = some (2, 3) := rfl
  have x172 : SH[172]? = some (7, 15) := rfl
  obtain ⟨hIC, e0, e5, e51, e52, eC⟩ := id hC
  obtain ⟨h0, h1, h2, h3, h4, h6, s1, s2, s3, s4, s5⟩ := id hIC
  obtain ⟨hIP, p0, p1, p2, p3, p4, pb, hF, hV⟩ := id hP
  obtain ⟨i0, i5, i6, i7, i8, j1, j2, hIF0, hIV0⟩ := id hIP
  have hIF1 := hIF0.1
  have hIV1 := hIV0.1
  have hn := hw.1.1
  unfold WFn at hn
  have hwl := hw.wl
  have hc5 : c = 50 ∨ c = 56 := by omega
  rcases (show k = 0 ∨ k = 1 ∨ (k ≠ 0 ∧ k ≠ 1) by omega) with hk0 | hk0 | hk0
  · subst hk0
    have hpl := hL.p113
    have hcl := hL.c136
    have g1 : SH[112]? = some (3, 3) := rfl
    have g2 : SH[113]? = some (5, 9) := rfl
    have g3 : SH[136]? = some (0, 7) := rfl
    have f1 := hL.r112_1
    have f2 := hL.r112_2
    rcases hoo : gI0 G with _ | ρ
    · have z0 : μ.1 112 0 = 0 := by have h := hi0; rw [hoo] at h; exact h
      refine AMet.of (by decide) rfl (by decide) rfl ?_
      refine r_aload_n dX11_restore_0 rfl ?_
      refine r_iload_n dX11_restore_1 rfl ?_
      refine r_cV1F1 dX11_restore_2 ml_X11_297 yl_X11_imageAt ⟨rfl, rfl⟩ (by assumption) ⟨_, rfl⟩ rfl rfl rfl rfl (x_imageAt0 hX) ?_
      refine r_astore_n dX11_restore_5 rfl ?_
      refine r_aload_n dX11_restore_6 rfl ?_
      refine r_ifnull dX11_restore_7 ?_
      refine r_aload_n dX11_restore_10 rfl ?_
      refine r_getI dX11_restore_11 fl_X11_301 rfl (by assumption) ?_
      refine q_if_ne (tgt := 19) dX11_restore_14 rfl (by omega) (fun c14 => ?_) (fun c14 => ?_)
      · exact absurd z0 c14
      · refine r_iconst dX11_restore_17 ?_
        refine r_zreturn dX11_restore_18 (by first | exact Or.inl rfl | exact Or.inr rfl | exact b2i_01 _ | omega) rfl rfl rfl ?_
        refine ⟨rfl, _, rfl, ?_⟩
        unfold restF
        simp only [hoo, if_true]
        first | exact ⟨rfl, XS.rf hX⟩ | exact ⟨trivial, XS.rf hX⟩
    · have hoi : ImgX μ 112 (some ρ) := by rw [← hoo]; exact hi0
      have z0 : μ.1 112 0 = 1 := hoi.1
      refine AMet.of (by decide) rfl (by decide) rfl ?_
      refine r_aload_n dX11_restore_0 rfl ?_
      refine r_iload_n dX11_restore_1 rfl ?_
      refine r_cV1F1 dX11_restore_2 ml_X11_297 yl_X11_imageAt ⟨rfl, rfl⟩ (by assumption) ⟨_, rfl⟩ rfl rfl rfl rfl (x_imageAt0 hX) ?_
      refine r_astore_n dX11_restore_5 rfl ?_
      refine r_aload_n dX11_restore_6 rfl ?_
      refine r_ifnull dX11_restore_7 ?_
      refine r_aload_n dX11_restore_10 rfl ?_
      refine r_getI dX11_restore_11 fl_X11_301 rfl (by assumption) ?_
      refine q_if_ne (tgt := 19) dX11_restore_14 rfl (by omega) (fun c14 => ?_) (fun c14 => ?_)
      · refine r_aload_n dX11_restore_19 rfl ?_
        refine r_getR dX11_restore_20 fl_X11_19 rfl (by assumption) (by assumption) ?_
        refine r_aload_n dX11_restore_23 rfl ?_
        refine r_getR dX11_restore_24 fl_X11_305 rfl (by assumption) (by assumption) ?_
        refine r_cV1F0 dX11_restore_27 ml_X11_308 yl_X5_copyFrom ⟨rfl, rfl⟩ (by assumption) ⟨_, rfl⟩ rfl rfl rfl rfl (c_copyP (p := p) (o := 113) hIP hpl) ?_
        refine r_aload_n dX11_restore_30 rfl ?_
        refine r_getR dX11_restore_31 fl_X11_29 rfl (by assumption) (by assumption) ?_
        refine r_aload_n dX11_restore_34 rfl ?_
        refine r_getR dX11_restore_35 fl_X11_311 rfl (by assumption) (by assumption) ?_
        refine r_cV1F0 dX11_restore_38 ml_X11_314 yl_X0_copyFrom ⟨rfl, rfl⟩ (by assumption) ⟨_, rfl⟩ rfl rfl rfl rfl (c_copyC (c := c) (o := 136) hIC hcl) ?_
        refine r_aload_n dX11_restore_41 rfl ?_
        refine r_getR dX11_restore_42 fl_X11_39 rfl (by assumption) (by assumption) ?_
        refine r_iconst dX11_restore_45 ?_
        refine r_putI dX11_restore_46 fl_X11_293 (by assumption) ?_
        refine r_aload_n dX11_restore_49 rfl ?_
        refine r_getR dX11_restore_50 fl_X11_56 rfl (by assumption) (by assumption) ?_
        refine r_cV0F0 dX11_restore_53 ml_X11_283 yl_X8_forget ⟨rfl, rfl⟩ (by assumption) ⟨_, rfl⟩ rfl rfl rfl rfl (c_forget) ?_
        refine r_iconst dX11_restore_56 ?_
        refine r_zreturn dX11_restore_57 (by first | exact Or.inl rfl | exact Or.inr rfl | exact b2i_01 _ | omega) rfl rfl rfl ?_
        refine ⟨rfl, _, rfl, ?_⟩
        unfold restF
        simp only [hoo, if_true]
        first | exact ⟨rfl, hX.rest (a := 112) (by omega) hoi⟩ | exact ⟨trivial, hX.rest (a := 112) (by omega) hoi⟩
      · exact absurd c14 (by omega)
  · subst hk0
    have hpl := hL.p143
    have hcl := hL.c166
    have g1 : SH[142]? = some (3, 3) := rfl
    have g2 : SH[143]? = some (5, 9) := rfl
    have g3 : SH[166]? = some (0, 7) := rfl
    have f1 := hL.r142_1
    have f2 := hL.r142_2
    rcases hoo : gI1 G with _ | ρ
    · have z0 : μ.1 142 0 = 0 := by have h := hi1; rw [hoo] at h; exact h
      refine AMet.of (by decide) rfl (by decide) rfl ?_
      refine r_aload_n dX11_restore_0 rfl ?_
      refine r_iload_n dX11_restore_1 rfl ?_
      refine r_cV1F1 dX11_restore_2 ml_X11_297 yl_X11_imageAt ⟨rfl, rfl⟩ (by assumption) ⟨_, rfl⟩ rfl rfl rfl rfl (x_imageAt1 hX) ?_
      refine r_astore_n dX11_restore_5 rfl ?_
      refine r_aload_n dX11_restore_6 rfl ?_
      refine r_ifnull dX11_restore_7 ?_
      refine r_aload_n dX11_restore_10 rfl ?_
      refine r_getI dX11_restore_11 fl_X11_301 rfl (by assumption) ?_
      refine q_if_ne (tgt := 19) dX11_restore_14 rfl (by omega) (fun c14 => ?_) (fun c14 => ?_)
      · exact absurd z0 c14
      · refine r_iconst dX11_restore_17 ?_
        refine r_zreturn dX11_restore_18 (by first | exact Or.inl rfl | exact Or.inr rfl | exact b2i_01 _ | omega) rfl rfl rfl ?_
        refine ⟨rfl, _, rfl, ?_⟩
        unfold restF
        simp only [hoo, show ¬ ((1 : Int) = 0) by decide, if_false, if_true]
        first | exact ⟨rfl, XS.rf hX⟩ | exact ⟨trivial, XS.rf hX⟩
    · have hoi : ImgX μ 142 (some ρ) := by rw [← hoo]; exact hi1
      have z0 : μ.1 142 0 = 1 := hoi.1
      refine AMet.of (by decide) rfl (by decide) rfl ?_
      refine r_aload_n dX11_restore_0 rfl ?_
      refine r_iload_n dX11_restore_1 rfl ?_
      refine r_cV1F1 dX11_restore_2 ml_X11_297 yl_X11_imageAt ⟨rfl, rfl⟩ (by assumption) ⟨_, rfl⟩ rfl rfl rfl rfl (x_imageAt1 hX) ?_
      refine r_astore_n dX11_restore_5 rfl ?_
      refine r_aload_n dX11_restore_6 rfl ?_
      refine r_ifnull dX11_restore_7 ?_
      refine r_aload_n dX11_restore_10 rfl ?_
      refine r_getI dX11_restore_11 fl_X11_301 rfl (by assumption) ?_
      refine q_if_ne (tgt := 19) dX11_restore_14 rfl (by omega) (fun c14 => ?_) (fun c14 => ?_)
      · refine r_aload_n dX11_restore_19 rfl ?_
        refine r_getR dX11_restore_20 fl_X11_19 rfl (by assumption) (by assumption) ?_
        refine r_aload_n dX11_restore_23 rfl ?_
        refine r_getR dX11_restore_24 fl_X11_305 rfl (by assumption) (by assumption) ?_
        refine r_cV1F0 dX11_restore_27 ml_X11_308 yl_X5_copyFrom ⟨rfl, rfl⟩ (by assumption) ⟨_, rfl⟩ rfl rfl rfl rfl (c_copyP (p := p) (o := 143) hIP hpl) ?_
        refine r_aload_n dX11_restore_30 rfl ?_
        refine r_getR dX11_restore_31 fl_X11_29 rfl (by assumption) (by assumption) ?_
        refine r_aload_n dX11_restore_34 rfl ?_
        refine r_getR dX11_restore_35 fl_X11_311 rfl (by assumption) (by assumption) ?_
        refine r_cV1F0 dX11_restore_38 ml_X11_314 yl_X0_copyFrom ⟨rfl, rfl⟩ (by assumption) ⟨_, rfl⟩ rfl rfl rfl rfl (c_copyC (c := c) (o := 166) hIC hcl) ?_
        refine r_aload_n dX11_restore_41 rfl ?_
        refine r_getR dX11_restore_42 fl_X11_39 rfl (by assumption) (by assumption) ?_
        refine r_iconst dX11_restore_45 ?_
        refine r_putI dX11_restore_46 fl_X11_293 (by assumption) ?_
        refine r_aload_n dX11_restore_49 rfl ?_
        refine r_getR dX11_restore_50 fl_X11_56 rfl (by assumption) (by assumption) ?_
        refine r_cV0F0 dX11_restore_53 ml_X11_283 yl_X8_forget ⟨rfl, rfl⟩ (by assumption) ⟨_, rfl⟩ rfl rfl rfl rfl (c_forget) ?_
        refine r_iconst dX11_restore_56 ?_
        refine r_zreturn dX11_restore_57 (by first | exact Or.inl rfl | exact Or.inr rfl | exact b2i_01 _ | omega) rfl rfl rfl ?_
        refine ⟨rfl, _, rfl, ?_⟩
        unfold restF
        simp only [hoo, show ¬ ((1 : Int) = 0) by decide, if_false, if_true]
        first | exact ⟨rfl, hX.rest (a := 142) (by omega) hoi⟩ | exact ⟨trivial, hX.rest (a := 142) (by omega) hoi⟩
      · exact absurd c14 (by omega)
  · refine AMet.of (by decide) rfl (by decide) rfl ?_
    refine r_aload_n dX11_restore_0 rfl ?_
    refine r_iload_n dX11_restore_1 rfl ?_
    refine r_cV1F1 dX11_restore_2 ml_X11_297 yl_X11_imageAt ⟨rfl, rfl⟩ (by assumption) ⟨_, rfl⟩ rfl rfl rfl rfl (x_imageAtN hX hk hk0) ?_
    refine r_astore_nN dX11_restore_5 rfl ?_
    refine r_aload_nN dX11_restore_6 rfl ?_
    refine r_ifnullN (tgt := 17) dX11_restore_7 rfl ?_
    refine r_iconst dX11_restore_17 ?_
    refine r_zreturn dX11_restore_18 (by first | exact Or.inl rfl | exact Or.inr rfl | exact b2i_01 _ | omega) rfl rfl rfl ?_
    refine ⟨rfl, _, rfl, ?_⟩
    unfold restF
    rw [if_neg hk0.1, if_neg hk0.2]
    exact ⟨rfl, XS.rf hX⟩
