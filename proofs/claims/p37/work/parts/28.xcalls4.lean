/-! 28.xcalls4: taken from whole (wip/p37/port.py) -/
variable {n_ : Sh}
theorem InX.tap {μ μ2 : Mem} {G : Gh} {p pd c cd : Nat} (hX : InX n_ μ G p pd c cd) (hk : Kp (fun q => q ≠ 2 ∧ q ≠ 3) μ μ2) (hR : μ2.2.2 = μ.2.2) {q : Tq} (hT : TapX μ2 q.1 q.2) : XS n_ μ μ2 G (setTap G q) p pd c cd := by
  obtain ⟨hL, hPos, ⟨hP, hC, hw, h99⟩, hH, ⟨hi0, hi1⟩, -, hFk, hTm⟩ := id hX
  have hpc := hPos.pc
  exact ⟨⟨by rw [hR]; exact hL, by rw [hR]; exact hPos, ⟨hP.mono (hk.mono (fun q hq => by (try dsimp only at *); omega)), hC.mono (hk.mono (fun q hq => by (try dsimp only at *); omega)), hw, h99⟩, hH.mono (hk.mono (fun q hq => by (try dsimp only at *); omega)), ⟨hi0.mono (hk.mono (fun q hq => by (try dsimp only at *); omega)), hi1.mono (hk.mono (fun q hq => by (try dsimp only at *); omega))⟩, hT, by rw [(hk 0 (by (try dsimp only); omega)).1]; exact hFk, hTm.mono (congrFun (hk 182 (by (try dsimp only); omega)).1 1) (hk 183 (by (try dsimp only); omega)).1⟩, hk.mono (fun q hq => by (try dsimp only at *); omega), Or.inl ⟨hk.mono (fun q hq => by (try dsimp only at *); omega), fun _ _ _ _ => rfl⟩, hR⟩
theorem XS.tr {a b c0 : Mem} {G H K : Gh} {p pd c cd : Nat} (h1 : XS n_ a b G H p pd c cd) (h2 : XS n_ b c0 H K p pd c cd) : XS n_ a c0 G K p pd c cd := by
  refine ⟨h2.1, h1.2.1.tr h2.2.1, ?_, h2.2.2.2.trans h1.2.2.2⟩
  rcases h2.2.2.1 with h | h
  · rcases h1.2.2.1 with h3 | h3
    · exact Or.inl ⟨h3.1.tr h.1, fun j j1 j2 j3 => (h.2 j j1 j2 j3).trans (h3.2 j j1 j2 j3)⟩
    · exact Or.inr ⟨(congrFun (h.1 172 (by (try dsimp only); omega)).1 0).trans h3.1, h3.2.tr (h.1.mono (fun q hq => by (try dsimp only at *); omega))⟩
  · exact Or.inr ⟨h.1, h1.2.2.1.kp.tr h.2⟩
theorem TapX.put {μ : Mem} {q : Tq} (h : TapX μ q.1 q.2) (hl : q.2 < 540) {y : Int} (hy : 0 ≤ y ∧ y ≤ 255) : TapX (setI (setI μ 3 q.2 y) 2 1 (q.2 + 1)) (put1 q y).1 (put1 q y).2 := by
  obtain ⟨t1, t2, t3⟩ := h
  refine ⟨sI_at, by rw [put1_l]; omega, fun i i0 i1 => ?_⟩
  rw [put1_l] at i1
  rw [sI_ne (by omega)]
  show _ = rset q.1 q.2 y i ∧ 0 ≤ rset q.1 q.2 y i ∧ rset q.1 q.2 y i ≤ 255
  by_cases e : i = q.2
  · subst e
    rw [sI_at, rset_eq]
    exact ⟨rfl, hy⟩
  · rw [sI_nj e, rset_ne e]
    exact t3 i i0 (by omega)
theorem x_addBytes {μ : Mem} {q : Tq} (hL : Lay μ.2.2) (hT : TapX μ q.1 q.2) (hl : q.2 + 4 ≤ 540) {v : Int} (hv : -2147483648 ≤ v ∧ v < 2147483648)  : VMet yX9_addBytes gX9_addBytes (SH n_) [vR 2, vI v] μ (fun μ2 => TapX μ2 (put4 q v).1 (put4 q v).2 ∧ Kp (fun q => q ≠ 2 ∧ q ≠ 3) μ μ2 ∧ μ2.2 = μ.2) := by
  have x2 : (SH n_)[2]? = some (8, 7) := rfl
  have x3 : (SH n_)[3]? = some (20, 540) := rfl
  have r20 := hL.r2_0
  have loop : ∀ (f n : Nat) (k : Int) (q0 : Tq) (m1 : Mem), n < f → 0 ≤ k → k + n = 4 → TapX m1 q0.1 q0.2 → q0.2 + n ≤ 540 → Kp (fun q => q ≠ 2 ∧ q ≠ 3) μ m1 → m1.2 = μ.2 → AW gX9_addBytes (SH n_) m1 0 0 3 [some (vR 2), some (vI v), some (vI (24 - 8 * k))] [] (fun r2 sh2 μ2 => r2 = none ∧ sh2 = (SH n_) ∧ TapX μ2 (fld (fun k q => put1 q (byt v (24 - 8 * k))) n k q0).1 (fld (fun k q => put1 q (byt v (24 - 8 * k))) n k q0).2 ∧ Kp (fun q => q ≠ 2 ∧ q ≠ 3) μ μ2 ∧ μ2.2 = μ.2) := by
    intro f
    induction f with
    | zero => intro n; intros; omega
    | succ f ih =>
      intro n k q0 m1 hf hk hn2 hT1 hl1 hkp hR
      have e7 : m1.1 2 1 = q0.2 := hT1.1
      have e8 := hT1.2.1
      have r20b : m1.2.2 2 0 = some 3 := by rw [hR]; exact r20
      refine r_iload_n dX9_addBytes_3 rfl ?_
      refine q_if_lt (tgt := 51) dX9_addBytes_4 rfl (by omega) (fun c4 => ?_) (fun c4 => ?_)
      · refine r_return dX9_addBytes_51 rfl rfl rfl ?_
        obtain rfl : n = 0 := by omega
        exact ⟨rfl, rfl, hT1, hkp, hR⟩
      · refine r_aload_n dX9_addBytes_7 rfl ?_
        refine r_getI dX9_addBytes_8 fl_X9_15 rfl (by assumption) ?_
        (try rw [e7])
        refine r_aload_n dX9_addBytes_11 rfl ?_
        refine r_getR dX9_addBytes_12 fl_X9_9 rfl (by assumption) (by assumption) ?_
        refine r_alen dX9_addBytes_15 (by assumption) (by decide) ?_
        refine q_icmp_ge (tgt := 45) dX9_addBytes_16 rfl (by omega) (by omega) (fun c16 => ?_) (fun c16 => ?_)
        · exact absurd c16 (by omega)
        · refine r_aload_n dX9_addBytes_19 rfl ?_
          refine r_getR dX9_addBytes_20 fl_X9_9 rfl (by assumption) (by assumption) ?_
          refine r_aload_n dX9_addBytes_23 rfl ?_
          refine r_getI dX9_addBytes_24 fl_X9_15 rfl (by assumption) ?_
          (try rw [e7])
          refine r_iload_n dX9_addBytes_27 rfl ?_
          refine r_iload_n dX9_addBytes_28 rfl ?_
          refine r_iushr dX9_addBytes_29 ?_
          refine r_sipush dX9_addBytes_30 (by decide) ?_
          refine r_iand dX9_addBytes_33 ?_
          refine r_iast dX9_addBytes_34 (by assumption) rfl (by omega) ?_
          have e9 : (setI m1 3 q0.2 (iand (iushr v (24 - 8 * k)) 255)).1 2 1 = q0.2 := by rw [sI_ne (by omega)]; exact e7
          refine r_aload_n dX9_addBytes_35 rfl ?_
          refine r_dup dX9_addBytes_36 rfl ?_
          refine r_getI dX9_addBytes_37 fl_X9_15 rfl (by assumption) ?_
          (try rw [e7])
          rw [e9]
          refine r_iconst dX9_addBytes_40 ?_
          refine r_iadd dX9_addBytes_41 ?_
          refine r_putI dX9_addBytes_42 fl_X9_15 (by assumption) ?_
          refine r_iinc dX9_addBytes_45 rfl rfl ?_
          refine r_goto (tgt := 3) dX9_addBytes_48 rfl ?_
          obtain ⟨q, rfl⟩ : ∃ q, n = q + 1 := ⟨n - 1, by omega⟩
          refine AW.mono (show AW gX9_addBytes (SH n_) _ 0 0 3 [some (vR 2), some (vI v), some (vI (24 - 8 * k + -8))] [] _ by
            rw [show (24 : Int) - 8 * k + -8 = 24 - 8 * (k + 1) by omega]
            exact ih q (k + 1) (put1 q0 (byt v (24 - 8 * k))) _ (by omega) (by omega) (by omega) (hT1.put (by omega) (byt_rng v _)) (by rw [put1_l]; omega) ((hkp.sI (by (try dsimp only); omega)).sI (by (try dsimp only); omega)) hR) ?_
          rintro r sh2 μ2 ⟨rfl, h3⟩
          exact ⟨rfl, h3⟩
  refine AMet.of (by decide) rfl (by decide) rfl ?_
  refine r_bipush dX9_addBytes_0 (by decide) ?_
  refine r_istore_n dX9_addBytes_2 rfl ?_
  exact loop 5 4 0 q μ (by omega) (by omega) (by omega) hT hl (Kp.rf _ _) rfl
theorem x_feed {μ : Mem} {G : Gh} {p pd c cd : Nat} (hX : InX n_ μ G p pd c cd) {v1 v2 v3 v4 v5 : Int} (hv1 : -2147483648 ≤ v1 ∧ v1 < 2147483648) (hv2 : -2147483648 ≤ v2 ∧ v2 < 2147483648) (hv3 : -2147483648 ≤ v3 ∧ v3 < 2147483648) (hv4 : -2147483648 ≤ v4 ∧ v4 < 2147483648) (hv5 : -2147483648 ≤ v5 ∧ v5 < 2147483648)  : IMet yX11_feed gX11_feed (SH n_) [vR 0, vI v1, vI v2, vI v3, vI v4, vI v5] μ (fun x μ2 => x = (feedF G v1 v2 v3 v4 v5).1 ∧ XS n_ μ μ2 G (feedF G v1 v2 v3 v4 v5).2 p pd c cd) := by
  obtain ⟨hL, hPos, ⟨hP, hC, hw, h99⟩, hH, ⟨hi0, hi1⟩, hT, hFk, hTm⟩ := id hX
  obtain ⟨hp0, hc0, r2, r3, r4, r5⟩ := id hPos
  have rr0 := hL.r0_0
  have rr6 := hL.r0_6
  have rr7 := hL.r0_7
  have rr8 := hL.r0_8
  have rr9 := hL.r0_9
  have rr10 := hL.r0_10
  have rt := hL.r1_0
  have x0 : (SH n_)[0]? = some (10, 11) := rfl
  have x1 : (SH n_)[1]? = some (6, 4) := rfl
  have x2 : (SH n_)[2]? = some (8, 7) := rfl
  have x62 : (SH n_)[62]? = some (2, 3) := rfl
  have x172 : (SH n_)[172]? = some (7, 15) := rfl
  obtain ⟨hIC, e0, e5, e51, e52, eC⟩ := id hC
  obtain ⟨h0, h1, h2, h3, h4, h6, s1, s2, s3, s4, s5⟩ := id hIC
  obtain ⟨hIP, p0, p1, p2, p3, p4, pb, hF, hV⟩ := id hP
  obtain ⟨i0, i5, i6, i7, i8, j1, j2, hIF0, hIV0⟩ := id hIP
  have hIF1 := hIF0.1
  have hIV1 := hIV0.1
  have hn := hw.1.1
  unfold WFn at hn
  have hwl := hw.wl
  have hc5 : c = 50 ∨ c = 56 := by omega
  have t1 := hT.1
  have t2 := hT.2.1
  refine AMet.of (by decide) rfl (by decide) rfl ?_
  refine r_aload_n dX11_feed_0 rfl ?_
  refine r_getR dX11_feed_1 fl_X11_10 rfl (by assumption) (by assumption) ?_
  refine r_getR dX11_feed_4 fl_X11_67 rfl (by assumption) (by assumption) ?_
  refine r_astore dX11_feed_7 rfl ?_
  refine r_aload dX11_feed_9 rfl ?_
  refine r_getI dX11_feed_11 fl_X11_71 rfl (by assumption) ?_
  rw [t1]
  refine r_bipush dX11_feed_14 (by decide) ?_
  refine r_iadd dX11_feed_16 ?_
  refine r_sipush dX11_feed_17 (by decide) ?_
  refine q_icmp_le (tgt := 25) dX11_feed_20 rfl (by omega) (by omega) (fun c20 => ?_) (fun c20 => ?_)
  · refine r_aload dX11_feed_25 rfl ?_
    refine r_iload_n dX11_feed_27 rfl ?_
    refine r_cV1N dX11_feed_28 ml_X11_77 yl_X9_addBytes ⟨rfl, rfl⟩ (by assumption) ⟨_, rfl⟩ rfl rfl rfl rfl (x_addBytes (μ := μ) (q := (gTp G, gTl G)) hL hT (by (try simp only [put4_l]); omega) hv1) ?_
    rintro μ0 ⟨hT0, hk0, hR0⟩
    have hL0 : Lay μ0.2.2 := by rw [hR0]; exact hL
    refine r_aload dX11_feed_31 rfl ?_
    refine r_iload_n dX11_feed_33 rfl ?_
    refine r_cV1N dX11_feed_34 ml_X11_77 yl_X9_addBytes ⟨rfl, rfl⟩ (by assumption) ⟨_, rfl⟩ rfl rfl rfl rfl (x_addBytes (μ := μ0) (q := (put4 (gTp G, gTl G) v1)) hL0 hT0 (by (try simp only [put4_l]); omega) hv2) ?_
    rintro μ1 ⟨hT1, hk1, hR1⟩
    have hL1 : Lay μ1.2.2 := by rw [hR1]; exact hL0
    refine r_aload dX11_feed_37 rfl ?_
    refine r_iload_n dX11_feed_39 rfl ?_
    refine r_cV1N dX11_feed_40 ml_X11_77 yl_X9_addBytes ⟨rfl, rfl⟩ (by assumption) ⟨_, rfl⟩ rfl rfl rfl rfl (x_addBytes (μ := μ1) (q := (put4 (put4 (gTp G, gTl G) v1) v2)) hL1 hT1 (by (try simp only [put4_l]); omega) hv3) ?_
    rintro μ2 ⟨hT2, hk2, hR2⟩
    have hL2 : Lay μ2.2.2 := by rw [hR2]; exact hL1
    refine r_aload dX11_feed_43 rfl ?_
    refine r_iload dX11_feed_45 rfl ?_
    refine r_cV1N dX11_feed_47 ml_X11_77 yl_X9_addBytes ⟨rfl, rfl⟩ (by assumption) ⟨_, rfl⟩ rfl rfl rfl rfl (x_addBytes (μ := μ2) (q := (put4 (put4 (put4 (gTp G, gTl G) v1) v2) v3)) hL2 hT2 (by (try simp only [put4_l]); omega) hv4) ?_
    rintro μ3 ⟨hT3, hk3, hR3⟩
    have hL3 : Lay μ3.2.2 := by rw [hR3]; exact hL2
    refine r_aload dX11_feed_50 rfl ?_
    refine r_iload dX11_feed_52 rfl ?_
    refine r_cV1N dX11_feed_54 ml_X11_77 yl_X9_addBytes ⟨rfl, rfl⟩ (by assumption) ⟨_, rfl⟩ rfl rfl rfl rfl (x_addBytes (μ := μ3) (q := (put4 (put4 (put4 (put4 (gTp G, gTl G) v1) v2) v3) v4)) hL3 hT3 (by (try simp only [put4_l]); omega) hv5) ?_
    rintro μ4 ⟨hT4, hk4, hR4⟩
    have hL4 : Lay μ4.2.2 := by rw [hR4]; exact hL3
    refine r_aload dX11_feed_57 rfl ?_
    refine r_getI dX11_feed_59 fl_X11_71 rfl (by assumption) ?_
    rw [show μ4.1 2 1 = gTl G + 20 by rw [hT4.1]; simp only [put4_l]; omega]
    refine r_ireturn dX11_feed_62 rfl rfl rfl ?_
    refine ⟨rfl, _, rfl, ?_⟩
    unfold feedF
    rw [if_neg (by omega)]
    exact ⟨rfl, hX.tap ((((hk0.tr hk1).tr hk2).tr hk3).tr hk4) (congrArg Prod.snd (hR4.trans (hR3.trans (hR2.trans (hR1.trans hR0))))) hT4⟩
  · refine r_iconst dX11_feed_23 ?_
    refine r_ireturn dX11_feed_24 rfl rfl rfl ?_
    refine ⟨rfl, _, rfl, ?_⟩
    unfold feedF
    rw [if_pos (by omega)]
    exact ⟨rfl, XS.rf hX⟩
theorem x_end {μ : Mem} {G : Gh} {p pd c cd : Nat} (hX : InX n_ μ G p pd c cd) {n : Int} (hn0 : -2147483648 ≤ n ∧ n < 2147483648)  : IMet yX11_end gX11_end (SH n_) [vR 0, vI n] μ (fun x μ2 => x = (endF G n).1 ∧ XS n_ μ μ2 G (endF G n).2 p pd c cd) := by
  obtain ⟨hL, hPos, ⟨hP, hC, hw, h99⟩, hH, ⟨hi0, hi1⟩, hT, hFk, hTm⟩ := id hX
  obtain ⟨hp0, hc0, r2, r3, r4, r5⟩ := id hPos
  have rr0 := hL.r0_0
  have rr6 := hL.r0_6
  have rr7 := hL.r0_7
  have rr8 := hL.r0_8
  have rr9 := hL.r0_9
  have rr10 := hL.r0_10
  have rt := hL.r1_0
  have x0 : (SH n_)[0]? = some (10, 11) := rfl
  have x1 : (SH n_)[1]? = some (6, 4) := rfl
  have x2 : (SH n_)[2]? = some (8, 7) := rfl
  have x62 : (SH n_)[62]? = some (2, 3) := rfl
  have x172 : (SH n_)[172]? = some (7, 15) := rfl
  obtain ⟨hIC, e0, e5, e51, e52, eC⟩ := id hC
  obtain ⟨h0, h1, h2, h3, h4, h6, s1, s2, s3, s4, s5⟩ := id hIC
  obtain ⟨hIP, p0, p1, p2, p3, p4, pb, hF, hV⟩ := id hP
  obtain ⟨i0, i5, i6, i7, i8, j1, j2, hIF0, hIV0⟩ := id hIP
  have hIF1 := hIF0.1
  have hIV1 := hIV0.1
  have hn := hw.1.1
  unfold WFn at hn
  have hwl := hw.wl
  have hc5 : c = 50 ∨ c = 56 := by omega
  have t1 := hT.1
  have t2 := hT.2.1
  refine AMet.of (by decide) rfl (by decide) rfl ?_
  refine r_iload_n dX11_end_0 rfl ?_
  refine q_if_lt (tgt := 18) dX11_end_1 rfl (by omega) (fun c1 => ?_) (fun c1 => ?_)
  · refine r_iconst dX11_end_18 ?_
    refine r_zreturn dX11_end_19 (by first | exact Or.inl rfl | exact Or.inr rfl | exact b2i_01 _ | omega) rfl rfl rfl ?_
    refine ⟨rfl, _, rfl, ?_⟩
    unfold endF
    rw [if_neg (by omega)]
    exact ⟨rfl, XS.rf hX⟩
  · refine r_iload_n dX11_end_4 rfl ?_
    refine r_aload_n dX11_end_5 rfl ?_
    refine r_getR dX11_end_6 fl_X11_10 rfl (by assumption) (by assumption) ?_
    refine r_getR dX11_end_9 fl_X11_67 rfl (by assumption) (by assumption) ?_
    refine r_getI dX11_end_12 fl_X11_71 rfl (by assumption) ?_
    rw [t1]
    refine q_icmp_le (tgt := 20) dX11_end_15 rfl (by omega) (by omega) (fun c15 => ?_) (fun c15 => ?_)
    · refine r_aload_n dX11_end_20 rfl ?_
      refine r_getR dX11_end_21 fl_X11_10 rfl (by assumption) (by assumption) ?_
      refine r_getR dX11_end_24 fl_X11_67 rfl (by assumption) (by assumption) ?_
      refine r_iload_n dX11_end_27 rfl ?_
      refine r_putI dX11_end_28 fl_X11_71 (by assumption) ?_
      refine r_iconst dX11_end_31 ?_
      refine r_zreturn dX11_end_32 (by first | exact Or.inl rfl | exact Or.inr rfl | exact b2i_01 _ | omega) rfl rfl rfl ?_
      refine ⟨rfl, _, rfl, ?_⟩
      unfold endF
      rw [if_pos (by omega)]
      exact ⟨rfl, hX.tap (q := (gTp G, n)) ((Kp.rf _ μ).sI (by (try dsimp only); omega)) rfl ⟨sI_at, by (try dsimp only); omega, fun i i0 i1 => by rw [sI_ne (by omega)]; exact hT.2.2 i i0 (Int.lt_of_lt_of_le (show i < n from i1) (by omega))⟩⟩
    · refine r_iconst dX11_end_18 ?_
      refine r_zreturn dX11_end_19 (by first | exact Or.inl rfl | exact Or.inr rfl | exact b2i_01 _ | omega) rfl rfl rfl ?_
      refine ⟨rfl, _, rfl, ?_⟩
      unfold endF
      rw [if_neg (by omega)]
      exact ⟨rfl, XS.rf hX⟩
theorem x_fault {μ : Mem} {G : Gh} {p pd c cd : Nat} (hX : InX n_ μ G p pd c cd)  : FMet yX11_fault gX11_fault (SH n_) [vR 0] μ (some (vI (gFk G))) μ := by
  obtain ⟨hL, hPos, ⟨hP, hC, hw, h99⟩, hH, ⟨hi0, hi1⟩, hT, hFk, hTm⟩ := id hX
  obtain ⟨hp0, hc0, r2, r3, r4, r5⟩ := id hPos
  have rr0 := hL.r0_0
  have rr6 := hL.r0_6
  have rr7 := hL.r0_7
  have rr8 := hL.r0_8
  have rr9 := hL.r0_9
  have rr10 := hL.r0_10
  have rt := hL.r1_0
  have x0 : (SH n_)[0]? = some (10, 11) := rfl
  have x1 : (SH n_)[1]? = some (6, 4) := rfl
  have x2 : (SH n_)[2]? = some (8, 7) := rfl
  have x62 : (SH n_)[62]? = some (2, 3) := rfl
  have x172 : (SH n_)[172]? = some (7, 15) := rfl
  obtain ⟨hIC, e0, e5, e51, e52, eC⟩ := id hC
  obtain ⟨h0, h1, h2, h3, h4, h6, s1, s2, s3, s4, s5⟩ := id hIC
  obtain ⟨hIP, p0, p1, p2, p3, p4, pb, hF, hV⟩ := id hP
  obtain ⟨i0, i5, i6, i7, i8, j1, j2, hIF0, hIV0⟩ := id hIP
  have hIF1 := hIF0.1
  have hIV1 := hIV0.1
  have hn := hw.1.1
  unfold WFn at hn
  have hwl := hw.wl
  have hc5 : c = 50 ∨ c = 56 := by omega
  refine AMet.of (by decide) rfl (by decide) rfl ?_
  refine r_aload_n dX11_fault_0 rfl ?_
  refine r_getI dX11_fault_1 fl_X11_88 rfl (by assumption) ?_
  refine r_ireturn dX11_fault_4 rfl rfl rfl ?_
  exact ⟨rI hFk.1, rfl, rfl⟩
theorem x_count {μ : Mem} {G : Gh} {p pd c cd : Nat} (hX : InX n_ μ G p pd c cd) {w : Int} (hw0 : -2147483648 ≤ w ∧ w < 2147483648)  : FMet yX11_count gX11_count (SH n_) [vR 0, vI w] μ (some (vI (countF (gRow G) (gTl G) w))) μ := by
  obtain ⟨hL, hPos, ⟨hP, hC, hw, h99⟩, hH, ⟨hi0, hi1⟩, hT, hFk, hTm⟩ := id hX
  obtain ⟨hp0, hc0, r2, r3, r4, r5⟩ := id hPos
  have rr0 := hL.r0_0
  have rr6 := hL.r0_6
  have rr7 := hL.r0_7
  have rr8 := hL.r0_8
  have rr9 := hL.r0_9
  have rr10 := hL.r0_10
  have rt := hL.r1_0
  have x0 : (SH n_)[0]? = some (10, 11) := rfl
  have x1 : (SH n_)[1]? = some (6, 4) := rfl
  have x2 : (SH n_)[2]? = some (8, 7) := rfl
  have x62 : (SH n_)[62]? = some (2, 3) := rfl
  have x172 : (SH n_)[172]? = some (7, 15) := rfl
  obtain ⟨hIC, e0, e5, e51, e52, eC⟩ := id hC
  obtain ⟨h0, h1, h2, h3, h4, h6, s1, s2, s3, s4, s5⟩ := id hIC
  obtain ⟨hIP, p0, p1, p2, p3, p4, pb, hF, hV⟩ := id hP
  obtain ⟨i0, i5, i6, i7, i8, j1, j2, hIF0, hIV0⟩ := id hIP
  have hIF1 := hIF0.1
  have hIV1 := hIV0.1
  have hn := hw.1.1
  unfold WFn at hn
  have hwl := hw.wl
  have hc5 : c = 50 ∨ c = 56 := by omega
  obtain ⟨hIV, v0, vt, v5, v8, vi⟩ := id hV
  obtain ⟨hIF, kf0, kh, kf4, ks, kf9, kj⟩ := id hF
  have hlr : ∀ k, 0 ≤ k → k < μ.1 c 0 → -1 ≤ μ.1 (c + 4) k ∧ μ.1 (c + 4) k < 100 := by
    intro k k0 k1
    rw [e0] at k1
    have := (hw.2.2.1 k k0 k1).2.2.1
    rw [(eC k k0 k1).2.2.1]
    omega
  refine AMet.of (by decide) rfl (by decide) rfl ?_
  refine r_iload_n dX11_count_0 rfl ?_
  rcases (show (w < 0 ∨ 10 < w) ∨ w = 0 ∨ w = 1 ∨ w = 2 ∨ w = 3 ∨ w = 4 ∨ w = 5 ∨ w = 6 ∨ w = 7 ∨ w = 8 ∨ w = 9 ∨ w = 10 by omega) with s1 | s1 | s1 | s1 | s1 | s1 | s1 | s1 | s1 | s1 | s1 | s1
  · refine r_tableOut (tgt := 169) dX11_count_1 (by omega) s1 rfl ?_
    refine r_iconst dX11_count_169 ?_
    refine r_ireturn dX11_count_170 rfl rfl rfl ?_
    refine ⟨rI ?_, rfl, rfl⟩
    unfold countF
    first
      | (rw [if_neg (by omega), if_neg (by omega), if_neg (by omega)]; done)
      | (rw [if_neg (by omega), if_pos (by omega)]; exact hT.1)
      | (rw [if_pos (by omega)]; assumption)
  · subst s1
    refine r_tableIn (tgt := 60) dX11_count_1 (by decide) (by decide) (by decide) rfl rfl ?_
    refine r_aload_n dX11_count_60 rfl ?_
    refine r_getR dX11_count_61 fl_X11_19 rfl (by assumption) (by assumption) ?_
    refine r_getR dX11_count_64 fl_X11_97 rfl (by assumption) (by assumption) ?_
    refine r_getI dX11_count_67 fl_X11_113 rfl (by assumption) ?_
    refine r_ireturn dX11_count_70 rfl rfl rfl ?_
    refine ⟨rI ?_, rfl, rfl⟩
    unfold countF
    first
      | (rw [if_neg (by omega), if_neg (by omega), if_neg (by omega)]; done)
      | (rw [if_neg (by omega), if_pos (by omega)]; exact hT.1)
      | (rw [if_pos (by omega)]; assumption)
  · subst s1
    refine r_tableIn (tgt := 71) dX11_count_1 (by decide) (by decide) (by decide) rfl rfl ?_
    refine r_aload_n dX11_count_71 rfl ?_
    refine r_getR dX11_count_72 fl_X11_19 rfl (by assumption) (by assumption) ?_
    refine r_getR dX11_count_75 fl_X11_97 rfl (by assumption) (by assumption) ?_
    refine r_getI dX11_count_78 fl_X11_101 rfl (by assumption) ?_
    refine r_ireturn dX11_count_81 rfl rfl rfl ?_
    refine ⟨rI ?_, rfl, rfl⟩
    unfold countF
    first
      | (rw [if_neg (by omega), if_neg (by omega), if_neg (by omega)]; done)
      | (rw [if_neg (by omega), if_pos (by omega)]; exact hT.1)
      | (rw [if_pos (by omega)]; assumption)
  · subst s1
    refine r_tableIn (tgt := 82) dX11_count_1 (by decide) (by decide) (by decide) rfl rfl ?_
    refine r_aload_n dX11_count_82 rfl ?_
    refine r_getR dX11_count_83 fl_X11_19 rfl (by assumption) (by assumption) ?_
    refine r_getR dX11_count_86 fl_X11_97 rfl (by assumption) (by assumption) ?_
    refine r_getI dX11_count_89 fl_X11_116 rfl (by assumption) ?_
    refine r_ireturn dX11_count_92 rfl rfl rfl ?_
    refine ⟨rI ?_, rfl, rfl⟩
    unfold countF
    first
      | (rw [if_neg (by omega), if_neg (by omega), if_neg (by omega)]; done)
      | (rw [if_neg (by omega), if_pos (by omega)]; exact hT.1)
      | (rw [if_pos (by omega)]; assumption)
  · subst s1
    refine r_tableIn (tgt := 93) dX11_count_1 (by decide) (by decide) (by decide) rfl rfl ?_
    refine r_aload_n dX11_count_93 rfl ?_
    refine r_getR dX11_count_94 fl_X11_19 rfl (by assumption) (by assumption) ?_
    refine r_getI dX11_count_97 fl_X11_119 rfl (by assumption) ?_
    refine r_ireturn dX11_count_100 rfl rfl rfl ?_
    refine ⟨rI ?_, rfl, rfl⟩
    unfold countF
    first
      | (rw [if_neg (by omega), if_neg (by omega), if_neg (by omega)]; done)
      | (rw [if_neg (by omega), if_pos (by omega)]; exact hT.1)
      | (rw [if_pos (by omega)]; assumption)
  · subst s1
    refine r_tableIn (tgt := 101) dX11_count_1 (by decide) (by decide) (by decide) rfl rfl ?_
    refine r_aload_n dX11_count_101 rfl ?_
    refine r_getR dX11_count_102 fl_X11_19 rfl (by assumption) (by assumption) ?_
    refine r_getR dX11_count_105 fl_X11_122 rfl (by assumption) (by assumption) ?_
    refine r_getI dX11_count_108 fl_X11_126 rfl (by assumption) ?_
    refine r_ireturn dX11_count_111 rfl rfl rfl ?_
    refine ⟨rI ?_, rfl, rfl⟩
    unfold countF
    first
      | (rw [if_neg (by omega), if_neg (by omega), if_neg (by omega)]; done)
      | (rw [if_neg (by omega), if_pos (by omega)]; exact hT.1)
      | (rw [if_pos (by omega)]; assumption)
  · subst s1
    refine r_tableIn (tgt := 112) dX11_count_1 (by decide) (by decide) (by decide) rfl rfl ?_
    refine r_aload_n dX11_count_112 rfl ?_
    refine r_getR dX11_count_113 fl_X11_19 rfl (by assumption) (by assumption) ?_
    refine r_getR dX11_count_116 fl_X11_122 rfl (by assumption) (by assumption) ?_
    refine r_getI dX11_count_119 fl_X11_131 rfl (by assumption) ?_
    refine r_ireturn dX11_count_122 rfl rfl rfl ?_
    refine ⟨rI ?_, rfl, rfl⟩
    unfold countF
    first
      | (rw [if_neg (by omega), if_neg (by omega), if_neg (by omega)]; done)
      | (rw [if_neg (by omega), if_pos (by omega)]; exact hT.1)
      | (rw [if_pos (by omega)]; assumption)
  · subst s1
    refine r_tableIn (tgt := 123) dX11_count_1 (by decide) (by decide) (by decide) rfl rfl ?_
    refine r_aload_n dX11_count_123 rfl ?_
    refine r_getR dX11_count_124 fl_X11_19 rfl (by assumption) (by assumption) ?_
    refine r_getR dX11_count_127 fl_X11_122 rfl (by assumption) (by assumption) ?_
    refine r_getI dX11_count_130 fl_X11_134 rfl (by assumption) ?_
    refine r_ireturn dX11_count_133 rfl rfl rfl ?_
    refine ⟨rI ?_, rfl, rfl⟩
    unfold countF
    first
      | (rw [if_neg (by omega), if_neg (by omega), if_neg (by omega)]; done)
      | (rw [if_neg (by omega), if_pos (by omega)]; exact hT.1)
      | (rw [if_pos (by omega)]; assumption)
  · subst s1
    refine r_tableIn (tgt := 134) dX11_count_1 (by decide) (by decide) (by decide) rfl rfl ?_
    refine r_aload_n dX11_count_134 rfl ?_
    refine r_getR dX11_count_135 fl_X11_29 rfl (by assumption) (by assumption) ?_
    refine r_getI dX11_count_138 fl_X11_110 rfl (by assumption) ?_
    refine r_ireturn dX11_count_141 rfl rfl rfl ?_
    refine ⟨rI ?_, rfl, rfl⟩
    unfold countF
    first
      | (rw [if_neg (by omega), if_neg (by omega), if_neg (by omega)]; done)
      | (rw [if_neg (by omega), if_pos (by omega)]; exact hT.1)
      | (rw [if_pos (by omega)]; assumption)
  · subst s1
    refine r_tableIn (tgt := 142) dX11_count_1 (by decide) (by decide) (by decide) rfl rfl ?_
    refine r_aload_n dX11_count_142 rfl ?_
    refine r_getR dX11_count_143 fl_X11_29 rfl (by assumption) (by assumption) ?_
    refine r_getI dX11_count_146 fl_X11_137 rfl (by assumption) ?_
    refine r_ireturn dX11_count_149 rfl rfl rfl ?_
    refine ⟨rI ?_, rfl, rfl⟩
    unfold countF
    first
      | (rw [if_neg (by omega), if_neg (by omega), if_neg (by omega)]; done)
      | (rw [if_neg (by omega), if_pos (by omega)]; exact hT.1)
      | (rw [if_pos (by omega)]; assumption)
  · subst s1
    refine r_tableIn (tgt := 150) dX11_count_1 (by decide) (by decide) (by decide) rfl rfl ?_
    refine r_aload_n dX11_count_150 rfl ?_
    refine r_getR dX11_count_151 fl_X11_29 rfl (by assumption) (by assumption) ?_
    refine r_cV0F1 dX11_count_154 ml_X11_140 yl_X0_outCount ⟨rfl, rfl⟩ (by assumption) ⟨_, rfl⟩ rfl rfl rfl rfl (c_outCount hIC (by omega) hlr) ?_
    rw [e0]
    refine r_ireturn dX11_count_157 rfl rfl rfl ?_
    refine ⟨rI ?_, rfl, rfl⟩
    unfold countF outF
    rw [if_neg (by decide), if_neg (by decide), if_pos rfl, fld_sum, Int.zero_add]
    refine sumF_congr _ _ (fun j j0 j1 => ?_)
    try dsimp only
    have q1 := (hw.2.2.1 j (by omega) (by omega)).2.2.1
    rw [(eC j (by omega) (by omega)).2.2.1]
    by_cases e : gRow G (93 + j) = -1
    · rw [if_pos e, if_pos (by omega)]
    · rw [if_neg e, if_neg (by omega)]
  · subst s1
    refine r_tableIn (tgt := 158) dX11_count_1 (by decide) (by decide) (by decide) rfl rfl ?_
    refine r_aload_n dX11_count_158 rfl ?_
    refine r_getR dX11_count_159 fl_X11_10 rfl (by assumption) (by assumption) ?_
    refine r_getR dX11_count_162 fl_X11_67 rfl (by assumption) (by assumption) ?_
    refine r_getI dX11_count_165 fl_X11_71 rfl (by assumption) ?_
    refine r_ireturn dX11_count_168 rfl rfl rfl ?_
    refine ⟨rI ?_, rfl, rfl⟩
    unfold countF
    first
      | (rw [if_neg (by omega), if_neg (by omega), if_neg (by omega)]; done)
      | (rw [if_neg (by omega), if_pos (by omega)]; exact hT.1)
      | (rw [if_pos (by omega)]; assumption)

