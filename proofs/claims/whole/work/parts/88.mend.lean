/-! 88.mend: mend, move, mended, in the class (wip/whole/src/88_mend.py) -/
theorem sk_no : ∀ q ∈ refL, ¬ (q.1 = 182 ∧ q.2.1 = 9) := by decide +kernel
theorem InX.sk {μ μ2 : Mem} {G : Gh} {p pd c cd : Nat} (h : InX μ G p pd c cd) (hq : SkF μ μ2) : InX μ2 G p pd c cd := by
  obtain ⟨hL, hPos, ⟨hP, hC, hw, h99⟩, hH, ⟨hi0, hi1⟩, hT, hFk, hTm⟩ := h
  obtain ⟨hk, h1, hR, -⟩ := hq
  have hp := hPos.1
  have hc := hPos.2.1
  refine ⟨fun q hqm => ?_, ⟨hPos.1, hPos.2.1, ?_, ?_, ?_, ?_⟩, ⟨hP.mono (hk.mono (fun q hq => by (try dsimp only at *); omega)), hC.mono (hk.mono (fun q hq => by (try dsimp only at *); omega)), hw, h99⟩, hH.mono (hk.mono (fun q hq => by (try dsimp only at *); omega)), ⟨hi0.mono (hk.mono (fun q hq => by (try dsimp only at *); omega)), hi1.mono (hk.mono (fun q hq => by (try dsimp only at *); omega))⟩, hT.mono (congrFun (hk 2 (by (try dsimp only); omega)).1 1) (hk 3 (by (try dsimp only); omega)).1, by rw [(hk 0 (by (try dsimp only); omega)).1]; exact hFk, hTm.mono (h1 1 (by omega) (by omega) (by omega)) (hk 183 (by (try dsimp only); omega)).1⟩
  · rw [hR _ _ (sk_no q hqm)]
    exact hL q hqm
  · rw [hR _ _ (by omega)]; exact hPos.2.2.1
  · rw [hR _ _ (by omega)]; exact hPos.2.2.2.1
  · rw [hR _ _ (by omega)]; exact hPos.2.2.2.2.1
  · rw [hR _ _ (by omega)]; exact hPos.2.2.2.2.2
theorem TabOK.sk {μ μ2 : Mem} {ρ : Row} {p c : Nat} (h : TabOK μ p c ρ) (hq : SkF μ μ2) : TabOK μ2 p c ρ := by
  obtain ⟨kp, -, hR, -⟩ := hq
  obtain ⟨z, h⟩ := h
  refine ⟨⟨fun s s0 s1 => by rw [(kp 179 (by (try dsimp only); omega)).1]; exact z.1 s s0 s1, fun s s0 s1 => by rw [(kp 180 (by (try dsimp only); omega)).1]; exact z.2.1 s s0 s1, fun s s0 s1 => by rw [(kp 181 (by (try dsimp only); omega)).1]; exact z.2.2 s s0 s1⟩, ?_⟩
  have e := (kp 172 (by (try dsimp only); omega)).1
  rcases h with h | ⟨a, b, d, f⟩
  · left
    rw [e]; exact h
  · right
    exact ⟨by rw [e]; exact a, by rw [hR _ _ (by omega)]; exact b, by rw [hR _ _ (by omega)]; exact d, f.ext (kp.mono (fun q hq => by (try dsimp only at *); omega))⟩
theorem XT.sk {μ μ3 μ4 : Mem} {G : Gh} {p pd c cd : Nat} (h : XT μ μ3 G p pd c cd) (hq : SkF μ3 μ4) : XT μ μ4 G p pd c cd := ⟨h.1.sk hq, h.2.1.tr (hq.1.mono (fun q hq => by (try dsimp only at *); omega)), h.2.2.sk hq⟩
def TlQ (μ μ2 : Mem) (n : Nat) : Prop := Kp (fun a => a ≠ 182 ∧ a ≠ 183) μ μ2 ∧ μ2.2 = μ.2 ∧ (∀ j, j ≠ 1 → μ2.1 182 j = μ.1 182 j) ∧ μ2.1 182 1 = n ∧ ∀ j : Int, 0 ≤ j → j < n → μ2.1 183 j = μ.1 184 j
theorem XT.told {μ μ3 μ4 : Mem} {G : Gh} {p pd c cd : Nat} {tm : List Int} (h : XT μ μ3 G p pd c cd) (hq : TlQ μ3 μ4 tm.length) (h10 : tm.length ≤ 10) (ht : ∀ (i : Nat) (x : Int), tm[i]? = some x → μ3.1 184 i = x) : XT μ μ4 (setTld G tm) p pd c cd := by
  obtain ⟨⟨hL, hPos, ⟨hP, hC, hw, h99⟩, hH, ⟨hi0, hi1⟩, hT, hFk, -⟩, hK, hTab⟩ := h
  obtain ⟨hk, h2, -, q1, q3⟩ := hq
  have hp := hPos.1
  have hc := hPos.2.1
  refine ⟨⟨by rw [h2]; exact hL, by rw [h2]; exact hPos, ⟨hP.mono (hk.mono (fun q hq => by (try dsimp only at *); omega)), hC.mono (hk.mono (fun q hq => by (try dsimp only at *); omega)), hw, h99⟩, hH.mono (hk.mono (fun q hq => by (try dsimp only at *); omega)), ⟨hi0.mono (hk.mono (fun q hq => by (try dsimp only at *); omega)), hi1.mono (hk.mono (fun q hq => by (try dsimp only at *); omega))⟩, hT.mono (congrFun (hk 2 (by (try dsimp only); omega)).1 1) (hk 3 (by (try dsimp only); omega)).1, by rw [(hk 0 (by (try dsimp only); omega)).1]; exact hFk, ⟨q1, h10, fun i x hx => ?_⟩⟩, hK.tr (hk.mono (fun q hq => by (try dsimp only at *); omega)), ?_⟩
  · have hx : tm[i]? = some x := hx
    have hl := (List.getElem?_eq_some_iff.1 hx).1
    rw [q3 i (by omega) (by omega)]
    exact ht i x hx
  · obtain ⟨z, h⟩ := hTab
    refine ⟨⟨fun s s0 s1 => by rw [(hk 179 (by (try dsimp only); omega)).1]; exact z.1 s s0 s1, fun s s0 s1 => by rw [(hk 180 (by (try dsimp only); omega)).1]; exact z.2.1 s s0 s1, fun s s0 s1 => by rw [(hk 181 (by (try dsimp only); omega)).1]; exact z.2.2 s s0 s1⟩, ?_⟩
    have e := (hk 172 (by (try dsimp only); omega)).1
    rcases h with h | ⟨a, b, d, f⟩
    · left
      rw [e]; exact h
    · right
      exact ⟨by rw [e]; exact a, by rw [h2]; exact b, by rw [h2]; exact d, f.ext (hk.mono (fun q hq => by (try dsimp only at *); omega))⟩
theorem c_tell {μ : Mem} (hL : Lay μ.2.2) {N : Nat} (hN : N ≤ 10)  : VMet yX4_tell gX4_tell SH [vR 182, vI (N : Int)] μ (fun μ2 => TlQ μ μ2 N) := by
  have x182 : SH[182]? = some (4, 10) := rfl
  have x183 : SH[183]? = some (20, 10) := rfl
  have x184 : SH[184]? = some (20, 10) := rfl
  have x185 : SH[185]? = some (20, 5) := rfl
  have l0 := hL.r182_0
  have l2 := hL.r182_2
  have l3 := hL.r182_3
  obtain ⟨n0, hn0⟩ : ∃ n0 : Int, n0 = (N : Int) := ⟨_, rfl⟩
  rw [← hn0]
  have lB : ∀ (f n : Nat) (k : Int) (μ' : Mem), n < f → 0 ≤ k → k + n = n0 → Kp (fun a => a ≠ 182 ∧ a ≠ 183) μ μ' → μ'.2 = μ.2 → (∀ j, j ≠ 1 → μ'.1 182 j = μ.1 182 j) → μ'.1 182 1 = n0 → (∀ j, 0 ≤ j → j < k → μ'.1 183 j = μ.1 184 j) → AW gX4_tell SH μ' 0 0 12 [some (vR 182), some (vI n0), some (vI k)] [] (fun r2 sh2 μ2 => r2 = none ∧ sh2 = SH ∧ TlQ μ μ2 N) := by
    intro f
    induction f with
    | zero => intro n; intros; omega
    | succ f ih =>
      intro n k μ' hf hk hn2 q1 q2 q3 q4 q5
      have g0 : μ'.2.2 182 0 = some 183 := by rw [q2]; exact l0
      have g2 : μ'.2.2 182 2 = some 184 := by rw [q2]; exact l2
      refine r_iload_n dX4_tell_12 rfl ?_
      refine r_aload_n dX4_tell_13 rfl ?_
      refine r_getI dX4_tell_14 fl_X4_95 rfl (by assumption) ?_
      rw [q4]
      refine q_icmp_ge (tgt := 38) dX4_tell_17 rfl (by omega) (by omega) (fun c17 => ?_) (fun c17 => ?_)
      · refine r_return dX4_tell_38 rfl rfl rfl ?_
        exact ⟨rfl, rfl, q1, q2, q3, by rw [q4, hn0], fun j j0 j1 => q5 j j0 (by omega)⟩
      · refine r_aload_n dX4_tell_20 rfl ?_
        refine r_getR dX4_tell_21 fl_X4_11 rfl (by assumption) (by assumption) ?_
        refine r_iload_n dX4_tell_24 rfl ?_
        refine r_aload_n dX4_tell_25 rfl ?_
        refine r_getR dX4_tell_26 fl_X4_15 rfl (by assumption) (by assumption) ?_
        refine r_iload_n dX4_tell_29 rfl ?_
        refine r_iald dX4_tell_30 (by assumption) rfl (by omega) ?_
        refine r_iast dX4_tell_31 (by assumption) rfl (by omega) ?_
        refine r_iinc dX4_tell_32 rfl rfl ?_
        refine r_goto (tgt := 12) dX4_tell_35 rfl ?_
        refine ih (n - 1) (k + 1) _ (by omega) (by omega) (by omega) (q1.sI (by omega)) q2 (fun j hj => (sI_ne (by omega)).trans (q3 j hj)) ((sI_ne (by omega)).trans q4) (fun j j0 j1 => ?_)
        by_cases z : j = k
        · rw [z, sI_at, (q1 184 (by (try dsimp only); omega)).1]
        · rw [sI_nj z]; exact q5 j j0 (by omega)
  refine AMet.of (by decide) rfl (by decide) rfl ?_
  refine r_aload_n dX4_tell_0 rfl ?_
  refine r_iload_n dX4_tell_1 rfl ?_
  refine r_bipush dX4_tell_2 (by decide) ?_
  refine r_cS2F1 dX4_tell_4 ml_X4_89 yl_J9_min_7cf53 ⟨rfl, rfl⟩ rfl rfl rfl rfl (j_min (by omega) (by omega)) ?_
  rw [show min n0 10 = n0 by omega]
  refine r_putI dX4_tell_7 fl_X4_95 (by assumption) ?_
  refine r_iconst dX4_tell_10 ?_
  refine r_istore_n dX4_tell_11 rfl ?_
  exact lB _ N 0 _ (Nat.lt_succ_self _) (by omega) (by omega) ((Kp.rf _ _).sI (by omega)) rfl (fun j hj => sI_nj hj) sI_at (fun j j0 j1 => by omega)
theorem c_toldMove {μ : Mem} (hL : Lay μ.2.2) {G : Gh} (hT : TldX μ (gTm G)) {i : Int} (hi : -2147483648 ≤ i ∧ i < 2147483648)  : FMet yX4_toldMove gX4_toldMove SH [vR 182, vI i] μ (some (vI (moveF G i))) μ := by
  have x182 : SH[182]? = some (4, 10) := rfl
  have x183 : SH[183]? = some (20, 10) := rfl
  have x184 : SH[184]? = some (20, 10) := rfl
  have x185 : SH[185]? = some (20, 5) := rfl
  have l0 := hL.r182_0
  have l2 := hL.r182_2
  have l3 := hL.r182_3
  obtain ⟨t1, t10, tx⟩ := hT
  refine AMet.of (by decide) rfl (by decide) rfl ?_
  refine r_iload_n dX4_toldMove_0 rfl ?_
  refine q_if_lt (tgt := 21) dX4_toldMove_1 rfl (by omega) (fun c1 => ?_) (fun c1 => ?_)
  · refine r_iconst dX4_toldMove_21 ?_
    refine r_ireturn dX4_toldMove_22 rfl rfl rfl ?_
    refine ⟨rI ?_, rfl, rfl⟩
    unfold moveF
    first
    | (rw [if_pos ⟨by omega, by omega⟩]
       have hx := tx i.toNat ((gTm G).getD i.toNat 0) (by rw [List.getD_eq_getElem?_getD, List.getElem?_eq_getElem (by omega), Option.getD_some])
       rw [show ((i.toNat : Nat) : Int) = i by omega] at hx
       exact hx)
    | rw [if_neg (fun q => by omega)]
  · refine r_iload_n dX4_toldMove_4 rfl ?_
    refine r_aload_n dX4_toldMove_5 rfl ?_
    refine r_getI dX4_toldMove_6 fl_X4_95 rfl (by assumption) ?_
    rw [t1]
    refine q_icmp_ge (tgt := 21) dX4_toldMove_9 rfl (by omega) (by omega) (fun c9 => ?_) (fun c9 => ?_)
    · refine r_iconst dX4_toldMove_21 ?_
      refine r_ireturn dX4_toldMove_22 rfl rfl rfl ?_
      refine ⟨rI ?_, rfl, rfl⟩
      unfold moveF
      first
      | (rw [if_pos ⟨by omega, by omega⟩]
         have hx := tx i.toNat ((gTm G).getD i.toNat 0) (by rw [List.getD_eq_getElem?_getD, List.getElem?_eq_getElem (by omega), Option.getD_some])
         rw [show ((i.toNat : Nat) : Int) = i by omega] at hx
         exact hx)
      | rw [if_neg (fun q => by omega)]
    · refine r_aload_n dX4_toldMove_12 rfl ?_
      refine r_getR dX4_toldMove_13 fl_X4_11 rfl (by assumption) (by assumption) ?_
      refine r_iload_n dX4_toldMove_16 rfl ?_
      refine r_iald dX4_toldMove_17 (by assumption) rfl (by omega) ?_
      refine r_goto (tgt := 22) dX4_toldMove_18 rfl ?_
      refine r_ireturn dX4_toldMove_22 rfl rfl rfl ?_
      refine ⟨rI ?_, rfl, rfl⟩
      unfold moveF
      first
      | (rw [if_pos ⟨by omega, by omega⟩]
         have hx := tx i.toNat ((gTm G).getD i.toNat 0) (by rw [List.getD_eq_getElem?_getD, List.getElem?_eq_getElem (by omega), Option.getD_some])
         rw [show ((i.toNat : Nat) : Int) = i by omega] at hx
         exact hx)
      | rw [if_neg (fun q => by omega)]
theorem c_putAllInto {μ : Mem} (hL : Lay μ.2.2) {c : Nat} (hC : IsCargo SH μ.2.2 c)  : FMet yX4_putAllInto gX4_putAllInto SH [vR 182, vR c] μ none (cpI μ (c + 4) 185 5) := by
  have x182 : SH[182]? = some (4, 10) := rfl
  have x183 : SH[183]? = some (20, 10) := rfl
  have x184 : SH[184]? = some (20, 10) := rfl
  have x185 : SH[185]? = some (20, 5) := rfl
  have l0 := hL.r182_0
  have l2 := hL.r182_2
  have l3 := hL.r182_3
  obtain ⟨h0, h1, h2, h3, h4, h6, s1, s2, s3, s4, s5⟩ := id hC
  refine AMet.of (by decide) rfl (by decide) rfl ?_
  refine r_aload_n dX4_putAllInto_0 rfl ?_
  refine r_getR dX4_putAllInto_1 fl_X4_18 rfl (by assumption) (by assumption) ?_
  refine r_iconst dX4_putAllInto_4 ?_
  refine r_aload_n dX4_putAllInto_5 rfl ?_
  refine r_getR dX4_putAllInto_6 fl_X4_63 rfl (by assumption) (by assumption) ?_
  refine r_iconst dX4_putAllInto_9 ?_
  refine r_iconst dX4_putAllInto_10 ?_
  refine r_copyI dX4_putAllInto_11 ml_X4_66 (by assumption) (by assumption) rfl rfl rfl rfl rfl rfl ?_
  refine r_return dX4_putAllInto_14 rfl rfl rfl ?_
  exact ⟨rfl, rfl, rfl⟩
theorem x_move {μ : Mem} {G : Gh} {p pd c cd : Nat} (hX : InX μ G p pd c cd) {i : Int} (hi : -2147483648 ≤ i ∧ i < 2147483648)  : FMet yX11_move gX11_move SH [vR 0, vI i] μ (some (vI (moveF G i))) μ := by
  have rr10 := hX.1.r0_10
  have x0 : SH[0]? = some (10, 11) := rfl
  have x182 : SH[182]? = some (4, 10) := rfl
  refine AMet.of (by decide) rfl (by decide) rfl ?_
  refine r_aload_n dX11_move_0 rfl ?_
  refine r_getR dX11_move_1 fl_X11_63 rfl (by assumption) (by assumption) ?_
  refine r_iload_n dX11_move_4 rfl ?_
  refine r_cV1F1 dX11_move_5 ml_X11_273 yl_X4_toldMove ⟨rfl, rfl⟩ (by assumption) ⟨_, rfl⟩ rfl rfl rfl rfl (c_toldMove hX.1 hX.2.2.2.2.2.2.2 hi) ?_
  refine r_ireturn dX11_move_8 rfl rfl rfl ?_
  exact ⟨rfl, rfl, rfl⟩
theorem x_mend {μ : Mem} {G : Gh} {p pd c cd : Nat} (hX : InX μ G p pd c cd) (hTO : TabOK μ p c (gRow G))  : IMet yX11_mend gX11_mend SH [vR 0] μ (fun x μ2 => x = (mendF G).1 ∧ XT μ μ2 (mendF G).2 p pd c cd) := by
  obtain ⟨hL, hPos, ⟨hP, hC, hw, h99⟩, hH, ⟨hi0, hi1⟩, hT, hFk, hTm⟩ := id hX
  obtain ⟨hp0, hc0, r2, r3, r4, r5⟩ := id hPos
  have rr9 := hL.r0_9
  have x0 : SH[0]? = some (10, 11) := rfl
  have x172 : SH[172]? = some (7, 15) := rfl
  have hn := hw.1.1
  unfold WFn at hn
  have hc5 : c = 50 ∨ c = 56 := by omega
  have hp4 : p = 4 ∨ p = 27 := by omega
  have rr10 := hL.r0_10
  refine AMet.of (by decide) rfl (by decide) rfl ?_
  refine r_aload_n dX11_mend_0 rfl ?_
  refine r_getR dX11_mend_1 fl_X11_63 rfl (by assumption) (by assumption) ?_
  refine r_aload_n dX11_mend_4 rfl ?_
  refine r_getR dX11_mend_5 fl_X11_19 rfl (by assumption) (by assumption) ?_
  refine r_aload_n dX11_mend_8 rfl ?_
  refine r_getR dX11_mend_9 fl_X11_29 rfl (by assumption) (by assumption) ?_
  refine r_aload_n dX11_mend_12 rfl ?_
  refine r_cV0O dX11_mend_13 ml_X11_244 yl_X11_freshTable ⟨rfl, rfl⟩ (by assumption) ⟨_, rfl⟩ rfl rfl rfl rfl (x_freshTable hX hTO) ?_
  rintro μ3 hq
  have rr93 : μ3.2.2 0 9 = some 172 := by rw [hq.2.1 _ _ (by omega)]; exact rr9
  have r23 : μ3.2.2 0 2 = some p := by rw [hq.2.1 _ _ (by omega)]; exact r2
  have r43 : μ3.2.2 0 4 = some c := by rw [hq.2.1 _ _ (by omega)]; exact r4
  have hX3 := hX.tab hq
  have hP3 := hX3.2.2.1.1
  have hC3 := hX3.2.2.1.2.1
  have hIC3 := hC3.1
  have hx5 := hIC3.1
  have hxp := hP3.1.1
  have hT3 := hX3.1.tab
  have hM := hq.2.2.2.2
  have hW3 := hM.2.2.2
  have hXT := hX.xt hq
  have rr103 : μ3.2.2 0 10 = some 182 := hX3.1.r0_10
  have x182 : SH[182]? = some (4, 10) := rfl
  refine r_cV3I dX11_mend_16 ml_X11_266 yl_X4_seek ⟨rfl, rfl⟩ (by assumption) ⟨_, rfl⟩ rfl rfl rfl rfl (c_seek hX3.1 hP3 hC3 hw hp4 hc5 hT3 hW3) ?_
  rintro x1 μ4 ⟨hsk, hdis⟩
  have hX4 := hXT.sk hsk
  have hxr : -1 ≤ x1 ∧ x1 ≤ 10 := by
    rcases hdis with ⟨z, -⟩ | ⟨w, z1, z2, -⟩
    · omega
    · have := (mend_to hw z1).2.choose_spec.2.2; omega
  have rr104 : μ4.2.2 0 10 = some 182 := hX4.1.1.r0_10
  have rr64 : μ4.2.2 0 6 = some 62 := hX4.1.1.r0_6
  have x62 : SH[62]? = some (2, 3) := rfl
  have r44 : μ4.2.2 0 4 = some c := hX4.1.2.1.2.2.2.2.1
  refine r_istore_n dX11_mend_19 rfl ?_
  refine r_iload_n dX11_mend_20 rfl ?_
  refine r_iconst dX11_mend_21 ?_
  refine q_icmp_eq (tgt := 33) dX11_mend_22 rfl (by omega) (by omega) (fun c22 => ?_) (fun c22 => ?_)
  · refine r_iload_n dX11_mend_33 rfl ?_
    refine r_ireturn dX11_mend_34 rfl rfl rfl ?_
    first
    | (have e : mendF G = (-1, G) := by
         unfold mendF
         rcases hdis with ⟨-, z⟩ | ⟨w, -, z, -⟩
         · rw [mendW_none z]
         · omega
       exact ⟨rfl, _, rfl, by rw [e]; exact c22, by rw [e]; exact hX4⟩)
    | (have e : mendF G = ((w.length : Int), setTld G w.reverse) := by unfold mendF; rw [mendW_some hw1]
       exact ⟨rfl, _, rfl, by rw [e], by rw [e]; exact hX4.told (tm := w.reverse) (by rw [List.length_reverse]; exact hq5) (by rw [List.length_reverse]; omega) hw4⟩)
  · obtain ⟨w, hw1, hwx, hw4, hw5⟩ : ∃ w, MendOK (gRow G) w ∧ x1 = w.length ∧ (∀ (j : Nat) (l : Int), w.reverse[j]? = some l → μ4.1 184 j = l) ∧ ∀ k, 0 ≤ k → k < gRow G 11 → μ4.1 185 k = mvsR (gRow G) w.reverse (93 + k) := by
      rcases hdis with ⟨z, -⟩ | z
      · omega
      · exact z
    subst hwx
    refine r_aload_n dX11_mend_25 rfl ?_
    refine r_getR dX11_mend_26 fl_X11_63 rfl (by assumption) (by assumption) ?_
    refine r_iload_n dX11_mend_29 rfl ?_
    refine r_cV1N dX11_mend_30 ml_X11_270 yl_X4_tell ⟨rfl, rfl⟩ (by assumption) ⟨_, rfl⟩ rfl rfl rfl rfl (c_tell (N := w.length) hX4.1.1 (by omega)) ?_
    rintro μ5 hq5
    refine r_iload_n dX11_mend_33 rfl ?_
    refine r_ireturn dX11_mend_34 rfl rfl rfl ?_
    first
    | (have e : mendF G = (-1, G) := by
         unfold mendF
         rcases hdis with ⟨-, z⟩ | ⟨w, -, z, -⟩
         · rw [mendW_none z]
         · omega
       exact ⟨rfl, _, rfl, by rw [e]; exact c22, by rw [e]; exact hX4⟩)
    | (have e : mendF G = ((w.length : Int), setTld G w.reverse) := by unfold mendF; rw [mendW_some hw1]
       exact ⟨rfl, _, rfl, by rw [e], by rw [e]; exact hX4.told (tm := w.reverse) (by rw [List.length_reverse]; exact hq5) (by rw [List.length_reverse]; omega) hw4⟩)
theorem mended_done {μ μ4 : Mem} {G : Gh} {p pd c cd : Nat} {x1 : Int} {w : Wrd} (hX4 : XT μ μ4 G p pd c cd) (hw : WF (gRow G)) (h99 : W99 (gRow G)) (hw1 : MendOK (gRow G) w) (hwx : x1 = w.length) (hx0 : 0 < x1) (hw5 : ∀ k, 0 ≤ k → k < gRow G 11 → μ4.1 185 k = mvsR (gRow G) w.reverse (93 + k)) : SH = SH ∧ ∃ x, some (vI x1) = some (vI x) ∧ x = (mendedF G).1 ∧ XT μ (cpI (kpX μ4 c) (c + 4) 185 5) (mendedF G).2 p pd c cd := by
  have hn := hw.1.1
  unfold WFn at hn
  have e : mendedF G = ((w.length : Int), if w.length = 0 then G else setRow (keepG G) (mvsR (gRow G) w.reverse)) := by unfold mendedF; rw [mendW_some hw1]
  rw [if_neg (by omega)] at e
  obtain ⟨-, cc, hvc, hrow, h10⟩ := mend_to hw hw1
  obtain ⟨hL, hPos, ⟨hP, hC, -, -⟩, hH, -, -, -, -⟩ := id hX4.1
  have hc5 : c = 50 ∨ c = 56 := by have := hPos.2.1; omega
  have hKk : Kp (fun q => ¬ (62 ≤ q ∧ q < 112)) μ4 (kpX μ4 c) := (Kp.rf _ μ4).kx (fun q q0 q1 => by (try dsimp only); omega) hH.2.2.1
  have hCk : RelC SH (kpX μ4 c) c (gRow G) := hC.mono (hKk.mono (fun q hq => by (try dsimp only at *); omega))
  have hHk := hH.keep hL hc5 hC hw h99
  have hKK : Kp (fun q => ¬ (62 ≤ q ∧ q < 112) ∧ q ≠ c + 4) μ4 (cpI (kpX μ4 c) (c + 4) 185 5) := (hKk.mono (fun q hq => by (try dsimp only at *); omega)).cI (by (try dsimp only); omega)
  have cell : ∀ j, ¬ (93 ≤ j ∧ j < 98) → j ≠ 51 → j ≠ 52 → layR (gRow G) cc j = gRow G j := fun j h1 h2 h3 => lay_ne (by omega)
  obtain ⟨hI, e0, e5, e51, e52, eC⟩ := id hCk
  have kk : ∀ q : Nat, q ≠ c + 4 → (cpI (kpX μ4 c) (c + 4) 185 5).1 q = (kpX μ4 c).1 q := fun q h1 => funext fun j => cpI_ne h1
  have e185 : (kpX μ4 c).1 185 = μ4.1 185 := (hKk 185 (by (try dsimp only); omega)).1
  have hRC : RelC SH (cpI (kpX μ4 c) (c + 4) 185 5) c (layR (gRow G) cc) := by
    refine ⟨hI, ?_, ?_, ?_, ?_, fun j j0 j1 => ?_⟩
    · rw [kk c (by omega), lay_11]; exact e0
    · rw [kk c (by omega), cell 12 (by omega) (by omega) (by omega)]; exact e5
    · rw [kk (c + 5) (by omega), lay_ne (j := 51) (by omega)]; exact e51
    · rw [kk (c + 5) (by omega), lay_ne (j := 52) (by omega)]; exact e52
    · rw [lay_11] at j1
      obtain ⟨q1, q2, q3, q4⟩ := eC j j0 j1
      refine ⟨?_, ?_, ?_, ?_⟩
      · rw [kk _ (by omega), lay_ne (by omega)]; exact q1
      · rw [kk _ (by omega), lay_ne (by omega)]; exact q2
      · rw [cpI_at ⟨j0, by omega⟩, e185, hw5 j j0 j1, hrow]
      · show (kpX μ4 c).2.1 (c + 1) j = _
        rw [q4]
        exact (pkF_congr (lay_ne (by omega)) (hw.2.2.1 j j0 j1).2.2.2.1.2 (fun i i0 i1 => lay_ne (by omega))).symm
  have hpe := lay_Pl (gRow G) cc (by omega)
  have h992 : W99 (layR (gRow G) cc) := fun k k0 k1 => by
    rw [lay_11] at k1
    rw [lay_ne (by omega)]
    exact h99 k k0 k1
  have hXf := hX4.1.cargo (μ2 := cpI (kpX μ4 c) (c + 4) 185 5) (us' := (gRow G :: gUnd G).take 8) (ρ' := layR (gRow G) cc) rfl (hKK.mono (fun q hq => by (try dsimp only at *); omega)) hRC hpe (hvc.wf hw) h992 ((hHk.mono ((Kp.rf _ _).cI (by (try dsimp only); omega))).row hpe)
  refine ⟨rfl, _, rfl, by rw [e]; exact hwx, ?_⟩
  rw [e, hrow]
  exact ⟨hXf, hX4.2.1.tr (hKK.mono (fun q hq => by (try dsimp only at *); omega)), hX4.2.2.kept hw.1 (Or.inl ⟨hKK.mono (fun q hq => by (try dsimp only at *); omega), fun j h1 h2 h3 => cell j h1 h2 h3⟩) rfl⟩
set_option maxHeartbeats 2000000 in
theorem x_mended {μ : Mem} {G : Gh} {p pd c cd : Nat} (hX : InX μ G p pd c cd) (hTO : TabOK μ p c (gRow G))  : IMet yX11_mended gX11_mended SH [vR 0] μ (fun x μ2 => x = (mendedF G).1 ∧ XT μ μ2 (mendedF G).2 p pd c cd) := by
  obtain ⟨hL, hPos, ⟨hP, hC, hw, h99⟩, hH, ⟨hi0, hi1⟩, hT, hFk, hTm⟩ := id hX
  obtain ⟨hp0, hc0, r2, r3, r4, r5⟩ := id hPos
  have rr9 := hL.r0_9
  have x0 : SH[0]? = some (10, 11) := rfl
  have x172 : SH[172]? = some (7, 15) := rfl
  have hn := hw.1.1
  unfold WFn at hn
  have hc5 : c = 50 ∨ c = 56 := by omega
  have hp4 : p = 4 ∨ p = 27 := by omega
  have rr10 := hL.r0_10
  refine AMet.of (by decide) rfl (by decide) rfl ?_
  refine r_aload_n dX11_mended_0 rfl ?_
  refine r_getR dX11_mended_1 fl_X11_63 rfl (by assumption) (by assumption) ?_
  refine r_aload_n dX11_mended_4 rfl ?_
  refine r_getR dX11_mended_5 fl_X11_19 rfl (by assumption) (by assumption) ?_
  refine r_aload_n dX11_mended_8 rfl ?_
  refine r_getR dX11_mended_9 fl_X11_29 rfl (by assumption) (by assumption) ?_
  refine r_aload_n dX11_mended_12 rfl ?_
  refine r_cV0O dX11_mended_13 ml_X11_244 yl_X11_freshTable ⟨rfl, rfl⟩ (by assumption) ⟨_, rfl⟩ rfl rfl rfl rfl (x_freshTable hX hTO) ?_
  rintro μ3 hq
  have rr93 : μ3.2.2 0 9 = some 172 := by rw [hq.2.1 _ _ (by omega)]; exact rr9
  have r23 : μ3.2.2 0 2 = some p := by rw [hq.2.1 _ _ (by omega)]; exact r2
  have r43 : μ3.2.2 0 4 = some c := by rw [hq.2.1 _ _ (by omega)]; exact r4
  have hX3 := hX.tab hq
  have hP3 := hX3.2.2.1.1
  have hC3 := hX3.2.2.1.2.1
  have hIC3 := hC3.1
  have hx5 := hIC3.1
  have hxp := hP3.1.1
  have hT3 := hX3.1.tab
  have hM := hq.2.2.2.2
  have hW3 := hM.2.2.2
  have hXT := hX.xt hq
  have rr103 : μ3.2.2 0 10 = some 182 := hX3.1.r0_10
  have x182 : SH[182]? = some (4, 10) := rfl
  refine r_cV3I dX11_mended_16 ml_X11_266 yl_X4_seek ⟨rfl, rfl⟩ (by assumption) ⟨_, rfl⟩ rfl rfl rfl rfl (c_seek hX3.1 hP3 hC3 hw hp4 hc5 hT3 hW3) ?_
  rintro x1 μ4 ⟨hsk, hdis⟩
  have hX4 := hXT.sk hsk
  have hxr : -1 ≤ x1 ∧ x1 ≤ 10 := by
    rcases hdis with ⟨z, -⟩ | ⟨w, z1, z2, -⟩
    · omega
    · have := (mend_to hw z1).2.choose_spec.2.2; omega
  have rr104 : μ4.2.2 0 10 = some 182 := hX4.1.1.r0_10
  have rr64 : μ4.2.2 0 6 = some 62 := hX4.1.1.r0_6
  have x62 : SH[62]? = some (2, 3) := rfl
  have r44 : μ4.2.2 0 4 = some c := hX4.1.2.1.2.2.2.2.1
  refine r_istore_n dX11_mended_19 rfl ?_
  refine r_iload_n dX11_mended_20 rfl ?_
  refine q_if_le (tgt := 46) dX11_mended_21 rfl (by omega) (fun c21 => ?_) (fun c21 => ?_)
  · refine r_iload_n dX11_mended_46 rfl ?_
    refine r_ireturn dX11_mended_47 rfl rfl rfl ?_
    first
    | (have hw0 : x1 = -1 ∨ ∃ w, MendOK (gRow G) w ∧ w.length = 0 ∧ x1 = 0 := by
         rcases hdis with ⟨z, -⟩ | ⟨w, z1, z2, -⟩
         · exact Or.inl z
         · exact Or.inr ⟨w, z1, by omega, by omega⟩
       rcases hw0 with z | ⟨w, z1, z2, z3⟩
       · have e : mendedF G = (-1, G) := by
           unfold mendedF
           rcases hdis with ⟨-, z⟩ | ⟨w, -, z, -⟩
           · rw [mendW_none z]
           · omega
         exact ⟨rfl, _, rfl, by rw [e]; exact z, by rw [e]; exact hX4⟩
       · have e : mendedF G = ((w.length : Int), if w.length = 0 then G else setRow (keepG G) (mvsR (gRow G) w.reverse)) := by unfold mendedF; rw [mendW_some z1]
         rw [if_pos z2] at e
         exact ⟨rfl, _, rfl, by rw [e]; show x1 = (w.length : Int); omega, by rw [e]; exact hX4⟩)
    | exact mended_done hX4 hw h99 hw1 hwx (by omega) hw5
  · obtain ⟨w, hw1, hwx, hw4, hw5⟩ : ∃ w, MendOK (gRow G) w ∧ x1 = w.length ∧ (∀ (j : Nat) (l : Int), w.reverse[j]? = some l → μ4.1 184 j = l) ∧ ∀ k, 0 ≤ k → k < gRow G 11 → μ4.1 185 k = mvsR (gRow G) w.reverse (93 + k) := by
      rcases hdis with ⟨z, -⟩ | z
      · omega
      · exact z
    refine r_aload_n dX11_mended_24 rfl ?_
    refine r_getR dX11_mended_25 fl_X11_39 rfl (by assumption) (by assumption) ?_
    refine r_aload_n dX11_mended_28 rfl ?_
    refine r_getR dX11_mended_29 fl_X11_29 rfl (by assumption) (by assumption) ?_
    refine r_cV1F0 dX11_mended_32 ml_X11_213 yl_X2_keep ⟨rfl, rfl⟩ (by assumption) ⟨_, rfl⟩ rfl rfl rfl rfl (c_keep hX4.1.1 hc5 hX4.1.2.2.1.2.1.1 hX4.1.2.2.2.1.2.2.1 (by have := hX4.1.2.2.2.1.2.1; have := hX4.1.2.2.2.1.1; omega)) ?_
    have rr105 : (kpX μ4 c).2.2 0 10 = some 182 := rr104
    have r45 : (kpX μ4 c).2.2 0 4 = some c := r44
    refine r_aload_n dX11_mended_35 rfl ?_
    refine r_getR dX11_mended_36 fl_X11_63 rfl (by assumption) (by assumption) ?_
    refine r_aload_n dX11_mended_39 rfl ?_
    refine r_getR dX11_mended_40 fl_X11_29 rfl (by assumption) (by assumption) ?_
    refine r_cV1F0 dX11_mended_43 ml_X11_276 yl_X4_putAllInto ⟨rfl, rfl⟩ (by assumption) ⟨_, rfl⟩ rfl rfl rfl rfl (c_putAllInto (μ := kpX μ4 c) hX4.1.1 hX4.1.2.2.1.2.1.1) ?_
    refine r_iload_n dX11_mended_46 rfl ?_
    refine r_ireturn dX11_mended_47 rfl rfl rfl ?_
    first
    | (have hw0 : x1 = -1 ∨ ∃ w, MendOK (gRow G) w ∧ w.length = 0 ∧ x1 = 0 := by
         rcases hdis with ⟨z, -⟩ | ⟨w, z1, z2, -⟩
         · exact Or.inl z
         · exact Or.inr ⟨w, z1, by omega, by omega⟩
       rcases hw0 with z | ⟨w, z1, z2, z3⟩
       · have e : mendedF G = (-1, G) := by
           unfold mendedF
           rcases hdis with ⟨-, z⟩ | ⟨w, -, z, -⟩
           · rw [mendW_none z]
           · omega
         exact ⟨rfl, _, rfl, by rw [e]; exact z, by rw [e]; exact hX4⟩
       · have e : mendedF G = ((w.length : Int), if w.length = 0 then G else setRow (keepG G) (mvsR (gRow G) w.reverse)) := by unfold mendedF; rw [mendW_some z1]
         rw [if_pos z2] at e
         exact ⟨rfl, _, rfl, by rw [e]; show x1 = (w.length : Int); omega, by rw [e]; exact hX4⟩)
    | exact mended_done hX4 hw h99 hw1 hwx (by omega) hw5
