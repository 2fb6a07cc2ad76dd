/-! 74.take: the class takes a good loading (wip/whole/src/74_take.py) -/
def TkQ (μk μ2 : Mem) (c : Nat) (ρ : Row) (d a : Int) : Prop := Kp (fun q => q ≠ c + 4 ∧ q ≠ c + 5) μk μ2 ∧ μ2.2 = μk.2 ∧ (∀ j, 0 ≤ j → j < ρ 11 → μ2.1 (c + 4) j = dg (ρ 11) d j - 1) ∧ (∀ b, 0 ≤ b → b < ρ 7 → μ2.1 (c + 5) b = if b = 0 then a else ρ 12 - a) ∧ ∀ b, ρ 7 ≤ b → μ2.1 (c + 5) b = μk.1 (c + 5) b
theorem TkQ.rel {μk μ2 : Mem} {c : Nat} {ρ : Row} {d a : Int} (h : TkQ μk μ2 c ρ d a) (hC : RelC SH μk c ρ) (hw : WF ρ) (h0 : 0 ≤ a) (hp : pourOK ρ a = true) : RelC SH μ2 c (binR (layR ρ d) a) := by
  have hn := hw.1.1
  unfold WFn at hn
  obtain ⟨hk, hR, h4, h5, h6⟩ := h
  obtain ⟨hI, e0, e5, e51, e52, eC⟩ := hC
  have hpo := of_decide_eq_true hp
  unfold lim0 lim1 at hpo
  have cell : ∀ j, ¬ (93 ≤ j ∧ j < 98) → j ≠ 51 → j ≠ 52 → binR (layR ρ d) a j = ρ j := fun j h1 h2 h3 => by rw [bin_ne ⟨h2, h3⟩, lay_ne (by omega)]
  have kk : ∀ q : Nat, q ≠ c + 4 → q ≠ c + 5 → μ2.1 q = μk.1 q := fun q h1 h2 => (hk q ⟨h1, h2⟩).1
  have b0 := (hw.2.1 0 (by omega) (by omega)).2
  have b1 := (hw.2.1 1 (by omega) (by omega)).2
  simp only [Int.add_zero, show (51 : Int) + 1 = 52 from rfl] at b0 b1
  refine ⟨by rw [hR]; exact hI, ?_, ?_, ?_, ?_, fun j j0 j1 => ?_⟩
  · rw [kk c (by omega) (by omega), cell 11 (by omega) (by omega) (by omega)]; exact e0
  · rw [kk c (by omega) (by omega), cell 12 (by omega) (by omega) (by omega)]; exact e5
  · rw [bin_51]
    by_cases z : 0 < ρ 7
    · rw [h5 0 (by omega) z, if_pos rfl]
    · rw [h6 0 (by omega), e51, b0 (by omega)]
      rw [if_neg z] at hpo
      omega
  · rw [bin_52, lay_ne (j := 12) (by omega)]
    by_cases z : 1 < ρ 7
    · rw [h5 1 (by omega) z, if_neg (by decide)]
    · rw [h6 1 (by omega), e52, b1 (by omega)]
      rw [if_neg z] at hpo
      omega
  · rw [cell 11 (by omega) (by omega) (by omega)] at j1
    obtain ⟨q1, q2, q3, q4⟩ := eC j j0 j1
    refine ⟨?_, ?_, ?_, ?_⟩
    · rw [kk _ (by omega) (by omega), cell _ (by omega) (by omega) (by omega)]; exact q1
    · rw [kk _ (by omega) (by omega), cell _ (by omega) (by omega) (by omega)]; exact q2
    · rw [bin_ne (by omega), lay_at ⟨j0, j1⟩]; exact h4 j j0 j1
    · rw [(hk (c + 1) ⟨by omega, by omega⟩).2.1, q4]
      exact (pkF_congr (cell _ (by omega) (by omega) (by omega)) (hw.2.2.1 j j0 j1).2.2.2.1.2 (fun i i0 i1 => cell _ (by omega) (by omega) (by omega))).symm
set_option maxRecDepth 100000 in
set_option maxHeartbeats 4000000 in
theorem x_take {μ : Mem} {G : Gh} {p pd c cd : Nat} (hX : InX μ G p pd c cd) (hTO : TabOK μ p c (gRow G)) {i : Int} (hi : -2147483648 ≤ i ∧ i < 2147483648)  : IMet yX11_take gX11_take SH [vR 0, vI i] μ (fun x μ2 => x = (takeF G i).1 ∧ XT μ μ2 (takeF G i).2 p pd c cd) := by
  obtain ⟨hL, hPos, ⟨hP, hC, hw, h99⟩, hH, ⟨hi0, hi1⟩, hT, hFk, hTm⟩ := id hX
  obtain ⟨hp0, hc0, r2, r3, r4, r5⟩ := id hPos
  have rr9 := hL.r0_9
  have x0 : SH[0]? = some (10, 11) := rfl
  have x172 : SH[172]? = some (7, 15) := rfl
  have hn := hw.1.1
  unfold WFn at hn
  have hc5 : c = 50 ∨ c = 56 := by omega
  have hp4 : p = 4 ∨ p = 27 := by omega
  refine AMet.of (by decide) rfl (by decide) rfl ?_
  refine r_aload_n dX11_take_0 rfl ?_
  refine r_cV0O dX11_take_1 ml_X11_244 yl_X11_freshTable ⟨rfl, rfl⟩ (by assumption) ⟨_, rfl⟩ rfl rfl rfl rfl (x_freshTable hX hTO) ?_
  rintro μ3 hq
  have rr93 : μ3.2.2 0 9 = some 172 := by rw [hq.2.1 _ _ (by omega)]; exact rr9
  have r23 : μ3.2.2 0 2 = some p := by rw [hq.2.1 _ _ (by omega)]; exact r2
  have r43 : μ3.2.2 0 4 = some c := by rw [hq.2.1 _ _ (by omega)]; exact r4
  have hX3 := hX.tab hq
  have hP3 := hX3.2.2.1.1
  have hC3 := hX3.2.2.1.2.1
  have hIC3 := hC3.1
  have hx5 := hIC3.1
  have hxp := hP3.1.1
  have hT3 := hX3.1.tab
  have hM := hq.2.2.2.2
  have hW3 := hM.2.2.2
  have hXT := hX.xt hq
  refine r_iload_n dX11_take_4 rfl ?_
  refine r_cV1F1 dX11_take_5 ml_X11_251 yl_X8_rowOf ⟨rfl, rfl⟩ (by assumption) ⟨_, rfl⟩ rfl rfl rfl rfl (c_rowOf hT3 hW3 hi) ?_
  refine r_istore_n dX11_take_8 rfl ?_
  rcases tab_at hw i with ⟨hr0, hng⟩ | ⟨r, e, hr0, he, hgi, hg1, hg2, hm, hr7⟩
  · refine r_iload_n dX11_take_9 rfl ?_
    refine r_iconst dX11_take_10 ?_
    refine q_icmp_ne (tgt := 16) dX11_take_11 rfl (by omega) (by omega) (fun c11 => ?_) (fun c11 => ?_)
    · exact absurd hr0 c11
    · refine r_iconst dX11_take_14 ?_
      refine r_ireturn dX11_take_15 rfl rfl rfl ?_
      refine ⟨rfl, _, rfl, ?_, ?_⟩
      · unfold takeF; rw [if_neg hng]
      · unfold takeF; rw [if_neg hng]; exact hXT
  · rw [hr0]
    have rr63 := hX3.1.r0_6
    have hH3 := hX3.2.2.2.1
    have x62 : SH[62]? = some (2, 3) := rfl
    refine r_iload_n dX11_take_9 rfl ?_
    refine r_iconst dX11_take_10 ?_
    refine q_icmp_ne (tgt := 16) dX11_take_11 rfl (by omega) (by omega) (fun c11 => ?_) (fun c11 => ?_)
    · refine r_aload_n dX11_take_16 rfl ?_
      refine r_getR dX11_take_17 fl_X11_39 rfl (by assumption) (by assumption) ?_
      refine r_aload_n dX11_take_20 rfl ?_
      refine r_getR dX11_take_21 fl_X11_29 rfl (by assumption) (by assumption) ?_
      refine r_cV1F0 dX11_take_24 ml_X11_213 yl_X2_keep ⟨rfl, rfl⟩ (by assumption) ⟨_, rfl⟩ rfl rfl rfl rfl (c_keep hX3.1 hc5 hIC3 hH3.2.2.1 (by have := hH3.2.1; have := hH3.1; omega)) ?_
      have hC3k : RelC SH (kpX μ3 c) c (gRow G) := hC3.mono ((Kp.rf _ μ3).kx (fun q q0 q1 => by (try dsimp only); omega) hH3.2.2.1)
      have hHk := hH3.keep hX3.1 hc5 hC3 hw h99
      have hKk : Kp (fun q => ¬ (62 ≤ q ∧ q < 112)) μ3 (kpX μ3 c) := (Kp.rf _ μ3).kx (fun q q0 q1 => by (try dsimp only); omega) hH3.2.2.1
      have hCk := hC3k
      have hPk : RelP SH (kpX μ3 c) p (gRow G) := hP3.mono (hKk.mono (fun q hq => by (try dsimp only at *); omega))
      have hgs := gAt_spec (ρ := gRow G) (by omega) hgi
      rw [hg1, hg2] at hgs
      have had : ∃ a : Int, a = e.2.1 + i - upC (TL (gRow G)) r := ⟨_, rfl⟩
      obtain ⟨a, ha⟩ := had
      rw [← ha] at hgs
      rw [← ha] at hg2
      have lB : ∀ (f n : Nat) (b : Int) (v : Int) (o5 : Option AV) (μ1 : Mem), n < f → 0 ≤ b → b + n = gRow G 7 → Kp (fun q => q ≠ c + 4 ∧ q ≠ c + 5) (kpX μ3 c) μ1 → μ1.2 = (kpX μ3 c).2 → (∀ j, 0 ≤ j → j < gRow G 11 → μ1.1 (c + 4) j = dg (gRow G 11) e.1 j - 1) → (∀ j, 0 ≤ j → j < b → μ1.1 (c + 5) j = if j = 0 then a else gRow G 12 - a) → (∀ j, b ≤ j → μ1.1 (c + 5) j = (kpX μ3 c).1 (c + 5) j) → AW gX11_take SH μ1 0 0 95 [some (vR 0), some (vI i), some (vI (r : Int)), some (vI v), some (vI b), o5] [] (fun r2 sh2 μ2 => sh2 = SH ∧ ∃ x, r2 = some (vI x) ∧ x = v ∧ TkQ (kpX μ3 c) μ2 c (gRow G) e.1 a) := by
        intro f
        induction f with
        | zero => intro n; intros; omega
        | succ f ih =>
          intro n b v o5 μ1 hf hb0 hn2 k1 k2 k3 k4 k5
          have hT1 : IsTab μ1.2.2 := by rw [k2]; exact hT3
          have hW1 : RW μ1 (gRow G 11) (TL (gRow G)) := hW3.ext ((hKk.mono (fun q hq => by (try dsimp only at *); omega)).tr (k1.mono (fun q hq => by (try dsimp only at *); omega)))
          have rr1 : μ1.2.2 0 9 = some 172 := by rw [k2]; exact rr93
          have r21 : μ1.2.2 0 2 = some p := by rw [k2]; exact r23
          have r41 : μ1.2.2 0 4 = some c := by rw [k2]; exact r43
          have hI1 : IsCargo SH μ1.2.2 c := by rw [k2]; exact hIC3
          obtain ⟨g0, g1, g2, g3, g4, g6, s1, s2, s3, s4, s5⟩ := id hI1
          have c0 : μ1.1 c 0 = gRow G 11 := by rw [(k1 c (by (try dsimp only); omega)).1]; exact hCk.2.1
          have c12 : μ1.1 c 5 = gRow G 12 := by rw [(k1 c (by (try dsimp only); omega)).1]; exact hCk.2.2.1
          have p7 : μ1.1 p 4 = gRow G 7 := by rw [(k1 p (by (try dsimp only); omega)).1]; exact hPk.2.2.2.2.2.1
          refine r_iload dX11_take_95 rfl ?_
          refine r_aload_n dX11_take_97 rfl ?_
          refine r_getR dX11_take_98 fl_X11_19 rfl (by assumption) (by assumption) ?_
          refine r_getI dX11_take_101 fl_X11_119 rfl (by assumption) ?_
          rw [p7]
          refine q_icmp_ge (tgt := 134) dX11_take_104 rfl (by omega) (by omega) (fun c104 => ?_) (fun c104 => ?_)
          · refine r_iload_n dX11_take_134 rfl ?_
            refine r_ireturn dX11_take_135 rfl rfl rfl ?_
            refine ⟨rfl, _, rfl, rfl, k1, k2, k3, fun j j0 j1 => k4 j j0 (by omega), fun j j0 => k5 j (by omega)⟩
          · refine r_aload_n dX11_take_107 rfl ?_
            refine r_getR dX11_take_108 fl_X11_29 rfl (by assumption) (by assumption) ?_
            refine r_getR dX11_take_111 fl_X11_195 rfl (by assumption) (by assumption) ?_
            refine r_iload dX11_take_114 rfl ?_
            refine r_aload_n dX11_take_116 rfl ?_
            refine r_getR dX11_take_117 fl_X11_56 rfl (by assumption) (by assumption) ?_
            refine r_iload_n dX11_take_120 rfl ?_
            refine r_iload_n dX11_take_121 rfl ?_
            refine r_iload dX11_take_122 rfl ?_
            refine r_cV3F1 dX11_take_124 ml_X11_258 yl_X8_amountIn ⟨rfl, rfl⟩ (by assumption) ⟨_, rfl⟩ rfl rfl rfl rfl (c_amountIn hT1 hW1 (r := (r : Int)) hi (by omega) (by omega) hI1 (by rw [k2]; exact hM.2.2.1) (e := e) ⟨by omega, he⟩) ?_
            rw [c12, show e.2.1 + i - upC (TL (gRow G)) ((r : Int)).toNat = a from ha.symm]
            refine r_iast dX11_take_127 (by assumption) rfl (by omega) ?_
            refine r_iinc dX11_take_128 rfl rfl ?_
            refine r_goto (tgt := 95) dX11_take_131 rfl ?_
            refine ih (n - 1) (b + 1) _ _ _ (by omega) (by omega) (by omega) (k1.sI (by (try dsimp only); omega)) k2 (fun j j0 j1 => ?_) (fun j j0 j1 => ?_) (fun j j0 => ?_)
            · rw [sI_ne (by omega)]; exact k3 j j0 j1
            · by_cases z : j = b
              · rw [z, sI_at]
              · rw [sI_nj z]; exact k4 j j0 (by omega)
            · rw [sI_nj (by omega)]; exact k5 j (by omega)
      have lK : ∀ (f n : Nat) (k : Int) (v : Int) (o5 : Option AV) (μ1 : Mem), n < f → 0 ≤ k → k + n = gRow G 11 → Kp (fun q => q ≠ c + 4 ∧ q ≠ c + 5) (kpX μ3 c) μ1 → μ1.2 = (kpX μ3 c).2 → (∀ j, 0 ≤ j → j < gRow G 11 → μ1.1 (c + 4) j = if j < k then dg (gRow G 11) e.1 j - 1 else gRow G (93 + j)) → (∀ j, μ1.1 (c + 5) j = (kpX μ3 c).1 (c + 5) j) → AW gX11_take SH μ1 0 0 32 [some (vR 0), some (vI i), some (vI (r : Int)), some (vI v), some (vI k), o5] [] (fun r2 sh2 μ2 => sh2 = SH ∧ ∃ x, r2 = some (vI x) ∧ x = v + sumF (fun k => if gRow G (93 + k) = dg (gRow G 11) e.1 k - 1 then 0 else 1) n k ∧ TkQ (kpX μ3 c) μ2 c (gRow G) e.1 a) := by
        intro f
        induction f with
        | zero => intro n; intros; omega
        | succ f ih =>
          intro n k v o5 μ1 hf hk0 hn2 k1 k2 k3 k4
          have hT1 : IsTab μ1.2.2 := by rw [k2]; exact hT3
          have hW1 : RW μ1 (gRow G 11) (TL (gRow G)) := hW3.ext ((hKk.mono (fun q hq => by (try dsimp only at *); omega)).tr (k1.mono (fun q hq => by (try dsimp only at *); omega)))
          have rr1 : μ1.2.2 0 9 = some 172 := by rw [k2]; exact rr93
          have r21 : μ1.2.2 0 2 = some p := by rw [k2]; exact r23
          have r41 : μ1.2.2 0 4 = some c := by rw [k2]; exact r43
          have hI1 : IsCargo SH μ1.2.2 c := by rw [k2]; exact hIC3
          obtain ⟨g0, g1, g2, g3, g4, g6, s1, s2, s3, s4, s5⟩ := id hI1
          have c0 : μ1.1 c 0 = gRow G 11 := by rw [(k1 c (by (try dsimp only); omega)).1]; exact hCk.2.1
          have c12 : μ1.1 c 5 = gRow G 12 := by rw [(k1 c (by (try dsimp only); omega)).1]; exact hCk.2.2.1
          have p7 : μ1.1 p 4 = gRow G 7 := by rw [(k1 p (by (try dsimp only); omega)).1]; exact hPk.2.2.2.2.2.1
          refine r_iload dX11_take_32 rfl ?_
          refine r_aload_n dX11_take_34 rfl ?_
          refine r_getR dX11_take_35 fl_X11_29 rfl (by assumption) (by assumption) ?_
          refine r_getI dX11_take_38 fl_X11_110 rfl (by assumption) ?_
          rw [c0]
          refine q_icmp_ge (tgt := 92) dX11_take_41 rfl (by omega) (by omega) (fun c41 => ?_) (fun c41 => ?_)
          · refine r_iconst dX11_take_92 ?_
            refine r_istore dX11_take_93 rfl ?_
            obtain rfl : n = 0 := by omega
            refine AW.mono (lB _ (gRow G 7).toNat 0 v _ μ1 (Nat.lt_succ_self _) (by omega) (by omega) k1 k2 (fun j j0 j1 => by rw [k3 j j0 j1, if_pos (by omega)]) (fun j j0 j1 => by omega) (fun j _ => k4 j)) ?_
            rintro r2 sh2 μ2 ⟨h1, x, h2, h3, h4⟩
            exact ⟨h1, x, h2, by rw [h3, sumF]; omega, h4⟩
          · obtain ⟨m, rfl⟩ : ∃ q, n = q + 1 := ⟨n - 1, by omega⟩
            have dk := dg_rng (gRow G 11) e.1 k
            have pk := (hw.2.2.1 k (by omega) (by omega)).2.2.1
            refine r_aload_n dX11_take_44 rfl ?_
            refine r_getR dX11_take_45 fl_X11_56 rfl (by assumption) (by assumption) ?_
            refine r_iload_n dX11_take_48 rfl ?_
            refine r_iload dX11_take_49 rfl ?_
            refine r_cV2F1 dX11_take_51 ml_X11_254 yl_X8_spotIn ⟨rfl, rfl⟩ (by assumption) ⟨_, rfl⟩ rfl rfl rfl rfl (c_spotIn hT1 hW1 (r := (r : Int)) (by omega) (by omega) (by omega) (fun i e he => (TL_mem hw (List.mem_of_getElem? he)).2.2) (e := e) ⟨by omega, he⟩ ⟨by omega, by omega⟩) ?_
            refine r_istore dX11_take_54 rfl ?_
            refine r_aload_n dX11_take_56 rfl ?_
            refine r_getR dX11_take_57 fl_X11_29 rfl (by assumption) (by assumption) ?_
            refine r_getR dX11_take_60 fl_X11_155 rfl (by assumption) (by assumption) ?_
            refine r_iload dX11_take_63 rfl ?_
            refine r_iald dX11_take_65 (by assumption) rfl (by omega) ?_
            rw [k3 k (by omega) (by omega), if_neg (by omega)]
            refine r_iload dX11_take_66 rfl ?_
            refine q_icmp_eq (tgt := 74) dX11_take_68 rfl (by omega) (by omega) (fun c68 => ?_) (fun c68 => ?_)
            · refine r_aload_n dX11_take_74 rfl ?_
              refine r_getR dX11_take_75 fl_X11_29 rfl (by assumption) (by assumption) ?_
              refine r_getR dX11_take_78 fl_X11_155 rfl (by assumption) (by assumption) ?_
              refine r_iload dX11_take_81 rfl ?_
              refine r_iload dX11_take_83 rfl ?_
              refine r_iast dX11_take_85 (by assumption) rfl (by omega) ?_
              refine r_iinc dX11_take_86 rfl rfl ?_
              refine r_goto (tgt := 32) dX11_take_89 rfl ?_
              refine AW.mono (ih m (k + 1) _ _ _ (by omega) (by omega) (by omega) (k1.sI (by (try dsimp only); omega)) k2 (fun j j0 j1 => ?_) (fun j => ?_)) ?_
              · by_cases z : j = k
                · rw [z, sI_at, if_pos (by omega)]
                · rw [sI_nj z, k3 j j0 j1]
                  by_cases y : j < k
                  · rw [if_pos y, if_pos (by omega)]
                  · rw [if_neg y, if_neg (by omega)]
              · rw [sI_ne (by omega)]; exact k4 j
              · rintro r2 sh2 μ2 ⟨h1, x, h2, h3, h4⟩
                refine ⟨h1, x, h2, ?_, h4⟩
                rw [h3, sumF]
                first
                | (rw [if_pos (by omega)]; omega)
                | (rw [if_neg (by omega)]; omega)
            · refine r_iinc dX11_take_71 rfl rfl ?_
              refine r_aload_n dX11_take_74 rfl ?_
              refine r_getR dX11_take_75 fl_X11_29 rfl (by assumption) (by assumption) ?_
              refine r_getR dX11_take_78 fl_X11_155 rfl (by assumption) (by assumption) ?_
              refine r_iload dX11_take_81 rfl ?_
              refine r_iload dX11_take_83 rfl ?_
              refine r_iast dX11_take_85 (by assumption) rfl (by omega) ?_
              refine r_iinc dX11_take_86 rfl rfl ?_
              refine r_goto (tgt := 32) dX11_take_89 rfl ?_
              refine AW.mono (ih m (k + 1) _ _ _ (by omega) (by omega) (by omega) (k1.sI (by (try dsimp only); omega)) k2 (fun j j0 j1 => ?_) (fun j => ?_)) ?_
              · by_cases z : j = k
                · rw [z, sI_at, if_pos (by omega)]
                · rw [sI_nj z, k3 j j0 j1]
                  by_cases y : j < k
                  · rw [if_pos y, if_pos (by omega)]
                  · rw [if_neg y, if_neg (by omega)]
              · rw [sI_ne (by omega)]; exact k4 j
              · rintro r2 sh2 μ2 ⟨h1, x, h2, h3, h4⟩
                refine ⟨h1, x, h2, ?_, h4⟩
                rw [h3, sumF]
                first
                | (rw [if_pos (by omega)]; omega)
                | (rw [if_neg (by omega)]; omega)
      refine r_iconst dX11_take_27 ?_
      refine r_istore_n dX11_take_28 rfl ?_
      refine r_iconst dX11_take_29 ?_
      refine r_istore dX11_take_30 rfl ?_
      refine AW.mono (lK _ (gRow G 11).toNat 0 0 _ _ (Nat.lt_succ_self _) (by omega) (by omega) (Kp.rf _ _) rfl (fun j j0 j1 => by rw [if_neg (by omega)]; exact (hCk.2.2.2.2.2 j j0 j1).2.2.1) (fun j => rfl)) ?_
      rintro r2 sh2 μ2 ⟨rfl, x, rfl, rfl, hTk⟩
      have hgo := hgs.2.2.2.2
      unfold goodN at hgo
      rw [Bool.and_eq_true] at hgo
      have hRC := hTk.rel hCk hw hgs.2.1.1 hgo.1
      have hWF := hw.whole hgs.2.2.2.1 hgs.2.1.1 hgo.1
      have hKK : Kp (fun q => ¬ (62 ≤ q ∧ q < 112) ∧ q ≠ c + 4 ∧ q ≠ c + 5) μ3 μ2 := (hKk.mono (fun q hq => by (try dsimp only at *); omega)).tr (hTk.1.mono (fun q hq => by (try dsimp only at *); omega))
      have hpe : PlEq (gRow G) (binR (layR (gRow G) e.1) a) := (lay_Pl _ _ (by omega)).tr (bin_Pl _ a)
      have cell : ∀ j, ¬ (93 ≤ j ∧ j < 98) → j ≠ 51 → j ≠ 52 → binR (layR (gRow G) e.1) a j = gRow G j := fun j h1 h2 h3 => by rw [bin_ne ⟨h2, h3⟩, lay_ne (by omega)]
      have h992 : W99 (binR (layR (gRow G) e.1) a) := fun k k0 k1 => by
        rw [cell 11 (by omega) (by omega) (by omega)] at k1
        rw [cell _ (by omega) (by omega) (by omega)]
        exact h99 k k0 k1
      have hXf := hX3.cargo (μ2 := μ2) (us' := (gRow G :: gUnd G).take 8) (ρ' := binR (layR (gRow G) e.1) a) (by rw [hTk.2.1]; rfl) (hKK.mono (fun q hq => by (try dsimp only at *); omega)) hRC hpe hWF h992 ((hHk.mono (hTk.1.mono (fun q hq => by (try dsimp only at *); omega))).row hpe)
      refine ⟨rfl, _, rfl, ?_, ?_⟩
      · unfold takeF
        rw [if_pos hgi, hg1]
        show 0 + _ = _
        rw [Int.zero_add]
        rfl
      · unfold takeF
        rw [if_pos hgi, hg1, hg2]
        refine ⟨hXf, hXT.2.1.tr (hKK.mono (fun q hq => by (try dsimp only at *); omega)), ?_⟩
        refine hXT.2.2.kept hw.1 (Or.inl ⟨hKK.mono (fun q hq => by (try dsimp only at *); omega), fun j h1 h2 h3 => cell j h1 h2 h3⟩) (by rw [hTk.2.1]; rfl)
    · exact absurd c11 (by omega)
