/-! 63.refgood2: what is asked of good loadings, in the reference (wip/whole/src/63_refgood2.py) -/
def gAt (ρ : Row) (i : Int) : Int := (GL ρ).getD i.toNat 0
abbrev isG (ρ : Row) (i : Int) : Prop := 0 ≤ i ∧ i < ((GL ρ).length : Int)
def loadF (ρ : Row) (i k : Int) : Int := if (0 ≤ k ∧ k < ρ 11) ∧ isG ρ i then dg (ρ 11) (gAt ρ i / 200) k - 1 else -1
def pourdF (ρ : Row) (i b : Int) : Int := if (0 ≤ b ∧ b < ρ 7) ∧ isG ρ i then (if b = 0 then gAt ρ i % 200 else ρ 12 - gAt ρ i % 200) else -1
def takeN (ρ : Row) (c : Int) : Int := sumF (fun k => if ρ (93 + k) = dg (ρ 11) c k - 1 then 0 else 1) (ρ 11).toNat 0
def takeF (G : Gh) (i : Int) : Int × Gh := if isG (gRow G) i then (takeN (gRow G) (gAt (gRow G) i / 200), setRow (keepG G) (binR (layR (gRow G) (gAt (gRow G) i / 200)) (gAt (gRow G) i % 200))) else (-1, G)
theorem gN_mem {ρ : Row} {c x : Int} : ∀ (k : Nat) (n : Int), x ∈ gN ρ c k n → ∃ j, n ≤ j ∧ j < n + k ∧ x = 200 * c + j ∧ goodN ρ c j = true
  | 0, _, h => absurd h (by simp [gN])
  | k + 1, n, h => by
    rw [gN, List.mem_append] at h
    rcases h with h | h
    · by_cases e : goodN ρ c n = true
      · rw [if_pos e, List.mem_singleton] at h
        exact ⟨n, Int.le_refl _, by omega, h, e⟩
      · rw [if_neg e] at h
        exact absurd h (by simp)
    · obtain ⟨j, j0, j1, j2⟩ := gN_mem k (n + 1) h
      exact ⟨j, by omega, by omega, j2⟩
theorem gAll_mem {ρ : Row} {x : Int} : ∀ (k : Nat) (c : Int), x ∈ gAll ρ k c → ∃ d j, (c ≤ d ∧ d < c + k) ∧ (0 ≤ j ∧ j < 100) ∧ x = 200 * d + j ∧ wholeF (layR ρ d) = true ∧ goodN ρ d j = true
  | 0, _, h => absurd h (by simp [gAll])
  | k + 1, c, h => by
    rw [gAll, List.mem_append] at h
    rcases h with h | h
    · unfold goodsC at h
      by_cases e : wholeF (layR ρ c) = true
      · rw [if_pos e] at h
        obtain ⟨j, j0, j1, j2, j3⟩ := gN_mem 100 0 h
        exact ⟨c, j, ⟨by omega, by omega⟩, ⟨j0, by omega⟩, j2, e, j3⟩
      · rw [if_neg e] at h
        exact absurd h (by simp)
    · obtain ⟨d, j, a, b⟩ := gAll_mem k (c + 1) h
      exact ⟨d, j, by omega, b⟩
theorem gAt_spec {ρ : Row} (hN : 0 ≤ ρ 11 ∧ ρ 11 ≤ 5) {i : Int} (h : isG ρ i) : ((0 ≤ gAt ρ i / 200 ∧ gAt ρ i / 200 < 7 ^ (ρ 11).toNat) ∧ gAt ρ i / 200 < 16807) ∧ (0 ≤ gAt ρ i % 200 ∧ gAt ρ i % 200 < 100) ∧ (0 ≤ gAt ρ i ∧ gAt ρ i < 4000000) ∧ wholeF (layR ρ (gAt ρ i / 200)) = true ∧ goodN ρ (gAt ρ i / 200) (gAt ρ i % 200) = true := by
  unfold isG at h
  have hm : gAt ρ i ∈ GL ρ := by
    unfold gAt
    rw [List.getD_eq_getElem?_getD, List.getElem?_eq_getElem (by omega), Option.getD_some]
    exact List.getElem_mem _
  obtain ⟨d, j, a, b, c, e, f⟩ := gAll_mem _ _ hm
  have hp := pw_cast (ρ 11).toNat
  have hp2 := pw_nat hN
  have hp3 := pw_le hN
  rw [show gAt ρ i / 200 = d by omega, show gAt ρ i % 200 = j by omega]
  exact ⟨⟨⟨a.1, by omega⟩, by omega⟩, b, ⟨by omega, by omega⟩, e, f⟩
theorem GdM.at {m : Nat} {μ : Mem} {ρ : Row} (h : GdM m μ (GL ρ)) {i : Int} (hi : isG ρ i) : μ.1 (m + 10) i = gAt ρ i := by
  unfold isG at hi
  have q := h.2.2 i.toNat (gAt ρ i) (by
    unfold gAt
    rw [List.getD_eq_getElem?_getD, List.getElem?_eq_getElem (by omega), Option.getD_some])
  rw [show ((i.toNat : Nat) : Int) = i by omega] at q
  exact q
theorem m_isGood {sh : Sh} {μ : Mem} {m : Nat} {ρ : Row} (hM : IsModel sh μ.2.2 m) (hr : μ.1 (m + 1) = ρ) (hw : WF ρ) {i : Int} (hi0 : -2147483648 ≤ i ∧ i < 2147483648)  : IMet yX12_isGood gX12_isGood sh [vR m, vI i] μ (fun x μ2 => x = b2i (decide (isG ρ i)) ∧ FG m μ μ2 ∧ μ2.1 (m + 1) = ρ ∧ GdM m μ2 (GL ρ)) := by
  obtain ⟨g0, f1, z1, f2, z2, f3, z3, f4, z4, f5, z5, f6, z6, f7, z7, f8, z8, f9, z9, f10, z10, f11, z11, f12, z12, f13, z13, f14, z14⟩ := id hM
  refine AMet.of (by decide) rfl (by decide) rfl ?_
  refine r_aload_n dX12_isGood_0 rfl ?_
  refine r_cV0N dX12_isGood_1 ml_X12_301 yl_X12_laysGood ⟨rfl, rfl⟩ (by assumption) ⟨_, rfl⟩ rfl rfl rfl rfl (m_laysGood hM hr hw) ?_
  rintro μ1 ⟨hF1, hr1, hG1⟩
  have hM1 : IsModel sh μ1.2.2 m := by rw [hF1.1]; exact hM
  have l26 := hG1.1
  have l7 := hG1.2.1
  clear g0 f1 f2 f3 f4 f5 f6 f7 f8 f9 f10 f11 f12 f13 f14
  obtain ⟨g0, f1, z1, f2, z2, f3, z3, f4, z4, f5, z5, f6, z6, f7, z7, f8, z8, f9, z9, f10, z10, f11, z11, f12, z12, f13, z13, f14, z14⟩ := id hM1
  refine r_iload_n dX12_isGood_4 rfl ?_
  refine r_iconst dX12_isGood_5 ?_
  refine r_aload_n dX12_isGood_6 rfl ?_
  refine r_getI dX12_isGood_7 fl_X12_283 rfl (by assumption) ?_
  (try rw [l26])
  refine r_iconst dX12_isGood_10 ?_
  refine r_isub dX12_isGood_11 ?_
  refine r_cS3F1 dX12_isGood_12 ml_X12_73 yl_X12_isIn ⟨rfl, rfl⟩ rfl rfl rfl rfl (m_isIn hi0 (by omega) (by omega)) ?_
  refine r_zreturn dX12_isGood_15 (by first | exact Or.inl rfl | exact Or.inr rfl | exact b2i_01 _ | omega) rfl rfl rfl ?_
  refine ⟨rfl, _, rfl, ?_, hF1, hr1, hG1⟩
  unfold isG
  congr 1
  rw [Bool.eq_iff_iff, decide_eq_true_eq, decide_eq_true_eq]
  omega
theorem m_loadings {sh : Sh} {μ : Mem} {m : Nat} {ρ : Row} (hM : IsModel sh μ.2.2 m) (hr : μ.1 (m + 1) = ρ) (hw : WF ρ)  : IMet yX12_loadings gX12_loadings sh [vR m] μ (fun x μ2 => x = ((GL ρ).length : Int) ∧ FG m μ μ2 ∧ μ2.1 (m + 1) = ρ) := by
  obtain ⟨g0, f1, z1, f2, z2, f3, z3, f4, z4, f5, z5, f6, z6, f7, z7, f8, z8, f9, z9, f10, z10, f11, z11, f12, z12, f13, z13, f14, z14⟩ := id hM
  refine AMet.of (by decide) rfl (by decide) rfl ?_
  refine r_aload_n dX12_loadings_0 rfl ?_
  refine r_cV0N dX12_loadings_1 ml_X12_301 yl_X12_laysGood ⟨rfl, rfl⟩ (by assumption) ⟨_, rfl⟩ rfl rfl rfl rfl (m_laysGood hM hr hw) ?_
  rintro μ1 ⟨hF1, hr1, hG1⟩
  have hM1 : IsModel sh μ1.2.2 m := by rw [hF1.1]; exact hM
  clear g0 f1 f2 f3 f4 f5 f6 f7 f8 f9 f10 f11 f12 f13 f14
  obtain ⟨g0, f1, z1, f2, z2, f3, z3, f4, z4, f5, z5, f6, z6, f7, z7, f8, z8, f9, z9, f10, z10, f11, z11, f12, z12, f13, z13, f14, z14⟩ := id hM1
  refine r_aload_n dX12_loadings_4 rfl ?_
  refine r_getI dX12_loadings_5 fl_X12_283 rfl (by assumption) ?_
  refine r_ireturn dX12_loadings_8 rfl rfl rfl ?_
  exact ⟨rfl, _, rfl, hG1.1, hF1, hr1⟩
theorem m_loading {sh : Sh} {μ : Mem} {m : Nat} {ρ : Row} (hM : IsModel sh μ.2.2 m) (hr : μ.1 (m + 1) = ρ) (hw : WF ρ) {i k : Int} (hi0 : -2147483648 ≤ i ∧ i < 2147483648) (hk0 : -2147483648 ≤ k ∧ k < 2147483648)  : IMet yX12_loading gX12_loading sh [vR m, vI i, vI k] μ (fun x μ2 => x = loadF ρ i k ∧ FG m μ μ2 ∧ μ2.1 (m + 1) = ρ) := by
  obtain ⟨g0, f1, z1, f2, z2, f3, z3, f4, z4, f5, z5, f6, z6, f7, z7, f8, z8, f9, z9, f10, z10, f11, z11, f12, z12, f13, z13, f14, z14⟩ := id hM
  have hn := hw.1.1
  unfold WFn at hn
  have hwl : WF (μ.1 (m + 1)) := by rw [hr]; exact hw
  refine AMet.of (by decide) rfl (by decide) rfl ?_
  refine r_aload_n dX12_loading_0 rfl ?_
  refine r_iload_n dX12_loading_1 rfl ?_
  refine r_cV1F1 dX12_loading_2 ml_X12_216 yl_X12_isPallet ⟨rfl, rfl⟩ (by assumption) ⟨_, rfl⟩ rfl rfl rfl rfl (m_isPallet hM hwl.wl hk0) ?_
  rw [hr]
  refine r_if_eqB (tgt := 34) dX12_loading_5 rfl (fun c5 => ?_) (fun c5 => ?_)
  · have c5 := of_decide_eq_false c5
    refine r_iconst dX12_loading_34 ?_
    refine r_ireturn dX12_loading_35 rfl rfl rfl ?_
    refine ⟨rfl, _, rfl, ?_⟩
    unfold loadF
    first
    | (rw [if_neg (fun h => c5 h.1)]; exact ⟨rfl, FG.rf _ _, hr⟩)
    | (rw [if_pos ⟨c5, hg⟩]; exact ⟨rfl, hF1, hr1⟩)
    | (have hg : ¬ isG ρ i := fun e => by rw [hx1, decide_eq_true e] at c13; exact absurd c13 (by decide)
       rw [if_neg (fun h => hg h.2)]; exact ⟨rfl, hF1, hr1⟩)
  · have c5 := of_decide_eq_true c5
    refine r_aload_n dX12_loading_8 rfl ?_
    refine r_iload_n dX12_loading_9 rfl ?_
    refine r_cV1I dX12_loading_10 ml_X12_304 yl_X12_isGood ⟨rfl, rfl⟩ (by assumption) ⟨_, rfl⟩ rfl rfl rfl rfl (m_isGood hM hr hw hi0) ?_
    rintro x1 μ1 ⟨hx1, hF1, hr1, hG1⟩
    have x11 := hx1.symm ▸ b2i_01 _
    have hM1 : IsModel sh μ1.2.2 m := by rw [hF1.1]; exact hM
    clear g0 f1 f2 f3 f4 f5 f6 f7 f8 f9 f10 f11 f12 f13 f14
    obtain ⟨g0, f1, z1, f2, z2, f3, z3, f4, z4, f5, z5, f6, z6, f7, z7, f8, z8, f9, z9, f10, z10, f11, z11, f12, z12, f13, z13, f14, z14⟩ := id hM1
    refine q_if_eq (tgt := 34) dX12_loading_13 rfl (by omega) (fun c13 => ?_) (fun c13 => ?_)
    · refine r_iconst dX12_loading_34 ?_
      refine r_ireturn dX12_loading_35 rfl rfl rfl ?_
      refine ⟨rfl, _, rfl, ?_⟩
      unfold loadF
      first
      | (rw [if_neg (fun h => c5 h.1)]; exact ⟨rfl, FG.rf _ _, hr⟩)
      | (rw [if_pos ⟨c5, hg⟩]; exact ⟨rfl, hF1, hr1⟩)
      | (have hg : ¬ isG ρ i := fun e => by rw [hx1, decide_eq_true e] at c13; exact absurd c13 (by decide)
         rw [if_neg (fun h => hg h.2)]; exact ⟨rfl, hF1, hr1⟩)
    · have hg : isG ρ i := by
        by_cases e : isG ρ i
        · exact e
        · rw [hx1, decide_eq_false e] at c13; exact absurd rfl c13
      have hs := gAt_spec (by omega) hg
      have hgl := hG1.2.1
      have hgi : 0 ≤ i ∧ i < ((GL ρ).length : Int) := hg
      refine r_aload_n dX12_loading_16 rfl ?_
      refine r_aload_n dX12_loading_17 rfl ?_
      refine r_getR dX12_loading_18 fl_X12_40 rfl (by assumption) (by assumption) ?_
      refine r_iload_n dX12_loading_21 rfl ?_
      refine r_iald dX12_loading_22 (by assumption) rfl (by omega) ?_
      rw [hG1.at hg]
      refine r_sipush dX12_loading_23 (by decide) ?_
      refine r_idiv dX12_loading_26 (by omega) (by omega) ?_
      rw [Int.tdiv_eq_ediv_of_nonneg hs.2.2.1.1]
      refine r_iload_n dX12_loading_27 rfl ?_
      refine r_cV2F1 dX12_loading_28 ml_X12_307 yl_X12_spotBy ⟨rfl, rfl⟩ (by assumption) ⟨_, rfl⟩ rfl rfl rfl rfl (m_spotBy hM1 hr1 (by omega) ⟨hs.1.1.1, hs.1.2⟩ (by omega)) ?_
      refine r_goto (tgt := 35) dX12_loading_31 rfl ?_
      refine r_ireturn dX12_loading_35 rfl rfl rfl ?_
      refine ⟨rfl, _, rfl, ?_⟩
      unfold loadF
      first
      | (rw [if_neg (fun h => c5 h.1)]; exact ⟨rfl, FG.rf _ _, hr⟩)
      | (rw [if_pos ⟨c5, hg⟩]; exact ⟨rfl, hF1, hr1⟩)
      | (have hg : ¬ isG ρ i := fun e => by rw [hx1, decide_eq_true e] at c13; exact absurd c13 (by decide)
         rw [if_neg (fun h => hg h.2)]; exact ⟨rfl, hF1, hr1⟩)
theorem m_poured {sh : Sh} {μ : Mem} {m : Nat} {ρ : Row} (hM : IsModel sh μ.2.2 m) (hr : μ.1 (m + 1) = ρ) (hw : WF ρ) {i b : Int} (hi0 : -2147483648 ≤ i ∧ i < 2147483648) (hb0 : -2147483648 ≤ b ∧ b < 2147483648)  : IMet yX12_poured gX12_poured sh [vR m, vI i, vI b] μ (fun x μ2 => x = pourdF ρ i b ∧ FG m μ μ2 ∧ μ2.1 (m + 1) = ρ) := by
  obtain ⟨g0, f1, z1, f2, z2, f3, z3, f4, z4, f5, z5, f6, z6, f7, z7, f8, z8, f9, z9, f10, z10, f11, z11, f12, z12, f13, z13, f14, z14⟩ := id hM
  have hn := hw.1.1
  unfold WFn at hn
  refine AMet.of (by decide) rfl (by decide) rfl ?_
  refine r_iload_n dX12_poured_0 rfl ?_
  refine r_iconst dX12_poured_1 ?_
  refine r_aload_n dX12_poured_2 rfl ?_
  refine r_getR dX12_poured_3 fl_X12_7 rfl (by assumption) (by assumption) ?_
  refine r_bipush dX12_poured_6 (by decide) ?_
  refine r_iald dX12_poured_8 (by assumption) rfl (by omega) ?_
  (try rw [hr]); (try rw [hr1])
  refine r_iconst dX12_poured_9 ?_
  refine r_isub dX12_poured_10 ?_
  refine r_cS3F1 dX12_poured_11 ml_X12_73 yl_X12_isIn ⟨rfl, rfl⟩ rfl rfl rfl rfl (m_isIn hb0 (by omega) (by omega)) ?_
  refine r_if_eqB (tgt := 63) dX12_poured_14 rfl (fun c14 => ?_) (fun c14 => ?_)
  · have c14 := of_decide_eq_false c14
    refine r_iconst dX12_poured_63 ?_
    refine r_ireturn dX12_poured_64 rfl rfl rfl ?_
    refine ⟨rfl, _, rfl, ?_⟩
    unfold pourdF
    first
    | (rw [if_neg (fun h => c14 (by omega))]; exact ⟨rfl, FG.rf _ _, hr⟩)
    | (rw [if_pos ⟨by omega, hg⟩]
       first
       | (rw [if_pos (by omega)]; exact ⟨rfl, hF1, hr1⟩)
       | (rw [if_neg (by omega)]; exact ⟨rfl, hF1, hr1⟩))
    | (have hg : ¬ isG ρ i := fun e => by rw [hx1, decide_eq_true e] at c22; exact absurd c22 (by decide)
       rw [if_neg (fun h => hg h.2)]; exact ⟨rfl, hF1, hr1⟩)
  · have c14 := of_decide_eq_true c14
    refine r_aload_n dX12_poured_17 rfl ?_
    refine r_iload_n dX12_poured_18 rfl ?_
    refine r_cV1I dX12_poured_19 ml_X12_304 yl_X12_isGood ⟨rfl, rfl⟩ (by assumption) ⟨_, rfl⟩ rfl rfl rfl rfl (m_isGood hM hr hw hi0) ?_
    rintro x1 μ1 ⟨hx1, hF1, hr1, hG1⟩
    have x11 := hx1.symm ▸ b2i_01 _
    have hM1 : IsModel sh μ1.2.2 m := by rw [hF1.1]; exact hM
    clear g0 f1 f2 f3 f4 f5 f6 f7 f8 f9 f10 f11 f12 f13 f14
    obtain ⟨g0, f1, z1, f2, z2, f3, z3, f4, z4, f5, z5, f6, z6, f7, z7, f8, z8, f9, z9, f10, z10, f11, z11, f12, z12, f13, z13, f14, z14⟩ := id hM1
    refine q_if_eq (tgt := 63) dX12_poured_22 rfl (by omega) (fun c22 => ?_) (fun c22 => ?_)
    · refine r_iconst dX12_poured_63 ?_
      refine r_ireturn dX12_poured_64 rfl rfl rfl ?_
      refine ⟨rfl, _, rfl, ?_⟩
      unfold pourdF
      first
      | (rw [if_neg (fun h => c14 (by omega))]; exact ⟨rfl, FG.rf _ _, hr⟩)
      | (rw [if_pos ⟨by omega, hg⟩]
         first
         | (rw [if_pos (by omega)]; exact ⟨rfl, hF1, hr1⟩)
         | (rw [if_neg (by omega)]; exact ⟨rfl, hF1, hr1⟩))
      | (have hg : ¬ isG ρ i := fun e => by rw [hx1, decide_eq_true e] at c22; exact absurd c22 (by decide)
         rw [if_neg (fun h => hg h.2)]; exact ⟨rfl, hF1, hr1⟩)
    · have hg : isG ρ i := by
        by_cases e : isG ρ i
        · exact e
        · rw [hx1, decide_eq_false e] at c22; exact absurd rfl c22
      have hs := gAt_spec (by omega) hg
      have hgl := hG1.2.1
      have hgi : 0 ≤ i ∧ i < ((GL ρ).length : Int) := hg
      refine r_iload_n dX12_poured_25 rfl ?_
      refine q_if_ne (tgt := 42) dX12_poured_26 rfl (by omega) (fun c26 => ?_) (fun c26 => ?_)
      · refine r_aload_n dX12_poured_42 rfl ?_
        refine r_getR dX12_poured_43 fl_X12_7 rfl (by assumption) (by assumption) ?_
        refine r_bipush dX12_poured_46 (by decide) ?_
        refine r_iald dX12_poured_48 (by assumption) rfl (by omega) ?_
        (try rw [hr]); (try rw [hr1])
        refine r_aload_n dX12_poured_49 rfl ?_
        refine r_getR dX12_poured_50 fl_X12_40 rfl (by assumption) (by assumption) ?_
        refine r_iload_n dX12_poured_53 rfl ?_
        refine r_iald dX12_poured_54 (by assumption) rfl (by omega) ?_
        (try rw [hr]); (try rw [hr1])
        rw [hG1.at hg]
        refine r_sipush dX12_poured_55 (by decide) ?_
        refine r_irem dX12_poured_58 (by omega) (by omega) ?_
        rw [Int.tmod_eq_emod_of_nonneg hs.2.2.1.1]
        refine r_isub dX12_poured_59 ?_
        refine r_goto (tgt := 64) dX12_poured_60 rfl ?_
        refine r_ireturn dX12_poured_64 rfl rfl rfl ?_
        refine ⟨rfl, _, rfl, ?_⟩
        unfold pourdF
        first
        | (rw [if_neg (fun h => c14 (by omega))]; exact ⟨rfl, FG.rf _ _, hr⟩)
        | (rw [if_pos ⟨by omega, hg⟩]
           first
           | (rw [if_pos (by omega)]; exact ⟨rfl, hF1, hr1⟩)
           | (rw [if_neg (by omega)]; exact ⟨rfl, hF1, hr1⟩))
        | (have hg : ¬ isG ρ i := fun e => by rw [hx1, decide_eq_true e] at c22; exact absurd c22 (by decide)
           rw [if_neg (fun h => hg h.2)]; exact ⟨rfl, hF1, hr1⟩)
      · refine r_aload_n dX12_poured_29 rfl ?_
        refine r_getR dX12_poured_30 fl_X12_40 rfl (by assumption) (by assumption) ?_
        refine r_iload_n dX12_poured_33 rfl ?_
        refine r_iald dX12_poured_34 (by assumption) rfl (by omega) ?_
        (try rw [hr]); (try rw [hr1])
        rw [hG1.at hg]
        refine r_sipush dX12_poured_35 (by decide) ?_
        refine r_irem dX12_poured_38 (by omega) (by omega) ?_
        rw [Int.tmod_eq_emod_of_nonneg hs.2.2.1.1]
        refine r_goto (tgt := 64) dX12_poured_39 rfl ?_
        refine r_ireturn dX12_poured_64 rfl rfl rfl ?_
        refine ⟨rfl, _, rfl, ?_⟩
        unfold pourdF
        first
        | (rw [if_neg (fun h => c14 (by omega))]; exact ⟨rfl, FG.rf _ _, hr⟩)
        | (rw [if_pos ⟨by omega, hg⟩]
           first
           | (rw [if_pos (by omega)]; exact ⟨rfl, hF1, hr1⟩)
           | (rw [if_neg (by omega)]; exact ⟨rfl, hF1, hr1⟩))
        | (have hg : ¬ isG ρ i := fun e => by rw [hx1, decide_eq_true e] at c22; exact absurd c22 (by decide)
           rw [if_neg (fun h => hg h.2)]; exact ⟨rfl, hF1, hr1⟩)
theorem McR.row {m : Nat} {μ : Mem} (ρ : Row) : McR m μ (wRow μ m ρ) := ⟨fun i hi => congrFun (wRow_ne (by omega)) i, wRow_ne (by omega), wRow_ne (by omega), wRow_ne (by omega), wRow_ne (by omega), wRow_ne (by omega)⟩
theorem m_take {sh : Sh} {μ : Mem} {m : Nat} {G : Gh} (hI : InM sh m μ G) (hw : WF (gRow G)) {i : Int} (hi0 : -2147483648 ≤ i ∧ i < 2147483648)  : IMet yX12_take gX12_take sh [vR m, vI i] μ (fun x μ2 => x = (takeF G i).1 ∧ MS sh m μ μ2 (takeF G i).2) := by
  have hM := hI.1
  have hr := hI.2.1.1
  obtain ⟨g0, f1, z1, f2, z2, f3, z3, f4, z4, f5, z5, f6, z6, f7, z7, f8, z8, f9, z9, f10, z10, f11, z11, f12, z12, f13, z13, f14, z14⟩ := id hM
  have hn := hw.1.1
  unfold WFn at hn
  have h49 : 0 < gRow G 7 → 0 ≤ gRow G 49 ∧ gRow G 49 ≤ 99 := fun h => by
    have := ((hw.2.1 0 (by omega) (by omega)).1 h).2.1
    rw [show (49 : Int) + 0 = 49 from rfl] at this
    omega
  have h50 : 1 < gRow G 7 → 0 ≤ gRow G 50 ∧ gRow G 50 ≤ 99 := fun h => by
    have := ((hw.2.1 1 (by omega) (by omega)).1 h).2.1
    rw [show (49 : Int) + 1 = 50 from rfl] at this
    omega
  have lB : ∀ (f n : Nat) (k v : Int) (μ2 : Mem), n < f → 0 ≤ k → k + n = gRow G 11 → MS sh m μ μ2 (keepG G) → μ2.1 (m + 10) i = gAt (gRow G) i → isG (gRow G) i → v + sumF (fun k => if gRow G (93 + k) = dg (gRow G 11) (gAt (gRow G) i / 200) k - 1 then 0 else 1) n k = takeN (gRow G) (gAt (gRow G) i / 200) → AW gX12_take sh μ2 0 0 18 [some (vR m), some (vI i), some (vI v), some (vI k)] [] (fun r2 sh2 μ2 => sh2 = sh ∧ ∃ x, r2 = some (vI x) ∧ x = (takeF G i).1 ∧ MS sh m μ μ2 (takeF G i).2) := by
    intro f
    induction f with
    | zero => intro n; intros; omega
    | succ f ih =>
      intro n k v μ2 hf hk0 hn2 hS h10 hg hv
      have hM2 := hS.1.1
      have hr2 : μ2.1 (m + 1) = gRow G := hS.1.2.1.1
      have hs := gAt_spec (by omega) hg
      have hgi : 0 ≤ i ∧ i < ((GL (gRow G)).length : Int) := hg
      have hgl := GL_len (ρ := gRow G) (by omega)
      obtain ⟨g0, f1, z1, f2, z2, f3, z3, f4, z4, f5, z5, f6, z6, f7, z7, f8, z8, f9, z9, f10, z10, f11, z11, f12, z12, f13, z13, f14, z14⟩ := id hM2
      refine r_iload_n dX12_take_18 rfl ?_
      refine r_aload_n dX12_take_19 rfl ?_
      refine r_getR dX12_take_20 fl_X12_7 rfl (by assumption) (by assumption) ?_
      refine r_bipush dX12_take_23 (by decide) ?_
      refine r_iald dX12_take_25 (by assumption) rfl (by omega) ?_
      (try rw [hr2]); (try rw [h10])
      refine q_icmp_ge (tgt := 70) dX12_take_26 rfl (by omega) (by omega) (fun c26 => ?_) (fun c26 => ?_)
      · refine r_aload_n dX12_take_70 rfl ?_
        refine r_aload_n dX12_take_71 rfl ?_
        refine r_getR dX12_take_72 fl_X12_40 rfl (by assumption) (by assumption) ?_
        refine r_iload_n dX12_take_75 rfl ?_
        refine r_iald dX12_take_76 (by assumption) rfl (by omega) ?_
        (try rw [hr2]); (try rw [h10])
        refine r_sipush dX12_take_77 (by decide) ?_
        refine r_idiv dX12_take_80 (by omega) (by omega) ?_
        rw [Int.tdiv_eq_ediv_of_nonneg hs.2.2.1.1]
        refine r_cV1F0 dX12_take_81 ml_X12_289 yl_X12_lays ⟨rfl, rfl⟩ (by assumption) ⟨_, rfl⟩ rfl rfl rfl rfl (m_lays hM2 hr2 (by omega) ⟨hs.1.1.1, hs.1.2⟩) ?_
        refine r_aload_n dX12_take_84 rfl ?_
        refine r_aload_n dX12_take_85 rfl ?_
        refine r_getR dX12_take_86 fl_X12_40 rfl (by assumption) (by assumption) ?_
        refine r_iload_n dX12_take_89 rfl ?_
        refine r_iald dX12_take_90 (by assumption) rfl (by omega) ?_
        (try rw [hr2]); (try rw [h10])
        (try rw [wRow_ne (by omega), h10])
        refine r_sipush dX12_take_91 (by decide) ?_
        refine r_irem dX12_take_94 (by omega) (by omega) ?_
        rw [Int.tmod_eq_emod_of_nonneg hs.2.2.1.1]
        refine r_cV1F1 dX12_take_95 ml_X12_295 yl_X12_pours ⟨rfl, rfl⟩ (by assumption) ⟨_, rfl⟩ rfl rfl rfl rfl (m_pours (μ := wRow μ2 m (layR (gRow G) (gAt (gRow G) i / 200))) (ρ := layR (gRow G) (gAt (gRow G) i / 200)) (n := (gAt (gRow G) i % 200)) hM2 wRow_row (by omega) (by rw [lay_ne (by omega)]; omega) (by rw [lay_ne (by omega)]; omega) (fun h => by rw [lay_ne (by omega)] at h ⊢; exact h49 h) (fun h => by rw [lay_ne (by omega)] at h ⊢; exact h50 h)) ?_
        rw [wRow_w]
        refine r_pop dX12_take_98 rfl ?_
        refine r_iload_n dX12_take_99 rfl ?_
        refine r_ireturn dX12_take_100 rfl rfl rfl ?_
        obtain rfl : n = 0 := by omega
        rw [sumF, Int.add_zero] at hv
        refine ⟨rfl, _, rfl, ?_⟩
        unfold takeF
        rw [if_pos hg]
        refine ⟨hv, ?_⟩
        have hz : ∀ j, ¬ (0 ≤ j ∧ j < 143) → binR (layR (gRow G) (gAt (gRow G) i / 200)) (gAt (gRow G) i % 200) j = 0 := fun j hj => by
          rw [bin_ne (by omega), lay_ne (by omega)]
          exact hI.2.1.2 j hj
        refine ⟨hS.1.mcR (McR.row _) hM2 wRow_row hz, hS.2.1.tr ?_, hS.2.2⟩
        intro q hq
        refine ⟨wRow_ne (by (try dsimp only at hq); omega), rfl, rfl⟩
      · obtain ⟨q, rfl⟩ : ∃ q, n = q + 1 := ⟨n - 1, by omega⟩
        have hlk := (hw.2.2.1 k (by omega) (by omega)).2.2.1
        refine r_iload_n dX12_take_29 rfl ?_
        refine r_aload_n dX12_take_30 rfl ?_
        refine r_getR dX12_take_31 fl_X12_7 rfl (by assumption) (by assumption) ?_
        refine r_bipush dX12_take_34 (by decide) ?_
        refine r_iload_n dX12_take_36 rfl ?_
        refine r_iadd dX12_take_37 ?_
        refine r_iald dX12_take_38 (by assumption) rfl (by omega) ?_
        (try rw [hr2]); (try rw [h10])
        refine r_aload_n dX12_take_39 rfl ?_
        refine r_aload_n dX12_take_40 rfl ?_
        refine r_getR dX12_take_41 fl_X12_40 rfl (by assumption) (by assumption) ?_
        refine r_iload_n dX12_take_44 rfl ?_
        refine r_iald dX12_take_45 (by assumption) rfl (by omega) ?_
        (try rw [hr2]); (try rw [h10])
        refine r_sipush dX12_take_46 (by decide) ?_
        refine r_idiv dX12_take_49 (by omega) (by omega) ?_
        rw [Int.tdiv_eq_ediv_of_nonneg hs.2.2.1.1]
        refine r_iload_n dX12_take_50 rfl ?_
        refine r_cV2F1 dX12_take_51 ml_X12_307 yl_X12_spotBy ⟨rfl, rfl⟩ (by assumption) ⟨_, rfl⟩ rfl rfl rfl rfl (m_spotBy hM2 hr2 (by omega) ⟨hs.1.1.1, hs.1.2⟩ (by omega)) ?_
        refine q_icmp_eq (tgt := 61) dX12_take_54 rfl (by omega) (by have := dg_rng (gRow G 11) (gAt (gRow G) i / 200) k; omega) (fun c54 => ?_) (fun c54 => ?_)
        · refine r_iconst dX12_take_61 ?_
          refine r_iadd dX12_take_62 ?_
          refine r_istore_n dX12_take_63 rfl ?_
          refine r_iinc dX12_take_64 rfl rfl ?_
          refine r_goto (tgt := 18) dX12_take_67 rfl ?_
          refine ih q (k + 1) _ μ2 (by omega) (by omega) (by omega) hS h10 hg ?_
          rw [sumF] at hv
          first
          | (rw [if_pos (by omega)] at hv; omega)
          | (rw [if_neg (by omega)] at hv; omega)
        · refine r_iconst dX12_take_57 ?_
          refine r_goto (tgt := 62) dX12_take_58 rfl ?_
          refine r_iadd dX12_take_62 ?_
          refine r_istore_n dX12_take_63 rfl ?_
          refine r_iinc dX12_take_64 rfl rfl ?_
          refine r_goto (tgt := 18) dX12_take_67 rfl ?_
          refine ih q (k + 1) _ μ2 (by omega) (by omega) (by omega) hS h10 hg ?_
          rw [sumF] at hv
          first
          | (rw [if_pos (by omega)] at hv; omega)
          | (rw [if_neg (by omega)] at hv; omega)
  refine AMet.of (by decide) rfl (by decide) rfl ?_
  refine r_aload_n dX12_take_0 rfl ?_
  refine r_iload_n dX12_take_1 rfl ?_
  refine r_cV1I dX12_take_2 ml_X12_304 yl_X12_isGood ⟨rfl, rfl⟩ (by assumption) ⟨_, rfl⟩ rfl rfl rfl rfl (m_isGood hM hr hw hi0) ?_
  rintro x1 μ1 ⟨hx1, hF1, hr1, hG1⟩
  have x11 := hx1.symm ▸ b2i_01 _
  have hM1 : IsModel sh μ1.2.2 m := by rw [hF1.1]; exact hM
  clear g0 f1 f2 f3 f4 f5 f6 f7 f8 f9 f10 f11 f12 f13 f14
  obtain ⟨g0, f1, z1, f2, z2, f3, z3, f4, z4, f5, z5, f6, z6, f7, z7, f8, z8, f9, z9, f10, z10, f11, z11, f12, z12, f13, z13, f14, z14⟩ := id hM1
  refine q_if_ne (tgt := 10) dX12_take_5 rfl (by omega) (fun c5 => ?_) (fun c5 => ?_)
  · have hg : isG (gRow G) i := by
      by_cases e : isG (gRow G) i
      · exact e
      · rw [hx1, decide_eq_false e] at c5; exact absurd rfl c5
    have hS1 := hF1.ms hI (hr1.trans hr.symm)
    have hI1 := hS1.1
    refine r_aload_n dX12_take_10 rfl ?_
    refine r_cV0N dX12_take_11 ml_X12_228 yl_X12_keeps ⟨rfl, rfl⟩ (by assumption) ⟨_, rfl⟩ rfl rfl rfl rfl (m_keeps hI1) ?_
    rintro μ2 ⟨hS2, hk2, hf2⟩
    have hM2 := hS2.1.1
    clear g0 f1 f2 f3 f4 f5 f6 f7 f8 f9 f10 f11 f12 f13 f14
    obtain ⟨g0, f1, z1, f2, z2, f3, z3, f4, z4, f5, z5, f6, z6, f7, z7, f8, z8, f9, z9, f10, z10, f11, z11, f12, z12, f13, z13, f14, z14⟩ := id hM2
    refine r_iconst dX12_take_14 ?_
    refine r_istore_n dX12_take_15 rfl ?_
    refine r_iconst dX12_take_16 ?_
    refine r_istore_n dX12_take_17 rfl ?_
    exact lB _ (gRow G 11).toNat 0 0 μ2 (Nat.lt_succ_self _) (by omega) (by omega) (hS1.tr hS2) (by rw [(hk2 (m + 10) (by (try dsimp only); omega)).1]; exact hG1.at hg) hg (Int.zero_add _)
  · refine r_iconst dX12_take_8 ?_
    refine r_ireturn dX12_take_9 rfl rfl rfl ?_
    have hg : ¬ isG (gRow G) i := fun e => by rw [hx1, decide_eq_true e] at c5; exact absurd c5 (by decide)
    refine ⟨rfl, _, rfl, ?_⟩
    unfold takeF
    rw [if_neg hg]
    exact ⟨rfl, hF1.ms hI (hr1.trans hr.symm)⟩
