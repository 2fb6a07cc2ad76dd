/-! 62.refgood: good loadings, in the reference (wip/whole/src/62_refgood.py) -/
/-- what the trials may change -/
def FG (m : Nat) (μ μ2 : Mem) : Prop := μ2.2 = μ.2 ∧ (∀ q : Nat, q ≠ m → q ≠ m + 1 → q ≠ m + 9 → q ≠ m + 10 → q ≠ m + 11 → q ≠ m + 12 → q ≠ m + 13 → μ2.1 q = μ.1 q) ∧ ∀ j, ¬ (21 ≤ j ∧ j ≤ 31) → μ2.1 m j = μ.1 m j
theorem FG.rf (m : Nat) (μ : Mem) : FG m μ μ := ⟨rfl, fun _ _ _ _ _ _ _ _ => rfl, fun _ _ => rfl⟩
theorem FG.tr {m : Nat} {a b c : Mem} (h1 : FG m a b) (h2 : FG m b c) : FG m a c := ⟨h2.1.trans h1.1, fun q a1 a2 a3 a4 a5 a6 a7 => (h2.2.1 q a1 a2 a3 a4 a5 a6 a7).trans (h1.2.1 q a1 a2 a3 a4 a5 a6 a7), fun j h => (h2.2.2 j h).trans (h1.2.2 j h)⟩
theorem FG.row {m : Nat} {μ μ2 : Mem} {ρ : Row} (h : FG m μ μ2) : FG m μ (wRow μ2 m ρ) := ⟨h.1, fun q a1 a2 a3 a4 a5 a6 a7 => (wRow_ne a2).trans (h.2.1 q a1 a2 a3 a4 a5 a6 a7), fun j hj => by rw [wRow_ne (by omega)]; exact h.2.2 j hj⟩
theorem FG.sI {m : Nat} {μ μ2 : Mem} (h : FG m μ μ2) {j x : Int} (hj : 21 ≤ j ∧ j ≤ 31) : FG m μ (setI μ2 m j x) := ⟨h.1, fun q a1 a2 a3 a4 a5 a6 a7 => (setI_ne a1).trans (h.2.1 q a1 a2 a3 a4 a5 a6 a7), fun i hi => (sI_nj (by omega)).trans (h.2.2 i hi)⟩
theorem FG.sA {m a : Nat} {μ μ2 : Mem} (h : FG m μ μ2) {j x : Int} (ha : a = m + 9 ∨ a = m + 10 ∨ a = m + 11 ∨ a = m + 12 ∨ a = m + 13) : FG m μ (setI μ2 a j x) := ⟨h.1, fun q a1 a2 a3 a4 a5 a6 a7 => (setI_ne (by omega)).trans (h.2.1 q a1 a2 a3 a4 a5 a6 a7), fun i hi => (sI_ne (by omega)).trans (h.2.2 i hi)⟩
theorem FG.sc {m : Nat} {μ μ2 μ3 : Mem} (h : FG m μ μ2) (hs : Sc m μ2 μ3) : FG m μ μ3 := ⟨hs.1.trans h.1, fun q a1 a2 a3 a4 a5 a6 a7 => (hs.row a1).trans (h.2.1 q a1 a2 a3 a4 a5 a6 a7), fun i hi => (hs.2 m i (by omega)).trans (h.2.2 i hi)⟩
theorem FG.mc {m : Nat} {μ μ2 : Mem} (h : FG m μ μ2) (hr : μ2.1 (m + 1) = μ.1 (m + 1)) : Mc m μ μ2 := ⟨⟨fun i hi => h.2.2 i (by omega), h.2.1 _ (by omega) (by omega) (by omega) (by omega) (by omega) (by omega) (by omega), h.2.1 _ (by omega) (by omega) (by omega) (by omega) (by omega) (by omega) (by omega), h.2.1 _ (by omega) (by omega) (by omega) (by omega) (by omega) (by omega) (by omega), h.2.1 _ (by omega) (by omega) (by omega) (by omega) (by omega) (by omega) (by omega), h.2.1 _ (by omega) (by omega) (by omega) (by omega) (by omega) (by omega) (by omega)⟩, hr⟩
theorem FG.ms {sh : Sh} {m : Nat} {μ μ2 : Mem} {G : Gh} (hI : InM sh m μ G) (h : FG m μ μ2) (hr : μ2.1 (m + 1) = μ.1 (m + 1)) : MS sh m μ μ2 G := ⟨hI.mc (h.mc hr) (by rw [h.1]; exact hI.1), fun q hq => ⟨h.2.1 q (by (try dsimp only at hq); omega) (by (try dsimp only at hq); omega) (by (try dsimp only at hq); omega) (by (try dsimp only at hq); omega) (by (try dsimp only at hq); omega) (by (try dsimp only at hq); omega) (by (try dsimp only at hq); omega), by rw [h.1], by rw [h.1]⟩, h.1⟩
/-- the good ones that are written down -/
def GdM (m : Nat) (μ : Mem) (L : List Int) : Prop := μ.1 m 26 = L.length ∧ L.length ≤ 72000 ∧ ∀ (i : Nat) (x : Int), L[i]? = some x → μ.1 (m + 10) i = x
theorem GdM.of {m : Nat} {μ μ2 : Mem} {L : List Int} (h : GdM m μ L) (h1 : μ2.1 m 26 = μ.1 m 26) (h2 : μ2.1 (m + 10) = μ.1 (m + 10)) : GdM m μ2 L := by
  unfold GdM at *
  rw [h1, h2]
  exact h
theorem GdM.push {m : Nat} {μ : Mem} {L : List Int} (h : GdM m μ L) (hl : L.length < 72000) (x : Int) : GdM m (setI (setI μ (m + 10) L.length x) m 26 (L.length + 1)) (L ++ [x]) := by
  refine ⟨by rw [sI_at, List.length_append]; rfl, by rw [List.length_append]; exact hl, fun i y hy => ?_⟩
  rw [sI_ne (by omega)]
  by_cases e : i = L.length
  · subst e
    rw [List.getElem?_append_right (Nat.le_refl _), Nat.sub_self] at hy
    rw [sI_at]
    exact Option.some.inj hy
  · rw [sI_nj (by omega)]
    have hlt : i < L.length := by
      have := (List.getElem?_eq_some_iff.1 hy).1
      rw [List.length_append] at this
      simp at this
      omega
    rw [List.getElem?_append_left hlt] at hy
    exact h.2.2 i y hy
theorem m_pours {sh : Sh} {μ : Mem} {m : Nat} {ρ : Row} (hM : IsModel sh μ.2.2 m) (hr : μ.1 (m + 1) = ρ) {n : Int} (hn : -1000 ≤ n ∧ n ≤ 1000) (h12 : 0 ≤ ρ 12 ∧ ρ 12 ≤ 198) (h7 : 0 ≤ ρ 7 ∧ ρ 7 ≤ 2) (h49 : 0 < ρ 7 → 0 ≤ ρ 49 ∧ ρ 49 ≤ 99) (h50 : 1 < ρ 7 → 0 ≤ ρ 50 ∧ ρ 50 ≤ 99)  : FMet yX12_pours gX12_pours sh [vR m, vI n] μ (some (vI (b2i (pourOK ρ n)))) (wRow μ m (binR ρ n)) := by
  obtain ⟨g0, f1, z1, f2, z2, f3, z3, f4, z4, f5, z5, f6, z6, f7, z7, f8, z8, f9, z9, f10, z10, f11, z11, f12, z12, f13, z13, f14, z14⟩ := id hM
  have w1 : setI μ (m + 1) 51 n = wRow μ m (rset ρ 51 n) := by rw [← hr, ← wRow_set, wRow_id rfl]
  have hb : ∀ j, (wRow μ m (binR ρ n)).1 (m + 1) j = binR ρ n j := fun j => congrFun wRow_row j
  refine AMet.of (by decide) rfl (by decide) rfl ?_
  refine r_aload_n dX12_pours_0 rfl ?_
  refine r_getR dX12_pours_1 fl_X12_7 rfl (by assumption) (by assumption) ?_
  refine r_bipush dX12_pours_4 (by decide) ?_
  refine r_iload_n dX12_pours_6 rfl ?_
  refine r_iast dX12_pours_7 (by assumption) rfl (by omega) ?_
  rw [w1]
  refine r_aload_n dX12_pours_8 rfl ?_
  refine r_getR dX12_pours_9 fl_X12_7 rfl (by assumption) (by assumption) ?_
  refine r_bipush dX12_pours_12 (by decide) ?_
  refine r_aload_n dX12_pours_14 rfl ?_
  refine r_getR dX12_pours_15 fl_X12_7 rfl (by assumption) (by assumption) ?_
  refine r_bipush dX12_pours_18 (by decide) ?_
  refine r_iald dX12_pours_20 (by assumption) rfl (by omega) ?_
  rw [show (wRow μ m (rset ρ 51 n)).1 (m + 1) 12 = ρ 12 from (congrFun wRow_row 12).trans (rset_ne (by omega))]
  refine r_iload_n dX12_pours_21 rfl ?_
  refine r_isub dX12_pours_22 ?_
  refine r_iast dX12_pours_23 (by assumption) rfl (by omega) ?_
  rw [wRow_set]
  rw [show rset (rset ρ 51 n) 52 (ρ 12 - n) = binR ρ n from rfl]
  refine r_aload_n dX12_pours_24 rfl ?_
  refine r_getR dX12_pours_25 fl_X12_7 rfl (by assumption) (by assumption) ?_
  refine r_bipush dX12_pours_28 (by decide) ?_
  refine r_iald dX12_pours_30 (by assumption) rfl (by omega) ?_
  rw [hb, bin_51]
  refine r_aload_n dX12_pours_31 rfl ?_
  refine r_getR dX12_pours_32 fl_X12_7 rfl (by assumption) (by assumption) ?_
  refine r_bipush dX12_pours_35 (by decide) ?_
  refine r_iald dX12_pours_37 (by assumption) rfl (by omega) ?_
  rw [hb, bin_ne (by omega)]
  refine q_if_le (tgt := 51) dX12_pours_38 rfl (by omega) (fun c38 => ?_) (fun c38 => ?_)
  · refine r_iconst dX12_pours_51 ?_
    refine q_icmp_gt (tgt := 95) dX12_pours_52 rfl (by omega) (by omega) (fun c52 => ?_) (fun c52 => ?_)
    · refine r_iconst dX12_pours_95 ?_
      refine r_zreturn dX12_pours_96 (by first | exact Or.inl rfl | exact Or.inr rfl | exact b2i_01 _ | omega) rfl rfl rfl ?_
      refine ⟨rI ?_, rfl, rfl⟩
      unfold pourOK lim0 lim1
      first
      | (have c88 := of_decide_eq_true c88; (repeat' split) <;> first | (rw [decide_eq_true (by omega)]; rfl) | omega)
      | (have c88 := of_decide_eq_false c88; (repeat' split) <;> first | (rw [decide_eq_false (by omega)]; rfl) | omega)
      | ((repeat' split) <;> first | (rw [decide_eq_false (by omega)]; rfl) | omega)
    · refine r_aload_n dX12_pours_55 rfl ?_
      refine r_getR dX12_pours_56 fl_X12_7 rfl (by assumption) (by assumption) ?_
      refine r_bipush dX12_pours_59 (by decide) ?_
      refine r_iald dX12_pours_61 (by assumption) rfl (by omega) ?_
      rw [hb, bin_52]
      refine r_iconst dX12_pours_62 ?_
      refine r_aload_n dX12_pours_63 rfl ?_
      refine r_getR dX12_pours_64 fl_X12_7 rfl (by assumption) (by assumption) ?_
      refine r_bipush dX12_pours_67 (by decide) ?_
      refine r_iald dX12_pours_69 (by assumption) rfl (by omega) ?_
      rw [hb, bin_ne (by omega)]
      refine r_iconst dX12_pours_70 ?_
      refine q_icmp_le (tgt := 84) dX12_pours_71 rfl (by omega) (by omega) (fun c71 => ?_) (fun c71 => ?_)
      · refine r_iconst dX12_pours_84 ?_
        refine r_cS3F1 dX12_pours_85 ml_X12_73 yl_X12_isIn ⟨rfl, rfl⟩ rfl rfl rfl rfl (m_isIn (by omega) (by omega) (by omega)) ?_
        refine r_if_eqB (tgt := 95) dX12_pours_88 rfl (fun c88 => ?_) (fun c88 => ?_)
        · refine r_iconst dX12_pours_95 ?_
          refine r_zreturn dX12_pours_96 (by first | exact Or.inl rfl | exact Or.inr rfl | exact b2i_01 _ | omega) rfl rfl rfl ?_
          refine ⟨rI ?_, rfl, rfl⟩
          unfold pourOK lim0 lim1
          first
          | (have c88 := of_decide_eq_true c88; (repeat' split) <;> first | (rw [decide_eq_true (by omega)]; rfl) | omega)
          | (have c88 := of_decide_eq_false c88; (repeat' split) <;> first | (rw [decide_eq_false (by omega)]; rfl) | omega)
          | ((repeat' split) <;> first | (rw [decide_eq_false (by omega)]; rfl) | omega)
        · refine r_iconst dX12_pours_91 ?_
          refine r_goto (tgt := 96) dX12_pours_92 rfl ?_
          refine r_zreturn dX12_pours_96 (by first | exact Or.inl rfl | exact Or.inr rfl | exact b2i_01 _ | omega) rfl rfl rfl ?_
          refine ⟨rI ?_, rfl, rfl⟩
          unfold pourOK lim0 lim1
          first
          | (have c88 := of_decide_eq_true c88; (repeat' split) <;> first | (rw [decide_eq_true (by omega)]; rfl) | omega)
          | (have c88 := of_decide_eq_false c88; (repeat' split) <;> first | (rw [decide_eq_false (by omega)]; rfl) | omega)
          | ((repeat' split) <;> first | (rw [decide_eq_false (by omega)]; rfl) | omega)
      · refine r_aload_n dX12_pours_74 rfl ?_
        refine r_getR dX12_pours_75 fl_X12_7 rfl (by assumption) (by assumption) ?_
        refine r_bipush dX12_pours_78 (by decide) ?_
        refine r_iald dX12_pours_80 (by assumption) rfl (by omega) ?_
        rw [hb, bin_ne (by omega)]
        refine r_goto (tgt := 85) dX12_pours_81 rfl ?_
        refine r_cS3F1 dX12_pours_85 ml_X12_73 yl_X12_isIn ⟨rfl, rfl⟩ rfl rfl rfl rfl (m_isIn (by omega) (by omega) (by omega)) ?_
        refine r_if_eqB (tgt := 95) dX12_pours_88 rfl (fun c88 => ?_) (fun c88 => ?_)
        · refine r_iconst dX12_pours_95 ?_
          refine r_zreturn dX12_pours_96 (by first | exact Or.inl rfl | exact Or.inr rfl | exact b2i_01 _ | omega) rfl rfl rfl ?_
          refine ⟨rI ?_, rfl, rfl⟩
          unfold pourOK lim0 lim1
          first
          | (have c88 := of_decide_eq_true c88; (repeat' split) <;> first | (rw [decide_eq_true (by omega)]; rfl) | omega)
          | (have c88 := of_decide_eq_false c88; (repeat' split) <;> first | (rw [decide_eq_false (by omega)]; rfl) | omega)
          | ((repeat' split) <;> first | (rw [decide_eq_false (by omega)]; rfl) | omega)
        · refine r_iconst dX12_pours_91 ?_
          refine r_goto (tgt := 96) dX12_pours_92 rfl ?_
          refine r_zreturn dX12_pours_96 (by first | exact Or.inl rfl | exact Or.inr rfl | exact b2i_01 _ | omega) rfl rfl rfl ?_
          refine ⟨rI ?_, rfl, rfl⟩
          unfold pourOK lim0 lim1
          first
          | (have c88 := of_decide_eq_true c88; (repeat' split) <;> first | (rw [decide_eq_true (by omega)]; rfl) | omega)
          | (have c88 := of_decide_eq_false c88; (repeat' split) <;> first | (rw [decide_eq_false (by omega)]; rfl) | omega)
          | ((repeat' split) <;> first | (rw [decide_eq_false (by omega)]; rfl) | omega)
  · refine r_aload_n dX12_pours_41 rfl ?_
    refine r_getR dX12_pours_42 fl_X12_7 rfl (by assumption) (by assumption) ?_
    refine r_bipush dX12_pours_45 (by decide) ?_
    refine r_iald dX12_pours_47 (by assumption) rfl (by omega) ?_
    rw [hb, bin_ne (by omega)]
    refine r_goto (tgt := 52) dX12_pours_48 rfl ?_
    refine q_icmp_gt (tgt := 95) dX12_pours_52 rfl (by omega) (by omega) (fun c52 => ?_) (fun c52 => ?_)
    · refine r_iconst dX12_pours_95 ?_
      refine r_zreturn dX12_pours_96 (by first | exact Or.inl rfl | exact Or.inr rfl | exact b2i_01 _ | omega) rfl rfl rfl ?_
      refine ⟨rI ?_, rfl, rfl⟩
      unfold pourOK lim0 lim1
      first
      | (have c88 := of_decide_eq_true c88; (repeat' split) <;> first | (rw [decide_eq_true (by omega)]; rfl) | omega)
      | (have c88 := of_decide_eq_false c88; (repeat' split) <;> first | (rw [decide_eq_false (by omega)]; rfl) | omega)
      | ((repeat' split) <;> first | (rw [decide_eq_false (by omega)]; rfl) | omega)
    · refine r_aload_n dX12_pours_55 rfl ?_
      refine r_getR dX12_pours_56 fl_X12_7 rfl (by assumption) (by assumption) ?_
      refine r_bipush dX12_pours_59 (by decide) ?_
      refine r_iald dX12_pours_61 (by assumption) rfl (by omega) ?_
      rw [hb, bin_52]
      refine r_iconst dX12_pours_62 ?_
      refine r_aload_n dX12_pours_63 rfl ?_
      refine r_getR dX12_pours_64 fl_X12_7 rfl (by assumption) (by assumption) ?_
      refine r_bipush dX12_pours_67 (by decide) ?_
      refine r_iald dX12_pours_69 (by assumption) rfl (by omega) ?_
      rw [hb, bin_ne (by omega)]
      refine r_iconst dX12_pours_70 ?_
      refine q_icmp_le (tgt := 84) dX12_pours_71 rfl (by omega) (by omega) (fun c71 => ?_) (fun c71 => ?_)
      · refine r_iconst dX12_pours_84 ?_
        refine r_cS3F1 dX12_pours_85 ml_X12_73 yl_X12_isIn ⟨rfl, rfl⟩ rfl rfl rfl rfl (m_isIn (by omega) (by omega) (by omega)) ?_
        refine r_if_eqB (tgt := 95) dX12_pours_88 rfl (fun c88 => ?_) (fun c88 => ?_)
        · refine r_iconst dX12_pours_95 ?_
          refine r_zreturn dX12_pours_96 (by first | exact Or.inl rfl | exact Or.inr rfl | exact b2i_01 _ | omega) rfl rfl rfl ?_
          refine ⟨rI ?_, rfl, rfl⟩
          unfold pourOK lim0 lim1
          first
          | (have c88 := of_decide_eq_true c88; (repeat' split) <;> first | (rw [decide_eq_true (by omega)]; rfl) | omega)
          | (have c88 := of_decide_eq_false c88; (repeat' split) <;> first | (rw [decide_eq_false (by omega)]; rfl) | omega)
          | ((repeat' split) <;> first | (rw [decide_eq_false (by omega)]; rfl) | omega)
        · refine r_iconst dX12_pours_91 ?_
          refine r_goto (tgt := 96) dX12_pours_92 rfl ?_
          refine r_zreturn dX12_pours_96 (by first | exact Or.inl rfl | exact Or.inr rfl | exact b2i_01 _ | omega) rfl rfl rfl ?_
          refine ⟨rI ?_, rfl, rfl⟩
          unfold pourOK lim0 lim1
          first
          | (have c88 := of_decide_eq_true c88; (repeat' split) <;> first | (rw [decide_eq_true (by omega)]; rfl) | omega)
          | (have c88 := of_decide_eq_false c88; (repeat' split) <;> first | (rw [decide_eq_false (by omega)]; rfl) | omega)
          | ((repeat' split) <;> first | (rw [decide_eq_false (by omega)]; rfl) | omega)
      · refine r_aload_n dX12_pours_74 rfl ?_
        refine r_getR dX12_pours_75 fl_X12_7 rfl (by assumption) (by assumption) ?_
        refine r_bipush dX12_pours_78 (by decide) ?_
        refine r_iald dX12_pours_80 (by assumption) rfl (by omega) ?_
        rw [hb, bin_ne (by omega)]
        refine r_goto (tgt := 85) dX12_pours_81 rfl ?_
        refine r_cS3F1 dX12_pours_85 ml_X12_73 yl_X12_isIn ⟨rfl, rfl⟩ rfl rfl rfl rfl (m_isIn (by omega) (by omega) (by omega)) ?_
        refine r_if_eqB (tgt := 95) dX12_pours_88 rfl (fun c88 => ?_) (fun c88 => ?_)
        · refine r_iconst dX12_pours_95 ?_
          refine r_zreturn dX12_pours_96 (by first | exact Or.inl rfl | exact Or.inr rfl | exact b2i_01 _ | omega) rfl rfl rfl ?_
          refine ⟨rI ?_, rfl, rfl⟩
          unfold pourOK lim0 lim1
          first
          | (have c88 := of_decide_eq_true c88; (repeat' split) <;> first | (rw [decide_eq_true (by omega)]; rfl) | omega)
          | (have c88 := of_decide_eq_false c88; (repeat' split) <;> first | (rw [decide_eq_false (by omega)]; rfl) | omega)
          | ((repeat' split) <;> first | (rw [decide_eq_false (by omega)]; rfl) | omega)
        · refine r_iconst dX12_pours_91 ?_
          refine r_goto (tgt := 96) dX12_pours_92 rfl ?_
          refine r_zreturn dX12_pours_96 (by first | exact Or.inl rfl | exact Or.inr rfl | exact b2i_01 _ | omega) rfl rfl rfl ?_
          refine ⟨rI ?_, rfl, rfl⟩
          unfold pourOK lim0 lim1
          first
          | (have c88 := of_decide_eq_true c88; (repeat' split) <;> first | (rw [decide_eq_true (by omega)]; rfl) | omega)
          | (have c88 := of_decide_eq_false c88; (repeat' split) <;> first | (rw [decide_eq_false (by omega)]; rfl) | omega)
          | ((repeat' split) <;> first | (rw [decide_eq_false (by omega)]; rfl) | omega)
theorem m_keepsLaid {sh : Sh} {μ : Mem} {m : Nat} {ρ : Row} (hM : IsModel sh μ.2.2 m) (hr : μ.1 (m + 1) = ρ)  : VMet yX12_keepsLaid gX12_keepsLaid sh [vR m] μ (fun μ2 => (μ2.2 = μ.2 ∧ ∀ q : Nat, q ≠ m + 9 → μ2.1 q = μ.1 q) ∧ (∀ j, 0 ≤ j → j < 5 → μ2.1 (m + 9) j = ρ (93 + j)) ∧ μ2.1 (m + 9) 5 = ρ 51 ∧ μ2.1 (m + 9) 6 = ρ 52) := by
  obtain ⟨g0, f1, z1, f2, z2, f3, z3, f4, z4, f5, z5, f6, z6, f7, z7, f8, z8, f9, z9, f10, z10, f11, z11, f12, z12, f13, z13, f14, z14⟩ := id hM
  have lB : ∀ (f n : Nat) (k : Int) (μ' : Mem), n < f → 0 ≤ k → k + n = 5 → (μ'.2 = μ.2 ∧ ∀ q : Nat, q ≠ m + 9 → μ'.1 q = μ.1 q) → (∀ j, 0 ≤ j → j < k → μ'.1 (m + 9) j = ρ (93 + j)) → AW gX12_keepsLaid sh μ' 0 0 2 [some (vR m), some (vI k)] [] (fun r2 sh2 μ2 => r2 = none ∧ sh2 = sh ∧ (μ2.2 = μ.2 ∧ ∀ q : Nat, q ≠ m + 9 → μ2.1 q = μ.1 q) ∧ (∀ j, 0 ≤ j → j < 5 → μ2.1 (m + 9) j = ρ (93 + j)) ∧ μ2.1 (m + 9) 5 = ρ 51 ∧ μ2.1 (m + 9) 6 = ρ 52) := by
    intro f
    induction f with
    | zero => intro n; intros; omega
    | succ f ih =>
      intro n k μ' hf hk0 hn2 hk hw1
      have hM1 : IsModel sh μ'.2.2 m := by rw [hk.1]; exact hM
      have h1r : μ'.1 (m + 1) = ρ := (hk.2 _ (by omega)).trans hr
      obtain ⟨g0, f1, z1, f2, z2, f3, z3, f4, z4, f5, z5, f6, z6, f7, z7, f8, z8, f9, z9, f10, z10, f11, z11, f12, z12, f13, z13, f14, z14⟩ := id hM1
      refine r_iload_n dX12_keepsLaid_2 rfl ?_
      refine r_iconst dX12_keepsLaid_3 ?_
      refine q_icmp_ge (tgt := 28) dX12_keepsLaid_4 rfl (by omega) (by omega) (fun c4 => ?_) (fun c4 => ?_)
      · obtain rfl : k = 5 := by omega
        refine r_aload_n dX12_keepsLaid_28 rfl ?_
        refine r_getR dX12_keepsLaid_29 fl_X12_36 rfl (by assumption) (by assumption) ?_
        refine r_iconst dX12_keepsLaid_32 ?_
        refine r_aload_n dX12_keepsLaid_33 rfl ?_
        refine r_getR dX12_keepsLaid_34 fl_X12_7 rfl (by assumption) (by assumption) ?_
        refine r_bipush dX12_keepsLaid_37 (by decide) ?_
        refine r_iald dX12_keepsLaid_39 (by assumption) rfl (by omega) ?_
        (try rw [h1r])
        refine r_iast dX12_keepsLaid_40 (by assumption) rfl (by omega) ?_
        refine r_aload_n dX12_keepsLaid_41 rfl ?_
        refine r_getR dX12_keepsLaid_42 fl_X12_36 rfl (by assumption) (by assumption) ?_
        refine r_bipush dX12_keepsLaid_45 (by decide) ?_
        refine r_aload_n dX12_keepsLaid_47 rfl ?_
        refine r_getR dX12_keepsLaid_48 fl_X12_7 rfl (by assumption) (by assumption) ?_
        refine r_bipush dX12_keepsLaid_51 (by decide) ?_
        refine r_iald dX12_keepsLaid_53 (by assumption) rfl (by omega) ?_
        (try rw [h1r])
        rw [setI_ne (by omega), h1r]
        refine r_iast dX12_keepsLaid_54 (by assumption) rfl (by omega) ?_
        refine r_return dX12_keepsLaid_55 rfl rfl rfl ?_
        refine ⟨rfl, rfl, ⟨hk.1, fun q hq => (setI_ne hq).trans ((setI_ne hq).trans (hk.2 q hq))⟩, fun j j0 j1 => ?_, ?_, ?_⟩
        · rw [sI_nj (by omega), sI_nj (by omega)]; exact hw1 j j0 j1
        · rw [sI_nj (by omega), sI_at]
        · rw [sI_at]
      · refine r_aload_n dX12_keepsLaid_7 rfl ?_
        refine r_getR dX12_keepsLaid_8 fl_X12_36 rfl (by assumption) (by assumption) ?_
        refine r_iload_n dX12_keepsLaid_11 rfl ?_
        refine r_aload_n dX12_keepsLaid_12 rfl ?_
        refine r_getR dX12_keepsLaid_13 fl_X12_7 rfl (by assumption) (by assumption) ?_
        refine r_bipush dX12_keepsLaid_16 (by decide) ?_
        refine r_iload_n dX12_keepsLaid_18 rfl ?_
        refine r_iadd dX12_keepsLaid_19 ?_
        refine r_iald dX12_keepsLaid_20 (by assumption) rfl (by omega) ?_
        (try rw [h1r])
        refine r_iast dX12_keepsLaid_21 (by assumption) rfl (by omega) ?_
        refine r_iinc dX12_keepsLaid_22 rfl rfl ?_
        refine r_goto (tgt := 2) dX12_keepsLaid_25 rfl ?_
        refine ih (n - 1) (k + 1) _ (by omega) (by omega) (by omega) ⟨hk.1, fun q hq => (setI_ne hq).trans (hk.2 q hq)⟩ (fun j j0 j1 => ?_)
        by_cases e : j = k
        · rw [e, sI_at]
        · rw [sI_nj e]; exact hw1 j j0 (by omega)
  refine AMet.of (by decide) rfl (by decide) rfl ?_
  refine r_iconst dX12_keepsLaid_0 ?_
  refine r_istore_n dX12_keepsLaid_1 rfl ?_
  exact lB _ 5 0 μ (Nat.lt_succ_self _) (by omega) (by omega) ⟨rfl, fun _ _ => rfl⟩ (fun j j0 j1 => by omega)
theorem m_laysBack {sh : Sh} {μ : Mem} {m : Nat} {ρ ρ' : Row} (hM : IsModel sh μ.2.2 m) (hr : μ.1 (m + 1) = ρ') (hl : ∀ j, 0 ≤ j → j < 5 → μ.1 (m + 9) j = ρ (93 + j)) (hl5 : μ.1 (m + 9) 5 = ρ 51) (hl6 : μ.1 (m + 9) 6 = ρ 52) (ho : ∀ j, ¬ (93 ≤ j ∧ j < 98) → j ≠ 51 → j ≠ 52 → ρ' j = ρ j)  : FMet yX12_laysBack gX12_laysBack sh [vR m] μ none (wRow μ m ρ) := by
  obtain ⟨g0, f1, z1, f2, z2, f3, z3, f4, z4, f5, z5, f6, z6, f7, z7, f8, z8, f9, z9, f10, z10, f11, z11, f12, z12, f13, z13, f14, z14⟩ := id hM
  have lB : ∀ (f n : Nat) (k : Int), n < f → 0 ≤ k → k + n = 5 → AW gX12_laysBack sh (wRow μ m (fun j => if 93 ≤ j ∧ j < 93 + k then ρ j else ρ' j)) 0 0 2 [some (vR m), some (vI k)] [] (fun r2 sh2 μ2 => r2 = none ∧ sh2 = sh ∧ μ2 = wRow μ m ρ) := by
    intro f
    induction f with
    | zero => intro n; intros; omega
    | succ f ih =>
      intro n k hf hk0 hn2
      refine r_iload_n dX12_laysBack_2 rfl ?_
      refine r_iconst dX12_laysBack_3 ?_
      refine q_icmp_ge (tgt := 28) dX12_laysBack_4 rfl (by omega) (by omega) (fun c4 => ?_) (fun c4 => ?_)
      · obtain rfl : k = 5 := by omega
        refine r_aload_n dX12_laysBack_28 rfl ?_
        refine r_getR dX12_laysBack_29 fl_X12_7 rfl (by assumption) (by assumption) ?_
        refine r_bipush dX12_laysBack_32 (by decide) ?_
        refine r_aload_n dX12_laysBack_34 rfl ?_
        refine r_getR dX12_laysBack_35 fl_X12_36 rfl (by assumption) (by assumption) ?_
        refine r_iconst dX12_laysBack_38 ?_
        refine r_iald dX12_laysBack_39 (by assumption) rfl (by omega) ?_
        rw [wRow_ne (by omega), hl5]
        refine r_iast dX12_laysBack_40 (by assumption) rfl (by omega) ?_
        rw [wRow_set]
        refine r_aload_n dX12_laysBack_41 rfl ?_
        refine r_getR dX12_laysBack_42 fl_X12_7 rfl (by assumption) (by assumption) ?_
        refine r_bipush dX12_laysBack_45 (by decide) ?_
        refine r_aload_n dX12_laysBack_47 rfl ?_
        refine r_getR dX12_laysBack_48 fl_X12_36 rfl (by assumption) (by assumption) ?_
        refine r_bipush dX12_laysBack_51 (by decide) ?_
        refine r_iald dX12_laysBack_53 (by assumption) rfl (by omega) ?_
        rw [wRow_ne (by omega), hl6]
        refine r_iast dX12_laysBack_54 (by assumption) rfl (by omega) ?_
        rw [wRow_set]
        refine r_return dX12_laysBack_55 rfl rfl rfl ?_
        refine ⟨rfl, rfl, congrArg (wRow μ m) (funext fun j => ?_)⟩
        by_cases e1 : j = 52
        · rw [e1, rset_eq]
        by_cases e2 : j = 51
        · rw [e2, rset_ne (by omega), rset_eq]
        rw [rset_ne e1, rset_ne e2]
        by_cases e3 : 93 ≤ j ∧ j < 93 + 5
        · rw [if_pos e3]
        · rw [if_neg e3]; exact ho j (by omega) e2 e1
      · refine r_aload_n dX12_laysBack_7 rfl ?_
        refine r_getR dX12_laysBack_8 fl_X12_7 rfl (by assumption) (by assumption) ?_
        refine r_bipush dX12_laysBack_11 (by decide) ?_
        refine r_iload_n dX12_laysBack_13 rfl ?_
        refine r_iadd dX12_laysBack_14 ?_
        refine r_aload_n dX12_laysBack_15 rfl ?_
        refine r_getR dX12_laysBack_16 fl_X12_36 rfl (by assumption) (by assumption) ?_
        refine r_iload_n dX12_laysBack_19 rfl ?_
        refine r_iald dX12_laysBack_20 (by assumption) rfl (by omega) ?_
        rw [wRow_ne (by omega), hl k (by omega) (by omega)]
        refine r_iast dX12_laysBack_21 (by assumption) rfl (by omega) ?_
        rw [wRow_set]
        refine r_iinc dX12_laysBack_22 rfl rfl ?_
        refine r_goto (tgt := 2) dX12_laysBack_25 rfl ?_
        have h := ih (n - 1) (k + 1) (by omega) (by omega) (by omega)
        rw [show rset (fun j => if 93 ≤ j ∧ j < 93 + k then ρ j else ρ' j) (93 + k) (ρ (93 + k)) = (fun j => if 93 ≤ j ∧ j < 93 + (k + 1) then ρ j else ρ' j) from funext fun j => ?_]
        · exact h
        · by_cases e : j = 93 + k
          · rw [e, rset_eq, if_pos (by omega)]
          · rw [rset_ne e]
            by_cases e2 : 93 ≤ j ∧ j < 93 + k
            · rw [if_pos e2, if_pos (by omega)]
            · rw [if_neg e2, if_neg (by omega)]
  refine AMet.of (by decide) rfl (by decide) rfl ?_
  refine r_iconst dX12_laysBack_0 ?_
  refine r_istore_n dX12_laysBack_1 rfl ?_
  have h := lB _ 5 0 (Nat.lt_succ_self _) (by omega) (by omega)
  have e : wRow μ m (fun j => if 93 ≤ j ∧ j < 93 + 0 then ρ j else ρ' j) = μ := wRow_id (hr.trans (funext fun j => (if_neg (by omega)).symm))
  rw [e] at h
  exact h
theorem allF_congr {p q : Int → Bool} : ∀ (n : Nat) (k : Int), (∀ j, k ≤ j → j < k + n → p j = q j) → allF p n k = allF q n k
  | 0, _, _ => rfl
  | n + 1, k, h => by rw [allF, allF, h k (by omega) (by omega), allF_congr n (k + 1) (fun j a b => h j (by omega) (by omega))]
theorem pw_cast (n : Nat) : ((7 ^ n : Nat) : Int) = 7 ^ n := by push_cast; rfl
set_option maxHeartbeats 2000000 in
theorem m_laysGood {sh : Sh} {μ : Mem} {m : Nat} {ρ : Row} (hM : IsModel sh μ.2.2 m) (hr : μ.1 (m + 1) = ρ) (hw : WF ρ)  : VMet yX12_laysGood gX12_laysGood sh [vR m] μ (fun μ2 => FG m μ μ2 ∧ μ2.1 (m + 1) = ρ ∧ GdM m μ2 (GL ρ)) := by
  obtain ⟨g0, f1, z1, f2, z2, f3, z3, f4, z4, f5, z5, f6, z6, f7, z7, f8, z8, f9, z9, f10, z10, f11, z11, f12, z12, f13, z13, f14, z14⟩ := id hM
  have hn := hw.1.1
  unfold WFn at hn
  have h49 : 0 < ρ 7 → 0 ≤ ρ 49 ∧ ρ 49 ≤ 99 := fun h => by
    have := ((hw.2.1 0 (by omega) (by omega)).1 h).2.1
    rw [show (49 : Int) + 0 = 49 from rfl] at this
    omega
  have h50 : 1 < ρ 7 → 0 ≤ ρ 50 ∧ ρ 50 ≤ 99 := fun h => by
    have := ((hw.2.1 1 (by omega) (by omega)).1 h).2.1
    rw [show (49 : Int) + 1 = 50 from rfl] at this
    omega
  have hstay0 : ∀ c n : Int, wholeF (layR ρ c) = true → brokF (binR (layR ρ c) n) ≠ 0 → brokF (binR (layR ρ c) n) ≠ 7 → ∀ i, brokF (binR (layR ρ c) i) ≠ 0 := fun c n hwh a b i => by
    have hP : WFP (layR ρ c) := (lay_Pl ρ c (by omega)).wfP hw.1 (by rw [lay_11]; omega) (by rw [lay_ne (by omega)]; omega)
    rw [whole_iff (by rw [lay_11]; omega)] at hwh
    exact brok_stays hP.1 hP.2.1 hP.2.2.2.1 (fun k k0 k1 => (hwh k k0 k1).1.2) a b
  have lI : ∀ (f k : Nat) (n may : Int) (o4 : Option AV) (μ' : Mem) (L : List Int) (c : Int) (P : Option AV → Sh → Mem → Prop), k < f → 0 ≤ n → n + k = 100 → (may = 0 ∨ may = 1) → (may = 0 → gN ρ c k n = []) → FG m μ μ' → (∀ j, j ≠ 51 → j ≠ 52 → μ'.1 (m + 1) j = layR ρ c j) → ((∀ j, 0 ≤ j → j < 5 → μ'.1 (m + 9) j = ρ (93 + j)) ∧ μ'.1 (m + 9) 5 = ρ 51 ∧ μ'.1 (m + 9) 6 = ρ 52) → GdM m μ' L → (0 ≤ c ∧ c < 16807) → wholeF (layR ρ c) = true → L.length + (gN ρ c k n).length ≤ 72000 →
      (∀ (o1 o2 o3 : Option AV) (μ2 : Mem), FG m μ μ2 → (∀ j, j ≠ 51 → j ≠ 52 → μ2.1 (m + 1) j = layR ρ c j) → ((∀ j, 0 ≤ j → j < 5 → μ2.1 (m + 9) j = ρ (93 + j)) ∧ μ2.1 (m + 9) 5 = ρ 51 ∧ μ2.1 (m + 9) 6 = ρ 52) → GdM m μ2 (L ++ gN ρ c k n) → AW gX12_laysGood sh μ2 0 0 123 [some (vR m), some (vI c), o1, o2, o3] [] P) → AW gX12_laysGood sh μ' 0 0 38 [some (vR m), some (vI c), some (vI may), some (vI n), o4] [] P := by
    intro f
    induction f with
    | zero => intro k; intros; omega
    | succ f ih =>
      intro k n may o4 μ' L c P hf hn0 hn2 h01 hmay hF hrow hlaid hG hc hwh hlen hC
      have hM1 : IsModel sh μ'.2.2 m := by rw [hF.1]; exact hM
      obtain ⟨g0, f1, z1, f2, z2, f3, z3, f4, z4, f5, z5, f6, z6, f7, z7, f8, z8, f9, z9, f10, z10, f11, z11, f12, z12, f13, z13, f14, z14⟩ := id hM1
      refine r_iload_n dX12_laysGood_38 rfl ?_
      refine r_bipush dX12_laysGood_39 (by decide) ?_
      refine q_icmp_ge (tgt := 123) dX12_laysGood_41 rfl (by omega) (by omega) (fun c41 => ?_) (fun c41 => ?_)
      · have e : gN ρ c k n = [] := by
          first
          | exact hmay (by omega)
          | (obtain rfl : k = 0 := by omega
             rfl)
        rw [e, List.append_nil] at hC
        exact hC _ _ _ _ hF hrow hlaid hG
      · refine r_iload_n dX12_laysGood_44 rfl ?_
        refine q_if_eq (tgt := 123) dX12_laysGood_45 rfl (by omega) (fun c45 => ?_) (fun c45 => ?_)
        · have e : gN ρ c k n = [] := by
            first
            | exact hmay (by omega)
            | (obtain rfl : k = 0 := by omega
               rfl)
          rw [e, List.append_nil] at hC
          exact hC _ _ _ _ hF hrow hlaid hG
        · obtain ⟨q, rfl⟩ : ∃ q, k = q + 1 := ⟨k - 1, by omega⟩
          have c12 : μ'.1 (m + 1) 12 = ρ 12 := (hrow 12 (by omega) (by omega)).trans (lay_ne (by omega))
          have c7 : μ'.1 (m + 1) 7 = ρ 7 := (hrow 7 (by omega) (by omega)).trans (lay_ne (by omega))
          have c49 : μ'.1 (m + 1) 49 = ρ 49 := (hrow 49 (by omega) (by omega)).trans (lay_ne (by omega))
          have c50 : μ'.1 (m + 1) 50 = ρ 50 := (hrow 50 (by omega) (by omega)).trans (lay_ne (by omega))
          have hpo : pourOK (μ'.1 (m + 1)) n = pourOK ρ n := by unfold pourOK lim0 lim1; rw [c12, c7, c49, c50]
          have hbin : binR (μ'.1 (m + 1)) n = binR (layR ρ c) n := by
            funext j
            unfold binR
            rw [c12, lay_ne (j := 12) (by omega)]
            by_cases e1 : j = 52
            · rw [e1, rset_eq, rset_eq]
            by_cases e2 : j = 51
            · rw [e2, rset_ne (show (51 : Int) ≠ 52 by decide), rset_eq, rset_ne (show (51 : Int) ≠ 52 by decide), rset_eq]
            rw [rset_ne e1, rset_ne e2, rset_ne e1, rset_ne e2]
            exact hrow j e2 e1
          refine r_aload_n dX12_laysGood_48 rfl ?_
          refine r_iload_n dX12_laysGood_49 rfl ?_
          refine r_cV1F1 dX12_laysGood_50 ml_X12_295 yl_X12_pours ⟨rfl, rfl⟩ (by assumption) ⟨_, rfl⟩ rfl rfl rfl rfl (m_pours (ρ := μ'.1 (m + 1)) hM1 rfl (by omega) (by rw [c12]; omega) (by rw [c7]; omega) (fun h => by rw [c7] at h; rw [c49]; exact h49 h) (fun h => by rw [c7] at h; rw [c50]; exact h50 h)) ?_
          rw [hpo, hbin]
          refine r_if_neB (tgt := 59) dX12_laysGood_53 rfl (fun c53 => ?_) (fun c53 => ?_)
          · refine r_aload_n dX12_laysGood_59 rfl ?_
            refine r_cV0I dX12_laysGood_60 ml_X12_273 yl_X12_broken ⟨rfl, rfl⟩ (by assumption) ⟨_, rfl⟩ rfl rfl rfl rfl (m_broken (μ := wRow μ' m (binR (layR ρ c) n)) hM1 (by rw [wRow_row]; exact hw.whole hwh hn0 c53)) ?_
            rintro x μ3 ⟨hx, hs3, -⟩
            rw [wRow_row] at hx
            have hbr := brok_rng (binR (layR ρ c) n)
            have hM3 : IsModel sh μ3.2.2 m := by rw [hs3.1]; exact hM1
            have hF3 : FG m μ μ3 := (hF.row).sc hs3
            have hrow3 : ∀ j, j ≠ 51 → j ≠ 52 → μ3.1 (m + 1) j = layR ρ c j := fun j j1 j2 => by rw [hs3.row (by omega), wRow_row]; exact bin_ne ⟨j1, j2⟩
            have hlaid3 : (∀ j, 0 ≤ j → j < 5 → μ3.1 (m + 9) j = ρ (93 + j)) ∧ μ3.1 (m + 9) 5 = ρ 51 ∧ μ3.1 (m + 9) 6 = ρ 52 := by rw [hs3.row (a := m + 9) (by omega), wRow_ne (by omega)]; exact hlaid
            have hG3 : GdM m μ3 L := hG.of ((hs3.2 m 26 (by omega)).trans (congrFun (wRow_ne (by omega)) 26)) ((hs3.row (by omega)).trans (wRow_ne (by omega)))
            have l26 := hG3.1
            clear g0 f1 f2 f3 f4 f5 f6 f7 f8 f9 f10 f11 f12 f13 f14
            obtain ⟨g0, f1, z1, f2, z2, f3, z3, f4, z4, f5, z5, f6, z6, f7, z7, f8, z8, f9, z9, f10, z10, f11, z11, f12, z12, f13, z13, f14, z14⟩ := id hM3
            refine r_istore dX12_laysGood_63 rfl ?_
            refine r_iload dX12_laysGood_65 rfl ?_
            refine q_if_eq (tgt := 77) dX12_laysGood_67 rfl (by omega) (fun c67 => ?_) (fun c67 => ?_)
            · refine r_iconst dX12_laysGood_77 ?_
              refine r_goto (tgt := 82) dX12_laysGood_78 rfl ?_
              refine r_istore_n dX12_laysGood_82 rfl ?_
              refine r_iload dX12_laysGood_83 rfl ?_
              refine q_if_le (tgt := 91) dX12_laysGood_85 rfl (by omega) (fun c85 => ?_) (fun c85 => ?_)
              · have hg : goodN ρ c n = true := by unfold goodN; rw [c53, Bool.true_and]; exact decide_eq_true (by omega)
                have hgs : gN ρ c (q + 1) n = [200 * c + n] ++ gN ρ c q (n + 1) := by rw [gN, hg]; rfl
                have hlt : L.length < 72000 := by
                  rw [hgs, List.length_append] at hlen
                  simp only [List.length_singleton] at hlen
                  omega
                refine r_aload_n dX12_laysGood_91 rfl ?_
                refine r_getR dX12_laysGood_92 fl_X12_40 rfl (by assumption) (by assumption) ?_
                refine r_aload_n dX12_laysGood_95 rfl ?_
                refine r_getI dX12_laysGood_96 fl_X12_283 rfl (by assumption) ?_
                (try rw [l26]); (try simp (disch := omega) only [sI_at, sI_ne, sI_nj, sI_L]); (try rw [l26])
                refine r_sipush dX12_laysGood_99 (by decide) ?_
                refine r_iload_n dX12_laysGood_102 rfl ?_
                refine r_imul dX12_laysGood_103 ?_
                refine r_iload_n dX12_laysGood_104 rfl ?_
                refine r_iadd dX12_laysGood_105 ?_
                refine r_iast dX12_laysGood_106 (by assumption) rfl (by omega) ?_
                refine r_aload_n dX12_laysGood_107 rfl ?_
                refine r_dup dX12_laysGood_108 rfl ?_
                refine r_getI dX12_laysGood_109 fl_X12_283 rfl (by assumption) ?_
                (try rw [l26]); (try simp (disch := omega) only [sI_at, sI_ne, sI_nj, sI_L]); (try rw [l26])
                refine r_iconst dX12_laysGood_112 ?_
                refine r_iadd dX12_laysGood_113 ?_
                refine r_putI dX12_laysGood_114 fl_X12_283 (by assumption) ?_
                refine r_iinc dX12_laysGood_117 rfl rfl ?_
                refine r_goto (tgt := 38) dX12_laysGood_120 rfl ?_
                first
                | (exfalso; omega)
                | (have hg : goodN ρ c n = false := by unfold goodN; rw [c53]; rfl
                   have hgs : gN ρ c (q + 1) n = gN ρ c q (n + 1) := by rw [gN, hg]; rfl
                   rw [hgs] at hC hmay hlen
                   exact ih q (n + 1) _ _ _ L c P (by omega) (by omega) (by omega) h01 hmay (hF.row) (fun j j1 j2 => by rw [wRow_row]; exact bin_ne ⟨j1, j2⟩) (by rw [wRow_ne (by omega)]; exact hlaid) (hG.of (congrFun (wRow_ne (by omega)) 26) (wRow_ne (by omega))) hc hwh hlen hC)
                | (rw [hgs] at hC hlen
                   rw [List.length_append] at hlen
                   simp only [List.length_singleton] at hlen
                   refine ih q (n + 1) 1 _ _ (L ++ [200 * c + n]) c P (by omega) (by omega) (by omega) (Or.inr rfl) (fun h => absurd h (by decide)) ((hF3.sA (by omega)).sI (by omega)) (fun j j1 j2 => by rw [sI_ne (by omega), sI_ne (by omega)]; exact hrow3 j j1 j2) (by rw [setI_ne (by omega), setI_ne (by omega)]; exact hlaid3) (hG3.push (by omega) _) hc hwh (by rw [List.length_append]; simp only [List.length_singleton]; omega) ?_
                   rw [List.append_assoc]
                   exact hC)
                | (have hg : goodN ρ c n = false := by unfold goodN; rw [c53, Bool.true_and]; exact decide_eq_false (by omega)
                   have hgs : gN ρ c (q + 1) n = gN ρ c q (n + 1) := by rw [gN, hg]; rfl
                   rw [hgs] at hC hmay hlen
                   refine ih q (n + 1) _ _ _ L c P (by omega) (by omega) (by omega) (by first | exact Or.inl rfl | exact Or.inr rfl) (fun h => ?_) hF3 hrow3 hlaid3 hG3 hc hwh hlen hC
                   first
                   | exact absurd h (by decide)
                   | exact gN_nil _ _ (fun i _ _ => by
                       unfold goodN
                       rw [decide_eq_false (hstay0 c n hwh (by omega) (by omega) i), Bool.and_false]))
              · refine r_goto (tgt := 117) dX12_laysGood_88 rfl ?_
                refine r_iinc dX12_laysGood_117 rfl rfl ?_
                refine r_goto (tgt := 38) dX12_laysGood_120 rfl ?_
                first
                | (exfalso; omega)
                | (have hg : goodN ρ c n = false := by unfold goodN; rw [c53]; rfl
                   have hgs : gN ρ c (q + 1) n = gN ρ c q (n + 1) := by rw [gN, hg]; rfl
                   rw [hgs] at hC hmay hlen
                   exact ih q (n + 1) _ _ _ L c P (by omega) (by omega) (by omega) h01 hmay (hF.row) (fun j j1 j2 => by rw [wRow_row]; exact bin_ne ⟨j1, j2⟩) (by rw [wRow_ne (by omega)]; exact hlaid) (hG.of (congrFun (wRow_ne (by omega)) 26) (wRow_ne (by omega))) hc hwh hlen hC)
                | (rw [hgs] at hC hlen
                   rw [List.length_append] at hlen
                   simp only [List.length_singleton] at hlen
                   refine ih q (n + 1) 1 _ _ (L ++ [200 * c + n]) c P (by omega) (by omega) (by omega) (Or.inr rfl) (fun h => absurd h (by decide)) ((hF3.sA (by omega)).sI (by omega)) (fun j j1 j2 => by rw [sI_ne (by omega), sI_ne (by omega)]; exact hrow3 j j1 j2) (by rw [setI_ne (by omega), setI_ne (by omega)]; exact hlaid3) (hG3.push (by omega) _) hc hwh (by rw [List.length_append]; simp only [List.length_singleton]; omega) ?_
                   rw [List.append_assoc]
                   exact hC)
                | (have hg : goodN ρ c n = false := by unfold goodN; rw [c53, Bool.true_and]; exact decide_eq_false (by omega)
                   have hgs : gN ρ c (q + 1) n = gN ρ c q (n + 1) := by rw [gN, hg]; rfl
                   rw [hgs] at hC hmay hlen
                   refine ih q (n + 1) _ _ _ L c P (by omega) (by omega) (by omega) (by first | exact Or.inl rfl | exact Or.inr rfl) (fun h => ?_) hF3 hrow3 hlaid3 hG3 hc hwh hlen hC
                   first
                   | exact absurd h (by decide)
                   | exact gN_nil _ _ (fun i _ _ => by
                       unfold goodN
                       rw [decide_eq_false (hstay0 c n hwh (by omega) (by omega) i), Bool.and_false]))
            · refine r_iload dX12_laysGood_70 rfl ?_
              refine r_bipush dX12_laysGood_72 (by decide) ?_
              refine q_icmp_ne (tgt := 81) dX12_laysGood_74 rfl (by omega) (by omega) (fun c74 => ?_) (fun c74 => ?_)
              · refine r_iconst dX12_laysGood_81 ?_
                refine r_istore_n dX12_laysGood_82 rfl ?_
                refine r_iload dX12_laysGood_83 rfl ?_
                refine q_if_le (tgt := 91) dX12_laysGood_85 rfl (by omega) (fun c85 => ?_) (fun c85 => ?_)
                · have hg : goodN ρ c n = true := by unfold goodN; rw [c53, Bool.true_and]; exact decide_eq_true (by omega)
                  have hgs : gN ρ c (q + 1) n = [200 * c + n] ++ gN ρ c q (n + 1) := by rw [gN, hg]; rfl
                  have hlt : L.length < 72000 := by
                    rw [hgs, List.length_append] at hlen
                    simp only [List.length_singleton] at hlen
                    omega
                  refine r_aload_n dX12_laysGood_91 rfl ?_
                  refine r_getR dX12_laysGood_92 fl_X12_40 rfl (by assumption) (by assumption) ?_
                  refine r_aload_n dX12_laysGood_95 rfl ?_
                  refine r_getI dX12_laysGood_96 fl_X12_283 rfl (by assumption) ?_
                  (try rw [l26]); (try simp (disch := omega) only [sI_at, sI_ne, sI_nj, sI_L]); (try rw [l26])
                  refine r_sipush dX12_laysGood_99 (by decide) ?_
                  refine r_iload_n dX12_laysGood_102 rfl ?_
                  refine r_imul dX12_laysGood_103 ?_
                  refine r_iload_n dX12_laysGood_104 rfl ?_
                  refine r_iadd dX12_laysGood_105 ?_
                  refine r_iast dX12_laysGood_106 (by assumption) rfl (by omega) ?_
                  refine r_aload_n dX12_laysGood_107 rfl ?_
                  refine r_dup dX12_laysGood_108 rfl ?_
                  refine r_getI dX12_laysGood_109 fl_X12_283 rfl (by assumption) ?_
                  (try rw [l26]); (try simp (disch := omega) only [sI_at, sI_ne, sI_nj, sI_L]); (try rw [l26])
                  refine r_iconst dX12_laysGood_112 ?_
                  refine r_iadd dX12_laysGood_113 ?_
                  refine r_putI dX12_laysGood_114 fl_X12_283 (by assumption) ?_
                  refine r_iinc dX12_laysGood_117 rfl rfl ?_
                  refine r_goto (tgt := 38) dX12_laysGood_120 rfl ?_
                  first
                  | (exfalso; omega)
                  | (have hg : goodN ρ c n = false := by unfold goodN; rw [c53]; rfl
                     have hgs : gN ρ c (q + 1) n = gN ρ c q (n + 1) := by rw [gN, hg]; rfl
                     rw [hgs] at hC hmay hlen
                     exact ih q (n + 1) _ _ _ L c P (by omega) (by omega) (by omega) h01 hmay (hF.row) (fun j j1 j2 => by rw [wRow_row]; exact bin_ne ⟨j1, j2⟩) (by rw [wRow_ne (by omega)]; exact hlaid) (hG.of (congrFun (wRow_ne (by omega)) 26) (wRow_ne (by omega))) hc hwh hlen hC)
                  | (rw [hgs] at hC hlen
                     rw [List.length_append] at hlen
                     simp only [List.length_singleton] at hlen
                     refine ih q (n + 1) 1 _ _ (L ++ [200 * c + n]) c P (by omega) (by omega) (by omega) (Or.inr rfl) (fun h => absurd h (by decide)) ((hF3.sA (by omega)).sI (by omega)) (fun j j1 j2 => by rw [sI_ne (by omega), sI_ne (by omega)]; exact hrow3 j j1 j2) (by rw [setI_ne (by omega), setI_ne (by omega)]; exact hlaid3) (hG3.push (by omega) _) hc hwh (by rw [List.length_append]; simp only [List.length_singleton]; omega) ?_
                     rw [List.append_assoc]
                     exact hC)
                  | (have hg : goodN ρ c n = false := by unfold goodN; rw [c53, Bool.true_and]; exact decide_eq_false (by omega)
                     have hgs : gN ρ c (q + 1) n = gN ρ c q (n + 1) := by rw [gN, hg]; rfl
                     rw [hgs] at hC hmay hlen
                     refine ih q (n + 1) _ _ _ L c P (by omega) (by omega) (by omega) (by first | exact Or.inl rfl | exact Or.inr rfl) (fun h => ?_) hF3 hrow3 hlaid3 hG3 hc hwh hlen hC
                     first
                     | exact absurd h (by decide)
                     | exact gN_nil _ _ (fun i _ _ => by
                         unfold goodN
                         rw [decide_eq_false (hstay0 c n hwh (by omega) (by omega) i), Bool.and_false]))
                · refine r_goto (tgt := 117) dX12_laysGood_88 rfl ?_
                  refine r_iinc dX12_laysGood_117 rfl rfl ?_
                  refine r_goto (tgt := 38) dX12_laysGood_120 rfl ?_
                  first
                  | (exfalso; omega)
                  | (have hg : goodN ρ c n = false := by unfold goodN; rw [c53]; rfl
                     have hgs : gN ρ c (q + 1) n = gN ρ c q (n + 1) := by rw [gN, hg]; rfl
                     rw [hgs] at hC hmay hlen
                     exact ih q (n + 1) _ _ _ L c P (by omega) (by omega) (by omega) h01 hmay (hF.row) (fun j j1 j2 => by rw [wRow_row]; exact bin_ne ⟨j1, j2⟩) (by rw [wRow_ne (by omega)]; exact hlaid) (hG.of (congrFun (wRow_ne (by omega)) 26) (wRow_ne (by omega))) hc hwh hlen hC)
                  | (rw [hgs] at hC hlen
                     rw [List.length_append] at hlen
                     simp only [List.length_singleton] at hlen
                     refine ih q (n + 1) 1 _ _ (L ++ [200 * c + n]) c P (by omega) (by omega) (by omega) (Or.inr rfl) (fun h => absurd h (by decide)) ((hF3.sA (by omega)).sI (by omega)) (fun j j1 j2 => by rw [sI_ne (by omega), sI_ne (by omega)]; exact hrow3 j j1 j2) (by rw [setI_ne (by omega), setI_ne (by omega)]; exact hlaid3) (hG3.push (by omega) _) hc hwh (by rw [List.length_append]; simp only [List.length_singleton]; omega) ?_
                     rw [List.append_assoc]
                     exact hC)
                  | (have hg : goodN ρ c n = false := by unfold goodN; rw [c53, Bool.true_and]; exact decide_eq_false (by omega)
                     have hgs : gN ρ c (q + 1) n = gN ρ c q (n + 1) := by rw [gN, hg]; rfl
                     rw [hgs] at hC hmay hlen
                     refine ih q (n + 1) _ _ _ L c P (by omega) (by omega) (by omega) (by first | exact Or.inl rfl | exact Or.inr rfl) (fun h => ?_) hF3 hrow3 hlaid3 hG3 hc hwh hlen hC
                     first
                     | exact absurd h (by decide)
                     | exact gN_nil _ _ (fun i _ _ => by
                         unfold goodN
                         rw [decide_eq_false (hstay0 c n hwh (by omega) (by omega) i), Bool.and_false]))
              · refine r_iconst dX12_laysGood_77 ?_
                refine r_goto (tgt := 82) dX12_laysGood_78 rfl ?_
                refine r_istore_n dX12_laysGood_82 rfl ?_
                refine r_iload dX12_laysGood_83 rfl ?_
                refine q_if_le (tgt := 91) dX12_laysGood_85 rfl (by omega) (fun c85 => ?_) (fun c85 => ?_)
                · have hg : goodN ρ c n = true := by unfold goodN; rw [c53, Bool.true_and]; exact decide_eq_true (by omega)
                  have hgs : gN ρ c (q + 1) n = [200 * c + n] ++ gN ρ c q (n + 1) := by rw [gN, hg]; rfl
                  have hlt : L.length < 72000 := by
                    rw [hgs, List.length_append] at hlen
                    simp only [List.length_singleton] at hlen
                    omega
                  refine r_aload_n dX12_laysGood_91 rfl ?_
                  refine r_getR dX12_laysGood_92 fl_X12_40 rfl (by assumption) (by assumption) ?_
                  refine r_aload_n dX12_laysGood_95 rfl ?_
                  refine r_getI dX12_laysGood_96 fl_X12_283 rfl (by assumption) ?_
                  (try rw [l26]); (try simp (disch := omega) only [sI_at, sI_ne, sI_nj, sI_L]); (try rw [l26])
                  refine r_sipush dX12_laysGood_99 (by decide) ?_
                  refine r_iload_n dX12_laysGood_102 rfl ?_
                  refine r_imul dX12_laysGood_103 ?_
                  refine r_iload_n dX12_laysGood_104 rfl ?_
                  refine r_iadd dX12_laysGood_105 ?_
                  refine r_iast dX12_laysGood_106 (by assumption) rfl (by omega) ?_
                  refine r_aload_n dX12_laysGood_107 rfl ?_
                  refine r_dup dX12_laysGood_108 rfl ?_
                  refine r_getI dX12_laysGood_109 fl_X12_283 rfl (by assumption) ?_
                  (try rw [l26]); (try simp (disch := omega) only [sI_at, sI_ne, sI_nj, sI_L]); (try rw [l26])
                  refine r_iconst dX12_laysGood_112 ?_
                  refine r_iadd dX12_laysGood_113 ?_
                  refine r_putI dX12_laysGood_114 fl_X12_283 (by assumption) ?_
                  refine r_iinc dX12_laysGood_117 rfl rfl ?_
                  refine r_goto (tgt := 38) dX12_laysGood_120 rfl ?_
                  first
                  | (exfalso; omega)
                  | (have hg : goodN ρ c n = false := by unfold goodN; rw [c53]; rfl
                     have hgs : gN ρ c (q + 1) n = gN ρ c q (n + 1) := by rw [gN, hg]; rfl
                     rw [hgs] at hC hmay hlen
                     exact ih q (n + 1) _ _ _ L c P (by omega) (by omega) (by omega) h01 hmay (hF.row) (fun j j1 j2 => by rw [wRow_row]; exact bin_ne ⟨j1, j2⟩) (by rw [wRow_ne (by omega)]; exact hlaid) (hG.of (congrFun (wRow_ne (by omega)) 26) (wRow_ne (by omega))) hc hwh hlen hC)
                  | (rw [hgs] at hC hlen
                     rw [List.length_append] at hlen
                     simp only [List.length_singleton] at hlen
                     refine ih q (n + 1) 1 _ _ (L ++ [200 * c + n]) c P (by omega) (by omega) (by omega) (Or.inr rfl) (fun h => absurd h (by decide)) ((hF3.sA (by omega)).sI (by omega)) (fun j j1 j2 => by rw [sI_ne (by omega), sI_ne (by omega)]; exact hrow3 j j1 j2) (by rw [setI_ne (by omega), setI_ne (by omega)]; exact hlaid3) (hG3.push (by omega) _) hc hwh (by rw [List.length_append]; simp only [List.length_singleton]; omega) ?_
                     rw [List.append_assoc]
                     exact hC)
                  | (have hg : goodN ρ c n = false := by unfold goodN; rw [c53, Bool.true_and]; exact decide_eq_false (by omega)
                     have hgs : gN ρ c (q + 1) n = gN ρ c q (n + 1) := by rw [gN, hg]; rfl
                     rw [hgs] at hC hmay hlen
                     refine ih q (n + 1) _ _ _ L c P (by omega) (by omega) (by omega) (by first | exact Or.inl rfl | exact Or.inr rfl) (fun h => ?_) hF3 hrow3 hlaid3 hG3 hc hwh hlen hC
                     first
                     | exact absurd h (by decide)
                     | exact gN_nil _ _ (fun i _ _ => by
                         unfold goodN
                         rw [decide_eq_false (hstay0 c n hwh (by omega) (by omega) i), Bool.and_false]))
                · refine r_goto (tgt := 117) dX12_laysGood_88 rfl ?_
                  refine r_iinc dX12_laysGood_117 rfl rfl ?_
                  refine r_goto (tgt := 38) dX12_laysGood_120 rfl ?_
                  first
                  | (exfalso; omega)
                  | (have hg : goodN ρ c n = false := by unfold goodN; rw [c53]; rfl
                     have hgs : gN ρ c (q + 1) n = gN ρ c q (n + 1) := by rw [gN, hg]; rfl
                     rw [hgs] at hC hmay hlen
                     exact ih q (n + 1) _ _ _ L c P (by omega) (by omega) (by omega) h01 hmay (hF.row) (fun j j1 j2 => by rw [wRow_row]; exact bin_ne ⟨j1, j2⟩) (by rw [wRow_ne (by omega)]; exact hlaid) (hG.of (congrFun (wRow_ne (by omega)) 26) (wRow_ne (by omega))) hc hwh hlen hC)
                  | (rw [hgs] at hC hlen
                     rw [List.length_append] at hlen
                     simp only [List.length_singleton] at hlen
                     refine ih q (n + 1) 1 _ _ (L ++ [200 * c + n]) c P (by omega) (by omega) (by omega) (Or.inr rfl) (fun h => absurd h (by decide)) ((hF3.sA (by omega)).sI (by omega)) (fun j j1 j2 => by rw [sI_ne (by omega), sI_ne (by omega)]; exact hrow3 j j1 j2) (by rw [setI_ne (by omega), setI_ne (by omega)]; exact hlaid3) (hG3.push (by omega) _) hc hwh (by rw [List.length_append]; simp only [List.length_singleton]; omega) ?_
                     rw [List.append_assoc]
                     exact hC)
                  | (have hg : goodN ρ c n = false := by unfold goodN; rw [c53, Bool.true_and]; exact decide_eq_false (by omega)
                     have hgs : gN ρ c (q + 1) n = gN ρ c q (n + 1) := by rw [gN, hg]; rfl
                     rw [hgs] at hC hmay hlen
                     refine ih q (n + 1) _ _ _ L c P (by omega) (by omega) (by omega) (by first | exact Or.inl rfl | exact Or.inr rfl) (fun h => ?_) hF3 hrow3 hlaid3 hG3 hc hwh hlen hC
                     first
                     | exact absurd h (by decide)
                     | exact gN_nil _ _ (fun i _ _ => by
                         unfold goodN
                         rw [decide_eq_false (hstay0 c n hwh (by omega) (by omega) i), Bool.and_false]))
          · refine r_goto (tgt := 117) dX12_laysGood_56 rfl ?_
            refine r_iinc dX12_laysGood_117 rfl rfl ?_
            refine r_goto (tgt := 38) dX12_laysGood_120 rfl ?_
            first
            | (exfalso; omega)
            | (have hg : goodN ρ c n = false := by unfold goodN; rw [c53]; rfl
               have hgs : gN ρ c (q + 1) n = gN ρ c q (n + 1) := by rw [gN, hg]; rfl
               rw [hgs] at hC hmay hlen
               exact ih q (n + 1) _ _ _ L c P (by omega) (by omega) (by omega) h01 hmay (hF.row) (fun j j1 j2 => by rw [wRow_row]; exact bin_ne ⟨j1, j2⟩) (by rw [wRow_ne (by omega)]; exact hlaid) (hG.of (congrFun (wRow_ne (by omega)) 26) (wRow_ne (by omega))) hc hwh hlen hC)
            | (rw [hgs] at hC hlen
               rw [List.length_append] at hlen
               simp only [List.length_singleton] at hlen
               refine ih q (n + 1) 1 _ _ (L ++ [200 * c + n]) c P (by omega) (by omega) (by omega) (Or.inr rfl) (fun h => absurd h (by decide)) ((hF3.sA (by omega)).sI (by omega)) (fun j j1 j2 => by rw [sI_ne (by omega), sI_ne (by omega)]; exact hrow3 j j1 j2) (by rw [setI_ne (by omega), setI_ne (by omega)]; exact hlaid3) (hG3.push (by omega) _) hc hwh (by rw [List.length_append]; simp only [List.length_singleton]; omega) ?_
               rw [List.append_assoc]
               exact hC)
            | (have hg : goodN ρ c n = false := by unfold goodN; rw [c53, Bool.true_and]; exact decide_eq_false (by omega)
               have hgs : gN ρ c (q + 1) n = gN ρ c q (n + 1) := by rw [gN, hg]; rfl
               rw [hgs] at hC hmay hlen
               refine ih q (n + 1) _ _ _ L c P (by omega) (by omega) (by omega) (by first | exact Or.inl rfl | exact Or.inr rfl) (fun h => ?_) hF3 hrow3 hlaid3 hG3 hc hwh hlen hC
               first
               | exact absurd h (by decide)
               | exact gN_nil _ _ (fun i _ _ => by
                   unfold goodN
                   rw [decide_eq_false (hstay0 c n hwh (by omega) (by omega) i), Bool.and_false]))
  have lO : ∀ (f k : Nat) (c : Int) (o2 o3 o4 : Option AV) (μ' : Mem), k < f → 0 ≤ c → c + k = 7 ^ (ρ 11).toNat → FG m μ μ' → (∀ j, ¬ (93 ≤ j ∧ j < 93 + ρ 11) → j ≠ 51 → j ≠ 52 → μ'.1 (m + 1) j = ρ j) → ((∀ j, 0 ≤ j → j < 5 → μ'.1 (m + 9) j = ρ (93 + j)) ∧ μ'.1 (m + 9) 5 = ρ 51 ∧ μ'.1 (m + 9) 6 = ρ 52) → GdM m μ' (gAll ρ c.toNat 0) → AW gX12_laysGood sh μ' 0 0 11 [some (vR m), some (vI c), o2, o3, o4] [] (fun r2 sh2 μ2 => r2 = none ∧ sh2 = sh ∧ FG m μ μ2 ∧ μ2.1 (m + 1) = ρ ∧ GdM m μ2 (GL ρ)) := by
    intro f
    induction f with
    | zero => intro k; intros; omega
    | succ f ih =>
      intro k c o2 o3 o4 μ' hf hc0 hc2 hF hrow hlaid hG
      have hM1 : IsModel sh μ'.2.2 m := by rw [hF.1]; exact hM
      have r11 : μ'.1 (m + 1) 11 = ρ 11 := hrow 11 (by omega) (by omega) (by omega)
      have r5 : μ'.1 (m + 1) 5 = ρ 5 := hrow 5 (by omega) (by omega) (by omega)
      have hp := pw_le (N := ρ 11) (by omega)
      obtain ⟨g0, f1, z1, f2, z2, f3, z3, f4, z4, f5, z5, f6, z6, f7, z7, f8, z8, f9, z9, f10, z10, f11, z11, f12, z12, f13, z13, f14, z14⟩ := id hM1
      refine r_iload_n dX12_laysGood_11 rfl ?_
      refine r_aload_n dX12_laysGood_12 rfl ?_
      refine r_cV0F1 dX12_laysGood_13 ml_X12_286 yl_X12_codes ⟨rfl, rfl⟩ (by assumption) ⟨_, rfl⟩ rfl rfl rfl rfl (m_codes hM1 rfl (by rw [r11]; omega)) ?_
      rw [r11]
      refine q_icmp_ge (tgt := 129) dX12_laysGood_16 rfl (by omega) (by omega) (fun c16 => ?_) (fun c16 => ?_)
      · obtain rfl : c = 7 ^ (ρ 11).toNat := by omega
        refine r_aload_n dX12_laysGood_129 rfl ?_
        refine r_cV0F0 dX12_laysGood_130 ml_X12_298 yl_X12_laysBack ⟨rfl, rfl⟩ (by assumption) ⟨_, rfl⟩ rfl rfl rfl rfl (m_laysBack (ρ := ρ) hM1 rfl hlaid.1 hlaid.2.1 hlaid.2.2 (fun j j1 j2 j3 => hrow j (by omega) j2 j3)) ?_
        refine r_return dX12_laysGood_133 rfl rfl rfl ?_
        refine ⟨rfl, rfl, hF.row, wRow_row, ?_⟩
        have hq := hG.of (μ2 := wRow μ' m ρ) (congrFun (wRow_ne (by omega)) 26) (wRow_ne (by omega))
        unfold GL
        have e := pw_cast (ρ 11).toNat
        rw [show (7 ^ (ρ 11).toNat : Int).toNat = 7 ^ (ρ 11).toNat by omega] at hq
        exact hq
      · refine r_aload_n dX12_laysGood_19 rfl ?_
        refine r_iload_n dX12_laysGood_20 rfl ?_
        refine r_cV1F0 dX12_laysGood_21 ml_X12_289 yl_X12_lays ⟨rfl, rfl⟩ (by assumption) ⟨_, rfl⟩ rfl rfl rfl rfl (m_lays hM1 rfl (by rw [r11]; omega) (by omega)) ?_
        have hcell : ∀ j, j ≠ 51 → j ≠ 52 → layR (μ'.1 (m + 1)) c j = layR ρ c j := fun j j1 j2 => by
          unfold layR
          rw [r11]
          by_cases e : 93 ≤ j ∧ j < 93 + ρ 11
          · rw [if_pos e, if_pos e]
          · rw [if_neg e, if_neg e]; exact hrow j e j1 j2
        have hwe : wholeF (layR (μ'.1 (m + 1)) c) = wholeF (layR ρ c) := by
          unfold wholeF
          rw [hcell 11 (by omega) (by omega), hcell 5 (by omega) (by omega), lay_11]
          refine allF_congr _ _ fun k k0 k1 => ?_
          rw [hcell (93 + k) (by omega) (by omega)]
          congr 1
          exact allF_congr _ _ fun j j0 j1 => by rw [hcell (93 + j) (by omega) (by omega)]
        have hF2 : FG m μ (wRow μ' m (layR (μ'.1 (m + 1)) c)) := hF.row
        have hrow2 : ∀ j, j ≠ 51 → j ≠ 52 → (wRow μ' m (layR (μ'.1 (m + 1)) c)).1 (m + 1) j = layR ρ c j := fun j j1 j2 => by rw [wRow_row]; exact hcell j j1 j2
        have hG2 : GdM m (wRow μ' m (layR (μ'.1 (m + 1)) c)) (gAll ρ c.toNat 0) := hG.of (congrFun (wRow_ne (by omega)) 26) (wRow_ne (by omega))
        have hstep : gAll ρ (c + 1).toNat 0 = gAll ρ c.toNat 0 ++ goodsC ρ c := by
          rw [show (c + 1).toNat = c.toNat + 1 by omega, gAll_add, gAll, gAll, List.append_nil, show (0 : Int) + (c.toNat : Int) = c by omega]
        refine r_aload_n dX12_laysGood_24 rfl ?_
        refine r_cV0F1 dX12_laysGood_25 ml_X12_292 yl_X12_isWhole ⟨rfl, rfl⟩ (by assumption) ⟨_, rfl⟩ rfl rfl rfl rfl (m_isWhole (ρ := layR (μ'.1 (m + 1)) c) hM1 wRow_row (by rw [lay_11, r11]; omega) (by rw [lay_ne (by omega), r5]; omega) (fun k k0 k1 => by rw [lay_11] at k1; rw [lay_at ⟨k0, k1⟩]; have := dg_rng (μ'.1 (m + 1) 11) c k; omega)) ?_
        rw [hwe]
        refine r_if_neB (tgt := 34) dX12_laysGood_28 rfl (fun c28 => ?_) (fun c28 => ?_)
        · refine r_iconst dX12_laysGood_34 ?_
          refine r_istore_n dX12_laysGood_35 rfl ?_
          refine r_iconst dX12_laysGood_36 ?_
          refine r_istore_n dX12_laysGood_37 rfl ?_
          have hlen2 : (gAll ρ c.toNat 0).length + (gN ρ c 100 0).length ≤ 72000 := by
            have h := gAll_max (ρ := ρ) (by omega) (k := (c + 1).toNat) (by have := pw_cast (ρ 11).toNat; omega)
            rw [hstep, List.length_append] at h
            unfold goodsC at h
            rw [if_pos c28] at h
            exact h
          refine lI _ 100 0 1 _ _ (gAll ρ c.toNat 0) c _ (Nat.lt_succ_self _) (by omega) (by omega) (Or.inr rfl) (fun h => absurd h (by decide)) hF2 hrow2 (by rw [wRow_ne (by omega)]; exact hlaid) hG2 (by omega) c28 hlen2 (fun o1 o2 o3 μ2 a1 a2 a3 a4 => ?_)
          refine r_iinc dX12_laysGood_123 rfl rfl ?_
          refine r_goto (tgt := 11) dX12_laysGood_126 rfl ?_
          refine ih (k - 1) (c + 1) _ _ _ μ2 (by omega) (by omega) (by omega) a1 (fun j j1 j2 j3 => (a2 j j2 j3).trans (lay_ne j1)) a3 ?_
          rw [hstep]
          unfold goodsC
          rw [if_pos c28]
          exact a4
        · refine r_goto (tgt := 123) dX12_laysGood_31 rfl ?_
          refine r_iinc dX12_laysGood_123 rfl rfl ?_
          refine r_goto (tgt := 11) dX12_laysGood_126 rfl ?_
          refine ih (k - 1) (c + 1) _ _ _ _ (by omega) (by omega) (by omega) hF2 (fun j j1 j2 j3 => (hrow2 j j2 j3).trans (lay_ne j1)) (by rw [wRow_ne (by omega)]; exact hlaid) ?_
          rw [hstep]
          unfold goodsC
          rw [if_neg (by rw [c28]; decide), List.append_nil]
          exact hG2
  refine AMet.of (by decide) rfl (by decide) rfl ?_
  refine r_aload_n dX12_laysGood_0 rfl ?_
  refine r_cV0N dX12_laysGood_1 ml_X12_280 yl_X12_keepsLaid ⟨rfl, rfl⟩ (by assumption) ⟨_, rfl⟩ rfl rfl rfl rfl (m_keepsLaid hM hr) ?_
  rintro μ1 ⟨k1, k2, k3, k4⟩
  have hM1 : IsModel sh μ1.2.2 m := by rw [k1.1]; exact hM
  clear g0 f1 f2 f3 f4 f5 f6 f7 f8 f9 f10 f11 f12 f13 f14
  obtain ⟨g0, f1, z1, f2, z2, f3, z3, f4, z4, f5, z5, f6, z6, f7, z7, f8, z8, f9, z9, f10, z10, f11, z11, f12, z12, f13, z13, f14, z14⟩ := id hM1
  refine r_aload_n dX12_laysGood_4 rfl ?_
  refine r_iconst dX12_laysGood_5 ?_
  refine r_putI dX12_laysGood_6 fl_X12_283 (by assumption) ?_
  refine r_iconst dX12_laysGood_9 ?_
  refine r_istore_n dX12_laysGood_10 rfl ?_
  have hF1 : FG m μ μ1 := ⟨k1.1, fun q a1 a2 a3 _ _ _ _ => k1.2 q a3, fun j _ => congrFun (k1.2 m (by omega)) j⟩
  refine lO _ (7 ^ (ρ 11).toNat) 0 _ _ _ _ (Nat.lt_succ_self _) (by omega) ?_ (hF1.sI (by omega)) (fun j j1 j2 j3 => ?_) ?_ ⟨sI_at, Nat.zero_le _, fun i x h => absurd h (by simp [gAll])⟩
  · rw [pw_cast]; omega
  · rw [sI_ne (by omega), k1.2 _ (by omega), hr]
  · rw [setI_ne (by omega)]; exact ⟨k2, k3, k4⟩
