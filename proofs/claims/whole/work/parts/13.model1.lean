/-! 13.model1: the reference: its layout; contracts of its questions (wip/whole/src/13_model1.py) -/
def IsModel (sh : Sh) (R : IX) (m : Nat) : Prop := sh[m]? = some (11, 34) ∧ R m 0 = some (m + 1) ∧ sh[m + 1]? = some (20, 143) ∧ R m 1 = some (m + 2) ∧ sh[m + 2]? = some (20, 143) ∧ R m 2 = some (m + 3) ∧ sh[m + 3]? = some (20, 286) ∧ R m 3 = some (m + 4) ∧ sh[m + 4]? = some (20, 1144) ∧ R m 4 = some (m + 5) ∧ sh[m + 5]? = some (23, 2) ∧ R m 6 = some (m + 6) ∧ sh[m + 6]? = some (22, 540) ∧ R m 16 = some (m + 7) ∧ sh[m + 7]? = some (22, 8) ∧ R m 17 = some (m + 8) ∧ sh[m + 8]? = some (22, 48) ∧ R m 24 = some (m + 9) ∧ sh[m + 9]? = some (20, 7) ∧ R m 25 = some (m + 10) ∧ sh[m + 10]? = some (20, 72000) ∧ R m 27 = some (m + 11) ∧ sh[m + 11]? = some (20, 16807) ∧ R m 28 = some (m + 12) ∧ sh[m + 12]? = some (20, 4200) ∧ R m 30 = some (m + 13) ∧ sh[m + 13]? = some (20, 20) ∧ R m 32 = some (m + 14) ∧ sh[m + 14]? = some (20, 20)
/-- only the reference's own three numbers have changed -/
def Sc (m : Nat) (μ μ2 : Mem) : Prop := μ2.2 = μ.2 ∧ ∀ (a : Nat) (i : Int), ¬ (a = m ∧ 21 ≤ i ∧ i ≤ 23) → μ2.1 a i = μ.1 a i
theorem Sc.rf (m : Nat) (μ : Mem) : Sc m μ μ := ⟨rfl, fun _ _ _ => rfl⟩
theorem Sc.tr {m : Nat} {a b c : Mem} (h1 : Sc m a b) (h2 : Sc m b c) : Sc m a c := ⟨h2.1.trans h1.1, fun q i h => (h2.2 q i h).trans (h1.2 q i h)⟩
theorem Sc.row {m a : Nat} {μ μ2 : Mem} (h : Sc m μ μ2) (ha : a ≠ m) : μ2.1 a = μ.1 a := funext fun i => h.2 a i (fun q => ha q.1)
def wmI (μ : Mem) (m : Nat) (W M : Int) : Mem := setI (setI μ m 21 W) m 22 M
theorem wm_row {μ : Mem} {m a : Nat} {W M : Int} (h : a ≠ m) : (wmI μ m W M).1 a = μ.1 a := by funext j; simp [wmI, setI, h]
theorem wm_s {μ : Mem} {m : Nat} {W M : Int} : (wmI μ m W M).1 (m + 1) = μ.1 (m + 1) := wm_row (by omega)
theorem wm_21 {μ : Mem} {m : Nat} {W M : Int} : (wmI μ m W M).1 m 21 = W := by simp [wmI, setI]
theorem wm_22 {μ : Mem} {m : Nat} {W M : Int} : (wmI μ m W M).1 m 22 = M := by simp [wmI, setI]
theorem wm_wm {μ : Mem} {m : Nat} {W M W2 M2 : Int} : wmI (wmI μ m W M) m W2 M2 = wmI μ m W2 M2 := by
  refine Prod.ext ?_ rfl
  funext a j
  simp only [wmI, setI]
  by_cases h1 : a = m ∧ j = 22
  · simp [h1]
  · by_cases h2 : a = m ∧ j = 21
    · simp [h2]
    · simp [h1, h2]
theorem wm_Sc (μ : Mem) (m : Nat) (W M : Int) : Sc m μ (wmI μ m W M) := ⟨rfl, fun a i h => by
  simp only [wmI, setI]
  rw [if_neg (by omega), if_neg (by omega)]⟩
def WL (ρ : Row) : Prop := (0 ≤ ρ 11 ∧ ρ 11 ≤ 5) ∧ (0 ≤ ρ 5 ∧ ρ 5 ≤ 6) ∧ ∀ k, 0 ≤ k → k < ρ 11 → (-1 ≤ ρ (93 + k) ∧ ρ (93 + k) ≤ 5) ∧ (1 ≤ ρ (83 + k) ∧ ρ (83 + k) ≤ 198) ∧ (1 ≤ ρ (88 + k) ∧ ρ (88 + k) ≤ 9)
theorem WF.wl {ρ : Row} (h : WF ρ) : WL ρ := by
  have hn := h.1.1
  unfold WFn at hn
  refine ⟨by omega, by omega, fun k h1 h2 => ?_⟩
  have := h.2.2.1 k h1 h2
  omega

theorem m_isIn {sh : Sh} {μ : Mem} {v low high : Int} (hv : -2147483648 ≤ v ∧ v < 2147483648) (hlow : -2147483648 ≤ low ∧ low < 2147483648) (hhigh : -2147483648 ≤ high ∧ high < 2147483648)  : FMet yX12_isIn gX12_isIn sh [vI v, vI low, vI high] μ (some (vI (b2i (decide (low ≤ v ∧ v ≤ high))))) μ := by
  refine AMet.of (by decide) rfl (by decide) rfl ?_
  refine r_iload_n dX12_isIn_0 rfl ?_
  refine r_iload_n dX12_isIn_1 rfl ?_
  refine q_icmp_lt (tgt := 14) dX12_isIn_2 rfl (by omega) (by omega) (fun c2 => ?_) (fun c2 => ?_)
  · refine r_iconst dX12_isIn_14 ?_
    refine r_zreturn dX12_isIn_15 (by first | exact Or.inl rfl | exact Or.inr rfl | exact b2i_01 _ | omega) rfl rfl rfl ?_
    refine ⟨?_, rfl, rfl⟩; congr 2; simp only [b2i, decide_eq_true_eq]; split <;> omega
  · refine r_iload_n dX12_isIn_5 rfl ?_
    refine r_iload_n dX12_isIn_6 rfl ?_
    refine q_icmp_gt (tgt := 14) dX12_isIn_7 rfl (by omega) (by omega) (fun c7 => ?_) (fun c7 => ?_)
    · refine r_iconst dX12_isIn_14 ?_
      refine r_zreturn dX12_isIn_15 (by first | exact Or.inl rfl | exact Or.inr rfl | exact b2i_01 _ | omega) rfl rfl rfl ?_
      refine ⟨?_, rfl, rfl⟩; congr 2; simp only [b2i, decide_eq_true_eq]; split <;> omega
    · refine r_iconst dX12_isIn_10 ?_
      refine r_goto (tgt := 15) dX12_isIn_11 rfl ?_
      refine r_zreturn dX12_isIn_15 (by first | exact Or.inl rfl | exact Or.inr rfl | exact b2i_01 _ | omega) rfl rfl rfl ?_
      refine ⟨?_, rfl, rfl⟩; congr 2; simp only [b2i, decide_eq_true_eq]; split <;> omega
theorem m_bitOf {sh : Sh} {μ : Mem} {v k : Int} : FMet yX12_bitOf gX12_bitOf sh [vI v, vI k] μ (some (vI (b2i (bit v k)))) μ := by
  refine AMet.of (by decide) rfl (by decide) rfl ?_
  refine r_iload_n dX12_bitOf_0 rfl ?_
  refine r_iload_n dX12_bitOf_1 rfl ?_
  refine r_ishr dX12_bitOf_2 ?_
  refine r_iconst dX12_bitOf_3 ?_
  refine r_iand dX12_bitOf_4 ?_
  refine r_iconst dX12_bitOf_5 ?_
  refine q_icmp_ne (tgt := 13) dX12_bitOf_6 rfl (by unfold iand; exact ⟨by have := Int32.le_toInt (Int32.ofInt (ishr v k) &&& Int32.ofInt 1); omega, by have := Int32.toInt_lt (Int32.ofInt (ishr v k) &&& Int32.ofInt 1); omega⟩) (by decide) (fun c6 => ?_) (fun c6 => ?_)
  · refine r_iconst dX12_bitOf_13 ?_
    refine r_zreturn dX12_bitOf_14 (by first | exact Or.inl rfl | exact Or.inr rfl | exact b2i_01 _ | omega) rfl rfl rfl ?_
    refine ⟨?_, rfl, rfl⟩; congr 2; simp_all [b2i, bit]
  · refine r_iconst dX12_bitOf_9 ?_
    refine r_goto (tgt := 14) dX12_bitOf_10 rfl ?_
    refine r_zreturn dX12_bitOf_14 (by first | exact Or.inl rfl | exact Or.inr rfl | exact b2i_01 _ | omega) rfl rfl rfl ?_
    refine ⟨?_, rfl, rfl⟩; congr 2; simp_all [b2i, bit]
theorem m_on {sh : Sh} {μ : Mem} {m : Nat} {s : Int} (hM : IsModel sh μ.2.2 m) (hw : WL (μ.1 (m + 1))) (hs : -2147483648 ≤ s ∧ s < 2147483648)  : FMet yX12_on gX12_on sh [vR m, vI s] μ (some (vI (onF (μ.1 (m + 1)) s))) μ := by
  obtain ⟨g0, f1, z1, f2, z2, f3, z3, f4, z4, f5, z5, f6, z6, f7, z7, f8, z8, f9, z9, f10, z10, f11, z11, f12, z12, f13, z13, f14, z14⟩ := id hM
  obtain ⟨w1, w2, w3⟩ := hw
  have loop : ∀ (f n : Nat) (k : Int), n < f → 0 ≤ k → k + n = μ.1 (m + 1) 11 → AW gX12_on sh μ 0 0 2 [some (vR m), some (vI s), some (vI k)] [] (fun r2 sh2 μ2 => r2 = some (vI (fnd (fun k => decide (μ.1 (m + 1) (93 + k) = s)) n k)) ∧ sh2 = sh ∧ μ2 = μ) := by
    intro f
    induction f with
    | zero => intro n; intros; omega
    | succ f ih =>
      intro n k hf hk hn
      refine r_iload_n dX12_on_2 rfl ?_
      refine r_aload_n dX12_on_3 rfl ?_
      refine r_getR dX12_on_4 fl_X12_7 rfl (by assumption) (by assumption) ?_
      refine r_bipush dX12_on_7 (by decide) ?_
      refine r_iald dX12_on_9 (by assumption) rfl (by omega) ?_
      refine q_icmp_ge (tgt := 34) dX12_on_10 rfl (by omega) (by omega) (fun c10 => ?_) (fun c10 => ?_)
      · refine r_iconst dX12_on_34 ?_
        refine r_ireturn dX12_on_35 rfl rfl rfl ?_
        obtain rfl | ⟨q, rfl⟩ : n = 0 ∨ ∃ q, n = q + 1 := by cases n <;> simp
        · first | exact ⟨rfl, rfl, rfl⟩ | omega
        · first | omega | (refine ⟨?_, rfl, rfl⟩; simp_all [fnd])
      · refine r_aload_n dX12_on_13 rfl ?_
        refine r_getR dX12_on_14 fl_X12_7 rfl (by assumption) (by assumption) ?_
        refine r_bipush dX12_on_17 (by decide) ?_
        refine r_iload_n dX12_on_19 rfl ?_
        refine r_iadd dX12_on_20 ?_
        refine r_iald dX12_on_21 (by assumption) rfl (by omega) ?_
        have q1 := w3 k (by omega) (by omega)
        refine r_iload_n dX12_on_22 rfl ?_
        refine q_icmp_ne (tgt := 28) dX12_on_23 rfl (by omega) (by omega) (fun c23 => ?_) (fun c23 => ?_)
        · refine r_iinc dX12_on_28 rfl rfl ?_
          refine r_goto (tgt := 2) dX12_on_31 rfl ?_
          refine AW.mono (ih (n - 1) (k + 1) (by omega) (by omega) (by omega)) ?_
          obtain ⟨q, rfl⟩ : ∃ q, n = q + 1 := ⟨n - 1, by omega⟩
          rintro r sh2 μ2 ⟨rfl, h⟩
          refine ⟨?_, h⟩
          simp_all [fnd]
        · refine r_iload_n dX12_on_26 rfl ?_
          refine r_ireturn dX12_on_27 rfl rfl rfl ?_
          obtain rfl | ⟨q, rfl⟩ : n = 0 ∨ ∃ q, n = q + 1 := by cases n <;> simp
          · first | exact ⟨rfl, rfl, rfl⟩ | omega
          · first | omega | (refine ⟨?_, rfl, rfl⟩; simp_all [fnd])
  refine AMet.of (by decide) rfl (by decide) rfl ?_
  refine r_iconst dX12_on_0 ?_
  refine r_istore_n dX12_on_1 rfl ?_
  exact loop _ _ 0 (Nat.lt_succ_self _) (by omega) (by omega)
theorem m_isPallet {sh : Sh} {μ : Mem} {m : Nat} {k : Int} (hM : IsModel sh μ.2.2 m) (hw : WL (μ.1 (m + 1))) (hk : -2147483648 ≤ k ∧ k < 2147483648)  : FMet yX12_isPallet gX12_isPallet sh [vR m, vI k] μ (some (vI (b2i (decide (0 ≤ k ∧ k < (μ.1 (m + 1)) 11))))) μ := by
  obtain ⟨g0, f1, z1, f2, z2, f3, z3, f4, z4, f5, z5, f6, z6, f7, z7, f8, z8, f9, z9, f10, z10, f11, z11, f12, z12, f13, z13, f14, z14⟩ := id hM
  obtain ⟨w1, w2, w3⟩ := hw
  refine AMet.of (by decide) rfl (by decide) rfl ?_
  refine r_iload_n dX12_isPallet_0 rfl ?_
  refine r_iconst dX12_isPallet_1 ?_
  refine r_aload_n dX12_isPallet_2 rfl ?_
  refine r_getR dX12_isPallet_3 fl_X12_7 rfl (by assumption) (by assumption) ?_
  refine r_bipush dX12_isPallet_6 (by decide) ?_
  refine r_iald dX12_isPallet_8 (by assumption) rfl (by omega) ?_
  refine r_iconst dX12_isPallet_9 ?_
  refine r_isub dX12_isPallet_10 ?_
  refine r_cS3F1 dX12_isPallet_11 ml_X12_73 yl_X12_isIn ⟨rfl, rfl⟩ rfl rfl rfl rfl (m_isIn hk (by omega) (by omega)) ?_
  refine r_zreturn dX12_isPallet_14 (by first | exact Or.inl rfl | exact Or.inr rfl | exact b2i_01 _ | omega) rfl rfl rfl ?_
  refine ⟨?_, rfl, rfl⟩; congr 3; simp only [decide_eq_decide]; omega
theorem m_isSpot {sh : Sh} {μ : Mem} {m : Nat} {k : Int} (hM : IsModel sh μ.2.2 m) (hw : WL (μ.1 (m + 1))) (hk : -2147483648 ≤ k ∧ k < 2147483648)  : FMet yX12_isSpot gX12_isSpot sh [vR m, vI k] μ (some (vI (b2i (decide (0 ≤ k ∧ k < (μ.1 (m + 1)) 5))))) μ := by
  obtain ⟨g0, f1, z1, f2, z2, f3, z3, f4, z4, f5, z5, f6, z6, f7, z7, f8, z8, f9, z9, f10, z10, f11, z11, f12, z12, f13, z13, f14, z14⟩ := id hM
  obtain ⟨w1, w2, w3⟩ := hw
  refine AMet.of (by decide) rfl (by decide) rfl ?_
  refine r_iload_n dX12_isSpot_0 rfl ?_
  refine r_iconst dX12_isSpot_1 ?_
  refine r_aload_n dX12_isSpot_2 rfl ?_
  refine r_getR dX12_isSpot_3 fl_X12_7 rfl (by assumption) (by assumption) ?_
  refine r_iconst dX12_isSpot_6 ?_
  refine r_iald dX12_isSpot_7 (by assumption) rfl (by omega) ?_
  refine r_iconst dX12_isSpot_8 ?_
  refine r_isub dX12_isSpot_9 ?_
  refine r_cS3F1 dX12_isSpot_10 ml_X12_73 yl_X12_isIn ⟨rfl, rfl⟩ rfl rfl rfl rfl (m_isIn hk (by omega) (by omega)) ?_
  refine r_zreturn dX12_isSpot_13 (by first | exact Or.inl rfl | exact Or.inr rfl | exact b2i_01 _ | omega) rfl rfl rfl ?_
  refine ⟨?_, rfl, rfl⟩; congr 3; simp only [decide_eq_decide]; omega
theorem m_wayOf {sh : Sh} {μ : Mem} {m : Nat} {s : Int} (hM : IsModel sh μ.2.2 m) (hw : WFP (μ.1 (m + 1))) (hs : 0 ≤ s ∧ s < μ.1 (m + 1) 5)  : FMet yX12_wayOf gX12_wayOf sh [vR m, vI s] μ (some (vI (wayF (μ.1 (m + 1)) s))) μ := by
  obtain ⟨g0, f1, z1, f2, z2, f3, z3, f4, z4, f5, z5, f6, z6, f7, z7, f8, z8, f9, z9, f10, z10, f11, z11, f12, z12, f13, z13, f14, z14⟩ := id hM
  obtain ⟨hn, hss, hh, hj, ht, hg⟩ := hw
  unfold WFn at hn
  have q0 := hss s (by omega) (by omega)
  have q1 := hh (μ.1 (m + 1) (19 + s)) (by omega) (by omega)
  have loop : ∀ (f n : Nat) (k : Int) (a bk : Int), n < f → 0 ≤ k → k + n = μ.1 (m + 1) 5 → bk = (if μ.1 (m + 1) (16 + μ.1 (m + 1) (19 + s)) = 1 then 1 else 0) → AW gX12_wayOf sh μ 0 0 32 [some (vR m), some (vI s), some (vI a), some (vI bk), some (vI k)] [] (fun r2 sh2 μ2 => r2 = some (vI (fld (fun j a => if μ.1 (m + 1) (19 + j) = μ.1 (m + 1) (19 + s) ∧ (if μ.1 (m + 1) (16 + μ.1 (m + 1) (19 + s)) = 1 then s < j else j < s) then ior a (ishl 1 j) else a) n k a)) ∧ sh2 = sh ∧ μ2 = μ) := by
    intro f
    induction f with
    | zero => intro n; intros; omega
    | succ f ih =>
      intro n k a bk hf hk hn2 hbk
      refine r_iload dX12_wayOf_32 rfl ?_
      refine r_aload_n dX12_wayOf_34 rfl ?_
      refine r_getR dX12_wayOf_35 fl_X12_7 rfl (by assumption) (by assumption) ?_
      refine r_iconst dX12_wayOf_38 ?_
      refine r_iald dX12_wayOf_39 (by assumption) rfl (by omega) ?_
      refine q_icmp_ge (tgt := 97) dX12_wayOf_40 rfl (by omega) (by omega) (fun c40 => ?_) (fun c40 => ?_)
      · refine r_iload_n dX12_wayOf_97 rfl ?_
        refine r_ireturn dX12_wayOf_98 rfl rfl rfl ?_
        obtain rfl : n = 0 := by omega
        exact ⟨rfl, rfl, rfl⟩
      · refine r_aload_n dX12_wayOf_43 rfl ?_
        refine r_getR dX12_wayOf_44 fl_X12_7 rfl (by assumption) (by assumption) ?_
        refine r_bipush dX12_wayOf_47 (by decide) ?_
        refine r_iload dX12_wayOf_49 rfl ?_
        refine r_iadd dX12_wayOf_51 ?_
        refine r_iald dX12_wayOf_52 (by assumption) rfl (by omega) ?_
        refine r_aload_n dX12_wayOf_53 rfl ?_
        refine r_getR dX12_wayOf_54 fl_X12_7 rfl (by assumption) (by assumption) ?_
        refine r_bipush dX12_wayOf_57 (by decide) ?_
        refine r_iload_n dX12_wayOf_59 rfl ?_
        refine r_iadd dX12_wayOf_60 ?_
        refine r_iald dX12_wayOf_61 (by assumption) rfl (by omega) ?_
        have q2 := hss k (by omega) (by omega)
        refine q_icmp_ne (tgt := 91) dX12_wayOf_62 rfl (by omega) (by omega) (fun c62 => ?_) (fun c62 => ?_)
        · refine r_iinc dX12_wayOf_91 rfl rfl ?_
          refine r_goto (tgt := 32) dX12_wayOf_94 rfl ?_
          obtain ⟨q, rfl⟩ : ∃ q, n = q + 1 := ⟨n - 1, by omega⟩
          refine AW.mono (ih q (k + 1) _ bk (by omega) (by omega) (by omega) hbk) ?_
          rintro r sh2 μ2 ⟨rfl, h⟩
          refine ⟨?_, h⟩
          rw [fld]
          congr 3
          by_cases hb1 : μ.1 (m + 1) (16 + μ.1 (m + 1) (19 + s)) = 1
          · simp only [hb1, if_true] at hbk ⊢
            first | (rw [if_pos (by first | exact ⟨by assumption, by omega⟩ | omega)]; done) | (rw [if_neg (by first | omega | (intro hh1; omega) | (intro hh1; have := hh1.1; contradiction))]; done) | omega
          · simp only [hb1, if_false] at hbk ⊢
            first | (rw [if_pos (by first | exact ⟨by assumption, by omega⟩ | omega)]; done) | (rw [if_neg (by first | omega | (intro hh1; omega) | (intro hh1; have := hh1.1; contradiction))]; done) | omega
        · refine r_iload_n dX12_wayOf_65 rfl ?_
          have q3 : bk = 0 ∨ bk = 1 := by rw [hbk]; split <;> simp
          refine q_if_eq (tgt := 78) dX12_wayOf_66 rfl (by omega) (fun c66 => ?_) (fun c66 => ?_)
          · refine r_iload dX12_wayOf_78 rfl ?_
            refine r_iload_n dX12_wayOf_80 rfl ?_
            refine q_icmp_ge (tgt := 91) dX12_wayOf_81 rfl (by omega) (by omega) (fun c81 => ?_) (fun c81 => ?_)
            · refine r_iinc dX12_wayOf_91 rfl rfl ?_
              refine r_goto (tgt := 32) dX12_wayOf_94 rfl ?_
              obtain ⟨q, rfl⟩ : ∃ q, n = q + 1 := ⟨n - 1, by omega⟩
              refine AW.mono (ih q (k + 1) _ bk (by omega) (by omega) (by omega) hbk) ?_
              rintro r sh2 μ2 ⟨rfl, h⟩
              refine ⟨?_, h⟩
              rw [fld]
              congr 3
              by_cases hb1 : μ.1 (m + 1) (16 + μ.1 (m + 1) (19 + s)) = 1
              · simp only [hb1, if_true] at hbk ⊢
                first | (rw [if_pos (by first | exact ⟨by assumption, by omega⟩ | omega)]; done) | (rw [if_neg (by first | omega | (intro hh1; omega) | (intro hh1; have := hh1.1; contradiction))]; done) | omega
              · simp only [hb1, if_false] at hbk ⊢
                first | (rw [if_pos (by first | exact ⟨by assumption, by omega⟩ | omega)]; done) | (rw [if_neg (by first | omega | (intro hh1; omega) | (intro hh1; have := hh1.1; contradiction))]; done) | omega
            · refine r_iload_n dX12_wayOf_84 rfl ?_
              refine r_iconst dX12_wayOf_85 ?_
              refine r_iload dX12_wayOf_86 rfl ?_
              refine r_ishl dX12_wayOf_88 ?_
              refine r_ior dX12_wayOf_89 ?_
              refine r_istore_n dX12_wayOf_90 rfl ?_
              refine r_iinc dX12_wayOf_91 rfl rfl ?_
              refine r_goto (tgt := 32) dX12_wayOf_94 rfl ?_
              obtain ⟨q, rfl⟩ : ∃ q, n = q + 1 := ⟨n - 1, by omega⟩
              refine AW.mono (ih q (k + 1) _ bk (by omega) (by omega) (by omega) hbk) ?_
              rintro r sh2 μ2 ⟨rfl, h⟩
              refine ⟨?_, h⟩
              rw [fld]
              congr 3
              by_cases hb1 : μ.1 (m + 1) (16 + μ.1 (m + 1) (19 + s)) = 1
              · simp only [hb1, if_true] at hbk ⊢
                first | (rw [if_pos (by first | exact ⟨by assumption, by omega⟩ | omega)]; done) | (rw [if_neg (by first | omega | (intro hh1; omega) | (intro hh1; have := hh1.1; contradiction))]; done) | omega
              · simp only [hb1, if_false] at hbk ⊢
                first | (rw [if_pos (by first | exact ⟨by assumption, by omega⟩ | omega)]; done) | (rw [if_neg (by first | omega | (intro hh1; omega) | (intro hh1; have := hh1.1; contradiction))]; done) | omega
          · refine r_iload dX12_wayOf_69 rfl ?_
            refine r_iload_n dX12_wayOf_71 rfl ?_
            refine q_icmp_le (tgt := 91) dX12_wayOf_72 rfl (by omega) (by omega) (fun c72 => ?_) (fun c72 => ?_)
            · refine r_iinc dX12_wayOf_91 rfl rfl ?_
              refine r_goto (tgt := 32) dX12_wayOf_94 rfl ?_
              obtain ⟨q, rfl⟩ : ∃ q, n = q + 1 := ⟨n - 1, by omega⟩
              refine AW.mono (ih q (k + 1) _ bk (by omega) (by omega) (by omega) hbk) ?_
              rintro r sh2 μ2 ⟨rfl, h⟩
              refine ⟨?_, h⟩
              rw [fld]
              congr 3
              by_cases hb1 : μ.1 (m + 1) (16 + μ.1 (m + 1) (19 + s)) = 1
              · simp only [hb1, if_true] at hbk ⊢
                first | (rw [if_pos (by first | exact ⟨by assumption, by omega⟩ | omega)]; done) | (rw [if_neg (by first | omega | (intro hh1; omega) | (intro hh1; have := hh1.1; contradiction))]; done) | omega
              · simp only [hb1, if_false] at hbk ⊢
                first | (rw [if_pos (by first | exact ⟨by assumption, by omega⟩ | omega)]; done) | (rw [if_neg (by first | omega | (intro hh1; omega) | (intro hh1; have := hh1.1; contradiction))]; done) | omega
            · refine r_goto (tgt := 84) dX12_wayOf_75 rfl ?_
              refine r_iload_n dX12_wayOf_84 rfl ?_
              refine r_iconst dX12_wayOf_85 ?_
              refine r_iload dX12_wayOf_86 rfl ?_
              refine r_ishl dX12_wayOf_88 ?_
              refine r_ior dX12_wayOf_89 ?_
              refine r_istore_n dX12_wayOf_90 rfl ?_
              refine r_iinc dX12_wayOf_91 rfl rfl ?_
              refine r_goto (tgt := 32) dX12_wayOf_94 rfl ?_
              obtain ⟨q, rfl⟩ : ∃ q, n = q + 1 := ⟨n - 1, by omega⟩
              refine AW.mono (ih q (k + 1) _ bk (by omega) (by omega) (by omega) hbk) ?_
              rintro r sh2 μ2 ⟨rfl, h⟩
              refine ⟨?_, h⟩
              rw [fld]
              congr 3
              by_cases hb1 : μ.1 (m + 1) (16 + μ.1 (m + 1) (19 + s)) = 1
              · simp only [hb1, if_true] at hbk ⊢
                first | (rw [if_pos (by first | exact ⟨by assumption, by omega⟩ | omega)]; done) | (rw [if_neg (by first | omega | (intro hh1; omega) | (intro hh1; have := hh1.1; contradiction))]; done) | omega
              · simp only [hb1, if_false] at hbk ⊢
                first | (rw [if_pos (by first | exact ⟨by assumption, by omega⟩ | omega)]; done) | (rw [if_neg (by first | omega | (intro hh1; omega) | (intro hh1; have := hh1.1; contradiction))]; done) | omega
  refine AMet.of (by decide) rfl (by decide) rfl ?_
  refine r_iconst dX12_wayOf_0 ?_
  refine r_istore_n dX12_wayOf_1 rfl ?_
  refine r_aload_n dX12_wayOf_2 rfl ?_
  refine r_getR dX12_wayOf_3 fl_X12_7 rfl (by assumption) (by assumption) ?_
  refine r_bipush dX12_wayOf_6 (by decide) ?_
  refine r_aload_n dX12_wayOf_8 rfl ?_
  refine r_getR dX12_wayOf_9 fl_X12_7 rfl (by assumption) (by assumption) ?_
  refine r_bipush dX12_wayOf_12 (by decide) ?_
  refine r_iload_n dX12_wayOf_14 rfl ?_
  refine r_iadd dX12_wayOf_15 ?_
  refine r_iald dX12_wayOf_16 (by assumption) rfl (by omega) ?_
  refine r_iadd dX12_wayOf_17 ?_
  refine r_iald dX12_wayOf_18 (by assumption) rfl (by omega) ?_
  refine r_iconst dX12_wayOf_19 ?_
  refine q_icmp_ne (tgt := 27) dX12_wayOf_20 rfl (by omega) (by omega) (fun c20 => ?_) (fun c20 => ?_)
  · refine r_iconst dX12_wayOf_27 ?_
    refine r_istore_n dX12_wayOf_28 rfl ?_
    refine r_iconst dX12_wayOf_29 ?_
    refine r_istore dX12_wayOf_30 rfl ?_
    refine AW.mono (loop _ (μ.1 (m + 1) 5).toNat 0 0 _ (Nat.lt_succ_self _) (by omega) (by omega) (by simp [c20])) ?_
    rintro r sh2 μ2 ⟨rfl, h⟩
    exact ⟨rfl, h⟩
  · refine r_iconst dX12_wayOf_23 ?_
    refine r_goto (tgt := 28) dX12_wayOf_24 rfl ?_
    refine r_istore_n dX12_wayOf_28 rfl ?_
    refine r_iconst dX12_wayOf_29 ?_
    refine r_istore dX12_wayOf_30 rfl ?_
    refine AW.mono (loop _ (μ.1 (m + 1) 5).toNat 0 0 _ (Nat.lt_succ_self _) (by omega) (by omega) (by simp [c20])) ?_
    rintro r sh2 μ2 ⟨rfl, h⟩
    exact ⟨rfl, h⟩
theorem m_weightOn {sh : Sh} {μ : Mem} {m : Nat} {s : Int} (hM : IsModel sh μ.2.2 m) (hw : WL (μ.1 (m + 1))) (hs : -2147483648 ≤ s ∧ s < 2147483648)  : FMet yX12_weightOn gX12_weightOn sh [vR m, vI s] μ (some (vI (wOnF (μ.1 (m + 1)) s))) μ := by
  obtain ⟨g0, f1, z1, f2, z2, f3, z3, f4, z4, f5, z5, f6, z6, f7, z7, f8, z8, f9, z9, f10, z10, f11, z11, f12, z12, f13, z13, f14, z14⟩ := id hM
  have hr := onF_rng (ρ := (μ.1 (m + 1))) hw.1.1 s
  obtain ⟨w1, w2, w3⟩ := id hw
  refine AMet.of (by decide) rfl (by decide) rfl ?_
  refine r_aload_n dX12_weightOn_0 rfl ?_
  refine r_iload_n dX12_weightOn_1 rfl ?_
  refine r_cV1F1 dX12_weightOn_2 ml_X12_210 yl_X12_on ⟨rfl, rfl⟩ (by assumption) ⟨_, rfl⟩ rfl rfl rfl rfl (m_on hM hw hs) ?_
  refine r_istore_n dX12_weightOn_5 rfl ?_
  refine r_iload_n dX12_weightOn_6 rfl ?_
  refine q_if_ge (tgt := 14) dX12_weightOn_7 rfl (by omega) (fun c7 => ?_) (fun c7 => ?_)
  · refine r_aload_n dX12_weightOn_14 rfl ?_
    refine r_getR dX12_weightOn_15 fl_X12_7 rfl (by assumption) (by assumption) ?_
    refine r_bipush dX12_weightOn_18 (by decide) ?_
    refine r_iload_n dX12_weightOn_20 rfl ?_
    refine r_iadd dX12_weightOn_21 ?_
    refine r_iald dX12_weightOn_22 (by assumption) rfl (by omega) ?_
    refine r_ireturn dX12_weightOn_23 rfl rfl rfl ?_
    refine ⟨?_, rfl, rfl⟩; congr 2; unfold wOnF; split <;> first | rfl | omega
  · refine r_iconst dX12_weightOn_10 ?_
    refine r_goto (tgt := 23) dX12_weightOn_11 rfl ?_
    refine r_ireturn dX12_weightOn_23 rfl rfl rfl ?_
    refine ⟨?_, rfl, rfl⟩; congr 2; unfold wOnF; split <;> first | rfl | omega
theorem m_inHold {sh : Sh} {μ : Mem} {m : Nat} {h : Int} (hM : IsModel sh μ.2.2 m) (hw : WF (μ.1 (m + 1))) (hh : -2147483648 ≤ h ∧ h < 2147483648)  : FMet yX12_inHold gX12_inHold sh [vR m, vI h] μ (some (vI (inHoldF (μ.1 (m + 1)) h))) μ := by
  obtain ⟨g0, f1, z1, f2, z2, f3, z3, f4, z4, f5, z5, f6, z6, f7, z7, f8, z8, f9, z9, f10, z10, f11, z11, f12, z12, f13, z13, f14, z14⟩ := id hM
  have hwl := hw.wl
  obtain ⟨⟨hn, hss, hh2, hj, ht, hg⟩, hb, hp, hd⟩ := id hw
  unfold WFn at hn
  have loop : ∀ (f n : Nat) (k : Int) (a : Int), n < f → 0 ≤ k → k + n = μ.1 (m + 1) 5 → AW gX12_inHold sh μ 0 0 4 [some (vR m), some (vI h), some (vI a), some (vI k)] [] (fun r2 sh2 μ2 => r2 = some (vI (a + sumF (fun j => if μ.1 (m + 1) (19 + j) = h then wOnF (μ.1 (m + 1)) j else 0) n k)) ∧ sh2 = sh ∧ μ2 = μ) := by
    intro f
    induction f with
    | zero => intro n; intros; omega
    | succ f ih =>
      intro n k a hf hk hn2
      refine r_iload_n dX12_inHold_4 rfl ?_
      refine r_aload_n dX12_inHold_5 rfl ?_
      refine r_getR dX12_inHold_6 fl_X12_7 rfl (by assumption) (by assumption) ?_
      refine r_iconst dX12_inHold_9 ?_
      refine r_iald dX12_inHold_10 (by assumption) rfl (by omega) ?_
      refine q_icmp_ge (tgt := 45) dX12_inHold_11 rfl (by omega) (by omega) (fun c11 => ?_) (fun c11 => ?_)
      · refine r_iload_n dX12_inHold_45 rfl ?_
        refine r_ireturn dX12_inHold_46 rfl rfl rfl ?_
        obtain rfl : n = 0 := by omega
        refine ⟨?_, rfl, rfl⟩
        simp [sumF]
      · refine r_iload_n dX12_inHold_14 rfl ?_
        refine r_aload_n dX12_inHold_15 rfl ?_
        refine r_getR dX12_inHold_16 fl_X12_7 rfl (by assumption) (by assumption) ?_
        refine r_bipush dX12_inHold_19 (by decide) ?_
        refine r_iload_n dX12_inHold_21 rfl ?_
        refine r_iadd dX12_inHold_22 ?_
        refine r_iald dX12_inHold_23 (by assumption) rfl (by omega) ?_
        refine r_iload_n dX12_inHold_24 rfl ?_
        have q2 := hss k (by omega) (by omega)
        refine q_icmp_ne (tgt := 36) dX12_inHold_25 rfl (by omega) (by omega) (fun c25 => ?_) (fun c25 => ?_)
        · refine r_iconst dX12_inHold_36 ?_
          refine r_iadd dX12_inHold_37 ?_
          refine r_istore_n dX12_inHold_38 rfl ?_
          refine r_iinc dX12_inHold_39 rfl rfl ?_
          refine r_goto (tgt := 4) dX12_inHold_42 rfl ?_
          obtain ⟨q, rfl⟩ : ∃ q, n = q + 1 := ⟨n - 1, by omega⟩
          refine AW.mono (ih q (k + 1) _ (by omega) (by omega) (by omega)) ?_
          rintro r sh2 μ2 ⟨rfl, hq⟩
          refine ⟨?_, hq⟩
          rw [sumF]
          congr 2
          first | (rw [if_pos (by assumption)]; omega) | (rw [if_neg (by assumption)]; omega)
        · refine r_aload_n dX12_inHold_28 rfl ?_
          refine r_iload_n dX12_inHold_29 rfl ?_
          refine r_cV1F1 dX12_inHold_30 ml_X12_213 yl_X12_weightOn ⟨rfl, rfl⟩ (by assumption) ⟨_, rfl⟩ rfl rfl rfl rfl (m_weightOn hM hwl (by omega)) ?_
          refine r_goto (tgt := 37) dX12_inHold_33 rfl ?_
          refine r_iadd dX12_inHold_37 ?_
          refine r_istore_n dX12_inHold_38 rfl ?_
          refine r_iinc dX12_inHold_39 rfl rfl ?_
          refine r_goto (tgt := 4) dX12_inHold_42 rfl ?_
          obtain ⟨q, rfl⟩ : ∃ q, n = q + 1 := ⟨n - 1, by omega⟩
          refine AW.mono (ih q (k + 1) _ (by omega) (by omega) (by omega)) ?_
          rintro r sh2 μ2 ⟨rfl, hq⟩
          refine ⟨?_, hq⟩
          rw [sumF]
          congr 2
          first | (rw [if_pos (by assumption)]; omega) | (rw [if_neg (by assumption)]; omega)
  refine AMet.of (by decide) rfl (by decide) rfl ?_
  refine r_iconst dX12_inHold_0 ?_
  refine r_istore_n dX12_inHold_1 rfl ?_
  refine r_iconst dX12_inHold_2 ?_
  refine r_istore_n dX12_inHold_3 rfl ?_
  refine AW.mono (loop _ (μ.1 (m + 1) 5).toNat 0 0 (Nat.lt_succ_self _) (by omega) (by omega)) ?_
  rintro r sh2 μ2 ⟨rfl, hq⟩
  refine ⟨?_, hq⟩
  rw [Int.zero_add]; rfl
