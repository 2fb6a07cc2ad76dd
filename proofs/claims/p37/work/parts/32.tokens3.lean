/-! 32.tokens3: taken from whole (wip/p37/port.py) -/
variable {n_ : Sh}
/-! 32.tokens3: words quoted, lines' ends, how many letters (wip/whole/src/32_tokens3.py) -/
theorem x_tells {μ : Mem} {T : Tq} {σ : Sg} (hL : Lay μ.2.2) (hT : TapX μ T.1 T.2) (hs : SgOK T σ) {i : Nat} (hi : i < 26)  : FMet yX9_tells gX9_tells (SH n_) [vR 2, vX i] (wTok μ σ) (some (vI (b2i (tellsF T σ i)))) (wTok μ σ) := by
  have x2 : (SH n_)[2]? = some (8, 7) := rfl
  have x3 : (SH n_)[3]? = some (20, 540) := rfl
  have r20 := hL.r2_0
  obtain ⟨t1, t2, t3⟩ := id hT
  have hs0 := hs
  unfold SgOK at hs0
  have hq := sx_rng i hi
  unfold tellsF
  by_cases hc : sE σ = 0 ∧ sK σ = 1 ∧ sT σ - sF σ = ((sxB i).length : Nat)
  · rw [decide_eq_true hc, Bool.true_and]
    obtain ⟨hc1, hc2, hc3⟩ := hc
    have lB : ∀ (f n : Nat) (k : Int), n < f → 0 ≤ k → k + n = ((sxB i).length : Int) → AW gX9_tells (SH n_) (wTok μ σ) 0 0 35 [some (vR 2), some (vX i), some (vI k)] [] (fun r2 sh2 μ2 => r2 = some (vI (b2i (allF (fun j => decide (T.1 (sF σ + j) = (sxB i).getD j.toNat 0)) n k))) ∧ sh2 = (SH n_) ∧ μ2 = wTok μ σ) := by
      intro f
      induction f with
      | zero => intro n; intros; omega
      | succ f ih =>
        intro n k hf hk hn2
        refine r_iload_n dX9_tells_35 rfl ?_
        refine r_aload_nX dX9_tells_36 rfl ?_
        refine r_cX0F1 dX9_tells_37 ml_X9_60 yl_J0_length_8abf5 ⟨rfl, rfl⟩ hi rfl rfl rfl rfl rfl (s_length hi) ?_
        refine q_icmp_ge (tgt := 70) dX9_tells_40 rfl (by omega) (by omega) (fun c40 => ?_) (fun c40 => ?_)
        · obtain rfl : n = 0 := by omega
          refine r_iconst dX9_tells_70 ?_
          refine r_zreturn dX9_tells_71 (by first | exact Or.inl rfl | exact Or.inr rfl | exact b2i_01 _ | omega) rfl rfl rfl ?_
          exact ⟨rfl, rfl, rfl⟩
        · have tk := t3 (sF σ + k) (by omega) (by omega)
          have hq2 := hq.2 k.toNat (by omega)
          obtain ⟨q, rfl⟩ : ∃ q, n = q + 1 := ⟨n - 1, by omega⟩
          refine r_aload_n dX9_tells_43 rfl ?_
          refine r_getR dX9_tells_44 fl_X9_9 rfl (by assumption) (by assumption) ?_
          refine r_aload_n dX9_tells_47 rfl ?_
          refine r_getI dX9_tells_48 fl_X9_19 rfl (by assumption) ?_
          (try simp only [wt1, wt2, wt3, wt4, wt5, wt6, wtx, mkT, mkF, mkK, mkE, mkP])
          refine r_iload_n dX9_tells_51 rfl ?_
          refine r_iadd dX9_tells_52 ?_
          refine r_iald dX9_tells_53 (by assumption) rfl (by omega) ?_
          simp only [wtx]
          rw [tk.1]
          refine r_aload_nX dX9_tells_54 rfl ?_
          refine r_iload_n dX9_tells_55 rfl ?_
          refine r_cX1F1 dX9_tells_56 ml_X9_65 yl_J0_charAt_5068e ⟨rfl, rfl⟩ hi rfl rfl rfl rfl rfl (s_charAt hi (by omega)) ?_
          refine q_icmp_eq (tgt := 64) dX9_tells_59 rfl (by omega) (by omega) (fun c59 => ?_) (fun c59 => ?_)
          · refine r_iinc dX9_tells_64 rfl rfl ?_
            refine r_goto (tgt := 35) dX9_tells_67 rfl ?_
            rw [allF, if_pos (decide_eq_true c59)]
            exact ih q (k + 1) (by omega) (by omega) (by omega)
          · refine r_iconst dX9_tells_62 ?_
            refine r_zreturn dX9_tells_63 (by first | exact Or.inl rfl | exact Or.inr rfl | exact b2i_01 _ | omega) rfl rfl rfl ?_
            rw [allF, if_neg (by rw [decide_eq_true_eq]; exact c59)]
            exact ⟨rfl, rfl, rfl⟩
    refine AMet.of (by decide) rfl (by decide) rfl ?_
    refine r_aload_n dX9_tells_0 rfl ?_
    refine r_getI dX9_tells_1 fl_X9_28 rfl (by assumption) ?_
    (try simp only [wt1, wt2, wt3, wt4, wt5, wt6, wtx, mkT, mkF, mkK, mkE, mkP])
    refine q_if_ne (tgt := 31) dX9_tells_4 rfl (by omega) (fun c4 => ?_) (fun c4 => ?_)
    · exact absurd hc1 c4
    · refine r_aload_n dX9_tells_7 rfl ?_
      refine r_getI dX9_tells_8 fl_X9_25 rfl (by assumption) ?_
      (try simp only [wt1, wt2, wt3, wt4, wt5, wt6, wtx, mkT, mkF, mkK, mkE, mkP])
      refine r_iconst dX9_tells_11 ?_
      refine q_icmp_ne (tgt := 31) dX9_tells_12 rfl (by omega) (by omega) (fun c12 => ?_) (fun c12 => ?_)
      · exact absurd hc2 c12
      · refine r_aload_n dX9_tells_15 rfl ?_
        refine r_getI dX9_tells_16 fl_X9_22 rfl (by assumption) ?_
        (try simp only [wt1, wt2, wt3, wt4, wt5, wt6, wtx, mkT, mkF, mkK, mkE, mkP])
        refine r_aload_n dX9_tells_19 rfl ?_
        refine r_getI dX9_tells_20 fl_X9_19 rfl (by assumption) ?_
        (try simp only [wt1, wt2, wt3, wt4, wt5, wt6, wtx, mkT, mkF, mkK, mkE, mkP])
        refine r_isub dX9_tells_23 ?_
        refine r_aload_nX dX9_tells_24 rfl ?_
        refine r_cX0F1 dX9_tells_25 ml_X9_60 yl_J0_length_8abf5 ⟨rfl, rfl⟩ hi rfl rfl rfl rfl rfl (s_length hi) ?_
        refine q_icmp_eq (tgt := 33) dX9_tells_28 rfl (by omega) (by omega) (fun c28 => ?_) (fun c28 => ?_)
        · refine r_iconst dX9_tells_33 ?_
          refine r_istore_n dX9_tells_34 rfl ?_
          exact lB _ (sxB i).length 0 (Nat.lt_succ_self _) (by omega) (by omega)
        · exact absurd hc3 c28
  · rw [decide_eq_false hc, Bool.false_and]
    refine AMet.of (by decide) rfl (by decide) rfl ?_
    refine r_aload_n dX9_tells_0 rfl ?_
    refine r_getI dX9_tells_1 fl_X9_28 rfl (by assumption) ?_
    (try simp only [wt1, wt2, wt3, wt4, wt5, wt6, wtx, mkT, mkF, mkK, mkE, mkP])
    refine q_if_ne (tgt := 31) dX9_tells_4 rfl (by omega) (fun c4 => ?_) (fun c4 => ?_)
    · refine r_iconst dX9_tells_31 ?_
      refine r_zreturn dX9_tells_32 (by first | exact Or.inl rfl | exact Or.inr rfl | exact b2i_01 _ | omega) rfl rfl rfl ?_
      exact ⟨rfl, rfl, rfl⟩
    · refine r_aload_n dX9_tells_7 rfl ?_
      refine r_getI dX9_tells_8 fl_X9_25 rfl (by assumption) ?_
      (try simp only [wt1, wt2, wt3, wt4, wt5, wt6, wtx, mkT, mkF, mkK, mkE, mkP])
      refine r_iconst dX9_tells_11 ?_
      refine q_icmp_ne (tgt := 31) dX9_tells_12 rfl (by omega) (by omega) (fun c12 => ?_) (fun c12 => ?_)
      · refine r_iconst dX9_tells_31 ?_
        refine r_zreturn dX9_tells_32 (by first | exact Or.inl rfl | exact Or.inr rfl | exact b2i_01 _ | omega) rfl rfl rfl ?_
        exact ⟨rfl, rfl, rfl⟩
      · refine r_aload_n dX9_tells_15 rfl ?_
        refine r_getI dX9_tells_16 fl_X9_22 rfl (by assumption) ?_
        (try simp only [wt1, wt2, wt3, wt4, wt5, wt6, wtx, mkT, mkF, mkK, mkE, mkP])
        refine r_aload_n dX9_tells_19 rfl ?_
        refine r_getI dX9_tells_20 fl_X9_19 rfl (by assumption) ?_
        (try simp only [wt1, wt2, wt3, wt4, wt5, wt6, wtx, mkT, mkF, mkK, mkE, mkP])
        refine r_isub dX9_tells_23 ?_
        refine r_aload_nX dX9_tells_24 rfl ?_
        refine r_cX0F1 dX9_tells_25 ml_X9_60 yl_J0_length_8abf5 ⟨rfl, rfl⟩ hi rfl rfl rfl rfl rfl (s_length hi) ?_
        refine q_icmp_eq (tgt := 33) dX9_tells_28 rfl (by omega) (by omega) (fun c28 => ?_) (fun c28 => ?_)
        · exact absurd ⟨by omega, by omega, by omega⟩ hc
        · refine r_iconst dX9_tells_31 ?_
          refine r_zreturn dX9_tells_32 (by first | exact Or.inl rfl | exact Or.inr rfl | exact b2i_01 _ | omega) rfl rfl rfl ?_
          exact ⟨rfl, rfl, rfl⟩
theorem x_isQuoted {μ : Mem} {T : Tq} {σ : Sg} (hL : Lay μ.2.2) (hT : TapX μ T.1 T.2) (hs : SgOK T σ)  : FMet yX9_isQuoted gX9_isQuoted (SH n_) [vR 2] (wTok μ σ) (some (vI (b2i (quoted T σ)))) (wTok μ σ) := by
  have x2 : (SH n_)[2]? = some (8, 7) := rfl
  have x3 : (SH n_)[3]? = some (20, 540) := rfl
  have r20 := hL.r2_0
  obtain ⟨t1, t2, t3⟩ := id hT
  have hs0 := hs
  unfold SgOK at hs0
  refine AMet.of (by decide) rfl (by decide) rfl ?_
  refine r_aload_n dX9_isQuoted_0 rfl ?_
  refine r_ldcX 13 dX9_isQuoted_1 (by decide) rfl rfl ?_
  refine r_cV1F1 dX9_isQuoted_3 ml_X9_71 yl_X9_tells ⟨rfl, rfl⟩ (by assumption) ⟨_, rfl⟩ rfl rfl rfl rfl (x_tells hL hT hs (i := 13) (by decide)) ?_
  refine r_if_neB (tgt := 117) dX9_isQuoted_6 rfl (fun c6 => ?_) (fun c6 => ?_)
  · refine r_iconst dX9_isQuoted_117 ?_
    refine r_goto (tgt := 122) dX9_isQuoted_118 rfl ?_
    refine r_zreturn dX9_isQuoted_122 (by first | exact Or.inl rfl | exact Or.inr rfl | exact b2i_01 _ | omega) rfl rfl rfl ?_
    first
      | (have hq : quoted T σ = true := by
           unfold quoted
           simp only [*, Bool.or_true, Bool.true_or]
         rw [hq]; exact ⟨rfl, rfl, rfl⟩)
      | (have hq : quoted T σ = false := by
           unfold quoted
           simp only [*, Bool.or_false]
         rw [hq]; exact ⟨rfl, rfl, rfl⟩)
  · refine r_aload_n dX9_isQuoted_9 rfl ?_
    refine r_ldcX 14 dX9_isQuoted_10 (by decide) rfl rfl ?_
    refine r_cV1F1 dX9_isQuoted_12 ml_X9_71 yl_X9_tells ⟨rfl, rfl⟩ (by assumption) ⟨_, rfl⟩ rfl rfl rfl rfl (x_tells hL hT hs (i := 14) (by decide)) ?_
    refine r_if_neB (tgt := 117) dX9_isQuoted_15 rfl (fun c15 => ?_) (fun c15 => ?_)
    · refine r_iconst dX9_isQuoted_117 ?_
      refine r_goto (tgt := 122) dX9_isQuoted_118 rfl ?_
      refine r_zreturn dX9_isQuoted_122 (by first | exact Or.inl rfl | exact Or.inr rfl | exact b2i_01 _ | omega) rfl rfl rfl ?_
      first
        | (have hq : quoted T σ = true := by
             unfold quoted
             simp only [*, Bool.or_true, Bool.true_or]
           rw [hq]; exact ⟨rfl, rfl, rfl⟩)
        | (have hq : quoted T σ = false := by
             unfold quoted
             simp only [*, Bool.or_false]
           rw [hq]; exact ⟨rfl, rfl, rfl⟩)
    · refine r_aload_n dX9_isQuoted_18 rfl ?_
      refine r_ldcX 15 dX9_isQuoted_19 (by decide) rfl rfl ?_
      refine r_cV1F1 dX9_isQuoted_21 ml_X9_71 yl_X9_tells ⟨rfl, rfl⟩ (by assumption) ⟨_, rfl⟩ rfl rfl rfl rfl (x_tells hL hT hs (i := 15) (by decide)) ?_
      refine r_if_neB (tgt := 117) dX9_isQuoted_24 rfl (fun c24 => ?_) (fun c24 => ?_)
      · refine r_iconst dX9_isQuoted_117 ?_
        refine r_goto (tgt := 122) dX9_isQuoted_118 rfl ?_
        refine r_zreturn dX9_isQuoted_122 (by first | exact Or.inl rfl | exact Or.inr rfl | exact b2i_01 _ | omega) rfl rfl rfl ?_
        first
          | (have hq : quoted T σ = true := by
               unfold quoted
               simp only [*, Bool.or_true, Bool.true_or]
             rw [hq]; exact ⟨rfl, rfl, rfl⟩)
          | (have hq : quoted T σ = false := by
               unfold quoted
               simp only [*, Bool.or_false]
             rw [hq]; exact ⟨rfl, rfl, rfl⟩)
      · refine r_aload_n dX9_isQuoted_27 rfl ?_
        refine r_ldcX 16 dX9_isQuoted_28 (by decide) rfl rfl ?_
        refine r_cV1F1 dX9_isQuoted_30 ml_X9_71 yl_X9_tells ⟨rfl, rfl⟩ (by assumption) ⟨_, rfl⟩ rfl rfl rfl rfl (x_tells hL hT hs (i := 16) (by decide)) ?_
        refine r_if_neB (tgt := 117) dX9_isQuoted_33 rfl (fun c33 => ?_) (fun c33 => ?_)
        · refine r_iconst dX9_isQuoted_117 ?_
          refine r_goto (tgt := 122) dX9_isQuoted_118 rfl ?_
          refine r_zreturn dX9_isQuoted_122 (by first | exact Or.inl rfl | exact Or.inr rfl | exact b2i_01 _ | omega) rfl rfl rfl ?_
          first
            | (have hq : quoted T σ = true := by
                 unfold quoted
                 simp only [*, Bool.or_true, Bool.true_or]
               rw [hq]; exact ⟨rfl, rfl, rfl⟩)
            | (have hq : quoted T σ = false := by
                 unfold quoted
                 simp only [*, Bool.or_false]
               rw [hq]; exact ⟨rfl, rfl, rfl⟩)
        · refine r_aload_n dX9_isQuoted_36 rfl ?_
          refine r_ldcX 17 dX9_isQuoted_37 (by decide) rfl rfl ?_
          refine r_cV1F1 dX9_isQuoted_39 ml_X9_71 yl_X9_tells ⟨rfl, rfl⟩ (by assumption) ⟨_, rfl⟩ rfl rfl rfl rfl (x_tells hL hT hs (i := 17) (by decide)) ?_
          refine r_if_neB (tgt := 117) dX9_isQuoted_42 rfl (fun c42 => ?_) (fun c42 => ?_)
          · refine r_iconst dX9_isQuoted_117 ?_
            refine r_goto (tgt := 122) dX9_isQuoted_118 rfl ?_
            refine r_zreturn dX9_isQuoted_122 (by first | exact Or.inl rfl | exact Or.inr rfl | exact b2i_01 _ | omega) rfl rfl rfl ?_
            first
              | (have hq : quoted T σ = true := by
                   unfold quoted
                   simp only [*, Bool.or_true, Bool.true_or]
                 rw [hq]; exact ⟨rfl, rfl, rfl⟩)
              | (have hq : quoted T σ = false := by
                   unfold quoted
                   simp only [*, Bool.or_false]
                 rw [hq]; exact ⟨rfl, rfl, rfl⟩)
          · refine r_aload_n dX9_isQuoted_45 rfl ?_
            refine r_ldcX 18 dX9_isQuoted_46 (by decide) rfl rfl ?_
            refine r_cV1F1 dX9_isQuoted_48 ml_X9_71 yl_X9_tells ⟨rfl, rfl⟩ (by assumption) ⟨_, rfl⟩ rfl rfl rfl rfl (x_tells hL hT hs (i := 18) (by decide)) ?_
            refine r_if_neB (tgt := 117) dX9_isQuoted_51 rfl (fun c51 => ?_) (fun c51 => ?_)
            · refine r_iconst dX9_isQuoted_117 ?_
              refine r_goto (tgt := 122) dX9_isQuoted_118 rfl ?_
              refine r_zreturn dX9_isQuoted_122 (by first | exact Or.inl rfl | exact Or.inr rfl | exact b2i_01 _ | omega) rfl rfl rfl ?_
              first
                | (have hq : quoted T σ = true := by
                     unfold quoted
                     simp only [*, Bool.or_true, Bool.true_or]
                   rw [hq]; exact ⟨rfl, rfl, rfl⟩)
                | (have hq : quoted T σ = false := by
                     unfold quoted
                     simp only [*, Bool.or_false]
                   rw [hq]; exact ⟨rfl, rfl, rfl⟩)
            · refine r_aload_n dX9_isQuoted_54 rfl ?_
              refine r_ldcX 19 dX9_isQuoted_55 (by decide) rfl rfl ?_
              refine r_cV1F1 dX9_isQuoted_57 ml_X9_71 yl_X9_tells ⟨rfl, rfl⟩ (by assumption) ⟨_, rfl⟩ rfl rfl rfl rfl (x_tells hL hT hs (i := 19) (by decide)) ?_
              refine r_if_neB (tgt := 117) dX9_isQuoted_60 rfl (fun c60 => ?_) (fun c60 => ?_)
              · refine r_iconst dX9_isQuoted_117 ?_
                refine r_goto (tgt := 122) dX9_isQuoted_118 rfl ?_
                refine r_zreturn dX9_isQuoted_122 (by first | exact Or.inl rfl | exact Or.inr rfl | exact b2i_01 _ | omega) rfl rfl rfl ?_
                first
                  | (have hq : quoted T σ = true := by
                       unfold quoted
                       simp only [*, Bool.or_true, Bool.true_or]
                     rw [hq]; exact ⟨rfl, rfl, rfl⟩)
                  | (have hq : quoted T σ = false := by
                       unfold quoted
                       simp only [*, Bool.or_false]
                     rw [hq]; exact ⟨rfl, rfl, rfl⟩)
              · refine r_aload_n dX9_isQuoted_63 rfl ?_
                refine r_ldcX 20 dX9_isQuoted_64 (by decide) rfl rfl ?_
                refine r_cV1F1 dX9_isQuoted_66 ml_X9_71 yl_X9_tells ⟨rfl, rfl⟩ (by assumption) ⟨_, rfl⟩ rfl rfl rfl rfl (x_tells hL hT hs (i := 20) (by decide)) ?_
                refine r_if_neB (tgt := 117) dX9_isQuoted_69 rfl (fun c69 => ?_) (fun c69 => ?_)
                · refine r_iconst dX9_isQuoted_117 ?_
                  refine r_goto (tgt := 122) dX9_isQuoted_118 rfl ?_
                  refine r_zreturn dX9_isQuoted_122 (by first | exact Or.inl rfl | exact Or.inr rfl | exact b2i_01 _ | omega) rfl rfl rfl ?_
                  first
                    | (have hq : quoted T σ = true := by
                         unfold quoted
                         simp only [*, Bool.or_true, Bool.true_or]
                       rw [hq]; exact ⟨rfl, rfl, rfl⟩)
                    | (have hq : quoted T σ = false := by
                         unfold quoted
                         simp only [*, Bool.or_false]
                       rw [hq]; exact ⟨rfl, rfl, rfl⟩)
                · refine r_aload_n dX9_isQuoted_72 rfl ?_
                  refine r_ldcX 21 dX9_isQuoted_73 (by decide) rfl rfl ?_
                  refine r_cV1F1 dX9_isQuoted_75 ml_X9_71 yl_X9_tells ⟨rfl, rfl⟩ (by assumption) ⟨_, rfl⟩ rfl rfl rfl rfl (x_tells hL hT hs (i := 21) (by decide)) ?_
                  refine r_if_neB (tgt := 117) dX9_isQuoted_78 rfl (fun c78 => ?_) (fun c78 => ?_)
                  · refine r_iconst dX9_isQuoted_117 ?_
                    refine r_goto (tgt := 122) dX9_isQuoted_118 rfl ?_
                    refine r_zreturn dX9_isQuoted_122 (by first | exact Or.inl rfl | exact Or.inr rfl | exact b2i_01 _ | omega) rfl rfl rfl ?_
                    first
                      | (have hq : quoted T σ = true := by
                           unfold quoted
                           simp only [*, Bool.or_true, Bool.true_or]
                         rw [hq]; exact ⟨rfl, rfl, rfl⟩)
                      | (have hq : quoted T σ = false := by
                           unfold quoted
                           simp only [*, Bool.or_false]
                         rw [hq]; exact ⟨rfl, rfl, rfl⟩)
                  · refine r_aload_n dX9_isQuoted_81 rfl ?_
                    refine r_ldcX 22 dX9_isQuoted_82 (by decide) rfl rfl ?_
                    refine r_cV1F1 dX9_isQuoted_84 ml_X9_71 yl_X9_tells ⟨rfl, rfl⟩ (by assumption) ⟨_, rfl⟩ rfl rfl rfl rfl (x_tells hL hT hs (i := 22) (by decide)) ?_
                    refine r_if_neB (tgt := 117) dX9_isQuoted_87 rfl (fun c87 => ?_) (fun c87 => ?_)
                    · refine r_iconst dX9_isQuoted_117 ?_
                      refine r_goto (tgt := 122) dX9_isQuoted_118 rfl ?_
                      refine r_zreturn dX9_isQuoted_122 (by first | exact Or.inl rfl | exact Or.inr rfl | exact b2i_01 _ | omega) rfl rfl rfl ?_
                      first
                        | (have hq : quoted T σ = true := by
                             unfold quoted
                             simp only [*, Bool.or_true, Bool.true_or]
                           rw [hq]; exact ⟨rfl, rfl, rfl⟩)
                        | (have hq : quoted T σ = false := by
                             unfold quoted
                             simp only [*, Bool.or_false]
                           rw [hq]; exact ⟨rfl, rfl, rfl⟩)
                    · refine r_aload_n dX9_isQuoted_90 rfl ?_
                      refine r_ldcX 23 dX9_isQuoted_91 (by decide) rfl rfl ?_
                      refine r_cV1F1 dX9_isQuoted_93 ml_X9_71 yl_X9_tells ⟨rfl, rfl⟩ (by assumption) ⟨_, rfl⟩ rfl rfl rfl rfl (x_tells hL hT hs (i := 23) (by decide)) ?_
                      refine r_if_neB (tgt := 117) dX9_isQuoted_96 rfl (fun c96 => ?_) (fun c96 => ?_)
                      · refine r_iconst dX9_isQuoted_117 ?_
                        refine r_goto (tgt := 122) dX9_isQuoted_118 rfl ?_
                        refine r_zreturn dX9_isQuoted_122 (by first | exact Or.inl rfl | exact Or.inr rfl | exact b2i_01 _ | omega) rfl rfl rfl ?_
                        first
                          | (have hq : quoted T σ = true := by
                               unfold quoted
                               simp only [*, Bool.or_true, Bool.true_or]
                             rw [hq]; exact ⟨rfl, rfl, rfl⟩)
                          | (have hq : quoted T σ = false := by
                               unfold quoted
                               simp only [*, Bool.or_false]
                             rw [hq]; exact ⟨rfl, rfl, rfl⟩)
                      · refine r_aload_n dX9_isQuoted_99 rfl ?_
                        refine r_ldcX 24 dX9_isQuoted_100 (by decide) rfl rfl ?_
                        refine r_cV1F1 dX9_isQuoted_102 ml_X9_71 yl_X9_tells ⟨rfl, rfl⟩ (by assumption) ⟨_, rfl⟩ rfl rfl rfl rfl (x_tells hL hT hs (i := 24) (by decide)) ?_
                        refine r_if_neB (tgt := 117) dX9_isQuoted_105 rfl (fun c105 => ?_) (fun c105 => ?_)
                        · refine r_iconst dX9_isQuoted_117 ?_
                          refine r_goto (tgt := 122) dX9_isQuoted_118 rfl ?_
                          refine r_zreturn dX9_isQuoted_122 (by first | exact Or.inl rfl | exact Or.inr rfl | exact b2i_01 _ | omega) rfl rfl rfl ?_
                          first
                            | (have hq : quoted T σ = true := by
                                 unfold quoted
                                 simp only [*, Bool.or_true, Bool.true_or]
                               rw [hq]; exact ⟨rfl, rfl, rfl⟩)
                            | (have hq : quoted T σ = false := by
                                 unfold quoted
                                 simp only [*, Bool.or_false]
                               rw [hq]; exact ⟨rfl, rfl, rfl⟩)
                        · refine r_aload_n dX9_isQuoted_108 rfl ?_
                          refine r_ldcX 25 dX9_isQuoted_109 (by decide) rfl rfl ?_
                          refine r_cV1F1 dX9_isQuoted_111 ml_X9_71 yl_X9_tells ⟨rfl, rfl⟩ (by assumption) ⟨_, rfl⟩ rfl rfl rfl rfl (x_tells hL hT hs (i := 25) (by decide)) ?_
                          refine r_if_eqB (tgt := 121) dX9_isQuoted_114 rfl (fun c114 => ?_) (fun c114 => ?_)
                          · refine r_iconst dX9_isQuoted_121 ?_
                            refine r_zreturn dX9_isQuoted_122 (by first | exact Or.inl rfl | exact Or.inr rfl | exact b2i_01 _ | omega) rfl rfl rfl ?_
                            first
                              | (have hq : quoted T σ = true := by
                                   unfold quoted
                                   simp only [*, Bool.or_true, Bool.true_or]
                                 rw [hq]; exact ⟨rfl, rfl, rfl⟩)
                              | (have hq : quoted T σ = false := by
                                   unfold quoted
                                   simp only [*, Bool.or_false]
                                 rw [hq]; exact ⟨rfl, rfl, rfl⟩)
                          · refine r_iconst dX9_isQuoted_117 ?_
                            refine r_goto (tgt := 122) dX9_isQuoted_118 rfl ?_
                            refine r_zreturn dX9_isQuoted_122 (by first | exact Or.inl rfl | exact Or.inr rfl | exact b2i_01 _ | omega) rfl rfl rfl ?_
                            first
                              | (have hq : quoted T σ = true := by
                                   unfold quoted
                                   simp only [*, Bool.or_true, Bool.true_or]
                                 rw [hq]; exact ⟨rfl, rfl, rfl⟩)
                              | (have hq : quoted T σ = false := by
                                   unfold quoted
                                   simp only [*, Bool.or_false]
                                 rw [hq]; exact ⟨rfl, rfl, rfl⟩)
theorem wordC_eq (T : Tq) (σ : Sg) : wordC T σ = if sE (nxt T σ) ≠ 0 then (0, nxt T σ) else (pkC T (sF (nxt T σ)) (sT (nxt T σ)), if sK (nxt T σ) ≠ 1 ∨ quoted T (nxt T σ) = true then failC (nxt T σ) 1 else nxt T σ) := by
  unfold wordC
  dsimp only
theorem fail_F (σ : Sg) (k : Int) : sF (failC σ k) = sF σ := by unfold failC; split <;> rfl
theorem fail_T (σ : Sg) (k : Int) : sT (failC σ k) = sT σ := by unfold failC; split <;> rfl
theorem x_newWord {μ : Mem} {T : Tq} {σ : Sg} (hL : Lay μ.2.2) (hT : TapX μ T.1 T.2) (hs : SgOK T σ)  : FMet yX9_newWord gX9_newWord (SH n_) [vR 2] (wTok μ σ) (some (vL (wordC T σ).1)) (wTok μ (wordC T σ).2) := by
  have x2 : (SH n_)[2]? = some (8, 7) := rfl
  have x3 : (SH n_)[3]? = some (20, 540) := rfl
  have r20 := hL.r2_0
  obtain ⟨t1, t2, t3⟩ := id hT
  have hs0 := hs
  unfold SgOK at hs0
  obtain ⟨h1a, h1b, h1c⟩ := nxt_ok t2.2 hs
  rw [wordC_eq]
  have hle := nxt_le (T := T) (σ := σ)
  generalize hs1d : nxt T σ = s1 at *
  have hs1 := h1a
  unfold SgOK at hs1
  refine AMet.of (by decide) rfl (by decide) rfl ?_
  refine r_aload_n dX9_newWord_0 rfl ?_
  refine r_cV0F0 dX9_newWord_1 ml_X9_49 yl_X9_next ⟨rfl, rfl⟩ (by assumption) ⟨_, rfl⟩ rfl rfl rfl rfl (x_next hL hT hs) ?_
  rw [hs1d]
  refine r_aload_n dX9_newWord_4 rfl ?_
  refine r_getI dX9_newWord_5 fl_X9_28 rfl (by assumption) ?_
  (try simp only [wt1, wt2, wt3, wt4, wt5, wt6, wtx, mkT, mkF, mkK, mkE, mkP]); (try rw [hF2]); (try rw [hT2])
  refine q_if_eq (tgt := 13) dX9_newWord_8 rfl (by omega) (fun c8 => ?_) (fun c8 => ?_)
  · refine r_aload_n dX9_newWord_13 rfl ?_
    refine r_getI dX9_newWord_14 fl_X9_25 rfl (by assumption) ?_
    (try simp only [wt1, wt2, wt3, wt4, wt5, wt6, wtx, mkT, mkF, mkK, mkE, mkP]); (try rw [hF2]); (try rw [hT2])
    refine r_iconst dX9_newWord_17 ?_
    refine q_icmp_ne (tgt := 28) dX9_newWord_18 rfl (by omega) (by omega) (fun c18 => ?_) (fun c18 => ?_)
    · refine r_aload_n dX9_newWord_28 rfl ?_
      refine r_iconst dX9_newWord_29 ?_
      refine r_cV1F0 dX9_newWord_30 ml_X9_34 yl_X9_fail ⟨rfl, rfl⟩ (by assumption) ⟨_, rfl⟩ rfl rfl rfl rfl (x_fail hL hT h1a) ?_
      have h2a := fail_ok h1a (k := 1) (by omega)
      have hF2 := fail_F s1 1
      have hT2 := fail_T s1 1
      generalize hs2d : failC s1 1 = s2 at *
      refine r_aload_n dX9_newWord_33 rfl ?_
      refine r_aload_n dX9_newWord_34 rfl ?_
      refine r_getI dX9_newWord_35 fl_X9_19 rfl (by assumption) ?_
      (try simp only [wt1, wt2, wt3, wt4, wt5, wt6, wtx, mkT, mkF, mkK, mkE, mkP]); (try rw [hF2]); (try rw [hT2])
      refine r_aload_n dX9_newWord_38 rfl ?_
      refine r_getI dX9_newWord_39 fl_X9_22 rfl (by assumption) ?_
      (try simp only [wt1, wt2, wt3, wt4, wt5, wt6, wtx, mkT, mkF, mkK, mkE, mkP]); (try rw [hF2]); (try rw [hT2])
      refine r_cV2F1 dX9_newWord_42 ml_X9_56 yl_X9_packed ⟨rfl, rfl⟩ (by assumption) ⟨_, rfl⟩ rfl rfl rfl rfl (x_packed hL hT (by omega) (by omega) (hle (by omega))) ?_
      refine r_lreturn dX9_newWord_45 rfl rfl rfl ?_
      first
        | rw [if_pos (show sE s1 ≠ 0 by omega)]; exact ⟨rfl, rfl, rfl⟩
        | rw [if_neg (show ¬ sE s1 ≠ 0 by omega), if_pos (show sK s1 ≠ 1 ∨ quoted T s1 = true from Or.inl (by omega))]; exact ⟨rfl, rfl, rfl⟩
        | rw [if_neg (show ¬ sE s1 ≠ 0 by omega), if_pos (show sK s1 ≠ 1 ∨ quoted T s1 = true from Or.inr (by assumption))]; exact ⟨rfl, rfl, rfl⟩
        | rw [if_neg (show ¬ sE s1 ≠ 0 by omega), if_neg (show ¬ (sK s1 ≠ 1 ∨ quoted T s1 = true) from fun h => h.elim (by omega) (by rw [c25]; decide))]; exact ⟨rfl, rfl, rfl⟩
    · refine r_aload_n dX9_newWord_21 rfl ?_
      refine r_cV0F1 dX9_newWord_22 ml_X9_52 yl_X9_isQuoted ⟨rfl, rfl⟩ (by assumption) ⟨_, rfl⟩ rfl rfl rfl rfl (x_isQuoted hL hT h1a) ?_
      refine r_if_eqB (tgt := 33) dX9_newWord_25 rfl (fun c25 => ?_) (fun c25 => ?_)
      · refine r_aload_n dX9_newWord_33 rfl ?_
        refine r_aload_n dX9_newWord_34 rfl ?_
        refine r_getI dX9_newWord_35 fl_X9_19 rfl (by assumption) ?_
        (try simp only [wt1, wt2, wt3, wt4, wt5, wt6, wtx, mkT, mkF, mkK, mkE, mkP]); (try rw [hF2]); (try rw [hT2])
        refine r_aload_n dX9_newWord_38 rfl ?_
        refine r_getI dX9_newWord_39 fl_X9_22 rfl (by assumption) ?_
        (try simp only [wt1, wt2, wt3, wt4, wt5, wt6, wtx, mkT, mkF, mkK, mkE, mkP]); (try rw [hF2]); (try rw [hT2])
        refine r_cV2F1 dX9_newWord_42 ml_X9_56 yl_X9_packed ⟨rfl, rfl⟩ (by assumption) ⟨_, rfl⟩ rfl rfl rfl rfl (x_packed hL hT (by omega) (by omega) (hle (by omega))) ?_
        refine r_lreturn dX9_newWord_45 rfl rfl rfl ?_
        first
          | rw [if_pos (show sE s1 ≠ 0 by omega)]; exact ⟨rfl, rfl, rfl⟩
          | rw [if_neg (show ¬ sE s1 ≠ 0 by omega), if_pos (show sK s1 ≠ 1 ∨ quoted T s1 = true from Or.inl (by omega))]; exact ⟨rfl, rfl, rfl⟩
          | rw [if_neg (show ¬ sE s1 ≠ 0 by omega), if_pos (show sK s1 ≠ 1 ∨ quoted T s1 = true from Or.inr (by assumption))]; exact ⟨rfl, rfl, rfl⟩
          | rw [if_neg (show ¬ sE s1 ≠ 0 by omega), if_neg (show ¬ (sK s1 ≠ 1 ∨ quoted T s1 = true) from fun h => h.elim (by omega) (by rw [c25]; decide))]; exact ⟨rfl, rfl, rfl⟩
      · refine r_aload_n dX9_newWord_28 rfl ?_
        refine r_iconst dX9_newWord_29 ?_
        refine r_cV1F0 dX9_newWord_30 ml_X9_34 yl_X9_fail ⟨rfl, rfl⟩ (by assumption) ⟨_, rfl⟩ rfl rfl rfl rfl (x_fail hL hT h1a) ?_
        have h2a := fail_ok h1a (k := 1) (by omega)
        have hF2 := fail_F s1 1
        have hT2 := fail_T s1 1
        generalize hs2d : failC s1 1 = s2 at *
        refine r_aload_n dX9_newWord_33 rfl ?_
        refine r_aload_n dX9_newWord_34 rfl ?_
        refine r_getI dX9_newWord_35 fl_X9_19 rfl (by assumption) ?_
        (try simp only [wt1, wt2, wt3, wt4, wt5, wt6, wtx, mkT, mkF, mkK, mkE, mkP]); (try rw [hF2]); (try rw [hT2])
        refine r_aload_n dX9_newWord_38 rfl ?_
        refine r_getI dX9_newWord_39 fl_X9_22 rfl (by assumption) ?_
        (try simp only [wt1, wt2, wt3, wt4, wt5, wt6, wtx, mkT, mkF, mkK, mkE, mkP]); (try rw [hF2]); (try rw [hT2])
        refine r_cV2F1 dX9_newWord_42 ml_X9_56 yl_X9_packed ⟨rfl, rfl⟩ (by assumption) ⟨_, rfl⟩ rfl rfl rfl rfl (x_packed hL hT (by omega) (by omega) (hle (by omega))) ?_
        refine r_lreturn dX9_newWord_45 rfl rfl rfl ?_
        first
          | rw [if_pos (show sE s1 ≠ 0 by omega)]; exact ⟨rfl, rfl, rfl⟩
          | rw [if_neg (show ¬ sE s1 ≠ 0 by omega), if_pos (show sK s1 ≠ 1 ∨ quoted T s1 = true from Or.inl (by omega))]; exact ⟨rfl, rfl, rfl⟩
          | rw [if_neg (show ¬ sE s1 ≠ 0 by omega), if_pos (show sK s1 ≠ 1 ∨ quoted T s1 = true from Or.inr (by assumption))]; exact ⟨rfl, rfl, rfl⟩
          | rw [if_neg (show ¬ sE s1 ≠ 0 by omega), if_neg (show ¬ (sK s1 ≠ 1 ∨ quoted T s1 = true) from fun h => h.elim (by omega) (by rw [c25]; decide))]; exact ⟨rfl, rfl, rfl⟩
  · refine r_lconst (x := 0) dX9_newWord_11 rfl ?_
    refine r_lreturn dX9_newWord_12 rfl rfl rfl ?_
    first
      | rw [if_pos (show sE s1 ≠ 0 by omega)]; exact ⟨rfl, rfl, rfl⟩
      | rw [if_neg (show ¬ sE s1 ≠ 0 by omega), if_pos (show sK s1 ≠ 1 ∨ quoted T s1 = true from Or.inl (by omega))]; exact ⟨rfl, rfl, rfl⟩
      | rw [if_neg (show ¬ sE s1 ≠ 0 by omega), if_pos (show sK s1 ≠ 1 ∨ quoted T s1 = true from Or.inr (by assumption))]; exact ⟨rfl, rfl, rfl⟩
      | rw [if_neg (show ¬ sE s1 ≠ 0 by omega), if_neg (show ¬ (sK s1 ≠ 1 ∨ quoted T s1 = true) from fun h => h.elim (by omega) (by rw [c25]; decide))]; exact ⟨rfl, rfl, rfl⟩
theorem lendC_eq (T : Tq) (σ : Sg) : lendC T σ = if sK (nxt T σ) ≠ 3 then failC (nxt T σ) 1 else nxt T σ := rfl
theorem x_lineEnd {μ : Mem} {T : Tq} {σ : Sg} (hL : Lay μ.2.2) (hT : TapX μ T.1 T.2) (hs : SgOK T σ)  : FMet yX9_lineEnd gX9_lineEnd (SH n_) [vR 2] (wTok μ σ) none (wTok μ (lendC T σ)) := by
  have x2 : (SH n_)[2]? = some (8, 7) := rfl
  have x3 : (SH n_)[3]? = some (20, 540) := rfl
  have r20 := hL.r2_0
  obtain ⟨t1, t2, t3⟩ := id hT
  have hs0 := hs
  unfold SgOK at hs0
  obtain ⟨h1a, h1b, h1c⟩ := nxt_ok t2.2 hs
  rw [lendC_eq]
  generalize hs1d : nxt T σ = s1 at *
  have hs1 := h1a
  unfold SgOK at hs1
  refine AMet.of (by decide) rfl (by decide) rfl ?_
  refine r_aload_n dX9_lineEnd_0 rfl ?_
  refine r_cV0F0 dX9_lineEnd_1 ml_X9_49 yl_X9_next ⟨rfl, rfl⟩ (by assumption) ⟨_, rfl⟩ rfl rfl rfl rfl (x_next hL hT hs) ?_
  rw [hs1d]
  refine r_aload_n dX9_lineEnd_4 rfl ?_
  refine r_getI dX9_lineEnd_5 fl_X9_25 rfl (by assumption) ?_
  (try simp only [wt1, wt2, wt3, wt4, wt5, wt6, wtx, mkT, mkF, mkK, mkE, mkP])
  refine r_iconst dX9_lineEnd_8 ?_
  refine q_icmp_eq (tgt := 17) dX9_lineEnd_9 rfl (by omega) (by omega) (fun c9 => ?_) (fun c9 => ?_)
  · refine r_return dX9_lineEnd_17 rfl rfl rfl ?_
    first
      | rw [if_pos (show sK s1 ≠ 3 by omega)]; exact ⟨rfl, rfl, rfl⟩
      | rw [if_neg (show ¬ sK s1 ≠ 3 by omega)]; exact ⟨rfl, rfl, rfl⟩
  · refine r_aload_n dX9_lineEnd_12 rfl ?_
    refine r_iconst dX9_lineEnd_13 ?_
    refine r_cV1F0 dX9_lineEnd_14 ml_X9_34 yl_X9_fail ⟨rfl, rfl⟩ (by assumption) ⟨_, rfl⟩ rfl rfl rfl rfl (x_fail hL hT h1a) ?_
    refine r_return dX9_lineEnd_17 rfl rfl rfl ?_
    first
      | rw [if_pos (show sK s1 ≠ 3 by omega)]; exact ⟨rfl, rfl, rfl⟩
      | rw [if_neg (show ¬ sK s1 ≠ 3 by omega)]; exact ⟨rfl, rfl, rfl⟩
theorem lushr_rng (x y : Int) : -9223372036854775808 ≤ lushr x y ∧ lushr x y < 9223372036854775808 := by
  unfold lushr
  exact ⟨Int64.le_toInt _, Int64.toInt_lt _⟩
theorem x_lettersOf {sh : Sh} {μ : Mem} {x : Int}  : FMet yX9_lettersOf gX9_lettersOf sh [vL x] μ (some (vI (sumF (fun i => if lushr x (5 * i) = 0 then 0 else 1) 8 0))) μ := by
  have hr := fun (k : Int) (_ : 0 ≤ k ∧ k < 8) => lushr_rng x (5 * k)
  have lB : ∀ (f n : Nat) (k : Int) (v : Int), n < f → 0 ≤ k → k + n = 8 → AW gX9_lettersOf sh μ 0 0 4 [some (vL x), none, some (vI v), some (vI k)] [] (fun r2 sh2 μ2 => r2 = some (vI (v + sumF (fun i => if lushr x (5 * i) = 0 then 0 else 1) n k)) ∧ sh2 = sh ∧ μ2 = μ) := by
    intro f
    induction f with
    | zero => intro n; intros; omega
    | succ f ih =>
      intro n k v hf hk hn2
      refine r_iload_n dX9_lettersOf_4 rfl ?_
      refine r_bipush dX9_lettersOf_5 (by decide) ?_
      refine q_icmp_ge (tgt := 29) dX9_lettersOf_7 rfl (by omega) (by omega) (fun c7 => ?_) (fun c7 => ?_)
      · obtain rfl : n = 0 := by omega
        refine r_iload_n dX9_lettersOf_29 rfl ?_
        refine r_ireturn dX9_lettersOf_30 rfl rfl rfl ?_
        refine ⟨rI ?_, rfl, rfl⟩
        simp only [sumF]
        omega
      · obtain ⟨q, rfl⟩ : ∃ q, n = q + 1 := ⟨n - 1, by omega⟩
        refine r_lload_n dX9_lettersOf_10 rfl ?_
        refine r_iconst dX9_lettersOf_11 ?_
        refine r_iload_n dX9_lettersOf_12 rfl ?_
        refine r_imul dX9_lettersOf_13 ?_
        refine r_lushr dX9_lettersOf_14 ?_
        refine r_lconst (x := 0) dX9_lettersOf_15 rfl ?_
        refine r_lcmp dX9_lettersOf_16 (hr k ⟨by omega, by omega⟩) (by omega) ?_
        refine q_if_eq (tgt := 23) dX9_lettersOf_17 rfl (by simp only [icmpL]; split <;> (try split) <;> omega) (fun c17 => ?_) (fun c17 => ?_)
        · have c17 : lushr x (5 * k) = 0 := by simp only [icmpL] at c17; split at c17 <;> (try split at c17) <;> omega
          refine r_iinc dX9_lettersOf_23 rfl rfl ?_
          refine r_goto (tgt := 4) dX9_lettersOf_26 rfl ?_
          rw [sumF]
          first
            | rw [if_neg c17, ← Int.add_assoc]; exact ih q (k + 1) (v + 1) (by omega) (by omega) (by omega)
            | rw [if_pos c17, Int.zero_add]; exact ih q (k + 1) v (by omega) (by omega) (by omega)
        · have c17 : ¬ lushr x (5 * k) = 0 := by intro hh; rw [hh] at c17; exact c17 rfl
          refine r_iinc dX9_lettersOf_20 rfl rfl ?_
          refine r_iinc dX9_lettersOf_23 rfl rfl ?_
          refine r_goto (tgt := 4) dX9_lettersOf_26 rfl ?_
          rw [sumF]
          first
            | rw [if_neg c17, ← Int.add_assoc]; exact ih q (k + 1) (v + 1) (by omega) (by omega) (by omega)
            | rw [if_pos c17, Int.zero_add]; exact ih q (k + 1) v (by omega) (by omega) (by omega)
  refine AMet.of (by decide) rfl (by decide) rfl ?_
  refine r_iconst dX9_lettersOf_0 ?_
  refine r_istore_n dX9_lettersOf_1 rfl ?_
  refine r_iconst dX9_lettersOf_2 ?_
  refine r_istore_n dX9_lettersOf_3 rfl ?_
  refine AW.mono (lB _ 8 0 0 (Nat.lt_succ_self _) (by omega) (by omega)) ?_
  rintro r sh2 μ2 ⟨rfl, rfl, rfl⟩
  exact ⟨rI (Int.zero_add _), rfl, rfl⟩

