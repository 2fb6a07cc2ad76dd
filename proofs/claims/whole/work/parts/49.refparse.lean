/-! 49.refparse: words and numbers, in the reference (wip/whole/src/49_refparse.py) -/
def knownF (T : Tq) (τ : Sg) : Int := fnd (fun k => tellsF T τ k.toNat) 13 0
theorem kn_tab : ∀ k : Nat, k < 13 → ∀ i : Nat, i < 6 → knownL.getD (6 * k + i) 0 = (sxB k).getD i 0 := by decide +kernel
theorem sx_out : ∀ k : Nat, k < 13 → ∀ i : Nat, i < 6 → (sxB k).length ≤ i → (sxB k).getD i 0 = 0 := by decide +kernel
theorem kn_rng0 : ∀ j : Nat, j < 78 → 0 ≤ knownL.getD j 0 ∧ knownL.getD j 0 ≤ 127 := by decide +kernel
theorem kn_rng (j : Int) (h : 0 ≤ j ∧ j < 78) : 0 ≤ knownL.getD j.toNat 0 ∧ knownL.getD j.toNat 0 ≤ 127 := kn_rng0 _ (by omega)
/-- a token's word, if it is one -/
def WdOK (T : Tq) (τ : Sg) : Prop := sK τ = 1 → (0 ≤ sF τ ∧ 1 ≤ sT τ - sF τ ∧ sT τ - sF τ ≤ 8 ∧ sT τ ≤ T.2) ∧ letters (fun i => T.1 (sF τ + i)) (sT τ - sF τ).toNat
theorem kn_eq {T : Tq} {τ : Sg} (hw : WdOK T τ) (h0 : sE τ = 0) {k : Nat} (hk : k < 13) : (sK τ = 1 ∧ sT τ - sF τ < 7 ∧ ∀ i, 0 ≤ i → i < 6 → knownL.getD (6 * (k : Int) + i).toNat 0 = if i < sT τ - sF τ then T.1 (sF τ + i) else 0) ↔ tellsF T τ k = true := by
  unfold tellsF
  rw [Bool.and_eq_true, decide_eq_true_eq, allF_iff]
  obtain ⟨⟨r1, r2⟩, r3⟩ := sx_rng k (by omega)
  constructor
  · rintro ⟨h1, h2, h3⟩
    obtain ⟨w1, w2⟩ := hw h1
    have key : ∀ i : Nat, i < 6 → (sxB k).getD i 0 = if (i : Int) < sT τ - sF τ then T.1 (sF τ + i) else 0 := by
      intro i hi
      rw [← kn_tab k hk i hi, ← h3 i (by omega) (by omega), show (6 * (k : Int) + i).toNat = 6 * k + i by omega]
    have hlen : sT τ - sF τ = ((sxB k).length : Nat) := by
      rcases Int.lt_trichotomy (sT τ - sF τ) ((sxB k).length : Nat) with h | h | h
      · exfalso
        have a := key (sT τ - sF τ).toNat (by omega)
        rw [if_neg (by omega)] at a
        have b := r3 (sT τ - sF τ).toNat (by omega)
        omega
      · exact h
      · exfalso
        have a := key (sxB k).length (by omega)
        rw [if_pos h, sx_out k hk _ (by omega) (Nat.le_refl _)] at a
        have b := w2 ((sxB k).length : Nat) (by omega) (by omega)
        dsimp only at b
        omega
    refine ⟨⟨h0, h1, hlen⟩, fun j j0 j1 => decide_eq_true ?_⟩
    have a := key j.toNat (by omega)
    rw [if_pos (by omega), show ((j.toNat : Nat) : Int) = j by omega] at a
    exact a.symm
  · rintro ⟨⟨-, h1, h2⟩, h3⟩
    refine ⟨h1, by omega, fun i i0 i1 => ?_⟩
    rw [show (6 * (k : Int) + i).toNat = 6 * k + i.toNat by omega, kn_tab k hk _ (by omega)]
    by_cases e : i < sT τ - sF τ
    · rw [if_pos e]
      exact (of_decide_eq_true (h3 i i0 (by omega))).symm
    · rw [if_neg e]
      exact sx_out k hk _ (by omega) (by omega)
theorem m_known {sh : Sh} {μ : Mem} {m : Nat} {T : Tq} {τ : Sg} (hM : IsModel sh μ.2.2 m) (hA : AT m μ T τ) (hw : WdOK T τ) (h0 : sE τ = 0) (hk4 : 0 ≤ sK τ ∧ sK τ ≤ 4)  : FMet yX12_known gX12_known sh [vR m] μ (some (vI (knownF T τ))) μ := by
  obtain ⟨g0, f1, z1, f2, z2, f3, z3, f4, z4, f5, z5, f6, z6, f7, z7, f8, z8, f9, z9, f10, z10, f11, z11, f12, z12, f13, z13, f14, z14⟩ := id hM
  obtain ⟨a10, a11, a9, a12, a13⟩ := id hA
  have lI : ∀ (f n : Nat) (k : Int) (k0 is : Int) (P : Option AV → Sh → Mem → Prop), n < f → 0 ≤ k → k + n = 6 → (0 ≤ k0 ∧ k0 < 13) → (is = 0 ∨ is = 1 ∧ sK τ = 1) → (∀ o3, is = 0 ∨ allF (fun i => decide (knownL.getD (6 * k0 + i).toNat 0 = if i < sT τ - sF τ then T.1 (sF τ + i) else 0)) n k = false → AW gX12_known sh μ 0 0 86 [some (vR m), some (vI k0), some (vI 0), o3] [] P) → (∀ o3, is = 1 → allF (fun i => decide (knownL.getD (6 * k0 + i).toNat 0 = if i < sT τ - sF τ then T.1 (sF τ + i) else 0)) n k = true → AW gX12_known sh μ 0 0 86 [some (vR m), some (vI k0), some (vI 1), o3] [] P) → AW gX12_known sh μ 0 0 33 [some (vR m), some (vI k0), some (vI is), some (vI k)] [] P := by
    intro f
    induction f with
    | zero => intro n; intros; omega
    | succ f ih =>
      intro n k k0 is P hf hk hn2 hk0 h01 h0 h1
      refine r_iload_n dX12_known_33 rfl ?_
      refine r_bipush dX12_known_34 (by decide) ?_
      refine q_icmp_ge (tgt := 86) dX12_known_36 rfl (by omega) (by omega) (fun c36 => ?_) (fun c36 => ?_)
      · obtain rfl : n = 0 := by omega
        rcases h01 with rfl | ⟨rfl, -⟩
        · exact h0 _ (Or.inl rfl)
        · exact h1 _ rfl rfl
      · skip
        refine r_iload_n dX12_known_39 rfl ?_
        refine q_if_eq (tgt := 86) dX12_known_40 rfl (by omega) (fun c40 => ?_) (fun c40 => ?_)
        · obtain rfl : is = 0 := by omega
          exact h0 _ (Or.inl rfl)
        · have hk1 : sK τ = 1 := by omega
          have l13 := a13 hk1
          have w1 := hw hk1
          obtain ⟨q, rfl⟩ : ∃ q, n = q + 1 := ⟨n - 1, by omega⟩
          have hkr : 0 ≤ knownL.getD (6 * k0 + k).toNat 0 ∧ knownL.getD (6 * k0 + k).toNat 0 ≤ 127 := kn_rng _ (by omega)
          refine r_getsK dX12_known_43 (gw_in (i := 1456) (by decide +kernel) rfl) ?_
          refine r_bipush dX12_known_46 (by decide) ?_
          refine r_iload_n dX12_known_48 rfl ?_
          refine r_imul dX12_known_49 ?_
          refine r_iload_n dX12_known_50 rfl ?_
          refine r_iadd dX12_known_51 ?_
          refine r_kald dX12_known_52 (by omega) ?_
          refine r_iload_n dX12_known_53 rfl ?_
          refine r_aload_n dX12_known_54 rfl ?_
          refine r_getI dX12_known_55 fl_X12_107 rfl (by assumption) ?_
          (try rw [l13.1])
          refine q_icmp_ge (tgt := 70) dX12_known_58 rfl (by omega) (by omega) (fun c58 => ?_) (fun c58 => ?_)
          · refine r_iconst dX12_known_70 ?_
            refine q_icmp_ne (tgt := 78) dX12_known_71 rfl (by omega) (by omega) (fun c71 => ?_) (fun c71 => ?_)
            · refine r_iconst dX12_known_78 ?_
              refine r_istore_n dX12_known_79 rfl ?_
              refine r_iinc dX12_known_80 rfl rfl ?_
              refine r_goto (tgt := 33) dX12_known_83 rfl ?_
              first
                | (have hb : knownL.getD (6 * k0 + k).toNat 0 = if k < sT τ - sF τ then T.1 (sF τ + k) else 0 := by
                     first
                     | (rw [if_pos (by omega)]; exact c71)
                     | (rw [if_neg (by omega)]; exact c71)
                   refine ih q (k + 1) k0 1 P (by omega) (by omega) (by omega) hk0 (Or.inr ⟨rfl, hk1⟩) (fun o6 h => ?_) (fun o6 _ h => ?_)
                   · refine h0 o6 (Or.inr ?_)
                     rw [allF, if_pos (decide_eq_true hb)]
                     exact h.resolve_left (by decide)
                   · refine h1 o6 (by omega) ?_
                     rw [allF, if_pos (decide_eq_true hb)]
                     exact h)
                | (have hb : ¬ knownL.getD (6 * k0 + k).toNat 0 = if k < sT τ - sF τ then T.1 (sF τ + k) else 0 := by
                     first
                     | (rw [if_pos (by omega)]; exact c71)
                     | (rw [if_neg (by omega)]; exact c71)
                   refine ih q (k + 1) k0 0 P (by omega) (by omega) (by omega) hk0 (Or.inl rfl) (fun o6 h => ?_) (fun o6 h _ => absurd h (by decide))
                   refine h0 o6 (Or.inr ?_)
                   rw [allF, if_neg (by rw [decide_eq_true_eq]; exact hb)])
            · refine r_iconst dX12_known_74 ?_
              refine r_goto (tgt := 79) dX12_known_75 rfl ?_
              refine r_istore_n dX12_known_79 rfl ?_
              refine r_iinc dX12_known_80 rfl rfl ?_
              refine r_goto (tgt := 33) dX12_known_83 rfl ?_
              first
                | (have hb : knownL.getD (6 * k0 + k).toNat 0 = if k < sT τ - sF τ then T.1 (sF τ + k) else 0 := by
                     first
                     | (rw [if_pos (by omega)]; exact c71)
                     | (rw [if_neg (by omega)]; exact c71)
                   refine ih q (k + 1) k0 1 P (by omega) (by omega) (by omega) hk0 (Or.inr ⟨rfl, hk1⟩) (fun o6 h => ?_) (fun o6 _ h => ?_)
                   · refine h0 o6 (Or.inr ?_)
                     rw [allF, if_pos (decide_eq_true hb)]
                     exact h.resolve_left (by decide)
                   · refine h1 o6 (by omega) ?_
                     rw [allF, if_pos (decide_eq_true hb)]
                     exact h)
                | (have hb : ¬ knownL.getD (6 * k0 + k).toNat 0 = if k < sT τ - sF τ then T.1 (sF τ + k) else 0 := by
                     first
                     | (rw [if_pos (by omega)]; exact c71)
                     | (rw [if_neg (by omega)]; exact c71)
                   refine ih q (k + 1) k0 0 P (by omega) (by omega) (by omega) hk0 (Or.inl rfl) (fun o6 h => ?_) (fun o6 h _ => absurd h (by decide))
                   refine h0 o6 (Or.inr ?_)
                   rw [allF, if_neg (by rw [decide_eq_true_eq]; exact hb)])
          · have hlk := l13.2 k (by omega) (by omega)
            have hwk := w1.2 k (by omega) (by omega)
            dsimp only at hwk
            refine r_aload_n dX12_known_61 rfl ?_
            refine r_getR dX12_known_62 fl_X12_30 rfl (by assumption) (by assumption) ?_
            refine r_iload_n dX12_known_65 rfl ?_
            refine r_bald dX12_known_66 (by assumption) rfl (by omega) ?_
            rw [hlk]
            refine r_goto (tgt := 71) dX12_known_67 rfl ?_
            refine q_icmp_ne (tgt := 78) dX12_known_71 rfl (by omega) (by omega) (fun c71 => ?_) (fun c71 => ?_)
            · refine r_iconst dX12_known_78 ?_
              refine r_istore_n dX12_known_79 rfl ?_
              refine r_iinc dX12_known_80 rfl rfl ?_
              refine r_goto (tgt := 33) dX12_known_83 rfl ?_
              first
                | (have hb : knownL.getD (6 * k0 + k).toNat 0 = if k < sT τ - sF τ then T.1 (sF τ + k) else 0 := by
                     first
                     | (rw [if_pos (by omega)]; exact c71)
                     | (rw [if_neg (by omega)]; exact c71)
                   refine ih q (k + 1) k0 1 P (by omega) (by omega) (by omega) hk0 (Or.inr ⟨rfl, hk1⟩) (fun o6 h => ?_) (fun o6 _ h => ?_)
                   · refine h0 o6 (Or.inr ?_)
                     rw [allF, if_pos (decide_eq_true hb)]
                     exact h.resolve_left (by decide)
                   · refine h1 o6 (by omega) ?_
                     rw [allF, if_pos (decide_eq_true hb)]
                     exact h)
                | (have hb : ¬ knownL.getD (6 * k0 + k).toNat 0 = if k < sT τ - sF τ then T.1 (sF τ + k) else 0 := by
                     first
                     | (rw [if_pos (by omega)]; exact c71)
                     | (rw [if_neg (by omega)]; exact c71)
                   refine ih q (k + 1) k0 0 P (by omega) (by omega) (by omega) hk0 (Or.inl rfl) (fun o6 h => ?_) (fun o6 h _ => absurd h (by decide))
                   refine h0 o6 (Or.inr ?_)
                   rw [allF, if_neg (by rw [decide_eq_true_eq]; exact hb)])
            · refine r_iconst dX12_known_74 ?_
              refine r_goto (tgt := 79) dX12_known_75 rfl ?_
              refine r_istore_n dX12_known_79 rfl ?_
              refine r_iinc dX12_known_80 rfl rfl ?_
              refine r_goto (tgt := 33) dX12_known_83 rfl ?_
              first
                | (have hb : knownL.getD (6 * k0 + k).toNat 0 = if k < sT τ - sF τ then T.1 (sF τ + k) else 0 := by
                     first
                     | (rw [if_pos (by omega)]; exact c71)
                     | (rw [if_neg (by omega)]; exact c71)
                   refine ih q (k + 1) k0 1 P (by omega) (by omega) (by omega) hk0 (Or.inr ⟨rfl, hk1⟩) (fun o6 h => ?_) (fun o6 _ h => ?_)
                   · refine h0 o6 (Or.inr ?_)
                     rw [allF, if_pos (decide_eq_true hb)]
                     exact h.resolve_left (by decide)
                   · refine h1 o6 (by omega) ?_
                     rw [allF, if_pos (decide_eq_true hb)]
                     exact h)
                | (have hb : ¬ knownL.getD (6 * k0 + k).toNat 0 = if k < sT τ - sF τ then T.1 (sF τ + k) else 0 := by
                     first
                     | (rw [if_pos (by omega)]; exact c71)
                     | (rw [if_neg (by omega)]; exact c71)
                   refine ih q (k + 1) k0 0 P (by omega) (by omega) (by omega) hk0 (Or.inl rfl) (fun o6 h => ?_) (fun o6 h _ => absurd h (by decide))
                   refine h0 o6 (Or.inr ?_)
                   rw [allF, if_neg (by rw [decide_eq_true_eq]; exact hb)])
  have lO : ∀ (f n : Nat) (k : Int) (o2 o3 : Option AV), n < f → 0 ≤ k → k + n = 13 → AW gX12_known sh μ 0 0 2 [some (vR m), some (vI k), o2, o3] [] (fun r2 sh2 μ2 => r2 = some (vI (fnd (fun k => tellsF T τ k.toNat) n k)) ∧ sh2 = sh ∧ μ2 = μ) := by
    intro f
    induction f with
    | zero => intro n; intros; omega
    | succ f ih =>
      intro n k o2 o3 hf hk hn2
      refine r_iload_n dX12_known_2 rfl ?_
      refine r_bipush dX12_known_3 (by decide) ?_
      refine q_icmp_ge (tgt := 98) dX12_known_5 rfl (by omega) (by omega) (fun c5 => ?_) (fun c5 => ?_)
      · refine r_iconst dX12_known_98 ?_
        refine r_ireturn dX12_known_99 rfl rfl rfl ?_
        obtain rfl : n = 0 := by omega
        exact ⟨rfl, rfl, rfl⟩
      · obtain ⟨q, rfl⟩ : ∃ q, n = q + 1 := ⟨n - 1, by omega⟩
        have hq := kn_eq hw h0 (k := k.toNat) (by omega)
        rw [show ((k.toNat : Nat) : Int) = k by omega] at hq
        refine r_aload_n dX12_known_8 rfl ?_
        refine r_getI dX12_known_9 fl_X12_94 rfl (by assumption) ?_
        (try rw [a11]); (try rw [l13.1])
        refine r_iconst dX12_known_12 ?_
        refine q_icmp_ne (tgt := 29) dX12_known_13 rfl (by omega) (by omega) (fun c13 => ?_) (fun c13 => ?_)
        · refine r_iconst dX12_known_29 ?_
          refine r_istore_n dX12_known_30 rfl ?_
          refine r_iconst dX12_known_31 ?_
          refine r_istore_n dX12_known_32 rfl ?_
          first
          | (refine lI _ 6 0 k 0 _ (Nat.lt_succ_self _) (by omega) (by omega) (by omega) (Or.inl rfl) (fun o3 h => ?_) (fun o3 h _ => absurd h (by decide))
             rw [fnd, if_neg (fun hb => by have := hq.2 hb; omega)]
             refine r_iload_n dX12_known_86 rfl ?_
             refine q_if_eq (tgt := 92) dX12_known_87 rfl (by omega) (fun c87 => ?_) (fun c87 => ?_)
             · refine r_iinc dX12_known_92 rfl rfl ?_
               refine r_goto (tgt := 2) dX12_known_95 rfl ?_
               exact ih q (k + 1) _ _ (by omega) (by omega) (by omega)
             · exact absurd rfl c87
            )
          | (refine lI _ 6 0 k 1 _ (Nat.lt_succ_self _) (by omega) (by omega) (by omega) (Or.inr ⟨rfl, hk1⟩) (fun o3 h => ?_) (fun o3 _ h => ?_)
             · rw [fnd, if_neg (fun hb => by
                 have q1 := (hq.2 hb).2.2
                 have h := h.resolve_left (by decide)
                 rw [← Bool.not_eq_true, allF_iff] at h
                 exact h fun i i0 i1 => decide_eq_true (q1 i i0 (by omega)))]
               refine r_iload_n dX12_known_86 rfl ?_
               refine q_if_eq (tgt := 92) dX12_known_87 rfl (by omega) (fun c87 => ?_) (fun c87 => ?_)
               · refine r_iinc dX12_known_92 rfl rfl ?_
                 refine r_goto (tgt := 2) dX12_known_95 rfl ?_
                 exact ih q (k + 1) _ _ (by omega) (by omega) (by omega)
               · exact absurd rfl c87
             · rw [fnd, if_pos (hq.1 ⟨hk1, by omega, fun i i0 i1 => by
                 rw [allF_iff] at h
                 exact of_decide_eq_true (h i i0 (by omega))⟩)]
               refine r_iload_n dX12_known_86 rfl ?_
               refine q_if_eq (tgt := 92) dX12_known_87 rfl (by omega) (fun c87 => ?_) (fun c87 => ?_)
               · exact absurd c87 (by decide)
               · refine r_iload_n dX12_known_90 rfl ?_
                 refine r_ireturn dX12_known_91 rfl rfl rfl ?_
                 exact ⟨rfl, rfl, rfl⟩
            )
        · have hk1 : sK τ = 1 := by omega
          have l13 := a13 hk1
          have w1 := hw hk1
          refine r_aload_n dX12_known_16 rfl ?_
          refine r_getI dX12_known_17 fl_X12_107 rfl (by assumption) ?_
          (try rw [a11]); (try rw [l13.1])
          refine r_bipush dX12_known_20 (by decide) ?_
          refine q_icmp_ge (tgt := 29) dX12_known_22 rfl (by omega) (by omega) (fun c22 => ?_) (fun c22 => ?_)
          · refine r_iconst dX12_known_29 ?_
            refine r_istore_n dX12_known_30 rfl ?_
            refine r_iconst dX12_known_31 ?_
            refine r_istore_n dX12_known_32 rfl ?_
            first
            | (refine lI _ 6 0 k 0 _ (Nat.lt_succ_self _) (by omega) (by omega) (by omega) (Or.inl rfl) (fun o3 h => ?_) (fun o3 h _ => absurd h (by decide))
               rw [fnd, if_neg (fun hb => by have := hq.2 hb; omega)]
               refine r_iload_n dX12_known_86 rfl ?_
               refine q_if_eq (tgt := 92) dX12_known_87 rfl (by omega) (fun c87 => ?_) (fun c87 => ?_)
               · refine r_iinc dX12_known_92 rfl rfl ?_
                 refine r_goto (tgt := 2) dX12_known_95 rfl ?_
                 exact ih q (k + 1) _ _ (by omega) (by omega) (by omega)
               · exact absurd rfl c87
              )
            | (refine lI _ 6 0 k 1 _ (Nat.lt_succ_self _) (by omega) (by omega) (by omega) (Or.inr ⟨rfl, hk1⟩) (fun o3 h => ?_) (fun o3 _ h => ?_)
               · rw [fnd, if_neg (fun hb => by
                   have q1 := (hq.2 hb).2.2
                   have h := h.resolve_left (by decide)
                   rw [← Bool.not_eq_true, allF_iff] at h
                   exact h fun i i0 i1 => decide_eq_true (q1 i i0 (by omega)))]
                 refine r_iload_n dX12_known_86 rfl ?_
                 refine q_if_eq (tgt := 92) dX12_known_87 rfl (by omega) (fun c87 => ?_) (fun c87 => ?_)
                 · refine r_iinc dX12_known_92 rfl rfl ?_
                   refine r_goto (tgt := 2) dX12_known_95 rfl ?_
                   exact ih q (k + 1) _ _ (by omega) (by omega) (by omega)
                 · exact absurd rfl c87
               · rw [fnd, if_pos (hq.1 ⟨hk1, by omega, fun i i0 i1 => by
                   rw [allF_iff] at h
                   exact of_decide_eq_true (h i i0 (by omega))⟩)]
                 refine r_iload_n dX12_known_86 rfl ?_
                 refine q_if_eq (tgt := 92) dX12_known_87 rfl (by omega) (fun c87 => ?_) (fun c87 => ?_)
                 · exact absurd c87 (by decide)
                 · refine r_iload_n dX12_known_90 rfl ?_
                   refine r_ireturn dX12_known_91 rfl rfl rfl ?_
                   exact ⟨rfl, rfl, rfl⟩
              )
          · refine r_iconst dX12_known_25 ?_
            refine r_goto (tgt := 30) dX12_known_26 rfl ?_
            refine r_istore_n dX12_known_30 rfl ?_
            refine r_iconst dX12_known_31 ?_
            refine r_istore_n dX12_known_32 rfl ?_
            first
            | (refine lI _ 6 0 k 0 _ (Nat.lt_succ_self _) (by omega) (by omega) (by omega) (Or.inl rfl) (fun o3 h => ?_) (fun o3 h _ => absurd h (by decide))
               rw [fnd, if_neg (fun hb => by have := hq.2 hb; omega)]
               refine r_iload_n dX12_known_86 rfl ?_
               refine q_if_eq (tgt := 92) dX12_known_87 rfl (by omega) (fun c87 => ?_) (fun c87 => ?_)
               · refine r_iinc dX12_known_92 rfl rfl ?_
                 refine r_goto (tgt := 2) dX12_known_95 rfl ?_
                 exact ih q (k + 1) _ _ (by omega) (by omega) (by omega)
               · exact absurd rfl c87
              )
            | (refine lI _ 6 0 k 1 _ (Nat.lt_succ_self _) (by omega) (by omega) (by omega) (Or.inr ⟨rfl, hk1⟩) (fun o3 h => ?_) (fun o3 _ h => ?_)
               · rw [fnd, if_neg (fun hb => by
                   have q1 := (hq.2 hb).2.2
                   have h := h.resolve_left (by decide)
                   rw [← Bool.not_eq_true, allF_iff] at h
                   exact h fun i i0 i1 => decide_eq_true (q1 i i0 (by omega)))]
                 refine r_iload_n dX12_known_86 rfl ?_
                 refine q_if_eq (tgt := 92) dX12_known_87 rfl (by omega) (fun c87 => ?_) (fun c87 => ?_)
                 · refine r_iinc dX12_known_92 rfl rfl ?_
                   refine r_goto (tgt := 2) dX12_known_95 rfl ?_
                   exact ih q (k + 1) _ _ (by omega) (by omega) (by omega)
                 · exact absurd rfl c87
               · rw [fnd, if_pos (hq.1 ⟨hk1, by omega, fun i i0 i1 => by
                   rw [allF_iff] at h
                   exact of_decide_eq_true (h i i0 (by omega))⟩)]
                 refine r_iload_n dX12_known_86 rfl ?_
                 refine q_if_eq (tgt := 92) dX12_known_87 rfl (by omega) (fun c87 => ?_) (fun c87 => ?_)
                 · exact absurd c87 (by decide)
                 · refine r_iload_n dX12_known_90 rfl ?_
                   refine r_ireturn dX12_known_91 rfl rfl rfl ?_
                   exact ⟨rfl, rfl, rfl⟩
              )
  refine AMet.of (by decide) rfl (by decide) rfl ?_
  refine r_iconst dX12_known_0 ?_
  refine r_istore_n dX12_known_1 rfl ?_
  exact lO _ 13 0 _ _ (Nat.lt_succ_self _) (by omega) (by omega)
theorem knownF_rng (T : Tq) (τ : Sg) : -1 ≤ knownF T τ ∧ knownF T τ < 13 := by
  unfold knownF
  rcases fnd_spec (p := fun k => tellsF T τ k.toNat) 13 0 with ⟨h1, -⟩ | ⟨h1, h2, -⟩ <;> omega
theorem m_isName {sh : Sh} {μ : Mem} {m : Nat} {T : Tq} {τ : Sg} (hM : IsModel sh μ.2.2 m) (hA : AT m μ T τ) (hw : WdOK T τ) (h0 : sE τ = 0) (hk4 : 0 ≤ sK τ ∧ sK τ ≤ 4)  : FMet yX12_isName gX12_isName sh [vR m] μ (some (vI (b2i (decide (sK τ = 1 ∧ knownF T τ < 0))))) μ := by
  obtain ⟨g0, f1, z1, f2, z2, f3, z3, f4, z4, f5, z5, f6, z6, f7, z7, f8, z8, f9, z9, f10, z10, f11, z11, f12, z12, f13, z13, f14, z14⟩ := id hM
  obtain ⟨a10, a11, a9, a12, a13⟩ := id hA
  have hkn := knownF_rng T τ
  refine AMet.of (by decide) rfl (by decide) rfl ?_
  refine r_aload_n dX12_isName_0 rfl ?_
  refine r_getI dX12_isName_1 fl_X12_94 rfl (by assumption) ?_
  (try rw [a11])
  refine r_iconst dX12_isName_4 ?_
  refine q_icmp_ne (tgt := 19) dX12_isName_5 rfl (by omega) (by omega) (fun c5 => ?_) (fun c5 => ?_)
  · refine r_iconst dX12_isName_19 ?_
    refine r_zreturn dX12_isName_20 (by first | exact Or.inl rfl | exact Or.inr rfl | exact b2i_01 _ | omega) rfl rfl rfl ?_
    refine ⟨rI ?_, rfl, rfl⟩
    first | (rw [decide_eq_true (by omega)]; rfl) | (rw [decide_eq_false (by omega)]; rfl)
  · refine r_aload_n dX12_isName_8 rfl ?_
    refine r_cV0F1 dX12_isName_9 ml_X12_113 yl_X12_known ⟨rfl, rfl⟩ (by assumption) ⟨_, rfl⟩ rfl rfl rfl rfl (m_known hM hA hw h0 hk4) ?_
    refine q_if_ge (tgt := 19) dX12_isName_12 rfl (by omega) (fun c12 => ?_) (fun c12 => ?_)
    · refine r_iconst dX12_isName_19 ?_
      refine r_zreturn dX12_isName_20 (by first | exact Or.inl rfl | exact Or.inr rfl | exact b2i_01 _ | omega) rfl rfl rfl ?_
      refine ⟨rI ?_, rfl, rfl⟩
      first | (rw [decide_eq_true (by omega)]; rfl) | (rw [decide_eq_false (by omega)]; rfl)
    · refine r_iconst dX12_isName_15 ?_
      refine r_goto (tgt := 20) dX12_isName_16 rfl ?_
      refine r_zreturn dX12_isName_20 (by first | exact Or.inl rfl | exact Or.inr rfl | exact b2i_01 _ | omega) rfl rfl rfl ?_
      refine ⟨rI ?_, rfl, rfl⟩
      first | (rw [decide_eq_true (by omega)]; rfl) | (rw [decide_eq_false (by omega)]; rfl)
