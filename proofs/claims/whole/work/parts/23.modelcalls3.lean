/-! 23.modelcalls3: the reference's trials, tape and fault (wip/whole/src/23_modelcalls3.py) -/
theorem Sc.wr {m : Nat} {m1 μ3 : Mem} {r ρ : Row} (h : Sc m (wRow m1 m r) μ3) (e : m1.1 (m + 1) = ρ) : Sc m m1 (wRow μ3 m ρ) := by
  refine ⟨h.1, fun a i hai => ?_⟩
  by_cases ha : a = m + 1
  · rw [ha, wRow_row, e]
  · rw [wRow_ne ha, h.2 a i hai, wRow_ne ha]
theorem Sc.w2 {m : Nat} {m1 μ3 : Mem} {r ρ : Row} (h : Sc m (wRow m1 m r) μ3) : Sc m (wRow m1 m ρ) (wRow μ3 m ρ) := by
  refine ⟨h.1, fun a i hai => ?_⟩
  by_cases ha : a = m + 1
  · rw [ha, wRow_row, wRow_row]
  · rw [wRow_ne ha, h.2 a i hai, wRow_ne ha, wRow_ne ha]
theorem m_changes {sh : Sh} {μ : Mem} {m : Nat} (hM : IsModel sh μ.2.2 m) {a b : Int} (ha : 0 ≤ a ∧ a < 5) (hb : 0 ≤ b ∧ b < 5) : FMet yX12_changesPlaces gX12_changesPlaces sh [vR m, vI a, vI b] μ none (wRow μ m (swR (μ.1 (m + 1)) a b)) := by
  obtain ⟨g0, f1, z1, f2, z2, f3, z3, f4, z4, f5, z5, f6, z6, f7, z7, f8, z8, f9, z9, f10, z10, f11, z11, f12, z12, f13, z13, f14, z14⟩ := id hM
  have w0 : setI μ (m + 1) (93 + a) (μ.1 (m + 1) (93 + b)) = wRow μ m (rset (μ.1 (m + 1)) (93 + a) (μ.1 (m + 1) (93 + b))) := by
    rw [← wRow_set, wRow_id rfl]
  refine AMet.of (by decide) rfl (by decide) rfl ?_
  refine r_aload_n dX12_changesPlaces_0 rfl ?_
  refine r_getR dX12_changesPlaces_1 fl_X12_7 rfl (by assumption) (by assumption) ?_
  refine r_bipush dX12_changesPlaces_4 (by decide) ?_
  refine r_iload_n dX12_changesPlaces_6 rfl ?_
  refine r_iadd dX12_changesPlaces_7 ?_
  refine r_iald dX12_changesPlaces_8 (by assumption) rfl (by omega) ?_
  refine r_istore_n dX12_changesPlaces_9 rfl ?_
  refine r_aload_n dX12_changesPlaces_10 rfl ?_
  refine r_getR dX12_changesPlaces_11 fl_X12_7 rfl (by assumption) (by assumption) ?_
  refine r_bipush dX12_changesPlaces_14 (by decide) ?_
  refine r_iload_n dX12_changesPlaces_16 rfl ?_
  refine r_iadd dX12_changesPlaces_17 ?_
  refine r_aload_n dX12_changesPlaces_18 rfl ?_
  refine r_getR dX12_changesPlaces_19 fl_X12_7 rfl (by assumption) (by assumption) ?_
  refine r_bipush dX12_changesPlaces_22 (by decide) ?_
  refine r_iload_n dX12_changesPlaces_24 rfl ?_
  refine r_iadd dX12_changesPlaces_25 ?_
  refine r_iald dX12_changesPlaces_26 (by assumption) rfl (by omega) ?_
  refine r_iast dX12_changesPlaces_27 (by assumption) rfl (by omega) ?_
  rw [w0]
  refine r_aload_n dX12_changesPlaces_28 rfl ?_
  refine r_getR dX12_changesPlaces_29 fl_X12_7 rfl (by assumption) (by assumption) ?_
  refine r_bipush dX12_changesPlaces_32 (by decide) ?_
  refine r_iload_n dX12_changesPlaces_34 rfl ?_
  refine r_iadd dX12_changesPlaces_35 ?_
  refine r_iload_n dX12_changesPlaces_36 rfl ?_
  refine r_iast dX12_changesPlaces_37 (by assumption) rfl (by omega) ?_
  rw [wRow_set]
  refine r_return dX12_changesPlaces_38 rfl rfl rfl ?_
  exact ⟨rfl, rfl, rfl⟩
theorem Sc.both {m : Nat} {a b : Mem} (h : Sc m a b) (r : Row) : Sc m (wRow a m r) (wRow b m r) := by
  refine ⟨h.1, fun q i hai => ?_⟩
  by_cases ha : q = m + 1
  · rw [ha, wRow_row, wRow_row]
  · rw [wRow_ne ha, wRow_ne ha, h.2 q i hai]
theorem set_wr {μ : Mem} {m : Nat} {ρ : Row} {i x : Int} (h : μ.1 (m + 1) = ρ) : setI μ (m + 1) i x = wRow μ m (rset ρ i x) := by
  rw [← wRow_set, wRow_id h]
theorem MS.tr {sh : Sh} {m : Nat} {a b c : Mem} {G H : Gh} (h1 : MS sh m a b G) (h2 : MS sh m b c H) : MS sh m a c H := ⟨h2.1, h1.2.1.tr h2.2.1, h2.2.2.trans h1.2.2⟩
theorem MS.sc {sh : Sh} {m : Nat} {μ μ2 : Mem} {G : Gh} (hI : InM sh m μ G) (h : Sc m μ μ2) : MS sh m μ μ2 G := ⟨hI.mc (Mc.sc h) (by rw [h.1]; exact hI.1), Kp.sc h (by (try dsimp only); omega), h.1⟩
theorem m_swapsR {sh : Sh} {μ : Mem} {m : Nat} (hM : IsModel sh μ.2.2 m) (hw : WF (μ.1 (m + 1))) : IMet yX12_swaps gX12_swaps sh [vR m] μ (fun x μ2 => x = swapsF (μ.1 (m + 1)) ∧ Sc m μ μ2) := by
  have hn := hw.1.1
  unfold WFn at hn
  have lin : ∀ (f n : Nat) (k : Int) (a n0 : Int) (m1 : Mem) (P : Option AV → Sh → Mem → Prop), n < f → 0 ≤ k → k + n = a → Sc m μ m1 → (0 ≤ a ∧ a < μ.1 (m + 1) 11) → (∀ m2, Sc m μ m2 → AW gX12_swaps sh m2 0 0 82 [some (vR m), some (vI (n0 + sumF (fun b => swp (μ.1 (m + 1)) a b) n k)), some (vI a), some (vI a)] [] P) → AW gX12_swaps sh m1 0 0 17 [some (vR m), some (vI n0), some (vI a), some (vI k)] [] P := by
    intro f
    induction f with
    | zero => intro n; intros; omega
    | succ f ih =>
      intro n k a n0 m1 P hf hk hn2 hsc ha hC
      have hM1 : IsModel sh m1.2.2 m := by rw [hsc.1]; exact hM
      have hrow : m1.1 (m + 1) = μ.1 (m + 1) := hsc.row (by omega)
      have hw1 : WF (m1.1 (m + 1)) := by rw [hrow]; exact hw
      obtain ⟨g0, f1, z1, f2, z2, f3, z3, f4, z4, f5, z5, f6, z6, f7, z7, f8, z8, f9, z9, f10, z10, f11, z11, f12, z12, f13, z13, f14, z14⟩ := id hM1
      refine r_iload_n dX12_swaps_17 rfl ?_
      refine r_iload_n dX12_swaps_18 rfl ?_
      refine q_icmp_ge (tgt := 82) dX12_swaps_19 rfl (by omega) (by omega) (fun c19 => ?_) (fun c19 => ?_)
      · obtain rfl : n = 0 := by omega
        obtain rfl : k = a := by omega
        have h := hC m1 hsc
        simp only [sumF, Int.add_zero] at h
        exact h
      · have qa := (hw.2.2.1 a (by omega) (by omega)).2.2.1
        have qb := (hw.2.2.1 k (by omega) (by omega)).2.2.1
        obtain ⟨q, rfl⟩ : ∃ q, n = q + 1 := ⟨n - 1, by omega⟩
        refine r_aload_n dX12_swaps_22 rfl ?_
        refine r_getR dX12_swaps_23 fl_X12_7 rfl (by assumption) (by assumption) ?_
        refine r_bipush dX12_swaps_26 (by decide) ?_
        refine r_iload_n dX12_swaps_28 rfl ?_
        refine r_iadd dX12_swaps_29 ?_
        refine r_iald dX12_swaps_30 (by assumption) rfl (by omega) ?_
        rw [hrow]
        refine q_if_lt (tgt := 76) dX12_swaps_31 rfl (by omega) (fun c31 => ?_) (fun c31 => ?_)
        · refine r_iinc dX12_swaps_76 rfl rfl ?_
          refine r_goto (tgt := 17) dX12_swaps_79 rfl ?_
          refine ih q (k + 1) a _ _ P (by omega) (by omega) (by omega) (by first | exact hs4 | exact hsc) ha (fun m2 h2 => ?_)
          have h := hC m2 h2
          rw [sumF] at h
          first
            | (rw [show swp (μ.1 (m + 1)) a k = 0 by unfold swp; rw [if_neg (by omega)]] at h; simp only [Int.add_zero, Int.zero_add] at h ⊢; exact h)
            | (rw [show swp (μ.1 (m + 1)) a k = 1 by unfold swp; rw [if_pos (by omega)], ← Int.add_assoc] at h; exact h)
        · refine r_aload_n dX12_swaps_34 rfl ?_
          refine r_getR dX12_swaps_35 fl_X12_7 rfl (by assumption) (by assumption) ?_
          refine r_bipush dX12_swaps_38 (by decide) ?_
          refine r_iload_n dX12_swaps_40 rfl ?_
          refine r_iadd dX12_swaps_41 ?_
          refine r_iald dX12_swaps_42 (by assumption) rfl (by omega) ?_
          rw [hrow]
          refine q_if_ge (tgt := 49) dX12_swaps_43 rfl (by omega) (fun c43 => ?_) (fun c43 => ?_)
          · refine r_aload_n dX12_swaps_49 rfl ?_
            refine r_iload_n dX12_swaps_50 rfl ?_
            refine r_iload_n dX12_swaps_51 rfl ?_
            refine r_cV2F0 dX12_swaps_52 ml_X12_277 yl_X12_changesPlaces ⟨rfl, rfl⟩ (by assumption) ⟨_, rfl⟩ rfl rfl rfl rfl (m_changes (m := m) hM1 (a := a) (b := k) (by omega) (by omega)) ?_
            rw [hrow]
            refine r_iload_n dX12_swaps_55 rfl ?_
            refine r_aload_n dX12_swaps_56 rfl ?_
            refine r_cV0I dX12_swaps_57 ml_X12_273 yl_X12_broken ⟨rfl, rfl⟩ (by assumption) ⟨_, rfl⟩ rfl rfl rfl rfl (m_broken (m := m) (μ := wRow m1 m (swR (μ.1 (m + 1)) a k)) hM1 (by rw [wRow_row]; exact hw.sw (by omega) (by omega) (by omega))) ?_
            rintro x μ3 ⟨rfl, hs3, hw3⟩
            rw [wRow_row]
            have hbr := brok_rng (swR (μ.1 (m + 1)) a k)
            have hM3 : IsModel sh μ3.2.2 m := by rw [hs3.1]; exact hM1
            have hr3 : μ3.1 (m + 1) = swR (μ.1 (m + 1)) a k := (hs3.row (by omega)).trans wRow_row
            have g3 : sh[m]? = some (11, 34) := g0
            refine q_if_ne (tgt := 67) dX12_swaps_60 rfl (by omega) (fun c60 => ?_) (fun c60 => ?_)
            · refine r_iconst dX12_swaps_67 ?_
              refine r_iadd dX12_swaps_68 ?_
              refine r_istore_n dX12_swaps_69 rfl ?_
              refine r_aload_n dX12_swaps_70 rfl ?_
              refine r_iload_n dX12_swaps_71 rfl ?_
              refine r_iload_n dX12_swaps_72 rfl ?_
              refine r_cV2F0 dX12_swaps_73 ml_X12_277 yl_X12_changesPlaces ⟨rfl, rfl⟩ (by assumption) ⟨_, rfl⟩ rfl rfl rfl rfl (m_changes (m := m) hM3 (a := a) (b := k) (by omega) (by omega)) ?_
              rw [hr3, sw_sw (show a ≠ k by omega)]
              have hs4 : Sc m μ (wRow μ3 m (μ.1 (m + 1))) := hsc.tr (hs3.wr hrow)
              refine r_iinc dX12_swaps_76 rfl rfl ?_
              refine r_goto (tgt := 17) dX12_swaps_79 rfl ?_
              refine ih q (k + 1) a _ _ P (by omega) (by omega) (by omega) (by first | exact hs4 | exact hsc) ha (fun m2 h2 => ?_)
              have h := hC m2 h2
              rw [sumF] at h
              first
                | (rw [show swp (μ.1 (m + 1)) a k = 0 by unfold swp; rw [if_neg (by omega)]] at h; simp only [Int.add_zero, Int.zero_add] at h ⊢; exact h)
                | (rw [show swp (μ.1 (m + 1)) a k = 1 by unfold swp; rw [if_pos (by omega)], ← Int.add_assoc] at h; exact h)
            · refine r_iconst dX12_swaps_63 ?_
              refine r_goto (tgt := 68) dX12_swaps_64 rfl ?_
              refine r_iadd dX12_swaps_68 ?_
              refine r_istore_n dX12_swaps_69 rfl ?_
              refine r_aload_n dX12_swaps_70 rfl ?_
              refine r_iload_n dX12_swaps_71 rfl ?_
              refine r_iload_n dX12_swaps_72 rfl ?_
              refine r_cV2F0 dX12_swaps_73 ml_X12_277 yl_X12_changesPlaces ⟨rfl, rfl⟩ (by assumption) ⟨_, rfl⟩ rfl rfl rfl rfl (m_changes (m := m) hM3 (a := a) (b := k) (by omega) (by omega)) ?_
              rw [hr3, sw_sw (show a ≠ k by omega)]
              have hs4 : Sc m μ (wRow μ3 m (μ.1 (m + 1))) := hsc.tr (hs3.wr hrow)
              refine r_iinc dX12_swaps_76 rfl rfl ?_
              refine r_goto (tgt := 17) dX12_swaps_79 rfl ?_
              refine ih q (k + 1) a _ _ P (by omega) (by omega) (by omega) (by first | exact hs4 | exact hsc) ha (fun m2 h2 => ?_)
              have h := hC m2 h2
              rw [sumF] at h
              first
                | (rw [show swp (μ.1 (m + 1)) a k = 0 by unfold swp; rw [if_neg (by omega)]] at h; simp only [Int.add_zero, Int.zero_add] at h ⊢; exact h)
                | (rw [show swp (μ.1 (m + 1)) a k = 1 by unfold swp; rw [if_pos (by omega)], ← Int.add_assoc] at h; exact h)
          · refine r_goto (tgt := 76) dX12_swaps_46 rfl ?_
            refine r_iinc dX12_swaps_76 rfl rfl ?_
            refine r_goto (tgt := 17) dX12_swaps_79 rfl ?_
            refine ih q (k + 1) a _ _ P (by omega) (by omega) (by omega) (by first | exact hs4 | exact hsc) ha (fun m2 h2 => ?_)
            have h := hC m2 h2
            rw [sumF] at h
            first
              | (rw [show swp (μ.1 (m + 1)) a k = 0 by unfold swp; rw [if_neg (by omega)]] at h; simp only [Int.add_zero, Int.zero_add] at h ⊢; exact h)
              | (rw [show swp (μ.1 (m + 1)) a k = 1 by unfold swp; rw [if_pos (by omega)], ← Int.add_assoc] at h; exact h)
  have lout : ∀ (f n : Nat) (k : Int) (n0 : Int) (m1 : Mem) (o3 : Option AV), n < f → 0 ≤ k → k + n = μ.1 (m + 1) 11 → Sc m μ m1 → AW gX12_swaps sh m1 0 0 4 [some (vR m), some (vI n0), some (vI k), o3] [] (fun r2 sh2 μ2 => sh2 = sh ∧ ∃ x, r2 = some (vI x) ∧ x = n0 + sumF (fun a => sumF (fun b => swp (μ.1 (m + 1)) a b) a.toNat 0) n k ∧ Sc m μ μ2) := by
    intro f
    induction f with
    | zero => intro n; intros; omega
    | succ f ih =>
      intro n k n0 m1 o3 hf hk hn2 hsc
      have hM1 : IsModel sh m1.2.2 m := by rw [hsc.1]; exact hM
      have hrow : m1.1 (m + 1) = μ.1 (m + 1) := hsc.row (by omega)
      obtain ⟨g0, f1, z1, f2, z2, f3, z3, f4, z4, f5, z5, f6, z6, f7, z7, f8, z8, f9, z9, f10, z10, f11, z11, f12, z12, f13, z13, f14, z14⟩ := id hM1
      refine r_iload_n dX12_swaps_4 rfl ?_
      refine r_aload_n dX12_swaps_5 rfl ?_
      refine r_getR dX12_swaps_6 fl_X12_7 rfl (by assumption) (by assumption) ?_
      refine r_bipush dX12_swaps_9 (by decide) ?_
      refine r_iald dX12_swaps_11 (by assumption) rfl (by omega) ?_
      rw [hrow]
      refine q_icmp_ge (tgt := 88) dX12_swaps_12 rfl (by omega) (by omega) (fun c12 => ?_) (fun c12 => ?_)
      · refine r_iload_n dX12_swaps_88 rfl ?_
        refine r_ireturn dX12_swaps_89 rfl rfl rfl ?_
        obtain rfl : n = 0 := by omega
        exact ⟨rfl, _, rfl, (Int.add_zero _).symm, hsc⟩
      · refine r_iconst dX12_swaps_15 ?_
        refine r_istore_n dX12_swaps_16 rfl ?_
        obtain ⟨q, rfl⟩ : ∃ q, n = q + 1 := ⟨n - 1, by omega⟩
        refine lin _ k.toNat 0 k n0 m1 _ (Nat.lt_succ_self _) (by omega) (by omega) hsc (by omega) (fun m2 h2 => ?_)
        refine r_iinc dX12_swaps_82 rfl rfl ?_
        refine r_goto (tgt := 4) dX12_swaps_85 rfl ?_
        refine AW.mono (ih q (k + 1) _ _ _ (by omega) (by omega) (by omega) h2) ?_
        rintro r sh2 μ2 ⟨rfl, x, rfl, rfl, h3⟩
        refine ⟨rfl, _, rfl, ?_, h3⟩
        rw [sumF, Int.add_assoc]
  refine AMet.of (by decide) rfl (by decide) rfl ?_
  refine r_iconst dX12_swaps_0 ?_
  refine r_istore_n dX12_swaps_1 rfl ?_
  refine r_iconst dX12_swaps_2 ?_
  refine r_istore_n dX12_swaps_3 rfl ?_
  refine AW.mono (lout _ (μ.1 (m + 1) 11).toNat 0 0 μ none (Nat.lt_succ_self _) (by omega) (by omega) (Sc.rf m μ)) ?_
  rintro r sh2 μ2 ⟨rfl, x, rfl, rfl, h3⟩
  exact ⟨rfl, _, rfl, Int.zero_add _, h3⟩
theorem m_spareR {sh : Sh} {μ : Mem} {m : Nat} {ρ : Row} (hM : IsModel sh μ.2.2 m) (hr : μ.1 (m + 1) = ρ) (hw : WF ρ) (h99 : W99 ρ) {k0 : Int} (hk0 : -2147483648 ≤ k0 ∧ k0 < 2147483648)  : IMet yX12_spare gX12_spare sh [vR m, vI k0] μ (fun x μ2 => x = spareF ρ k0 ∧ Sc m μ μ2) := by
  have hn := hw.1.1
  unfold WFn at hn
  have hwm : WF (μ.1 (m + 1)) := by rw [hr]; exact hw
  obtain ⟨g0, f1, z1, f2, z2, f3, z3, f4, z4, f5, z5, f6, z6, f7, z7, f8, z8, f9, z9, f10, z10, f11, z11, f12, z12, f13, z13, f14, z14⟩ := id hM
  have loop : ∀ (f n : Nat) (k : Int) (v0 : Int) (m1 : Mem), n < f → 0 ≤ k → k + n = 99 → Sc m (wRow μ m (rset ρ (83 + k0) v0)) m1 → (0 ≤ k0 ∧ k0 < ρ 11) → AW gX12_spare sh m1 0 0 29 [some (vR m), some (vI k0), some (vI (ρ (83 + k0))), some (vI k)] [] (fun r2 sh2 μ2 => sh2 = sh ∧ ∃ x, r2 = some (vI x) ∧ x = sp1 (fnd (spB ρ k0) n (k + 1)) ∧ Sc m μ μ2) := by
    intro f
    induction f with
    | zero => intro n; intros; omega
    | succ f ih =>
      intro n k v0 m1 hf hk hn2 hsc hk1
      have hM1 : IsModel sh m1.2.2 m := by rw [hsc.1]; exact hM
      have hrow : m1.1 (m + 1) = rset ρ (83 + k0) v0 := (hsc.row (by omega)).trans wRow_row
      have q1 := (hw.2.2.1 k0 (by omega) (by omega)).1
      have q9 := h99 k0 (by omega) (by omega)
      obtain ⟨g0, f1, z1, f2, z2, f3, z3, f4, z4, f5, z5, f6, z6, f7, z7, f8, z8, f9, z9, f10, z10, f11, z11, f12, z12, f13, z13, f14, z14⟩ := id hM1
      refine r_iload_n dX12_spare_29 rfl ?_
      refine r_bipush dX12_spare_30 (by decide) ?_
      refine q_icmp_ge (tgt := 65) dX12_spare_32 rfl (by omega) (by omega) (fun c32 => ?_) (fun c32 => ?_)
      · have g3 : sh[m]? = some (11, 34) := g0
        refine r_aload_n dX12_spare_65 rfl ?_
        refine r_getR dX12_spare_66 fl_X12_7 rfl (by assumption) (by assumption) ?_
        refine r_bipush dX12_spare_69 (by decide) ?_
        refine r_iload_n dX12_spare_71 rfl ?_
        refine r_iadd dX12_spare_72 ?_
        refine r_iload_n dX12_spare_73 rfl ?_
        refine r_iast dX12_spare_74 (by assumption) rfl (by omega) ?_
        first | rw [set_wr hr3, rset_rset, rset_id] | rw [set_wr hrow, rset_rset, rset_id]
        refine r_iload_n dX12_spare_75 rfl ?_
        refine r_ireturn dX12_spare_76 rfl rfl rfl ?_
        first
          | (refine ⟨rfl, _, rfl, ?_, hs4.wr hr⟩; obtain ⟨q, rfl⟩ : ∃ q, n = q + 1 := ⟨n - 1, by omega⟩; rw [fnd, if_pos (by unfold spB; rw [← Int.add_assoc]; exact decide_eq_true c53)]; unfold sp1; rw [if_neg (by omega)]; omega)
          | (refine ⟨rfl, _, rfl, ?_, hsc.wr hr⟩; obtain rfl : n = 0 := (by omega); unfold fnd sp1; rw [if_pos (by decide)]; omega)
      · refine r_aload_n dX12_spare_35 rfl ?_
        refine r_getR dX12_spare_36 fl_X12_7 rfl (by assumption) (by assumption) ?_
        refine r_bipush dX12_spare_39 (by decide) ?_
        refine r_iload_n dX12_spare_41 rfl ?_
        refine r_iadd dX12_spare_42 ?_
        refine r_iload_n dX12_spare_43 rfl ?_
        refine r_iload_n dX12_spare_44 rfl ?_
        refine r_iadd dX12_spare_45 ?_
        refine r_iconst dX12_spare_46 ?_
        refine r_iadd dX12_spare_47 ?_
        refine r_iast dX12_spare_48 (by assumption) rfl (by omega) ?_
        rw [set_wr hrow, rset_rset]
        refine r_aload_n dX12_spare_49 rfl ?_
        refine r_cV0I dX12_spare_50 ml_X12_273 yl_X12_broken ⟨rfl, rfl⟩ (by assumption) ⟨_, rfl⟩ rfl rfl rfl rfl (m_broken (m := m) (μ := wRow m1 m (rset ρ (83 + k0) (ρ (83 + k0) + k + 1))) hM1 (by rw [wRow_row]; exact hw.weigh (by omega) (by omega))) ?_
        rintro x μ3 ⟨rfl, hs3, hw3⟩
        rw [wRow_row]
        have hbr := brok_rng (rset ρ (83 + k0) (ρ (83 + k0) + k + 1))
        have hM3 : IsModel sh μ3.2.2 m := by rw [hs3.1]; exact hM1
        have hr3 : μ3.1 (m + 1) = rset ρ (83 + k0) (ρ (83 + k0) + k + 1) := (hs3.row (by omega)).trans wRow_row
        have hs4 : Sc m (wRow μ m (rset ρ (83 + k0) (ρ (83 + k0) + k + 1))) μ3 := by
          have h := (hsc.both (rset ρ (83 + k0) (ρ (83 + k0) + k + 1))).tr hs3
          rw [wRow_w] at h
          exact h
        obtain ⟨g0, f1, z1, f2, z2, f3, z3, f4, z4, f5, z5, f6, z6, f7, z7, f8, z8, f9, z9, f10, z10, f11, z11, f12, z12, f13, z13, f14, z14⟩ := id hM3
        refine q_if_eq (tgt := 59) dX12_spare_53 rfl (by omega) (fun c53 => ?_) (fun c53 => ?_)
        · refine r_iinc dX12_spare_59 rfl rfl ?_
          refine r_goto (tgt := 29) dX12_spare_62 rfl ?_
          obtain ⟨q, rfl⟩ : ∃ q, n = q + 1 := ⟨n - 1, by omega⟩
          refine AW.mono (ih q (k + 1) _ _ (by omega) (by omega) (by omega) hs4 hk1) ?_
          rintro r sh2 μ2 ⟨rfl, x, rfl, rfl, h3⟩
          refine ⟨rfl, _, rfl, ?_, h3⟩
          rw [fnd, if_neg (by unfold spB; rw [← Int.add_assoc]; intro h; exact absurd c53 (of_decide_eq_true h))]
        · refine r_goto (tgt := 65) dX12_spare_56 rfl ?_
          have g3 : sh[m]? = some (11, 34) := g0
          refine r_aload_n dX12_spare_65 rfl ?_
          refine r_getR dX12_spare_66 fl_X12_7 rfl (by assumption) (by assumption) ?_
          refine r_bipush dX12_spare_69 (by decide) ?_
          refine r_iload_n dX12_spare_71 rfl ?_
          refine r_iadd dX12_spare_72 ?_
          refine r_iload_n dX12_spare_73 rfl ?_
          refine r_iast dX12_spare_74 (by assumption) rfl (by omega) ?_
          first | rw [set_wr hr3, rset_rset, rset_id] | rw [set_wr hrow, rset_rset, rset_id]
          refine r_iload_n dX12_spare_75 rfl ?_
          refine r_ireturn dX12_spare_76 rfl rfl rfl ?_
          first
            | (refine ⟨rfl, _, rfl, ?_, hs4.wr hr⟩; obtain ⟨q, rfl⟩ : ∃ q, n = q + 1 := ⟨n - 1, by omega⟩; rw [fnd, if_pos (by unfold spB; rw [← Int.add_assoc]; exact decide_eq_true c53)]; unfold sp1; rw [if_neg (by omega)]; omega)
            | (refine ⟨rfl, _, rfl, ?_, hsc.wr hr⟩; obtain rfl : n = 0 := (by omega); unfold fnd sp1; rw [if_pos (by decide)]; omega)
  refine AMet.of (by decide) rfl (by decide) rfl ?_
  refine r_aload_n dX12_spare_0 rfl ?_
  refine r_iload_n dX12_spare_1 rfl ?_
  refine r_cV1F1 dX12_spare_2 ml_X12_216 yl_X12_isPallet ⟨rfl, rfl⟩ (by assumption) ⟨_, rfl⟩ rfl rfl rfl rfl (m_isPallet hM hwm.wl hk0) ?_
  rw [hr]
  refine r_if_eqB (tgt := 15) dX12_spare_5 rfl (fun c5 => ?_) (fun c5 => ?_)
  · have d5 := of_decide_eq_false c5
    refine r_iconst dX12_spare_15 ?_
    refine r_ireturn dX12_spare_16 rfl rfl rfl ?_
    first
      | (refine ⟨rfl, _, rfl, ?_, hs3⟩; unfold spareF; rw [if_neg (by omega)]; done)
      | (refine ⟨rfl, _, rfl, ?_, Sc.rf m μ⟩; unfold spareF; rw [if_neg (by omega)]; done)
  · have d5 := of_decide_eq_true c5
    refine r_aload_n dX12_spare_8 rfl ?_
    refine r_cV0I dX12_spare_9 ml_X12_273 yl_X12_broken ⟨rfl, rfl⟩ (by assumption) ⟨_, rfl⟩ rfl rfl rfl rfl (m_broken (m := m) hM hwm) ?_
    rintro x μ3 ⟨rfl, hs3, hw3⟩
    rw [hr]
    have hbr := brok_rng ρ
    have hM3 : IsModel sh μ3.2.2 m := by rw [hs3.1]; exact hM
    have hr3 : μ3.1 (m + 1) = ρ := (hs3.row (by omega)).trans hr
    obtain ⟨g0, f1, z1, f2, z2, f3, z3, f4, z4, f5, z5, f6, z6, f7, z7, f8, z8, f9, z9, f10, z10, f11, z11, f12, z12, f13, z13, f14, z14⟩ := id hM3
    refine q_if_eq (tgt := 17) dX12_spare_12 rfl (by omega) (fun c12 => ?_) (fun c12 => ?_)
    · refine r_aload_n dX12_spare_17 rfl ?_
      refine r_getR dX12_spare_18 fl_X12_7 rfl (by assumption) (by assumption) ?_
      refine r_bipush dX12_spare_21 (by decide) ?_
      refine r_iload_n dX12_spare_23 rfl ?_
      refine r_iadd dX12_spare_24 ?_
      refine r_iald dX12_spare_25 (by assumption) rfl (by omega) ?_
      rw [hr3]
      refine r_istore_n dX12_spare_26 rfl ?_
      refine r_iconst dX12_spare_27 ?_
      refine r_istore_n dX12_spare_28 rfl ?_
      refine AW.mono (loop 100 99 0 (ρ (83 + k0)) μ3 (by omega) (by omega) (by omega) (by rw [rset_id, wRow_id hr]; exact hs3) (by omega)) ?_
      rintro r sh2 μ2 ⟨rfl, x, rfl, rfl, h3⟩
      refine ⟨rfl, _, rfl, ?_, h3⟩
      unfold spareF
      rw [if_pos ⟨by omega, by omega⟩]
      rfl
    · refine r_iconst dX12_spare_15 ?_
      refine r_ireturn dX12_spare_16 rfl rfl rfl ?_
      first
        | (refine ⟨rfl, _, rfl, ?_, hs3⟩; unfold spareF; rw [if_neg (by omega)]; done)
        | (refine ⟨rfl, _, rfl, ?_, Sc.rf m μ⟩; unfold spareF; rw [if_neg (by omega)]; done)
theorem b_toInt (a : Int32) : Int32.ofInt a.toInt = a := Int32.ofInt_toInt a
theorem and255 (i : Nat) (hi : i < 32) : (255#32)[i] = decide (i < 8) := by
  revert i
  decide
theorem ext255 (V : BitVec 32) (k : Nat) (hk : k ≤ 24) : (BitVec.signExtend 32 (BitVec.signExtend 8 (V.sshiftRight k))) &&& 255#32 = (V >>> k) &&& 255#32 := by
  ext i hi
  simp only [BitVec.getElem_and, BitVec.getElem_signExtend, BitVec.getElem_ushiftRight, and255]
  rcases Nat.lt_or_ge i 8 with h | h
  · simp [h, BitVec.getLsbD_sshiftRight, BitVec.getElem_sshiftRight]
    rw [if_pos (by omega), dif_pos (show k + i < 32 by omega)]
    exact (BitVec.getLsbD_eq_getElem (by omega)).symm
  · simp [show ¬ i < 8 by omega]
theorem byt_eq (v : Int) {s : Int} (hs : s = 24 ∨ s = 16 ∨ s = 8 ∨ s = 0) : iand (i2b (ishr v s)) 255 = byt v s := by
  unfold byt iand i2b ishr iushr
  simp only [b_toInt]
  generalize Int32.ofInt v = V
  congr 1
  apply Int32.toBitVec_inj.mp
  have h := ext255 V.toBitVec
  rcases hs with rfl | rfl | rfl | rfl
  · have h := h 24 (by omega)
    simp at h ⊢
    exact h
  · have h := h 16 (by omega)
    simp at h ⊢
    exact h
  · have h := h 8 (by omega)
    simp at h ⊢
    exact h
  · have h := h 0 (by omega)
    simp at h ⊢
    exact h
theorem i2b_rng (x : Int) : -128 ≤ i2b x ∧ i2b x < 128 := by
  unfold i2b
  rw [Int8.toInt_toInt32]
  exact ⟨Int8.le_toInt _, Int8.toInt_lt _⟩
theorem byt_rng (v s : Int) : 0 ≤ byt v s ∧ byt v s ≤ 255 := by
  unfold byt iand
  have h : (Int32.ofInt (iushr v s) &&& Int32.ofInt 255).toBitVec.toNat ≤ 255 := by
    rw [Int32.toBitVec_and, BitVec.toNat_and]
    exact Nat.and_le_right
  show 0 ≤ (Int32.ofInt (iushr v s) &&& Int32.ofInt 255).toBitVec.toInt ∧ (Int32.ofInt (iushr v s) &&& Int32.ofInt 255).toBitVec.toInt ≤ 255
  rw [BitVec.toInt_eq_toNat_of_lt (by omega)]
  omega
theorem gTl_set {G : Gh} {q : Tq} : gTl (setTap G q) = q.2 := rfl
theorem put1_l {q : Tq} {x : Int} : (put1 q x).2 = q.2 + 1 := rfl
theorem InM.tap1 {sh : Sh} {m : Nat} {μ : Mem} {G : Gh} (h : InM sh m μ G) (hl : gTl G < 540) {x y : Int} (hx : -128 ≤ x ∧ x < 128) (hy : iand x 255 = y) : InM sh m (setI (setI μ (m + 6) (gTl G) x) m 7 (gTl G + 1)) (setTap G (put1 (gTp G, gTl G) y)) := by
  obtain ⟨i0, ⟨i1, i2⟩, i3, ⟨i4, i5⟩, ⟨t1, t2, t3⟩, i7, i8⟩ := h
  have k7 : ∀ i, i ≠ 7 → (setI (setI μ (m + 6) (gTl G) x) m 7 (gTl G + 1)).1 m i = μ.1 m i := by
    intro i hi
    simp [setI, hi]
  have kp : Kp (fun a => a ≠ m ∧ a ≠ m + 6) μ (setI (setI μ (m + 6) (gTl G) x) m 7 (gTl G + 1)) := ((Kp.rf _ μ).sI (by omega)).sI (by omega)
  refine ⟨i0, ⟨(kp _ (by (try dsimp only); omega)).1.trans i1, i2⟩, i3.mono (k7 5 (by decide)) (kp _ (by (try dsimp only); omega)).1, ⟨i4.mono (kp _ (by (try dsimp only); omega)).1 (kp _ (by (try dsimp only); omega)).1, i5.mono (kp _ (by (try dsimp only); omega)).1 (kp _ (by (try dsimp only); omega)).1⟩, ⟨?_, ?_, fun i j0 j1 => ?_⟩, (k7 14 (by decide)).trans i7, i8.mono (k7 33 (by decide)) (kp _ (by (try dsimp only); omega)).1⟩
  · exact Eq.trans (b := gTl G + 1) (by simp [setI]) rfl
  · show 0 ≤ gTl G + 1 ∧ gTl G + 1 ≤ 540
    omega
  · have j1 : i < gTl G + 1 := j1
    show (-128 ≤ (setI (setI μ (m + 6) (gTl G) x) m 7 (gTl G + 1)).1 (m + 6) i ∧ (setI (setI μ (m + 6) (gTl G) x) m 7 (gTl G + 1)).1 (m + 6) i < 128) ∧ iand ((setI (setI μ (m + 6) (gTl G) x) m 7 (gTl G + 1)).1 (m + 6) i) 255 = rset (gTp G) (gTl G) y i
    rw [setI_ne (by omega)]
    by_cases e : i = gTl G
    · subst e
      simp only [setI, rset]
      rw [if_pos ⟨trivial, trivial⟩, if_pos trivial]
      exact ⟨hx, hy⟩
    · rw [rset_ne e]
      simp only [setI]
      rw [if_neg (fun q => e q.2)]
      exact t3 i j0 (by omega)
theorem m_four {sh : Sh} {μ : Mem} {m : Nat} {G : Gh} (hI : InM sh m μ G) (hl : gTl G + 4 ≤ 540) {v : Int} (hv : -2147483648 ≤ v ∧ v < 2147483648)  : VMet yX12_four gX12_four sh [vR m, vI v] μ (fun μ2 => MS sh m μ μ2 (setTap G (put4 (gTp G, gTl G) v)) ∧ Kp (fun a => a ≠ m ∧ a ≠ m + 6) μ μ2 ∧ ∀ i, i ≠ 7 → μ2.1 m i = μ.1 m i) := by
  have loop : ∀ (f n : Nat) (k : Int) (G1 : Gh) (m1 : Mem), n < f → 0 ≤ k → k + n = 4 → MS sh m μ m1 G1 → gTl G1 + n ≤ 540 → Kp (fun a => a ≠ m ∧ a ≠ m + 6) μ m1 → (∀ i, i ≠ 7 → m1.1 m i = μ.1 m i) → AW gX12_four sh m1 0 0 3 [some (vR m), some (vI v), some (vI (24 - 8 * k))] [] (fun r2 sh2 μ2 => r2 = none ∧ sh2 = sh ∧ MS sh m μ μ2 (setTap G1 (fld (fun k q => put1 q (byt v (24 - 8 * k))) n k (gTp G1, gTl G1))) ∧ Kp (fun a => a ≠ m ∧ a ≠ m + 6) μ μ2 ∧ ∀ i, i ≠ 7 → μ2.1 m i = μ.1 m i) := by
    intro f
    induction f with
    | zero => intro n; intros; omega
    | succ f ih =>
      intro n k G1 m1 hf hk hn2 hS hl1 hkp hk7
      have hM1 := hS.1.1
      obtain ⟨g0, f1, z1, f2, z2, f3, z3, f4, z4, f5, z5, f6, z6, f7, z7, f8, z8, f9, z9, f10, z10, f11, z11, f12, z12, f13, z13, f14, z14⟩ := id hM1
      have e7 : m1.1 m 7 = gTl G1 := hS.1.2.2.2.2.1.1
      have e8 := hS.1.2.2.2.2.1.2.1
      refine r_iload_n dX12_four_3 rfl ?_
      
      refine q_if_lt (tgt := 36) dX12_four_4 rfl (by omega) (fun c4 => ?_) (fun c4 => ?_)
      · refine r_return dX12_four_36 rfl rfl rfl ?_
        obtain rfl : n = 0 := by omega
        exact ⟨rfl, rfl, hS, hkp, hk7⟩
      · rw [show (24 : Int) - 8 * k = 24 - 8 * k from rfl]
        refine r_aload_n dX12_four_7 rfl ?_
        refine r_getR dX12_four_8 fl_X12_26 rfl (by assumption) (by assumption) ?_
        refine r_aload_n dX12_four_11 rfl ?_
        refine r_getI dX12_four_12 fl_X12_59 rfl (by assumption) ?_
        (try rw [e7])
        refine r_iload_n dX12_four_15 rfl ?_
        refine r_iload_n dX12_four_16 rfl ?_
        refine r_ishr dX12_four_17 ?_
        refine r_i2b dX12_four_18 ?_
        refine r_bast dX12_four_19 (by assumption) rfl (by omega) (i2b_rng _) ?_
        have e9 : (setI m1 (m + 6) (gTl G1) (i2b (ishr v (24 - 8 * k)))).1 m 7 = gTl G1 := by rw [setI_ne (by omega)]; exact e7
        refine r_aload_n dX12_four_20 rfl ?_
        refine r_dup dX12_four_21 rfl ?_
        refine r_getI dX12_four_22 fl_X12_59 rfl (by assumption) ?_
        (try rw [e7])
        rw [e9]
        refine r_iconst dX12_four_25 ?_
        refine r_iadd dX12_four_26 ?_
        refine r_putI dX12_four_27 fl_X12_59 (by assumption) ?_
        refine r_iinc dX12_four_30 rfl rfl ?_
        refine r_goto (tgt := 3) dX12_four_33 rfl ?_
        obtain ⟨q, rfl⟩ : ∃ q, n = q + 1 := ⟨n - 1, by omega⟩
        have hb := byt_eq v (s := 24 - 8 * k) (by omega)
        have hI2 := hS.1.tap1 (by omega) (i2b_rng (ishr v (24 - 8 * k))) hb
        refine AW.mono (show AW gX12_four sh _ 0 0 3 [some (vR m), some (vI v), some (vI (24 - 8 * k + -8))] [] _ by
          rw [show (24 : Int) - 8 * k + -8 = 24 - 8 * (k + 1) by omega]
          exact ih q (k + 1) _ _ (by omega) (by omega) (by omega) ⟨hI2, (hS.2.1.sI (by (try dsimp only); omega)).sI (by (try dsimp only); omega), hS.2.2⟩ (by rw [gTl_set, put1_l]; (try dsimp only); omega) ((hkp.sI (by (try dsimp only); omega)).sI (by (try dsimp only); omega)) (fun i hi => by rw [← hk7 i hi]; simp [setI, hi])) ?_
        rintro r sh2 μ2 ⟨rfl, h3⟩
        exact ⟨rfl, h3⟩
  refine AMet.of (by decide) rfl (by decide) rfl ?_
  refine r_bipush dX12_four_0 (by decide) ?_
  refine r_istore_n dX12_four_2 rfl ?_
  exact loop 5 4 0 G μ (by omega) (by omega) (by omega) ⟨hI, Kp.rf _ _, rfl⟩ hl (Kp.rf _ _) (fun _ _ => rfl)
theorem put4_l (q : Tq) (v : Int) : (put4 q v).2 = q.2 + 4 := by
  simp only [put4, fld, put1]
  omega
theorem m_feed {sh : Sh} {μ : Mem} {m : Nat} {G : Gh} (hI : InM sh m μ G) {a b c d e : Int} (ha : -2147483648 ≤ a ∧ a < 2147483648) (hb : -2147483648 ≤ b ∧ b < 2147483648) (hc : -2147483648 ≤ c ∧ c < 2147483648) (hd : -2147483648 ≤ d ∧ d < 2147483648) (he : -2147483648 ≤ e ∧ e < 2147483648)  : IMet yX12_feed gX12_feed sh [vR m, vI a, vI b, vI c, vI d, vI e] μ (fun x μ2 => x = (feedF G a b c d e).1 ∧ MS sh m μ μ2 (feedF G a b c d e).2) := by
  have hM := hI.1
  obtain ⟨g0, f1, z1, f2, z2, f3, z3, f4, z4, f5, z5, f6, z6, f7, z7, f8, z8, f9, z9, f10, z10, f11, z11, f12, z12, f13, z13, f14, z14⟩ := id hM
  have u5 := hI.2.2.1.2.1
  have u8 := hI.2.2.1.1
  have hr := hI.2.1.1
  have t7 : μ.1 m 7 = gTl G := hI.2.2.2.2.1.1
  have t8 := hI.2.2.2.2.1.2.1
  refine AMet.of (by decide) rfl (by decide) rfl ?_
  refine r_aload_n dX12_feed_0 rfl ?_
  refine r_getI dX12_feed_1 fl_X12_59 rfl (by assumption) ?_
  rw [t7]
  refine r_bipush dX12_feed_4 (by decide) ?_
  refine r_iadd dX12_feed_6 ?_
  refine r_sipush dX12_feed_7 (by decide) ?_
  refine q_icmp_le (tgt := 15) dX12_feed_10 rfl (by omega) (by omega) (fun c10 => ?_) (fun c10 => ?_)
  · refine r_aload_n dX12_feed_15 rfl ?_
    refine r_iload_n dX12_feed_16 rfl ?_
    refine r_cV1N dX12_feed_17 ml_X12_63 yl_X12_four ⟨rfl, rfl⟩ (by assumption) ⟨_, rfl⟩ rfl rfl rfl rfl (m_four hI (by (try simp only [gTl_set, put4_l]); omega) ha) ?_
    rintro μ0 ⟨hS0, -, -⟩
    have y0 : sh[m]? = some (11, 34) := hS0.1.1.1
    refine r_aload_n dX12_feed_20 rfl ?_
    refine r_iload_n dX12_feed_21 rfl ?_
    refine r_cV1N dX12_feed_22 ml_X12_63 yl_X12_four ⟨rfl, rfl⟩ (by assumption) ⟨_, rfl⟩ rfl rfl rfl rfl (m_four hS0.1 (by (try simp only [gTl_set, put4_l]); omega) hb) ?_
    rintro μ1 ⟨hS1, -, -⟩
    have y1 : sh[m]? = some (11, 34) := hS1.1.1.1
    refine r_aload_n dX12_feed_25 rfl ?_
    refine r_iload_n dX12_feed_26 rfl ?_
    refine r_cV1N dX12_feed_27 ml_X12_63 yl_X12_four ⟨rfl, rfl⟩ (by assumption) ⟨_, rfl⟩ rfl rfl rfl rfl (m_four hS1.1 (by (try simp only [gTl_set, put4_l]); omega) hc) ?_
    rintro μ2 ⟨hS2, -, -⟩
    have y2 : sh[m]? = some (11, 34) := hS2.1.1.1
    refine r_aload_n dX12_feed_30 rfl ?_
    refine r_iload dX12_feed_31 rfl ?_
    refine r_cV1N dX12_feed_33 ml_X12_63 yl_X12_four ⟨rfl, rfl⟩ (by assumption) ⟨_, rfl⟩ rfl rfl rfl rfl (m_four hS2.1 (by (try simp only [gTl_set, put4_l]); omega) hd) ?_
    rintro μ3 ⟨hS3, -, -⟩
    have y3 : sh[m]? = some (11, 34) := hS3.1.1.1
    refine r_aload_n dX12_feed_36 rfl ?_
    refine r_iload dX12_feed_37 rfl ?_
    refine r_cV1N dX12_feed_39 ml_X12_63 yl_X12_four ⟨rfl, rfl⟩ (by assumption) ⟨_, rfl⟩ rfl rfl rfl rfl (m_four hS3.1 (by (try simp only [gTl_set, put4_l]); omega) he) ?_
    rintro μ4 ⟨hS4, -, -⟩
    have y4 : sh[m]? = some (11, 34) := hS4.1.1.1
    refine r_aload_n dX12_feed_42 rfl ?_
    refine r_getI dX12_feed_43 fl_X12_59 rfl (by assumption) ?_
    rw [show μ4.1 m 7 = gTl G + 20 by have h := hS4.1.2.2.2.2.1.1; rw [h]; simp only [gTl_set, put4_l]; omega]
    refine r_ireturn dX12_feed_46 rfl rfl rfl ?_
    refine ⟨rfl, _, rfl, ?_⟩
    unfold feedF
    rw [if_neg (by omega)]
    exact ⟨rfl, (((hS0.tr hS1).tr hS2).tr hS3).tr hS4⟩
  · refine r_iconst dX12_feed_13 ?_
    refine r_ireturn dX12_feed_14 rfl rfl rfl ?_
    refine ⟨rfl, _, rfl, ?_⟩
    unfold feedF
    rw [if_pos (by omega)]
    exact ⟨rfl, hI, Kp.rf _ _, rfl⟩
theorem m_end {sh : Sh} {μ : Mem} {m : Nat} {G : Gh} (hI : InM sh m μ G) {n : Int} (hn : -2147483648 ≤ n ∧ n < 2147483648)  : IMet yX12_end gX12_end sh [vR m, vI n] μ (fun x μ2 => x = (endF G n).1 ∧ MS sh m μ μ2 (endF G n).2) := by
  have hM := hI.1
  obtain ⟨g0, f1, z1, f2, z2, f3, z3, f4, z4, f5, z5, f6, z6, f7, z7, f8, z8, f9, z9, f10, z10, f11, z11, f12, z12, f13, z13, f14, z14⟩ := id hM
  have u5 := hI.2.2.1.2.1
  have u8 := hI.2.2.1.1
  have hr := hI.2.1.1
  have t7 : μ.1 m 7 = gTl G := hI.2.2.2.2.1.1
  have t8 := hI.2.2.2.2.1.2.1
  refine AMet.of (by decide) rfl (by decide) rfl ?_
  refine r_iload_n dX12_end_0 rfl ?_
  refine q_if_lt (tgt := 12) dX12_end_1 rfl (by omega) (fun c1 => ?_) (fun c1 => ?_)
  · refine r_iconst dX12_end_12 ?_
    refine r_zreturn dX12_end_13 (by first | exact Or.inl rfl | exact Or.inr rfl | exact b2i_01 _ | omega) rfl rfl rfl ?_
    refine ⟨rfl, _, rfl, ?_⟩
    unfold endF
    rw [if_neg (by omega)]
    exact ⟨rfl, hI, Kp.rf _ _, rfl⟩
  · refine r_iload_n dX12_end_4 rfl ?_
    refine r_aload_n dX12_end_5 rfl ?_
    refine r_getI dX12_end_6 fl_X12_59 rfl (by assumption) ?_
    rw [t7]
    refine q_icmp_le (tgt := 14) dX12_end_9 rfl (by omega) (by omega) (fun c9 => ?_) (fun c9 => ?_)
    · refine r_aload_n dX12_end_14 rfl ?_
      refine r_iload_n dX12_end_15 rfl ?_
      refine r_putI dX12_end_16 fl_X12_59 (by assumption) ?_
      refine r_iconst dX12_end_19 ?_
      refine r_zreturn dX12_end_20 (by first | exact Or.inl rfl | exact Or.inr rfl | exact b2i_01 _ | omega) rfl rfl rfl ?_
      refine ⟨rfl, _, rfl, ?_⟩
      unfold endF
      rw [if_pos (by omega)]
      have k7 : ∀ i, i ≠ 7 → (setI μ m 7 n).1 m i = μ.1 m i := by
        intro i hi
        simp [setI, hi]
      have kp : Kp (fun a => a ≠ m) μ (setI μ m 7 n) := (Kp.rf _ μ).sI (by omega)
      obtain ⟨i0, ⟨i1, i2⟩, i3, ⟨i4, i5⟩, ⟨t1, t2, t3⟩, i7, i8⟩ := hI
      refine ⟨rfl, ⟨i0, ⟨(kp _ (by (try dsimp only); omega)).1.trans i1, i2⟩, i3.mono (k7 5 (by decide)) (kp _ (by (try dsimp only); omega)).1, ⟨i4.mono (kp _ (by (try dsimp only); omega)).1 (kp _ (by (try dsimp only); omega)).1, i5.mono (kp _ (by (try dsimp only); omega)).1 (kp _ (by (try dsimp only); omega)).1⟩, ⟨by simp [setI], ⟨by show (0 : Int) ≤ n; omega, by show n ≤ (540 : Int); omega⟩, fun i j0 j1 => ?_⟩, (k7 14 (by decide)).trans i7, i8.mono (k7 33 (by decide)) (kp _ (by (try dsimp only); omega)).1⟩, kp.mono (fun q hq => by (try dsimp only at *); omega), rfl⟩
      rw [(kp _ (by (try dsimp only); omega)).1]
      exact t3 i j0 (Int.lt_of_lt_of_le (show i < n from j1) (by omega))
    · refine r_iconst dX12_end_12 ?_
      refine r_zreturn dX12_end_13 (by first | exact Or.inl rfl | exact Or.inr rfl | exact b2i_01 _ | omega) rfl rfl rfl ?_
      refine ⟨rfl, _, rfl, ?_⟩
      unfold endF
      rw [if_neg (by omega)]
      exact ⟨rfl, hI, Kp.rf _ _, rfl⟩
theorem m_fault {sh : Sh} {μ : Mem} {m : Nat} {G : Gh} (hI : InM sh m μ G)  : FMet yX12_fault gX12_fault sh [vR m] μ (some (vI (gFk G))) μ := by
  have hM := hI.1
  obtain ⟨g0, f1, z1, f2, z2, f3, z3, f4, z4, f5, z5, f6, z6, f7, z7, f8, z8, f9, z9, f10, z10, f11, z11, f12, z12, f13, z13, f14, z14⟩ := id hM
  have u5 := hI.2.2.1.2.1
  have u8 := hI.2.2.1.1
  have hr := hI.2.1.1
  refine AMet.of (by decide) rfl (by decide) rfl ?_
  refine r_aload_n dX12_fault_0 rfl ?_
  refine r_getI dX12_fault_1 fl_X12_77 rfl (by assumption) ?_
  refine r_ireturn dX12_fault_4 rfl rfl rfl ?_
  exact ⟨rI hI.2.2.2.2.2.1, rfl, rfl⟩
