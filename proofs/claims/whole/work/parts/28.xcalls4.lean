/-! 28.xcalls4: trials, tape, counts of the class (wip/whole/src/28_xcalls4.py) -/
theorem sI_sI {μ : Mem} {a : Nat} {i x y : Int} : setI (setI μ a i x) a i y = setI μ a i y := by
  refine Prod.ext (funext fun q => funext fun j => ?_) rfl
  simp only [setI]
  split <;> rfl
theorem sI_id {μ : Mem} {a : Nat} {i x : Int} (h : μ.1 a i = x) : setI μ a i x = μ := by
  refine Prod.ext (funext fun q => funext fun j => ?_) rfl
  simp only [setI]
  split
  · rename_i e; rw [e.1, e.2, h]
  · rfl
def swM (μ : Mem) (c : Nat) (a b : Int) : Mem := setI (setI μ (c + 4) a (μ.1 (c + 4) b)) (c + 4) b (μ.1 (c + 4) a)
theorem swM_swM {μ : Mem} {c : Nat} {a b : Int} (h : a ≠ b) : swM (swM μ c a b) c a b = μ := by
  refine Prod.ext (funext fun q => funext fun j => ?_) rfl
  by_cases hq : q = c + 4
  · subst hq
    by_cases h1 : j = b
    · subst h1
      unfold swM
      rw [sI_at, sI_nj h, sI_at]
    · by_cases h2 : j = a
      · subst h2
        unfold swM
        rw [sI_nj h, sI_at, sI_at]
      · unfold swM
        rw [sI_nj h1, sI_nj h2, sI_nj h1, sI_nj h2]
  · unfold swM
    rw [sI_ne hq, sI_ne hq, sI_ne hq, sI_ne hq]
theorem RelC.sw {sh : Sh} {μ : Mem} {c : Nat} {ρ : Row} (h : RelC sh μ c ρ) (hw : WF ρ) {a b : Int} (ha : 0 ≤ a ∧ a < ρ 11) (hb : 0 ≤ b ∧ b < ρ 11) (hab : a ≠ b) : RelC sh (swM μ c a b) c (swR ρ a b) := by
  have hn := hw.1.1
  unfold WFn at hn
  obtain ⟨hI, e0, e5, e51, e52, e⟩ := h
  have ea := (e a ha.1 ha.2).2.2.1
  have eb := (e b hb.1 hb.2).2.2.1
  have kk : Kp (fun q => q ≠ c + 4) μ (swM μ c a b) := ((Kp.rf _ μ).sI (by simp)).sI (by simp)
  refine ⟨hI, ?_, ?_, ?_, ?_, fun j j0 j1 => ?_⟩
  · rw [(kk c (by (try dsimp only); omega)).1, sw_ne (by omega) (by omega), e0]
  · rw [(kk c (by (try dsimp only); omega)).1, sw_ne (by omega) (by omega), e5]
  · rw [(kk (c + 5) (by (try dsimp only); omega)).1, sw_ne (by omega) (by omega), e51]
  · rw [(kk (c + 5) (by (try dsimp only); omega)).1, sw_ne (by omega) (by omega), e52]
  · rw [sw_ne (by omega) (by omega)] at j1
    obtain ⟨a1, a2, a3, a4⟩ := e j j0 j1
    refine ⟨by rw [(kk (c + 2) (by (try dsimp only); omega)).1, sw_ne (by omega) (by omega), a1], by rw [(kk (c + 3) (by (try dsimp only); omega)).1, sw_ne (by omega) (by omega), a2], ?_, ?_⟩
    · rw [sw_at]
      unfold swM
      by_cases h1 : j = b
      · subst h1
        rw [sI_at, if_pos rfl, ea]
      · rw [sI_nj h1, if_neg h1]
        by_cases h2 : j = a
        · subst h2
          rw [sI_at, if_pos rfl, eb]
        · rw [sI_nj h2, if_neg h2, a3]
    · rw [(kk (c + 1) (by (try dsimp only); omega)).2.1, a4]
      exact (pkF_congr (sw_ne (by omega) (by omega)) (hw.2.2.1 j j0 j1).2.2.2.1.2 (fun i i0 i1 => sw_ne (by omega) (by omega))).symm
theorem swp_comm {ρ : Row} {a b : Int} (h : a ≠ b) : swp ρ a b = swp ρ b a := by
  unfold swp
  rw [sw_comm h]
  by_cases e : 0 ≤ ρ (93 + a) ∧ 0 ≤ ρ (93 + b) ∧ brokF (swR ρ b a) = 0
  · rw [if_pos e, if_pos (by omega)]
  · rw [if_neg e, if_neg (by omega)]
/-- the pairs, counted the other way round -/
theorem swaps_eq {ρ : Row} (h : 0 ≤ ρ 11 ∧ ρ 11 ≤ 5) : sumF (fun k => sumF (fun o => swp ρ k o) (ρ 11 - 1 - k).toNat (k + 1)) (ρ 11).toNat 0 = swapsF ρ := by
  unfold swapsF
  have c := fun (a b : Int) (h : a ≠ b) => swp_comm (ρ := ρ) h
  have c10 := c 1 0 (by decide)
  have c20 := c 2 0 (by decide)
  have c21 := c 2 1 (by decide)
  have c30 := c 3 0 (by decide)
  have c31 := c 3 1 (by decide)
  have c32 := c 3 2 (by decide)
  have c40 := c 4 0 (by decide)
  have c41 := c 4 1 (by decide)
  have c42 := c 4 2 (by decide)
  have c43 := c 4 3 (by decide)
  rcases (show ρ 11 = 0 ∨ ρ 11 = 1 ∨ ρ 11 = 2 ∨ ρ 11 = 3 ∨ ρ 11 = 4 ∨ ρ 11 = 5 by omega) with e | e | e | e | e | e <;> rw [e] <;> simp [sumF] <;> omega
theorem x_changePlaces {μ : Mem} {c : Nat} (r4 : μ.2.2 0 4 = some c) (hIC : IsCargo SH μ.2.2 c) {a b : Int} (ha : 0 ≤ a ∧ a < 5) (hb : 0 ≤ b ∧ b < 5) : FMet yX11_changePlaces gX11_changePlaces SH [vR 0, vI a, vI b] μ none (swM μ c a b) := by
  have x0 : SH[0]? = some (10, 11) := rfl
  obtain ⟨h0, h1, h2, h3, h4, h6, s1, s2, s3, s4, s5⟩ := id hIC
  refine AMet.of (by decide) rfl (by decide) rfl ?_
  refine r_aload_n dX11_changePlaces_0 rfl ?_
  refine r_getR dX11_changePlaces_1 fl_X11_29 rfl (by assumption) (by assumption) ?_
  refine r_getR dX11_changePlaces_4 fl_X11_155 rfl (by assumption) (by assumption) ?_
  refine r_iload_n dX11_changePlaces_7 rfl ?_
  refine r_iald dX11_changePlaces_8 (by assumption) rfl (by omega) ?_
  refine r_istore_n dX11_changePlaces_9 rfl ?_
  refine r_aload_n dX11_changePlaces_10 rfl ?_
  refine r_getR dX11_changePlaces_11 fl_X11_29 rfl (by assumption) (by assumption) ?_
  refine r_getR dX11_changePlaces_14 fl_X11_155 rfl (by assumption) (by assumption) ?_
  refine r_iload_n dX11_changePlaces_17 rfl ?_
  refine r_aload_n dX11_changePlaces_18 rfl ?_
  refine r_getR dX11_changePlaces_19 fl_X11_29 rfl (by assumption) (by assumption) ?_
  refine r_getR dX11_changePlaces_22 fl_X11_155 rfl (by assumption) (by assumption) ?_
  refine r_iload_n dX11_changePlaces_25 rfl ?_
  refine r_iald dX11_changePlaces_26 (by assumption) rfl (by omega) ?_
  refine r_iast dX11_changePlaces_27 (by assumption) rfl (by omega) ?_
  refine r_aload_n dX11_changePlaces_28 rfl ?_
  refine r_getR dX11_changePlaces_29 fl_X11_29 rfl (by assumption) (by assumption) ?_
  refine r_getR dX11_changePlaces_32 fl_X11_155 rfl (by assumption) (by assumption) ?_
  refine r_iload_n dX11_changePlaces_35 rfl ?_
  refine r_iload_n dX11_changePlaces_36 rfl ?_
  refine r_iast dX11_changePlaces_37 (by assumption) rfl (by omega) ?_
  refine r_return dX11_changePlaces_38 rfl rfl rfl ?_
  exact ⟨rfl, rfl, rfl⟩
theorem x_swaps {μ : Mem} {p c : Nat} {ρ : Row} (hN : Now SH μ 0 p c ρ) (hpc : (p = 4 ∨ p = 27) ∧ (c = 50 ∨ c = 56))  : FMet yX11_swaps gX11_swaps SH [vR 0] μ (some (vI (swapsF ρ))) μ := by
  obtain ⟨X0, X2, X4, hP, hC, hw⟩ := id hN
  have hn := hw.1.1
  unfold WFn at hn
  obtain ⟨hIC, e0, e5, e51, e52, eC⟩ := id hC
  obtain ⟨h0, h1, h2, h3, h4, h6, s1, s2, s3, s4, s5⟩ := id hIC
  have lin : ∀ (f n : Nat) (k : Int) (a n0 : Int) (P : Option AV → Sh → Mem → Prop), n < f → a < k → k + n = ρ 11 → (0 ≤ a ∧ a < ρ 11) → AW gX11_swaps SH μ 0 0 94 [some (vR 0), some (vI (n0 + sumF (fun o => swp ρ a o) n k)), some (vI a), some (vI (ρ 11))] [] P → AW gX11_swaps SH μ 0 0 19 [some (vR 0), some (vI n0), some (vI a), some (vI k)] [] P := by
    intro f
    induction f with
    | zero => intro n; intros; omega
    | succ f ih =>
      intro n k a n0 P hf hk hn2 ha hCC
      refine r_iload_n dX11_swaps_19 rfl ?_
      refine r_aload_n dX11_swaps_20 rfl ?_
      refine r_getR dX11_swaps_21 fl_X11_29 rfl (by assumption) (by assumption) ?_
      refine r_getI dX11_swaps_24 fl_X11_110 rfl (by assumption) ?_
      refine q_icmp_ge (tgt := 94) dX11_swaps_27 rfl (by omega) (by omega) (fun c27 => ?_) (fun c27 => ?_)
      · obtain rfl : n = 0 := by omega
        obtain rfl : k = ρ 11 := by omega
        have h := hCC
        simp only [sumF, Int.add_zero] at h
        exact h
      · have qa := (hw.2.2.1 a (by omega) (by omega)).2.2.1
        have qb := (hw.2.2.1 k (by omega) (by omega)).2.2.1
        have va := (eC a (by omega) (by omega)).2.2.1
        have vb := (eC k (by omega) (by omega)).2.2.1
        obtain ⟨q, rfl⟩ : ∃ q, n = q + 1 := ⟨n - 1, by omega⟩
        have hbr := brok_rng (swR ρ a k)
        refine r_aload_n dX11_swaps_30 rfl ?_
        refine r_getR dX11_swaps_31 fl_X11_29 rfl (by assumption) (by assumption) ?_
        refine r_getR dX11_swaps_34 fl_X11_155 rfl (by assumption) (by assumption) ?_
        refine r_iload_n dX11_swaps_37 rfl ?_
        refine r_iald dX11_swaps_38 (by assumption) rfl (by omega) ?_
        refine r_iconst dX11_swaps_39 ?_
        refine q_icmp_eq (tgt := 88) dX11_swaps_40 rfl (by omega) (by omega) (fun c40 => ?_) (fun c40 => ?_)
        · refine r_iinc dX11_swaps_88 rfl rfl ?_
          refine r_goto (tgt := 19) dX11_swaps_91 rfl ?_
          refine ih q (k + 1) a _ P (by omega) (by omega) (by omega) ha ?_
          have h := hCC
          rw [sumF] at h
          first
            | (rw [show swp ρ a k = 0 by unfold swp; rw [if_neg (by omega)]] at h; simp only [Int.add_zero, Int.zero_add] at h ⊢; exact h)
            | (rw [show swp ρ a k = 1 by unfold swp; rw [if_pos (by omega)], ← Int.add_assoc] at h; exact h)
        · refine r_aload_n dX11_swaps_43 rfl ?_
          refine r_getR dX11_swaps_44 fl_X11_29 rfl (by assumption) (by assumption) ?_
          refine r_getR dX11_swaps_47 fl_X11_155 rfl (by assumption) (by assumption) ?_
          refine r_iload_n dX11_swaps_50 rfl ?_
          refine r_iald dX11_swaps_51 (by assumption) rfl (by omega) ?_
          refine r_iconst dX11_swaps_52 ?_
          refine q_icmp_ne (tgt := 59) dX11_swaps_53 rfl (by omega) (by omega) (fun c53 => ?_) (fun c53 => ?_)
          · refine r_aload_n dX11_swaps_59 rfl ?_
            refine r_iload_n dX11_swaps_60 rfl ?_
            refine r_iload_n dX11_swaps_61 rfl ?_
            refine r_cV2F0 dX11_swaps_62 ml_X11_279 yl_X11_changePlaces ⟨rfl, rfl⟩ (by assumption) ⟨_, rfl⟩ rfl rfl rfl rfl (x_changePlaces X4 hIC (a := a) (b := k) (by omega) (by omega)) ?_
            have hCs := hC.sw hw (a := a) (b := k) (by omega) (by omega) (by omega)
            have hPs : RelP SH (swM μ c a k) p ρ := hP.mono (((Kp.rf _ μ).sI (by (try dsimp only); omega)).sI (by (try dsimp only); omega))
            have hws := hw.sw (a := a) (b := k) (by omega) (by omega) (by omega)
            have hPs2 : RelP SH (swM μ c a k) p (swR ρ a k) := hPs.row hw.1 (((PlEq.rf ρ).set (by omega)).set (by omega))
            refine r_aload_n dX11_swaps_65 rfl ?_
            refine r_getR dX11_swaps_66 fl_X11_19 rfl (by assumption) (by assumption) ?_
            refine r_aload_n dX11_swaps_69 rfl ?_
            refine r_getR dX11_swaps_70 fl_X11_29 rfl (by assumption) (by assumption) ?_
            refine r_cS2F1 dX11_swaps_73 ml_X11_219 yl_X7_firstBroken ⟨rfl, rfl⟩ rfl rfl rfl rfl (c_firstBroken hPs2 hCs hws) ?_
            refine q_if_ne (tgt := 82) dX11_swaps_76 rfl (by omega) (fun c76 => ?_) (fun c76 => ?_)
            · refine r_aload_n dX11_swaps_82 rfl ?_
              refine r_iload_n dX11_swaps_83 rfl ?_
              refine r_iload_n dX11_swaps_84 rfl ?_
              refine r_cV2F0 dX11_swaps_85 ml_X11_279 yl_X11_changePlaces ⟨rfl, rfl⟩ (by assumption) ⟨_, rfl⟩ rfl rfl rfl rfl (x_changePlaces (μ := swM μ c a k) X4 hIC (a := a) (b := k) (by omega) (by omega)) ?_
              rw [swM_swM (by omega)]
              refine r_iinc dX11_swaps_88 rfl rfl ?_
              refine r_goto (tgt := 19) dX11_swaps_91 rfl ?_
              refine ih q (k + 1) a _ P (by omega) (by omega) (by omega) ha ?_
              have h := hCC
              rw [sumF] at h
              first
                | (rw [show swp ρ a k = 0 by unfold swp; rw [if_neg (by omega)]] at h; simp only [Int.add_zero, Int.zero_add] at h ⊢; exact h)
                | (rw [show swp ρ a k = 1 by unfold swp; rw [if_pos (by omega)], ← Int.add_assoc] at h; exact h)
            · refine r_iinc dX11_swaps_79 rfl rfl ?_
              refine r_aload_n dX11_swaps_82 rfl ?_
              refine r_iload_n dX11_swaps_83 rfl ?_
              refine r_iload_n dX11_swaps_84 rfl ?_
              refine r_cV2F0 dX11_swaps_85 ml_X11_279 yl_X11_changePlaces ⟨rfl, rfl⟩ (by assumption) ⟨_, rfl⟩ rfl rfl rfl rfl (x_changePlaces (μ := swM μ c a k) X4 hIC (a := a) (b := k) (by omega) (by omega)) ?_
              rw [swM_swM (by omega)]
              refine r_iinc dX11_swaps_88 rfl rfl ?_
              refine r_goto (tgt := 19) dX11_swaps_91 rfl ?_
              refine ih q (k + 1) a _ P (by omega) (by omega) (by omega) ha ?_
              have h := hCC
              rw [sumF] at h
              first
                | (rw [show swp ρ a k = 0 by unfold swp; rw [if_neg (by omega)]] at h; simp only [Int.add_zero, Int.zero_add] at h ⊢; exact h)
                | (rw [show swp ρ a k = 1 by unfold swp; rw [if_pos (by omega)], ← Int.add_assoc] at h; exact h)
          · refine r_goto (tgt := 88) dX11_swaps_56 rfl ?_
            refine r_iinc dX11_swaps_88 rfl rfl ?_
            refine r_goto (tgt := 19) dX11_swaps_91 rfl ?_
            refine ih q (k + 1) a _ P (by omega) (by omega) (by omega) ha ?_
            have h := hCC
            rw [sumF] at h
            first
              | (rw [show swp ρ a k = 0 by unfold swp; rw [if_neg (by omega)]] at h; simp only [Int.add_zero, Int.zero_add] at h ⊢; exact h)
              | (rw [show swp ρ a k = 1 by unfold swp; rw [if_pos (by omega)], ← Int.add_assoc] at h; exact h)
  have lout : ∀ (f n : Nat) (k : Int) (n0 : Int) (o3 : Option AV), n < f → 0 ≤ k → k + n = ρ 11 → AW gX11_swaps SH μ 0 0 4 [some (vR 0), some (vI n0), some (vI k), o3] [] (fun r2 sh2 μ2 => r2 = some (vI (n0 + sumF (fun k => sumF (fun o => swp ρ k o) (ρ 11 - 1 - k).toNat (k + 1)) n k)) ∧ sh2 = SH ∧ μ2 = μ) := by
    intro f
    induction f with
    | zero => intro n; intros; omega
    | succ f ih =>
      intro n k n0 o3 hf hk hn2
      refine r_iload_n dX11_swaps_4 rfl ?_
      refine r_aload_n dX11_swaps_5 rfl ?_
      refine r_getR dX11_swaps_6 fl_X11_29 rfl (by assumption) (by assumption) ?_
      refine r_getI dX11_swaps_9 fl_X11_110 rfl (by assumption) ?_
      refine q_icmp_ge (tgt := 100) dX11_swaps_12 rfl (by omega) (by omega) (fun c12 => ?_) (fun c12 => ?_)
      · refine r_iload_n dX11_swaps_100 rfl ?_
        refine r_ireturn dX11_swaps_101 rfl rfl rfl ?_
        obtain rfl : n = 0 := by omega
        exact ⟨rI (Int.add_zero _).symm, rfl, rfl⟩
      · refine r_iload_n dX11_swaps_15 rfl ?_
        refine r_iconst dX11_swaps_16 ?_
        refine r_iadd dX11_swaps_17 ?_
        refine r_istore_n dX11_swaps_18 rfl ?_
        obtain ⟨q, rfl⟩ : ∃ q, n = q + 1 := ⟨n - 1, by omega⟩
        refine lin _ (ρ 11 - 1 - k).toNat (k + 1) k n0 _ (Nat.lt_succ_self _) (by omega) (by omega) (by omega) ?_
        refine r_iinc dX11_swaps_94 rfl rfl ?_
        refine r_goto (tgt := 4) dX11_swaps_97 rfl ?_
        refine AW.mono (ih q (k + 1) _ _ (by omega) (by omega) (by omega)) ?_
        rintro r sh2 μ2 ⟨rfl, h3⟩
        refine ⟨rI ?_, h3⟩
        rw [sumF, Int.add_assoc]
  refine AMet.of (by decide) rfl (by decide) rfl ?_
  refine r_iconst dX11_swaps_0 ?_
  refine r_istore_n dX11_swaps_1 rfl ?_
  refine r_iconst dX11_swaps_2 ?_
  refine r_istore_n dX11_swaps_3 rfl ?_
  refine AW.mono (lout _ (ρ 11).toNat 0 0 none (Nat.lt_succ_self _) (by omega) (by omega)) ?_
  rintro r sh2 μ2 ⟨rfl, h3⟩
  refine ⟨rI ?_, h3⟩
  rw [Int.zero_add, swaps_eq (by omega)]
theorem x_spare {μ : Mem} {p c : Nat} {ρ : Row} (hN : Now SH μ 0 p c ρ) (hpc : (p = 4 ∨ p = 27) ∧ (c = 50 ∨ c = 56)) (h99 : W99 ρ) {k0 : Int} (hk0 : -2147483648 ≤ k0 ∧ k0 < 2147483648)  : FMet yX11_spare gX11_spare SH [vR 0, vI k0] μ (some (vI (spareF ρ k0))) μ := by
  obtain ⟨X0, X2, X4, hP, hC, hw⟩ := id hN
  have hn := hw.1.1
  unfold WFn at hn
  obtain ⟨hIC, e0, e5, e51, e52, eC⟩ := id hC
  obtain ⟨h0, h1, h2, h3, h4, h6, s1, s2, s3, s4, s5⟩ := id hIC
  have loop : ∀ (f n : Nat) (k : Int) (v0 : Int), n < f → 1 ≤ k → k + n = 100 → (0 ≤ k0 ∧ k0 < ρ 11) → AW gX11_spare SH (setI μ (c + 2) k0 v0) 0 0 42 [some (vR 0), some (vI k0), some (vI (ρ (83 + k0))), some (vI (k - 1)), some (vI k)] [] (fun r2 sh2 μ2 => r2 = some (vI (sp1 (fnd (spB ρ k0) n k))) ∧ sh2 = SH ∧ μ2 = μ) := by
    intro f
    induction f with
    | zero => intro n; intros; omega
    | succ f ih =>
      intro n k v0 hf hk hn2 hk1
      have q1 := (hw.2.2.1 k0 (by omega) (by omega)).1
      have q9 := h99 k0 (by omega) (by omega)
      have v1 := (eC k0 (by omega) (by omega)).1
      refine r_iload dX11_spare_42 rfl ?_
      refine r_bipush dX11_spare_44 (by decide) ?_
      refine q_icmp_gt (tgt := 88) dX11_spare_46 rfl (by omega) (by omega) (fun c46 => ?_) (fun c46 => ?_)
      · refine r_aload_n dX11_spare_88 rfl ?_
        refine r_getR dX11_spare_89 fl_X11_29 rfl (by assumption) (by assumption) ?_
        refine r_getR dX11_spare_92 fl_X11_148 rfl (by assumption) (by assumption) ?_
        refine r_iload_n dX11_spare_95 rfl ?_
        refine r_iload_n dX11_spare_96 rfl ?_
        refine r_iast dX11_spare_97 (by assumption) rfl (by omega) ?_
        rw [sI_sI, sI_id v1]
        refine r_iload_n dX11_spare_98 rfl ?_
        refine r_ireturn dX11_spare_99 rfl rfl rfl ?_
        first
          | (obtain ⟨q, rfl⟩ : ∃ q, n = q + 1 := ⟨n - 1, by omega⟩; refine ⟨rI ?_, rfl, rfl⟩; rw [fnd, if_pos (by unfold spB; exact decide_eq_true c73)]; unfold sp1; rw [if_neg (by omega)]; done)
          | (obtain rfl : n = 0 := (by omega); refine ⟨rI ?_, rfl, rfl⟩; unfold fnd sp1; rw [if_pos (by decide)]; omega)
      · refine r_aload_n dX11_spare_49 rfl ?_
        refine r_getR dX11_spare_50 fl_X11_29 rfl (by assumption) (by assumption) ?_
        refine r_getR dX11_spare_53 fl_X11_148 rfl (by assumption) (by assumption) ?_
        refine r_iload_n dX11_spare_56 rfl ?_
        refine r_iload_n dX11_spare_57 rfl ?_
        refine r_iload dX11_spare_58 rfl ?_
        refine r_iadd dX11_spare_60 ?_
        refine r_iast dX11_spare_61 (by assumption) rfl (by omega) ?_
        rw [sI_sI]
        refine r_aload_n dX11_spare_62 rfl ?_
        refine r_getR dX11_spare_63 fl_X11_19 rfl (by assumption) (by assumption) ?_
        refine r_aload_n dX11_spare_66 rfl ?_
        refine r_getR dX11_spare_67 fl_X11_29 rfl (by assumption) (by assumption) ?_
        refine r_cS2F1 dX11_spare_70 ml_X11_219 yl_X7_firstBroken ⟨rfl, rfl⟩ rfl rfl rfl rfl (c_firstBroken (μ := setI μ (c + 2) k0 (ρ (83 + k0) + k)) ((hP.mono ((Kp.rf _ μ).sI (by (try dsimp only); omega))).row hw.1 ((PlEq.rf ρ).set (i := 83 + k0) (x := ρ (83 + k0) + k) (by omega))) (hC.setW hw (by omega)) (hw.weigh (by omega) (by omega))) ?_
        have hbr := brok_rng (rset ρ (83 + k0) (ρ (83 + k0) + k))
        refine q_if_eq (tgt := 79) dX11_spare_73 rfl (by omega) (fun c73 => ?_) (fun c73 => ?_)
        · refine r_iload dX11_spare_79 rfl ?_
          refine r_istore_n dX11_spare_81 rfl ?_
          refine r_iinc dX11_spare_82 rfl rfl ?_
          refine r_goto (tgt := 42) dX11_spare_85 rfl ?_
          obtain ⟨q, rfl⟩ : ∃ q, n = q + 1 := ⟨n - 1, by omega⟩
          refine AW.mono (show AW gX11_spare SH _ 0 0 42 [some (vR 0), some (vI k0), some (vI (ρ (83 + k0))), some (vI k), some (vI (k + 1))] [] _ by
            rw [show (some (vI k) : Option AV) = some (vI (k + 1 - 1)) from rI (by omega)]
            exact ih q (k + 1) _ (by omega) (by omega) (by omega) hk1) ?_
          rintro r sh2 μ2 ⟨rfl, h3⟩
          refine ⟨?_, h3⟩
          rw [fnd, if_neg (by unfold spB; intro h; exact absurd c73 (of_decide_eq_true h))]
        · refine r_goto (tgt := 88) dX11_spare_76 rfl ?_
          refine r_aload_n dX11_spare_88 rfl ?_
          refine r_getR dX11_spare_89 fl_X11_29 rfl (by assumption) (by assumption) ?_
          refine r_getR dX11_spare_92 fl_X11_148 rfl (by assumption) (by assumption) ?_
          refine r_iload_n dX11_spare_95 rfl ?_
          refine r_iload_n dX11_spare_96 rfl ?_
          refine r_iast dX11_spare_97 (by assumption) rfl (by omega) ?_
          rw [sI_sI, sI_id v1]
          refine r_iload_n dX11_spare_98 rfl ?_
          refine r_ireturn dX11_spare_99 rfl rfl rfl ?_
          first
            | (obtain ⟨q, rfl⟩ : ∃ q, n = q + 1 := ⟨n - 1, by omega⟩; refine ⟨rI ?_, rfl, rfl⟩; rw [fnd, if_pos (by unfold spB; exact decide_eq_true c73)]; unfold sp1; rw [if_neg (by omega)]; done)
            | (obtain rfl : n = 0 := (by omega); refine ⟨rI ?_, rfl, rfl⟩; unfold fnd sp1; rw [if_pos (by decide)]; omega)
  have hb0 := brok_rng ρ
  refine AMet.of (by decide) rfl (by decide) rfl ?_
  refine r_aload_n dX11_spare_0 rfl ?_
  refine r_getR dX11_spare_1 fl_X11_29 rfl (by assumption) (by assumption) ?_
  refine r_iload_n dX11_spare_4 rfl ?_
  refine r_cV1F1 dX11_spare_5 ml_X11_144 yl_X0_has ⟨rfl, rfl⟩ (by assumption) ⟨_, rfl⟩ rfl rfl rfl rfl (c_hasR hC (by omega) hk0) ?_
  refine r_if_eqB (tgt := 25) dX11_spare_8 rfl (fun c8 => ?_) (fun c8 => ?_)
  · have d8 := of_decide_eq_false c8
    refine r_iconst dX11_spare_25 ?_
    refine r_ireturn dX11_spare_26 rfl rfl rfl ?_
    refine ⟨rI ?_, rfl, rfl⟩
    unfold spareF
    rw [if_neg (by omega)]
  · have d8 := of_decide_eq_true c8
    refine r_aload_n dX11_spare_11 rfl ?_
    refine r_getR dX11_spare_12 fl_X11_19 rfl (by assumption) (by assumption) ?_
    refine r_aload_n dX11_spare_15 rfl ?_
    refine r_getR dX11_spare_16 fl_X11_29 rfl (by assumption) (by assumption) ?_
    refine r_cS2F1 dX11_spare_19 ml_X11_219 yl_X7_firstBroken ⟨rfl, rfl⟩ rfl rfl rfl rfl (c_firstBroken hP hC hw) ?_
    refine q_if_eq (tgt := 27) dX11_spare_22 rfl (by omega) (fun c22 => ?_) (fun c22 => ?_)
    · have v1 := (eC k0 (by omega) (by omega)).1
      refine r_aload_n dX11_spare_27 rfl ?_
      refine r_getR dX11_spare_28 fl_X11_29 rfl (by assumption) (by assumption) ?_
      refine r_getR dX11_spare_31 fl_X11_148 rfl (by assumption) (by assumption) ?_
      refine r_iload_n dX11_spare_34 rfl ?_
      refine r_iald dX11_spare_35 (by assumption) rfl (by omega) ?_
      rw [v1]
      refine r_istore_n dX11_spare_36 rfl ?_
      refine r_iconst dX11_spare_37 ?_
      refine r_istore_n dX11_spare_38 rfl ?_
      refine r_iconst dX11_spare_39 ?_
      refine r_istore dX11_spare_40 rfl ?_
      have hl := loop 100 99 1 (ρ (83 + k0)) (by omega) (by omega) (by omega) (by omega)
      rw [sI_id v1] at hl
      refine AW.mono hl ?_
      rintro r sh2 μ2 ⟨rfl, h3⟩
      refine ⟨rI ?_, h3⟩
      unfold spareF
      rw [if_pos ⟨by omega, by omega⟩]
    · refine r_iconst dX11_spare_25 ?_
      refine r_ireturn dX11_spare_26 rfl rfl rfl ?_
      refine ⟨rI ?_, rfl, rfl⟩
      unfold spareF
      rw [if_neg (by omega)]
theorem InX.tap {μ μ2 : Mem} {G : Gh} {p pd c cd : Nat} (hX : InX μ G p pd c cd) (hk : Kp (fun q => q ≠ 2 ∧ q ≠ 3) μ μ2) (hR : μ2.2.2 = μ.2.2) {q : Tq} (hT : TapX μ2 q.1 q.2) : XS μ μ2 G (setTap G q) p pd c cd := by
  obtain ⟨hL, hPos, ⟨hP, hC, hw, h99⟩, hH, ⟨hi0, hi1⟩, -, hFk, hTm⟩ := id hX
  have hpc := hPos.pc
  exact ⟨⟨by rw [hR]; exact hL, by rw [hR]; exact hPos, ⟨hP.mono (hk.mono (fun q hq => by (try dsimp only at *); omega)), hC.mono (hk.mono (fun q hq => by (try dsimp only at *); omega)), hw, h99⟩, hH.mono (hk.mono (fun q hq => by (try dsimp only at *); omega)), ⟨hi0.mono (hk.mono (fun q hq => by (try dsimp only at *); omega)), hi1.mono (hk.mono (fun q hq => by (try dsimp only at *); omega))⟩, hT, by rw [(hk 0 (by (try dsimp only); omega)).1]; exact hFk, hTm.mono (congrFun (hk 182 (by (try dsimp only); omega)).1 1) (hk 183 (by (try dsimp only); omega)).1⟩, hk.mono (fun q hq => by (try dsimp only at *); omega), Or.inl ⟨hk.mono (fun q hq => by (try dsimp only at *); omega), fun _ _ _ _ => rfl⟩, hR⟩
theorem XS.tr {a b c0 : Mem} {G H K : Gh} {p pd c cd : Nat} (h1 : XS a b G H p pd c cd) (h2 : XS b c0 H K p pd c cd) : XS a c0 G K p pd c cd := by
  refine ⟨h2.1, h1.2.1.tr h2.2.1, ?_, h2.2.2.2.trans h1.2.2.2⟩
  rcases h2.2.2.1 with h | h
  · rcases h1.2.2.1 with h3 | h3
    · exact Or.inl ⟨h3.1.tr h.1, fun j j1 j2 j3 => (h.2 j j1 j2 j3).trans (h3.2 j j1 j2 j3)⟩
    · exact Or.inr ⟨(congrFun (h.1 172 (by (try dsimp only); omega)).1 0).trans h3.1, h3.2.tr (h.1.mono (fun q hq => by (try dsimp only at *); omega))⟩
  · exact Or.inr ⟨h.1, h1.2.2.1.kp.tr h.2⟩
theorem TapX.put {μ : Mem} {q : Tq} (h : TapX μ q.1 q.2) (hl : q.2 < 540) {y : Int} (hy : 0 ≤ y ∧ y ≤ 255) : TapX (setI (setI μ 3 q.2 y) 2 1 (q.2 + 1)) (put1 q y).1 (put1 q y).2 := by
  obtain ⟨t1, t2, t3⟩ := h
  refine ⟨sI_at, by rw [put1_l]; omega, fun i i0 i1 => ?_⟩
  rw [put1_l] at i1
  rw [sI_ne (by omega)]
  show _ = rset q.1 q.2 y i ∧ 0 ≤ rset q.1 q.2 y i ∧ rset q.1 q.2 y i ≤ 255
  by_cases e : i = q.2
  · subst e
    rw [sI_at, rset_eq]
    exact ⟨rfl, hy⟩
  · rw [sI_nj e, rset_ne e]
    exact t3 i i0 (by omega)
theorem x_addBytes {μ : Mem} {q : Tq} (hL : Lay μ.2.2) (hT : TapX μ q.1 q.2) (hl : q.2 + 4 ≤ 540) {v : Int} (hv : -2147483648 ≤ v ∧ v < 2147483648)  : VMet yX9_addBytes gX9_addBytes SH [vR 2, vI v] μ (fun μ2 => TapX μ2 (put4 q v).1 (put4 q v).2 ∧ Kp (fun q => q ≠ 2 ∧ q ≠ 3) μ μ2 ∧ μ2.2 = μ.2) := by
  have x2 : SH[2]? = some (8, 7) := rfl
  have x3 : SH[3]? = some (20, 540) := rfl
  have r20 := hL.r2_0
  have loop : ∀ (f n : Nat) (k : Int) (q0 : Tq) (m1 : Mem), n < f → 0 ≤ k → k + n = 4 → TapX m1 q0.1 q0.2 → q0.2 + n ≤ 540 → Kp (fun q => q ≠ 2 ∧ q ≠ 3) μ m1 → m1.2 = μ.2 → AW gX9_addBytes SH m1 0 0 3 [some (vR 2), some (vI v), some (vI (24 - 8 * k))] [] (fun r2 sh2 μ2 => r2 = none ∧ sh2 = SH ∧ TapX μ2 (fld (fun k q => put1 q (byt v (24 - 8 * k))) n k q0).1 (fld (fun k q => put1 q (byt v (24 - 8 * k))) n k q0).2 ∧ Kp (fun q => q ≠ 2 ∧ q ≠ 3) μ μ2 ∧ μ2.2 = μ.2) := by
    intro f
    induction f with
    | zero => intro n; intros; omega
    | succ f ih =>
      intro n k q0 m1 hf hk hn2 hT1 hl1 hkp hR
      have e7 : m1.1 2 1 = q0.2 := hT1.1
      have e8 := hT1.2.1
      have r20b : m1.2.2 2 0 = some 3 := by rw [hR]; exact r20
      refine r_iload_n dX9_addBytes_3 rfl ?_
      refine q_if_lt (tgt := 51) dX9_addBytes_4 rfl (by omega) (fun c4 => ?_) (fun c4 => ?_)
      · refine r_return dX9_addBytes_51 rfl rfl rfl ?_
        obtain rfl : n = 0 := by omega
        exact ⟨rfl, rfl, hT1, hkp, hR⟩
      · refine r_aload_n dX9_addBytes_7 rfl ?_
        refine r_getI dX9_addBytes_8 fl_X9_15 rfl (by assumption) ?_
        (try rw [e7])
        refine r_aload_n dX9_addBytes_11 rfl ?_
        refine r_getR dX9_addBytes_12 fl_X9_9 rfl (by assumption) (by assumption) ?_
        refine r_alen dX9_addBytes_15 (by assumption) (by decide) ?_
        refine q_icmp_ge (tgt := 45) dX9_addBytes_16 rfl (by omega) (by omega) (fun c16 => ?_) (fun c16 => ?_)
        · exact absurd c16 (by omega)
        · refine r_aload_n dX9_addBytes_19 rfl ?_
          refine r_getR dX9_addBytes_20 fl_X9_9 rfl (by assumption) (by assumption) ?_
          refine r_aload_n dX9_addBytes_23 rfl ?_
          refine r_getI dX9_addBytes_24 fl_X9_15 rfl (by assumption) ?_
          (try rw [e7])
          refine r_iload_n dX9_addBytes_27 rfl ?_
          refine r_iload_n dX9_addBytes_28 rfl ?_
          refine r_iushr dX9_addBytes_29 ?_
          refine r_sipush dX9_addBytes_30 (by decide) ?_
          refine r_iand dX9_addBytes_33 ?_
          refine r_iast dX9_addBytes_34 (by assumption) rfl (by omega) ?_
          have e9 : (setI m1 3 q0.2 (iand (iushr v (24 - 8 * k)) 255)).1 2 1 = q0.2 := by rw [sI_ne (by omega)]; exact e7
          refine r_aload_n dX9_addBytes_35 rfl ?_
          refine r_dup dX9_addBytes_36 rfl ?_
          refine r_getI dX9_addBytes_37 fl_X9_15 rfl (by assumption) ?_
          (try rw [e7])
          rw [e9]
          refine r_iconst dX9_addBytes_40 ?_
          refine r_iadd dX9_addBytes_41 ?_
          refine r_putI dX9_addBytes_42 fl_X9_15 (by assumption) ?_
          refine r_iinc dX9_addBytes_45 rfl rfl ?_
          refine r_goto (tgt := 3) dX9_addBytes_48 rfl ?_
          obtain ⟨q, rfl⟩ : ∃ q, n = q + 1 := ⟨n - 1, by omega⟩
          refine AW.mono (show AW gX9_addBytes SH _ 0 0 3 [some (vR 2), some (vI v), some (vI (24 - 8 * k + -8))] [] _ by
            rw [show (24 : Int) - 8 * k + -8 = 24 - 8 * (k + 1) by omega]
            exact ih q (k + 1) (put1 q0 (byt v (24 - 8 * k))) _ (by omega) (by omega) (by omega) (hT1.put (by omega) (byt_rng v _)) (by rw [put1_l]; omega) ((hkp.sI (by (try dsimp only); omega)).sI (by (try dsimp only); omega)) hR) ?_
          rintro r sh2 μ2 ⟨rfl, h3⟩
          exact ⟨rfl, h3⟩
  refine AMet.of (by decide) rfl (by decide) rfl ?_
  refine r_bipush dX9_addBytes_0 (by decide) ?_
  refine r_istore_n dX9_addBytes_2 rfl ?_
  exact loop 5 4 0 q μ (by omega) (by omega) (by omega) hT hl (Kp.rf _ _) rfl
theorem x_feed {μ : Mem} {G : Gh} {p pd c cd : Nat} (hX : InX μ G p pd c cd) {v1 v2 v3 v4 v5 : Int} (hv1 : -2147483648 ≤ v1 ∧ v1 < 2147483648) (hv2 : -2147483648 ≤ v2 ∧ v2 < 2147483648) (hv3 : -2147483648 ≤ v3 ∧ v3 < 2147483648) (hv4 : -2147483648 ≤ v4 ∧ v4 < 2147483648) (hv5 : -2147483648 ≤ v5 ∧ v5 < 2147483648)  : IMet yX11_feed gX11_feed SH [vR 0, vI v1, vI v2, vI v3, vI v4, vI v5] μ (fun x μ2 => x = (feedF G v1 v2 v3 v4 v5).1 ∧ XS μ μ2 G (feedF G v1 v2 v3 v4 v5).2 p pd c cd) := by
  obtain ⟨hL, hPos, ⟨hP, hC, hw, h99⟩, hH, ⟨hi0, hi1⟩, hT, hFk, hTm⟩ := id hX
  obtain ⟨hp0, hc0, r2, r3, r4, r5⟩ := id hPos
  have rr0 := hL.r0_0
  have rr6 := hL.r0_6
  have rr7 := hL.r0_7
  have rr8 := hL.r0_8
  have rr9 := hL.r0_9
  have rr10 := hL.r0_10
  have rt := hL.r1_0
  have x0 : SH[0]? = some (10, 11) := rfl
  have x1 : SH[1]? = some (6, 4) := rfl
  have x2 : SH[2]? = some (8, 7) := rfl
  have x62 : SH[62]? = some (2, 3) := rfl
  have x172 : SH[172]? = some (7, 15) := rfl
  obtain ⟨hIC, e0, e5, e51, e52, eC⟩ := id hC
  obtain ⟨h0, h1, h2, h3, h4, h6, s1, s2, s3, s4, s5⟩ := id hIC
  obtain ⟨hIP, p0, p1, p2, p3, p4, pb, hF, hV⟩ := id hP
  obtain ⟨i0, i5, i6, i7, i8, j1, j2, hIF0, hIV0⟩ := id hIP
  have hIF1 := hIF0.1
  have hIV1 := hIV0.1
  have hn := hw.1.1
  unfold WFn at hn
  have hwl := hw.wl
  have hc5 : c = 50 ∨ c = 56 := by omega
  have t1 := hT.1
  have t2 := hT.2.1
  refine AMet.of (by decide) rfl (by decide) rfl ?_
  refine r_aload_n dX11_feed_0 rfl ?_
  refine r_getR dX11_feed_1 fl_X11_10 rfl (by assumption) (by assumption) ?_
  refine r_getR dX11_feed_4 fl_X11_67 rfl (by assumption) (by assumption) ?_
  refine r_astore dX11_feed_7 rfl ?_
  refine r_aload dX11_feed_9 rfl ?_
  refine r_getI dX11_feed_11 fl_X11_71 rfl (by assumption) ?_
  rw [t1]
  refine r_bipush dX11_feed_14 (by decide) ?_
  refine r_iadd dX11_feed_16 ?_
  refine r_sipush dX11_feed_17 (by decide) ?_
  refine q_icmp_le (tgt := 25) dX11_feed_20 rfl (by omega) (by omega) (fun c20 => ?_) (fun c20 => ?_)
  · refine r_aload dX11_feed_25 rfl ?_
    refine r_iload_n dX11_feed_27 rfl ?_
    refine r_cV1N dX11_feed_28 ml_X11_77 yl_X9_addBytes ⟨rfl, rfl⟩ (by assumption) ⟨_, rfl⟩ rfl rfl rfl rfl (x_addBytes (μ := μ) (q := (gTp G, gTl G)) hL hT (by (try simp only [put4_l]); omega) hv1) ?_
    rintro μ0 ⟨hT0, hk0, hR0⟩
    have hL0 : Lay μ0.2.2 := by rw [hR0]; exact hL
    refine r_aload dX11_feed_31 rfl ?_
    refine r_iload_n dX11_feed_33 rfl ?_
    refine r_cV1N dX11_feed_34 ml_X11_77 yl_X9_addBytes ⟨rfl, rfl⟩ (by assumption) ⟨_, rfl⟩ rfl rfl rfl rfl (x_addBytes (μ := μ0) (q := (put4 (gTp G, gTl G) v1)) hL0 hT0 (by (try simp only [put4_l]); omega) hv2) ?_
    rintro μ1 ⟨hT1, hk1, hR1⟩
    have hL1 : Lay μ1.2.2 := by rw [hR1]; exact hL0
    refine r_aload dX11_feed_37 rfl ?_
    refine r_iload_n dX11_feed_39 rfl ?_
    refine r_cV1N dX11_feed_40 ml_X11_77 yl_X9_addBytes ⟨rfl, rfl⟩ (by assumption) ⟨_, rfl⟩ rfl rfl rfl rfl (x_addBytes (μ := μ1) (q := (put4 (put4 (gTp G, gTl G) v1) v2)) hL1 hT1 (by (try simp only [put4_l]); omega) hv3) ?_
    rintro μ2 ⟨hT2, hk2, hR2⟩
    have hL2 : Lay μ2.2.2 := by rw [hR2]; exact hL1
    refine r_aload dX11_feed_43 rfl ?_
    refine r_iload dX11_feed_45 rfl ?_
    refine r_cV1N dX11_feed_47 ml_X11_77 yl_X9_addBytes ⟨rfl, rfl⟩ (by assumption) ⟨_, rfl⟩ rfl rfl rfl rfl (x_addBytes (μ := μ2) (q := (put4 (put4 (put4 (gTp G, gTl G) v1) v2) v3)) hL2 hT2 (by (try simp only [put4_l]); omega) hv4) ?_
    rintro μ3 ⟨hT3, hk3, hR3⟩
    have hL3 : Lay μ3.2.2 := by rw [hR3]; exact hL2
    refine r_aload dX11_feed_50 rfl ?_
    refine r_iload dX11_feed_52 rfl ?_
    refine r_cV1N dX11_feed_54 ml_X11_77 yl_X9_addBytes ⟨rfl, rfl⟩ (by assumption) ⟨_, rfl⟩ rfl rfl rfl rfl (x_addBytes (μ := μ3) (q := (put4 (put4 (put4 (put4 (gTp G, gTl G) v1) v2) v3) v4)) hL3 hT3 (by (try simp only [put4_l]); omega) hv5) ?_
    rintro μ4 ⟨hT4, hk4, hR4⟩
    have hL4 : Lay μ4.2.2 := by rw [hR4]; exact hL3
    refine r_aload dX11_feed_57 rfl ?_
    refine r_getI dX11_feed_59 fl_X11_71 rfl (by assumption) ?_
    rw [show μ4.1 2 1 = gTl G + 20 by rw [hT4.1]; simp only [put4_l]; omega]
    refine r_ireturn dX11_feed_62 rfl rfl rfl ?_
    refine ⟨rfl, _, rfl, ?_⟩
    unfold feedF
    rw [if_neg (by omega)]
    exact ⟨rfl, hX.tap ((((hk0.tr hk1).tr hk2).tr hk3).tr hk4) (congrArg Prod.snd (hR4.trans (hR3.trans (hR2.trans (hR1.trans hR0))))) hT4⟩
  · refine r_iconst dX11_feed_23 ?_
    refine r_ireturn dX11_feed_24 rfl rfl rfl ?_
    refine ⟨rfl, _, rfl, ?_⟩
    unfold feedF
    rw [if_pos (by omega)]
    exact ⟨rfl, XS.rf hX⟩
theorem x_end {μ : Mem} {G : Gh} {p pd c cd : Nat} (hX : InX μ G p pd c cd) {n : Int} (hn0 : -2147483648 ≤ n ∧ n < 2147483648)  : IMet yX11_end gX11_end SH [vR 0, vI n] μ (fun x μ2 => x = (endF G n).1 ∧ XS μ μ2 G (endF G n).2 p pd c cd) := by
  obtain ⟨hL, hPos, ⟨hP, hC, hw, h99⟩, hH, ⟨hi0, hi1⟩, hT, hFk, hTm⟩ := id hX
  obtain ⟨hp0, hc0, r2, r3, r4, r5⟩ := id hPos
  have rr0 := hL.r0_0
  have rr6 := hL.r0_6
  have rr7 := hL.r0_7
  have rr8 := hL.r0_8
  have rr9 := hL.r0_9
  have rr10 := hL.r0_10
  have rt := hL.r1_0
  have x0 : SH[0]? = some (10, 11) := rfl
  have x1 : SH[1]? = some (6, 4) := rfl
  have x2 : SH[2]? = some (8, 7) := rfl
  have x62 : SH[62]? = some (2, 3) := rfl
  have x172 : SH[172]? = some (7, 15) := rfl
  obtain ⟨hIC, e0, e5, e51, e52, eC⟩ := id hC
  obtain ⟨h0, h1, h2, h3, h4, h6, s1, s2, s3, s4, s5⟩ := id hIC
  obtain ⟨hIP, p0, p1, p2, p3, p4, pb, hF, hV⟩ := id hP
  obtain ⟨i0, i5, i6, i7, i8, j1, j2, hIF0, hIV0⟩ := id hIP
  have hIF1 := hIF0.1
  have hIV1 := hIV0.1
  have hn := hw.1.1
  unfold WFn at hn
  have hwl := hw.wl
  have hc5 : c = 50 ∨ c = 56 := by omega
  have t1 := hT.1
  have t2 := hT.2.1
  refine AMet.of (by decide) rfl (by decide) rfl ?_
  refine r_iload_n dX11_end_0 rfl ?_
  refine q_if_lt (tgt := 18) dX11_end_1 rfl (by omega) (fun c1 => ?_) (fun c1 => ?_)
  · refine r_iconst dX11_end_18 ?_
    refine r_zreturn dX11_end_19 (by first | exact Or.inl rfl | exact Or.inr rfl | exact b2i_01 _ | omega) rfl rfl rfl ?_
    refine ⟨rfl, _, rfl, ?_⟩
    unfold endF
    rw [if_neg (by omega)]
    exact ⟨rfl, XS.rf hX⟩
  · refine r_iload_n dX11_end_4 rfl ?_
    refine r_aload_n dX11_end_5 rfl ?_
    refine r_getR dX11_end_6 fl_X11_10 rfl (by assumption) (by assumption) ?_
    refine r_getR dX11_end_9 fl_X11_67 rfl (by assumption) (by assumption) ?_
    refine r_getI dX11_end_12 fl_X11_71 rfl (by assumption) ?_
    rw [t1]
    refine q_icmp_le (tgt := 20) dX11_end_15 rfl (by omega) (by omega) (fun c15 => ?_) (fun c15 => ?_)
    · refine r_aload_n dX11_end_20 rfl ?_
      refine r_getR dX11_end_21 fl_X11_10 rfl (by assumption) (by assumption) ?_
      refine r_getR dX11_end_24 fl_X11_67 rfl (by assumption) (by assumption) ?_
      refine r_iload_n dX11_end_27 rfl ?_
      refine r_putI dX11_end_28 fl_X11_71 (by assumption) ?_
      refine r_iconst dX11_end_31 ?_
      refine r_zreturn dX11_end_32 (by first | exact Or.inl rfl | exact Or.inr rfl | exact b2i_01 _ | omega) rfl rfl rfl ?_
      refine ⟨rfl, _, rfl, ?_⟩
      unfold endF
      rw [if_pos (by omega)]
      exact ⟨rfl, hX.tap (q := (gTp G, n)) ((Kp.rf _ μ).sI (by (try dsimp only); omega)) rfl ⟨sI_at, by (try dsimp only); omega, fun i i0 i1 => by rw [sI_ne (by omega)]; exact hT.2.2 i i0 (Int.lt_of_lt_of_le (show i < n from i1) (by omega))⟩⟩
    · refine r_iconst dX11_end_18 ?_
      refine r_zreturn dX11_end_19 (by first | exact Or.inl rfl | exact Or.inr rfl | exact b2i_01 _ | omega) rfl rfl rfl ?_
      refine ⟨rfl, _, rfl, ?_⟩
      unfold endF
      rw [if_neg (by omega)]
      exact ⟨rfl, XS.rf hX⟩
theorem x_fault {μ : Mem} {G : Gh} {p pd c cd : Nat} (hX : InX μ G p pd c cd)  : FMet yX11_fault gX11_fault SH [vR 0] μ (some (vI (gFk G))) μ := by
  obtain ⟨hL, hPos, ⟨hP, hC, hw, h99⟩, hH, ⟨hi0, hi1⟩, hT, hFk, hTm⟩ := id hX
  obtain ⟨hp0, hc0, r2, r3, r4, r5⟩ := id hPos
  have rr0 := hL.r0_0
  have rr6 := hL.r0_6
  have rr7 := hL.r0_7
  have rr8 := hL.r0_8
  have rr9 := hL.r0_9
  have rr10 := hL.r0_10
  have rt := hL.r1_0
  have x0 : SH[0]? = some (10, 11) := rfl
  have x1 : SH[1]? = some (6, 4) := rfl
  have x2 : SH[2]? = some (8, 7) := rfl
  have x62 : SH[62]? = some (2, 3) := rfl
  have x172 : SH[172]? = some (7, 15) := rfl
  obtain ⟨hIC, e0, e5, e51, e52, eC⟩ := id hC
  obtain ⟨h0, h1, h2, h3, h4, h6, s1, s2, s3, s4, s5⟩ := id hIC
  obtain ⟨hIP, p0, p1, p2, p3, p4, pb, hF, hV⟩ := id hP
  obtain ⟨i0, i5, i6, i7, i8, j1, j2, hIF0, hIV0⟩ := id hIP
  have hIF1 := hIF0.1
  have hIV1 := hIV0.1
  have hn := hw.1.1
  unfold WFn at hn
  have hwl := hw.wl
  have hc5 : c = 50 ∨ c = 56 := by omega
  refine AMet.of (by decide) rfl (by decide) rfl ?_
  refine r_aload_n dX11_fault_0 rfl ?_
  refine r_getI dX11_fault_1 fl_X11_88 rfl (by assumption) ?_
  refine r_ireturn dX11_fault_4 rfl rfl rfl ?_
  exact ⟨rI hFk.1, rfl, rfl⟩
theorem x_count {μ : Mem} {G : Gh} {p pd c cd : Nat} (hX : InX μ G p pd c cd) {w : Int} (hw0 : -2147483648 ≤ w ∧ w < 2147483648)  : FMet yX11_count gX11_count SH [vR 0, vI w] μ (some (vI (countF (gRow G) (gTl G) w))) μ := by
  obtain ⟨hL, hPos, ⟨hP, hC, hw, h99⟩, hH, ⟨hi0, hi1⟩, hT, hFk, hTm⟩ := id hX
  obtain ⟨hp0, hc0, r2, r3, r4, r5⟩ := id hPos
  have rr0 := hL.r0_0
  have rr6 := hL.r0_6
  have rr7 := hL.r0_7
  have rr8 := hL.r0_8
  have rr9 := hL.r0_9
  have rr10 := hL.r0_10
  have rt := hL.r1_0
  have x0 : SH[0]? = some (10, 11) := rfl
  have x1 : SH[1]? = some (6, 4) := rfl
  have x2 : SH[2]? = some (8, 7) := rfl
  have x62 : SH[62]? = some (2, 3) := rfl
  have x172 : SH[172]? = some (7, 15) := rfl
  obtain ⟨hIC, e0, e5, e51, e52, eC⟩ := id hC
  obtain ⟨h0, h1, h2, h3, h4, h6, s1, s2, s3, s4, s5⟩ := id hIC
  obtain ⟨hIP, p0, p1, p2, p3, p4, pb, hF, hV⟩ := id hP
  obtain ⟨i0, i5, i6, i7, i8, j1, j2, hIF0, hIV0⟩ := id hIP
  have hIF1 := hIF0.1
  have hIV1 := hIV0.1
  have hn := hw.1.1
  unfold WFn at hn
  have hwl := hw.wl
  have hc5 : c = 50 ∨ c = 56 := by omega
  obtain ⟨hIV, v0, vt, v5, v8, vi⟩ := id hV
  obtain ⟨hIF, kf0, kh, kf4, ks, kf9, kj⟩ := id hF
  have hlr : ∀ k, 0 ≤ k → k < μ.1 c 0 → -1 ≤ μ.1 (c + 4) k ∧ μ.1 (c + 4) k < 100 := by
    intro k k0 k1
    rw [e0] at k1
    have := (hw.2.2.1 k k0 k1).2.2.1
    rw [(eC k k0 k1).2.2.1]
    omega
  refine AMet.of (by decide) rfl (by decide) rfl ?_
  refine r_iload_n dX11_count_0 rfl ?_
  rcases (show (w < 0 ∨ 10 < w) ∨ w = 0 ∨ w = 1 ∨ w = 2 ∨ w = 3 ∨ w = 4 ∨ w = 5 ∨ w = 6 ∨ w = 7 ∨ w = 8 ∨ w = 9 ∨ w = 10 by omega) with s1 | s1 | s1 | s1 | s1 | s1 | s1 | s1 | s1 | s1 | s1 | s1
  · refine r_tableOut (tgt := 169) dX11_count_1 (by omega) s1 rfl ?_
    refine r_iconst dX11_count_169 ?_
    refine r_ireturn dX11_count_170 rfl rfl rfl ?_
    refine ⟨rI ?_, rfl, rfl⟩
    unfold countF
    first
      | (rw [if_neg (by omega), if_neg (by omega), if_neg (by omega)]; done)
      | (rw [if_neg (by omega), if_pos (by omega)]; exact hT.1)
      | (rw [if_pos (by omega)]; assumption)
  · subst s1
    refine r_tableIn (tgt := 60) dX11_count_1 (by decide) (by decide) (by decide) rfl rfl ?_
    refine r_aload_n dX11_count_60 rfl ?_
    refine r_getR dX11_count_61 fl_X11_19 rfl (by assumption) (by assumption) ?_
    refine r_getR dX11_count_64 fl_X11_97 rfl (by assumption) (by assumption) ?_
    refine r_getI dX11_count_67 fl_X11_113 rfl (by assumption) ?_
    refine r_ireturn dX11_count_70 rfl rfl rfl ?_
    refine ⟨rI ?_, rfl, rfl⟩
    unfold countF
    first
      | (rw [if_neg (by omega), if_neg (by omega), if_neg (by omega)]; done)
      | (rw [if_neg (by omega), if_pos (by omega)]; exact hT.1)
      | (rw [if_pos (by omega)]; assumption)
  · subst s1
    refine r_tableIn (tgt := 71) dX11_count_1 (by decide) (by decide) (by decide) rfl rfl ?_
    refine r_aload_n dX11_count_71 rfl ?_
    refine r_getR dX11_count_72 fl_X11_19 rfl (by assumption) (by assumption) ?_
    refine r_getR dX11_count_75 fl_X11_97 rfl (by assumption) (by assumption) ?_
    refine r_getI dX11_count_78 fl_X11_101 rfl (by assumption) ?_
    refine r_ireturn dX11_count_81 rfl rfl rfl ?_
    refine ⟨rI ?_, rfl, rfl⟩
    unfold countF
    first
      | (rw [if_neg (by omega), if_neg (by omega), if_neg (by omega)]; done)
      | (rw [if_neg (by omega), if_pos (by omega)]; exact hT.1)
      | (rw [if_pos (by omega)]; assumption)
  · subst s1
    refine r_tableIn (tgt := 82) dX11_count_1 (by decide) (by decide) (by decide) rfl rfl ?_
    refine r_aload_n dX11_count_82 rfl ?_
    refine r_getR dX11_count_83 fl_X11_19 rfl (by assumption) (by assumption) ?_
    refine r_getR dX11_count_86 fl_X11_97 rfl (by assumption) (by assumption) ?_
    refine r_getI dX11_count_89 fl_X11_116 rfl (by assumption) ?_
    refine r_ireturn dX11_count_92 rfl rfl rfl ?_
    refine ⟨rI ?_, rfl, rfl⟩
    unfold countF
    first
      | (rw [if_neg (by omega), if_neg (by omega), if_neg (by omega)]; done)
      | (rw [if_neg (by omega), if_pos (by omega)]; exact hT.1)
      | (rw [if_pos (by omega)]; assumption)
  · subst s1
    refine r_tableIn (tgt := 93) dX11_count_1 (by decide) (by decide) (by decide) rfl rfl ?_
    refine r_aload_n dX11_count_93 rfl ?_
    refine r_getR dX11_count_94 fl_X11_19 rfl (by assumption) (by assumption) ?_
    refine r_getI dX11_count_97 fl_X11_119 rfl (by assumption) ?_
    refine r_ireturn dX11_count_100 rfl rfl rfl ?_
    refine ⟨rI ?_, rfl, rfl⟩
    unfold countF
    first
      | (rw [if_neg (by omega), if_neg (by omega), if_neg (by omega)]; done)
      | (rw [if_neg (by omega), if_pos (by omega)]; exact hT.1)
      | (rw [if_pos (by omega)]; assumption)
  · subst s1
    refine r_tableIn (tgt := 101) dX11_count_1 (by decide) (by decide) (by decide) rfl rfl ?_
    refine r_aload_n dX11_count_101 rfl ?_
    refine r_getR dX11_count_102 fl_X11_19 rfl (by assumption) (by assumption) ?_
    refine r_getR dX11_count_105 fl_X11_122 rfl (by assumption) (by assumption) ?_
    refine r_getI dX11_count_108 fl_X11_126 rfl (by assumption) ?_
    refine r_ireturn dX11_count_111 rfl rfl rfl ?_
    refine ⟨rI ?_, rfl, rfl⟩
    unfold countF
    first
      | (rw [if_neg (by omega), if_neg (by omega), if_neg (by omega)]; done)
      | (rw [if_neg (by omega), if_pos (by omega)]; exact hT.1)
      | (rw [if_pos (by omega)]; assumption)
  · subst s1
    refine r_tableIn (tgt := 112) dX11_count_1 (by decide) (by decide) (by decide) rfl rfl ?_
    refine r_aload_n dX11_count_112 rfl ?_
    refine r_getR dX11_count_113 fl_X11_19 rfl (by assumption) (by assumption) ?_
    refine r_getR dX11_count_116 fl_X11_122 rfl (by assumption) (by assumption) ?_
    refine r_getI dX11_count_119 fl_X11_131 rfl (by assumption) ?_
    refine r_ireturn dX11_count_122 rfl rfl rfl ?_
    refine ⟨rI ?_, rfl, rfl⟩
    unfold countF
    first
      | (rw [if_neg (by omega), if_neg (by omega), if_neg (by omega)]; done)
      | (rw [if_neg (by omega), if_pos (by omega)]; exact hT.1)
      | (rw [if_pos (by omega)]; assumption)
  · subst s1
    refine r_tableIn (tgt := 123) dX11_count_1 (by decide) (by decide) (by decide) rfl rfl ?_
    refine r_aload_n dX11_count_123 rfl ?_
    refine r_getR dX11_count_124 fl_X11_19 rfl (by assumption) (by assumption) ?_
    refine r_getR dX11_count_127 fl_X11_122 rfl (by assumption) (by assumption) ?_
    refine r_getI dX11_count_130 fl_X11_134 rfl (by assumption) ?_
    refine r_ireturn dX11_count_133 rfl rfl rfl ?_
    refine ⟨rI ?_, rfl, rfl⟩
    unfold countF
    first
      | (rw [if_neg (by omega), if_neg (by omega), if_neg (by omega)]; done)
      | (rw [if_neg (by omega), if_pos (by omega)]; exact hT.1)
      | (rw [if_pos (by omega)]; assumption)
  · subst s1
    refine r_tableIn (tgt := 134) dX11_count_1 (by decide) (by decide) (by decide) rfl rfl ?_
    refine r_aload_n dX11_count_134 rfl ?_
    refine r_getR dX11_count_135 fl_X11_29 rfl (by assumption) (by assumption) ?_
    refine r_getI dX11_count_138 fl_X11_110 rfl (by assumption) ?_
    refine r_ireturn dX11_count_141 rfl rfl rfl ?_
    refine ⟨rI ?_, rfl, rfl⟩
    unfold countF
    first
      | (rw [if_neg (by omega), if_neg (by omega), if_neg (by omega)]; done)
      | (rw [if_neg (by omega), if_pos (by omega)]; exact hT.1)
      | (rw [if_pos (by omega)]; assumption)
  · subst s1
    refine r_tableIn (tgt := 142) dX11_count_1 (by decide) (by decide) (by decide) rfl rfl ?_
    refine r_aload_n dX11_count_142 rfl ?_
    refine r_getR dX11_count_143 fl_X11_29 rfl (by assumption) (by assumption) ?_
    refine r_getI dX11_count_146 fl_X11_137 rfl (by assumption) ?_
    refine r_ireturn dX11_count_149 rfl rfl rfl ?_
    refine ⟨rI ?_, rfl, rfl⟩
    unfold countF
    first
      | (rw [if_neg (by omega), if_neg (by omega), if_neg (by omega)]; done)
      | (rw [if_neg (by omega), if_pos (by omega)]; exact hT.1)
      | (rw [if_pos (by omega)]; assumption)
  · subst s1
    refine r_tableIn (tgt := 150) dX11_count_1 (by decide) (by decide) (by decide) rfl rfl ?_
    refine r_aload_n dX11_count_150 rfl ?_
    refine r_getR dX11_count_151 fl_X11_29 rfl (by assumption) (by assumption) ?_
    refine r_cV0F1 dX11_count_154 ml_X11_140 yl_X0_outCount ⟨rfl, rfl⟩ (by assumption) ⟨_, rfl⟩ rfl rfl rfl rfl (c_outCount hIC (by omega) hlr) ?_
    rw [e0]
    refine r_ireturn dX11_count_157 rfl rfl rfl ?_
    refine ⟨rI ?_, rfl, rfl⟩
    unfold countF outF
    rw [if_neg (by decide), if_neg (by decide), if_pos rfl, fld_sum, Int.zero_add]
    refine sumF_congr _ _ (fun j j0 j1 => ?_)
    try dsimp only
    have q1 := (hw.2.2.1 j (by omega) (by omega)).2.2.1
    rw [(eC j (by omega) (by omega)).2.2.1]
    by_cases e : gRow G (93 + j) = -1
    · rw [if_pos e, if_pos (by omega)]
    · rw [if_neg e, if_neg (by omega)]
  · subst s1
    refine r_tableIn (tgt := 158) dX11_count_1 (by decide) (by decide) (by decide) rfl rfl ?_
    refine r_aload_n dX11_count_158 rfl ?_
    refine r_getR dX11_count_159 fl_X11_10 rfl (by assumption) (by assumption) ?_
    refine r_getR dX11_count_162 fl_X11_67 rfl (by assumption) (by assumption) ?_
    refine r_getI dX11_count_165 fl_X11_71 rfl (by assumption) ?_
    refine r_ireturn dX11_count_168 rfl rfl rfl ?_
    refine ⟨rI ?_, rfl, rfl⟩
    unfold countF
    first
      | (rw [if_neg (by omega), if_neg (by omega), if_neg (by omega)]; done)
      | (rw [if_neg (by omega), if_pos (by omega)]; exact hT.1)
      | (rw [if_pos (by omega)]; assumption)
