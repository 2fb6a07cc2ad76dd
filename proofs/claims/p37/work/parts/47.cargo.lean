/-! 47.cargo: taken from whole (wip/p37/port.py) -/
variable {n_ : Sh}
/-! 47.cargo: a cargo is read, in the class (wip/whole/src/47_cargo.py) -/
def RCD (n_ : Sh) (μ : Mem) (cd : Nat) (C : CD) : Prop := RelC (SH n_) μ cd C.1 ∧ μ.1 1 3 = C.2
def RCS (n_ : Sh) (μ : Mem) (cd : Nat) (r : Sg × CD) (μ2 : Mem) : Prop := ∃ μ', μ2 = wTok μ' r.1 ∧ RCD n_ μ' cd r.2 ∧ Kp (fun a => a ≠ 1 ∧ ¬ (cd ≤ a ∧ a < cd + 6)) μ μ' ∧ μ'.2.2 = μ.2.2
theorem RCS.no {μ : Mem} {cd : Nat} {σ : Sg} {C : CD} (h : RCD n_ μ cd C) : RCS n_ μ cd (σ, C) (wTok μ σ) := ⟨μ, rfl, h, Kp.rf _ _, rfl⟩
def adC (μ : Mem) (c : Nat) (nm w s : Int) : Mem := setI (wrC μ c (μ.1 c 0) nm w s (-1)) c 0 (μ.1 c 0 + 1)
theorem d_addC {sh : Sh} {μ : Mem} {c : Nat} {nm w s : Int} (hC : IsCargo sh μ.2.2 c) (hz : 0 ≤ μ.1 c 0 ∧ μ.1 c 0 < 5) : FMet yX0_add gX0_add sh [vR c, vL nm, vI w, vI s] μ none (adC μ c nm w s) := by
  have h := c_add (nm := nm) (w := w) (st := s) hC (by omega)
  rw [if_pos hz.2] at h
  have e : (wrC μ c (μ.1 c 0) nm w s (-1)).1 c 0 = μ.1 c 0 := by
    unfold wrC
    simp (disch := omega) only [sI_at, sI_ne, sI_nj, sI_L, sL_at, sL_ne, sL_nj, sL_I]
  rw [e] at h
  exact h
theorem adC_wt {μ : Mem} {σ : Sg} {c : Nat} {nm w s : Int} (h : 3 ≤ c) : adC (wTok μ σ) c nm w s = wTok (adC μ c nm w s) σ := by
  unfold adC wrC
  rw [setL_wt, wt_ne (by omega)]
  simp (disch := omega) only [setI_wt]
theorem kp_adC {S : Nat → Prop} {μ : Mem} {c : Nat} {nm w s : Int} (h : ∀ q, c ≤ q → q < c + 6 → ¬ S q) : Kp S μ (adC μ c nm w s) := (((((Kp.rf S μ).sL (h _ (by omega) (by omega))).sI (h _ (by omega) (by omega))).sI (h _ (by omega) (by omega))).sI (h _ (by omega) (by omega))).sI (h _ (by omega) (by omega))
theorem pkF_old {ρ : Row} {T : Tq} {τ : Sg} {w s k : Int} (h5 : 0 ≤ ρ 11 ∧ ρ 11 < 5) (hk : 0 ≤ k ∧ k < ρ 11) (h8 : ρ (98 + k) ≤ 8) : pkF (addPal ρ T τ w s) k = pkF ρ k := by
  obtain ⟨q1, q2, q3, q4⟩ := addPal_old (ρ := ρ) (T := T) (τ := τ) (w := w) (s := s) h5 hk
  unfold pkF pkN
  rw [q3]
  exact fld_congr _ _ _ fun j a j0 j1 => by dsimp only; rw [q4 j j0 (by omega)]
theorem pkF_new {ρ : Row} {T : Tq} {τ : Sg} {w s : Int} (h5 : 0 ≤ ρ 11 ∧ ρ 11 < 5) (hn : sT τ - sF τ ≤ 8) : pkF (addPal ρ T τ w s) (ρ 11) = pkN (fun i => T.1 (sF τ + i)) (sT τ - sF τ).toNat := by
  obtain ⟨q1, q2, q3, q4⟩ := addPal_new (ρ := ρ) (T := T) (τ := τ) (w := w) (s := s) h5
  unfold pkF
  rw [q3]
  refine pkN_congr fun i i0 i1 => ?_
  rw [q4 i i0 (by omega), if_pos (by omega)]
theorem rd_adC {μ : Mem} {cd : Nat} {C : CD} {T : Tq} {τ : Sg} {nm w s : Int} (h : RCD n_ μ cd C) (hC : COK C) (h5 : C.1 11 < 5) (hn : sT τ - sF τ ≤ 8) (hnm : nm = pkN (fun i => T.1 (sF τ + i)) (sT τ - sF τ).toNat) (hc : 2 ≤ cd) : RCD n_ (adC μ cd nm w s) cd (addPal C.1 T τ w s, C.2) := by
  obtain ⟨⟨h1, h2, h3, h4, h6, h7⟩, h8⟩ := h
  have a1 := hC.1
  have lo := fun j (h : j ≠ 11 ∧ j < 83 ∨ 93 ≤ j ∧ j < 98 ∨ 143 ≤ j) => addPal_lo (ρ := C.1) (T := T) (τ := τ) (w := w) (s := s) h ⟨a1.1, h5⟩
  have e11 : addPal C.1 T τ w s 11 = C.1 11 + 1 := addPal_11
  unfold adC wrC
  rw [h2]
  refine ⟨⟨h1, ?_, ?_, ?_, ?_, fun k k0 k1 => ?_⟩, ?_⟩ <;> dsimp only at *
  · rw [sI_at, e11]
  · rw [lo 12 (by omega)]; simp (disch := omega) only [sI_at, sI_ne, sI_nj, sI_L, sL_at, sL_ne, sL_nj, sL_I]; exact h3
  · rw [lo 51 (by omega)]; simp (disch := omega) only [sI_at, sI_ne, sI_nj, sI_L, sL_at, sL_ne, sL_nj, sL_I]; exact h4
  · rw [lo 52 (by omega)]; simp (disch := omega) only [sI_at, sI_ne, sI_nj, sI_L, sL_at, sL_ne, sL_nj, sL_I]; exact h6
  · rw [e11] at k1
    by_cases e : k = C.1 11
    · subst e
      obtain ⟨q1, q2, q3, q4⟩ := addPal_new (ρ := C.1) (T := T) (τ := τ) (w := w) (s := s) ⟨a1.1, h5⟩
      rw [q1, q2, lo _ (by omega), hC.2.2.2.1 _ k0 (by omega), pkF_new ⟨a1.1, h5⟩ hn]
      simp (disch := omega) only [sI_at, sI_ne, sI_nj, sI_L, sL_at, sL_ne, sL_nj, sL_I]
      exact ⟨trivial, trivial, trivial, hnm⟩
    · obtain ⟨q1, q2, q3, q4⟩ := addPal_old (ρ := C.1) (T := T) (τ := τ) (w := w) (s := s) ⟨a1.1, h5⟩ (k := k) ⟨k0, by omega⟩
      rw [q1, q2, lo _ (by omega), pkF_old ⟨a1.1, h5⟩ ⟨k0, by omega⟩ (hC.2.2.2.2.1 k k0 (by omega)).2.2.2.1.2]
      simp (disch := omega) only [sI_at, sI_ne, sI_nj, sI_L, sL_at, sL_ne, sL_nj, sL_I]
      exact h7 k k0 (by omega)
  · simp (disch := omega) only [sI_at, sI_ne, sI_nj, sI_L, sL_at, sL_ne, sL_nj, sL_I]; exact h8
theorem q_called {μ : Mem} {σ : Sg} {C : CD} {cd : Nat} (hcd : cd = 50 ∨ cd = 56) (hR : RCD n_ μ cd C) (hC : COK C) {v : Int} (hv : 0 ≤ v ∧ v < 9223372036854775808) : FMet yX0_called gX0_called (SH n_) [vR cd, vL v] (wTok μ σ) (some (vI (callF C.1 v))) (wTok μ σ) := by
  obtain ⟨a1, a2, a3, a4, a5, a6, a7, a8⟩ := id hC
  obtain ⟨⟨hIC, e0, e5, e51, e52, eC⟩, e3⟩ := id hR
  obtain ⟨h0, h1, h2, h3, h4, h6, s1, s2, s3, s4, s5⟩ := id hIC
  have h := c_called (sh := (SH n_)) (μ := wTok μ σ) (c := cd) (s := v) hIC hv (by rw [wt_ne (by omega), e0]; omega) (fun k k0 k1 => by
    rw [wt_ne (by omega), e0] at k1
    have q := pkF_rng a5 ⟨k0, k1⟩
    rw [wt_L, (eC k k0 k1).2.2.2]
    omega)
  rw [wt_ne (by omega), e0] at h
  rw [show callF C.1 v = fnd (fun k => decide (v ≠ 0 ∧ (wTok μ σ).2.1 (cd + 1) k = v)) (C.1 11).toNat 0 from fnd_congr _ _ fun j j0 j1 => by rw [wt_L, (eC j j0 (by omega)).2.2.2]]
  exact h
theorem callF_rng {ρ : Row} (v : Int) (h : 0 ≤ ρ 11) : callF ρ v = -1 ∨ 0 ≤ callF ρ v ∧ callF ρ v < ρ 11 := by
  unfold callF
  rcases fnd_spec (p := fun k => decide (v ≠ 0 ∧ pkF ρ k = v)) (ρ 11).toNat 0 with ⟨h1, -⟩ | ⟨h1, h2, -⟩
  · exact Or.inl h1
  · omega
theorem x_readPallet {μ : Mem} {T : Tq} {σ : Sg} {C : CD} {cd : Nat} (hL : Lay μ.2.2) (hT : TapX μ T.1 T.2) (hs : SgOK T σ) (hcd : cd = 50 ∨ cd = 56) (hR : RCD n_ μ cd C) (hC : COK C)  : VMet yX6_readPallet gX6_readPallet (SH n_) [vR 1, vR cd] (wTok μ σ) (fun μ2 => RCS n_ μ cd (palL T σ C) μ2) := by
  have x1 : (SH n_)[1]? = some (6, 4) := rfl
  have x2 : (SH n_)[2]? = some (8, 7) := rfl
  have x3 : (SH n_)[3]? = some (20, 540) := rfl
  have r20 := hL.r2_0
  have rt := hL.r1_0
  obtain ⟨t1, t2, t3⟩ := id hT
  have hs0 := hs
  unfold SgOK at hs0
  obtain ⟨a1, a2, a3, a4, a5, a6, a7, a8⟩ := id hC
  obtain ⟨⟨hIC, e0, e5, e51, e52, eC⟩, e3⟩ := id hR
  obtain ⟨h0, h1, h2, h3, h4, h6, s1, s2, s3, s4, s5⟩ := id hIC
  have hS0 : palS0 σ C = iff' (5 ≤ C.1 11) σ 4 := rfl
  have z0 : SgOK T (palS0 σ C) := iff_ok hs (by decide)
  have hx1 := x_newWord (n_ := n_) hL hT z0
  have ok1 := word_ok t2.2 z0
  have hcr := callF_rng (ρ := C.1) (palS1 T σ C).1 a1.1
  have z2 : SgOK T (iff' (callF C.1 (palS1 T σ C).1 ≠ -1) (palS1 T σ C).2 3) := iff_ok ok1.1 (by decide)
  have hx2 := x_number (n_ := n_) hL hT z2 (lo := 1) (hi := 99) (by omega) (by omega)
  have ok2 := num_ok t2.2 z2 1 99
  have hx3 := x_number (n_ := n_) hL hT ok2.1 (lo := 1) (hi := 9) (by omega) (by omega)
  have ok3 := num_ok t2.2 ok2.1 1 9
  have hlt : sE (palS3 T σ C).2 = 0 → C.1 11 < 5 ∧ (sT (nxt T (palS0 σ C)) - sF (nxt T (palS0 σ C)) ≤ 8) ∧ (palS1 T σ C).1 = pkN (fun i => T.1 (sF (nxt T (palS0 σ C)) + i)) (sT (nxt T (palS0 σ C)) - sF (nxt T (palS0 σ C))).toNat := fun e => by
    obtain ⟨q1, q2, q3, q4, q5, q6, q7⟩ := pal_0 e
    have w := word_0 q5
    obtain ⟨l1, l2⟩ := nxt_word t2.2 z0 q6 w.2.2.1
    refine ⟨q3, l1.2.2.1, ?_⟩
    show (wordC T (palS0 σ C)).1 = _
    rw [w.2.2.2.2]
    rcases pkC_eq (T := T) (a := sF (nxt T (palS0 σ C))) (e := sT (nxt T (palS0 σ C))) (by omega) with ⟨h1, h2⟩ | ⟨h1, h2⟩
    · exact h2
    · exact absurd l2 h1
  have hN : palL T σ C = ((palS3 T σ C).2, if sE (palS3 T σ C).2 = 0 then (addPal C.1 T (nxt T (palS0 σ C)) (palS2 T σ C).1 (palS3 T σ C).1, C.2) else C) := rfl
  rw [← show palS1 T σ C = wordC T (palS0 σ C) from rfl] at hx1 ok1
  rw [← show palS2 T σ C = numC T (iff' (callF C.1 (palS1 T σ C).1 ≠ -1) (palS1 T σ C).2 3) 1 99 from rfl] at hx2 hx3 ok2 ok3
  rw [← show palS3 T σ C = numC T (palS2 T σ C).2 1 9 from rfl] at hx3 ok3
  generalize palS1 T σ C = n1 at *
  generalize palS2 T σ C = n2 at *
  generalize palS3 T σ C = n3 at *
  have ok3e := ok3.1
  unfold SgOK at ok3e
  rw [hN]
  rw [hS0] at hx1
  refine AMet.of (by decide) rfl (by decide) rfl ?_
  refine r_aload_n dX6_readPallet_0 rfl ?_
  refine r_getI dX6_readPallet_1 fl_X6_229 rfl (by assumption) ?_
  (try simp (disch := omega) only [wt2, wt4, wt_ne, mkT, mkF, mkK, mkE, mkP]); (try rw [e0]); (try rw [e3])
  refine r_iconst dX6_readPallet_4 ?_
  refine q_icmp_lt (tgt := 16) dX6_readPallet_5 rfl (by omega) (by omega) (fun c5 => ?_) (fun c5 => ?_)
  · rw [show wTok μ σ = wTok μ (iff' (5 ≤ C.1 11) σ 4) from congrArg (wTok μ) (iff_neg (by omega)).symm]
    refine r_aload_n dX6_readPallet_16 rfl ?_
    refine r_getR dX6_readPallet_17 fl_X6_12 rfl (by assumption) (by assumption) ?_
    refine r_cV0F1 dX6_readPallet_20 ml_X6_204 yl_X9_newWord ⟨rfl, rfl⟩ (by assumption) ⟨_, rfl⟩ rfl rfl rfl rfl (hx1) ?_
    refine r_lstore_n dX6_readPallet_23 rfl ?_
    refine r_aload_n dX6_readPallet_24 rfl ?_
    refine r_lload_n dX6_readPallet_25 rfl ?_
    refine r_cV1F1 dX6_readPallet_26 ml_X6_232 yl_X0_called ⟨rfl, rfl⟩ (by assumption) ⟨_, rfl⟩ rfl rfl rfl rfl (q_called hcd hR hC (by omega)) ?_
    refine r_iconst dX6_readPallet_29 ?_
    refine q_icmp_eq (tgt := 41) dX6_readPallet_30 rfl (by omega) (by omega) (fun c30 => ?_) (fun c30 => ?_)
    · rw [show wTok μ n1.2 = wTok μ (iff' (callF C.1 n1.1 ≠ -1) n1.2 3) from congrArg (wTok μ) (iff_neg (by omega)).symm]
      refine r_aload_n dX6_readPallet_41 rfl ?_
      refine r_getR dX6_readPallet_42 fl_X6_12 rfl (by assumption) (by assumption) ?_
      refine r_iconst dX6_readPallet_45 ?_
      refine r_bipush dX6_readPallet_46 (by decide) ?_
      refine r_cV2F1 dX6_readPallet_48 ml_X6_146 yl_X9_number ⟨rfl, rfl⟩ (by assumption) ⟨_, rfl⟩ rfl rfl rfl rfl (hx2) ?_
      refine r_istore dX6_readPallet_51 rfl ?_
      refine r_aload_n dX6_readPallet_53 rfl ?_
      refine r_getR dX6_readPallet_54 fl_X6_12 rfl (by assumption) (by assumption) ?_
      refine r_iconst dX6_readPallet_57 ?_
      refine r_bipush dX6_readPallet_58 (by decide) ?_
      refine r_cV2F1 dX6_readPallet_60 ml_X6_146 yl_X9_number ⟨rfl, rfl⟩ (by assumption) ⟨_, rfl⟩ rfl rfl rfl rfl (hx3) ?_
      refine r_istore dX6_readPallet_63 rfl ?_
      refine r_aload_n dX6_readPallet_65 rfl ?_
      refine r_getR dX6_readPallet_66 fl_X6_12 rfl (by assumption) (by assumption) ?_
      refine r_getI dX6_readPallet_69 fl_X6_140 rfl (by assumption) ?_
      (try simp (disch := omega) only [wt2, wt4, wt_ne, mkT, mkF, mkK, mkE, mkP]); (try rw [e0]); (try rw [e3])
      refine q_if_ne (tgt := 84) dX6_readPallet_72 rfl (by omega) (fun c72 => ?_) (fun c72 => ?_)
      · refine r_return dX6_readPallet_84 rfl rfl rfl ?_
        refine ⟨rfl, rfl, ?_⟩
        first
        | (rw [if_neg (show ¬ sE n3.2 = 0 by omega)]; exact RCS.no hR)
        | (rw [if_pos (show sE n3.2 = 0 by omega)]; obtain ⟨g1, g2, g3⟩ := hlt (by omega); exact ⟨_, rfl, rd_adC hR hC g1 g2 g3 (by omega), kp_adC (fun q q0 q1 => by (try dsimp only); omega), rfl⟩)
      · refine r_aload_n dX6_readPallet_75 rfl ?_
        refine r_lload_n dX6_readPallet_76 rfl ?_
        refine r_iload dX6_readPallet_77 rfl ?_
        refine r_iload dX6_readPallet_79 rfl ?_
        refine r_cV3F0 dX6_readPallet_81 ml_X6_235 yl_X0_add ⟨rfl, rfl⟩ (by assumption) ⟨_, rfl⟩ rfl rfl rfl rfl (d_addC (μ := wTok μ n3.2) hIC (by rw [wt_ne (by omega), e0]; have := (hlt (by omega)).1; omega)) ?_
        rw [adC_wt (by omega)]
        refine r_return dX6_readPallet_84 rfl rfl rfl ?_
        refine ⟨rfl, rfl, ?_⟩
        first
        | (rw [if_neg (show ¬ sE n3.2 = 0 by omega)]; exact RCS.no hR)
        | (rw [if_pos (show sE n3.2 = 0 by omega)]; obtain ⟨g1, g2, g3⟩ := hlt (by omega); exact ⟨_, rfl, rd_adC hR hC g1 g2 g3 (by omega), kp_adC (fun q q0 q1 => by (try dsimp only); omega), rfl⟩)
    · refine r_aload_n dX6_readPallet_33 rfl ?_
      refine r_getR dX6_readPallet_34 fl_X6_12 rfl (by assumption) (by assumption) ?_
      refine r_iconst dX6_readPallet_37 ?_
      refine r_cV1F0 dX6_readPallet_38 ml_X6_98 yl_X9_fail ⟨rfl, rfl⟩ (by assumption) ⟨_, rfl⟩ rfl rfl rfl rfl (x_fail hL hT ok1.1) ?_
      rw [← iff_pos (c := callF C.1 n1.1 ≠ -1) (σ := n1.2) (k := 3) (by omega)]
      refine r_aload_n dX6_readPallet_41 rfl ?_
      refine r_getR dX6_readPallet_42 fl_X6_12 rfl (by assumption) (by assumption) ?_
      refine r_iconst dX6_readPallet_45 ?_
      refine r_bipush dX6_readPallet_46 (by decide) ?_
      refine r_cV2F1 dX6_readPallet_48 ml_X6_146 yl_X9_number ⟨rfl, rfl⟩ (by assumption) ⟨_, rfl⟩ rfl rfl rfl rfl (hx2) ?_
      refine r_istore dX6_readPallet_51 rfl ?_
      refine r_aload_n dX6_readPallet_53 rfl ?_
      refine r_getR dX6_readPallet_54 fl_X6_12 rfl (by assumption) (by assumption) ?_
      refine r_iconst dX6_readPallet_57 ?_
      refine r_bipush dX6_readPallet_58 (by decide) ?_
      refine r_cV2F1 dX6_readPallet_60 ml_X6_146 yl_X9_number ⟨rfl, rfl⟩ (by assumption) ⟨_, rfl⟩ rfl rfl rfl rfl (hx3) ?_
      refine r_istore dX6_readPallet_63 rfl ?_
      refine r_aload_n dX6_readPallet_65 rfl ?_
      refine r_getR dX6_readPallet_66 fl_X6_12 rfl (by assumption) (by assumption) ?_
      refine r_getI dX6_readPallet_69 fl_X6_140 rfl (by assumption) ?_
      (try simp (disch := omega) only [wt2, wt4, wt_ne, mkT, mkF, mkK, mkE, mkP]); (try rw [e0]); (try rw [e3])
      refine q_if_ne (tgt := 84) dX6_readPallet_72 rfl (by omega) (fun c72 => ?_) (fun c72 => ?_)
      · refine r_return dX6_readPallet_84 rfl rfl rfl ?_
        refine ⟨rfl, rfl, ?_⟩
        first
        | (rw [if_neg (show ¬ sE n3.2 = 0 by omega)]; exact RCS.no hR)
        | (rw [if_pos (show sE n3.2 = 0 by omega)]; obtain ⟨g1, g2, g3⟩ := hlt (by omega); exact ⟨_, rfl, rd_adC hR hC g1 g2 g3 (by omega), kp_adC (fun q q0 q1 => by (try dsimp only); omega), rfl⟩)
      · refine r_aload_n dX6_readPallet_75 rfl ?_
        refine r_lload_n dX6_readPallet_76 rfl ?_
        refine r_iload dX6_readPallet_77 rfl ?_
        refine r_iload dX6_readPallet_79 rfl ?_
        refine r_cV3F0 dX6_readPallet_81 ml_X6_235 yl_X0_add ⟨rfl, rfl⟩ (by assumption) ⟨_, rfl⟩ rfl rfl rfl rfl (d_addC (μ := wTok μ n3.2) hIC (by rw [wt_ne (by omega), e0]; have := (hlt (by omega)).1; omega)) ?_
        rw [adC_wt (by omega)]
        refine r_return dX6_readPallet_84 rfl rfl rfl ?_
        refine ⟨rfl, rfl, ?_⟩
        first
        | (rw [if_neg (show ¬ sE n3.2 = 0 by omega)]; exact RCS.no hR)
        | (rw [if_pos (show sE n3.2 = 0 by omega)]; obtain ⟨g1, g2, g3⟩ := hlt (by omega); exact ⟨_, rfl, rd_adC hR hC g1 g2 g3 (by omega), kp_adC (fun q q0 q1 => by (try dsimp only); omega), rfl⟩)
  · refine r_aload_n dX6_readPallet_8 rfl ?_
    refine r_getR dX6_readPallet_9 fl_X6_12 rfl (by assumption) (by assumption) ?_
    refine r_iconst dX6_readPallet_12 ?_
    refine r_cV1F0 dX6_readPallet_13 ml_X6_98 yl_X9_fail ⟨rfl, rfl⟩ (by assumption) ⟨_, rfl⟩ rfl rfl rfl rfl (x_fail hL hT hs) ?_
    rw [← iff_pos (c := 5 ≤ C.1 11) (σ := σ) (k := 4) (by omega)]
    refine r_aload_n dX6_readPallet_16 rfl ?_
    refine r_getR dX6_readPallet_17 fl_X6_12 rfl (by assumption) (by assumption) ?_
    refine r_cV0F1 dX6_readPallet_20 ml_X6_204 yl_X9_newWord ⟨rfl, rfl⟩ (by assumption) ⟨_, rfl⟩ rfl rfl rfl rfl (hx1) ?_
    refine r_lstore_n dX6_readPallet_23 rfl ?_
    refine r_aload_n dX6_readPallet_24 rfl ?_
    refine r_lload_n dX6_readPallet_25 rfl ?_
    refine r_cV1F1 dX6_readPallet_26 ml_X6_232 yl_X0_called ⟨rfl, rfl⟩ (by assumption) ⟨_, rfl⟩ rfl rfl rfl rfl (q_called hcd hR hC (by omega)) ?_
    refine r_iconst dX6_readPallet_29 ?_
    refine q_icmp_eq (tgt := 41) dX6_readPallet_30 rfl (by omega) (by omega) (fun c30 => ?_) (fun c30 => ?_)
    · rw [show wTok μ n1.2 = wTok μ (iff' (callF C.1 n1.1 ≠ -1) n1.2 3) from congrArg (wTok μ) (iff_neg (by omega)).symm]
      refine r_aload_n dX6_readPallet_41 rfl ?_
      refine r_getR dX6_readPallet_42 fl_X6_12 rfl (by assumption) (by assumption) ?_
      refine r_iconst dX6_readPallet_45 ?_
      refine r_bipush dX6_readPallet_46 (by decide) ?_
      refine r_cV2F1 dX6_readPallet_48 ml_X6_146 yl_X9_number ⟨rfl, rfl⟩ (by assumption) ⟨_, rfl⟩ rfl rfl rfl rfl (hx2) ?_
      refine r_istore dX6_readPallet_51 rfl ?_
      refine r_aload_n dX6_readPallet_53 rfl ?_
      refine r_getR dX6_readPallet_54 fl_X6_12 rfl (by assumption) (by assumption) ?_
      refine r_iconst dX6_readPallet_57 ?_
      refine r_bipush dX6_readPallet_58 (by decide) ?_
      refine r_cV2F1 dX6_readPallet_60 ml_X6_146 yl_X9_number ⟨rfl, rfl⟩ (by assumption) ⟨_, rfl⟩ rfl rfl rfl rfl (hx3) ?_
      refine r_istore dX6_readPallet_63 rfl ?_
      refine r_aload_n dX6_readPallet_65 rfl ?_
      refine r_getR dX6_readPallet_66 fl_X6_12 rfl (by assumption) (by assumption) ?_
      refine r_getI dX6_readPallet_69 fl_X6_140 rfl (by assumption) ?_
      (try simp (disch := omega) only [wt2, wt4, wt_ne, mkT, mkF, mkK, mkE, mkP]); (try rw [e0]); (try rw [e3])
      refine q_if_ne (tgt := 84) dX6_readPallet_72 rfl (by omega) (fun c72 => ?_) (fun c72 => ?_)
      · refine r_return dX6_readPallet_84 rfl rfl rfl ?_
        refine ⟨rfl, rfl, ?_⟩
        first
        | (rw [if_neg (show ¬ sE n3.2 = 0 by omega)]; exact RCS.no hR)
        | (rw [if_pos (show sE n3.2 = 0 by omega)]; obtain ⟨g1, g2, g3⟩ := hlt (by omega); exact ⟨_, rfl, rd_adC hR hC g1 g2 g3 (by omega), kp_adC (fun q q0 q1 => by (try dsimp only); omega), rfl⟩)
      · refine r_aload_n dX6_readPallet_75 rfl ?_
        refine r_lload_n dX6_readPallet_76 rfl ?_
        refine r_iload dX6_readPallet_77 rfl ?_
        refine r_iload dX6_readPallet_79 rfl ?_
        refine r_cV3F0 dX6_readPallet_81 ml_X6_235 yl_X0_add ⟨rfl, rfl⟩ (by assumption) ⟨_, rfl⟩ rfl rfl rfl rfl (d_addC (μ := wTok μ n3.2) hIC (by rw [wt_ne (by omega), e0]; have := (hlt (by omega)).1; omega)) ?_
        rw [adC_wt (by omega)]
        refine r_return dX6_readPallet_84 rfl rfl rfl ?_
        refine ⟨rfl, rfl, ?_⟩
        first
        | (rw [if_neg (show ¬ sE n3.2 = 0 by omega)]; exact RCS.no hR)
        | (rw [if_pos (show sE n3.2 = 0 by omega)]; obtain ⟨g1, g2, g3⟩ := hlt (by omega); exact ⟨_, rfl, rd_adC hR hC g1 g2 g3 (by omega), kp_adC (fun q q0 q1 => by (try dsimp only); omega), rfl⟩)
    · refine r_aload_n dX6_readPallet_33 rfl ?_
      refine r_getR dX6_readPallet_34 fl_X6_12 rfl (by assumption) (by assumption) ?_
      refine r_iconst dX6_readPallet_37 ?_
      refine r_cV1F0 dX6_readPallet_38 ml_X6_98 yl_X9_fail ⟨rfl, rfl⟩ (by assumption) ⟨_, rfl⟩ rfl rfl rfl rfl (x_fail hL hT ok1.1) ?_
      rw [← iff_pos (c := callF C.1 n1.1 ≠ -1) (σ := n1.2) (k := 3) (by omega)]
      refine r_aload_n dX6_readPallet_41 rfl ?_
      refine r_getR dX6_readPallet_42 fl_X6_12 rfl (by assumption) (by assumption) ?_
      refine r_iconst dX6_readPallet_45 ?_
      refine r_bipush dX6_readPallet_46 (by decide) ?_
      refine r_cV2F1 dX6_readPallet_48 ml_X6_146 yl_X9_number ⟨rfl, rfl⟩ (by assumption) ⟨_, rfl⟩ rfl rfl rfl rfl (hx2) ?_
      refine r_istore dX6_readPallet_51 rfl ?_
      refine r_aload_n dX6_readPallet_53 rfl ?_
      refine r_getR dX6_readPallet_54 fl_X6_12 rfl (by assumption) (by assumption) ?_
      refine r_iconst dX6_readPallet_57 ?_
      refine r_bipush dX6_readPallet_58 (by decide) ?_
      refine r_cV2F1 dX6_readPallet_60 ml_X6_146 yl_X9_number ⟨rfl, rfl⟩ (by assumption) ⟨_, rfl⟩ rfl rfl rfl rfl (hx3) ?_
      refine r_istore dX6_readPallet_63 rfl ?_
      refine r_aload_n dX6_readPallet_65 rfl ?_
      refine r_getR dX6_readPallet_66 fl_X6_12 rfl (by assumption) (by assumption) ?_
      refine r_getI dX6_readPallet_69 fl_X6_140 rfl (by assumption) ?_
      (try simp (disch := omega) only [wt2, wt4, wt_ne, mkT, mkF, mkK, mkE, mkP]); (try rw [e0]); (try rw [e3])
      refine q_if_ne (tgt := 84) dX6_readPallet_72 rfl (by omega) (fun c72 => ?_) (fun c72 => ?_)
      · refine r_return dX6_readPallet_84 rfl rfl rfl ?_
        refine ⟨rfl, rfl, ?_⟩
        first
        | (rw [if_neg (show ¬ sE n3.2 = 0 by omega)]; exact RCS.no hR)
        | (rw [if_pos (show sE n3.2 = 0 by omega)]; obtain ⟨g1, g2, g3⟩ := hlt (by omega); exact ⟨_, rfl, rd_adC hR hC g1 g2 g3 (by omega), kp_adC (fun q q0 q1 => by (try dsimp only); omega), rfl⟩)
      · refine r_aload_n dX6_readPallet_75 rfl ?_
        refine r_lload_n dX6_readPallet_76 rfl ?_
        refine r_iload dX6_readPallet_77 rfl ?_
        refine r_iload dX6_readPallet_79 rfl ?_
        refine r_cV3F0 dX6_readPallet_81 ml_X6_235 yl_X0_add ⟨rfl, rfl⟩ (by assumption) ⟨_, rfl⟩ rfl rfl rfl rfl (d_addC (μ := wTok μ n3.2) hIC (by rw [wt_ne (by omega), e0]; have := (hlt (by omega)).1; omega)) ?_
        rw [adC_wt (by omega)]
        refine r_return dX6_readPallet_84 rfl rfl rfl ?_
        refine ⟨rfl, rfl, ?_⟩
        first
        | (rw [if_neg (show ¬ sE n3.2 = 0 by omega)]; exact RCS.no hR)
        | (rw [if_pos (show sE n3.2 = 0 by omega)]; obtain ⟨g1, g2, g3⟩ := hlt (by omega); exact ⟨_, rfl, rd_adC hR hC g1 g2 g3 (by omega), kp_adC (fun q q0 q1 => by (try dsimp only); omega), rfl⟩)
theorem x_readBulk {μ : Mem} {T : Tq} {σ : Sg} {C : CD} {cd : Nat} (hL : Lay μ.2.2) (hT : TapX μ T.1 T.2) (hs : SgOK T σ) (hcd : cd = 50 ∨ cd = 56) (hR : RCD n_ μ cd C) (hC : COK C)  : VMet yX6_readBulk gX6_readBulk (SH n_) [vR 1, vR cd] (wTok μ σ) (fun μ2 => RCS n_ μ cd (bulkL T σ C) μ2) := by
  have x1 : (SH n_)[1]? = some (6, 4) := rfl
  have x2 : (SH n_)[2]? = some (8, 7) := rfl
  have x3 : (SH n_)[3]? = some (20, 540) := rfl
  have r20 := hL.r2_0
  have rt := hL.r1_0
  obtain ⟨t1, t2, t3⟩ := id hT
  have hs0 := hs
  unfold SgOK at hs0
  obtain ⟨a1, a2, a3, a4, a5, a6, a7, a8⟩ := id hC
  obtain ⟨⟨hIC, e0, e5, e51, e52, eC⟩, e3⟩ := id hR
  obtain ⟨h0, h1, h2, h3, h4, h6, s1, s2, s3, s4, s5⟩ := id hIC
  have z1 : SgOK T (iff' (C.2 = 1) σ 3) := iff_ok hs (by decide)
  have hT1 : TapX (setI μ 1 3 1) T.1 T.2 := hT.kp ((Kp.rf (fun q => q = 2 ∨ q = 3) μ).sI (by omega)) ⟨Or.inl rfl, Or.inr rfl⟩
  have hx1 := x_number (n_ := n_) (μ := setI μ 1 3 1) hL hT1 z1 (lo := 0) (hi := 198) (by omega) (by omega)
  have hN : bulkL T σ C = ((bulkS1 T σ C).2, rset C.1 12 (bulkS1 T σ C).1, 1) := rfl
  rw [← show bulkS1 T σ C = numC T (iff' (C.2 = 1) σ 3) 0 198 from rfl] at hx1
  generalize bulkS1 T σ C = n1 at *
  rw [hN]
  refine AMet.of (by decide) rfl (by decide) rfl ?_
  refine r_aload_n dX6_readBulk_0 rfl ?_
  refine r_getI dX6_readBulk_1 fl_X6_120 rfl (by assumption) ?_
  (try simp (disch := omega) only [wt2, wt4, wt_ne, mkT, mkF, mkK, mkE, mkP]); (try rw [e0]); (try rw [e3]); (try simp (disch := omega) only [sI_at, sI_ne, sI_nj, sI_L, sL_at, sL_ne, sL_nj, sL_I])
  refine q_if_eq (tgt := 15) dX6_readBulk_4 rfl (by omega) (fun c4 => ?_) (fun c4 => ?_)
  · rw [show wTok μ σ = wTok μ (iff' (C.2 = 1) σ 3) from congrArg (wTok μ) (iff_neg (by omega)).symm]
    refine r_aload_n dX6_readBulk_15 rfl ?_
    refine r_iconst dX6_readBulk_16 ?_
    refine r_putZ dX6_readBulk_17 fl_X6_120 (by assumption) (by first | exact Or.inl rfl | exact Or.inr rfl | exact b2i_01 _ | omega) ?_
    rw [setI_wt (by omega)]
    refine r_aload_n dX6_readBulk_20 rfl ?_
    refine r_aload_n dX6_readBulk_21 rfl ?_
    refine r_getR dX6_readBulk_22 fl_X6_12 rfl (by assumption) (by assumption) ?_
    refine r_iconst dX6_readBulk_25 ?_
    refine r_sipush dX6_readBulk_26 (by decide) ?_
    refine r_cV2F1 dX6_readBulk_29 ml_X6_146 yl_X9_number ⟨rfl, rfl⟩ (by assumption) ⟨_, rfl⟩ rfl rfl rfl rfl (hx1) ?_
    refine r_putI dX6_readBulk_32 fl_X6_238 (by assumption) ?_
    rw [setI_wt (by omega)]
    refine r_return dX6_readBulk_35 rfl rfl rfl ?_
    refine ⟨rfl, rfl, _, rfl, ⟨⟨hIC, ?_, ?_, ?_, ?_, fun k k0 k1 => ?_⟩, ?_⟩, ?_, rfl⟩ <;> (try dsimp only at *)
    · rw [rset_ne (by omega)]; simp (disch := omega) only [sI_at, sI_ne, sI_nj, sI_L, sL_at, sL_ne, sL_nj, sL_I]; exact e0
    · rw [rset_eq]; simp (disch := omega) only [sI_at, sI_ne, sI_nj, sI_L, sL_at, sL_ne, sL_nj, sL_I]
    · rw [rset_ne (by omega)]; simp (disch := omega) only [sI_at, sI_ne, sI_nj, sI_L, sL_at, sL_ne, sL_nj, sL_I]; exact e51
    · rw [rset_ne (by omega)]; simp (disch := omega) only [sI_at, sI_ne, sI_nj, sI_L, sL_at, sL_ne, sL_nj, sL_I]; exact e52
    · rw [rset_ne (by omega)] at k1
      have q := a5 k k0 k1
      rw [rset_ne (by omega), rset_ne (by omega), rset_ne (by omega), pkF_set (by omega) k0]
      simp (disch := omega) only [sI_at, sI_ne, sI_nj, sI_L, sL_at, sL_ne, sL_nj, sL_I]
      exact eC k k0 k1
    · simp (disch := omega) only [sI_at, sI_ne, sI_nj, sI_L, sL_at, sL_ne, sL_nj, sL_I]
    · exact ((Kp.rf _ μ).sI (by omega)).sI (by (try dsimp only); omega)
  · refine r_aload_n dX6_readBulk_7 rfl ?_
    refine r_getR dX6_readBulk_8 fl_X6_12 rfl (by assumption) (by assumption) ?_
    refine r_iconst dX6_readBulk_11 ?_
    refine r_cV1F0 dX6_readBulk_12 ml_X6_98 yl_X9_fail ⟨rfl, rfl⟩ (by assumption) ⟨_, rfl⟩ rfl rfl rfl rfl (x_fail hL hT hs) ?_
    rw [← iff_pos (c := C.2 = 1) (σ := σ) (k := 3) (by omega)]
    refine r_aload_n dX6_readBulk_15 rfl ?_
    refine r_iconst dX6_readBulk_16 ?_
    refine r_putZ dX6_readBulk_17 fl_X6_120 (by assumption) (by first | exact Or.inl rfl | exact Or.inr rfl | exact b2i_01 _ | omega) ?_
    rw [setI_wt (by omega)]
    refine r_aload_n dX6_readBulk_20 rfl ?_
    refine r_aload_n dX6_readBulk_21 rfl ?_
    refine r_getR dX6_readBulk_22 fl_X6_12 rfl (by assumption) (by assumption) ?_
    refine r_iconst dX6_readBulk_25 ?_
    refine r_sipush dX6_readBulk_26 (by decide) ?_
    refine r_cV2F1 dX6_readBulk_29 ml_X6_146 yl_X9_number ⟨rfl, rfl⟩ (by assumption) ⟨_, rfl⟩ rfl rfl rfl rfl (hx1) ?_
    refine r_putI dX6_readBulk_32 fl_X6_238 (by assumption) ?_
    rw [setI_wt (by omega)]
    refine r_return dX6_readBulk_35 rfl rfl rfl ?_
    refine ⟨rfl, rfl, _, rfl, ⟨⟨hIC, ?_, ?_, ?_, ?_, fun k k0 k1 => ?_⟩, ?_⟩, ?_, rfl⟩ <;> (try dsimp only at *)
    · rw [rset_ne (by omega)]; simp (disch := omega) only [sI_at, sI_ne, sI_nj, sI_L, sL_at, sL_ne, sL_nj, sL_I]; exact e0
    · rw [rset_eq]; simp (disch := omega) only [sI_at, sI_ne, sI_nj, sI_L, sL_at, sL_ne, sL_nj, sL_I]
    · rw [rset_ne (by omega)]; simp (disch := omega) only [sI_at, sI_ne, sI_nj, sI_L, sL_at, sL_ne, sL_nj, sL_I]; exact e51
    · rw [rset_ne (by omega)]; simp (disch := omega) only [sI_at, sI_ne, sI_nj, sI_L, sL_at, sL_ne, sL_nj, sL_I]; exact e52
    · rw [rset_ne (by omega)] at k1
      have q := a5 k k0 k1
      rw [rset_ne (by omega), rset_ne (by omega), rset_ne (by omega), pkF_set (by omega) k0]
      simp (disch := omega) only [sI_at, sI_ne, sI_nj, sI_L, sL_at, sL_ne, sL_nj, sL_I]
      exact eC k k0 k1
    · simp (disch := omega) only [sI_at, sI_ne, sI_nj, sI_L, sL_at, sL_ne, sL_nj, sL_I]
    · exact ((Kp.rf _ μ).sI (by omega)).sI (by (try dsimp only); omega)
theorem RCD.start {μ : Mem} {cd : Nat} (hC : IsCargo (SH n_) μ.2.2 cd) (hc : 2 ≤ cd) : RCD n_ (clrC (setI μ 1 3 0) cd) cd C0 := by
  have e : ∀ j, ¬ (93 ≤ j ∧ j < 98) → C0.1 j = 0 := fun j hj => if_neg hj
  unfold clrC clrPl fillI
  refine ⟨⟨hC, ?_, ?_, ?_, ?_, fun k k0 k1 => ?_⟩, ?_⟩
  · rw [e 11 (by omega)]; dsimp only; rw [if_neg (by omega), if_neg (by omega)]; simp (disch := omega) only [sI_at, sI_ne, sI_nj, sI_L, sL_at, sL_ne, sL_nj, sL_I]
  · rw [e 12 (by omega)]; dsimp only; rw [if_neg (by omega), if_neg (by omega)]; simp (disch := omega) only [sI_at, sI_ne, sI_nj, sI_L, sL_at, sL_ne, sL_nj, sL_I]
  · rw [e 51 (by omega)]; dsimp only; rw [if_pos (by omega)]
  · rw [e 52 (by omega)]; dsimp only; rw [if_pos (by omega)]
  · rw [e 11 (by omega)] at k1; omega
  · dsimp only; rw [if_neg (by omega), if_neg (by omega)]; simp (disch := omega) only [sI_at, sI_ne, sI_nj, sI_L, sL_at, sL_ne, sL_nj, sL_I]; rfl
theorem Kp.clrC {S : Nat → Prop} {μ : Mem} {c : Nat} (h : ∀ q, c ≤ q → q < c + 6 → ¬ S q) : Kp S μ (clrC μ c) := ((((Kp.rf S μ).sI (h _ (by omega) (by omega))).sI (h _ (by omega) (by omega))).sF (h _ (by omega) (by omega))).sF (h _ (by omega) (by omega))
def CRes (n_ : Sh) (μ : Mem) (cd : Nat) (r : Sg × CD) (μ2 : Mem) : Prop := ∃ μ3, μ2 = setI (wTok μ3 r.1) 2 1 0 ∧ RCD n_ μ3 cd r.2 ∧ Kp (fun a => a ≠ 1 ∧ ¬ (cd ≤ a ∧ a < cd + 6)) μ μ3 ∧ μ3.2.2 = μ.2.2
theorem x_readCargo {μ : Mem} {T : Tq} {cd : Nat} (hL : Lay μ.2.2) (hT : TapX μ T.1 T.2) (hcd : cd = 50 ∨ cd = 56) (hIC : IsCargo (SH n_) μ.2.2 cd)  : VMet yX6_readCargo gX6_readCargo (SH n_) [vR 1, vR cd] μ (fun μ2 => CRes n_ μ cd (cargoR T) μ2) := by
  have x1 : (SH n_)[1]? = some (6, 4) := rfl
  have x2 : (SH n_)[2]? = some (8, 7) := rfl
  have r20 := hL.r2_0
  have rt := hL.r1_0
  obtain ⟨t1, t2, t3⟩ := id hT
  obtain ⟨h0, -⟩ := id hIC
  have lB : ∀ (f n : Nat) (k : Int) (μ' : Mem) (σ : Sg) (C : CD), n < f → 0 ≤ k → k + n = 300 → μ'.2.2 = μ.2.2 → Kp (fun a => a ≠ 1 ∧ ¬ (cd ≤ a ∧ a < cd + 6)) μ μ' → SgOK T σ → RCD n_ μ' cd C → COK C → AW gX6_readCargo (SH n_) (wTok μ' σ) 0 0 21 [some (vR 1), some (vR cd), some (vI k)] [] (fun r2 sh2 μ2 => r2 = none ∧ sh2 = (SH n_) ∧ CRes n_ μ cd (loopC T n σ C) μ2) := by
    intro f
    induction f with
    | zero => intro n; intros; omega
    | succ f ih =>
      intro n k μ' σ C hf hk0 hn2 hRR hkp hs hR1 hC1
      have hL1 : Lay μ'.2.2 := by rw [hRR]; exact hL
      have hT1 : TapX μ' T.1 T.2 := hT.kp hkp ⟨by (try dsimp only); omega, by (try dsimp only); omega⟩
      have hs1 := (nxt_ok t2.2 hs).1
      have r20 := hL1.r2_0
      have rt := hL1.r1_0
      obtain ⟨h0, -⟩ := id hR1.1.1
      refine r_iload_n dX6_readCargo_21 rfl ?_
      refine r_sipush dX6_readCargo_22 (by decide) ?_
      refine q_icmp_ge (tgt := 96) dX6_readCargo_25 rfl (by omega) (by omega) (fun c25 => ?_) (fun c25 => ?_)
      · refine r_aload_n dX6_readCargo_96 rfl ?_
        refine r_getR dX6_readCargo_97 fl_X6_12 rfl (by assumption) (by assumption) ?_
        refine r_iconst dX6_readCargo_100 ?_
        refine r_putI dX6_readCargo_101 fl_X6_117 (by assumption) ?_
        refine r_return dX6_readCargo_104 rfl rfl rfl ?_
        refine ⟨rfl, rfl, ?_⟩
        rw [show loopC T n σ C = (σ, C) by obtain rfl : n = 0 := (by omega); rfl]
        exact ⟨_, rfl, hR1, hkp, hRR⟩
      · obtain ⟨q, rfl⟩ : ∃ q, n = q + 1 := ⟨n - 1, by omega⟩
        refine r_aload_n dX6_readCargo_28 rfl ?_
        refine r_cV0F1 dX6_readCargo_29 ml_X6_34 yl_X6_atLine ⟨rfl, rfl⟩ (by assumption) ⟨_, rfl⟩ rfl rfl rfl rfl (x_atLine hL1 hT1 hs) ?_
        refine r_if_eqB (tgt := 96) dX6_readCargo_32 rfl (fun c32 => ?_) (fun c32 => ?_)
        · have c32 := of_decide_eq_false c32
          refine r_aload_n dX6_readCargo_96 rfl ?_
          refine r_getR dX6_readCargo_97 fl_X6_12 rfl (by assumption) (by assumption) ?_
          refine r_iconst dX6_readCargo_100 ?_
          refine r_putI dX6_readCargo_101 fl_X6_117 (by assumption) ?_
          refine r_return dX6_readCargo_104 rfl rfl rfl ?_
          refine ⟨rfl, rfl, ?_⟩
          rw [show loopC T (q + 1) σ C = (nxt T σ, C) by rw [loopC, if_neg c32]]
          exact ⟨_, rfl, hR1, hkp, hRR⟩
        · have c32 := of_decide_eq_true c32
          refine r_aload_n dX6_readCargo_35 rfl ?_
          refine r_getR dX6_readCargo_36 fl_X6_12 rfl (by assumption) (by assumption) ?_
          refine r_ldcX 9 dX6_readCargo_39 (by decide) rfl rfl ?_
          refine r_cV1F1 dX6_readCargo_41 ml_X6_40 yl_X9_tells ⟨rfl, rfl⟩ (by assumption) ⟨_, rfl⟩ rfl rfl rfl rfl (x_tells hL1 hT1 hs1 (i := 9) (by decide)) ?_
          refine r_if_eqB (tgt := 55) dX6_readCargo_44 rfl (fun c44 => ?_) (fun c44 => ?_)
          · refine r_aload_n dX6_readCargo_55 rfl ?_
            refine r_getR dX6_readCargo_56 fl_X6_12 rfl (by assumption) (by assumption) ?_
            refine r_ldcX 10 dX6_readCargo_59 (by decide) rfl rfl ?_
            refine r_cV1F1 dX6_readCargo_61 ml_X6_40 yl_X9_tells ⟨rfl, rfl⟩ (by assumption) ⟨_, rfl⟩ rfl rfl rfl rfl (x_tells hL1 hT1 hs1 (i := 10) (by decide)) ?_
            refine r_if_eqB (tgt := 75) dX6_readCargo_64 rfl (fun c64 => ?_) (fun c64 => ?_)
            · refine r_aload_n dX6_readCargo_75 rfl ?_
              refine r_getR dX6_readCargo_76 fl_X6_12 rfl (by assumption) (by assumption) ?_
              refine r_iconst dX6_readCargo_79 ?_
              refine r_cV1F0 dX6_readCargo_80 ml_X6_98 yl_X9_fail ⟨rfl, rfl⟩ (by assumption) ⟨_, rfl⟩ rfl rfl rfl rfl (x_fail hL1 hT1 hs1) ?_
              have hl : lineC T (nxt T σ) C = (failC (nxt T σ) 1, C) := by
                unfold lineC
                rw [if_neg (by rw [c44]; decide), if_neg (by rw [c64]; decide)]
              have hR5 : RCD n_ μ' cd (lineC T (nxt T σ) C).2 := by rw [hl]; exact hR1
              have hk5 : Kp (fun a => a ≠ 1 ∧ ¬ (cd ≤ a ∧ a < cd + 6)) μ' μ' := Kp.rf _ _
              have hRR5 : μ'.2.2 = μ'.2.2 := rfl
              rw [show failC (nxt T σ) 1 = (lineC T (nxt T σ) C).1 by rw [hl]]
              refine r_aload_n dX6_readCargo_83 rfl ?_
              refine r_getR dX6_readCargo_84 fl_X6_12 rfl (by assumption) (by assumption) ?_
              refine r_cV0F0 dX6_readCargo_87 ml_X6_101 yl_X9_lineEnd ⟨rfl, rfl⟩ (by assumption) ⟨_, rfl⟩ rfl rfl rfl rfl (x_lineEnd (by rw [hRR5]; exact hL1) (hT1.kp hk5 ⟨by (try dsimp only); omega, by (try dsimp only); omega⟩) (lineC_ok t2.2 hs1 C)) ?_
              refine r_iinc dX6_readCargo_90 rfl rfl ?_
              refine r_goto (tgt := 21) dX6_readCargo_93 rfl ?_
              have hst : loopC T (q + 1) σ C = loopC T q (lendC T (lineC T (nxt T σ) C).1) (lineC T (nxt T σ) C).2 := by rw [loopC, if_pos c32]
              rw [hst]
              exact ih q (k + 1) _ _ _ (by omega) (by omega) (by omega) (hRR5.trans hRR) (hkp.tr hk5) (lend_ok t2.2 (lineC_ok t2.2 hs1 C)) hR5 (lineC_C t2.2 hs1 hC1)
            · refine r_aload_n dX6_readCargo_67 rfl ?_
              refine r_aload_n dX6_readCargo_68 rfl ?_
              refine r_cV1N dX6_readCargo_69 ml_X6_134 yl_X6_readBulk ⟨rfl, rfl⟩ (by assumption) ⟨_, rfl⟩ rfl rfl rfl rfl (x_readBulk hL1 hT1 hs1 hcd hR1 hC1) ?_
              rintro μ4 ⟨μ5, rfl, hR5, hk5, hRR5⟩
              have rt5 : μ5.2.2 1 0 = some 2 := by rw [hRR5]; exact rt
              have hl : lineC T (nxt T σ) C = bulkL T (nxt T σ) C := by
                unfold lineC
                rw [if_neg (by rw [c44]; decide), if_pos c64]
              rw [← hl] at hR5 ⊢
              refine r_goto (tgt := 83) dX6_readCargo_72 rfl ?_
              refine r_aload_n dX6_readCargo_83 rfl ?_
              refine r_getR dX6_readCargo_84 fl_X6_12 rfl (by assumption) (by assumption) ?_
              refine r_cV0F0 dX6_readCargo_87 ml_X6_101 yl_X9_lineEnd ⟨rfl, rfl⟩ (by assumption) ⟨_, rfl⟩ rfl rfl rfl rfl (x_lineEnd (by rw [hRR5]; exact hL1) (hT1.kp hk5 ⟨by (try dsimp only); omega, by (try dsimp only); omega⟩) (lineC_ok t2.2 hs1 C)) ?_
              refine r_iinc dX6_readCargo_90 rfl rfl ?_
              refine r_goto (tgt := 21) dX6_readCargo_93 rfl ?_
              have hst : loopC T (q + 1) σ C = loopC T q (lendC T (lineC T (nxt T σ) C).1) (lineC T (nxt T σ) C).2 := by rw [loopC, if_pos c32]
              rw [hst]
              exact ih q (k + 1) _ _ _ (by omega) (by omega) (by omega) (hRR5.trans hRR) (hkp.tr hk5) (lend_ok t2.2 (lineC_ok t2.2 hs1 C)) hR5 (lineC_C t2.2 hs1 hC1)
          · refine r_aload_n dX6_readCargo_47 rfl ?_
            refine r_aload_n dX6_readCargo_48 rfl ?_
            refine r_cV1N dX6_readCargo_49 ml_X6_128 yl_X6_readPallet ⟨rfl, rfl⟩ (by assumption) ⟨_, rfl⟩ rfl rfl rfl rfl (x_readPallet hL1 hT1 hs1 hcd hR1 hC1) ?_
            rintro μ4 ⟨μ5, rfl, hR5, hk5, hRR5⟩
            have rt5 : μ5.2.2 1 0 = some 2 := by rw [hRR5]; exact rt
            have hl : lineC T (nxt T σ) C = palL T (nxt T σ) C := by
              unfold lineC
              rw [if_pos c44]
            rw [← hl] at hR5 ⊢
            refine r_goto (tgt := 83) dX6_readCargo_52 rfl ?_
            refine r_aload_n dX6_readCargo_83 rfl ?_
            refine r_getR dX6_readCargo_84 fl_X6_12 rfl (by assumption) (by assumption) ?_
            refine r_cV0F0 dX6_readCargo_87 ml_X6_101 yl_X9_lineEnd ⟨rfl, rfl⟩ (by assumption) ⟨_, rfl⟩ rfl rfl rfl rfl (x_lineEnd (by rw [hRR5]; exact hL1) (hT1.kp hk5 ⟨by (try dsimp only); omega, by (try dsimp only); omega⟩) (lineC_ok t2.2 hs1 C)) ?_
            refine r_iinc dX6_readCargo_90 rfl rfl ?_
            refine r_goto (tgt := 21) dX6_readCargo_93 rfl ?_
            have hst : loopC T (q + 1) σ C = loopC T q (lendC T (lineC T (nxt T σ) C).1) (lineC T (nxt T σ) C).2 := by rw [loopC, if_pos c32]
            rw [hst]
            exact ih q (k + 1) _ _ _ (by omega) (by omega) (by omega) (hRR5.trans hRR) (hkp.tr hk5) (lend_ok t2.2 (lineC_ok t2.2 hs1 C)) hR5 (lineC_C t2.2 hs1 hC1)
  refine AMet.of (by decide) rfl (by decide) rfl ?_
  refine r_aload_n dX6_readCargo_0 rfl ?_
  refine r_iconst dX6_readCargo_1 ?_
  refine r_putZ dX6_readCargo_2 fl_X6_120 (by assumption) (by first | exact Or.inl rfl | exact Or.inr rfl | exact b2i_01 _ | omega) ?_
  have hkc : Kp (fun a => a ≠ 1 ∧ ¬ (cd ≤ a ∧ a < cd + 6)) μ (clrC (setI μ 1 3 0) cd) := ((Kp.rf _ μ).sI (by omega)).tr (Kp.clrC fun q q0 q1 => by (try dsimp only); omega)
  have hb := x_begin (n_ := n_) (μ := clrC (setI μ 1 3 0) cd) (σ := tk (clrC (setI μ 1 3 0) cd)) hL (hT.kp hkc ⟨by (try dsimp only); omega, by (try dsimp only); omega⟩) (n := 300) (by omega)
  rw [tk_tk] at hb
  refine r_aload_n dX6_readCargo_5 rfl ?_
  refine r_cV0F0 dX6_readCargo_6 ml_X6_123 yl_X0_clear ⟨rfl, rfl⟩ (by assumption) ⟨_, rfl⟩ rfl rfl rfl rfl (c_clearC (μ := setI μ 1 3 0) hIC) ?_
  refine r_aload_n dX6_readCargo_9 rfl ?_
  refine r_getR dX6_readCargo_10 fl_X6_12 rfl (by assumption) (by assumption) ?_
  refine r_sipush dX6_readCargo_13 (by decide) ?_
  refine r_cV1F0 dX6_readCargo_16 ml_X6_30 yl_X9_begin ⟨rfl, rfl⟩ (by assumption) ⟨_, rfl⟩ rfl rfl rfl rfl (hb) ?_
  refine r_iconst dX6_readCargo_19 ?_
  refine r_istore_n dX6_readCargo_20 rfl ?_
  exact lB _ 300 0 _ _ C0 (Nat.lt_succ_self _) (by omega) (by omega) rfl hkc (beginC_ok t2.1 (by omega)) (RCD.start hIC (by omega)) C0_ok

