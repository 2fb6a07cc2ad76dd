/-! 41.read: taken from whole (wip/p37/port.py) -/
variable {n_ : Sh}
/-! 41.read: the class reads a line (wip/whole/src/41_read.py) -/
theorem setL_wt {μ : Mem} {σ : Sg} {a : Nat} {i x : Int} : setL (wTok μ σ) a i x = wTok (setL μ a i x) σ := rfl
theorem setI_wt {μ : Mem} {σ : Sg} {a : Nat} {i x : Int} (h : a ≠ 2) : setI (wTok μ σ) a i x = wTok (setI μ a i x) σ := ws_out (Or.inl h)
theorem wt_L {μ : Mem} {σ : Sg} {q : Nat} : (wTok μ σ).2.1 q = μ.2.1 q := rfl
theorem adH_wt {μ : Mem} {σ : Sg} {a : Nat} {v l f : Int} (h : 3 ≤ a) : adH (wTok μ σ) a v l f = wTok (adH μ a v l f) σ := by
  unfold adH
  rw [setL_wt, wt_ne (by omega)]
  simp (disch := omega) only [setI_wt]
theorem adJ_wt {μ : Mem} {σ : Sg} {a : Nat} {l : Int} (h : 3 ≤ a) : adJ (wTok μ σ) a l = wTok (adJ μ a l) σ := by
  unfold adJ
  rw [wt_ne (by omega)]
  simp (disch := omega) only [setI_wt]
theorem adN_wt {μ : Mem} {σ : Sg} {a : Nat} {x l : Int} (h : 3 ≤ a) : adN (wTok μ σ) a x l = wTok (adN μ a x l) σ := by
  unfold adN
  rw [wt_ne (by omega)]
  simp (disch := omega) only [setI_wt]
theorem adT_wt {μ : Mem} {σ : Sg} {a : Nat} {v x l : Int} (h : 3 ≤ a) : adT (wTok μ σ) a v x l = wTok (adT μ a v x l) σ := by
  unfold adT
  rw [setL_wt, wt_ne (by omega)]
  simp (disch := omega) only [setI_wt]
theorem adB_wt {μ : Mem} {σ : Sg} {a : Nat} {t n : Int} (h : 3 ≤ a) : adB (wTok μ σ) a t n = wTok (adB μ a t n) σ := by
  unfold adB
  rw [wt_ne (q := a) (by omega), wt_ne (q := a + 4) (by omega)]
  simp (disch := omega) only [setI_wt]
theorem adS_wt {μ : Mem} {σ : Sg} {a : Nat} (h : 3 ≤ a) : adS (wTok μ σ) a = wTok (adS μ a) σ := by
  unfold adS
  rw [wt_ne (by omega)]
  simp (disch := omega) only [setI_wt]
/-! the draft follows -/
theorem RelF.addH {sh : Sh} {μ : Mem} {a : Nat} {ρ : Row} {v l f : Int} (h : RelF sh μ a ρ) (h4 : 0 ≤ ρ 4 ∧ ρ 4 < 3) (h5 : 0 ≤ ρ 5 ∧ ρ 5 ≤ 6) (hs : WFs ρ) (hf : f = 0 ∨ f = 1) : RelF sh (adH μ a v l f) a (rset (rset (rset ρ (13 + ρ 4) l) (16 + ρ 4) (1 - f)) 4 (ρ 4 + 1)) := by
  obtain ⟨h1, h2, h3, h6, h7, h8, h9⟩ := h
  unfold adH
  rw [h2]
  refine ⟨h1, ?_, fun h h0 h1 => ?_, ?_, fun s s0 s1 => ?_, ?_, fun j j0 j1 => ?_⟩
  · rw [sI_at, rset_eq]
  · rw [rset_eq] at h1
    by_cases e : h = ρ 4
    · subst e
      simp (disch := omega) only [rset_eq, rset_ne]
      simp (disch := omega) only [sI_at, sI_ne, sI_nj, sI_L, sL_at, sL_ne, sL_nj, sL_I]
      refine ⟨trivial, ?_⟩
      rcases hf with rfl | rfl <;> rfl
    · simp (disch := omega) only [rset_eq, rset_ne]
      simp (disch := omega) only [sI_at, sI_ne, sI_nj, sI_L, sL_at, sL_ne, sL_nj, sL_I]
      exact h3 h h0 (by omega)
  · simp (disch := omega) only [rset_eq, rset_ne]
    simp (disch := omega) only [sI_at, sI_ne, sI_nj, sI_L, sL_at, sL_ne, sL_nj, sL_I]
    exact h6
  · simp (disch := omega) only [rset_eq, rset_ne] at s1
    have q := hs s s0 s1
    rw [wayF_congr (ρ := ρ) (by simp (disch := omega) only [rset_eq, rset_ne]) h5.1 (fun k k0 k1 => ⟨by simp (disch := omega) only [rset_eq, rset_ne], by
      have q := (hs k k0 k1).1
      simp (disch := omega) only [rset_eq, rset_ne]⟩) ⟨s0, s1⟩]
    simp (disch := omega) only [rset_eq, rset_ne]
    simp (disch := omega) only [sI_at, sI_ne, sI_nj, sI_L, sL_at, sL_ne, sL_nj, sL_I]
    exact h7 s s0 s1
  · simp (disch := omega) only [rset_eq, rset_ne]
    simp (disch := omega) only [sI_at, sI_ne, sI_nj, sI_L, sL_at, sL_ne, sL_nj, sL_I]
    exact h8
  · simp (disch := omega) only [rset_eq, rset_ne] at j1
    simp (disch := omega) only [rset_eq, rset_ne]
    simp (disch := omega) only [sI_at, sI_ne, sI_nj, sI_L, sL_at, sL_ne, sL_nj, sL_I]
    exact h9 j j0 j1
theorem kp_adH {S : Nat → Prop} {μ : Mem} {a : Nat} {v l f : Int} (h : ∀ q, a ≤ q → q < a + 10 → ¬ S q) : Kp S μ (adH μ a v l f) := ((((Kp.rf S μ).sL (h _ (by omega) (by omega))).sI (h _ (by omega) (by omega))).sI (h _ (by omega) (by omega))).sI (h _ (by omega) (by omega))
theorem kp_adJ {S : Nat → Prop} {μ : Mem} {a : Nat} {l : Int} (h : ∀ q, a ≤ q → q < a + 10 → ¬ S q) : Kp S μ (adJ μ a l) := (((Kp.rf S μ).sI (h _ (by omega) (by omega))).sI (h _ (by omega) (by omega))).sI (h _ (by omega) (by omega))
theorem kp_adN {S : Nat → Prop} {μ : Mem} {a : Nat} {x l : Int} (h : ∀ q, a ≤ q → q < a + 3 → ¬ S q) : Kp S μ (adN μ a x l) := (((Kp.rf S μ).sI (h _ (by omega) (by omega))).sI (h _ (by omega) (by omega))).sI (h _ (by omega) (by omega))
theorem kp_adT {S : Nat → Prop} {μ : Mem} {a : Nat} {v x l : Int} (h : ∀ q, a ≤ q → q < a + 10 → ¬ S q) : Kp S μ (adT μ a v x l) := (((((Kp.rf S μ).sL (h _ (by omega) (by omega))).sI (h _ (by omega) (by omega))).sI (h _ (by omega) (by omega))).sI (h _ (by omega) (by omega))).sI (h _ (by omega) (by omega))
theorem kp_adB {S : Nat → Prop} {μ : Mem} {a : Nat} {t n : Int} (h : ∀ q, a ≤ q → q < a + 10 → ¬ S q) : Kp S μ (adB μ a t n) := ((((Kp.rf S μ).sI (h _ (by omega) (by omega))).sI (h _ (by omega) (by omega))).sI (h _ (by omega) (by omega))).sI (h _ (by omega) (by omega))
theorem kp_adS {S : Nat → Prop} {μ : Mem} {a : Nat} (h : ∀ q, a ≤ q → q < a + 10 → ¬ S q) : Kp S μ (adS μ a) := ((((Kp.rf S μ).sI (h _ (by omega) (by omega))).sI (h _ (by omega) (by omega))).sI (h _ (by omega) (by omega))).sI (h _ (by omega) (by omega))
theorem rd_adH {μ : Mem} {pd : Nat} {D : PD} {v l f : Int} (h : RD n_ μ pd D) (hD : DOK D) (h4 : D.1 4 < 3) (hf : f = 0 ∨ f = 1) (hp : 3 ≤ pd) : RD n_ (adH μ (pd + 3) v l f) pd (addHold D v l f) := by
  have hc := hD.1
  unfold cntOK at hc
  have hF := h.2.2.2.2.2.2.2.1
  have hN := h.2.2.2.2.2.2.2.2.2.1.1
  refine h.F hD (kp_adH (fun q q0 q1 => by (try dsimp only at *); omega)) rfl (hF.addH (by omega) (by omega) hD.2.1 hf) (fun k k0 k1 => ?_) (fun j hj => ?_) (fun k hk => ?_) rfl
  · unfold addHold at k1 ⊢
    dsimp only at k1 ⊢
    rw [rset_eq] at k1
    unfold adH nset
    rw [hF.2.1]
    by_cases e : k = D.1 4
    · subst e
      rw [if_pos rfl]
      simp (disch := omega) only [sI_at, sI_ne, sI_nj, sI_L, sL_at, sL_ne, sL_nj, sL_I]
    · rw [if_neg e]
      simp (disch := omega) only [sI_at, sI_ne, sI_nj, sI_L, sL_at, sL_ne, sL_nj, sL_I]
      exact hN k k0 (by omega)
  · unfold addHold
    simp (disch := omega) only [rset_eq, rset_ne]
  · unfold addHold nset
    exact if_neg (by omega)
theorem RD.spot {μ μ2 : Mem} {pd : Nat} {D : PD} {x l : Int} (h : RD n_ μ pd D) (hD : DOK D) (h5 : D.1 5 < 6) (hF : RelF (SH n_) μ2 (pd + 3) (spotR D.1 x l)) (hk : Kp (fun q => q ≠ pd + 3 ∧ ¬ (pd + 3 + 4 ≤ q ∧ q ≤ pd + 3 + 7)) μ μ2) (hR : μ2.2 = μ.2) (hp : 3 ≤ pd) : RD n_ μ2 pd (addSpot D x l) := by
  have hc := hD.1
  unfold cntOK at hc
  have hN := h.2.2.2.2.2.2.2.2.2.1.1
  refine h.F hD (hk.mono (fun q q0 => by (try dsimp only at *); omega)) (by rw [hR]) hF (fun k k0 k1 => ?_) (fun j hj => ?_) (fun k hk => rfl) rfl
  · unfold addSpot at k1 ⊢
    dsimp only at k1 ⊢
    simp (disch := omega) only [rset_eq, rset_ne] at k1
    rw [hR]
    exact hN k k0 k1
  · unfold addSpot
    simp (disch := omega) only [rset_eq, rset_ne]
theorem rd_adJ {μ : Mem} {pd : Nat} {D : PD} {l : Int} (h : RD n_ μ pd D) (hD : DOK D) (hcj : canJ D.1 = true) (hp : 3 ≤ pd) : RD n_ (adJ μ (pd + 3) l) pd (addJoint D l) := by
  have hc := hD.1
  unfold cntOK at hc
  have hcj := of_decide_eq_true hcj
  have q6 := hD.2.2.2.1 (D.1 6 - 1)
  have h6 : D.1 6 ≤ 4 := by omega
  have hF := h.2.2.2.2.2.2.2.1
  have hN := h.2.2.2.2.2.2.2.2.2.1.1
  refine h.F hD (kp_adJ (fun q q0 q1 => by (try dsimp only at *); omega)) rfl ?_ (fun k k0 k1 => ?_) (fun j hj => ?_) (fun k hk => rfl) rfl
  · obtain ⟨h1, h2, h3, h6, h7, h8, h9⟩ := hF
    have hs := hD.2.1
    unfold adJ addJoint
    rw [h8, h6]
    dsimp only
    refine ⟨h1, ?_, fun h h0 h1 => ?_, ?_, fun s s0 s1 => ?_, ?_, fun j j0 j1 => ?_⟩
    · simp (disch := omega) only [rset_eq, rset_ne]
      simp (disch := omega) only [sI_at, sI_ne, sI_nj, sI_L, sL_at, sL_ne, sL_nj, sL_I]
      exact h2
    · simp (disch := omega) only [rset_eq, rset_ne] at h1
      simp (disch := omega) only [rset_eq, rset_ne]
      simp (disch := omega) only [sI_at, sI_ne, sI_nj, sI_L, sL_at, sL_ne, sL_nj, sL_I]
      exact h3 h h0 h1
    · simp (disch := omega) only [rset_eq, rset_ne]
      simp (disch := omega) only [sI_at, sI_ne, sI_nj, sI_L, sL_at, sL_ne, sL_nj, sL_I]
      exact h6
    · simp (disch := omega) only [rset_eq, rset_ne] at s1
      have q := hs s s0 s1
      rw [wayF_congr (ρ := D.1) (by simp (disch := omega) only [rset_eq, rset_ne]) (by omega) (fun k k0 k1 => ⟨by simp (disch := omega) only [rset_eq, rset_ne], by
        have q := (hs k k0 k1).1
        simp (disch := omega) only [rset_eq, rset_ne]⟩) ⟨s0, s1⟩]
      simp (disch := omega) only [rset_eq, rset_ne]
      simp (disch := omega) only [sI_at, sI_ne, sI_nj, sI_L, sL_at, sL_ne, sL_nj, sL_I]
      exact h7 s s0 s1
    · rw [rset_eq, sI_at]
    · rw [rset_eq] at j1
      by_cases e : j = D.1 6
      · subst e
        simp (disch := omega) only [rset_eq, rset_ne]
        simp (disch := omega) only [sI_at, sI_ne, sI_nj, sI_L, sL_at, sL_ne, sL_nj, sL_I]
        exact ⟨by omega, trivial⟩
      · simp (disch := omega) only [rset_eq, rset_ne]
        simp (disch := omega) only [sI_at, sI_ne, sI_nj, sI_L, sL_at, sL_ne, sL_nj, sL_I]
        exact h9 j j0 (by omega)
  · unfold addJoint at k1 ⊢
    dsimp only at k1 ⊢
    simp (disch := omega) only [rset_eq, rset_ne] at k1
    exact hN k k0 k1
  · unfold addJoint
    simp (disch := omega) only [rset_eq, rset_ne]
theorem rd_adN {μ : Mem} {pd : Nat} {D : PD} {x l : Int} (h : RD n_ μ pd D) (hD : DOK D) (h7 : D.1 7 < 2) (hp : 3 ≤ pd) : RD n_ (adN μ pd x l) pd (addBin D x l) := by
  have hc := hD.1
  unfold cntOK at hc
  obtain ⟨a1, a2, a3, a4, a5, a6, a7, a8, a9, ⟨a10, a11⟩, a12, a13⟩ := id h
  refine h.P hD (kp_adN (fun q q0 q1 => by (try dsimp only at *); omega)) rfl (fun j hj => ?_) rfl ⟨?_, ?_, ?_, ?_, ?_⟩ (fun b b0 b1 => ?_) ⟨?_, ?_⟩
  · unfold addBin
    simp (disch := omega) only [rset_eq, rset_ne]
  · unfold adN addBin
    simp (disch := omega) only [rset_eq, rset_ne]
    simp (disch := omega) only [sI_at, sI_ne, sI_nj, sI_L, sL_at, sL_ne, sL_nj, sL_I]
    exact a2
  · unfold adN addBin
    simp (disch := omega) only [rset_eq, rset_ne]
    simp (disch := omega) only [sI_at, sI_ne, sI_nj, sI_L, sL_at, sL_ne, sL_nj, sL_I]
    exact a3
  · unfold adN addBin
    simp (disch := omega) only [rset_eq, rset_ne]
    simp (disch := omega) only [sI_at, sI_ne, sI_nj, sI_L, sL_at, sL_ne, sL_nj, sL_I]
    exact a4
  · unfold adN addBin
    simp (disch := omega) only [rset_eq, rset_ne]
    simp (disch := omega) only [sI_at, sI_ne, sI_nj, sI_L, sL_at, sL_ne, sL_nj, sL_I]
    exact a5
  · unfold adN addBin
    dsimp only
    rw [sI_at, rset_eq, a6]
  · have q := a7 b b0 b1
    unfold adN addBin
    rw [a6]
    dsimp only
    rw [rset_eq]
    by_cases e : b = D.1 7
    · subst e
      simp (disch := omega) only [rset_eq, rset_ne]
      simp (disch := omega) only [sI_at, sI_ne, sI_nj, sI_L, sL_at, sL_ne, sL_nj, sL_I]
      exact ⟨fun _ => ⟨trivial, trivial⟩, fun h => by omega⟩
    · simp (disch := omega) only [rset_eq, rset_ne]
      simp (disch := omega) only [sI_at, sI_ne, sI_nj, sI_L, sL_at, sL_ne, sL_nj, sL_I]
      exact ⟨fun h => q.1 (by omega), fun h => q.2 (by omega)⟩
  · unfold adN
    simp (disch := omega) only [sI_at, sI_ne, sI_nj, sI_L, sL_at, sL_ne, sL_nj, sL_I]
    exact a12
  · unfold adN
    simp (disch := omega) only [sI_at, sI_ne, sI_nj, sI_L, sL_at, sL_ne, sL_nj, sL_I]
    exact a13
theorem rd_adT {μ : Mem} {pd : Nat} {D : PD} {v x l : Int} (h : RD n_ μ pd D) (hD : DOK D) (h8 : D.1 8 < 3) (hp : 3 ≤ pd) : RD n_ (adT μ (pd + 13) v x l) pd (addTank D v x l) := by
  have hc := hD.1
  unfold cntOK at hc
  obtain ⟨w1, w2, w3, w4, w5, w6⟩ := h.2.2.2.2.2.2.2.2.1
  have hN := h.2.2.2.2.2.2.2.2.2.1.2
  have hg := hD.2.2.2.2.2.1.1
  refine h.V hD (kp_adT (fun q q0 q1 => by (try dsimp only at *); omega)) rfl ?_ (fun k k0 k1 => ?_) (fun j hj => ?_) (fun k hk => ?_) rfl
  · unfold adT addTank
    rw [w2]
    dsimp only
    refine ⟨w1, ?_, fun t t0 t1 => ?_, ?_, ?_, fun i i0 i1 => ?_⟩
    · rw [sI_at, rset_eq]
    · rw [rset_eq] at t1
      by_cases e : t = D.1 8
      · subst e
        have hz : leftF (rset (rset (rset D.1 (53 + D.1 8) x) (56 + D.1 8) l) 8 (D.1 8 + 1)) (D.1 8) = l := by
          unfold leftF
          rw [sumF_zero]
          · simp (disch := omega) only [rset_eq, rset_ne]
            omega
          · intro j j0 j1
            simp (disch := omega) only [rset_eq, rset_ne] at j1
            have q := hg j j0 (by omega)
            simp (disch := omega) only [rset_eq, rset_ne]
            rw [if_neg (by omega)]
        rw [hz]
        simp (disch := omega) only [rset_eq, rset_ne]
        simp (disch := omega) only [sI_at, sI_ne, sI_nj, sI_L, sL_at, sL_ne, sL_nj, sL_I]
        exact ⟨trivial, trivial, trivial⟩
      · rw [leftF_congr (ρ := D.1) (by simp (disch := omega) only [rset_eq, rset_ne]) (by simp (disch := omega) only [rset_eq, rset_ne]) (by omega) fun i i0 i1 => ⟨by simp (disch := omega) only [rset_eq, rset_ne], by simp (disch := omega) only [rset_eq, rset_ne]⟩]
        simp (disch := omega) only [rset_eq, rset_ne]
        simp (disch := omega) only [sI_at, sI_ne, sI_nj, sI_L, sL_at, sL_ne, sL_nj, sL_I]
        exact w3 t t0 (by omega)
    · simp (disch := omega) only [rset_eq, rset_ne]
      simp (disch := omega) only [sI_at, sI_ne, sI_nj, sI_L, sL_at, sL_ne, sL_nj, sL_I]
      exact w4
    · simp (disch := omega) only [rset_eq, rset_ne]
      simp (disch := omega) only [sI_at, sI_ne, sI_nj, sI_L, sL_at, sL_ne, sL_nj, sL_I]
      exact w5
    · simp (disch := omega) only [rset_eq, rset_ne] at i1
      simp (disch := omega) only [rset_eq, rset_ne]
      simp (disch := omega) only [sI_at, sI_ne, sI_nj, sI_L, sL_at, sL_ne, sL_nj, sL_I]
      exact w6 i i0 i1
  · unfold addTank at k1 ⊢
    dsimp only at k1 ⊢
    rw [rset_eq] at k1
    unfold adT nset
    rw [w2]
    by_cases e : k = D.1 8
    · subst e
      rw [if_pos rfl]
      simp (disch := omega) only [sI_at, sI_ne, sI_nj, sI_L, sL_at, sL_ne, sL_nj, sL_I]
    · rw [if_neg (by omega)]
      simp (disch := omega) only [sI_at, sI_ne, sI_nj, sI_L, sL_at, sL_ne, sL_nj, sL_I]
      exact hN k k0 (by omega)
  · unfold addTank
    simp (disch := omega) only [rset_eq, rset_ne]
  · unfold addTank nset
    exact if_neg (by omega)
theorem rd_adB {μ : Mem} {pd : Nat} {D : PD} {t n : Int} (h : RD n_ μ pd D) (hD : DOK D) (h9 : D.1 9 < 12) (ht : 0 ≤ t ∧ t < D.1 8) (hp : 3 ≤ pd) : RD n_ (adB μ (pd + 13) t n) pd (addBurn D t n) := by
  have hc := hD.1
  unfold cntOK at hc
  obtain ⟨w1, w2, w3, w4, w5, w6⟩ := h.2.2.2.2.2.2.2.2.1
  have hN := h.2.2.2.2.2.2.2.2.2.1.2
  refine h.V hD (kp_adB (fun q q0 q1 => by (try dsimp only at *); omega)) rfl ?_ (fun k k0 k1 => ?_) (fun j hj => ?_) (fun k hk => rfl) rfl
  · unfold adB addBurn
    rw [w4]
    dsimp only
    refine ⟨w1, ?_, fun k k0 k1 => ?_, ?_, ?_, fun i i0 i1 => ?_⟩
    · simp (disch := omega) only [rset_eq, rset_ne]
      simp (disch := omega) only [sI_at, sI_ne, sI_nj, sI_L, sL_at, sL_ne, sL_nj, sL_I]
      exact w2
    · simp (disch := omega) only [rset_eq, rset_ne] at k1
      have q := w3 k k0 k1
      have hz : leftF (rset (rset (rset D.1 (71 + D.1 9) n) (59 + D.1 9) t) 9 (D.1 9 + 1)) k = leftF D.1 k - (if t = k then n else 0) := by
        unfold leftF
        simp (disch := omega) only [rset_eq, rset_ne]
        rw [show (D.1 9 + 1).toNat = (D.1 9).toNat + 1 by omega, sumF_snoc, show (0 : Int) + ((D.1 9).toNat : Int) = D.1 9 by omega]
        rw [sumF_congr (g := fun i => if D.1 (59 + i) = k then D.1 (71 + i) else 0) _ _ fun j j0 j1 => by simp (disch := omega) only [rset_eq, rset_ne]]
        simp (disch := omega) only [rset_eq, rset_ne]
        omega
      rw [hz]
      simp (disch := omega) only [rset_eq, rset_ne]
      by_cases e : t = k
      · subst e
        rw [if_pos rfl]
        simp (disch := omega) only [sI_at, sI_ne, sI_nj, sI_L, sL_at, sL_ne, sL_nj, sL_I]
        exact ⟨q.1, q.2.1, by rw [q.2.2]⟩
      · rw [if_neg e]
        simp (disch := omega) only [sI_at, sI_ne, sI_nj, sI_L, sL_at, sL_ne, sL_nj, sL_I]
        exact ⟨q.1, q.2.1, by rw [q.2.2]; omega⟩
    · rw [sI_at, rset_eq]
    · simp (disch := omega) only [rset_eq, rset_ne]
      simp (disch := omega) only [sI_at, sI_ne, sI_nj, sI_L, sL_at, sL_ne, sL_nj, sL_I]
      exact w5
    · rw [rset_eq] at i1
      by_cases e : i = D.1 9
      · subst e
        simp (disch := omega) only [rset_eq, rset_ne]
        simp (disch := omega) only [sI_at, sI_ne, sI_nj, sI_L, sL_at, sL_ne, sL_nj, sL_I]
        exact ⟨trivial, by rw [if_neg (by omega)]⟩
      · simp (disch := omega) only [rset_eq, rset_ne]
        simp (disch := omega) only [sI_at, sI_ne, sI_nj, sI_L, sL_at, sL_ne, sL_nj, sL_I]
        exact w6 i i0 (by omega)
  · unfold addBurn at k1 ⊢
    dsimp only at k1 ⊢
    simp (disch := omega) only [rset_eq, rset_ne] at k1
    exact hN k k0 k1
  · unfold addBurn
    simp (disch := omega) only [rset_eq, rset_ne]
theorem rd_adS {μ : Mem} {pd : Nat} {D : PD} (h : RD n_ μ pd D) (hD : DOK D) (h9 : D.1 9 < 12) (hp : 3 ≤ pd) : RD n_ (adS μ (pd + 13)) pd (addStop D) := by
  have hc := hD.1
  unfold cntOK at hc
  obtain ⟨w1, w2, w3, w4, w5, w6⟩ := h.2.2.2.2.2.2.2.2.1
  have hN := h.2.2.2.2.2.2.2.2.2.1.2
  refine h.V hD (kp_adS (fun q q0 q1 => by (try dsimp only at *); omega)) rfl ?_ (fun k k0 k1 => ?_) (fun j hj => ?_) (fun k hk => rfl) rfl
  · unfold adS addStop
    rw [w4, w5]
    dsimp only
    refine ⟨w1, ?_, fun k k0 k1 => ?_, ?_, ?_, fun i i0 i1 => ?_⟩
    · simp (disch := omega) only [rset_eq, rset_ne]
      simp (disch := omega) only [sI_at, sI_ne, sI_nj, sI_L, sL_at, sL_ne, sL_nj, sL_I]
      exact w2
    · simp (disch := omega) only [rset_eq, rset_ne] at k1
      have q := w3 k k0 k1
      have hz : leftF (rset (rset (rset D.1 (59 + D.1 9) (-1)) 9 (D.1 9 + 1)) 10 (D.1 10 + 1)) k = leftF D.1 k := by
        unfold leftF
        simp (disch := omega) only [rset_eq, rset_ne]
        rw [show (D.1 9 + 1).toNat = (D.1 9).toNat + 1 by omega, sumF_snoc, show (0 : Int) + ((D.1 9).toNat : Int) = D.1 9 by omega]
        rw [sumF_congr (g := fun i => if D.1 (59 + i) = k then D.1 (71 + i) else 0) _ _ fun j j0 j1 => by simp (disch := omega) only [rset_eq, rset_ne]]
        simp (disch := omega) only [rset_eq, rset_ne]
        rw [if_neg (by omega)]
        omega
      rw [hz]
      simp (disch := omega) only [rset_eq, rset_ne]
      simp (disch := omega) only [sI_at, sI_ne, sI_nj, sI_L, sL_at, sL_ne, sL_nj, sL_I]
      exact q
    · simp (disch := omega) only [rset_eq, rset_ne]
      simp (disch := omega) only [sI_at, sI_ne, sI_nj, sI_L, sL_at, sL_ne, sL_nj, sL_I]
    · simp (disch := omega) only [rset_eq, rset_ne]
      simp (disch := omega) only [sI_at, sI_ne, sI_nj, sI_L, sL_at, sL_ne, sL_nj, sL_I]
    · simp (disch := omega) only [rset_eq, rset_ne] at i1
      by_cases e : i = D.1 9
      · subst e
        simp (disch := omega) only [rset_eq, rset_ne]
        simp (disch := omega) only [sI_at, sI_ne, sI_nj, sI_L, sL_at, sL_ne, sL_nj, sL_I]
        exact ⟨trivial, by rw [if_pos (by omega)]⟩
      · simp (disch := omega) only [rset_eq, rset_ne]
        simp (disch := omega) only [sI_at, sI_ne, sI_nj, sI_L, sL_at, sL_ne, sL_nj, sL_I]
        exact w6 i i0 (by omega)
  · unfold addStop at k1 ⊢
    dsimp only at k1 ⊢
    simp (disch := omega) only [rset_eq, rset_ne] at k1
    exact hN k k0 k1
  · unfold addStop
    simp (disch := omega) only [rset_eq, rset_ne]

