/-! 25.xcalls: the class's calls that change its cargo (wip/whole/src/25_xcalls.py) -/
theorem W99.set {ρ : Row} (h : W99 ρ) {j x : Int} (hj : 12 ≤ j) (hx : 83 ≤ j ∧ j < 88 → x ≤ 99) (h5 : ρ 11 ≤ 5) : W99 (rset ρ j x) := by
  intro k k0 k1
  rw [rset_ne (by omega)] at k1
  by_cases e : 83 + k = j
  · rw [e, rset_eq]; exact hx (by omega)
  · rw [rset_ne e]; exact h k k0 k1
theorem W99.pm {ρ : Row} (h : W99 ρ) (σ : Int → Int) {n : Int} (hn : n ≤ 5) (hs : ∀ k, 0 ≤ k → k < n → 0 ≤ σ k ∧ σ k < ρ 11) : W99 (rset (pmR ρ σ) 11 n) := by
  intro k k0 k1
  rw [rset_eq] at k1
  rw [rset_ne (by omega), pm_83 (by omega)]
  exact h _ (hs k k0 k1).1 (hs k k0 k1).2
theorem W99.com {ρ : Row} (h : W99 ρ) {w t : Int} (hn : 0 ≤ ρ 11 ∧ ρ 11 < 5) (hw : w ≤ 99) : W99 (comR ρ w t) := by
  intro k k0 k1
  have e11 : comR ρ w t 11 = ρ 11 + 1 := if_pos rfl
  rw [e11] at k1
  by_cases e : k = ρ 11
  · subst e
    unfold comR
    rw [if_neg (by omega), if_pos rfl]
    exact hw
  · rw [com_ne (by omega)]
    exact h k k0 (by omega)
theorem RelC.setS {sh : Sh} {μ : Mem} {c : Nat} {ρ : Row} (h : RelC sh μ c ρ) (hw : WF ρ) {k s : Int} (hk : 0 ≤ k ∧ k < 5) : RelC sh (setI μ (c + 4) k s) c (rset ρ (93 + k) s) := by
  have hn := hw.1.1
  unfold WFn at hn
  obtain ⟨hI, e0, e5, e51, e52, e⟩ := h
  refine ⟨hI, ?_, ?_, ?_, ?_, fun j j0 j1 => ?_⟩
  · rw [sI_ne (by omega), rset_ne (by omega), e0]
  · rw [sI_ne (by omega), rset_ne (by omega), e5]
  · rw [sI_ne (by omega), rset_ne (by omega), e51]
  · rw [sI_ne (by omega), rset_ne (by omega), e52]
  · rw [rset_ne (by omega)] at j1
    obtain ⟨a1, a2, a3, a4⟩ := e j j0 j1
    refine ⟨by rw [sI_ne (by omega), rset_ne (by omega), a1], by rw [sI_ne (by omega), rset_ne (by omega), a2], ?_, ?_⟩
    · by_cases hj : j = k
      · subst hj
        rw [sI_at, rset_eq]
      · rw [sI_nj hj, rset_ne (by omega), a3]
    · rw [sI_L, a4]
      exact (pkF_congr (rset_ne (by omega)) (hw.2.2.1 j j0 j1).2.2.2.1.2 (fun i i0 i1 => rset_ne (by omega))).symm
theorem RelC.setW {sh : Sh} {μ : Mem} {c : Nat} {ρ : Row} (h : RelC sh μ c ρ) (hw : WF ρ) {k s : Int} (hk : 0 ≤ k ∧ k < 5) : RelC sh (setI μ (c + 2) k s) c (rset ρ (83 + k) s) := by
  have hn := hw.1.1
  unfold WFn at hn
  obtain ⟨hI, e0, e5, e51, e52, e⟩ := h
  refine ⟨hI, ?_, ?_, ?_, ?_, fun j j0 j1 => ?_⟩
  · rw [sI_ne (by omega), rset_ne (by omega), e0]
  · rw [sI_ne (by omega), rset_ne (by omega), e5]
  · rw [sI_ne (by omega), rset_ne (by omega), e51]
  · rw [sI_ne (by omega), rset_ne (by omega), e52]
  · rw [rset_ne (by omega)] at j1
    obtain ⟨a1, a2, a3, a4⟩ := e j j0 j1
    refine ⟨?_, by rw [sI_ne (by omega), rset_ne (by omega), a2], by rw [sI_ne (by omega), rset_ne (by omega), a3], ?_⟩
    · by_cases hj : j = k
      · subst hj
        rw [sI_at, rset_eq]
      · rw [sI_nj hj, rset_ne (by omega), a1]
    · rw [sI_L, a4]
      exact (pkF_congr (rset_ne (by omega)) (hw.2.2.1 j j0 j1).2.2.2.1.2 (fun i i0 i1 => rset_ne (by omega))).symm
theorem RelC.setB {sh : Sh} {μ : Mem} {c : Nat} {ρ : Row} (h : RelC sh μ c ρ) (hw : WF ρ) {b s : Int} (hk : 0 ≤ b ∧ b < 2) : RelC sh (setI μ (c + 5) b s) c (rset ρ (51 + b) s) := by
  have hn := hw.1.1
  unfold WFn at hn
  obtain ⟨hI, e0, e5, e51, e52, e⟩ := h
  refine ⟨hI, ?_, ?_, ?_, ?_, fun j j0 j1 => ?_⟩
  · rw [sI_ne (by omega), rset_ne (by omega), e0]
  · rw [sI_ne (by omega), rset_ne (by omega), e5]
  · by_cases hj : b = 0
    · subst hj
      exact sI_at.trans (by rw [show (51 : Int) + 0 = 51 from rfl, rset_eq])
    · rw [sI_nj (by omega), rset_ne (by omega), e51]
  · by_cases hj : b = 1
    · subst hj
      exact sI_at.trans (by rw [show (51 : Int) + 1 = 52 from rfl, rset_eq])
    · rw [sI_nj (by omega), rset_ne (by omega), e52]
  · rw [rset_ne (by omega)] at j1
    obtain ⟨a1, a2, a3, a4⟩ := e j j0 j1
    refine ⟨by rw [sI_ne (by omega), rset_ne (by omega), a1], by rw [sI_ne (by omega), rset_ne (by omega), a2], by rw [sI_ne (by omega), rset_ne (by omega), a3], ?_⟩
    rw [sI_L, a4]
    exact (pkF_congr (rset_ne (by omega)) (hw.2.2.1 j j0 j1).2.2.2.1.2 (fun i i0 i1 => rset_ne (by omega))).symm
theorem RelC.com {sh : Sh} {μ : Mem} {c : Nat} {ρ : Row} (h : RelC sh μ c ρ) (hw : WF ρ) (h5 : ρ 11 < 5) {w t : Int} : RelC sh (setI (wrC μ c (μ.1 c 0) 0 w t (-1)) c 0 ((wrC μ c (μ.1 c 0) 0 w t (-1)).1 c 0 + 1)) c (comR ρ w t) := by
  have hn := hw.1.1
  unfold WFn at hn
  obtain ⟨hI, e0, e5, e51, e52, e⟩ := h
  have e11 : comR ρ w t 11 = ρ 11 + 1 := if_pos rfl
  have f0 : (wrC μ c (μ.1 c 0) 0 w t (-1)).1 c 0 = ρ 11 := by
    rw [← e0]
    simp (disch := omega) only [wrC, cpI_at, cpI_ne, cpI_L, cpL_at, cpL_ne, cpL_I, sI_at, sI_ne, sI_nj, sI_L, sL_at, sL_ne, sL_nj, sL_I]
  rw [f0, e0]
  refine ⟨hI, by rw [sI_at, e11], ?_, ?_, ?_, fun j j0 j1 => ?_⟩
  · rw [com_ne (by omega), ← e5]
    simp (disch := omega) only [wrC, cpI_at, cpI_ne, cpI_L, cpL_at, cpL_ne, cpL_I, sI_at, sI_ne, sI_nj, sI_L, sL_at, sL_ne, sL_nj, sL_I]
  · rw [com_ne (by omega), ← e51]
    simp (disch := omega) only [wrC, cpI_at, cpI_ne, cpI_L, cpL_at, cpL_ne, cpL_I, sI_at, sI_ne, sI_nj, sI_L, sL_at, sL_ne, sL_nj, sL_I]
  · rw [com_ne (by omega), ← e52]
    simp (disch := omega) only [wrC, cpI_at, cpI_ne, cpI_L, cpL_at, cpL_ne, cpL_I, sI_at, sI_ne, sI_nj, sI_L, sL_at, sL_ne, sL_nj, sL_I]
  · rw [e11] at j1
    by_cases hj : j = ρ 11
    · subst hj
      refine ⟨?_, ?_, ?_, ?_⟩
      · rw [show comR ρ w t (83 + ρ 11) = w by unfold comR; rw [if_neg (by omega), if_pos rfl]]
        simp (disch := omega) only [wrC, cpI_at, cpI_ne, cpI_L, cpL_at, cpL_ne, cpL_I, sI_at, sI_ne, sI_nj, sI_L, sL_at, sL_ne, sL_nj, sL_I]
      · rw [show comR ρ w t (88 + ρ 11) = t by unfold comR; rw [if_neg (by omega), if_neg (by omega), if_pos rfl]]
        simp (disch := omega) only [wrC, cpI_at, cpI_ne, cpI_L, cpL_at, cpL_ne, cpL_I, sI_at, sI_ne, sI_nj, sI_L, sL_at, sL_ne, sL_nj, sL_I]
      · rw [show comR ρ w t (93 + ρ 11) = -1 by unfold comR; rw [if_neg (by omega), if_neg (by omega), if_neg (by omega), if_pos rfl]]
        simp (disch := omega) only [wrC, cpI_at, cpI_ne, cpI_L, cpL_at, cpL_ne, cpL_I, sI_at, sI_ne, sI_nj, sI_L, sL_at, sL_ne, sL_nj, sL_I]
      · have e98 : comR ρ w t (98 + ρ 11) = 0 := by unfold comR; rw [if_neg (by omega), if_neg (by omega), if_neg (by omega), if_neg (by omega), if_pos rfl]
        unfold pkF pkN
        rw [e98]
        simp (disch := omega) only [wrC, cpI_at, cpI_ne, cpI_L, cpL_at, cpL_ne, cpL_I, sI_at, sI_ne, sI_nj, sI_L, sL_at, sL_ne, sL_nj, sL_I]
        rfl
    · obtain ⟨a1, a2, a3, a4⟩ := e j j0 (by omega)
      refine ⟨?_, ?_, ?_, ?_⟩
      · rw [com_ne (by omega), ← a1]
        simp (disch := omega) only [wrC, cpI_at, cpI_ne, cpI_L, cpL_at, cpL_ne, cpL_I, sI_at, sI_ne, sI_nj, sI_L, sL_at, sL_ne, sL_nj, sL_I]
      · rw [com_ne (by omega), ← a2]
        simp (disch := omega) only [wrC, cpI_at, cpI_ne, cpI_L, cpL_at, cpL_ne, cpL_I, sI_at, sI_ne, sI_nj, sI_L, sL_at, sL_ne, sL_nj, sL_I]
      · rw [com_ne (by omega), ← a3]
        simp (disch := omega) only [wrC, cpI_at, cpI_ne, cpI_L, cpL_at, cpL_ne, cpL_I, sI_at, sI_ne, sI_nj, sI_L, sL_at, sL_ne, sL_nj, sL_I]
      · rw [pkF_congr (ρ := ρ) (ρ' := comR ρ w t) (k := j) (com_ne (by omega)) (hw.2.2.1 j j0 (by omega)).2.2.2.1.2 (fun i i0 i1 => com_ne (by omega)), ← a4]
        simp (disch := omega) only [wrC, cpI_at, cpI_ne, cpI_L, cpL_at, cpL_ne, cpL_I, sI_at, sI_ne, sI_nj, sI_L, sL_at, sL_ne, sL_nj, sL_I]
/-- what moving the later ones ahead does with the cells -/
theorem shC_fld {c : Nat} : ∀ (n : Nat) (k : Int) (μ : Mem), (∀ i, (fld (shC c) n k μ).1 (c + 2) i = if k ≤ i ∧ i < k + n then μ.1 (c + 2) (i + 1) else μ.1 (c + 2) i) ∧ (∀ i, (fld (shC c) n k μ).1 (c + 3) i = if k ≤ i ∧ i < k + n then μ.1 (c + 3) (i + 1) else μ.1 (c + 3) i) ∧ (∀ i, (fld (shC c) n k μ).1 (c + 4) i = if k ≤ i ∧ i < k + n then μ.1 (c + 4) (i + 1) else μ.1 (c + 4) i) ∧ (∀ i, (fld (shC c) n k μ).2.1 (c + 1) i = if k ≤ i ∧ i < k + n then μ.2.1 (c + 1) (i + 1) else μ.2.1 (c + 1) i) ∧ Kp (fun a => ¬ (c + 1 ≤ a ∧ a ≤ c + 4)) μ (fld (shC c) n k μ) ∧ (fld (shC c) n k μ).2.2 = μ.2.2
  | 0, k, μ => ⟨fun i => by rw [if_neg (by omega)]; rfl, fun i => by rw [if_neg (by omega)]; rfl, fun i => by rw [if_neg (by omega)]; rfl, fun i => by rw [if_neg (by omega)]; rfl, Kp.rf _ _, rfl⟩
  | n + 1, k, μ => by
    obtain ⟨a1, a2, a3, a4, a5, a6⟩ := shC_fld n (k + 1) (shC c k μ)
    have hk : Kp (fun a => ¬ (c + 1 ≤ a ∧ a ≤ c + 4)) μ (shC c k μ) := ((((Kp.rf _ μ).sL (by (try dsimp only); omega)).sI (by (try dsimp only); omega)).sI (by (try dsimp only); omega)).sI (by (try dsimp only); omega)
    refine ⟨fun i => ?_, fun i => ?_, fun i => ?_, fun i => ?_, hk.tr a5, a6⟩
    · rw [fld, a1]
      by_cases h1 : i = k
      · subst h1
        rw [if_neg (by omega), if_pos (by omega)]
        simp (disch := omega) only [shC, wrC, cpI_at, cpI_ne, cpI_L, cpL_at, cpL_ne, cpL_I, sI_at, sI_ne, sI_nj, sI_L, sL_at, sL_ne, sL_nj, sL_I]
      · by_cases h2 : k ≤ i ∧ i < k + (n + 1 : Nat)
        · rw [if_pos (by omega), if_pos h2]
          simp (disch := omega) only [shC, wrC, cpI_at, cpI_ne, cpI_L, cpL_at, cpL_ne, cpL_I, sI_at, sI_ne, sI_nj, sI_L, sL_at, sL_ne, sL_nj, sL_I]
        · rw [if_neg (by omega), if_neg h2]
          simp (disch := omega) only [shC, wrC, cpI_at, cpI_ne, cpI_L, cpL_at, cpL_ne, cpL_I, sI_at, sI_ne, sI_nj, sI_L, sL_at, sL_ne, sL_nj, sL_I]
    · rw [fld, a2]
      by_cases h1 : i = k
      · subst h1
        rw [if_neg (by omega), if_pos (by omega)]
        simp (disch := omega) only [shC, wrC, cpI_at, cpI_ne, cpI_L, cpL_at, cpL_ne, cpL_I, sI_at, sI_ne, sI_nj, sI_L, sL_at, sL_ne, sL_nj, sL_I]
      · by_cases h2 : k ≤ i ∧ i < k + (n + 1 : Nat)
        · rw [if_pos (by omega), if_pos h2]
          simp (disch := omega) only [shC, wrC, cpI_at, cpI_ne, cpI_L, cpL_at, cpL_ne, cpL_I, sI_at, sI_ne, sI_nj, sI_L, sL_at, sL_ne, sL_nj, sL_I]
        · rw [if_neg (by omega), if_neg h2]
          simp (disch := omega) only [shC, wrC, cpI_at, cpI_ne, cpI_L, cpL_at, cpL_ne, cpL_I, sI_at, sI_ne, sI_nj, sI_L, sL_at, sL_ne, sL_nj, sL_I]
    · rw [fld, a3]
      by_cases h1 : i = k
      · subst h1
        rw [if_neg (by omega), if_pos (by omega)]
        simp (disch := omega) only [shC, wrC, cpI_at, cpI_ne, cpI_L, cpL_at, cpL_ne, cpL_I, sI_at, sI_ne, sI_nj, sI_L, sL_at, sL_ne, sL_nj, sL_I]
      · by_cases h2 : k ≤ i ∧ i < k + (n + 1 : Nat)
        · rw [if_pos (by omega), if_pos h2]
          simp (disch := omega) only [shC, wrC, cpI_at, cpI_ne, cpI_L, cpL_at, cpL_ne, cpL_I, sI_at, sI_ne, sI_nj, sI_L, sL_at, sL_ne, sL_nj, sL_I]
        · rw [if_neg (by omega), if_neg h2]
          simp (disch := omega) only [shC, wrC, cpI_at, cpI_ne, cpI_L, cpL_at, cpL_ne, cpL_I, sI_at, sI_ne, sI_nj, sI_L, sL_at, sL_ne, sL_nj, sL_I]
    · rw [fld, a4]
      by_cases h1 : i = k
      · subst h1
        rw [if_neg (by omega), if_pos (by omega)]
        simp (disch := omega) only [shC, wrC, cpI_at, cpI_ne, cpI_L, cpL_at, cpL_ne, cpL_I, sI_at, sI_ne, sI_nj, sI_L, sL_at, sL_ne, sL_nj, sL_I]
      · by_cases h2 : k ≤ i ∧ i < k + (n + 1 : Nat)
        · rw [if_pos (by omega), if_pos h2]
          simp (disch := omega) only [shC, wrC, cpI_at, cpI_ne, cpI_L, cpL_at, cpL_ne, cpL_I, sI_at, sI_ne, sI_nj, sI_L, sL_at, sL_ne, sL_nj, sL_I]
        · rw [if_neg (by omega), if_neg h2]
          simp (disch := omega) only [shC, wrC, cpI_at, cpI_ne, cpI_L, cpL_at, cpL_ne, cpL_I, sI_at, sI_ne, sI_nj, sI_L, sL_at, sL_ne, sL_nj, sL_I]
theorem Kp.mv {S : Nat → Prop} {μ μ2 : Mem} {c : Nat} {k : Int} (h1 : Kp S μ μ2) (h : ∀ q, c + 1 ≤ q → q ≤ c + 4 → ¬ S q) : Kp S μ (mvLast μ2 c k) := by
  have hf := (shC_fld (c := c) (μ2.1 c 0 - 1 - k).toNat k μ2).2.2.2.2.1
  exact (((((h1.tr (hf.mono (fun q hq hh => h q hh.1 hh.2 hq))).sL (h _ (by omega) (by omega))).sI (h _ (by omega) (by omega))).sI (h _ (by omega) (by omega))).sI (h _ (by omega) (by omega)))
theorem mv_R {μ : Mem} {c : Nat} {k : Int} : (mvLast μ c k).2.2 = μ.2.2 := (shC_fld (c := c) (μ.1 c 0 - 1 - k).toNat k μ).2.2.2.2.2
theorem RelC.mvl {sh : Sh} {μ : Mem} {c : Nat} {ρ : Row} (h : RelC sh μ c ρ) (hw : WF ρ) {k : Int} (hk : 0 ≤ k ∧ k < ρ 11) : RelC sh (mvLast μ c k) c (pmR ρ (lst k (ρ 11 - 1))) := by
  have hn := hw.1.1
  unfold WFn at hn
  obtain ⟨hI, e0, e5, e51, e52, e⟩ := h
  obtain ⟨s2, s3, s4, s1, sk, sR⟩ := shC_fld (c := c) (μ.1 c 0 - 1 - k).toNat k μ
  have kk := (Kp.rf (fun a => ¬ (c + 1 ≤ a ∧ a ≤ c + 4)) μ).mv (c := c) (k := k) (fun q q0 q1 hh => hh ⟨q0, q1⟩)
  refine ⟨?_, ?_, ?_, ?_, ?_, fun j j0 j1 => ?_⟩
  · rw [mv_R]; exact hI
  · rw [(kk c (by (try dsimp only); omega)).1, pm_lo (by omega), e0]
  · rw [(kk c (by (try dsimp only); omega)).1, pm_lo (by omega), e5]
  · rw [(kk (c + 5) (by (try dsimp only); omega)).1, pm_lo (by omega), e51]
  · rw [(kk (c + 5) (by (try dsimp only); omega)).1, pm_lo (by omega), e52]
  · rw [pm_lo (by omega)] at j1
    have hs : 0 ≤ lst k (ρ 11 - 1) j ∧ lst k (ρ 11 - 1) j < ρ 11 := by
      unfold lst
      split
      · omega
      · split <;> omega
    obtain ⟨a1, a2, a3, a4⟩ := e _ hs.1 hs.2
    rw [pm_83 (by omega), pm_88 (by omega), pm_93 (by omega), pkF_congr (ρ := ρ) (k := lst k (ρ 11 - 1) j) (pm_98 (by omega)) (hw.2.2.1 _ hs.1 hs.2).2.2.2.1.2 (fun i i0 i1 => pm_103 (by omega) (by omega)), ← a1, ← a2, ← a3, ← a4]
    unfold mvLast
    unfold lst
    by_cases hj : j = ρ 11 - 1
    · rw [if_neg (by omega), if_pos hj]
      subst hj
      rw [e0]
      refine ⟨?_, ?_, ?_, ?_⟩ <;> simp (disch := omega) only [wrC, cpI_at, cpI_ne, cpI_L, cpL_at, cpL_ne, cpL_I, sI_at, sI_ne, sI_nj, sI_L, sL_at, sL_ne, sL_nj, sL_I]
    · by_cases hj2 : k ≤ j ∧ j < ρ 11 - 1
      · rw [if_pos hj2, e0]
        rw [e0] at s1 s2 s3 s4
        refine ⟨?_, ?_, ?_, ?_⟩
        · simp (disch := omega) only [wrC, cpI_at, cpI_ne, cpI_L, cpL_at, cpL_ne, cpL_I, sI_at, sI_ne, sI_nj, sI_L, sL_at, sL_ne, sL_nj, sL_I]; rw [s2, if_pos (by omega)]
        · simp (disch := omega) only [wrC, cpI_at, cpI_ne, cpI_L, cpL_at, cpL_ne, cpL_I, sI_at, sI_ne, sI_nj, sI_L, sL_at, sL_ne, sL_nj, sL_I]; rw [s3, if_pos (by omega)]
        · simp (disch := omega) only [wrC, cpI_at, cpI_ne, cpI_L, cpL_at, cpL_ne, cpL_I, sI_at, sI_ne, sI_nj, sI_L, sL_at, sL_ne, sL_nj, sL_I]; rw [s4, if_pos (by omega)]
        · simp (disch := omega) only [wrC, cpI_at, cpI_ne, cpI_L, cpL_at, cpL_ne, cpL_I, sI_at, sI_ne, sI_nj, sI_L, sL_at, sL_ne, sL_nj, sL_I]; rw [s1, if_pos (by omega)]
      · rw [if_neg hj2, if_neg hj, e0]
        rw [e0] at s1 s2 s3 s4
        refine ⟨?_, ?_, ?_, ?_⟩
        · simp (disch := omega) only [wrC, cpI_at, cpI_ne, cpI_L, cpL_at, cpL_ne, cpL_I, sI_at, sI_ne, sI_nj, sI_L, sL_at, sL_ne, sL_nj, sL_I]; rw [s2, if_neg (by omega)]
        · simp (disch := omega) only [wrC, cpI_at, cpI_ne, cpI_L, cpL_at, cpL_ne, cpL_I, sI_at, sI_ne, sI_nj, sI_L, sL_at, sL_ne, sL_nj, sL_I]; rw [s3, if_neg (by omega)]
        · simp (disch := omega) only [wrC, cpI_at, cpI_ne, cpI_L, cpL_at, cpL_ne, cpL_I, sI_at, sI_ne, sI_nj, sI_L, sL_at, sL_ne, sL_nj, sL_I]; rw [s4, if_neg (by omega)]
        · simp (disch := omega) only [wrC, cpI_at, cpI_ne, cpI_L, cpL_at, cpL_ne, cpL_I, sI_at, sI_ne, sI_nj, sI_L, sL_at, sL_ne, sL_nj, sL_I]; rw [s1, if_neg (by omega)]
/-- one pallet fewer -/
theorem RelC.less {sh : Sh} {μ : Mem} {c : Nat} {ρ : Row} {k : Int} (h : RelC sh μ c (pmR ρ (lst k (ρ 11 - 1)))) (hw : WF ρ) (hk : 0 ≤ k ∧ k < ρ 11) : RelC sh (setI μ c 0 (ρ 11 - 1)) c (rset (pmR ρ (shf k (ρ 11 - 1))) 11 (ρ 11 - 1)) := by
  have hn := hw.1.1
  unfold WFn at hn
  obtain ⟨hI, e0, e5, e51, e52, e⟩ := h
  rw [pm_lo (by omega)] at e0 e5 e51 e52
  refine ⟨hI, by rw [sI_at, rset_eq], ?_, ?_, ?_, fun j j0 j1 => ?_⟩
  · rw [sI_nj (by omega), rset_ne (by omega), pm_lo (by omega), e5]
  · rw [sI_ne (by omega), rset_ne (by omega), pm_lo (by omega), e51]
  · rw [sI_ne (by omega), rset_ne (by omega), pm_lo (by omega), e52]
  · rw [rset_eq] at j1
    have es : lst k (ρ 11 - 1) j = shf k (ρ 11 - 1) j := by
      unfold lst shf
      by_cases h1 : k ≤ j ∧ j < ρ 11 - 1
      · rw [if_pos h1, if_pos h1]
      · rw [if_neg h1, if_neg h1, if_neg (by omega)]
    have hs : 0 ≤ shf k (ρ 11 - 1) j ∧ shf k (ρ 11 - 1) j < ρ 11 := by
      unfold shf
      split <;> omega
    obtain ⟨a1, a2, a3, a4⟩ := e j j0 (by rw [pm_lo (by omega)]; omega)
    rw [pm_83 (by omega), es] at a1
    rw [pm_88 (by omega), es] at a2
    rw [pm_93 (by omega), es] at a3
    rw [pkF_congr (ρ := ρ) (k := lst k (ρ 11 - 1) j) (pm_98 (by omega)) (by rw [es]; exact (hw.2.2.1 _ hs.1 hs.2).2.2.2.1.2) (fun i i0 i1 => pm_103 (by omega) (by omega)), es] at a4
    rw [sI_ne (by omega), sI_ne (by omega), sI_ne (by omega), sI_L, a1, a2, a3, a4, rset_ne (by omega), rset_ne (by omega), rset_ne (by omega), pm_83 (by omega), pm_88 (by omega), pm_93 (by omega), pkF_congr (ρ := ρ) (ρ' := rset (pmR ρ (shf k (ρ 11 - 1))) 11 (ρ 11 - 1)) (k := shf k (ρ 11 - 1) j) (k' := j) ((rset_ne (by omega)).trans (pm_98 (by omega))) (hw.2.2.1 _ hs.1 hs.2).2.2.2.1.2 (fun i i0 i1 => (rset_ne (by omega)).trans (pm_103 (by omega) (by omega)))]
    exact ⟨rfl, rfl, rfl, rfl⟩
/-- the table is as it was, or forgotten -/
def SameT (ρ ρ' : Row) : Prop := ∀ j, ¬ (93 ≤ j ∧ j < 98) → j ≠ 51 → j ≠ 52 → ρ' j = ρ j
def TabKept (μ μ2 : Mem) (ρ ρ' : Row) : Prop := (Kp (fun a => 172 ≤ a ∧ a < 182) μ μ2 ∧ SameT ρ ρ') ∨ (μ2.1 172 0 = 0 ∧ Kp (fun a => 173 ≤ a ∧ a < 182) μ μ2)
theorem TabKept.kp {μ μ2 : Mem} {ρ ρ' : Row} (h : TabKept μ μ2 ρ ρ') : Kp (fun a => 173 ≤ a ∧ a < 182) μ μ2 := h.elim (fun h => h.1.mono (fun q hq => by (try dsimp only at *); omega)) (fun h => h.2)
/-- a call of the class: what holds then, and what it leaves as it was -/
def XS (μ μ2 : Mem) (G0 G : Gh) (p pd c cd : Nat) : Prop := InX μ2 G p pd c cd ∧ Kp (fun a => 188 ≤ a) μ μ2 ∧ TabKept μ μ2 (gRow G0) (gRow G) ∧ μ2.2.2 = μ.2.2
theorem XS.rf {μ : Mem} {G : Gh} {p pd c cd : Nat} (h : InX μ G p pd c cd) : XS μ μ G G p pd c cd := ⟨h, Kp.rf _ _, Or.inl ⟨Kp.rf _ _, fun _ _ _ _ => rfl⟩, rfl⟩
theorem InX.cargo {μ μ2 : Mem} {G : Gh} {p pd c cd : Nat} (h : InX μ G p pd c cd) (hR : μ2.2.2 = μ.2.2) (hk : Kp (fun a => a < 188 ∧ ¬ (c ≤ a ∧ a < c + 6) ∧ ¬ (62 ≤ a ∧ a < 112) ∧ ¬ (172 ≤ a ∧ a < 182)) μ μ2) {ρ' : Row} {us' : List Row} (hC : RelC SH μ2 c ρ') (he : PlEq (gRow G) ρ') (hw : WF ρ') (h99 : W99 ρ') (hH : HistX μ2 ρ' us') : InX μ2 (ρ', us', G.2.2) p pd c cd := by
  obtain ⟨hL, hPos, ⟨hP, -, hw0, -⟩, -, ⟨hi0, hi1⟩, hT, hF, hTm⟩ := h
  have hc := hPos.2.1
  have hp := hPos.1
  refine ⟨by rw [hR]; exact hL, by rw [hR]; exact hPos, ⟨(hP.mono (hk.mono ?_)).row hw0.1 he, hC, hw, h99⟩, hH, ⟨hi0.mono (hk.mono ?_), hi1.mono (hk.mono ?_)⟩, hT.mono (congrFun (hk 2 (by (try dsimp only); omega)).1 1) (hk 3 (by (try dsimp only); omega)).1, ?_, hTm.mono (congrFun (hk 182 (by (try dsimp only); omega)).1 1) (hk 183 (by (try dsimp only); omega)).1⟩
  · intro q hq; (try dsimp only at *); omega
  · intro q hq; (try dsimp only at *); omega
  · intro q hq; (try dsimp only at *); omega
  · rw [(hk 0 (by (try dsimp only); omega)).1]; exact hF
theorem Kp.kx {S : Nat → Prop} {μ μ2 : Mem} {c : Nat} (h1 : Kp S μ μ2) (h : ∀ q, 62 ≤ q → q < 112 → ¬ S q) (hn : 0 ≤ μ2.1 62 1 ∧ μ2.1 62 1 < 8) : Kp S μ (kpX μ2 c) :=
  ((h1.cc (fun q q0 q1 => h q (by omega) (by omega))).sI (h 62 (by omega) (by omega))).sI (h 62 (by omega) (by omega))
