/-! 25.xcalls: taken from whole (wip/p37/port.py) -/
variable {n_ : Sh}
/-! 25.xcalls: the class's calls that change its cargo (wip/whole/src/25_xcalls.py) -/
theorem W99.set {ρ : Row} (h : W99 ρ) {j x : Int} (hj : 12 ≤ j) (hx : 83 ≤ j ∧ j < 88 → x ≤ 99) (h5 : ρ 11 ≤ 5) : W99 (rset ρ j x) := by
  intro k k0 k1
  rw [rset_ne (by omega)] at k1
  by_cases e : 83 + k = j
  · rw [e, rset_eq]; exact hx (by omega)
  · rw [rset_ne e]; exact h k k0 k1
theorem RelC.setS {sh : Sh} {μ : Mem} {c : Nat} {ρ : Row} (h : RelC sh μ c ρ) (hw : WF ρ) {k s : Int} (hk : 0 ≤ k ∧ k < 5) : RelC sh (setI μ (c + 4) k s) c (rset ρ (93 + k) s) := by
  have hn := hw.1.1
  unfold WFn at hn
  obtain ⟨hI, e0, e5, e51, e52, e⟩ := h
  refine ⟨hI, ?_, ?_, ?_, ?_, fun j j0 j1 => ?_⟩
  · rw [sI_ne (by omega), rset_ne (by omega), e0]
  · rw [sI_ne (by omega), rset_ne (by omega), e5]
  · rw [sI_ne (by omega), rset_ne (by omega), e51]
  · rw [sI_ne (by omega), rset_ne (by omega), e52]
  · rw [rset_ne (by omega)] at j1
    obtain ⟨a1, a2, a3, a4⟩ := e j j0 j1
    refine ⟨by rw [sI_ne (by omega), rset_ne (by omega), a1], by rw [sI_ne (by omega), rset_ne (by omega), a2], ?_, ?_⟩
    · by_cases hj : j = k
      · subst hj
        rw [sI_at, rset_eq]
      · rw [sI_nj hj, rset_ne (by omega), a3]
    · rw [sI_L, a4]
      exact (pkF_congr (rset_ne (by omega)) (hw.2.2.1 j j0 j1).2.2.2.1.2 (fun i i0 i1 => rset_ne (by omega))).symm
theorem RelC.setW {sh : Sh} {μ : Mem} {c : Nat} {ρ : Row} (h : RelC sh μ c ρ) (hw : WF ρ) {k s : Int} (hk : 0 ≤ k ∧ k < 5) : RelC sh (setI μ (c + 2) k s) c (rset ρ (83 + k) s) := by
  have hn := hw.1.1
  unfold WFn at hn
  obtain ⟨hI, e0, e5, e51, e52, e⟩ := h
  refine ⟨hI, ?_, ?_, ?_, ?_, fun j j0 j1 => ?_⟩
  · rw [sI_ne (by omega), rset_ne (by omega), e0]
  · rw [sI_ne (by omega), rset_ne (by omega), e5]
  · rw [sI_ne (by omega), rset_ne (by omega), e51]
  · rw [sI_ne (by omega), rset_ne (by omega), e52]
  · rw [rset_ne (by omega)] at j1
    obtain ⟨a1, a2, a3, a4⟩ := e j j0 j1
    refine ⟨?_, by rw [sI_ne (by omega), rset_ne (by omega), a2], by rw [sI_ne (by omega), rset_ne (by omega), a3], ?_⟩
    · by_cases hj : j = k
      · subst hj
        rw [sI_at, rset_eq]
      · rw [sI_nj hj, rset_ne (by omega), a1]
    · rw [sI_L, a4]
      exact (pkF_congr (rset_ne (by omega)) (hw.2.2.1 j j0 j1).2.2.2.1.2 (fun i i0 i1 => rset_ne (by omega))).symm
theorem RelC.setB {sh : Sh} {μ : Mem} {c : Nat} {ρ : Row} (h : RelC sh μ c ρ) (hw : WF ρ) {b s : Int} (hk : 0 ≤ b ∧ b < 2) : RelC sh (setI μ (c + 5) b s) c (rset ρ (51 + b) s) := by
  have hn := hw.1.1
  unfold WFn at hn
  obtain ⟨hI, e0, e5, e51, e52, e⟩ := h
  refine ⟨hI, ?_, ?_, ?_, ?_, fun j j0 j1 => ?_⟩
  · rw [sI_ne (by omega), rset_ne (by omega), e0]
  · rw [sI_ne (by omega), rset_ne (by omega), e5]
  · by_cases hj : b = 0
    · subst hj
      exact sI_at.trans (by rw [show (51 : Int) + 0 = 51 from rfl, rset_eq])
    · rw [sI_nj (by omega), rset_ne (by omega), e51]
  · by_cases hj : b = 1
    · subst hj
      exact sI_at.trans (by rw [show (51 : Int) + 1 = 52 from rfl, rset_eq])
    · rw [sI_nj (by omega), rset_ne (by omega), e52]
  · rw [rset_ne (by omega)] at j1
    obtain ⟨a1, a2, a3, a4⟩ := e j j0 j1
    refine ⟨by rw [sI_ne (by omega), rset_ne (by omega), a1], by rw [sI_ne (by omega), rset_ne (by omega), a2], by rw [sI_ne (by omega), rset_ne (by omega), a3], ?_⟩
    rw [sI_L, a4]
    exact (pkF_congr (rset_ne (by omega)) (hw.2.2.1 j j0 j1).2.2.2.1.2 (fun i i0 i1 => rset_ne (by omega))).symm
/-- the table is as it was, or forgotten -/
def SameT (ρ ρ' : Row) : Prop := ∀ j, ¬ (93 ≤ j ∧ j < 98) → j ≠ 51 → j ≠ 52 → ρ' j = ρ j
def TabKept (μ μ2 : Mem) (ρ ρ' : Row) : Prop := (Kp (fun a => 172 ≤ a ∧ a < 182) μ μ2 ∧ SameT ρ ρ') ∨ (μ2.1 172 0 = 0 ∧ Kp (fun a => 173 ≤ a ∧ a < 182) μ μ2)
theorem TabKept.kp {μ μ2 : Mem} {ρ ρ' : Row} (h : TabKept μ μ2 ρ ρ') : Kp (fun a => 173 ≤ a ∧ a < 182) μ μ2 := h.elim (fun h => h.1.mono (fun q hq => by (try dsimp only at *); omega)) (fun h => h.2)
/-- a call of the class: what holds then, and what it leaves as it was -/
def XS (n_ : Sh) (μ μ2 : Mem) (G0 G : Gh) (p pd c cd : Nat) : Prop := InX n_ μ2 G p pd c cd ∧ Kp (fun a => 188 ≤ a) μ μ2 ∧ TabKept μ μ2 (gRow G0) (gRow G) ∧ μ2.2.2 = μ.2.2
theorem XS.rf {μ : Mem} {G : Gh} {p pd c cd : Nat} (h : InX n_ μ G p pd c cd) : XS n_ μ μ G G p pd c cd := ⟨h, Kp.rf _ _, Or.inl ⟨Kp.rf _ _, fun _ _ _ _ => rfl⟩, rfl⟩
theorem InX.cargo {μ μ2 : Mem} {G : Gh} {p pd c cd : Nat} (h : InX n_ μ G p pd c cd) (hR : μ2.2.2 = μ.2.2) (hk : Kp (fun a => a < 188 ∧ ¬ (c ≤ a ∧ a < c + 6) ∧ ¬ (62 ≤ a ∧ a < 112) ∧ ¬ (172 ≤ a ∧ a < 182)) μ μ2) {ρ' : Row} {us' : List Row} (hC : RelC (SH n_) μ2 c ρ') (he : PlEq (gRow G) ρ') (hw : WF ρ') (h99 : W99 ρ') (hH : HistX n_ μ2 ρ' us') : InX n_ μ2 (ρ', us', G.2.2) p pd c cd := by
  obtain ⟨hL, hPos, ⟨hP, -, hw0, -⟩, -, ⟨hi0, hi1⟩, hT, hF, hTm⟩ := h
  have hc := hPos.2.1
  have hp := hPos.1
  refine ⟨by rw [hR]; exact hL, by rw [hR]; exact hPos, ⟨(hP.mono (hk.mono ?_)).row hw0.1 he, hC, hw, h99⟩, hH, ⟨hi0.mono (hk.mono ?_), hi1.mono (hk.mono ?_)⟩, hT.mono (congrFun (hk 2 (by (try dsimp only); omega)).1 1) (hk 3 (by (try dsimp only); omega)).1, ?_, hTm.mono (congrFun (hk 182 (by (try dsimp only); omega)).1 1) (hk 183 (by (try dsimp only); omega)).1⟩
  · intro q hq; (try dsimp only at *); omega
  · intro q hq; (try dsimp only at *); omega
  · intro q hq; (try dsimp only at *); omega
  · rw [(hk 0 (by (try dsimp only); omega)).1]; exact hF
theorem Kp.kx {S : Nat → Prop} {μ μ2 : Mem} {c : Nat} (h1 : Kp S μ μ2) (h : ∀ q, 62 ≤ q → q < 112 → ¬ S q) (hn : 0 ≤ μ2.1 62 1 ∧ μ2.1 62 1 < 8) : Kp S μ (kpX μ2 c) :=
  ((h1.cc (fun q q0 q1 => h q (by omega) (by omega))).sI (h 62 (by omega) (by omega))).sI (h 62 (by omega) (by omega))

