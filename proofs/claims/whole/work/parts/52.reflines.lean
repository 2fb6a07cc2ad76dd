/-! 52.reflines: the reference reads lines (wip/whole/src/52_reflines.py) -/
theorem sx_uniq : ∀ i : Nat, i < 13 → ∀ j : Nat, j < 13 → (sxB i).length = (sxB j).length → (∀ k : Nat, k < 6 → k < (sxB i).length → (sxB i).getD k 0 = (sxB j).getD k 0) → i = j := by decide +kernel
theorem tells_uniq {T : Tq} {τ : Sg} {i j : Nat} (hi : i < 13) (hj : j < 13) (h1 : tellsF T τ i = true) (h2 : tellsF T τ j = true) : i = j := by
  unfold tellsF at h1 h2
  rw [Bool.and_eq_true, decide_eq_true_eq, allF_iff] at h1 h2
  obtain ⟨⟨-, -, a⟩, b⟩ := h1
  obtain ⟨⟨-, -, c⟩, d⟩ := h2
  refine sx_uniq i hi j hj (by omega) fun k k0 k1 => ?_
  have p := of_decide_eq_true (b k (by omega) (by omega))
  have q := of_decide_eq_true (d k (by omega) (by omega))
  rw [Int.toNat_natCast] at p q
  rw [← p, q]
theorem known_iff {T : Tq} {τ : Sg} {k : Nat} (hk : k < 13) : knownF T τ = k ↔ tellsF T τ k = true := by
  rw [known_tells hk]
  refine ⟨fun h => h.1, fun h => ⟨h, fun j hj => ?_⟩⟩
  cases e : tellsF T τ j
  · rfl
  · have := tells_uniq (by omega) hk e h
    omega
/-- the reference while it reads: the token that comes is at hand -/
def RS (m : Nat) (μ : Mem) (T : Tq) (σ : Sg) (D : PD) : Prop := RTap m μ T ∧ (SgOK T σ ∧ sE σ = 0) ∧ AT m μ T (nxt T σ) ∧ Spr m μ D.1 ∧ NmsOK m μ D
def LRes (m : Nat) (μ : Mem) (T : Tq) (x : Int) (r : Sg × PD) (μ2 : Mem) : Prop := RT m μ μ2 ∧ ((x = 1 ∧ RS m μ2 T r.1 r.2) ∨ (x = 0 ∧ sE r.1 ≠ 0 ∧ μ2.1 m 14 = sE r.1 ∧ μ2.1 m 15 = sP r.1))
theorem LRes.x01 {m : Nat} {μ : Mem} {T : Tq} {x : Int} {r : Sg × PD} {μ2 : Mem} (h : LRes m μ T x r μ2) : x = 0 ∨ x = 1 := h.2.elim (fun h => Or.inr h.1) (fun h => Or.inl h.1)
theorem LRes.y {m : Nat} {μ : Mem} {T : Tq} {x : Int} {r : Sg × PD} {μ2 : Mem} (h : LRes m μ T x r μ2) (hx : x ≠ 0) : RS m μ2 T r.1 r.2 := (h.2.resolve_right (fun g => hx g.1)).2
theorem LRes.n {m : Nat} {μ : Mem} {T : Tq} {x : Int} {r : Sg × PD} {μ2 : Mem} (h : LRes m μ T x r μ2) (hx : x = 0) : sE r.1 ≠ 0 ∧ μ2.1 m 14 = sE r.1 ∧ μ2.1 m 15 = sP r.1 := (h.2.resolve_left (fun g => by have := g.1; omega)).2
/-- behind a fault nothing more is said -/
theorem LRes.no {m : Nat} {μ μ1 : Mem} {T : Tq} {x : Int} {r r' : Sg × PD} (h : LRes m μ T x r μ1) (hx : x = 0) (e : r'.1 = r.1) : LRes m μ T 0 r' μ1 := ⟨h.1, Or.inr ⟨rfl, by rw [e]; exact h.n hx⟩⟩
theorem LRes.pre {m : Nat} {μ0 μ μ1 : Mem} {T : Tq} {x : Int} {r : Sg × PD} (k : RT m μ0 μ) (h : LRes m μ T x r μ1) : LRes m μ0 T x r μ1 := ⟨k.tr h.1, h.2⟩
theorem RS.set {m : Nat} {μ : Mem} {T : Tq} {σ : Sg} {D : PD} (h : RS m μ T σ D) {c v : Int} (hc : c ≠ 4 ∧ c ≠ 8) : RS m (setI μ (m + 2) c v) T σ (rset D.1 c v, D.2) := by
  obtain ⟨h1, h2, h3, h4, h5⟩ := h
  refine ⟨h1.rt (RT.rf _ _).s2, h2, h3.of (fun j _ _ => sI_ne (by omega)) (setI_ne (by omega)), fun j j0 j1 => ?_, fun k hk => ?_⟩
  · dsimp only
    by_cases e : j = c
    · rw [e, sI_at, rset_eq]
    · rw [sI_nj e, rset_ne e]; exact h4 j j0 j1
  · unfold usedN at hk
    dsimp only at hk
    rw [rset_ne (by omega), rset_ne (by omega)] at hk
    have := h5 k hk
    rw [setI_ne (by omega)]
    exact this
theorem RS.cnt {m : Nat} {μ : Mem} {T : Tq} {σ : Sg} {D : PD} (h : RS m μ T σ D) (hc : cntOK D.1) {c s : Int} (hc2 : c = 4 ∧ s = D.1 4 ∨ c = 8 ∧ s = 3 + D.1 8) (hn : NmOK (fun i => μ.1 (m + 8) (8 * s + i)) (D.2.1 s)) : RS m (setI μ (m + 2) c (D.1 c + 1)) T σ (rset D.1 c (D.1 c + 1), D.2) := by
  obtain ⟨h1, h2, h3, h4, h5⟩ := h
  unfold cntOK at hc
  refine ⟨h1.rt (RT.rf _ _).s2, h2, h3.of (fun j _ _ => sI_ne (by omega)) (setI_ne (by omega)), fun j j0 j1 => ?_, fun k hk => ?_⟩
  · dsimp only
    by_cases e : j = c
    · rw [e, sI_at, rset_eq]
    · rw [sI_nj e, rset_ne e]; exact h4 j j0 j1
  · rw [setI_ne (by omega)]
    by_cases e : k = s
    · rw [e]; exact hn
    · refine h5 k ?_
      unfold usedN at hk ⊢
      dsimp only at hk
      rcases hc2 with ⟨rfl, rfl⟩ | ⟨rfl, rfl⟩
      · rw [rset_eq, rset_ne (by omega)] at hk; omega
      · rw [rset_eq, rset_ne (by omega)] at hk; omega
theorem takesR_of {m : Nat} {μ μ2 : Mem} {T : Tq} {σ : Sg} {D : PD} (hS : RS m μ T σ D) {cell lo hi x : Int} (h48 : cell ≠ 4 ∧ cell ≠ 8) (h : RT m μ μ2 ∧ μ2.1 (m + 8) = μ.1 (m + 8) ∧ ((sE (numC T σ lo hi).2 = 0 ∧ x = 1 ∧ AT m μ2 T (nxt T (numC T σ lo hi).2) ∧ μ2.1 (m + 2) = rset (μ.1 (m + 2)) cell (numC T σ lo hi).1) ∨ (sE (numC T σ lo hi).2 ≠ 0 ∧ x = 0 ∧ μ2.1 m 14 = sE (numC T σ lo hi).2 ∧ μ2.1 m 15 = sP (numC T σ lo hi).2))) : LRes m μ T x ((numC T σ lo hi).2, rset D.1 cell (numC T σ lo hi).1, D.2) μ2 ∧ μ2.1 (m + 8) = μ.1 (m + 8) := by
  obtain ⟨hT, ⟨hs, h0⟩, hA, hSp, hN⟩ := id hS
  obtain ⟨h1, h2, h3⟩ := h
  refine ⟨⟨h1, ?_⟩, h2⟩
  rcases h3 with ⟨a, rfl, b, c⟩ | ⟨a, rfl, b, c⟩
  · refine Or.inl ⟨rfl, hT.rt h1, ⟨(num_ok hT.2.1.2 hs lo hi).1, a⟩, b, fun j j0 j1 => ?_, fun k hk => ?_⟩
    · dsimp only
      rw [c]
      by_cases e : j = cell
      · rw [e, rset_eq, rset_eq]
      · rw [rset_ne e, rset_ne e]; exact hSp j j0 j1
    · unfold usedN at hk
      dsimp only at hk
      rw [rset_ne (by omega), rset_ne (by omega)] at hk
      rw [h2]
      exact hN k hk
  · exact Or.inr ⟨rfl, a, b, c⟩
theorem takesNameR_of {m : Nat} {μ μ2 : Mem} {T : Tq} {σ : Sg} {D : PD} (hS : RS m μ T σ D) (hc : cntOK D.1) {k0 x : Int} (hk0 : 0 ≤ k0 ∧ k0 < 6) (hu : ¬ usedN D.1 k0) (h : RT m μ μ2 ∧ μ2.1 (m + 2) = μ.1 (m + 2) ∧ ((sE (newN T σ D).2 = 0 ∧ x = 1 ∧ AT m μ2 T (nxt T (newN T σ D).2) ∧ NmOK (fun i => μ2.1 (m + 8) (8 * k0 + i)) (newN T σ D).1 ∧ ∀ j, (j < 8 * k0 ∨ 8 * k0 + 8 ≤ j) → μ2.1 (m + 8) j = μ.1 (m + 8) j) ∨ (sE (newN T σ D).2 ≠ 0 ∧ x = 0 ∧ μ2.1 m 14 = sE (newN T σ D).2 ∧ μ2.1 m 15 = sP (newN T σ D).2))) : LRes m μ T x ((newN T σ D).2, D.1, nset D.2.1 k0 (newN T σ D).1, D.2.2) μ2 ∧ (x = 1 → NmOK (fun i => μ2.1 (m + 8) (8 * k0 + i)) (newN T σ D).1) := by
  obtain ⟨hT, ⟨hs, h0⟩, hA, hSp, hN⟩ := id hS
  obtain ⟨h1, h2, h3⟩ := h
  refine ⟨⟨h1, ?_⟩, ?_⟩
  · rcases h3 with ⟨a, rfl, b, c, d⟩ | ⟨a, rfl, b, c⟩
    · refine Or.inl ⟨rfl, hT.rt h1, ⟨(newN_ok hT.2.1.2 hs D).1, a⟩, b, fun j j0 j1 => ?_, fun k hk => ?_⟩
      · rw [h2]; exact hSp j j0 j1
      · have hne : k ≠ k0 := fun e => hu (by rw [← e]; exact hk)
        have q := hN k hk
        dsimp only
        unfold nset
        rw [if_neg hne]
        obtain ⟨n, n1, n2, n3, n4⟩ := q
        unfold usedN at hk
        unfold cntOK at hc
        have e : ∀ i : Int, 0 ≤ i → i < 8 → μ2.1 (m + 8) (8 * k + i) = μ.1 (m + 8) (8 * k + i) := fun i i0 i1 => d _ (by omega)
        exact ⟨n, n1, fun i i0 i1 => by dsimp only; rw [e i i0 (by omega)]; exact n2 i i0 i1, fun i i0 i1 => by dsimp only; rw [e i (by omega) i1]; exact n3 i i0 i1, by rw [n4]; exact pkN_congr fun i i0 i1 => (e i i0 (by omega)).symm⟩
    · exact Or.inr ⟨rfl, a, b, c⟩
  · intro hx
    rcases h3 with ⟨a, b⟩ | ⟨a, b, c⟩
    · exact b.2.2.1
    · omega
theorem m_spanLine {sh : Sh} {μ : Mem} {m : Nat} {T : Tq} {σ : Sg} {D : PD} (hM : IsModel sh μ.2.2 m) (hS : RS m μ T σ D) (hc : cntOK D.1) (hf : D.2.2.2 ≠ 1)  : IMet yX12_spanLine gX12_spanLine sh [vR m] μ (fun x μ2 => LRes m μ T x (spanL T σ D) μ2) := by
  have hM0 := hM
  have hS0 := hS
  obtain ⟨g0, f1, z1, f2, z2, f3, z3, f4, z4, f5, z5, f6, z6, f7, z7, f8, z8, f9, z9, f10, z10, f11, z11, f12, z12, f13, z13, f14, z14⟩ := id hM
  obtain ⟨hT, ⟨hs, h0⟩, hA, hSp, hN⟩ := id hS
  obtain ⟨t1, t2, t3⟩ := id hT
  have hcn := hc
  unfold cntOK at hcn
  have e1 : spanS1 T σ D = numC T σ 0 99 := by unfold spanS1; rw [iff_neg hf]
  have e2 : spanS2 T σ D = numC T (numC T σ 0 99).2 ((numC T σ 0 99).1 + 1) 99 := by unfold spanS2; rw [e1]
  have hN : spanL T σ D = ((spanS2 T σ D).2, rset (rset D.1 2 (spanS1 T σ D).1) 3 (spanS2 T σ D).1, D.2.1, D.2.2.1, 1) := rfl
  have ok1 := num_ok t2.2 hs 0 99
  rw [hN, e2, e1]
  clear hN e1 e2
  refine AMet.of (by decide) rfl (by decide) rfl ?_
  refine r_aload_n dX12_spanLine_0 rfl ?_
  refine r_iconst dX12_spanLine_1 ?_
  refine r_iconst dX12_spanLine_2 ?_
  refine r_bipush dX12_spanLine_3 (by decide) ?_
  refine r_cV3I dX12_spanLine_5 ml_X12_135 yl_X12_takes ⟨rfl, rfl⟩ (by assumption) ⟨_, rfl⟩ rfl rfl rfl rfl (m_takes hM0 hS0.1 hS0.2.1.1 hS0.2.1.2 hS0.2.2.1 (cell := 2) (lo := 0) (hi := 99) (by omega) (by omega) (by omega)) ?_
  rintro x0 μ1 hraw
  obtain ⟨L0, N0⟩ := takesR_of hS0 (by omega) hraw
  clear hraw
  have x01 := L0.x01
  have hM1 : IsModel sh μ1.2.2 m := by rw [L0.1.1]; exact hM0
  clear g0 f1 f2 f3 f4 f5 f6 f7 f8 f9 f10 f11 f12 f13 f14
  obtain ⟨g0, f1, z1, f2, z2, f3, z3, f4, z4, f5, z5, f6, z6, f7, z7, f8, z8, f9, z9, f10, z10, f11, z11, f12, z12, f13, z13, f14, z14⟩ := id hM1
  clear z1 z3 z4 z5 z6 z9 z10 z11 z12 z13 z14
  refine q_if_eq (tgt := 33) dX12_spanLine_8 rfl (by omega) (fun c8 => ?_) (fun c8 => ?_)
  · refine r_iconst dX12_spanLine_33 ?_
    refine r_zreturn dX12_spanLine_34 (by first | exact Or.inl rfl | exact Or.inr rfl | exact b2i_01 _ | omega) rfl rfl rfl ?_
    refine ⟨rfl, _, rfl, ?_⟩
    first
    | exact ⟨L0.1.tr L1.1, Or.inl ⟨rfl, L1.y (by omega)⟩⟩
    | exact (L1.pre L0.1).no (by omega) rfl
    | exact L0.no (by omega) (by show (numC T (numC T σ 0 99).2 ((numC T σ 0 99).1 + 1) 99).2 = _; rw [num_no (L0.n (by omega)).1])
  · have hS1 := L0.y (by omega)
    have e2 := hS1.2.2.2.1 2 (by omega) (by omega)
    dsimp only at e2
    rw [rset_eq] at e2
    refine r_aload_n dX12_spanLine_11 rfl ?_
    refine r_iconst dX12_spanLine_12 ?_
    refine r_aload_n dX12_spanLine_13 rfl ?_
    refine r_getR dX12_spanLine_14 fl_X12_13 rfl (by assumption) (by assumption) ?_
    refine r_iconst dX12_spanLine_17 ?_
    refine r_iald dX12_spanLine_18 (by assumption) rfl (by omega) ?_
    rw [e2]
    refine r_iconst dX12_spanLine_19 ?_
    refine r_iadd dX12_spanLine_20 ?_
    refine r_bipush dX12_spanLine_21 (by decide) ?_
    refine r_cV3I dX12_spanLine_23 ml_X12_135 yl_X12_takes ⟨rfl, rfl⟩ (by assumption) ⟨_, rfl⟩ rfl rfl rfl rfl (m_takes hM1 hS1.1 hS1.2.1.1 hS1.2.1.2 hS1.2.2.1 (cell := 3) (lo := (numC T σ 0 99).1 + 1) (hi := 99) (by omega) (by omega) (by omega)) ?_
    rintro x1 μ2 hraw
    obtain ⟨L1, N1⟩ := takesR_of hS1 (by omega) hraw
    clear hraw
    have x11 := L1.x01
    have hM2 : IsModel sh μ2.2.2 m := by rw [L1.1.1]; exact hM1
    clear g0 f1 f2 f3 f4 f5 f6 f7 f8 f9 f10 f11 f12 f13 f14
    obtain ⟨g0, f1, z1, f2, z2, f3, z3, f4, z4, f5, z5, f6, z6, f7, z7, f8, z8, f9, z9, f10, z10, f11, z11, f12, z12, f13, z13, f14, z14⟩ := id hM2
    clear z1 z3 z4 z5 z6 z9 z10 z11 z12 z13 z14
    refine q_if_eq (tgt := 33) dX12_spanLine_26 rfl (by omega) (fun c26 => ?_) (fun c26 => ?_)
    · refine r_iconst dX12_spanLine_33 ?_
      refine r_zreturn dX12_spanLine_34 (by first | exact Or.inl rfl | exact Or.inr rfl | exact b2i_01 _ | omega) rfl rfl rfl ?_
      refine ⟨rfl, _, rfl, ?_⟩
      first
      | exact ⟨L0.1.tr L1.1, Or.inl ⟨rfl, L1.y (by omega)⟩⟩
      | exact (L1.pre L0.1).no (by omega) rfl
      | exact L0.no (by omega) (by show (numC T (numC T σ 0 99).2 ((numC T σ 0 99).1 + 1) 99).2 = _; rw [num_no (L0.n (by omega)).1])
    · refine r_iconst dX12_spanLine_29 ?_
      refine r_goto (tgt := 34) dX12_spanLine_30 rfl ?_
      refine r_zreturn dX12_spanLine_34 (by first | exact Or.inl rfl | exact Or.inr rfl | exact b2i_01 _ | omega) rfl rfl rfl ?_
      refine ⟨rfl, _, rfl, ?_⟩
      first
      | exact ⟨L0.1.tr L1.1, Or.inl ⟨rfl, L1.y (by omega)⟩⟩
      | exact (L1.pre L0.1).no (by omega) rfl
      | exact L0.no (by omega) (by show (numC T (numC T σ 0 99).2 ((numC T σ 0 99).1 + 1) 99).2 = _; rw [num_no (L0.n (by omega)).1])
