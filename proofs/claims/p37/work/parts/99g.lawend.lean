/-! 99g.lawend: the law's end: all is undone (wip/p37/src/99g.py) -/
abbrev TL (tl : Sh) : Sh := (20, 160) :: (20, 23) :: (20, 12) :: (20, 3) :: tl
/-- as it was at first -/
def INITR (n : Int) (u : Row) : Prop := u 11 = n ∧ u 7 = 1 ∧ u 51 = 0 ∧ ∀ k, 0 ≤ k → k < n → u (93 + k) = -1
/-- what undoing brings back, when so many acts were done -/
def UI (n : Int) (G : Gh) (acts : Int) : Prop := (0 ≤ acts ∧ acts ≤ 12) ∧ ((gUnd G).length : Int) = min 8 acts ∧ (acts ≤ 8 → ∃ u, (gRow G :: gUnd G)[(gUnd G).length]? = some u ∧ INITR n u)
def InE (n_ : Sh) (μ : Mem) (G : Gh) : Prop := ∃ p pd c cd, InX n_ μ G p pd c cd
def PL : Option AV → Sh → Mem → Prop := fun r _ _ => r = some (vI 1)
theorem undo_nil {G : Gh} (h : gUnd G = []) : undoF G = (-1, G) := by
  unfold undoF
  rw [h]
theorem undo_cons {G : Gh} {u : Row} {t : List Row} (h : gUnd G = u :: t) : undoF G = ((t.length : Int), (u, t, G.2.2)) := by
  unfold undoF
  rw [h]
theorem InX.now {n_ : Sh} {μ : Mem} {G : Gh} {p pd c cd : Nat} (h : InX n_ μ G p pd c cd) : Now (SH n_) μ 0 p c (gRow G) := ⟨rfl, h.2.1.2.2.1, h.2.1.2.2.2.2.1, h.2.2.1.1, h.2.2.1.2.1, h.2.2.1.2.2.1⟩
section LAWEND
variable {tl : Sh} {μ : Mem} {cs ss : Nat} {po acts : Int}
set_option maxRecDepth 100000 in
set_option maxHeartbeats 4000000 in
theorem le_pal (hC : Nat.ble cs (gM gL_law) = true) (hS : Nat.ble ss (gS gL_law) = true) {G : Gh} (hX : InE (TL tl) μ G) (hI : INITR (μ.1 190 11) (gRow G)) (hn : 0 ≤ μ.1 190 11 ∧ μ.1 190 11 ≤ 3) : ∀ (n : Nat) (k : Int), 0 ≤ k → k + n = μ.1 190 11 → AL gL_law (SH (TL tl)) μ cs ss 851 [some (vX 62), some (vR 0), some (vR 188), some (vR 189), some (vR 190), some (vR 191), some (vI po), some (vI acts), some (vI k), none, none, none, none, none, none, none, none, none, none, none] [] PL := by
  have x0 : (SH (TL tl))[0]? = some (10, 11) := rfl
  have a188 : (SH (TL tl))[188]? = some (20, 160) := rfl
  have a189 : (SH (TL tl))[189]? = some (20, 23) := rfl
  have a190 : (SH (TL tl))[190]? = some (20, 12) := rfl
  have a191 : (SH (TL tl))[191]? = some (20, 3) := rfl
  obtain ⟨p, pd, c, cd, hX⟩ := hX
  obtain ⟨i11, i7, i51, ik⟩ := hI
  intro n
  induction n with
  | zero =>
    intro k k0 k1
    have hin : FMet yX11_in gX11_in (SH (TL tl)) [vR 0, vI 0, vI 0] μ (some (vI 0)) μ := by
      have e : inF (gRow G) 0 0 = 0 := by
        unfold inF
        rw [if_pos ⟨rfl, by omega, by omega⟩]
        exact i51
      have q := x_in hX.now (w := 0) (k := 0) (by omega) (by omega)
      rw [e] at q
      exact q
    refine l_iload dL_law_851 rfl ?_
    refine l_aload dL_law_853 rfl ?_
    refine l_bipush dL_law_855 (by decide) ?_
    refine l_iald dL_law_857 (by assumption) rfl (by omega) ?_
    refine lq_icmp_ge (tgt := 880) dL_law_858 rfl (by omega) (by omega) (fun c858 => ?_) (fun c858 => ?_)
    · refine l_aload_n dL_law_880 rfl ?_
      refine l_iconst dL_law_881 ?_
      refine l_iconst dL_law_882 ?_
      refine l_cV2F1 dL_law_883 ml_L_132 yl_X11_in ⟨rfl, rfl⟩ (by assumption) ⟨_, rfl⟩ rfl rfl hC hS (hin) ?_
      refine lq_if_ne (tgt := 893) dL_law_886 rfl (by omega) (fun c886 => ?_) (fun c886 => ?_)
      · exfalso; omega
      · refine l_iconst dL_law_889 ?_
        refine l_goto (tgt := 894) dL_law_890 rfl ?_
        refine l_zreturn dL_law_894 (by first | exact Or.inl rfl | exact Or.inr rfl | exact b2i_01 _ | omega) rfl hC hS ?_
        rfl
    · exfalso; omega
  | succ n ih =>
    intro k k0 k1
    have hpal : FMet yX11_pallet gX11_pallet (SH (TL tl)) [vR 0, vI k, vI 2] μ (some (vI (-1))) μ := by
      have e : palletF (gRow G) k 2 = -1 := by
        unfold palletF
        rw [if_pos (by omega)]
        exact ik k k0 (by omega)
      rw [← e]
      exact x_pallet hX (by omega) (by omega)
    refine l_iload dL_law_851 rfl ?_
    refine l_aload dL_law_853 rfl ?_
    refine l_bipush dL_law_855 (by decide) ?_
    refine l_iald dL_law_857 (by assumption) rfl (by omega) ?_
    refine lq_icmp_ge (tgt := 880) dL_law_858 rfl (by omega) (by omega) (fun c858 => ?_) (fun c858 => ?_)
    · exfalso; omega
    · refine l_aload_n dL_law_861 rfl ?_
      refine l_iload dL_law_862 rfl ?_
      refine l_iconst dL_law_864 ?_
      refine l_cV2F1 dL_law_865 ml_L_135 yl_X11_pallet ⟨rfl, rfl⟩ (by assumption) ⟨_, rfl⟩ rfl rfl hC hS (hpal) ?_
      refine l_iconst dL_law_868 ?_
      refine lq_icmp_eq (tgt := 874) dL_law_869 rfl (by omega) (by omega) (fun c869 => ?_) (fun c869 => ?_)
      · refine l_iinc dL_law_874 rfl rfl ?_
        refine l_goto (tgt := 851) dL_law_877 rfl ?_
        exact ih (k + 1) (by omega) (by omega)
      · exfalso; omega
set_option maxRecDepth 100000 in
set_option maxHeartbeats 4000000 in
theorem le_undo (hC : Nat.ble cs (gM gL_law) = true) (hS : Nat.ble ss (gS gL_law) = true) (hn : 0 ≤ μ.1 190 11 ∧ μ.1 190 11 ≤ 3) (ha : 0 ≤ acts ∧ acts ≤ 12) : ∀ (n : Nat) (k : Int) (G : Gh) (m : Mem), k = n → (gUnd G).length = n → InE (TL tl) m G → m.1 190 = μ.1 190 → (acts ≤ 8 → ∃ u, (gRow G :: gUnd G)[n]? = some u ∧ INITR (μ.1 190 11) u) → AL gL_law (SH (TL tl)) m cs ss 805 [some (vX 62), some (vR 0), some (vR 188), some (vR 189), some (vR 190), some (vR 191), some (vI po), some (vI acts), some (vI k), none, none, none, none, none, none, none, none, none, none, none] [] PL := by
  have x0 : (SH (TL tl))[0]? = some (10, 11) := rfl
  have a188 : (SH (TL tl))[188]? = some (20, 160) := rfl
  have a189 : (SH (TL tl))[189]? = some (20, 23) := rfl
  have a190 : (SH (TL tl))[190]? = some (20, 12) := rfl
  have a191 : (SH (TL tl))[191]? = some (20, 3) := rfl
  intro n
  induction n with
  | zero =>
    intro k G m hk hl hXE e190 hI
    obtain ⟨p, pd, c, cd, hX⟩ := id hXE
    have hnil : gUnd G = [] := List.length_eq_zero_iff.mp hl
    have hu := x_undo hX
    rw [undo_nil hnil] at hu
    refine l_iload dL_law_805 rfl ?_
    refine lq_if_le (tgt := 829) dL_law_807 rfl (by omega) (fun c807 => ?_) (fun c807 => ?_)
    · refine l_aload_n dL_law_829 rfl ?_
      refine l_cV0I dL_law_830 ml_L_152 yl_X11_undo ⟨rfl, rfl⟩ (by assumption) ⟨_, rfl⟩ rfl rfl hC hS (hu) ?_
      rintro x m2 ⟨hx, hXS⟩
      dsimp only at hx
      refine l_iconst dL_law_833 ?_
      refine lq_icmp_eq (tgt := 839) dL_law_834 rfl (by omega) (by omega) (fun c834 => ?_) (fun c834 => ?_)
      · refine l_iload dL_law_839 rfl ?_
        refine l_bipush dL_law_841 (by decide) ?_
        refine lq_icmp_le (tgt := 848) dL_law_843 rfl (by omega) (by omega) (fun c843 => ?_) (fun c843 => ?_)
        · refine l_iconst dL_law_848 ?_
          refine l_istore dL_law_849 rfl ?_
          obtain ⟨u, hu1, hu2⟩ := hI (by omega)
          obtain rfl : gRow G = u := by simpa using hu1
          have e2 : m2.1 190 = m.1 190 := (hXS.2.1 190 (by (try dsimp only); omega)).1
          rw [← e190, ← e2] at hu2 hn
          refine AL.lw (le_pal hC hS ⟨p, pd, c, cd, hXS.1⟩ hu2 hn (m2.1 190 11).toNat 0 (by omega) (by omega)) (by repeat first | exact trivial | refine And.intro rfl ?_)
        · refine l_iconst dL_law_846 ?_
          refine l_zreturn dL_law_847 (by first | exact Or.inl rfl | exact Or.inr rfl | exact b2i_01 _ | omega) rfl hC hS ?_
          rfl
      · exfalso; omega
    · exfalso; omega
  | succ n ih =>
    intro k G m hk hl hXE e190 hI
    obtain ⟨p, pd, c, cd, hX⟩ := id hXE
    obtain ⟨u, t, hut⟩ : ∃ u t, gUnd G = u :: t := by
      cases hg : gUnd G with
      | nil => rw [hg] at hl; cases hl
      | cons u t => exact ⟨u, t, rfl⟩
    have h8 : (gUnd G).length ≤ 8 := hX.2.2.2.1.1
    have ht : t.length = n := by rw [hut] at hl; simpa using hl
    have hu := x_undo hX
    rw [undo_cons hut] at hu
    refine l_iload dL_law_805 rfl ?_
    refine lq_if_le (tgt := 829) dL_law_807 rfl (by omega) (fun c807 => ?_) (fun c807 => ?_)
    · exfalso; omega
    · refine l_aload_n dL_law_810 rfl ?_
      refine l_cV0I dL_law_811 ml_L_152 yl_X11_undo ⟨rfl, rfl⟩ (by assumption) ⟨_, rfl⟩ rfl rfl hC hS (hu) ?_
      rintro x m2 ⟨hx, hXS⟩
      dsimp only at hx
      refine l_iload dL_law_814 rfl ?_
      refine l_iconst dL_law_816 ?_
      refine l_isub dL_law_817 ?_
      refine lq_icmp_eq (tgt := 823) dL_law_818 rfl (by omega) (by omega) (fun c818 => ?_) (fun c818 => ?_)
      · refine l_iinc dL_law_823 rfl rfl ?_
        refine l_goto (tgt := 805) dL_law_826 rfl ?_
        have e2 : m2.1 190 = m.1 190 := (hXS.2.1 190 (by (try dsimp only); omega)).1
        refine ih (k + -1) _ m2 (by omega) ht ⟨p, pd, c, cd, hXS.1⟩ (e2.trans e190) (fun h => ?_)
        obtain ⟨w, hw1, hw2⟩ := hI h
        refine ⟨w, ?_, hw2⟩
        rw [hut] at hw1
        simpa using hw1
      · exfalso; omega
set_option maxRecDepth 100000 in
set_option maxHeartbeats 4000000 in
theorem le_end (hC : Nat.ble cs (gM gL_law) = true) (hS : Nat.ble ss (gS gL_law) = true) {G : Gh} (hX : InE (TL tl) μ G) (hU : UI (μ.1 190 11) G acts) (hn : 0 ≤ μ.1 190 11 ∧ μ.1 190 11 ≤ 3) : AL gL_law (SH (TL tl)) μ cs ss 796 [some (vX 62), some (vR 0), some (vR 188), some (vR 189), some (vR 190), some (vR 191), some (vI po), some (vI acts), none, none, none, none, none, none, none, none, none, none, none, none] [] PL := by
  obtain ⟨ha, hl, hI⟩ := hU
  refine l_bipush dL_law_796 (by decide) ?_
  refine l_iload dL_law_798 rfl ?_
  refine l_cS2F1 dL_law_800 ml_L_147 yl_J9_min_7cf53 ⟨rfl, rfl⟩ rfl rfl hC hS (j_min (by omega) (by omega)) ?_
  refine l_istore dL_law_803 rfl ?_
  refine AL.lw (le_undo hC hS hn ha (gUnd G).length (min 8 acts) G μ hl.symm rfl hX rfl hI) (by repeat first | exact trivial | refine And.intro rfl ?_)
end LAWEND
