/-! 99h.lawask: the law's questions after each act (wip/p37/src/99h.py) -/
/-- the law's and the class's state agree -/
def SB (tl : Sh) (μ : Mem) (G : Gh) (po : Int) : Prop := InE (TL tl) μ G ∧ LR (μ.1 189) (μ.1 190) (μ.1 191) po (gRow G)
section LAWASK
variable {tl : Sh} {μ : Mem} {G : Gh} {cs ss : Nat} {po acts i out : Int}
set_option maxRecDepth 100000 in
set_option maxHeartbeats 4000000 in
theorem la_stage (hC : Nat.ble cs (gM gL_law) = true) (hS : Nat.ble ss (gS gL_law) = true) (hSB : SB tl μ G po) (hi : 4 ≤ i ∧ i < 16) (hout : out = outF (gRow G)) (K : AL gL_law (SH (TL tl)) μ cs ss 73 [some (vX 62), some (vR 0), some (vR 188), some (vR 189), some (vR 190), some (vR 191), some (vI po), some (vI acts), some (vI (i + 1)), none, none, none, none, none, none, none, none, none, none, none] [] PL) : ∀ (n : Nat) (k : Int), 0 ≤ k → k + n = 5 → AL gL_law (SH (TL tl)) μ cs ss 660 [some (vX 62), some (vR 0), some (vR 188), some (vR 189), some (vR 190), some (vR 191), some (vI po), some (vI acts), some (vI i), none, none, none, none, none, none, none, some (vI out), some (vI k), none, none] [] PL := by
  have x0 : (SH (TL tl))[0]? = some (10, 11) := rfl
  have a188 : (SH (TL tl))[188]? = some (20, 160) := rfl
  have a189 : (SH (TL tl))[189]? = some (20, 23) := rfl
  have a190 : (SH (TL tl))[190]? = some (20, 12) := rfl
  have a191 : (SH (TL tl))[191]? = some (20, 3) := rfl
  obtain ⟨⟨p, pd, c, cd, hX⟩, hL⟩ := hSB
  obtain ⟨hp, ⟨e11, e12, e51, hrow⟩, hw, hz, ⟨⟨n0, n3⟩, hcb, hc10, hpo⟩⟩ := id hL
  obtain ⟨⟨p0, p1, p2, p3⟩, ⟨b1, b2, b3, b4, b5, b6, b7⟩, -⟩ := id hp
  have hN := hX.now
  have z99 := hz.le99
  have hcnt : FMet yX11_count gX11_count (SH (TL tl)) [vR 0, vI 9] μ (some (vI out)) μ := by
    have e : countF (gRow G) (gTl G) 9 = out := by
      rw [hout]
      rfl
    have q := x_count hX (w := 9) (by omega)
    rw [e] at q
    exact q
  have hbad : FMet yX11_stage gX11_stage (SH (TL tl)) [vR 0, vI 5, vI 0] μ (some (vI (-1000000))) μ := by
    have e : stageF (gRow G) 5 0 = -1000000 := by
      unfold stageF
      rw [if_neg (by omega)]
    have q := x_stage hN (i := 5) (w := 0) (by omega) (by omega)
    rw [e] at q
    exact q
  have hob : 0 ≤ out ∧ out ≤ 3 := by
    have q := sumF_bound (f := fun k => if gRow G (93 + k) < 0 then 1 else 0) (lo := 0) (hi := 1) (gRow G 11).toNat 0 (fun j _ _ => by
      try dsimp only
      split <;> omega) (by omega) (by omega)
    have e : outF (gRow G) = sumF (fun k => if gRow G (93 + k) < 0 then 1 else 0) (gRow G 11).toNat 0 := rfl
    omega
  intro n
  induction n with
  | zero =>
    intro k k0 k1
    refine l_iload dL_law_660 rfl ?_
    refine l_iconst dL_law_662 ?_
    refine lq_icmp_ge (tgt := 766) dL_law_663 rfl (by omega) (by omega) (fun c663 => ?_) (fun c663 => ?_)
    · refine l_aload_n dL_law_766 rfl ?_
      refine l_bipush dL_law_767 (by decide) ?_
      refine l_cV1F1 dL_law_769 ml_L_143 yl_X11_count ⟨rfl, rfl⟩ (by assumption) ⟨_, rfl⟩ rfl rfl hC hS (hcnt) ?_
      refine l_iload dL_law_772 rfl ?_
      refine lq_icmp_ne (tgt := 788) dL_law_774 rfl (by omega) (by omega) (fun c774 => ?_) (fun c774 => ?_)
      · exfalso; omega
      · refine l_aload_n dL_law_777 rfl ?_
        refine l_iconst dL_law_778 ?_
        refine l_iconst dL_law_779 ?_
        refine l_cV2F1 dL_law_780 ml_L_141 yl_X11_stage ⟨rfl, rfl⟩ (by assumption) ⟨_, rfl⟩ rfl rfl hC hS (hbad) ?_
        refine l_ldc (x := -1000000) dL_law_783 kl_L_146 rfl ?_
        refine lq_icmp_eq (tgt := 790) dL_law_785 rfl (by omega) (by omega) (fun c785 => ?_) (fun c785 => ?_)
        · refine l_iinc dL_law_790 rfl rfl ?_
          refine l_goto (tgt := 73) dL_law_793 rfl ?_
          exact AL.lw K (by repeat first | exact trivial | refine And.intro rfl ?_)
        · exfalso; omega
    · exfalso; omega
  | succ n ih =>
    intro k k0 k1
    have hS0 : FMet yL_stage gL_stage (SH (TL tl)) [vR 189, vR 190, vR 191, vI po, vI k, vI 0] μ (some (vI (stW (gRow G) k))) μ := by
      rw [stW_eq hL (by omega)]
      exact c_stage a189 a190 a191 hL.2.2.2.2 (by omega) (Or.inl rfl)
    have hS1 : FMet yL_stage gL_stage (SH (TL tl)) [vR 189, vR 190, vR 191, vI po, vI k, vI 1] μ (some (vI (stM (gRow G) k))) μ := by
      rw [stM_eq hL (by omega)]
      exact c_stage a189 a190 a191 hL.2.2.2.2 (by omega) (Or.inr rfl)
    have ss := st_small hL (i := k) (by omega)
    have m2 := mulr ss.1 (z99 2 (by omega) (by omega))
    have m3 := mulr ss.1 (z99 3 (by omega) (by omega))
    have q0 : FMet yX11_stage gX11_stage (SH (TL tl)) [vR 0, vI k, vI 0] μ (some (vI (stW (gRow G) k))) μ := by
      have e : stageF (gRow G) k 0 = stW (gRow G) k := by
        unfold stageF
        rw [if_pos (by omega)]
        simp [p2, p3]
      have q := x_stage hN (i := k) (w := 0) (by omega) (by omega)
      rw [e] at q
      exact q
    have q1 : FMet yX11_stage gX11_stage (SH (TL tl)) [vR 0, vI k, vI 1] μ (some (vI (stM (gRow G) k))) μ := by
      have e : stageF (gRow G) k 1 = stM (gRow G) k := by
        unfold stageF
        rw [if_pos (by omega)]
        simp [p2, p3]
      have q := x_stage hN (i := k) (w := 1) (by omega) (by omega)
      rw [e] at q
      exact q
    have q2 : FMet yX11_stage gX11_stage (SH (TL tl)) [vR 0, vI k, vI 2] μ (some (vI (stM (gRow G) k - stW (gRow G) k * μ.1 189 2))) μ := by
      have e : stageF (gRow G) k 2 = stM (gRow G) k - stW (gRow G) k * μ.1 189 2 := by
        unfold stageF
        rw [if_pos (by omega)]
        simp [p2, p3]
      have q := x_stage hN (i := k) (w := 2) (by omega) (by omega)
      rw [e] at q
      exact q
    have q3 : FMet yX11_stage gX11_stage (SH (TL tl)) [vR 0, vI k, vI 3] μ (some (vI (stW (gRow G) k * μ.1 189 3 - stM (gRow G) k))) μ := by
      have e : stageF (gRow G) k 3 = stW (gRow G) k * μ.1 189 3 - stM (gRow G) k := by
        unfold stageF
        rw [if_pos (by omega)]
        simp [p2, p3]
      have q := x_stage hN (i := k) (w := 3) (by omega) (by omega)
      rw [e] at q
      exact q
    refine l_iload dL_law_660 rfl ?_
    refine l_iconst dL_law_662 ?_
    refine lq_icmp_ge (tgt := 766) dL_law_663 rfl (by omega) (by omega) (fun c663 => ?_) (fun c663 => ?_)
    · exfalso; omega
    · refine l_aload_n dL_law_666 rfl ?_
      refine l_aload dL_law_667 rfl ?_
      refine l_aload dL_law_669 rfl ?_
      refine l_iload dL_law_671 rfl ?_
      refine l_iload dL_law_673 rfl ?_
      refine l_iconst dL_law_675 ?_
      refine l_cS6F1 dL_law_676 ml_L_90 yl_L_stage ⟨rfl, rfl⟩ rfl rfl hC hS (hS0) ?_
      refine l_istore dL_law_679 rfl ?_
      refine l_aload_n dL_law_681 rfl ?_
      refine l_aload dL_law_682 rfl ?_
      refine l_aload dL_law_684 rfl ?_
      refine l_iload dL_law_686 rfl ?_
      refine l_iload dL_law_688 rfl ?_
      refine l_iconst dL_law_690 ?_
      refine l_cS6F1 dL_law_691 ml_L_90 yl_L_stage ⟨rfl, rfl⟩ rfl rfl hC hS (hS1) ?_
      refine l_istore dL_law_694 rfl ?_
      refine l_aload_n dL_law_696 rfl ?_
      refine l_iload dL_law_697 rfl ?_
      refine l_iconst dL_law_699 ?_
      refine l_cV2F1 dL_law_700 ml_L_141 yl_X11_stage ⟨rfl, rfl⟩ (by assumption) ⟨_, rfl⟩ rfl rfl hC hS (q0) ?_
      refine l_iload dL_law_703 rfl ?_
      refine lq_icmp_ne (tgt := 758) dL_law_705 rfl (by omega) (by omega) (fun c705 => ?_) (fun c705 => ?_)
      · exfalso; omega
      · refine l_aload_n dL_law_708 rfl ?_
        refine l_iload dL_law_709 rfl ?_
        refine l_iconst dL_law_711 ?_
        refine l_cV2F1 dL_law_712 ml_L_141 yl_X11_stage ⟨rfl, rfl⟩ (by assumption) ⟨_, rfl⟩ rfl rfl hC hS (q1) ?_
        refine l_iload dL_law_715 rfl ?_
        refine lq_icmp_ne (tgt := 758) dL_law_717 rfl (by omega) (by omega) (fun c717 => ?_) (fun c717 => ?_)
        · exfalso; omega
        · refine l_aload_n dL_law_720 rfl ?_
          refine l_iload dL_law_721 rfl ?_
          refine l_iconst dL_law_723 ?_
          refine l_cV2F1 dL_law_724 ml_L_141 yl_X11_stage ⟨rfl, rfl⟩ (by assumption) ⟨_, rfl⟩ rfl rfl hC hS (q2) ?_
          refine l_iload dL_law_727 rfl ?_
          refine l_iload dL_law_729 rfl ?_
          refine l_aload_n dL_law_731 rfl ?_
          refine l_iconst dL_law_732 ?_
          refine l_iald dL_law_733 (by assumption) rfl (by omega) ?_
          refine l_imul dL_law_734 ?_
          refine l_isub dL_law_735 ?_
          refine lq_icmp_ne (tgt := 758) dL_law_736 rfl (by omega) (by omega) (fun c736 => ?_) (fun c736 => ?_)
          · exfalso; omega
          · refine l_aload_n dL_law_739 rfl ?_
            refine l_iload dL_law_740 rfl ?_
            refine l_iconst dL_law_742 ?_
            refine l_cV2F1 dL_law_743 ml_L_141 yl_X11_stage ⟨rfl, rfl⟩ (by assumption) ⟨_, rfl⟩ rfl rfl hC hS (q3) ?_
            refine l_iload dL_law_746 rfl ?_
            refine l_aload_n dL_law_748 rfl ?_
            refine l_iconst dL_law_749 ?_
            refine l_iald dL_law_750 (by assumption) rfl (by omega) ?_
            refine l_imul dL_law_751 ?_
            refine l_iload dL_law_752 rfl ?_
            refine l_isub dL_law_754 ?_
            refine lq_icmp_eq (tgt := 760) dL_law_755 rfl (by omega) (by omega) (fun c755 => ?_) (fun c755 => ?_)
            · refine l_iinc dL_law_760 rfl rfl ?_
              refine l_goto (tgt := 660) dL_law_763 rfl ?_
              exact AL.lw (ih (k + 1) (by omega) (by omega)) (by repeat first | exact trivial | refine And.intro rfl ?_)
            · exfalso; omega
set_option maxRecDepth 100000 in
set_option maxHeartbeats 4000000 in
theorem la_block (hC : Nat.ble cs (gM gL_law) = true) (hS : Nat.ble ss (gS gL_law) = true) (hSB : SB tl μ G po) {q : Int} (hq : 0 ≤ q ∧ q < μ.1 190 11) (h0 : 0 ≤ μ.1 191 q) : ∀ (n : Nat) (r a : Int), 0 ≤ r → r + n = μ.1 190 11 → AL gL_law (SH (TL tl)) μ cs ss 638 [some (vX 62), some (vR 0), some (vR 188), some (vR 189), some (vR 190), some (vR 191), some (vI po), some (vI acts), some (vI i), none, none, none, none, none, none, none, some (vI out), some (vI q), some (vI (fld (fun r a => if μ.1 191 r = wayL (μ.1 189) (μ.1 191 q) ∧ μ.1 190 (2 * q + 1) < μ.1 190 (2 * r + 1) then ior a (ishl 1 r) else a) n r a)), none] [] PL → AL gL_law (SH (TL tl)) μ cs ss 575 [some (vX 62), some (vR 0), some (vR 188), some (vR 189), some (vR 190), some (vR 191), some (vI po), some (vI acts), some (vI i), none, none, none, none, none, none, none, some (vI out), some (vI q), some (vI a), some (vI r)] [] PL := by
  have x0 : (SH (TL tl))[0]? = some (10, 11) := rfl
  have a188 : (SH (TL tl))[188]? = some (20, 160) := rfl
  have a189 : (SH (TL tl))[189]? = some (20, 23) := rfl
  have a190 : (SH (TL tl))[190]? = some (20, 12) := rfl
  have a191 : (SH (TL tl))[191]? = some (20, 3) := rfl
  obtain ⟨⟨p, pd, c, cd, hX⟩, hL⟩ := hSB
  obtain ⟨hp, ⟨e11, e12, e51, hrow⟩, hw, hz, ⟨⟨n0, n3⟩, hcb, hc10, hpo⟩⟩ := id hL
  obtain ⟨⟨p0, p1, p2, p3⟩, ⟨b1, b2, b3, b4, b5, b6, b7⟩, -⟩ := id hp
  have hN := hX.now
  have z99 := hz.le99
  have cq := hcb q hq.1 hq.2
  have hy := c_way a189 hz (s := μ.1 191 q) (by omega)
  have wr := wayL_rng (z := μ.1 189) (s := μ.1 191 q) (by omega)
  intro n
  induction n with
  | zero =>
    intro r a r0 r1 K
    refine l_iload dL_law_575 rfl ?_
    refine l_aload dL_law_577 rfl ?_
    refine l_bipush dL_law_579 (by decide) ?_
    refine l_iald dL_law_581 (by assumption) rfl (by omega) ?_
    refine lq_icmp_ge (tgt := 638) dL_law_582 rfl (by omega) (by omega) (fun c582 => ?_) (fun c582 => ?_)
    · exact AL.lw K (by repeat first | exact trivial | refine And.intro rfl ?_)
    · exfalso; omega
  | succ n ih =>
    intro r a r0 r1 K
    have cr := hcb r r0 (by omega)
    refine l_iload dL_law_575 rfl ?_
    refine l_aload dL_law_577 rfl ?_
    refine l_bipush dL_law_579 (by decide) ?_
    refine l_iald dL_law_581 (by assumption) rfl (by omega) ?_
    refine lq_icmp_ge (tgt := 638) dL_law_582 rfl (by omega) (by omega) (fun c582 => ?_) (fun c582 => ?_)
    · exfalso; omega
    · refine l_aload dL_law_585 rfl ?_
      refine l_iload dL_law_587 rfl ?_
      refine l_iald dL_law_589 (by assumption) rfl (by omega) ?_
      refine l_aload_n dL_law_590 rfl ?_
      refine l_aload dL_law_591 rfl ?_
      refine l_iload dL_law_593 rfl ?_
      refine l_iald dL_law_595 (by assumption) rfl (by omega) ?_
      refine l_cS2F1 dL_law_596 ml_L_87 yl_L_way ⟨rfl, rfl⟩ rfl rfl hC hS (hy) ?_
      refine lq_icmp_ne (tgt := 632) dL_law_599 rfl (by omega) (by omega) (fun c599 => ?_) (fun c599 => ?_)
      · refine l_iinc dL_law_632 rfl rfl ?_
        refine l_goto (tgt := 575) dL_law_635 rfl ?_
        rw [fld] at K
        first
          | (rw [if_pos (by omega)] at K; exact ih (r + 1) _ (by omega) (by omega) K)
          | (rw [if_neg (by omega)] at K; exact ih (r + 1) _ (by omega) (by omega) K)
      · refine l_aload dL_law_602 rfl ?_
        refine l_iconst dL_law_604 ?_
        refine l_iload dL_law_605 rfl ?_
        refine l_imul dL_law_607 ?_
        refine l_iconst dL_law_608 ?_
        refine l_iadd dL_law_609 ?_
        refine l_iald dL_law_610 (by assumption) rfl (by omega) ?_
        refine l_aload dL_law_611 rfl ?_
        refine l_iconst dL_law_613 ?_
        refine l_iload dL_law_614 rfl ?_
        refine l_imul dL_law_616 ?_
        refine l_iconst dL_law_617 ?_
        refine l_iadd dL_law_618 ?_
        refine l_iald dL_law_619 (by assumption) rfl (by omega) ?_
        refine lq_icmp_le (tgt := 632) dL_law_620 rfl (by omega) (by omega) (fun c620 => ?_) (fun c620 => ?_)
        · refine l_iinc dL_law_632 rfl rfl ?_
          refine l_goto (tgt := 575) dL_law_635 rfl ?_
          rw [fld] at K
          first
            | (rw [if_pos (by omega)] at K; exact ih (r + 1) _ (by omega) (by omega) K)
            | (rw [if_neg (by omega)] at K; exact ih (r + 1) _ (by omega) (by omega) K)
        · refine l_iload dL_law_623 rfl ?_
          refine l_iconst dL_law_625 ?_
          refine l_iload dL_law_626 rfl ?_
          refine l_ishl dL_law_628 ?_
          refine l_ior dL_law_629 ?_
          refine l_istore dL_law_630 rfl ?_
          refine l_iinc dL_law_632 rfl rfl ?_
          refine l_goto (tgt := 575) dL_law_635 rfl ?_
          rw [fld] at K
          first
            | (rw [if_pos (by omega)] at K; exact ih (r + 1) _ (by omega) (by omega) K)
            | (rw [if_neg (by omega)] at K; exact ih (r + 1) _ (by omega) (by omega) K)
set_option maxRecDepth 100000 in
set_option maxHeartbeats 4000000 in
theorem la_pals (hC : Nat.ble cs (gM gL_law) = true) (hS : Nat.ble ss (gS gL_law) = true) (hSB : SB tl μ G po) (K : AL gL_law (SH (TL tl)) μ cs ss 660 [some (vX 62), some (vR 0), some (vR 188), some (vR 189), some (vR 190), some (vR 191), some (vI po), some (vI acts), some (vI i), none, none, none, none, none, none, none, some (vI (outF (gRow G))), some (vI 0), none, none] [] PL) : ∀ (n : Nat) (q : Int), 0 ≤ q → q + n = μ.1 190 11 → AL gL_law (SH (TL tl)) μ cs ss 487 [some (vX 62), some (vR 0), some (vR 188), some (vR 189), some (vR 190), some (vR 191), some (vI po), some (vI acts), some (vI i), none, none, none, none, none, none, none, some (vI (sumF (fun k => if μ.1 191 k < 0 then 1 else 0) q.toNat 0)), some (vI q), none, none] [] PL := by
  have hSB0 := hSB
  have x0 : (SH (TL tl))[0]? = some (10, 11) := rfl
  have a188 : (SH (TL tl))[188]? = some (20, 160) := rfl
  have a189 : (SH (TL tl))[189]? = some (20, 23) := rfl
  have a190 : (SH (TL tl))[190]? = some (20, 12) := rfl
  have a191 : (SH (TL tl))[191]? = some (20, 3) := rfl
  obtain ⟨⟨p, pd, c, cd, hX⟩, hL⟩ := hSB
  obtain ⟨hp, ⟨e11, e12, e51, hrow⟩, hw, hz, ⟨⟨n0, n3⟩, hcb, hc10, hpo⟩⟩ := id hL
  obtain ⟨⟨p0, p1, p2, p3⟩, ⟨b1, b2, b3, b4, b5, b6, b7⟩, -⟩ := id hp
  have hN := hX.now
  have z99 := hz.le99
  intro n
  induction n with
  | zero =>
    intro q q0 q1
    have eo : outF (gRow G) = sumF (fun k => if μ.1 191 k < 0 then 1 else 0) q.toNat 0 := by
      unfold outF
      have e : (gRow G 11).toNat = q.toNat := by omega
      rw [e]
      refine sumF_congr _ _ fun k k0 k1 => ?_
      try dsimp only
      rw [(hrow k k0 (by omega)).2.2]
    rw [eo] at K
    refine l_iload dL_law_487 rfl ?_
    refine l_aload dL_law_489 rfl ?_
    refine l_bipush dL_law_491 (by decide) ?_
    refine l_iald dL_law_493 (by assumption) rfl (by omega) ?_
    refine lq_icmp_ge (tgt := 657) dL_law_494 rfl (by omega) (by omega) (fun c494 => ?_) (fun c494 => ?_)
    · refine l_iconst dL_law_657 ?_
      refine l_istore dL_law_658 rfl ?_
      exact AL.lw K (by repeat first | exact trivial | refine And.intro rfl ?_)
    · exfalso; omega
  | succ n ih =>
    intro q q0 q1
    have cq := hcb q q0 (by omega)
    have rq := hrow q q0 (by omega)
    have hp0 : FMet yX11_pallet gX11_pallet (SH (TL tl)) [vR 0, vI q, vI 0] μ (some (vI (μ.1 190 (2 * q)))) μ := by
      have e : palletF (gRow G) q 0 = μ.1 190 (2 * q) := by
        unfold palletF
        rw [if_pos (by omega)]
        exact rq.1
      have w := x_pallet hX (k := q) (w := 0) (by omega) (by omega)
      rw [e] at w
      exact w
    have hp2 : FMet yX11_pallet gX11_pallet (SH (TL tl)) [vR 0, vI q, vI 2] μ (some (vI (μ.1 191 q))) μ := by
      have e : palletF (gRow G) q 2 = μ.1 191 q := by
        unfold palletF
        rw [if_pos (by omega)]
        exact rq.2.2
      have w := x_pallet hX (k := q) (w := 2) (by omega) (by omega)
      rw [e] at w
      exact w
    have hbl : FMet yX11_blocks gX11_blocks (SH (TL tl)) [vR 0, vI q] μ (some (vI (blkL (μ.1 189) (μ.1 190) (μ.1 191) q))) μ := by
      have e : blocksF (gRow G) q = blkL (μ.1 189) (μ.1 190) (μ.1 191) q := by
        unfold blocksF
        rw [if_pos (by omega)]
        exact blk_eq hL ⟨q0, by omega⟩
      have w := x_blocks hN (k := q) (by omega)
      rw [e] at w
      exact w
    have bq := blkF_rng (gRow G) q
    rw [blk_eq hL ⟨q0, by omega⟩] at bq
    have esum : sumF (fun k => if μ.1 191 k < 0 then 1 else 0) (q + 1).toNat 0 = sumF (fun k => if μ.1 191 k < 0 then 1 else 0) q.toNat 0 + (if μ.1 191 q < 0 then 1 else 0) := by
      have e : (q + 1).toNat = q.toNat + 1 := by omega
      rw [e, sumF_snoc]
      have e2 : (0 : Int) + (q.toNat : Int) = q := by omega
      rw [e2]
    have hnx := ih (q + 1) (by omega) (by omega)
    rw [esum] at hnx
    have wr := fun (h : 0 ≤ μ.1 191 q) => wayL_rng (z := μ.1 189) (s := μ.1 191 q) (by omega)
    have hy := fun (h : 0 ≤ μ.1 191 q) => c_way (μ := μ) a189 hz (s := μ.1 191 q) (by omega)
    refine l_iload dL_law_487 rfl ?_
    refine l_aload dL_law_489 rfl ?_
    refine l_bipush dL_law_491 (by decide) ?_
    refine l_iald dL_law_493 (by assumption) rfl (by omega) ?_
    refine lq_icmp_ge (tgt := 657) dL_law_494 rfl (by omega) (by omega) (fun c494 => ?_) (fun c494 => ?_)
    · exfalso; omega
    · refine l_aload_n dL_law_497 rfl ?_
      refine l_iload dL_law_498 rfl ?_
      refine l_iconst dL_law_500 ?_
      refine l_cV2F1 dL_law_501 ml_L_135 yl_X11_pallet ⟨rfl, rfl⟩ (by assumption) ⟨_, rfl⟩ rfl rfl hC hS (hp0) ?_
      refine l_aload dL_law_504 rfl ?_
      refine l_iconst dL_law_506 ?_
      refine l_iload dL_law_507 rfl ?_
      refine l_imul dL_law_509 ?_
      refine l_iald dL_law_510 (by assumption) rfl (by omega) ?_
      refine lq_icmp_ne (tgt := 529) dL_law_511 rfl (by omega) (by omega) (fun c511 => ?_) (fun c511 => ?_)
      · exfalso; omega
      · refine l_aload_n dL_law_514 rfl ?_
        refine l_iload dL_law_515 rfl ?_
        refine l_iconst dL_law_517 ?_
        refine l_cV2F1 dL_law_518 ml_L_135 yl_X11_pallet ⟨rfl, rfl⟩ (by assumption) ⟨_, rfl⟩ rfl rfl hC hS (hp2) ?_
        refine l_aload dL_law_521 rfl ?_
        refine l_iload dL_law_523 rfl ?_
        refine l_iald dL_law_525 (by assumption) rfl (by omega) ?_
        refine lq_icmp_eq (tgt := 531) dL_law_526 rfl (by omega) (by omega) (fun c526 => ?_) (fun c526 => ?_)
        · refine l_iload dL_law_531 rfl ?_
          refine l_aload dL_law_533 rfl ?_
          refine l_iload dL_law_535 rfl ?_
          refine l_iald dL_law_537 (by assumption) rfl (by omega) ?_
          refine lq_if_ge (tgt := 545) dL_law_538 rfl (by omega) (fun c538 => ?_) (fun c538 => ?_)
          · rw [if_neg (by omega)] at hnx
            refine l_iconst dL_law_545 ?_
            refine l_iadd dL_law_546 ?_
            refine l_istore dL_law_547 rfl ?_
            refine l_iconst dL_law_549 ?_
            refine l_istore dL_law_550 rfl ?_
            refine l_aload dL_law_552 rfl ?_
            refine l_iload dL_law_554 rfl ?_
            refine l_iald dL_law_556 (by assumption) rfl (by omega) ?_
            refine lq_if_lt (tgt := 638) dL_law_557 rfl (by omega) (fun c557 => ?_) (fun c557 => ?_)
            · have eb : blkL (μ.1 189) (μ.1 190) (μ.1 191) q = 0 := by
                unfold blkL
                rw [if_neg (by omega)]
              rw [eb] at hbl
              refine l_aload_n dL_law_638 rfl ?_
              refine l_iload dL_law_639 rfl ?_
              refine l_cV1F1 dL_law_641 ml_L_138 yl_X11_blocks ⟨rfl, rfl⟩ (by assumption) ⟨_, rfl⟩ rfl rfl hC hS (hbl) ?_
              refine l_iload dL_law_644 rfl ?_
              refine lq_icmp_eq (tgt := 651) dL_law_646 rfl (by omega) (by omega) (fun c646 => ?_) (fun c646 => ?_)
              · refine l_iinc dL_law_651 rfl rfl ?_
                refine l_goto (tgt := 487) dL_law_654 rfl ?_
                exact AL.lw hnx (by repeat first | exact trivial | refine And.intro rfl ?_)
              · exfalso; omega
            · have wr1 := wr (by omega)
              refine l_aload_n dL_law_560 rfl ?_
              refine l_aload dL_law_561 rfl ?_
              refine l_iload dL_law_563 rfl ?_
              refine l_iald dL_law_565 (by assumption) rfl (by omega) ?_
              refine l_cS2F1 dL_law_566 ml_L_87 yl_L_way ⟨rfl, rfl⟩ rfl rfl hC hS (hy (by omega)) ?_
              refine lq_if_lt (tgt := 638) dL_law_569 rfl (by omega) (fun c569 => ?_) (fun c569 => ?_)
              · have eb : blkL (μ.1 189) (μ.1 190) (μ.1 191) q = 0 := by
                  unfold blkL
                  rw [if_neg (by omega)]
                rw [eb] at hbl
                refine l_aload_n dL_law_638 rfl ?_
                refine l_iload dL_law_639 rfl ?_
                refine l_cV1F1 dL_law_641 ml_L_138 yl_X11_blocks ⟨rfl, rfl⟩ (by assumption) ⟨_, rfl⟩ rfl rfl hC hS (hbl) ?_
                refine l_iload dL_law_644 rfl ?_
                refine lq_icmp_eq (tgt := 651) dL_law_646 rfl (by omega) (by omega) (fun c646 => ?_) (fun c646 => ?_)
                · refine l_iinc dL_law_651 rfl rfl ?_
                  refine l_goto (tgt := 487) dL_law_654 rfl ?_
                  exact AL.lw hnx (by repeat first | exact trivial | refine And.intro rfl ?_)
                · exfalso; omega
              · refine l_iconst dL_law_572 ?_
                refine l_istore dL_law_573 rfl ?_
                refine la_block hC hS hSB0 ⟨q0, by omega⟩ (by omega) (μ.1 190 11).toNat 0 0 (by omega) (by omega) ?_
                have eb : blkL (μ.1 189) (μ.1 190) (μ.1 191) q = fld (fun r a => if μ.1 191 r = wayL (μ.1 189) (μ.1 191 q) ∧ μ.1 190 (2 * q + 1) < μ.1 190 (2 * r + 1) then ior a (ishl 1 r) else a) (μ.1 190 11).toNat 0 0 := by
                  unfold blkL
                  rw [if_pos (by omega)]
                rw [← eb]
                refine l_aload_n dL_law_638 rfl ?_
                refine l_iload dL_law_639 rfl ?_
                refine l_cV1F1 dL_law_641 ml_L_138 yl_X11_blocks ⟨rfl, rfl⟩ (by assumption) ⟨_, rfl⟩ rfl rfl hC hS (hbl) ?_
                refine l_iload dL_law_644 rfl ?_
                refine lq_icmp_eq (tgt := 651) dL_law_646 rfl (by omega) (by omega) (fun c646 => ?_) (fun c646 => ?_)
                · refine l_iinc dL_law_651 rfl rfl ?_
                  refine l_goto (tgt := 487) dL_law_654 rfl ?_
                  exact AL.lw hnx (by repeat first | exact trivial | refine And.intro rfl ?_)
                · exfalso; omega
          · rw [if_pos (by omega)] at hnx
            refine l_iconst dL_law_541 ?_
            refine l_goto (tgt := 546) dL_law_542 rfl ?_
            refine l_iadd dL_law_546 ?_
            refine l_istore dL_law_547 rfl ?_
            refine l_iconst dL_law_549 ?_
            refine l_istore dL_law_550 rfl ?_
            refine l_aload dL_law_552 rfl ?_
            refine l_iload dL_law_554 rfl ?_
            refine l_iald dL_law_556 (by assumption) rfl (by omega) ?_
            refine lq_if_lt (tgt := 638) dL_law_557 rfl (by omega) (fun c557 => ?_) (fun c557 => ?_)
            · have eb : blkL (μ.1 189) (μ.1 190) (μ.1 191) q = 0 := by
                unfold blkL
                rw [if_neg (by omega)]
              rw [eb] at hbl
              refine l_aload_n dL_law_638 rfl ?_
              refine l_iload dL_law_639 rfl ?_
              refine l_cV1F1 dL_law_641 ml_L_138 yl_X11_blocks ⟨rfl, rfl⟩ (by assumption) ⟨_, rfl⟩ rfl rfl hC hS (hbl) ?_
              refine l_iload dL_law_644 rfl ?_
              refine lq_icmp_eq (tgt := 651) dL_law_646 rfl (by omega) (by omega) (fun c646 => ?_) (fun c646 => ?_)
              · refine l_iinc dL_law_651 rfl rfl ?_
                refine l_goto (tgt := 487) dL_law_654 rfl ?_
                exact AL.lw hnx (by repeat first | exact trivial | refine And.intro rfl ?_)
              · exfalso; omega
            · have wr1 := wr (by omega)
              refine l_aload_n dL_law_560 rfl ?_
              refine l_aload dL_law_561 rfl ?_
              refine l_iload dL_law_563 rfl ?_
              refine l_iald dL_law_565 (by assumption) rfl (by omega) ?_
              refine l_cS2F1 dL_law_566 ml_L_87 yl_L_way ⟨rfl, rfl⟩ rfl rfl hC hS (hy (by omega)) ?_
              refine lq_if_lt (tgt := 638) dL_law_569 rfl (by omega) (fun c569 => ?_) (fun c569 => ?_)
              · have eb : blkL (μ.1 189) (μ.1 190) (μ.1 191) q = 0 := by
                  unfold blkL
                  rw [if_neg (by omega)]
                rw [eb] at hbl
                refine l_aload_n dL_law_638 rfl ?_
                refine l_iload dL_law_639 rfl ?_
                refine l_cV1F1 dL_law_641 ml_L_138 yl_X11_blocks ⟨rfl, rfl⟩ (by assumption) ⟨_, rfl⟩ rfl rfl hC hS (hbl) ?_
                refine l_iload dL_law_644 rfl ?_
                refine lq_icmp_eq (tgt := 651) dL_law_646 rfl (by omega) (by omega) (fun c646 => ?_) (fun c646 => ?_)
                · refine l_iinc dL_law_651 rfl rfl ?_
                  refine l_goto (tgt := 487) dL_law_654 rfl ?_
                  exact AL.lw hnx (by repeat first | exact trivial | refine And.intro rfl ?_)
                · exfalso; omega
              · refine l_iconst dL_law_572 ?_
                refine l_istore dL_law_573 rfl ?_
                refine la_block hC hS hSB0 ⟨q0, by omega⟩ (by omega) (μ.1 190 11).toNat 0 0 (by omega) (by omega) ?_
                have eb : blkL (μ.1 189) (μ.1 190) (μ.1 191) q = fld (fun r a => if μ.1 191 r = wayL (μ.1 189) (μ.1 191 q) ∧ μ.1 190 (2 * q + 1) < μ.1 190 (2 * r + 1) then ior a (ishl 1 r) else a) (μ.1 190 11).toNat 0 0 := by
                  unfold blkL
                  rw [if_pos (by omega)]
                rw [← eb]
                refine l_aload_n dL_law_638 rfl ?_
                refine l_iload dL_law_639 rfl ?_
                refine l_cV1F1 dL_law_641 ml_L_138 yl_X11_blocks ⟨rfl, rfl⟩ (by assumption) ⟨_, rfl⟩ rfl rfl hC hS (hbl) ?_
                refine l_iload dL_law_644 rfl ?_
                refine lq_icmp_eq (tgt := 651) dL_law_646 rfl (by omega) (by omega) (fun c646 => ?_) (fun c646 => ?_)
                · refine l_iinc dL_law_651 rfl rfl ?_
                  refine l_goto (tgt := 487) dL_law_654 rfl ?_
                  exact AL.lw hnx (by repeat first | exact trivial | refine And.intro rfl ?_)
                · exfalso; omega
        · exfalso; omega
set_option maxRecDepth 100000 in
set_option maxHeartbeats 4000000 in
theorem la_why (hC : Nat.ble cs (gM gL_law) = true) (hS : Nat.ble ss (gS gL_law) = true) (hSB : SB tl μ G po) (K : AL gL_law (SH (TL tl)) μ cs ss 487 [some (vX 62), some (vR 0), some (vR 188), some (vR 189), some (vR 190), some (vR 191), some (vI po), some (vI acts), some (vI i), none, none, none, none, none, none, none, some (vI 0), some (vI 0), none, none] [] PL) : AL gL_law (SH (TL tl)) μ cs ss 435 [some (vX 62), some (vR 0), some (vR 188), some (vR 189), some (vR 190), some (vR 191), some (vI po), some (vI acts), some (vI i), none, none, none, none, none, none, some (vI (codeF (gRow G))), none, none, none, none] [] PL := by
  have x0 : (SH (TL tl))[0]? = some (10, 11) := rfl
  have a188 : (SH (TL tl))[188]? = some (20, 160) := rfl
  have a189 : (SH (TL tl))[189]? = some (20, 23) := rfl
  have a190 : (SH (TL tl))[190]? = some (20, 12) := rfl
  have a191 : (SH (TL tl))[191]? = some (20, 3) := rfl
  obtain ⟨⟨p, pd, c, cd, hX⟩, hL⟩ := hSB
  obtain ⟨hp, ⟨e11, e12, e51, hrow⟩, hw, hz, ⟨⟨n0, n3⟩, hcb, hc10, hpo⟩⟩ := id hL
  obtain ⟨⟨p0, p1, p2, p3⟩, ⟨b1, b2, b3, b4, b5, b6, b7⟩, -⟩ := id hp
  have hN := hX.now
  have z99 := hz.le99
  have hwhy := x_why hN
  have hwhere := x_where hN
  have hin : FMet yX11_in gX11_in (SH (TL tl)) [vR 0, vI 0, vI 0] μ (some (vI po)) μ := by
    have e : inF (gRow G) 0 0 = po := by
      unfold inF
      rw [if_pos ⟨rfl, by omega, by omega⟩]
      exact e51
    have q := x_in hN (w := 0) (k := 0) (by omega) (by omega)
    rw [e] at q
    exact q
  have br := brok_rng (gRow G)
  have hc : codeF (gRow G) = 100 * brokF (gRow G) + (if brokF (gRow G) = 0 then 0 else whereF (gRow G)) := rfl
  have hwr : brokF (gRow G) ≠ 0 → 0 ≤ whereF (gRow G) ∧ whereF (gRow G) < 13 := fun h => by
    have hpl := plc_rng hw.1.1 (brokF (gRow G))
    unfold whereF
    rw [if_neg h]
    have hge : 0 ≤ atF (gRow G) (brokF (gRow G)) := by
      have q : brokF (gRow G) = (let r := fnd (fun r => decide (0 ≤ atF (gRow G) r)) 7 1; if r < 0 then 0 else r) := rfl
      dsimp only at q
      rcases fnd_spec (p := fun r => decide (0 ≤ atF (gRow G) r)) 7 1 with ⟨e, -⟩ | ⟨a, b, d, -⟩
      · rw [e, if_pos (by omega)] at q
        exact absurd q h
      · rw [if_neg (by omega)] at q
        rw [q]
        simpa using d
    refine ⟨hge, ?_⟩
    unfold atF at hge ⊢
    rcases fnd_spec (p := brkF (gRow G) (brokF (gRow G))) (plcF (gRow G) (brokF (gRow G))).toNat 0 with ⟨e, -⟩ | ⟨a, b, -, -⟩ <;> omega
  have hwz : brokF (gRow G) = 0 → whereF (gRow G) = -1 := fun h => by
    unfold whereF
    rw [if_pos h]
  obtain ⟨cd_, hcd⟩ : ∃ x, x = codeF (gRow G) := ⟨_, rfl⟩
  rw [← hcd] at hc
  rw [← hcd]
  have hcr : 0 ≤ cd_ ∧ cd_ < 1000 := by
    by_cases h : brokF (gRow G) = 0
    · rw [if_pos h] at hc; omega
    · rw [if_neg h] at hc
      have := hwr h
      omega
  have hdv : cd_.tdiv 100 = brokF (gRow G) := by
    rw [Int.tdiv_eq_ediv_of_nonneg hcr.1]
    by_cases h : brokF (gRow G) = 0
    · rw [if_pos h] at hc; omega
    · rw [if_neg h] at hc
      have := hwr h
      omega
  have hmd : cd_ ≠ 0 → cd_.tmod 100 = whereF (gRow G) := fun h0 => by
    rw [Int.tmod_eq_emod_of_nonneg hcr.1]
    by_cases h : brokF (gRow G) = 0
    · rw [if_pos h] at hc; omega
    · rw [if_neg h] at hc
      have := hwr h
      omega
  have hz0 : cd_ = 0 → whereF (gRow G) = -1 := fun h0 => by
    refine hwz ?_
    by_cases h : brokF (gRow G) = 0
    · exact h
    · rw [if_neg h] at hc
      have := hwr h
      omega
  have hwrr : -1 ≤ whereF (gRow G) ∧ whereF (gRow G) < 13 := by
    by_cases h : brokF (gRow G) = 0
    · have := hwz h; omega
    · have := hwr h; omega
  refine l_aload_n dL_law_435 rfl ?_
  refine l_cV0F1 dL_law_436 ml_L_126 yl_X11_why ⟨rfl, rfl⟩ (by assumption) ⟨_, rfl⟩ rfl rfl hC hS (hwhy) ?_
  refine l_iload dL_law_439 rfl ?_
  refine l_bipush dL_law_441 (by decide) ?_
  refine l_idiv dL_law_443 (by omega) (by omega) ?_
  rw [hdv]
  refine lq_icmp_ne (tgt := 479) dL_law_444 rfl (by omega) (by omega) (fun c444 => ?_) (fun c444 => ?_)
  · exfalso; omega
  · refine l_aload_n dL_law_447 rfl ?_
    refine l_cV0F1 dL_law_448 ml_L_129 yl_X11_where ⟨rfl, rfl⟩ (by assumption) ⟨_, rfl⟩ rfl rfl hC hS (hwhere) ?_
    refine l_iload dL_law_451 rfl ?_
    refine lq_if_ne (tgt := 460) dL_law_453 rfl (by omega) (fun c453 => ?_) (fun c453 => ?_)
    · have hq := hmd (by omega)
      refine l_iload dL_law_460 rfl ?_
      refine l_bipush dL_law_462 (by decide) ?_
      refine l_irem dL_law_464 (by omega) (by omega) ?_
      rw [hq]
      refine lq_icmp_ne (tgt := 479) dL_law_465 rfl (by omega) (by omega) (fun c465 => ?_) (fun c465 => ?_)
      · exfalso; omega
      · refine l_aload_n dL_law_468 rfl ?_
        refine l_iconst dL_law_469 ?_
        refine l_iconst dL_law_470 ?_
        refine l_cV2F1 dL_law_471 ml_L_132 yl_X11_in ⟨rfl, rfl⟩ (by assumption) ⟨_, rfl⟩ rfl rfl hC hS (hin) ?_
        refine l_iload dL_law_474 rfl ?_
        refine lq_icmp_eq (tgt := 481) dL_law_476 rfl (by omega) (by omega) (fun c476 => ?_) (fun c476 => ?_)
        · refine l_iconst dL_law_481 ?_
          refine l_istore dL_law_482 rfl ?_
          refine l_iconst dL_law_484 ?_
          refine l_istore dL_law_485 rfl ?_
          exact AL.lw K (by repeat first | exact trivial | refine And.intro rfl ?_)
        · exfalso; omega
    · have hq := hz0 (by omega)
      refine l_iconst dL_law_456 ?_
      refine l_goto (tgt := 465) dL_law_457 rfl ?_
      refine lq_icmp_ne (tgt := 479) dL_law_465 rfl (by omega) (by omega) (fun c465 => ?_) (fun c465 => ?_)
      · exfalso; omega
      · refine l_aload_n dL_law_468 rfl ?_
        refine l_iconst dL_law_469 ?_
        refine l_iconst dL_law_470 ?_
        refine l_cV2F1 dL_law_471 ml_L_132 yl_X11_in ⟨rfl, rfl⟩ (by assumption) ⟨_, rfl⟩ rfl rfl hC hS (hin) ?_
        refine l_iload dL_law_474 rfl ?_
        refine lq_icmp_eq (tgt := 481) dL_law_476 rfl (by omega) (by omega) (fun c476 => ?_) (fun c476 => ?_)
        · refine l_iconst dL_law_481 ?_
          refine l_istore dL_law_482 rfl ?_
          refine l_iconst dL_law_484 ?_
          refine l_istore dL_law_485 rfl ?_
          exact AL.lw K (by repeat first | exact trivial | refine And.intro rfl ?_)
        · exfalso; omega
end LAWASK
