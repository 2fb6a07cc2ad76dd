/-! 17.ask: taken from whole (wip/p37/port.py) -/
variable {n_ : Sh}
theorem rI {a b : Int} (h : a = b) : (some (vI a) : Option AV) = some (vI b) := by rw [h]
/-! 17.ask: count, pallet, spot, in, why, where, stage, blocks: of the reference and of the class (wip/whole/src/17_ask.py) -/
def outF (ρ : Row) : Int := sumF (fun k => if ρ (93 + k) < 0 then 1 else 0) (ρ 11).toNat 0
def countF (ρ : Row) (tl w : Int) : Int := if 0 ≤ w ∧ w ≤ 8 then ρ (4 + w) else if w = 10 then tl else if w = 9 then outF ρ else -1
def palletF (ρ : Row) (k w : Int) : Int := if 0 ≤ k ∧ k < ρ 11 then (if w = 0 then ρ (83 + k) else if w = 1 then ρ (88 + k) else if w = 2 then ρ (93 + k) else if w = 3 then ρ (98 + k) else -1) else -1
def inF (ρ : Row) (w k : Int) : Int := if w = 0 ∧ 0 ≤ k ∧ k < ρ 7 then ρ (51 + k) else if w = 1 ∧ 0 ≤ k ∧ k < ρ 8 then ρ (56 + k) else if w = 2 ∧ 0 ≤ k ∧ k < ρ 4 then inHoldF ρ k else -1
def stageF (ρ : Row) (i w : Int) : Int := if (0 ≤ i ∧ i ≤ ρ 9) ∧ 0 ≤ w ∧ w ≤ 3 then (if w = 0 then stW ρ i else if w = 1 then stM ρ i else if w = 2 then stM ρ i - stW ρ i * ρ 2 else stW ρ i * ρ 3 - stM ρ i) else -1000000
def blocksF (ρ : Row) (k : Int) : Int := if 0 ≤ k ∧ k < ρ 11 then blkF ρ k else -1

/-- the class's object: what lies in it now -/
def Now (sh : Sh) (μ : Mem) (x p c : Nat) (ρ : Row) : Prop := sh[x]? = some (10, 11) ∧ μ.2.2 x 2 = some p ∧ μ.2.2 x 4 = some c ∧ RelP sh μ p ρ ∧ RelC sh μ c ρ ∧ WF ρ

theorem c_brokenAt {sh : Sh} {μ : Mem} {p c : Nat} {ρ : Row} (hP : RelP sh μ p ρ) (hC : RelC sh μ c ρ) (hw : WF ρ) {r : Int} (hr : 0 ≤ r ∧ r ≤ 7) : FMet yX7_brokenAt gX7_brokenAt sh [vI r, vR p, vR c] μ (some (vI (if r = 0 then -1 else atF ρ r))) μ := by
  obtain ⟨⟨hn, hss, hh, hj, ht, hg⟩, hb, hp, hd⟩ := id hw
  unfold WFn at hn
  obtain ⟨hIC, e0, e5, e51, e52, eC⟩ := id hC
  obtain ⟨h0, h1, h2, h3, h4, h6, s1, s2, s3, s4, s5⟩ := id hIC
  obtain ⟨hIP, p0, p1, p2, p3, p4, pb, hF, hV⟩ := id hP
  obtain ⟨i0, i5, i6, i7, i8, j1, j2, hIF0, hIV0⟩ := id hIP
  refine AMet.of (by decide) rfl (by decide) rfl ?_
  refine r_iload_n dX7_brokenAt_0 rfl ?_
  rcases (show (r < 1 ∨ 7 < r) ∨ r = 1 ∨ r = 2 ∨ r = 3 ∨ r = 4 ∨ r = 5 ∨ r = 6 ∨ r = 7 by omega) with s1 | s1 | s1 | s1 | s1 | s1 | s1 | s1
  · refine r_tableOut (tgt := 108) dX7_brokenAt_1 (by omega) s1 rfl ?_
    refine r_iconst dX7_brokenAt_108 ?_
    refine r_ireturn dX7_brokenAt_109 rfl rfl rfl ?_
    refine ⟨rI ?_, rfl, rfl⟩
    first | rfl | (rw [if_neg (by omega)]; done) | (rw [if_pos (by omega)]; done) | (rw [if_neg (by omega)]; unfold atF plcF; simp [fnd, brkF]; omega)
  · subst s1
    refine r_tableIn (tgt := 44) dX7_brokenAt_1 (by decide) (by decide) (by decide) rfl rfl ?_
    refine r_aload_n dX7_brokenAt_44 rfl ?_
    refine r_cS1F1 dX7_brokenAt_45 ml_X7_15 yl_X7_outPallet ⟨rfl, rfl⟩ rfl rfl rfl rfl (c_outPallet hC hw) ?_
    refine r_ireturn dX7_brokenAt_48 rfl rfl rfl ?_
    refine ⟨rI ?_, rfl, rfl⟩
    first | rfl | (rw [if_neg (by omega)]; done) | (rw [if_pos (by omega)]; done) | (rw [if_neg (by omega)]; unfold atF plcF; simp [fnd, brkF]; omega)
  · subst s1
    refine r_tableIn (tgt := 49) dX7_brokenAt_1 (by decide) (by decide) (by decide) rfl rfl ?_
    refine r_aload_n dX7_brokenAt_49 rfl ?_
    refine r_getR dX7_brokenAt_50 fl_X7_19 rfl (by assumption) (by assumption) ?_
    refine r_aload_n dX7_brokenAt_53 rfl ?_
    refine r_cS2F1 dX7_brokenAt_54 ml_X7_25 yl_X7_heavySpot ⟨rfl, rfl⟩ rfl rfl rfl rfl (c_heavySpot hF hC hw) ?_
    refine r_ireturn dX7_brokenAt_57 rfl rfl rfl ?_
    refine ⟨rI ?_, rfl, rfl⟩
    first | rfl | (rw [if_neg (by omega)]; done) | (rw [if_pos (by omega)]; done) | (rw [if_neg (by omega)]; unfold atF plcF; simp [fnd, brkF]; omega)
  · subst s1
    refine r_tableIn (tgt := 58) dX7_brokenAt_1 (by decide) (by decide) (by decide) rfl rfl ?_
    refine r_aload_n dX7_brokenAt_58 rfl ?_
    refine r_getR dX7_brokenAt_59 fl_X7_19 rfl (by assumption) (by assumption) ?_
    refine r_aload_n dX7_brokenAt_62 rfl ?_
    refine r_cS2F1 dX7_brokenAt_63 ml_X7_29 yl_X7_heavyJoint ⟨rfl, rfl⟩ rfl rfl rfl rfl (c_heavyJoint hF hC hw) ?_
    refine r_ireturn dX7_brokenAt_66 rfl rfl rfl ?_
    refine ⟨rI ?_, rfl, rfl⟩
    first | rfl | (rw [if_neg (by omega)]; done) | (rw [if_pos (by omega)]; done) | (rw [if_neg (by omega)]; unfold atF plcF; simp [fnd, brkF]; omega)
  · subst s1
    refine r_tableIn (tgt := 67) dX7_brokenAt_1 (by decide) (by decide) (by decide) rfl rfl ?_
    refine r_aload_n dX7_brokenAt_67 rfl ?_
    refine r_getR dX7_brokenAt_68 fl_X7_19 rfl (by assumption) (by assumption) ?_
    refine r_aload_n dX7_brokenAt_71 rfl ?_
    refine r_cS2F1 dX7_brokenAt_72 ml_X7_32 yl_X7_heavyHold ⟨rfl, rfl⟩ rfl rfl rfl rfl (c_heavyHold hF hC hw) ?_
    refine r_ireturn dX7_brokenAt_75 rfl rfl rfl ?_
    refine ⟨rI ?_, rfl, rfl⟩
    first | rfl | (rw [if_neg (by omega)]; done) | (rw [if_pos (by omega)]; done) | (rw [if_neg (by omega)]; unfold atF plcF; simp [fnd, brkF]; omega)
  · subst s1
    refine r_tableIn (tgt := 76) dX7_brokenAt_1 (by decide) (by decide) (by decide) rfl rfl ?_
    have q1 := hb 0 (by omega) (by omega)
    have q2 := hb 1 (by omega) (by omega)
    simp only [Int.add_zero, show (51 : Int) + 1 = 52 from rfl, show (49 : Int) + 1 = 50 from rfl] at q1 q2
    refine r_aload_n dX7_brokenAt_76 rfl ?_
    refine r_cV0F1 dX7_brokenAt_77 ml_X7_35 yl_X0_inBins ⟨rfl, rfl⟩ (by assumption) ⟨_, rfl⟩ rfl rfl rfl rfl (c_inBinsR hC) ?_
    refine r_aload_n dX7_brokenAt_80 rfl ?_
    refine r_getI dX7_brokenAt_81 fl_X7_41 rfl (by assumption) ?_
    refine q_icmp_ne (tgt := 91) dX7_brokenAt_84 rfl (by omega) (by omega) (fun c84 => ?_) (fun c84 => ?_)
    · refine r_iconst dX7_brokenAt_91 ?_
      refine r_ireturn dX7_brokenAt_92 rfl rfl rfl ?_
      refine ⟨rI ?_, rfl, rfl⟩
      first | rfl | (rw [if_neg (by omega)]; done) | (rw [if_pos (by omega)]; done) | (rw [if_neg (by omega)]; unfold atF plcF; simp [fnd, brkF]; omega)
    · refine r_iconst dX7_brokenAt_87 ?_
      refine r_goto (tgt := 92) dX7_brokenAt_88 rfl ?_
      refine r_ireturn dX7_brokenAt_92 rfl rfl rfl ?_
      refine ⟨rI ?_, rfl, rfl⟩
      first | rfl | (rw [if_neg (by omega)]; done) | (rw [if_pos (by omega)]; done) | (rw [if_neg (by omega)]; unfold atF plcF; simp [fnd, brkF]; omega)
  · subst s1
    refine r_tableIn (tgt := 93) dX7_brokenAt_1 (by decide) (by decide) (by decide) rfl rfl ?_
    refine r_aload_n dX7_brokenAt_93 rfl ?_
    refine r_getR dX7_brokenAt_94 fl_X7_19 rfl (by assumption) (by assumption) ?_
    refine r_aload_n dX7_brokenAt_97 rfl ?_
    refine r_cS2F1 dX7_brokenAt_98 ml_X7_45 yl_X7_blockedSpot ⟨rfl, rfl⟩ rfl rfl rfl rfl (c_blockedSpot hF hC hw) ?_
    refine r_ireturn dX7_brokenAt_101 rfl rfl rfl ?_
    refine ⟨rI ?_, rfl, rfl⟩
    first | rfl | (rw [if_neg (by omega)]; done) | (rw [if_pos (by omega)]; done) | (rw [if_neg (by omega)]; unfold atF plcF; simp [fnd, brkF]; omega)
  · subst s1
    refine r_tableIn (tgt := 102) dX7_brokenAt_1 (by decide) (by decide) (by decide) rfl rfl ?_
    refine r_aload_n dX7_brokenAt_102 rfl ?_
    refine r_aload_n dX7_brokenAt_103 rfl ?_
    refine r_cS2F1 dX7_brokenAt_104 ml_X7_48 yl_X7_stageOutOfSpan ⟨rfl, rfl⟩ rfl rfl rfl rfl (c_stageOutOfSpan hP hC hw) ?_
    refine r_ireturn dX7_brokenAt_107 rfl rfl rfl ?_
    refine ⟨rI ?_, rfl, rfl⟩
    first | rfl | (rw [if_neg (by omega)]; done) | (rw [if_pos (by omega)]; done) | (rw [if_neg (by omega)]; unfold atF plcF; simp [fnd, brkF]; omega)
theorem at_rng {ρ : Row} (hw : WF ρ) (r : Int) : -1 ≤ atF ρ r ∧ atF ρ r ≤ 13 := by
  have h := plc_rng hw.1.1 r
  unfold atF
  rcases fnd_spec (p := brkF ρ r) (plcF ρ r).toNat 0 with ⟨h1, _⟩ | ⟨h1, h2, _⟩ <;> omega
theorem c_firstBroken {sh : Sh} {μ : Mem} {p c : Nat} {ρ : Row} (hP : RelP sh μ p ρ) (hC : RelC sh μ c ρ) (hw : WF ρ)  : FMet yX7_firstBroken gX7_firstBroken sh [vR p, vR c] μ (some (vI (brokF ρ))) μ := by
  have loop : ∀ (f n : Nat) (k : Int), n < f → 1 ≤ k → k + n = 8 → AW gX7_firstBroken sh μ 0 0 2 [some (vR p), some (vR c), some (vI k)] [] (fun r2 sh2 μ2 => r2 = some (vI (let r := fnd (fun r => decide (0 ≤ atF ρ r)) n k; if r < 0 then 0 else r)) ∧ sh2 = sh ∧ μ2 = μ) := by
    intro f
    induction f with
    | zero => intro n; intros; omega
    | succ f ih =>
      intro n k hf hk hn2
      refine r_iload_n dX7_firstBroken_2 rfl ?_
      refine r_bipush dX7_firstBroken_3 (by decide) ?_
      refine q_icmp_gt (tgt := 26) dX7_firstBroken_5 rfl (by omega) (by omega) (fun c5 => ?_) (fun c5 => ?_)
      · refine r_iconst dX7_firstBroken_26 ?_
        refine r_ireturn dX7_firstBroken_27 rfl rfl rfl ?_
        obtain rfl | ⟨q, rfl⟩ : n = 0 ∨ ∃ q, n = q + 1 := by cases n <;> simp
        · first | exact ⟨rfl, rfl, rfl⟩ | omega
        · first | omega | (refine ⟨?_, rfl, rfl⟩; rw [fnd, if_pos (show decide (0 ≤ atF ρ k) = true by simp; omega)]; simp only; rw [if_neg (show ¬ k < 0 by omega)])
      · refine r_iload_n dX7_firstBroken_8 rfl ?_
        refine r_aload_n dX7_firstBroken_9 rfl ?_
        refine r_aload_n dX7_firstBroken_10 rfl ?_
        refine r_cS3F1 dX7_firstBroken_11 ml_X7_9 yl_X7_brokenAt ⟨rfl, rfl⟩ rfl rfl rfl rfl (c_brokenAt hP hC hw (by omega)) ?_
        rw [if_neg (by omega)]
        refine r_iconst dX7_firstBroken_14 ?_
        have q1 := at_rng hw k
        refine q_icmp_eq (tgt := 20) dX7_firstBroken_15 rfl (by omega) (by omega) (fun c15 => ?_) (fun c15 => ?_)
        · refine r_iinc dX7_firstBroken_20 rfl rfl ?_
          refine r_goto (tgt := 2) dX7_firstBroken_23 rfl ?_
          refine AW.mono (ih (n - 1) (k + 1) (by omega) (by omega) (by omega)) ?_
          obtain ⟨q, rfl⟩ : ∃ q, n = q + 1 := ⟨n - 1, by omega⟩
          rintro r sh2 μ2 ⟨rfl, h⟩
          refine ⟨?_, h⟩
          rw [fnd, if_neg (show ¬ decide (0 ≤ atF ρ k) = true by simp; omega)]
          rfl
        · refine r_iload_n dX7_firstBroken_18 rfl ?_
          refine r_ireturn dX7_firstBroken_19 rfl rfl rfl ?_
          obtain rfl | ⟨q, rfl⟩ : n = 0 ∨ ∃ q, n = q + 1 := by cases n <;> simp
          · first | exact ⟨rfl, rfl, rfl⟩ | omega
          · first | omega | (refine ⟨?_, rfl, rfl⟩; rw [fnd, if_pos (show decide (0 ≤ atF ρ k) = true by simp; omega)]; simp only; rw [if_neg (show ¬ k < 0 by omega)])
  refine AMet.of (by decide) rfl (by decide) rfl ?_
  refine r_iconst dX7_firstBroken_0 ?_
  refine r_istore_n dX7_firstBroken_1 rfl ?_
  exact loop _ 7 1 (Nat.lt_succ_self _) (by omega) (by omega)
theorem x_why {sh : Sh} {μ : Mem} {x p c : Nat} {ρ : Row} (hN : Now sh μ x p c ρ)  : FMet yX11_why gX11_why sh [vR x] μ (some (vI (brokF ρ))) μ := by
  obtain ⟨X0, X2, X4, hP, hC, hw⟩ := id hN
  refine AMet.of (by decide) rfl (by decide) rfl ?_
  refine r_aload_n dX11_why_0 rfl ?_
  refine r_getR dX11_why_1 fl_X11_19 rfl (by assumption) (by assumption) ?_
  refine r_aload_n dX11_why_4 rfl ?_
  refine r_getR dX11_why_5 fl_X11_29 rfl (by assumption) (by assumption) ?_
  refine r_cS2F1 dX11_why_8 ml_X11_219 yl_X7_firstBroken ⟨rfl, rfl⟩ rfl rfl rfl rfl (c_firstBroken hP hC hw) ?_
  refine r_ireturn dX11_why_11 rfl rfl rfl ?_
  exact ⟨rfl, rfl, rfl⟩
theorem x_where {sh : Sh} {μ : Mem} {x p c : Nat} {ρ : Row} (hN : Now sh μ x p c ρ)  : FMet yX11_where gX11_where sh [vR x] μ (some (vI (whereF ρ))) μ := by
  obtain ⟨X0, X2, X4, hP, hC, hw⟩ := id hN
  have hbr := brok_rng ρ
  refine AMet.of (by decide) rfl (by decide) rfl ?_
  refine r_aload_n dX11_where_0 rfl ?_
  refine r_getR dX11_where_1 fl_X11_19 rfl (by assumption) (by assumption) ?_
  refine r_aload_n dX11_where_4 rfl ?_
  refine r_getR dX11_where_5 fl_X11_29 rfl (by assumption) (by assumption) ?_
  refine r_cS2F1 dX11_where_8 ml_X11_219 yl_X7_firstBroken ⟨rfl, rfl⟩ rfl rfl rfl rfl (c_firstBroken hP hC hw) ?_
  refine r_aload_n dX11_where_11 rfl ?_
  refine r_getR dX11_where_12 fl_X11_19 rfl (by assumption) (by assumption) ?_
  refine r_aload_n dX11_where_15 rfl ?_
  refine r_getR dX11_where_16 fl_X11_29 rfl (by assumption) (by assumption) ?_
  refine r_cS3F1 dX11_where_19 ml_X11_223 yl_X7_brokenAt ⟨rfl, rfl⟩ rfl rfl rfl rfl (c_brokenAt hP hC hw (by omega)) ?_
  refine r_ireturn dX11_where_22 rfl rfl rfl ?_
  exact ⟨rfl, rfl, rfl⟩
theorem x_blocks {sh : Sh} {μ : Mem} {x p c : Nat} {ρ : Row} {k : Int} (hN : Now sh μ x p c ρ) (hk : -2147483648 ≤ k ∧ k < 2147483648)  : FMet yX11_blocks gX11_blocks sh [vR x, vI k] μ (some (vI (blocksF ρ k))) μ := by
  obtain ⟨X0, X2, X4, hP, hC, hw⟩ := id hN
  obtain ⟨⟨hn, hss, hh, hj, ht, hg⟩, hb, hp, hd⟩ := id hw
  unfold WFn at hn
  obtain ⟨hIC, e0, e5, e51, e52, eC⟩ := id hC
  obtain ⟨h0, h1, h2, h3, h4, h6, s1, s2, s3, s4, s5⟩ := id hIC
  obtain ⟨hIP, p0, p1, p2, p3, p4, pb, hF, hV⟩ := id hP
  obtain ⟨i0, i5, i6, i7, i8, j1, j2, hIF0, hIV0⟩ := id hIP
  refine AMet.of (by decide) rfl (by decide) rfl ?_
  refine r_aload_n dX11_blocks_0 rfl ?_
  refine r_getR dX11_blocks_1 fl_X11_29 rfl (by assumption) (by assumption) ?_
  refine r_iload_n dX11_blocks_4 rfl ?_
  refine r_cV1F1 dX11_blocks_5 ml_X11_144 yl_X0_has ⟨rfl, rfl⟩ (by assumption) ⟨_, rfl⟩ rfl rfl rfl rfl (c_hasR hC (by omega) hk) ?_
  refine r_if_eqB (tgt := 29) dX11_blocks_8 rfl (fun c8 => ?_) (fun c8 => ?_)
  · refine r_iconst dX11_blocks_29 ?_
    refine r_ireturn dX11_blocks_30 rfl rfl rfl ?_
    refine ⟨rI ?_, rfl, rfl⟩
    unfold blocksF
    first | (rw [if_pos (of_decide_eq_true c8)]; done) | (rw [if_neg (of_decide_eq_false c8)]; done)
  · refine r_aload_n dX11_blocks_11 rfl ?_
    refine r_getR dX11_blocks_12 fl_X11_19 rfl (by assumption) (by assumption) ?_
    refine r_getR dX11_blocks_15 fl_X11_97 rfl (by assumption) (by assumption) ?_
    refine r_aload_n dX11_blocks_18 rfl ?_
    refine r_getR dX11_blocks_19 fl_X11_29 rfl (by assumption) (by assumption) ?_
    refine r_iload_n dX11_blocks_22 rfl ?_
    refine r_cS3F1 dX11_blocks_23 ml_X11_241 yl_X7_blockersOf ⟨rfl, rfl⟩ rfl rfl rfl rfl (c_blockersOf hF hC hw (of_decide_eq_true c8)) ?_
    refine r_goto (tgt := 30) dX11_blocks_26 rfl ?_
    refine r_ireturn dX11_blocks_30 rfl rfl rfl ?_
    refine ⟨rI ?_, rfl, rfl⟩
    unfold blocksF
    first | (rw [if_pos (of_decide_eq_true c8)]; done) | (rw [if_neg (of_decide_eq_false c8)]; done)
theorem x_stage {sh : Sh} {μ : Mem} {x p c : Nat} {ρ : Row} {i w : Int} (hN : Now sh μ x p c ρ) (hi0 : -2147483648 ≤ i ∧ i < 2147483648) (hw0 : -2147483648 ≤ w ∧ w < 2147483648) : FMet yX11_stage gX11_stage sh [vR x, vI i, vI w] μ (some (vI (stageF ρ i w))) μ := by
  obtain ⟨X0, X2, X4, hP, hC, hw⟩ := id hN
  obtain ⟨⟨hn, hss, hh, hj, ht, hg⟩, hb, hp, hd⟩ := id hw
  unfold WFn at hn
  obtain ⟨hIC, e0, e5, e51, e52, eC⟩ := id hC
  obtain ⟨h0, h1, h2, h3, h4, h6, s1, s2, s3, s4, s5⟩ := id hIC
  obtain ⟨hIP, p0, p1, p2, p3, p4, pb, hF, hV⟩ := id hP
  obtain ⟨i0, i5, i6, i7, i8, j1, j2, hIF0, hIV0⟩ := id hIP
  obtain ⟨hIV, v0, vt, v5, v8, vi⟩ := id hV
  obtain ⟨t0, t1, t2, t3, t4, t6, t7, t9, t10, t11, x1, x2, x3, x4, x5, x6, x7, x8, x9⟩ := id hIV
  refine AMet.of (by decide) rfl (by decide) rfl ?_
  refine r_iload_n dX11_stage_0 rfl ?_
  refine q_if_lt (tgt := 18) dX11_stage_1 rfl (by omega) (fun c1 => ?_) (fun c1 => ?_)
  · refine r_ldc (x := -1000000) dX11_stage_18 kl_X11_227 rfl ?_
    refine r_ireturn dX11_stage_20 rfl rfl rfl ?_
    refine ⟨rI ?_, rfl, rfl⟩
    unfold stageF
    first | (rw [if_neg (by omega)]; done) | (rw [if_pos (by omega)]; (repeat' split) <;> first | rfl | omega)
  · refine r_iload_n dX11_stage_4 rfl ?_
    refine r_aload_n dX11_stage_5 rfl ?_
    refine r_getR dX11_stage_6 fl_X11_19 rfl (by assumption) (by assumption) ?_
    refine r_getR dX11_stage_9 fl_X11_122 rfl (by assumption) (by assumption) ?_
    refine r_getI dX11_stage_12 fl_X11_131 rfl (by assumption) ?_
    refine q_icmp_le (tgt := 21) dX11_stage_15 rfl (by omega) (by omega) (fun c15 => ?_) (fun c15 => ?_)
    · refine r_aload_n dX11_stage_21 rfl ?_
      refine r_getR dX11_stage_22 fl_X11_19 rfl (by assumption) (by assumption) ?_
      refine r_aload_n dX11_stage_25 rfl ?_
      refine r_getR dX11_stage_26 fl_X11_29 rfl (by assumption) (by assumption) ?_
      refine r_iload_n dX11_stage_29 rfl ?_
      refine r_cS3F1 dX11_stage_30 ml_X11_228 yl_X7_weightAt ⟨rfl, rfl⟩ rfl rfl rfl rfl (c_weightAt hP hC hw (by omega)) ?_
      refine r_istore_n dX11_stage_33 rfl ?_
      refine r_aload_n dX11_stage_34 rfl ?_
      refine r_getR dX11_stage_35 fl_X11_19 rfl (by assumption) (by assumption) ?_
      refine r_aload_n dX11_stage_38 rfl ?_
      refine r_getR dX11_stage_39 fl_X11_29 rfl (by assumption) (by assumption) ?_
      refine r_iload_n dX11_stage_42 rfl ?_
      refine r_cS3F1 dX11_stage_43 ml_X11_232 yl_X7_momentAt ⟨rfl, rfl⟩ rfl rfl rfl rfl (c_momentAt hP hC hw (by omega)) ?_
      refine r_istore dX11_stage_46 rfl ?_
      refine r_iload_n dX11_stage_48 rfl ?_
      rcases (show (w < 0 ∨ 3 < w) ∨ w = 0 ∨ w = 1 ∨ w = 2 ∨ w = 3 by omega) with s49 | s49 | s49 | s49 | s49
      · refine r_tableOut (tgt := 111) dX11_stage_49 (by omega) s49 rfl ?_
        refine r_ldc (x := -1000000) dX11_stage_111 kl_X11_227 rfl ?_
        refine r_ireturn dX11_stage_113 rfl rfl rfl ?_
        refine ⟨rI ?_, rfl, rfl⟩
        unfold stageF
        first | (rw [if_neg (by omega)]; done) | (rw [if_pos (by omega)]; (repeat' split) <;> first | rfl | omega)
      · subst s49
        refine r_tableIn (tgt := 80) dX11_stage_49 (by decide) (by decide) (by decide) rfl rfl ?_
        refine r_iload_n dX11_stage_80 rfl ?_
        refine r_ireturn dX11_stage_81 rfl rfl rfl ?_
        refine ⟨rI ?_, rfl, rfl⟩
        unfold stageF
        first | (rw [if_neg (by omega)]; done) | (rw [if_pos (by omega)]; (repeat' split) <;> first | rfl | omega)
      · subst s49
        refine r_tableIn (tgt := 82) dX11_stage_49 (by decide) (by decide) (by decide) rfl rfl ?_
        refine r_iload dX11_stage_82 rfl ?_
        refine r_ireturn dX11_stage_84 rfl rfl rfl ?_
        refine ⟨rI ?_, rfl, rfl⟩
        unfold stageF
        first | (rw [if_neg (by omega)]; done) | (rw [if_pos (by omega)]; (repeat' split) <;> first | rfl | omega)
      · subst s49
        refine r_tableIn (tgt := 85) dX11_stage_49 (by decide) (by decide) (by decide) rfl rfl ?_
        refine r_iload dX11_stage_85 rfl ?_
        refine r_iload_n dX11_stage_87 rfl ?_
        refine r_aload_n dX11_stage_88 rfl ?_
        refine r_getR dX11_stage_89 fl_X11_19 rfl (by assumption) (by assumption) ?_
        refine r_getI dX11_stage_92 fl_X11_235 rfl (by assumption) ?_
        rw [p2]
        refine r_imul dX11_stage_95 ?_
        refine r_isub dX11_stage_96 ?_
        refine r_ireturn dX11_stage_97 rfl rfl rfl ?_
        refine ⟨rI ?_, rfl, rfl⟩
        unfold stageF
        first | (rw [if_neg (by omega)]; done) | (rw [if_pos (by omega)]; (repeat' split) <;> first | rfl | omega)
      · subst s49
        refine r_tableIn (tgt := 98) dX11_stage_49 (by decide) (by decide) (by decide) rfl rfl ?_
        refine r_iload_n dX11_stage_98 rfl ?_
        refine r_aload_n dX11_stage_99 rfl ?_
        refine r_getR dX11_stage_100 fl_X11_19 rfl (by assumption) (by assumption) ?_
        refine r_getI dX11_stage_103 fl_X11_238 rfl (by assumption) ?_
        rw [p3]
        refine r_imul dX11_stage_106 ?_
        refine r_iload dX11_stage_107 rfl ?_
        refine r_isub dX11_stage_109 ?_
        refine r_ireturn dX11_stage_110 rfl rfl rfl ?_
        refine ⟨rI ?_, rfl, rfl⟩
        unfold stageF
        first | (rw [if_neg (by omega)]; done) | (rw [if_pos (by omega)]; (repeat' split) <;> first | rfl | omega)
    · refine r_ldc (x := -1000000) dX11_stage_18 kl_X11_227 rfl ?_
      refine r_ireturn dX11_stage_20 rfl rfl rfl ?_
      refine ⟨rI ?_, rfl, rfl⟩
      unfold stageF
      first | (rw [if_neg (by omega)]; done) | (rw [if_pos (by omega)]; (repeat' split) <;> first | rfl | omega)
theorem x_in {sh : Sh} {μ : Mem} {x p c : Nat} {ρ : Row} {w k : Int} (hN : Now sh μ x p c ρ) (hk : -2147483648 ≤ k ∧ k < 2147483648) (hw0 : -2147483648 ≤ w ∧ w < 2147483648) : FMet yX11_in gX11_in sh [vR x, vI w, vI k] μ (some (vI (inF ρ w k))) μ := by
  obtain ⟨X0, X2, X4, hP, hC, hw⟩ := id hN
  obtain ⟨⟨hn, hss, hh, hj, ht, hg⟩, hb, hp, hd⟩ := id hw
  unfold WFn at hn
  obtain ⟨hIC, e0, e5, e51, e52, eC⟩ := id hC
  obtain ⟨h0, h1, h2, h3, h4, h6, s1, s2, s3, s4, s5⟩ := id hIC
  obtain ⟨hIP, p0, p1, p2, p3, p4, pb, hF, hV⟩ := id hP
  obtain ⟨i0, i5, i6, i7, i8, j1, j2, hIF0, hIV0⟩ := id hIP
  obtain ⟨hIV, v0, vt, v5, v8, vi⟩ := id hV
  obtain ⟨t0, t1, t2, t3, t4, t6, t7, t9, t10, t11, x1, x2, x3, x4, x5, x6, x7, x8, x9⟩ := id hIV
  obtain ⟨hIF, kf0, kh, kf4, ks, kf9, kj⟩ := id hF
  obtain ⟨u0, u1, u2, u3, u5, u6, u7, u8, u10, u11, y1, y2, y3, y4, y5, y6, y7, y8, y9⟩ := id hIF
  refine AMet.of (by decide) rfl (by decide) rfl ?_
  refine r_iload_n dX11_in_0 rfl ?_
  refine q_if_ne (tgt := 25) dX11_in_1 rfl (by omega) (fun c1 => ?_) (fun c1 => ?_)
  · refine r_iload_n dX11_in_25 rfl ?_
    refine r_iconst dX11_in_26 ?_
    refine q_icmp_ne (tgt := 57) dX11_in_27 rfl (by omega) (by omega) (fun c27 => ?_) (fun c27 => ?_)
    · refine r_iload_n dX11_in_57 rfl ?_
      refine r_iconst dX11_in_58 ?_
      refine q_icmp_ne (tgt := 92) dX11_in_59 rfl (by omega) (by omega) (fun c59 => ?_) (fun c59 => ?_)
      · refine r_iconst dX11_in_92 ?_
        refine r_ireturn dX11_in_93 rfl rfl rfl ?_
        refine ⟨rI ?_, rfl, rfl⟩
        unfold inF
        first | (rw [if_pos (by omega)]; done) | (rw [if_neg (by omega), if_pos (by omega)]; done) | (rw [if_neg (by omega), if_neg (by omega), if_pos (by omega)]; done) | (rw [if_neg (by omega), if_neg (by omega), if_neg (by omega)]; done)
      · refine r_aload_n dX11_in_62 rfl ?_
        refine r_getR dX11_in_63 fl_X11_19 rfl (by assumption) (by assumption) ?_
        refine r_getR dX11_in_66 fl_X11_97 rfl (by assumption) (by assumption) ?_
        refine r_iload_n dX11_in_69 rfl ?_
        refine r_cV1F1 dX11_in_70 ml_X11_204 yl_X1_hasHold ⟨rfl, rfl⟩ (by assumption) ⟨_, rfl⟩ rfl rfl rfl rfl (c_hasHold hF hw.1.1 hk) ?_
        refine r_if_eqB (tgt := 92) dX11_in_73 rfl (fun c73 => ?_) (fun c73 => ?_)
        · have d73 := of_decide_eq_false c73
          refine r_iconst dX11_in_92 ?_
          refine r_ireturn dX11_in_93 rfl rfl rfl ?_
          refine ⟨rI ?_, rfl, rfl⟩
          unfold inF
          first | (rw [if_pos (by omega)]; done) | (rw [if_neg (by omega), if_pos (by omega)]; done) | (rw [if_neg (by omega), if_neg (by omega), if_pos (by omega)]; done) | (rw [if_neg (by omega), if_neg (by omega), if_neg (by omega)]; done)
        · have d73 := of_decide_eq_true c73
          refine r_aload_n dX11_in_76 rfl ?_
          refine r_getR dX11_in_77 fl_X11_19 rfl (by assumption) (by assumption) ?_
          refine r_getR dX11_in_80 fl_X11_97 rfl (by assumption) (by assumption) ?_
          refine r_aload_n dX11_in_83 rfl ?_
          refine r_getR dX11_in_84 fl_X11_29 rfl (by assumption) (by assumption) ?_
          refine r_iload_n dX11_in_87 rfl ?_
          refine r_cS3F1 dX11_in_88 ml_X11_207 yl_X7_loadOfHold ⟨rfl, rfl⟩ rfl rfl rfl rfl (c_loadOfHold hF hC hw hk) ?_
          refine r_ireturn dX11_in_91 rfl rfl rfl ?_
          refine ⟨rI ?_, rfl, rfl⟩
          unfold inF
          first | (rw [if_pos (by omega)]; done) | (rw [if_neg (by omega), if_pos (by omega)]; done) | (rw [if_neg (by omega), if_neg (by omega), if_pos (by omega)]; done) | (rw [if_neg (by omega), if_neg (by omega), if_neg (by omega)]; done)
    · refine r_aload_n dX11_in_30 rfl ?_
      refine r_getR dX11_in_31 fl_X11_19 rfl (by assumption) (by assumption) ?_
      refine r_getR dX11_in_34 fl_X11_122 rfl (by assumption) (by assumption) ?_
      refine r_iload_n dX11_in_37 rfl ?_
      refine r_cV1F1 dX11_in_38 ml_X11_198 yl_X10_hasTank ⟨rfl, rfl⟩ (by assumption) ⟨_, rfl⟩ rfl rfl rfl rfl (c_hasTank hV hw.1.1 hk) ?_
      refine r_if_eqB (tgt := 57) dX11_in_41 rfl (fun c41 => ?_) (fun c41 => ?_)
      · have d41 := of_decide_eq_false c41
        refine r_iload_n dX11_in_57 rfl ?_
        refine r_iconst dX11_in_58 ?_
        refine q_icmp_ne (tgt := 92) dX11_in_59 rfl (by omega) (by omega) (fun c59 => ?_) (fun c59 => ?_)
        · refine r_iconst dX11_in_92 ?_
          refine r_ireturn dX11_in_93 rfl rfl rfl ?_
          refine ⟨rI ?_, rfl, rfl⟩
          unfold inF
          first | (rw [if_pos (by omega)]; done) | (rw [if_neg (by omega), if_pos (by omega)]; done) | (rw [if_neg (by omega), if_neg (by omega), if_pos (by omega)]; done) | (rw [if_neg (by omega), if_neg (by omega), if_neg (by omega)]; done)
        · refine r_aload_n dX11_in_62 rfl ?_
          refine r_getR dX11_in_63 fl_X11_19 rfl (by assumption) (by assumption) ?_
          refine r_getR dX11_in_66 fl_X11_97 rfl (by assumption) (by assumption) ?_
          refine r_iload_n dX11_in_69 rfl ?_
          refine r_cV1F1 dX11_in_70 ml_X11_204 yl_X1_hasHold ⟨rfl, rfl⟩ (by assumption) ⟨_, rfl⟩ rfl rfl rfl rfl (c_hasHold hF hw.1.1 hk) ?_
          refine r_if_eqB (tgt := 92) dX11_in_73 rfl (fun c73 => ?_) (fun c73 => ?_)
          · have d73 := of_decide_eq_false c73
            refine r_iconst dX11_in_92 ?_
            refine r_ireturn dX11_in_93 rfl rfl rfl ?_
            refine ⟨rI ?_, rfl, rfl⟩
            unfold inF
            first | (rw [if_pos (by omega)]; done) | (rw [if_neg (by omega), if_pos (by omega)]; done) | (rw [if_neg (by omega), if_neg (by omega), if_pos (by omega)]; done) | (rw [if_neg (by omega), if_neg (by omega), if_neg (by omega)]; done)
          · have d73 := of_decide_eq_true c73
            refine r_aload_n dX11_in_76 rfl ?_
            refine r_getR dX11_in_77 fl_X11_19 rfl (by assumption) (by assumption) ?_
            refine r_getR dX11_in_80 fl_X11_97 rfl (by assumption) (by assumption) ?_
            refine r_aload_n dX11_in_83 rfl ?_
            refine r_getR dX11_in_84 fl_X11_29 rfl (by assumption) (by assumption) ?_
            refine r_iload_n dX11_in_87 rfl ?_
            refine r_cS3F1 dX11_in_88 ml_X11_207 yl_X7_loadOfHold ⟨rfl, rfl⟩ rfl rfl rfl rfl (c_loadOfHold hF hC hw hk) ?_
            refine r_ireturn dX11_in_91 rfl rfl rfl ?_
            refine ⟨rI ?_, rfl, rfl⟩
            unfold inF
            first | (rw [if_pos (by omega)]; done) | (rw [if_neg (by omega), if_pos (by omega)]; done) | (rw [if_neg (by omega), if_neg (by omega), if_pos (by omega)]; done) | (rw [if_neg (by omega), if_neg (by omega), if_neg (by omega)]; done)
      · have d41 := of_decide_eq_true c41
        refine r_aload_n dX11_in_44 rfl ?_
        refine r_getR dX11_in_45 fl_X11_19 rfl (by assumption) (by assumption) ?_
        refine r_getR dX11_in_48 fl_X11_122 rfl (by assumption) (by assumption) ?_
        refine r_getR dX11_in_51 fl_X11_201 rfl (by assumption) (by assumption) ?_
        refine r_iload_n dX11_in_54 rfl ?_
        refine r_iald dX11_in_55 (by assumption) rfl (by omega) ?_
        rw [(vt k (by omega) (by omega)).2]
        refine r_ireturn dX11_in_56 rfl rfl rfl ?_
        refine ⟨rI ?_, rfl, rfl⟩
        unfold inF
        first | (rw [if_pos (by omega)]; done) | (rw [if_neg (by omega), if_pos (by omega)]; done) | (rw [if_neg (by omega), if_neg (by omega), if_pos (by omega)]; done) | (rw [if_neg (by omega), if_neg (by omega), if_neg (by omega)]; done)
  · refine r_aload_n dX11_in_4 rfl ?_
    refine r_getR dX11_in_5 fl_X11_19 rfl (by assumption) (by assumption) ?_
    refine r_iload_n dX11_in_8 rfl ?_
    refine r_cV1F1 dX11_in_9 ml_X11_192 yl_X5_hasBin ⟨rfl, rfl⟩ (by assumption) ⟨_, rfl⟩ rfl rfl rfl rfl (c_hasBin hP hw.1.1 hk) ?_
    refine r_if_eqB (tgt := 25) dX11_in_12 rfl (fun c12 => ?_) (fun c12 => ?_)
    · have d12 := of_decide_eq_false c12
      refine r_iload_n dX11_in_25 rfl ?_
      refine r_iconst dX11_in_26 ?_
      refine q_icmp_ne (tgt := 57) dX11_in_27 rfl (by omega) (by omega) (fun c27 => ?_) (fun c27 => ?_)
      · refine r_iload_n dX11_in_57 rfl ?_
        refine r_iconst dX11_in_58 ?_
        refine q_icmp_ne (tgt := 92) dX11_in_59 rfl (by omega) (by omega) (fun c59 => ?_) (fun c59 => ?_)
        · refine r_iconst dX11_in_92 ?_
          refine r_ireturn dX11_in_93 rfl rfl rfl ?_
          refine ⟨rI ?_, rfl, rfl⟩
          unfold inF
          first | (rw [if_pos (by omega)]; done) | (rw [if_neg (by omega), if_pos (by omega)]; done) | (rw [if_neg (by omega), if_neg (by omega), if_pos (by omega)]; done) | (rw [if_neg (by omega), if_neg (by omega), if_neg (by omega)]; done)
        · refine r_aload_n dX11_in_62 rfl ?_
          refine r_getR dX11_in_63 fl_X11_19 rfl (by assumption) (by assumption) ?_
          refine r_getR dX11_in_66 fl_X11_97 rfl (by assumption) (by assumption) ?_
          refine r_iload_n dX11_in_69 rfl ?_
          refine r_cV1F1 dX11_in_70 ml_X11_204 yl_X1_hasHold ⟨rfl, rfl⟩ (by assumption) ⟨_, rfl⟩ rfl rfl rfl rfl (c_hasHold hF hw.1.1 hk) ?_
          refine r_if_eqB (tgt := 92) dX11_in_73 rfl (fun c73 => ?_) (fun c73 => ?_)
          · have d73 := of_decide_eq_false c73
            refine r_iconst dX11_in_92 ?_
            refine r_ireturn dX11_in_93 rfl rfl rfl ?_
            refine ⟨rI ?_, rfl, rfl⟩
            unfold inF
            first | (rw [if_pos (by omega)]; done) | (rw [if_neg (by omega), if_pos (by omega)]; done) | (rw [if_neg (by omega), if_neg (by omega), if_pos (by omega)]; done) | (rw [if_neg (by omega), if_neg (by omega), if_neg (by omega)]; done)
          · have d73 := of_decide_eq_true c73
            refine r_aload_n dX11_in_76 rfl ?_
            refine r_getR dX11_in_77 fl_X11_19 rfl (by assumption) (by assumption) ?_
            refine r_getR dX11_in_80 fl_X11_97 rfl (by assumption) (by assumption) ?_
            refine r_aload_n dX11_in_83 rfl ?_
            refine r_getR dX11_in_84 fl_X11_29 rfl (by assumption) (by assumption) ?_
            refine r_iload_n dX11_in_87 rfl ?_
            refine r_cS3F1 dX11_in_88 ml_X11_207 yl_X7_loadOfHold ⟨rfl, rfl⟩ rfl rfl rfl rfl (c_loadOfHold hF hC hw hk) ?_
            refine r_ireturn dX11_in_91 rfl rfl rfl ?_
            refine ⟨rI ?_, rfl, rfl⟩
            unfold inF
            first | (rw [if_pos (by omega)]; done) | (rw [if_neg (by omega), if_pos (by omega)]; done) | (rw [if_neg (by omega), if_neg (by omega), if_pos (by omega)]; done) | (rw [if_neg (by omega), if_neg (by omega), if_neg (by omega)]; done)
      · refine r_aload_n dX11_in_30 rfl ?_
        refine r_getR dX11_in_31 fl_X11_19 rfl (by assumption) (by assumption) ?_
        refine r_getR dX11_in_34 fl_X11_122 rfl (by assumption) (by assumption) ?_
        refine r_iload_n dX11_in_37 rfl ?_
        refine r_cV1F1 dX11_in_38 ml_X11_198 yl_X10_hasTank ⟨rfl, rfl⟩ (by assumption) ⟨_, rfl⟩ rfl rfl rfl rfl (c_hasTank hV hw.1.1 hk) ?_
        refine r_if_eqB (tgt := 57) dX11_in_41 rfl (fun c41 => ?_) (fun c41 => ?_)
        · have d41 := of_decide_eq_false c41
          refine r_iload_n dX11_in_57 rfl ?_
          refine r_iconst dX11_in_58 ?_
          refine q_icmp_ne (tgt := 92) dX11_in_59 rfl (by omega) (by omega) (fun c59 => ?_) (fun c59 => ?_)
          · refine r_iconst dX11_in_92 ?_
            refine r_ireturn dX11_in_93 rfl rfl rfl ?_
            refine ⟨rI ?_, rfl, rfl⟩
            unfold inF
            first | (rw [if_pos (by omega)]; done) | (rw [if_neg (by omega), if_pos (by omega)]; done) | (rw [if_neg (by omega), if_neg (by omega), if_pos (by omega)]; done) | (rw [if_neg (by omega), if_neg (by omega), if_neg (by omega)]; done)
          · refine r_aload_n dX11_in_62 rfl ?_
            refine r_getR dX11_in_63 fl_X11_19 rfl (by assumption) (by assumption) ?_
            refine r_getR dX11_in_66 fl_X11_97 rfl (by assumption) (by assumption) ?_
            refine r_iload_n dX11_in_69 rfl ?_
            refine r_cV1F1 dX11_in_70 ml_X11_204 yl_X1_hasHold ⟨rfl, rfl⟩ (by assumption) ⟨_, rfl⟩ rfl rfl rfl rfl (c_hasHold hF hw.1.1 hk) ?_
            refine r_if_eqB (tgt := 92) dX11_in_73 rfl (fun c73 => ?_) (fun c73 => ?_)
            · have d73 := of_decide_eq_false c73
              refine r_iconst dX11_in_92 ?_
              refine r_ireturn dX11_in_93 rfl rfl rfl ?_
              refine ⟨rI ?_, rfl, rfl⟩
              unfold inF
              first | (rw [if_pos (by omega)]; done) | (rw [if_neg (by omega), if_pos (by omega)]; done) | (rw [if_neg (by omega), if_neg (by omega), if_pos (by omega)]; done) | (rw [if_neg (by omega), if_neg (by omega), if_neg (by omega)]; done)
            · have d73 := of_decide_eq_true c73
              refine r_aload_n dX11_in_76 rfl ?_
              refine r_getR dX11_in_77 fl_X11_19 rfl (by assumption) (by assumption) ?_
              refine r_getR dX11_in_80 fl_X11_97 rfl (by assumption) (by assumption) ?_
              refine r_aload_n dX11_in_83 rfl ?_
              refine r_getR dX11_in_84 fl_X11_29 rfl (by assumption) (by assumption) ?_
              refine r_iload_n dX11_in_87 rfl ?_
              refine r_cS3F1 dX11_in_88 ml_X11_207 yl_X7_loadOfHold ⟨rfl, rfl⟩ rfl rfl rfl rfl (c_loadOfHold hF hC hw hk) ?_
              refine r_ireturn dX11_in_91 rfl rfl rfl ?_
              refine ⟨rI ?_, rfl, rfl⟩
              unfold inF
              first | (rw [if_pos (by omega)]; done) | (rw [if_neg (by omega), if_pos (by omega)]; done) | (rw [if_neg (by omega), if_neg (by omega), if_pos (by omega)]; done) | (rw [if_neg (by omega), if_neg (by omega), if_neg (by omega)]; done)
        · have d41 := of_decide_eq_true c41
          refine r_aload_n dX11_in_44 rfl ?_
          refine r_getR dX11_in_45 fl_X11_19 rfl (by assumption) (by assumption) ?_
          refine r_getR dX11_in_48 fl_X11_122 rfl (by assumption) (by assumption) ?_
          refine r_getR dX11_in_51 fl_X11_201 rfl (by assumption) (by assumption) ?_
          refine r_iload_n dX11_in_54 rfl ?_
          refine r_iald dX11_in_55 (by assumption) rfl (by omega) ?_
          rw [(vt k (by omega) (by omega)).2]
          refine r_ireturn dX11_in_56 rfl rfl rfl ?_
          refine ⟨rI ?_, rfl, rfl⟩
          unfold inF
          first | (rw [if_pos (by omega)]; done) | (rw [if_neg (by omega), if_pos (by omega)]; done) | (rw [if_neg (by omega), if_neg (by omega), if_pos (by omega)]; done) | (rw [if_neg (by omega), if_neg (by omega), if_neg (by omega)]; done)
    · have d12 := of_decide_eq_true c12
      have q2 : μ.1 (c + 5) k = ρ (51 + k) := by rcases (show k = 0 ∨ k = 1 by omega) with rfl | rfl <;> assumption
      refine r_aload_n dX11_in_15 rfl ?_
      refine r_getR dX11_in_16 fl_X11_29 rfl (by assumption) (by assumption) ?_
      refine r_getR dX11_in_19 fl_X11_195 rfl (by assumption) (by assumption) ?_
      refine r_iload_n dX11_in_22 rfl ?_
      refine r_iald dX11_in_23 (by assumption) rfl (by omega) ?_
      rw [q2]
      refine r_ireturn dX11_in_24 rfl rfl rfl ?_
      refine ⟨rI ?_, rfl, rfl⟩
      unfold inF
      first | (rw [if_pos (by omega)]; done) | (rw [if_neg (by omega), if_pos (by omega)]; done) | (rw [if_neg (by omega), if_neg (by omega), if_pos (by omega)]; done) | (rw [if_neg (by omega), if_neg (by omega), if_neg (by omega)]; done)
