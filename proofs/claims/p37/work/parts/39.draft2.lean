/-! 39.draft2: taken from whole (wip/p37/port.py) -/
/-! 39.draft2: what is added to a floor (wip/whole/src/39_draft2.py) -/
/-- one step of a spot's way -/
def wayS (ρ : Row) (s : Int) : Int → Int → Int := fun k a => if ρ (19 + k) = ρ (19 + s) ∧ (if ρ (16 + ρ (19 + s)) = 1 then s < k else k < s) then ior a (ishl 1 k) else a
theorem wayF_S (ρ : Row) (s : Int) : wayF ρ s = fld (wayS ρ s) (ρ 5).toNat 0 0 := rfl
def spotR (ρ : Row) (x l : Int) : Row := rset (rset (rset (rset ρ (19 + ρ 5) (ρ 4 - 1)) (25 + ρ 5) x) (31 + ρ 5) l) 5 (ρ 5 + 1)
theorem wayS_old {ρ : Row} {x l s k a : Int} (h5 : 0 ≤ ρ 5 ∧ ρ 5 < 6) (h4 : 1 ≤ ρ 4 ∧ ρ 4 ≤ 3) (hs : WFs ρ) (s0 : 0 ≤ s ∧ s < ρ 5) (k0 : 0 ≤ k ∧ k < ρ 5) : wayS (spotR ρ x l) s k a = wayS ρ s k a := by
  have q := (hs s s0.1 s0.2).1
  unfold wayS spotR
  simp (disch := omega) only [rset_ne]
theorem way_old {ρ : Row} {x l s : Int} (h5 : 0 ≤ ρ 5 ∧ ρ 5 < 6) (h4 : 1 ≤ ρ 4 ∧ ρ 4 ≤ 3) (hs : WFs ρ) (h16 : WFh ρ) (s0 : 0 ≤ s ∧ s < ρ 5) : wayF (spotR ρ x l) s = if ρ (19 + s) = ρ 4 - 1 ∧ ρ (16 + (ρ 4 - 1)) = 1 then ior (wayF ρ s) (ishl 1 (ρ 5)) else wayF ρ s := by
  have e5 : (spotR ρ x l) 5 = ρ 5 + 1 := rset_eq
  rw [wayF_S, e5, show (ρ 5 + 1).toNat = (ρ 5).toNat + 1 by omega, fld_snoc, show (0 : Int) + ((ρ 5).toNat : Int) = ρ 5 by omega]
  rw [fld_congr (g := wayS ρ s) _ _ _ fun j a j0 j1 => wayS_old h5 h4 hs s0 ⟨j0, by omega⟩, ← wayF_S]
  have q := (hs s s0.1 s0.2).1
  unfold wayS spotR
  simp (disch := omega) only [rset_ne, rset_eq]
  by_cases c : ρ (19 + s) = ρ 4 - 1
  · rw [c]
    by_cases c2 : ρ (16 + (ρ 4 - 1)) = 1
    · rw [if_pos ⟨rfl, by rw [if_pos c2]; omega⟩, if_pos ⟨rfl, c2⟩]
    · rw [if_neg (fun h => by have h := h.2; rw [if_neg c2] at h; omega), if_neg (fun h => c2 h.2)]
  · rw [if_neg (fun h => c h.1.symm), if_neg (fun h => c h.1)]
def wayN (ρ : Row) : Int → Int → Int := fun k a => if ρ (19 + k) = ρ 4 - 1 ∧ ρ (16 + (ρ 4 - 1)) ≠ 1 then ior a (ishl 1 k) else a
theorem way_new {ρ : Row} {x l : Int} (h5 : 0 ≤ ρ 5 ∧ ρ 5 < 6) (h4 : 1 ≤ ρ 4 ∧ ρ 4 ≤ 3) (hs : WFs ρ) : wayF (spotR ρ x l) (ρ 5) = fld (wayN ρ) (ρ 5).toNat 0 0 := by
  have e5 : (spotR ρ x l) 5 = ρ 5 + 1 := rset_eq
  have e19 : (spotR ρ x l) (19 + ρ 5) = ρ 4 - 1 := by unfold spotR; simp (disch := omega) only [rset_ne, rset_eq]
  have e16 : (spotR ρ x l) (16 + (ρ 4 - 1)) = ρ (16 + (ρ 4 - 1)) := by unfold spotR; simp (disch := omega) only [rset_ne]
  rw [wayF_S, e5, show (ρ 5 + 1).toNat = (ρ 5).toNat + 1 by omega, fld_snoc, show (0 : Int) + ((ρ 5).toNat : Int) = ρ 5 by omega]
  have e : wayS (spotR ρ x l) (ρ 5) (ρ 5) (fld (wayS (spotR ρ x l) (ρ 5)) (ρ 5).toNat 0 0) = fld (wayS (spotR ρ x l) (ρ 5)) (ρ 5).toNat 0 0 := by
    conv => lhs; unfold wayS
    rw [if_neg (fun h => by have h := h.2; split at h <;> omega)]
    rfl
  rw [e]
  refine fld_congr _ _ _ fun j a j0 j1 => ?_
  unfold wayS wayN
  have ej : (spotR ρ x l) (19 + j) = ρ (19 + j) := by unfold spotR; simp (disch := omega) only [rset_ne]
  rw [e19, e16, ej]
  by_cases c2 : ρ (16 + (ρ 4 - 1)) = 1
  · rw [if_neg (fun h => by have h := h.2; rw [if_pos c2] at h; omega), if_neg (fun h => h.2 c2)]
  · by_cases c : ρ (19 + j) = ρ 4 - 1
    · rw [if_pos ⟨c, by rw [if_neg c2]; omega⟩, if_pos ⟨c, c2⟩]
    · rw [if_neg (fun h => c h.1), if_neg (fun h => c h.1)]
theorem d_addSpot {sh : Sh} {μ : Mem} {a : Nat} {ρ : Row} (hF : RelF sh μ a ρ) (h5 : 0 ≤ ρ 5 ∧ ρ 5 < 6) (h4 : 1 ≤ ρ 4 ∧ ρ 4 ≤ 3) (h6 : 0 ≤ ρ 6 ∧ ρ 6 ≤ 5) (hs : WFs ρ) (hh : WFh ρ) {x l : Int} (hx : -2147483648 ≤ x ∧ x < 2147483648) (hl : -2147483648 ≤ l ∧ l < 2147483648)  : AMet yX1_addSpot gX1_addSpot sh [vR a, vI x, vI l] μ (fun r2 sh2 μ2 => r2 = none ∧ sh2 = sh ∧ RelF sh μ2 a (spotR ρ x l) ∧ Kp (fun q => q ≠ a ∧ ¬ (a + 4 ≤ q ∧ q ≤ a + 7)) μ μ2 ∧ μ2.2 = μ.2 ∧ ∀ j, j ≠ 4 → μ2.1 a j = μ.1 a j) := by
  obtain ⟨hA, f0, fh, f4, fs, f9, fj⟩ := id hF
  have lB : ∀ (f n : Nat) (k : Int) (μ' : Mem), n < f → 0 ≤ k → k + n = ρ 5 → (μ'.2 = μ.2 ∧ (∀ q : Nat, q ≠ a + 7 → μ'.1 q = ((setI (setI (setI μ (a + 4) (ρ 5) (ρ 4 - 1)) (a + 5) (ρ 5) x) (a + 6) (ρ 5) l)).1 q)) → (∀ s, 0 ≤ s → s < ρ 5 → μ'.1 (a + 7) s = if s < k then wayF (spotR ρ x l) s else wayF ρ s) → μ'.1 (a + 7) (ρ 5) = fld (wayN ρ) k.toNat 0 0 → AW gX1_addSpot sh μ' 0 0 66 [some (vR a), some (vI x), some (vI l), some (vI (ρ 4 - 1)), some (vI (ρ 5)), some (vI k)] [] (fun r2 sh2 μ2 => r2 = none ∧ sh2 = sh ∧ RelF sh μ2 a (spotR ρ x l) ∧ Kp (fun q => q ≠ a ∧ ¬ (a + 4 ≤ q ∧ q ≤ a + 7)) μ μ2 ∧ μ2.2 = μ.2 ∧ ∀ j, j ≠ 4 → μ2.1 a j = μ.1 a j) := by
    intro f
    induction f with
    | zero => intro n; intros; omega
    | succ f ih =>
      intro n k μ' hf hk0 hn2 hk hw1 hw2
      have hRR : μ'.2.2 = μ.2.2 := by rw [hk.1]
      obtain ⟨g0, q1, q2, q3, q5, q6, q7, q8, q10, q11, z1, z2, z3, z4, z5, z6, z7, z8, z9⟩ := (show IsFloor sh μ'.2.2 a from hRR ▸ hA)
      refine r_iload dX1_addSpot_66 rfl ?_
      refine r_iload dX1_addSpot_68 rfl ?_
      refine q_icmp_ge (tgt := 141) dX1_addSpot_70 rfl (by omega) (by omega) (fun c70 => ?_) (fun c70 => ?_)
      · refine r_aload_n dX1_addSpot_141 rfl ?_
        refine r_dup dX1_addSpot_142 rfl ?_
        refine r_getI dX1_addSpot_143 fl_X1_45 rfl (by assumption) ?_
        (try rw [hk.2 a (by omega)]); (try simp (disch := omega) only [sI_at, sI_ne, sI_nj, sI_L, sL_at, sL_ne, sL_nj, sL_I]); (try rw [f0]); (try rw [f4])
        refine r_iconst dX1_addSpot_146 ?_
        refine r_iadd dX1_addSpot_147 ?_
        refine r_putI dX1_addSpot_148 fl_X1_45 (by assumption) ?_
        refine r_return dX1_addSpot_151 rfl rfl rfl ?_
        refine ⟨rfl, rfl, ⟨(show IsFloor sh μ'.2.2 a from by rw [hRR]; exact hA), ?_, fun h h0 h1 => ?_, ?_, fun s s0 s1 => ?_, ?_, fun j j0 j1 => ?_⟩, ?_, hk.1, fun j hj => ?_⟩
        · rw [sI_nj (by omega), hk.2 a (by omega)]
          unfold spotR
          simp (disch := omega) only [rset_eq, rset_ne]
          simp (disch := omega) only [sI_at, sI_ne, sI_nj, sI_L, sL_at, sL_ne, sL_nj, sL_I]
          exact f0
        · have e4 : spotR ρ x l 4 = ρ 4 := by unfold spotR; simp (disch := omega) only [rset_eq, rset_ne]
          rw [e4] at h1
          rw [sI_ne (by omega), sI_ne (by omega), hk.2 _ (by omega), hk.2 _ (by omega)]
          unfold spotR
          simp (disch := omega) only [rset_eq, rset_ne]
          simp (disch := omega) only [sI_at, sI_ne, sI_nj, sI_L, sL_at, sL_ne, sL_nj, sL_I]
          exact fh h h0 h1
        · rw [sI_at]
          unfold spotR
          exact rset_eq.symm
        · have e5 : spotR ρ x l 5 = ρ 5 + 1 := rset_eq
          rw [e5] at s1
          rw [sI_ne (by omega), sI_ne (by omega), sI_ne (by omega), sI_ne (by omega), hk.2 _ (by omega), hk.2 _ (by omega), hk.2 _ (by omega)]
          by_cases e : s = ρ 5
          · subst e
            rw [way_new h5 h4 hs, hw2, show k = ρ 5 by omega]
            unfold spotR
            simp (disch := omega) only [rset_eq, rset_ne]
            simp (disch := omega) only [sI_at, sI_ne, sI_nj, sI_L, sL_at, sL_ne, sL_nj, sL_I]
            exact ⟨trivial, trivial, trivial, trivial⟩
          · rw [hw1 s s0 (by omega), if_pos (by omega)]
            have q := fs s s0 (by omega)
            refine ⟨?_, ?_, ?_, rfl⟩
            · unfold spotR
              simp (disch := omega) only [rset_eq, rset_ne]
              simp (disch := omega) only [sI_at, sI_ne, sI_nj, sI_L, sL_at, sL_ne, sL_nj, sL_I]
              exact q.1
            · unfold spotR
              simp (disch := omega) only [rset_eq, rset_ne]
              simp (disch := omega) only [sI_at, sI_ne, sI_nj, sI_L, sL_at, sL_ne, sL_nj, sL_I]
              exact q.2.1
            · unfold spotR
              simp (disch := omega) only [rset_eq, rset_ne]
              simp (disch := omega) only [sI_at, sI_ne, sI_nj, sI_L, sL_at, sL_ne, sL_nj, sL_I]
              exact q.2.2.1
        · rw [sI_nj (by omega), hk.2 a (by omega)]
          unfold spotR
          simp (disch := omega) only [rset_eq, rset_ne]
          simp (disch := omega) only [sI_at, sI_ne, sI_nj, sI_L, sL_at, sL_ne, sL_nj, sL_I]
          exact f9
        · have e6 : spotR ρ x l 6 = ρ 6 := by unfold spotR; simp (disch := omega) only [rset_eq, rset_ne]
          rw [e6] at j1
          rw [sI_ne (by omega), sI_ne (by omega), hk.2 _ (by omega), hk.2 _ (by omega)]
          unfold spotR
          simp (disch := omega) only [rset_eq, rset_ne]
          simp (disch := omega) only [sI_at, sI_ne, sI_nj, sI_L, sL_at, sL_ne, sL_nj, sL_I]
          exact fj j j0 j1
        · intro q hq
          refine ⟨?_, by show (_ : Mem).2.1 q = _; rw [show (setI μ' a 4 (ρ 5 + 1)).2 = μ.2 from hk.1], by show (_ : Mem).2.2 q = _; rw [show (setI μ' a 4 (ρ 5 + 1)).2 = μ.2 from hk.1]⟩
          funext j
          rw [sI_ne (by omega), hk.2 q (by omega)]
          simp (disch := omega) only [sI_at, sI_ne, sI_nj, sI_L, sL_at, sL_ne, sL_nj, sL_I]
        · rw [sI_nj hj, hk.2 a (by omega)]
          simp (disch := omega) only [sI_at, sI_ne, sI_nj, sI_L, sL_at, sL_ne, sL_nj, sL_I]
      · obtain ⟨q, rfl⟩ : ∃ q, n = q + 1 := ⟨n - 1, by omega⟩
        have hsk := hs k (by omega) (by omega)
        have hhk := hh (ρ 4 - 1) (by omega) (by omega)
        have fhk := fh (ρ 4 - 1) (by omega) (by omega)
        have fsk := fs k (by omega) (by omega)
        refine r_aload_n dX1_addSpot_73 rfl ?_
        refine r_getR dX1_addSpot_74 fl_X1_23 rfl (by assumption) (by assumption) ?_
        refine r_iload dX1_addSpot_77 rfl ?_
        refine r_iald dX1_addSpot_79 (by assumption) rfl (by omega) ?_
        rw [hk.2 _ (by omega)]
        simp (disch := omega) only [sI_at, sI_ne, sI_nj, sI_L, sL_at, sL_ne, sL_nj, sL_I]
        rw [fsk.1]
        refine r_iload_n dX1_addSpot_80 rfl ?_
        refine q_icmp_ne (tgt := 110) dX1_addSpot_81 rfl (by omega) (by omega) (fun c81 => ?_) (fun c81 => ?_)
        · refine r_aload_n dX1_addSpot_110 rfl ?_
          refine r_getR dX1_addSpot_111 fl_X1_23 rfl (by assumption) (by assumption) ?_
          refine r_iload dX1_addSpot_114 rfl ?_
          refine r_iald dX1_addSpot_116 (by assumption) rfl (by omega) ?_
          rw [hk.2 _ (by omega)]
          simp (disch := omega) only [sI_at, sI_ne, sI_nj, sI_L, sL_at, sL_ne, sL_nj, sL_I]
          rw [fsk.1]
          refine r_iload_n dX1_addSpot_117 rfl ?_
          refine q_icmp_ne (tgt := 135) dX1_addSpot_118 rfl (by omega) (by omega) (fun c118 => ?_) (fun c118 => ?_)
          · skip
            refine r_iinc dX1_addSpot_135 rfl rfl ?_
            refine r_goto (tgt := 66) dX1_addSpot_138 rfl ?_
            first
            | exact absurd c118 c81
            | exact absurd c81 c118
            | (refine ih q (k + 1) _ (by omega) (by omega) (by omega) ⟨hk.1, fun q hq => (setI_ne hq).trans (hk.2 q hq)⟩ (fun s s0 s1 => ?_) ?_
               · by_cases e : s = k
                 · subst e
                   rw [if_pos (by omega), way_old h5 h4 hs hh ⟨s0, s1⟩]
                   rw [sI_nj (by omega), hw1 s s0 s1, if_neg (by omega), if_neg (fun h => absurd h.2 hfr)]
                 · rw [sI_nj (by omega)]
                   rw [hw1 s s0 s1]
                   by_cases e2 : s < k
                   · rw [if_pos e2, if_pos (by omega)]
                   · rw [if_neg e2, if_neg (by omega)]
               · rw [show (k + 1).toNat = k.toNat + 1 by omega, fld_snoc, show (0 : Int) + (k.toNat : Int) = k by omega]
                 unfold wayN
                 rw [sI_at, if_pos ⟨c81, hfr⟩, hw2]
                 rfl)
            | (refine ih q (k + 1) _ (by omega) (by omega) (by omega) ⟨hk.1, fun q hq => (setI_ne hq).trans (hk.2 q hq)⟩ (fun s s0 s1 => ?_) ?_
               · by_cases e : s = k
                 · subst e
                   rw [if_pos (by omega), way_old h5 h4 hs hh ⟨s0, s1⟩]
                   rw [sI_at, if_pos ⟨c81, hfr⟩, hw1 s s0 s1, if_neg (by omega)]
                 · rw [sI_nj (by omega)]
                   rw [hw1 s s0 s1]
                   by_cases e2 : s < k
                   · rw [if_pos e2, if_pos (by omega)]
                   · rw [if_neg e2, if_neg (by omega)]
               · rw [show (k + 1).toNat = k.toNat + 1 by omega, fld_snoc, show (0 : Int) + (k.toNat : Int) = k by omega]
                 unfold wayN
                 rw [sI_nj (by omega), if_neg (fun h => h.2 hfr), hw2]
                 rfl)
            | (refine ih q (k + 1) _ (by omega) (by omega) (by omega) ⟨hk.1, hk.2⟩ (fun s s0 s1 => ?_) ?_
               · by_cases e : s = k
                 · subst e
                   rw [if_pos (by omega), way_old h5 h4 hs hh ⟨s0, s1⟩]
                   rw [hw1 s s0 s1, if_neg (by omega), if_neg (fun h => c81 h.1)]
                 · rw [hw1 s s0 s1]
                   by_cases e2 : s < k
                   · rw [if_pos e2, if_pos (by omega)]
                   · rw [if_neg e2, if_neg (by omega)]
               · rw [show (k + 1).toNat = k.toNat + 1 by omega, fld_snoc, show (0 : Int) + (k.toNat : Int) = k by omega]
                 unfold wayN
                 rw [if_neg (fun h => c81 h.1), hw2]
                 rfl)
          · skip
            refine r_aload_n dX1_addSpot_121 rfl ?_
            refine r_getR dX1_addSpot_122 fl_X1_32 rfl (by assumption) (by assumption) ?_
            refine r_iload dX1_addSpot_125 rfl ?_
            refine r_dup2 dX1_addSpot_127 rfl rfl ?_
            refine r_iald dX1_addSpot_128 (by assumption) rfl (by omega) ?_
            refine r_iconst dX1_addSpot_129 ?_
            refine r_iload dX1_addSpot_130 rfl ?_
            refine r_ishl dX1_addSpot_132 ?_
            refine r_ior dX1_addSpot_133 ?_
            refine r_iast dX1_addSpot_134 (by assumption) rfl (by omega) ?_
            refine r_iinc dX1_addSpot_135 rfl rfl ?_
            refine r_goto (tgt := 66) dX1_addSpot_138 rfl ?_
            first
            | exact absurd c118 c81
            | exact absurd c81 c118
            | (refine ih q (k + 1) _ (by omega) (by omega) (by omega) ⟨hk.1, fun q hq => (setI_ne hq).trans (hk.2 q hq)⟩ (fun s s0 s1 => ?_) ?_
               · by_cases e : s = k
                 · subst e
                   rw [if_pos (by omega), way_old h5 h4 hs hh ⟨s0, s1⟩]
                   rw [sI_nj (by omega), hw1 s s0 s1, if_neg (by omega), if_neg (fun h => absurd h.2 hfr)]
                 · rw [sI_nj (by omega)]
                   rw [hw1 s s0 s1]
                   by_cases e2 : s < k
                   · rw [if_pos e2, if_pos (by omega)]
                   · rw [if_neg e2, if_neg (by omega)]
               · rw [show (k + 1).toNat = k.toNat + 1 by omega, fld_snoc, show (0 : Int) + (k.toNat : Int) = k by omega]
                 unfold wayN
                 rw [sI_at, if_pos ⟨c81, hfr⟩, hw2]
                 rfl)
            | (refine ih q (k + 1) _ (by omega) (by omega) (by omega) ⟨hk.1, fun q hq => (setI_ne hq).trans (hk.2 q hq)⟩ (fun s s0 s1 => ?_) ?_
               · by_cases e : s = k
                 · subst e
                   rw [if_pos (by omega), way_old h5 h4 hs hh ⟨s0, s1⟩]
                   rw [sI_at, if_pos ⟨c81, hfr⟩, hw1 s s0 s1, if_neg (by omega)]
                 · rw [sI_nj (by omega)]
                   rw [hw1 s s0 s1]
                   by_cases e2 : s < k
                   · rw [if_pos e2, if_pos (by omega)]
                   · rw [if_neg e2, if_neg (by omega)]
               · rw [show (k + 1).toNat = k.toNat + 1 by omega, fld_snoc, show (0 : Int) + (k.toNat : Int) = k by omega]
                 unfold wayN
                 rw [sI_nj (by omega), if_neg (fun h => h.2 hfr), hw2]
                 rfl)
            | (refine ih q (k + 1) _ (by omega) (by omega) (by omega) ⟨hk.1, hk.2⟩ (fun s s0 s1 => ?_) ?_
               · by_cases e : s = k
                 · subst e
                   rw [if_pos (by omega), way_old h5 h4 hs hh ⟨s0, s1⟩]
                   rw [hw1 s s0 s1, if_neg (by omega), if_neg (fun h => c81 h.1)]
                 · rw [hw1 s s0 s1]
                   by_cases e2 : s < k
                   · rw [if_pos e2, if_pos (by omega)]
                   · rw [if_neg e2, if_neg (by omega)]
               · rw [show (k + 1).toNat = k.toNat + 1 by omega, fld_snoc, show (0 : Int) + (k.toNat : Int) = k by omega]
                 unfold wayN
                 rw [if_neg (fun h => c81 h.1), hw2]
                 rfl)
        · refine r_aload_n dX1_addSpot_84 rfl ?_
          refine r_getR dX1_addSpot_85 fl_X1_19 rfl (by assumption) (by assumption) ?_
          refine r_iload_n dX1_addSpot_88 rfl ?_
          refine r_zald dX1_addSpot_89 (by assumption) rfl (by omega) ?_
          rw [hk.2 _ (by omega)]
          simp (disch := omega) only [sI_at, sI_ne, sI_nj, sI_L, sL_at, sL_ne, sL_nj, sL_I]
          rw [fhk.2]
          refine q_if_eq (tgt := 110) dX1_addSpot_90 rfl (by omega) (fun c90 => ?_) (fun c90 => ?_)
          · have hfr : ρ (16 + (ρ 4 - 1)) = 1 := by omega
            refine r_aload_n dX1_addSpot_110 rfl ?_
            refine r_getR dX1_addSpot_111 fl_X1_23 rfl (by assumption) (by assumption) ?_
            refine r_iload dX1_addSpot_114 rfl ?_
            refine r_iald dX1_addSpot_116 (by assumption) rfl (by omega) ?_
            rw [hk.2 _ (by omega)]
            simp (disch := omega) only [sI_at, sI_ne, sI_nj, sI_L, sL_at, sL_ne, sL_nj, sL_I]
            rw [fsk.1]
            refine r_iload_n dX1_addSpot_117 rfl ?_
            refine q_icmp_ne (tgt := 135) dX1_addSpot_118 rfl (by omega) (by omega) (fun c118 => ?_) (fun c118 => ?_)
            · skip
              refine r_iinc dX1_addSpot_135 rfl rfl ?_
              refine r_goto (tgt := 66) dX1_addSpot_138 rfl ?_
              first
              | exact absurd c118 c81
              | exact absurd c81 c118
              | (refine ih q (k + 1) _ (by omega) (by omega) (by omega) ⟨hk.1, fun q hq => (setI_ne hq).trans (hk.2 q hq)⟩ (fun s s0 s1 => ?_) ?_
                 · by_cases e : s = k
                   · subst e
                     rw [if_pos (by omega), way_old h5 h4 hs hh ⟨s0, s1⟩]
                     rw [sI_nj (by omega), hw1 s s0 s1, if_neg (by omega), if_neg (fun h => absurd h.2 hfr)]
                   · rw [sI_nj (by omega)]
                     rw [hw1 s s0 s1]
                     by_cases e2 : s < k
                     · rw [if_pos e2, if_pos (by omega)]
                     · rw [if_neg e2, if_neg (by omega)]
                 · rw [show (k + 1).toNat = k.toNat + 1 by omega, fld_snoc, show (0 : Int) + (k.toNat : Int) = k by omega]
                   unfold wayN
                   rw [sI_at, if_pos ⟨c81, hfr⟩, hw2]
                   rfl)
              | (refine ih q (k + 1) _ (by omega) (by omega) (by omega) ⟨hk.1, fun q hq => (setI_ne hq).trans (hk.2 q hq)⟩ (fun s s0 s1 => ?_) ?_
                 · by_cases e : s = k
                   · subst e
                     rw [if_pos (by omega), way_old h5 h4 hs hh ⟨s0, s1⟩]
                     rw [sI_at, if_pos ⟨c81, hfr⟩, hw1 s s0 s1, if_neg (by omega)]
                   · rw [sI_nj (by omega)]
                     rw [hw1 s s0 s1]
                     by_cases e2 : s < k
                     · rw [if_pos e2, if_pos (by omega)]
                     · rw [if_neg e2, if_neg (by omega)]
                 · rw [show (k + 1).toNat = k.toNat + 1 by omega, fld_snoc, show (0 : Int) + (k.toNat : Int) = k by omega]
                   unfold wayN
                   rw [sI_nj (by omega), if_neg (fun h => h.2 hfr), hw2]
                   rfl)
              | (refine ih q (k + 1) _ (by omega) (by omega) (by omega) ⟨hk.1, hk.2⟩ (fun s s0 s1 => ?_) ?_
                 · by_cases e : s = k
                   · subst e
                     rw [if_pos (by omega), way_old h5 h4 hs hh ⟨s0, s1⟩]
                     rw [hw1 s s0 s1, if_neg (by omega), if_neg (fun h => c81 h.1)]
                   · rw [hw1 s s0 s1]
                     by_cases e2 : s < k
                     · rw [if_pos e2, if_pos (by omega)]
                     · rw [if_neg e2, if_neg (by omega)]
                 · rw [show (k + 1).toNat = k.toNat + 1 by omega, fld_snoc, show (0 : Int) + (k.toNat : Int) = k by omega]
                   unfold wayN
                   rw [if_neg (fun h => c81 h.1), hw2]
                   rfl)
            · skip
              refine r_aload_n dX1_addSpot_121 rfl ?_
              refine r_getR dX1_addSpot_122 fl_X1_32 rfl (by assumption) (by assumption) ?_
              refine r_iload dX1_addSpot_125 rfl ?_
              refine r_dup2 dX1_addSpot_127 rfl rfl ?_
              refine r_iald dX1_addSpot_128 (by assumption) rfl (by omega) ?_
              refine r_iconst dX1_addSpot_129 ?_
              refine r_iload dX1_addSpot_130 rfl ?_
              refine r_ishl dX1_addSpot_132 ?_
              refine r_ior dX1_addSpot_133 ?_
              refine r_iast dX1_addSpot_134 (by assumption) rfl (by omega) ?_
              refine r_iinc dX1_addSpot_135 rfl rfl ?_
              refine r_goto (tgt := 66) dX1_addSpot_138 rfl ?_
              first
              | exact absurd c118 c81
              | exact absurd c81 c118
              | (refine ih q (k + 1) _ (by omega) (by omega) (by omega) ⟨hk.1, fun q hq => (setI_ne hq).trans (hk.2 q hq)⟩ (fun s s0 s1 => ?_) ?_
                 · by_cases e : s = k
                   · subst e
                     rw [if_pos (by omega), way_old h5 h4 hs hh ⟨s0, s1⟩]
                     rw [sI_nj (by omega), hw1 s s0 s1, if_neg (by omega), if_neg (fun h => absurd h.2 hfr)]
                   · rw [sI_nj (by omega)]
                     rw [hw1 s s0 s1]
                     by_cases e2 : s < k
                     · rw [if_pos e2, if_pos (by omega)]
                     · rw [if_neg e2, if_neg (by omega)]
                 · rw [show (k + 1).toNat = k.toNat + 1 by omega, fld_snoc, show (0 : Int) + (k.toNat : Int) = k by omega]
                   unfold wayN
                   rw [sI_at, if_pos ⟨c81, hfr⟩, hw2]
                   rfl)
              | (refine ih q (k + 1) _ (by omega) (by omega) (by omega) ⟨hk.1, fun q hq => (setI_ne hq).trans (hk.2 q hq)⟩ (fun s s0 s1 => ?_) ?_
                 · by_cases e : s = k
                   · subst e
                     rw [if_pos (by omega), way_old h5 h4 hs hh ⟨s0, s1⟩]
                     rw [sI_at, if_pos ⟨c81, hfr⟩, hw1 s s0 s1, if_neg (by omega)]
                   · rw [sI_nj (by omega)]
                     rw [hw1 s s0 s1]
                     by_cases e2 : s < k
                     · rw [if_pos e2, if_pos (by omega)]
                     · rw [if_neg e2, if_neg (by omega)]
                 · rw [show (k + 1).toNat = k.toNat + 1 by omega, fld_snoc, show (0 : Int) + (k.toNat : Int) = k by omega]
                   unfold wayN
                   rw [sI_nj (by omega), if_neg (fun h => h.2 hfr), hw2]
                   rfl)
              | (refine ih q (k + 1) _ (by omega) (by omega) (by omega) ⟨hk.1, hk.2⟩ (fun s s0 s1 => ?_) ?_
                 · by_cases e : s = k
                   · subst e
                     rw [if_pos (by omega), way_old h5 h4 hs hh ⟨s0, s1⟩]
                     rw [hw1 s s0 s1, if_neg (by omega), if_neg (fun h => c81 h.1)]
                   · rw [hw1 s s0 s1]
                     by_cases e2 : s < k
                     · rw [if_pos e2, if_pos (by omega)]
                     · rw [if_neg e2, if_neg (by omega)]
                 · rw [show (k + 1).toNat = k.toNat + 1 by omega, fld_snoc, show (0 : Int) + (k.toNat : Int) = k by omega]
                   unfold wayN
                   rw [if_neg (fun h => c81 h.1), hw2]
                   rfl)
          · have hfr : ρ (16 + (ρ 4 - 1)) ≠ 1 := by omega
            refine r_aload_n dX1_addSpot_93 rfl ?_
            refine r_getR dX1_addSpot_94 fl_X1_32 rfl (by assumption) (by assumption) ?_
            refine r_iload dX1_addSpot_97 rfl ?_
            refine r_dup2 dX1_addSpot_99 rfl rfl ?_
            refine r_iald dX1_addSpot_100 (by assumption) rfl (by omega) ?_
            refine r_iconst dX1_addSpot_101 ?_
            refine r_iload dX1_addSpot_102 rfl ?_
            refine r_ishl dX1_addSpot_104 ?_
            refine r_ior dX1_addSpot_105 ?_
            refine r_iast dX1_addSpot_106 (by assumption) rfl (by omega) ?_
            refine r_goto (tgt := 135) dX1_addSpot_107 rfl ?_
            refine r_iinc dX1_addSpot_135 rfl rfl ?_
            refine r_goto (tgt := 66) dX1_addSpot_138 rfl ?_
            first
            | exact absurd c118 c81
            | exact absurd c81 c118
            | (refine ih q (k + 1) _ (by omega) (by omega) (by omega) ⟨hk.1, fun q hq => (setI_ne hq).trans (hk.2 q hq)⟩ (fun s s0 s1 => ?_) ?_
               · by_cases e : s = k
                 · subst e
                   rw [if_pos (by omega), way_old h5 h4 hs hh ⟨s0, s1⟩]
                   rw [sI_nj (by omega), hw1 s s0 s1, if_neg (by omega), if_neg (fun h => absurd h.2 hfr)]
                 · rw [sI_nj (by omega)]
                   rw [hw1 s s0 s1]
                   by_cases e2 : s < k
                   · rw [if_pos e2, if_pos (by omega)]
                   · rw [if_neg e2, if_neg (by omega)]
               · rw [show (k + 1).toNat = k.toNat + 1 by omega, fld_snoc, show (0 : Int) + (k.toNat : Int) = k by omega]
                 unfold wayN
                 rw [sI_at, if_pos ⟨c81, hfr⟩, hw2]
                 rfl)
            | (refine ih q (k + 1) _ (by omega) (by omega) (by omega) ⟨hk.1, fun q hq => (setI_ne hq).trans (hk.2 q hq)⟩ (fun s s0 s1 => ?_) ?_
               · by_cases e : s = k
                 · subst e
                   rw [if_pos (by omega), way_old h5 h4 hs hh ⟨s0, s1⟩]
                   rw [sI_at, if_pos ⟨c81, hfr⟩, hw1 s s0 s1, if_neg (by omega)]
                 · rw [sI_nj (by omega)]
                   rw [hw1 s s0 s1]
                   by_cases e2 : s < k
                   · rw [if_pos e2, if_pos (by omega)]
                   · rw [if_neg e2, if_neg (by omega)]
               · rw [show (k + 1).toNat = k.toNat + 1 by omega, fld_snoc, show (0 : Int) + (k.toNat : Int) = k by omega]
                 unfold wayN
                 rw [sI_nj (by omega), if_neg (fun h => h.2 hfr), hw2]
                 rfl)
            | (refine ih q (k + 1) _ (by omega) (by omega) (by omega) ⟨hk.1, hk.2⟩ (fun s s0 s1 => ?_) ?_
               · by_cases e : s = k
                 · subst e
                   rw [if_pos (by omega), way_old h5 h4 hs hh ⟨s0, s1⟩]
                   rw [hw1 s s0 s1, if_neg (by omega), if_neg (fun h => c81 h.1)]
                 · rw [hw1 s s0 s1]
                   by_cases e2 : s < k
                   · rw [if_pos e2, if_pos (by omega)]
                   · rw [if_neg e2, if_neg (by omega)]
               · rw [show (k + 1).toNat = k.toNat + 1 by omega, fld_snoc, show (0 : Int) + (k.toNat : Int) = k by omega]
                 unfold wayN
                 rw [if_neg (fun h => c81 h.1), hw2]
                 rfl)
  obtain ⟨g0, q1, q2, q3, q5, q6, q7, q8, q10, q11, z1, z2, z3, z4, z5, z6, z7, z8, z9⟩ := id hA
  refine AMet.of (by decide) rfl (by decide) rfl ?_
  refine r_aload_n dX1_addSpot_0 rfl ?_
  refine r_getI dX1_addSpot_1 fl_X1_41 rfl (by assumption) ?_
  (try simp (disch := omega) only [sI_at, sI_ne, sI_nj, sI_L, sL_at, sL_ne, sL_nj, sL_I]); (try rw [f0]); (try rw [f4])
  refine r_iconst dX1_addSpot_4 ?_
  refine r_isub dX1_addSpot_5 ?_
  refine r_istore_n dX1_addSpot_6 rfl ?_
  refine r_aload_n dX1_addSpot_7 rfl ?_
  refine r_getI dX1_addSpot_8 fl_X1_45 rfl (by assumption) ?_
  (try simp (disch := omega) only [sI_at, sI_ne, sI_nj, sI_L, sL_at, sL_ne, sL_nj, sL_I]); (try rw [f0]); (try rw [f4])
  refine r_bipush dX1_addSpot_11 (by decide) ?_
  refine q_icmp_ge (tgt := 24) dX1_addSpot_13 rfl (by omega) (by omega) (fun c13 => ?_) (fun c13 => ?_)
  · exact absurd c13 (by omega)
  · refine r_aload_n dX1_addSpot_16 rfl ?_
    refine r_iload_n dX1_addSpot_17 rfl ?_
    refine r_cV1F1 dX1_addSpot_18 ml_X1_57 yl_X1_hasHold ⟨rfl, rfl⟩ (by assumption) ⟨_, rfl⟩ rfl rfl rfl rfl (d_hasHold hA (by omega) (by omega)) ?_
    rw [f0]
    refine r_if_neB (tgt := 25) dX1_addSpot_21 rfl (fun c21 => ?_) (fun c21 => ?_)
    · refine r_aload_n dX1_addSpot_25 rfl ?_
      refine r_getI dX1_addSpot_26 fl_X1_45 rfl (by assumption) ?_
      (try simp (disch := omega) only [sI_at, sI_ne, sI_nj, sI_L, sL_at, sL_ne, sL_nj, sL_I]); (try rw [f0]); (try rw [f4])
      refine r_istore dX1_addSpot_29 rfl ?_
      refine r_aload_n dX1_addSpot_31 rfl ?_
      refine r_getR dX1_addSpot_32 fl_X1_23 rfl (by assumption) (by assumption) ?_
      refine r_iload dX1_addSpot_35 rfl ?_
      refine r_iload_n dX1_addSpot_37 rfl ?_
      refine r_iast dX1_addSpot_38 (by assumption) rfl (by omega) ?_
      refine r_aload_n dX1_addSpot_39 rfl ?_
      refine r_getR dX1_addSpot_40 fl_X1_26 rfl (by assumption) (by assumption) ?_
      refine r_iload dX1_addSpot_43 rfl ?_
      refine r_iload_n dX1_addSpot_45 rfl ?_
      refine r_iast dX1_addSpot_46 (by assumption) rfl (by omega) ?_
      refine r_aload_n dX1_addSpot_47 rfl ?_
      refine r_getR dX1_addSpot_48 fl_X1_29 rfl (by assumption) (by assumption) ?_
      refine r_iload dX1_addSpot_51 rfl ?_
      refine r_iload_n dX1_addSpot_53 rfl ?_
      refine r_iast dX1_addSpot_54 (by assumption) rfl (by omega) ?_
      refine r_aload_n dX1_addSpot_55 rfl ?_
      refine r_getR dX1_addSpot_56 fl_X1_32 rfl (by assumption) (by assumption) ?_
      refine r_iload dX1_addSpot_59 rfl ?_
      refine r_iconst dX1_addSpot_61 ?_
      refine r_iast dX1_addSpot_62 (by assumption) rfl (by omega) ?_
      refine r_iconst dX1_addSpot_63 ?_
      refine r_istore dX1_addSpot_64 rfl ?_
      refine lB _ (ρ 5).toNat 0 _ (Nat.lt_succ_self _) (by omega) (by omega) ⟨rfl, fun q hq => setI_ne hq⟩ (fun s s0 s1 => ?_) ?_
      · rw [if_neg (by omega), sI_nj (by omega)]
        simp (disch := omega) only [sI_at, sI_ne, sI_nj, sI_L, sL_at, sL_ne, sL_nj, sL_I]
        exact (fs s s0 s1).2.2.2
      · rw [sI_at]
        rfl
    · exact absurd c21 (by rw [decide_eq_true (by omega)]; decide)
theorem d_takesJoint {sh : Sh} {μ : Mem} {a : Nat} {ρ : Row} (hF : RelF sh μ a ρ) (h5 : 0 ≤ ρ 5 ∧ ρ 5 ≤ 6) (h4 : 0 ≤ ρ 4 ∧ ρ 4 ≤ 3) (h6 : 0 ≤ ρ 6 ∧ ρ 6 ≤ 5) (hs : WFs ρ) (hj : WFj ρ) (hm : monoS ρ)  : FMet yX1_takesJoint gX1_takesJoint sh [vR a] μ (some (vI (b2i (canJ ρ)))) μ := by
  obtain ⟨hA, f0, fh, f4, fs, f9, fj⟩ := id hF
  obtain ⟨g0, q1, q2, q3, q5, q6, q7, q8, q10, q11, z1, z2, z3, z4, z5, z6, z7, z8, z9⟩ := id hA
  refine AMet.of (by decide) rfl (by decide) rfl ?_
  refine r_aload_n dX1_takesJoint_0 rfl ?_
  refine r_getI dX1_takesJoint_1 fl_X1_45 rfl (by assumption) ?_
  (try rw [f0]); (try rw [f4]); (try rw [f9])
  refine r_iconst dX1_takesJoint_4 ?_
  refine r_isub dX1_takesJoint_5 ?_
  refine r_istore_n dX1_takesJoint_6 rfl ?_
  refine r_iload_n dX1_takesJoint_7 rfl ?_
  refine r_iconst dX1_takesJoint_8 ?_
  refine q_icmp_lt (tgt := 44) dX1_takesJoint_9 rfl (by omega) (by omega) (fun c9 => ?_) (fun c9 => ?_)
  · refine r_iconst dX1_takesJoint_44 ?_
    refine r_zreturn dX1_takesJoint_45 (by first | exact Or.inl rfl | exact Or.inr rfl | exact b2i_01 _ | omega) rfl rfl rfl ?_
    refine ⟨rI ?_, rfl, rfl⟩
    unfold canJ
    first | (rw [decide_eq_true (by omega)]; rfl) | (rw [decide_eq_false (by omega)]; rfl)
  · have q1 := fs (ρ 5 - 1) (by omega) (by omega)
    have q2 := fs (ρ 5 - 1 - 1) (by omega) (by omega)
    have m1 := hm (ρ 5 - 2) (by omega) (by omega)
    rw [show ρ 5 - 2 + 1 = ρ 5 - 1 by omega] at m1
    rw [show ρ 5 - 1 - 1 = ρ 5 - 2 by omega] at q2
    have s1 := hs (ρ 5 - 1) (by omega) (by omega)
    have s2 := hs (ρ 5 - 2) (by omega) (by omega)
    refine r_aload_n dX1_takesJoint_12 rfl ?_
    refine r_getR dX1_takesJoint_13 fl_X1_23 rfl (by assumption) (by assumption) ?_
    refine r_iload_n dX1_takesJoint_16 rfl ?_
    refine r_iald dX1_takesJoint_17 (by assumption) rfl (by omega) ?_
    rw [q1.1]
    refine r_aload_n dX1_takesJoint_18 rfl ?_
    refine r_getI dX1_takesJoint_19 fl_X1_41 rfl (by assumption) ?_
    (try rw [f0]); (try rw [f4]); (try rw [f9])
    refine r_iconst dX1_takesJoint_22 ?_
    refine r_isub dX1_takesJoint_23 ?_
    refine q_icmp_ne (tgt := 44) dX1_takesJoint_24 rfl (by omega) (by omega) (fun c24 => ?_) (fun c24 => ?_)
    · refine r_iconst dX1_takesJoint_44 ?_
      refine r_zreturn dX1_takesJoint_45 (by first | exact Or.inl rfl | exact Or.inr rfl | exact b2i_01 _ | omega) rfl rfl rfl ?_
      refine ⟨rI ?_, rfl, rfl⟩
      unfold canJ
      first | (rw [decide_eq_true (by omega)]; rfl) | (rw [decide_eq_false (by omega)]; rfl)
    · refine r_aload_n dX1_takesJoint_27 rfl ?_
      refine r_getR dX1_takesJoint_28 fl_X1_23 rfl (by assumption) (by assumption) ?_
      refine r_iload_n dX1_takesJoint_31 rfl ?_
      refine r_iconst dX1_takesJoint_32 ?_
      refine r_isub dX1_takesJoint_33 ?_
      refine r_iald dX1_takesJoint_34 (by assumption) rfl (by omega) ?_
      rw [show ρ 5 - 1 - 1 = ρ 5 - 2 by omega, q2.1]
      refine r_aload_n dX1_takesJoint_35 rfl ?_
      refine r_getI dX1_takesJoint_36 fl_X1_41 rfl (by assumption) ?_
      (try rw [f0]); (try rw [f4]); (try rw [f9])
      refine r_iconst dX1_takesJoint_39 ?_
      refine r_isub dX1_takesJoint_40 ?_
      refine q_icmp_eq (tgt := 46) dX1_takesJoint_41 rfl (by omega) (by omega) (fun c41 => ?_) (fun c41 => ?_)
      · refine r_aload_n dX1_takesJoint_46 rfl ?_
        refine r_getI dX1_takesJoint_47 fl_X1_48 rfl (by assumption) ?_
        (try rw [f0]); (try rw [f4]); (try rw [f9])
        refine q_if_eq (tgt := 68) dX1_takesJoint_50 rfl (by omega) (fun c50 => ?_) (fun c50 => ?_)
        · refine r_iconst dX1_takesJoint_68 ?_
          refine r_goto (tgt := 73) dX1_takesJoint_69 rfl ?_
          refine r_zreturn dX1_takesJoint_73 (by first | exact Or.inl rfl | exact Or.inr rfl | exact b2i_01 _ | omega) rfl rfl rfl ?_
          refine ⟨rI ?_, rfl, rfl⟩
          unfold canJ
          first | (rw [decide_eq_true (by omega)]; rfl) | (rw [decide_eq_false (by omega)]; rfl)
        · have q3 := fj (ρ 6 - 1) (by omega) (by omega)
          have q4 := hj (ρ 6 - 1) (by omega) (by omega)
          refine r_aload_n dX1_takesJoint_53 rfl ?_
          refine r_getR dX1_takesJoint_54 fl_X1_35 rfl (by assumption) (by assumption) ?_
          refine r_aload_n dX1_takesJoint_57 rfl ?_
          refine r_getI dX1_takesJoint_58 fl_X1_48 rfl (by assumption) ?_
          (try rw [f0]); (try rw [f4]); (try rw [f9])
          refine r_iconst dX1_takesJoint_61 ?_
          refine r_isub dX1_takesJoint_62 ?_
          refine r_iald dX1_takesJoint_63 (by assumption) rfl (by omega) ?_
          rw [q3.1]
          refine r_iload_n dX1_takesJoint_64 rfl ?_
          refine q_icmp_eq (tgt := 72) dX1_takesJoint_65 rfl (by omega) (by omega) (fun c65 => ?_) (fun c65 => ?_)
          · refine r_iconst dX1_takesJoint_72 ?_
            refine r_zreturn dX1_takesJoint_73 (by first | exact Or.inl rfl | exact Or.inr rfl | exact b2i_01 _ | omega) rfl rfl rfl ?_
            refine ⟨rI ?_, rfl, rfl⟩
            unfold canJ
            first | (rw [decide_eq_true (by omega)]; rfl) | (rw [decide_eq_false (by omega)]; rfl)
          · refine r_iconst dX1_takesJoint_68 ?_
            refine r_goto (tgt := 73) dX1_takesJoint_69 rfl ?_
            refine r_zreturn dX1_takesJoint_73 (by first | exact Or.inl rfl | exact Or.inr rfl | exact b2i_01 _ | omega) rfl rfl rfl ?_
            refine ⟨rI ?_, rfl, rfl⟩
            unfold canJ
            first | (rw [decide_eq_true (by omega)]; rfl) | (rw [decide_eq_false (by omega)]; rfl)
      · refine r_iconst dX1_takesJoint_44 ?_
        refine r_zreturn dX1_takesJoint_45 (by first | exact Or.inl rfl | exact Or.inr rfl | exact b2i_01 _ | omega) rfl rfl rfl ?_
        refine ⟨rI ?_, rfl, rfl⟩
        unfold canJ
        first | (rw [decide_eq_true (by omega)]; rfl) | (rw [decide_eq_false (by omega)]; rfl)
def adJ (μ : Mem) (a : Nat) (l : Int) : Mem := setI (setI (setI μ (a + 8) (μ.1 a 9) (μ.1 a 4 - 1)) (a + 9) (μ.1 a 9) l) a 9 (μ.1 a 9 + 1)
theorem d_addJoint {sh : Sh} {μ : Mem} {a : Nat} (hA : IsFloor sh μ.2.2 a) {l : Int} (h9 : 0 ≤ μ.1 a 9 ∧ μ.1 a 9 < 6)  : FMet yX1_addJoint gX1_addJoint sh [vR a, vI l] μ none (adJ μ a l) := by
  obtain ⟨g0, q1, q2, q3, q5, q6, q7, q8, q10, q11, z1, z2, z3, z4, z5, z6, z7, z8, z9⟩ := id hA
  refine AMet.of (by decide) rfl (by decide) rfl ?_
  refine r_aload_n dX1_addJoint_0 rfl ?_
  refine r_getI dX1_addJoint_1 fl_X1_48 rfl (by assumption) ?_
  (try simp (disch := omega) only [sI_at, sI_ne, sI_nj, sI_L, sL_at, sL_ne, sL_nj, sL_I])
  refine r_bipush dX1_addJoint_4 (by decide) ?_
  refine q_icmp_ge (tgt := 44) dX1_addJoint_6 rfl (by omega) (by omega) (fun c6 => ?_) (fun c6 => ?_)
  · exact absurd c6 (by omega)
  · refine r_aload_n dX1_addJoint_9 rfl ?_
    refine r_getR dX1_addJoint_10 fl_X1_35 rfl (by assumption) (by assumption) ?_
    refine r_aload_n dX1_addJoint_13 rfl ?_
    refine r_getI dX1_addJoint_14 fl_X1_48 rfl (by assumption) ?_
    (try simp (disch := omega) only [sI_at, sI_ne, sI_nj, sI_L, sL_at, sL_ne, sL_nj, sL_I])
    refine r_aload_n dX1_addJoint_17 rfl ?_
    refine r_getI dX1_addJoint_18 fl_X1_45 rfl (by assumption) ?_
    (try simp (disch := omega) only [sI_at, sI_ne, sI_nj, sI_L, sL_at, sL_ne, sL_nj, sL_I])
    refine r_iconst dX1_addJoint_21 ?_
    refine r_isub dX1_addJoint_22 ?_
    refine r_iast dX1_addJoint_23 (by assumption) rfl (by omega) ?_
    refine r_aload_n dX1_addJoint_24 rfl ?_
    refine r_getR dX1_addJoint_25 fl_X1_38 rfl (by assumption) (by assumption) ?_
    refine r_aload_n dX1_addJoint_28 rfl ?_
    refine r_getI dX1_addJoint_29 fl_X1_48 rfl (by assumption) ?_
    (try simp (disch := omega) only [sI_at, sI_ne, sI_nj, sI_L, sL_at, sL_ne, sL_nj, sL_I])
    refine r_iload_n dX1_addJoint_32 rfl ?_
    refine r_iast dX1_addJoint_33 (by assumption) rfl (by omega) ?_
    refine r_aload_n dX1_addJoint_34 rfl ?_
    refine r_dup dX1_addJoint_35 rfl ?_
    refine r_getI dX1_addJoint_36 fl_X1_48 rfl (by assumption) ?_
    (try simp (disch := omega) only [sI_at, sI_ne, sI_nj, sI_L, sL_at, sL_ne, sL_nj, sL_I])
    refine r_iconst dX1_addJoint_39 ?_
    refine r_iadd dX1_addJoint_40 ?_
    refine r_putI dX1_addJoint_41 fl_X1_48 (by assumption) ?_
    refine r_return dX1_addJoint_44 rfl rfl rfl ?_
    exact ⟨rfl, rfl, rfl⟩

