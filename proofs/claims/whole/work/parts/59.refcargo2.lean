/-! 59.refcargo2: a cargo, in the reference (wip/whole/src/59_refcargo2.py) -/
theorem loopC_no {T : Tq} {σ : Sg} {C : CD} (h : sE σ ≠ 0) : ∀ n : Nat, (loopC T n σ C).1 = σ
  | 0 => rfl
  | n + 1 => by
    rw [loopC, nxt_no h, if_neg (fun e => h e.1)]
theorem known_9 {T : Tq} {τ : Sg} (h : knownF T τ ≠ 9 ∧ knownF T τ ≠ 10) (C : CD) : lineC T τ C = (failC τ 1, C) := by
  unfold lineC
  rw [if_neg (fun ht => h.1 ((known_iff (k := 9) (by omega)).2 ht)), if_neg (fun ht => h.2 ((known_iff (k := 10) (by omega)).2 ht))]
def CRef (m : Nat) (μ : Mem) (ρ0 : Row) (x : Int) (r : Sg × Row) (μ2 : Mem) : Prop := RTF m μ μ2 ∧ ((x = 1 ∧ sE r.1 = 0 ∧ SprC m μ2 ρ0 r.2 ∧ μ2.1 m 14 = 0) ∨ (x = 0 ∧ sE r.1 ≠ 0 ∧ μ2.1 m 14 = sE r.1 ∧ μ2.1 m 15 = sP r.1))
def CRg (m : Nat) (μ : Mem) (ρ0 : Row) (x : Int) (r : Sg × Row) (μ2 : Mem) : Prop := RTG m μ μ2 ∧ μ2.1 m 7 = 0 ∧ ((x = 1 ∧ sE r.1 = 0 ∧ SprC m μ2 ρ0 r.2 ∧ μ2.1 m 14 = 0) ∨ (x = 0 ∧ sE r.1 ≠ 0 ∧ μ2.1 m 14 = sE r.1 ∧ μ2.1 m 15 = sP r.1))
set_option maxHeartbeats 4000000 in
theorem m_loopCargo {sh : Sh} {m : Nat} {T : Tq} {μ : Mem} {ρ0 : Row} (hM : IsModel sh μ.2.2 m) : ∀ (f n : Nat) (o1 : Option AV) (μ' : Mem) (σ : Sg) (C : CD), n < f → T.2 - sT σ ≤ n → RTF m μ μ' → RCs m μ' T σ ρ0 C → COK C → μ'.1 m 20 = C.2 → AW gX12_readsCargo sh μ' 0 0 69 [some (vR m), o1] [] (fun r2 sh2 μ2 => sh2 = sh ∧ ∃ x, r2 = some (vI x) ∧ CRef m μ ρ0 x ((loopC T n σ C).1, (loopC T n σ C).2.1) μ2) := by
    intro f
    induction f with
    | zero => intro n; intros; omega
    | succ f ih =>
      intro n o1 μ' σ C hf hn hF hS hC h20
      obtain ⟨hT, ⟨hs, h0⟩, hA, hSp, h14⟩ := id hS
      have hM' : IsModel sh μ'.2.2 m := by rw [hF.1]; exact hM
      obtain ⟨hE, hK, hwd, hs1⟩ := nxt_hand hT.2.1.2 hs h0
      have a11 := hA.2.1
      obtain ⟨g0, f1, z1, f2, z2, f3, z3, f4, z4, f5, z5, f6, z6, f7, z7, f8, z8, f9, z9, f10, z10, f11, z11, f12, z12, f13, z13, f14, z14⟩ := id hM'
      refine r_aload_n dX12_readsCargo_69 rfl ?_
      refine r_getI dX12_readsCargo_70 fl_X12_94 rfl (by assumption) ?_
      (try rw [a11])
      refine q_if_eq (tgt := 145) dX12_readsCargo_73 rfl (by omega) (fun c73 => ?_) (fun c73 => ?_)
      · refine r_iconst dX12_readsCargo_145 ?_
        refine r_zreturn dX12_readsCargo_146 (by first | exact Or.inl rfl | exact Or.inr rfl | exact b2i_01 _ | omega) rfl rfl rfl ?_
        refine ⟨rfl, _, rfl, hF, Or.inl ⟨rfl, ?_, ?_, hS.2.2.2.2⟩⟩
        · cases n with
          | zero => exact hS.2.1.2
          | succ q => rw [show loopC T (q + 1) σ C = (nxt T σ, C) by rw [loopC, if_neg (fun h => h.2 (by omega))]]; exact hE
        · cases n with
          | zero => exact hSp
          | succ q => rw [show loopC T (q + 1) σ C = (nxt T σ, C) by rw [loopC, if_neg (fun h => h.2 (by omega))]]; exact hSp
      · have hn0 : n ≠ 0 := fun h => by
          subst h
          have := nxt_end (T := T) hS.2.1.2 (by omega)
          omega
        obtain ⟨q, rfl⟩ : ∃ q, n = q + 1 := ⟨n - 1, by omega⟩
        have hst : loopC T (q + 1) σ C = loopC T q (lendC T (lineC T (nxt T σ) C).1) (lineC T (nxt T σ) C).2 := by rw [loopC, if_pos ⟨hE, by omega⟩]
        have kr := knownF_rng T (nxt T σ)
        have hok := lineC_ok hT.2.1.2 hs1 C
        refine r_aload_n dX12_readsCargo_76 rfl ?_
        refine r_cV0F1 dX12_readsCargo_77 ml_X12_113 yl_X12_known ⟨rfl, rfl⟩ (by assumption) ⟨_, rfl⟩ rfl rfl rfl rfl (m_known hM' hA hwd hE hK) ?_
        refine r_istore_n dX12_readsCargo_80 rfl ?_
        refine r_iload_n dX12_readsCargo_81 rfl ?_
        refine r_bipush dX12_readsCargo_82 (by decide) ?_
        refine q_icmp_eq (tgt := 99) dX12_readsCargo_84 rfl (by omega) (by omega) (fun c84 => ?_) (fun c84 => ?_)
        · refine r_iload_n dX12_readsCargo_99 rfl ?_
          refine r_bipush dX12_readsCargo_100 (by decide) ?_
          refine q_icmp_ne (tgt := 115) dX12_readsCargo_102 rfl (by omega) (by omega) (fun c102 => ?_) (fun c102 => ?_)
          · refine r_aload_n dX12_readsCargo_115 rfl ?_
            refine r_cV0I dX12_readsCargo_116 ml_X12_204 yl_X12_bulkLine ⟨rfl, rfl⟩ (by assumption) ⟨_, rfl⟩ rfl rfl rfl rfl (m_bulkLine hM' hS hC h20 (known_n (k := 10) (by omega) (by omega))) ?_
            rintro x0 μ3 L0
            have x01 := L0.x01
            have hM3 : IsModel sh μ3.2.2 m := by rw [L0.1.1]; exact hM'
            have hF3 : RTF m μ μ3 := hF.tr L0.1
            clear g0 f1 f2 f3 f4 f5 f6 f7 f8 f9 f10 f11 f12 f13 f14
            have g0 := hM3.1
            refine q_if_ne (tgt := 124) dX12_readsCargo_119 rfl (by omega) (fun c119 => ?_) (fun c119 => ?_)
            · obtain ⟨-, hS4, h204⟩ := L0.2.resolve_right (fun h => by have := h.1; omega)
              obtain ⟨hE4, hK4, hw4, hs4⟩ := nxt_hand hT.2.1.2 hok hS4.2.1.2
              have a11 := hS4.2.2.1.2.1
              refine r_aload_n dX12_readsCargo_124 rfl ?_
              refine r_getI dX12_readsCargo_125 fl_X12_94 rfl (by assumption) ?_
              (try rw [a11])
              skip
              refine r_iconst dX12_readsCargo_128 ?_
              refine q_icmp_eq (tgt := 138) dX12_readsCargo_129 rfl (by omega) (by omega) (fun c129 => ?_) (fun c129 => ?_)
              · refine r_aload_n dX12_readsCargo_138 rfl ?_
                refine r_cV0N dX12_readsCargo_139 ml_X12_121 yl_X12_next ⟨rfl, rfl⟩ (by assumption) ⟨_, rfl⟩ rfl rfl rfl rfl (m_nextT hM3 hS4.1 hs4 hE4 (hS4.2.2.1.2.2.1 (by omega))) ?_
                rintro μ5 ⟨k5, A5⟩
                refine r_goto (tgt := 69) dX12_readsCargo_142 rfl ?_
                have hl : lendC T (lineC T (nxt T σ) C).1 = nxt T (lineC T (nxt T σ) C).1 := by rw [lendC_eq, if_neg (by omega)]
                have h0 : sE (lendC T (lineC T (nxt T σ) C).1) = 0 := by rw [hl]; exact hE4
                have hl3 := lend_0 h0
                have hT1 := nxt_T (T := T) (σ := σ)
                have hT2 := lineC_T (T := T) (σ := nxt T σ) (C := C)
                rw [hst, hl]
                exact ih q _ _ _ _ (by omega) (by omega) (hF3.rk k5) (hS4.next k5 A5) (lineC_C hT.2.1.2 hs1 hC) ((k5.2.2 20 (by omega)).trans h204)
              · refine r_aload_n dX12_readsCargo_132 rfl ?_
                refine r_iconst dX12_readsCargo_133 ?_
                refine r_cV1F1 dX12_readsCargo_134 ml_X12_116 yl_X12_badHere ⟨rfl, rfl⟩ (by assumption) ⟨_, rfl⟩ rfl rfl rfl rfl (m_badHere hM3) ?_
                refine r_zreturn dX12_readsCargo_137 (by first | exact Or.inl rfl | exact Or.inr rfl | exact b2i_01 _ | omega) rfl rfl rfl ?_
                refine ⟨rfl, _, rfl, (hF3.sI (by omega)).sI (by omega), Or.inr ⟨rfl, ?_⟩⟩
                have hl : lendC T (lineC T (nxt T σ) C).1 = failC (nxt T (lineC T (nxt T σ) C).1) 1 := by rw [lendC_eq, if_pos (by omega)]
                rw [hst, hl, loopC_no (fail_yes (by decide)), fail_0 hE4]
                refine ⟨show (1 : Int) ≠ 0 by decide, ?_, ?_⟩
                · simp (disch := omega) only [sI_at, sI_ne, sI_nj, sI_L]
                · rw [sI_at]; exact hS4.2.2.1.1
            · refine r_iconst dX12_readsCargo_122 ?_
              refine r_zreturn dX12_readsCargo_123 (by first | exact Or.inl rfl | exact Or.inr rfl | exact b2i_01 _ | omega) rfl rfl rfl ?_
              refine ⟨rfl, _, rfl, hF3, Or.inr ⟨rfl, ?_⟩⟩
              obtain ⟨-, hn⟩ := L0.2.resolve_left (fun h => by have := h.1; omega)
              rw [hst, lend_no hn.1, loopC_no hn.1]
              exact hn
          · refine r_aload_n dX12_readsCargo_105 rfl ?_
            refine r_cV0I dX12_readsCargo_106 ml_X12_201 yl_X12_palletLine ⟨rfl, rfl⟩ (by assumption) ⟨_, rfl⟩ rfl rfl rfl rfl (m_palletLine hM' hS hC h20 (known_n (k := 9) (by omega) (by omega))) ?_
            rintro x0 μ3 L0
            have x01 := L0.x01
            have hM3 : IsModel sh μ3.2.2 m := by rw [L0.1.1]; exact hM'
            have hF3 : RTF m μ μ3 := hF.tr L0.1
            clear g0 f1 f2 f3 f4 f5 f6 f7 f8 f9 f10 f11 f12 f13 f14
            have g0 := hM3.1
            refine q_if_eq (tgt := 122) dX12_readsCargo_109 rfl (by omega) (fun c109 => ?_) (fun c109 => ?_)
            · refine r_iconst dX12_readsCargo_122 ?_
              refine r_zreturn dX12_readsCargo_123 (by first | exact Or.inl rfl | exact Or.inr rfl | exact b2i_01 _ | omega) rfl rfl rfl ?_
              refine ⟨rfl, _, rfl, hF3, Or.inr ⟨rfl, ?_⟩⟩
              obtain ⟨-, hn⟩ := L0.2.resolve_left (fun h => by have := h.1; omega)
              rw [hst, lend_no hn.1, loopC_no hn.1]
              exact hn
            · refine r_goto (tgt := 124) dX12_readsCargo_112 rfl ?_
              obtain ⟨-, hS4, h204⟩ := L0.2.resolve_right (fun h => by have := h.1; omega)
              obtain ⟨hE4, hK4, hw4, hs4⟩ := nxt_hand hT.2.1.2 hok hS4.2.1.2
              have a11 := hS4.2.2.1.2.1
              refine r_aload_n dX12_readsCargo_124 rfl ?_
              refine r_getI dX12_readsCargo_125 fl_X12_94 rfl (by assumption) ?_
              (try rw [a11])
              skip
              refine r_iconst dX12_readsCargo_128 ?_
              refine q_icmp_eq (tgt := 138) dX12_readsCargo_129 rfl (by omega) (by omega) (fun c129 => ?_) (fun c129 => ?_)
              · refine r_aload_n dX12_readsCargo_138 rfl ?_
                refine r_cV0N dX12_readsCargo_139 ml_X12_121 yl_X12_next ⟨rfl, rfl⟩ (by assumption) ⟨_, rfl⟩ rfl rfl rfl rfl (m_nextT hM3 hS4.1 hs4 hE4 (hS4.2.2.1.2.2.1 (by omega))) ?_
                rintro μ5 ⟨k5, A5⟩
                refine r_goto (tgt := 69) dX12_readsCargo_142 rfl ?_
                have hl : lendC T (lineC T (nxt T σ) C).1 = nxt T (lineC T (nxt T σ) C).1 := by rw [lendC_eq, if_neg (by omega)]
                have h0 : sE (lendC T (lineC T (nxt T σ) C).1) = 0 := by rw [hl]; exact hE4
                have hl3 := lend_0 h0
                have hT1 := nxt_T (T := T) (σ := σ)
                have hT2 := lineC_T (T := T) (σ := nxt T σ) (C := C)
                rw [hst, hl]
                exact ih q _ _ _ _ (by omega) (by omega) (hF3.rk k5) (hS4.next k5 A5) (lineC_C hT.2.1.2 hs1 hC) ((k5.2.2 20 (by omega)).trans h204)
              · refine r_aload_n dX12_readsCargo_132 rfl ?_
                refine r_iconst dX12_readsCargo_133 ?_
                refine r_cV1F1 dX12_readsCargo_134 ml_X12_116 yl_X12_badHere ⟨rfl, rfl⟩ (by assumption) ⟨_, rfl⟩ rfl rfl rfl rfl (m_badHere hM3) ?_
                refine r_zreturn dX12_readsCargo_137 (by first | exact Or.inl rfl | exact Or.inr rfl | exact b2i_01 _ | omega) rfl rfl rfl ?_
                refine ⟨rfl, _, rfl, (hF3.sI (by omega)).sI (by omega), Or.inr ⟨rfl, ?_⟩⟩
                have hl : lendC T (lineC T (nxt T σ) C).1 = failC (nxt T (lineC T (nxt T σ) C).1) 1 := by rw [lendC_eq, if_pos (by omega)]
                rw [hst, hl, loopC_no (fail_yes (by decide)), fail_0 hE4]
                refine ⟨show (1 : Int) ≠ 0 by decide, ?_, ?_⟩
                · simp (disch := omega) only [sI_at, sI_ne, sI_nj, sI_L]
                · rw [sI_at]; exact hS4.2.2.1.1
        · refine r_iload_n dX12_readsCargo_87 rfl ?_
          refine r_bipush dX12_readsCargo_88 (by decide) ?_
          refine q_icmp_eq (tgt := 99) dX12_readsCargo_90 rfl (by omega) (by omega) (fun c90 => ?_) (fun c90 => ?_)
          · refine r_iload_n dX12_readsCargo_99 rfl ?_
            refine r_bipush dX12_readsCargo_100 (by decide) ?_
            refine q_icmp_ne (tgt := 115) dX12_readsCargo_102 rfl (by omega) (by omega) (fun c102 => ?_) (fun c102 => ?_)
            · refine r_aload_n dX12_readsCargo_115 rfl ?_
              refine r_cV0I dX12_readsCargo_116 ml_X12_204 yl_X12_bulkLine ⟨rfl, rfl⟩ (by assumption) ⟨_, rfl⟩ rfl rfl rfl rfl (m_bulkLine hM' hS hC h20 (known_n (k := 10) (by omega) (by omega))) ?_
              rintro x0 μ3 L0
              have x01 := L0.x01
              have hM3 : IsModel sh μ3.2.2 m := by rw [L0.1.1]; exact hM'
              have hF3 : RTF m μ μ3 := hF.tr L0.1
              clear g0 f1 f2 f3 f4 f5 f6 f7 f8 f9 f10 f11 f12 f13 f14
              have g0 := hM3.1
              refine q_if_ne (tgt := 124) dX12_readsCargo_119 rfl (by omega) (fun c119 => ?_) (fun c119 => ?_)
              · obtain ⟨-, hS4, h204⟩ := L0.2.resolve_right (fun h => by have := h.1; omega)
                obtain ⟨hE4, hK4, hw4, hs4⟩ := nxt_hand hT.2.1.2 hok hS4.2.1.2
                have a11 := hS4.2.2.1.2.1
                refine r_aload_n dX12_readsCargo_124 rfl ?_
                refine r_getI dX12_readsCargo_125 fl_X12_94 rfl (by assumption) ?_
                (try rw [a11])
                skip
                refine r_iconst dX12_readsCargo_128 ?_
                refine q_icmp_eq (tgt := 138) dX12_readsCargo_129 rfl (by omega) (by omega) (fun c129 => ?_) (fun c129 => ?_)
                · refine r_aload_n dX12_readsCargo_138 rfl ?_
                  refine r_cV0N dX12_readsCargo_139 ml_X12_121 yl_X12_next ⟨rfl, rfl⟩ (by assumption) ⟨_, rfl⟩ rfl rfl rfl rfl (m_nextT hM3 hS4.1 hs4 hE4 (hS4.2.2.1.2.2.1 (by omega))) ?_
                  rintro μ5 ⟨k5, A5⟩
                  refine r_goto (tgt := 69) dX12_readsCargo_142 rfl ?_
                  have hl : lendC T (lineC T (nxt T σ) C).1 = nxt T (lineC T (nxt T σ) C).1 := by rw [lendC_eq, if_neg (by omega)]
                  have h0 : sE (lendC T (lineC T (nxt T σ) C).1) = 0 := by rw [hl]; exact hE4
                  have hl3 := lend_0 h0
                  have hT1 := nxt_T (T := T) (σ := σ)
                  have hT2 := lineC_T (T := T) (σ := nxt T σ) (C := C)
                  rw [hst, hl]
                  exact ih q _ _ _ _ (by omega) (by omega) (hF3.rk k5) (hS4.next k5 A5) (lineC_C hT.2.1.2 hs1 hC) ((k5.2.2 20 (by omega)).trans h204)
                · refine r_aload_n dX12_readsCargo_132 rfl ?_
                  refine r_iconst dX12_readsCargo_133 ?_
                  refine r_cV1F1 dX12_readsCargo_134 ml_X12_116 yl_X12_badHere ⟨rfl, rfl⟩ (by assumption) ⟨_, rfl⟩ rfl rfl rfl rfl (m_badHere hM3) ?_
                  refine r_zreturn dX12_readsCargo_137 (by first | exact Or.inl rfl | exact Or.inr rfl | exact b2i_01 _ | omega) rfl rfl rfl ?_
                  refine ⟨rfl, _, rfl, (hF3.sI (by omega)).sI (by omega), Or.inr ⟨rfl, ?_⟩⟩
                  have hl : lendC T (lineC T (nxt T σ) C).1 = failC (nxt T (lineC T (nxt T σ) C).1) 1 := by rw [lendC_eq, if_pos (by omega)]
                  rw [hst, hl, loopC_no (fail_yes (by decide)), fail_0 hE4]
                  refine ⟨show (1 : Int) ≠ 0 by decide, ?_, ?_⟩
                  · simp (disch := omega) only [sI_at, sI_ne, sI_nj, sI_L]
                  · rw [sI_at]; exact hS4.2.2.1.1
              · refine r_iconst dX12_readsCargo_122 ?_
                refine r_zreturn dX12_readsCargo_123 (by first | exact Or.inl rfl | exact Or.inr rfl | exact b2i_01 _ | omega) rfl rfl rfl ?_
                refine ⟨rfl, _, rfl, hF3, Or.inr ⟨rfl, ?_⟩⟩
                obtain ⟨-, hn⟩ := L0.2.resolve_left (fun h => by have := h.1; omega)
                rw [hst, lend_no hn.1, loopC_no hn.1]
                exact hn
            · refine r_aload_n dX12_readsCargo_105 rfl ?_
              refine r_cV0I dX12_readsCargo_106 ml_X12_201 yl_X12_palletLine ⟨rfl, rfl⟩ (by assumption) ⟨_, rfl⟩ rfl rfl rfl rfl (m_palletLine hM' hS hC h20 (known_n (k := 9) (by omega) (by omega))) ?_
              rintro x0 μ3 L0
              have x01 := L0.x01
              have hM3 : IsModel sh μ3.2.2 m := by rw [L0.1.1]; exact hM'
              have hF3 : RTF m μ μ3 := hF.tr L0.1
              clear g0 f1 f2 f3 f4 f5 f6 f7 f8 f9 f10 f11 f12 f13 f14
              have g0 := hM3.1
              refine q_if_eq (tgt := 122) dX12_readsCargo_109 rfl (by omega) (fun c109 => ?_) (fun c109 => ?_)
              · refine r_iconst dX12_readsCargo_122 ?_
                refine r_zreturn dX12_readsCargo_123 (by first | exact Or.inl rfl | exact Or.inr rfl | exact b2i_01 _ | omega) rfl rfl rfl ?_
                refine ⟨rfl, _, rfl, hF3, Or.inr ⟨rfl, ?_⟩⟩
                obtain ⟨-, hn⟩ := L0.2.resolve_left (fun h => by have := h.1; omega)
                rw [hst, lend_no hn.1, loopC_no hn.1]
                exact hn
              · refine r_goto (tgt := 124) dX12_readsCargo_112 rfl ?_
                obtain ⟨-, hS4, h204⟩ := L0.2.resolve_right (fun h => by have := h.1; omega)
                obtain ⟨hE4, hK4, hw4, hs4⟩ := nxt_hand hT.2.1.2 hok hS4.2.1.2
                have a11 := hS4.2.2.1.2.1
                refine r_aload_n dX12_readsCargo_124 rfl ?_
                refine r_getI dX12_readsCargo_125 fl_X12_94 rfl (by assumption) ?_
                (try rw [a11])
                skip
                refine r_iconst dX12_readsCargo_128 ?_
                refine q_icmp_eq (tgt := 138) dX12_readsCargo_129 rfl (by omega) (by omega) (fun c129 => ?_) (fun c129 => ?_)
                · refine r_aload_n dX12_readsCargo_138 rfl ?_
                  refine r_cV0N dX12_readsCargo_139 ml_X12_121 yl_X12_next ⟨rfl, rfl⟩ (by assumption) ⟨_, rfl⟩ rfl rfl rfl rfl (m_nextT hM3 hS4.1 hs4 hE4 (hS4.2.2.1.2.2.1 (by omega))) ?_
                  rintro μ5 ⟨k5, A5⟩
                  refine r_goto (tgt := 69) dX12_readsCargo_142 rfl ?_
                  have hl : lendC T (lineC T (nxt T σ) C).1 = nxt T (lineC T (nxt T σ) C).1 := by rw [lendC_eq, if_neg (by omega)]
                  have h0 : sE (lendC T (lineC T (nxt T σ) C).1) = 0 := by rw [hl]; exact hE4
                  have hl3 := lend_0 h0
                  have hT1 := nxt_T (T := T) (σ := σ)
                  have hT2 := lineC_T (T := T) (σ := nxt T σ) (C := C)
                  rw [hst, hl]
                  exact ih q _ _ _ _ (by omega) (by omega) (hF3.rk k5) (hS4.next k5 A5) (lineC_C hT.2.1.2 hs1 hC) ((k5.2.2 20 (by omega)).trans h204)
                · refine r_aload_n dX12_readsCargo_132 rfl ?_
                  refine r_iconst dX12_readsCargo_133 ?_
                  refine r_cV1F1 dX12_readsCargo_134 ml_X12_116 yl_X12_badHere ⟨rfl, rfl⟩ (by assumption) ⟨_, rfl⟩ rfl rfl rfl rfl (m_badHere hM3) ?_
                  refine r_zreturn dX12_readsCargo_137 (by first | exact Or.inl rfl | exact Or.inr rfl | exact b2i_01 _ | omega) rfl rfl rfl ?_
                  refine ⟨rfl, _, rfl, (hF3.sI (by omega)).sI (by omega), Or.inr ⟨rfl, ?_⟩⟩
                  have hl : lendC T (lineC T (nxt T σ) C).1 = failC (nxt T (lineC T (nxt T σ) C).1) 1 := by rw [lendC_eq, if_pos (by omega)]
                  rw [hst, hl, loopC_no (fail_yes (by decide)), fail_0 hE4]
                  refine ⟨show (1 : Int) ≠ 0 by decide, ?_, ?_⟩
                  · simp (disch := omega) only [sI_at, sI_ne, sI_nj, sI_L]
                  · rw [sI_at]; exact hS4.2.2.1.1
          · refine r_aload_n dX12_readsCargo_93 rfl ?_
            refine r_iconst dX12_readsCargo_94 ?_
            refine r_cV1F1 dX12_readsCargo_95 ml_X12_116 yl_X12_badHere ⟨rfl, rfl⟩ (by assumption) ⟨_, rfl⟩ rfl rfl rfl rfl (m_badHere hM') ?_
            refine r_zreturn dX12_readsCargo_98 (by first | exact Or.inl rfl | exact Or.inr rfl | exact b2i_01 _ | omega) rfl rfl rfl ?_
            refine ⟨rfl, _, rfl, (hF.sI (by omega)).sI (by omega), Or.inr ⟨rfl, ?_⟩⟩
            have hb : (lineC T (nxt T σ) C).1 = failC (nxt T σ) 1 := by rw [known_9 ⟨by omega, by omega⟩]
            rw [hst, hb, lend_no (fail_yes (by decide)), loopC_no (fail_yes (by decide)), fail_0 hE]
            refine ⟨show (1 : Int) ≠ 0 by decide, ?_, ?_⟩
            · simp (disch := omega) only [sI_at, sI_ne, sI_nj, sI_L]
            · rw [sI_at]; exact hA.1
theorem m_readsCargo {sh : Sh} {μ : Mem} {m : Nat} {tp : Int → Int} {tl : Int} (hM : IsModel sh μ.2.2 m) (hT : TapM m μ tp tl)  : IMet yX12_readsCargo gX12_readsCargo sh [vR m] μ (fun x μ2 => CRg m μ (μ.1 (m + 1)) x ((cargoR (tp, tl)).1, (cargoR (tp, tl)).2.1) μ2) := by
  obtain ⟨g0, f1, z1, f2, z2, f3, z3, f4, z4, f5, z5, f6, z6, f7, z7, f8, z8, f9, z9, f10, z10, f11, z11, f12, z12, f13, z13, f14, z14⟩ := id hM
  unfold cargoR
  have ht2 := hT.2.1
  refine AMet.of (by decide) rfl (by decide) rfl ?_
  refine r_aload_n dX12_readsCargo_0 rfl ?_
  refine r_sipush dX12_readsCargo_1 (by decide) ?_
  refine r_cV1I dX12_readsCargo_4 ml_X12_162 yl_X12_begins ⟨rfl, rfl⟩ (by assumption) ⟨_, rfl⟩ rfl rfl rfl rfl (m_begins hM hT (n := 300) (by omega)) ?_
  rintro x0 μ1 hx
  have x01 : x0 = 0 ∨ x0 = 1 := hx.elim (fun h => Or.inr h.1) (fun h => Or.inl h.1)
  have hM1 : IsModel sh μ1.2.2 m := by
    have e : μ1.2 = μ.2 := hx.elim (fun h => h.2.2.1.1) (fun h => by rw [h.2.2]; rfl)
    rw [e]; exact hM
  clear g0 f1 f2 f3 f4 f5 f6 f7 f8 f9 f10 f11 f12 f13 f14
  obtain ⟨g0, f1, z1, f2, z2, f3, z3, f4, z4, f5, z5, f6, z6, f7, z7, f8, z8, f9, z9, f10, z10, f11, z11, f12, z12, f13, z13, f14, z14⟩ := id hM1
  have kB : RTG m μ (setI (setI (setI (setI μ m 8 tl) m 7 0) m 14 0) m 9 0) := ((((RTG.rf m μ).sI (by omega)).sI (by omega)).sI (by omega)).sI (by omega)
  refine q_if_ne (tgt := 12) dX12_readsCargo_7 rfl (by omega) (fun c7 => ?_) (fun c7 => ?_)
  · obtain ⟨-, h1, k1, A1⟩ := hx.resolve_right (fun h => by have := h.1; omega)
    refine r_aload_n dX12_readsCargo_12 rfl ?_
    refine r_getR dX12_readsCargo_13 fl_X12_7 rfl (by assumption) (by assumption) ?_
    refine r_iconst dX12_readsCargo_16 ?_
    refine r_aload_n dX12_readsCargo_17 rfl ?_
    refine r_getR dX12_readsCargo_18 fl_X12_13 rfl (by assumption) (by assumption) ?_
    refine r_iconst dX12_readsCargo_21 ?_
    refine r_cS4F0 dX12_readsCargo_22 ml_X12_187 yl_X12_copies ⟨rfl, rfl⟩ rfl rfl rfl rfl (m_copies (by assumption) (by assumption) rfl rfl (by omega) (by omega) (by omega)) ?_
    refine r_bipush dX12_readsCargo_25 (by decide) ?_
    refine r_istore_n dX12_readsCargo_27 rfl ?_
    have lB : ∀ (f n : Nat) (k : Int) (μ' : Mem), n < f → 83 ≤ k → k + n = 143 → (μ'.2 = μ1.2 ∧ ∀ q : Nat, q ≠ m + 2 → μ'.1 q = μ1.1 q) → (∀ j, 0 ≤ j → j < 143 → μ'.1 (m + 2) j = if 83 ≤ j ∧ j < k then 0 else μ.1 (m + 1) j) → AW gX12_readsCargo sh μ' 0 0 28 [some (vR m), some (vI k)] [] (fun r2 sh2 μ2 => sh2 = sh ∧ ∃ x, r2 = some (vI x) ∧ CRg m μ (μ.1 (m + 1)) x ((loopC (tp, tl) 300 (beginC (tp, tl) 300) C0).1, (loopC (tp, tl) 300 (beginC (tp, tl) 300) C0).2.1) μ2) := by
      intro f
      induction f with
      | zero => intro n; intros; omega
      | succ f ih =>
        intro n k μ' hf hk0 hn2 hk hw1
        have hM2 : IsModel sh μ'.2.2 m := by rw [hk.1]; exact hM1
        obtain ⟨g0, f1, z1, f2, z2, f3, z3, f4, z4, f5, z5, f6, z6, f7, z7, f8, z8, f9, z9, f10, z10, f11, z11, f12, z12, f13, z13, f14, z14⟩ := id hM2
        refine r_iload_n dX12_readsCargo_28 rfl ?_
        refine r_sipush dX12_readsCargo_29 (by decide) ?_
        refine q_icmp_ge (tgt := 48) dX12_readsCargo_32 rfl (by omega) (by omega) (fun c32 => ?_) (fun c32 => ?_)
        · obtain rfl : k = 143 := by omega
          refine r_aload_n dX12_readsCargo_48 rfl ?_
          refine r_getR dX12_readsCargo_49 fl_X12_13 rfl (by assumption) (by assumption) ?_
          refine r_bipush dX12_readsCargo_52 (by decide) ?_
          refine r_iconst dX12_readsCargo_54 ?_
          refine r_iast dX12_readsCargo_55 (by assumption) rfl (by omega) ?_
          refine r_aload_n dX12_readsCargo_56 rfl ?_
          refine r_getR dX12_readsCargo_57 fl_X12_13 rfl (by assumption) (by assumption) ?_
          refine r_bipush dX12_readsCargo_60 (by decide) ?_
          refine r_iconst dX12_readsCargo_62 ?_
          refine r_iast dX12_readsCargo_63 (by assumption) rfl (by omega) ?_
          refine r_aload_n dX12_readsCargo_64 rfl ?_
          refine r_iconst dX12_readsCargo_65 ?_
          refine r_putZ dX12_readsCargo_66 fl_X12_198 (by assumption) (by first | exact Or.inl rfl | exact Or.inr rfl | exact b2i_01 _ | omega) ?_
          have hs0 : beginC (tp, tl) 300 = (0, 0, 0, 0, 0) := if_neg (by (try dsimp only); omega)
          have e9 : ∀ j : Int, j ≠ 20 → (setI (setI (setI μ' (m + 2) 11 0) (m + 2) 12 0) m 20 0).1 m j = μ1.1 m j := fun j hj => by
            rw [sI_nj hj, sI_ne (by omega), sI_ne (by omega)]
            exact congrFun (hk.2 m (by omega)) j
          have ko : RTG m μ (setI (setI (setI μ' (m + 2) 11 0) (m + 2) 12 0) m 20 0) := by
            have k2 : RTG m μ μ1 := kB.rk k1
            exact ⟨hk.1.trans k2.1, fun q q0 q2 q7 q8 => ((setI_ne q0).trans ((setI_ne q2).trans ((setI_ne q2).trans (hk.2 q q2)))).trans (k2.2.1 q q0 q2 q7 q8), fun j hj => (e9 j (by omega)).trans (k2.2.2 j hj)⟩
          have e14 : μ1.1 m 14 = 0 := by
            rw [k1.2.2 14 (by omega)]
            simp (disch := omega) only [sI_at, sI_ne, sI_nj, sI_L]
          have e7 : μ1.1 m 7 = 0 := by
            rw [k1.2.2 7 (by omega)]
            simp (disch := omega) only [sI_at, sI_ne, sI_nj, sI_L]
          have hl := m_loopCargo (μ := setI (setI (setI μ' (m + 2) 11 0) (m + 2) 12 0) m 20 0) (T := (tp, tl)) (ρ0 := μ.1 (m + 1)) hM2 301 300 (some (vI 143)) _ (beginC (tp, tl) 300) C0 (by omega) (by rw [hs0]; show tl - 0 ≤ ((300 : Nat) : Int); omega) (RTF.rf _ _) ⟨?_, ⟨beginC_ok ht2.1 (by omega), by rw [hs0]⟩, A1.of (fun j j0 j1 => e9 j (by omega)) ?_, fun j j0 j9 n1 n2 => ?_, (e9 14 (by omega)).trans e14⟩ C0_ok ?_
          · refine AW.mono hl ?_
            rintro r sh2 μ2 ⟨h2, x, h3, h4⟩
            exact ⟨h2, x, h3, ko.rtf h4.1, (h4.1.2.2 7 (by omega)).trans ((e9 7 (by omega)).trans e7), h4.2⟩
          · refine hT.rt ?_ ?_
            · rw [e9 8 (by omega), k1.2.2 8 (by omega)]
              simp (disch := omega) only [sI_at, sI_ne, sI_nj, sI_L]
            · rw [ko.2.1 _ (by omega) (by omega) (by omega) (by omega)]
          · rw [setI_ne (by omega), setI_ne (by omega), setI_ne (by omega)]
            exact hk.2 _ (by omega)
          · have hz : ∀ j, ¬ (93 ≤ j ∧ j < 98) → C0.1 j = 0 := fun j hj => if_neg hj
            rw [sI_ne (by omega)]
            by_cases q1 : j = 12
            · rw [q1, sI_at, setl_c (by omega), hz 12 (by omega)]
            · rw [sI_nj q1]
              by_cases q2 : j = 11
              · rw [q2, sI_at, setl_c (by omega), hz 11 (by omega)]
              · rw [sI_nj q2, hw1 j j0 j9]
                by_cases q3 : 83 ≤ j ∧ j < 143
                · rw [if_pos q3, setl_c (by omega), hz j (by omega)]
                · rw [if_neg q3, setl_p (by omega)]
          · rw [sI_at]; rfl
        · refine r_aload_n dX12_readsCargo_35 rfl ?_
          refine r_getR dX12_readsCargo_36 fl_X12_13 rfl (by assumption) (by assumption) ?_
          refine r_iload_n dX12_readsCargo_39 rfl ?_
          refine r_iconst dX12_readsCargo_40 ?_
          refine r_iast dX12_readsCargo_41 (by assumption) rfl (by omega) ?_
          refine r_iinc dX12_readsCargo_42 rfl rfl ?_
          refine r_goto (tgt := 28) dX12_readsCargo_45 rfl ?_
          refine ih (n - 1) (k + 1) _ (by omega) (by omega) (by omega) ⟨hk.1, fun q hq => (setI_ne hq).trans (hk.2 q hq)⟩ (fun j j0 j9 => ?_)
          by_cases e : j = k
          · rw [e, sI_at, if_pos (by omega)]
          · rw [sI_nj e, hw1 j j0 j9]
            (repeat' split) <;> first | rfl | omega
    refine lB _ 60 83 _ (Nat.lt_succ_self _) (by omega) (by omega) ⟨rfl, fun q hq => funext fun j => ifn hq⟩ (fun j j0 j9 => ?_)
    rw [if_neg (by omega)]
    unfold cpK
    dsimp only
    rw [if_pos (by omega), show (0 : Int) + (j - 0) = j by omega]
    exact congrFun ((kB.rk k1).2.1 _ (by omega) (by omega) (by omega) (by omega)) j
  · refine r_iconst dX12_readsCargo_10 ?_
    refine r_zreturn dX12_readsCargo_11 (by first | exact Or.inl rfl | exact Or.inr rfl | exact b2i_01 _ | omega) rfl rfl rfl ?_
    obtain ⟨-, h1, h2⟩ := hx.resolve_left (fun h => by have := h.1; omega)
    have hb : beginC (tp, tl) 300 = (0, 300, 0, 1, 300) := if_pos h1
    have hr : (loopC (tp, tl) 300 (beginC (tp, tl) 300) C0).1 = (0, 300, 0, 1, 300) := by
      rw [hb]
      exact loopC_no (show (1 : Int) ≠ 0 by decide) 300
    refine ⟨rfl, _, rfl, ?_, ?_, Or.inr ⟨rfl, ?_⟩⟩
    · rw [h2]
      exact (((((RTG.rf m μ).sI (by omega)).sI (by omega)).sI (by omega)).sI (by omega)).sI (by omega)
    · rw [h2]
      simp (disch := omega) only [sI_at, sI_ne, sI_nj, sI_L]
    · rw [hr, h2]
      refine ⟨show (1 : Int) ≠ 0 by decide, ?_, sI_at⟩
      simp (disch := omega) only [sI_at, sI_ne, sI_nj, sI_L]
theorem m_cargo {sh : Sh} {μ : Mem} {m : Nat} {G : Gh} (hI : InM sh m μ G)  : IMet yX12_cargo gX12_cargo sh [vR m] μ (fun x μ2 => x = (cargoF G).1 ∧ MS sh m μ μ2 (cargoF G).2) := by
  have hM := hI.1
  have hr := hI.2.1.1
  obtain ⟨g0, f1, z1, f2, z2, f3, z3, f4, z4, f5, z5, f6, z6, f7, z7, f8, z8, f9, z9, f10, z10, f11, z11, f12, z12, f13, z13, f14, z14⟩ := id hM
  refine AMet.of (by decide) rfl (by decide) rfl ?_
  refine r_aload_n dX12_cargo_0 rfl ?_
  refine r_cV0I dX12_cargo_1 ml_X12_207 yl_X12_readsCargo ⟨rfl, rfl⟩ (by assumption) ⟨_, rfl⟩ rfl rfl rfl rfl (m_readsCargo hM hI.2.2.2.2.1) ?_
  rintro x0 μ1 ⟨kG, h7, hx⟩
  have x01 : x0 = 0 ∨ x0 = 1 := hx.elim (fun h => Or.inr h.1) (fun h => Or.inl h.1)
  have hM1 : IsModel sh μ1.2.2 m := by rw [kG.1]; exact hM
  clear g0 f1 f2 f3 f4 f5 f6 f7 f8 f9 f10 f11 f12 f13 f14
  obtain ⟨g0, f1, z1, f2, z2, f3, z3, f4, z4, f5, z5, f6, z6, f7, z7, f8, z8, f9, z9, f10, z10, f11, z11, f12, z12, f13, z13, f14, z14⟩ := id hM1
  refine q_if_ne (tgt := 16) dX12_cargo_4 rfl (by omega) (fun c4 => ?_) (fun c4 => ?_)
  · obtain ⟨-, hE0, hSp, h14⟩ := hx.resolve_right (fun h => by have := h.1; omega)
    refine r_aload_n dX12_cargo_16 rfl ?_
    refine r_cV0N dX12_cargo_17 ml_X12_184 yl_X12_settles ⟨rfl, rfl⟩ (by assumption) ⟨_, rfl⟩ rfl rfl rfl rfl (m_settles hM1) ?_
    rintro μ3 ⟨s1, s2, s3, s4, s5, s6⟩
    have hM3 : IsModel sh μ3.2.2 m := by rw [s1]; exact hM1
    have hrow : μ3.1 (m + 1) = setlR (gRow G) (cargoR (gTp G, gTl G)).2.1 := by
      have h1r : μ1.1 (m + 1) = μ.1 (m + 1) := kG.2.1 _ (by omega) (by omega) (by omega) (by omega)
      funext j
      by_cases hj : 0 ≤ j ∧ j < 143
      · rw [s5 j hj.1 hj.2]
        by_cases c1 : 93 ≤ j ∧ j < 98
        · rw [if_pos c1, setl_l c1]
        · rw [if_neg c1]
          by_cases c2 : 51 ≤ j ∧ j < 53
          · rw [if_pos c2, setl_b (by omega)]
          · rw [if_neg c2, hSp j hj.1 hj.2 c1 c2, hr]
      · rw [s6 j hj, h1r, hr, hI.2.1.2 j hj]
        by_cases c3 : 143 ≤ j
        · rw [setl_c (by omega)]
          exact ((cargoR_ok (T := (gTp G, gTl G)) hI.2.2.2.2.1.2.1).2.1.2.2.2.2.2.2.2 j (by omega)).symm
        · rw [setl_p (by omega)]; exact (hI.2.1.2 j hj).symm
    clear g0 f1 f2 f3 f4 f5 f6 f7 f8 f9 f10 f11 f12 f13 f14
    obtain ⟨g0, f1, z1, f2, z2, f3, z3, f4, z4, f5, z5, f6, z6, f7, z7, f8, z8, f9, z9, f10, z10, f11, z11, f12, z12, f13, z13, f14, z14⟩ := id hM3
    refine r_aload_n dX12_cargo_20 rfl ?_
    refine r_getR dX12_cargo_21 fl_X12_7 rfl (by assumption) (by assumption) ?_
    refine r_bipush dX12_cargo_24 (by decide) ?_
    refine r_iald dX12_cargo_26 (by assumption) rfl (by omega) ?_
    refine r_ireturn dX12_cargo_27 rfl rfl rfl ?_
    have hk1 : ∀ q : Nat, q ≠ m → q ≠ m + 1 → q ≠ m + 2 → q ≠ m + 7 → q ≠ m + 8 → μ3.1 q = μ.1 q := fun q q0 q1 q2 q3 q4 => (s2 q q0 q1 q2).trans (kG.2.1 q q0 q2 q3 q4)
    have hm : ∀ j, j ≠ 5 → μ3.1 m j = μ1.1 m j := fun j hj => s3 j hj
    have hN : cargoF G = ((cargoR (gTp G, gTl G)).2.1 11, setNew G (setlR (gRow G) (cargoR (gTp G, gTl G)).2.1)) := by
      unfold cargoF
      rw [if_neg (fun h => h hE0)]
    refine ⟨rfl, _, rfl, ?_, ?_⟩
    · rw [hN, hrow, setl_c (by omega)]
    · rw [hN]
      refine hI.settle (by rw [s1]; exact kG.1) hk1 ((hm 33 (by omega)).trans (kG.2.2 33 (by omega))) ((hm 7 (by omega)).trans h7) ((hm 14 (by omega)).trans h14) s4 hrow (fun j hj => ?_) (fun q hq => hk1 q (by omega) (by omega) (by omega) (by omega) (by omega))
      rw [← hrow, s6 j hj, kG.2.1 _ (by omega) (by omega) (by omega) (by omega), hr]
      exact hI.2.1.2 j hj
  · obtain ⟨-, hE0, h14, h15⟩ := hx.resolve_left (fun h => by have := h.1; omega)
    refine r_sipush dX12_cargo_7 (by decide) ?_
    refine r_aload_n dX12_cargo_10 rfl ?_
    refine r_getI dX12_cargo_11 fl_X12_80 rfl (by assumption) ?_
    rw [h15]
    refine r_isub dX12_cargo_14 ?_
    refine r_ireturn dX12_cargo_15 rfl rfl rfl ?_
    have hN : cargoF G = (-1000 - sP (cargoR (gTp G, gTl G)).1, setFl G (sE (cargoR (gTp G, gTl G)).1)) := by
      unfold cargoF
      rw [if_pos hE0]
    exact ⟨rfl, _, rfl, by rw [hN], by rw [hN]; exact hI.fault kG h7 h14⟩
