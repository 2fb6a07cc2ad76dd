/-! 56.refplane4: a plane's text, in the reference (wip/whole/src/56_refplane4.py) -/
set_option maxHeartbeats 4000000 in
theorem m_loopPlane {sh : Sh} {m : Nat} {T : Tq} {μ : Mem} (hM : IsModel sh μ.2.2 m) : ∀ (f n : Nat) (o1 : Option AV) (μ' : Mem) (σ : Sg) (D : PD), n < f → T.2 - sT σ ≤ n → RTF m μ μ' → RS m μ' T σ D → μ'.1 m 18 = D.2.2.1 → μ'.1 m 19 = D.2.2.2 → DOK D → AW gX12_readsPlane sh μ' 0 0 29 [some (vR m), o1] [] (fun r2 sh2 μ2 => sh2 = sh ∧ ∃ x, r2 = some (vI x) ∧ PRef m μ x ((loopP T n σ D).1, (loopP T n σ D).2.1) μ2) := by
    intro f
    induction f with
    | zero => intro n; intros; omega
    | succ f ih =>
      intro n o1 μ' σ D hf hn hF hS h18 h19 hD
      obtain ⟨hT, ⟨hs, h0⟩, hA, hSp, hN, h14⟩ := id hS
      have hM' : IsModel sh μ'.2.2 m := by rw [hF.1]; exact hM
      obtain ⟨hE, hK, hwd, hs1⟩ := nxt_hand hT.2.1.2 hs h0
      have a11 := hA.2.1
      have hcn := hD.1
      unfold cntOK at hcn
      have e4 := hSp 4 (by omega) (by omega)
      have hfl0 := hD.2.2.2.2.2.2.2.2.2.2.1
      obtain ⟨g0, f1, z1, f2, z2, f3, z3, f4, z4, f5, z5, f6, z6, f7, z7, f8, z8, f9, z9, f10, z10, f11, z11, f12, z12, f13, z13, f14, z14⟩ := id hM'
      refine r_aload_n dX12_readsPlane_29 rfl ?_
      refine r_getI dX12_readsPlane_30 fl_X12_94 rfl (by assumption) ?_
      (try rw [a11]); (try rw [h18]); (try rw [h19])
      refine q_if_eq (tgt := 204) dX12_readsPlane_33 rfl (by omega) (fun c33 => ?_) (fun c33 => ?_)
      · refine r_iconst dX12_readsPlane_204 ?_
        refine r_zreturn dX12_readsPlane_205 (by first | exact Or.inl rfl | exact Or.inr rfl | exact b2i_01 _ | omega) rfl rfl rfl ?_
        refine ⟨rfl, _, rfl, hF, Or.inl ⟨rfl, ?_, ?_, hS.2.2.2.2.2⟩⟩
        · cases n with
          | zero => exact hS.2.1.2
          | succ q => rw [show loopP T (q + 1) σ D = (nxt T σ, D) by rw [loopP, if_neg (fun h => h.2 (by omega))]]; exact hE
        · cases n with
          | zero => exact hSp
          | succ q => rw [show loopP T (q + 1) σ D = (nxt T σ, D) by rw [loopP, if_neg (fun h => h.2 (by omega))]]; exact hSp
      · skip
        have hn0 : n ≠ 0 := fun h => by
          subst h
          have := nxt_end (T := T) hS.2.1.2 (by omega)
          omega
        obtain ⟨q, rfl⟩ : ∃ q, n = q + 1 := ⟨n - 1, by omega⟩
        have hst : loopP T (q + 1) σ D = loopP T q (lendC T (lineP T (nxt T σ) D).1) (lineP T (nxt T σ) D).2 := by rw [loopP, if_pos ⟨hE, by omega⟩]
        have hbad := line_bad (T := T) (τ := nxt T σ) hE hD.1
        have kr := knownF_rng T (nxt T σ)
        have k132 : tellsF T (nxt T σ) (knownF T (nxt T σ)).toNat = true → (0 ≤ (knownF T (nxt T σ)) ∧ (knownF T (nxt T σ)) ≤ 8) → ((knownF T (nxt T σ)) = 0 → D.2.2.1 ≠ 1) → ((knownF T (nxt T σ)) = 1 → D.2.2.2 ≠ 1) → tooM D.1 (knownF T (nxt T σ)) = false → ((knownF T (nxt T σ)) = 3 → D.1 4 ≠ 0) → ((knownF T (nxt T σ)) = 4 → canJ D.1 = true) → AW gX12_readsPlane sh μ' 0 0 132 [some (vR m), some (vI (knownF T (nxt T σ)))] [] (fun r2 sh2 μ2 => sh2 = sh ∧ ∃ x, r2 = some (vI x) ∧ PRef m μ x ((loopP T (q + 1) σ D).1, (loopP T (q + 1) σ D).2.1) μ2) := by
          intro hw0 hwr b0 b1 b2 b3 b4
          have hfl := line_flags (D := D) (w := (knownF T (nxt T σ)).toNat) (by omega) hw0
          have k173 : ∀ a b : Int, a = (lineP T (nxt T σ) D).2.2.2.1 → b = (lineP T (nxt T σ) D).2.2.2.2 → AW gX12_readsPlane sh (setI (setI μ' m 18 a) m 19 b) 0 0 173 [some (vR m), some (vI (knownF T (nxt T σ)))] [] (fun r2 sh2 μ2 => sh2 = sh ∧ ∃ x, r2 = some (vI x) ∧ PRef m μ x ((loopP T (q + 1) σ D).1, (loopP T (q + 1) σ D).2.1) μ2) := by
            intro a b ea eb
            have hS2 : RS m (setI (setI μ' m 18 a) m 19 b) T σ D := (hS.flag (by omega)).flag (by omega)
            refine r_aload_n dX12_readsPlane_173 rfl ?_
            refine r_iload_n dX12_readsPlane_174 rfl ?_
            refine r_cV1I dX12_readsPlane_175 ml_X12_178 yl_X12_planeLine ⟨rfl, rfl⟩ (by assumption) ⟨_, rfl⟩ rfl rfl rfl rfl (m_planeLine (μ := setI (setI μ' m 18 a) m 19 b) hM' hS2 (w := (knownF T (nxt T σ))) hwr hw0 hD b0 b1 b2 b3 b4) ?_
            rintro x0 μ3 L0
            have x01 := L0.x01
            have hM3 : IsModel sh μ3.2.2 m := by rw [L0.1.1]; exact hM'
            have hF3 : RTF m μ μ3 := ((hF.sI (by omega)).sI (by omega)).rt L0.1
            have hok := lineP_ok hT.2.1.2 hs1 D
            have g0 := hM3.1
            refine q_if_ne (tgt := 183) dX12_readsPlane_178 rfl (by omega) (fun c178 => ?_) (fun c178 => ?_)
            · have hS4 := L0.y (by omega)
              obtain ⟨hE4, hK4, hw4, hs4⟩ := nxt_hand hT.2.1.2 hok hS4.2.1.2
              have a11 := hS4.2.2.1.2.1
              refine r_aload_n dX12_readsPlane_183 rfl ?_
              refine r_getI dX12_readsPlane_184 fl_X12_94 rfl (by assumption) ?_
              rw [a11]
              refine r_iconst dX12_readsPlane_187 ?_
              refine q_icmp_eq (tgt := 197) dX12_readsPlane_188 rfl (by omega) (by omega) (fun c188 => ?_) (fun c188 => ?_)
              · refine r_aload_n dX12_readsPlane_197 rfl ?_
                refine r_cV0N dX12_readsPlane_198 ml_X12_121 yl_X12_next ⟨rfl, rfl⟩ (by assumption) ⟨_, rfl⟩ rfl rfl rfl rfl (m_nextT hM3 hS4.1 hs4 hE4 (hS4.2.2.1.2.2.1 (by omega))) ?_
                rintro μ5 ⟨k5, A5⟩
                refine r_goto (tgt := 29) dX12_readsPlane_201 rfl ?_
                have hl : lendC T (lineP T (nxt T σ) D).1 = nxt T (lineP T (nxt T σ) D).1 := by rw [lendC_eq, if_neg (by omega)]
                have h0 : sE (lendC T (lineP T (nxt T σ) D).1) = 0 := by rw [hl]; exact hE4
                have hl3 := lend_0 h0
                have hT1 := nxt_T (T := T) (σ := σ)
                have hT2 := lineP_T (T := T) (σ := nxt T σ) (D := D)
                rw [hst, hl]
                refine ih q _ _ _ _ (by omega) (by omega) (hF3.rk k5) (hS4.next k5 A5) ?_ ?_ (lineP_D hT.2.1.2 hs1 hD)
                · rw [k5.2.2 18 (by omega), L0.1.2.2 18 (by omega)]
                  simp (disch := omega) only [sI_at, sI_ne, sI_nj, sI_L]
                  exact ea
                · rw [k5.2.2 19 (by omega), L0.1.2.2 19 (by omega)]
                  simp (disch := omega) only [sI_at, sI_ne, sI_nj, sI_L]
                  exact eb
              · refine r_aload_n dX12_readsPlane_191 rfl ?_
                refine r_iconst dX12_readsPlane_192 ?_
                refine r_cV1F1 dX12_readsPlane_193 ml_X12_116 yl_X12_badHere ⟨rfl, rfl⟩ (by assumption) ⟨_, rfl⟩ rfl rfl rfl rfl (m_badHere hM3) ?_
                refine r_zreturn dX12_readsPlane_196 (by first | exact Or.inl rfl | exact Or.inr rfl | exact b2i_01 _ | omega) rfl rfl rfl ?_
                refine ⟨rfl, _, rfl, (hF3.sI (by omega)).sI (by omega), Or.inr ⟨rfl, ?_⟩⟩
                have hl : lendC T (lineP T (nxt T σ) D).1 = failC (nxt T (lineP T (nxt T σ) D).1) 1 := by rw [lendC_eq, if_pos (by omega)]
                rw [hst, hl, loopP_no (fail_yes (by decide)), fail_0 hE4]
                refine ⟨show (1 : Int) ≠ 0 by decide, ?_, ?_⟩
                · simp (disch := omega) only [sI_at, sI_ne, sI_nj, sI_L]
                · rw [sI_at]; exact hS4.2.2.1.1
            · refine r_iconst dX12_readsPlane_181 ?_
              refine r_zreturn dX12_readsPlane_182 (by first | exact Or.inl rfl | exact Or.inr rfl | exact b2i_01 _ | omega) rfl rfl rfl ?_
              refine ⟨rfl, _, rfl, hF3, Or.inr ⟨rfl, ?_⟩⟩
              have hn := L0.n (by omega)
              rw [hst, lend_no hn.1, loopP_no hn.1]
              exact hn
          refine r_aload_n dX12_readsPlane_132 rfl ?_
          refine r_aload_n dX12_readsPlane_133 rfl ?_
          refine r_getI dX12_readsPlane_134 fl_X12_165 rfl (by assumption) ?_
          (try simp (disch := omega) only [sI_at, sI_ne, sI_nj, sI_L]); (try rw [h18]); (try rw [h19])
          refine q_if_ne (tgt := 144) dX12_readsPlane_137 rfl (by omega) (fun c137 => ?_) (fun c137 => ?_)
          · refine r_iconst dX12_readsPlane_144 ?_
            refine r_goto (tgt := 149) dX12_readsPlane_145 rfl ?_
            refine r_putZ dX12_readsPlane_149 fl_X12_165 (by assumption) (by first | exact Or.inl rfl | exact Or.inr rfl | exact b2i_01 _ | omega) ?_
            refine r_aload_n dX12_readsPlane_152 rfl ?_
            refine r_aload_n dX12_readsPlane_153 rfl ?_
            refine r_getI dX12_readsPlane_154 fl_X12_169 rfl (by assumption) ?_
            (try simp (disch := omega) only [sI_at, sI_ne, sI_nj, sI_L]); (try rw [h18]); (try rw [h19])
            refine q_if_ne (tgt := 165) dX12_readsPlane_157 rfl (by omega) (fun c157 => ?_) (fun c157 => ?_)
            · refine r_iconst dX12_readsPlane_165 ?_
              refine r_goto (tgt := 170) dX12_readsPlane_166 rfl ?_
              refine r_putZ dX12_readsPlane_170 fl_X12_169 (by assumption) (by first | exact Or.inl rfl | exact Or.inr rfl | exact b2i_01 _ | omega) ?_
              exact k173 _ _ (by rw [hfl.1]; split <;> omega) (by rw [hfl.2]; split <;> omega)
            · refine r_iload_n dX12_readsPlane_160 rfl ?_
              refine r_iconst dX12_readsPlane_161 ?_
              refine q_icmp_ne (tgt := 169) dX12_readsPlane_162 rfl (by omega) (by omega) (fun c162 => ?_) (fun c162 => ?_)
              · refine r_iconst dX12_readsPlane_169 ?_
                refine r_putZ dX12_readsPlane_170 fl_X12_169 (by assumption) (by first | exact Or.inl rfl | exact Or.inr rfl | exact b2i_01 _ | omega) ?_
                exact k173 _ _ (by rw [hfl.1]; split <;> omega) (by rw [hfl.2]; split <;> omega)
              · refine r_iconst dX12_readsPlane_165 ?_
                refine r_goto (tgt := 170) dX12_readsPlane_166 rfl ?_
                refine r_putZ dX12_readsPlane_170 fl_X12_169 (by assumption) (by first | exact Or.inl rfl | exact Or.inr rfl | exact b2i_01 _ | omega) ?_
                exact k173 _ _ (by rw [hfl.1]; split <;> omega) (by rw [hfl.2]; split <;> omega)
          · refine r_iload_n dX12_readsPlane_140 rfl ?_
            refine q_if_ne (tgt := 148) dX12_readsPlane_141 rfl (by omega) (fun c141 => ?_) (fun c141 => ?_)
            · refine r_iconst dX12_readsPlane_148 ?_
              refine r_putZ dX12_readsPlane_149 fl_X12_165 (by assumption) (by first | exact Or.inl rfl | exact Or.inr rfl | exact b2i_01 _ | omega) ?_
              refine r_aload_n dX12_readsPlane_152 rfl ?_
              refine r_aload_n dX12_readsPlane_153 rfl ?_
              refine r_getI dX12_readsPlane_154 fl_X12_169 rfl (by assumption) ?_
              (try simp (disch := omega) only [sI_at, sI_ne, sI_nj, sI_L]); (try rw [h18]); (try rw [h19])
              refine q_if_ne (tgt := 165) dX12_readsPlane_157 rfl (by omega) (fun c157 => ?_) (fun c157 => ?_)
              · refine r_iconst dX12_readsPlane_165 ?_
                refine r_goto (tgt := 170) dX12_readsPlane_166 rfl ?_
                refine r_putZ dX12_readsPlane_170 fl_X12_169 (by assumption) (by first | exact Or.inl rfl | exact Or.inr rfl | exact b2i_01 _ | omega) ?_
                exact k173 _ _ (by rw [hfl.1]; split <;> omega) (by rw [hfl.2]; split <;> omega)
              · refine r_iload_n dX12_readsPlane_160 rfl ?_
                refine r_iconst dX12_readsPlane_161 ?_
                refine q_icmp_ne (tgt := 169) dX12_readsPlane_162 rfl (by omega) (by omega) (fun c162 => ?_) (fun c162 => ?_)
                · refine r_iconst dX12_readsPlane_169 ?_
                  refine r_putZ dX12_readsPlane_170 fl_X12_169 (by assumption) (by first | exact Or.inl rfl | exact Or.inr rfl | exact b2i_01 _ | omega) ?_
                  exact k173 _ _ (by rw [hfl.1]; split <;> omega) (by rw [hfl.2]; split <;> omega)
                · refine r_iconst dX12_readsPlane_165 ?_
                  refine r_goto (tgt := 170) dX12_readsPlane_166 rfl ?_
                  refine r_putZ dX12_readsPlane_170 fl_X12_169 (by assumption) (by first | exact Or.inl rfl | exact Or.inr rfl | exact b2i_01 _ | omega) ?_
                  exact k173 _ _ (by rw [hfl.1]; split <;> omega) (by rw [hfl.2]; split <;> omega)
            · refine r_iconst dX12_readsPlane_144 ?_
              refine r_goto (tgt := 149) dX12_readsPlane_145 rfl ?_
              refine r_putZ dX12_readsPlane_149 fl_X12_165 (by assumption) (by first | exact Or.inl rfl | exact Or.inr rfl | exact b2i_01 _ | omega) ?_
              refine r_aload_n dX12_readsPlane_152 rfl ?_
              refine r_aload_n dX12_readsPlane_153 rfl ?_
              refine r_getI dX12_readsPlane_154 fl_X12_169 rfl (by assumption) ?_
              (try simp (disch := omega) only [sI_at, sI_ne, sI_nj, sI_L]); (try rw [h18]); (try rw [h19])
              refine q_if_ne (tgt := 165) dX12_readsPlane_157 rfl (by omega) (fun c157 => ?_) (fun c157 => ?_)
              · refine r_iconst dX12_readsPlane_165 ?_
                refine r_goto (tgt := 170) dX12_readsPlane_166 rfl ?_
                refine r_putZ dX12_readsPlane_170 fl_X12_169 (by assumption) (by first | exact Or.inl rfl | exact Or.inr rfl | exact b2i_01 _ | omega) ?_
                exact k173 _ _ (by rw [hfl.1]; split <;> omega) (by rw [hfl.2]; split <;> omega)
              · refine r_iload_n dX12_readsPlane_160 rfl ?_
                refine r_iconst dX12_readsPlane_161 ?_
                refine q_icmp_ne (tgt := 169) dX12_readsPlane_162 rfl (by omega) (by omega) (fun c162 => ?_) (fun c162 => ?_)
                · refine r_iconst dX12_readsPlane_169 ?_
                  refine r_putZ dX12_readsPlane_170 fl_X12_169 (by assumption) (by first | exact Or.inl rfl | exact Or.inr rfl | exact b2i_01 _ | omega) ?_
                  exact k173 _ _ (by rw [hfl.1]; split <;> omega) (by rw [hfl.2]; split <;> omega)
                · refine r_iconst dX12_readsPlane_165 ?_
                  refine r_goto (tgt := 170) dX12_readsPlane_166 rfl ?_
                  refine r_putZ dX12_readsPlane_170 fl_X12_169 (by assumption) (by first | exact Or.inl rfl | exact Or.inr rfl | exact b2i_01 _ | omega) ?_
                  exact k173 _ _ (by rw [hfl.1]; split <;> omega) (by rw [hfl.2]; split <;> omega)
        have k86 : tellsF T (nxt T σ) (knownF T (nxt T σ)).toNat = true → (0 ≤ (knownF T (nxt T σ)) ∧ (knownF T (nxt T σ)) ≤ 8) → ((knownF T (nxt T σ)) = 0 → D.2.2.1 ≠ 1) → ((knownF T (nxt T σ)) = 1 → D.2.2.2 ≠ 1) → AW gX12_readsPlane sh μ' 0 0 86 [some (vR m), some (vI (knownF T (nxt T σ)))] [] (fun r2 sh2 μ2 => sh2 = sh ∧ ∃ x, r2 = some (vI x) ∧ PRef m μ x ((loopP T (q + 1) σ D).1, (loopP T (q + 1) σ D).2.1) μ2) := by
          intro hw0 hwr b0 b1
          refine r_aload_n dX12_readsPlane_86 rfl ?_
          refine r_iload_n dX12_readsPlane_87 rfl ?_
          refine r_cV1F1 dX12_readsPlane_88 ml_X12_172 yl_X12_isTooMany ⟨rfl, rfl⟩ (by assumption) ⟨_, rfl⟩ rfl rfl rfl rfl (m_isTooMany hM' hSp hD.1 (by omega)) ?_
          refine r_if_eqB (tgt := 100) dX12_readsPlane_91 rfl (fun c91 => ?_) (fun c91 => ?_)
          · refine r_iload_n dX12_readsPlane_100 rfl ?_
            refine r_iconst dX12_readsPlane_101 ?_
            refine q_icmp_ne (tgt := 114) dX12_readsPlane_102 rfl (by omega) (by omega) (fun c102 => ?_) (fun c102 => ?_)
            · refine r_iload_n dX12_readsPlane_114 rfl ?_
              refine r_iconst dX12_readsPlane_115 ?_
              refine q_icmp_ne (tgt := 132) dX12_readsPlane_116 rfl (by omega) (by omega) (fun c116 => ?_) (fun c116 => ?_)
              · exact k132 hw0 hwr b0 b1 c91 (by first | (intro _; omega) | (intro h; omega)) (by first | (intro _; assumption) | (intro h; omega))
              · refine r_aload_n dX12_readsPlane_119 rfl ?_
                refine r_cV0F1 dX12_readsPlane_120 ml_X12_175 yl_X12_canJoint ⟨rfl, rfl⟩ (by assumption) ⟨_, rfl⟩ rfl rfl rfl rfl (m_canJoint hM' hSp hD.1 hD.2.1 hD.2.2.2.1) ?_
                refine r_if_neB (tgt := 132) dX12_readsPlane_123 rfl (fun c123 => ?_) (fun c123 => ?_)
                · exact k132 hw0 hwr b0 b1 c91 (by first | (intro _; omega) | (intro h; omega)) (by first | (intro _; assumption) | (intro h; omega))
                · refine r_aload_n dX12_readsPlane_126 rfl ?_
                  refine r_iconst dX12_readsPlane_127 ?_
                  refine r_cV1F1 dX12_readsPlane_128 ml_X12_116 yl_X12_badHere ⟨rfl, rfl⟩ (by assumption) ⟨_, rfl⟩ rfl rfl rfl rfl (m_badHere hM') ?_
                  refine r_zreturn dX12_readsPlane_131 (by first | exact Or.inl rfl | exact Or.inr rfl | exact b2i_01 _ | omega) rfl rfl rfl ?_
                  first
                  | (refine ⟨rfl, _, rfl, (hF.sI (by omega)).sI (by omega), Or.inr ⟨rfl, ?_⟩⟩
                     have hb : (lineP T (nxt T σ) D).1 = failC (nxt T σ) 5 := hbad.2.2.2.1 (by have h := hw0; rw [show (knownF T (nxt T σ)).toNat = 3 by omega] at h; exact h) (by omega) (by rw [show (3 : Int) = (knownF T (nxt T σ)) by omega]; exact c91)
                     rw [hst, hb, lend_no (fail_yes (by decide)), loopP_no (fail_yes (by decide)), fail_0 hE]
                     refine ⟨show (5 : Int) ≠ 0 by decide, ?_, ?_⟩
                     · simp (disch := omega) only [sI_at, sI_ne, sI_nj, sI_L]
                     · rw [sI_at]; exact hA.1)
                  | (refine ⟨rfl, _, rfl, (hF.sI (by omega)).sI (by omega), Or.inr ⟨rfl, ?_⟩⟩
                     have hb : (lineP T (nxt T σ) D).1 = failC (nxt T σ) 5 := hbad.2.2.2.2 (by have h := hw0; rw [show (knownF T (nxt T σ)).toNat = 4 by omega] at h; exact h) (by assumption)
                     rw [hst, hb, lend_no (fail_yes (by decide)), loopP_no (fail_yes (by decide)), fail_0 hE]
                     refine ⟨show (5 : Int) ≠ 0 by decide, ?_, ?_⟩
                     · simp (disch := omega) only [sI_at, sI_ne, sI_nj, sI_L]
                     · rw [sI_at]; exact hA.1)
            · refine r_aload_n dX12_readsPlane_105 rfl ?_
              refine r_getR dX12_readsPlane_106 fl_X12_13 rfl (by assumption) (by assumption) ?_
              refine r_iconst dX12_readsPlane_109 ?_
              refine r_iald dX12_readsPlane_110 (by assumption) rfl (by omega) ?_
              rw [e4]
              refine q_if_eq (tgt := 126) dX12_readsPlane_111 rfl (by omega) (fun c111 => ?_) (fun c111 => ?_)
              · refine r_aload_n dX12_readsPlane_126 rfl ?_
                refine r_iconst dX12_readsPlane_127 ?_
                refine r_cV1F1 dX12_readsPlane_128 ml_X12_116 yl_X12_badHere ⟨rfl, rfl⟩ (by assumption) ⟨_, rfl⟩ rfl rfl rfl rfl (m_badHere hM') ?_
                refine r_zreturn dX12_readsPlane_131 (by first | exact Or.inl rfl | exact Or.inr rfl | exact b2i_01 _ | omega) rfl rfl rfl ?_
                first
                | (refine ⟨rfl, _, rfl, (hF.sI (by omega)).sI (by omega), Or.inr ⟨rfl, ?_⟩⟩
                   have hb : (lineP T (nxt T σ) D).1 = failC (nxt T σ) 5 := hbad.2.2.2.1 (by have h := hw0; rw [show (knownF T (nxt T σ)).toNat = 3 by omega] at h; exact h) (by omega) (by rw [show (3 : Int) = (knownF T (nxt T σ)) by omega]; exact c91)
                   rw [hst, hb, lend_no (fail_yes (by decide)), loopP_no (fail_yes (by decide)), fail_0 hE]
                   refine ⟨show (5 : Int) ≠ 0 by decide, ?_, ?_⟩
                   · simp (disch := omega) only [sI_at, sI_ne, sI_nj, sI_L]
                   · rw [sI_at]; exact hA.1)
                | (refine ⟨rfl, _, rfl, (hF.sI (by omega)).sI (by omega), Or.inr ⟨rfl, ?_⟩⟩
                   have hb : (lineP T (nxt T σ) D).1 = failC (nxt T σ) 5 := hbad.2.2.2.2 (by have h := hw0; rw [show (knownF T (nxt T σ)).toNat = 4 by omega] at h; exact h) (by assumption)
                   rw [hst, hb, lend_no (fail_yes (by decide)), loopP_no (fail_yes (by decide)), fail_0 hE]
                   refine ⟨show (5 : Int) ≠ 0 by decide, ?_, ?_⟩
                   · simp (disch := omega) only [sI_at, sI_ne, sI_nj, sI_L]
                   · rw [sI_at]; exact hA.1)
              · refine r_iload_n dX12_readsPlane_114 rfl ?_
                refine r_iconst dX12_readsPlane_115 ?_
                refine q_icmp_ne (tgt := 132) dX12_readsPlane_116 rfl (by omega) (by omega) (fun c116 => ?_) (fun c116 => ?_)
                · exact k132 hw0 hwr b0 b1 c91 (by first | (intro _; omega) | (intro h; omega)) (by first | (intro _; assumption) | (intro h; omega))
                · refine r_aload_n dX12_readsPlane_119 rfl ?_
                  refine r_cV0F1 dX12_readsPlane_120 ml_X12_175 yl_X12_canJoint ⟨rfl, rfl⟩ (by assumption) ⟨_, rfl⟩ rfl rfl rfl rfl (m_canJoint hM' hSp hD.1 hD.2.1 hD.2.2.2.1) ?_
                  refine r_if_neB (tgt := 132) dX12_readsPlane_123 rfl (fun c123 => ?_) (fun c123 => ?_)
                  · exact k132 hw0 hwr b0 b1 c91 (by first | (intro _; omega) | (intro h; omega)) (by first | (intro _; assumption) | (intro h; omega))
                  · refine r_aload_n dX12_readsPlane_126 rfl ?_
                    refine r_iconst dX12_readsPlane_127 ?_
                    refine r_cV1F1 dX12_readsPlane_128 ml_X12_116 yl_X12_badHere ⟨rfl, rfl⟩ (by assumption) ⟨_, rfl⟩ rfl rfl rfl rfl (m_badHere hM') ?_
                    refine r_zreturn dX12_readsPlane_131 (by first | exact Or.inl rfl | exact Or.inr rfl | exact b2i_01 _ | omega) rfl rfl rfl ?_
                    first
                    | (refine ⟨rfl, _, rfl, (hF.sI (by omega)).sI (by omega), Or.inr ⟨rfl, ?_⟩⟩
                       have hb : (lineP T (nxt T σ) D).1 = failC (nxt T σ) 5 := hbad.2.2.2.1 (by have h := hw0; rw [show (knownF T (nxt T σ)).toNat = 3 by omega] at h; exact h) (by omega) (by rw [show (3 : Int) = (knownF T (nxt T σ)) by omega]; exact c91)
                       rw [hst, hb, lend_no (fail_yes (by decide)), loopP_no (fail_yes (by decide)), fail_0 hE]
                       refine ⟨show (5 : Int) ≠ 0 by decide, ?_, ?_⟩
                       · simp (disch := omega) only [sI_at, sI_ne, sI_nj, sI_L]
                       · rw [sI_at]; exact hA.1)
                    | (refine ⟨rfl, _, rfl, (hF.sI (by omega)).sI (by omega), Or.inr ⟨rfl, ?_⟩⟩
                       have hb : (lineP T (nxt T σ) D).1 = failC (nxt T σ) 5 := hbad.2.2.2.2 (by have h := hw0; rw [show (knownF T (nxt T σ)).toNat = 4 by omega] at h; exact h) (by assumption)
                       rw [hst, hb, lend_no (fail_yes (by decide)), loopP_no (fail_yes (by decide)), fail_0 hE]
                       refine ⟨show (5 : Int) ≠ 0 by decide, ?_, ?_⟩
                       · simp (disch := omega) only [sI_at, sI_ne, sI_nj, sI_L]
                       · rw [sI_at]; exact hA.1)
          · refine r_aload_n dX12_readsPlane_94 rfl ?_
            refine r_iconst dX12_readsPlane_95 ?_
            refine r_cV1F1 dX12_readsPlane_96 ml_X12_116 yl_X12_badHere ⟨rfl, rfl⟩ (by assumption) ⟨_, rfl⟩ rfl rfl rfl rfl (m_badHere hM') ?_
            refine r_zreturn dX12_readsPlane_99 (by first | exact Or.inl rfl | exact Or.inr rfl | exact b2i_01 _ | omega) rfl rfl rfl ?_
            refine ⟨rfl, _, rfl, (hF.sI (by omega)).sI (by omega), Or.inr ⟨rfl, ?_⟩⟩
            have hb : (lineP T (nxt T σ) D).1 = failC (nxt T σ) 4 := hbad.2.2.1 (knownF T (nxt T σ)).toNat (by omega) hw0 (by rw [show (((knownF T (nxt T σ)).toNat : Nat) : Int) = (knownF T (nxt T σ)) by omega]; exact c91)
            rw [hst, hb, lend_no (fail_yes (by decide)), loopP_no (fail_yes (by decide)), fail_0 hE]
            refine ⟨show (4 : Int) ≠ 0 by decide, ?_, ?_⟩
            · simp (disch := omega) only [sI_at, sI_ne, sI_nj, sI_L]
            · rw [sI_at]; exact hA.1
        refine r_aload_n dX12_readsPlane_36 rfl ?_
        refine r_cV0F1 dX12_readsPlane_37 ml_X12_113 yl_X12_known ⟨rfl, rfl⟩ (by assumption) ⟨_, rfl⟩ rfl rfl rfl rfl (m_known hM' hA hwd hE hK) ?_
        refine r_istore_n dX12_readsPlane_40 rfl ?_
        refine r_iload_n dX12_readsPlane_41 rfl ?_
        refine q_if_lt (tgt := 51) dX12_readsPlane_42 rfl (by omega) (fun c42 => ?_) (fun c42 => ?_)
        · refine r_aload_n dX12_readsPlane_51 rfl ?_
          refine r_iconst dX12_readsPlane_52 ?_
          refine r_cV1F1 dX12_readsPlane_53 ml_X12_116 yl_X12_badHere ⟨rfl, rfl⟩ (by assumption) ⟨_, rfl⟩ rfl rfl rfl rfl (m_badHere hM') ?_
          refine r_zreturn dX12_readsPlane_56 (by first | exact Or.inl rfl | exact Or.inr rfl | exact b2i_01 _ | omega) rfl rfl rfl ?_
          refine ⟨rfl, _, rfl, (hF.sI (by omega)).sI (by omega), Or.inr ⟨rfl, ?_⟩⟩
          have hb : (lineP T (nxt T σ) D).1 = failC (nxt T σ) 1 := by rw [known_8 (by omega)]
          rw [hst, hb, lend_no (fail_yes (by decide)), loopP_no (fail_yes (by decide)), fail_0 hE]
          refine ⟨show (1 : Int) ≠ 0 by decide, ?_, ?_⟩
          · simp (disch := omega) only [sI_at, sI_ne, sI_nj, sI_L]
          · rw [sI_at]; exact hA.1
        · refine r_iload_n dX12_readsPlane_45 rfl ?_
          refine r_bipush dX12_readsPlane_46 (by decide) ?_
          refine q_icmp_le (tgt := 57) dX12_readsPlane_48 rfl (by omega) (by omega) (fun c48 => ?_) (fun c48 => ?_)
          · refine r_iload_n dX12_readsPlane_57 rfl ?_
            refine q_if_ne (tgt := 68) dX12_readsPlane_58 rfl (by omega) (fun c58 => ?_) (fun c58 => ?_)
            · refine r_iload_n dX12_readsPlane_68 rfl ?_
              refine r_iconst dX12_readsPlane_69 ?_
              refine q_icmp_ne (tgt := 86) dX12_readsPlane_70 rfl (by omega) (by omega) (fun c70 => ?_) (fun c70 => ?_)
              · exact k86 (known_w (by omega)) (by omega) (by first | (intro _; omega) | (intro h; omega)) (by first | (intro _; omega) | (intro h; omega))
              · refine r_aload_n dX12_readsPlane_73 rfl ?_
                refine r_getI dX12_readsPlane_74 fl_X12_169 rfl (by assumption) ?_
                (try rw [a11]); (try rw [h18]); (try rw [h19])
                refine q_if_eq (tgt := 86) dX12_readsPlane_77 rfl (by omega) (fun c77 => ?_) (fun c77 => ?_)
                · exact k86 (known_w (by omega)) (by omega) (by first | (intro _; omega) | (intro h; omega)) (by first | (intro _; omega) | (intro h; omega))
                · refine r_aload_n dX12_readsPlane_80 rfl ?_
                  refine r_iconst dX12_readsPlane_81 ?_
                  refine r_cV1F1 dX12_readsPlane_82 ml_X12_116 yl_X12_badHere ⟨rfl, rfl⟩ (by assumption) ⟨_, rfl⟩ rfl rfl rfl rfl (m_badHere hM') ?_
                  refine r_zreturn dX12_readsPlane_85 (by first | exact Or.inl rfl | exact Or.inr rfl | exact b2i_01 _ | omega) rfl rfl rfl ?_
                  first
                  | (refine ⟨rfl, _, rfl, (hF.sI (by omega)).sI (by omega), Or.inr ⟨rfl, ?_⟩⟩
                     have hb : (lineP T (nxt T σ) D).1 = failC (nxt T σ) 3 := hbad.1 (known_n (k := 0) (by omega) (by omega)) (by omega)
                     rw [hst, hb, lend_no (fail_yes (by decide)), loopP_no (fail_yes (by decide)), fail_0 hE]
                     refine ⟨show (3 : Int) ≠ 0 by decide, ?_, ?_⟩
                     · simp (disch := omega) only [sI_at, sI_ne, sI_nj, sI_L]
                     · rw [sI_at]; exact hA.1)
                  | (refine ⟨rfl, _, rfl, (hF.sI (by omega)).sI (by omega), Or.inr ⟨rfl, ?_⟩⟩
                     have hb : (lineP T (nxt T σ) D).1 = failC (nxt T σ) 3 := hbad.2.1 (known_n (k := 1) (by omega) (by omega)) (by omega)
                     rw [hst, hb, lend_no (fail_yes (by decide)), loopP_no (fail_yes (by decide)), fail_0 hE]
                     refine ⟨show (3 : Int) ≠ 0 by decide, ?_, ?_⟩
                     · simp (disch := omega) only [sI_at, sI_ne, sI_nj, sI_L]
                     · rw [sI_at]; exact hA.1)
            · refine r_aload_n dX12_readsPlane_61 rfl ?_
              refine r_getI dX12_readsPlane_62 fl_X12_165 rfl (by assumption) ?_
              (try rw [a11]); (try rw [h18]); (try rw [h19])
              refine q_if_ne (tgt := 80) dX12_readsPlane_65 rfl (by omega) (fun c65 => ?_) (fun c65 => ?_)
              · refine r_aload_n dX12_readsPlane_80 rfl ?_
                refine r_iconst dX12_readsPlane_81 ?_
                refine r_cV1F1 dX12_readsPlane_82 ml_X12_116 yl_X12_badHere ⟨rfl, rfl⟩ (by assumption) ⟨_, rfl⟩ rfl rfl rfl rfl (m_badHere hM') ?_
                refine r_zreturn dX12_readsPlane_85 (by first | exact Or.inl rfl | exact Or.inr rfl | exact b2i_01 _ | omega) rfl rfl rfl ?_
                first
                | (refine ⟨rfl, _, rfl, (hF.sI (by omega)).sI (by omega), Or.inr ⟨rfl, ?_⟩⟩
                   have hb : (lineP T (nxt T σ) D).1 = failC (nxt T σ) 3 := hbad.1 (known_n (k := 0) (by omega) (by omega)) (by omega)
                   rw [hst, hb, lend_no (fail_yes (by decide)), loopP_no (fail_yes (by decide)), fail_0 hE]
                   refine ⟨show (3 : Int) ≠ 0 by decide, ?_, ?_⟩
                   · simp (disch := omega) only [sI_at, sI_ne, sI_nj, sI_L]
                   · rw [sI_at]; exact hA.1)
                | (refine ⟨rfl, _, rfl, (hF.sI (by omega)).sI (by omega), Or.inr ⟨rfl, ?_⟩⟩
                   have hb : (lineP T (nxt T σ) D).1 = failC (nxt T σ) 3 := hbad.2.1 (known_n (k := 1) (by omega) (by omega)) (by omega)
                   rw [hst, hb, lend_no (fail_yes (by decide)), loopP_no (fail_yes (by decide)), fail_0 hE]
                   refine ⟨show (3 : Int) ≠ 0 by decide, ?_, ?_⟩
                   · simp (disch := omega) only [sI_at, sI_ne, sI_nj, sI_L]
                   · rw [sI_at]; exact hA.1)
              · refine r_iload_n dX12_readsPlane_68 rfl ?_
                refine r_iconst dX12_readsPlane_69 ?_
                refine q_icmp_ne (tgt := 86) dX12_readsPlane_70 rfl (by omega) (by omega) (fun c70 => ?_) (fun c70 => ?_)
                · exact k86 (known_w (by omega)) (by omega) (by first | (intro _; omega) | (intro h; omega)) (by first | (intro _; omega) | (intro h; omega))
                · refine r_aload_n dX12_readsPlane_73 rfl ?_
                  refine r_getI dX12_readsPlane_74 fl_X12_169 rfl (by assumption) ?_
                  (try rw [a11]); (try rw [h18]); (try rw [h19])
                  refine q_if_eq (tgt := 86) dX12_readsPlane_77 rfl (by omega) (fun c77 => ?_) (fun c77 => ?_)
                  · exact k86 (known_w (by omega)) (by omega) (by first | (intro _; omega) | (intro h; omega)) (by first | (intro _; omega) | (intro h; omega))
                  · refine r_aload_n dX12_readsPlane_80 rfl ?_
                    refine r_iconst dX12_readsPlane_81 ?_
                    refine r_cV1F1 dX12_readsPlane_82 ml_X12_116 yl_X12_badHere ⟨rfl, rfl⟩ (by assumption) ⟨_, rfl⟩ rfl rfl rfl rfl (m_badHere hM') ?_
                    refine r_zreturn dX12_readsPlane_85 (by first | exact Or.inl rfl | exact Or.inr rfl | exact b2i_01 _ | omega) rfl rfl rfl ?_
                    first
                    | (refine ⟨rfl, _, rfl, (hF.sI (by omega)).sI (by omega), Or.inr ⟨rfl, ?_⟩⟩
                       have hb : (lineP T (nxt T σ) D).1 = failC (nxt T σ) 3 := hbad.1 (known_n (k := 0) (by omega) (by omega)) (by omega)
                       rw [hst, hb, lend_no (fail_yes (by decide)), loopP_no (fail_yes (by decide)), fail_0 hE]
                       refine ⟨show (3 : Int) ≠ 0 by decide, ?_, ?_⟩
                       · simp (disch := omega) only [sI_at, sI_ne, sI_nj, sI_L]
                       · rw [sI_at]; exact hA.1)
                    | (refine ⟨rfl, _, rfl, (hF.sI (by omega)).sI (by omega), Or.inr ⟨rfl, ?_⟩⟩
                       have hb : (lineP T (nxt T σ) D).1 = failC (nxt T σ) 3 := hbad.2.1 (known_n (k := 1) (by omega) (by omega)) (by omega)
                       rw [hst, hb, lend_no (fail_yes (by decide)), loopP_no (fail_yes (by decide)), fail_0 hE]
                       refine ⟨show (3 : Int) ≠ 0 by decide, ?_, ?_⟩
                       · simp (disch := omega) only [sI_at, sI_ne, sI_nj, sI_L]
                       · rw [sI_at]; exact hA.1)
          · refine r_aload_n dX12_readsPlane_51 rfl ?_
            refine r_iconst dX12_readsPlane_52 ?_
            refine r_cV1F1 dX12_readsPlane_53 ml_X12_116 yl_X12_badHere ⟨rfl, rfl⟩ (by assumption) ⟨_, rfl⟩ rfl rfl rfl rfl (m_badHere hM') ?_
            refine r_zreturn dX12_readsPlane_56 (by first | exact Or.inl rfl | exact Or.inr rfl | exact b2i_01 _ | omega) rfl rfl rfl ?_
            refine ⟨rfl, _, rfl, (hF.sI (by omega)).sI (by omega), Or.inr ⟨rfl, ?_⟩⟩
            have hb : (lineP T (nxt T σ) D).1 = failC (nxt T σ) 1 := by rw [known_8 (by omega)]
            rw [hst, hb, lend_no (fail_yes (by decide)), loopP_no (fail_yes (by decide)), fail_0 hE]
            refine ⟨show (1 : Int) ≠ 0 by decide, ?_, ?_⟩
            · simp (disch := omega) only [sI_at, sI_ne, sI_nj, sI_L]
            · rw [sI_at]; exact hA.1
