/-! 82.refhand: how often through doors, in the reference (wip/whole/src/82_refhand.py) -/
theorem set_wRow {μ : Mem} {m : Nat} {σ : Row} (h : μ.1 (m + 1) = σ) (i x : Int) : setI μ (m + 1) i x = wRow μ m (rset σ i x) := by
  rw [← wRow_set, wRow_id h]
theorem whole_vc {ρ : Row} (h0 : 0 ≤ ρ 11 ∧ ρ 11 ≤ 5) (h5 : 0 ≤ ρ 5 ∧ ρ 5 ≤ 6) {g : Int} (hg : 0 ≤ g ∧ g < 7 ^ (ρ 11).toNat) (h : wholeF (layR ρ g) = true) : Vc ρ g ∧ ∀ k, 0 ≤ k → k < ρ 11 → 0 ≤ tgF ρ g k := by
  have h11 := lay_11 ρ g
  have q := (whole_iff (ρ := layR ρ g) (by rw [h11]; exact h0.1)).1 h
  rw [lay_ne (j := 5) (by omega)] at q
  refine ⟨⟨hg, by rw [h11]; exact h0, h5, fun k k0 k1 => by have := (q k k0 k1).1; omega, fun i j i0 ij j1 e => absurd e ((q j (by omega) j1).2 i i0 ij)⟩, fun k k0 k1 => (q k k0 (by rw [h11]; exact k1)).1.1⟩
theorem MvI.set {sh : Sh} {m : Nat} {μ : Mem} {ρ : Row} {E : Edg} {c0 : Int} {Q : List Qe} {i : Nat} {e0 : Qe} {μ' : Mem} {Q' : List Qe} {L : Int} (h : MvI sh m μ ρ E c0 Q i e0 μ' Q' L) {k x : Int} (hk : 0 ≤ k ∧ k < ρ 11) : MvI sh m μ ρ E c0 Q i e0 (setI μ' (m + 1) (93 + k) x) Q' L := by
  obtain ⟨⟨a1, a2, a3⟩, ⟨b1, b2⟩, d⟩ := h
  refine ⟨⟨a1, ⟨a2.1, fun q q1 q2 q3 q4 => (setI_ne q2).trans (a2.2.1 q q1 q2 q3 q4), fun j h1 h2 => (sI_ne (by omega)).trans (a2.2.2 j h1 h2)⟩, fun j hj => ?_⟩, ⟨b1.of (sI_ne (by omega)) (setI_ne (by omega)) (setI_ne (by omega)), b2⟩, d⟩
  rw [sI_nj (by omega)]
  exact a3 j hj
theorem nx_row {μ : Mem} {m : Nat} {σ : Row} {c p W : Int} : (if (wRow μ m σ).1 (m + 11) c = -2 then setI (setI (setI (wRow μ m σ) (m + 11) c p) (m + 12) W c) m 29 (W + 1) else wRow μ m σ).1 (m + 1) = σ := by
  split
  · rw [setI_ne (by omega), setI_ne (by omega), setI_ne (by omega), wRow_row]
  · exact wRow_row
theorem m_taken {sh : Sh} {μ : Mem} {m : Nat} (hM : IsModel sh μ.2.2 m) {σ : Row} (hr : μ.1 (m + 1) = σ) (hN : 0 ≤ σ 11 ∧ σ 11 ≤ 5) (hl : ∀ k, 0 ≤ k → k < σ 11 → -1 ≤ σ (93 + k) ∧ σ (93 + k) < 6)  : FMet yX12_taken gX12_taken sh [vR m] μ (some (vI (takF σ))) μ := by
  obtain ⟨g0, f1, z1, f2, z2, f3, z3, f4, z4, f5, z5, f6, z6, f7, z7, f8, z8, f9, z9, f10, z10, f11, z11, f12, z12, f13, z13, f14, z14⟩ := id hM
  have lB : ∀ (f n : Nat) (k : Int) (v : Int), n < f → 0 ≤ k → k + n = σ 11 → AW gX12_taken sh μ 0 0 4 [some (vR m), some (vI v), some (vI k)] [] (fun r2 sh2 μ2 => r2 = some (vI (fld (fun k a => ior a (if 0 ≤ σ (93 + k) then ishl 1 (σ (93 + k)) else 0)) n k v)) ∧ sh2 = sh ∧ μ2 = μ) := by
    intro f
    induction f with
    | zero => intro n; intros; omega
    | succ f ih =>
      intro n k v hf hk hn2
      refine r_iload_n dX12_taken_4 rfl ?_
      refine r_aload_n dX12_taken_5 rfl ?_
      refine r_getR dX12_taken_6 fl_X12_7 rfl (by assumption) (by assumption) ?_
      refine r_bipush dX12_taken_9 (by decide) ?_
      refine r_iald dX12_taken_11 (by assumption) rfl (by omega) ?_
      rw [hr]
      refine q_icmp_ge (tgt := 51) dX12_taken_12 rfl (by omega) (by omega) (fun c12 => ?_) (fun c12 => ?_)
      · refine r_iload_n dX12_taken_51 rfl ?_
        refine r_ireturn dX12_taken_52 rfl rfl rfl ?_
        obtain rfl : n = 0 := by omega
        exact ⟨rfl, rfl, rfl⟩
      · obtain ⟨q, rfl⟩ : ∃ q, n = q + 1 := ⟨n - 1, by omega⟩
        have hlk := hl k (by omega) (by omega)
        rw [fld]
        refine r_iload_n dX12_taken_15 rfl ?_
        refine r_aload_n dX12_taken_16 rfl ?_
        refine r_getR dX12_taken_17 fl_X12_7 rfl (by assumption) (by assumption) ?_
        refine r_bipush dX12_taken_20 (by decide) ?_
        refine r_iload_n dX12_taken_22 rfl ?_
        refine r_iadd dX12_taken_23 ?_
        refine r_iald dX12_taken_24 (by assumption) rfl (by omega) ?_
        rw [hr]
        refine q_if_lt (tgt := 42) dX12_taken_25 rfl (by omega) (fun c25 => ?_) (fun c25 => ?_)
        · rw [if_neg (by omega)]
          refine r_iconst dX12_taken_42 ?_
          refine r_ior dX12_taken_43 ?_
          refine r_istore_n dX12_taken_44 rfl ?_
          refine r_iinc dX12_taken_45 rfl rfl ?_
          refine r_goto (tgt := 4) dX12_taken_48 rfl ?_
          exact ih q (k + 1) _ (by omega) (by omega) (by omega)
        · rw [if_pos (by omega)]
          refine r_iconst dX12_taken_28 ?_
          refine r_aload_n dX12_taken_29 rfl ?_
          refine r_getR dX12_taken_30 fl_X12_7 rfl (by assumption) (by assumption) ?_
          refine r_bipush dX12_taken_33 (by decide) ?_
          refine r_iload_n dX12_taken_35 rfl ?_
          refine r_iadd dX12_taken_36 ?_
          refine r_iald dX12_taken_37 (by assumption) rfl (by omega) ?_
          rw [hr]
          refine r_ishl dX12_taken_38 ?_
          refine r_goto (tgt := 43) dX12_taken_39 rfl ?_
          refine r_ior dX12_taken_43 ?_
          refine r_istore_n dX12_taken_44 rfl ?_
          refine r_iinc dX12_taken_45 rfl rfl ?_
          refine r_goto (tgt := 4) dX12_taken_48 rfl ?_
          exact ih q (k + 1) _ (by omega) (by omega) (by omega)
  refine AMet.of (by decide) rfl (by decide) rfl ?_
  refine r_iconst dX12_taken_0 ?_
  refine r_istore_n dX12_taken_1 rfl ?_
  refine r_iconst dX12_taken_2 ?_
  refine r_istore_n dX12_taken_3 rfl ?_
  exact lB _ (σ 11).toNat 0 0 (Nat.lt_succ_self _) (by omega) (by omega)
set_option maxHeartbeats 4000000 in
theorem m_handles {sh : Sh} {μ : Mem} {m : Nat} (hM : IsModel sh μ.2.2 m) {ρ : Row} (hw : WF ρ) (hro : ∀ j, ¬ (93 ≤ j ∧ j < 93 + ρ 11) → μ.1 (m + 1) j = ρ j) {c0 c : Int} {w : Wrd} {Q : List Qe} {i : Nat} (hv0 : Vc ρ c0) (hB : BQ m μ (ρ 11) (hdE ρ) Q) (hI : BIn (hdE ρ) c0 Q i) (hb : BBt Q i) (hi : Q[i]? = some (c, w))  : VMet yX12_handles gX12_handles sh [vR m, vI c] μ (fun μ2 => ∃ Q2, MvI sh m μ ρ (hdE ρ) c0 Q i (c, w) μ2 Q2 60) := by
  obtain ⟨g0, f1, z1, f2, z2, f3, z3, f4, z4, f5, z5, f6, z6, f7, z7, f8, z8, f9, z9, f10, z10, f11, z11, f12, z12, f13, z13, f14, z14⟩ := id hM
  have hn0 := hw.1.1
  have hWs := hw.1.2.1
  have hn := hw.1.1
  unfold WFn at hn
  have hN : 0 ≤ ρ 11 ∧ ρ 11 ≤ 5 := by omega
  have hS : 0 ≤ ρ 5 ∧ ρ 5 ≤ 6 := by omega
  have hp := pw_le hN
  have hvc : Vc ρ c := Rch.vcE (hd_E ρ) hv0 (hI.2.2.1 _ (List.mem_of_getElem? hi))
  have hvc1 := hvc.1
  have lI : ∀ (k z : Int), 0 ≤ k → k < ρ 11 → layR ρ c (93 + k) = z → ∀ (f n : Nat) (s : Int) (o6 : Option AV) (μ' : Mem) (Q' : List Qe), n < f → 0 ≤ s → s + n = ρ 5 → MvI sh m μ ρ (hdE ρ) c0 Q i (c, w) μ' Q' (10 * k + s) → μ'.1 (m + 1) = layR ρ c → (∀ (μ2 : Mem) (Q2 : List Qe) (o6 : Option AV), MvI sh m μ ρ (hdE ρ) c0 Q i (c, w) μ2 Q2 (10 * k + ρ 5) → μ2.1 (m + 1) = layR ρ c → AW gX12_handles sh μ2 0 0 144 [some (vR m), some (vI c), some (vI (takF (layR ρ c))), some (vI k), some (vI z), some (vI (ρ 5)), o6] [] (fun r2 sh2 μ2 => r2 = none ∧ sh2 = sh ∧ ∃ Q2, MvI sh m μ ρ (hdE ρ) c0 Q i (c, w) μ2 Q2 60)) → AW gX12_handles sh μ' 0 0 37 [some (vR m), some (vI c), some (vI (takF (layR ρ c))), some (vI k), some (vI z), some (vI s), o6] [] (fun r2 sh2 μ2 => r2 = none ∧ sh2 = sh ∧ ∃ Q2, MvI sh m μ ρ (hdE ρ) c0 Q i (c, w) μ2 Q2 60) := by
    intro k z hk0 hk1 hz f
    induction f with
    | zero => intro n; intros; omega
    | succ f ih =>
      intro n s o6 μ' Q' hf hs0 hn2 hI hr hC
      have hM1 := hI.1.1
      have hQv : ∀ e ∈ Q', Vc ρ e.1 := fun e he => Rch.vcE (hd_E ρ) hv0 (hI.2.1.2.1.2.2.1 e he)
      have hQl := q_len hN hI.2.1.2.1.2.1 hQv
      have h29 := hI.2.1.1.1
      have hzr := hvc.2.2.2.1 k hk0 (by rw [lay_11]; exact hk1)
      obtain ⟨g0, f1, z1, f2, z2, f3, z3, f4, z4, f5, z5, f6, z6, f7, z7, f8, z8, f9, z9, f10, z10, f11, z11, f12, z12, f13, z13, f14, z14⟩ := id hM1
      have hNo : s < ρ 5 → hdB ρ c (10 * k + s) = false → ∀ o6 : Option AV, AW gX12_handles sh μ' 0 0 88 [some (vR m), some (vI c), some (vI (takF (layR ρ c))), some (vI k), some (vI z), some (vI s), o6] [vI 0] (fun r2 sh2 μ2 => r2 = none ∧ sh2 = sh ∧ ∃ Q2, MvI sh m μ ρ (hdE ρ) c0 Q i (c, w) μ2 Q2 60) := by
        intro hsS hb o6
        refine r_istore dX12_handles_88 rfl ?_
        refine r_iload dX12_handles_90 rfl ?_
        refine q_if_ne (tgt := 98) dX12_handles_92 rfl (by omega) (fun c92 => ?_) (fun c92 => ?_)
        · exact absurd rfl c92
        · refine r_goto (tgt := 138) dX12_handles_95 rfl ?_
          refine r_iinc dX12_handles_138 rfl rfl ?_
          refine r_goto (tgt := 37) dX12_handles_141 rfl ?_
          refine ih (n - 1) (s + 1) _ _ Q' (by omega) (by omega) (by omega) ?_ hr hC
          obtain ⟨a, ⟨b1, b2, b3⟩, d⟩ := hI
          refine ⟨a, ⟨b1, b2, b3.skip (by omega) (fun l l0 l1 => ?_)⟩, d⟩
          obtain rfl : l = 10 * k + s := by omega
          show hdE ρ c (10 * k + s) = none
          unfold hdE
          rw [if_neg (by rw [hb]; decide)]
      have hYes : s < ρ 5 → hdB ρ c (10 * k + s) = true → ∀ o6 : Option AV, AW gX12_handles sh μ' 0 0 88 [some (vR m), some (vI c), some (vI (takF (layR ρ c))), some (vI k), some (vI z), some (vI s), o6] [vI 1] (fun r2 sh2 μ2 => r2 = none ∧ sh2 = sh ∧ ∃ Q2, MvI sh m μ ρ (hdE ρ) c0 Q i (c, w) μ2 Q2 60) := by
        intro hsS hb o6
        have e1 : (10 * k + s) / 10 = k := by omega
        have e2 : (10 * k + s) % 10 = s := by omega
        have hee : hdE ρ c (10 * k + s) = some (codeR (rset (layR ρ c) (93 + k) (hdT ρ c (10 * k + s)))) := by
          unfold hdE
          rw [if_pos hb, e1]
        have hcd := hd_E ρ _ _ _ hvc hee
        have hcd1 := hcd.1
        have hT : hdT ρ c (10 * k + s) = if z < 0 then s else -1 := by unfold hdT; rw [e1, e2, hz]
        have go : ∀ x, x = hdT ρ c (10 * k + s) → AW gX12_handles sh (setI μ' (m + 1) (93 + k) x) 0 0 118 [some (vR m), some (vI c), some (vI (takF (layR ρ c))), some (vI k), some (vI z), some (vI s), some (vI 1)] [] (fun r2 sh2 μ2 => r2 = none ∧ sh2 = sh ∧ ∃ Q2, MvI sh m μ ρ (hdE ρ) c0 Q i (c, w) μ2 Q2 60) := by
          intro x hx
          rw [hx, set_wRow hr]
          have hcm := (hI.2.1.1.row (ρ := rset (layR ρ c) (93 + k) (hdT ρ c (10 * k + s)))).came hQv hcd.1
          refine r_aload_n dX12_handles_118 rfl ?_
          refine r_aload_n dX12_handles_119 rfl ?_
          refine r_cV0F1 dX12_handles_120 ml_X12_313 yl_X12_code ⟨rfl, rfl⟩ (by assumption) ⟨_, rfl⟩ rfl rfl rfl rfl (m_code (ρ := rset (layR ρ c) (93 + k) (hdT ρ c (10 * k + s))) hM1 wRow_row (by rw [rset_ne (by omega), lay_11]; exact hN)) ?_
          refine r_iload_n dX12_handles_123 rfl ?_
          refine r_cV2F0 dX12_handles_124 ml_X12_316 yl_X12_waits ⟨rfl, rfl⟩ (by assumption) ⟨_, rfl⟩ rfl rfl rfl rfl (m_waits (μ := wRow μ' m (rset (layR ρ c) (93 + k) (hdT ρ c (10 * k + s)))) (W := Q'.length) hM1 ⟨hcd1.1, by omega⟩ (by rw [wRow_ne (by omega)]; exact h29) (by omega) (by rcases hcm with ⟨q, -⟩ | ⟨q, -⟩ <;> omega)) ?_
          obtain ⟨Q2, hN2⟩ := hI.next (hd_lab ρ) (hd_E ρ) hv0 (σ := rset (layR ρ c) (93 + k) (hdT ρ c (10 * k + s))) hee hcd.1 (fun j hj => by rw [rset_ne (by omega), lay_ne hj])
          have hr2 := nx_row (μ := μ') (m := m) (σ := rset (layR ρ c) (93 + k) (hdT ρ c (10 * k + s))) (c := codeR (rset (layR ρ c) (93 + k) (hdT ρ c (10 * k + s)))) (p := c) (W := (Q'.length : Int))
          try dsimp only at hN2
          generalize (if (wRow μ' m (rset (layR ρ c) (93 + k) (hdT ρ c (10 * k + s)))).1 (m + 11) (codeR (rset (layR ρ c) (93 + k) (hdT ρ c (10 * k + s)))) = -2 then setI (setI (setI (wRow μ' m (rset (layR ρ c) (93 + k) (hdT ρ c (10 * k + s)))) (m + 11) (codeR (rset (layR ρ c) (93 + k) (hdT ρ c (10 * k + s)))) c) (m + 12) (Q'.length : Int) (codeR (rset (layR ρ c) (93 + k) (hdT ρ c (10 * k + s))))) m 29 ((Q'.length : Int) + 1) else wRow μ' m (rset (layR ρ c) (93 + k) (hdT ρ c (10 * k + s)))) = μ4 at hN2 hr2 ⊢
          have hM4 := hN2.1.1
          clear g0 f1 f2 f3 f4 f5 f6 f7 f8 f9 f10 f11 f12 f13 f14
          obtain ⟨g0, f1, z1, f2, z2, f3, z3, f4, z4, f5, z5, f6, z6, f7, z7, f8, z8, f9, z9, f10, z10, f11, z11, f12, z12, f13, z13, f14, z14⟩ := id hM4
          refine r_aload_n dX12_handles_127 rfl ?_
          refine r_getR dX12_handles_128 fl_X12_7 rfl (by assumption) (by assumption) ?_
          refine r_bipush dX12_handles_131 (by decide) ?_
          refine r_iload_n dX12_handles_133 rfl ?_
          refine r_iadd dX12_handles_134 ?_
          refine r_iload dX12_handles_135 rfl ?_
          refine r_iast dX12_handles_137 (by assumption) rfl (by omega) ?_
          refine r_iinc dX12_handles_138 rfl rfl ?_
          refine r_goto (tgt := 37) dX12_handles_141 rfl ?_
          refine ih (n - 1) (s + 1) _ _ Q2 (by omega) (by omega) (by omega) (by rw [show 10 * k + (s + 1) = 10 * k + s + 1 by omega]; exact hN2.set ⟨hk0, hk1⟩) ?_ hC
          rw [rset_setI, hr2, rset_rset, ← hz, rset_id]
        refine r_istore dX12_handles_88 rfl ?_
        refine r_iload dX12_handles_90 rfl ?_
        refine q_if_ne (tgt := 98) dX12_handles_92 rfl (by omega) (fun c92 => ?_) (fun c92 => ?_)
        · refine r_aload_n dX12_handles_98 rfl ?_
          refine r_getR dX12_handles_99 fl_X12_7 rfl (by assumption) (by assumption) ?_
          refine r_bipush dX12_handles_102 (by decide) ?_
          refine r_iload_n dX12_handles_104 rfl ?_
          refine r_iadd dX12_handles_105 ?_
          refine r_iload dX12_handles_106 rfl ?_
          refine q_if_ge (tgt := 116) dX12_handles_108 rfl (by omega) (fun c108 => ?_) (fun c108 => ?_)
          · refine r_iconst dX12_handles_116 ?_
            refine r_iast dX12_handles_117 (by assumption) rfl (by omega) ?_
            first
            | exact go _ (by rw [hT, if_pos (by omega)])
            | exact go _ (by rw [hT, if_neg (by omega)])
          · refine r_iload dX12_handles_111 rfl ?_
            refine r_goto (tgt := 117) dX12_handles_113 rfl ?_
            refine r_iast dX12_handles_117 (by assumption) rfl (by omega) ?_
            first
            | exact go _ (by rw [hT, if_pos (by omega)])
            | exact go _ (by rw [hT, if_neg (by omega)])
        · exact absurd c92 (by decide)
      refine r_iload dX12_handles_37 rfl ?_
      refine r_aload_n dX12_handles_39 rfl ?_
      refine r_getR dX12_handles_40 fl_X12_7 rfl (by assumption) (by assumption) ?_
      refine r_iconst dX12_handles_43 ?_
      refine r_iald dX12_handles_44 (by assumption) rfl (by omega) ?_
      rw [hr, lay_ne (j := 5) (by omega)]
      refine q_icmp_ge (tgt := 144) dX12_handles_45 rfl (by omega) (by omega) (fun c45 => ?_) (fun c45 => ?_)
      · obtain rfl : s = ρ 5 := by omega
        exact hC _ _ _ hI hr
      · refine r_aload_n dX12_handles_48 rfl ?_
        refine r_iload dX12_handles_49 rfl ?_
        refine r_cV1F1 dX12_handles_51 ml_X12_222 yl_X12_wayOf ⟨rfl, rfl⟩ (by assumption) ⟨_, rfl⟩ rfl rfl rfl rfl (m_wayOf hM1 (by rw [hr]; exact (hvc.wf hw).1) (by rw [hr, lay_ne (j := 5) (by omega)]; omega)) ?_
        refine r_iload_n dX12_handles_54 rfl ?_
        rw [hr, (lay_Pl ρ c (by omega)).way hn0 hWs hs0 (by omega)]
        refine r_iand dX12_handles_55 ?_
        refine q_if_ne (tgt := 87) dX12_handles_56 rfl (iand_rng _ _) (fun c56 => ?_) (fun c56 => ?_)
        · refine r_iconst dX12_handles_87 ?_
          first
          | (refine hNo (by omega) ?_ _
             unfold hdB
             rw [show (10 * k + s) / 10 = k by omega, show (10 * k + s) % 10 = s by omega, hz]
             refine decide_eq_false (fun q => ?_)
             first
             | exact c56 q.2.2.2.1
             | (rcases q.2.2.2.2 with ⟨q1, q2⟩ | ⟨q1, q2⟩
                · first
                  | omega
                  | (rw [c70] at q2; cases q2)
                · omega))
          | (refine hYes (by omega) ?_ _
             unfold hdB
             rw [show (10 * k + s) / 10 = k by omega, show (10 * k + s) % 10 = s by omega, hz]
             refine decide_eq_true ⟨by omega, hk1, by omega, c56, ?_⟩
             first
             | exact Or.inl ⟨by omega, c70⟩
             | exact Or.inr ⟨by omega, by omega⟩)
        · refine r_iload dX12_handles_59 rfl ?_
          refine q_if_ge (tgt := 76) dX12_handles_61 rfl (by omega) (fun c61 => ?_) (fun c61 => ?_)
          · refine r_iload dX12_handles_76 rfl ?_
            refine r_iload dX12_handles_78 rfl ?_
            refine q_icmp_ne (tgt := 87) dX12_handles_80 rfl (by omega) (by omega) (fun c80 => ?_) (fun c80 => ?_)
            · refine r_iconst dX12_handles_87 ?_
              first
              | (refine hNo (by omega) ?_ _
                 unfold hdB
                 rw [show (10 * k + s) / 10 = k by omega, show (10 * k + s) % 10 = s by omega, hz]
                 refine decide_eq_false (fun q => ?_)
                 first
                 | exact c56 q.2.2.2.1
                 | (rcases q.2.2.2.2 with ⟨q1, q2⟩ | ⟨q1, q2⟩
                    · first
                      | omega
                      | (rw [c70] at q2; cases q2)
                    · omega))
              | (refine hYes (by omega) ?_ _
                 unfold hdB
                 rw [show (10 * k + s) / 10 = k by omega, show (10 * k + s) % 10 = s by omega, hz]
                 refine decide_eq_true ⟨by omega, hk1, by omega, c56, ?_⟩
                 first
                 | exact Or.inl ⟨by omega, c70⟩
                 | exact Or.inr ⟨by omega, by omega⟩)
            · refine r_iconst dX12_handles_83 ?_
              refine r_goto (tgt := 88) dX12_handles_84 rfl ?_
              first
              | (refine hNo (by omega) ?_ _
                 unfold hdB
                 rw [show (10 * k + s) / 10 = k by omega, show (10 * k + s) % 10 = s by omega, hz]
                 refine decide_eq_false (fun q => ?_)
                 first
                 | exact c56 q.2.2.2.1
                 | (rcases q.2.2.2.2 with ⟨q1, q2⟩ | ⟨q1, q2⟩
                    · first
                      | omega
                      | (rw [c70] at q2; cases q2)
                    · omega))
              | (refine hYes (by omega) ?_ _
                 unfold hdB
                 rw [show (10 * k + s) / 10 = k by omega, show (10 * k + s) % 10 = s by omega, hz]
                 refine decide_eq_true ⟨by omega, hk1, by omega, c56, ?_⟩
                 first
                 | exact Or.inl ⟨by omega, c70⟩
                 | exact Or.inr ⟨by omega, by omega⟩)
          · refine r_iload_n dX12_handles_64 rfl ?_
            refine r_iload dX12_handles_65 rfl ?_
            refine r_cS2F1 dX12_handles_67 ml_X12_255 yl_X12_bitOf ⟨rfl, rfl⟩ rfl rfl rfl rfl (m_bitOf) ?_
            refine r_if_neB (tgt := 87) dX12_handles_70 rfl (fun c70 => ?_) (fun c70 => ?_)
            · refine r_iconst dX12_handles_87 ?_
              first
              | (refine hNo (by omega) ?_ _
                 unfold hdB
                 rw [show (10 * k + s) / 10 = k by omega, show (10 * k + s) % 10 = s by omega, hz]
                 refine decide_eq_false (fun q => ?_)
                 first
                 | exact c56 q.2.2.2.1
                 | (rcases q.2.2.2.2 with ⟨q1, q2⟩ | ⟨q1, q2⟩
                    · first
                      | omega
                      | (rw [c70] at q2; cases q2)
                    · omega))
              | (refine hYes (by omega) ?_ _
                 unfold hdB
                 rw [show (10 * k + s) / 10 = k by omega, show (10 * k + s) % 10 = s by omega, hz]
                 refine decide_eq_true ⟨by omega, hk1, by omega, c56, ?_⟩
                 first
                 | exact Or.inl ⟨by omega, c70⟩
                 | exact Or.inr ⟨by omega, by omega⟩)
            · refine r_goto (tgt := 83) dX12_handles_73 rfl ?_
              refine r_iconst dX12_handles_83 ?_
              refine r_goto (tgt := 88) dX12_handles_84 rfl ?_
              first
              | (refine hNo (by omega) ?_ _
                 unfold hdB
                 rw [show (10 * k + s) / 10 = k by omega, show (10 * k + s) % 10 = s by omega, hz]
                 refine decide_eq_false (fun q => ?_)
                 first
                 | exact c56 q.2.2.2.1
                 | (rcases q.2.2.2.2 with ⟨q1, q2⟩ | ⟨q1, q2⟩
                    · first
                      | omega
                      | (rw [c70] at q2; cases q2)
                    · omega))
              | (refine hYes (by omega) ?_ _
                 unfold hdB
                 rw [show (10 * k + s) / 10 = k by omega, show (10 * k + s) % 10 = s by omega, hz]
                 refine decide_eq_true ⟨by omega, hk1, by omega, c56, ?_⟩
                 first
                 | exact Or.inl ⟨by omega, c70⟩
                 | exact Or.inr ⟨by omega, by omega⟩)
  have lO : ∀ (f n : Nat) (k : Int) (o4 o5 o6 : Option AV) (μ' : Mem) (Q' : List Qe), n < f → 0 ≤ k → k + n = ρ 11 → MvI sh m μ ρ (hdE ρ) c0 Q i (c, w) μ' Q' (10 * k) → μ'.1 (m + 1) = layR ρ c → AW gX12_handles sh μ' 0 0 12 [some (vR m), some (vI c), some (vI (takF (layR ρ c))), some (vI k), o4, o5, o6] [] (fun r2 sh2 μ2 => r2 = none ∧ sh2 = sh ∧ ∃ Q2, MvI sh m μ ρ (hdE ρ) c0 Q i (c, w) μ2 Q2 60) := by
    intro f
    induction f with
    | zero => intro n; intros; omega
    | succ f ih =>
      intro n k o4 o5 o6 μ' Q' hf hk0 hn2 hI hr
      have hM1 := hI.1.1
      obtain ⟨g0, f1, z1, f2, z2, f3, z3, f4, z4, f5, z5, f6, z6, f7, z7, f8, z8, f9, z9, f10, z10, f11, z11, f12, z12, f13, z13, f14, z14⟩ := id hM1
      refine r_iload_n dX12_handles_12 rfl ?_
      refine r_aload_n dX12_handles_13 rfl ?_
      refine r_getR dX12_handles_14 fl_X12_7 rfl (by assumption) (by assumption) ?_
      refine r_bipush dX12_handles_17 (by decide) ?_
      refine r_iald dX12_handles_19 (by assumption) rfl (by omega) ?_
      rw [hr]; (try rw [lay_11])
      refine q_icmp_ge (tgt := 150) dX12_handles_20 rfl (by omega) (by omega) (fun c20 => ?_) (fun c20 => ?_)
      · refine r_return dX12_handles_150 rfl rfl rfl ?_
        obtain rfl : k = ρ 11 := by omega
        obtain ⟨a, ⟨b1, b2, b3⟩, d⟩ := hI
        refine ⟨rfl, rfl, Q', a, ⟨b1, b2, b3.skip (by omega) (fun l l0 l1 => ?_)⟩, d⟩
        show hdE ρ c l = none
        unfold hdE hdB
        rw [if_neg (fun q => by have q3 := (of_decide_eq_true q).2.1; omega)]
      · refine r_aload_n dX12_handles_23 rfl ?_
        refine r_getR dX12_handles_24 fl_X12_7 rfl (by assumption) (by assumption) ?_
        refine r_bipush dX12_handles_27 (by decide) ?_
        refine r_iload_n dX12_handles_29 rfl ?_
        refine r_iadd dX12_handles_30 ?_
        refine r_iald dX12_handles_31 (by assumption) rfl (by omega) ?_
        rw [hr]; (try rw [lay_11])
        refine r_istore dX12_handles_32 rfl ?_
        refine r_iconst dX12_handles_34 ?_
        refine r_istore dX12_handles_35 rfl ?_
        refine lI k _ hk0 (by omega) rfl _ (ρ 5).toNat 0 _ _ Q' (Nat.lt_succ_self _) (by omega) (by omega) (by rw [Int.add_zero]; exact hI) hr (fun μ2 Q2 o6 h2 hr2 => ?_)
        refine r_iinc dX12_handles_144 rfl rfl ?_
        refine r_goto (tgt := 12) dX12_handles_147 rfl ?_
        refine ih (n - 1) (k + 1) _ _ _ μ2 Q2 (by omega) (by omega) (by omega) ?_ hr2
        obtain ⟨a, ⟨b1, b2, b3⟩, d⟩ := h2
        refine ⟨a, ⟨b1, b2, b3.skip (by omega) (fun l l0 l1 => ?_)⟩, d⟩
        show hdE ρ c l = none
        unfold hdE hdB
        rw [if_neg (fun q => by have q3 := (of_decide_eq_true q).2.2.1; omega)]
  refine AMet.of (by decide) rfl (by decide) rfl ?_
  refine r_aload_n dX12_handles_0 rfl ?_
  refine r_iload_n dX12_handles_1 rfl ?_
  refine r_cV1F0 dX12_handles_2 ml_X12_289 yl_X12_lays ⟨rfl, rfl⟩ (by assumption) ⟨_, rfl⟩ rfl rfl rfl rfl (m_laysR hM hro hN ⟨hvc1.1, by omega⟩) ?_
  refine r_aload_n dX12_handles_5 rfl ?_
  refine r_cV0F1 dX12_handles_6 ml_X12_333 yl_X12_taken ⟨rfl, rfl⟩ (by assumption) ⟨_, rfl⟩ rfl rfl rfl rfl (m_taken (μ := wRow μ m (layR ρ c)) (σ := layR ρ c) hM wRow_row hvc.2.1 (fun k k0 k1 => by have := hvc.2.2.2.1 k k0 k1; omega)) ?_
  refine r_istore_n dX12_handles_9 rfl ?_
  refine r_iconst dX12_handles_10 ?_
  refine r_istore_n dX12_handles_11 rfl ?_
  refine lO _ (ρ 11).toNat 0 _ _ _ _ Q (Nat.lt_succ_self _) (by omega) (by omega) ⟨⟨hM, (FB.rf _ _).row, fun j hj => by rw [wRow_row, lay_ne hj]⟩, ⟨hB.row, hI, ?_⟩, fun _ _ h => h⟩ wRow_row
  rw [Int.mul_zero]
  exact BBt.begin (c0 := 0) hb (hd_lab ρ) hi
def handF (ρ : Row) (i : Int) : Int := if isG ρ i then hdN ρ (gAt ρ i / 200) else -1
theorem MvJ.go {sh : Sh} {m : Nat} {μ : Mem} {ρ : Row} {E : Edg} {c0 : Int} {Q Q2 : List Qe} {i : Nat} {μ' μ2 : Mem} {e0 : Qe} (hE : LabOK E) (h : MvJ sh m μ ρ E c0 Q i μ') (h2 : MvI sh m μ' ρ E c0 Q i e0 μ2 Q2 60) : MvJ sh m μ ρ E c0 Q2 (i + 1) μ2 := by
  obtain ⟨⟨n1, n2, n3⟩, ⟨n4, n5, n6⟩, n7⟩ := h2
  obtain ⟨d1, d2⟩ := BPr.done hE n5 n6
  exact ⟨⟨n1, h.1.2.1.tr n2, n3⟩, n4, d1, d2⟩
theorem hand_word {ρ : Row} (hw : WF ρ) {g : Int} (hg : Vc ρ g) (ht : ∀ k, 0 ≤ k → k < ρ 11 → 0 ≤ tgF ρ g k) {Q : List Qe} {i : Nat} {v : Wrd} (hB : BIn (hdE ρ) (codeR ρ) Q i) (hb : BBt Q i) (hm : (g, v) ∈ Q) : (v.length : Int) = hdN ρ g := by
  have h1 := hand_ge hw hg ht ((rch_pth _ _).1 (hB.2.2.1 _ hm))
  obtain ⟨p, p1, p2⟩ := hand_le hw hg ht
  have h2 := bfs_goal (hd_lab ρ) hB hb hm (w := p.reverse) ((rch_pth _ _).2 (by rw [List.reverse_reverse]; exact p1))
  rw [List.length_reverse] at h1 h2
  try dsimp only at h1 h2
  omega
set_option maxHeartbeats 4000000 in
theorem m_handlings {sh : Sh} {μ : Mem} {m : Nat} (hM : IsModel sh μ.2.2 m) {ρ : Row} (hr : μ.1 (m + 1) = ρ) (hw : WF ρ) {i : Int} (hi0 : -2147483648 ≤ i ∧ i < 2147483648)  : IMet yX12_handlings gX12_handlings sh [vR m, vI i] μ (fun x μ2 => x = handF ρ i ∧ FG m μ μ2 ∧ μ2.1 (m + 1) = ρ) := by
  obtain ⟨g0, f1, z1, f2, z2, f3, z3, f4, z4, f5, z5, f6, z6, f7, z7, f8, z8, f9, z9, f10, z10, f11, z11, f12, z12, f13, z13, f14, z14⟩ := id hM
  have hn := hw.1.1
  unfold WFn at hn
  have hN : 0 ≤ ρ 11 ∧ ρ 11 ≤ 5 := by omega
  have hpw0 := pw_le hN
  have lP : ∀ (Q : List Qe) (o2 : Int), (∀ e ∈ Q, Vc ρ e.1) → Q.length ≤ 4051 → ∀ (t : Wrd) (d n : Int) (μ' : Mem), (d, t) ∈ Q → IsModel sh μ'.2.2 m → FG m μ μ' → μ'.1 (m + 1) = ρ → BQ m μ' (ρ 11) (hdE ρ) Q → n + t.length = handF ρ i → AW gX12_handlings sh μ' 0 0 75 [some (vR m), some (vI i), some (vI o2), some (vI n), some (vI d)] [] (fun r2 sh2 μ2 => sh2 = sh ∧ ∃ x, r2 = some (vI x) ∧ x = handF ρ i ∧ FG m μ μ2 ∧ μ2.1 (m + 1) = ρ) := by
    intro Q o2 hQv hQl t
    induction t with
    | nil =>
      intro d n μ' hm hM1 hF hr hBQ hnn
      have hdc := (hQv _ hm).1
      have hcm : μ'.1 (m + 11) d = -1 := hBQ.2.2.1 _ hm rfl
      try dsimp only at hdc
      obtain ⟨g0, f1, z1, f2, z2, f3, z3, f4, z4, f5, z5, f6, z6, f7, z7, f8, z8, f9, z9, f10, z10, f11, z11, f12, z12, f13, z13, f14, z14⟩ := id hM1
      refine r_aload_n dX12_handlings_75 rfl ?_
      refine r_getR dX12_handlings_76 fl_X12_43 rfl (by assumption) (by assumption) ?_
      refine r_iload dX12_handlings_79 rfl ?_
      refine r_iald dX12_handlings_81 (by assumption) rfl (by omega) ?_
      rw [hcm]
      refine q_if_lt (tgt := 100) dX12_handlings_82 rfl (by omega) (fun c82 => ?_) (fun c82 => ?_)
      · refine r_iload_n dX12_handlings_100 rfl ?_
        refine r_ireturn dX12_handlings_101 rfl rfl rfl ?_
        exact ⟨rfl, _, rfl, by rw [← hnn]; simp, hF, hr⟩
      · exact absurd c82 (by decide)
    | cons l t ih =>
      intro d n μ' hm hM1 hF hr hBQ hnn
      have hdc := (hQv _ hm).1
      obtain ⟨p, hp1, hp2, hcm⟩ := hBQ.2.2.2.1 _ hm l t rfl
      have hpc := (hQv _ hp1).1
      try dsimp only at hdc hpc hcm
      rw [List.length_cons] at hnn
      obtain ⟨g0, f1, z1, f2, z2, f3, z3, f4, z4, f5, z5, f6, z6, f7, z7, f8, z8, f9, z9, f10, z10, f11, z11, f12, z12, f13, z13, f14, z14⟩ := id hM1
      refine r_aload_n dX12_handlings_75 rfl ?_
      refine r_getR dX12_handlings_76 fl_X12_43 rfl (by assumption) (by assumption) ?_
      refine r_iload dX12_handlings_79 rfl ?_
      refine r_iald dX12_handlings_81 (by assumption) rfl (by omega) ?_
      rw [hcm]
      refine q_if_lt (tgt := 100) dX12_handlings_82 rfl (by omega) (fun c82 => ?_) (fun c82 => ?_)
      · exact absurd c82 (by omega)
      · refine r_iinc dX12_handlings_85 rfl rfl ?_
        refine r_aload_n dX12_handlings_88 rfl ?_
        refine r_getR dX12_handlings_89 fl_X12_43 rfl (by assumption) (by assumption) ?_
        refine r_iload dX12_handlings_92 rfl ?_
        refine r_iald dX12_handlings_94 (by assumption) rfl (by omega) ?_
        rw [hcm]
        refine r_istore dX12_handlings_95 rfl ?_
        refine r_goto (tgt := 75) dX12_handlings_97 rfl ?_
        exact ih p (n + 1) μ' hp1 hM1 hF hr hBQ (by omega)
  refine AMet.of (by decide) rfl (by decide) rfl ?_
  refine r_aload_n dX12_handlings_0 rfl ?_
  refine r_iload_n dX12_handlings_1 rfl ?_
  refine r_cV1I dX12_handlings_2 ml_X12_304 yl_X12_isGood ⟨rfl, rfl⟩ (by assumption) ⟨_, rfl⟩ rfl rfl rfl rfl (m_isGood hM hr hw hi0) ?_
  rintro x1 μ1 ⟨hx1, hF1, hr1, hG1⟩
  have x11 := hx1.symm ▸ b2i_01 _
  have hM1 : IsModel sh μ1.2.2 m := by rw [hF1.1]; exact hM
  clear g0 f1 f2 f3 f4 f5 f6 f7 f8 f9 f10 f11 f12 f13 f14
  obtain ⟨g0, f1, z1, f2, z2, f3, z3, f4, z4, f5, z5, f6, z6, f7, z7, f8, z8, f9, z9, f10, z10, f11, z11, f12, z12, f13, z13, f14, z14⟩ := id hM1
  refine q_if_ne (tgt := 10) dX12_handlings_5 rfl (by omega) (fun c5 => ?_) (fun c5 => ?_)
  · have hgi : isG ρ i := by
      by_cases e : isG ρ i
      · exact e
      · rw [hx1, decide_eq_false e] at c5; exact absurd rfl c5
    have hs := gAt_spec hN hgi
    have hgl := hG1.2.1
    have hgi2 : 0 ≤ i ∧ i < ((GL ρ).length : Int) := hgi
    have hgr : 0 ≤ gAt ρ i / 200 ∧ gAt ρ i / 200 < 7 ^ (ρ 11).toNat := hs.1.1
    obtain ⟨hgv, hgt⟩ := whole_vc hN (by omega) hgr hs.2.2.2.1
    refine r_aload_n dX12_handlings_10 rfl ?_
    refine r_getR dX12_handlings_11 fl_X12_40 rfl (by assumption) (by assumption) ?_
    refine r_iload_n dX12_handlings_14 rfl ?_
    refine r_iald dX12_handlings_15 (by assumption) rfl (by omega) ?_
    rw [hG1.at hgi]
    refine r_sipush dX12_handlings_16 (by decide) ?_
    refine r_idiv dX12_handlings_19 (by omega) (by omega) ?_
    rw [Int.tdiv_eq_ediv_of_nonneg hs.2.2.1.1]
    refine r_istore_n dX12_handlings_20 rfl ?_
    refine r_aload_n dX12_handlings_21 rfl ?_
    refine r_cV0N dX12_handlings_22 ml_X12_280 yl_X12_keepsLaid ⟨rfl, rfl⟩ (by assumption) ⟨_, rfl⟩ rfl rfl rfl rfl (m_keepsLaid hM1 hr1) ?_
    rintro μ2 ⟨k1, k2, k3, k4⟩
    have hM2 : IsModel sh μ2.2.2 m := by rw [k1.1]; exact hM1
    have hr2 : μ2.1 (m + 1) = ρ := by rw [k1.2 _ (by omega)]; exact hr1
    have hlaid := And.intro k2 (And.intro k3 k4)
    have hFG1 : FG m μ μ2 := hF1.tr ⟨k1.1, fun q a1 a2 a3 _ _ _ _ => k1.2 q a3, fun j _ => congrFun (k1.2 m (by omega)) j⟩
    clear g0 f1 f2 f3 f4 f5 f6 f7 f8 f9 f10 f11 f12 f13 f14
    obtain ⟨g0, f1, z1, f2, z2, f3, z3, f4, z4, f5, z5, f6, z6, f7, z7, f8, z8, f9, z9, f10, z10, f11, z11, f12, z12, f13, z13, f14, z14⟩ := id hM2
    refine r_aload_n dX12_handlings_25 rfl ?_
    refine r_cV0N dX12_handlings_26 ml_X12_318 yl_X12_starts ⟨rfl, rfl⟩ (by assumption) ⟨_, rfl⟩ rfl rfl rfl rfl (m_starts hM2 hr2 hN hw.vc.1 (hdE ρ)) ?_
    rintro μ3 ⟨s1, s2, s3⟩
    refine r_iconst dX12_handlings_29 ?_
    refine r_istore_n dX12_handlings_30 rfl ?_
    have lL : ∀ (f : Nat) (Q : List Qe) (j : Nat) (o4 : Option AV) (μ' : Mem), 4052 - j < f → j ≤ Q.length → MvJ sh m μ2 ρ (hdE ρ) (codeR ρ) Q j μ' → AW gX12_handlings sh μ' 0 0 31 [some (vR m), some (vI i), some (vI (gAt ρ i / 200)), some (vI (j : Int)), o4] [] (fun r2 sh2 μ2 => sh2 = sh ∧ ∃ x, r2 = some (vI x) ∧ x = handF ρ i ∧ FG m μ μ2 ∧ μ2.1 (m + 1) = ρ) := by
      intro f
      induction f with
      | zero => intro Q j; intros; omega
      | succ f ih =>
        intro Q j o4 μ' hf hjl hJ
        obtain ⟨hQv, hQl⟩ := hw.codes (hd_E ρ) hJ.2.2.1
        have hM1 := hJ.1.1
        have h29 := hJ.2.1.1
        have e9 : μ'.1 (m + 9) = μ2.1 (m + 9) := hJ.1.2.1.2.1 _ (by omega) (by omega) (by omega) (by omega)
        have hFG : FG m μ μ' := hFG1.tr hJ.1.2.1.fg
        have hca := hJ.2.1.came hQv hgr
        have hcar : -2147483648 ≤ μ'.1 (m + 11) (gAt ρ i / 200) ∧ μ'.1 (m + 11) (gAt ρ i / 200) < 2147483648 := by
          rcases hca with ⟨q, -⟩ | ⟨q, -⟩ <;> omega
        obtain ⟨g0, f1, z1, f2, z2, f3, z3, f4, z4, f5, z5, f6, z6, f7, z7, f8, z8, f9, z9, f10, z10, f11, z11, f12, z12, f13, z13, f14, z14⟩ := id hM1
        refine r_iload_n dX12_handlings_31 rfl ?_
        refine r_aload_n dX12_handlings_32 rfl ?_
        refine r_getI dX12_handlings_33 fl_X12_310 rfl (by assumption) ?_
        (try rw [h29])
        refine q_icmp_ge (tgt := 66) dX12_handlings_36 rfl (by omega) (by omega) (fun c36 => ?_) (fun c36 => ?_)
        · have hfound : ∃ v, (gAt ρ i / 200, v) ∈ Q := by
            obtain rfl : j = Q.length := by omega
            obtain ⟨p, p1, p2⟩ := hand_le hw hgv hgt
            exact bfs_found (hd_lab ρ) hJ.2.2.1 (w := p.reverse) ((rch_pth _ _).2 (by rw [List.reverse_reverse]; exact p1))
          have hJ1 := hJ
          obtain ⟨v, hv⟩ := hfound
          have hlen := hand_word hw hgv hgt hJ.2.2.1 hJ.2.2.2 hv
          refine r_aload_n dX12_handlings_66 rfl ?_
          refine r_cV0F0 dX12_handlings_67 ml_X12_298 yl_X12_laysBack ⟨rfl, rfl⟩ (by assumption) ⟨_, rfl⟩ rfl rfl rfl rfl (m_laysBack (ρ := ρ) hM1 rfl (by rw [e9]; exact hlaid.1) (by rw [e9]; exact hlaid.2.1) (by rw [e9]; exact hlaid.2.2) (fun j j1 _ _ => hJ.1.2.2 j (by omega))) ?_
          refine r_iconst dX12_handlings_70 ?_
          refine r_istore_n dX12_handlings_71 rfl ?_
          refine r_iload_n dX12_handlings_72 rfl ?_
          refine r_istore dX12_handlings_73 rfl ?_
          exact lP Q _ hQv hQl v _ 0 _ hv hM1 hFG.row wRow_row hJ.2.1.row (by unfold handF; rw [if_pos hgi]; omega)
        · refine r_aload_n dX12_handlings_39 rfl ?_
          refine r_getR dX12_handlings_40 fl_X12_43 rfl (by assumption) (by assumption) ?_
          refine r_iload_n dX12_handlings_43 rfl ?_
          refine r_iald dX12_handlings_44 (by assumption) rfl (by omega) ?_
          (try rw [hJ.2.1.2.1 j _ hi])
          refine r_bipush dX12_handlings_45 (by decide) ?_
          refine q_icmp_ne (tgt := 66) dX12_handlings_47 rfl (by omega) (by omega) (fun c47 => ?_) (fun c47 => ?_)
          · have hfound : ∃ v, (gAt ρ i / 200, v) ∈ Q := by
              rcases hca with ⟨q, -⟩ | ⟨-, q⟩
              · exact absurd q c47
              · exact q
            have hJ1 := hJ
            obtain ⟨v, hv⟩ := hfound
            have hlen := hand_word hw hgv hgt hJ.2.2.1 hJ.2.2.2 hv
            refine r_aload_n dX12_handlings_66 rfl ?_
            refine r_cV0F0 dX12_handlings_67 ml_X12_298 yl_X12_laysBack ⟨rfl, rfl⟩ (by assumption) ⟨_, rfl⟩ rfl rfl rfl rfl (m_laysBack (ρ := ρ) hM1 rfl (by rw [e9]; exact hlaid.1) (by rw [e9]; exact hlaid.2.1) (by rw [e9]; exact hlaid.2.2) (fun j j1 _ _ => hJ.1.2.2 j (by omega))) ?_
            refine r_iconst dX12_handlings_70 ?_
            refine r_istore_n dX12_handlings_71 rfl ?_
            refine r_iload_n dX12_handlings_72 rfl ?_
            refine r_istore dX12_handlings_73 rfl ?_
            exact lP Q _ hQv hQl v _ 0 _ hv hM1 hFG.row wRow_row hJ.2.1.row (by unfold handF; rw [if_pos hgi]; omega)
          · have hlt : j < Q.length := by omega
            obtain ⟨⟨c, w⟩, hi⟩ : ∃ e, Q[j]? = some e := ⟨_, List.getElem?_eq_getElem hlt⟩
            have h12 : μ'.1 (m + 12) j = c := hJ.2.1.2.1 j _ hi
            refine r_aload_n dX12_handlings_50 rfl ?_
            refine r_aload_n dX12_handlings_51 rfl ?_
            refine r_getR dX12_handlings_52 fl_X12_46 rfl (by assumption) (by assumption) ?_
            refine r_iload_n dX12_handlings_55 rfl ?_
            refine r_iald dX12_handlings_56 (by assumption) rfl (by omega) ?_
            (try rw [hJ.2.1.2.1 j _ hi])
            refine r_cV1N dX12_handlings_57 ml_X12_336 yl_X12_handles ⟨rfl, rfl⟩ (by assumption) ⟨_, rfl⟩ rfl rfl rfl rfl (m_handles (c := c) (w := w) hM1 hw hJ.1.2.2 hw.vc.1 hJ.2.1 hJ.2.2.1 hJ.2.2.2 hi) ?_
            rintro μ3 ⟨Q2, hN2⟩
            refine r_iinc dX12_handlings_60 rfl rfl ?_
            refine r_goto (tgt := 31) dX12_handlings_63 rfl ?_
            have hJ2 := hJ.go (hd_lab ρ) hN2
            have hlt2 : j < Q2.length := (List.getElem?_eq_some_iff.1 (hN2.2.2 j _ hi)).1
            rw [show (j : Int) + 1 = ((j + 1 : Nat) : Int) by omega]
            exact ih Q2 (j + 1) _ μ3 (by omega) (by omega) hJ2
    obtain ⟨b1, b2⟩ := bin_start (hdE ρ) (codeR ρ)
    have hM3 : IsModel sh μ3.2.2 m := by rw [s1.1]; exact hM2
    exact lL _ _ 0 _ μ3 (Nat.lt_succ_self _) (Nat.zero_le _) ⟨⟨hM3, s1, fun j _ => by rw [s2]⟩, s3, b1, b2⟩
  · refine r_iconst dX12_handlings_8 ?_
    refine r_ireturn dX12_handlings_9 rfl rfl rfl ?_
    have hgi : ¬ isG ρ i := fun e => by rw [hx1, decide_eq_true e] at c5; exact absurd c5 (by decide)
    exact ⟨rfl, _, rfl, by unfold handF; rw [if_neg hgi], hF1, hr1⟩
