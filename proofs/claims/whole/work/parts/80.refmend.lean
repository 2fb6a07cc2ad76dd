/-! 80.refmend: the fewest moves, in the reference (wip/whole/src/80_refmend.py) -/
theorem dist_path {ρ : Row} (h0 : 0 ≤ ρ 11 ∧ ρ 11 ≤ 5) (h5 : ρ 5 ≤ 6) {g : Int} (hg : gdC ρ g) : ∀ (n : Nat) (u : Int), Vc ρ u → dm ρ u g = n → ∃ p, Pth (mvE ρ) u p g ∧ p.length = n
  | 0, u, hu, h => ⟨[], (dm_zero h0 hu hg h).symm, rfl⟩
  | n + 1, u, hu, h => by
    obtain ⟨⟨k, s, -, b2, b3, b4, b5⟩, -⟩ := lm_spec (σ := layR ρ u) (τ := tgF ρ g) (S := ρ 5) (away := (n : Int) + 1) hu.2 (by rw [lay_11]; exact gd_tg h0 hg) (by unfold dm at h; omega) (by omega)
    rw [lay_11] at b2
    obtain ⟨c, d1, d2, d3⟩ := mv_to h0.2 h5 hu b2 b3 b4
    obtain ⟨p, e1, e2⟩ := dist_path h0 h5 hg n c d2 (by unfold dm; rw [d3, b5]; omega)
    exact ⟨(10 * k + s) :: p, ⟨c, d1, e1⟩, by rw [List.length_cons, e2]⟩
theorem mend_len {ρ : Row} (hw : WF ρ) {w : Wrd} (h : MendOK ρ w) : w.length ≤ 10 := by
  have hn := hw.1.1
  unfold WFn at hn
  obtain ⟨c, h1, h2, h3⟩ := h
  have hv := hw.vc.1
  have hp := (rch_pth _ _).1 h1
  have hc := vc_gd (hp.vc hv) h2
  have d := dm_path (by omega) hc _ _ hv hp
  obtain ⟨p, e1, e2⟩ := dist_path (by omega) (by omega) hc (dm ρ (codeR ρ) c).toNat _ hv (by omega)
  have hr : Rch (mvE ρ) (codeR ρ) p.reverse c := (rch_pth _ _).2 (by rw [List.reverse_reverse]; exact e1)
  have q := Rch.len (mv_lab ρ) h1 hr (h3 _ _ hr h2)
  rw [List.length_reverse, e2] at q
  have e := dm_pos (σ := layR ρ (codeR ρ)) (τ := tgF ρ c) (S := ρ 5) (by unfold dm at d; omega)
  have a := aw_10 (f := fT (layR ρ (codeR ρ)) (tgF ρ c)) (N := layR ρ (codeR ρ) 11) hv.2.1 (fT_pi hv.2 (by rw [lay_11]; exact gd_tg (by omega) hc))
  unfold dm at q d
  omega
theorem WF.codes {ρ : Row} (hw : WF ρ) {Q : List Qe} {E : Edg} {i : Nat} (hE : ∀ u l c, Vc ρ u → E u l = some c → Vc ρ c) (h : BIn E (codeR ρ) Q i) : (∀ e ∈ Q, Vc ρ e.1) ∧ Q.length ≤ 4051 := by
  have hn := hw.1.1
  unfold WFn at hn
  have hv : ∀ e ∈ Q, Vc ρ e.1 := fun e he => Rch.vcE hE hw.vc.1 (h.2.2.1 e he)
  exact ⟨hv, q_len (by omega) h.2.1 hv⟩
def PQ (sh : Sh) (m : Nat) (μ : Mem) (ρ : Row) (E : Edg) (Q : List Qe) (μ' : Mem) : Prop := IsModel sh μ'.2.2 m ∧ FG m μ μ' ∧ μ'.1 (m + 1) = ρ ∧ BQ m μ' (ρ 11) E Q
def MvJ (sh : Sh) (m : Nat) (μ : Mem) (ρ : Row) (E : Edg) (c0 : Int) (Q : List Qe) (i : Nat) (μ' : Mem) : Prop := (IsModel sh μ'.2.2 m ∧ FB m μ μ' ∧ ∀ j, ¬ (93 ≤ j ∧ j < 93 + ρ 11) → μ'.1 (m + 1) j = ρ j) ∧ BQ m μ' (ρ 11) E Q ∧ BIn E c0 Q i ∧ BBt Q i
theorem MvJ.row {sh : Sh} {m : Nat} {μ : Mem} {ρ : Row} {E : Edg} {c0 : Int} {Q : List Qe} {i : Nat} {μ' μ2 : Mem} {c : Int} (h : MvJ sh m μ ρ E c0 Q i μ') (hs : Sc m (wRow μ' m (layR ρ c)) μ2) : MvJ sh m μ ρ E c0 Q i μ2 ∧ μ2.1 (m + 1) = layR ρ c := by
  obtain ⟨⟨a1, a2, a3⟩, b, d⟩ := h
  have e1 : μ2.1 (m + 1) = layR ρ c := by rw [hs.row (by omega), wRow_row]
  refine ⟨⟨⟨by rw [hs.1]; exact a1, a2.row.sc hs, fun j hj => by rw [e1, lay_ne hj]⟩, b.row.of (hs.2 m 29 (by omega)) (hs.row (by omega)) (hs.row (by omega)), d⟩, e1⟩
def MEndQ (m : Nat) (μ : Mem) (ρ : Row) (x : Int) (μ2 : Mem) : Prop := FG m μ μ2 ∧ μ2.1 (m + 1) = ρ ∧ ((x = 0 ∧ ∀ w, ¬ MendOK ρ w) ∨ (x = 1 ∧ ∃ w, MendOK ρ w ∧ w.length ≤ 10 ∧ μ2.1 m 31 = w.length ∧ ∀ (i : Nat) (x : Int), w.reverse[i]? = some x → μ2.1 (m + 13) i = x))
theorem Rch.one {E : Edg} {c0 : Int} : ∀ {e e' : Qe}, Rch E c0 e.2 e.1 → Rch E c0 e'.2 e'.1 → e.2 = e'.2 → e.1 = e'.1 := fun {e e'} h h' q => by
  rw [rch_pth] at h h'
  rw [q] at h
  exact (Pth.det h h')
set_option maxHeartbeats 4000000 in
theorem m_mends {sh : Sh} {μ : Mem} {m : Nat} (hM : IsModel sh μ.2.2 m) {ρ : Row} (hr : μ.1 (m + 1) = ρ) (hw : WF ρ)  : IMet yX12_mends gX12_mends sh [vR m] μ (MEndQ m μ ρ) := by
  obtain ⟨g0, f1, z1, f2, z2, f3, z3, f4, z4, f5, z5, f6, z6, f7, z7, f8, z8, f9, z9, f10, z10, f11, z11, f12, z12, f13, z13, f14, z14⟩ := id hM
  have hn := hw.1.1
  unfold WFn at hn
  have hN : 0 ≤ ρ 11 ∧ ρ 11 ≤ 5 := by omega
  have hpw0 := pw_le hN
  have lP : ∀ (Q : List Qe) (c : Int) (o3 o4 : Option AV), (∀ e ∈ Q, Vc ρ e.1) → ∀ (t : Wrd) (d n : Int) (μ' : Mem), (d, t) ∈ Q → PQ sh m μ ρ (mvE ρ) Q μ' → μ'.1 m 31 = n → 0 ≤ n → n + t.length ≤ 10 → (∀ (μ2 : Mem) (o2 : Option AV), PQ sh m μ ρ (mvE ρ) Q μ2 → μ2.1 m 31 = n + t.length → AW gX12_mends sh μ2 0 0 113 [some (vR m), some (vI c), o2, o3, o4] [] (fun r2 sh2 μ2 => sh2 = sh ∧ ∃ x, r2 = some (vI x) ∧ MEndQ m μ ρ x μ2)) → AW gX12_mends sh μ' 0 0 84 [some (vR m), some (vI c), some (vI d), o3, o4] [] (fun r2 sh2 μ2 => sh2 = sh ∧ ∃ x, r2 = some (vI x) ∧ MEndQ m μ ρ x μ2) := by
    intro Q c o3 o4 hQv t
    induction t with
    | nil =>
      intro d n μ' hm hPQ h31 hn0 hn10 hC
      have hdc := (hQv _ hm).1
      have hcm : μ'.1 (m + 11) d = -1 := hPQ.2.2.2.2.2.1 _ hm rfl
      obtain ⟨g0, f1, z1, f2, z2, f3, z3, f4, z4, f5, z5, f6, z6, f7, z7, f8, z8, f9, z9, f10, z10, f11, z11, f12, z12, f13, z13, f14, z14⟩ := id hPQ.1
      refine r_aload_n dX12_mends_84 rfl ?_
      refine r_getR dX12_mends_85 fl_X12_43 rfl (by assumption) (by assumption) ?_
      refine r_iload_n dX12_mends_88 rfl ?_
      refine r_iald dX12_mends_89 (by assumption) rfl (by omega) ?_
      rw [hcm]
      refine q_if_lt (tgt := 113) dX12_mends_90 rfl (by omega) (fun c90 => ?_) (fun c90 => ?_)
      · exact hC μ' _ hPQ (by rw [h31]; simp)
      · exact absurd c90 (by decide)
    | cons l t ih =>
      intro d n μ' hm hPQ h31 hn0 hn10 hC
      have hdc := (hQv _ hm).1
      obtain ⟨p, hp1, hp2, hcm⟩ := hPQ.2.2.2.2.2.2.1 _ hm l t rfl
      have hpc := (hQv _ hp1).1
      try dsimp only at hdc hpc hcm
      rw [List.length_cons] at hn10 hC
      obtain ⟨g0, f1, z1, f2, z2, f3, z3, f4, z4, f5, z5, f6, z6, f7, z7, f8, z8, f9, z9, f10, z10, f11, z11, f12, z12, f13, z13, f14, z14⟩ := id hPQ.1
      refine r_aload_n dX12_mends_84 rfl ?_
      refine r_getR dX12_mends_85 fl_X12_43 rfl (by assumption) (by assumption) ?_
      refine r_iload_n dX12_mends_88 rfl ?_
      refine r_iald dX12_mends_89 (by assumption) rfl (by omega) ?_
      (try rw [sI_ne (by omega)]); rw [hcm]
      refine q_if_lt (tgt := 113) dX12_mends_90 rfl (by omega) (fun c90 => ?_) (fun c90 => ?_)
      · exact absurd c90 (by omega)
      · refine r_aload_n dX12_mends_93 rfl ?_
        refine r_dup dX12_mends_94 rfl ?_
        refine r_getI dX12_mends_95 fl_X12_324 rfl (by assumption) ?_
        rw [h31]
        refine r_iconst dX12_mends_98 ?_
        refine r_iadd dX12_mends_99 ?_
        refine r_putI dX12_mends_100 fl_X12_324 (by assumption) ?_
        refine r_aload_n dX12_mends_103 rfl ?_
        refine r_getR dX12_mends_104 fl_X12_43 rfl (by assumption) (by assumption) ?_
        refine r_iload_n dX12_mends_107 rfl ?_
        refine r_iald dX12_mends_108 (by assumption) rfl (by omega) ?_
        (try rw [sI_ne (by omega)]); rw [hcm]
        refine r_istore_n dX12_mends_109 rfl ?_
        refine r_goto (tgt := 84) dX12_mends_110 rfl ?_
        refine ih p (n + 1) _ hp1 ⟨hPQ.1, hPQ.2.1.sI (by omega), (setI_ne (by omega)).trans hPQ.2.2.1, hPQ.2.2.2.of (sI_nj (by omega)) (setI_ne (by omega)) (setI_ne (by omega))⟩ sI_at (by omega) (by omega) (fun μ2 o2 h1 h2 => hC μ2 o2 h1 (by omega))
  have lW : ∀ (Q : List Qe) (c : Int) (w : Wrd), (∀ e ∈ Q, Vc ρ e.1) → MendOK ρ w → w.length ≤ 10 → (∀ e ∈ Q, ∀ e' ∈ Q, e.2 = e'.2 → e.1 = e'.1) → ∀ (t : Wrd) (d : Int) (o4 : Option AV) (μ' : Mem), (d, t) ∈ Q → PQ sh m μ ρ (mvE ρ) Q μ' → μ'.1 m 31 = w.length → (∃ u, w = u ++ t) → (∀ (j : Nat) (x : Int), t.length ≤ j → w.reverse[j]? = some x → μ'.1 (m + 13) j = x) → AW gX12_mends sh μ' 0 0 120 [some (vR m), some (vI c), some (vI (t.length : Int)), some (vI d), o4] [] (fun r2 sh2 μ2 => sh2 = sh ∧ ∃ x, r2 = some (vI x) ∧ MEndQ m μ ρ x μ2) := by
    intro Q c w hQv hmo hw10 hQi t
    induction t with
    | nil =>
      intro d o4 μ' hm hPQ h31 hu hpa
      have hdc := (hQv _ hm).1
      have hcm : μ'.1 (m + 11) d = -1 := hPQ.2.2.2.2.2.1 _ hm rfl
      obtain ⟨g0, f1, z1, f2, z2, f3, z3, f4, z4, f5, z5, f6, z6, f7, z7, f8, z8, f9, z9, f10, z10, f11, z11, f12, z12, f13, z13, f14, z14⟩ := id hPQ.1
      refine r_aload_n dX12_mends_120 rfl ?_
      refine r_getR dX12_mends_121 fl_X12_43 rfl (by assumption) (by assumption) ?_
      refine r_iload_n dX12_mends_124 rfl ?_
      refine r_iald dX12_mends_125 (by assumption) rfl (by omega) ?_
      rw [hcm]
      refine q_if_lt (tgt := 204) dX12_mends_126 rfl (by omega) (fun c126 => ?_) (fun c126 => ?_)
      · refine r_iconst dX12_mends_204 ?_
        refine r_zreturn dX12_mends_205 (by first | exact Or.inl rfl | exact Or.inr rfl | exact b2i_01 _ | omega) rfl rfl rfl ?_
        exact ⟨rfl, _, rfl, hPQ.2.1, hPQ.2.2.1, Or.inr ⟨rfl, w, hmo, hw10, h31, fun i x hx => hpa i x (Nat.zero_le _) hx⟩⟩
      · exact absurd c126 (by decide)
    | cons l t ih =>
      intro d o4 μ' hm hPQ h31 hu hpa
      have hdc := (hQv _ hm).1
      obtain ⟨p, hp1, hp2, hcm⟩ := hPQ.2.2.2.2.2.2.1 _ hm l t rfl
      have hpv := hQv _ hp1
      have hpc := hpv.1
      try dsimp only at hdc hpc hcm
      have hed := mv_edge hpv hp2
      have hpw := pw_le hN
      obtain ⟨u, hu⟩ := hu
      have htl : t.length + 1 ≤ 10 := by have := congrArg List.length hu; rw [List.length_append, List.length_cons] at this; omega
      have hwl : w.reverse[t.length]? = some l := by
        rw [hu, List.reverse_append, List.reverse_cons, List.append_assoc, List.getElem?_append_right (by rw [List.length_reverse]; omega), List.length_reverse, Nat.sub_self]
        rfl
      have hdg : ∀ k, 0 ≤ k → k < ρ 11 → dg (ρ 11) d k - 1 = if k = l / 10 then l % 10 else dg (ρ 11) p k - 1 := fun k k0 k1 => by
        have e1 := lay_at (ρ := ρ) (c := d) ⟨k0, k1⟩
        rw [← e1, hed.2.2.2.2.2]
        by_cases q : k = l / 10
        · rw [if_pos q, q, rset_eq]
        · rw [if_neg q, rset_ne (by omega), lay_at ⟨k0, k1⟩]
      have hdn : dg (ρ 11) p (l / 10) - 1 ≠ l % 10 := fun e => by
        have h1 := lay_at (ρ := ρ) (c := p) hed.2.1
        rw [e] at h1
        have := on_at hpv.2 (k := l / 10) (t := l % 10) (by rw [lay_11]; exact hed.2.1) hed.2.2.1.1 h1
        have := hed.2.2.2.1
        omega
      have hpu : ∀ p', (p', t) ∈ Q → p' = p := fun p' a => by
        have := hQi _ a _ hp1 rfl
        exact this
      have lK : ∀ (f n : Nat) (k : Int) (μ' : Mem), n < f → 0 ≤ k → k + n = ρ 11 → PQ sh m μ ρ (mvE ρ) Q μ' → μ'.1 m 31 = w.length → (∀ (j : Nat) (x : Int), t.length + 1 ≤ j → w.reverse[j]? = some x → μ'.1 (m + 13) j = x) → (l / 10 < k → μ'.1 (m + 13) t.length = l) → AW gX12_mends sh μ' 0 0 135 [some (vR m), some (vI c), some (vI (t.length : Int)), some (vI d), some (vI k)] [] (fun r2 sh2 μ2 => sh2 = sh ∧ ∃ x, r2 = some (vI x) ∧ MEndQ m μ ρ x μ2) := by
        intro f
        induction f with
        | zero => intro n; intros; omega
        | succ f ihf =>
          intro n k μ' hf hk0 hn2 hPQ h31 hpa hpl
          have hcm : μ'.1 (m + 11) d = p := by
            obtain ⟨p', a, b, e⟩ := hPQ.2.2.2.2.2.2.1 _ hm l t rfl
            exact e.trans (hpu p' a)
          have hr := hPQ.2.2.1
          obtain ⟨g0, f1, z1, f2, z2, f3, z3, f4, z4, f5, z5, f6, z6, f7, z7, f8, z8, f9, z9, f10, z10, f11, z11, f12, z12, f13, z13, f14, z14⟩ := id hPQ.1
          refine r_iload dX12_mends_135 rfl ?_
          refine r_aload_n dX12_mends_137 rfl ?_
          refine r_getR dX12_mends_138 fl_X12_7 rfl (by assumption) (by assumption) ?_
          refine r_bipush dX12_mends_141 (by decide) ?_
          refine r_iald dX12_mends_143 (by assumption) rfl (by omega) ?_
          (first | rw [hcm] | rw [hr])
          refine q_icmp_ge (tgt := 194) dX12_mends_144 rfl (by omega) (by omega) (fun c144 => ?_) (fun c144 => ?_)
          · refine r_aload_n dX12_mends_194 rfl ?_
            refine r_getR dX12_mends_195 fl_X12_43 rfl (by assumption) (by assumption) ?_
            refine r_iload_n dX12_mends_198 rfl ?_
            refine r_iald dX12_mends_199 (by assumption) rfl (by omega) ?_
            (first | rw [hcm] | rw [hr])
            refine r_istore_n dX12_mends_200 rfl ?_
            refine r_goto (tgt := 120) dX12_mends_201 rfl ?_
            refine ih p _ μ' hp1 hPQ h31 ⟨u ++ [l], by rw [hu, List.append_assoc]; rfl⟩ (fun j x hj hx => ?_)
            by_cases q : j = t.length
            · rw [q] at hx
              rw [hwl] at hx
              obtain rfl : l = x := by simpa using hx
              rw [q]
              exact hpl (by omega)
            · exact hpa j x (by omega) hx
          · have hdk := hdg k hk0 (by omega)
            refine r_aload_n dX12_mends_147 rfl ?_
            refine r_iload_n dX12_mends_148 rfl ?_
            refine r_iload dX12_mends_149 rfl ?_
            refine r_cV2F1 dX12_mends_151 ml_X12_307 yl_X12_spotBy ⟨rfl, rfl⟩ (by assumption) ⟨_, rfl⟩ rfl rfl rfl rfl (m_spotBy (ρ := ρ) hPQ.1 hr hN ⟨hdc.1, by omega⟩ ⟨hk0, by omega⟩) ?_
            refine r_aload_n dX12_mends_154 rfl ?_
            refine r_aload_n dX12_mends_155 rfl ?_
            refine r_getR dX12_mends_156 fl_X12_43 rfl (by assumption) (by assumption) ?_
            refine r_iload_n dX12_mends_159 rfl ?_
            refine r_iald dX12_mends_160 (by assumption) rfl (by omega) ?_
            (first | rw [hcm] | rw [hr])
            refine r_iload dX12_mends_161 rfl ?_
            refine r_cV2F1 dX12_mends_163 ml_X12_307 yl_X12_spotBy ⟨rfl, rfl⟩ (by assumption) ⟨_, rfl⟩ rfl rfl rfl rfl (m_spotBy (ρ := ρ) hPQ.1 hr hN ⟨hpc.1, by omega⟩ ⟨hk0, by omega⟩) ?_
            refine q_icmp_eq (tgt := 188) dX12_mends_166 rfl (by have := dg_rng (ρ 11) d k; omega) (by have := dg_rng (ρ 11) p k; omega) (fun c166 => ?_) (fun c166 => ?_)
            · refine r_iinc dX12_mends_188 rfl rfl ?_
              refine r_goto (tgt := 135) dX12_mends_191 rfl ?_
              first
              | (have hkl : k = l / 10 := by
                   by_cases q : k = l / 10
                   · exact q
                   · rw [if_neg q] at hdk; exact absurd hdk c166
                 rw [if_pos hkl] at hdk
                 refine ihf (n - 1) (k + 1) _ (by omega) (by omega) (by omega) ⟨hPQ.1, hPQ.2.1.sA (by omega), (setI_ne (by omega)).trans hr, hPQ.2.2.2.of (sI_ne (by omega)) (setI_ne (by omega)) (setI_ne (by omega))⟩ ((sI_ne (by omega)).trans h31) (fun j x hj hx => ?_) (fun _ => ?_)
                 · rw [sI_nj (by omega)]; exact hpa j x hj hx
                 · rw [sI_at, hdk]; omega)
              | (refine ihf (n - 1) (k + 1) _ (by omega) (by omega) (by omega) hPQ h31 hpa (fun hlk => ?_)
                 by_cases q : k = l / 10
                 · rw [if_pos q] at hdk
                   rw [← q] at hdn
                   exact absurd (c166.symm.trans hdk) hdn
                 · exact hpl (by omega))
            · refine r_aload_n dX12_mends_169 rfl ?_
              refine r_getR dX12_mends_170 fl_X12_49 rfl (by assumption) (by assumption) ?_
              refine r_iload_n dX12_mends_173 rfl ?_
              refine r_bipush dX12_mends_174 (by decide) ?_
              refine r_iload dX12_mends_176 rfl ?_
              refine r_imul dX12_mends_178 ?_
              refine r_aload_n dX12_mends_179 rfl ?_
              refine r_iload_n dX12_mends_180 rfl ?_
              refine r_iload dX12_mends_181 rfl ?_
              refine r_cV2F1 dX12_mends_183 ml_X12_307 yl_X12_spotBy ⟨rfl, rfl⟩ (by assumption) ⟨_, rfl⟩ rfl rfl rfl rfl (m_spotBy (ρ := ρ) hPQ.1 hr hN ⟨hdc.1, by omega⟩ ⟨hk0, by omega⟩) ?_
              refine r_iadd dX12_mends_186 ?_
              refine r_iast dX12_mends_187 (by assumption) rfl (by omega) ?_
              refine r_iinc dX12_mends_188 rfl rfl ?_
              refine r_goto (tgt := 135) dX12_mends_191 rfl ?_
              first
              | (have hkl : k = l / 10 := by
                   by_cases q : k = l / 10
                   · exact q
                   · rw [if_neg q] at hdk; exact absurd hdk c166
                 rw [if_pos hkl] at hdk
                 refine ihf (n - 1) (k + 1) _ (by omega) (by omega) (by omega) ⟨hPQ.1, hPQ.2.1.sA (by omega), (setI_ne (by omega)).trans hr, hPQ.2.2.2.of (sI_ne (by omega)) (setI_ne (by omega)) (setI_ne (by omega))⟩ ((sI_ne (by omega)).trans h31) (fun j x hj hx => ?_) (fun _ => ?_)
                 · rw [sI_nj (by omega)]; exact hpa j x hj hx
                 · rw [sI_at, hdk]; omega)
              | (refine ihf (n - 1) (k + 1) _ (by omega) (by omega) (by omega) hPQ h31 hpa (fun hlk => ?_)
                 by_cases q : k = l / 10
                 · rw [if_pos q] at hdk
                   rw [← q] at hdn
                   exact absurd (c166.symm.trans hdk) hdn
                 · exact hpl (by omega))
      have hlast : (((l :: t).length : Nat) : Int) + -1 = (t.length : Int) := by rw [List.length_cons]; omega
      obtain ⟨g0, f1, z1, f2, z2, f3, z3, f4, z4, f5, z5, f6, z6, f7, z7, f8, z8, f9, z9, f10, z10, f11, z11, f12, z12, f13, z13, f14, z14⟩ := id hPQ.1
      refine r_aload_n dX12_mends_120 rfl ?_
      refine r_getR dX12_mends_121 fl_X12_43 rfl (by assumption) (by assumption) ?_
      refine r_iload_n dX12_mends_124 rfl ?_
      refine r_iald dX12_mends_125 (by assumption) rfl (by omega) ?_
      rw [hcm]
      refine q_if_lt (tgt := 204) dX12_mends_126 rfl (by omega) (fun c126 => ?_) (fun c126 => ?_)
      · exact absurd c126 (by omega)
      · refine r_iinc dX12_mends_129 rfl rfl ?_
        refine r_iconst dX12_mends_132 ?_
        refine r_istore dX12_mends_133 rfl ?_
        rw [hlast]
        exact lK _ (ρ 11).toNat 0 μ' (Nat.lt_succ_self _) (by omega) (by omega) hPQ h31 (fun j x hj hx => hpa j x (by rw [List.length_cons]; exact hj) hx) (fun h => by omega)
  refine AMet.of (by decide) rfl (by decide) rfl ?_
  refine r_aload_n dX12_mends_0 rfl ?_
  refine r_cV0N dX12_mends_1 ml_X12_280 yl_X12_keepsLaid ⟨rfl, rfl⟩ (by assumption) ⟨_, rfl⟩ rfl rfl rfl rfl (m_keepsLaid hM hr) ?_
  rintro μ1 ⟨k1, k2, k3, k4⟩
  have hM1 : IsModel sh μ1.2.2 m := by rw [k1.1]; exact hM
  have hr1 : μ1.1 (m + 1) = ρ := by rw [k1.2 _ (by omega)]; exact hr
  have hlaid := And.intro k2 (And.intro k3 k4)
  have hFG1 : FG m μ μ1 := ⟨k1.1, fun q a1 a2 a3 _ _ _ _ => k1.2 q a3, fun j _ => congrFun (k1.2 m (by omega)) j⟩
  clear g0 f1 f2 f3 f4 f5 f6 f7 f8 f9 f10 f11 f12 f13 f14
  obtain ⟨g0, f1, z1, f2, z2, f3, z3, f4, z4, f5, z5, f6, z6, f7, z7, f8, z8, f9, z9, f10, z10, f11, z11, f12, z12, f13, z13, f14, z14⟩ := id hM1
  refine r_iconst dX12_mends_4 ?_
  refine r_istore_n dX12_mends_5 rfl ?_
  refine r_aload_n dX12_mends_6 rfl ?_
  refine r_cV0N dX12_mends_7 ml_X12_318 yl_X12_starts ⟨rfl, rfl⟩ (by assumption) ⟨_, rfl⟩ rfl rfl rfl rfl (m_starts hM1 hr1 hN hw.vc.1 (mvE ρ)) ?_
  rintro μ2 ⟨s1, s2, s3⟩
  refine r_iconst dX12_mends_10 ?_
  refine r_istore_n dX12_mends_11 rfl ?_
  have l67 : ∀ (Q : List Qe) (i : Nat) (c : Int) (w : Wrd) (μ' : Mem) (o2 o3 o4 : Option AV), MvJ sh m μ1 ρ (mvE ρ) (codeR ρ) Q i μ' → (c, w) ∈ Q → MendOK ρ w → AW gX12_mends sh μ' 0 0 67 [some (vR m), some (vI c), o2, o3, o4] [] (fun r2 sh2 μ2 => sh2 = sh ∧ ∃ x, r2 = some (vI x) ∧ MEndQ m μ ρ x μ2) := by
    intro Q i c w μ' o2 o3 o4 hJ hm hmo
    obtain ⟨hQv, hQl⟩ := hw.codes (mv_E ρ) hJ.2.2.1
    have hdc := (hQv _ hm).1
    try dsimp only at hdc
    have h10 := mend_len hw hmo
    have e9 : μ'.1 (m + 9) = μ1.1 (m + 9) := hJ.1.2.1.2.1 _ (by omega) (by omega) (by omega) (by omega)
    have hFG : FG m μ μ' := hFG1.tr hJ.1.2.1.fg
    have hM1 := hJ.1.1
    obtain ⟨g0, f1, z1, f2, z2, f3, z3, f4, z4, f5, z5, f6, z6, f7, z7, f8, z8, f9, z9, f10, z10, f11, z11, f12, z12, f13, z13, f14, z14⟩ := id hM1
    refine r_aload_n dX12_mends_67 rfl ?_
    refine r_cV0F0 dX12_mends_68 ml_X12_298 yl_X12_laysBack ⟨rfl, rfl⟩ (by assumption) ⟨_, rfl⟩ rfl rfl rfl rfl (m_laysBack (ρ := ρ) hM1 rfl (by rw [e9]; exact hlaid.1) (by rw [e9]; exact hlaid.2.1) (by rw [e9]; exact hlaid.2.2) (fun j j1 _ _ => hJ.1.2.2 j (by omega))) ?_
    refine r_iload_n dX12_mends_71 rfl ?_
    refine q_if_ge (tgt := 77) dX12_mends_72 rfl (by omega) (fun c72 => ?_) (fun c72 => ?_)
    · refine r_aload_n dX12_mends_77 rfl ?_
      refine r_iconst dX12_mends_78 ?_
      refine r_putI dX12_mends_79 fl_X12_324 (by assumption) ?_
      refine r_iload_n dX12_mends_82 rfl ?_
      refine r_istore_n dX12_mends_83 rfl ?_
      refine lP Q c _ _ hQv w c 0 _ hm ⟨hM1, (hFG.row).sI (by omega), (setI_ne (by omega)).trans wRow_row, hJ.2.1.row.of (sI_nj (by omega)) (setI_ne (by omega)) (setI_ne (by omega))⟩ sI_at (Int.le_refl _) (by omega) (fun μ2 o2' h1 h2 => ?_)
      have hPQ := h1
      have h31 : μ2.1 m 31 = (w.length : Int) := by omega
      clear g0 f1 f2 f3 f4 f5 f6 f7 f8 f9 f10 f11 f12 f13 f14
      obtain ⟨g0, f1, z1, f2, z2, f3, z3, f4, z4, f5, z5, f6, z6, f7, z7, f8, z8, f9, z9, f10, z10, f11, z11, f12, z12, f13, z13, f14, z14⟩ := id hPQ.1
      refine r_aload_n dX12_mends_113 rfl ?_
      refine r_getI dX12_mends_114 fl_X12_324 rfl (by assumption) ?_
      rw [h31]
      refine r_istore_n dX12_mends_117 rfl ?_
      refine r_iload_n dX12_mends_118 rfl ?_
      refine r_istore_n dX12_mends_119 rfl ?_
      exact lW Q c w hQv hmo h10 (fun e he e' he' q => Rch.one (hJ.2.2.1.2.2.1 e he) (hJ.2.2.1.2.2.1 e' he') q) w c _ μ2 hm hPQ h31 ⟨[], rfl⟩ (fun j x hj hx => by have := (List.getElem?_eq_some_iff.1 hx).1; rw [List.length_reverse] at this; omega)
    · exact absurd c72 (by omega)
  have lL : ∀ (f : Nat) (Q : List Qe) (i : Nat) (o3 o4 : Option AV) (μ' : Mem), 4052 - i < f → i ≤ Q.length → MvJ sh m μ1 ρ (mvE ρ) (codeR ρ) Q i μ' → (∀ (j : Nat) (e : Qe), j < i → Q[j]? = some e → brokF (layR ρ e.1) ≠ 0) → AW gX12_mends sh μ' 0 0 12 [some (vR m), some (vI (-1)), some (vI (i : Int)), o3, o4] [] (fun r2 sh2 μ2 => sh2 = sh ∧ ∃ x, r2 = some (vI x) ∧ MEndQ m μ ρ x μ2) := by
    intro f
    induction f with
    | zero => intro Q i; intros; omega
    | succ f ih =>
      intro Q i o3 o4 μ' hf hil hJ hno
      obtain ⟨hQv, hQl⟩ := hw.codes (mv_E ρ) hJ.2.2.1
      have hM1 := hJ.1.1
      have h29 := hJ.2.1.1
      have e9 : μ'.1 (m + 9) = μ1.1 (m + 9) := hJ.1.2.1.2.1 _ (by omega) (by omega) (by omega) (by omega)
      have hFG : FG m μ μ' := hFG1.tr hJ.1.2.1.fg
      obtain ⟨g0, f1, z1, f2, z2, f3, z3, f4, z4, f5, z5, f6, z6, f7, z7, f8, z8, f9, z9, f10, z10, f11, z11, f12, z12, f13, z13, f14, z14⟩ := id hM1
      by_cases hlt : i < Q.length
      · obtain ⟨⟨c, w⟩, hi⟩ : ∃ e, Q[i]? = some e := ⟨_, List.getElem?_eq_getElem hlt⟩
        have hcm := List.mem_of_getElem? hi
        have hvc := hQv _ hcm
        have hvc1 := hvc.1
        try dsimp only at hvc hvc1
        have h12 : μ'.1 (m + 12) i = c := hJ.2.1.2.1 i _ hi
        refine r_iload_n dX12_mends_12 rfl ?_
        refine r_aload_n dX12_mends_13 rfl ?_
        refine r_getI dX12_mends_14 fl_X12_310 rfl (by assumption) ?_
        (try rw [h29])
        refine q_icmp_ge (tgt := 67) dX12_mends_17 rfl (by omega) (by omega) (fun c17 => ?_) (fun c17 => ?_)
        · exact absurd c17 (by omega)
        · refine r_iload_n dX12_mends_20 rfl ?_
          refine q_if_ge (tgt := 67) dX12_mends_21 rfl (by omega) (fun c21 => ?_) (fun c21 => ?_)
          · exact absurd c21 (by omega)
          · refine r_aload_n dX12_mends_24 rfl ?_
            refine r_aload_n dX12_mends_25 rfl ?_
            refine r_getR dX12_mends_26 fl_X12_46 rfl (by assumption) (by assumption) ?_
            refine r_iload_n dX12_mends_29 rfl ?_
            refine r_iald dX12_mends_30 (by assumption) rfl (by omega) ?_
            (try rw [h12])
            refine r_cV1F0 dX12_mends_31 ml_X12_289 yl_X12_lays ⟨rfl, rfl⟩ (by assumption) ⟨_, rfl⟩ rfl rfl rfl rfl (m_laysR hM1 hJ.1.2.2 hN ⟨hvc1.1, by omega⟩) ?_
            refine r_aload_n dX12_mends_34 rfl ?_
            refine r_cV0I dX12_mends_35 ml_X12_273 yl_X12_broken ⟨rfl, rfl⟩ (by assumption) ⟨_, rfl⟩ rfl rfl rfl rfl (m_broken hM1 (by rw [wRow_row]; exact hvc.wf hw)) ?_
            rintro xb μ2 ⟨hxb, hSc, -⟩
            rw [wRow_row] at hxb
            obtain ⟨hJ2, hr2⟩ := hJ.row hSc
            have hM2 := hJ2.1.1
            have h12 : μ2.1 (m + 12) i = c := hJ2.2.1.2.1 i _ hi
            have hbr := brok_rng (layR ρ c)
            clear g0 f1 f2 f3 f4 f5 f6 f7 f8 f9 f10 f11 f12 f13 f14
            obtain ⟨g0, f1, z1, f2, z2, f3, z3, f4, z4, f5, z5, f6, z6, f7, z7, f8, z8, f9, z9, f10, z10, f11, z11, f12, z12, f13, z13, f14, z14⟩ := id hM2
            refine q_if_ne (tgt := 51) dX12_mends_38 rfl (by omega) (fun c38 => ?_) (fun c38 => ?_)
            · refine r_aload_n dX12_mends_51 rfl ?_
              refine r_aload_n dX12_mends_52 rfl ?_
              refine r_getR dX12_mends_53 fl_X12_46 rfl (by assumption) (by assumption) ?_
              refine r_iload_n dX12_mends_56 rfl ?_
              refine r_iald dX12_mends_57 (by assumption) rfl (by omega) ?_
              (try rw [h12])
              refine r_cV1N dX12_mends_58 ml_X12_321 yl_X12_moves ⟨rfl, rfl⟩ (by assumption) ⟨_, rfl⟩ rfl rfl rfl rfl (m_moves hM2 hw hJ2.1.2.2 hw.vc.1 hJ2.2.1 hJ2.2.2.1 hJ2.2.2.2 hi) ?_
              rintro μ3 ⟨Q2, ⟨n1, n2, n3⟩, ⟨n4, n5, n6⟩, n7⟩
              first
              | (have hmo : MendOK ρ w := ⟨c, hJ.2.2.1.2.2.1 _ hcm, by omega, fun w' c' hr hb => bfs_least (mv_lab ρ) hJ.2.2.1 hi (gd := fun c => brokF (layR ρ c) = 0) (fun j e hj he => hno j e hj he) hr hb⟩
                 refine r_iinc dX12_mends_61 rfl rfl ?_
                 refine r_goto (tgt := 12) dX12_mends_64 rfl ?_
                 have h29b := hJ2.2.1.1
                 refine r_iload_n dX12_mends_12 rfl ?_
                 refine r_aload_n dX12_mends_13 rfl ?_
                 refine r_getI dX12_mends_14 fl_X12_310 rfl (by assumption) ?_
                 (try rw [h29b])
                 refine q_icmp_ge (tgt := 67) dX12_mends_17 rfl (by omega) (by omega) (fun c17 => ?_) (fun c17 => ?_)
                 · exact l67 Q i c w μ2 _ _ _ hJ2 hcm hmo
                 · refine r_iload_n dX12_mends_20 rfl ?_
                   refine q_if_ge (tgt := 67) dX12_mends_21 rfl (by omega) (fun c21 => ?_) (fun c21 => ?_)
                   · exact l67 Q i c w μ2 _ _ _ hJ2 hcm hmo
                   · exact absurd c21 (by omega))
              | (refine r_iinc dX12_mends_61 rfl rfl ?_
                 refine r_goto (tgt := 12) dX12_mends_64 rfl ?_
                 obtain ⟨d1, d2⟩ := BPr.done (mv_lab ρ) n5 n6
                 have hi2 := n7 i _ hi
                 have hlt2 : i < Q2.length := (List.getElem?_eq_some_iff.1 hi2).1
                 rw [show (i : Int) + 1 = ((i + 1 : Nat) : Int) by omega]
                 refine ih Q2 (i + 1) _ _ μ3 (by omega) (by omega) ⟨⟨n1, hJ2.1.2.1.tr n2, n3⟩, n4, d1, d2⟩ (fun j e hj he => ?_)
                 by_cases q : j = i
                 · subst q
                   rw [hi2] at he
                   have : (c, w) = e := by simpa using he
                   rw [← this]
                   show brokF (layR ρ c) ≠ 0
                   omega
                 · refine hno j e (by omega) ?_
                   have hjl : j < Q.length := by omega
                   have q1 := n7 j _ (List.getElem?_eq_getElem hjl)
                   rw [List.getElem?_eq_getElem hjl, ← he, q1])
            · refine r_aload_n dX12_mends_41 rfl ?_
              refine r_getR dX12_mends_42 fl_X12_46 rfl (by assumption) (by assumption) ?_
              refine r_iload_n dX12_mends_45 rfl ?_
              refine r_iald dX12_mends_46 (by assumption) rfl (by omega) ?_
              (try rw [h12])
              refine r_istore_n dX12_mends_47 rfl ?_
              refine r_goto (tgt := 61) dX12_mends_48 rfl ?_
              first
              | (have hmo : MendOK ρ w := ⟨c, hJ.2.2.1.2.2.1 _ hcm, by omega, fun w' c' hr hb => bfs_least (mv_lab ρ) hJ.2.2.1 hi (gd := fun c => brokF (layR ρ c) = 0) (fun j e hj he => hno j e hj he) hr hb⟩
                 refine r_iinc dX12_mends_61 rfl rfl ?_
                 refine r_goto (tgt := 12) dX12_mends_64 rfl ?_
                 have h29b := hJ2.2.1.1
                 refine r_iload_n dX12_mends_12 rfl ?_
                 refine r_aload_n dX12_mends_13 rfl ?_
                 refine r_getI dX12_mends_14 fl_X12_310 rfl (by assumption) ?_
                 (try rw [h29b])
                 refine q_icmp_ge (tgt := 67) dX12_mends_17 rfl (by omega) (by omega) (fun c17 => ?_) (fun c17 => ?_)
                 · exact l67 Q i c w μ2 _ _ _ hJ2 hcm hmo
                 · refine r_iload_n dX12_mends_20 rfl ?_
                   refine q_if_ge (tgt := 67) dX12_mends_21 rfl (by omega) (fun c21 => ?_) (fun c21 => ?_)
                   · exact l67 Q i c w μ2 _ _ _ hJ2 hcm hmo
                   · exact absurd c21 (by omega))
              | (refine r_iinc dX12_mends_61 rfl rfl ?_
                 refine r_goto (tgt := 12) dX12_mends_64 rfl ?_
                 obtain ⟨d1, d2⟩ := BPr.done (mv_lab ρ) n5 n6
                 have hi2 := n7 i _ hi
                 have hlt2 : i < Q2.length := (List.getElem?_eq_some_iff.1 hi2).1
                 rw [show (i : Int) + 1 = ((i + 1 : Nat) : Int) by omega]
                 refine ih Q2 (i + 1) _ _ μ3 (by omega) (by omega) ⟨⟨n1, hJ2.1.2.1.tr n2, n3⟩, n4, d1, d2⟩ (fun j e hj he => ?_)
                 by_cases q : j = i
                 · subst q
                   rw [hi2] at he
                   have : (c, w) = e := by simpa using he
                   rw [← this]
                   show brokF (layR ρ c) ≠ 0
                   omega
                 · refine hno j e (by omega) ?_
                   have hjl : j < Q.length := by omega
                   have q1 := n7 j _ (List.getElem?_eq_getElem hjl)
                   rw [List.getElem?_eq_getElem hjl, ← he, q1])
      · obtain rfl : i = Q.length := by omega
        have hnn : ∀ w, ¬ MendOK ρ w := fun w' ⟨c', r1, r2, _⟩ => bfs_none (mv_lab ρ) hJ.2.2.1 (gd := fun c => brokF (layR ρ c) = 0) (fun e he => by
          obtain ⟨j, hj⟩ := List.mem_iff_getElem?.1 he
          exact hno j e (List.getElem?_eq_some_iff.1 hj).1 hj) r1 r2
        refine r_iload_n dX12_mends_12 rfl ?_
        refine r_aload_n dX12_mends_13 rfl ?_
        refine r_getI dX12_mends_14 fl_X12_310 rfl (by assumption) ?_
        (try rw [h29])
        refine q_icmp_ge (tgt := 67) dX12_mends_17 rfl (by omega) (by omega) (fun c17 => ?_) (fun c17 => ?_)
        · refine r_aload_n dX12_mends_67 rfl ?_
          refine r_cV0F0 dX12_mends_68 ml_X12_298 yl_X12_laysBack ⟨rfl, rfl⟩ (by assumption) ⟨_, rfl⟩ rfl rfl rfl rfl (m_laysBack (ρ := ρ) hM1 rfl (by rw [e9]; exact hlaid.1) (by rw [e9]; exact hlaid.2.1) (by rw [e9]; exact hlaid.2.2) (fun j j1 _ _ => hJ.1.2.2 j (by omega))) ?_
          refine r_iload_n dX12_mends_71 rfl ?_
          refine q_if_ge (tgt := 77) dX12_mends_72 rfl (by omega) (fun c72 => ?_) (fun c72 => ?_)
          · exact absurd c72 (by decide)
          · refine r_iconst dX12_mends_75 ?_
            refine r_zreturn dX12_mends_76 (by first | exact Or.inl rfl | exact Or.inr rfl | exact b2i_01 _ | omega) rfl rfl rfl ?_
            exact ⟨rfl, _, rfl, hFG.row, wRow_row, Or.inl ⟨rfl, hnn⟩⟩
        · exact absurd c17 (by omega)
  obtain ⟨b1, b2⟩ := bin_start (mvE ρ) (codeR ρ)
  have hM2 : IsModel sh μ2.2.2 m := by rw [s1.1]; exact hM1
  exact lL _ _ 0 _ _ μ2 (Nat.lt_succ_self _) (Nat.zero_le _) ⟨⟨hM2, s1, fun j _ => by rw [s2]⟩, s3, b1, b2⟩ (fun j e hj => absurd hj (by omega))
