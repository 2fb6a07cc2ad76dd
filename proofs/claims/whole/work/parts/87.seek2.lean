/-! 87.seek2: the moves are sought and told, in the class (wip/whole/src/87_seek2.py) -/
def RN (L : List Ent) (NL : List Nat) : Int → Prop := fun g => ∃ q ∈ NL, ∃ e, L[q]? = some e ∧ e.1 = g
def SkF (μ μ2 : Mem) : Prop := Kp (fun a => ¬ (182 ≤ a ∧ a < 188 ∧ a ≠ 183)) μ μ2 ∧ (∀ j, j ≠ 6 → j ≠ 7 → j ≠ 8 → μ2.1 182 j = μ.1 182 j) ∧ (∀ (a : Nat) (j : Int), ¬ (a = 182 ∧ j = 9) → μ2.2.2 a j = μ.2.2 a j) ∧ μ2.2.1 = μ.2.1
theorem SkF.tr {a b c : Mem} (h1 : SkF a b) (h2 : SkF b c) : SkF a c := ⟨h1.1.tr h2.1, fun j a1 a2 a3 => (h2.2.1 j a1 a2 a3).trans (h1.2.1 j a1 a2 a3), fun a j h => (h2.2.2.1 a j h).trans (h1.2.2.1 a j h), h2.2.2.2.trans h1.2.2.2⟩
theorem NmQ.sk {μ μ2 : Mem} (h : NmQ μ μ2) : SkF μ μ2 := ⟨h.1.mono (fun q hq => by (try dsimp only at *); omega), fun j a1 _ _ => h.2.2 j a1, fun a j _ => by rw [h.2.1], by rw [h.2.1]⟩
theorem DmQ.sk {μ μ2 : Mem} (h : DmQ μ μ2) : SkF μ μ2 := ⟨h.1.mono (fun q hq => by (try dsimp only at *); omega), fun j _ _ _ => by rw [(h.1 182 (by (try dsimp only); omega)).1], fun a j _ => by rw [h.2], by rw [h.2]⟩
theorem SkF.s4 {μ μ2 : Mem} (h : SkF μ μ2) (i x : Int) : SkF μ (setI μ2 184 i x) := ⟨h.1.sI (by omega), fun j a1 a2 a3 => (sI_ne (by omega)).trans (h.2.1 j a1 a2 a3), h.2.2.1, h.2.2.2⟩
/-- on the way of the moves -/
def SkI (μ0 μ : Mem) (ρ : Row) (L : List Ent) (D : Int) (p : List Int) (u : Int) (NL : List Nat) : Prop := SkF μ0 μ ∧ MdC μ ρ (layR ρ u) L ∧ (NrQ μ NL ∧ NL.length ≤ 720 ∧ ∀ q ∈ NL, ∃ e, L[q]? = some e) ∧ (∀ (j : Nat) (x : Int), p[j]? = some x → μ.1 184 j = x) ∧ GI ρ (codeR ρ) D p u (RN L NL)
theorem GI.lm0 {ρ : Row} {c0 D u : Int} {p : List Int} {R : Int → Prop} (h : GI ρ c0 D p u R) (h0 : 0 ≤ ρ 11 ∧ ρ 11 ≤ 5) (h5 : ρ 5 ≤ 6) (hp : (p.length : Int) < D) {g : Int} (hg : R g) : 0 ≤ lmC ρ u g (D - p.length) ∧ lmC ρ u g (D - p.length) < 100 := by
  have a4 := h.2.2.2.1 g hg
  obtain ⟨⟨k, s, b1, b2, b3, -⟩, -⟩ := lm_spec (σ := layR ρ u) (τ := tgF ρ g) (S := ρ 5) (away := D - p.length) h.2.1.2 (by rw [lay_11]; exact gd_tg h0 a4.1) a4.2 (by omega)
  rw [lay_11] at b2
  unfold lmC
  omega
theorem GI.congr {ρ : Row} {c0 D u : Int} {p : List Int} {R R' : Int → Prop} (h : GI ρ c0 D p u R) (e : ∀ g, R g ↔ R' g) : GI ρ c0 D p u R' := by
  have : R = R' := funext fun g => propext (e g)
  rw [← this]; exact h
def SkX (μ0 μ : Mem) (ρ : Row) (x : Int) : Prop := SkF μ0 μ ∧ ((x = -1 ∧ ∀ w, ¬ MendOK ρ w) ∨ ∃ w, MendOK ρ w ∧ x = w.length ∧ (∀ (j : Nat) (l : Int), w.reverse[j]? = some l → μ.1 184 j = l) ∧ ∀ k, 0 ≤ k → k < ρ 11 → μ.1 185 k = mvsR ρ w.reverse (93 + k))
theorem SkI.done {μ0 μ : Mem} {ρ : Row} {L : List Ent} {D u : Int} {p : List Int} {NL : List Nat} (h : SkI μ0 μ ρ L D p u NL) (hw : WF ρ) (hp : (p.length : Int) = D) (hl : ∀ g, gdC ρ g → dm ρ (codeR ρ) g ≠ -1 → D ≤ dm ρ (codeR ρ) g) : SkX μ0 μ ρ D := by
  have hn := hw.1.1
  unfold WFn at hn
  obtain ⟨a, b, -, d, e⟩ := h
  have hv := hw.vc
  have hm := e.done hv.1 (by omega) hp hl
  refine ⟨a, Or.inr ⟨p.reverse, hm, by rw [List.length_reverse]; exact hp.symm, by rw [List.reverse_reverse]; exact d, fun k k0 k1 => ?_⟩⟩
  rw [b.2.2.2.1 k k0 k1, List.reverse_reverse]
  have q := mvs_pth hv.1 e.1
  rw [hv.2] at q
  rw [q]
/-- one move more -/
theorem SkI.step {μ0 μ μ1 μ2 μ3 : Mem} {ρ : Row} {L : List Ent} {D u l : Int} {p : List Int} {NL : List Nat} (h : SkI μ0 μ ρ L D p u NL) (hw : WF ρ) (hp : (p.length : Int) < D) (hl1 : ∃ q ∈ NL, l = lmR (layR ρ u) ρ L (D - p.length) q) (hl2 : ∀ q ∈ NL, l ≤ lmR (layR ρ u) ρ L (D - p.length) q) : ∃ u', (0 ≤ l / 10 ∧ l / 10 < ρ 11) ∧ (0 ≤ l % 10 ∧ l % 10 < ρ 5) ∧ onF (layR ρ u) (l % 10) < 0 ∧ layR ρ u' = rset (layR ρ u) (93 + l / 10) (l % 10) ∧ GI ρ (codeR ρ) D (p ++ [l]) u' (RN L (kpL (layR ρ u') ρ L (D - p.length - 1) NL)) := by
  have hn := hw.1.1
  unfold WFn at hn
  obtain ⟨a, b, ⟨c1, c2, c3⟩, d, e⟩ := h
  obtain ⟨u', s1, s2, s3, s4, s5, s6⟩ := e.step (l := l) (by omega) (by omega) hp (by
    obtain ⟨q, hq, hl⟩ := hl1
    obtain ⟨e, he⟩ := c3 q hq
    exact ⟨e.1, ⟨q, hq, e, he, rfl⟩, by rw [hl, lmR_at he]; rfl⟩) (fun g ⟨q, hq, e, he, hg⟩ => by
    have := hl2 q hq
    rw [lmR_at he] at this
    rw [← hg]; exact this)
  refine ⟨u', s2, s3, s4, s5, s6.congr (fun g => ?_)⟩
  constructor
  · rintro ⟨⟨q, hq, e, he, hg⟩, hd⟩
    refine ⟨q, ?_, e, he, hg⟩
    unfold kpL
    rw [List.mem_filter]
    exact ⟨hq, decide_eq_true (by rw [dmR_at he, hg]; exact hd)⟩
  · rintro ⟨q, hq, e, he, hg⟩
    unfold kpL at hq
    rw [List.mem_filter] at hq
    have := of_decide_eq_true hq.2
    rw [dmR_at he, hg] at this
    exact ⟨⟨q, hq.1, e, he, hg⟩, this⟩
theorem kpL_mem {σ ρ : Row} {L : List Ent} {d : Int} {NL : List Nat} {q : Nat} (h : q ∈ kpL σ ρ L d NL) : q ∈ NL := by
  unfold kpL at h
  exact (List.mem_filter.1 h).1
theorem wf_51 {ρ : Row} (hw : WF ρ) : 0 ≤ ρ 51 ∧ ρ 51 ≤ 99 := by
  have hn := hw.1.1
  unfold WFn at hn
  have b0 := hw.2.1 0 (by omega) (by omega)
  simp only [Int.add_zero] at b0
  by_cases c : 0 < ρ 7
  · have := b0.1 c; omega
  · have := b0.2 (by omega); omega
theorem wf_52 {ρ : Row} (hw : WF ρ) : 0 ≤ ρ 52 ∧ ρ 52 ≤ 99 := by
  have hn := hw.1.1
  unfold WFn at hn
  have b0 := hw.2.1 1 (by omega) (by omega)
  simp only [show (51 : Int) + 1 = 52 from rfl] at b0
  by_cases c : 1 < ρ 7
  · have := b0.1 c; omega
  · have := b0.2 (by omega); omega
/-- with another amount in the bins than is told of bulk nothing is good -/
theorem mend_bulk {ρ : Row} (hw : WF ρ) (h : ρ 51 + ρ 52 ≠ ρ 12) (w : Wrd) : ¬ MendOK ρ w := fun ⟨c, r1, r2, _⟩ => by
  have hn := hw.1.1
  unfold WFn at hn
  have q := (at_neg (ρ := layR ρ c) (r := 5)).1 (brok_0.1 r2 5 (by omega) (by omega)) 0 (by omega) (by unfold plcF; rw [if_neg (by decide), if_neg (by decide), if_neg (by decide), if_neg (by decide), if_pos rfl]; omega)
  unfold brkF at q
  rw [if_neg (by decide), if_neg (by decide), if_neg (by decide), if_neg (by decide), if_pos rfl, decide_eq_false_iff_not, lay_ne (j := 51) (by omega), lay_ne (j := 52) (by omega), lay_ne (j := 12) (by omega)] at q
  exact q h
set_option maxRecDepth 100000 in
set_option maxHeartbeats 4000000 in
theorem c_seek {μ : Mem} {p c : Nat} {ρ : Row} (hL : Lay μ.2.2) (hP : RelP SH μ p ρ) (hC : RelC SH μ c ρ) (hw : WF ρ) (hp : p = 4 ∨ p = 27) (hc : c = 50 ∨ c = 56) (hT : IsTab μ.2.2) (hW : RW μ (ρ 11) (TL ρ))  : IMet yX4_seek gX4_seek SH [vR 182, vR p, vR c, vR 172] μ (fun x μ2 => SkX μ μ2 ρ x) := by
  have hn := hw.1.1
  unfold WFn at hn
  obtain ⟨hIC, e0, e5, e51, e52, eC⟩ := id hC
  obtain ⟨h0, h1, h2, h3, h4, h6, s1, s2, s3, s4, s5⟩ := id hIC
  obtain ⟨hIP, p0, p1, p2, p3, p4, pb, hF, hV⟩ := id hP
  obtain ⟨i0, i5, i6, i7, i8, j1, j2, hIF0, hIV0⟩ := id hIP
  obtain ⟨hIF, kf0, kh, kf4, ks, kf9, kj⟩ := id hF
  obtain ⟨u0, -⟩ := id hIF
  have l0 := hL.r182_0
  have l2 := hL.r182_2
  have l3 := hL.r182_3
  have l4 := hL.r182_4
  have l5 := hL.r182_5
  have x172 : SH[172]? = some (7, 15) := rfl
  have x182 : SH[182]? = some (4, 10) := rfl
  have x184 : SH[184]? = some (20, 10) := rfl
  have x185 : SH[185]? = some (20, 5) := rfl
  have x186 : SH[186]? = some (20, 6) := rfl
  have x187 : SH[187]? = some (20, 720) := rfl
  have hv := hw.vc
  have hq51 := wf_51 hw
  have hq52 := wf_52 hw
  by_cases hbulk : ρ 51 + ρ 52 = ρ 12
  · skip
    have lNo : ∀ D : Int, D = -1 → ∀ μ3 : Mem, SkF μ μ3 → (∀ w, ¬ MendOK ρ w) → AW gX4_seek SH μ3 0 0 104 [some (vR 182), some (vR p), some (vR c), some (vR 172), some (vI D), some (vI 0)] [] (fun r2 sh2 μ2 => sh2 = SH ∧ ∃ x, r2 = some (vI x) ∧ SkX μ μ2 ρ x) := by
      intro D hD μ3 hsk hno
      refine r_iload dX4_seek_104 rfl ?_
      refine r_iload dX4_seek_106 rfl ?_
      refine q_icmp_ge (tgt := 181) dX4_seek_108 rfl (by omega) (by omega) (fun c108 => ?_) (fun c108 => ?_)
      · refine r_iload dX4_seek_181 rfl ?_
        refine r_ireturn dX4_seek_183 rfl rfl rfl ?_
        exact ⟨rfl, _, rfl, hsk, Or.inl ⟨hD, hno⟩⟩
      · exact absurd c108 (by omega)
    have lM : ∀ D : Int, 0 ≤ D → D ≤ 10 → (∀ g, gdC ρ g → dm ρ (codeR ρ) g ≠ -1 → D ≤ dm ρ (codeR ρ) g) → ∀ (f n : Nat) (pt : List Int) (μ' : Mem) (u : Int) (NL : List Nat), n < f → (pt.length : Int) + n = D → SkI μ μ' ρ (TL ρ) D pt u NL → AW gX4_seek SH μ' 0 0 104 [some (vR 182), some (vR p), some (vR c), some (vR 172), some (vI D), some (vI (pt.length : Int))] [] (fun r2 sh2 μ2 => sh2 = SH ∧ ∃ x, r2 = some (vI x) ∧ SkX μ μ2 ρ x) := by
      intro D hD0 hD10 hlo f
      induction f with
      | zero => intro n; intros; omega
      | succ f ih =>
        intro n pt μ' u NL hf hn2 hI
        obtain ⟨⟨m0, m2, m3, m4, m5, m9⟩, -⟩ := id hI.2.1
        by_cases hlt : (pt.length : Int) < D
        · obtain ⟨hsk, hmd, ⟨hnr, hnl, hnx⟩, hpt, hgi⟩ := id hI
          have hne : NL ≠ [] := fun e => by
            obtain ⟨g, q, hq, -⟩ := hgi.2.2.2.2.1
            rw [e] at hq
            exact absurd hq (by simp)
          have hlm : ∀ q ∈ NL, 0 ≤ lmR (layR ρ u) ρ (TL ρ) (D - pt.length) q ∧ lmR (layR ρ u) ρ (TL ρ) (D - pt.length) q < 100 := fun q hq => by
            obtain ⟨e, he⟩ := hnx q hq
            rw [lmR_at he]
            exact hgi.lm0 (by omega) (by omega) hlt ⟨q, hq, e, he, rfl⟩
          refine r_iload dX4_seek_104 rfl ?_
          refine r_iload dX4_seek_106 rfl ?_
          refine q_icmp_ge (tgt := 181) dX4_seek_108 rfl (by omega) (by omega) (fun c108 => ?_) (fun c108 => ?_)
          · exact absurd c108 (by omega)
          · refine r_aload_n dX4_seek_111 rfl ?_
            refine r_getR dX4_seek_112 fl_X4_15 rfl (by assumption) (by assumption) ?_
            refine r_iload dX4_seek_115 rfl ?_
            refine r_aload_n dX4_seek_117 rfl ?_
            refine r_iload dX4_seek_118 rfl ?_
            refine r_iload dX4_seek_120 rfl ?_
            refine r_isub dX4_seek_122 ?_
            refine r_cV1I dX4_seek_123 ml_X4_78 yl_X4_leastMove ⟨rfl, rfl⟩ (by assumption) ⟨_, rfl⟩ rfl rfl rfl rfl (c_leastMove hmd (away := D - pt.length) (by omega) hnr hnl hnx hne hlm) ?_
            rintro l μ2 ⟨rfl, hl1, hl2⟩
            have hl0 : 0 ≤ l ∧ l < 100 := by
              obtain ⟨q, hq, e⟩ := hl1
              rw [e]; exact hlm q hq
            obtain ⟨u', b1, b2, b3, b4, b5⟩ := SkI.step (μ1 := μ2) (μ2 := μ2) (μ3 := μ2) hI hw hlt hl1 hl2
            refine r_iast dX4_seek_126 (by assumption) rfl (by omega) ?_
            refine r_aload_n dX4_seek_127 rfl ?_
            refine r_getR dX4_seek_128 fl_X4_15 rfl (by assumption) (by assumption) ?_
            refine r_iload dX4_seek_131 rfl ?_
            refine r_iald dX4_seek_133 (by assumption) rfl (by omega) ?_
            rw [sI_at]
            refine r_iconst dX4_seek_134 ?_
            refine q_icmp_ne (tgt := 140) dX4_seek_135 rfl (by omega) (by omega) (fun c135 => ?_) (fun c135 => ?_)
            · refine r_aload_n dX4_seek_140 rfl ?_
              refine r_aload_n dX4_seek_141 rfl ?_
              refine r_getR dX4_seek_142 fl_X4_15 rfl (by assumption) (by assumption) ?_
              refine r_iload dX4_seek_145 rfl ?_
              refine r_iald dX4_seek_147 (by assumption) rfl (by omega) ?_
              rw [sI_at]
              refine r_bipush dX4_seek_148 (by decide) ?_
              refine r_idiv dX4_seek_150 (by omega) (by omega) ?_
              rw [Int.tdiv_eq_ediv_of_nonneg hl0.1]
              refine r_aload_n dX4_seek_151 rfl ?_
              refine r_getR dX4_seek_152 fl_X4_15 rfl (by assumption) (by assumption) ?_
              refine r_iload dX4_seek_155 rfl ?_
              refine r_iald dX4_seek_157 (by assumption) rfl (by omega) ?_
              rw [sI_at]
              refine r_bipush dX4_seek_158 (by decide) ?_
              refine r_irem dX4_seek_160 (by omega) (by omega) ?_
              rw [Int.tmod_eq_emod_of_nonneg hl0.1]
              refine r_cV2N dX4_seek_161 ml_X4_81 yl_X4_doMove ⟨rfl, rfl⟩ (by assumption) ⟨_, rfl⟩ rfl rfl rfl rfl (c_doMove (MdC.of (μ2 := setI μ2 184 pt.length l) hmd ((Kp.rf _ _).sI (by omega)) rfl (sI_ne (by omega)) (sI_ne (by omega))) b1 b2 b3) ?_
              rintro μ4 ⟨hdq, hmd4⟩
              rw [← b4] at hmd4
              have e182 := (hdq.1 182 (by (try dsimp only); omega)).1
              have hnr4 : NrQ μ4 NL := ⟨by rw [e182, sI_ne (by omega)]; exact hnr.1, fun i q h => by rw [(hdq.1 187 (by (try dsimp only); omega)).1, sI_ne (by omega)]; exact hnr.2 i q h⟩
              have h184 : ∀ (j : Nat) (x : Int), (pt ++ [l])[j]? = some x → μ4.1 184 j = x := fun j x h => by
                rw [(hdq.1 184 (by (try dsimp only); omega)).1]
                by_cases z : j < pt.length
                · rw [List.getElem?_append_left z] at h
                  rw [sI_nj (by omega)]; exact hpt j x h
                · have hjl := (List.getElem?_eq_some_iff.1 h).1
                  rw [List.length_append, List.length_singleton] at hjl
                  obtain rfl : j = pt.length := by omega
                  rw [List.getElem?_append_right (Nat.le_refl _), Nat.sub_self] at h
                  have : l = x := by simpa using h
                  rw [sI_at, this]
              have hsk4 : SkF μ μ4 := (hsk.s4 pt.length l).tr hdq.sk
              refine r_aload_n dX4_seek_164 rfl ?_
              refine r_iload dX4_seek_165 rfl ?_
              refine r_iload dX4_seek_167 rfl ?_
              refine r_isub dX4_seek_169 ?_
              refine r_iconst dX4_seek_170 ?_
              refine r_isub dX4_seek_171 ?_
              refine r_cV1N dX4_seek_172 ml_X4_85 yl_X4_keepNearRows ⟨rfl, rfl⟩ (by assumption) ⟨_, rfl⟩ rfl rfl rfl rfl (c_keepNearRows hmd4 (d := D - pt.length - 1) (by omega) hnr4 hnl hnx) ?_
              rintro μ5 ⟨hnq5, hnr5⟩
              refine r_iinc dX4_seek_175 rfl rfl ?_
              refine r_goto (tgt := 104) dX4_seek_178 rfl ?_
              have h := ih (n - 1) (pt ++ [l]) μ5 u' (kpL (layR ρ u') ρ (TL ρ) (D - pt.length - 1) NL) (by omega) (by rw [List.length_append, List.length_singleton]; omega) ⟨hsk4.tr hnq5.sk, hmd4.nm hnq5, ⟨hnr5, Nat.le_trans (List.length_filter_le _ _) hnl, fun q hq => hnx q (kpL_mem hq)⟩, fun j x h => by rw [(hnq5.1 184 (by (try dsimp only); omega)).1]; exact h184 j x h, b5⟩
              rw [List.length_append, List.length_singleton, show ((pt.length + 1 : Nat) : Int) = (pt.length : Int) + 1 by omega] at h
              exact h
            · exact absurd c135 (by omega)
        · have hpD : (pt.length : Int) = D := by omega
          refine r_iload dX4_seek_104 rfl ?_
          refine r_iload dX4_seek_106 rfl ?_
          refine q_icmp_ge (tgt := 181) dX4_seek_108 rfl (by omega) (by omega) (fun c108 => ?_) (fun c108 => ?_)
          · refine r_iload dX4_seek_181 rfl ?_
            refine r_ireturn dX4_seek_183 rfl rfl rfl ?_
            exact ⟨rfl, _, rfl, hI.done hw hpD hlo⟩
          · exact absurd c108 (by omega)
    have l66 : ∀ (o5 : Option AV) (μ' : Mem), Kp (fun a => a ≠ 182 ∧ a ≠ 186) μ μ' → μ'.2 = (setR μ 182 9 (some 172)).2 → (∀ j, μ'.1 182 j = (setI (setI (setR μ 182 9 (some 172)) 182 7 (ρ 11)) 182 8 (ρ 5)).1 182 j) → (∀ s, 0 ≤ s → s < 6 → μ'.1 186 s = onF ρ s) → ∀ k : Int, AW gX4_seek SH μ' 0 0 66 [some (vR 182), some (vR p), some (vR c), some (vR 172), some (vI k), o5] [] (fun r2 sh2 μ2 => sh2 = SH ∧ ∃ x, r2 = some (vI x) ∧ SkX μ μ2 ρ x) := by
      intro o5 μ' q1 q2 q3 q4 k
      have hR : ∀ (a : Nat) (j : Int), ¬ (a = 182 ∧ j = 9) → μ'.2.2 a j = μ.2.2 a j := fun a j h => by rw [q2]; exact if_neg h
      have hC' : RelC SH μ' c ρ := hC.mono (q1.mono (fun q hq => by (try dsimp only at *); omega))
      have eC' := hC'.2.2.2.2.2
      have e51' := hC'.2.2.2.1
      have g4 : μ'.2.2 c 4 = some (c + 4) := hC'.1.2.2.2.2.1
      have g6 : μ'.2.2 c 6 = some (c + 5) := hC'.1.2.2.2.2.2.1
      have t3 : μ'.2.2 182 3 = some 185 := by rw [hR _ _ (by omega)]; exact l3
      have t2 : μ'.2.2 182 2 = some 184 := by rw [hR _ _ (by omega)]; exact l2
      have hmd : MdC (cpI μ' 185 (c + 4) 5) ρ (layR ρ (codeR ρ)) (TL ρ) := by
        rw [hv.2]
        refine ⟨⟨?_, t2, t3, ?_, ?_, ?_⟩, ⟨?_, ?_, TL_tg hw⟩, ⟨?_, ?_⟩, fun j j0 j1 => ?_, fun s s0 s1 => ?_, hv.2 ▸ hv.1.2, rfl⟩
        · show μ'.2.2 182 0 = _; rw [hR _ _ (by omega)]; exact l0
        · show μ'.2.2 182 4 = _; rw [hR _ _ (by omega)]; exact l4
        · show μ'.2.2 182 5 = _; rw [hR _ _ (by omega)]; exact l5
        · show μ'.2.2 182 9 = some 172
          rw [q2]
          simp [setR]
        · unfold IsTab at hT ⊢
          show μ'.2.2 172 2 = some 173 ∧ μ'.2.2 172 3 = some 174 ∧ μ'.2.2 172 4 = some 175 ∧ μ'.2.2 172 9 = some 176 ∧ μ'.2.2 172 10 = some 177 ∧ μ'.2.2 172 11 = some 178 ∧ μ'.2.2 172 12 = some 179 ∧ μ'.2.2 172 13 = some 180 ∧ μ'.2.2 172 14 = some 181
          rw [hR _ _ (by omega), hR _ _ (by omega), hR _ _ (by omega), hR _ _ (by omega), hR _ _ (by omega), hR _ _ (by omega), hR _ _ (by omega), hR _ _ (by omega), hR _ _ (by omega)]
          exact hT
        · exact hW.ext ((q1.mono (fun q hq => by (try dsimp only at *); omega)).cI (by omega))
        · rw [cpI_ne (by omega), q3, sI_nj (by omega), sI_at]
        · rw [cpI_ne (by omega), q3, sI_at]
        · rw [cpI_at ⟨j0, by omega⟩]; exact (eC' j j0 j1).2.2.1
        · rw [cpI_ne (by omega)]; exact q4 s s0 s1
      have hsk : SkF μ (cpI μ' 185 (c + 4) 5) := ⟨(q1.mono (fun q hq => by (try dsimp only at *); omega)).cI (by omega), fun j a1 a2 a3 => by rw [cpI_ne (by omega), q3, sI_nj a3, sI_nj a2]; rfl, fun a j h => hR a j h, by show μ'.2.1 = _; rw [q2]; rfl⟩
      refine r_aload_n dX4_seek_66 rfl ?_
      refine r_getR dX4_seek_67 fl_X4_63 rfl (by assumption) (by assumption) ?_
      refine r_iconst dX4_seek_70 ?_
      refine r_aload_n dX4_seek_71 rfl ?_
      refine r_getR dX4_seek_72 fl_X4_18 rfl (by assumption) (by assumption) ?_
      refine r_iconst dX4_seek_75 ?_
      refine r_iconst dX4_seek_76 ?_
      refine r_copyI dX4_seek_77 ml_X4_66 (by assumption) (by assumption) rfl rfl rfl rfl rfl rfl ?_
      refine r_aload_n dX4_seek_80 rfl ?_
      refine r_aload_n dX4_seek_81 rfl ?_
      refine r_getR dX4_seek_82 fl_X4_72 rfl (by assumption) (by assumption) ?_
      refine r_iconst dX4_seek_85 ?_
      refine r_iald dX4_seek_86 (by assumption) rfl (by omega) ?_
      rw [cpI_ne (by omega), e51']
      refine r_cV1I dX4_seek_87 ml_X4_75 yl_X4_findNearRows ⟨rfl, rfl⟩ (by assumption) ⟨_, rfl⟩ rfl rfl rfl rfl (c_findNearRows hmd (a := ρ 51) (by have := wf_51 hw; omega) (fun e he => (TL_mem hw he).2.1)) ?_
      rintro D μ3 ⟨NL, hq3, hnr3, hfi⟩
      have hDr : -1 ≤ D ∧ D ≤ 10 := by rcases hfi.2 with ⟨z, -⟩ | ⟨z, -⟩ <;> omega
      have hdd : ∀ (q : Nat) (e : Ent), (TL ρ)[q]? = some e → dmR (layR ρ (codeR ρ)) ρ (TL ρ) q = dm ρ (codeR ρ) e.1 := fun q e he => dmR_at he
      have hlo : 0 ≤ D → ∀ g, gdC ρ g → dm ρ (codeR ρ) g ≠ -1 → D ≤ dm ρ (codeR ρ) g := fun hD0 g hg hne => by
        obtain ⟨e, he, h1, h2⟩ := (gd_rows hw hbulk g).1 hg
        obtain ⟨q, hq⟩ := List.mem_iff_getElem?.1 he
        rcases hfi.2 with ⟨z, -⟩ | ⟨-, -, -, z⟩
        · omega
        · have := z q e (List.getElem?_eq_some_iff.1 hq).1 hq h2 (by rw [hdd q e hq, h1]; exact hne)
          rw [hdd q e hq, h1] at this
          exact this
      have hno : D = -1 → ∀ w, ¬ MendOK ρ w := fun hD0 w ⟨cc, r1, r2, _⟩ => by
        refine mend_none hv.1 (by omega) (fun g hg => ?_) r1 r2
        obtain ⟨e, he, h1, h2⟩ := (gd_rows hw hbulk g).1 hg
        obtain ⟨q, hq⟩ := List.mem_iff_getElem?.1 he
        rcases hfi.2 with ⟨-, -, z⟩ | ⟨z, -⟩
        · have := z q e (List.getElem?_eq_some_iff.1 hq).1 hq h2
          rw [hdd q e hq, h1] at this
          exact this
        · omega
      refine r_istore dX4_seek_90 rfl ?_
      refine r_iload dX4_seek_92 rfl ?_
      refine r_bipush dX4_seek_94 (by decide) ?_
      refine q_icmp_le (tgt := 101) dX4_seek_96 rfl (by omega) (by omega) (fun c96 => ?_) (fun c96 => ?_)
      · refine r_iconst dX4_seek_101 ?_
        refine r_istore dX4_seek_102 rfl ?_
        have hsk3 : SkF μ μ3 := hsk.tr hq3.sk
        by_cases hD0 : D = -1
        · exact lNo D hD0 μ3 hsk3 (hno hD0)
        · have hD1 : 0 ≤ D := by omega
          rcases hfi.2 with ⟨z, -⟩ | ⟨z1, z2, z3, z4⟩
          · omega
          refine lM D hD1 hDr.2 (hlo hD1) _ D.toNat [] μ3 (codeR ρ) NL (Nat.lt_succ_self _) (by simp; omega) ⟨hsk3, hmd.nm hq3, ⟨hnr3, by have := hfi.1; have := (TL_exp hw).2; omega, fun q hq => ?_⟩, fun j x h => absurd h (by simp), GI.start hv.1 (by omega) hD1 (fun g => ?_) (hlo hD1) ?_⟩
          · obtain ⟨-, e, he, -⟩ := (z2 q).1 hq
            exact ⟨e, he⟩
          · constructor
            · rintro ⟨q, hq, e, he, hg⟩
              obtain ⟨-, e', he', h1, h2⟩ := (z2 q).1 hq
              rw [he] at he'
              obtain rfl : e = e' := by simpa using he'
              rw [hdd q e he, hg] at h2
              exact ⟨(gd_rows hw hbulk g).2 ⟨e, List.mem_of_getElem? he, hg, h1⟩, h2⟩
            · rintro ⟨hg, hd⟩
              obtain ⟨e, he, h1, h2⟩ := (gd_rows hw hbulk g).1 hg
              obtain ⟨q, hq⟩ := List.mem_iff_getElem?.1 he
              exact ⟨q, (z2 q).2 ⟨(List.getElem?_eq_some_iff.1 hq).1, e, hq, h2, by rw [hdd q e hq, h1]; exact hd⟩, e, hq, h1⟩
          · obtain ⟨q, hq⟩ := List.exists_mem_of_ne_nil _ z3
            obtain ⟨-, e, he, -⟩ := (z2 q).1 hq
            exact ⟨e.1, q, hq, e, he, rfl⟩
      · exact absurd c96 (by omega)
    have lF : ∀ (f n : Nat) (k : Int) (o5 : Option AV) (μ' : Mem), n < f → 0 ≤ k → k + n = 6 → Kp (fun a => a ≠ 182 ∧ a ≠ 186) μ μ' → μ'.2 = (setR μ 182 9 (some 172)).2 → (∀ j, μ'.1 182 j = (setI (setI (setR μ 182 9 (some 172)) 182 7 (ρ 11)) 182 8 (ρ 5)).1 182 j) → (∀ s, 0 ≤ s → s < k → μ'.1 186 s = onF ρ s) → AW gX4_seek SH μ' 0 0 40 [some (vR 182), some (vR p), some (vR c), some (vR 172), some (vI k), o5] [] (fun r2 sh2 μ2 => sh2 = SH ∧ ∃ x, r2 = some (vI x) ∧ SkX μ μ2 ρ x) := by
      intro f
      induction f with
      | zero => intro n; intros; omega
      | succ f ih =>
        intro n k o5 μ' hf hk hn2 q1 q2 q3 q4
        have g4 : μ'.2.2 182 4 = some 186 := by rw [q2]; exact l4
        refine r_iload dX4_seek_40 rfl ?_
        refine r_bipush dX4_seek_42 (by decide) ?_
        refine q_icmp_ge (tgt := 66) dX4_seek_44 rfl (by omega) (by omega) (fun c44 => ?_) (fun c44 => ?_)
        · obtain rfl : k = 6 := by omega
          exact l66 o5 μ' q1 q2 q3 q4 6
        · refine r_aload_n dX4_seek_47 rfl ?_
          refine r_getR dX4_seek_48 fl_X4_21 rfl (by assumption) (by assumption) ?_
          refine r_iload dX4_seek_51 rfl ?_
          refine r_aload_n dX4_seek_53 rfl ?_
          refine r_iload dX4_seek_54 rfl ?_
          refine r_cV1F1 dX4_seek_56 ml_X4_59 yl_X0_lyingOn ⟨rfl, rfl⟩ (by assumption) ⟨_, rfl⟩ rfl rfl rfl rfl (c_lyingOnR (hC.mono (q1.mono (fun q hq => by (try dsimp only at *); omega))) hw.wl ⟨hk, by omega⟩) ?_
          refine r_iast dX4_seek_59 (by assumption) rfl (by omega) ?_
          refine r_iinc dX4_seek_60 rfl rfl ?_
          refine r_goto (tgt := 40) dX4_seek_63 rfl ?_
          refine ih (n - 1) (k + 1) _ _ (by omega) (by omega) (by omega) (q1.sI (by omega)) q2 (fun j => (sI_ne (by omega)).trans (q3 j)) (fun s s0 s1 => ?_)
          by_cases z : s = k
          · rw [z, sI_at]
          · rw [sI_nj z]; exact q4 s s0 (by omega)
    refine AMet.of (by decide) rfl (by decide) rfl ?_
    refine r_aload_n dX4_seek_0 rfl ?_
    refine r_cV0F1 dX4_seek_1 ml_X4_29 yl_X0_inBins ⟨rfl, rfl⟩ (by assumption) ⟨_, rfl⟩ rfl rfl rfl rfl (c_inBinsR hC) ?_
    refine r_aload_n dX4_seek_4 rfl ?_
    refine r_getI dX4_seek_5 fl_X4_35 rfl (by assumption) ?_
    rw [e5]
    refine q_icmp_eq (tgt := 13) dX4_seek_8 rfl (by omega) (by omega) (fun c8 => ?_) (fun c8 => ?_)
    · refine r_aload_n dX4_seek_13 rfl ?_
      refine r_aload_n dX4_seek_14 rfl ?_
      refine r_putR dX4_seek_15 fl_X4_39 rfl (by assumption) ?_
      refine r_aload_n dX4_seek_18 rfl ?_
      refine r_aload_n dX4_seek_19 rfl ?_
      refine r_getI dX4_seek_20 fl_X4_43 rfl (by assumption) ?_
      (try rw [show (setR μ 182 9 (some 172)).1 c 0 = ρ 11 from e0])
      refine r_putI dX4_seek_23 fl_X4_46 (by assumption) ?_
      refine r_aload_n dX4_seek_26 rfl ?_
      refine r_aload_n dX4_seek_27 rfl ?_
      have i7s : (setI (setR μ 182 9 (some 172)) 182 7 (ρ 11)).2.2 p 7 = some (p + 3) := (if_neg (by omega)).trans i7
      refine r_getR dX4_seek_28 fl_X4_47 rfl (by assumption) (by assumption) ?_
      refine r_getI dX4_seek_31 fl_X4_53 rfl (by assumption) ?_
      rw [show (setI (setR μ 182 9 (some 172)) 182 7 (ρ 11)).1 (p + 3) 4 = ρ 5 from (sI_ne (by omega)).trans kf4]
      refine r_putI dX4_seek_34 fl_X4_58 (by assumption) ?_
      refine r_iconst dX4_seek_37 ?_
      refine r_istore dX4_seek_38 rfl ?_
      exact lF _ 6 0 _ _ (Nat.lt_succ_self _) (by omega) (by omega) ((((Kp.rf _ μ).sR (by omega)).sI (by omega)).sI (by omega)) rfl (fun j => rfl) (fun s s0 s1 => by omega)
    · exact absurd hbulk c8
  · refine AMet.of (by decide) rfl (by decide) rfl ?_
    refine r_aload_n dX4_seek_0 rfl ?_
    refine r_cV0F1 dX4_seek_1 ml_X4_29 yl_X0_inBins ⟨rfl, rfl⟩ (by assumption) ⟨_, rfl⟩ rfl rfl rfl rfl (c_inBinsR hC) ?_
    refine r_aload_n dX4_seek_4 rfl ?_
    refine r_getI dX4_seek_5 fl_X4_35 rfl (by assumption) ?_
    rw [e5]
    refine q_icmp_eq (tgt := 13) dX4_seek_8 rfl (by omega) (by omega) (fun c8 => ?_) (fun c8 => ?_)
    · exact absurd c8 hbulk
    · refine r_iconst dX4_seek_11 ?_
      refine r_ireturn dX4_seek_12 rfl rfl rfl ?_
      exact ⟨rfl, _, rfl, ⟨Kp.rf _ _, fun _ _ _ _ => rfl, fun _ _ _ => rfl, rfl⟩, Or.inl ⟨rfl, mend_bulk hw hbulk⟩⟩
