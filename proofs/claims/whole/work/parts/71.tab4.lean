/-! 71.tab4: the class's table is made (wip/whole/src/71_tab4.py) -/
theorem ls_set {ρ : Row} {k s : Int} (hk : 0 ≤ k ∧ k < ρ 11) (h5 : ρ 11 ≤ 5) (x : Int) : ls (rset ρ (93 + k) s) (k + 1) x = ls ρ k x + if s = x then ρ (83 + k) else 0 := by
  unfold ls
  rw [sumF_s hk.1, rset_eq, rset_ne (by omega)]
  congr 1
  refine sumF_congr _ _ fun j j0 j1 => ?_
  try dsimp only
  rw [rset_ne (by omega), rset_ne (by omega)]
theorem hl_set {ρ : Row} {k s : Int} (hk : 0 ≤ k ∧ k < ρ 11) (h5 : ρ 11 ≤ 5 ∧ ρ 5 ≤ 6) (hl0 : LyS ρ k) (hs : 0 ≤ s ∧ s < ρ 5) (x : Int) : hl (rset ρ (93 + k) s) (k + 1) x = hl ρ k x + if ρ (19 + s) = x then ρ (83 + k) else 0 := by
  unfold hl
  rw [sumF_s hk.1, rset_eq, rset_ne (j := 19 + s) (by omega), rset_ne (by omega)]
  congr 1
  refine sumF_congr _ _ fun j j0 j1 => ?_
  try dsimp only
  have := hl0 j j0 (by omega)
  rw [rset_ne (j := 93 + j) (by omega), rset_ne (by omega), rset_ne (by omega)]
theorem ms_set {ρ : Row} {k s : Int} (hk : 0 ≤ k ∧ k < ρ 11) (h5 : ρ 11 ≤ 5 ∧ ρ 5 ≤ 6) (hl0 : LyS ρ k) (hs : 0 ≤ s ∧ s < ρ 5) (x : Int) : msF (rset ρ (93 + k) s) (k + 1) x = msF ρ k x + if ρ (88 + k) = x then ρ (83 + k) * ρ (25 + s) else 0 := by
  unfold msF
  rw [sumF_s hk.1, rset_eq, rset_ne (j := 25 + s) (by omega), rset_ne (by omega), rset_ne (by omega)]
  congr 1
  refine sumF_congr _ _ fun j j0 j1 => ?_
  try dsimp only
  have := hl0 j j0 (by omega)
  rw [rset_ne (j := 93 + j) (by omega), rset_ne (j := 88 + j) (by omega), rset_ne (by omega), rset_ne (by omega)]
theorem AR.lay {μ : Mem} {ρ : Row} {k s : Int} (h : AR μ ρ k) (hk : 0 ≤ k ∧ k < ρ 11) (h5 : ρ 11 ≤ 5 ∧ ρ 5 ≤ 6) (hl0 : LyS ρ k) (hs : 0 ≤ s ∧ s < ρ 5) : AR (lyM μ k s (ρ (19 + s)) (ρ (88 + k)) (1 * ρ (83 + k)) (ρ (25 + s))) (rset ρ (93 + k) s) (k + 1) := by
  obtain ⟨a, b, c, d⟩ := h
  unfold lyM
  refine ⟨fun j j0 j1 => ?_, fun x x0 x1 => ?_, fun x x0 x1 => ?_, fun x x0 x1 => ?_⟩
  · rw [sI_ne (by omega), sI_ne (by omega), sI_ne (by omega)]
    by_cases e : j = k
    · rw [e, sI_at, rset_eq]
    · rw [sI_nj e, rset_ne (by omega)]
      exact a j j0 (by omega)
  · rw [sI_ne (by omega), sI_ne (by omega), ls_set hk h5.1]
    by_cases e : x = s
    · rw [e, sI_at, if_pos rfl, b s (by omega) (by omega)]; omega
    · rw [sI_nj e, sI_ne (by omega), if_neg (fun h => e h.symm), b x x0 x1]; omega
  · rw [sI_ne (by omega), hl_set hk h5 hl0 hs]
    by_cases e : x = ρ (19 + s)
    · rw [← e, sI_at, if_pos rfl, c x x0 x1]; omega
    · rw [sI_nj e, sI_ne (by omega), sI_ne (by omega), if_neg (fun h => e h.symm), c x x0 x1]; omega
  · rw [ms_set hk h5 hl0 hs]
    by_cases e : x = ρ (88 + k)
    · rw [← e, sI_at, if_pos rfl, d x x0 x1, Int.one_mul]
    · rw [sI_nj e, sI_ne (by omega), sI_ne (by omega), sI_ne (by omega), if_neg (fun h => e h.symm), d x x0 x1]; omega
theorem AR.unlay {μ : Mem} {ρ : Row} {k s : Int} (h : AR μ (rset ρ (93 + k) s) (k + 1)) (hk : 0 ≤ k ∧ k < ρ 11) (h5 : ρ 11 ≤ 5 ∧ ρ 5 ≤ 6) (hl0 : LyS ρ k) (hs : 0 ≤ s ∧ s < ρ 5) : AR (lyM μ k s (ρ (19 + s)) (ρ (88 + k)) (-1 * ρ (83 + k)) (ρ (25 + s))) ρ k := by
  obtain ⟨a, b, c, d⟩ := h
  unfold lyM
  refine ⟨fun j j0 j1 => ?_, fun x x0 x1 => ?_, fun x x0 x1 => ?_, fun x x0 x1 => ?_⟩
  · rw [sI_ne (by omega), sI_ne (by omega), sI_ne (by omega)]
    have q := a j j0 (by omega)
    rw [rset_ne (by omega)] at q
    rw [sI_nj (by omega)]
    exact q
  · rw [sI_ne (by omega), sI_ne (by omega)]
    have q := b x x0 x1
    rw [ls_set hk h5.1] at q
    by_cases e : x = s
    · rw [e] at q
      rw [if_pos rfl] at q
      rw [e, sI_at, q]; omega
    · rw [if_neg (fun h => e h.symm)] at q
      rw [sI_nj e, sI_ne (by omega), q]; omega
  · rw [sI_ne (by omega)]
    have q := c x x0 x1
    rw [hl_set hk h5 hl0 hs] at q
    by_cases e : x = ρ (19 + s)
    · rw [if_pos e.symm] at q
      rw [← e, sI_at, q]; omega
    · rw [if_neg (fun h => e h.symm)] at q
      rw [sI_nj e, sI_ne (by omega), sI_ne (by omega), q]; omega
  · have q := d x x0 x1
    rw [ms_set hk h5 hl0 hs] at q
    by_cases e : x = ρ (88 + k)
    · rw [if_pos e.symm] at q
      rw [← e, sI_at, q, Int.neg_one_mul, Int.neg_mul]; omega
    · rw [if_neg (fun h => e h.symm)] at q
      rw [sI_nj e, sI_ne (by omega), sI_ne (by omega), sI_ne (by omega), q]; omega
theorem mq_set {ρ : Row} {k s : Int} (hP : WFP ρ) (hk : 0 ≤ k) (n : Nat) (hn : (n : Int) ≤ ρ 9 + 1) (h5 : ρ 11 ≤ 5) (q : Int) : mLe (rset ρ (93 + k) s) n q = mLe ρ n q ∧ mMo (rset ρ (93 + k) s) n q = mMo ρ n q := by
  have hn0 := hP.1
  unfold WFn at hn0
  have hpl : PlEq ρ (rset ρ (93 + k) s) := (PlEq.rf ρ).set (by omega)
  have e11 : rset ρ (93 + k) s 11 = ρ 11 := rset_ne (by omega)
  have ewb : ∀ p, wbF (rset ρ (93 + k) s) p = wbF ρ p := fun p => by
    unfold wbF
    rw [e11]
    refine sumF_congr _ _ fun j j0 j1 => ?_
    try dsimp only
    rw [rset_ne (by omega), rset_ne (by omega)]
  have ea1 : a1F (rset ρ (93 + k) s) = a1F ρ := by
    unfold a1F
    rw [rset_ne (by omega), rset_ne (by omega)]
  have eS : ∀ i, i ≤ ρ 9 → stopsF (rset ρ (93 + k) s) i = stopsF ρ i := fun i hi => hpl.stops (by omega)
  have elo : ∀ i, i ≤ ρ 9 → loF (rset ρ (93 + k) s) i = loF ρ i := fun i hi => by
    unfold loF wiF miF
    rw [eS i hi, ewb, ea1, hpl.bW hP.1 (by omega), hpl.bM hP.1 hP.2.2.2.2.2 hi, rset_ne (by omega), rset_ne (by omega)]
  have ehi : ∀ i, i ≤ ρ 9 → hiF (rset ρ (93 + k) s) i = hiF ρ i := fun i hi => by
    unfold hiF wiF miF
    rw [eS i hi, ewb, ea1, hpl.bW hP.1 (by omega), hpl.bM hP.1 hP.2.2.2.2.2 hi, rset_ne (by omega), rset_ne (by omega)]
  constructor
  · unfold mLe
    exact fld_congr _ _ _ fun i a i0 i1 => by rw [eS i (by omega), elo i (by omega)]
  · unfold mMo
    exact fld_congr _ _ _ fun i a i0 i1 => by rw [eS i (by omega), ehi i (by omega)]
theorem TQ.set {μ : Mem} {ρ : Row} {L : List Ent} {k s : Int} (h : TQ μ ρ L) (hP : WFP ρ) (hk : 0 ≤ k) : TQ μ (rset ρ (93 + k) s) L := by
  have hn0 := hP.1
  unfold WFn at hn0
  obtain ⟨a, b, c, d, e⟩ := h
  refine ⟨a, ?_, ?_, fun q q0 q1 => ?_, ?_⟩
  · unfold aLF lim1 at *
    rw [rset_ne (by omega), rset_ne (by omega), rset_ne (by omega)]; exact b
  · unfold aMF lim0 at *
    rw [rset_ne (by omega), rset_ne (by omega), rset_ne (by omega)]; exact c
  · have en : nSt (rset ρ (93 + k) s) = nSt ρ := by unfold nSt; rw [rset_ne (by omega)]
    have m := mq_set (s := s) hP hk (nSt ρ) (by unfold nSt; omega) (by omega) q
    rw [en, m.1, m.2]
    exact d q q0 q1
  · rw [rset_ne (by omega)]; exact e
theorem TQ.unset {μ : Mem} {ρ : Row} {L : List Ent} {k s : Int} (h : TQ μ (rset ρ (93 + k) s) L) (hP : WFP ρ) (hk : 0 ≤ k) : TQ μ ρ L := by
  have h2 := h.set (k := k) (s := ρ (93 + k)) (wfP_set hP hk) hk
  have e : rset (rset ρ (93 + k) s) (93 + k) (ρ (93 + k)) = ρ := by
    funext j
    by_cases c : j = 93 + k
    · rw [c, rset_eq]
    · rw [rset_ne c, rset_ne c]
  rw [e] at h2
  exact h2
theorem TQ.keep {μ μ2 : Mem} {ρ : Row} {L : List Ent} (h : TQ μ ρ L) (hk : Kp (fun a => 172 ≤ a ∧ a < 178) μ μ2) : TQ μ2 ρ L := by
  obtain ⟨a, b, c, d, e⟩ := h
  have q := fun a (h : 172 ≤ a ∧ a < 178) => (hk a h).1
  refine ⟨by rw [q 172 (by omega)]; exact a, by rw [q 172 (by omega)]; exact b, by rw [q 172 (by omega)]; exact c, fun x x0 x1 => ?_, e.keep (by rw [q 172 (by omega)]) (fun i _ _ => by rw [q 173 (by omega), q 174 (by omega), q 175 (by omega)]; exact ⟨rfl, rfl, rfl⟩)⟩
  rw [q 176 (by omega), q 177 (by omega)]
  exact d x x0 x1
theorem ly_kp {μ : Mem} {k s h q w m : Int} {S : Nat → Prop} (hS : ¬ S 178 ∧ ¬ S 179 ∧ ¬ S 180 ∧ ¬ S 181) : Kp S μ (lyM μ k s h q w m) := ((((Kp.rf _ μ).sI hS.1).sI hS.2.1).sI hS.2.2.1).sI hS.2.2.2
def FQ (μ μ2 : Mem) (ρ : Row) (k : Int) (L : List Ent) : Prop := Kp (fun a => ¬ (172 ≤ a ∧ a < 182)) μ μ2 ∧ μ2.2 = μ.2 ∧ AR μ2 ρ k ∧ TQ μ2 ρ L
set_option maxRecDepth 100000 in
set_option maxHeartbeats 4000000 in
theorem c_layFrom {p c : Nat} : ∀ (n : Nat) (k : Int) (ρ : Row) (μ : Mem) (L : List Ent), BW μ p c ρ → AR μ ρ k → LyS ρ k → TQ μ ρ L → 0 ≤ k → k + n = ρ 11 → (L.length + (layE n k ρ).length ≤ 720 ∧ (expE (L ++ layE n k ρ)).length ≤ 72000) → VMet yX8_layFrom (gX8_layFrom (n + 5)) SH [vR 172, vI k] μ (fun μ2 => FQ μ μ2 ρ k (L ++ layE n k ρ))
  | 0, k, ρ, μ, L, hB, hA, hl, hQ, hk, hkn, hlen => by
    obtain rfl : k = ρ 11 := by omega
    obtain ⟨⟨hT, t5, t6⟩, ⟨hP, ⟨hIC, e0, e5, eC⟩⟩, ⟨hWP, hPW, hAB, hLB⟩, hpp, hcc⟩ := id hB
    obtain ⟨t2, t3, t4, t9, t10, t11, t12, t13, t14⟩ := id hT
    obtain ⟨h0, h1, h2, h3, h4, h6, s1, s2, s3, s4, s5⟩ := id hIC
    obtain ⟨hIP, p0, p1, p2, p3, p4, pb, hF, hV⟩ := id hP
    obtain ⟨i0, i5, i6, i7, i8, j1, j2, hIF0, hIV0⟩ := id hIP
    obtain ⟨hIF, kf0, kh, kf4, ks, kf9, kj⟩ := id hF
    obtain ⟨u0, u1, u2, u3, u5, u6, u7, u8, u10, u11, y1, y2, y3, y4, y5, y6, y7, y8, y9⟩ := id hIF
    obtain ⟨hIV, v0, vt, v5, v8, vi⟩ := id hV
    obtain ⟨w0, w1, w2, w3, w4, w6, w7, w9, w10, w11, b1, b2, b3, b4, b5, b6, b7, b8, b9⟩ := id hIV
    have hn := hWP.1
    unfold WFn at hn
    have x172 : SH[172]? = some (7, 15) := rfl
    have x173 : SH[173]? = some (20, 720) := rfl
    have x174 : SH[174]? = some (20, 720) := rfl
    have x175 : SH[175]? = some (20, 720) := rfl
    have x176 : SH[176]? = some (20, 5) := rfl
    have x177 : SH[177]? = some (20, 5) := rfl
    have x178 : SH[178]? = some (20, 5) := rfl
    have x179 : SH[179]? = some (20, 6) := rfl
    have x180 : SH[180]? = some (20, 3) := rfl
    have x181 : SH[181]? = some (20, 10) := rfl
    refine AMet.of (by decide) rfl (fun h => Bool.noConfusion (show false = true from h)) rfl ?_
    refine r_iload_n dX8_layFrom_0 rfl ?_
    refine r_aload_n dX8_layFrom_1 rfl ?_
    refine r_getR dX8_layFrom_2 fl_X8_51 rfl (by assumption) (by assumption) ?_
    refine r_getI dX8_layFrom_5 fl_X8_80 rfl (by assumption) ?_
    rw [e0]
    refine q_icmp_ge (tgt := 16) dX8_layFrom_8 rfl (by omega) (by omega) (fun c8 => ?_) (fun c8 => ?_)
    · 
      refine r_aload_n dX8_layFrom_16 rfl ?_
      refine r_cV0N dX8_layFrom_17 ml_X8_141 yl_X8_keepRow ⟨rfl, rfl⟩ (by assumption) ⟨_, rfl⟩ (Nat.ble_eq_true_of_le (show 2 + 1 ≤ 0 + 5 by omega)) rfl rfl rfl (c_keepRow hB hA hl hQ (by have := hlen.1; exact this) hlen.2) ?_
      rintro μ3 ⟨b1, b2, b3, b4⟩
      refine r_return dX8_layFrom_20 rfl rfl rfl ?_
      have e3 := fun a (h : ¬ (172 ≤ a ∧ a < 176)) => (b1 a h).1
      refine ⟨rfl, rfl, b1.mono (fun q hq => by (try dsimp only at *); omega), b2, ⟨fun j j0 j1 => ?_, fun j j0 j1 => ?_, fun j j0 j1 => ?_, fun j j0 j1 => ?_⟩, ⟨by rw [b3 0 (by omega)]; exact hQ.1, by rw [b3 7 (by omega)]; exact hQ.2.1, by rw [b3 8 (by omega)]; exact hQ.2.2.1, fun q q0 q1 => ?_, b4⟩⟩
      · rw [e3 178 (by omega)]; exact hA.1 j j0 j1
      · rw [e3 179 (by omega)]; exact hA.2.1 j j0 j1
      · rw [e3 180 (by omega)]; exact hA.2.2.1 j j0 j1
      · rw [e3 181 (by omega)]; exact hA.2.2.2 j j0 j1
      · rw [e3 176 (by omega), e3 177 (by omega)]; exact hQ.2.2.2.1 q q0 q1
    · exact absurd c8 (by omega)
  | n + 1, k, ρ, μ, L, hB, hA, hl, hQ, hk, hkn, hlen => by
    have IH := c_layFrom (p := p) (c := c) n
    obtain ⟨⟨hT, t5, t6⟩, ⟨hP, ⟨hIC, e0, e5, eC⟩⟩, ⟨hWP, hPW, hAB, hLB⟩, hpp, hcc⟩ := id hB
    obtain ⟨t2, t3, t4, t9, t10, t11, t12, t13, t14⟩ := id hT
    obtain ⟨h0, h1, h2, h3, h4, h6, s1, s2, s3, s4, s5⟩ := id hIC
    obtain ⟨hIP, p0, p1, p2, p3, p4, pb, hF, hV⟩ := id hP
    obtain ⟨i0, i5, i6, i7, i8, j1, j2, hIF0, hIV0⟩ := id hIP
    obtain ⟨hIF, kf0, kh, kf4, ks, kf9, kj⟩ := id hF
    obtain ⟨u0, u1, u2, u3, u5, u6, u7, u8, u10, u11, y1, y2, y3, y4, y5, y6, y7, y8, y9⟩ := id hIF
    obtain ⟨hIV, v0, vt, v5, v8, vi⟩ := id hV
    obtain ⟨w0, w1, w2, w3, w4, w6, w7, w9, w10, w11, b1, b2, b3, b4, b5, b6, b7, b8, b9⟩ := id hIV
    have hn := hWP.1
    unfold WFn at hn
    have x172 : SH[172]? = some (7, 15) := rfl
    have x173 : SH[173]? = some (20, 720) := rfl
    have x174 : SH[174]? = some (20, 720) := rfl
    have x175 : SH[175]? = some (20, 720) := rfl
    have x176 : SH[176]? = some (20, 5) := rfl
    have x177 : SH[177]? = some (20, 5) := rfl
    have x178 : SH[178]? = some (20, 5) := rfl
    have x179 : SH[179]? = some (20, 6) := rfl
    have x180 : SH[180]? = some (20, 3) := rfl
    have x181 : SH[181]? = some (20, 10) := rfl
    have hgg : ∃ g : Int → List Ent, g = fun s => if mayB ρ k s then layE n (k + 1) (rset ρ (93 + k) s) else [] := ⟨_, rfl⟩
    obtain ⟨g, hgd⟩ := hgg
    have eL : layE (n + 1) k ρ = catL g (ρ 5).toNat 0 := by rw [hgd]; rfl
    rw [eL] at hlen
    rw [eL]
    have lS : ∀ (f m : Nat) (s : Int) (μ1 : Mem) (L2 : List Ent), m < f → 0 ≤ s → s + m = ρ 5 → Kp (fun a => ¬ (172 ≤ a ∧ a < 182)) μ μ1 → μ1.2 = μ.2 → AR μ1 ρ k → TQ μ1 ρ L2 → (L2.length + (catL g m s).length ≤ 720 ∧ (expE (L2 ++ catL g m s)).length ≤ 72000) → AW (gX8_layFrom (n + 6)) SH μ1 0 0 23 [some (vR 172), some (vI k), some (vI s)] [] (fun r2 sh2 μ2 => r2 = none ∧ sh2 = SH ∧ FQ μ μ2 ρ k (L2 ++ catL g m s)) := by
      intro f
      induction f with
      | zero => intro m; intros; omega
      | succ f ih =>
        intro m s μ1 L2 hf hs0 hn2 hkp hR hA1 hQ1 hlen1
        have hB1 : BW μ1 p c ρ := hB.mono (hkp.mono (fun q hq => by (try dsimp only at *); omega)) (by rw [hR])
        obtain ⟨⟨hT, t5, t6⟩, ⟨hP, ⟨hIC, e0, e5, eC⟩⟩, ⟨hWP, hPW, hAB, hLB⟩, hpp, hcc⟩ := id hB1
        obtain ⟨t2, t3, t4, t9, t10, t11, t12, t13, t14⟩ := id hT
        obtain ⟨h0, h1, h2, h3, h4, h6, s1, s2, s3, s4, s5⟩ := id hIC
        obtain ⟨hIP, p0, p1, p2, p3, p4, pb, hF, hV⟩ := id hP
        obtain ⟨i0, i5, i6, i7, i8, j1, j2, hIF0, hIV0⟩ := id hIP
        obtain ⟨hIF, kf0, kh, kf4, ks, kf9, kj⟩ := id hF
        obtain ⟨u0, u1, u2, u3, u5, u6, u7, u8, u10, u11, y1, y2, y3, y4, y5, y6, y7, y8, y9⟩ := id hIF
        obtain ⟨hIV, v0, vt, v5, v8, vi⟩ := id hV
        obtain ⟨w0, w1, w2, w3, w4, w6, w7, w9, w10, w11, b1, b2, b3, b4, b5, b6, b7, b8, b9⟩ := id hIV
        have hn := hWP.1
        unfold WFn at hn
        have x172 : SH[172]? = some (7, 15) := rfl
        have x173 : SH[173]? = some (20, 720) := rfl
        have x174 : SH[174]? = some (20, 720) := rfl
        have x175 : SH[175]? = some (20, 720) := rfl
        have x176 : SH[176]? = some (20, 5) := rfl
        have x177 : SH[177]? = some (20, 5) := rfl
        have x178 : SH[178]? = some (20, 5) := rfl
        have x179 : SH[179]? = some (20, 6) := rfl
        have x180 : SH[180]? = some (20, 3) := rfl
        have x181 : SH[181]? = some (20, 10) := rfl
        refine r_iload_n dX8_layFrom_23 rfl ?_
        refine r_aload_n dX8_layFrom_24 rfl ?_
        refine r_getR dX8_layFrom_25 fl_X8_47 rfl (by assumption) (by assumption) ?_
        refine r_getR dX8_layFrom_28 fl_X8_83 rfl (by assumption) (by assumption) ?_
        refine r_getI dX8_layFrom_31 fl_X8_87 rfl (by assumption) ?_
        rw [kf4]
        refine q_icmp_ge (tgt := 73) dX8_layFrom_34 rfl (by omega) (by omega) (fun c34 => ?_) (fun c34 => ?_)
        · refine r_return dX8_layFrom_73 rfl rfl rfl ?_
          obtain rfl : m = 0 := by omega
          refine ⟨rfl, rfl, hkp, hR, hA1, ?_⟩
          rw [show catL g 0 s = [] from rfl, List.append_nil]
          exact hQ1
        · obtain ⟨m, rfl⟩ : ∃ q, m = q + 1 := ⟨m - 1, by omega⟩
          have hsp : 0 ≤ s ∧ s < ρ 5 := ⟨hs0, by omega⟩
          refine r_aload_n dX8_layFrom_37 rfl ?_
          refine r_iload_n dX8_layFrom_38 rfl ?_
          refine r_iload_n dX8_layFrom_39 rfl ?_
          refine r_cV2F1 dX8_layFrom_40 ml_X8_144 yl_X8_mayLie ⟨rfl, rfl⟩ (by assumption) ⟨_, rfl⟩ (Nat.ble_eq_true_of_le (show 3 + 1 ≤ n + 6 by omega)) rfl rfl rfl (c_mayLie hB1 hA1 hl ⟨hk, by omega⟩ hsp) ?_
          refine r_if_eqB (tgt := 67) dX8_layFrom_43 rfl (fun c43 => ?_) (fun c43 => ?_)
          · have d43 := c43
            refine r_iinc dX8_layFrom_67 rfl rfl ?_
            refine r_goto (tgt := 23) dX8_layFrom_70 rfl ?_
            have hg : g s = [] := by rw [hgd]; exact if_neg (by rw [d43]; decide)
            have e : catL g (m + 1) s = catL g m (s + 1) := by
              show g s ++ _ = _
              rw [hg]
              rfl
            rw [e] at hlen1
            rw [e]
            exact ih m (s + 1) μ1 L2 (by omega) (by omega) (by omega) hkp hR hA1 hQ1 hlen1
          · have d43 := c43
            refine r_aload_n dX8_layFrom_46 rfl ?_
            refine r_iload_n dX8_layFrom_47 rfl ?_
            refine r_iload_n dX8_layFrom_48 rfl ?_
            refine r_iconst dX8_layFrom_49 ?_
            refine r_cV3F0 dX8_layFrom_50 ml_X8_148 yl_X8_lay ⟨rfl, rfl⟩ (by assumption) ⟨_, rfl⟩ (Nat.ble_eq_true_of_le (show 1 + 1 ≤ n + 6 by omega)) rfl rfl rfl (c_lay hB1 (k := k) (s := s) (g := 1) ⟨hk, by omega⟩ hsp) ?_
            have hB2 : BW (lyM μ1 k s (ρ (19 + s)) (ρ (88 + k)) (1 * ρ (83 + k)) (ρ (25 + s))) p c ρ := hB1.mono (ly_kp (by (try dsimp only); omega)) rfl
            have hQ2 : TQ (lyM μ1 k s (ρ (19 + s)) (ρ (88 + k)) (1 * ρ (83 + k)) (ρ (25 + s))) ρ L2 := hQ1.keep (ly_kp (by (try dsimp only); omega))
            have hg : g s = layE n (k + 1) (rset ρ (93 + k) s) := by rw [hgd]; exact if_pos d43
            have l1 := hlen1.1
            have l2 := hlen1.2
            rw [show catL g (m + 1) s = g s ++ catL g m (s + 1) from rfl] at l1 l2
            rw [List.length_append] at l1
            refine r_aload_n dX8_layFrom_53 rfl ?_
            refine r_iload_n dX8_layFrom_54 rfl ?_
            refine r_iconst dX8_layFrom_55 ?_
            refine r_iadd dX8_layFrom_56 ?_
            refine r_cS2N dX8_layFrom_57 ml_X8_95 (yl_X8_layFrom (n + 5)) ⟨rfl, rfl⟩ (Nat.ble_eq_true_of_le (show n + 5 + 1 ≤ n + 6 by omega)) rfl rfl rfl (IH (k + 1) (rset ρ (93 + k) s) _ L2 (hB2.set hk) (hA1.lay ⟨hk, by omega⟩ ⟨by omega, by omega⟩ hl hsp) (hl.set hsp hk) (hQ2.set hWP hk) (by omega) (by rw [rset_ne (by omega)]; omega) ⟨by rw [hg] at l1; omega, by rw [hg, ← List.append_assoc, exp_app, List.length_append] at l2; omega⟩) ?_
            rintro μ4 ⟨b1, b2, b3, b4⟩
            have hB4 : BW μ4 p c ρ := hB2.mono (b1.mono (fun q hq => by (try dsimp only at *); omega)) (by rw [b2])
            have hA4 := b3.unlay ⟨hk, by omega⟩ ⟨by omega, by omega⟩ hl hsp
            have hQ4 := b4.unset hWP hk
            refine r_aload_n dX8_layFrom_60 rfl ?_
            refine r_iload_n dX8_layFrom_61 rfl ?_
            refine r_iload_n dX8_layFrom_62 rfl ?_
            refine r_iconst dX8_layFrom_63 ?_
            refine r_cV3F0 dX8_layFrom_64 ml_X8_148 yl_X8_lay ⟨rfl, rfl⟩ (by assumption) ⟨_, rfl⟩ (Nat.ble_eq_true_of_le (show 1 + 1 ≤ n + 6 by omega)) rfl rfl rfl (c_lay hB4 (k := k) (s := s) (g := -1) ⟨hk, by omega⟩ hsp) ?_
            refine r_iinc dX8_layFrom_67 rfl rfl ?_
            refine r_goto (tgt := 23) dX8_layFrom_70 rfl ?_
            rw [show catL g (m + 1) s = g s ++ catL g m (s + 1) from rfl, ← List.append_assoc, hg]
            refine ih m (s + 1) _ _ (by omega) (by omega) (by omega) ?_ ?_ hA4 (hQ4.keep (ly_kp (by (try dsimp only); omega))) ⟨?_, ?_⟩
            · exact ((hkp.tr (ly_kp (by (try dsimp only); omega))).tr b1).tr (ly_kp (by (try dsimp only); omega))
            · show (lyM μ4 _ _ _ _ _ _).2 = _
              exact b2.trans hR
            · rw [List.length_append, ← hg]; omega
            · rw [List.append_assoc, ← hg]; exact l2
    refine AMet.of (by decide) rfl (fun h => Bool.noConfusion (show false = true from h)) rfl ?_
    refine r_iload_n dX8_layFrom_0 rfl ?_
    refine r_aload_n dX8_layFrom_1 rfl ?_
    refine r_getR dX8_layFrom_2 fl_X8_51 rfl (by assumption) (by assumption) ?_
    refine r_getI dX8_layFrom_5 fl_X8_80 rfl (by assumption) ?_
    rw [e0]
    refine q_icmp_ge (tgt := 16) dX8_layFrom_8 rfl (by omega) (by omega) (fun c8 => ?_) (fun c8 => ?_)
    · exact absurd c8 (by omega)
    · refine r_iload_n dX8_layFrom_11 rfl ?_
      refine r_iconst dX8_layFrom_12 ?_
      refine q_icmp_lt (tgt := 21) dX8_layFrom_13 rfl (by omega) (by omega) (fun c13 => ?_) (fun c13 => ?_)
      · refine r_iconst dX8_layFrom_21 ?_
        refine r_istore_n dX8_layFrom_22 rfl ?_
        exact lS _ (ρ 5).toNat 0 μ L (Nat.lt_succ_self _) (by omega) (by omega) (Kp.rf _ _) rfl hA hQ hlen
      · exact absurd c13 (by omega)
