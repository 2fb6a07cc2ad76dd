/-! 79.refbfs: what waits, in the reference (wip/whole/src/79_refbfs.py) -/
def vD (N c : Nat) : Bool := Nat.blt c (7 ^ N) && allN (fun k => allN (fun j => (dgN N c j == 0) || !(dgN N c j == dgN N c k)) k) N
def cntV (N : Nat) : Nat → Nat → Nat
  | 0, lo => if vD N lo then 1 else 0
  | k + 1, lo => cntV N k lo + cntV N k (lo + 2 ^ k)
theorem cntV_tab : ∀ N : Nat, N < 6 → cntV N 15 0 ≤ 4051 := by decide +kernel
def cV (N : Nat) : Nat → Nat → Nat
  | 0, _ => 0
  | n + 1, a => (if vD N a then 1 else 0) + cV N n (a + 1)
theorem cV_add (N : Nat) : ∀ n k a : Nat, cV N (n + k) a = cV N n a + cV N k (a + n)
  | 0, k, a => by simp [cV]
  | n + 1, k, a => by
    rw [show n + 1 + k = (n + k) + 1 by omega, cV, cV, cV_add N n k (a + 1), show a + (n + 1) = a + 1 + n by omega]
    omega
theorem cntV_cV (N : Nat) : ∀ k lo : Nat, cntV N k lo = cV N (2 ^ k) lo
  | 0, lo => by simp [cntV, cV]
  | k + 1, lo => by rw [cntV, cntV_cV N k, cntV_cV N k, Nat.pow_succ, Nat.mul_two, cV_add]
theorem cV_le {N n : Nat} (hN : N < 6) (hn : n ≤ 32768) : cV N n 0 ≤ 4051 := by
  have h := cntV_tab N hN
  rw [cntV_cV, show (2 : Nat) ^ 15 = n + (32768 - n) by omega, cV_add] at h
  omega
theorem pigeonV (N : Nat) : ∀ (S : Nat) (l : List Int), l.Nodup → (∀ x ∈ l, (0 ≤ x ∧ x < S) ∧ vD N x.toNat = true) → l.length ≤ cV N S 0
  | 0, l, _, h => by
    cases l with
    | nil => exact Nat.le_refl _
    | cons a t => have := h a (List.mem_cons_self ..); omega
  | S + 1, l, hn, h => by
    rw [cV_add N S 1 0]
    simp only [cV, Nat.zero_add, Nat.add_zero]
    by_cases c : (S : Int) ∈ l
    · have e := List.length_erase_of_mem c
      have q := pigeonV N S (l.erase (S : Int)) (hn.erase _) (fun x hx => by
        have h1 := h x (List.mem_of_mem_erase hx)
        have h2 : x ≠ S := fun e => by
          rw [e] at hx
          exact hn.not_mem_erase hx
        exact ⟨by omega, h1.2⟩)
      have v := (h _ c).2
      rw [show ((S : Int)).toNat = S by omega] at v
      rw [v]
      simp only [if_true]
      omega
    · have q := pigeonV N S l hn (fun x hx => by
        have h1 := h x hx
        have h2 : x ≠ S := fun e => c (by rw [← e]; exact hx)
        exact ⟨by omega, h1.2⟩)
      omega
theorem vc_vD {ρ : Row} {c : Int} (hN : 0 ≤ ρ 11 ∧ ρ 11 ≤ 5) (h : Vc ρ c) : vD (ρ 11).toNat c.toNat = true := by
  obtain ⟨q, rfl⟩ := Int.eq_ofNat_of_zero_le h.1.1
  have hp := pw_cast (ρ 11).toNat
  have h1 := h.1.2
  rw [Int.toNat_natCast]
  unfold vD
  rw [Bool.and_eq_true, allN_iff]
  have key : ∀ k : Nat, (k : Int) < ρ 11 → layR ρ q (93 + (k : Int)) = (dgN (ρ 11).toNat q k : Int) - 1 := fun k hk => by
    rw [lay_at ⟨by omega, hk⟩]
    unfold dg dgN
    rw [show (ρ 11 - 1 - (k : Int)).toNat = (ρ 11).toNat - 1 - k by omega]
    push_cast
    rfl
  refine ⟨by rw [Nat.blt_eq]; omega, fun k hk => ?_⟩
  rw [allN_iff]
  intro j hj
  rw [Bool.or_eq_true, beq_iff_eq, Bool.not_eq_true', beq_eq_false_iff_ne]
  by_cases e : dgN (ρ 11).toNat q j = dgN (ρ 11).toNat q k
  · have := h.2.2.2.2 j k (by omega) (by omega) (by rw [lay_11]; omega) (by rw [key j (by omega), key k (by omega), e])
    rw [key j (by omega)] at this
    exact Or.inl (by omega)
  · exact Or.inr e
theorem q_len {ρ : Row} (hN : 0 ≤ ρ 11 ∧ ρ 11 ≤ 5) {Q : List Qe} (h : Q.Pairwise (fun a b => a.1 ≠ b.1 ∧ val a.2 < val b.2)) (hv : ∀ e ∈ Q, Vc ρ e.1) : Q.length ≤ 4051 := by
  have hn : (Q.map (·.1)).Nodup := by
    rw [List.Nodup, List.pairwise_map]
    exact h.imp (fun a => a.1)
  have hp := pw_nat hN
  have hc := pw_cast (ρ 11).toNat
  have q := pigeonV (ρ 11).toNat 16807 (Q.map (·.1)) hn (fun x hx => by
    obtain ⟨e, he, rfl⟩ := List.mem_map.1 hx
    have := (hv e he).1
    exact ⟨by omega, vc_vD hN (hv e he)⟩)
  rw [List.length_map] at q
  have := cV_le (N := (ρ 11).toNat) (n := 16807) (by omega) (by omega)
  omega
/-- what the walk through layouts may change -/
def FB (m : Nat) (μ μ2 : Mem) : Prop := μ2.2 = μ.2 ∧ (∀ q : Nat, q ≠ m → q ≠ m + 1 → q ≠ m + 11 → q ≠ m + 12 → μ2.1 q = μ.1 q) ∧ ∀ j, ¬ (21 ≤ j ∧ j ≤ 23) → j ≠ 29 → μ2.1 m j = μ.1 m j
theorem FB.rf (m : Nat) (μ : Mem) : FB m μ μ := ⟨rfl, fun _ _ _ _ _ => rfl, fun _ _ _ => rfl⟩
theorem FB.tr {m : Nat} {a b c : Mem} (h1 : FB m a b) (h2 : FB m b c) : FB m a c := ⟨h2.1.trans h1.1, fun q a1 a2 a3 a4 => (h2.2.1 q a1 a2 a3 a4).trans (h1.2.1 q a1 a2 a3 a4), fun j h h' => (h2.2.2 j h h').trans (h1.2.2 j h h')⟩
theorem FB.fg {m : Nat} {μ μ2 : Mem} (h : FB m μ μ2) : FG m μ μ2 := ⟨h.1, fun q a1 a2 a3 a4 a5 a6 a7 => h.2.1 q a1 a2 a5 a6, fun j hj => h.2.2 j (by omega) (by omega)⟩
theorem FB.row {m : Nat} {μ μ2 : Mem} {ρ : Row} (h : FB m μ μ2) : FB m μ (wRow μ2 m ρ) := ⟨h.1, fun q a1 a2 a3 a4 => (wRow_ne a2).trans (h.2.1 q a1 a2 a3 a4), fun j hj h' => by rw [wRow_ne (by omega)]; exact h.2.2 j hj h'⟩
theorem FB.sc {m : Nat} {μ μ2 μ3 : Mem} (h : FB m μ μ2) (hs : Sc m μ2 μ3) : FB m μ μ3 := ⟨hs.1.trans h.1, fun q a1 a2 a3 a4 => (hs.row a1).trans (h.2.1 q a1 a2 a3 a4), fun i hi h' => (hs.2 m i (by omega)).trans (h.2.2 i hi h')⟩
theorem FB.sA {m a : Nat} {μ μ2 : Mem} (h : FB m μ μ2) {j x : Int} (ha : a = m + 11 ∨ a = m + 12) : FB m μ (setI μ2 a j x) := ⟨h.1, fun q a1 a2 a3 a4 => (setI_ne (by omega)).trans (h.2.1 q a1 a2 a3 a4), fun i hi h' => (sI_ne (by omega)).trans (h.2.2 i hi h')⟩
theorem FB.sI {m : Nat} {μ μ2 : Mem} (h : FB m μ μ2) {x : Int} : FB m μ (setI μ2 m 29 x) := ⟨h.1, fun q a1 a2 a3 a4 => (setI_ne a1).trans (h.2.1 q a1 a2 a3 a4), fun i hi h' => (sI_nj h').trans (h.2.2 i hi h')⟩
def BQ (m : Nat) (μ : Mem) (N : Int) (E : Edg) (Q : List Qe) : Prop := μ.1 m 29 = Q.length ∧ (∀ (i : Nat) (e : Qe), Q[i]? = some e → μ.1 (m + 12) i = e.1) ∧ (∀ e ∈ Q, e.2 = [] → μ.1 (m + 11) e.1 = -1) ∧
  (∀ e ∈ Q, ∀ l t, e.2 = l :: t → ∃ p, (p, t) ∈ Q ∧ E p l = some e.1 ∧ μ.1 (m + 11) e.1 = p) ∧ ∀ c, 0 ≤ c → c < 7 ^ N.toNat → (∀ e ∈ Q, e.1 ≠ c) → μ.1 (m + 11) c = -2
theorem BQ.of {m : Nat} {μ μ2 : Mem} {N : Int} {E : Edg} {Q : List Qe} (h : BQ m μ N E Q) (h1 : μ2.1 m 29 = μ.1 m 29) (h2 : μ2.1 (m + 11) = μ.1 (m + 11)) (h3 : μ2.1 (m + 12) = μ.1 (m + 12)) : BQ m μ2 N E Q := by
  unfold BQ at *
  rw [h1, h2, h3]
  exact h
theorem BQ.row {m : Nat} {μ : Mem} {N : Int} {E : Edg} {Q : List Qe} {ρ : Row} (h : BQ m μ N E Q) : BQ m (wRow μ m ρ) N E Q := h.of (by rw [wRow_ne (by omega)]) (wRow_ne (by omega)) (wRow_ne (by omega))
theorem BQ.push {m : Nat} {μ : Mem} {N : Int} {E : Edg} {Q : List Qe} (h : BQ m μ N E Q) {c p l : Int} {t : Wrd} (hc : ∀ e ∈ Q, e.1 ≠ c) (he : E p l = some c) (hp : (p, t) ∈ Q) : BQ m (setI (setI (setI μ (m + 11) c p) (m + 12) Q.length c) m 29 (Q.length + 1)) N E (Q ++ [(c, l :: t)]) := by
  obtain ⟨h1, h2, h3, h4, h5⟩ := h
  have e11 : ∀ x, (setI (setI (setI μ (m + 11) c p) (m + 12) Q.length c) m 29 (Q.length + 1)).1 (m + 11) x = if x = c then p else μ.1 (m + 11) x := fun x => by
    rw [sI_ne (by omega), sI_ne (by omega)]
    by_cases q : x = c
    · rw [if_pos q, q, sI_at]
    · rw [if_neg q, sI_nj q]
  have e12 : ∀ x, (setI (setI (setI μ (m + 11) c p) (m + 12) Q.length c) m 29 (Q.length + 1)).1 (m + 12) x = if x = Q.length then c else μ.1 (m + 12) x := fun x => by
    rw [sI_ne (by omega)]
    by_cases q : x = Q.length
    · rw [if_pos q, q, sI_at]
    · rw [if_neg q, sI_nj q, sI_ne (by omega)]
  refine ⟨by rw [sI_at, List.length_append]; simp, fun i e hi => ?_, fun e hm hw => ?_, fun e hm l' t' hw => ?_, fun d d0 d1 hd => ?_⟩
  · rw [e12]
    by_cases q : i < Q.length
    · rw [List.getElem?_append_left q] at hi
      rw [if_neg (by omega)]
      exact h2 i e hi
    · have hl : i < (Q ++ [(c, l :: t)]).length := (List.getElem?_eq_some_iff.1 hi).1
      rw [List.length_append, List.length_singleton] at hl
      obtain rfl : i = Q.length := by omega
      rw [List.getElem?_append_right (Nat.le_refl _), Nat.sub_self] at hi
      have : (c, l :: t) = e := by simpa using hi
      rw [if_pos rfl, ← this]
  · rw [e11]
    rw [List.mem_append, List.mem_singleton] at hm
    rcases hm with hm | hm
    · rw [if_neg (hc e hm)]; exact h3 e hm hw
    · rw [hm] at hw; cases hw
  · rw [List.mem_append, List.mem_singleton] at hm
    rcases hm with hm | hm
    · obtain ⟨p', a, b, d⟩ := h4 e hm l' t' hw
      exact ⟨p', List.mem_append_left _ a, b, by rw [e11, if_neg (hc e hm)]; exact d⟩
    · rw [hm] at hw
      have hw : l :: t = l' :: t' := hw
      obtain ⟨rfl, rfl⟩ := List.cons.inj hw
      rw [hm]
      exact ⟨p, List.mem_append_left _ hp, he, by rw [e11, if_pos rfl]⟩
  · rw [e11]
    have hne : d ≠ c := fun e => hd (c, l :: t) (List.mem_append_right _ (List.mem_singleton_self _)) e.symm
    rw [if_neg hne]
    exact h5 d d0 d1 (fun e he => hd e (List.mem_append_left _ he))
/-- what came of a layout is known as soon as it waits -/
theorem BQ.came {m : Nat} {μ : Mem} {ρ : Row} {E : Edg} {Q : List Qe} (h : BQ m μ (ρ 11) E Q) (hv : ∀ e ∈ Q, Vc ρ e.1) {c : Int} (hc : 0 ≤ c ∧ c < 7 ^ (ρ 11).toNat) : (μ.1 (m + 11) c = -2 ∧ ∀ e ∈ Q, e.1 ≠ c) ∨ (-1 ≤ μ.1 (m + 11) c ∧ μ.1 (m + 11) c < 7 ^ (ρ 11).toNat) ∧ ∃ w, (c, w) ∈ Q := by
  have hp := pw_pos (ρ 11).toNat
  by_cases q : ∃ e ∈ Q, e.1 = c
  · obtain ⟨⟨d, w⟩, he, rfl⟩ := q
    refine Or.inr ⟨?_, w, he⟩
    cases w with
    | nil => have := h.2.2.1 _ he rfl; (try dsimp only at *); omega
    | cons l t =>
      obtain ⟨p, a, b, d2⟩ := h.2.2.2.1 _ he l t rfl
      have := (hv _ a).1
      (try dsimp only at *); omega
  · exact Or.inl ⟨h.2.2.2.2 c hc.1 hc.2 (fun e he e2 => q ⟨e, he, e2⟩), fun e he e2 => q ⟨e, he, e2⟩⟩
theorem m_laysR {sh : Sh} {μ : Mem} {m : Nat} {ρ : Row} (hM : IsModel sh μ.2.2 m) (hro : ∀ j, ¬ (93 ≤ j ∧ j < 93 + ρ 11) → μ.1 (m + 1) j = ρ j) (hN : 0 ≤ ρ 11 ∧ ρ 11 ≤ 5) {c : Int} (hc : 0 ≤ c ∧ c < 16807) : FMet yX12_lays gX12_lays sh [vR m, vI c] μ none (wRow μ m (layR ρ c)) := by
  have h11 := hro 11 (by omega)
  have q := m_lays (ρ := μ.1 (m + 1)) hM rfl (by rw [h11]; exact hN) hc
  rw [lay_same hro h11] at q
  exact q
theorem m_onR {sh : Sh} {μ : Mem} {m : Nat} {σ : Row} {s : Int} (hM : IsModel sh μ.2.2 m) (hr : μ.1 (m + 1) = σ) (hw : WL σ) (hs : -2147483648 ≤ s ∧ s < 2147483648) : FMet yX12_on gX12_on sh [vR m, vI s] μ (some (vI (onF σ s))) μ := by
  subst hr
  exact m_on hM hw hs
theorem Vc.wf {ρ : Row} (hw : WF ρ) {c : Int} (h : Vc ρ c) : WF (layR ρ c) := by
  have hn := hw.1.1
  unfold WFn at hn
  have h11 := lay_11 ρ c
  refine hw.of (lay_Pl ρ c (by omega)) (by rw [h11]; omega) (lay_ne (by omega)) (fun b b0 b1 => ?_) (fun k k0 k1 => ?_) h.2.2.2.2
  · rw [lay_ne (j := 51 + b) (by omega)]
    have q := hw.2.1 b b0 b1
    exact ⟨fun a => (q.1 a).2.2, q.2⟩
  · rw [h11] at k1
    obtain ⟨p1, p2, p3, p4, p5⟩ := hw.2.2.1 k k0 k1
    have l := h.2.2.2.1 k k0 (by rw [h11]; exact k1)
    rw [lay_ne (j := 83 + k) (by omega), lay_ne (j := 88 + k) (by omega), lay_ne (j := 98 + k) (by omega), lay_ne (j := 5) (by omega)]
    refine ⟨p1, p2, l, p4, fun i i0 i1 => ?_⟩
    rw [lay_ne (j := 103 + 8 * k + i) (by omega)]
    exact p5 i i0 i1
theorem WF.vc {ρ : Row} (hw : WF ρ) : Vc ρ (codeR ρ) ∧ layR ρ (codeR ρ) = ρ := by
  have hn := hw.1.1
  unfold WFn at hn
  exact vc_lay (fun _ _ => rfl) rfl ⟨by omega, by omega, fun k k0 k1 => (hw.2.2.1 k k0 k1).2.2.1, hw.2.2.2⟩
theorem m_waits {sh : Sh} {μ : Mem} {m : Nat} (hM : IsModel sh μ.2.2 m) {c p W : Int} (hc : 0 ≤ c ∧ c < 16807) (hW : μ.1 m 29 = W) (hW0 : 0 ≤ W ∧ W < 4200) (hcr : -2147483648 ≤ μ.1 (m + 11) c ∧ μ.1 (m + 11) c < 2147483648)  : FMet yX12_waits gX12_waits sh [vR m, vI c, vI p] μ none (if μ.1 (m + 11) c = -2 then setI (setI (setI μ (m + 11) c p) (m + 12) W c) m 29 (W + 1) else μ) := by
  obtain ⟨g0, f1, z1, f2, z2, f3, z3, f4, z4, f5, z5, f6, z6, f7, z7, f8, z8, f9, z9, f10, z10, f11, z11, f12, z12, f13, z13, f14, z14⟩ := id hM
  refine AMet.of (by decide) rfl (by decide) rfl ?_
  refine r_aload_n dX12_waits_0 rfl ?_
  refine r_getR dX12_waits_1 fl_X12_43 rfl (by assumption) (by assumption) ?_
  refine r_iload_n dX12_waits_4 rfl ?_
  refine r_iald dX12_waits_5 (by assumption) rfl (by omega) ?_
  refine r_bipush dX12_waits_6 (by decide) ?_
  refine q_icmp_eq (tgt := 12) dX12_waits_8 rfl (by omega) (by omega) (fun c8 => ?_) (fun c8 => ?_)
  · refine r_aload_n dX12_waits_12 rfl ?_
    refine r_getR dX12_waits_13 fl_X12_43 rfl (by assumption) (by assumption) ?_
    refine r_iload_n dX12_waits_16 rfl ?_
    refine r_iload_n dX12_waits_17 rfl ?_
    refine r_iast dX12_waits_18 (by assumption) rfl (by omega) ?_
    refine r_aload_n dX12_waits_19 rfl ?_
    refine r_getR dX12_waits_20 fl_X12_46 rfl (by assumption) (by assumption) ?_
    refine r_aload_n dX12_waits_23 rfl ?_
    refine r_getI dX12_waits_24 fl_X12_310 rfl (by assumption) ?_
    (try simp (disch := omega) only [sI_at, sI_ne, sI_nj]); rw [hW]
    refine r_iload_n dX12_waits_27 rfl ?_
    refine r_iast dX12_waits_28 (by assumption) rfl (by omega) ?_
    refine r_aload_n dX12_waits_29 rfl ?_
    refine r_dup dX12_waits_30 rfl ?_
    refine r_getI dX12_waits_31 fl_X12_310 rfl (by assumption) ?_
    (try simp (disch := omega) only [sI_at, sI_ne, sI_nj]); rw [hW]
    refine r_iconst dX12_waits_34 ?_
    refine r_iadd dX12_waits_35 ?_
    refine r_putI dX12_waits_36 fl_X12_310 (by assumption) ?_
    refine r_return dX12_waits_39 rfl rfl rfl ?_
    exact ⟨rfl, rfl, (if_pos c8).symm⟩
  · refine r_return dX12_waits_11 rfl rfl rfl ?_
    exact ⟨rfl, rfl, (if_neg c8).symm⟩
theorem fill_ne {μ : Mem} {a b : Nat} {k v : Int} (h : b ≠ a) : (fillI μ a k v).1 b = μ.1 b := funext fun j => ifn h
theorem fill_at {μ : Mem} {a : Nat} {k v j : Int} (h : 0 ≤ j ∧ j < k) : (fillI μ a k v).1 a j = v := if_pos ⟨rfl, h⟩
theorem FB.fill {m : Nat} {μ : Mem} {k v : Int} : FB m μ (fillI μ (m + 11) k v) := ⟨rfl, fun q a1 a2 a3 a4 => fill_ne a3, fun j _ _ => congrFun (fill_ne (by omega)) j⟩
theorem m_starts {sh : Sh} {μ : Mem} {m : Nat} (hM : IsModel sh μ.2.2 m) {ρ : Row} (hr : μ.1 (m + 1) = ρ) (hN : 0 ≤ ρ 11 ∧ ρ 11 ≤ 5) (hv : Vc ρ (codeR ρ)) (E : Edg)  : VMet yX12_starts gX12_starts sh [vR m] μ (fun μ2 => FB m μ μ2 ∧ μ2.1 (m + 1) = ρ ∧ BQ m μ2 (ρ 11) E [(codeR ρ, [])]) := by
  obtain ⟨g0, f1, z1, f2, z2, f3, z3, f4, z4, f5, z5, f6, z6, f7, z7, f8, z8, f9, z9, f10, z10, f11, z11, f12, z12, f13, z13, f14, z14⟩ := id hM
  have hp := pw_le hN
  have hp0 := pw_pos (ρ 11).toNat
  have hcc : 0 ≤ codeR ρ ∧ codeR ρ < 7 ^ (ρ 11).toNat := hv.1
  have lB : ∀ (f n : Nat) (k : Int), n < f → 0 ≤ k → k + n = 7 ^ (ρ 11).toNat → AW gX12_starts sh (fillI μ (m + 11) k (-2)) 0 0 2 [some (vR m), some (vI k)] [] (fun r2 sh2 μ2 => r2 = none ∧ sh2 = sh ∧ FB m μ μ2 ∧ μ2.1 (m + 1) = ρ ∧ BQ m μ2 (ρ 11) E [(codeR ρ, [])]) := by
    intro f
    induction f with
    | zero => intro n; intros; omega
    | succ f ih =>
      intro n k hf hk hn2
      have hrf : (fillI μ (m + 11) k (-2)).1 (m + 1) = ρ := (fill_ne (by omega)).trans hr
      refine r_iload_n dX12_starts_2 rfl ?_
      refine r_aload_n dX12_starts_3 rfl ?_
      refine r_cV0F1 dX12_starts_4 ml_X12_286 yl_X12_codes ⟨rfl, rfl⟩ (by assumption) ⟨_, rfl⟩ rfl rfl rfl rfl (m_codes (ρ := ρ) hM hrf hN) ?_
      refine q_icmp_ge (tgt := 24) dX12_starts_7 rfl (by omega) (by omega) (fun c7 => ?_) (fun c7 => ?_)
      · refine r_aload_n dX12_starts_24 rfl ?_
        refine r_iconst dX12_starts_25 ?_
        refine r_putI dX12_starts_26 fl_X12_310 (by assumption) ?_
        refine r_aload_n dX12_starts_29 rfl ?_
        refine r_aload_n dX12_starts_30 rfl ?_
        refine r_cV0F1 dX12_starts_31 ml_X12_313 yl_X12_code ⟨rfl, rfl⟩ (by assumption) ⟨_, rfl⟩ rfl rfl rfl rfl (m_code (ρ := ρ) hM ((setI_ne (by omega)).trans hrf) hN) ?_
        refine r_iconst dX12_starts_34 ?_
        refine r_cV2F0 dX12_starts_35 ml_X12_316 yl_X12_waits ⟨rfl, rfl⟩ (by assumption) ⟨_, rfl⟩ rfl rfl rfl rfl (m_waits (μ := setI (fillI μ (m + 11) k (-2)) m 29 0) (W := 0) hM ⟨hcc.1, by omega⟩ sI_at (by omega) (by rw [sI_ne (by omega), fill_at (show 0 ≤ codeR ρ ∧ codeR ρ < k by omega)]; omega)) ?_
        refine r_return dX12_starts_38 rfl rfl rfl ?_
        rw [if_pos (by rw [sI_ne (by omega), fill_at (show 0 ≤ codeR ρ ∧ codeR ρ < k by omega)])]
        refine ⟨rfl, rfl, ((((FB.fill (k := k) (v := -2)).sI).sA (Or.inl rfl)).sA (Or.inr rfl)).sI, ?_, ?_⟩
        · rw [setI_ne (by omega), setI_ne (by omega), setI_ne (by omega), setI_ne (by omega)]; exact hrf
        · obtain rfl : k = 7 ^ (ρ 11).toNat := by omega
          refine ⟨by rw [sI_at]; rfl, fun i e hi => ?_, fun e he _ => ?_, fun e he l t hw => ?_, fun c c0 c1 hc => ?_⟩
          · have hl := (List.getElem?_eq_some_iff.1 hi).1
            rw [List.length_singleton] at hl
            obtain rfl : i = 0 := by omega
            have : (codeR ρ, []) = e := by simpa using hi
            rw [← this, sI_ne (by omega)]
            exact sI_at
          · rw [List.mem_singleton] at he
            rw [he, sI_ne (by omega), sI_ne (by omega)]
            exact sI_at
          · rw [List.mem_singleton] at he
            rw [he] at hw
            cases hw
          · have := hc (codeR ρ, []) (List.mem_singleton_self _)
            rw [sI_ne (by omega), sI_ne (by omega), sI_nj (fun e => this e.symm), sI_ne (by omega), fill_at ⟨c0, c1⟩]
      · refine r_aload_n dX12_starts_10 rfl ?_
        refine r_getR dX12_starts_11 fl_X12_43 rfl (by assumption) (by assumption) ?_
        refine r_iload_n dX12_starts_14 rfl ?_
        refine r_bipush dX12_starts_15 (by decide) ?_
        refine r_iast dX12_starts_17 (by assumption) rfl (by omega) ?_
        refine r_iinc dX12_starts_18 rfl rfl ?_
        rw [fill_s _ _ hk]
        refine r_goto (tgt := 2) dX12_starts_21 rfl ?_
        exact ih (n - 1) (k + 1) (by omega) (by omega) (by omega)
  refine AMet.of (by decide) rfl (by decide) rfl ?_
  refine r_iconst dX12_starts_0 ?_
  refine r_istore_n dX12_starts_1 rfl ?_
  have h := lB _ (7 ^ (ρ 11).toNat : Int).toNat 0 (Nat.lt_succ_self _) (by omega) (by omega)
  rw [fill_0] at h
  exact h
def MvI (sh : Sh) (m : Nat) (μ : Mem) (ρ : Row) (E : Edg) (c0 : Int) (Q : List Qe) (i : Nat) (e0 : Qe) (μ' : Mem) (Q' : List Qe) (L : Int) : Prop := (IsModel sh μ'.2.2 m ∧ FB m μ μ' ∧ ∀ j, ¬ (93 ≤ j ∧ j < 93 + ρ 11) → μ'.1 (m + 1) j = ρ j) ∧ (BQ m μ' (ρ 11) E Q' ∧ BIn E c0 Q' i ∧ BPr E Q' i e0 L) ∧ ∀ (j : Nat) (e : Qe), Q[j]? = some e → Q'[j]? = some e
theorem Rch.vcE {ρ : Row} {E : Edg} (hE : ∀ u l c, Vc ρ u → E u l = some c → Vc ρ c) {c0 : Int} (h0 : Vc ρ c0) : ∀ {w : Wrd} {c : Int}, Rch E c0 w c → Vc ρ c
  | [], c, h => by
    have h : c = c0 := h
    rw [h]; exact h0
  | l :: t, c, ⟨u, h1, h2⟩ => hE u l c (Rch.vcE hE h0 h1) h2
theorem mv_E (ρ : Row) : ∀ u l c, Vc ρ u → mvE ρ u l = some c → Vc ρ c := fun u l c hu he => (mv_edge hu he).2.2.2.2.1
/-- one more layout is looked at: it waits, or has come before -/
theorem MvI.next {sh : Sh} {m : Nat} {μ : Mem} {ρ : Row} {E : Edg} {c0 : Int} {Q : List Qe} {i : Nat} {e0 : Qe} {μ' : Mem} {Q' : List Qe} {L : Int} (h : MvI sh m μ ρ E c0 Q i e0 μ' Q' L) (hL : LabOK E) (hE : ∀ u l c, Vc ρ u → E u l = some c → Vc ρ c) (h0 : Vc ρ c0) {σ : Row} {c : Int} (hc : E e0.1 L = some c) (hcr : 0 ≤ c ∧ c < 7 ^ (ρ 11).toNat) (hro : ∀ j, ¬ (93 ≤ j ∧ j < 93 + ρ 11) → σ j = ρ j) : ∃ Q2, MvI sh m μ ρ E c0 Q i e0 (if (wRow μ' m σ).1 (m + 11) c = -2 then setI (setI (setI (wRow μ' m σ) (m + 11) c e0.1) (m + 12) Q'.length c) m 29 (Q'.length + 1) else wRow μ' m σ) Q2 (L + 1) := by
  obtain ⟨⟨hM, hF, hR⟩, ⟨hB, hI, hP⟩, hpre⟩ := h
  have hv : ∀ e ∈ Q', Vc ρ e.1 := fun e he => Rch.vcE hE h0 (hI.2.2.1 e he)
  have hB2 := hB.row (ρ := σ)
  rcases hB2.came hv hcr with ⟨q1, q2⟩ | ⟨q1, w, q2⟩
  · rw [if_pos q1]
    obtain ⟨n1, n2⟩ := BPr.new hL hI hP hc q2
    have hm : e0 ∈ Q' := List.mem_of_getElem? hP.1
    refine ⟨Q' ++ [(c, L :: e0.2)], ⟨hM, ((hF.row.sA (Or.inl rfl)).sA (Or.inr rfl)).sI, fun j hj => ?_⟩, ⟨hB2.push q2 hc hm, n1, n2⟩, fun j e hj => ?_⟩
    · rw [sI_ne (by omega), sI_ne (by omega), sI_ne (by omega), wRow_row]; exact hro j hj
    · have q := hpre j e hj
      rw [List.getElem?_append_left (List.getElem?_eq_some_iff.1 q).1]
      exact q
  · rw [if_neg (by omega)]
    exact ⟨Q', ⟨hM, hF.row, fun j hj => by rw [wRow_row]; exact hro j hj⟩, ⟨hB2, hI, hP.old hc q2⟩, hpre⟩
theorem on_rg (σ : Row) (s : Int) (h : σ 11 ≤ 5) : -1 ≤ onF σ s ∧ onF σ s < 5 := by
  rcases on_spec σ s with ⟨a, -⟩ | ⟨a, -⟩ <;> omega
set_option maxHeartbeats 2000000 in
theorem m_moves {sh : Sh} {μ : Mem} {m : Nat} (hM : IsModel sh μ.2.2 m) {ρ : Row} (hw : WF ρ) (hro : ∀ j, ¬ (93 ≤ j ∧ j < 93 + ρ 11) → μ.1 (m + 1) j = ρ j) {c0 c : Int} {w : Wrd} {Q : List Qe} {i : Nat} (hv0 : Vc ρ c0) (hB : BQ m μ (ρ 11) (mvE ρ) Q) (hI : BIn (mvE ρ) c0 Q i) (hb : BBt Q i) (hi : Q[i]? = some (c, w))  : VMet yX12_moves gX12_moves sh [vR m, vI c] μ (fun μ2 => ∃ Q2, MvI sh m μ ρ (mvE ρ) c0 Q i (c, w) μ2 Q2 60) := by
  obtain ⟨g0, f1, z1, f2, z2, f3, z3, f4, z4, f5, z5, f6, z6, f7, z7, f8, z8, f9, z9, f10, z10, f11, z11, f12, z12, f13, z13, f14, z14⟩ := id hM
  have hn := hw.1.1
  unfold WFn at hn
  have hN : 0 ≤ ρ 11 ∧ ρ 11 ≤ 5 := by omega
  have hS : 0 ≤ ρ 5 ∧ ρ 5 ≤ 6 := by omega
  have hp := pw_le hN
  have hvc : Vc ρ c := Rch.vcE (mv_E ρ) hv0 (hI.2.2.1 _ (List.mem_of_getElem? hi))
  have hvc1 := hvc.1
  have hwl := (hvc.wf hw).wl
  clear g0 f1 f2 f3 f4 f5 f6 f7 f8 f9 f10 f11 f12 f13 f14
  have lI : ∀ (k : Int), 0 ≤ k → k < ρ 11 → ∀ (f n : Nat) (s : Int) (μ' : Mem) (Q' : List Qe), n < f → 0 ≤ s → s + n = ρ 5 → MvI sh m μ ρ (mvE ρ) c0 Q i (c, w) μ' Q' (10 * k + s) → (∀ (μ2 : Mem) (Q2 : List Qe), MvI sh m μ ρ (mvE ρ) c0 Q i (c, w) μ2 Q2 (10 * k + ρ 5) → AW gX12_moves sh μ2 0 0 66 [some (vR m), some (vI c), some (vI k), some (vI (ρ 5))] [] (fun r2 sh2 μ2 => r2 = none ∧ sh2 = sh ∧ ∃ Q2, MvI sh m μ ρ (mvE ρ) c0 Q i (c, w) μ2 Q2 60)) → AW gX12_moves sh μ' 0 0 15 [some (vR m), some (vI c), some (vI k), some (vI s)] [] (fun r2 sh2 μ2 => r2 = none ∧ sh2 = sh ∧ ∃ Q2, MvI sh m μ ρ (mvE ρ) c0 Q i (c, w) μ2 Q2 60) := by
    intro k hk0 hk1 f
    induction f with
    | zero => intro n; intros; omega
    | succ f ih =>
      intro n s μ' Q' hf hs0 hn2 hI hC
      have hM1 := hI.1.1
      have hro := hI.1.2.2
      have r5 := hro 5 (by omega)
      have hQv : ∀ e ∈ Q', Vc ρ e.1 := fun e he => Rch.vcE (mv_E ρ) hv0 (hI.2.1.2.1.2.2.1 e he)
      have hQl := q_len hN hI.2.1.2.1.2.1 hQv
      have h29 := hI.2.1.1.1
      obtain ⟨g0, f1, z1, f2, z2, f3, z3, f4, z4, f5, z5, f6, z6, f7, z7, f8, z8, f9, z9, f10, z10, f11, z11, f12, z12, f13, z13, f14, z14⟩ := id hM1
      refine r_iload_n dX12_moves_15 rfl ?_
      refine r_aload_n dX12_moves_16 rfl ?_
      refine r_getR dX12_moves_17 fl_X12_7 rfl (by assumption) (by assumption) ?_
      refine r_iconst dX12_moves_20 ?_
      refine r_iald dX12_moves_21 (by assumption) rfl (by omega) ?_
      (try rw [r5])
      refine q_icmp_ge (tgt := 66) dX12_moves_22 rfl (by omega) (by omega) (fun c22 => ?_) (fun c22 => ?_)
      · obtain rfl : s = ρ 5 := by omega
        exact hC _ _ hI
      · refine r_aload_n dX12_moves_25 rfl ?_
        refine r_iload_n dX12_moves_26 rfl ?_
        refine r_cV1F0 dX12_moves_27 ml_X12_289 yl_X12_lays ⟨rfl, rfl⟩ (by assumption) ⟨_, rfl⟩ rfl rfl rfl rfl (m_laysR hM1 hro hN ⟨hvc.1.1, by omega⟩) ?_
        refine r_aload_n dX12_moves_30 rfl ?_
        refine r_iload_n dX12_moves_31 rfl ?_
        refine r_cV1F1 dX12_moves_32 ml_X12_210 yl_X12_on ⟨rfl, rfl⟩ (by assumption) ⟨_, rfl⟩ rfl rfl rfl rfl (m_onR (σ := layR ρ c) hM1 wRow_row hwl (by omega)) ?_
        refine q_if_lt (tgt := 41) dX12_moves_35 rfl (by have := on_rg (layR ρ c) s (by rw [lay_11]; exact hN.2); omega) (fun c35 => ?_) (fun c35 => ?_)
        · have hcd := (vc_set hvc (k := k) (s := s) ⟨hk0, hk1⟩ (Or.inr ⟨⟨hs0, by omega⟩, c35⟩)).1
          have hee : mvE ρ c (10 * k + s) = some (codeR (rset (layR ρ c) (93 + k) s)) := by
            obtain ⟨d, d1, -, -⟩ := mv_to hN.2 hS.2 hvc (k := k) (s := s) ⟨hk0, hk1⟩ ⟨hs0, by omega⟩ c35
            unfold mvE at d1 ⊢
            rw [show (10 * k + s) / 10 = k by omega, show (10 * k + s) % 10 = s by omega] at d1 ⊢
            split at d1
            · rename_i q; rw [if_pos q]
            · cases d1
          refine r_aload_n dX12_moves_41 rfl ?_
          refine r_getR dX12_moves_42 fl_X12_7 rfl (by assumption) (by assumption) ?_
          refine r_bipush dX12_moves_45 (by decide) ?_
          refine r_iload_n dX12_moves_47 rfl ?_
          refine r_iadd dX12_moves_48 ?_
          refine r_iload_n dX12_moves_49 rfl ?_
          refine r_iast dX12_moves_50 (by assumption) rfl (by omega) ?_
          rw [wRow_set]
          refine r_aload_n dX12_moves_51 rfl ?_
          refine r_aload_n dX12_moves_52 rfl ?_
          refine r_cV0F1 dX12_moves_53 ml_X12_313 yl_X12_code ⟨rfl, rfl⟩ (by assumption) ⟨_, rfl⟩ rfl rfl rfl rfl (m_code (ρ := rset (layR ρ c) (93 + k) s) hM1 wRow_row (by rw [rset_ne (by omega), lay_11]; exact hN)) ?_
          refine r_iload_n dX12_moves_56 rfl ?_
          refine r_cV2F0 dX12_moves_57 ml_X12_316 yl_X12_waits ⟨rfl, rfl⟩ (by assumption) ⟨_, rfl⟩ rfl rfl rfl rfl (m_waits (μ := wRow μ' m (rset (layR ρ c) (93 + k) s)) (W := Q'.length) hM1 ⟨hcd.1.1, by have := hcd.1.2; omega⟩ (by rw [wRow_ne (by omega)]; exact h29) (by omega) (by rcases (hI.2.1.1.row (ρ := rset (layR ρ c) (93 + k) s)).came hQv hcd.1 with ⟨q, -⟩ | ⟨q, -⟩ <;> omega)) ?_
          refine r_iinc dX12_moves_60 rfl rfl ?_
          refine r_goto (tgt := 15) dX12_moves_63 rfl ?_
          first
          | (obtain ⟨Q2, hN2⟩ := hI.next (mv_lab ρ) (mv_E ρ) hv0 (σ := rset (layR ρ c) (93 + k) s) hee hcd.1 (fun j hj => by rw [rset_ne (by omega), lay_ne hj])
             exact ih (n - 1) (s + 1) _ Q2 (by omega) (by omega) (by omega) (by rw [show 10 * k + (s + 1) = 10 * k + s + 1 by omega]; exact hN2) hC)
          | (refine ih (n - 1) (s + 1) _ Q' (by omega) (by omega) (by omega) ?_ hC
             obtain ⟨⟨a1, a2, a3⟩, ⟨b1, b2, b3⟩, d⟩ := hI
             refine ⟨⟨a1, a2.row, fun j hj => by rw [wRow_row, lay_ne hj]⟩, ⟨b1.row, b2, b3.skip (by omega) (fun l l0 l1 => ?_)⟩, d⟩
             obtain rfl : l = 10 * k + s := by omega
             unfold mvE
             rw [show (10 * k + s) % 10 = s by omega, if_neg (fun q => by have q4 : onF (layR ρ c) s < 0 := q.2.2.2; omega)])
        · refine r_goto (tgt := 60) dX12_moves_38 rfl ?_
          refine r_iinc dX12_moves_60 rfl rfl ?_
          refine r_goto (tgt := 15) dX12_moves_63 rfl ?_
          first
          | (obtain ⟨Q2, hN2⟩ := hI.next (mv_lab ρ) (mv_E ρ) hv0 (σ := rset (layR ρ c) (93 + k) s) hee hcd.1 (fun j hj => by rw [rset_ne (by omega), lay_ne hj])
             exact ih (n - 1) (s + 1) _ Q2 (by omega) (by omega) (by omega) (by rw [show 10 * k + (s + 1) = 10 * k + s + 1 by omega]; exact hN2) hC)
          | (refine ih (n - 1) (s + 1) _ Q' (by omega) (by omega) (by omega) ?_ hC
             obtain ⟨⟨a1, a2, a3⟩, ⟨b1, b2, b3⟩, d⟩ := hI
             refine ⟨⟨a1, a2.row, fun j hj => by rw [wRow_row, lay_ne hj]⟩, ⟨b1.row, b2, b3.skip (by omega) (fun l l0 l1 => ?_)⟩, d⟩
             obtain rfl : l = 10 * k + s := by omega
             unfold mvE
             rw [show (10 * k + s) % 10 = s by omega, if_neg (fun q => by have q4 : onF (layR ρ c) s < 0 := q.2.2.2; omega)])
  have lO : ∀ (f n : Nat) (k : Int) (o3 : Option AV) (μ' : Mem) (Q' : List Qe), n < f → 0 ≤ k → k + n = ρ 11 → MvI sh m μ ρ (mvE ρ) c0 Q i (c, w) μ' Q' (10 * k) → AW gX12_moves sh μ' 0 0 2 [some (vR m), some (vI c), some (vI k), o3] [] (fun r2 sh2 μ2 => r2 = none ∧ sh2 = sh ∧ ∃ Q2, MvI sh m μ ρ (mvE ρ) c0 Q i (c, w) μ2 Q2 60) := by
    intro f
    induction f with
    | zero => intro n; intros; omega
    | succ f ih =>
      intro n k o3 μ' Q' hf hk0 hn2 hI
      have hM1 := hI.1.1
      have r11 := hI.1.2.2 11 (by omega)
      obtain ⟨g0, f1, z1, f2, z2, f3, z3, f4, z4, f5, z5, f6, z6, f7, z7, f8, z8, f9, z9, f10, z10, f11, z11, f12, z12, f13, z13, f14, z14⟩ := id hM1
      refine r_iload_n dX12_moves_2 rfl ?_
      refine r_aload_n dX12_moves_3 rfl ?_
      refine r_getR dX12_moves_4 fl_X12_7 rfl (by assumption) (by assumption) ?_
      refine r_bipush dX12_moves_7 (by decide) ?_
      refine r_iald dX12_moves_9 (by assumption) rfl (by omega) ?_
      (try rw [r11])
      refine q_icmp_ge (tgt := 72) dX12_moves_10 rfl (by omega) (by omega) (fun c10 => ?_) (fun c10 => ?_)
      · refine r_return dX12_moves_72 rfl rfl rfl ?_
        obtain rfl : k = ρ 11 := by omega
        obtain ⟨a, ⟨b1, b2, b3⟩, d⟩ := hI
        refine ⟨rfl, rfl, Q', a, ⟨b1, b2, b3.skip (by omega) (fun l l0 l1 => ?_)⟩, d⟩
        unfold mvE
        rw [if_neg (fun q => by have := q.2.1; omega)]
      · refine r_iconst dX12_moves_13 ?_
        refine r_istore_n dX12_moves_14 rfl ?_
        refine lI k hk0 (by omega) _ (ρ 5).toNat 0 _ Q' (Nat.lt_succ_self _) (by omega) (by omega) (by rw [Int.add_zero]; exact hI) (fun μ2 Q2 h2 => ?_)
        refine r_iinc dX12_moves_66 rfl rfl ?_
        refine r_goto (tgt := 2) dX12_moves_69 rfl ?_
        refine ih (n - 1) (k + 1) _ μ2 Q2 (by omega) (by omega) (by omega) ?_
        obtain ⟨a, ⟨b1, b2, b3⟩, d⟩ := h2
        refine ⟨a, ⟨b1, b2, b3.skip (by omega) (fun l l0 l1 => ?_)⟩, d⟩
        unfold mvE
        rw [if_neg (fun q => by have := q.2.2.1; omega)]
  refine AMet.of (by decide) rfl (by decide) rfl ?_
  refine r_iconst dX12_moves_0 ?_
  refine r_istore_n dX12_moves_1 rfl ?_
  refine lO _ (ρ 11).toNat 0 _ μ Q (Nat.lt_succ_self _) (by omega) (by omega) ⟨⟨hM, FB.rf _ _, hro⟩, ⟨hB, hI, ?_⟩, fun _ _ h => h⟩
  rw [Int.mul_zero]
  exact BBt.begin (c0 := 0) hb (mv_lab ρ) hi
