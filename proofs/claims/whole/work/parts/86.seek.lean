/-! 86.seek: the moves are sought, in the class (wip/whole/src/86_seek.py) -/
theorem gN_mem2 {ρ : Row} {c j : Int} (hg : goodN ρ c j = true) : ∀ (k : Nat) (n : Int), n ≤ j → j < n + k → 200 * c + j ∈ gN ρ c k n
  | 0, n, h1, h2 => by omega
  | k + 1, n, h1, h2 => by
    rw [gN, List.mem_append]
    by_cases c0 : j = n
    · rw [← c0, if_pos hg]
      exact Or.inl (List.mem_singleton_self _)
    · exact Or.inr (gN_mem2 hg k (n + 1) (by omega) (by omega))
theorem gAll_mem2 {ρ : Row} {d j : Int} (hj : 0 ≤ j ∧ j < 100) (hwh : wholeF (layR ρ d) = true) (hg : goodN ρ d j = true) : ∀ (k : Nat) (c : Int), c ≤ d → d < c + k → 200 * d + j ∈ gAll ρ k c
  | 0, c, h1, h2 => by omega
  | k + 1, c, h1, h2 => by
    rw [gAll, List.mem_append]
    by_cases c0 : d = c
    · left
      unfold goodsC
      rw [← c0, if_pos hwh]
      exact gN_mem2 hg 100 0 hj.1 (by omega)
    · exact Or.inr (gAll_mem2 hj hwh hg k (c + 1) (by omega) (by omega))
theorem seq_mem {x : Int} : ∀ (n : Nat) (b : Int), x ∈ seqL b n ↔ b ≤ x ∧ x < b + n
  | 0, b => by
    rw [seqL]
    exact ⟨fun h => absurd h (by simp), fun h => by omega⟩
  | n + 1, b => by
    rw [seqL, List.mem_cons, seq_mem n (b + 1)]
    omega
theorem exp_mem {x : Int} : ∀ L : List Ent, x ∈ expE L ↔ ∃ e ∈ L, 200 * e.1 + e.2.1 ≤ x ∧ x < 200 * e.1 + e.2.1 + e.2.2.toNat
  | [] => by
    rw [expE]
    exact ⟨fun h => absurd h (by simp), fun ⟨e, h, _⟩ => absurd h (by simp)⟩
  | e :: t => by
    rw [expE, List.mem_append, seq_mem, exp_mem t]
    constructor
    · rintro (h | ⟨e', h, h2⟩)
      · exact ⟨e, List.mem_cons_self .., h⟩
      · exact ⟨e', List.mem_cons_of_mem _ h, h2⟩
    · rintro ⟨e', h, h2⟩
      rcases List.mem_cons.1 h with c | c
      · rw [c] at h2; exact Or.inl h2
      · exact Or.inr ⟨e', c, h2⟩
abbrev tkE (a : Int) (e : Ent) : Prop := e.2.1 ≤ a ∧ a < e.2.1 + e.2.2
/-- the table's rows that take what is in the bins are the good ones -/
theorem gd_rows {ρ : Row} (hw : WF ρ) (hb : ρ 51 + ρ 52 = ρ 12) (g : Int) : gdC ρ g ↔ ∃ e ∈ TL ρ, e.1 = g ∧ tkE (ρ 51) e := by
  have hn := hw.1.1
  unfold WFn at hn
  have b0 := hw.2.1 0 (by omega) (by omega)
  have b1 := hw.2.1 1 (by omega) (by omega)
  simp only [Int.add_zero, show (51 : Int) + 1 = 52 from rfl, show (49 : Int) + 1 = 50 from rfl] at b0 b1
  have h51 : 0 ≤ ρ 51 ∧ ρ 51 < 100 := by
    by_cases c : 0 < ρ 7
    · have := b0.1 c; omega
    · have := b0.2 (by omega); omega
  have hp : pourOK ρ (ρ 51) = true := by
    unfold pourOK lim0 lim1
    refine decide_eq_true ⟨?_, ?_, ?_⟩
    · by_cases c : 0 < ρ 7
      · rw [if_pos c]; exact (b0.1 c).2.2.2
      · rw [if_neg c, b0.2 (by omega)]; exact Int.le_refl _
    · by_cases c : 1 < ρ 7
      · have := (b1.1 c).2.2.1; omega
      · have := b1.2 (by omega); omega
    · by_cases c : 1 < ρ 7
      · rw [if_pos c]; have := (b1.1 c).2.2.2; omega
      · rw [if_neg c]; have := b1.2 (by omega); omega
  have hbin : ∀ g, binR (layR ρ g) (ρ 51) = layR ρ g := fun g => by
    funext j
    by_cases c1 : j = 51
    · rw [c1, bin_51, lay_ne (by omega)]
    · by_cases c2 : j = 52
      · rw [c2, bin_52, lay_ne (j := 12) (by omega), lay_ne (j := 52) (by omega)]; omega
      · exact bin_ne ⟨c1, c2⟩
  have hgn : ∀ g, goodN ρ g (ρ 51) = true ↔ brokF (layR ρ g) = 0 := fun g => by
    unfold goodN
    rw [hp, hbin, Bool.true_and, decide_eq_true_eq]
  have hpc := pw_cast (ρ 11).toNat
  have key : (200 * g + ρ 51) ∈ GL ρ ↔ gdC ρ g := by
    constructor
    · intro h
      obtain ⟨d, j, h1, h2, h3, h4, h5⟩ := gAll_mem _ _ h
      have ed : d = g := by omega
      have ej : j = ρ 51 := by omega
      rw [ed] at h1 h4 h5
      rw [ej, hgn] at h5
      exact ⟨⟨h1.1, by omega⟩, h4, h5⟩
    · rintro ⟨h1, h2, h3⟩
      exact gAll_mem2 h51 h2 ((hgn g).2 h3) _ 0 h1.1 (by omega)
  rw [← key, ← (TL_exp hw).1, exp_mem]
  constructor
  · rintro ⟨e, he, h1, h2⟩
    have hk := TL_mem hw he
    have hk2 := hk.2.1
    refine ⟨e, he, ?_, ?_, ?_⟩ <;> omega
  · rintro ⟨e, he, h1, h2, h3⟩
    have hk := TL_mem hw he
    have hk2 := hk.2.1
    refine ⟨e, he, ?_, ?_⟩ <;> omega
theorem TL_tg {ρ : Row} (hw : WF ρ) : LTG ρ (TL ρ) := fun e he => by
  have hn := hw.1.1
  unfold WFn at hn
  have hk := TL_mem hw he
  have hk2 := hk.2.1
  have hx : 200 * e.1 + e.2.1 ∈ GL ρ := by
    rw [← (TL_exp hw).1, exp_mem]
    exact ⟨e, he, by omega, by omega⟩
  obtain ⟨d, j, h1, h2, h3, h4, h5⟩ := gAll_mem _ _ hx
  obtain rfl : e.1 = d := by omega
  have hpc := pw_cast (ρ 11).toNat
  have q := (whole_iff (ρ := layR ρ e.1) (by rw [lay_11]; omega)).1 h4
  rw [lay_11, lay_ne (j := 5) (by omega)] at q
  exact ⟨fun k k0 k1 => (q k k0 k1).1, fun i j i0 ij j1 => (q j (by omega) j1).2 i i0 ij⟩
def NmQ (μ μ2 : Mem) : Prop := Kp (fun a => a ≠ 182 ∧ a ≠ 187) μ μ2 ∧ μ2.2 = μ.2 ∧ ∀ j, j ≠ 6 → μ2.1 182 j = μ.1 182 j
theorem NmQ.rf (μ : Mem) : NmQ μ μ := ⟨Kp.rf _ _, rfl, fun _ _ => rfl⟩
theorem NmQ.tr {a b c : Mem} (h1 : NmQ a b) (h2 : NmQ b c) : NmQ a c := ⟨h1.1.tr h2.1, h2.2.1.trans h1.2.1, fun j hj => (h2.2.2 j hj).trans (h1.2.2 j hj)⟩
theorem NmQ.s6 {μ μ2 : Mem} (h : NmQ μ μ2) (x : Int) : NmQ μ (setI μ2 182 6 x) := ⟨h.1.sI (by omega), h.2.1, fun j hj => (sI_nj hj).trans (h.2.2 j hj)⟩
theorem NmQ.s7 {μ μ2 : Mem} (h : NmQ μ μ2) (i x : Int) : NmQ μ (setI μ2 187 i x) := ⟨h.1.sI (by omega), h.2.1, fun j hj => (sI_ne (by omega)).trans (h.2.2 j hj)⟩
theorem MdC.of {μ μ2 : Mem} {ρ σ : Row} {L : List Ent} (h : MdC μ ρ σ L) (hk : Kp (fun a => (172 ≤ a ∧ a < 176) ∨ a = 185 ∨ a = 186) μ μ2) (h2 : μ2.2 = μ.2) (h7 : μ2.1 182 7 = μ.1 182 7) (h8 : μ2.1 182 8 = μ.1 182 8) : MdC μ2 ρ σ L := by
  obtain ⟨h1, ⟨hT, hW, hLT⟩, ⟨e7, e8⟩, hsp, hon, hDst, h11⟩ := h
  refine ⟨by rw [h2]; exact h1, ⟨by rw [h2]; exact hT, hW.ext (hk.mono (fun q hq => by (try dsimp only at *); omega)), hLT⟩, ⟨h7.trans e7, h8.trans e8⟩, fun j j0 j1 => ?_, fun j j0 j1 => ?_, hDst, h11⟩
  · rw [(hk 185 (by (try dsimp only); omega)).1]; exact hsp j j0 j1
  · rw [(hk 186 (by (try dsimp only); omega)).1]; exact hon j j0 j1
theorem MdC.nm {μ μ2 : Mem} {ρ σ : Row} {L : List Ent} (h : MdC μ ρ σ L) (hq : NmQ μ μ2) : MdC μ2 ρ σ L := h.of (hq.1.mono (fun q hq => by (try dsimp only at *); omega)) hq.2.1 (hq.2.2 7 (by decide)) (hq.2.2 8 (by decide))
def NrQ (μ : Mem) (NL : List Nat) : Prop := μ.1 182 6 = NL.length ∧ ∀ (i q : Nat), NL[i]? = some q → μ.1 187 i = q
def dmR (σ ρ : Row) (L : List Ent) (q : Nat) : Int := match L[q]? with
  | some e => dmF σ (tgF ρ e.1) (ρ 5)
  | none => -1
theorem dmR_at {σ ρ : Row} {L : List Ent} {q : Nat} {e : Ent} (h : L[q]? = some e) : dmR σ ρ L q = dmF σ (tgF ρ e.1) (ρ 5) := by unfold dmR; rw [h]
theorem dm_rng {σ : Row} {τ : Int → Int} {S : Int} (h : Dst σ S) (ht : TG τ (σ 11) S) : -1 ≤ dmF σ τ S ∧ dmF σ τ S ≤ 10 := by
  have a := aw_10 h.1 (fT_pi h ht)
  unfold dmF
  split <;> omega
def FI (σ ρ : Row) (L : List Ent) (a : Int) (n : Nat) (best : Int) (NL : List Nat) : Prop := NL.length ≤ n ∧ ((best = -1 ∧ NL = [] ∧ ∀ (q : Nat) (e : Ent), q < n → L[q]? = some e → tkE a e → dmR σ ρ L q = -1) ∨
  ((0 ≤ best ∧ best ≤ 10) ∧ (∀ q : Nat, q ∈ NL ↔ q < n ∧ ∃ e, L[q]? = some e ∧ tkE a e ∧ dmR σ ρ L q = best) ∧ NL ≠ [] ∧ ∀ (q : Nat) (e : Ent), q < n → L[q]? = some e → tkE a e → dmR σ ρ L q ≠ -1 → best ≤ dmR σ ρ L q))
theorem FI.same {σ ρ : Row} {L : List Ent} {a best : Int} {n : Nat} {NL : List Nat} (h : FI σ ρ L a n best NL) (hx : ∀ e, L[n]? = some e → tkE a e → dmR σ ρ L n = -1 ∨ (best ≠ -1 ∧ best < dmR σ ρ L n)) : FI σ ρ L a (n + 1) best NL := by
  obtain ⟨h0, h⟩ := h
  refine ⟨by omega, h.imp (fun ⟨b1, b2, b3⟩ => ⟨b1, b2, fun q e hq he ht => ?_⟩) (fun ⟨b1, b2, b3, b4⟩ => ⟨b1, fun q => ?_, b3, fun q e hq he ht hn => ?_⟩)⟩
  · by_cases c : q = n
    · rw [c] at he ⊢
      rcases hx e he ht with z | z
      · exact z
      · exact absurd b1 z.1
    · exact b3 q e (by omega) he ht
  · rw [b2 q]
    constructor
    · rintro ⟨c1, c2⟩; exact ⟨by omega, c2⟩
    · rintro ⟨c1, e, c2, c3, c4⟩
      by_cases c : q = n
      · rw [c] at c2 c4
        rcases hx e c2 c3 with z | z <;> omega
      · exact ⟨by omega, e, c2, c3, c4⟩
  · by_cases c : q = n
    · rw [c] at he hn ⊢
      rcases hx e he ht with z | z <;> omega
    · exact b4 q e (by omega) he ht hn
theorem FI.new {σ ρ : Row} {L : List Ent} {a best b : Int} {n : Nat} {NL : List Nat} (h : FI σ ρ L a n best NL) {e : Ent} (he : L[n]? = some e) (ht : tkE a e) (hb : dmR σ ρ L n = b) (hr : 0 ≤ b ∧ b ≤ 10) (hx : best = -1 ∨ b < best) : FI σ ρ L a (n + 1) b [n] := by
  obtain ⟨h0, h⟩ := h
  refine ⟨by rw [List.length_singleton]; omega, Or.inr ⟨hr, fun q => ?_, by simp, fun q e' hq he' ht' hn => ?_⟩⟩
  · rw [List.mem_singleton]
    constructor
    · intro z; rw [z]; exact ⟨by omega, e, he, ht, hb⟩
    · rintro ⟨c1, e', c2, c3, c4⟩
      by_cases c : q = n
      · exact c
      · exfalso
        rcases h with ⟨b1, -, b3⟩ | ⟨b1, b2, -, b4⟩
        · have := b3 q e' (by omega) c2 c3; omega
        · have := b4 q e' (by omega) c2 c3 (by omega); omega
  · by_cases c : q = n
    · rw [c]; omega
    · rcases h with ⟨b1, -, b3⟩ | ⟨b1, b2, -, b4⟩
      · have := b3 q e' (by omega) he' ht'; omega
      · have := b4 q e' (by omega) he' ht' hn; omega
theorem FI.app {σ ρ : Row} {L : List Ent} {a best : Int} {n : Nat} {NL : List Nat} (h : FI σ ρ L a n best NL) {e : Ent} (he : L[n]? = some e) (ht : tkE a e) (hb : dmR σ ρ L n = best) (hr : 0 ≤ best) : FI σ ρ L a (n + 1) best (NL ++ [n]) := by
  obtain ⟨h0, h⟩ := h
  rcases h with ⟨b1, -, -⟩ | ⟨b1, b2, b3, b4⟩
  · omega
  · refine ⟨by rw [List.length_append, List.length_singleton]; omega, Or.inr ⟨b1, fun q => ?_, by simp, fun q e' hq he' ht' hn => ?_⟩⟩
    · rw [List.mem_append, List.mem_singleton, b2 q]
      constructor
      · rintro (⟨c1, c2⟩ | c)
        · exact ⟨by omega, c2⟩
        · rw [c]; exact ⟨by omega, e, he, ht, hb⟩
      · rintro ⟨c1, c2⟩
        by_cases c : q = n
        · exact Or.inr c
        · exact Or.inl ⟨by omega, c2⟩
    · by_cases c : q = n
      · rw [c]; omega
      · exact b4 q e' (by omega) he' ht' hn
theorem NrQ.one {μ : Mem} {n : Nat} : NrQ (setI (setI (setI μ 182 6 0) 187 0 n) 182 6 (0 + 1)) [n] := by
  refine ⟨by rw [sI_at]; rfl, fun i q h => ?_⟩
  have hl := (List.getElem?_eq_some_iff.1 h).1
  rw [List.length_singleton] at hl
  obtain rfl : i = 0 := by omega
  have : n = q := by simpa using h
  rw [sI_ne (by omega), ← this]
  exact sI_at
theorem NrQ.app {μ : Mem} {NL : List Nat} {n : Nat} (h : NrQ μ NL) : NrQ (setI (setI (setI μ 182 6 NL.length) 187 NL.length n) 182 6 (NL.length + 1)) (NL ++ [n]) := by
  refine ⟨by rw [sI_at, List.length_append]; simp, fun i q hi => ?_⟩
  rw [sI_ne (by omega)]
  by_cases c : i < NL.length
  · rw [List.getElem?_append_left c] at hi
    rw [sI_nj (by omega), sI_ne (by omega)]
    exact h.2 i q hi
  · have hl := (List.getElem?_eq_some_iff.1 hi).1
    rw [List.length_append, List.length_singleton] at hl
    obtain rfl : i = NL.length := by omega
    rw [List.getElem?_append_right (Nat.le_refl _), Nat.sub_self] at hi
    have : n = q := by simpa using hi
    rw [← this]
    exact sI_at
set_option maxRecDepth 100000 in
set_option maxHeartbeats 4000000 in
theorem c_findNearRows {μ : Mem} {ρ σ : Row} {L : List Ent} (hD : MdC μ ρ σ L) {a : Int} (ha : -2147483648 ≤ a ∧ a < 2147483648) (hbd : ∀ e ∈ L, 0 ≤ e.2.1 ∧ 1 ≤ e.2.2 ∧ e.2.1 + e.2.2 ≤ 100)  : IMet yX4_findNearRows gX4_findNearRows SH [vR 182, vI a] μ (fun x μ2 => ∃ NL, NmQ μ μ2 ∧ NrQ μ2 NL ∧ FI σ ρ L a L.length x NL) := by
  obtain ⟨⟨m0, m2, m3, m4, m5, m9⟩, ⟨hT, hW, hLT⟩, ⟨e7, e8⟩, hsp, hon, hDst, h11⟩ := id hD
  have hN : 0 ≤ ρ 11 ∧ ρ 11 ≤ 5 := by rw [← h11]; exact hDst.1
  have hS : 0 ≤ ρ 5 ∧ ρ 5 ≤ 6 := hDst.2.1
  have x172 : SH[172]? = some (7, 15) := rfl
  have x182 : SH[182]? = some (4, 10) := rfl
  have x184 : SH[184]? = some (20, 10) := rfl
  have x185 : SH[185]? = some (20, 5) := rfl
  have x186 : SH[186]? = some (20, 6) := rfl
  have x187 : SH[187]? = some (20, 720) := rfl
  have honr : ∀ s, -1 ≤ onF σ s ∧ onF σ s < ρ 11 ∨ onF σ s = -1 := fun s => by
    rcases on_spec σ s with ⟨a, -⟩ | ⟨a, -⟩ <;> omega
  have hL720 := hW.2.1
  have lB : ∀ (f n k : Nat) (best : Int) (o4 : Option AV) (μ' : Mem) (NL : List Nat), n < f → k + n = L.length → NmQ μ μ' → NrQ μ' NL → FI σ ρ L a k best NL → AW gX4_findNearRows SH μ' 0 0 9 [some (vR 182), some (vI a), some (vI best), some (vI (k : Int)), o4] [] (fun r2 sh2 μ2 => sh2 = SH ∧ ∃ x, r2 = some (vI x) ∧ ∃ NL, NmQ μ μ2 ∧ NrQ μ2 NL ∧ FI σ ρ L a L.length x NL) := by
    intro f
    induction f with
    | zero => intro n; intros; omega
    | succ f ih =>
      intro n k best o4 μ' NL hf hn2 hq hnr hfi
      have hD' := hD.nm hq
      obtain ⟨⟨m0, m2, m3, m4, m5, m9⟩, ⟨hT, hW, hLT⟩, ⟨e7, e8⟩, hsp, hon, hDst, h11⟩ := id hD'
      have n6 := hnr.1
      have r1 := hW.1
      have hbr : -1 ≤ best ∧ best ≤ 10 := by rcases hfi.2 with ⟨z, -⟩ | ⟨z, -⟩ <;> omega
      have hNL := hfi.1
      by_cases hlt : k < L.length
      · obtain ⟨e, he⟩ : ∃ e, L[k]? = some e := ⟨_, List.getElem?_eq_getElem hlt⟩
        have he2 : 0 ≤ (k : Int) ∧ L[((k : Int)).toNat]? = some e := ⟨by omega, by rw [Int.toNat_natCast]; exact he⟩
        have hb := hbd e (List.mem_of_getElem? he)
        have htg2 : TG (tgF ρ e.1) (σ 11) (ρ 5) := by rw [h11]; exact hLT e (List.mem_of_getElem? he)
        have hdr := dm_rng hDst htg2
        have hda := dmR_at (σ := σ) (ρ := ρ) he
        have kS : (∀ e, L[k]? = some e → tkE a e → dmR σ ρ L k = -1 ∨ (best ≠ -1 ∧ best < dmR σ ρ L k)) → ∀ o4 : Option AV, AW gX4_findNearRows SH μ' 0 0 9 [some (vR 182), some (vI a), some (vI best), some (vI ((k : Int) + 1)), o4] [] (fun r2 sh2 μ2 => sh2 = SH ∧ ∃ x, r2 = some (vI x) ∧ ∃ NL, NmQ μ μ2 ∧ NrQ μ2 NL ∧ FI σ ρ L a L.length x NL) := fun hx o4 => by
          have := ih (n - 1) (k + 1) best o4 μ' NL (by omega) (by omega) hq hnr (hfi.same hx)
          rw [show ((k + 1 : Nat) : Int) = (k : Int) + 1 by omega] at this
          exact this
        have h43 : ∀ x : Int, ((x = -1 ∧ (tkE a e → dmR σ ρ L k = -1)) ∨ (0 ≤ x ∧ tkE a e ∧ dmR σ ρ L k = x)) → AW gX4_findNearRows SH μ' 0 0 41 [some (vR 182), some (vI a), some (vI best), some (vI (k : Int)), o4] [vI x] (fun r2 sh2 μ2 => sh2 = SH ∧ ∃ x, r2 = some (vI x) ∧ ∃ NL, NmQ μ μ2 ∧ NrQ μ2 NL ∧ FI σ ρ L a L.length x NL) := by
          intro x hx
          have hxr : -1 ≤ x ∧ x ≤ 10 := by rcases hx with ⟨z, -⟩ | ⟨z, -, y⟩ <;> omega
          have hsame : (x = -1 ∨ (best ≠ -1 ∧ best < x)) → ∀ e, L[k]? = some e → tkE a e → dmR σ ρ L k = -1 ∨ (best ≠ -1 ∧ best < dmR σ ρ L k) := fun hh e' he' ht => by
            rw [he] at he'
            obtain rfl : e = e' := by simpa using he'
            rcases hx with ⟨z, y⟩ | ⟨z, y, w⟩
            · exact Or.inl (y ht)
            · exact Or.inr ⟨by omega, by omega⟩
          have hx2 : x ≠ -1 → 0 ≤ x ∧ tkE a e ∧ dmR σ ρ L k = x := fun hh => by
            rcases hx with ⟨z, -⟩ | z
            · exact absurd z hh
            · exact z
          have kNew : x ≠ -1 → (best = -1 ∨ x < best) → AW gX4_findNearRows SH (setI (setI (setI μ' 182 6 0) 187 0 k) 182 6 (0 + 1)) 0 0 9 [some (vR 182), some (vI a), some (vI x), some (vI ((k : Int) + 1)), some (vI x)] [] (fun r2 sh2 μ2 => sh2 = SH ∧ ∃ x, r2 = some (vI x) ∧ ∃ NL, NmQ μ μ2 ∧ NrQ μ2 NL ∧ FI σ ρ L a L.length x NL) := fun hh hh2 => by
            have q := hx2 hh
            have := ih (n - 1) (k + 1) x (some (vI x)) _ [k] (by omega) (by omega) (((hq.s6 0).s7 0 k).s6 (0 + 1)) NrQ.one (hfi.new he q.2.1 q.2.2 ⟨q.1, hxr.2⟩ hh2)
            rw [show ((k + 1 : Nat) : Int) = (k : Int) + 1 by omega] at this
            exact this
          have kApp : x ≠ -1 → x = best → AW gX4_findNearRows SH (setI (setI (setI μ' 182 6 NL.length) 187 NL.length k) 182 6 (NL.length + 1)) 0 0 9 [some (vR 182), some (vI a), some (vI x), some (vI ((k : Int) + 1)), some (vI x)] [] (fun r2 sh2 μ2 => sh2 = SH ∧ ∃ x, r2 = some (vI x) ∧ ∃ NL, NmQ μ μ2 ∧ NrQ μ2 NL ∧ FI σ ρ L a L.length x NL) := fun hh hh2 => by
            have q := hx2 hh
            subst hh2
            have := ih (n - 1) (k + 1) x (some (vI x)) _ (NL ++ [k]) (by omega) (by omega) (((hq.s6 NL.length).s7 NL.length k).s6 (NL.length + 1)) hnr.app (hfi.app he q.2.1 q.2.2 q.1)
            rw [show ((k + 1 : Nat) : Int) = (k : Int) + 1 by omega] at this
            exact this
          refine r_istore dX4_findNearRows_41 rfl ?_
          refine r_iload dX4_findNearRows_43 rfl ?_
          refine r_iconst dX4_findNearRows_45 ?_
          refine q_icmp_eq (tgt := 104) dX4_findNearRows_46 rfl (by omega) (by omega) (fun c46 => ?_) (fun c46 => ?_)
          · refine r_iinc dX4_findNearRows_104 rfl rfl ?_
            refine r_goto (tgt := 9) dX4_findNearRows_107 rfl ?_
            exact kS (hsame (Or.inl c46)) _
          · refine r_iload_n dX4_findNearRows_49 rfl ?_
            refine r_iconst dX4_findNearRows_50 ?_
            refine q_icmp_eq (tgt := 63) dX4_findNearRows_51 rfl (by omega) (by omega) (fun c51 => ?_) (fun c51 => ?_)
            · refine r_aload_n dX4_findNearRows_63 rfl ?_
              refine r_iload dX4_findNearRows_64 rfl ?_
              refine r_iload_n dX4_findNearRows_66 rfl ?_
              refine q_icmp_ne (tgt := 77) dX4_findNearRows_67 rfl (by omega) (by omega) (fun c67 => ?_) (fun c67 => ?_)
              · refine r_iconst dX4_findNearRows_77 ?_
                refine r_putI dX4_findNearRows_78 fl_X4_98 (by assumption) ?_
                refine r_iload dX4_findNearRows_81 rfl ?_
                refine r_istore_n dX4_findNearRows_83 rfl ?_
                refine r_aload_n dX4_findNearRows_84 rfl ?_
                refine r_getR dX4_findNearRows_85 fl_X4_26 rfl (by assumption) (by assumption) ?_
                refine r_aload_n dX4_findNearRows_88 rfl ?_
                refine r_getI dX4_findNearRows_89 fl_X4_98 rfl (by assumption) ?_
                (first | rw [sI_at] | rw [sI_ne (by omega), sI_at] | rw [n6] | skip)
                refine r_iload_n dX4_findNearRows_92 rfl ?_
                refine r_iast dX4_findNearRows_93 (by assumption) rfl (by omega) ?_
                refine r_aload_n dX4_findNearRows_94 rfl ?_
                refine r_dup dX4_findNearRows_95 rfl ?_
                refine r_getI dX4_findNearRows_96 fl_X4_98 rfl (by assumption) ?_
                (first | rw [sI_at] | rw [sI_ne (by omega), sI_at] | rw [n6] | skip)
                refine r_iconst dX4_findNearRows_99 ?_
                refine r_iadd dX4_findNearRows_100 ?_
                refine r_putI dX4_findNearRows_101 fl_X4_98 (by assumption) ?_
                refine r_iinc dX4_findNearRows_104 rfl rfl ?_
                refine r_goto (tgt := 9) dX4_findNearRows_107 rfl ?_
                exact kNew (by omega) (by omega)
              · by_cases hcb : best = -1
                · exfalso; omega
                refine r_aload_n dX4_findNearRows_70 rfl ?_
                refine r_getI dX4_findNearRows_71 fl_X4_98 rfl (by assumption) ?_
                (first | rw [sI_at] | rw [sI_ne (by omega), sI_at] | rw [n6] | skip)
                refine r_goto (tgt := 78) dX4_findNearRows_74 rfl ?_
                refine r_putI dX4_findNearRows_78 fl_X4_98 (by assumption) ?_
                refine r_iload dX4_findNearRows_81 rfl ?_
                refine r_istore_n dX4_findNearRows_83 rfl ?_
                refine r_aload_n dX4_findNearRows_84 rfl ?_
                refine r_getR dX4_findNearRows_85 fl_X4_26 rfl (by assumption) (by assumption) ?_
                refine r_aload_n dX4_findNearRows_88 rfl ?_
                refine r_getI dX4_findNearRows_89 fl_X4_98 rfl (by assumption) ?_
                (first | rw [sI_at] | rw [sI_ne (by omega), sI_at] | rw [n6] | skip)
                refine r_iload_n dX4_findNearRows_92 rfl ?_
                refine r_iast dX4_findNearRows_93 (by assumption) rfl (by omega) ?_
                refine r_aload_n dX4_findNearRows_94 rfl ?_
                refine r_dup dX4_findNearRows_95 rfl ?_
                refine r_getI dX4_findNearRows_96 fl_X4_98 rfl (by assumption) ?_
                (first | rw [sI_at] | rw [sI_ne (by omega), sI_at] | rw [n6] | skip)
                refine r_iconst dX4_findNearRows_99 ?_
                refine r_iadd dX4_findNearRows_100 ?_
                refine r_putI dX4_findNearRows_101 fl_X4_98 (by assumption) ?_
                refine r_iinc dX4_findNearRows_104 rfl rfl ?_
                refine r_goto (tgt := 9) dX4_findNearRows_107 rfl ?_
                exact kApp (by omega) (by omega)
            · refine r_iload dX4_findNearRows_54 rfl ?_
              refine r_iload_n dX4_findNearRows_56 rfl ?_
              refine q_icmp_le (tgt := 63) dX4_findNearRows_57 rfl (by omega) (by omega) (fun c57 => ?_) (fun c57 => ?_)
              · refine r_aload_n dX4_findNearRows_63 rfl ?_
                refine r_iload dX4_findNearRows_64 rfl ?_
                refine r_iload_n dX4_findNearRows_66 rfl ?_
                refine q_icmp_ne (tgt := 77) dX4_findNearRows_67 rfl (by omega) (by omega) (fun c67 => ?_) (fun c67 => ?_)
                · refine r_iconst dX4_findNearRows_77 ?_
                  refine r_putI dX4_findNearRows_78 fl_X4_98 (by assumption) ?_
                  refine r_iload dX4_findNearRows_81 rfl ?_
                  refine r_istore_n dX4_findNearRows_83 rfl ?_
                  refine r_aload_n dX4_findNearRows_84 rfl ?_
                  refine r_getR dX4_findNearRows_85 fl_X4_26 rfl (by assumption) (by assumption) ?_
                  refine r_aload_n dX4_findNearRows_88 rfl ?_
                  refine r_getI dX4_findNearRows_89 fl_X4_98 rfl (by assumption) ?_
                  (first | rw [sI_at] | rw [sI_ne (by omega), sI_at] | rw [n6] | skip)
                  refine r_iload_n dX4_findNearRows_92 rfl ?_
                  refine r_iast dX4_findNearRows_93 (by assumption) rfl (by omega) ?_
                  refine r_aload_n dX4_findNearRows_94 rfl ?_
                  refine r_dup dX4_findNearRows_95 rfl ?_
                  refine r_getI dX4_findNearRows_96 fl_X4_98 rfl (by assumption) ?_
                  (first | rw [sI_at] | rw [sI_ne (by omega), sI_at] | rw [n6] | skip)
                  refine r_iconst dX4_findNearRows_99 ?_
                  refine r_iadd dX4_findNearRows_100 ?_
                  refine r_putI dX4_findNearRows_101 fl_X4_98 (by assumption) ?_
                  refine r_iinc dX4_findNearRows_104 rfl rfl ?_
                  refine r_goto (tgt := 9) dX4_findNearRows_107 rfl ?_
                  exact kNew (by omega) (by omega)
                · by_cases hcb : best = -1
                  · exfalso; omega
                  refine r_aload_n dX4_findNearRows_70 rfl ?_
                  refine r_getI dX4_findNearRows_71 fl_X4_98 rfl (by assumption) ?_
                  (first | rw [sI_at] | rw [sI_ne (by omega), sI_at] | rw [n6] | skip)
                  refine r_goto (tgt := 78) dX4_findNearRows_74 rfl ?_
                  refine r_putI dX4_findNearRows_78 fl_X4_98 (by assumption) ?_
                  refine r_iload dX4_findNearRows_81 rfl ?_
                  refine r_istore_n dX4_findNearRows_83 rfl ?_
                  refine r_aload_n dX4_findNearRows_84 rfl ?_
                  refine r_getR dX4_findNearRows_85 fl_X4_26 rfl (by assumption) (by assumption) ?_
                  refine r_aload_n dX4_findNearRows_88 rfl ?_
                  refine r_getI dX4_findNearRows_89 fl_X4_98 rfl (by assumption) ?_
                  (first | rw [sI_at] | rw [sI_ne (by omega), sI_at] | rw [n6] | skip)
                  refine r_iload_n dX4_findNearRows_92 rfl ?_
                  refine r_iast dX4_findNearRows_93 (by assumption) rfl (by omega) ?_
                  refine r_aload_n dX4_findNearRows_94 rfl ?_
                  refine r_dup dX4_findNearRows_95 rfl ?_
                  refine r_getI dX4_findNearRows_96 fl_X4_98 rfl (by assumption) ?_
                  (first | rw [sI_at] | rw [sI_ne (by omega), sI_at] | rw [n6] | skip)
                  refine r_iconst dX4_findNearRows_99 ?_
                  refine r_iadd dX4_findNearRows_100 ?_
                  refine r_putI dX4_findNearRows_101 fl_X4_98 (by assumption) ?_
                  refine r_iinc dX4_findNearRows_104 rfl rfl ?_
                  refine r_goto (tgt := 9) dX4_findNearRows_107 rfl ?_
                  exact kApp (by omega) (by omega)
              · refine r_goto (tgt := 104) dX4_findNearRows_60 rfl ?_
                refine r_iinc dX4_findNearRows_104 rfl rfl ?_
                refine r_goto (tgt := 9) dX4_findNearRows_107 rfl ?_
                exact kS (hsame (Or.inr ⟨by omega, by omega⟩)) _
        refine r_iload_n dX4_findNearRows_9 rfl ?_
        refine r_aload_n dX4_findNearRows_10 rfl ?_
        refine r_getR dX4_findNearRows_11 fl_X4_39 rfl (by assumption) (by assumption) ?_
        refine r_getI dX4_findNearRows_14 fl_X4_101 rfl (by assumption) ?_
        (try rw [r1])
        refine q_icmp_ge (tgt := 110) dX4_findNearRows_17 rfl (by omega) (by omega) (fun c17 => ?_) (fun c17 => ?_)
        · exact absurd c17 (by omega)
        · refine r_aload_n dX4_findNearRows_20 rfl ?_
          refine r_getR dX4_findNearRows_21 fl_X4_39 rfl (by assumption) (by assumption) ?_
          refine r_iload_n dX4_findNearRows_24 rfl ?_
          refine r_iload_n dX4_findNearRows_25 rfl ?_
          refine r_cV2F1 dX4_findNearRows_26 ml_X4_104 yl_X8_takesAmount ⟨rfl, rfl⟩ (by assumption) ⟨_, rfl⟩ rfl rfl rfl rfl (c_takesAmount hT hW (by omega) ha he2 ⟨hb.1, by omega⟩ ⟨by omega, by omega⟩) ?_
          refine r_if_eqB (tgt := 40) dX4_findNearRows_29 rfl (fun c29 => ?_) (fun c29 => ?_)
          · have c29 := of_decide_eq_false c29
            refine r_iconst dX4_findNearRows_40 ?_
            first
            | (refine h43 _ ?_
               rw [hda]
               by_cases z : dmF σ (tgF ρ e.1) (ρ 5) = -1
               · exact Or.inl ⟨z, fun _ => z⟩
               · exact Or.inr ⟨by omega, c29, rfl⟩)
            | exact h43 _ (Or.inl ⟨rfl, fun z => absurd z c29⟩)
          · have c29 := of_decide_eq_true c29
            refine r_aload_n dX4_findNearRows_32 rfl ?_
            refine r_iload_n dX4_findNearRows_33 rfl ?_
            refine r_cV1F1 dX4_findNearRows_34 ml_X4_108 yl_X4_movesTo ⟨rfl, rfl⟩ (by assumption) ⟨_, rfl⟩ rfl rfl rfl rfl (c_movesTo hD' he2) ?_
            refine r_goto (tgt := 41) dX4_findNearRows_37 rfl ?_
            first
            | (refine h43 _ ?_
               rw [hda]
               by_cases z : dmF σ (tgF ρ e.1) (ρ 5) = -1
               · exact Or.inl ⟨z, fun _ => z⟩
               · exact Or.inr ⟨by omega, c29, rfl⟩)
            | exact h43 _ (Or.inl ⟨rfl, fun z => absurd z c29⟩)
      · obtain rfl : k = L.length := by omega
        refine r_iload_n dX4_findNearRows_9 rfl ?_
        refine r_aload_n dX4_findNearRows_10 rfl ?_
        refine r_getR dX4_findNearRows_11 fl_X4_39 rfl (by assumption) (by assumption) ?_
        refine r_getI dX4_findNearRows_14 fl_X4_101 rfl (by assumption) ?_
        (try rw [r1])
        refine q_icmp_ge (tgt := 110) dX4_findNearRows_17 rfl (by omega) (by omega) (fun c17 => ?_) (fun c17 => ?_)
        · refine r_iload_n dX4_findNearRows_110 rfl ?_
          refine r_ireturn dX4_findNearRows_111 rfl rfl rfl ?_
          exact ⟨rfl, _, rfl, NL, hq, hnr, hfi⟩
        · exact absurd c17 (by omega)
  refine AMet.of (by decide) rfl (by decide) rfl ?_
  refine r_iconst dX4_findNearRows_0 ?_
  refine r_istore_n dX4_findNearRows_1 rfl ?_
  refine r_aload_n dX4_findNearRows_2 rfl ?_
  refine r_iconst dX4_findNearRows_3 ?_
  refine r_putI dX4_findNearRows_4 fl_X4_98 (by assumption) ?_
  refine r_iconst dX4_findNearRows_7 ?_
  refine r_istore_n dX4_findNearRows_8 rfl ?_
  exact lB _ L.length 0 (-1) _ _ [] (Nat.lt_succ_self _) (by omega) ((NmQ.rf μ).s6 0) ⟨sI_at, fun i q h => absurd h (by simp)⟩ ⟨Nat.zero_le _, Or.inl ⟨rfl, rfl, fun q e hq => by omega⟩⟩
def kpL (σ ρ : Row) (L : List Ent) (d : Int) (NL : List Nat) : List Nat := NL.filter (fun q => decide (dmR σ ρ L q = d))
theorem kpL_s {σ ρ : Row} {L : List Ent} {d : Int} {NL : List Nat} {i q : Nat} (h : NL[i]? = some q) : kpL σ ρ L d (NL.take (i + 1)) = kpL σ ρ L d (NL.take i) ++ (if dmR σ ρ L q = d then [q] else []) := by
  obtain ⟨hl, e⟩ := List.getElem?_eq_some_iff.1 h
  unfold kpL
  rw [← List.take_append_getElem hl, List.filter_append, e]
  congr 1
  by_cases c : dmR σ ρ L q = d
  · rw [if_pos c, List.filter_cons_of_pos (by simpa using c)]; rfl
  · rw [if_neg c, List.filter_cons_of_neg (by simpa using c)]; rfl
theorem kpL_le {σ ρ : Row} {L : List Ent} {d : Int} {NL : List Nat} {i : Nat} : (kpL σ ρ L d (NL.take i)).length ≤ i := by
  unfold kpL
  refine Nat.le_trans (List.length_filter_le _ _) ?_
  rw [List.length_take]
  omega
set_option maxRecDepth 100000 in
set_option maxHeartbeats 4000000 in
theorem c_keepNearRows {μ : Mem} {ρ σ : Row} {L : List Ent} (hD : MdC μ ρ σ L) {d : Int} (hd0 : -2147483648 ≤ d ∧ d < 2147483648) {NL : List Nat} (hnr : NrQ μ NL) (hlen : NL.length ≤ 720) (hNL : ∀ q ∈ NL, ∃ e, L[q]? = some e)  : VMet yX4_keepNearRows gX4_keepNearRows SH [vR 182, vI d] μ (fun μ2 => NmQ μ μ2 ∧ NrQ μ2 (kpL σ ρ L d NL)) := by
  obtain ⟨⟨m0, m2, m3, m4, m5, m9⟩, ⟨hT, hW, hLT⟩, ⟨e7, e8⟩, hsp, hon, hDst, h11⟩ := id hD
  have hN : 0 ≤ ρ 11 ∧ ρ 11 ≤ 5 := by rw [← h11]; exact hDst.1
  have hS : 0 ≤ ρ 5 ∧ ρ 5 ≤ 6 := hDst.2.1
  have x172 : SH[172]? = some (7, 15) := rfl
  have x182 : SH[182]? = some (4, 10) := rfl
  have x184 : SH[184]? = some (20, 10) := rfl
  have x185 : SH[185]? = some (20, 5) := rfl
  have x186 : SH[186]? = some (20, 6) := rfl
  have x187 : SH[187]? = some (20, 720) := rfl
  have honr : ∀ s, -1 ≤ onF σ s ∧ onF σ s < ρ 11 ∨ onF σ s = -1 := fun s => by
    rcases on_spec σ s with ⟨a, -⟩ | ⟨a, -⟩ <;> omega
  have lB : ∀ (f n k : Nat) (μ' : Mem), n < f → k + n = NL.length → NmQ μ μ' → μ'.1 182 6 = NL.length → (∀ (j q : Nat), k ≤ j → NL[j]? = some q → μ'.1 187 j = q) → (∀ (j q : Nat), (kpL σ ρ L d (NL.take k))[j]? = some q → μ'.1 187 j = q) → AW gX4_keepNearRows SH μ' 0 0 4 [some (vR 182), some (vI d), some (vI ((kpL σ ρ L d (NL.take k)).length : Int)), some (vI (k : Int))] [] (fun r2 sh2 μ2 => r2 = none ∧ sh2 = SH ∧ NmQ μ μ2 ∧ NrQ μ2 (kpL σ ρ L d NL)) := by
    intro f
    induction f with
    | zero => intro n; intros; omega
    | succ f ih =>
      intro n k μ' hf hn2 hq n6 hold hnew
      have hD' := hD.nm hq
      obtain ⟨⟨m0, m2, m3, m4, m5, m9⟩, ⟨hT, hW, hLT⟩, ⟨e7, e8⟩, hsp, hon, hDst, h11⟩ := id hD'
      have hle := kpL_le (σ := σ) (ρ := ρ) (L := L) (d := d) (NL := NL) (i := k)
      by_cases hlt : k < NL.length
      · obtain ⟨q, hkq⟩ : ∃ q, NL[k]? = some q := ⟨_, List.getElem?_eq_getElem hlt⟩
        obtain ⟨e, he⟩ := hNL q (List.mem_of_getElem? hkq)
        have h187 := hold k q (Nat.le_refl _) hkq
        have hda := dmR_at (σ := σ) (ρ := ρ) he
        have hst := kpL_s (σ := σ) (ρ := ρ) (L := L) (d := d) hkq
        have htg2 : TG (tgF ρ e.1) (σ 11) (ρ 5) := by rw [h11]; exact hLT e (List.mem_of_getElem? he)
        have hdr := dm_rng hDst htg2
        refine r_iload_n dX4_keepNearRows_4 rfl ?_
        refine r_aload_n dX4_keepNearRows_5 rfl ?_
        refine r_getI dX4_keepNearRows_6 fl_X4_98 rfl (by assumption) ?_
        rw [n6]
        refine q_icmp_ge (tgt := 47) dX4_keepNearRows_9 rfl (by omega) (by omega) (fun c9 => ?_) (fun c9 => ?_)
        · exact absurd c9 (by omega)
        · refine r_aload_n dX4_keepNearRows_12 rfl ?_
          refine r_aload_n dX4_keepNearRows_13 rfl ?_
          refine r_getR dX4_keepNearRows_14 fl_X4_26 rfl (by assumption) (by assumption) ?_
          refine r_iload_n dX4_keepNearRows_17 rfl ?_
          refine r_iald dX4_keepNearRows_18 (by assumption) rfl (by omega) ?_
          rw [h187]
          refine r_cV1F1 dX4_keepNearRows_19 ml_X4_108 yl_X4_movesTo ⟨rfl, rfl⟩ (by assumption) ⟨_, rfl⟩ rfl rfl rfl rfl (c_movesTo hD' (r := (q : Int)) (e := e) ⟨by omega, by rw [Int.toNat_natCast]; exact he⟩) ?_
          rw [← hda]
          refine r_iload_n dX4_keepNearRows_22 rfl ?_
          refine q_icmp_ne (tgt := 41) dX4_keepNearRows_23 rfl (by omega) (by omega) (fun c23 => ?_) (fun c23 => ?_)
          · refine r_iinc dX4_keepNearRows_41 rfl rfl ?_
            refine r_goto (tgt := 4) dX4_keepNearRows_44 rfl ?_
            first
            | (rw [if_pos c23] at hst
               have h := ih (n - 1) (k + 1) (setI μ' 187 ((kpL σ ρ L d (NL.take k)).length : Int) q) (by omega) (by omega) (hq.s7 _ _) ((sI_ne (by omega)).trans n6) (fun j q' hj hjq => by
                 rw [sI_nj (by omega)]; exact hold j q' (by omega) hjq) (fun j q' hjq => by
                 rw [hst] at hjq
                 by_cases c : j < (kpL σ ρ L d (NL.take k)).length
                 · rw [List.getElem?_append_left c] at hjq
                   rw [sI_nj (by omega)]
                   exact hnew j q' hjq
                 · have hl := (List.getElem?_eq_some_iff.1 hjq).1
                   rw [List.length_append, List.length_singleton] at hl
                   obtain rfl : j = (kpL σ ρ L d (NL.take k)).length := by omega
                   rw [List.getElem?_append_right (Nat.le_refl _), Nat.sub_self] at hjq
                   have z : q = q' := by simpa using hjq
                   rw [sI_at, z])
               rw [hst, List.length_append, List.length_singleton, show (((kpL σ ρ L d (NL.take k)).length + 1 : Nat) : Int) = ((kpL σ ρ L d (NL.take k)).length : Int) + 1 by omega, show ((k + 1 : Nat) : Int) = (k : Int) + 1 by omega] at h
               exact h)
            | (rw [if_neg c23, List.append_nil] at hst
               have h := ih (n - 1) (k + 1) μ' (by omega) (by omega) hq n6 (fun j q' hj hjq => hold j q' (by omega) hjq) (fun j q' hjq => by rw [hst] at hjq; exact hnew j q' hjq)
               rw [hst, show ((k + 1 : Nat) : Int) = (k : Int) + 1 by omega] at h
               exact h)
          · refine r_aload_n dX4_keepNearRows_26 rfl ?_
            refine r_getR dX4_keepNearRows_27 fl_X4_26 rfl (by assumption) (by assumption) ?_
            refine r_iload_n dX4_keepNearRows_30 rfl ?_
            refine r_aload_n dX4_keepNearRows_31 rfl ?_
            refine r_getR dX4_keepNearRows_32 fl_X4_26 rfl (by assumption) (by assumption) ?_
            refine r_iload_n dX4_keepNearRows_35 rfl ?_
            refine r_iald dX4_keepNearRows_36 (by assumption) rfl (by omega) ?_
            rw [h187]
            refine r_iast dX4_keepNearRows_37 (by assumption) rfl (by omega) ?_
            refine r_iinc dX4_keepNearRows_38 rfl rfl ?_
            refine r_iinc dX4_keepNearRows_41 rfl rfl ?_
            refine r_goto (tgt := 4) dX4_keepNearRows_44 rfl ?_
            first
            | (rw [if_pos c23] at hst
               have h := ih (n - 1) (k + 1) (setI μ' 187 ((kpL σ ρ L d (NL.take k)).length : Int) q) (by omega) (by omega) (hq.s7 _ _) ((sI_ne (by omega)).trans n6) (fun j q' hj hjq => by
                 rw [sI_nj (by omega)]; exact hold j q' (by omega) hjq) (fun j q' hjq => by
                 rw [hst] at hjq
                 by_cases c : j < (kpL σ ρ L d (NL.take k)).length
                 · rw [List.getElem?_append_left c] at hjq
                   rw [sI_nj (by omega)]
                   exact hnew j q' hjq
                 · have hl := (List.getElem?_eq_some_iff.1 hjq).1
                   rw [List.length_append, List.length_singleton] at hl
                   obtain rfl : j = (kpL σ ρ L d (NL.take k)).length := by omega
                   rw [List.getElem?_append_right (Nat.le_refl _), Nat.sub_self] at hjq
                   have z : q = q' := by simpa using hjq
                   rw [sI_at, z])
               rw [hst, List.length_append, List.length_singleton, show (((kpL σ ρ L d (NL.take k)).length + 1 : Nat) : Int) = ((kpL σ ρ L d (NL.take k)).length : Int) + 1 by omega, show ((k + 1 : Nat) : Int) = (k : Int) + 1 by omega] at h
               exact h)
            | (rw [if_neg c23, List.append_nil] at hst
               have h := ih (n - 1) (k + 1) μ' (by omega) (by omega) hq n6 (fun j q' hj hjq => hold j q' (by omega) hjq) (fun j q' hjq => by rw [hst] at hjq; exact hnew j q' hjq)
               rw [hst, show ((k + 1 : Nat) : Int) = (k : Int) + 1 by omega] at h
               exact h)
      · obtain rfl : k = NL.length := by omega
        rw [List.take_of_length_le (Nat.le_refl _)] at hnew ⊢
        refine r_iload_n dX4_keepNearRows_4 rfl ?_
        refine r_aload_n dX4_keepNearRows_5 rfl ?_
        refine r_getI dX4_keepNearRows_6 fl_X4_98 rfl (by assumption) ?_
        rw [n6]
        refine q_icmp_ge (tgt := 47) dX4_keepNearRows_9 rfl (by omega) (by omega) (fun c9 => ?_) (fun c9 => ?_)
        · refine r_aload_n dX4_keepNearRows_47 rfl ?_
          refine r_iload_n dX4_keepNearRows_48 rfl ?_
          refine r_putI dX4_keepNearRows_49 fl_X4_98 (by assumption) ?_
          refine r_return dX4_keepNearRows_52 rfl rfl rfl ?_
          exact ⟨rfl, rfl, hq.s6 _, sI_at, fun i q h => by rw [sI_ne (by omega)]; exact hnew i q h⟩
        · exact absurd c9 (by omega)
  refine AMet.of (by decide) rfl (by decide) rfl ?_
  refine r_iconst dX4_keepNearRows_0 ?_
  refine r_istore_n dX4_keepNearRows_1 rfl ?_
  refine r_iconst dX4_keepNearRows_2 ?_
  refine r_istore_n dX4_keepNearRows_3 rfl ?_
  have h := lB _ NL.length 0 μ (Nat.lt_succ_self _) (by omega) (NmQ.rf _) hnr.1 (fun j q _ hj => hnr.2 j q hj) (fun j q hj => by rw [List.take_zero] at hj; exact absurd hj (by simp [kpL]))
  rw [List.take_zero] at h
  exact h
def lmR (σ ρ : Row) (L : List Ent) (away : Int) (q : Nat) : Int := match L[q]? with
  | some e => lmF σ (tgF ρ e.1) (ρ 5) away
  | none => -1
theorem lmR_at {σ ρ : Row} {L : List Ent} {away : Int} {q : Nat} {e : Ent} (h : L[q]? = some e) : lmR σ ρ L away q = lmF σ (tgF ρ e.1) (ρ 5) away := by unfold lmR; rw [h]
set_option maxRecDepth 100000 in
set_option maxHeartbeats 4000000 in
theorem c_leastMove {μ : Mem} {ρ σ : Row} {L : List Ent} (hD : MdC μ ρ σ L) {away : Int} (ha : -2147483648 ≤ away ∧ away < 2147483648) {NL : List Nat} (hnr : NrQ μ NL) (hlen : NL.length ≤ 720) (hNL : ∀ q ∈ NL, ∃ e, L[q]? = some e) (hne : NL ≠ []) (hlm : ∀ q ∈ NL, 0 ≤ lmR σ ρ L away q ∧ lmR σ ρ L away q < 100)  : IMet yX4_leastMove gX4_leastMove SH [vR 182, vI away] μ (fun x μ2 => μ2 = μ ∧ (∃ q ∈ NL, x = lmR σ ρ L away q) ∧ ∀ q ∈ NL, x ≤ lmR σ ρ L away q) := by
  obtain ⟨⟨m0, m2, m3, m4, m5, m9⟩, ⟨hT, hW, hLT⟩, ⟨e7, e8⟩, hsp, hon, hDst, h11⟩ := id hD
  have hN : 0 ≤ ρ 11 ∧ ρ 11 ≤ 5 := by rw [← h11]; exact hDst.1
  have hS : 0 ≤ ρ 5 ∧ ρ 5 ≤ 6 := hDst.2.1
  have x172 : SH[172]? = some (7, 15) := rfl
  have x182 : SH[182]? = some (4, 10) := rfl
  have x184 : SH[184]? = some (20, 10) := rfl
  have x185 : SH[185]? = some (20, 5) := rfl
  have x186 : SH[186]? = some (20, 6) := rfl
  have x187 : SH[187]? = some (20, 720) := rfl
  have honr : ∀ s, -1 ≤ onF σ s ∧ onF σ s < ρ 11 ∨ onF σ s = -1 := fun s => by
    rcases on_spec σ s with ⟨a, -⟩ | ⟨a, -⟩ <;> omega
  have hL720 := hW.2.1
  have lB : ∀ (f n k : Nat) (best : Int) (o4 : Option AV), n < f → k + n = NL.length → ((k = 0 ∧ best = -1) ∨ ((0 ≤ best ∧ best < 100) ∧ (∃ q ∈ NL, best = lmR σ ρ L away q) ∧ ∀ (j q : Nat), j < k → NL[j]? = some q → best ≤ lmR σ ρ L away q)) → AW gX4_leastMove SH μ 0 0 4 [some (vR 182), some (vI away), some (vI best), some (vI (k : Int)), o4] [] (fun r2 sh2 μ2 => sh2 = SH ∧ ∃ x, r2 = some (vI x) ∧ μ2 = μ ∧ (∃ q ∈ NL, x = lmR σ ρ L away q) ∧ ∀ q ∈ NL, x ≤ lmR σ ρ L away q) := by
    intro f
    induction f with
    | zero => intro n; intros; omega
    | succ f ih =>
      intro n k best o4 hf hn2 hb
      have n6 := hnr.1
      have hbr : -1 ≤ best ∧ best < 100 := by rcases hb with z | z <;> omega
      by_cases hlt : k < NL.length
      · obtain ⟨q, hkq⟩ : ∃ q, NL[k]? = some q := ⟨_, List.getElem?_eq_getElem hlt⟩
        have hqm := List.mem_of_getElem? hkq
        obtain ⟨e, he⟩ := hNL q hqm
        have h187 := hnr.2 k q hkq
        have hla := lmR_at (σ := σ) (ρ := ρ) (away := away) he
        have hl0 := hlm q hqm
        have hql : q < L.length := (List.getElem?_eq_some_iff.1 he).1
        refine r_iload_n dX4_leastMove_4 rfl ?_
        refine r_aload_n dX4_leastMove_5 rfl ?_
        refine r_getI dX4_leastMove_6 fl_X4_98 rfl (by assumption) ?_
        rw [n6]
        refine q_icmp_ge (tgt := 51) dX4_leastMove_9 rfl (by omega) (by omega) (fun c9 => ?_) (fun c9 => ?_)
        · exact absurd c9 (by omega)
        · refine r_aload_n dX4_leastMove_12 rfl ?_
          refine r_aload_n dX4_leastMove_13 rfl ?_
          refine r_getR dX4_leastMove_14 fl_X4_26 rfl (by assumption) (by assumption) ?_
          refine r_iload_n dX4_leastMove_17 rfl ?_
          refine r_iald dX4_leastMove_18 (by assumption) rfl (by omega) ?_
          rw [h187]
          refine r_iload_n dX4_leastMove_19 rfl ?_
          refine r_cV2F1 dX4_leastMove_20 ml_X4_120 yl_X4_leastMoveTo ⟨rfl, rfl⟩ (by assumption) ⟨_, rfl⟩ rfl rfl rfl rfl (c_leastMoveTo hD (r := (q : Int)) (e := e) ⟨by omega, by rw [Int.toNat_natCast]; exact he⟩ ha) ?_
          rw [← hla]
          refine r_istore dX4_leastMove_23 rfl ?_
          refine r_iload dX4_leastMove_25 rfl ?_
          refine r_iconst dX4_leastMove_27 ?_
          refine q_icmp_eq (tgt := 45) dX4_leastMove_28 rfl (by omega) (by omega) (fun c28 => ?_) (fun c28 => ?_)
          · exact absurd c28 (by omega)
          · refine r_iload_n dX4_leastMove_31 rfl ?_
            refine r_iconst dX4_leastMove_32 ?_
            refine q_icmp_eq (tgt := 42) dX4_leastMove_33 rfl (by omega) (by omega) (fun c33 => ?_) (fun c33 => ?_)
            · refine r_iload dX4_leastMove_42 rfl ?_
              refine r_istore_n dX4_leastMove_44 rfl ?_
              refine r_iinc dX4_leastMove_45 rfl rfl ?_
              refine r_goto (tgt := 4) dX4_leastMove_48 rfl ?_
              have hmin : ∀ b : Int, b ≤ lmR σ ρ L away q → (k = 0 ∨ b ≤ best) → ∀ (j q' : Nat), j < k + 1 → NL[j]? = some q' → b ≤ lmR σ ρ L away q' := fun b h1 h2 j q' hj hjq => by
                by_cases c : j = k
                · rw [c, hkq] at hjq
                  obtain rfl : q = q' := by simpa using hjq
                  exact h1
                · rcases hb with ⟨z, -⟩ | ⟨-, -, z⟩
                  · omega
                  · have := z j q' (by omega) hjq
                    rcases h2 with h2 | h2 <;> omega
              first
              | (have h := ih (n - 1) (k + 1) (lmR σ ρ L away q) (some (vI (lmR σ ρ L away q))) (by omega) (by omega) (Or.inr ⟨hl0, ⟨q, hqm, rfl⟩, hmin _ (Int.le_refl _) (by rcases hb with ⟨z, -⟩ | ⟨z, -⟩ <;> omega)⟩)
                 rw [show ((k + 1 : Nat) : Int) = (k : Int) + 1 by omega] at h
                 exact h)
              | (have hb2 : (0 ≤ best ∧ best < 100) ∧ ∃ q ∈ NL, best = lmR σ ρ L away q := by
                   rcases hb with z | z
                   · omega
                   · exact ⟨z.1, z.2.1⟩
                 have h := ih (n - 1) (k + 1) best (some (vI (lmR σ ρ L away q))) (by omega) (by omega) (Or.inr ⟨hb2.1, hb2.2, hmin _ (by omega) (Or.inr (Int.le_refl _))⟩)
                 rw [show ((k + 1 : Nat) : Int) = (k : Int) + 1 by omega] at h
                 exact h)
            · refine r_iload dX4_leastMove_36 rfl ?_
              refine r_iload_n dX4_leastMove_38 rfl ?_
              refine q_icmp_ge (tgt := 45) dX4_leastMove_39 rfl (by omega) (by omega) (fun c39 => ?_) (fun c39 => ?_)
              · refine r_iinc dX4_leastMove_45 rfl rfl ?_
                refine r_goto (tgt := 4) dX4_leastMove_48 rfl ?_
                have hmin : ∀ b : Int, b ≤ lmR σ ρ L away q → (k = 0 ∨ b ≤ best) → ∀ (j q' : Nat), j < k + 1 → NL[j]? = some q' → b ≤ lmR σ ρ L away q' := fun b h1 h2 j q' hj hjq => by
                  by_cases c : j = k
                  · rw [c, hkq] at hjq
                    obtain rfl : q = q' := by simpa using hjq
                    exact h1
                  · rcases hb with ⟨z, -⟩ | ⟨-, -, z⟩
                    · omega
                    · have := z j q' (by omega) hjq
                      rcases h2 with h2 | h2 <;> omega
                first
                | (have h := ih (n - 1) (k + 1) (lmR σ ρ L away q) (some (vI (lmR σ ρ L away q))) (by omega) (by omega) (Or.inr ⟨hl0, ⟨q, hqm, rfl⟩, hmin _ (Int.le_refl _) (by rcases hb with ⟨z, -⟩ | ⟨z, -⟩ <;> omega)⟩)
                   rw [show ((k + 1 : Nat) : Int) = (k : Int) + 1 by omega] at h
                   exact h)
                | (have hb2 : (0 ≤ best ∧ best < 100) ∧ ∃ q ∈ NL, best = lmR σ ρ L away q := by
                     rcases hb with z | z
                     · omega
                     · exact ⟨z.1, z.2.1⟩
                   have h := ih (n - 1) (k + 1) best (some (vI (lmR σ ρ L away q))) (by omega) (by omega) (Or.inr ⟨hb2.1, hb2.2, hmin _ (by omega) (Or.inr (Int.le_refl _))⟩)
                   rw [show ((k + 1 : Nat) : Int) = (k : Int) + 1 by omega] at h
                   exact h)
              · refine r_iload dX4_leastMove_42 rfl ?_
                refine r_istore_n dX4_leastMove_44 rfl ?_
                refine r_iinc dX4_leastMove_45 rfl rfl ?_
                refine r_goto (tgt := 4) dX4_leastMove_48 rfl ?_
                have hmin : ∀ b : Int, b ≤ lmR σ ρ L away q → (k = 0 ∨ b ≤ best) → ∀ (j q' : Nat), j < k + 1 → NL[j]? = some q' → b ≤ lmR σ ρ L away q' := fun b h1 h2 j q' hj hjq => by
                  by_cases c : j = k
                  · rw [c, hkq] at hjq
                    obtain rfl : q = q' := by simpa using hjq
                    exact h1
                  · rcases hb with ⟨z, -⟩ | ⟨-, -, z⟩
                    · omega
                    · have := z j q' (by omega) hjq
                      rcases h2 with h2 | h2 <;> omega
                first
                | (have h := ih (n - 1) (k + 1) (lmR σ ρ L away q) (some (vI (lmR σ ρ L away q))) (by omega) (by omega) (Or.inr ⟨hl0, ⟨q, hqm, rfl⟩, hmin _ (Int.le_refl _) (by rcases hb with ⟨z, -⟩ | ⟨z, -⟩ <;> omega)⟩)
                   rw [show ((k + 1 : Nat) : Int) = (k : Int) + 1 by omega] at h
                   exact h)
                | (have hb2 : (0 ≤ best ∧ best < 100) ∧ ∃ q ∈ NL, best = lmR σ ρ L away q := by
                     rcases hb with z | z
                     · omega
                     · exact ⟨z.1, z.2.1⟩
                   have h := ih (n - 1) (k + 1) best (some (vI (lmR σ ρ L away q))) (by omega) (by omega) (Or.inr ⟨hb2.1, hb2.2, hmin _ (by omega) (Or.inr (Int.le_refl _))⟩)
                   rw [show ((k + 1 : Nat) : Int) = (k : Int) + 1 by omega] at h
                   exact h)
      · obtain rfl : k = NL.length := by omega
        refine r_iload_n dX4_leastMove_4 rfl ?_
        refine r_aload_n dX4_leastMove_5 rfl ?_
        refine r_getI dX4_leastMove_6 fl_X4_98 rfl (by assumption) ?_
        rw [n6]
        refine q_icmp_ge (tgt := 51) dX4_leastMove_9 rfl (by omega) (by omega) (fun c9 => ?_) (fun c9 => ?_)
        · refine r_iload_n dX4_leastMove_51 rfl ?_
          refine r_ireturn dX4_leastMove_52 rfl rfl rfl ?_
          rcases hb with ⟨z, -⟩ | ⟨z1, z2, z3⟩
          · exact absurd (List.length_eq_zero_iff.1 z) hne
          · refine ⟨rfl, _, rfl, rfl, z2, fun q hq => ?_⟩
            obtain ⟨j, hj⟩ := List.mem_iff_getElem?.1 hq
            exact z3 j q (List.getElem?_eq_some_iff.1 hj).1 hj
        · exact absurd c9 (by omega)
  refine AMet.of (by decide) rfl (by decide) rfl ?_
  refine r_iconst dX4_leastMove_0 ?_
  refine r_istore_n dX4_leastMove_1 rfl ?_
  refine r_iconst dX4_leastMove_2 ?_
  refine r_istore_n dX4_leastMove_3 rfl ?_
  exact lB _ NL.length 0 (-1) _ (Nat.lt_succ_self _) (by omega) (Or.inl ⟨rfl, rfl⟩)
