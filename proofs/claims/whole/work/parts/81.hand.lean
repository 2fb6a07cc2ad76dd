/-! 81.hand: how often pallets go through doors (wip/whole/src/81_hand.py) -/
theorem bit_shl32 : ∀ k : Nat, k < 8 → ∀ s : Nat, s < 32 → bit (ishl 1 (k : Int)) (s : Int) = decide (s = k) := by decide +kernel
theorem bit_032 : ∀ s : Nat, s < 32 → bit 0 (s : Int) = false := by decide +kernel
theorem bit_set32 {a s k : Int} (hs : 0 ≤ s ∧ s < 32) (hk : 0 ≤ k ∧ k < 8) : bit (ior a (ishl 1 k)) s = (bit a s || decide (s = k)) := by
  obtain ⟨s, rfl⟩ := Int.eq_ofNat_of_zero_le hs.1
  obtain ⟨k, rfl⟩ := Int.eq_ofNat_of_zero_le hk.1
  rw [bit_ior (by omega), bit_shl32 k (by omega) s (by omega)]
  congr 1
  rw [Bool.eq_iff_iff, decide_eq_true_eq, decide_eq_true_eq]
  omega
theorem bit_or0 {a s : Int} (hs : 0 ≤ s ∧ s < 32) : bit (ior a 0) s = bit a s := by
  obtain ⟨s, rfl⟩ := Int.eq_ofNat_of_zero_le hs.1
  rw [bit_ior (by omega), bit_032 s (by omega), Bool.or_false]
theorem fbit {P : Int → Prop} [DecidablePred P] {f : Int → Int} {s : Int} (hs : 0 ≤ s ∧ s < 32) : ∀ (n : Nat) (k a : Int), (∀ j, k ≤ j → j < k + n → P j → 0 ≤ f j ∧ f j < 8) → (bit (fld (fun j a => if P j then ior a (ishl 1 (f j)) else a) n k a) s = true ↔ bit a s = true ∨ ∃ j, (k ≤ j ∧ j < k + n) ∧ P j ∧ f j = s)
  | 0, k, a, _ => by
    rw [fld]
    constructor
    · exact Or.inl
    · rintro (h | ⟨j, h, -⟩)
      · exact h
      · omega
  | n + 1, k, a, h => by
    rw [fld, fbit hs n (k + 1) _ (fun j j0 j1 hj => h j (by omega) (by omega) hj)]
    by_cases c : P k
    · rw [if_pos c, bit_set32 hs (h k (by omega) (by omega) c), Bool.or_eq_true, decide_eq_true_eq]
      constructor
      · rintro ((e | e) | ⟨j, e, e2⟩)
        · exact Or.inl e
        · exact Or.inr ⟨k, by omega, c, e.symm⟩
        · exact Or.inr ⟨j, by omega, e2⟩
      · rintro (e | ⟨j, e, e2, e3⟩)
        · exact Or.inl (Or.inl e)
        · by_cases q : j = k
          · rw [q] at e3; exact Or.inl (Or.inr e3.symm)
          · exact Or.inr ⟨j, by omega, e2, e3⟩
    · rw [if_neg c]
      constructor
      · rintro (e | ⟨j, e, e2⟩)
        · exact Or.inl e
        · exact Or.inr ⟨j, by omega, e2⟩
      · rintro (e | ⟨j, e, e2, e3⟩)
        · exact Or.inl e
        · by_cases q : j = k
          · rw [q] at e2; exact absurd e2 c
          · exact Or.inr ⟨j, by omega, e2, e3⟩
theorem fbit0 {P : Int → Prop} [DecidablePred P] {f : Int → Int} {s : Int} (hs : 0 ≤ s ∧ s < 32) : ∀ (n : Nat) (k a : Int), (∀ j, k ≤ j → j < k + n → P j → 0 ≤ f j ∧ f j < 8) → (bit (fld (fun j a => ior a (if P j then ishl 1 (f j) else 0)) n k a) s = true ↔ bit a s = true ∨ ∃ j, (k ≤ j ∧ j < k + n) ∧ P j ∧ f j = s)
  | 0, k, a, _ => by
    rw [fld]
    constructor
    · exact Or.inl
    · rintro (h | ⟨j, h, -⟩)
      · exact h
      · omega
  | n + 1, k, a, h => by
    rw [fld, fbit0 hs n (k + 1) _ (fun j j0 j1 hj => h j (by omega) (by omega) hj)]
    by_cases c : P k
    · rw [if_pos c, bit_set32 hs (h k (by omega) (by omega) c), Bool.or_eq_true, decide_eq_true_eq]
      constructor
      · rintro ((e | e) | ⟨j, e, e2⟩)
        · exact Or.inl e
        · exact Or.inr ⟨k, by omega, c, e.symm⟩
        · exact Or.inr ⟨j, by omega, e2⟩
      · rintro (e | ⟨j, e, e2, e3⟩)
        · exact Or.inl (Or.inl e)
        · by_cases q : j = k
          · rw [q] at e3; exact Or.inl (Or.inr e3.symm)
          · exact Or.inr ⟨j, by omega, e2, e3⟩
    · rw [if_neg c, bit_or0 hs]
      constructor
      · rintro (e | ⟨j, e, e2⟩)
        · exact Or.inl e
        · exact Or.inr ⟨j, by omega, e2⟩
      · rintro (e | ⟨j, e, e2, e3⟩)
        · exact Or.inl e
        · by_cases q : j = k
          · rw [q] at e2; exact absurd e2 c
          · exact Or.inr ⟨j, by omega, e2, e3⟩
theorem iand_0 {a b : Int} : iand a b = 0 ↔ ∀ s : Nat, s < 32 → ¬ (bit a s = true ∧ bit b s = true) := by
  constructor
  · rintro h s hs ⟨h1, h2⟩
    have := bit_iand (a := a) (b := b) hs
    rw [h, bit_032 s hs, h1, h2] at this
    exact absurd this (by decide)
  · intro h
    have e : (Int32.ofInt a &&& Int32.ofInt b) = 0 := by
      apply Int32.toBitVec_inj.1
      rw [Int32.toBitVec_and]
      apply BitVec.eq_of_getLsbD_eq
      intro i hi
      rw [BitVec.getLsbD_and, ← bit_lsb hi, ← bit_lsb hi]
      have q := h i hi
      cases e1 : bit a i with
      | false => simp
      | true =>
        cases e2 : bit b i with
        | false => simp
        | true => exact absurd ⟨e1, e2⟩ q
    unfold iand
    rw [e]
    rfl
theorem way_bit {ρ : Row} (h5 : 0 ≤ ρ 5 ∧ ρ 5 ≤ 6) {s t : Int} (ht : 0 ≤ t ∧ t < 32) : bit (wayF ρ s) t = true ↔ (0 ≤ t ∧ t < ρ 5) ∧ ρ (19 + t) = ρ (19 + s) ∧ (if ρ (16 + ρ (19 + s)) = 1 then s < t else t < s) := by
  unfold wayF
  rw [fbit (f := fun k => k) ht _ _ _ (fun j j0 j1 _ => by (try dsimp only); omega)]
  have h0 := bit_032 t.toNat (by omega)
  rw [show ((t.toNat : Nat) : Int) = t by omega] at h0
  rw [h0]
  constructor
  · rintro (h | ⟨j, h1, h2, h3⟩)
    · cases h
    · have h3 : j = t := h3
      subst h3
      exact ⟨by omega, h2⟩
  · rintro ⟨h1, h2⟩
    exact Or.inr ⟨t, by omega, h2, rfl⟩
theorem way_irr {ρ : Row} (h5 : 0 ≤ ρ 5 ∧ ρ 5 ≤ 6) {s : Int} (hs : 0 ≤ s ∧ s < 32) : bit (wayF ρ s) s = false := by
  rw [Bool.eq_false_iff]
  intro h
  have := ((way_bit h5 hs).1 h).2.2
  split at this <;> omega
def rkF (ρ : Row) (s : Int) : Int := if ρ (16 + ρ (19 + s)) = 1 then 6 - s else s
theorem way_rk {ρ : Row} (h5 : 0 ≤ ρ 5 ∧ ρ 5 ≤ 6) {s t : Int} (ht : 0 ≤ t ∧ t < 32) (h : bit (wayF ρ s) t = true) : rkF ρ t < rkF ρ s := by
  obtain ⟨-, h2, h3⟩ := (way_bit h5 ht).1 h
  unfold rkF
  rw [h2]
  split at h3
  · rename_i c; rw [if_pos c, if_pos c]; omega
  · rename_i c; rw [if_neg c, if_neg c]; exact h3
def takF (σ : Row) : Int := fld (fun k a => ior a (if 0 ≤ σ (93 + k) then ishl 1 (σ (93 + k)) else 0)) (σ 11).toNat 0 0
theorem tak_bit {σ : Row} {S : Int} (hd : Dst σ S) {s : Int} (hs : 0 ≤ s ∧ s < 32) : bit (takF σ) s = true ↔ ∃ k, (0 ≤ k ∧ k < σ 11) ∧ σ (93 + k) = s := by
  unfold takF
  rw [fbit0 (P := fun k => 0 ≤ σ (93 + k)) (f := fun k => σ (93 + k)) hs _ _ _ (fun j j0 j1 h => by
    have := hd.2.2.1 j j0 (by have := hd.1; omega)
    have := hd.2.1
    (try dsimp only at *); omega)]
  have h0 := bit_032 s.toNat (by omega)
  rw [show ((s.toNat : Nat) : Int) = s by omega] at h0
  rw [h0]
  have hN := hd.1
  constructor
  · rintro (h | ⟨j, h1, h2, h3⟩)
    · cases h
    · exact ⟨j, by omega, h3⟩
  · rintro ⟨j, h1, h2⟩
    exact Or.inr ⟨j, by omega, (by (try dsimp only); omega), h2⟩
theorem tak_on {σ : Row} {S : Int} (hd : Dst σ S) {s : Int} (hs : 0 ≤ s ∧ s < 32) : bit (takF σ) s = false ↔ onF σ s < 0 := by
  rw [Bool.eq_false_iff, ne_eq, tak_bit hd hs]
  rcases on_spec σ s with ⟨h1, h2⟩ | ⟨h1, h2⟩
  · exact ⟨fun _ => by omega, fun _ ⟨k, hk, e⟩ => h2 k hk.1 hk.2 e⟩
  · exact ⟨fun h => absurd ⟨_, h1, h2⟩ h, fun h => by omega⟩
def fre (ρ σ : Row) (s : Int) : Prop := ∀ k, 0 ≤ k → k < σ 11 → 0 ≤ σ (93 + k) → bit (wayF ρ s) (σ (93 + k)) = false
theorem fre_iff {ρ σ : Row} {S : Int} (hd : Dst σ S) {s : Int} : iand (wayF ρ s) (takF σ) = 0 ↔ fre ρ σ s := by
  rw [iand_0]
  constructor
  · intro h k k0 k1 hk
    have r := hd.2.2.1 k k0 k1
    have r2 := hd.2.1
    have q := h (σ (93 + k)).toNat (by omega)
    rw [show (((σ (93 + k)).toNat : Nat) : Int) = σ (93 + k) by omega] at q
    rw [Bool.eq_false_iff]
    exact fun e => q ⟨e, (tak_bit hd (by omega)).2 ⟨k, ⟨k0, k1⟩, rfl⟩⟩
  · rintro h s' hs ⟨e1, e2⟩
    obtain ⟨k, hk, e⟩ := (tak_bit hd (by omega)).1 e2
    have := h k hk.1 hk.2 (by omega)
    rw [e, e1] at this
    cases this
def hdB (ρ : Row) (u l : Int) : Bool := decide ((0 ≤ l ∧ l < 60) ∧ l / 10 < ρ 11 ∧ l % 10 < ρ 5 ∧ iand (wayF ρ (l % 10)) (takF (layR ρ u)) = 0 ∧ ((layR ρ u (93 + l / 10) < 0 ∧ bit (takF (layR ρ u)) (l % 10) = false) ∨ (0 ≤ layR ρ u (93 + l / 10) ∧ layR ρ u (93 + l / 10) = l % 10)))
def hdT (ρ : Row) (u l : Int) : Int := if layR ρ u (93 + l / 10) < 0 then l % 10 else -1
def hdE (ρ : Row) : Edg := fun u l => if hdB ρ u l = true then some (codeR (rset (layR ρ u) (93 + l / 10) (hdT ρ u l))) else none
theorem hd_lab (ρ : Row) : LabOK (hdE ρ) := fun u l c h => by
  unfold hdE at h
  by_cases q : hdB ρ u l = true
  · exact (of_decide_eq_true q).1
  · rw [if_neg q] at h; cases h
theorem hd_edge {ρ : Row} {u l c : Int} (hu : Vc ρ u) (he : hdE ρ u l = some c) : (0 ≤ l / 10 ∧ l / 10 < ρ 11) ∧ (0 ≤ l % 10 ∧ l % 10 < ρ 5) ∧ fre ρ (layR ρ u) (l % 10) ∧ Vc ρ c ∧ ((layR ρ u (93 + l / 10) = -1 ∧ onF (layR ρ u) (l % 10) < 0 ∧ layR ρ c = rset (layR ρ u) (93 + l / 10) (l % 10)) ∨ (layR ρ u (93 + l / 10) = l % 10 ∧ layR ρ c = rset (layR ρ u) (93 + l / 10) (-1))) := by
  unfold hdE at he
  by_cases qb : hdB ρ u l = true
  · rw [if_pos qb] at he
    have q := of_decide_eq_true qb
    have hs := hu.2.2.1
    have hk : 0 ≤ l / 10 ∧ l / 10 < ρ 11 := ⟨by omega, q.2.1⟩
    have hl : 0 ≤ l % 10 ∧ l % 10 < ρ 5 := ⟨by omega, q.2.2.1⟩
    have hr := hu.2.2.2.1 (l / 10) hk.1 (by rw [lay_11]; exact hk.2)
    have e0 : codeR (rset (layR ρ u) (93 + l / 10) (hdT ρ u l)) = c := Option.some.inj he
    unfold hdT at e0
    rcases q.2.2.2.2 with ⟨cn, q5⟩ | ⟨cn, q5⟩
    · rw [if_pos cn] at e0
      have ho := (tak_on hu.2 (by omega)).1 q5
      have w := vc_set hu hk (Or.inr ⟨hl, ho⟩)
      rw [e0] at w
      exact ⟨hk, hl, (fre_iff hu.2).1 q.2.2.2.1, w.1, Or.inl ⟨by omega, ho, w.2⟩⟩
    · rw [if_neg (by omega)] at e0
      have w := vc_set (s := -1) hu hk (Or.inl rfl)
      rw [e0] at w
      exact ⟨hk, hl, (fre_iff hu.2).1 q.2.2.2.1, w.1, Or.inr ⟨q5, w.2⟩⟩
  · rw [if_neg qb] at he; cases he
theorem hd_E (ρ : Row) : ∀ u l c, Vc ρ u → hdE ρ u l = some c → Vc ρ c := fun u l c hu he => (hd_edge hu he).2.2.2.1
theorem hd_in {ρ : Row} {u k s : Int} (hN : ρ 11 ≤ 5) (hu : Vc ρ u) (hk : 0 ≤ k ∧ k < ρ 11) (hs : 0 ≤ s ∧ s < ρ 5) (h1 : layR ρ u (93 + k) < 0) (h2 : onF (layR ρ u) s < 0) (hf : fre ρ (layR ρ u) s) : ∃ c, hdE ρ u (10 * k + s) = some c ∧ c = codeR (rset (layR ρ u) (93 + k) s) ∧ Vc ρ c ∧ layR ρ c = rset (layR ρ u) (93 + k) s := by
  have hS := hu.2.2.1
  refine ⟨_, ?_, rfl, vc_set hu hk (Or.inr ⟨hs, h2⟩)⟩
  unfold hdE hdB hdT
  rw [show (10 * k + s) / 10 = k by omega, show (10 * k + s) % 10 = s by omega, if_pos (decide_eq_true ⟨by omega, hk.2, hs.2, (fre_iff hu.2).2 hf, Or.inl ⟨h1, (tak_on hu.2 (by omega)).2 h2⟩⟩), if_pos h1]
theorem hd_out {ρ : Row} {u k s : Int} (hN : ρ 11 ≤ 5) (hu : Vc ρ u) (hk : 0 ≤ k ∧ k < ρ 11) (hs : 0 ≤ s ∧ s < ρ 5) (h1 : layR ρ u (93 + k) = s) (hf : fre ρ (layR ρ u) s) : ∃ c, hdE ρ u (10 * k + s) = some c ∧ c = codeR (rset (layR ρ u) (93 + k) (-1)) ∧ Vc ρ c ∧ layR ρ c = rset (layR ρ u) (93 + k) (-1) := by
  have hS := hu.2.2.1
  refine ⟨_, ?_, rfl, vc_set hu hk (Or.inl rfl)⟩
  unfold hdE hdB hdT
  rw [show (10 * k + s) / 10 = k by omega, show (10 * k + s) % 10 = s by omega, if_pos (decide_eq_true ⟨by omega, hk.2, hs.2, (fre_iff hu.2).2 hf, Or.inr ⟨by omega, h1⟩⟩), if_neg (by omega)]
theorem vc_inj {ρ : Row} (hN : 0 ≤ ρ 11) {c d : Int} (hc : Vc ρ c) (hd : Vc ρ d) (h : layR ρ c = layR ρ d) : c = d := by
  rw [← code_lay hN hc.1, ← code_lay hN hd.1, h]
theorem hd_sym {ρ : Row} (hN : 0 ≤ ρ 11 ∧ ρ 11 ≤ 5) {u l c : Int} (hu : Vc ρ u) (he : hdE ρ u l = some c) : hdE ρ c l = some u := by
  obtain ⟨hk, hs, hf, hc, ho⟩ := hd_edge hu he
  have hS := hu.2.2.1
  have hl := hd_lab ρ _ _ _ he
  have el : 10 * (l / 10) + l % 10 = l := by omega
  have u11 := lay_11 ρ u
  have c11 := lay_11 ρ c
  rcases ho with ⟨h1, h2, h3⟩ | ⟨h1, h3⟩
  · have e : layR ρ c (93 + l / 10) = l % 10 := by rw [h3, rset_eq]
    obtain ⟨d, d1, -, d3, d4⟩ := hd_out (k := l / 10) (s := l % 10) hN.2 hc hk hs e (fun q q0 q1 hq => by
      by_cases cq : q = l / 10
      · rw [cq, e]; exact way_irr hS (by omega)
      · rw [h3, rset_ne (by omega)] at hq ⊢
        exact hf q q0 (by omega) hq)
    rw [el] at d1
    rw [d1, vc_inj hN.1 d3 hu (by rw [d4, h3, rset_rset, ← h1, rset_id])]
  · have e : layR ρ c (93 + l / 10) = -1 := by rw [h3, rset_eq]
    have hon : onF (layR ρ c) (l % 10) < 0 := by
      have := on_no (σ := layR ρ c) (t := l % 10) (fun j j0 j1 e2 => by
        by_cases cq : j = l / 10
        · rw [cq, e] at e2; omega
        · rw [h3, rset_ne (by omega)] at e2
          have a := on_at hu.2 (k := j) (t := l % 10) (by omega) hs.1 e2
          have b := on_at hu.2 (k := l / 10) (t := l % 10) (by omega) hs.1 h1
          omega)
      omega
    obtain ⟨d, d1, -, d3, d4⟩ := hd_in (k := l / 10) (s := l % 10) hN.2 hc hk hs (by omega) hon (fun q q0 q1 hq => by
      by_cases cq : q = l / 10
      · rw [cq, e] at hq; omega
      · rw [h3, rset_ne (by omega)] at hq ⊢
        exact hf q q0 (by omega) hq)
    rw [el] at d1
    rw [d1, vc_inj hN.1 d3 hu (by rw [d4, h3, rset_rset, ← h1, rset_id])]
theorem Pth.rev {ρ : Row} (hN : 0 ≤ ρ 11 ∧ ρ 11 ≤ 5) : ∀ {p : List Int} {u c : Int}, Vc ρ u → Pth (hdE ρ) u p c → Pth (hdE ρ) c p.reverse u
  | [], u, c, _, h => Eq.symm h
  | l :: t, u, c, hu, ⟨u', h1, h2⟩ => by
    rw [List.reverse_cons, pth_app]
    exact ⟨u', Pth.rev hN (hd_E ρ _ _ _ hu h1) h2, u, hd_sym hN hu h1, rfl⟩
/-- how often one of them is handled -/
def cnL (k : Int) : List Int → Int
  | [] => 0
  | l :: t => (if l / 10 = k then 1 else 0) + cnL k t
theorem cn_ge (k : Int) : ∀ p, 0 ≤ cnL k p
  | [] => Int.le_refl _
  | l :: t => by have := cn_ge k t; rw [cnL]; split <;> omega
theorem cn_len {N : Int} : ∀ p : List Int, (∀ l ∈ p, 0 ≤ l / 10 ∧ l / 10 < N) → (p.length : Int) = sumF (fun k => cnL k p) N.toNat 0
  | [], _ => by
    exact (sumF_zero (f := fun k => cnL k []) N.toNat 0 (fun _ _ _ => rfl)).symm
  | l :: t, h => by
    have hl := h l (List.mem_cons_self ..)
    have e : sumF (fun k => cnL k (l :: t)) N.toNat 0 = sumF (fun k => (if l / 10 = k then 1 else 0) + cnL k t) N.toNat 0 := rfl
    rw [e, sumF_add, ← cn_len t (fun x hx => h x (List.mem_cons_of_mem _ hx)), sumF_one (a := l / 10) _ _ hl.1 (by omega) (fun j j0 j1 j2 => if_neg (fun e => j2 e.symm)), if_pos rfl, List.length_cons]
    omega
theorem Pth.labs {ρ : Row} : ∀ {p : List Int} {u c : Int}, Vc ρ u → Pth (hdE ρ) u p c → ∀ l ∈ p, 0 ≤ l / 10 ∧ l / 10 < ρ 11
  | [], _, _, _, _, l, h => absurd h (by simp)
  | l :: t, u, c, hu, ⟨u', h1, h2⟩, x, hx => by
    rcases List.mem_cons.1 hx with e | hx
    · rw [e]; exact (hd_edge hu h1).1
    · exact Pth.labs (hd_E ρ _ _ _ hu h1) h2 x hx
theorem hd_other {ρ : Row} {u l c : Int} (hu : Vc ρ u) (he : hdE ρ u l = some c) {k : Int} (hk : l / 10 ≠ k) : layR ρ c (93 + k) = layR ρ u (93 + k) := by
  rcases (hd_edge hu he).2.2.2.2 with ⟨-, -, h⟩ | ⟨-, h⟩ <;> rw [h, rset_ne (by omega)]
theorem cn_0 {ρ : Row} {k : Int} : ∀ {p : List Int} {u c : Int}, Vc ρ u → Pth (hdE ρ) u p c → cnL k p = 0 → layR ρ c (93 + k) = layR ρ u (93 + k)
  | [], u, c, _, h, _ => by
    have h : c = u := h
    rw [h]
  | l :: t, u, c, hu, ⟨u', h1, h2⟩, h0 => by
    have g := cn_ge k t
    rw [cnL] at h0
    have hl : l / 10 ≠ k := fun e => by rw [if_pos e] at h0; omega
    rw [if_neg hl] at h0
    rw [cn_0 (hd_E ρ _ _ _ hu h1) h2 (by omega), hd_other hu h1 hl]
theorem cn_1 {ρ : Row} {k : Int} : ∀ {p : List Int} {u c : Int}, Vc ρ u → Pth (hdE ρ) u p c → 0 ≤ layR ρ u (93 + k) → cnL k p = 1 → layR ρ c (93 + k) = -1
  | [], u, c, _, h, _, h0 => by rw [cnL] at h0; omega
  | l :: t, u, c, hu, ⟨u', h1, h2⟩, hk, h0 => by
    have hv := hd_E ρ _ _ _ hu h1
    rw [cnL] at h0
    by_cases hl : l / 10 = k
    · rw [if_pos hl] at h0
      rw [cn_0 hv h2 (by omega)]
      rcases (hd_edge hu h1).2.2.2.2 with ⟨a, -, -⟩ | ⟨-, h⟩
      · rw [hl] at a; omega
      · rw [h, hl, rset_eq]
    · rw [if_neg hl] at h0
      exact cn_1 hv h2 (by rw [hd_other hu h1 hl]; exact hk) (by omega)
theorem cn_way {ρ : Row} {k o : Int} (hk : 0 ≤ k ∧ k < ρ 11) (ho : 0 ≤ o ∧ o < ρ 11) : ∀ {p : List Int} {u c : Int}, Vc ρ u → Pth (hdE ρ) u p c → cnL o p = 0 → 0 ≤ layR ρ u (93 + o) → 1 ≤ cnL k p → (0 ≤ layR ρ u (93 + k) → bit (wayF ρ (layR ρ u (93 + k))) (layR ρ u (93 + o)) = false) ∧ (0 ≤ layR ρ c (93 + k) → bit (wayF ρ (layR ρ c (93 + k))) (layR ρ u (93 + o)) = false)
  | [], u, c, _, h, _, _, h1 => by rw [cnL] at h1; omega
  | l :: t, u, c, hu, ⟨u', h1, h2⟩, h0, hoo, hk1 => by
    have hv := hd_E ρ _ _ _ hu h1
    have g := cn_ge o t
    obtain ⟨e1, e2, e3, -, e5⟩ := hd_edge hu h1
    rw [cnL] at h0 hk1
    have hlo : l / 10 ≠ o := fun e => by rw [if_pos e] at h0; omega
    rw [if_neg hlo] at h0
    have eo := hd_other hu h1 hlo
    have hfo := e3 o ho.1 (by rw [lay_11]; exact ho.2) hoo
    by_cases hl : l / 10 = k
    · rw [hl] at e5
      refine ⟨fun hkk => ?_, fun hkk => ?_⟩
      · rcases e5 with ⟨a, -, -⟩ | ⟨a, -⟩
        · omega
        · rw [a]; exact hfo
      · by_cases ht : cnL k t = 0
        · rw [cn_0 hv h2 ht] at hkk ⊢
          rcases e5 with ⟨-, -, a⟩ | ⟨-, a⟩
          · rw [a, rset_eq]; exact hfo
          · rw [a, rset_eq] at hkk; omega
        · have := cn_ge k t
          have q := cn_way hk ho hv h2 (by omega) (by rw [eo]; exact hoo) (by omega)
          rw [eo] at q
          exact q.2 hkk
    · rw [if_neg hl] at hk1
      have q := cn_way hk ho hv h2 (by omega) (by rw [eo]; exact hoo) (by omega)
      rw [eo, hd_other hu h1 hl] at q
      exact q
/-! who must be handled -/
def hs0 (ρ : Row) (g : Int) : Int → Bool := fun k => decide (ρ (93 + k) ≠ tgF ρ g k)
def hsW (ρ : Row) (g : Int) (o k : Int) : Bool := decide (0 ≤ ρ (93 + o)) && ((decide (0 ≤ ρ (93 + k)) && bit (wayF ρ (ρ (93 + k))) (ρ (93 + o))) || bit (wayF ρ (tgF ρ g k)) (ρ (93 + o)))
def hsS (ρ : Row) (g : Int) (H : Int → Bool) : Int → Bool := fun o => H o || !allF (fun k => !(H k && hsW ρ g o k)) (ρ 11).toNat 0
def hsI (ρ : Row) (g : Int) : Nat → Int → Bool
  | 0 => hs0 ρ g
  | n + 1 => hsS ρ g (hsI ρ g n)
def hdN (ρ : Row) (g : Int) : Int := sumF (fun k => if hsI ρ g (ρ 11).toNat k = true then (if ρ (93 + k) = -1 then 1 else 2) else 0) (ρ 11).toNat 0
theorem hsS_iff {ρ : Row} {g : Int} {H : Int → Bool} {o : Int} (h0 : 0 ≤ ρ 11) : hsS ρ g H o = true ↔ H o = true ∨ ∃ k, (0 ≤ k ∧ k < ρ 11) ∧ H k = true ∧ hsW ρ g o k = true := by
  unfold hsS
  rw [Bool.or_eq_true, Bool.not_eq_true', Bool.eq_false_iff, ne_eq, allF_iff]
  refine or_congr Iff.rfl ?_
  constructor
  · intro h
    by_cases c : ∃ k, (0 ≤ k ∧ k < ρ 11) ∧ H k = true ∧ hsW ρ g o k = true
    · exact c
    · exfalso
      apply h
      intro i i0 i1
      rw [Bool.not_eq_true', Bool.eq_false_iff, ne_eq, Bool.and_eq_true]
      exact fun e => c ⟨i, ⟨i0, by omega⟩, e⟩
  · rintro ⟨k, hk, h1, h2⟩ h
    have := h k hk.1 (by omega)
    rw [h1, h2] at this
    cases this
theorem hsS_cg {ρ : Row} {g : Int} {H H' : Int → Bool} (h0 : 0 ≤ ρ 11) (h : ∀ k, 0 ≤ k → k < ρ 11 → H k = H' k) {o : Int} (ho : 0 ≤ o ∧ o < ρ 11) : hsS ρ g H o = hsS ρ g H' o := by
  rw [Bool.eq_iff_iff, hsS_iff h0, hsS_iff h0, h o ho.1 ho.2]
  refine or_congr Iff.rfl ⟨fun ⟨k, hk, a, b⟩ => ⟨k, hk, by rw [← h k hk.1 hk.2]; exact a, b⟩, fun ⟨k, hk, a, b⟩ => ⟨k, hk, by rw [h k hk.1 hk.2]; exact a, b⟩⟩
def clo (ρ : Row) (g : Int) (H : Int → Bool) : Prop := ∀ o, 0 ≤ o → o < ρ 11 → hsS ρ g H o = H o
def cnt (N : Int) (H : Int → Bool) : Int := sumF (fun k => if H k = true then 1 else 0) N.toNat 0
theorem cnt_full {N : Int} {H : Int → Bool} (h : ∃ o, (0 ≤ o ∧ o < N) ∧ H o = false) : cnt N H ≤ N - 1 := by
  obtain ⟨o, ho, e⟩ := h
  have q := sumF_part (f := fun k => 1 - (if H k = true then (1 : Int) else 0)) (N := N) (k := o) ho (fun j _ _ => by (try dsimp only); split <;> omega)
  have q0 := sumF_ge (f := fun k => 1 - (if H k = true then (1 : Int) else 0)) o.toNat 0 (fun j _ _ => by (try dsimp only); split <;> omega)
  rw [e, if_neg (by decide)] at q
  have e2 := sumF_add (f := fun k => 1 - (if H k = true then (1 : Int) else 0)) (g := fun k => if H k = true then (1 : Int) else 0) N.toNat 0
  have e3 : ∀ (n : Nat) (k : Int), sumF (fun j => 1 - (if H j = true then (1 : Int) else 0) + (if H j = true then 1 else 0)) n k = n := by
    intro n
    induction n with
    | zero => intro k; rfl
    | succ n ih => intro k; rw [sumF, ih]; omega
  rw [e3] at e2
  unfold cnt
  omega
theorem cnt_lt {N : Int} {H H' : Int → Bool} (h : ∀ k, 0 ≤ k → k < N → H k = true → H' k = true) {o : Int} (ho : 0 ≤ o ∧ o < N) (h1 : H o = false) (h2 : H' o = true) : cnt N H + 1 ≤ cnt N H' := by
  have q := sumF_part (f := fun k => (if H' k = true then (1 : Int) else 0) - (if H k = true then (1 : Int) else 0)) (N := N) (k := o) ho (fun j j0 j1 => by
    have := h j j0 j1
    (try dsimp only)
    split <;> split <;> simp_all)
  have q0 := sumF_ge (f := fun k => (if H' k = true then (1 : Int) else 0) - (if H k = true then (1 : Int) else 0)) o.toNat 0 (fun j j0 j1 => by
    have := h j j0 (by omega)
    (try dsimp only)
    split <;> split <;> simp_all)
  rw [h1, h2, if_pos rfl, if_neg (by decide)] at q
  have e2 := sumF_add (f := fun k => (if H' k = true then (1 : Int) else 0) - (if H k = true then (1 : Int) else 0)) (g := fun k => if H k = true then (1 : Int) else 0) N.toNat 0
  rw [sumF_congr (f := fun j => (if H' j = true then (1 : Int) else 0) - (if H j = true then (1 : Int) else 0) + (if H j = true then 1 else 0)) (g := fun j => if H' j = true then (1 : Int) else 0) _ _ (fun j _ _ => by (try dsimp only); omega)] at e2
  unfold cnt
  omega
theorem hsI_clo {ρ : Row} (h0 : 0 ≤ ρ 11) (g : Int) : clo ρ g (hsI ρ g (ρ 11).toNat) := by
  have key : ∀ n : Nat, clo ρ g (hsI ρ g n) ∨ (n : Int) ≤ cnt (ρ 11) (hsI ρ g n) := by
    intro n
    induction n with
    | zero => exact Or.inr (sumF_ge _ _ fun j _ _ => by (try dsimp only); split <;> omega)
    | succ n ih =>
      rcases ih with h | h
      · refine Or.inl (fun o o0 o1 => ?_)
        have e : ∀ k, 0 ≤ k → k < ρ 11 → hsI ρ g (n + 1) k = hsI ρ g n k := fun k k0 k1 => h k k0 k1
        rw [hsS_cg h0 e ⟨o0, o1⟩, h o o0 o1, e o o0 o1]
      · by_cases c : clo ρ g (hsI ρ g n)
        · refine Or.inl (fun o o0 o1 => ?_)
          have e : ∀ k, 0 ≤ k → k < ρ 11 → hsI ρ g (n + 1) k = hsI ρ g n k := fun k k0 k1 => c k k0 k1
          rw [hsS_cg h0 e ⟨o0, o1⟩, c o o0 o1, e o o0 o1]
        · refine Or.inr ?_
          have hex : ∃ o, (0 ≤ o ∧ o < ρ 11) ∧ hsI ρ g n o = false ∧ hsS ρ g (hsI ρ g n) o = true := by
            by_cases q : ∃ o, (0 ≤ o ∧ o < ρ 11) ∧ hsI ρ g n o = false ∧ hsS ρ g (hsI ρ g n) o = true
            · exact q
            · exfalso
              apply c
              intro o o0 o1
              cases e : hsI ρ g n o with
              | true => exact (hsS_iff h0).2 (Or.inl e)
              | false =>
                cases e2 : hsS ρ g (hsI ρ g n) o with
                | false => rfl
                | true => exact absurd ⟨o, ⟨o0, o1⟩, e, e2⟩ q
          obtain ⟨o, ho, h1, h2⟩ := hex
          have := cnt_lt (N := ρ 11) (H := hsI ρ g n) (H' := hsI ρ g (n + 1)) (fun k _ _ hk => (hsS_iff h0).2 (Or.inl hk)) ho h1 h2
          omega
  rcases key (ρ 11).toNat with h | h
  · exact h
  · intro o o0 o1
    cases e : hsI ρ g (ρ 11).toNat o with
    | true => exact (hsS_iff h0).2 (Or.inl e)
    | false => have := cnt_full ⟨o, ⟨o0, o1⟩, e⟩; omega
/-- at least so often -/
theorem hand_ge {ρ : Row} (hw : WF ρ) {g : Int} (hg : Vc ρ g) (ht : ∀ k, 0 ≤ k → k < ρ 11 → 0 ≤ tgF ρ g k) {p : List Int} (h : Pth (hdE ρ) (codeR ρ) p g) : hdN ρ g ≤ p.length := by
  have hn := hw.1.1
  unfold WFn at hn
  obtain ⟨hv, hl⟩ := hw.vc
  have hM : ∀ n : Nat, ∀ k, 0 ≤ k → k < ρ 11 → hsI ρ g n k = true → 1 ≤ cnL k p := by
    intro n
    induction n with
    | zero =>
      intro k k0 k1 hk
      have hk : decide (ρ (93 + k) ≠ tgF ρ g k) = true := hk
      rw [decide_eq_true_eq] at hk
      have c0 := cn_ge k p
      by_cases c : cnL k p = 0
      · have := cn_0 hv h c
        rw [hl] at this
        exact absurd this.symm hk
      · omega
    | succ n ih =>
      intro o o0 o1 ho
      rcases (hsS_iff (by omega)).1 ho with e | ⟨k, hk, e1, e2⟩
      · exact ih o o0 o1 e
      · have c0 := cn_ge o p
        by_cases c : cnL o p = 0
        · unfold hsW at e2
          rw [Bool.and_eq_true, decide_eq_true_eq, Bool.or_eq_true, Bool.and_eq_true, decide_eq_true_eq] at e2
          have q := cn_way hk ⟨o0, o1⟩ hv h c (by rw [hl]; exact e2.1) (ih k hk.1 hk.2 e1)
          rw [hl] at q
          rcases e2.2 with ⟨a, b⟩ | b
          · rw [q.1 a] at b; cases b
          · have := q.2 (ht k hk.1 hk.2)
            have b : bit (wayF ρ (layR ρ g (93 + k))) (ρ (93 + o)) = true := b
            rw [this] at b; cases b
        · omega
  rw [cn_len p (Pth.labs hv h)]
  unfold hdN
  have hd := sumF_ge (f := fun k => cnL k p - (if hsI ρ g (ρ 11).toNat k = true then (if ρ (93 + k) = -1 then 1 else 2) else 0)) (ρ 11).toNat 0 (fun k k0 k1 => by
    have c0 := cn_ge k p
    try dsimp only
    split
    · rename_i e
      have c1 := hM _ k k0 (by omega) e
      split
      · omega
      · rename_i e2
        have r := (hw.2.2.1 k k0 (by omega)).2.2.1
        by_cases c2 : cnL k p = 1
        · have := cn_1 hv h (by rw [hl]; omega) c2
          have t := ht k k0 (by omega)
          unfold tgF at t
          omega
        · omega
    · omega)
  have e2 := sumF_add (f := fun k => cnL k p - (if hsI ρ g (ρ 11).toNat k = true then (if ρ (93 + k) = -1 then 1 else 2) else 0)) (g := fun k => if hsI ρ g (ρ 11).toNat k = true then (if ρ (93 + k) = -1 then 1 else 2) else 0) (ρ 11).toNat 0
  rw [sumF_congr (f := fun j => cnL j p - (if hsI ρ g (ρ 11).toNat j = true then (if ρ (93 + j) = -1 then 1 else 2) else 0) + (if hsI ρ g (ρ 11).toNat j = true then (if ρ (93 + j) = -1 then 1 else 2) else 0)) (g := fun j => cnL j p) _ _ (fun j _ _ => by (try dsimp only); omega)] at e2
  omega
theorem min_ex {P : Int → Prop} (r : Int → Int) : ∀ n : Nat, (∃ k, (0 ≤ k ∧ k < (n : Int)) ∧ P k) → ∃ k, (0 ≤ k ∧ k < (n : Int)) ∧ P k ∧ ∀ j, 0 ≤ j → j < (n : Int) → P j → r k ≤ r j
  | 0, ⟨k, hk, _⟩ => by omega
  | n + 1, ⟨k, hk, hp⟩ => by
    by_cases c : ∃ k, (0 ≤ k ∧ k < (n : Int)) ∧ P k
    · obtain ⟨q, hq, hq1, hq2⟩ := min_ex r n c
      by_cases cn : P (n : Int) ∧ r n < r q
      · refine ⟨n, by omega, cn.1, fun j j0 j1 hj => ?_⟩
        by_cases e : j = n
        · rw [e]; omega
        · have := hq2 j j0 (by omega) hj; omega
      · refine ⟨q, by omega, hq1, fun j j0 j1 hj => ?_⟩
        by_cases e : j = n
        · rw [e] at hj ⊢
          by_cases c2 : r n < r q
          · exact absurd ⟨hj, c2⟩ cn
          · omega
        · exact hq2 j j0 (by omega) hj
    · have e : k = n := by
        by_cases e : k = n
        · exact e
        · exact absurd ⟨k, by omega, hp⟩ c
      refine ⟨k, hk, hp, fun j j0 j1 hj => ?_⟩
      by_cases e2 : j = n
      · rw [e, e2]; omega
      · exact absurd ⟨j, by omega, hj⟩ c
theorem outs {ρ : Row} (hw : WF ρ) (H : Int → Bool) : ∀ (n : Nat) (u : Int), Vc ρ u → (∀ k o, (0 ≤ k ∧ k < ρ 11) → (0 ≤ o ∧ o < ρ 11) → H k = true → 0 ≤ layR ρ u (93 + k) → 0 ≤ layR ρ u (93 + o) → bit (wayF ρ (layR ρ u (93 + k))) (layR ρ u (93 + o)) = true → H o = true) → sumF (fun k => if H k = true ∧ 0 ≤ layR ρ u (93 + k) then 1 else 0) (ρ 11).toNat 0 = n → ∃ p c, Pth (hdE ρ) u p c ∧ Vc ρ c ∧ p.length = n ∧ ∀ k, 0 ≤ k → k < ρ 11 → layR ρ c (93 + k) = if H k = true then -1 else layR ρ u (93 + k)
  | 0, u, hu, hc, hs => by
    have hn := hw.1.1
    unfold WFn at hn
    refine ⟨[], u, rfl, hu, rfl, fun k k0 k1 => ?_⟩
    have q := sumF_part (f := fun k => if H k = true ∧ 0 ≤ layR ρ u (93 + k) then (1 : Int) else 0) (N := ρ 11) (k := k) ⟨k0, k1⟩ (fun j _ _ => by (try dsimp only); split <;> omega)
    have q0 := sumF_ge (f := fun k => if H k = true ∧ 0 ≤ layR ρ u (93 + k) then (1 : Int) else 0) k.toNat 0 (fun j _ _ => by (try dsimp only); split <;> omega)
    by_cases e : H k = true
    · rw [if_pos e]
      by_cases e2 : 0 ≤ layR ρ u (93 + k)
      · rw [if_pos ⟨e, e2⟩] at q; omega
      · have := hu.2.2.2.1 k k0 (by rw [lay_11]; exact k1); omega
    · rw [if_neg e]
  | n + 1, u, hu, hc, hs => by
    have hn := hw.1.1
    unfold WFn at hn
    have u11 := lay_11 ρ u
    have hex : ∃ k, (0 ≤ k ∧ k < ((ρ 11).toNat : Int)) ∧ (H k = true ∧ 0 ≤ layR ρ u (93 + k)) := by
      by_cases c : ∃ k, (0 ≤ k ∧ k < ((ρ 11).toNat : Int)) ∧ (H k = true ∧ 0 ≤ layR ρ u (93 + k))
      · exact c
      · rw [sumF_zero _ _ (fun j j0 j1 => if_neg (fun e => c ⟨j, by omega, e⟩))] at hs
        omega
    obtain ⟨k, hk, ⟨h1, h2⟩, h3⟩ := min_ex (P := fun k => H k = true ∧ 0 ≤ layR ρ u (93 + k)) (fun k => rkF ρ (layR ρ u (93 + k))) _ hex
    have hkr := hu.2.2.2.1 k hk.1 (by omega)
    have hS := hu.2.2.1
    obtain ⟨c, c1, -, c3, c4⟩ := hd_out (k := k) (s := layR ρ u (93 + k)) (by omega) hu (by omega) ⟨h2, hkr.2⟩ rfl (fun q q0 q1 hq => by
      rw [u11] at q1
      have qr := hu.2.2.2.1 q q0 (by omega)
      rw [Bool.eq_false_iff]
      intro e
      have hH := hc k q (by omega) ⟨q0, q1⟩ h1 h2 hq e
      have := h3 q q0 (by omega) ⟨hH, hq⟩
      have := way_rk (ρ := ρ) (by omega) (by omega) e
      omega)
    have cell : ∀ j, 0 ≤ j → j < ρ 11 → layR ρ c (93 + j) = if j = k then -1 else layR ρ u (93 + j) := fun j j0 j1 => by
      rw [c4]
      by_cases e : j = k
      · rw [if_pos e, e, rset_eq]
      · rw [if_neg e, rset_ne (by omega)]
    have hs2 : sumF (fun k => if H k = true ∧ 0 ≤ layR ρ c (93 + k) then 1 else 0) (ρ 11).toNat 0 = n := by
      have e2 := sumF_add (f := fun j => if H j = true ∧ 0 ≤ layR ρ c (93 + j) then (1 : Int) else 0) (g := fun j => if j = k then (1 : Int) else 0) (ρ 11).toNat 0
      rw [sumF_one (f := fun j => if j = k then (1 : Int) else 0) (a := k) _ _ hk.1 (by omega) (fun j _ _ e => if_neg e), if_pos rfl, sumF_congr (g := fun j => if H j = true ∧ 0 ≤ layR ρ u (93 + j) then (1 : Int) else 0) _ _ (fun j j0 j1 => by
        try dsimp only
        rw [cell j j0 (by omega)]
        by_cases e : j = k
        · rw [if_pos e, if_pos e, e]
          have a1 : (if H k = true ∧ (0 : Int) ≤ -1 then (1 : Int) else 0) = 0 := if_neg (fun q => absurd q.2 (by decide))
          have a2 : (if H k = true ∧ 0 ≤ layR ρ u (93 + k) then (1 : Int) else 0) = 1 := if_pos ⟨h1, h2⟩
          rw [a1, a2]
          rfl
        · rw [if_neg e, if_neg e]; omega), hs] at e2
      omega
    obtain ⟨p, d, p1, p2, p3, p4⟩ := outs hw H n c c3 (fun a b ha hb e1 e2 e3 e4 => by
      rw [cell a ha.1 ha.2] at e2 e4
      rw [cell b hb.1 hb.2] at e3 e4
      by_cases ea : a = k
      · rw [if_pos ea] at e2; omega
      · rw [if_neg ea] at e2 e4
        by_cases eb : b = k
        · rw [if_pos eb] at e3; omega
        · rw [if_neg eb] at e3 e4
          exact hc a b ha hb e1 e2 e3 e4) hs2
    refine ⟨_ :: p, d, ⟨c, c1, p1⟩, p2, by rw [List.length_cons, p3], fun j j0 j1 => ?_⟩
    rw [p4 j j0 j1, cell j j0 j1]
    by_cases e : j = k
    · rw [e, if_pos h1, if_pos h1]
    · rw [if_neg e]
/-- and not more often -/
theorem hand_le {ρ : Row} (hw : WF ρ) {g : Int} (hg : Vc ρ g) (ht : ∀ k, 0 ≤ k → k < ρ 11 → 0 ≤ tgF ρ g k) : ∃ p, Pth (hdE ρ) (codeR ρ) p g ∧ (p.length : Int) = hdN ρ g := by
  have hn := hw.1.1
  unfold WFn at hn
  obtain ⟨hv, hl⟩ := hw.vc
  have hcl := hsI_clo (ρ := ρ) (by omega) g
  generalize hHH : hsI ρ g (ρ 11).toNat = H at hcl
  have hin : ∀ k o, (0 ≤ k ∧ k < ρ 11) → (0 ≤ o ∧ o < ρ 11) → H k = true → hsW ρ g o k = true → H o = true := fun k o hk ho h1 h2 => by
    rw [← hcl o ho.1 ho.2]
    exact (hsS_iff (by omega)).2 (Or.inr ⟨k, hk, h1, h2⟩)
  have hmono : ∀ (n : Nat) (k : Int), hs0 ρ g k = true → hsI ρ g n k = true := by
    intro n
    induction n with
    | zero => intro k h; exact h
    | succ n ih => intro k h; exact (hsS_iff (by omega)).2 (Or.inl (ih k h))
  have hsame : ∀ k, H k = false → ρ (93 + k) = tgF ρ g k := fun k hk => by
    by_cases c : ρ (93 + k) = tgF ρ g k
    · exact c
    · have := hmono (ρ 11).toNat k (decide_eq_true c)
      rw [hHH, hk] at this
      cases this
  have hge : ∀ (f : Int → Int) (n : Nat), (∀ k, 0 ≤ f k) → 0 ≤ sumF f n 0 := fun f n h => sumF_ge n 0 (fun j _ _ => h j)
  have z1 := hge (fun k => if H k = true ∧ 0 ≤ layR ρ (codeR ρ) (93 + k) then 1 else 0) (ρ 11).toNat (fun k => by (try dsimp only); split <;> omega)
  have z2 := hge (fun k => if H k = true ∧ 0 ≤ layR ρ g (93 + k) then 1 else 0) (ρ 11).toNat (fun k => by (try dsimp only); split <;> omega)
  obtain ⟨p, c, p1, p2, p3, p4⟩ := outs hw H (sumF (fun k => if H k = true ∧ 0 ≤ layR ρ (codeR ρ) (93 + k) then 1 else 0) (ρ 11).toNat 0).toNat (codeR ρ) hv (fun k o hk ho h1 h2 h3 h4 => by
    rw [hl] at h2 h3 h4
    refine hin k o hk ho h1 ?_
    unfold hsW
    rw [Bool.and_eq_true, decide_eq_true_eq, Bool.or_eq_true, Bool.and_eq_true, decide_eq_true_eq]
    exact ⟨h3, Or.inl ⟨h2, h4⟩⟩) (by omega)
  obtain ⟨q, d, q1, q2, q3, q4⟩ := outs hw H (sumF (fun k => if H k = true ∧ 0 ≤ layR ρ g (93 + k) then 1 else 0) (ρ 11).toNat 0).toNat g hg (fun k o hk ho h1 h2 h3 h4 => by
    cases e : H o with
    | true => rfl
    | false =>
      have hs := hsame o e
      have hs : ρ (93 + o) = layR ρ g (93 + o) := hs
      have := hin k o hk ho h1 (by
        unfold hsW
        rw [Bool.and_eq_true, decide_eq_true_eq, Bool.or_eq_true, hs]
        exact ⟨h3, Or.inr h4⟩)
      rw [e] at this
      cases this) (by omega)
  have ecd : c = d := by
    refine vc_inj (by omega) p2 q2 ?_
    funext j
    by_cases cj : 93 ≤ j ∧ j < 93 + ρ 11
    · have a := p4 (j - 93) (by omega) (by omega)
      have b := q4 (j - 93) (by omega) (by omega)
      rw [show 93 + (j - 93) = j by omega] at a b
      rw [a, b]
      cases e : H (j - 93) with
      | true => rfl
      | false =>
        have hs := hsame _ e
        rw [show 93 + (j - 93) = j by omega] at hs
        have hs2 : tgF ρ g (j - 93) = layR ρ g j := by unfold tgF; rw [show 93 + (j - 93) = j by omega]
        rw [hl, hs, hs2]
    · rw [lay_ne cj, lay_ne cj]
  subst ecd
  refine ⟨p ++ q.reverse, (pth_app _ _ _ _).2 ⟨c, p1, Pth.rev (by omega) hg q1⟩, ?_⟩
  rw [List.length_append, List.length_reverse, p3, q3]
  unfold hdN
  rw [hHH]
  have e2 := sumF_add (f := fun k => if H k = true ∧ 0 ≤ layR ρ (codeR ρ) (93 + k) then (1 : Int) else 0) (g := fun k => if H k = true ∧ 0 ≤ layR ρ g (93 + k) then (1 : Int) else 0) (ρ 11).toNat 0
  rw [sumF_congr (g := fun k => if H k = true then (if ρ (93 + k) = -1 then 1 else 2) else 0) _ _ (fun j j0 j1 => by
    have t := ht j j0 (by omega)
    unfold tgF at t
    have r := (hw.2.2.1 j j0 (by omega)).2.2.1
    try dsimp only
    rw [hl]
    by_cases e : H j = true
    · have a2 : (if H j = true ∧ 0 ≤ layR ρ g (93 + j) then (1 : Int) else 0) = 1 := if_pos ⟨e, t⟩
      rw [a2, if_pos e]
      by_cases e3 : ρ (93 + j) = -1
      · have a1 : (if H j = true ∧ 0 ≤ ρ (93 + j) then (1 : Int) else 0) = 0 := if_neg (fun q => by have := q.2; omega)
        rw [a1, if_pos e3]; rfl
      · have a1 : (if H j = true ∧ 0 ≤ ρ (93 + j) then (1 : Int) else 0) = 1 := if_pos ⟨e, by omega⟩
        rw [a1, if_neg e3]; rfl
    · rw [if_neg e, if_neg (fun q => e q.1), if_neg (fun q => e q.1)]; rfl)] at e2
  omega
