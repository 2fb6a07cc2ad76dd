/-! 78.greedy: the least of the fewest moves, one after the other (wip/whole/src/78_greedy.py) -/
def Pth (E : Edg) : Int → List Int → Int → Prop
  | u, [], c => c = u
  | u, l :: t, c => ∃ u', E u l = some u' ∧ Pth E u' t c
theorem pth_app {E : Edg} : ∀ (p q : List Int) (u c : Int), Pth E u (p ++ q) c ↔ ∃ v, Pth E u p v ∧ Pth E v q c
  | [], q, u, c => by
    constructor
    · intro h; exact ⟨u, rfl, h⟩
    · rintro ⟨v, e, h⟩
      have e : v = u := e
      rw [← e]; exact h
  | l :: t, q, u, c => by
    constructor
    · rintro ⟨u', h1, h2⟩
      obtain ⟨v, h3, h4⟩ := (pth_app t q u' c).1 h2
      exact ⟨v, ⟨u', h1, h3⟩, h4⟩
    · rintro ⟨v, ⟨u', h1, h3⟩, h4⟩
      exact ⟨u', h1, (pth_app t q u' c).2 ⟨v, h3, h4⟩⟩
theorem rch_pth {E : Edg} {c0 : Int} : ∀ (w : Wrd) (c : Int), Rch E c0 w c ↔ Pth E c0 w.reverse c
  | [], c => Iff.rfl
  | l :: t, c => by
    rw [List.reverse_cons, pth_app]
    constructor
    · rintro ⟨u, h1, h2⟩
      exact ⟨u, (rch_pth t u).1 h1, c, h2, rfl⟩
    · rintro ⟨v, h1, u', h2, e⟩
      have e : c = u' := e
      exact ⟨v, (rch_pth t v).2 h1, by rw [e]; exact h2⟩
theorem Pth.det {E : Edg} : ∀ {p : List Int} {u c d : Int}, Pth E u p c → Pth E u p d → c = d
  | [], _, _, _, h1, h2 => Eq.trans h1 (Eq.symm h2)
  | l :: t, u, c, d, ⟨u', h1, h2⟩, ⟨u2, h3, h4⟩ => by
    rw [h1] at h3
    obtain rfl : u' = u2 := by simpa using h3
    exact Pth.det h2 h4
def vF (p : List Int) : Int := p.foldl (fun a l => 100 * a + l + 1) 0
theorem vF_app (p : List Int) (l : Int) : vF (p ++ [l]) = 100 * vF p + l + 1 := by
  unfold vF
  rw [List.foldl_append]
  rfl
theorem val_vF : ∀ w : Wrd, val w = vF w.reverse
  | [] => rfl
  | l :: t => by rw [List.reverse_cons, vF_app, val, val_vF t]
/-- moves, as edges from one layout's number to another one's -/
def mvE (ρ : Row) : Edg := fun u l => if (0 ≤ l ∧ l < 60) ∧ l / 10 < ρ 11 ∧ l % 10 < ρ 5 ∧ onF (layR ρ u) (l % 10) < 0 then some (codeR (rset (layR ρ u) (93 + l / 10) (l % 10))) else none
theorem mv_lab (ρ : Row) : LabOK (mvE ρ) := fun u l c h => by
  unfold mvE at h
  split at h
  · rename_i q; exact q.1
  · cases h
def Vc (ρ : Row) (u : Int) : Prop := (0 ≤ u ∧ u < 7 ^ (ρ 11).toNat) ∧ Dst (layR ρ u) (ρ 5)
theorem lay_same {ρ σ : Row} (h : ∀ j, ¬ (93 ≤ j ∧ j < 93 + ρ 11) → σ j = ρ j) (h11 : σ 11 = ρ 11) (c : Int) : layR σ c = layR ρ c := by
  funext j
  unfold layR
  rw [h11]
  by_cases q : 93 ≤ j ∧ j < 93 + ρ 11
  · rw [if_pos q, if_pos q]
  · rw [if_neg q, if_neg q]; exact h j q
theorem Dst.code {σ : Row} {S : Int} (h : Dst σ S) : (0 ≤ codeR σ ∧ codeR σ < 7 ^ (σ 11).toNat) ∧ layR σ (codeR σ) = σ := by
  have hr : ∀ k, 0 ≤ k → k < σ 11 → -1 ≤ σ (93 + k) ∧ σ (93 + k) < 6 := fun k k0 k1 => by
    have := h.2.2.1 k k0 k1
    have := h.2.1
    omega
  exact ⟨(codeR_spec hr).1, lay_code hr⟩
theorem vc_lay {ρ σ : Row} (h : ∀ j, ¬ (93 ≤ j ∧ j < 93 + ρ 11) → σ j = ρ j) (h11 : σ 11 = ρ 11) (hd : Dst σ (ρ 5)) : Vc ρ (codeR σ) ∧ layR ρ (codeR σ) = σ := by
  obtain ⟨h1, h2⟩ := hd.code
  rw [lay_same h h11] at h2
  rw [h11] at h1
  exact ⟨⟨h1, by rw [h2]; exact hd⟩, h2⟩
theorem vc_set {ρ : Row} {u k s : Int} (hu : Vc ρ u) (hk : 0 ≤ k ∧ k < ρ 11) (hs : s = -1 ∨ (0 ≤ s ∧ s < ρ 5) ∧ onF (layR ρ u) s < 0) : Vc ρ (codeR (rset (layR ρ u) (93 + k) s)) ∧ layR ρ (codeR (rset (layR ρ u) (93 + k) s)) = rset (layR ρ u) (93 + k) s := by
  refine vc_lay (fun j hj => ?_) ?_ (hu.2.set (by rw [lay_11]; exact hk) hs)
  · rw [rset_ne (by omega), lay_ne hj]
  · rw [rset_ne (by omega), lay_11]
theorem mv_edge {ρ : Row} {u l c : Int} (hu : Vc ρ u) (he : mvE ρ u l = some c) : (0 ≤ l ∧ l < 60) ∧ (0 ≤ l / 10 ∧ l / 10 < ρ 11) ∧ (0 ≤ l % 10 ∧ l % 10 < ρ 5) ∧ onF (layR ρ u) (l % 10) < 0 ∧ Vc ρ c ∧ layR ρ c = rset (layR ρ u) (93 + l / 10) (l % 10) := by
  unfold mvE at he
  split at he
  · rename_i q
    obtain rfl : codeR (rset (layR ρ u) (93 + l / 10) (l % 10)) = c := by simpa using he
    have w := vc_set hu (k := l / 10) (s := l % 10) ⟨by omega, q.2.1⟩ (Or.inr ⟨⟨by omega, q.2.2.1⟩, q.2.2.2⟩)
    exact ⟨q.1, ⟨by omega, q.2.1⟩, ⟨by omega, q.2.2.1⟩, q.2.2.2, w⟩
  · cases he
theorem mv_to {ρ : Row} {u k s : Int} (hN : ρ 11 ≤ 5) (hS : ρ 5 ≤ 6) (hu : Vc ρ u) (hk : 0 ≤ k ∧ k < ρ 11) (hs : 0 ≤ s ∧ s < ρ 5) (he : onF (layR ρ u) s < 0) : ∃ c, mvE ρ u (10 * k + s) = some c ∧ Vc ρ c ∧ layR ρ c = rset (layR ρ u) (93 + k) s := by
  refine ⟨_, ?_, vc_set hu hk (Or.inr ⟨hs, he⟩)⟩
  unfold mvE
  rw [show (10 * k + s) / 10 = k by omega, show (10 * k + s) % 10 = s by omega, if_pos ⟨by omega, hk.2, hs.2, he⟩]
/-- the good ones -/
def gdC (ρ : Row) (g : Int) : Prop := (0 ≤ g ∧ g < 7 ^ (ρ 11).toNat) ∧ wholeF (layR ρ g) = true ∧ brokF (layR ρ g) = 0
def tgF (ρ : Row) (g : Int) : Int → Int := fun k => layR ρ g (93 + k)
theorem gd_tg {ρ : Row} {g : Int} (h0 : 0 ≤ ρ 11 ∧ ρ 11 ≤ 5) (h : gdC ρ g) : TG (tgF ρ g) (ρ 11) (ρ 5) := by
  have q := (whole_iff (ρ := layR ρ g) (by rw [lay_11]; exact h0.1)).1 h.2.1
  rw [lay_11, lay_ne (j := 5) (by omega)] at q
  exact ⟨fun k k0 k1 => (q k k0 k1).1, fun i j i0 ij j1 => (q j (by omega) j1).2 i i0 ij⟩
theorem vc_gd {ρ : Row} {c : Int} (hc : Vc ρ c) (hb : brokF (layR ρ c) = 0) : gdC ρ c := by
  have h11 := lay_11 ρ c
  refine ⟨hc.1, (whole_iff hc.2.1.1).2 (fun k k0 k1 => ⟨⟨?_, ?_⟩, fun j j0 j1 e => ?_⟩), hb⟩
  · have q := (at_neg (r := 1)).1 (brok_0.1 hb 1 (by omega) (by omega)) k k0 (by unfold plcF; rw [if_pos rfl]; exact k1)
    unfold brkF at q
    rw [if_pos rfl, decide_eq_false_iff_not] at q
    omega
  · have q := (hc.2.2.2.1 k k0 k1).2
    have h5 : layR ρ c 5 = ρ 5 := lay_ne (by have := hc.2.1; rw [h11] at this; omega)
    rw [h5]; exact q
  · have q := (at_neg (r := 1)).1 (brok_0.1 hb 1 (by omega) (by omega)) k k0 (by unfold plcF; rw [if_pos rfl]; exact k1)
    unfold brkF at q
    rw [if_pos rfl, decide_eq_false_iff_not] at q
    have := hc.2.2.2.2 j k j0 j1 k1 e
    omega
def dm (ρ : Row) (u g : Int) : Int := dmF (layR ρ u) (tgF ρ g) (ρ 5)
theorem dm_self {ρ : Row} {g : Int} (h0 : 0 ≤ ρ 11 ∧ ρ 11 ≤ 5) (hu : Vc ρ g) (h : gdC ρ g) : dm ρ g g = 0 := by
  have ht := gd_tg h0 h
  have e : awF (fT (layR ρ g) (tgF ρ g)) (layR ρ g 11) = 0 := aw_0 (by rw [lay_11]; exact h0.1) (fun k k0 k1 => (fT_home hu.2 (by rw [lay_11]; exact ht) ⟨k0, k1⟩).2 rfl)
  unfold dm dmF
  rw [if_neg (fun c => c.1 e), e]
theorem dm_zero {ρ : Row} {u g : Int} (h0 : 0 ≤ ρ 11 ∧ ρ 11 ≤ 5) (hu : Vc ρ u) (h : gdC ρ g) (hd : dm ρ u g = 0) : u = g := by
  have ht := gd_tg h0 h
  have e := dm_pos (σ := layR ρ u) (τ := tgF ρ g) (S := ρ 5) (by unfold dm at hd; omega)
  have e2 : awF (fT (layR ρ u) (tgF ρ g)) (layR ρ u 11) = 0 := by rw [← e]; exact hd
  have q : ∀ k, 0 ≤ k → k < ρ 11 → layR ρ u (93 + k) = layR ρ g (93 + k) := fun k k0 k1 =>
    (fT_home hu.2 (by rw [lay_11]; exact ht) (by rw [lay_11]; exact ⟨k0, k1⟩)).1 (aw_0' (by rw [lay_11]; exact h0.1) e2 k k0 (by rw [lay_11]; exact k1))
  have q2 : layR ρ u = layR ρ g := by
    funext j
    by_cases c : 93 ≤ j ∧ j < 93 + ρ 11
    · have := q (j - 93) (by omega) (by omega)
      rw [show 93 + (j - 93) = j by omega] at this
      exact this
    · rw [lay_ne c, lay_ne c]
  rw [← code_lay h0.1 hu.1, ← code_lay h0.1 h.1, q2]
theorem dm_edge {ρ : Row} {u l c g : Int} (h0 : 0 ≤ ρ 11 ∧ ρ 11 ≤ 5) (hu : Vc ρ u) (hg : gdC ρ g) (he : mvE ρ u l = some c) (hd : 0 ≤ dm ρ c g) : 0 ≤ dm ρ u g ∧ dm ρ u g ≤ dm ρ c g + 1 := by
  obtain ⟨-, h1, h2, h3, h4, h5⟩ := mv_edge hu he
  unfold dm at hd ⊢
  rw [h5] at hd ⊢
  exact dm_move hu.2 (by rw [lay_11]; exact gd_tg h0 hg) (by rw [lay_11]; exact h1) h2 h3 hd
theorem dm_path {ρ : Row} {g : Int} (h0 : 0 ≤ ρ 11 ∧ ρ 11 ≤ 5) (hg : gdC ρ g) : ∀ (p : List Int) (u : Int), Vc ρ u → Pth (mvE ρ) u p g → 0 ≤ dm ρ u g ∧ dm ρ u g ≤ p.length
  | [], u, hu, h => by
    have h : g = u := h
    subst h
    rw [dm_self h0 hu hg]
    exact ⟨Int.le_refl _, Int.natCast_nonneg _⟩
  | l :: t, u, hu, ⟨u', h1, h2⟩ => by
    have e := mv_edge hu h1
    obtain ⟨a, b⟩ := dm_path h0 hg t u' e.2.2.2.2.1 h2
    have q := dm_edge h0 hu hg h1 a
    rw [List.length_cons]
    omega
theorem Pth.vc {ρ : Row} : ∀ {p : List Int} {u c : Int}, Vc ρ u → Pth (mvE ρ) u p c → Vc ρ c
  | [], u, c, hu, h => by
    have h : c = u := h
    rw [h]; exact hu
  | l :: t, u, c, hu, ⟨u', h1, h2⟩ => Pth.vc (mv_edge hu h1).2.2.2.2.1 h2
def lmC (ρ : Row) (u g away : Int) : Int := lmF (layR ρ u) (tgF ρ g) (ρ 5) away
def Opt (ρ : Row) (c0 D : Int) (p : List Int) (R : Int → Prop) : Prop := ∀ (p' : List Int) (g : Int), Pth (mvE ρ) c0 p' g → gdC ρ g → (p'.length : Int) = D → vF p ≤ vF (p'.take p.length) ∧ (vF p = vF (p'.take p.length) → p'.take p.length = p ∧ R g)
def GI (ρ : Row) (c0 D : Int) (p : List Int) (u : Int) (R : Int → Prop) : Prop := Pth (mvE ρ) c0 p u ∧ Vc ρ u ∧ (p.length : Int) ≤ D ∧ (∀ g, R g → gdC ρ g ∧ dm ρ u g = D - p.length) ∧ (∃ g, R g) ∧ Opt ρ c0 D p R
theorem GI.start {ρ : Row} {c0 D : Int} (hc : Vc ρ c0) (h0 : 0 ≤ ρ 11 ∧ ρ 11 ≤ 5) (hD : 0 ≤ D) {R : Int → Prop} (hR : ∀ g, R g ↔ gdC ρ g ∧ dm ρ c0 g = D) (hl : ∀ g, gdC ρ g → dm ρ c0 g ≠ -1 → D ≤ dm ρ c0 g) (he : ∃ g, R g) : GI ρ c0 D [] c0 R := by
  refine ⟨rfl, hc, hD, fun g hg => ?_, he, fun p' g hp hg hL => ⟨Int.le_refl _, fun _ => ⟨rfl, ?_⟩⟩⟩
  · have := (hR g).1 hg
    exact ⟨this.1, by rw [this.2]; simp⟩
  · have q := dm_path h0 hg p' c0 hc hp
    exact (hR g).2 ⟨hg, by have := hl g hg (by omega); omega⟩
theorem GI.step {ρ : Row} {c0 D u l : Int} {p : List Int} {R : Int → Prop} (h : GI ρ c0 D p u R) (h0 : 0 ≤ ρ 11 ∧ ρ 11 ≤ 5) (h5 : ρ 5 ≤ 6) (hp : (p.length : Int) < D) (h1 : ∃ g, R g ∧ l = lmC ρ u g (D - p.length)) (h2 : ∀ g, R g → l ≤ lmC ρ u g (D - p.length)) : ∃ u', mvE ρ u l = some u' ∧ (0 ≤ l / 10 ∧ l / 10 < ρ 11) ∧ (0 ≤ l % 10 ∧ l % 10 < ρ 5) ∧ onF (layR ρ u) (l % 10) < 0 ∧ layR ρ u' = rset (layR ρ u) (93 + l / 10) (l % 10) ∧ GI ρ c0 D (p ++ [l]) u' (fun g => R g ∧ dm ρ u' g = D - p.length - 1) := by
  obtain ⟨a1, a2, a3, a4, -, a6⟩ := h
  obtain ⟨g0, hg0, el⟩ := h1
  have lm : ∀ g, R g → _ := fun g hg => lm_spec (σ := layR ρ u) (τ := tgF ρ g) (S := ρ 5) (away := D - p.length) a2.2 (by rw [lay_11]; exact gd_tg h0 (a4 g hg).1) (a4 g hg).2 (by omega)
  obtain ⟨⟨k, s, b1, b2, b3, b4, b5⟩, -⟩ := lm g0 hg0
  rw [lay_11] at b2
  have el : l = 10 * k + s := by rw [el]; exact b1
  obtain ⟨u', c1, c2, c3⟩ := mv_to h0.2 h5 a2 b2 b3 b4
  have ek : l / 10 = k := by omega
  have es : l % 10 = s := by omega
  rw [← el] at c1
  refine ⟨u', c1, by rw [ek]; exact b2, by rw [es]; exact b3, by rw [es]; exact b4, by rw [ek, es]; exact c3, (pth_app p [l] c0 u').2 ⟨u, a1, u', c1, rfl⟩, c2, ?_, fun g hg => ⟨(a4 g hg.1).1, ?_⟩, ⟨g0, hg0, ?_⟩, fun p' g hp' hg hL => ?_⟩
  · rw [List.length_append, List.length_singleton]; omega
  · rw [hg.2, List.length_append, List.length_singleton]; omega
  · unfold dm; rw [c3]; exact b5
  · have hlen : p.length < p'.length := by omega
    obtain ⟨d1, d2⟩ := a6 p' g hp' hg hL
    have hd : p'.drop p.length = p'[p.length] :: p'.drop (p.length + 1) := List.drop_eq_getElem_cons hlen
    have htk : p'.take (p.length + 1) = p'.take p.length ++ [p'[p.length]] := (List.take_append_getElem hlen).symm
    rw [List.length_append, List.length_singleton, htk, vF_app, vF_app]
    have hsp : Pth (mvE ρ) c0 (p'.take p.length ++ p'.drop p.length) g := by rw [List.take_append_drop]; exact hp'
    rw [pth_app, hd] at hsp
    obtain ⟨v, e1, u2, e2, e3⟩ := hsp
    generalize p'[p.length] = l' at e2
    have hl' := mv_lab ρ _ _ _ e2
    have hl := mv_lab ρ _ _ _ c1
    by_cases c : vF p = vF (p'.take p.length)
    · obtain ⟨f1, f2⟩ := d2 c
      rw [f1] at e1
      obtain rfl : u = v := Pth.det a1 e1
      have m2 := mv_edge a2 e2
      have q := dm_path h0 hg _ u2 m2.2.2.2.2.1 e3
      have q2 := dm_edge h0 a2 hg e2 q.1
      have q3 := (a4 g f2).2
      rw [List.length_drop] at q
      have q4 : dm ρ u2 g = D - p.length - 1 := by omega
      have q5 := (lm g f2).2 (l' / 10) (l' % 10) (by rw [lay_11]; exact m2.2.1) m2.2.2.1 m2.2.2.2.1 (by
        have := m2.2.2.2.2.2
        unfold dm at q4
        rw [this] at q4
        exact q4)
      have q6 := h2 g f2
      have q7 : lmC ρ u g (D - p.length) ≤ l' := by
        unfold lmC
        omega
      refine ⟨by omega, fun e => ?_⟩
      obtain rfl : l = l' := by omega
      rw [c1] at e2
      obtain rfl : u' = u2 := by simpa using e2
      exact ⟨by rw [f1], f2, q4⟩
    · exact ⟨by omega, fun e => by omega⟩
def MendOK (ρ : Row) (w : Wrd) : Prop := ∃ c, Rch (mvE ρ) (codeR ρ) w c ∧ brokF (layR ρ c) = 0 ∧ ∀ w' c', Rch (mvE ρ) (codeR ρ) w' c' → brokF (layR ρ c') = 0 → val w ≤ val w'
theorem mend_one {ρ : Row} {w w' : Wrd} (h : MendOK ρ w) (h' : MendOK ρ w') : w = w' := by
  obtain ⟨c, a, b, d⟩ := h
  obtain ⟨c', a', b', d'⟩ := h'
  have := d w' c' a' b'
  have := d' w c a b
  exact Rch.inj (mv_lab ρ) a a' (by omega)
theorem GI.done {ρ : Row} {D u : Int} {p : List Int} {R : Int → Prop} (h : GI ρ (codeR ρ) D p u R) (hv : Vc ρ (codeR ρ)) (h0 : 0 ≤ ρ 11 ∧ ρ 11 ≤ 5) (hp : (p.length : Int) = D) (hl : ∀ g, gdC ρ g → dm ρ (codeR ρ) g ≠ -1 → D ≤ dm ρ (codeR ρ) g) : MendOK ρ p.reverse := by
  obtain ⟨a1, a2, a3, a4, ⟨g, hg⟩, a6⟩ := h
  have q := a4 g hg
  have e := dm_zero h0 a2 q.1 (by rw [q.2]; omega)
  subst e
  refine ⟨u, (rch_pth _ _).2 (by rw [List.reverse_reverse]; exact a1), q.1.2.2, fun w' c' hw hb => ?_⟩
  have hw0 := hw
  rw [rch_pth] at hw
  have hgc := vc_gd (hw.vc hv) hb
  have d := dm_path h0 hgc _ _ hv hw
  have d2 := hl c' hgc (by omega)
  have hr : Rch (mvE ρ) (codeR ρ) p.reverse u := (rch_pth _ _).2 (by rw [List.reverse_reverse]; exact a1)
  rw [List.length_reverse] at d
  by_cases c : (w'.length : Int) = D
  · have := a6 w'.reverse c' hw hgc (by rw [List.length_reverse]; exact c)
    rw [val_vF, val_vF, List.reverse_reverse]
    rw [List.take_of_length_le (by rw [List.length_reverse]; omega)] at this
    exact this.1
  · by_cases c2 : val p.reverse ≤ val w'
    · exact c2
    · have := Rch.len (mv_lab ρ) hw0 hr (by omega)
      rw [List.length_reverse] at this
      omega
theorem mend_none {ρ : Row} (hv : Vc ρ (codeR ρ)) (h0 : 0 ≤ ρ 11 ∧ ρ 11 ≤ 5) (h : ∀ g, gdC ρ g → dm ρ (codeR ρ) g = -1) {w : Wrd} {c : Int} (hr : Rch (mvE ρ) (codeR ρ) w c) : brokF (layR ρ c) ≠ 0 := fun hb => by
  rw [rch_pth] at hr
  have hg := vc_gd (hr.vc hv) hb
  have := dm_path h0 hg _ _ hv hr
  have := h c hg
  omega
