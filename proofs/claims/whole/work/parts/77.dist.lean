/-! 77.dist: how far it is from one layout to another (wip/whole/src/77_dist.py) -/
def Dst (σ : Row) (S : Int) : Prop := (0 ≤ σ 11 ∧ σ 11 ≤ 5) ∧ (0 ≤ S ∧ S ≤ 6) ∧ (∀ k, 0 ≤ k → k < σ 11 → -1 ≤ σ (93 + k) ∧ σ (93 + k) < S) ∧ WFd σ
def TG (τ : Int → Int) (N S : Int) : Prop := (∀ k, 0 ≤ k → k < N → 0 ≤ τ k ∧ τ k < S) ∧ ∀ i j, 0 ≤ i → i < j → j < N → τ i ≠ τ j
theorem TG.inj {τ : Int → Int} {N S : Int} (h : TG τ N S) {i j : Int} (hi : 0 ≤ i ∧ i < N) (hj : 0 ≤ j ∧ j < N) (e : τ i = τ j) : i = j := by
  rcases Int.lt_trichotomy i j with c | c | c
  · exact absurd e (h.2 i j hi.1 c hj.2)
  · exact c
  · exact absurd e.symm (h.2 j i hj.1 c hi.2)
theorem Dst.inj {σ : Row} {S : Int} (h : Dst σ S) {i j : Int} (hi : 0 ≤ i ∧ i < σ 11) (hj : 0 ≤ j ∧ j < σ 11) (h0 : 0 ≤ σ (93 + i)) (e : σ (93 + i) = σ (93 + j)) : i = j := by
  rcases Int.lt_trichotomy i j with c | c | c
  · have := h.2.2.2 i j hi.1 c hj.2 e; omega
  · exact c
  · have := h.2.2.2 j i hj.1 c hi.2 e.symm; omega
theorem on_spec (σ : Row) (t : Int) : (onF σ t = -1 ∧ ∀ j, 0 ≤ j → j < σ 11 → σ (93 + j) ≠ t) ∨ ((0 ≤ onF σ t ∧ onF σ t < σ 11) ∧ σ (93 + onF σ t) = t) := by
  unfold onF
  rcases fnd_spec (p := fun k => decide (σ (93 + k) = t)) (σ 11).toNat 0 with ⟨h1, h2⟩ | ⟨h1, h2, h3, -⟩
  · exact Or.inl ⟨h1, fun j j0 j1 => by have := h2 j j0 (by omega); simpa using this⟩
  · exact Or.inr ⟨⟨h1, by omega⟩, by simpa using h3⟩
theorem on_at {σ : Row} {S : Int} (h : Dst σ S) {k t : Int} (hk : 0 ≤ k ∧ k < σ 11) (ht : 0 ≤ t) (e : σ (93 + k) = t) : onF σ t = k := by
  rcases on_spec σ t with ⟨-, h2⟩ | ⟨h1, h2⟩
  · exact absurd e (h2 k hk.1 hk.2)
  · exact h.inj h1 hk (by omega) (by rw [h2, e])
theorem on_no {σ : Row} {t : Int} (h : ∀ j, 0 ≤ j → j < σ 11 → σ (93 + j) ≠ t) : onF σ t = -1 := by
  rcases on_spec σ t with ⟨h1, -⟩ | ⟨h1, h2⟩
  · exact h1
  · exact absurd h2 (h _ h1.1 h1.2)
theorem Dst.set {σ : Row} {S k s : Int} (h : Dst σ S) (hk : 0 ≤ k ∧ k < σ 11) (hs : s = -1 ∨ (0 ≤ s ∧ s < S) ∧ onF σ s < 0) : Dst (rset σ (93 + k) s) S := by
  have e11 : rset σ (93 + k) s 11 = σ 11 := rset_ne (by omega)
  refine ⟨by rw [e11]; exact h.1, h.2.1, fun j j0 j1 => ?_, fun i j i0 ij j1 e => ?_⟩
  · rw [e11] at j1
    by_cases c : j = k
    · have := h.2.1
      rw [c, rset_eq]; omega
    · rw [rset_ne (by omega)]; exact h.2.2.1 j j0 j1
  · rw [e11] at j1
    by_cases ci : i = k
    · have cj : j ≠ k := by omega
      rw [ci, rset_eq, rset_ne (by omega)] at e
      rw [ci, rset_eq]
      rcases hs with hs | ⟨h1, h2⟩
      · exact hs
      · have := on_at h ⟨by omega, j1⟩ h1.1 e.symm; omega
    · by_cases cj : j = k
      · rw [cj, rset_eq, rset_ne (by omega)] at e
        rw [rset_ne (by omega), e]
        rcases hs with hs | ⟨h1, h2⟩
        · exact hs
        · have := on_at h ⟨i0, by omega⟩ h1.1 e; omega
      · rw [rset_ne (by omega), rset_ne (by omega)] at e
        rw [rset_ne (by omega)]
        exact h.2.2.2 i j i0 ij j1 e
theorem on_move {σ : Row} {S k s : Int} (h : Dst σ S) (hk : 0 ≤ k ∧ k < σ 11) (hs : 0 ≤ s ∧ s < S) (he : onF σ s < 0) {t : Int} (ht : 0 ≤ t) : onF (rset σ (93 + k) s) t = if t = s then k else if onF σ t = k then -1 else onF σ t := by
  have h' := h.set hk (Or.inr ⟨hs, he⟩)
  have e11 : rset σ (93 + k) s 11 = σ 11 := rset_ne (by omega)
  by_cases c : t = s
  · rw [if_pos c]
    exact on_at h' (by rw [e11]; exact hk) ht (by rw [rset_eq, c])
  · rw [if_neg c]
    rcases on_spec σ t with ⟨h1, h2⟩ | ⟨h1, h2⟩
    · rw [if_neg (by omega), h1]
      refine on_no (fun j j0 j1 => ?_)
      rw [e11] at j1
      by_cases cj : j = k
      · rw [cj, rset_eq]; exact fun e => c e.symm
      · rw [rset_ne (by omega)]; exact h2 j j0 j1
    · by_cases ck : onF σ t = k
      · rw [if_pos ck]
        refine on_no (fun j j0 j1 => ?_)
        rw [e11] at j1
        by_cases cj : j = k
        · rw [cj, rset_eq]; exact fun e => c e.symm
        · rw [rset_ne (by omega)]
          intro e
          exact cj (by rw [← ck]; exact (on_at h ⟨j0, j1⟩ ht e).symm)
      · rw [if_neg ck]
        exact on_at h' (by rw [e11]; exact h1) ht (by rw [rset_ne (by omega), h2])
def fT (σ : Row) (τ : Int → Int) : Int → Int := fun k => onF σ (τ k)
theorem fT_pi {σ : Row} {τ : Int → Int} {S : Int} (h : Dst σ S) (ht : TG τ (σ 11) S) : PI (fT σ τ) (σ 11) := by
  refine ⟨fun k k0 k1 => ?_, fun i j i0 ij j1 e => ?_⟩
  · show -1 ≤ onF σ (τ k) ∧ onF σ (τ k) < σ 11
    rcases on_spec σ (τ k) with ⟨h1, -⟩ | ⟨h1, -⟩ <;> omega
  · show onF σ (τ i) = -1
    have e : onF σ (τ i) = onF σ (τ j) := e
    rcases on_spec σ (τ i) with ⟨h1, -⟩ | ⟨h1, h2⟩
    · exact h1
    · rcases on_spec σ (τ j) with ⟨h3, -⟩ | ⟨h3, h4⟩
      · omega
      · rw [← e, h2] at h4
        exact absurd h4 (ht.2 i j i0 ij j1)
theorem fT_home {σ : Row} {τ : Int → Int} {S k : Int} (h : Dst σ S) (ht : TG τ (σ 11) S) (hk : 0 ≤ k ∧ k < σ 11) : fT σ τ k = k ↔ σ (93 + k) = τ k := by
  have := ht.1 k hk.1 hk.2
  constructor
  · intro e
    have e : onF σ (τ k) = k := e
    rcases on_spec σ (τ k) with ⟨h1, -⟩ | ⟨-, h2⟩
    · omega
    · rw [e] at h2; exact h2
  · intro e
    exact on_at h hk this.1 e
/-- the first empty spot, how many are empty -/
def empF (σ : Row) (S : Int) : Int := fnd (fun s => decide (onF σ s < 0)) S.toNat 0
def numE (σ : Row) (S : Int) : Int := sumF (fun s => if onF σ s < 0 then 1 else 0) S.toNat 0
theorem emp_spec {σ : Row} {S : Int} : (empF σ S = -1 ∧ ∀ s, 0 ≤ s → s < S → 0 ≤ onF σ s) ∨ ((0 ≤ empF σ S ∧ empF σ S < S) ∧ onF σ (empF σ S) < 0 ∧ ∀ s, 0 ≤ s → s < empF σ S → 0 ≤ onF σ s) := by
  unfold empF
  rcases fnd_spec (p := fun s => decide (onF σ s < 0)) S.toNat 0 with ⟨h1, h2⟩ | ⟨h1, h2, h3, h4⟩
  · exact Or.inl ⟨h1, fun j j0 j1 => by have := h2 j j0 (by omega); simp only [decide_eq_false_iff_not] at this; omega⟩
  · exact Or.inr ⟨⟨h1, by omega⟩, by simpa using h3, fun j j0 j1 => by have := h4 j j0 j1; simp only [decide_eq_false_iff_not] at this; omega⟩
theorem emp_le {σ : Row} {S s : Int} (hs : 0 ≤ s ∧ s < S) (h : onF σ s < 0) : 0 ≤ empF σ S ∧ empF σ S ≤ s := by
  rcases emp_spec (σ := σ) (S := S) with ⟨-, h2⟩ | ⟨h1, -, h3⟩
  · have := h2 s hs.1 hs.2; omega
  · refine ⟨h1.1, ?_⟩
    by_cases c : s < empF σ S
    · have := h3 s hs.1 c; omega
    · omega
theorem numE_two {σ : Row} {S a b : Int} (ha : 0 ≤ a ∧ a < b) (hb : b < S) (h1 : onF σ a < 0) (h2 : onF σ b < 0) : 2 ≤ numE σ S := by
  have p := fun (n : Int) (hn : 0 ≤ n) => sumF_ge (f := fun s => if onF σ s < 0 then (1 : Int) else 0) n.toNat 0 (fun j _ _ => by (try dsimp only); split <;> omega)
  have q1 := sumF_part (f := fun s => if onF σ s < 0 then (1 : Int) else 0) (N := S) (k := b) ⟨by omega, hb⟩ (fun j _ _ => by (try dsimp only); split <;> omega)
  have q2 := sumF_part (f := fun s => if onF σ s < 0 then (1 : Int) else 0) (N := b) (k := a) ⟨ha.1, ha.2⟩ (fun j _ _ => by (try dsimp only); split <;> omega)
  have q3 := p a ha.1
  rw [if_pos h2] at q1
  rw [if_pos h1] at q2
  unfold numE
  omega
theorem numE_ne {σ : Row} {S a b : Int} (ha : 0 ≤ a ∧ a < S) (hb : 0 ≤ b ∧ b < S) (hab : a ≠ b) (h1 : onF σ a < 0) (h2 : onF σ b < 0) : 2 ≤ numE σ S := by
  rcases Int.lt_trichotomy a b with c | c | c
  · exact numE_two ⟨ha.1, c⟩ hb.2 h1 h2
  · exact absurd c hab
  · exact numE_two ⟨hb.1, c⟩ ha.2 h2 h1
theorem numE_one {σ : Row} {S s : Int} (hs : 0 ≤ s ∧ s < S) (h : onF σ s < 0) (hn : numE σ S ≠ 1) : ∃ t, (0 ≤ t ∧ t < S) ∧ t ≠ s ∧ onF σ t < 0 := by
  by_cases c : ∃ t, (0 ≤ t ∧ t < S) ∧ t ≠ s ∧ onF σ t < 0
  · exact c
  · exfalso
    apply hn
    unfold numE
    rw [sumF_one (a := s) _ _ hs.1 (by omega) (fun j j0 j1 j2 => if_neg (fun e => c ⟨j, ⟨j0, by omega⟩, j2, e⟩)), if_pos h]
def dmF (σ : Row) (τ : Int → Int) (S : Int) : Int := if awF (fT σ τ) (σ 11) ≠ 0 ∧ empF σ S < 0 then -1 else awF (fT σ τ) (σ 11)
def onRg (σ : Row) (τ : Int → Int) (k : Int) : Prop := lorF (fT σ τ) k (σ 11).toNat k k ≠ -1
theorem aw_move {σ : Row} {τ : Int → Int} {S k s : Int} (h : Dst σ S) (ht : TG τ (σ 11) S) (hk : 0 ≤ k ∧ k < σ 11) (hs : 0 ≤ s ∧ s < S) (he : onF σ s < 0) : awF (fT σ τ) (σ 11) ≤ awF (fT (rset σ (93 + k) s) τ) (σ 11) + 1 ∧ (awF (fT σ τ) (σ 11) = awF (fT (rset σ (93 + k) s) τ) (σ 11) + 1 ↔ σ (93 + k) ≠ τ k ∧ (s = τ k ∨ onRg σ τ k)) := by
  by_cases hj : ∃ j, (0 ≤ j ∧ j < σ 11) ∧ τ j = s
  · obtain ⟨j, hj, ej⟩ := hj
    have q := ring_move (f := fT σ τ) (f' := fT (rset σ (93 + k) s) τ) (j := j) h.1 (fT_pi h ht) hk (Or.inr ⟨hj, by
      show onF σ (τ j) = -1
      rw [ej]
      rcases on_spec σ s with ⟨h1, -⟩ | ⟨h1, -⟩
      · exact h1
      · omega⟩) (fun i i0 i1 => by
      show onF (rset σ (93 + k) s) (τ i) = if i = j then k else if onF σ (τ i) = k then -1 else onF σ (τ i)
      rw [on_move h hk hs he (ht.1 i i0 i1).1]
      by_cases c : i = j
      · rw [if_pos c, if_pos (by rw [c, ej])]
      · rw [if_neg c, if_neg (fun e => c (ht.inj ⟨i0, i1⟩ hj (by rw [e, ej])))])
    refine ⟨q.1, q.2.trans ?_⟩
    rw [ne_eq, fT_home h ht hk]
    refine and_congr Iff.rfl (or_congr ⟨fun e => by rw [← e, ej], fun e => ht.inj hj hk (by rw [ej, e])⟩ Iff.rfl)
  · have q := ring_move (f := fT σ τ) (f' := fT (rset σ (93 + k) s) τ) (j := σ 11) h.1 (fT_pi h ht) hk (Or.inl rfl) (fun i i0 i1 => by
      show onF (rset σ (93 + k) s) (τ i) = if i = σ 11 then k else if onF σ (τ i) = k then -1 else onF σ (τ i)
      rw [on_move h hk hs he (ht.1 i i0 i1).1, if_neg (fun e => hj ⟨i, ⟨i0, i1⟩, e⟩)]
      exact (if_neg (by omega)).symm)
    refine ⟨q.1, q.2.trans ?_⟩
    rw [ne_eq, fT_home h ht hk]
    refine and_congr Iff.rfl (or_congr ⟨fun e => absurd e (by omega), fun e => absurd ⟨k, hk, e.symm⟩ hj⟩ Iff.rfl)
theorem dm_move {σ : Row} {τ : Int → Int} {S k s : Int} (h : Dst σ S) (ht : TG τ (σ 11) S) (hk : 0 ≤ k ∧ k < σ 11) (hs : 0 ≤ s ∧ s < S) (he : onF σ s < 0) (h0 : 0 ≤ dmF (rset σ (93 + k) s) τ S) : 0 ≤ dmF σ τ S ∧ dmF σ τ S ≤ dmF (rset σ (93 + k) s) τ S + 1 := by
  have q := aw_move h ht hk hs he
  have a := aw_10 h.1 (fT_pi h ht)
  have e := emp_le hs he
  have e11 : rset σ (93 + k) s 11 = σ 11 := rset_ne (by omega)
  unfold dmF at h0 ⊢
  rw [e11] at h0 ⊢
  split at h0
  · omega
  · rename_i c
    rw [if_neg c, if_neg (by omega)]
    omega
theorem dm_pos {σ : Row} {τ : Int → Int} {S : Int} (h : dmF σ τ S ≠ -1) : dmF σ τ S = awF (fT σ τ) (σ 11) := by
  unfold dmF at h ⊢
  split
  · rename_i c; rw [if_pos c] at h; omega
  · rfl
/-- the least move to one layout -/
def shtB (σ : Row) (S k away : Int) : Bool := decide (σ (93 + k) < 0 ∧ 1 < away ∧ numE σ S = 1)
def lmA (σ : Row) (τ : Int → Int) (S away k : Int) : Bool := decide (σ (93 + k) ≠ τ k) && (decide (onF σ (τ k) < 0) && !shtB σ S k away)
def lmB (σ : Row) (τ : Int → Int) (S k : Int) : Bool := decide (σ (93 + k) ≠ τ k ∧ lorF (fT σ τ) k (σ 11).toNat k k ≠ -1 ∧ 0 ≤ empF σ S)
def lmK (σ : Row) (τ : Int → Int) (S away : Int) : Int := fnd (fun k => lmA σ τ S away k || lmB σ τ S k) (σ 11).toNat 0
def lmF (σ : Row) (τ : Int → Int) (S away : Int) : Int := if lmK σ τ S away < 0 then -1 else if lmA σ τ S away (lmK σ τ S away) = true then 10 * lmK σ τ S away + τ (lmK σ τ S away) else 10 * lmK σ τ S away + empF σ S
theorem lmA_iff {σ : Row} {τ : Int → Int} {S away k : Int} : lmA σ τ S away k = true ↔ σ (93 + k) ≠ τ k ∧ onF σ (τ k) < 0 ∧ ¬ (σ (93 + k) < 0 ∧ 1 < away ∧ numE σ S = 1) := by
  unfold lmA shtB
  rw [Bool.and_eq_true, Bool.and_eq_true, decide_eq_true_eq, decide_eq_true_eq, Bool.not_eq_true', decide_eq_false_iff_not]
theorem lmB_iff {σ : Row} {τ : Int → Int} {S k : Int} : lmB σ τ S k = true ↔ σ (93 + k) ≠ τ k ∧ onRg σ τ k ∧ 0 ≤ empF σ S := by
  unfold lmB onRg
  rw [decide_eq_true_eq]
theorem lor_pre {f : Int → Int} {N k : Int} (hf : ∀ i, 0 ≤ i → i < N → f i < N) : ∀ (n : Nat) (le nx : Int), 0 ≤ nx ∧ nx < N → lorF f k n le nx ≠ -1 → ∃ i, (0 ≤ i ∧ i < N) ∧ f i = k
  | 0, _, _, _, h => absurd rfl h
  | n + 1, le, nx, hx, h => by
    rw [lorF] at h
    have := hf nx hx.1 hx.2
    by_cases c : f nx < 0
    · rw [if_pos c] at h; exact absurd rfl h
    · rw [if_neg c] at h
      by_cases ck : f nx = k
      · exact ⟨nx, hx, ck⟩
      · rw [if_neg ck] at h
        exact lor_pre hf n _ _ ⟨by omega, this⟩ h
theorem rg_on {σ : Row} {τ : Int → Int} {S k : Int} (h : Dst σ S) (ht : TG τ (σ 11) S) (hk : 0 ≤ k ∧ k < σ 11) (hr : onRg σ τ k) : 0 ≤ σ (93 + k) := by
  have hp := fT_pi h ht
  obtain ⟨i, hi, e⟩ := lor_pre (f := fT σ τ) (N := σ 11) (fun i i0 i1 => (hp.1 i i0 i1).2) _ _ _ hk hr
  have e : onF σ (τ i) = k := e
  rcases on_spec σ (τ i) with ⟨h1, -⟩ | ⟨-, h2⟩
  · omega
  · rw [e] at h2
    have := ht.1 i hi.1 hi.2
    omega
theorem rg_f {σ : Row} {τ : Int → Int} {k : Int} (hN : 0 < σ 11) (hr : onRg σ τ k) : 0 ≤ onF σ (τ k) := by
  unfold onRg at hr
  obtain ⟨n, e⟩ : ∃ n, (σ 11).toNat = n + 1 := ⟨(σ 11).toNat - 1, by omega⟩
  rw [e, lorF] at hr
  by_cases c : fT σ τ k < 0
  · rw [if_pos c] at hr; exact absurd rfl hr
  · have : fT σ τ k = onF σ (τ k) := rfl
    omega
theorem lm_spec {σ : Row} {τ : Int → Int} {S away : Int} (h : Dst σ S) (ht : TG τ (σ 11) S) (ha : dmF σ τ S = away) (h0 : 0 < away) :
    (∃ k s, lmF σ τ S away = 10 * k + s ∧ (0 ≤ k ∧ k < σ 11) ∧ (0 ≤ s ∧ s < S) ∧ onF σ s < 0 ∧ dmF (rset σ (93 + k) s) τ S = away - 1) ∧
    ∀ k s, 0 ≤ k ∧ k < σ 11 → 0 ≤ s ∧ s < S → onF σ s < 0 → dmF (rset σ (93 + k) s) τ S = away - 1 → lmF σ τ S away ≤ 10 * k + s := by
  have hp := fT_pi h ht
  have haw := dm_pos (σ := σ) (τ := τ) (S := S) (by omega)
  rw [ha] at haw
  have hemp : 0 ≤ empF σ S := by
    rcases emp_spec (σ := σ) (S := S) with ⟨h1, -⟩ | ⟨h1, -⟩
    · unfold dmF at ha
      rw [if_pos ⟨by omega, by omega⟩] at ha
      omega
    · exact h1.1
  have hempS : empF σ S < S ∧ onF σ (empF σ S) < 0 := by
    rcases emp_spec (σ := σ) (S := S) with ⟨h1, -⟩ | ⟨h1, h2, -⟩
    · omega
    · exact ⟨h1.2, h2⟩
  -- one of them can go on
  have hex : ∃ k, (0 ≤ k ∧ k < σ 11) ∧ (lmA σ τ S away k || lmB σ τ S k) = true := by
    obtain ⟨k, hk, hne, hor⟩ := ring_some h.1 hp (by omega)
    rw [ne_eq, fT_home h ht hk] at hne
    by_cases hr : onRg σ τ k
    · exact ⟨k, hk, by rw [lmB_iff.2 ⟨hne, hr, hemp⟩, Bool.or_true]⟩
    · have hf : onF σ (τ k) = -1 := hor.resolve_right hr
      by_cases hsh : σ (93 + k) < 0 ∧ 1 < away ∧ numE σ S = 1
      · obtain ⟨q, hq, hqn, hqr⟩ := ring_gap h.1 hp hk hf (fun i i0 i1 ik e => by
          have := numE_ne (σ := σ) (ht.1 i i0 i1) (ht.1 k hk.1 hk.2) (fun e2 => ik (ht.inj ⟨i0, i1⟩ hk e2)) (by have e : onF σ (τ i) = -1 := e; omega) (by omega)
          omega) (fun i i0 i1 e => by
          have e : onF σ (τ i) = k := e
          rcases on_spec σ (τ i) with ⟨h1, -⟩ | ⟨-, h2⟩
          · omega
          · rw [e] at h2
            have := ht.1 i i0 i1
            omega) (by omega)
        rw [ne_eq, fT_home h ht hq] at hqn
        exact ⟨q, hq, by rw [lmB_iff.2 ⟨hqn, hqr, hemp⟩, Bool.or_true]⟩
      · exact ⟨k, hk, by rw [lmA_iff.2 ⟨hne, by omega, hsh⟩, Bool.true_or]⟩
  have hK : (0 ≤ lmK σ τ S away ∧ lmK σ τ S away < σ 11) ∧ (lmA σ τ S away (lmK σ τ S away) || lmB σ τ S (lmK σ τ S away)) = true ∧ ∀ j, 0 ≤ j → j < lmK σ τ S away → (lmA σ τ S away j || lmB σ τ S j) = false := by
    unfold lmK
    obtain ⟨k, hk, e⟩ := hex
    rcases fnd_spec (p := fun k => lmA σ τ S away k || lmB σ τ S k) (σ 11).toNat 0 with ⟨-, h2⟩ | ⟨h1, h2, h3, h4⟩
    · have := h2 k hk.1 (by omega)
      try dsimp only at this
      rw [e] at this; cases this
    · exact ⟨⟨h1, by omega⟩, h3, h4⟩
  have key : ∀ k s, 0 ≤ k ∧ k < σ 11 → 0 ≤ s ∧ s < S → onF σ s < 0 → σ (93 + k) ≠ τ k → (s = τ k ∨ onRg σ τ k) → (0 ≤ σ (93 + k) ∨ away ≤ 1 ∨ numE σ S ≠ 1) → dmF (rset σ (93 + k) s) τ S = away - 1 := by
    intro k s hk hs he hne hor hgap
    have q := (aw_move h ht hk hs he).2.2 ⟨hne, hor⟩
    have e11 : rset σ (93 + k) s 11 = σ 11 := rset_ne (by omega)
    have h' := h.set hk (Or.inr ⟨hs, he⟩)
    unfold dmF
    rw [e11]
    by_cases c : awF (fT (rset σ (93 + k) s) τ) (σ 11) = 0
    · rw [if_neg (fun e => e.1 c)]; omega
    · rw [if_neg]
      · omega
      · rintro ⟨-, e2⟩
        have hno : ∀ t, 0 ≤ t → t < S → onF (rset σ (93 + k) s) t < 0 → False := fun t t0 t1 e3 => by
          have := emp_le (σ := rset σ (93 + k) s) ⟨t0, t1⟩ e3; omega
        rcases hgap with g | g | g
        · refine hno (σ (93 + k)) g (h.2.2.1 k hk.1 hk.2).2 ?_
          have ok := on_at h hk g rfl
          rw [on_move h hk hs he g, if_neg (fun e3 => by rw [← e3] at he; omega), if_pos ok]
          omega
        · omega
        · obtain ⟨t, ht1, ht2, ht3⟩ := numE_one hs he g
          refine hno t ht1.1 ht1.2 ?_
          rw [on_move h hk hs he ht1.1, if_neg ht2, if_neg (by omega)]
          exact ht3
  refine ⟨?_, fun k s hk hs he hd => ?_⟩
  · unfold lmF
    rw [if_neg (by omega)]
    by_cases ca : lmA σ τ S away (lmK σ τ S away) = true
    · rw [if_pos ca]
      obtain ⟨a1, a2, a3⟩ := lmA_iff.1 ca
      have t := ht.1 _ hK.1.1 hK.1.2
      exact ⟨_, _, rfl, hK.1, t, a2, key _ _ hK.1 t a2 a1 (Or.inl rfl) (by
        have := (h.2.2.1 _ hK.1.1 hK.1.2).1
        by_cases c : 0 ≤ σ (93 + lmK σ τ S away)
        · exact Or.inl c
        · by_cases c2 : away ≤ 1
          · exact Or.inr (Or.inl c2)
          · exact Or.inr (Or.inr (fun e => a3 ⟨by omega, by omega, e⟩)))⟩
    · rw [if_neg ca]
      have cb := hK.2.1
      rw [Bool.eq_false_iff.2 ca, Bool.false_or] at cb
      obtain ⟨b1, b2, b3⟩ := lmB_iff.1 cb
      exact ⟨_, _, rfl, hK.1, ⟨hemp, hempS.1⟩, hempS.2, key _ _ hK.1 ⟨hemp, hempS.1⟩ hempS.2 b1 (Or.inr b2) (Or.inl (rg_on h ht hK.1 b2))⟩
  · have e11 : rset σ (93 + k) s 11 = σ 11 := rset_ne (by omega)
    have q := aw_move h ht hk hs he
    have hd2 := dm_pos (σ := rset σ (93 + k) s) (τ := τ) (S := S) (by omega)
    rw [e11] at hd2
    obtain ⟨r1, r2⟩ := q.2.1 (by omega)
    have hnsh : s = τ k → ¬ (σ (93 + k) < 0 ∧ 1 < away ∧ numE σ S = 1) := by
      rintro es ⟨g1, g2, g3⟩
      have hful : ¬ (empF (rset σ (93 + k) s) S < 0) := by
        intro e3
        unfold dmF at hd
        rw [e11, if_pos ⟨by omega, e3⟩] at hd
        omega
      rcases emp_spec (σ := rset σ (93 + k) s) (S := S) with ⟨w1, -⟩ | ⟨w1, w2, -⟩
      · omega
      · rw [on_move h hk hs he w1.1] at w2
        by_cases c1 : empF (rset σ (93 + k) s) S = s
        · rw [if_pos c1] at w2; omega
        · rw [if_neg c1] at w2
          have w3 : onF σ (empF (rset σ (93 + k) s) S) < 0 := by
            by_cases c2 : onF σ (empF (rset σ (93 + k) s) S) = k
            · exfalso
              rcases on_spec σ (empF (rset σ (93 + k) s) S) with ⟨v1, -⟩ | ⟨-, v2⟩
              · omega
              · rw [c2] at v2; omega
            · rw [if_neg c2] at w2; exact w2
          have := numE_ne (σ := σ) w1 hs c1 w3 he
          omega
    have hcand : (lmA σ τ S away k || lmB σ τ S k) = true := by
      by_cases es : s = τ k
      · rw [lmA_iff.2 ⟨r1, by rw [← es]; exact he, hnsh es⟩, Bool.true_or]
      · rw [lmB_iff.2 ⟨r1, r2.resolve_left es, hemp⟩, Bool.or_true]
    have hle : lmK σ τ S away ≤ k := by
      by_cases c : k < lmK σ τ S away
      · have := hK.2.2 k hk.1 c
        rw [hcand] at this; cases this
      · omega
    have hS := h.2.1
    unfold lmF
    rw [if_neg (by omega)]
    by_cases cl : lmK σ τ S away < k
    · have t := ht.1 _ hK.1.1 hK.1.2
      split <;> omega
    · have ek : lmK σ τ S away = k := by omega
      rw [ek]
      by_cases ca : lmA σ τ S away k = true
      · rw [if_pos ca]
        obtain ⟨a1, a2, a3⟩ := lmA_iff.1 ca
        rcases r2 with r2 | r2
        · omega
        · have := rg_f (by omega) r2; omega
      · rw [if_neg ca]
        have := emp_le hs he
        omega
