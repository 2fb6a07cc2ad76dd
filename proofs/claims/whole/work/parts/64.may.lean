/-! 64.may: whether one more pallet may lie there (wip/whole/src/64_may.py) -/
def ls (ρ : Row) (k s : Int) : Int := sumF (fun j => if ρ (93 + j) = s then ρ (83 + j) else 0) k.toNat 0
def hl (ρ : Row) (k h : Int) : Int := sumF (fun j => if ρ (19 + ρ (93 + j)) = h then ρ (83 + j) else 0) k.toNat 0
def joB (ρ : Row) (k s j : Int) : Bool := decide ((s = ρ (37 + j) + 1 ∨ s = ρ (37 + j)) ∧ ρ (42 + j) < ls ρ k (ρ (37 + j) + 1) + ls ρ k (ρ (37 + j)) + ρ (83 + k))
def wyB (ρ : Row) (k s j : Int) : Bool := decide (ρ (88 + k) < ρ (88 + j)) && bit (wayF ρ s) (ρ (93 + j)) || decide (ρ (88 + j) < ρ (88 + k)) && bit (wayF ρ (ρ (93 + j))) s
def mayB (ρ : Row) (k s : Int) : Bool := decide (ls ρ k s = 0 ∧ ρ (83 + k) ≤ ρ (31 + s) ∧ hl ρ k (ρ (19 + s)) + ρ (83 + k) ≤ ρ (13 + ρ (19 + s))) && (allF (fun j => !joB ρ k s j) (ρ 6).toNat 0 && allF (fun j => !wyB ρ k s j) k.toNat 0)
theorem sumF_ge {f : Int → Int} : ∀ (n : Nat) (k : Int), (∀ j, k ≤ j → j < k + n → 0 ≤ f j) → 0 ≤ sumF f n k
  | 0, _, _ => Int.le_refl _
  | n + 1, k, h => by
    rw [sumF]
    have a := h k (by omega) (by omega)
    have b := sumF_ge n (k + 1) (fun j h1 h2 => h j (by omega) (by omega))
    omega
theorem sumF_split (f : Int → Int) : ∀ (n m : Nat) (k : Int), sumF f (n + m) k = sumF f n k + sumF f m (k + n)
  | 0, m, k => by simp [sumF]
  | n + 1, m, k => by
    rw [show n + 1 + m = (n + m) + 1 by omega, sumF, sumF, sumF_split f n m (k + 1), show k + 1 + (n : Int) = k + ((n + 1 : Nat) : Int) by omega]
    omega
theorem sumF_part {f : Int → Int} {N k : Int} (hk : 0 ≤ k ∧ k < N) (h : ∀ j, 0 ≤ j → j < N → 0 ≤ f j) : sumF f k.toNat 0 + f k ≤ sumF f N.toNat 0 := by
  rw [show N.toNat = (k.toNat + 1) + (N.toNat - k.toNat - 1) by omega, sumF_split, sumF_snoc, show (0 : Int) + (k.toNat : Int) = k by omega]
  have := sumF_ge (f := f) (N.toNat - k.toNat - 1) (0 + ((k.toNat + 1 : Nat) : Int)) (fun j h1 h2 => h j (by omega) (by omega))
  omega
theorem sumF_s {f : Int → Int} {k : Int} (hk : 0 ≤ k) : sumF f (k + 1).toNat 0 = sumF f k.toNat 0 + f k := by
  rw [show (k + 1).toNat = k.toNat + 1 by omega, sumF_snoc, show (0 : Int) + (k.toNat : Int) = k by omega]
/-- the rules but for the span, when all lie on spots of their own -/
def rul (ρ : Row) : Prop := atF ρ 2 < 0 ∧ atF ρ 3 < 0 ∧ atF ρ 4 < 0 ∧ atF ρ 6 < 0
def whP (ρ : Row) : Prop := ∀ k, 0 ≤ k → k < ρ 11 → (0 ≤ ρ (93 + k) ∧ ρ (93 + k) < ρ 5) ∧ ∀ j, 0 ≤ j → j < k → ρ (93 + j) ≠ ρ (93 + k)
theorem at_neg {ρ : Row} {r : Int} : atF ρ r < 0 ↔ ∀ k, 0 ≤ k → k < plcF ρ r → brkF ρ r k = false := by
  unfold atF
  rcases fnd_spec (p := brkF ρ r) (plcF ρ r).toNat 0 with ⟨h1, h2⟩ | ⟨h1, h2, h3, h4⟩
  · rw [h1]
    exact ⟨fun _ k k0 k1 => h2 k k0 (by omega), fun _ => by decide⟩
  · refine ⟨fun h => by omega, fun h => ?_⟩
    have := h _ h1 (by omega)
    rw [h3] at this
    exact absurd this (by decide)
theorem whP.d {ρ : Row} (h : whP ρ) : WFd ρ := fun i j i0 ij j1 e => absurd e ((h j (by omega) j1).2 i i0 ij)
theorem whP.ne {ρ : Row} (h : whP ρ) {i j : Int} (hi : 0 ≤ i ∧ i < ρ 11) (hj : 0 ≤ j ∧ j < ρ 11) (hne : i ≠ j) : ρ (93 + i) ≠ ρ (93 + j) := by
  rcases (show i < j ∨ j < i by omega) with h1 | h1
  · exact (h j hj.1 hj.2).2 i hi.1 h1
  · exact fun e => (h i hi.1 hi.2).2 j hj.1 h1 e.symm
theorem wOn_ls {ρ : Row} (hn : 0 ≤ ρ 11) (h : whP ρ) {s : Int} (hs : 0 ≤ s) : wOnF ρ s = ls ρ (ρ 11) s := wOn_sum hn h.d hs
theorem hold_hl {ρ : Row} (hn : WFn ρ) (h : whP ρ) (k : Int) : inHoldF ρ k = hl ρ (ρ 11) k := by
  rw [inHold_sum hn h.d]
  unfold hl
  refine sumF_congr _ _ fun j j0 j1 => ?_
  try dsimp only
  have q := (h j j0 (by unfold WFn at hn; omega)).1
  by_cases e : ρ (19 + ρ (93 + j)) = k
  · rw [if_pos ⟨q, e⟩, if_pos e]
  · rw [if_neg (fun g => e g.2), if_neg e]
theorem ls_pos {ρ : Row} (hp : ∀ k, 0 ≤ k → k < ρ 11 → 1 ≤ ρ (83 + k)) {k s : Int} (hk : k ≤ ρ 11) : 0 ≤ ls ρ k s := sumF_ge _ _ fun j j0 j1 => by
  try dsimp only
  split
  · have := hp j j0 (by omega); omega
  · omega
/-- none of the first ones is there -/
theorem ls_0 {ρ : Row} (hp : ∀ k, 0 ≤ k → k < ρ 11 → 1 ≤ ρ (83 + k)) {k s : Int} (hk : 0 ≤ k ∧ k ≤ ρ 11) : ls ρ k s = 0 ↔ ∀ j, 0 ≤ j → j < k → ρ (93 + j) ≠ s := by
  constructor
  · intro h j j0 j1 e
    have q := sumF_part (f := fun j => if ρ (93 + j) = s then ρ (83 + j) else 0) (N := k) (k := j) ⟨j0, j1⟩ (fun i i0 i1 => by
      try dsimp only
      split
      · have := hp i i0 (by omega); omega
      · omega)
    have z := ls_pos hp (k := j) (s := s) (by omega)
    unfold ls at h z
    rw [if_pos e, h] at q
    have := hp j j0 (by omega)
    omega
  · intro h
    exact sumF_zero _ _ fun j j0 j1 => if_neg (h j j0 (by omega))
theorem ls_le {ρ : Row} (hp : ∀ k, 0 ≤ k → k < ρ 11 → 1 ≤ ρ (83 + k)) {k s : Int} (hk : 0 ≤ k ∧ k < ρ 11) : ls ρ k s + (if ρ (93 + k) = s then ρ (83 + k) else 0) ≤ ls ρ (ρ 11) s := sumF_part hk fun i i0 i1 => by
  try dsimp only
  split
  · have := hp i i0 i1; omega
  · omega
theorem hl_le {ρ : Row} (hp : ∀ k, 0 ≤ k → k < ρ 11 → 1 ≤ ρ (83 + k)) {k h : Int} (hk : 0 ≤ k ∧ k < ρ 11) : hl ρ k h + (if ρ (19 + ρ (93 + k)) = h then ρ (83 + k) else 0) ≤ hl ρ (ρ 11) h := sumF_part hk fun i i0 i1 => by
  try dsimp only
  split
  · have := hp i i0 i1; omega
  · omega
/-- who stands in the way: none -/
theorem blk_0 {ρ : Row} (hn : 0 ≤ ρ 11 ∧ ρ 11 ≤ 5) {k : Int} (hk : ¬ ρ (93 + k) < 0) : blkF ρ k = 0 ↔ ∀ o, 0 ≤ o → o < ρ 11 → ¬ (0 ≤ ρ (93 + o) ∧ bit (wayF ρ (ρ (93 + k))) (ρ (93 + o)) = true ∧ ρ (88 + k) < ρ (88 + o)) := by
  unfold blkF
  rw [if_neg hk]
  have key : ∀ (n : Nat) (o a : Int), 0 ≤ o → o + n ≤ 5 → ∀ x, 0 ≤ x → x < 8 → (bit (fld (fun o a => if 0 ≤ ρ (93 + o) ∧ bit (wayF ρ (ρ (93 + k))) (ρ (93 + o)) = true ∧ ρ (88 + k) < ρ (88 + o) then ior a (ishl 1 o) else a) n o a) x = true ↔ bit a x = true ∨ (o ≤ x ∧ x < o + n ∧ 0 ≤ ρ (93 + x) ∧ bit (wayF ρ (ρ (93 + k))) (ρ (93 + x)) = true ∧ ρ (88 + k) < ρ (88 + x))) := by
    intro n
    induction n with
    | zero => intro o a h0 h5 x x0 x8; rw [fld]; exact ⟨Or.inl, fun h => h.elim id (fun g => by omega)⟩
    | succ n ih =>
      intro o a h0 h5 x x0 x8
      rw [fld, ih (o + 1) _ (by omega) (by omega) x x0 x8]
      by_cases c : 0 ≤ ρ (93 + o) ∧ bit (wayF ρ (ρ (93 + k))) (ρ (93 + o)) = true ∧ ρ (88 + k) < ρ (88 + o)
      · rw [if_pos c, bit_set ⟨x0, x8⟩ ⟨h0, by omega⟩, Bool.or_eq_true, decide_eq_true_eq]
        constructor
        · rintro ((h | h) | h)
          · exact Or.inl h
          · subst h; exact Or.inr ⟨Int.le_refl _, by omega, c⟩
          · exact Or.inr ⟨by omega, by omega, h.2.2⟩
        · rintro (h | h)
          · exact Or.inl (Or.inl h)
          · by_cases e : x = o
            · exact Or.inl (Or.inr e)
            · exact Or.inr ⟨by omega, by omega, h.2.2⟩
      · rw [if_neg c]
        constructor
        · rintro (h | h)
          · exact Or.inl h
          · exact Or.inr ⟨by omega, by omega, h.2.2⟩
        · rintro (h | h)
          · exact Or.inl h
          · by_cases e : x = o
            · subst e; exact absurd h.2.2 c
            · exact Or.inr ⟨by omega, by omega, h.2.2⟩
  constructor
  · intro h o o0 o1 c
    have q := (key (ρ 11).toNat 0 0 (by omega) (by omega) o o0 (by omega)).2 (Or.inr ⟨o0, by omega, c⟩)
    rw [h] at q
    have z := bit_0 o.toNat (by omega)
    rw [show ((o.toNat : Nat) : Int) = o by omega] at z
    rw [z] at q
    exact absurd q (by decide)
  · intro h
    have id : ∀ (n : Nat) (o a : Int), 0 ≤ o → o + n ≤ ρ 11 → fld (fun o a => if 0 ≤ ρ (93 + o) ∧ bit (wayF ρ (ρ (93 + k))) (ρ (93 + o)) = true ∧ ρ (88 + k) < ρ (88 + o) then ior a (ishl 1 o) else a) n o a = a := by
      intro n
      induction n with
      | zero => intros; rfl
      | succ n ih =>
        intro o a h0 h5
        rw [fld, if_neg (h o h0 (by omega)), ih (o + 1) a (by omega) (by omega)]
    exact id (ρ 11).toNat 0 0 (by omega) (by omega)
theorem may_of {ρ : Row} (hn : WFn ρ) (hs : WFs ρ) (hj : WFj ρ) (hp : ∀ k, 0 ≤ k → k < ρ 11 → 1 ≤ ρ (83 + k)) (hw : whP ρ) (hr : rul ρ) {k : Int} (hk : 0 ≤ k ∧ k < ρ 11) : mayB ρ k (ρ (93 + k)) = true := by
  have hn' := hn
  unfold WFn at hn'
  obtain ⟨r2, r3, r4, r6⟩ := hr
  rw [at_neg] at r2 r3 r4 r6
  have hwk := hw k hk.1 hk.2
  have hsk := hs _ hwk.1.1 hwk.1.2
  unfold mayB
  rw [Bool.and_eq_true, Bool.and_eq_true, decide_eq_true_eq, allF_iff, allF_iff]
  have w := hp k hk.1 hk.2
  refine ⟨⟨(ls_0 hp ⟨hk.1, by omega⟩).2 fun j j0 j1 => hwk.2 j j0 j1, ?_, ?_⟩, fun j j0 j1 => ?_, fun j j0 j1 => ?_⟩
  · have a : decide (ρ (31 + ρ (93 + k)) < wOnF ρ (ρ (93 + k))) = false := r2 (ρ (93 + k)) hwk.1.1 hwk.1.2
    have a := of_decide_eq_false a
    rw [wOn_ls (by omega) hw hwk.1.1] at a
    have b := ls_le hp hk (s := ρ (93 + k))
    have c := ls_pos hp (k := k) (s := ρ (93 + k)) (by omega)
    rw [if_pos rfl] at b
    omega
  · have a : decide (ρ (13 + ρ (19 + ρ (93 + k))) < inHoldF ρ (ρ (19 + ρ (93 + k)))) = false := r4 (ρ (19 + ρ (93 + k))) hsk.1.1 hsk.1.2
    have a := of_decide_eq_false a
    rw [hold_hl hn hw] at a
    have b := hl_le hp hk (h := ρ (19 + ρ (93 + k)))
    rw [if_pos rfl] at b
    omega
  · have hjj := hj j j0 (by omega)
    have a : decide (ρ (42 + j) < wOnF ρ (ρ (37 + j)) + wOnF ρ (ρ (37 + j) + 1)) = false := r3 j j0 (show j < ρ 6 by omega)
    have a := of_decide_eq_false a
    rw [wOn_ls (by omega) hw (by omega), wOn_ls (by omega) hw (by omega)] at a
    have b := ls_le hp hk (s := ρ (37 + j))
    have c := ls_le hp hk (s := ρ (37 + j) + 1)
    unfold joB
    rw [Bool.not_eq_true', decide_eq_false_iff_not]
    rintro ⟨h1 | h1, h2⟩
    · rw [if_pos h1] at c
      rw [if_neg (by omega)] at b
      omega
    · rw [if_pos h1] at b
      rw [if_neg (by omega)] at c
      omega
  · have pair : ∀ a b : Int, 0 ≤ a → a < ρ 11 → 0 ≤ b → b < ρ 11 → ¬ (bit (wayF ρ (ρ (93 + a))) (ρ (93 + b)) = true ∧ ρ (88 + a) < ρ (88 + b)) := by
      intro a b a0 a1 b0 b1 h
      have hwa := hw a a0 a1
      have q : decide (0 ≤ onF ρ (ρ (93 + a)) ∧ blkF ρ (onF ρ (ρ (93 + a))) ≠ 0) = false := r6 (ρ (93 + a)) hwa.1.1 hwa.1.2
      have q := of_decide_eq_false q
      have eon : onF ρ (ρ (93 + a)) = a := fnd_hit a0 (by omega) (fun i i0 i1 => decide_eq_false (hwa.2 i i0 i1)) (decide_eq_true rfl)
      rw [eon] at q
      have q : blkF ρ a = 0 := by
        by_cases e : blkF ρ a = 0
        · exact e
        · exact absurd ⟨a0, e⟩ q
      rw [blk_0 (by omega) (by omega)] at q
      exact q b b0 b1 ⟨(hw b b0 b1).1.1, h⟩
    unfold wyB
    rw [Bool.not_eq_true', Bool.or_eq_false_iff, Bool.and_eq_false_iff, Bool.and_eq_false_iff, decide_eq_false_iff_not, decide_eq_false_iff_not]
    have p1 := pair k j hk.1 hk.2 j0 (by omega)
    have p2 := pair j k j0 (by omega) hk.1 hk.2
    constructor
    · by_cases e : ρ (88 + k) < ρ (88 + j)
      · right
        rw [← Bool.not_eq_true]
        exact fun g => p1 ⟨g, e⟩
      · exact Or.inl e
    · by_cases e : ρ (88 + j) < ρ (88 + k)
      · right
        rw [← Bool.not_eq_true]
        exact fun g => p2 ⟨g, e⟩
      · exact Or.inl e
theorem rul_of {ρ : Row} (hn : WFn ρ) (hs : WFs ρ) (hh : WFh ρ) (hj : WFj ρ) (hw : whP ρ) (hm : ∀ k, 0 ≤ k → k < ρ 11 → mayB ρ k (ρ (93 + k)) = true) : rul ρ := by
  have hn' := hn
  unfold WFn at hn'
  have M := fun k (k0 : 0 ≤ k) (k1 : k < ρ 11) => by
    have q := hm k k0 k1
    unfold mayB at q
    rw [Bool.and_eq_true, Bool.and_eq_true, decide_eq_true_eq, allF_iff, allF_iff] at q
    exact q
  have hb : ∀ s n : Int, 0 ≤ s → s < ρ 5 → 0 ≤ n → n ≤ ρ 11 → ls ρ n s ≤ ρ (31 + s) := by
    intro s n s0 s1 n0 n1
    obtain ⟨q, rfl⟩ := Int.eq_ofNat_of_zero_le n0
    induction q with
    | zero => have := (hs s s0 s1).2.2; show (0 : Int) ≤ _; omega
    | succ q ih =>
      have h := ih (by omega) (by omega)
      have e : ls ρ ((q + 1 : Nat) : Int) s = ls ρ (q : Int) s + (if ρ (93 + (q : Int)) = s then ρ (83 + (q : Int)) else 0) := sumF_s (k := (q : Int)) (by omega)
      rw [e]
      have m := M q (by omega) (by omega)
      by_cases c : ρ (93 + (q : Int)) = s
      · rw [if_pos c]
        rw [c] at m
        omega
      · rw [if_neg c]; omega
  have hd : ∀ h n : Int, 0 ≤ h → h < ρ 4 → 0 ≤ n → n ≤ ρ 11 → hl ρ n h ≤ ρ (13 + h) := by
    intro h n h0 h1 n0 n1
    obtain ⟨q, rfl⟩ := Int.eq_ofNat_of_zero_le n0
    induction q with
    | zero => have := (hh h h0 h1).1; show (0 : Int) ≤ _; omega
    | succ q ih =>
      have g := ih (by omega) (by omega)
      have e : hl ρ ((q + 1 : Nat) : Int) h = hl ρ (q : Int) h + (if ρ (19 + ρ (93 + (q : Int))) = h then ρ (83 + (q : Int)) else 0) := sumF_s (k := (q : Int)) (by omega)
      rw [e]
      have m := M q (by omega) (by omega)
      by_cases c : ρ (19 + ρ (93 + (q : Int))) = h
      · rw [if_pos c]
        rw [c] at m
        omega
      · rw [if_neg c]; omega
  have hjo : ∀ j n : Int, 0 ≤ j → j < ρ 6 → 0 ≤ n → n ≤ ρ 11 → ls ρ n (ρ (37 + j)) + ls ρ n (ρ (37 + j) + 1) ≤ ρ (42 + j) := by
    intro j n j0 j1 n0 n1
    obtain ⟨q, rfl⟩ := Int.eq_ofNat_of_zero_le n0
    induction q with
    | zero => have := (hj j j0 j1).2.2; show (0 : Int) + 0 ≤ _; omega
    | succ q ih =>
      have g := ih (by omega) (by omega)
      have e1 : ls ρ ((q + 1 : Nat) : Int) (ρ (37 + j)) = ls ρ (q : Int) (ρ (37 + j)) + (if ρ (93 + (q : Int)) = ρ (37 + j) then ρ (83 + (q : Int)) else 0) := sumF_s (k := (q : Int)) (by omega)
      have e2 : ls ρ ((q + 1 : Nat) : Int) (ρ (37 + j) + 1) = ls ρ (q : Int) (ρ (37 + j) + 1) + (if ρ (93 + (q : Int)) = ρ (37 + j) + 1 then ρ (83 + (q : Int)) else 0) := sumF_s (k := (q : Int)) (by omega)
      rw [e1, e2]
      have m := (M q (by omega) (by omega)).2.1 j j0 (by omega)
      unfold joB at m
      rw [Bool.not_eq_true', decide_eq_false_iff_not] at m
      by_cases c1 : ρ (93 + (q : Int)) = ρ (37 + j)
      · rw [if_pos c1, if_neg (by omega)]
        have := fun h => m ⟨Or.inr c1, h⟩
        omega
      · rw [if_neg c1]
        by_cases c2 : ρ (93 + (q : Int)) = ρ (37 + j) + 1
        · rw [if_pos c2]
          have := fun h => m ⟨Or.inl c2, h⟩
          omega
        · rw [if_neg c2]; omega
  refine ⟨at_neg.2 fun s s0 s1 => ?_, at_neg.2 fun j j0 j1 => ?_, at_neg.2 fun h h0 h1 => ?_, at_neg.2 fun s s0 s1 => ?_⟩
  · have s1 : s < ρ 5 := s1
    show decide (ρ (31 + s) < wOnF ρ s) = false
    rw [wOn_ls (by omega) hw s0]
    have := hb s (ρ 11) s0 s1 (by omega) (by omega)
    exact decide_eq_false (by omega)
  · have j1 : j < ρ 6 := j1
    show decide (ρ (42 + j) < wOnF ρ (ρ (37 + j)) + wOnF ρ (ρ (37 + j) + 1)) = false
    have q := hj j j0 j1
    rw [wOn_ls (by omega) hw (by omega), wOn_ls (by omega) hw (by omega)]
    have := hjo j (ρ 11) j0 j1 (by omega) (by omega)
    exact decide_eq_false (by omega)
  · have h1 : h < ρ 4 := h1
    show decide (ρ (13 + h) < inHoldF ρ h) = false
    rw [hold_hl hn hw]
    have := hd h (ρ 11) h0 h1 (by omega) (by omega)
    exact decide_eq_false (by omega)
  · have s1 : s < ρ 5 := s1
    show decide (0 ≤ onF ρ s ∧ blkF ρ (onF ρ s) ≠ 0) = false
    refine decide_eq_false fun g => ?_
    have ho := onF_rng (ρ := ρ) (by omega) s
    have hk : 0 ≤ onF ρ s ∧ onF ρ s < ρ 11 := by omega
    generalize onF ρ s = k at g hk
    refine g.2 ((blk_0 (by omega) (by have := (hw k hk.1 hk.2).1; omega)).2 fun o o0 o1 c => ?_)
    rcases Int.lt_trichotomy o k with h | h | h
    · have m := (M k hk.1 hk.2).2.2 o o0 (by omega)
      unfold wyB at m
      rw [Bool.not_eq_true', Bool.or_eq_false_iff, decide_eq_true c.2.2, c.2.1] at m
      exact absurd m.1 (by decide)
    · subst h
      omega
    · have m := (M o o0 o1).2.2 k hk.1 (by omega)
      unfold wyB at m
      rw [Bool.not_eq_true', Bool.or_eq_false_iff, decide_eq_true c.2.2, c.2.1] at m
      exact absurd m.2 (by decide)
