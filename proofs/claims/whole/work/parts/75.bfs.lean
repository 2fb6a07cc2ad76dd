/-! 75.bfs: what waits in a row, in order of ways (wip/whole/src/75_bfs.py) -/
abbrev Wrd : Type := List Int
def val : Wrd → Int
  | [] => 0
  | l :: t => 100 * val t + l + 1
abbrev Edg : Type := Int → Int → Option Int
def LabOK (E : Edg) : Prop := ∀ u l c, E u l = some c → 0 ≤ l ∧ l < 60
def Rch (E : Edg) (c0 : Int) : Wrd → Int → Prop
  | [], c => c = c0
  | l :: t, c => ∃ u, Rch E c0 t u ∧ E u l = some c
theorem Rch.nil {E : Edg} {c0 : Int} : Rch E c0 [] c0 := rfl
theorem Rch.step {E : Edg} {c0 : Int} {t : Wrd} {u l c : Int} (h : Rch E c0 t u) (he : E u l = some c) : Rch E c0 (l :: t) c := ⟨u, h, he⟩
theorem Rch.val0 {E : Edg} (hE : LabOK E) {c0 : Int} : ∀ {w : Wrd} {c : Int}, Rch E c0 w c → 0 ≤ val w
  | [], _, _ => Int.le_refl _
  | l :: t, c, ⟨u, h, he⟩ => by
    have := hE _ _ _ he
    have := Rch.val0 hE h
    rw [val]
    omega
theorem Rch.len {E : Edg} (hE : LabOK E) {c0 d0 : Int} : ∀ {w w' : Wrd} {c c' : Int}, Rch E c0 w c → Rch E d0 w' c' → val w ≤ val w' → w.length ≤ w'.length
  | [], _, _, _, _, _, _ => Nat.zero_le _
  | l :: t, [], c, c', ⟨u, h1, he⟩, _, hv => by have := h1.val0 hE; have := hE _ _ _ he; simp only [val] at hv; omega
  | l :: t, l' :: t', c, c', ⟨u, h1, he⟩, ⟨u', h2, he2⟩, hv => by
    have a := hE _ _ _ he
    have b := hE _ _ _ he2
    simp only [val] at hv
    have := Rch.len hE h1 h2 (by omega)
    simp only [List.length_cons]
    omega
theorem Rch.inj {E : Edg} (hE : LabOK E) {c0 d0 : Int} : ∀ {w w' : Wrd} {c c' : Int}, Rch E c0 w c → Rch E d0 w' c' → val w = val w' → w = w'
  | [], [], _, _, _, _, _ => rfl
  | [], l' :: t', _, _, _, ⟨u', h2, he2⟩, hv => by have := h2.val0 hE; have := hE _ _ _ he2; simp only [val] at hv; omega
  | l :: t, [], c, c', ⟨u, h1, he⟩, _, hv => by have := h1.val0 hE; have := hE _ _ _ he; simp only [val] at hv; omega
  | l :: t, l' :: t', c, c', ⟨u, h1, he⟩, ⟨u', h2, he2⟩, hv => by
    have a := hE _ _ _ he
    have b := hE _ _ _ he2
    simp only [val] at hv
    rw [Rch.inj hE h1 h2 (by omega)]
    congr 1
    omega
abbrev Qe : Type := Int × Wrd
def BIn (E : Edg) (c0 : Int) (Q : List Qe) (i : Nat) : Prop := Q[0]? = some (c0, []) ∧ Q.Pairwise (fun a b => a.1 ≠ b.1 ∧ val a.2 < val b.2) ∧ (∀ e ∈ Q, Rch E c0 e.2 e.1) ∧
  ∀ j e, j < i → Q[j]? = some e → ∀ l c, E e.1 l = some c → ∃ w, (c, w) ∈ Q ∧ val w ≤ 100 * val e.2 + l + 1
def BPr (E : Edg) (Q : List Qe) (i : Nat) (e0 : Qe) (L : Int) : Prop := Q[i]? = some e0 ∧ (∀ l c, l < L → E e0.1 l = some c → ∃ w, (c, w) ∈ Q ∧ val w ≤ 100 * val e0.2 + l + 1) ∧ ∀ e ∈ Q, val e.2 < 100 * val e0.2 + L + 1
def BBt (Q : List Qe) (i : Nat) : Prop := ∀ e0, Q[i]? = some e0 → ∀ e ∈ Q, val e.2 < 100 * val e0.2 + 1
theorem bin_start (E : Edg) (c0 : Int) : BIn E c0 [(c0, [])] 0 ∧ BBt [(c0, [])] 0 := by
  refine ⟨⟨rfl, List.pairwise_singleton _ _, fun e he => ?_, fun j e hj => absurd hj (by omega)⟩, fun e0 h0 e he => ?_⟩
  · rw [List.mem_singleton] at he
    rw [he]
    exact Rch.nil
  · rw [List.mem_singleton] at he
    have : e0 = (c0, []) := by simpa using h0.symm
    rw [he, this]
    show (0 : Int) < 100 * 0 + 1
    decide
theorem BBt.begin {E : Edg} {Q : List Qe} {i : Nat} {e0 : Qe} {c0 : Int} (h : BBt Q i) (hE : LabOK E) (hi : Q[i]? = some e0) : BPr E Q i e0 0 :=
  ⟨hi, fun l c hl he => by have := hE _ _ _ he; omega, fun e he => by have := h e0 hi e he; omega⟩
theorem BPr.skip {E : Edg} {Q : List Qe} {i : Nat} {e0 : Qe} {L M : Int} (h : BPr E Q i e0 L) (hLM : L ≤ M) (hn : ∀ l, L ≤ l → l < M → E e0.1 l = none) : BPr E Q i e0 M :=
  ⟨h.1, fun l c hl he => by
    by_cases c1 : l < L
    · exact h.2.1 l c c1 he
    · rw [hn l (by omega) hl] at he
      exact absurd he (by simp), fun e he => by have := h.2.2 e he; omega⟩
theorem BPr.old {E : Edg} {Q : List Qe} {i : Nat} {e0 : Qe} {L c : Int} (h : BPr E Q i e0 L) (hc : E e0.1 L = some c) {w : Wrd} (hw : (c, w) ∈ Q) : BPr E Q i e0 (L + 1) :=
  ⟨h.1, fun l d hl he => by
    by_cases c1 : l < L
    · exact h.2.1 l d c1 he
    · obtain rfl : l = L := by omega
      rw [hc] at he
      obtain rfl : c = d := by simpa using he
      exact ⟨w, hw, by have := h.2.2 _ hw; (try dsimp only at this); omega⟩, fun e he => by have := h.2.2 e he; omega⟩
theorem BPr.new {E : Edg} {c0 : Int} {Q : List Qe} {i : Nat} {e0 : Qe} {L c : Int} (hE : LabOK E) (hB : BIn E c0 Q i) (h : BPr E Q i e0 L) (hc : E e0.1 L = some c) (hw : ∀ e ∈ Q, e.1 ≠ c) : BIn E c0 (Q ++ [(c, L :: e0.2)]) i ∧ BPr E (Q ++ [(c, L :: e0.2)]) i e0 (L + 1) := by
  obtain ⟨b1, b2, b3, b4⟩ := hB
  obtain ⟨h1, h2, h3⟩ := h
  have hm : e0 ∈ Q := List.mem_of_getElem? h1
  have hil : i < Q.length := (List.getElem?_eq_some_iff.1 h1).1
  refine ⟨⟨?_, ?_, fun e he => ?_, fun j e hj he l d hd => ?_⟩, ?_, fun l d hl he => ?_, fun e he => ?_⟩
  · rw [List.getElem?_append_left (by omega)]; exact b1
  · rw [List.pairwise_append]
    refine ⟨b2, List.pairwise_singleton _ _, fun a ha b hb => ?_⟩
    rw [List.mem_singleton] at hb
    rw [hb]
    exact ⟨hw a ha, by have := h3 a ha; show _ < 100 * val e0.2 + L + 1; exact this⟩
  · rw [List.mem_append, List.mem_singleton] at he
    rcases he with he | he
    · exact b3 e he
    · rw [he]; exact Rch.step (b3 e0 hm) hc
  · have hjl : j < Q.length := by omega
    rw [List.getElem?_append_left hjl] at he
    obtain ⟨w, x, y⟩ := b4 j e hj he l d hd
    exact ⟨w, List.mem_append_left _ x, y⟩
  · rw [List.getElem?_append_left hil]; exact h1
  · by_cases c1 : l < L
    · obtain ⟨w, x, y⟩ := h2 l d c1 he
      exact ⟨w, List.mem_append_left _ x, y⟩
    · obtain rfl : l = L := by omega
      rw [hc] at he
      obtain rfl : c = d := by simpa using he
      exact ⟨l :: e0.2, List.mem_append_right _ (List.mem_singleton_self _), Int.le_refl _⟩
  · rw [List.mem_append, List.mem_singleton] at he
    rcases he with he | he
    · have := h3 e he; omega
    · rw [he]; show 100 * val e0.2 + L + 1 < _; omega
theorem pw_lt {Q : List Qe} (h : Q.Pairwise (fun a b => a.1 ≠ b.1 ∧ val a.2 < val b.2)) {i j : Nat} {a b : Qe} (hi : Q[i]? = some a) (hj : Q[j]? = some b) (hij : i < j) : a.1 ≠ b.1 ∧ val a.2 < val b.2 := by
  obtain ⟨i1, i2⟩ := List.getElem?_eq_some_iff.1 hi
  obtain ⟨j1, j2⟩ := List.getElem?_eq_some_iff.1 hj
  have := List.pairwise_iff_getElem.1 h i j i1 j1 hij
  rw [i2, j2] at this
  exact this
theorem pw_one {Q : List Qe} (h : Q.Pairwise (fun a b => a.1 ≠ b.1 ∧ val a.2 < val b.2)) {a b : Qe} (ha : a ∈ Q) (hb : b ∈ Q) (e : a.1 = b.1) : a = b := by
  obtain ⟨i, hi⟩ := List.mem_iff_getElem?.1 ha
  obtain ⟨j, hj⟩ := List.mem_iff_getElem?.1 hb
  rcases Nat.lt_trichotomy i j with c | c | c
  · exact absurd e (pw_lt h hi hj c).1
  · subst c; rw [hi] at hj; simpa using hj
  · exact absurd e.symm (pw_lt h hj hi c).1
theorem BPr.done {E : Edg} {c0 : Int} {Q : List Qe} {i : Nat} {e0 : Qe} (hE : LabOK E) (hB : BIn E c0 Q i) (h : BPr E Q i e0 60) : BIn E c0 Q (i + 1) ∧ BBt Q (i + 1) := by
  obtain ⟨b1, b2, b3, b4⟩ := hB
  obtain ⟨h1, h2, h3⟩ := h
  refine ⟨⟨b1, b2, b3, fun j e hj he l d hd => ?_⟩, fun e1 he1 e he => ?_⟩
  · by_cases c : j < i
    · exact b4 j e c he l d hd
    · obtain rfl : j = i := by omega
      rw [h1] at he
      obtain rfl : e0 = e := by simpa using he
      exact h2 l d (hE _ _ _ hd).2 hd
  · have := (pw_lt b2 h1 he1 (by omega)).2
    have := h3 e he
    omega
/-- the first of a way that has not been looked at -/
theorem BIn.first {E : Edg} {c0 : Int} {Q : List Qe} {i : Nat} (hE : LabOK E) (hB : BIn E c0 Q i) {w : Wrd} {c : Int} (h : Rch E c0 w c) : (∃ v, (c, v) ∈ Q ∧ val v ≤ val w) ∨ ∃ j e, i ≤ j ∧ Q[j]? = some e ∧ 100 * val e.2 + 1 ≤ val w := by
  induction w generalizing c with
  | nil => obtain rfl : c = c0 := h; exact Or.inl ⟨[], List.mem_of_getElem? hB.1, Int.le_refl _⟩
  | cons l t ih0 =>
    obtain ⟨u, h, he⟩ := h
    have ih := ih0 h
    have v0 := h.val0 hE
    have l0 := hE _ _ _ he
    rcases ih with ⟨v, hv, hle⟩ | ⟨j, e, hj, hq, hle⟩
    · obtain ⟨j, hj⟩ := List.mem_iff_getElem?.1 hv
      by_cases c1 : j < i
      · obtain ⟨x, hx, hy⟩ := hB.2.2.2 j _ c1 hj _ _ he
        exact Or.inl ⟨x, hx, by rw [val]; (try dsimp only at hy); omega⟩
      · exact Or.inr ⟨j, _, by omega, hj, by rw [val]; (try dsimp only); omega⟩
    · exact Or.inr ⟨j, e, hj, hq, by rw [val]; omega⟩
/-- the first good one is the least -/
theorem bfs_least {E : Edg} {c0 : Int} {Q : List Qe} {i : Nat} {e0 : Qe} {gd : Int → Prop} (hE : LabOK E) (hB : BIn E c0 Q i) (h0 : Q[i]? = some e0) (hn : ∀ j e, j < i → Q[j]? = some e → ¬ gd e.1) {w : Wrd} {c : Int} (h : Rch E c0 w c) (hg : gd c) : val e0.2 ≤ val w := by
  have p0 := (hB.2.2.1 e0 (List.mem_of_getElem? h0)).val0 hE
  rcases hB.first hE h with ⟨v, hv, hle⟩ | ⟨j, e, hj, hq, hle⟩
  · obtain ⟨j, hj⟩ := List.mem_iff_getElem?.1 hv
    by_cases c1 : j < i
    · exact absurd hg (hn j _ c1 hj)
    · by_cases c2 : j = i
      · subst c2; rw [h0] at hj
        have : e0 = (c, v) := by simpa using hj
        rw [this]; exact hle
      · have := (pw_lt hB.2.1 h0 hj (by omega)).2
        (try dsimp only at this); omega
  · by_cases c2 : j = i
    · subst c2; rw [h0] at hq
      have : e0 = e := by simpa using hq
      rw [this] at p0
      rw [this]; omega
    · have := (pw_lt hB.2.1 h0 hq (by omega)).2
      omega
theorem bfs_none {E : Edg} {c0 : Int} {Q : List Qe} {gd : Int → Prop} (hE : LabOK E) (hB : BIn E c0 Q Q.length) (hn : ∀ e ∈ Q, ¬ gd e.1) {w : Wrd} {c : Int} (h : Rch E c0 w c) : ¬ gd c := by
  rcases hB.first hE h with ⟨v, hv, -⟩ | ⟨j, e, hj, hq, -⟩
  · exact hn _ hv
  · have := (List.getElem?_eq_some_iff.1 hq).1
    omega
theorem bfs_goal {E : Edg} {c0 : Int} {Q : List Qe} {i : Nat} {g : Int} {v : Wrd} (hE : LabOK E) (hB : BIn E c0 Q i) (hb : BBt Q i) (hg : (g, v) ∈ Q) {w : Wrd} (h : Rch E c0 w g) : v.length ≤ w.length := by
  have hv := hB.2.2.1 _ hg
  refine Rch.len hE hv h ?_
  rcases hB.first hE h with ⟨x, hx, hle⟩ | ⟨j, e, hj, hq, hle⟩
  · have := pw_one hB.2.1 hg hx rfl
    have : v = x := by simpa using this
    rw [this]; exact hle
  · have hil : i < Q.length := by have := (List.getElem?_eq_some_iff.1 hq).1; omega
    have hi := List.getElem?_eq_getElem hil
    have q := hb _ hi _ hg
    try dsimp only at q
    by_cases c2 : j = i
    · subst c2; rw [hi] at hq
      have e2 : Q[j] = e := by simpa using hq
      rw [e2] at q
      omega
    · have := (pw_lt hB.2.1 hi hq (by omega)).2
      omega
theorem bfs_found {E : Edg} {c0 : Int} {Q : List Qe} (hE : LabOK E) (hB : BIn E c0 Q Q.length) {w : Wrd} {c : Int} (h : Rch E c0 w c) : ∃ v, (c, v) ∈ Q := by
  rcases hB.first hE h with ⟨v, hv, -⟩ | ⟨j, e, hj, hq, -⟩
  · exact ⟨v, hv⟩
  · have := (List.getElem?_eq_some_iff.1 hq).1
    omega
