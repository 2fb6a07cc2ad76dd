/-! 92.lists: a tape that is told by a list; words, numbers and ends of lines along it -/
/-- the tape from p on -/
def Tl (T : Tq) (p : Int) (l : List Int) : Prop := 0 ≤ p ∧ p + (l.length : Int) = T.2 ∧ ∀ i : Nat, i < l.length → T.1 (p + (i : Int)) = l.getD i 0
theorem Tl.hd {T : Tq} {p x : Int} {l : List Int} (h : Tl T p (x :: l)) : T.1 p = x := by
  have := h.2.2 0 (by simp)
  simpa using this
theorem Tl.lt {T : Tq} {p x : Int} {l : List Int} (h : Tl T p (x :: l)) : p < T.2 := by
  have := h.2.1
  simp only [List.length_cons] at this
  omega
theorem Tl.tl {T : Tq} {p x : Int} {l : List Int} (h : Tl T p (x :: l)) : Tl T (p + 1) l := by
  obtain ⟨a, b, c⟩ := h
  simp only [List.length_cons] at b
  refine ⟨by omega, by omega, fun i hi => ?_⟩
  have := c (i + 1) (by simp only [List.length_cons]; omega)
  simp only [List.getD_cons_succ] at this
  have e : p + 1 + (i : Int) = p + ((i + 1 : Nat) : Int) := by omega
  rw [e]
  exact this
theorem Tl.drop {T : Tq} : ∀ (w : List Int) {p : Int} {r : List Int}, Tl T p (w ++ r) → Tl T (p + (w.length : Int)) r
  | [], p, r, h => by simpa using h
  | y :: w, p, r, h => by
    have := Tl.drop w (Tl.tl (show Tl T p (y :: (w ++ r)) from h))
    have e : p + ((y :: w).length : Int) = p + 1 + (w.length : Int) := by simp only [List.length_cons]; omega
    rw [e]
    exact this
/-- no word, no number goes on here -/
def StpL : List Int → Bool
  | [] => true
  | x :: _ => !isAl x
theorem al_of_dg {x : Int} (h : isDg x = true) : isAl x = true := by simp [isAl, h]
theorem al_of_sm {x : Int} (h : isSm x = true) : isAl x = true := by simp [isAl, h]
theorem dg_of_sm {x : Int} (h : isSm x = true) : isDg x = false := by
  unfold isSm at h
  unfold isDg
  simp only [decide_eq_true_eq] at h
  simp only [decide_eq_false_iff_not]
  omega
theorem al_ne {x : Int} (h : isAl x = true) : x ≠ 32 ∧ x ≠ 59 := by
  unfold isAl isSm isDg at h
  simp only [Bool.or_eq_true, decide_eq_true_eq] at h
  omega
theorem run_w {T : Tq} {r : List Int} (hr : StpL r = true) : ∀ (w : List Int) (p : Int) (n : Nat), Tl T p (w ++ r) → (n : Int) = T.2 - p → w.all isAl = true → runE (fun i => isAl (T.1 i)) n p = p + (w.length : Int)
  | [], p, n, h, hn, _ => by
    cases r with
    | nil =>
      have e : n = 0 := by
        have := h.2.1
        simp only [List.append_nil, List.length_nil] at this
        omega
      subst e
      simp [runE]
    | cons x t =>
      have h1 : T.1 p = x := Tl.hd (show Tl T p (x :: t) from h)
      have hx : isAl x = false := by simpa [StpL] using hr
      cases n with
      | zero => simp [runE]
      | succ n => simp [runE, h1, hx]
  | y :: w, p, n, h, hn, ha => by
    have h' : Tl T p (y :: (w ++ r)) := h
    have h1 := h'.hd
    have h2 := h'.lt
    have hy : isAl y = true ∧ w.all isAl = true := by simpa using ha
    cases n with
    | zero => omega
    | succ n =>
      have ih := run_w hr w (p + 1) n h'.tl (by omega) hy.2
      rw [runE]
      simp only [h1, hy.1, if_true]
      rw [ih]
      simp only [List.length_cons]
      omega
theorem run_d {T : Tq} {r : List Int} (hr : StpL r = true) : ∀ (w : List Int) (p : Int) (n : Nat), Tl T p (w ++ r) → (n : Int) = T.2 - p → w.all isDg = true → dgE T.1 n p = (w.length : Int)
  | [], p, n, h, hn, _ => by
    cases r with
    | nil =>
      have e : n = 0 := by
        have := h.2.1
        simp only [List.append_nil, List.length_nil] at this
        omega
      subst e
      simp [dgE]
    | cons x t =>
      have h1 : T.1 p = x := Tl.hd (show Tl T p (x :: t) from h)
      have hx : isAl x = false := by simpa [StpL] using hr
      cases n with
      | zero => simp [dgE]
      | succ n => simp [dgE, h1, hx]
  | y :: w, p, n, h, hn, ha => by
    have h' : Tl T p (y :: (w ++ r)) := h
    have h1 := h'.hd
    have h2 := h'.lt
    have hy : isDg y = true ∧ w.all isDg = true := by simpa using ha
    cases n with
    | zero => omega
    | succ n =>
      have ih := run_d hr w (p + 1) n h'.tl (by omega) hy.2
      rw [dgE]
      simp only [h1, al_of_dg hy.1, hy.1, if_true, b2i]
      rw [ih]
      simp only [List.length_cons]
      omega
theorem run_s {T : Tq} {r : List Int} (hr : StpL r = true) : ∀ (w : List Int) (p : Int) (n : Nat), Tl T p (w ++ r) → (n : Int) = T.2 - p → w.all isSm = true → dgE T.1 n p = 0
  | [], p, n, h, hn, _ => by
    cases r with
    | nil =>
      have e : n = 0 := by
        have := h.2.1
        simp only [List.append_nil, List.length_nil] at this
        omega
      subst e
      simp [dgE]
    | cons x t =>
      have h1 : T.1 p = x := Tl.hd (show Tl T p (x :: t) from h)
      have hx : isAl x = false := by simpa [StpL] using hr
      cases n with
      | zero => simp [dgE]
      | succ n => simp [dgE, h1, hx]
  | y :: w, p, n, h, hn, ha => by
    have h' : Tl T p (y :: (w ++ r)) := h
    have h1 := h'.hd
    have h2 := h'.lt
    have hy : isSm y = true ∧ w.all isSm = true := by simpa using ha
    cases n with
    | zero => omega
    | succ n =>
      have ih := run_s hr w (p + 1) n h'.tl (by omega) hy.2
      rw [dgE]
      simp only [h1, al_of_sm hy.1, dg_of_sm hy.1, if_true, b2i, Bool.false_eq_true, if_false]
      rw [ih]
      omega
theorem all_al {f : Int → Bool} (hf : ∀ x, f x = true → isAl x = true) {w : List Int} (h : w.all f = true) : w.all isAl = true := by
  rw [List.all_eq_true] at *
  exact fun x hx => hf x (h x hx)
theorem nx2_w {T : Tq} {a pl : Int} {w r : List Int} (hw : w.all isSm = true) (h0 : w ≠ []) (h8 : w.length ≤ 8) (hr : StpL r = true) (h : Tl T a (w ++ r)) : nx2 T a pl = (a + (w.length : Int), a, 1, 0, pl) := by
  cases w with
  | nil => exact absurd rfl h0
  | cons y w =>
    have h' : Tl T a (y :: (w ++ r)) := h
    have hy : isSm y = true ∧ w.all isSm = true := by simpa using hw
    have hlt := h'.lt
    have e1 := run_w hr (y :: w) a (T.2 - a).toNat h (by omega) (all_al (fun x => al_of_sm) hw)
    have e2 := run_s hr (y :: w) a (T.2 - a).toNat h (by omega) hw
    have e3 : (1 : Int) ≤ ((y :: w).length : Int) := by simp only [List.length_cons]; omega
    unfold nx2
    rw [if_neg (by omega), if_neg (by rw [h'.hd]; exact (al_ne (al_of_sm hy.1)).2), e1, e2]
    unfold kindF
    rw [if_pos ⟨rfl, by omega, by omega⟩]
theorem nx2_d {T : Tq} {a pl : Int} {w r : List Int} (hw : w.all isDg = true) (h0 : w ≠ []) (h8 : w.length ≤ 3) (hr : StpL r = true) (h : Tl T a (w ++ r)) : nx2 T a pl = (a + (w.length : Int), a, 2, 0, pl) := by
  cases w with
  | nil => exact absurd rfl h0
  | cons y w =>
    have h' : Tl T a (y :: (w ++ r)) := h
    have hy : isDg y = true ∧ w.all isDg = true := by simpa using hw
    have hlt := h'.lt
    have e1 := run_w hr (y :: w) a (T.2 - a).toNat h (by omega) (all_al (fun x => al_of_dg) hw)
    have e2 := run_d hr (y :: w) a (T.2 - a).toNat h (by omega) hw
    have e3 : (1 : Int) ≤ ((y :: w).length : Int) := by simp only [List.length_cons]; omega
    unfold nx2
    rw [if_neg (by omega), if_neg (by rw [h'.hd]; exact (al_ne (al_of_dg hy.1)).2), e1, e2]
    unfold kindF
    rw [if_neg (by omega), if_pos ⟨by omega, by omega, by omega⟩]
theorem nx2_s {T : Tq} {a pl : Int} {r : List Int} (h : Tl T a (59 :: r)) : nx2 T a pl = (a + 1, a, 3, 0, pl) := by
  have := h.lt
  unfold nx2
  rw [if_neg (by omega), if_pos h.hd]
/-- at l, without a fault -/
def At (T : Tq) (σ : Sg) (l : List Int) : Prop := sE σ = 0 ∧ Tl T (sT σ) l
theorem At.no {T : Tq} {σ : Sg} {x : Int} {l : List Int} (h : At T σ (x :: l)) (hx : x ≠ 32) : nxt T σ = nx2 T (sT σ) (sP σ) := by
  have h1 := h.2.hd
  have h2 := h.2.lt
  unfold nxt
  rw [if_neg (by rw [h.1]; simp)]
  obtain ⟨n, hn⟩ : ∃ n, (T.2 - sT σ).toNat = n + 1 := ⟨(T.2 - sT σ).toNat - 1, by omega⟩
  rw [hn, runE]
  simp [isSp, h1, hx]
theorem At.sp {T : Tq} {σ : Sg} {x : Int} {l : List Int} (h : At T σ (32 :: x :: l)) (hx : x ≠ 32) : nxt T σ = nx2 T (sT σ + 1) (sP σ) := by
  have h1 := h.2.hd
  have h2 := h.2.tl.lt
  have h3 := h.2.tl.hd
  unfold nxt
  rw [if_neg (by rw [h.1]; simp)]
  obtain ⟨n, hn⟩ : ∃ n, (T.2 - sT σ).toNat = n + 1 + 1 := ⟨(T.2 - sT σ).toNat - 2, by omega⟩
  rw [hn, runE, runE]
  simp [isSp, h1, h3, hx]
theorem list_eq {a b : List Int} (h : a.length = b.length) (hg : ∀ j, j < a.length → a.getD j 0 = b.getD j 0) : a = b := by
  apply List.ext_getElem h
  intro j h1 h2
  have := hg j h1
  rwa [List.getD_eq_getElem?_getD, List.getD_eq_getElem?_getD, List.getElem?_eq_getElem h1, List.getElem?_eq_getElem h2, Option.getD_some, Option.getD_some] at this
theorem getD_app {a b : List Int} {j : Nat} (h : j < a.length) : (a ++ b).getD j 0 = a.getD j 0 := by
  rw [List.getD_eq_getElem?_getD, List.getD_eq_getElem?_getD, List.getElem?_append_left h]
theorem tx_tells {T : Tq} {a pl : Int} {w r : List Int} (h : Tl T a (w ++ r)) (i : Nat) : tellsF T (a + (w.length : Int), a, 1, 0, pl) i = decide (w = sxB i) := by
  rw [Bool.eq_iff_iff]
  unfold tellsF
  simp only [Bool.and_eq_true, decide_eq_true_eq, allF_iff]
  constructor
  · rintro ⟨⟨-, -, hl⟩, ha⟩
    have hl' : w.length = (sxB i).length := by
      have hl : a + (w.length : Int) - a = ((sxB i).length : Nat) := hl
      omega
    refine list_eq hl' fun j hj => ?_
    have e := ha (j : Int) (by omega) (by omega)
    have e2 := h.2.2 j (by rw [List.length_append]; omega)
    rw [getD_app hj] at e2
    have e : T.1 (a + (j : Int)) = (sxB i).getD (j : Int).toNat 0 := e
    rw [← e2, e, Int.toNat_natCast]
  · rintro rfl
    refine ⟨⟨trivial, trivial, ?_⟩, fun j h0 h1 => ?_⟩
    · show a + ((sxB i).length : Int) - a = _
      omega
    · have e2 := h.2.2 j.toNat (by rw [List.length_append]; omega)
      rw [getD_app (by omega), Int.toNat_of_nonneg h0] at e2
      exact e2
/-- the digits of a number below 100 -/
def dig (v : Int) : List Int := if v < 10 then [48 + v] else [48 + v / 10, 48 + v % 10]
theorem dig_ok {v : Int} (h : 0 ≤ v ∧ v ≤ 99) : (dig v).all isDg = true ∧ dig v ≠ [] ∧ (dig v).length ≤ 3 := by
  unfold dig
  split
  · refine ⟨?_, by simp, by simp⟩
    simp only [List.all_cons, List.all_nil, Bool.and_true, isDg, decide_eq_true_eq]
    omega
  · refine ⟨?_, by simp, by simp⟩
    simp only [List.all_cons, List.all_nil, Bool.and_true, isDg, Bool.and_eq_true, decide_eq_true_eq]
    omega
theorem dig_val {T : Tq} {a v : Int} {r : List Int} (hv : 0 ≤ v ∧ v ≤ 99) (h : Tl T a (dig v ++ r)) : numV T a (a + ((dig v).length : Int)) = v := by
  unfold numV
  unfold dig at *
  split at h
  · rename_i hlt
    have e := (show Tl T a ((48 + v) :: r) from h).hd
    rw [if_pos hlt]
    have e2 : (a + (([48 + v] : List Int).length : Int) - a).toNat = 1 := by simp only [List.length_cons, List.length_nil]; omega
    rw [e2, fld, fld, e]
    omega
  · rename_i hlt
    have h' := (show Tl T a ((48 + v / 10) :: (48 + v % 10) :: r) from h)
    have e := h'.hd
    have e' := h'.tl.hd
    rw [if_neg hlt]
    have e2 : (a + (([48 + v / 10, 48 + v % 10] : List Int).length : Int) - a).toNat = 2 := by simp only [List.length_cons, List.length_nil]; omega
    rw [e2, fld, fld, fld, e, e']
    omega
theorem at_num {T : Tq} {σ : Sg} {v : Int} {r : List Int} (h : At T σ (32 :: (dig v ++ r))) (hr : StpL r = true) (hv : 0 ≤ v ∧ v ≤ 99) : nxt T σ = (sT σ + 1 + ((dig v).length : Int), sT σ + 1, 2, 0, sP σ) := by
  obtain ⟨d1, d2, d3⟩ := dig_ok hv
  obtain ⟨y, w, hw⟩ := List.exists_cons_of_ne_nil d2
  have hy : isDg y = true := by
    rw [hw] at d1
    simp only [List.all_cons, Bool.and_eq_true] at d1
    exact d1.1
  have h' : At T σ (32 :: y :: (w ++ r)) := by rw [hw] at h; exact h
  rw [h'.sp (al_ne (al_of_dg hy)).1]
  exact nx2_d d1 d2 d3 hr h.2.tl
theorem tx_num {T : Tq} {σ : Sg} {v lo hi : Int} {r : List Int} (h : At T σ (32 :: (dig v ++ r))) (hr : StpL r = true) (hv : 0 ≤ v ∧ v ≤ 99) (hb : lo ≤ v ∧ v ≤ hi) : (numC T σ lo hi).1 = v ∧ At T (numC T σ lo hi).2 r := by
  have e := at_num h hr hv
  have e2 := dig_val hv h.2.tl
  have e3 : numC T σ lo hi = (v, (sT σ + 1 + ((dig v).length : Int), sT σ + 1, 2, 0, sP σ)) := by
    rw [numC_eq, e]
    rw [if_neg (by rw [mkE]; simp), if_neg (by rw [mkK]; simp), mkF, mkT, e2, if_neg (by omega)]
  rw [e3]
  exact ⟨rfl, rfl, Tl.drop (dig v) h.2.tl⟩
theorem sx_len : ∀ i : Fin 26, (sxB i.val).length ≠ 1 := by decide +kernel
theorem at_name {T : Tq} {σ : Sg} {x : Int} {r : List Int} (h : At T σ (32 :: x :: r)) (hx : isSm x = true) (hr : StpL r = true) : nxt T σ = (sT σ + 1 + 1, sT σ + 1, 1, 0, sP σ) := by
  rw [h.sp (al_ne (al_of_sm hx)).1]
  exact nx2_w (w := [x]) (by simp [hx]) (by simp) (by simp) hr h.2.tl
theorem tx_name {T : Tq} {σ : Sg} {x : Int} {r : List Int} (h : At T σ (32 :: x :: r)) (hx : isSm x = true) (hr : StpL r = true) : (wordC T σ).1 = x - 96 ∧ At T (wordC T σ).2 r := by
  have e := at_name h hx hr
  have ht : ∀ i, i < 26 → tellsF T (sT σ + 1 + 1, sT σ + 1, 1, 0, sP σ) i = false := fun i hi => by
    have := tx_tells (pl := sP σ) (w := [x]) (r := r) h.2.tl i
    have e1 : sT σ + 1 + (([x] : List Int).length : Int) = sT σ + 1 + 1 := rfl
    rw [e1] at this
    rw [this, decide_eq_false_iff_not]
    intro q
    have := sx_len ⟨i, hi⟩
    simp only at this
    rw [← q] at this
    simp at this
  have hq : quoted T (sT σ + 1 + 1, sT σ + 1, 1, 0, sP σ) = false := by
    unfold quoted
    simp only [ht 13 (by decide), ht 14 (by decide), ht 15 (by decide), ht 16 (by decide), ht 17 (by decide), ht 18 (by decide), ht 19 (by decide), ht 20 (by decide), ht 21 (by decide), ht 22 (by decide), ht 23 (by decide), ht 24 (by decide), ht 25 (by decide), Bool.or_self]
  have hp : pkC T (sT σ + 1) (sT σ + 1 + 1) = x - 96 := by
    have h1 := h.2.1
    have h2 := h.2.tl.lt
    have h3 := h.2.tl.hd
    unfold pkC
    rw [if_neg (by omega)]
    have e1 : (sT σ + 1 + 1 - (sT σ + 1)).toNat = 1 := by omega
    rw [e1]
    have e2 : allF (fun i => isSm (T.1 i)) 1 (sT σ + 1) = true := by simp [allF, h3, hx]
    rw [if_pos e2]
    unfold pkT
    rw [e1, fld, fld, h3]
    omega
  have e3 : wordC T σ = (x - 96, (sT σ + 1 + 1, sT σ + 1, 1, 0, sP σ)) := by
    rw [wordC_eq, e, if_neg (by rw [mkE]; simp), mkF, mkT, hp, if_neg (by rw [hq, mkK]; simp)]
  rw [e3]
  exact ⟨rfl, rfl, h.2.tl.tl⟩
theorem tx_end {T : Tq} {σ : Sg} {r : List Int} (h : At T σ (59 :: r)) : At T (lendC T σ) r := by
  rw [lendC_eq, h.no (by decide), nx2_s h.2, if_neg (by rw [mkK]; simp)]
  exact ⟨rfl, h.2.tl⟩
/-- a line's first word -/
theorem tx_word {T : Tq} {σ : Sg} {w r : List Int} (h : At T σ (w ++ r)) (hw : w.all isSm = true) (h0 : w ≠ []) (h8 : w.length ≤ 8) (hr : StpL r = true) : At T (nxt T σ) r ∧ sK (nxt T σ) = 1 ∧ ∀ i, tellsF T (nxt T σ) i = decide (w = sxB i) := by
  obtain ⟨y, w', e⟩ := List.exists_cons_of_ne_nil h0
  have hy : isSm y = true := by
    rw [e] at hw
    simp only [List.all_cons, Bool.and_eq_true] at hw
    exact hw.1
  have h' : At T σ (y :: (w' ++ r)) := by rw [e] at h; exact h
  rw [h'.no (al_ne (al_of_sm hy)).1, nx2_w hw h0 h8 hr h.2]
  exact ⟨⟨rfl, Tl.drop w h.2⟩, rfl, fun i => tx_tells h.2 i⟩
/-- a word behind a blank -/
theorem tx_wordB {T : Tq} {σ : Sg} {w r : List Int} (h : At T σ (32 :: (w ++ r))) (hw : w.all isSm = true) (h0 : w ≠ []) (h8 : w.length ≤ 8) (hr : StpL r = true) : At T (nxt T σ) r ∧ sK (nxt T σ) = 1 ∧ ∀ i, tellsF T (nxt T σ) i = decide (w = sxB i) := by
  obtain ⟨y, w', e⟩ := List.exists_cons_of_ne_nil h0
  have hy : isSm y = true := by
    rw [e] at hw
    simp only [List.all_cons, Bool.and_eq_true] at hw
    exact hw.1
  have h' : At T σ (32 :: y :: (w' ++ r)) := by rw [e] at h; exact h
  rw [h'.sp (al_ne (al_of_sm hy)).1, nx2_w hw h0 h8 hr h.2.tl]
  exact ⟨⟨rfl, Tl.drop w h.2.tl⟩, rfl, fun i => tx_tells h.2.tl i⟩
theorem tx_fin {T : Tq} {σ : Sg} (h : At T σ []) : sE (nxt T σ) = 0 ∧ sK (nxt T σ) = 0 := by
  have h2 := h.2.2.1
  simp only [List.length_nil] at h2
  unfold nxt
  rw [if_neg (by rw [h.1]; simp)]
  have e : (T.2 - sT σ).toNat = 0 := by omega
  rw [e, runE]
  unfold nx2
  rw [if_pos (by omega)]
  exact ⟨rfl, rfl⟩
