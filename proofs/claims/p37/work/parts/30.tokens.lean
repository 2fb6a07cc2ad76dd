/-! 30.tokens: taken from whole (wip/p37/port.py) -/
variable {n_ : Sh}
/-! 30.tokens: the text, token by token: what is meant, and the class's way (wip/whole/src/30_tokens.py) -/
def isSm (c : Int) : Bool := decide (97 ≤ c ∧ c ≤ 122)
def isDg (c : Int) : Bool := decide (48 ≤ c ∧ c ≤ 57)
def isAl (c : Int) : Bool := isSm c || isDg c
/-- behind the run of what holds -/
def runE (q : Int → Bool) : Nat → Int → Int
  | 0, p => p
  | n + 1, p => if q p then runE q n (p + 1) else p
theorem runE_spec {q : Int → Bool} : ∀ (n : Nat) (p : Int), p ≤ runE q n p ∧ runE q n p ≤ p + n ∧ (∀ i, p ≤ i → i < runE q n p → q i = true) ∧ (runE q n p < p + n → q (runE q n p) = false)
  | 0, p => ⟨by simp [runE], by simp [runE], fun i h1 h2 => by simp [runE] at h2; omega, fun h => by simp [runE] at h⟩
  | n + 1, p => by
    obtain ⟨a, b, c, d⟩ := runE_spec (q := q) n (p + 1)
    rw [runE]
    by_cases h : q p = true
    · rw [if_pos h]
      refine ⟨by omega, by omega, fun i h1 h2 => ?_, fun h1 => d (by omega)⟩
      by_cases e : i = p
      · rw [e]; exact h
      · exact c i (by omega) h2
    · rw [if_neg h]
      exact ⟨by omega, by omega, fun i h1 h2 => by omega, fun _ => by simpa using h⟩
/-- digits in a run of letters and digits -/
def dgE (f : Int → Int) : Nat → Int → Int
  | 0, _ => 0
  | n + 1, p => if isAl (f p) then b2i (isDg (f p)) + dgE f n (p + 1) else 0
theorem dgE_spec {f : Int → Int} : ∀ (n : Nat) (p : Int), 0 ≤ dgE f n p ∧ dgE f n p ≤ runE (fun i => isAl (f i)) n p - p ∧ (dgE f n p = runE (fun i => isAl (f i)) n p - p → ∀ i, p ≤ i → i < runE (fun i => isAl (f i)) n p → isDg (f i) = true) ∧ (dgE f n p = 0 → ∀ i, p ≤ i → i < runE (fun i => isAl (f i)) n p → isSm (f i) = true)
  | 0, p => ⟨by simp [dgE], by simp [dgE, runE], fun _ i h1 h2 => by simp [runE] at h2; omega, fun _ i h1 h2 => by simp [runE] at h2; omega⟩
  | n + 1, p => by
    obtain ⟨a, b, c, d⟩ := dgE_spec (f := f) n (p + 1)
    rw [dgE, runE]
    by_cases h : isAl (f p) = true
    · rw [if_pos h, if_pos h]
      by_cases h2 : isDg (f p) = true
      · rw [h2]
        simp only [b2i, if_true]
        refine ⟨by omega, by omega, fun h3 i h4 h5 => ?_, fun h3 => by omega⟩
        by_cases e : i = p
        · rw [e]; exact h2
        · exact c (by omega) i (by omega) h5
      · have h2 : isDg (f p) = false := by simpa using h2
        rw [h2]
        have hr := (runE_spec (q := fun i => isAl (f i)) n (p + 1)).1
        simp only [b2i, Bool.false_eq_true, if_false]
        refine ⟨by omega, by omega, fun h3 => by omega, fun h3 i h4 h5 => ?_⟩
        by_cases e : i = p
        · rw [e]
          unfold isAl at h
          rw [h2] at h
          simpa using h
        · exact d (by omega) i (by omega) h5
    · rw [if_neg h, if_neg h]
      exact ⟨by omega, by omega, fun _ i h1 h2 => by omega, fun _ i h1 h2 => by omega⟩
/-- to, from, kind, fault, place -/
abbrev Sg : Type := Int × Int × Int × Int × Int
abbrev sT (σ : Sg) : Int := σ.1
abbrev sF (σ : Sg) : Int := σ.2.1
abbrev sK (σ : Sg) : Int := σ.2.2.1
abbrev sE (σ : Sg) : Int := σ.2.2.2.1
abbrev sP (σ : Sg) : Int := σ.2.2.2.2
theorem mkT {a b c d e : Int} : sT (a, b, c, d, e) = a := rfl
theorem mkF {a b c d e : Int} : sF (a, b, c, d, e) = b := rfl
theorem mkK {a b c d e : Int} : sK (a, b, c, d, e) = c := rfl
theorem mkE {a b c d e : Int} : sE (a, b, c, d, e) = d := rfl
theorem mkP {a b c d e : Int} : sP (a, b, c, d, e) = e := rfl
def kindF (n d : Int) : Int := if d = 0 ∧ 1 ≤ n ∧ n ≤ 8 then 1 else if d = n ∧ 1 ≤ n ∧ n ≤ 3 then 2 else 4
def isSp (f : Int → Int) (i : Int) : Bool := decide (f i = 32)
/-- the token that begins at a -/
def nx2 (T : Tq) (a pl : Int) : Sg := if T.2 ≤ a then (a, a, 0, 0, pl) else if T.1 a = 59 then (a + 1, a, 3, 0, pl) else
  (runE (fun i => isAl (T.1 i)) (T.2 - a).toNat a, a, kindF (runE (fun i => isAl (T.1 i)) (T.2 - a).toNat a - a) (dgE T.1 (T.2 - a).toNat a), 0, pl)
def nxt (T : Tq) (σ : Sg) : Sg := if sE σ ≠ 0 then σ else nx2 T (runE (isSp T.1) (T.2 - sT σ).toNat (sT σ)) (sP σ)
def failC (σ : Sg) (k : Int) : Sg := if sE σ = 0 then (sT σ, sF σ, sK σ, k, sF σ) else σ
def numV (T : Tq) (a e : Int) : Int := fld (fun i v => v * 10 + T.1 i - 48) (e - a).toNat a 0
def numC (T : Tq) (σ : Sg) (lo hi : Int) : Int × Sg :=
  let s1 := nxt T σ
  if sE s1 ≠ 0 then (0, s1) else if sK s1 ≠ 2 then (0, failC s1 1) else
    let v := numV T (sF s1) (sT s1)
    if v < lo ∨ hi < v then (v, failC s1 2) else (v, s1)
def allF (q : Int → Bool) : Nat → Int → Bool
  | 0, _ => true
  | n + 1, k => if q k then allF q n (k + 1) else false
theorem allF_iff {q : Int → Bool} : ∀ (n : Nat) (k : Int), allF q n k = true ↔ ∀ i, k ≤ i → i < k + n → q i = true
  | 0, k => ⟨fun _ i h1 h2 => by omega, fun _ => rfl⟩
  | n + 1, k => by
    rw [allF]
    by_cases h : q k = true
    · rw [if_pos h, allF_iff n (k + 1)]
      refine ⟨fun h1 i h2 h3 => ?_, fun h1 i h2 h3 => h1 i (by omega) (by omega)⟩
      by_cases e : i = k
      · rw [e]; exact h
      · exact h1 i (by omega) (by omega)
    · rw [if_neg h]
      exact ⟨fun h1 => absurd h1 (by decide), fun h1 => absurd (h1 k (by omega) (by omega)) h⟩
def pkT (T : Tq) (a e : Int) : Int := fld (fun i v => v * 32 + (T.1 i - 97 + 1)) (e - a).toNat a 0
def pkC (T : Tq) (a e : Int) : Int := if a < 0 ∨ T.2 < e ∨ 8 < e - a then 0 else if allF (fun i => isSm (T.1 i)) (e - a).toNat a then pkT T a e else 0
def tellsF (T : Tq) (σ : Sg) (i : Nat) : Bool := decide (sE σ = 0 ∧ sK σ = 1 ∧ sT σ - sF σ = ((sxB i).length : Nat)) && allF (fun j => decide (T.1 (sF σ + j) = (sxB i).getD j.toNat 0)) (sxB i).length 0
def quoted (T : Tq) (σ : Sg) : Bool := tellsF T σ 13 || tellsF T σ 14 || tellsF T σ 15 || tellsF T σ 16 || tellsF T σ 17 || tellsF T σ 18 || tellsF T σ 19 || tellsF T σ 20 || tellsF T σ 21 || tellsF T σ 22 || tellsF T σ 23 || tellsF T σ 24 || tellsF T σ 25
def wordC (T : Tq) (σ : Sg) : Int × Sg :=
  let s1 := nxt T σ
  if sE s1 ≠ 0 then (0, s1) else (pkC T (sF s1) (sT s1), if sK s1 ≠ 1 ∨ quoted T s1 = true then failC s1 1 else s1)
def lendC (T : Tq) (σ : Sg) : Sg := let s1 := nxt T σ; if sK s1 ≠ 3 then failC s1 1 else s1
def SgOK (T : Tq) (σ : Sg) : Prop := (0 ≤ sT σ ∧ sT σ ≤ T.2) ∧ (0 ≤ sF σ ∧ sF σ ≤ 540) ∧ (0 ≤ sK σ ∧ sK σ ≤ 4) ∧ (0 ≤ sE σ ∧ sE σ ≤ 5) ∧ (0 ≤ sP σ ∧ sP σ ≤ 540)
theorem kindF_rng (n d : Int) : 1 ≤ kindF n d ∧ kindF n d ≤ 4 := by
  unfold kindF
  split
  · omega
  · split <;> omega
theorem nx2_ok {T : Tq} (hL : T.2 ≤ 540) {a pl : Int} (ha : 0 ≤ a ∧ a ≤ T.2) (hp : 0 ≤ pl ∧ pl ≤ 540) : SgOK T (nx2 T a pl) ∧ a ≤ sT (nx2 T a pl) ∧ sF (nx2 T a pl) = a ∧ sE (nx2 T a pl) = 0 := by
  unfold nx2
  by_cases h : T.2 ≤ a
  · rw [if_pos h]
    refine ⟨?_, ?_, rfl, rfl⟩
    · unfold SgOK
      simp only [mkT, mkF, mkK, mkE, mkP]
      omega
    · simp only [mkT]
      omega
  · rw [if_neg h]
    by_cases h2 : T.1 a = 59
    · rw [if_pos h2]
      refine ⟨?_, ?_, rfl, rfl⟩
      · unfold SgOK
        simp only [mkT, mkF, mkK, mkE, mkP]
        omega
      · simp only [mkT]
        omega
    · rw [if_neg h2]
      have q := runE_spec (q := fun i => isAl (T.1 i)) (T.2 - a).toNat a
      have k := kindF_rng (runE (fun i => isAl (T.1 i)) (T.2 - a).toNat a - a) (dgE T.1 (T.2 - a).toNat a)
      refine ⟨?_, ?_, rfl, rfl⟩
      · unfold SgOK
        simp only [mkT, mkF, mkK, mkE, mkP]
        omega
      · simp only [mkT]
        omega
theorem nxt_ok {T : Tq} (hL : T.2 ≤ 540) {σ : Sg} (h : SgOK T σ) : SgOK T (nxt T σ) ∧ sE (nxt T σ) = sE σ ∧ sT σ ≤ sT (nxt T σ) := by
  unfold nxt
  by_cases e : sE σ ≠ 0
  · rw [if_pos e]; exact ⟨h, rfl, Int.le_refl _⟩
  · rw [if_neg e]
    have q := runE_spec (q := isSp T.1) (T.2 - sT σ).toNat (sT σ)
    unfold SgOK at h
    have r := nx2_ok hL (a := runE (isSp T.1) (T.2 - sT σ).toNat (sT σ)) (pl := sP σ) (by omega) (by omega)
    exact ⟨r.1, by rw [r.2.2.2]; omega, by omega⟩
theorem fail_ok {T : Tq} {σ : Sg} (h : SgOK T σ) {k : Int} (hk : 0 ≤ k ∧ k ≤ 5) : SgOK T (failC σ k) := by
  unfold failC
  split
  · unfold SgOK at *
    simp only [mkT, mkF, mkK, mkE, mkP]
    omega
  · exact h
/-- a number is at most 999 -/
theorem numV_rng {T : Tq} {a pl : Int} (h : sK (nx2 T a pl) = 2) : (0 ≤ numV T (sF (nx2 T a pl)) (sT (nx2 T a pl)) ∧ numV T (sF (nx2 T a pl)) (sT (nx2 T a pl)) ≤ 999) ∧ sT (nx2 T a pl) - sF (nx2 T a pl) ≤ 3 := by
  unfold nx2 at *
  by_cases h1 : T.2 ≤ a
  · rw [if_pos h1] at h; exact absurd h (show ¬ (0 : Int) = 2 by decide)
  · rw [if_neg h1] at h ⊢
    by_cases h2 : T.1 a = 59
    · rw [if_pos h2] at h; exact absurd h (show ¬ (3 : Int) = 2 by decide)
    · rw [if_neg h2] at h ⊢
      simp only [mkT, mkF, mkK] at h ⊢
      obtain ⟨q1, q2, q3, q4⟩ := dgE_spec (f := T.1) (T.2 - a).toNat a
      generalize runE (fun i => isAl (T.1 i)) (T.2 - a).toNat a = e at *
      generalize dgE T.1 (T.2 - a).toNat a = d at *
      unfold kindF at h
      have hd : d = e - a ∧ 1 ≤ e - a ∧ e - a ≤ 3 := by
        by_cases c1 : d = 0 ∧ 1 ≤ e - a ∧ e - a ≤ 8
        · rw [if_pos c1] at h; exact absurd h (show ¬ (1 : Int) = 2 by decide)
        · rw [if_neg c1] at h
          by_cases c2 : d = e - a ∧ 1 ≤ e - a ∧ e - a ≤ 3
          · exact c2
          · rw [if_neg c2] at h; exact absurd h (show ¬ (4 : Int) = 2 by decide)
      have dg := q3 hd.1
      refine ⟨?_, hd.2.2⟩
      have D := fun i (i0 : a ≤ i) (i1 : i < e) => of_decide_eq_true (dg i i0 i1)
      unfold numV
      rcases (show e - a = 1 ∨ e - a = 2 ∨ e - a = 3 by omega) with e1 | e1 | e1
      · rw [e1]
        have d0 := D a (by omega) (by omega)
        simp only [Int.toNat_one, fld]
        omega
      · rw [e1]
        have d0 := D a (by omega) (by omega)
        have d1 := D (a + 1) (by omega) (by omega)
        show 0 ≤ fld _ 2 a 0 ∧ fld _ 2 a 0 ≤ 999
        simp only [fld]
        omega
      · rw [e1]
        have d0 := D a (by omega) (by omega)
        have d1 := D (a + 1) (by omega) (by omega)
        have d2 := D (a + 1 + 1) (by omega) (by omega)
        show 0 ≤ fld _ 3 a 0 ∧ fld _ 3 a 0 ≤ 999
        simp only [fld]
        omega
/-! the class's tokens -/
def wTok (μ : Mem) (σ : Sg) : Mem := (fun q j => if q = 2 ∧ 2 ≤ j ∧ j ≤ 6 then (if j = 2 then sE σ else if j = 3 then sP σ else if j = 4 then sK σ else if j = 5 then sF σ else sT σ) else μ.1 q j, μ.2)
theorem wt2 {μ : Mem} {σ : Sg} : (wTok μ σ).1 2 2 = sE σ := by simp [wTok]
theorem wt3 {μ : Mem} {σ : Sg} : (wTok μ σ).1 2 3 = sP σ := by simp [wTok]
theorem wt4 {μ : Mem} {σ : Sg} : (wTok μ σ).1 2 4 = sK σ := by simp [wTok]
theorem wt5 {μ : Mem} {σ : Sg} : (wTok μ σ).1 2 5 = sF σ := by simp [wTok]
theorem wt6 {μ : Mem} {σ : Sg} : (wTok μ σ).1 2 6 = sT σ := by simp [wTok]
theorem wt1 {μ : Mem} {σ : Sg} : (wTok μ σ).1 2 1 = μ.1 2 1 := by simp [wTok]
theorem wt_ne {μ : Mem} {σ : Sg} {q : Nat} (h : q ≠ 2) : (wTok μ σ).1 q = μ.1 q := by funext j; simp [wTok, h]
theorem wtx {μ : Mem} {σ : Sg} : (wTok μ σ).1 3 = μ.1 3 := wt_ne (by decide)
theorem wt_eta {μ : Mem} {σ : Sg} (h2 : μ.1 2 2 = sE σ) (h3 : μ.1 2 3 = sP σ) (h4 : μ.1 2 4 = sK σ) (h5 : μ.1 2 5 = sF σ) (h6 : μ.1 2 6 = sT σ) : wTok μ σ = μ := by
  refine Prod.ext (funext fun q => funext fun j => ?_) rfl
  simp only [wTok]
  by_cases hq : q = 2 ∧ 2 ≤ j ∧ j ≤ 6
  · rw [if_pos hq]
    obtain ⟨rfl, hj⟩ := hq
    rcases (show j = 2 ∨ j = 3 ∨ j = 4 ∨ j = 5 ∨ j = 6 by omega) with rfl | rfl | rfl | rfl | rfl
    · exact h2.symm
    · exact h3.symm
    · exact h4.symm
    · exact h5.symm
    · exact h6.symm
  · rw [if_neg hq]
theorem ws2 {μ : Mem} {σ : Sg} {x : Int} : setI (wTok μ σ) 2 2 x = wTok μ (sT σ, sF σ, sK σ, x, sP σ) := by
  refine Prod.ext (funext fun q => funext fun j => ?_) rfl
  simp only [wTok, setI]
  by_cases h : q = 2 ∧ j = 2
  · obtain ⟨rfl, rfl⟩ := h
    simp
  · rw [if_neg h]
    by_cases h2 : q = 2 ∧ 2 ≤ j ∧ j ≤ 6
    · rw [if_pos h2, if_pos h2]
      have hj : j ≠ 2 := fun e => h ⟨h2.1, e⟩
      rcases (show j = 3 ∨ j = 4 ∨ j = 5 ∨ j = 6 by omega) with rfl | rfl | rfl | rfl <;> rfl
    · rw [if_neg h2, if_neg h2]
theorem ws3 {μ : Mem} {σ : Sg} {x : Int} : setI (wTok μ σ) 2 3 x = wTok μ (sT σ, sF σ, sK σ, sE σ, x) := by
  refine Prod.ext (funext fun q => funext fun j => ?_) rfl
  simp only [wTok, setI]
  by_cases h : q = 2 ∧ j = 3
  · obtain ⟨rfl, rfl⟩ := h
    simp
  · rw [if_neg h]
    by_cases h2 : q = 2 ∧ 2 ≤ j ∧ j ≤ 6
    · rw [if_pos h2, if_pos h2]
      have hj : j ≠ 3 := fun e => h ⟨h2.1, e⟩
      rcases (show j = 2 ∨ j = 4 ∨ j = 5 ∨ j = 6 by omega) with rfl | rfl | rfl | rfl <;> rfl
    · rw [if_neg h2, if_neg h2]
theorem ws4 {μ : Mem} {σ : Sg} {x : Int} : setI (wTok μ σ) 2 4 x = wTok μ (sT σ, sF σ, x, sE σ, sP σ) := by
  refine Prod.ext (funext fun q => funext fun j => ?_) rfl
  simp only [wTok, setI]
  by_cases h : q = 2 ∧ j = 4
  · obtain ⟨rfl, rfl⟩ := h
    simp
  · rw [if_neg h]
    by_cases h2 : q = 2 ∧ 2 ≤ j ∧ j ≤ 6
    · rw [if_pos h2, if_pos h2]
      have hj : j ≠ 4 := fun e => h ⟨h2.1, e⟩
      rcases (show j = 2 ∨ j = 3 ∨ j = 5 ∨ j = 6 by omega) with rfl | rfl | rfl | rfl <;> rfl
    · rw [if_neg h2, if_neg h2]
theorem ws5 {μ : Mem} {σ : Sg} {x : Int} : setI (wTok μ σ) 2 5 x = wTok μ (sT σ, x, sK σ, sE σ, sP σ) := by
  refine Prod.ext (funext fun q => funext fun j => ?_) rfl
  simp only [wTok, setI]
  by_cases h : q = 2 ∧ j = 5
  · obtain ⟨rfl, rfl⟩ := h
    simp
  · rw [if_neg h]
    by_cases h2 : q = 2 ∧ 2 ≤ j ∧ j ≤ 6
    · rw [if_pos h2, if_pos h2]
      have hj : j ≠ 5 := fun e => h ⟨h2.1, e⟩
      rcases (show j = 2 ∨ j = 3 ∨ j = 4 ∨ j = 6 by omega) with rfl | rfl | rfl | rfl <;> rfl
    · rw [if_neg h2, if_neg h2]
theorem ws6 {μ : Mem} {σ : Sg} {x : Int} : setI (wTok μ σ) 2 6 x = wTok μ (x, sF σ, sK σ, sE σ, sP σ) := by
  refine Prod.ext (funext fun q => funext fun j => ?_) rfl
  simp only [wTok, setI]
  by_cases h : q = 2 ∧ j = 6
  · obtain ⟨rfl, rfl⟩ := h
    simp
  · rw [if_neg h]
    by_cases h2 : q = 2 ∧ 2 ≤ j ∧ j ≤ 6
    · rw [if_pos h2, if_pos h2]
      have hj : j ≠ 6 := fun e => h ⟨h2.1, e⟩
      rcases (show j = 2 ∨ j = 3 ∨ j = 4 ∨ j = 5 by omega) with rfl | rfl | rfl | rfl <;> rfl
    · rw [if_neg h2, if_neg h2]
theorem ws_out {μ : Mem} {σ : Sg} {a : Nat} {i x : Int} (h : a ≠ 2 ∨ i < 2 ∨ 6 < i) : setI (wTok μ σ) a i x = wTok (setI μ a i x) σ := by
  refine Prod.ext (funext fun q => funext fun j => ?_) rfl
  simp only [wTok, setI]
  by_cases h1 : q = a ∧ j = i
  · rw [if_pos h1, if_pos h1, if_neg (by omega)]
  · rw [if_neg h1, if_neg h1]
theorem wt_wt {μ : Mem} {σ τ : Sg} : wTok (wTok μ σ) τ = wTok μ τ := by
  refine Prod.ext (funext fun q => funext fun j => ?_) rfl
  simp only [wTok]
  split <;> rfl
theorem Kp.wt {S : Nat → Prop} {μ μ2 : Mem} {σ : Sg} (h1 : Kp S μ μ2) (h : ¬ S 2) : Kp S μ (wTok μ2 σ) := h1.tr fun q hq => ⟨funext fun j => ifn (fun e => h (e ▸ hq)), rfl, rfl⟩
theorem x_isLetter {μ : Mem} {c : Int} (hc : -2147483648 ≤ c ∧ c < 2147483648)  : FMet yX9_isLetter gX9_isLetter (SH n_) [vI c] μ (some (vI (b2i (isSm c)))) μ := by
  refine AMet.of (by decide) rfl (by decide) rfl ?_
  refine r_iload_n dX9_isLetter_0 rfl ?_
  refine r_bipush dX9_isLetter_1 (by decide) ?_
  refine q_icmp_lt (tgt := 16) dX9_isLetter_3 rfl (by omega) (by omega) (fun c3 => ?_) (fun c3 => ?_)
  · refine r_iconst dX9_isLetter_16 ?_
    refine r_zreturn dX9_isLetter_17 (by first | exact Or.inl rfl | exact Or.inr rfl | exact b2i_01 _ | omega) rfl rfl rfl ?_
    refine ⟨rI ?_, rfl, rfl⟩
    unfold isSm
    first | (rw [decide_eq_true (by omega)]; rfl) | (rw [decide_eq_false (by omega)]; rfl)
  · refine r_iload_n dX9_isLetter_6 rfl ?_
    refine r_bipush dX9_isLetter_7 (by decide) ?_
    refine q_icmp_gt (tgt := 16) dX9_isLetter_9 rfl (by omega) (by omega) (fun c9 => ?_) (fun c9 => ?_)
    · refine r_iconst dX9_isLetter_16 ?_
      refine r_zreturn dX9_isLetter_17 (by first | exact Or.inl rfl | exact Or.inr rfl | exact b2i_01 _ | omega) rfl rfl rfl ?_
      refine ⟨rI ?_, rfl, rfl⟩
      unfold isSm
      first | (rw [decide_eq_true (by omega)]; rfl) | (rw [decide_eq_false (by omega)]; rfl)
    · refine r_iconst dX9_isLetter_12 ?_
      refine r_goto (tgt := 17) dX9_isLetter_13 rfl ?_
      refine r_zreturn dX9_isLetter_17 (by first | exact Or.inl rfl | exact Or.inr rfl | exact b2i_01 _ | omega) rfl rfl rfl ?_
      refine ⟨rI ?_, rfl, rfl⟩
      unfold isSm
      first | (rw [decide_eq_true (by omega)]; rfl) | (rw [decide_eq_false (by omega)]; rfl)
theorem x_isDigit {μ : Mem} {c : Int} (hc : -2147483648 ≤ c ∧ c < 2147483648)  : FMet yX9_isDigit gX9_isDigit (SH n_) [vI c] μ (some (vI (b2i (isDg c)))) μ := by
  refine AMet.of (by decide) rfl (by decide) rfl ?_
  refine r_iload_n dX9_isDigit_0 rfl ?_
  refine r_bipush dX9_isDigit_1 (by decide) ?_
  refine q_icmp_lt (tgt := 16) dX9_isDigit_3 rfl (by omega) (by omega) (fun c3 => ?_) (fun c3 => ?_)
  · refine r_iconst dX9_isDigit_16 ?_
    refine r_zreturn dX9_isDigit_17 (by first | exact Or.inl rfl | exact Or.inr rfl | exact b2i_01 _ | omega) rfl rfl rfl ?_
    refine ⟨rI ?_, rfl, rfl⟩
    unfold isDg
    first | (rw [decide_eq_true (by omega)]; rfl) | (rw [decide_eq_false (by omega)]; rfl)
  · refine r_iload_n dX9_isDigit_6 rfl ?_
    refine r_bipush dX9_isDigit_7 (by decide) ?_
    refine q_icmp_gt (tgt := 16) dX9_isDigit_9 rfl (by omega) (by omega) (fun c9 => ?_) (fun c9 => ?_)
    · refine r_iconst dX9_isDigit_16 ?_
      refine r_zreturn dX9_isDigit_17 (by first | exact Or.inl rfl | exact Or.inr rfl | exact b2i_01 _ | omega) rfl rfl rfl ?_
      refine ⟨rI ?_, rfl, rfl⟩
      unfold isDg
      first | (rw [decide_eq_true (by omega)]; rfl) | (rw [decide_eq_false (by omega)]; rfl)
    · refine r_iconst dX9_isDigit_12 ?_
      refine r_goto (tgt := 17) dX9_isDigit_13 rfl ?_
      refine r_zreturn dX9_isDigit_17 (by first | exact Or.inl rfl | exact Or.inr rfl | exact b2i_01 _ | omega) rfl rfl rfl ?_
      refine ⟨rI ?_, rfl, rfl⟩
      unfold isDg
      first | (rw [decide_eq_true (by omega)]; rfl) | (rw [decide_eq_false (by omega)]; rfl)
theorem x_kindOf {μ : Mem} {n d : Int} (hn : -2147483648 ≤ n ∧ n < 2147483648) (hd : -2147483648 ≤ d ∧ d < 2147483648)  : FMet yX9_kindOf gX9_kindOf (SH n_) [vI n, vI d] μ (some (vI (kindF n d))) μ := by
  refine AMet.of (by decide) rfl (by decide) rfl ?_
  refine r_iload_n dX9_kindOf_0 rfl ?_
  refine q_if_ne (tgt := 17) dX9_kindOf_1 rfl (by omega) (fun c1 => ?_) (fun c1 => ?_)
  · refine r_iload_n dX9_kindOf_17 rfl ?_
    refine r_iload_n dX9_kindOf_18 rfl ?_
    refine q_icmp_ne (tgt := 36) dX9_kindOf_19 rfl (by omega) (by omega) (fun c19 => ?_) (fun c19 => ?_)
    · refine r_iconst dX9_kindOf_36 ?_
      refine r_ireturn dX9_kindOf_37 rfl rfl rfl ?_
      refine ⟨rI ?_, rfl, rfl⟩
      unfold kindF
      first | (rw [if_pos (by omega)]; done) | (rw [if_neg (by omega), if_pos (by omega)]; done) | (rw [if_neg (by omega), if_neg (by omega)]; done)
    · refine r_iload_n dX9_kindOf_22 rfl ?_
      refine r_iconst dX9_kindOf_23 ?_
      refine q_icmp_lt (tgt := 36) dX9_kindOf_24 rfl (by omega) (by omega) (fun c24 => ?_) (fun c24 => ?_)
      · refine r_iconst dX9_kindOf_36 ?_
        refine r_ireturn dX9_kindOf_37 rfl rfl rfl ?_
        refine ⟨rI ?_, rfl, rfl⟩
        unfold kindF
        first | (rw [if_pos (by omega)]; done) | (rw [if_neg (by omega), if_pos (by omega)]; done) | (rw [if_neg (by omega), if_neg (by omega)]; done)
      · refine r_iload_n dX9_kindOf_27 rfl ?_
        refine r_iconst dX9_kindOf_28 ?_
        refine q_icmp_gt (tgt := 36) dX9_kindOf_29 rfl (by omega) (by omega) (fun c29 => ?_) (fun c29 => ?_)
        · refine r_iconst dX9_kindOf_36 ?_
          refine r_ireturn dX9_kindOf_37 rfl rfl rfl ?_
          refine ⟨rI ?_, rfl, rfl⟩
          unfold kindF
          first | (rw [if_pos (by omega)]; done) | (rw [if_neg (by omega), if_pos (by omega)]; done) | (rw [if_neg (by omega), if_neg (by omega)]; done)
        · refine r_iconst dX9_kindOf_32 ?_
          refine r_goto (tgt := 37) dX9_kindOf_33 rfl ?_
          refine r_ireturn dX9_kindOf_37 rfl rfl rfl ?_
          refine ⟨rI ?_, rfl, rfl⟩
          unfold kindF
          first | (rw [if_pos (by omega)]; done) | (rw [if_neg (by omega), if_pos (by omega)]; done) | (rw [if_neg (by omega), if_neg (by omega)]; done)
  · refine r_iload_n dX9_kindOf_4 rfl ?_
    refine r_iconst dX9_kindOf_5 ?_
    refine q_icmp_lt (tgt := 17) dX9_kindOf_6 rfl (by omega) (by omega) (fun c6 => ?_) (fun c6 => ?_)
    · refine r_iload_n dX9_kindOf_17 rfl ?_
      refine r_iload_n dX9_kindOf_18 rfl ?_
      refine q_icmp_ne (tgt := 36) dX9_kindOf_19 rfl (by omega) (by omega) (fun c19 => ?_) (fun c19 => ?_)
      · refine r_iconst dX9_kindOf_36 ?_
        refine r_ireturn dX9_kindOf_37 rfl rfl rfl ?_
        refine ⟨rI ?_, rfl, rfl⟩
        unfold kindF
        first | (rw [if_pos (by omega)]; done) | (rw [if_neg (by omega), if_pos (by omega)]; done) | (rw [if_neg (by omega), if_neg (by omega)]; done)
      · refine r_iload_n dX9_kindOf_22 rfl ?_
        refine r_iconst dX9_kindOf_23 ?_
        refine q_icmp_lt (tgt := 36) dX9_kindOf_24 rfl (by omega) (by omega) (fun c24 => ?_) (fun c24 => ?_)
        · refine r_iconst dX9_kindOf_36 ?_
          refine r_ireturn dX9_kindOf_37 rfl rfl rfl ?_
          refine ⟨rI ?_, rfl, rfl⟩
          unfold kindF
          first | (rw [if_pos (by omega)]; done) | (rw [if_neg (by omega), if_pos (by omega)]; done) | (rw [if_neg (by omega), if_neg (by omega)]; done)
        · refine r_iload_n dX9_kindOf_27 rfl ?_
          refine r_iconst dX9_kindOf_28 ?_
          refine q_icmp_gt (tgt := 36) dX9_kindOf_29 rfl (by omega) (by omega) (fun c29 => ?_) (fun c29 => ?_)
          · refine r_iconst dX9_kindOf_36 ?_
            refine r_ireturn dX9_kindOf_37 rfl rfl rfl ?_
            refine ⟨rI ?_, rfl, rfl⟩
            unfold kindF
            first | (rw [if_pos (by omega)]; done) | (rw [if_neg (by omega), if_pos (by omega)]; done) | (rw [if_neg (by omega), if_neg (by omega)]; done)
          · refine r_iconst dX9_kindOf_32 ?_
            refine r_goto (tgt := 37) dX9_kindOf_33 rfl ?_
            refine r_ireturn dX9_kindOf_37 rfl rfl rfl ?_
            refine ⟨rI ?_, rfl, rfl⟩
            unfold kindF
            first | (rw [if_pos (by omega)]; done) | (rw [if_neg (by omega), if_pos (by omega)]; done) | (rw [if_neg (by omega), if_neg (by omega)]; done)
    · refine r_iload_n dX9_kindOf_9 rfl ?_
      refine r_bipush dX9_kindOf_10 (by decide) ?_
      refine q_icmp_gt (tgt := 17) dX9_kindOf_12 rfl (by omega) (by omega) (fun c12 => ?_) (fun c12 => ?_)
      · refine r_iload_n dX9_kindOf_17 rfl ?_
        refine r_iload_n dX9_kindOf_18 rfl ?_
        refine q_icmp_ne (tgt := 36) dX9_kindOf_19 rfl (by omega) (by omega) (fun c19 => ?_) (fun c19 => ?_)
        · refine r_iconst dX9_kindOf_36 ?_
          refine r_ireturn dX9_kindOf_37 rfl rfl rfl ?_
          refine ⟨rI ?_, rfl, rfl⟩
          unfold kindF
          first | (rw [if_pos (by omega)]; done) | (rw [if_neg (by omega), if_pos (by omega)]; done) | (rw [if_neg (by omega), if_neg (by omega)]; done)
        · refine r_iload_n dX9_kindOf_22 rfl ?_
          refine r_iconst dX9_kindOf_23 ?_
          refine q_icmp_lt (tgt := 36) dX9_kindOf_24 rfl (by omega) (by omega) (fun c24 => ?_) (fun c24 => ?_)
          · refine r_iconst dX9_kindOf_36 ?_
            refine r_ireturn dX9_kindOf_37 rfl rfl rfl ?_
            refine ⟨rI ?_, rfl, rfl⟩
            unfold kindF
            first | (rw [if_pos (by omega)]; done) | (rw [if_neg (by omega), if_pos (by omega)]; done) | (rw [if_neg (by omega), if_neg (by omega)]; done)
          · refine r_iload_n dX9_kindOf_27 rfl ?_
            refine r_iconst dX9_kindOf_28 ?_
            refine q_icmp_gt (tgt := 36) dX9_kindOf_29 rfl (by omega) (by omega) (fun c29 => ?_) (fun c29 => ?_)
            · refine r_iconst dX9_kindOf_36 ?_
              refine r_ireturn dX9_kindOf_37 rfl rfl rfl ?_
              refine ⟨rI ?_, rfl, rfl⟩
              unfold kindF
              first | (rw [if_pos (by omega)]; done) | (rw [if_neg (by omega), if_pos (by omega)]; done) | (rw [if_neg (by omega), if_neg (by omega)]; done)
            · refine r_iconst dX9_kindOf_32 ?_
              refine r_goto (tgt := 37) dX9_kindOf_33 rfl ?_
              refine r_ireturn dX9_kindOf_37 rfl rfl rfl ?_
              refine ⟨rI ?_, rfl, rfl⟩
              unfold kindF
              first | (rw [if_pos (by omega)]; done) | (rw [if_neg (by omega), if_pos (by omega)]; done) | (rw [if_neg (by omega), if_neg (by omega)]; done)
      · refine r_iconst dX9_kindOf_15 ?_
        refine r_ireturn dX9_kindOf_16 rfl rfl rfl ?_
        refine ⟨rI ?_, rfl, rfl⟩
        unfold kindF
        first | (rw [if_pos (by omega)]; done) | (rw [if_neg (by omega), if_pos (by omega)]; done) | (rw [if_neg (by omega), if_neg (by omega)]; done)
theorem x_fail {μ : Mem} {T : Tq} {σ : Sg} (hL : Lay μ.2.2) (hT : TapX μ T.1 T.2) (hs : SgOK T σ) {k : Int}  : FMet yX9_fail gX9_fail (SH n_) [vR 2, vI k] (wTok μ σ) none (wTok μ (failC σ k)) := by
  have x2 : (SH n_)[2]? = some (8, 7) := rfl
  have x3 : (SH n_)[3]? = some (20, 540) := rfl
  have r20 := hL.r2_0
  obtain ⟨t1, t2, t3⟩ := id hT
  have hs0 := hs
  unfold SgOK at hs0
  refine AMet.of (by decide) rfl (by decide) rfl ?_
  refine r_aload_n dX9_fail_0 rfl ?_
  refine r_getI dX9_fail_1 fl_X9_28 rfl (by assumption) ?_
  (try simp only [wt1, wt2, wt3, wt4, wt5, wt6, wtx, mkT, mkF, mkK, mkE, mkP])
  refine q_if_ne (tgt := 20) dX9_fail_4 rfl (by omega) (fun c4 => ?_) (fun c4 => ?_)
  · refine r_return dX9_fail_20 rfl rfl rfl ?_
    refine ⟨rfl, rfl, ?_⟩
    unfold failC
    first | rw [if_pos (by omega)] | rw [if_neg (by omega)]
  · refine r_aload_n dX9_fail_7 rfl ?_
    refine r_iload_n dX9_fail_8 rfl ?_
    refine r_putI dX9_fail_9 fl_X9_28 (by assumption) ?_
    simp only [ws2, ws3, ws4, ws5, ws6, mkT, mkF, mkK, mkE, mkP]
    refine r_aload_n dX9_fail_12 rfl ?_
    refine r_aload_n dX9_fail_13 rfl ?_
    refine r_getI dX9_fail_14 fl_X9_19 rfl (by assumption) ?_
    (try simp only [wt1, wt2, wt3, wt4, wt5, wt6, wtx, mkT, mkF, mkK, mkE, mkP])
    refine r_putI dX9_fail_17 fl_X9_31 (by assumption) ?_
    simp only [ws2, ws3, ws4, ws5, ws6, mkT, mkF, mkK, mkE, mkP]
    refine r_return dX9_fail_20 rfl rfl rfl ?_
    refine ⟨rfl, rfl, ?_⟩
    unfold failC
    first | rw [if_pos (by omega)] | rw [if_neg (by omega)]
theorem x_next {μ : Mem} {T : Tq} {σ : Sg} (hL : Lay μ.2.2) (hT : TapX μ T.1 T.2) (hs : SgOK T σ)  : FMet yX9_next gX9_next (SH n_) [vR 2] (wTok μ σ) none (wTok μ (nxt T σ)) := by
  have x2 : (SH n_)[2]? = some (8, 7) := rfl
  have x3 : (SH n_)[3]? = some (20, 540) := rfl
  have r20 := hL.r2_0
  obtain ⟨t1, t2, t3⟩ := id hT
  have hs0 := hs
  unfold SgOK at hs0
  have lB : ∀ (f n : Nat) (k : Int) (a d : Int), n < f → 0 ≤ k → k + n = T.2 → (0 ≤ a ∧ a ≤ k) → (0 ≤ d ∧ d ≤ k - a) → AW gX9_next (SH n_) (wTok μ (k, a, sK σ, 0, sP σ)) 0 0 119 [some (vR 2), some (vI d)] [] (fun r2 sh2 μ2 => r2 = none ∧ sh2 = (SH n_) ∧ μ2 = wTok μ (runE (fun i => isAl (T.1 i)) n k, a, kindF (runE (fun i => isAl (T.1 i)) n k - a) (d + dgE T.1 n k), 0, sP σ)) := by
    intro f
    induction f with
    | zero => intro n; intros; omega
    | succ f ih =>
      intro n k a d hf hk hn2 ha hd
      refine r_aload_n dX9_next_119 rfl ?_
      refine r_getI dX9_next_120 fl_X9_22 rfl (by assumption) ?_
      (try simp only [wt1, wt2, wt3, wt4, wt5, wt6, wtx, mkT, mkF, mkK, mkE, mkP])
      refine r_aload_n dX9_next_123 rfl ?_
      refine r_getI dX9_next_124 fl_X9_15 rfl (by assumption) ?_
      (try simp only [wt1, wt2, wt3, wt4, wt5, wt6, wtx, mkT, mkF, mkK, mkE, mkP])
      refine q_icmp_ge (tgt := 196) dX9_next_127 rfl (by omega) (by omega) (fun c127 => ?_) (fun c127 => ?_)
      · refine r_aload_n dX9_next_196 rfl ?_
        refine r_aload_n dX9_next_197 rfl ?_
        refine r_getI dX9_next_198 fl_X9_22 rfl (by assumption) ?_
        (try simp only [wt1, wt2, wt3, wt4, wt5, wt6, wtx, mkT, mkF, mkK, mkE, mkP])
        refine r_aload_n dX9_next_201 rfl ?_
        refine r_getI dX9_next_202 fl_X9_19 rfl (by assumption) ?_
        (try simp only [wt1, wt2, wt3, wt4, wt5, wt6, wtx, mkT, mkF, mkK, mkE, mkP])
        refine r_isub dX9_next_205 ?_
        refine r_iload_n dX9_next_206 rfl ?_
        refine r_cS2F1 dX9_next_207 ml_X9_45 yl_X9_kindOf ⟨rfl, rfl⟩ rfl rfl rfl rfl (x_kindOf (by omega) (by omega)) ?_
        refine r_putI dX9_next_210 fl_X9_25 (by assumption) ?_
        simp only [ws2, ws3, ws4, ws5, ws6, mkT, mkF, mkK, mkE, mkP]
        refine r_return dX9_next_213 rfl rfl rfl ?_
        first
          | (obtain rfl : n = 0 := (by omega); refine ⟨rfl, rfl, ?_⟩; simp only [runE, dgE, Int.add_zero]; done)
          | (have al : ¬ isAl (T.1 k) = true := (by unfold isAl; rw [c142, c157]; decide); rw [runE, dgE, if_neg al, if_neg al, Int.add_zero]; exact ⟨rfl, rfl, rfl⟩)
      · have tk := t3 k (by omega) (by omega)
        obtain ⟨q, rfl⟩ : ∃ q, n = q + 1 := ⟨n - 1, by omega⟩
        refine r_aload_n dX9_next_130 rfl ?_
        refine r_getR dX9_next_131 fl_X9_9 rfl (by assumption) (by assumption) ?_
        refine r_aload_n dX9_next_134 rfl ?_
        refine r_getI dX9_next_135 fl_X9_22 rfl (by assumption) ?_
        (try simp only [wt1, wt2, wt3, wt4, wt5, wt6, wtx, mkT, mkF, mkK, mkE, mkP])
        refine r_iald dX9_next_138 (by assumption) rfl (by omega) ?_
        simp only [wtx]
        rw [tk.1]
        refine r_cS1F1 dX9_next_139 ml_X9_38 yl_X9_isLetter ⟨rfl, rfl⟩ rfl rfl rfl rfl (x_isLetter (by omega)) ?_
        refine r_if_neB (tgt := 160) dX9_next_142 rfl (fun c142 => ?_) (fun c142 => ?_)
        · refine r_iload_n dX9_next_160 rfl ?_
          refine r_aload_n dX9_next_161 rfl ?_
          refine r_getR dX9_next_162 fl_X9_9 rfl (by assumption) (by assumption) ?_
          refine r_aload_n dX9_next_165 rfl ?_
          refine r_getI dX9_next_166 fl_X9_22 rfl (by assumption) ?_
          (try simp only [wt1, wt2, wt3, wt4, wt5, wt6, wtx, mkT, mkF, mkK, mkE, mkP])
          refine r_iald dX9_next_169 (by assumption) rfl (by omega) ?_
          simp only [wtx]
          rw [tk.1]
          refine r_cS1F1 dX9_next_170 ml_X9_42 yl_X9_isDigit ⟨rfl, rfl⟩ rfl rfl rfl rfl (x_isDigit (by omega)) ?_
          refine r_if_eqB (tgt := 180) dX9_next_173 rfl (fun c173 => ?_) (fun c173 => ?_)
          · refine r_iconst dX9_next_180 ?_
            refine r_iadd dX9_next_181 ?_
            refine r_istore_n dX9_next_182 rfl ?_
            refine r_aload_n dX9_next_183 rfl ?_
            refine r_dup dX9_next_184 rfl ?_
            refine r_getI dX9_next_185 fl_X9_22 rfl (by assumption) ?_
            (try simp only [wt1, wt2, wt3, wt4, wt5, wt6, wtx, mkT, mkF, mkK, mkE, mkP])
            refine r_iconst dX9_next_188 ?_
            refine r_iadd dX9_next_189 ?_
            refine r_putI dX9_next_190 fl_X9_22 (by assumption) ?_
            simp only [ws2, ws3, ws4, ws5, ws6, mkT, mkF, mkK, mkE, mkP]
            refine r_goto (tgt := 119) dX9_next_193 rfl ?_
            have al : isAl (T.1 k) = true := by
              unfold isAl
              first | (rw [c142]; rfl) | (rw [c157]; simp)
            rw [runE, dgE, if_pos al, if_pos al]
            have hb := b2i_01 (isDg (T.1 k))
            first
              | (have e1 : b2i (isDg (T.1 k)) = 1 := by rw [c173]; rfl
                 rw [e1, ← Int.add_assoc]
                 exact ih q (k + 1) a (d + 1) (by omega) (by omega) (by omega) (by omega) (by omega))
              | (have e1 : b2i (isDg (T.1 k)) = 0 := by rw [c173]; rfl
                 rw [e1, ← Int.add_assoc]
                 exact ih q (k + 1) a (d + 0) (by omega) (by omega) (by omega) (by omega) (by omega))
          · refine r_iconst dX9_next_176 ?_
            refine r_goto (tgt := 181) dX9_next_177 rfl ?_
            refine r_iadd dX9_next_181 ?_
            refine r_istore_n dX9_next_182 rfl ?_
            refine r_aload_n dX9_next_183 rfl ?_
            refine r_dup dX9_next_184 rfl ?_
            refine r_getI dX9_next_185 fl_X9_22 rfl (by assumption) ?_
            (try simp only [wt1, wt2, wt3, wt4, wt5, wt6, wtx, mkT, mkF, mkK, mkE, mkP])
            refine r_iconst dX9_next_188 ?_
            refine r_iadd dX9_next_189 ?_
            refine r_putI dX9_next_190 fl_X9_22 (by assumption) ?_
            simp only [ws2, ws3, ws4, ws5, ws6, mkT, mkF, mkK, mkE, mkP]
            refine r_goto (tgt := 119) dX9_next_193 rfl ?_
            have al : isAl (T.1 k) = true := by
              unfold isAl
              first | (rw [c142]; rfl) | (rw [c157]; simp)
            rw [runE, dgE, if_pos al, if_pos al]
            have hb := b2i_01 (isDg (T.1 k))
            first
              | (have e1 : b2i (isDg (T.1 k)) = 1 := by rw [c173]; rfl
                 rw [e1, ← Int.add_assoc]
                 exact ih q (k + 1) a (d + 1) (by omega) (by omega) (by omega) (by omega) (by omega))
              | (have e1 : b2i (isDg (T.1 k)) = 0 := by rw [c173]; rfl
                 rw [e1, ← Int.add_assoc]
                 exact ih q (k + 1) a (d + 0) (by omega) (by omega) (by omega) (by omega) (by omega))
        · refine r_aload_n dX9_next_145 rfl ?_
          refine r_getR dX9_next_146 fl_X9_9 rfl (by assumption) (by assumption) ?_
          refine r_aload_n dX9_next_149 rfl ?_
          refine r_getI dX9_next_150 fl_X9_22 rfl (by assumption) ?_
          (try simp only [wt1, wt2, wt3, wt4, wt5, wt6, wtx, mkT, mkF, mkK, mkE, mkP])
          refine r_iald dX9_next_153 (by assumption) rfl (by omega) ?_
          simp only [wtx]
          rw [tk.1]
          refine r_cS1F1 dX9_next_154 ml_X9_42 yl_X9_isDigit ⟨rfl, rfl⟩ rfl rfl rfl rfl (x_isDigit (by omega)) ?_
          refine r_if_eqB (tgt := 196) dX9_next_157 rfl (fun c157 => ?_) (fun c157 => ?_)
          · refine r_aload_n dX9_next_196 rfl ?_
            refine r_aload_n dX9_next_197 rfl ?_
            refine r_getI dX9_next_198 fl_X9_22 rfl (by assumption) ?_
            (try simp only [wt1, wt2, wt3, wt4, wt5, wt6, wtx, mkT, mkF, mkK, mkE, mkP])
            refine r_aload_n dX9_next_201 rfl ?_
            refine r_getI dX9_next_202 fl_X9_19 rfl (by assumption) ?_
            (try simp only [wt1, wt2, wt3, wt4, wt5, wt6, wtx, mkT, mkF, mkK, mkE, mkP])
            refine r_isub dX9_next_205 ?_
            refine r_iload_n dX9_next_206 rfl ?_
            refine r_cS2F1 dX9_next_207 ml_X9_45 yl_X9_kindOf ⟨rfl, rfl⟩ rfl rfl rfl rfl (x_kindOf (by omega) (by omega)) ?_
            refine r_putI dX9_next_210 fl_X9_25 (by assumption) ?_
            simp only [ws2, ws3, ws4, ws5, ws6, mkT, mkF, mkK, mkE, mkP]
            refine r_return dX9_next_213 rfl rfl rfl ?_
            first
              | (obtain rfl : n = 0 := (by omega); refine ⟨rfl, rfl, ?_⟩; simp only [runE, dgE, Int.add_zero]; done)
              | (have al : ¬ isAl (T.1 k) = true := (by unfold isAl; rw [c142, c157]; decide); rw [runE, dgE, if_neg al, if_neg al, Int.add_zero]; exact ⟨rfl, rfl, rfl⟩)
          · refine r_iload_n dX9_next_160 rfl ?_
            refine r_aload_n dX9_next_161 rfl ?_
            refine r_getR dX9_next_162 fl_X9_9 rfl (by assumption) (by assumption) ?_
            refine r_aload_n dX9_next_165 rfl ?_
            refine r_getI dX9_next_166 fl_X9_22 rfl (by assumption) ?_
            (try simp only [wt1, wt2, wt3, wt4, wt5, wt6, wtx, mkT, mkF, mkK, mkE, mkP])
            refine r_iald dX9_next_169 (by assumption) rfl (by omega) ?_
            simp only [wtx]
            rw [tk.1]
            refine r_cS1F1 dX9_next_170 ml_X9_42 yl_X9_isDigit ⟨rfl, rfl⟩ rfl rfl rfl rfl (x_isDigit (by omega)) ?_
            refine r_if_eqB (tgt := 180) dX9_next_173 rfl (fun c173 => ?_) (fun c173 => ?_)
            · refine r_iconst dX9_next_180 ?_
              refine r_iadd dX9_next_181 ?_
              refine r_istore_n dX9_next_182 rfl ?_
              refine r_aload_n dX9_next_183 rfl ?_
              refine r_dup dX9_next_184 rfl ?_
              refine r_getI dX9_next_185 fl_X9_22 rfl (by assumption) ?_
              (try simp only [wt1, wt2, wt3, wt4, wt5, wt6, wtx, mkT, mkF, mkK, mkE, mkP])
              refine r_iconst dX9_next_188 ?_
              refine r_iadd dX9_next_189 ?_
              refine r_putI dX9_next_190 fl_X9_22 (by assumption) ?_
              simp only [ws2, ws3, ws4, ws5, ws6, mkT, mkF, mkK, mkE, mkP]
              refine r_goto (tgt := 119) dX9_next_193 rfl ?_
              have al : isAl (T.1 k) = true := by
                unfold isAl
                first | (rw [c142]; rfl) | (rw [c157]; simp)
              rw [runE, dgE, if_pos al, if_pos al]
              have hb := b2i_01 (isDg (T.1 k))
              first
                | (have e1 : b2i (isDg (T.1 k)) = 1 := by rw [c173]; rfl
                   rw [e1, ← Int.add_assoc]
                   exact ih q (k + 1) a (d + 1) (by omega) (by omega) (by omega) (by omega) (by omega))
                | (have e1 : b2i (isDg (T.1 k)) = 0 := by rw [c173]; rfl
                   rw [e1, ← Int.add_assoc]
                   exact ih q (k + 1) a (d + 0) (by omega) (by omega) (by omega) (by omega) (by omega))
            · refine r_iconst dX9_next_176 ?_
              refine r_goto (tgt := 181) dX9_next_177 rfl ?_
              refine r_iadd dX9_next_181 ?_
              refine r_istore_n dX9_next_182 rfl ?_
              refine r_aload_n dX9_next_183 rfl ?_
              refine r_dup dX9_next_184 rfl ?_
              refine r_getI dX9_next_185 fl_X9_22 rfl (by assumption) ?_
              (try simp only [wt1, wt2, wt3, wt4, wt5, wt6, wtx, mkT, mkF, mkK, mkE, mkP])
              refine r_iconst dX9_next_188 ?_
              refine r_iadd dX9_next_189 ?_
              refine r_putI dX9_next_190 fl_X9_22 (by assumption) ?_
              simp only [ws2, ws3, ws4, ws5, ws6, mkT, mkF, mkK, mkE, mkP]
              refine r_goto (tgt := 119) dX9_next_193 rfl ?_
              have al : isAl (T.1 k) = true := by
                unfold isAl
                first | (rw [c142]; rfl) | (rw [c157]; simp)
              rw [runE, dgE, if_pos al, if_pos al]
              have hb := b2i_01 (isDg (T.1 k))
              first
                | (have e1 : b2i (isDg (T.1 k)) = 1 := by rw [c173]; rfl
                   rw [e1, ← Int.add_assoc]
                   exact ih q (k + 1) a (d + 1) (by omega) (by omega) (by omega) (by omega) (by omega))
                | (have e1 : b2i (isDg (T.1 k)) = 0 := by rw [c173]; rfl
                   rw [e1, ← Int.add_assoc]
                   exact ih q (k + 1) a (d + 0) (by omega) (by omega) (by omega) (by omega) (by omega))
  have lA : ∀ (f n : Nat) (k : Int) (o1 : Option AV), n < f → 0 ≤ k → k + n = T.2 → AW gX9_next (SH n_) (wTok μ (sT σ, k, sK σ, 0, sP σ)) 0 0 16 [some (vR 2), o1] [] (fun r2 sh2 μ2 => r2 = none ∧ sh2 = (SH n_) ∧ μ2 = wTok μ (nx2 T (runE (isSp T.1) n k) (sP σ))) := by
    intro f
    induction f with
    | zero => intro n; intros; omega
    | succ f ih =>
      intro n k o1 hf hk hn2
      refine r_aload_n dX9_next_16 rfl ?_
      refine r_getI dX9_next_17 fl_X9_19 rfl (by assumption) ?_
      (try simp only [wt1, wt2, wt3, wt4, wt5, wt6, wtx, mkT, mkF, mkK, mkE, mkP])
      refine r_aload_n dX9_next_20 rfl ?_
      refine r_getI dX9_next_21 fl_X9_15 rfl (by assumption) ?_
      (try simp only [wt1, wt2, wt3, wt4, wt5, wt6, wtx, mkT, mkF, mkK, mkE, mkP])
      refine q_icmp_ge (tgt := 54) dX9_next_24 rfl (by omega) (by omega) (fun c24 => ?_) (fun c24 => ?_)
      · refine r_aload_n dX9_next_54 rfl ?_
        refine r_aload_n dX9_next_55 rfl ?_
        refine r_getI dX9_next_56 fl_X9_19 rfl (by assumption) ?_
        (try simp only [wt1, wt2, wt3, wt4, wt5, wt6, wtx, mkT, mkF, mkK, mkE, mkP])
        refine r_putI dX9_next_59 fl_X9_22 (by assumption) ?_
        simp only [ws2, ws3, ws4, ws5, ws6, mkT, mkF, mkK, mkE, mkP]
        refine r_aload_n dX9_next_62 rfl ?_
        refine r_getI dX9_next_63 fl_X9_19 rfl (by assumption) ?_
        (try simp only [wt1, wt2, wt3, wt4, wt5, wt6, wtx, mkT, mkF, mkK, mkE, mkP])
        refine r_aload_n dX9_next_66 rfl ?_
        refine r_getI dX9_next_67 fl_X9_15 rfl (by assumption) ?_
        (try simp only [wt1, wt2, wt3, wt4, wt5, wt6, wtx, mkT, mkF, mkK, mkE, mkP])
        refine q_icmp_lt (tgt := 79) dX9_next_70 rfl (by omega) (by omega) (fun c70 => ?_) (fun c70 => ?_)
        · exact absurd c70 (by omega)
        · refine r_aload_n dX9_next_73 rfl ?_
          refine r_iconst dX9_next_74 ?_
          refine r_putI dX9_next_75 fl_X9_25 (by assumption) ?_
          simp only [ws2, ws3, ws4, ws5, ws6, mkT, mkF, mkK, mkE, mkP]
          refine r_return dX9_next_78 rfl rfl rfl ?_
          obtain rfl : n = 0 := by omega
          refine ⟨rfl, rfl, ?_⟩
          unfold runE nx2
          rw [if_pos (by omega)]
      · have tk := t3 k (by omega) (by omega)
        obtain ⟨q, rfl⟩ : ∃ q, n = q + 1 := ⟨n - 1, by omega⟩
        refine r_aload_n dX9_next_27 rfl ?_
        refine r_getR dX9_next_28 fl_X9_9 rfl (by assumption) (by assumption) ?_
        refine r_aload_n dX9_next_31 rfl ?_
        refine r_getI dX9_next_32 fl_X9_19 rfl (by assumption) ?_
        (try simp only [wt1, wt2, wt3, wt4, wt5, wt6, wtx, mkT, mkF, mkK, mkE, mkP])
        refine r_iald dX9_next_35 (by assumption) rfl (by omega) ?_
        simp only [wtx]
        rw [tk.1]
        refine r_bipush dX9_next_36 (by decide) ?_
        refine q_icmp_ne (tgt := 54) dX9_next_38 rfl (by omega) (by omega) (fun c38 => ?_) (fun c38 => ?_)
        · refine r_aload_n dX9_next_54 rfl ?_
          refine r_aload_n dX9_next_55 rfl ?_
          refine r_getI dX9_next_56 fl_X9_19 rfl (by assumption) ?_
          (try simp only [wt1, wt2, wt3, wt4, wt5, wt6, wtx, mkT, mkF, mkK, mkE, mkP])
          refine r_putI dX9_next_59 fl_X9_22 (by assumption) ?_
          simp only [ws2, ws3, ws4, ws5, ws6, mkT, mkF, mkK, mkE, mkP]
          refine r_aload_n dX9_next_62 rfl ?_
          refine r_getI dX9_next_63 fl_X9_19 rfl (by assumption) ?_
          (try simp only [wt1, wt2, wt3, wt4, wt5, wt6, wtx, mkT, mkF, mkK, mkE, mkP])
          refine r_aload_n dX9_next_66 rfl ?_
          refine r_getI dX9_next_67 fl_X9_15 rfl (by assumption) ?_
          (try simp only [wt1, wt2, wt3, wt4, wt5, wt6, wtx, mkT, mkF, mkK, mkE, mkP])
          refine q_icmp_lt (tgt := 79) dX9_next_70 rfl (by omega) (by omega) (fun c70 => ?_) (fun c70 => ?_)
          · refine r_aload_n dX9_next_79 rfl ?_
            refine r_getR dX9_next_80 fl_X9_9 rfl (by assumption) (by assumption) ?_
            refine r_aload_n dX9_next_83 rfl ?_
            refine r_getI dX9_next_84 fl_X9_19 rfl (by assumption) ?_
            (try simp only [wt1, wt2, wt3, wt4, wt5, wt6, wtx, mkT, mkF, mkK, mkE, mkP])
            refine r_iald dX9_next_87 (by assumption) rfl (by omega) ?_
            simp only [wtx]
            rw [tk.1]
            refine r_bipush dX9_next_88 (by decide) ?_
            refine q_icmp_ne (tgt := 109) dX9_next_90 rfl (by omega) (by omega) (fun c90 => ?_) (fun c90 => ?_)
            · refine r_iconst dX9_next_109 ?_
              refine r_istore_n dX9_next_110 rfl ?_
              refine r_aload_n dX9_next_111 rfl ?_
              refine r_aload_n dX9_next_112 rfl ?_
              refine r_getI dX9_next_113 fl_X9_19 rfl (by assumption) ?_
              (try simp only [wt1, wt2, wt3, wt4, wt5, wt6, wtx, mkT, mkF, mkK, mkE, mkP])
              refine r_putI dX9_next_116 fl_X9_22 (by assumption) ?_
              simp only [ws2, ws3, ws4, ws5, ws6, mkT, mkF, mkK, mkE, mkP]
              have hl := lB _ (T.2 - k).toNat k k 0 (Nat.lt_succ_self _) (by omega) (by omega) (by omega) (by omega)
              refine AW.mono hl ?_
              rintro r sh2 μ2 ⟨rfl, rfl, rfl⟩
              refine ⟨rfl, rfl, ?_⟩
              rw [runE, if_neg (show ¬ isSp T.1 k = true from fun h => absurd (of_decide_eq_true h) c38)]
              unfold nx2
              rw [if_neg (by omega), if_neg (by assumption), Int.zero_add]
            · refine r_aload_n dX9_next_93 rfl ?_
              refine r_aload_n dX9_next_94 rfl ?_
              refine r_getI dX9_next_95 fl_X9_19 rfl (by assumption) ?_
              (try simp only [wt1, wt2, wt3, wt4, wt5, wt6, wtx, mkT, mkF, mkK, mkE, mkP])
              refine r_iconst dX9_next_98 ?_
              refine r_iadd dX9_next_99 ?_
              refine r_putI dX9_next_100 fl_X9_22 (by assumption) ?_
              simp only [ws2, ws3, ws4, ws5, ws6, mkT, mkF, mkK, mkE, mkP]
              refine r_aload_n dX9_next_103 rfl ?_
              refine r_iconst dX9_next_104 ?_
              refine r_putI dX9_next_105 fl_X9_25 (by assumption) ?_
              simp only [ws2, ws3, ws4, ws5, ws6, mkT, mkF, mkK, mkE, mkP]
              refine r_return dX9_next_108 rfl rfl rfl ?_
              refine ⟨rfl, rfl, ?_⟩
              rw [runE, if_neg (show ¬ isSp T.1 k = true from fun h => absurd (of_decide_eq_true h) c38)]
              unfold nx2
              rw [if_neg (by omega), if_pos (by assumption)]
          · exact absurd c70 (by omega)
        · refine r_aload_n dX9_next_41 rfl ?_
          refine r_dup dX9_next_42 rfl ?_
          refine r_getI dX9_next_43 fl_X9_19 rfl (by assumption) ?_
          (try simp only [wt1, wt2, wt3, wt4, wt5, wt6, wtx, mkT, mkF, mkK, mkE, mkP])
          refine r_iconst dX9_next_46 ?_
          refine r_iadd dX9_next_47 ?_
          refine r_putI dX9_next_48 fl_X9_19 (by assumption) ?_
          simp only [ws2, ws3, ws4, ws5, ws6, mkT, mkF, mkK, mkE, mkP]
          refine r_goto (tgt := 16) dX9_next_51 rfl ?_
          rw [runE, if_pos (show isSp T.1 k = true from decide_eq_true c38)]
          exact ih q (k + 1) o1 (by omega) (by omega) (by omega)
  have q := runE_spec (q := isSp T.1) (T.2 - sT σ).toNat (sT σ)
  refine AMet.of (by decide) rfl (by decide) rfl ?_
  refine r_aload_n dX9_next_0 rfl ?_
  refine r_getI dX9_next_1 fl_X9_28 rfl (by assumption) ?_
  (try simp only [wt1, wt2, wt3, wt4, wt5, wt6, wtx, mkT, mkF, mkK, mkE, mkP])
  refine q_if_eq (tgt := 8) dX9_next_4 rfl (by omega) (fun c4 => ?_) (fun c4 => ?_)
  · refine r_aload_n dX9_next_8 rfl ?_
    refine r_aload_n dX9_next_9 rfl ?_
    refine r_getI dX9_next_10 fl_X9_22 rfl (by assumption) ?_
    (try simp only [wt1, wt2, wt3, wt4, wt5, wt6, wtx, mkT, mkF, mkK, mkE, mkP])
    refine r_putI dX9_next_13 fl_X9_19 (by assumption) ?_
    simp only [ws2, ws3, ws4, ws5, ws6, mkT, mkF, mkK, mkE, mkP]
    have e0 : sE σ = 0 := by omega
    rw [e0]
    refine AW.mono (lA _ (T.2 - sT σ).toNat (sT σ) none (Nat.lt_succ_self _) (by omega) (by omega)) ?_
    rintro r sh2 μ2 ⟨rfl, rfl, rfl⟩
    refine ⟨rfl, rfl, ?_⟩
    unfold nxt
    rw [if_neg (by omega)]
  · refine r_return dX9_next_7 rfl rfl rfl ?_
    refine ⟨rfl, rfl, ?_⟩
    unfold nxt
    rw [if_pos (by omega)]

