/-! 06.rows2: taken from whole (wip/p37/port.py) -/
/-! 06.rows2: AW row by row: fields, arrays, new cells, calls -/
def setI (μ : Mem) (a : Nat) (i x : Int) : Mem := (fun b j => if b = a ∧ j = i then x else μ.1 b j, μ.2)
def setL (μ : Mem) (a : Nat) (i x : Int) : Mem := (μ.1, fun b j => if b = a ∧ j = i then x else μ.2.1 b j, μ.2.2)
def setR (μ : Mem) (a : Nat) (i : Int) (r : Option Nat) : Mem := (μ.1, μ.2.1, fun b j => if b = a ∧ j = i then r else μ.2.2 b j)
def born (μ : Mem) (a : Nat) : Mem := (fun b j => if b = a then 0 else μ.1 b j, fun b j => if b = a then 0 else μ.2.1 b j, fun b j => if b = a then none else μ.2.2 b j)
theorem cell_other {w : Wd} {μ μ' : Mem} {b : Nat} (h1 : ∀ j, μ'.1 b j = μ.1 b j) (h2 : ∀ j, μ'.2.1 b j = μ.2.1 b j) (h3 : ∀ j, μ'.2.2 b j = μ.2.2 b j) (k : Nat × Nat) : cellOf w μ' b k = cellOf w μ b k := by
  have e1 : μ'.1 b = μ.1 b := funext h1
  have e2 : μ'.2.1 b = μ.2.1 b := funext h2
  have e3 : μ'.2.2 b = μ.2.2 b := funext h3
  have e4 : fieldV w μ' b k.1 = fieldV w μ b k.1 := by funext j; simp only [fieldV, e1, e3]
  simp only [cellOf, e1, e2, e3, e4]
theorem cell_setI {w : Wd} {μ : Mem} {a b : Nat} {i x : Int} (h : b ≠ a) (k : Nat × Nat) : cellOf w (setI μ a i x) b k = cellOf w μ b k := cell_other (μ := μ) (μ' := setI μ a i x) (fun j => by simp [setI, h]) (fun _ => rfl) (fun _ => rfl) k
theorem cell_setL {w : Wd} {μ : Mem} {a b : Nat} {i x : Int} (h : b ≠ a) (k : Nat × Nat) : cellOf w (setL μ a i x) b k = cellOf w μ b k := cell_other (μ := μ) (μ' := setL μ a i x) (fun _ => rfl) (fun j => by simp [setL, h]) (fun _ => rfl) k
theorem cell_setR {w : Wd} {μ : Mem} {a b : Nat} {i : Int} {x : Option Nat} (h : b ≠ a) (k : Nat × Nat) : cellOf w (setR μ a i x) b k = cellOf w μ b k := cell_other (μ := μ) (μ' := setR μ a i x) (fun _ => rfl) (fun _ => rfl) (fun j => by simp [setR, h]) k
theorem cell_born {w : Wd} {μ : Mem} {a b : Nat} (h : b ≠ a) (k : Nat × Nat) : cellOf w (born μ a) b k = cellOf w μ b k := cell_other (μ := μ) (μ' := born μ a) (fun j => by simp [born, h]) (fun j => by simp [born, h]) (fun j => by simp [born, h]) k
/-- a class's field by a link of the pool -/
def FL (own : String) (idx ci k : Nat) (kI : Int) (N : Nat) (ty : FieldType) (fin : Bool) : Prop := ∃ (C : String) (T : u_T), vwCl[ci]? = some (C, T, N) ∧ k < N ∧ Cond.fieldLink own idx C (T k).2.1 (T k).2.2.1 ∈ GW ∧ (T k).1 = C ∧ (∀ w ∈ u_ws C T N, w ∈ GW) ∧
  tyOf ci k = ty ∧ (k : Int) = kI ∧ (∀ j, j < N → parseFieldDescriptor (T j).2.2.1 = some (tyOf ci j)) ∧ (∀ a, a < N → ∀ b, b < N → a ≠ b → (T a).2.1 ≠ (T b).2.1) ∧ (T k).2.2.2 = fin ∧ ci < 12
theorem cell_obj {w : Wd} {μ : Mem} {a ci N : Nat} (h : ci < 12) : cellOf w μ a (ci, N) = .inr (ci, (List.range N).map (fieldV w μ a ci)) := by simp [cellOf, h]
theorem fields_set {w : Wd} {μ μ' : Mem} {a ci N k : Nat} {v : Value} (hv : fieldV w μ' a ci k = v) (ho : ∀ j, j ≠ k → fieldV w μ' a ci j = fieldV w μ a ci j) : ((List.range N).map (fieldV w μ a ci)).set k v = (List.range N).map (fieldV w μ' a ci) := by
  apply List.ext_getElem?
  intro i
  by_cases hi : i = k
  · subst hi
    by_cases hN : i < N
    · rw [List.getElem?_set_self (by simpa using hN)]
      simp [hN, hv]
    · rw [List.getElem?_eq_none (by simp; omega), List.getElem?_eq_none (by simp; omega)]
  · rw [List.getElem?_set_ne (Ne.symm hi)]
    simp only [List.getElem?_map]
    cases hr : (List.range N)[i]? with
    | none => rfl
    | some j =>
      have hj : j = i := by
        have := List.getElem?_eq_some_iff.mp hr
        obtain ⟨h1, h2⟩ := this
        simpa using h2.symm
      subst hj
      simp [ho j hi]
section ROWS2
variable {g : Gm} {sh : Sh} {μ : Mem} {cs ss pc : Nat} {ls : Ls} {st : List AV} {P : Option AV → Sh → Mem → Prop}
theorem r_getI {idx ci k N a : Nat} {kI : Int} {ty : FieldType} {fin : Bool} (hd : decode (gC g) pc = .ok (.getfield idx, 3)) (hf : FL (gO g) idx ci k kI N ty fin) (hy : ty.isReference = false) (ha : sh[a]? = some (ci, N))
    (kk : AW g sh μ cs ss (pc + 3) ls (vI (μ.1 a kI) :: st) P) : AW g sh μ cs ss pc ls (vR a :: st) P := by
  intro w p l e s m args below meth c H locs la cx hP hz hS hl
  have kk := kk w p l e s m args below meth c H locs la cx hP hz hS hl
  obtain ⟨C, T, hc, hk, hw, hC, hin, hty, hki, -, -, -, h12⟩ := hf
  obtain ⟨hx, hb, -, -, -, hts, hown, -, hK, -⟩ := cx
  have he := ws_get (w := w) (μ := μ) ha
  rw [cell_obj h12] at he
  refine va_get (D := wG w) (v := .int (Int32.ofInt (μ.1 a kI))) hx hb hts hin hown hK hP a he hc k hk (hts _ hw) (fun x h => by rw [hC] at h; exact h) ?_ hd kk
  simp [hk, fieldV, hty, hy, hki]
theorem r_getRo {idx ci k N a : Nat} {kI : Int} {ty : FieldType} {fin : Bool} (hd : decode (gC g) pc = .ok (.getfield idx, 3)) (hf : FL (gO g) idx ci k kI N ty fin) (hy : ty.isReference = true) (ha : sh[a]? = some (ci, N))
    (kk : AW g sh μ cs ss (pc + 3) ls (.inr (.inr (.inl (μ.2.2 a kI))) :: st) P) : AW g sh μ cs ss pc ls (vR a :: st) P := by
  intro w p l e s m args below meth c H locs la cx hP hz hS hl
  have kk := kk w p l e s m args below meth c H locs la cx hP hz hS hl
  obtain ⟨C, T, hc, hk, hw, hC, hin, hty, hki, -, -, -, h12⟩ := hf
  obtain ⟨hx, hb, -, -, -, hts, hown, -, hK, -⟩ := cx
  have he := ws_get (w := w) (μ := μ) ha
  rw [cell_obj h12] at he
  refine va_get (D := wG w) (v := rv w (μ.2.2 a kI)) hx hb hts hin hown hK hP a he hc k hk (hts _ hw) (fun x h => by rw [hC] at h; exact h) ?_ hd kk
  simp [hk, fieldV, hty, hy, hki]
theorem r_getR {idx ci k N a r : Nat} {kI : Int} {ty : FieldType} {fin : Bool} (hd : decode (gC g) pc = .ok (.getfield idx, 3)) (hf : FL (gO g) idx ci k kI N ty fin) (hy : ty.isReference = true) (ha : sh[a]? = some (ci, N)) (hr : μ.2.2 a kI = some r)
    (kk : AW g sh μ cs ss (pc + 3) ls (vR r :: st) P) : AW g sh μ cs ss pc ls (vR a :: st) P := r_getRo hd hf hy ha (by rw [hr]; exact kk)
theorem put_core {idx ci k N a : Nat} {kI : Int} {ty : FieldType} {μ' : Mem} {v : AV} (hd : decode (gC g) pc = .ok (.putfield idx, 3)) (hf : FL (gO g) idx ci k kI N ty false) (ha : sh[a]? = some (ci, N))
    (hv : ∀ w, narrow ty (cv w v) = cv w v ∧ fits ty (cv w v) = true) (h1 : ∀ w, fieldV w μ' a ci k = cv w v) (h2 : ∀ w j, j ≠ k → fieldV w μ' a ci j = fieldV w μ a ci j) (h3 : ∀ w b, b ≠ a → ∀ q, cellOf w μ' b q = cellOf w μ b q)
    (kk : AW g sh μ' cs ss (pc + 3) ls st P) : AW g sh μ cs ss pc ls (v :: vR a :: st) P := by
  intro w p l e s m args below meth c H locs la cx hP hz hS hl
  have kk := fun H locs => kk w p l e s m args below meth c H locs la cx
  obtain ⟨C, T, hc, hk, hw, hC, hin, hty, hki, hpd, hnm, hfin, h12⟩ := hf
  obtain ⟨hx, hb, -, -, -, hts, hown, -, hK, -⟩ := cx
  have he := ws_get (w := w) (μ := μ) ha
  rw [cell_obj h12] at he
  refine va_put (D := wG w) (ci := ci) (v := cv w v) (ty := ty) hx hb hts hin (tyOf ci) hpd hnm hown hK hP (ws_apart w sh μ) hS a he hc k hk (hts _ hw) (fun x h => by rw [hC] at h; exact h) hfin (by rw [hpd k hk, hty]) (hv w).1 (hv w).2 (by simpa using hk) hd (fun H1 locs1 hP1 _ hS1 => ?_)
  rw [fields_set (h1 w) (h2 w), ws_set (μ' := μ') ha (cell_obj h12) (h3 w)] at hP1
  exact kk H1 locs1 hP1 hz hS1 hl
/-- narrow and fits of what a class's own field may hold -/
theorem nf_int (w : Wd) (x : Int) : narrow .int (cv w (vI x)) = cv w (vI x) ∧ fits .int (cv w (vI x)) = true := ⟨rfl, rfl⟩
theorem nf_bool (w : Wd) {x : Int} (h : x = 0 ∨ x = 1) : narrow .boolean (cv w (vI x)) = cv w (vI x) ∧ fits .boolean (cv w (vI x)) = true := by rcases h with rfl | rfl <;> exact ⟨rfl, rfl⟩
theorem nf_ref (w : Wd) {ty : FieldType} (h : ty.isReference = true) (r : Option Nat) : narrow ty (cv w (.inr (.inr (.inl r)))) = cv w (.inr (.inr (.inl r))) ∧ fits ty (cv w (.inr (.inr (.inl r)))) = true := by
  cases r <;> cases ty <;> first | exact ⟨rfl, rfl⟩ | (exact absurd h (by decide))
theorem r_putI {idx ci k N a : Nat} {kI x : Int} (hd : decode (gC g) pc = .ok (.putfield idx, 3)) (hf : FL (gO g) idx ci k kI N .int false) (ha : sh[a]? = some (ci, N))
    (kk : AW g sh (setI μ a kI x) cs ss (pc + 3) ls st P) : AW g sh μ cs ss pc ls (vI x :: vR a :: st) P := by
  have hty : tyOf ci k = .int := by obtain ⟨_, _, _, _, _, _, _, h, _⟩ := hf; exact h
  have hki : (k : Int) = kI := by obtain ⟨_, _, _, _, _, _, _, _, h, _⟩ := hf; exact h
  refine put_core hd hf ha (fun w => nf_int w x) (fun w => ?_) (fun w j hj => ?_) (fun w b hb => cell_setI hb) kk
  · simp [fieldV, hty, FieldType.isReference, setI, hki, cv]
  · have : ¬ (j : Int) = kI := by omega
    simp [fieldV, setI, this]
theorem r_putZ {idx ci k N a : Nat} {kI x : Int} (hd : decode (gC g) pc = .ok (.putfield idx, 3)) (hf : FL (gO g) idx ci k kI N .boolean false) (ha : sh[a]? = some (ci, N)) (hx : x = 0 ∨ x = 1)
    (kk : AW g sh (setI μ a kI x) cs ss (pc + 3) ls st P) : AW g sh μ cs ss pc ls (vI x :: vR a :: st) P := by
  have hty : tyOf ci k = .boolean := by obtain ⟨_, _, _, _, _, _, _, h, _⟩ := hf; exact h
  have hki : (k : Int) = kI := by obtain ⟨_, _, _, _, _, _, _, _, h, _⟩ := hf; exact h
  refine put_core hd hf ha (fun w => nf_bool w hx) (fun w => ?_) (fun w j hj => ?_) (fun w b hb => cell_setI hb) kk
  · simp [fieldV, hty, FieldType.isReference, setI, hki, cv]
  · have : ¬ (j : Int) = kI := by omega
    simp [fieldV, setI, this]
theorem r_putR {idx ci k N a : Nat} {kI : Int} {r : Option Nat} {ty : FieldType} (hd : decode (gC g) pc = .ok (.putfield idx, 3)) (hf : FL (gO g) idx ci k kI N ty false) (hy : ty.isReference = true) (ha : sh[a]? = some (ci, N))
    (kk : AW g sh (setR μ a kI r) cs ss (pc + 3) ls st P) : AW g sh μ cs ss pc ls (.inr (.inr (.inl r)) :: vR a :: st) P := by
  have hty : tyOf ci k = ty := by obtain ⟨_, _, _, _, _, _, _, h, _⟩ := hf; exact h
  have hki : (k : Int) = kI := by obtain ⟨_, _, _, _, _, _, _, _, h, _⟩ := hf; exact h
  refine put_core hd hf ha (fun w => nf_ref w hy r) (fun w => ?_) (fun w j hj => ?_) (fun w b hb => cell_setR hb) kk
  · simp [fieldV, hty, hy, setR, hki, cv]
  · have : ¬ (j : Int) = kI := by omega
    simp [fieldV, setR, this]
/-- a final reference field, in its constructor -/
theorem r_putF {idx ci k N a : Nat} {kI : Int} {r : Option Nat} {ty : FieldType} (hd : decode (gC g) pc = .ok (.putfield idx, 3)) (hf : FL (gO g) idx ci k kI N ty true) (hy : ty.isReference = true) (ha : sh[a]? = some (ci, N)) (hini : gI g = true) (hcl : ∃ T, vwCl[ci]? = some (gO g, T, N))
    (kk : AW g sh (setR μ a kI r) cs ss (pc + 3) ls st P) : AW g sh μ cs ss pc ls (.inr (.inr (.inl r)) :: vR a :: st) P := by
  intro w p l e s m args below meth c H locs la cx hP hz hS hl
  have kk := fun H locs => kk w p l e s m args below meth c H locs la cx
  obtain ⟨C, T, hc, hk, hw, hC, hin, hty, hki, hpd, hnm, hfin, h12⟩ := hf
  have hOC : gO g = C := by
    obtain ⟨T', hT'⟩ := hcl
    have := hT'.symm.trans hc
    simp only [Option.some.injEq, Prod.mk.injEq] at this
    exact this.1
  obtain ⟨hx, hb, -, -, -, hts, hown, hi0, hK, -⟩ := cx
  have he := ws_get (w := w) (μ := μ) ha
  rw [cell_obj h12] at he
  refine va_putF (D := wG w) (ci := ci) (v := cv w (.inr (.inr (.inl r)))) (ty := ty) hx hb hts hin (tyOf ci) hpd hnm hown hK hP (ws_apart w sh μ) hS a he hc k hk (hts _ hw) (fun x h => by rw [hC] at h; exact h) hfin (hi0 hini) (by rw [hC, hOC]) (by rw [hpd k hk, hty]) (nf_ref w hy r).1 (nf_ref w hy r).2 (by simpa using hk) hd (fun H1 locs1 hP1 _ hS1 => ?_)
  have e1 : fieldV w (setR μ a kI r) a ci k = cv w (.inr (.inr (.inl r))) := by simp [fieldV, hty, hy, setR, hki, cv]
  have e2 : ∀ j : Nat, j ≠ k → fieldV w (setR μ a kI r) a ci j = fieldV w μ a ci j := by
    intro j hj
    have hne : ¬ (j : Int) = kI := by omega
    simp [fieldV, setR, hne]
  rw [fields_set (μ' := setR μ a kI r) e1 e2, ws_set (μ' := setR μ a kI r) ha (cell_obj h12) (fun b hb => cell_setR hb)] at hP1
  exact kk H1 locs1 hP1 hz hS1 hl
end ROWS2

