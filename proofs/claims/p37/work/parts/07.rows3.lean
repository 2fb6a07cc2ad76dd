/-! 07.rows3: taken from whole (wip/p37/port.py) -/
variable {n_ : Sh}
/-! 07.rows3: AW row by row: arrays, new cells, calls -/
theorem ixIn {i : Int} {n : Nat} (hi : 0 ≤ i ∧ i < (n : Int)) (hn : Nat.ble n 2147483647 = true) : vp_in (Int32.ofInt i) n := by
  have := Nat.le_of_ble_eq_true hn
  rw [vp_in_iff, toI (by omega)]
  exact hi
theorem ixN {i : Int} {n : Nat} (hi : 0 ≤ i ∧ i < (n : Int)) (hn : Nat.ble n 2147483647 = true) : (Int32.ofInt i).toNatClampNeg = i.toNat := by
  have := Nat.le_of_ble_eq_true hn
  show (Int32.ofInt i).toInt.toNat = i.toNat
  rw [toI (by omega)]
theorem ixZ {i : Int} {n : Nat} (hi : 0 ≤ i ∧ i < (n : Int)) (hn : Nat.ble n 2147483647 = true) : (((Int32.ofInt i).toNatClampNeg : Nat) : Int) = i := by
  rw [ixN hi hn, Int.toNat_of_nonneg hi.1]
theorem ixJ {i : Int} {n : Nat} (hi : 0 ≤ i ∧ i < (n : Int)) (hn : Nat.ble n 2147483647 = true) (j : Nat) : (j = (Int32.ofInt i).toNatClampNeg) ↔ (j : Int) = i := by
  rw [ixN hi hn]; omega
theorem cell_20 (w : Wd) (μ : Mem) (a n : Nat) : cellOf w μ a (20, n) = .inl (wA w 0, n, .inl fun j => Int32.ofInt (μ.1 a j)) := by simp [cellOf]
theorem cell_21 (w : Wd) (μ : Mem) (a n : Nat) : cellOf w μ a (21, n) = .inl (wA w 1, n, .inr (.inl fun j => Int64.ofInt (μ.2.1 a j))) := by simp [cellOf]
theorem cell_22 (w : Wd) (μ : Mem) (a n : Nat) : cellOf w μ a (22, n) = .inl (wA w 2, n, .inl fun j => Int32.ofInt (μ.1 a j)) := by simp [cellOf]
theorem cell_23 (w : Wd) (μ : Mem) (a n : Nat) : cellOf w μ a (23, n) = .inl (wA w 3, n, .inl fun j => Int32.ofInt (nz (μ.1 a j))) := by simp [cellOf]
theorem cell_24 (w : Wd) (μ : Mem) (a n : Nat) : cellOf w μ a (24, n) = .inl (wA w 4, n, .inr (.inr (.inr (.inr fun j => (μ.2.2 a j).map (wB w + ·))))) := by simp [cellOf]
theorem nar8 {x : Int} (hx : -128 ≤ x ∧ x < 128) : (Int32.ofInt x).toInt8.toInt32 = Int32.ofInt x := by
  apply Int32.toInt_inj.mp
  rw [Int8.toInt_toInt32, Int32.toInt_toInt8, toI (by omega)]
  exact Int.bmod_eq_of_le (by omega) (by omega)
section ROWS3
variable {g : Gm} {sh : Sh} {μ : Mem} {cs ss pc : Nat} {ls : Ls} {st : List AV} {P : Option AV → Sh → Mem → Prop}
theorem r_iald {a n : Nat} {i : Int} (hd : decode (gC g) pc = .ok (.iaload, 1)) (ha : sh[a]? = some (20, n)) (hn : Nat.ble n 2147483647 = true) (hi : 0 ≤ i ∧ i < (n : Int))
    (kk : AW g sh μ cs ss (pc + 1) ls (vI (μ.1 a i) :: st) P) : AW g sh μ cs ss pc ls (vI i :: vR a :: st) P := by
  intro w p l e s m args below meth c H locs la cx hP hz hS hl
  have kk := kk w p l e s m args below meth c H locs la cx hP hz hS hl
  obtain ⟨hx, hb, -, -, -, hts, hown, -, hK, -⟩ := cx
  have he := ws_get (w := w) (μ := μ) ha
  rw [cell_20] at he
  refine va_iald (D := wG w) hx hb hK hP a 0 he rfl (ixIn hi hn) hd ?_
  simp only [ixZ hi hn]
  exact kk
theorem r_bald {a n : Nat} {i : Int} (hd : decode (gC g) pc = .ok (.baload, 1)) (ha : sh[a]? = some (22, n)) (hn : Nat.ble n 2147483647 = true) (hi : 0 ≤ i ∧ i < (n : Int))
    (kk : AW g sh μ cs ss (pc + 1) ls (vI (μ.1 a i) :: st) P) : AW g sh μ cs ss pc ls (vI i :: vR a :: st) P := by
  intro w p l e s m args below meth c H locs la cx hP hz hS hl
  have kk := kk w p l e s m args below meth c H locs la cx hP hz hS hl
  obtain ⟨hx, hb, -, -, -, hts, hown, -, hK, -⟩ := cx
  have he := ws_get (w := w) (μ := μ) ha
  rw [cell_22] at he
  refine va_bald (D := wG w) hx hb hK hP a 2 he rfl (ixIn hi hn) hd ?_
  simp only [ixZ hi hn]
  exact kk
theorem r_zald {a n : Nat} {i : Int} (hd : decode (gC g) pc = .ok (.baload, 1)) (ha : sh[a]? = some (23, n)) (hn : Nat.ble n 2147483647 = true) (hi : 0 ≤ i ∧ i < (n : Int))
    (kk : AW g sh μ cs ss (pc + 1) ls (vI (nz (μ.1 a i)) :: st) P) : AW g sh μ cs ss pc ls (vI i :: vR a :: st) P := by
  intro w p l e s m args below meth c H locs la cx hP hz hS hl
  have kk := kk w p l e s m args below meth c H locs la cx hP hz hS hl
  obtain ⟨hx, hb, -, -, -, hts, hown, -, hK, -⟩ := cx
  have he := ws_get (w := w) (μ := μ) ha
  rw [cell_23] at he
  refine va_zald (D := wG w) hx hb hK hP a 3 he rfl (ixIn hi hn) hd ?_
  simp only [ixZ hi hn]
  exact kk
theorem r_lald {a n : Nat} {i : Int} (hd : decode (gC g) pc = .ok (.laload, 1)) (ha : sh[a]? = some (21, n)) (hn : Nat.ble n 2147483647 = true) (hi : 0 ≤ i ∧ i < (n : Int))
    (kk : AW g sh μ cs ss (pc + 1) ls (vL (μ.2.1 a i) :: st) P) : AW g sh μ cs ss pc ls (vI i :: vR a :: st) P := by
  intro w p l e s m args below meth c H locs la cx hP hz hS hl
  have kk := kk w p l e s m args below meth c H locs la cx hP hz hS hl
  obtain ⟨hx, hb, -, -, -, hts, hown, -, hK, -⟩ := cx
  have he := ws_get (w := w) (μ := μ) ha
  rw [cell_21] at he
  refine va_lald (D := wG w) hx hb hK hP a 1 he rfl (ixIn hi hn) hd ?_
  simp only [ixZ hi hn]
  exact kk
theorem r_aaldo {a n : Nat} {i : Int} (hd : decode (gC g) pc = .ok (.aaload, 1)) (ha : sh[a]? = some (24, n)) (hn : Nat.ble n 2147483647 = true) (hi : 0 ≤ i ∧ i < (n : Int))
    (kk : AW g sh μ cs ss (pc + 1) ls (.inr (.inr (.inl (μ.2.2 a i))) :: st) P) : AW g sh μ cs ss pc ls (vI i :: vR a :: st) P := by
  intro w p l e s m args below meth c H locs la cx hP hz hS hl
  have kk := kk w p l e s m args below meth c H locs la cx hP hz hS hl
  obtain ⟨hx, hb, -, -, -, hts, hown, -, hK, -⟩ := cx
  have he := ws_get (w := w) (μ := μ) ha
  rw [cell_24] at he
  refine va_aldq (D := wG w) hx hb hK hP a 4 he rfl (ixIn hi hn) hd ?_
  simp only [ixZ hi hn]
  have e : va_rf ((μ.2.2 a i).map (wB w + ·)) = cv w (.inr (.inr (.inl (μ.2.2 a i)))) := by cases μ.2.2 a i <;> rfl
  rw [e]
  exact kk
theorem r_aald {a n r : Nat} {i : Int} (hd : decode (gC g) pc = .ok (.aaload, 1)) (ha : sh[a]? = some (24, n)) (hn : Nat.ble n 2147483647 = true) (hi : 0 ≤ i ∧ i < (n : Int)) (hr : μ.2.2 a i = some r)
    (kk : AW g sh μ cs ss (pc + 1) ls (vR r :: st) P) : AW g sh μ cs ss pc ls (vI i :: vR a :: st) P := r_aaldo hd ha hn hi (by rw [hr]; exact kk)
theorem r_iast {a n : Nat} {i x : Int} (hd : decode (gC g) pc = .ok (.iastore, 1)) (ha : sh[a]? = some (20, n)) (hn : Nat.ble n 2147483647 = true) (hi : 0 ≤ i ∧ i < (n : Int))
    (kk : AW g sh (setI μ a i x) cs ss (pc + 1) ls st P) : AW g sh μ cs ss pc ls (vI x :: vI i :: vR a :: st) P := by
  intro w p l e s m args below meth c H locs la cx hP hz hS hl
  have kk := fun H locs => kk w p l e s m args below meth c H locs la cx
  obtain ⟨hx, hb, -, -, -, hts, hown, -, hK, -⟩ := cx
  have he := ws_get (w := w) (μ := μ) ha
  rw [cell_20] at he
  refine va_iast (D := wG w) hx hb hK hP (ws_apart w sh μ) hS a 0 he rfl (ixIn hi hn) hd (fun H1 locs1 hP1 _ hS1 => ?_)
  rw [ws_set (μ' := setI μ a i x) ha (by rw [cell_20]; congr 4; funext j; simp only [upd, setI, ixJ hi hn]; by_cases hj : (j : Int) = i <;> simp [hj]) (fun b hb => cell_setI hb)] at hP1
  exact kk H1 locs1 hP1 hz hS1 hl
theorem r_bast {a n : Nat} {i x : Int} (hd : decode (gC g) pc = .ok (.bastore, 1)) (ha : sh[a]? = some (22, n)) (hn : Nat.ble n 2147483647 = true) (hi : 0 ≤ i ∧ i < (n : Int)) (h8 : -128 ≤ x ∧ x < 128)
    (kk : AW g sh (setI μ a i x) cs ss (pc + 1) ls st P) : AW g sh μ cs ss pc ls (vI x :: vI i :: vR a :: st) P := by
  intro w p l e s m args below meth c H locs la cx hP hz hS hl
  have kk := fun H locs => kk w p l e s m args below meth c H locs la cx
  obtain ⟨hx, hb, -, -, -, hts, hown, -, hK, -⟩ := cx
  have he := ws_get (w := w) (μ := μ) ha
  rw [cell_22] at he
  refine va_bast (D := wG w) hx hb hK hP (ws_apart w sh μ) hS a 2 he rfl (ixIn hi hn) hd (fun H1 locs1 hP1 _ hS1 => ?_)
  rw [ws_set (μ' := setI μ a i x) ha (by rw [cell_22, vp_nar_byte, nar8 h8]; congr 4; funext j; simp only [upd, setI, ixJ hi hn]; by_cases hj : (j : Int) = i <;> simp [hj]) (fun b hb => cell_setI hb)] at hP1
  exact kk H1 locs1 hP1 hz hS1 hl
theorem r_zast {a n : Nat} {i x : Int} (hd : decode (gC g) pc = .ok (.bastore, 1)) (ha : sh[a]? = some (23, n)) (hn : Nat.ble n 2147483647 = true) (hi : 0 ≤ i ∧ i < (n : Int)) (h01 : x = 0 ∨ x = 1)
    (kk : AW g sh (setI μ a i x) cs ss (pc + 1) ls st P) : AW g sh μ cs ss pc ls (vI x :: vI i :: vR a :: st) P := by
  intro w p l e s m args below meth c H locs la cx hP hz hS hl
  have kk := fun H locs => kk w p l e s m args below meth c H locs la cx
  obtain ⟨hx, hb, -, -, -, hts, hown, -, hK, -⟩ := cx
  have he := ws_get (w := w) (μ := μ) ha
  rw [cell_23] at he
  have hnar : vp_nar .boolean (Int32.ofInt x) = Int32.ofInt (nz x) := by rcases h01 with rfl | rfl <;> rfl
  refine va_zast (D := wG w) hx hb hK hP (ws_apart w sh μ) hS a 3 he rfl (ixIn hi hn) hd (fun H1 locs1 hP1 _ hS1 => ?_)
  rw [ws_set (μ' := setI μ a i x) ha (by rw [cell_23, hnar]; congr 4; funext j; simp only [upd, setI, ixJ hi hn]; by_cases hj : (j : Int) = i <;> simp [hj]) (fun b hb => cell_setI hb)] at hP1
  exact kk H1 locs1 hP1 hz hS1 hl
theorem r_last {a n : Nat} {i x : Int} (hd : decode (gC g) pc = .ok (.lastore, 1)) (ha : sh[a]? = some (21, n)) (hn : Nat.ble n 2147483647 = true) (hi : 0 ≤ i ∧ i < (n : Int))
    (kk : AW g sh (setL μ a i x) cs ss (pc + 1) ls st P) : AW g sh μ cs ss pc ls (vL x :: vI i :: vR a :: st) P := by
  intro w p l e s m args below meth c H locs la cx hP hz hS hl
  have kk := fun H locs => kk w p l e s m args below meth c H locs la cx
  obtain ⟨hx, hb, -, -, -, hts, hown, -, hK, -⟩ := cx
  have he := ws_get (w := w) (μ := μ) ha
  rw [cell_21] at he
  refine va_last (D := wG w) hx hb hK hP (ws_apart w sh μ) hS a 1 he rfl (ixIn hi hn) hd (fun H1 locs1 hP1 _ hS1 => ?_)
  rw [ws_set (μ' := setL μ a i x) ha (by rw [cell_21]; congr 5; funext j; simp only [vp_updL, setL, ixJ hi hn]; by_cases hj : (j : Int) = i <;> simp [hj]) (fun b hb => cell_setL hb)] at hP1
  exact kk H1 locs1 hP1 hz hS1 hl
theorem r_aast {a n v : Nat} {i : Int} (hd : decode (gC g) pc = .ok (.aastore, 1)) (ha : sh[a]? = some (24, n)) (hn : Nat.ble n 2147483647 = true) (hi : 0 ≤ i ∧ i < (n : Int)) (hv : sh[v]? = some (0, 7))
    (kk : AW g sh (setR μ a i (some v)) cs ss (pc + 1) ls st P) : AW g sh μ cs ss pc ls (vR v :: vI i :: vR a :: st) P := by
  intro w p l e s m args below meth c H locs la cx hP hz hS hl
  have kk := fun H locs => kk w p l e s m args below meth c H locs la cx
  obtain ⟨hx, hb, -, -, -, hts, hown, -, hK, -⟩ := cx
  have he := ws_get (w := w) (μ := μ) ha
  rw [cell_24] at he
  have hev := ws_get (w := w) (μ := μ) hv
  rw [cell_obj (by decide)] at hev
  refine va_astq (D := wG w) (r := (RX0, TX0, 7)) hx hb hK hP (ws_apart w sh μ) hS a 4 v 0 he rfl hev rfl (ixIn hi hn) hd (fun H1 locs1 hP1 _ hS1 => ?_)
  rw [ws_set (μ' := setR μ a i (some v)) ha (by rw [cell_24]; congr 7; funext j; simp only [va_up, setR, ixJ hi hn]; by_cases hj : (j : Int) = i <;> simp [hj]) (fun b hb => cell_setR hb)] at hP1
  exact kk H1 locs1 hP1 hz hS1 hl
theorem r_alen {a n kd : Nat} (hd : decode (gC g) pc = .ok (.arraylength, 1)) (ha : sh[a]? = some (kd, n)) (hkd : kd = 20 ∨ kd = 22)
    (kk : AW g sh μ cs ss (pc + 1) ls (vI n :: st) P) : AW g sh μ cs ss pc ls (vR a :: st) P := by
  intro w p l e s m args below meth c H locs la cx hP hz hS hl
  have kk := kk w p l e s m args below meth c H locs la cx hP hz hS hl
  obtain ⟨hx, hb, -, -, -, hts, hown, -, hK, -⟩ := cx
  have he := ws_get (w := w) (μ := μ) ha
  rcases hkd with rfl | rfl
  · rw [cell_20] at he
    exact va_alen (D := wG w) hx hb hK hP a 0 he rfl (by show Int32.ofNat n = Int32.ofInt n; rw [Int32.ofInt_eq_ofNat]) hd kk
  · rw [cell_22] at he
    exact va_alen (D := wG w) hx hb hK hP a 2 he rfl (by show Int32.ofNat n = Int32.ofInt n; rw [Int32.ofInt_eq_ofNat]) hd kk
/-! copies of whole arrays -/
def cpI (μ : Mem) (a b : Nat) (n : Int) : Mem := (fun q j => if q = a ∧ 0 ≤ j ∧ j < n then μ.1 b j else μ.1 q j, μ.2)
def cpL (μ : Mem) (a b : Nat) (n : Int) : Mem := (μ.1, fun q j => if q = a ∧ 0 ≤ j ∧ j < n then μ.2.1 b j else μ.2.1 q j, μ.2.2)
def catSum : List AV → Nat
  | [] => 0
  | v :: t => (if cat2 v then 2 else 1) + catSum t
theorem catSum_eq (w : Wd) : ∀ st : List AV, ((st.map (cv w)).map fun v => v.category).sum = catSum st
  | [] => rfl
  | v :: t => by rw [List.map_cons, List.map_cons, List.sum_cons, catSum_eq w t, cv_cat]; rfl
def CopyL (own : String) (idx : Nat) : Prop := Cond.methodLink own idx arraycopyName ∈ GW ∧ Cond.native arraycopyName ∈ GW ∧ Cond.static arraycopyName ∈ GW ∧ Cond.initialized "java/lang/System" ∈ GW
theorem r_copyI {idx a b n na nb : Nat} {nI : Int} (hd : decode (gC g) pc = .ok (.invokestatic idx, 3)) (hk : CopyL (gO g) idx) (ha : sh[a]? = some (20, na)) (hb0 : sh[b]? = some (20, nb)) (hnI : (n : Int) = nI) (h1 : Nat.ble n na = true) (h2 : Nat.ble n nb = true) (h3 : Nat.ble n 2147483647 = true)
    (hr : Nat.ble 1 (gD g) = true) (hcs : Nat.ble (catSum st) 8 = true)
    (kk : AW g sh (cpI μ a b nI) cs ss (pc + 3) ls st P) : AW g sh μ cs ss pc ls (vI nI :: vI 0 :: vR a :: vI 0 :: vR b :: st) P := by
  subst hnI
  intro w p l e s m args below meth c H locs la cx hP hz hS hl
  have kk := fun H locs => kk w p l e s m args below meth c H locs la cx
  obtain ⟨hx, hb, -, hml, -, hts, hown, -, hK, -⟩ := cx
  have hea := ws_get (w := w) (μ := μ) ha
  have heb := ws_get (w := w) (μ := μ) hb0
  rw [cell_20] at hea heb
  have hr := Nat.le_of_ble_eq_true hr
  have hcs := Nat.le_of_ble_eq_true hcs
  have h1 := Nat.le_of_ble_eq_true h1
  have h2 := Nat.le_of_ble_eq_true h2
  have h3' := Nat.le_of_ble_eq_true h3
  have hn : (Int32.ofInt (n : Int)).toNatClampNeg = n := by show (Int32.ofInt (n : Int)).toInt.toNat = n; rw [toI (by omega)]; simp
  have h0 : (Int32.ofInt 0).toNatClampNeg = 0 := rfl
  have hnw : nativeFrameWords "java/lang/System" "arraycopy" 5 ≤ 17 := by decide
  have hrm : ((st.map (cv w)).map fun v => v.category).sum + (nativeFrameWords "java/lang/System" "arraycopy" 5 + 11) ≤ gD g * 36 := by rw [catSum_eq]; omega
  refine va_copyi (D := wG w) (R := rmOf g) (rest := st.map (cv w)) (sp := Int32.ofInt 0) (dp := Int32.ofInt 0) (n := Int32.ofInt n) hx hb (hml.trans hl.1.symm) hown (hts _ hk.1) (hts _ hk.2.1) (hts _ hk.2.2.1) (hts _ hk.2.2.2) hK hP (ws_apart w sh μ) hS b a 0 0 heb hea rfl rfl rfl (by decide) (by decide) (by rw [Int32.lt_iff_toInt_lt, toI (by omega)]; simp) (by rw [hn, h0]; omega) (by rw [hn, h0]; omega) (fun _ _ => rfl)
    hr hrm hd (fun H1 locs1 hP1 _ hS1 => ?_)
  rw [hn, h0] at hP1
  rw [ws_set (μ' := cpI μ a b n) ha (by rw [cell_20]; congr 4; funext j; simp only [va_cpy, cpI]; by_cases hj : j < n <;> simp [hj]) (fun q hq => cell_other (μ := μ) (μ' := cpI μ a b n) (fun j => by simp [cpI, hq]) (fun _ => rfl) (fun _ => rfl))] at hP1
  exact kk H1 locs1 hP1 hz hS1 hl
theorem r_copyZ {idx a b n na nb : Nat} {nI : Int} (hd : decode (gC g) pc = .ok (.invokestatic idx, 3)) (hk : CopyL (gO g) idx) (ha : sh[a]? = some (23, na)) (hb0 : sh[b]? = some (23, nb)) (hnI : (n : Int) = nI) (h1 : Nat.ble n na = true) (h2 : Nat.ble n nb = true) (h3 : Nat.ble n 2147483647 = true)
    (hr : Nat.ble 1 (gD g) = true) (hcs : Nat.ble (catSum st) 8 = true)
    (kk : AW g sh (cpI μ a b nI) cs ss (pc + 3) ls st P) : AW g sh μ cs ss pc ls (vI nI :: vI 0 :: vR a :: vI 0 :: vR b :: st) P := by
  subst hnI
  intro w p l e s m args below meth c H locs la cx hP hz hS hl
  have kk := fun H locs => kk w p l e s m args below meth c H locs la cx
  obtain ⟨hx, hb, -, hml, -, hts, hown, -, hK, -⟩ := cx
  have hea := ws_get (w := w) (μ := μ) ha
  have heb := ws_get (w := w) (μ := μ) hb0
  rw [cell_23] at hea heb
  have hr := Nat.le_of_ble_eq_true hr
  have hcs := Nat.le_of_ble_eq_true hcs
  have h1 := Nat.le_of_ble_eq_true h1
  have h2 := Nat.le_of_ble_eq_true h2
  have h3' := Nat.le_of_ble_eq_true h3
  have hn : (Int32.ofInt (n : Int)).toNatClampNeg = n := by show (Int32.ofInt (n : Int)).toInt.toNat = n; rw [toI (by omega)]; simp
  have h0 : (Int32.ofInt 0).toNatClampNeg = 0 := rfl
  have hnw : nativeFrameWords "java/lang/System" "arraycopy" 5 ≤ 17 := by decide
  have hrm : ((st.map (cv w)).map fun v => v.category).sum + (nativeFrameWords "java/lang/System" "arraycopy" 5 + 11) ≤ gD g * 36 := by rw [catSum_eq]; omega
  refine va_copyi (D := wG w) (R := rmOf g) (rest := st.map (cv w)) (sp := Int32.ofInt 0) (dp := Int32.ofInt 0) (n := Int32.ofInt n) hx hb (hml.trans hl.1.symm) hown (hts _ hk.1) (hts _ hk.2.1) (hts _ hk.2.2.1) (hts _ hk.2.2.2) hK hP (ws_apart w sh μ) hS b a 3 3 heb hea rfl rfl rfl (by decide) (by decide) (by rw [Int32.lt_iff_toInt_lt, toI (by omega)]; simp) (by rw [hn, h0]; omega) (by rw [hn, h0]; omega) (fun i _ => by simp only [nz]; split <;> rfl)
    hr hrm hd (fun H1 locs1 hP1 _ hS1 => ?_)
  rw [hn, h0] at hP1
  rw [ws_set (μ' := cpI μ a b n) ha (by rw [cell_23]; congr 4; funext j; simp only [va_cpy, cpI]; by_cases hj : j < n <;> simp [hj]) (fun q hq => cell_other (μ := μ) (μ' := cpI μ a b n) (fun j => by simp [cpI, hq]) (fun _ => rfl) (fun _ => rfl))] at hP1
  exact kk H1 locs1 hP1 hz hS1 hl
theorem r_copyL {idx a b n na nb : Nat} {nI : Int} (hd : decode (gC g) pc = .ok (.invokestatic idx, 3)) (hk : CopyL (gO g) idx) (ha : sh[a]? = some (21, na)) (hb0 : sh[b]? = some (21, nb)) (hnI : (n : Int) = nI) (h1 : Nat.ble n na = true) (h2 : Nat.ble n nb = true) (h3 : Nat.ble n 2147483647 = true)
    (hr : Nat.ble 1 (gD g) = true) (hcs : Nat.ble (catSum st) 8 = true)
    (kk : AW g sh (cpL μ a b nI) cs ss (pc + 3) ls st P) : AW g sh μ cs ss pc ls (vI nI :: vI 0 :: vR a :: vI 0 :: vR b :: st) P := by
  subst hnI
  intro w p l e s m args below meth c H locs la cx hP hz hS hl
  have kk := fun H locs => kk w p l e s m args below meth c H locs la cx
  obtain ⟨hx, hb, -, hml, -, hts, hown, -, hK, -⟩ := cx
  have hea := ws_get (w := w) (μ := μ) ha
  have heb := ws_get (w := w) (μ := μ) hb0
  rw [cell_21] at hea heb
  have hr := Nat.le_of_ble_eq_true hr
  have hcs := Nat.le_of_ble_eq_true hcs
  have h1 := Nat.le_of_ble_eq_true h1
  have h2 := Nat.le_of_ble_eq_true h2
  have h3' := Nat.le_of_ble_eq_true h3
  have hn : (Int32.ofInt (n : Int)).toNatClampNeg = n := by show (Int32.ofInt (n : Int)).toInt.toNat = n; rw [toI (by omega)]; simp
  have h0 : (Int32.ofInt 0).toNatClampNeg = 0 := rfl
  have hnw : nativeFrameWords "java/lang/System" "arraycopy" 5 ≤ 17 := by decide
  have hrm : ((st.map (cv w)).map fun v => v.category).sum + (nativeFrameWords "java/lang/System" "arraycopy" 5 + 11) ≤ gD g * 36 := by rw [catSum_eq]; omega
  refine va_copyl (D := wG w) (R := rmOf g) (rest := st.map (cv w)) (sp := Int32.ofInt 0) (dp := Int32.ofInt 0) (n := Int32.ofInt n) hx hb (hml.trans hl.1.symm) hown (hts _ hk.1) (hts _ hk.2.1) (hts _ hk.2.2.1) (hts _ hk.2.2.2) hK hP (ws_apart w sh μ) hS b a 1 1 heb hea rfl rfl rfl (by decide) (by decide) (by rw [Int32.lt_iff_toInt_lt, toI (by omega)]; simp) (by rw [hn, h0]; omega) (by rw [hn, h0]; omega) (fun _ _ => rfl)
    hr hrm hd (fun H1 locs1 hP1 _ hS1 => ?_)
  rw [hn, h0] at hP1
  rw [ws_set (μ' := cpL μ a b n) ha (by rw [cell_21]; congr 5; funext j; simp only [va_cpy, cpL]; by_cases hj : j < n <;> simp [hj]) (fun q hq => cell_other (μ := μ) (μ' := cpL μ a b n) (fun _ => rfl) (fun j => by simp [cpL, hq]) (fun _ => rfl))] at hP1
  exact kk H1 locs1 hP1 hz hS1 hl
end ROWS3

