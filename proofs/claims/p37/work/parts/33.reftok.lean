/-! 33.reftok: taken from whole (wip/p37/port.py) -/
theorem fld_snoc {α : Type} (f : Int → α → α) : ∀ (n : Nat) (k : Int) (a : α), fld f (n + 1) k a = f (k + n) (fld f n k a)
  | 0, k, a => by simp [fld]
  | n + 1, k, a => by
    rw [fld, fld_snoc f n (k + 1), fld]
    congr 1
    omega
/-- tape and size while a text is read -/
def RTap (m : Nat) (μ : Mem) (T : Tq) : Prop := μ.1 m 8 = T.2 ∧ (0 ≤ T.2 ∧ T.2 ≤ 540) ∧ ∀ i, 0 ≤ i → i < T.2 → (-128 ≤ μ.1 (m + 6) i ∧ μ.1 (m + 6) i < 128) ∧ iand (μ.1 (m + 6) i) 255 = T.1 i ∧ 0 ≤ T.1 i ∧ T.1 i ≤ 255
/-- only the token at hand has changed -/
def RK (m : Nat) (μ μ2 : Mem) : Prop := μ2.2 = μ.2 ∧ (∀ a : Nat, a ≠ m → a ≠ m + 7 → μ2.1 a = μ.1 a) ∧ ∀ j : Int, j < 9 ∨ 13 < j → μ2.1 m j = μ.1 m j
theorem RK.rf (m : Nat) (μ : Mem) : RK m μ μ := ⟨rfl, fun _ _ _ => rfl, fun _ _ => rfl⟩
theorem RK.tr {m : Nat} {a b c : Mem} (h1 : RK m a b) (h2 : RK m b c) : RK m a c := ⟨h2.1.trans h1.1, fun q e f => (h2.2.1 q e f).trans (h1.2.1 q e f), fun j h => (h2.2.2 j h).trans (h1.2.2 j h)⟩
theorem RK.sI {m : Nat} {μ μ2 : Mem} (h : RK m μ μ2) {j x : Int} (hj : 9 ≤ j ∧ j ≤ 13) : RK m μ (setI μ2 m j x) := ⟨h.1, fun a h1 h2 => (funext fun i => ifn (fun e => h1 e)).trans (h.2.1 a h1 h2), fun i hi => (if_neg (by omega)).trans (h.2.2 i hi)⟩
theorem RTap.mono {m : Nat} {μ μ2 : Mem} {T : Tq} (h : RTap m μ T) (h8 : μ2.1 m 8 = μ.1 m 8) (h6 : μ2.1 (m + 6) = μ.1 (m + 6)) : RTap m μ2 T := by
  unfold RTap at *
  rw [h8, h6]
  exact h
