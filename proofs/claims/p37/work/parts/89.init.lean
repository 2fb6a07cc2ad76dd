/-! 89.init: taken from whole (wip/p37/port.py) -/
variable {n_ : Sh}
/-! 89.init: objects are made (wip/whole/src/89_init.py) -/
theorem ap {sh t : Sh} {i : Nat} {x : Nat × Nat} (h : sh[i]? = some x) : (sh ++ t)[i]? = some x := by
  rw [List.getElem?_append_left (List.getElem?_eq_some_iff.1 h).1]; exact h
theorem apR {sh t : Sh} {a i : Nat} (h : sh.length = a) : (sh ++ t)[a + i]? = t[i]? := by
  rw [List.getElem?_append_right (by omega)]
  congr 1
  omega
abbrev Rf : Type := List (Nat × Int × Nat)
/-- what a constructor has made: from a on, where its references go, what is 0 -/
def NS (μ0 : Mem) (a : Nat) (rf : Rf) (zs : List Nat) (μ : Mem) : Prop := Kp (fun q => q < a) μ0 μ ∧ (∀ q ∈ rf, μ.2.2 (a + q.1) q.2.1 = some (a + q.2.2)) ∧ ∀ q ∈ zs, ∀ j, μ.1 (a + q) j = 0
theorem Kp.bn {S : Nat → Prop} {μ μ2 : Mem} {a : Nat} (h1 : Kp S μ μ2) (h : ¬ S a) : Kp S μ (born μ2 a) := h1.tr fun q hq => ⟨funext fun j => if_neg (fun e : q = a => h (e ▸ hq)), funext fun j => if_neg (fun e : q = a => h (e ▸ hq)), funext fun j => if_neg (fun e : q = a => h (e ▸ hq))⟩
theorem bornI {μ : Mem} {a b : Nat} (h : b ≠ a) : (born μ a).1 b = μ.1 b := funext fun j => if_neg h
theorem bornR {μ : Mem} {a b : Nat} (h : b ≠ a) : (born μ a).2.2 b = μ.2.2 b := funext fun j => if_neg h
theorem NS.start {μ : Mem} {a : Nat} (h : ∀ j, μ.1 a j = 0) : NS μ a [] [0] μ := ⟨Kp.rf _ _, fun q h => absurd h (by simp), fun q hq j => by
  rw [List.mem_singleton] at hq
  rw [hq]; exact h j⟩
theorem NS.arr {μ0 μ : Mem} {a : Nat} {rf : Rf} {zs : List Nat} (h : NS μ0 a rf zs μ) (n : Nat) (k : Int) (hn : 0 < n) (hr : ∀ q ∈ rf, q.1 < n ∧ ¬ (q.1 = 0 ∧ q.2.1 = k)) (hz : ∀ q ∈ zs, q < n) {L : Nat} (hL : L = a + n) : NS μ0 a (rf ++ [(0, k, n)]) (zs ++ [n]) (setR (born μ L) a k (some L)) := by
  subst hL
  obtain ⟨h1, h2, h3⟩ := h
  refine ⟨(h1.bn (by (try dsimp only); omega)).sR (by (try dsimp only); omega), fun q hq => ?_, fun q hq j => ?_⟩
  · rcases List.mem_append.1 hq with hq | hq
    · obtain ⟨a1, a2⟩ := hr q hq
      show (if a + q.1 = a ∧ q.2.1 = k then some (a + n) else (born μ (a + n)).2.2 (a + q.1) q.2.1) = _
      rw [if_neg (fun e => a2 ⟨by omega, e.2⟩), bornR (by omega)]
      exact h2 q hq
    · rw [List.mem_singleton] at hq
      rw [hq]
      exact if_pos ⟨rfl, rfl⟩
  · rcases List.mem_append.1 hq with hq | hq
    · have := hz q hq
      show (born μ (a + n)).1 (a + q) j = 0
      rw [bornI (by omega)]
      exact h3 q hq j
    · rw [List.mem_singleton] at hq
      rw [hq]
      exact born_self1 μ (a + n) j
def shR (n : Nat) (rf : Rf) : Rf := rf.map (fun q => (n + q.1, q.2.1, n + q.2.2))
def shZ (n : Nat) (zs : List Nat) : List Nat := zs.map (n + ·)
theorem NS.sub {μ0 μ μ2 : Mem} {a : Nat} {rf rf2 : Rf} {zs zs2 : List Nat} (h : NS μ0 a rf zs μ) (n b : Nat) (k : Int) (hb : b < n) (hr : ∀ q ∈ rf, q.1 < n ∧ ¬ (q.1 = b ∧ q.2.1 = k)) (hz : ∀ q ∈ zs, q < n) {L B : Nat} (hL : L = a + n) (hB : B = a + b) (h2 : NS (born μ L) L rf2 zs2 μ2) : NS μ0 a (rf ++ (shR n rf2 ++ [(b, k, n)])) (zs ++ shZ n zs2) (setR μ2 B k (some L)) := by
  subst hL
  subst hB
  obtain ⟨h1, h2', h3⟩ := h
  obtain ⟨g1, g2, g3⟩ := h2
  refine ⟨((h1.bn (by (try dsimp only); omega)).tr (g1.mono (fun q hq => by (try dsimp only at *); omega))).sR (by (try dsimp only); omega), fun q hq => ?_, fun q hq j => ?_⟩
  · rcases List.mem_append.1 hq with hq | hq
    · obtain ⟨a1, a2⟩ := hr q hq
      show (if a + q.1 = a + b ∧ q.2.1 = k then some (a + n) else μ2.2.2 (a + q.1) q.2.1) = _
      rw [if_neg (fun e => a2 ⟨by omega, e.2⟩), (g1 (a + q.1) (by (try dsimp only); omega)).2.2, bornR (by omega)]
      exact h2' q hq
    · rcases List.mem_append.1 hq with hq | hq
      · obtain ⟨r, hr2, rfl⟩ := List.mem_map.1 hq
        show (if a + (n + r.1) = a + b ∧ r.2.1 = k then some (a + n) else μ2.2.2 (a + (n + r.1)) r.2.1) = some (a + (n + r.2.2))
        rw [if_neg (fun e => by omega), show a + (n + r.1) = a + n + r.1 by omega, g2 r hr2]
        congr 1
        omega
      · rw [List.mem_singleton] at hq
        rw [hq]
        exact if_pos ⟨rfl, rfl⟩
  · rcases List.mem_append.1 hq with hq | hq
    · have := hz q hq
      show μ2.1 (a + q) j = 0
      rw [(g1 (a + q) (by (try dsimp only); omega)).1, bornI (by omega)]
      exact h3 q hq j
    · obtain ⟨r, hr2, rfl⟩ := List.mem_map.1 hq
      show μ2.1 (a + (n + r)) j = 0
      rw [show a + (n + r) = a + n + r by omega]
      exact g3 r hr2 j
/-- a constructor's contract -/
def CQ (μ : Mem) (a : Nat) (sh : Sh) (l : Sh) (rf : Rf) (zs : List Nat) : Option AV → Sh → Mem → Prop := fun r sh2 μ2 => r = none ∧ sh2 = sh ++ l ∧ NS μ a rf zs μ2
def cshX0 : Sh := [(21, 5), (20, 5), (20, 5), (20, 5), (20, 2)]
def cshX1 : Sh := [(21, 3), (20, 3), (23, 3), (20, 6), (20, 6), (20, 6), (20, 6), (20, 6), (20, 6)]
def cshX4 : Sh := [(20, 10), (20, 10), (20, 5), (20, 6), (20, 720)]
def cshX8 : Sh := [(20, 720), (20, 720), (20, 720), (20, 5), (20, 5), (20, 5), (20, 6), (20, 3), (20, 10)]
def cshX9 : Sh := [(20, 540)]
def cshX10 : Sh := [(21, 3), (20, 3), (20, 3), (20, 3), (20, 12), (20, 12), (20, 13), (20, 13), (20, 13)]
def rfX0 : Rf := [(0, 1, 1), (0, 2, 2), (0, 3, 3), (0, 4, 4), (0, 6, 5)]
def rfX1 : Rf := [(0, 1, 1), (0, 2, 2), (0, 3, 3), (0, 5, 4), (0, 6, 5), (0, 7, 6), (0, 8, 7), (0, 10, 8), (0, 11, 9)]
def rfX4 : Rf := [(0, 0, 1), (0, 2, 2), (0, 3, 3), (0, 4, 4), (0, 5, 5)]
def rfX8 : Rf := [(0, 2, 1), (0, 3, 2), (0, 4, 3), (0, 9, 4), (0, 10, 5), (0, 11, 6), (0, 12, 7), (0, 13, 8), (0, 14, 9)]
def rfX9 : Rf := [(0, 0, 1)]
def rfX10 : Rf := [(0, 1, 1), (0, 2, 2), (0, 3, 3), (0, 4, 4), (0, 6, 5), (0, 7, 6), (0, 9, 7), (0, 10, 8), (0, 11, 9)]
theorem i_X0 {sh : Sh} {μ : Mem} {a : Nat} (hlen : sh.length = a + 1) (hc0 : sh[a]? = some (0, 7)) (hz0 : ∀ j, μ.1 a j = 0)  : AMet yX0_init gX0_init sh [vR a] μ (CQ μ a sh cshX0 rfX0 [0, 1, 2, 3, 4, 5]) := by
  refine AMet.of (by decide) rfl (fun _ => rfl) rfl ?_
  refine r_aload_n dX0_init_0 rfl ?_
  refine r_objInit dX0_init_1 ml_X0_3 rfl rfl ?_
  refine r_aload_n dX0_init_4 rfl ?_
  refine r_iconst dX0_init_5 ?_
  refine r_newaL dX0_init_6 ac_L rfl rfl rfl rfl ?_
  refine r_putF dX0_init_8 fl_X0_9 rfl (by first | exact hc0 | exact ap hc0 | exact ap (ap hc0) | exact ap (ap (ap hc0)) | exact ap (ap (ap (ap hc0))) | exact ap (ap (ap (ap (ap hc0)))) | exact ap (ap (ap (ap (ap (ap hc0))))) | exact ap (ap (ap (ap (ap (ap (ap hc0)))))) | exact ap (ap (ap (ap (ap (ap (ap (ap hc0))))))) | exact ap (ap (ap (ap (ap (ap (ap (ap (ap hc0)))))))) | exact ap (ap (ap (ap (ap (ap (ap (ap (ap (ap hc0))))))))) | exact ap (ap (ap (ap (ap (ap (ap (ap (ap (ap (ap hc0)))))))))) | exact ap (ap (ap (ap (ap (ap (ap (ap (ap (ap (ap (ap hc0)))))))))))) rfl ⟨_, rfl⟩ ?_
  refine r_aload_n dX0_init_11 rfl ?_
  refine r_iconst dX0_init_12 ?_
  refine r_newaI dX0_init_13 ac_I rfl rfl rfl rfl ?_
  refine r_putF dX0_init_15 fl_X0_15 rfl (by first | exact hc0 | exact ap hc0 | exact ap (ap hc0) | exact ap (ap (ap hc0)) | exact ap (ap (ap (ap hc0))) | exact ap (ap (ap (ap (ap hc0)))) | exact ap (ap (ap (ap (ap (ap hc0))))) | exact ap (ap (ap (ap (ap (ap (ap hc0)))))) | exact ap (ap (ap (ap (ap (ap (ap (ap hc0))))))) | exact ap (ap (ap (ap (ap (ap (ap (ap (ap hc0)))))))) | exact ap (ap (ap (ap (ap (ap (ap (ap (ap (ap hc0))))))))) | exact ap (ap (ap (ap (ap (ap (ap (ap (ap (ap (ap hc0)))))))))) | exact ap (ap (ap (ap (ap (ap (ap (ap (ap (ap (ap (ap hc0)))))))))))) rfl ⟨_, rfl⟩ ?_
  refine r_aload_n dX0_init_18 rfl ?_
  refine r_iconst dX0_init_19 ?_
  refine r_newaI dX0_init_20 ac_I rfl rfl rfl rfl ?_
  refine r_putF dX0_init_22 fl_X0_19 rfl (by first | exact hc0 | exact ap hc0 | exact ap (ap hc0) | exact ap (ap (ap hc0)) | exact ap (ap (ap (ap hc0))) | exact ap (ap (ap (ap (ap hc0)))) | exact ap (ap (ap (ap (ap (ap hc0))))) | exact ap (ap (ap (ap (ap (ap (ap hc0)))))) | exact ap (ap (ap (ap (ap (ap (ap (ap hc0))))))) | exact ap (ap (ap (ap (ap (ap (ap (ap (ap hc0)))))))) | exact ap (ap (ap (ap (ap (ap (ap (ap (ap (ap hc0))))))))) | exact ap (ap (ap (ap (ap (ap (ap (ap (ap (ap (ap hc0)))))))))) | exact ap (ap (ap (ap (ap (ap (ap (ap (ap (ap (ap (ap hc0)))))))))))) rfl ⟨_, rfl⟩ ?_
  refine r_aload_n dX0_init_25 rfl ?_
  refine r_iconst dX0_init_26 ?_
  refine r_newaI dX0_init_27 ac_I rfl rfl rfl rfl ?_
  refine r_putF dX0_init_29 fl_X0_22 rfl (by first | exact hc0 | exact ap hc0 | exact ap (ap hc0) | exact ap (ap (ap hc0)) | exact ap (ap (ap (ap hc0))) | exact ap (ap (ap (ap (ap hc0)))) | exact ap (ap (ap (ap (ap (ap hc0))))) | exact ap (ap (ap (ap (ap (ap (ap hc0)))))) | exact ap (ap (ap (ap (ap (ap (ap (ap hc0))))))) | exact ap (ap (ap (ap (ap (ap (ap (ap (ap hc0)))))))) | exact ap (ap (ap (ap (ap (ap (ap (ap (ap (ap hc0))))))))) | exact ap (ap (ap (ap (ap (ap (ap (ap (ap (ap (ap hc0)))))))))) | exact ap (ap (ap (ap (ap (ap (ap (ap (ap (ap (ap (ap hc0)))))))))))) rfl ⟨_, rfl⟩ ?_
  refine r_aload_n dX0_init_32 rfl ?_
  refine r_iconst dX0_init_33 ?_
  refine r_newaI dX0_init_34 ac_I rfl rfl rfl rfl ?_
  refine r_putF dX0_init_36 fl_X0_25 rfl (by first | exact hc0 | exact ap hc0 | exact ap (ap hc0) | exact ap (ap (ap hc0)) | exact ap (ap (ap (ap hc0))) | exact ap (ap (ap (ap (ap hc0)))) | exact ap (ap (ap (ap (ap (ap hc0))))) | exact ap (ap (ap (ap (ap (ap (ap hc0)))))) | exact ap (ap (ap (ap (ap (ap (ap (ap hc0))))))) | exact ap (ap (ap (ap (ap (ap (ap (ap (ap hc0)))))))) | exact ap (ap (ap (ap (ap (ap (ap (ap (ap (ap hc0))))))))) | exact ap (ap (ap (ap (ap (ap (ap (ap (ap (ap (ap hc0)))))))))) | exact ap (ap (ap (ap (ap (ap (ap (ap (ap (ap (ap (ap hc0)))))))))))) rfl ⟨_, rfl⟩ ?_
  refine r_return dX0_init_39 rfl rfl rfl ?_
  exact ⟨rfl, by simp [cshX0], ((((((NS.start hz0).arr 1 1 (by decide) (by decide) (by decide) (by simp [hlen] <;> omega)).arr 2 2 (by decide) (by decide) (by decide) (by simp [hlen] <;> omega)).arr 3 3 (by decide) (by decide) (by decide) (by simp [hlen] <;> omega)).arr 4 4 (by decide) (by decide) (by decide) (by simp [hlen] <;> omega)).arr 5 6 (by decide) (by decide) (by decide) (by simp [hlen] <;> omega))⟩
theorem i_X1 {sh : Sh} {μ : Mem} {a : Nat} (hlen : sh.length = a + 1) (hc0 : sh[a]? = some (1, 12)) (hz0 : ∀ j, μ.1 a j = 0)  : AMet yX1_init gX1_init sh [vR a] μ (CQ μ a sh cshX1 rfX1 [0, 1, 2, 3, 4, 5, 6, 7, 8, 9]) := by
  refine AMet.of (by decide) rfl (fun _ => rfl) rfl ?_
  refine r_aload_n dX1_init_0 rfl ?_
  refine r_objInit dX1_init_1 ml_X1_3 rfl rfl ?_
  refine r_aload_n dX1_init_4 rfl ?_
  refine r_iconst dX1_init_5 ?_
  refine r_newaL dX1_init_6 ac_L rfl rfl rfl rfl ?_
  refine r_putF dX1_init_8 fl_X1_9 rfl (by first | exact hc0 | exact ap hc0 | exact ap (ap hc0) | exact ap (ap (ap hc0)) | exact ap (ap (ap (ap hc0))) | exact ap (ap (ap (ap (ap hc0)))) | exact ap (ap (ap (ap (ap (ap hc0))))) | exact ap (ap (ap (ap (ap (ap (ap hc0)))))) | exact ap (ap (ap (ap (ap (ap (ap (ap hc0))))))) | exact ap (ap (ap (ap (ap (ap (ap (ap (ap hc0)))))))) | exact ap (ap (ap (ap (ap (ap (ap (ap (ap (ap hc0))))))))) | exact ap (ap (ap (ap (ap (ap (ap (ap (ap (ap (ap hc0)))))))))) | exact ap (ap (ap (ap (ap (ap (ap (ap (ap (ap (ap (ap hc0)))))))))))) rfl ⟨_, rfl⟩ ?_
  refine r_aload_n dX1_init_11 rfl ?_
  refine r_iconst dX1_init_12 ?_
  refine r_newaI dX1_init_13 ac_I rfl rfl rfl rfl ?_
  refine r_putF dX1_init_15 fl_X1_15 rfl (by first | exact hc0 | exact ap hc0 | exact ap (ap hc0) | exact ap (ap (ap hc0)) | exact ap (ap (ap (ap hc0))) | exact ap (ap (ap (ap (ap hc0)))) | exact ap (ap (ap (ap (ap (ap hc0))))) | exact ap (ap (ap (ap (ap (ap (ap hc0)))))) | exact ap (ap (ap (ap (ap (ap (ap (ap hc0))))))) | exact ap (ap (ap (ap (ap (ap (ap (ap (ap hc0)))))))) | exact ap (ap (ap (ap (ap (ap (ap (ap (ap (ap hc0))))))))) | exact ap (ap (ap (ap (ap (ap (ap (ap (ap (ap (ap hc0)))))))))) | exact ap (ap (ap (ap (ap (ap (ap (ap (ap (ap (ap (ap hc0)))))))))))) rfl ⟨_, rfl⟩ ?_
  refine r_aload_n dX1_init_18 rfl ?_
  refine r_iconst dX1_init_19 ?_
  refine r_newaZ dX1_init_20 ac_Z rfl rfl rfl rfl ?_
  refine r_putF dX1_init_22 fl_X1_19 rfl (by first | exact hc0 | exact ap hc0 | exact ap (ap hc0) | exact ap (ap (ap hc0)) | exact ap (ap (ap (ap hc0))) | exact ap (ap (ap (ap (ap hc0)))) | exact ap (ap (ap (ap (ap (ap hc0))))) | exact ap (ap (ap (ap (ap (ap (ap hc0)))))) | exact ap (ap (ap (ap (ap (ap (ap (ap hc0))))))) | exact ap (ap (ap (ap (ap (ap (ap (ap (ap hc0)))))))) | exact ap (ap (ap (ap (ap (ap (ap (ap (ap (ap hc0))))))))) | exact ap (ap (ap (ap (ap (ap (ap (ap (ap (ap (ap hc0)))))))))) | exact ap (ap (ap (ap (ap (ap (ap (ap (ap (ap (ap (ap hc0)))))))))))) rfl ⟨_, rfl⟩ ?_
  refine r_aload_n dX1_init_25 rfl ?_
  refine r_bipush dX1_init_26 (by decide) ?_
  refine r_newaI dX1_init_28 ac_I rfl rfl rfl rfl ?_
  refine r_putF dX1_init_30 fl_X1_23 rfl (by first | exact hc0 | exact ap hc0 | exact ap (ap hc0) | exact ap (ap (ap hc0)) | exact ap (ap (ap (ap hc0))) | exact ap (ap (ap (ap (ap hc0)))) | exact ap (ap (ap (ap (ap (ap hc0))))) | exact ap (ap (ap (ap (ap (ap (ap hc0)))))) | exact ap (ap (ap (ap (ap (ap (ap (ap hc0))))))) | exact ap (ap (ap (ap (ap (ap (ap (ap (ap hc0)))))))) | exact ap (ap (ap (ap (ap (ap (ap (ap (ap (ap hc0))))))))) | exact ap (ap (ap (ap (ap (ap (ap (ap (ap (ap (ap hc0)))))))))) | exact ap (ap (ap (ap (ap (ap (ap (ap (ap (ap (ap (ap hc0)))))))))))) rfl ⟨_, rfl⟩ ?_
  refine r_aload_n dX1_init_33 rfl ?_
  refine r_bipush dX1_init_34 (by decide) ?_
  refine r_newaI dX1_init_36 ac_I rfl rfl rfl rfl ?_
  refine r_putF dX1_init_38 fl_X1_26 rfl (by first | exact hc0 | exact ap hc0 | exact ap (ap hc0) | exact ap (ap (ap hc0)) | exact ap (ap (ap (ap hc0))) | exact ap (ap (ap (ap (ap hc0)))) | exact ap (ap (ap (ap (ap (ap hc0))))) | exact ap (ap (ap (ap (ap (ap (ap hc0)))))) | exact ap (ap (ap (ap (ap (ap (ap (ap hc0))))))) | exact ap (ap (ap (ap (ap (ap (ap (ap (ap hc0)))))))) | exact ap (ap (ap (ap (ap (ap (ap (ap (ap (ap hc0))))))))) | exact ap (ap (ap (ap (ap (ap (ap (ap (ap (ap (ap hc0)))))))))) | exact ap (ap (ap (ap (ap (ap (ap (ap (ap (ap (ap (ap hc0)))))))))))) rfl ⟨_, rfl⟩ ?_
  refine r_aload_n dX1_init_41 rfl ?_
  refine r_bipush dX1_init_42 (by decide) ?_
  refine r_newaI dX1_init_44 ac_I rfl rfl rfl rfl ?_
  refine r_putF dX1_init_46 fl_X1_29 rfl (by first | exact hc0 | exact ap hc0 | exact ap (ap hc0) | exact ap (ap (ap hc0)) | exact ap (ap (ap (ap hc0))) | exact ap (ap (ap (ap (ap hc0)))) | exact ap (ap (ap (ap (ap (ap hc0))))) | exact ap (ap (ap (ap (ap (ap (ap hc0)))))) | exact ap (ap (ap (ap (ap (ap (ap (ap hc0))))))) | exact ap (ap (ap (ap (ap (ap (ap (ap (ap hc0)))))))) | exact ap (ap (ap (ap (ap (ap (ap (ap (ap (ap hc0))))))))) | exact ap (ap (ap (ap (ap (ap (ap (ap (ap (ap (ap hc0)))))))))) | exact ap (ap (ap (ap (ap (ap (ap (ap (ap (ap (ap (ap hc0)))))))))))) rfl ⟨_, rfl⟩ ?_
  refine r_aload_n dX1_init_49 rfl ?_
  refine r_bipush dX1_init_50 (by decide) ?_
  refine r_newaI dX1_init_52 ac_I rfl rfl rfl rfl ?_
  refine r_putF dX1_init_54 fl_X1_32 rfl (by first | exact hc0 | exact ap hc0 | exact ap (ap hc0) | exact ap (ap (ap hc0)) | exact ap (ap (ap (ap hc0))) | exact ap (ap (ap (ap (ap hc0)))) | exact ap (ap (ap (ap (ap (ap hc0))))) | exact ap (ap (ap (ap (ap (ap (ap hc0)))))) | exact ap (ap (ap (ap (ap (ap (ap (ap hc0))))))) | exact ap (ap (ap (ap (ap (ap (ap (ap (ap hc0)))))))) | exact ap (ap (ap (ap (ap (ap (ap (ap (ap (ap hc0))))))))) | exact ap (ap (ap (ap (ap (ap (ap (ap (ap (ap (ap hc0)))))))))) | exact ap (ap (ap (ap (ap (ap (ap (ap (ap (ap (ap (ap hc0)))))))))))) rfl ⟨_, rfl⟩ ?_
  refine r_aload_n dX1_init_57 rfl ?_
  refine r_bipush dX1_init_58 (by decide) ?_
  refine r_newaI dX1_init_60 ac_I rfl rfl rfl rfl ?_
  refine r_putF dX1_init_62 fl_X1_35 rfl (by first | exact hc0 | exact ap hc0 | exact ap (ap hc0) | exact ap (ap (ap hc0)) | exact ap (ap (ap (ap hc0))) | exact ap (ap (ap (ap (ap hc0)))) | exact ap (ap (ap (ap (ap (ap hc0))))) | exact ap (ap (ap (ap (ap (ap (ap hc0)))))) | exact ap (ap (ap (ap (ap (ap (ap (ap hc0))))))) | exact ap (ap (ap (ap (ap (ap (ap (ap (ap hc0)))))))) | exact ap (ap (ap (ap (ap (ap (ap (ap (ap (ap hc0))))))))) | exact ap (ap (ap (ap (ap (ap (ap (ap (ap (ap (ap hc0)))))))))) | exact ap (ap (ap (ap (ap (ap (ap (ap (ap (ap (ap (ap hc0)))))))))))) rfl ⟨_, rfl⟩ ?_
  refine r_aload_n dX1_init_65 rfl ?_
  refine r_bipush dX1_init_66 (by decide) ?_
  refine r_newaI dX1_init_68 ac_I rfl rfl rfl rfl ?_
  refine r_putF dX1_init_70 fl_X1_38 rfl (by first | exact hc0 | exact ap hc0 | exact ap (ap hc0) | exact ap (ap (ap hc0)) | exact ap (ap (ap (ap hc0))) | exact ap (ap (ap (ap (ap hc0)))) | exact ap (ap (ap (ap (ap (ap hc0))))) | exact ap (ap (ap (ap (ap (ap (ap hc0)))))) | exact ap (ap (ap (ap (ap (ap (ap (ap hc0))))))) | exact ap (ap (ap (ap (ap (ap (ap (ap (ap hc0)))))))) | exact ap (ap (ap (ap (ap (ap (ap (ap (ap (ap hc0))))))))) | exact ap (ap (ap (ap (ap (ap (ap (ap (ap (ap (ap hc0)))))))))) | exact ap (ap (ap (ap (ap (ap (ap (ap (ap (ap (ap (ap hc0)))))))))))) rfl ⟨_, rfl⟩ ?_
  refine r_return dX1_init_73 rfl rfl rfl ?_
  exact ⟨rfl, by simp [cshX1], ((((((((((NS.start hz0).arr 1 1 (by decide) (by decide) (by decide) (by simp [hlen] <;> omega)).arr 2 2 (by decide) (by decide) (by decide) (by simp [hlen] <;> omega)).arr 3 3 (by decide) (by decide) (by decide) (by simp [hlen] <;> omega)).arr 4 5 (by decide) (by decide) (by decide) (by simp [hlen] <;> omega)).arr 5 6 (by decide) (by decide) (by decide) (by simp [hlen] <;> omega)).arr 6 7 (by decide) (by decide) (by decide) (by simp [hlen] <;> omega)).arr 7 8 (by decide) (by decide) (by decide) (by simp [hlen] <;> omega)).arr 8 10 (by decide) (by decide) (by decide) (by simp [hlen] <;> omega)).arr 9 11 (by decide) (by decide) (by decide) (by simp [hlen] <;> omega))⟩
theorem i_X4 {sh : Sh} {μ : Mem} {a : Nat} (hlen : sh.length = a + 1) (hc0 : sh[a]? = some (4, 10)) (hz0 : ∀ j, μ.1 a j = 0)  : AMet yX4_init gX4_init sh [vR a] μ (CQ μ a sh cshX4 rfX4 [0, 1, 2, 3, 4, 5]) := by
  refine AMet.of (by decide) rfl (fun _ => rfl) rfl ?_
  refine r_aload_n dX4_init_0 rfl ?_
  refine r_objInit dX4_init_1 ml_X4_3 rfl rfl ?_
  refine r_aload_n dX4_init_4 rfl ?_
  refine r_bipush dX4_init_5 (by decide) ?_
  refine r_newaI dX4_init_7 ac_I rfl rfl rfl rfl ?_
  refine r_putF dX4_init_9 fl_X4_11 rfl (by first | exact hc0 | exact ap hc0 | exact ap (ap hc0) | exact ap (ap (ap hc0)) | exact ap (ap (ap (ap hc0))) | exact ap (ap (ap (ap (ap hc0)))) | exact ap (ap (ap (ap (ap (ap hc0))))) | exact ap (ap (ap (ap (ap (ap (ap hc0)))))) | exact ap (ap (ap (ap (ap (ap (ap (ap hc0))))))) | exact ap (ap (ap (ap (ap (ap (ap (ap (ap hc0)))))))) | exact ap (ap (ap (ap (ap (ap (ap (ap (ap (ap hc0))))))))) | exact ap (ap (ap (ap (ap (ap (ap (ap (ap (ap (ap hc0)))))))))) | exact ap (ap (ap (ap (ap (ap (ap (ap (ap (ap (ap (ap hc0)))))))))))) rfl ⟨_, rfl⟩ ?_
  refine r_aload_n dX4_init_12 rfl ?_
  refine r_bipush dX4_init_13 (by decide) ?_
  refine r_newaI dX4_init_15 ac_I rfl rfl rfl rfl ?_
  refine r_putF dX4_init_17 fl_X4_15 rfl (by first | exact hc0 | exact ap hc0 | exact ap (ap hc0) | exact ap (ap (ap hc0)) | exact ap (ap (ap (ap hc0))) | exact ap (ap (ap (ap (ap hc0)))) | exact ap (ap (ap (ap (ap (ap hc0))))) | exact ap (ap (ap (ap (ap (ap (ap hc0)))))) | exact ap (ap (ap (ap (ap (ap (ap (ap hc0))))))) | exact ap (ap (ap (ap (ap (ap (ap (ap (ap hc0)))))))) | exact ap (ap (ap (ap (ap (ap (ap (ap (ap (ap hc0))))))))) | exact ap (ap (ap (ap (ap (ap (ap (ap (ap (ap (ap hc0)))))))))) | exact ap (ap (ap (ap (ap (ap (ap (ap (ap (ap (ap (ap hc0)))))))))))) rfl ⟨_, rfl⟩ ?_
  refine r_aload_n dX4_init_20 rfl ?_
  refine r_iconst dX4_init_21 ?_
  refine r_newaI dX4_init_22 ac_I rfl rfl rfl rfl ?_
  refine r_putF dX4_init_24 fl_X4_18 rfl (by first | exact hc0 | exact ap hc0 | exact ap (ap hc0) | exact ap (ap (ap hc0)) | exact ap (ap (ap (ap hc0))) | exact ap (ap (ap (ap (ap hc0)))) | exact ap (ap (ap (ap (ap (ap hc0))))) | exact ap (ap (ap (ap (ap (ap (ap hc0)))))) | exact ap (ap (ap (ap (ap (ap (ap (ap hc0))))))) | exact ap (ap (ap (ap (ap (ap (ap (ap (ap hc0)))))))) | exact ap (ap (ap (ap (ap (ap (ap (ap (ap (ap hc0))))))))) | exact ap (ap (ap (ap (ap (ap (ap (ap (ap (ap (ap hc0)))))))))) | exact ap (ap (ap (ap (ap (ap (ap (ap (ap (ap (ap (ap hc0)))))))))))) rfl ⟨_, rfl⟩ ?_
  refine r_aload_n dX4_init_27 rfl ?_
  refine r_bipush dX4_init_28 (by decide) ?_
  refine r_newaI dX4_init_30 ac_I rfl rfl rfl rfl ?_
  refine r_putF dX4_init_32 fl_X4_21 rfl (by first | exact hc0 | exact ap hc0 | exact ap (ap hc0) | exact ap (ap (ap hc0)) | exact ap (ap (ap (ap hc0))) | exact ap (ap (ap (ap (ap hc0)))) | exact ap (ap (ap (ap (ap (ap hc0))))) | exact ap (ap (ap (ap (ap (ap (ap hc0)))))) | exact ap (ap (ap (ap (ap (ap (ap (ap hc0))))))) | exact ap (ap (ap (ap (ap (ap (ap (ap (ap hc0)))))))) | exact ap (ap (ap (ap (ap (ap (ap (ap (ap (ap hc0))))))))) | exact ap (ap (ap (ap (ap (ap (ap (ap (ap (ap (ap hc0)))))))))) | exact ap (ap (ap (ap (ap (ap (ap (ap (ap (ap (ap (ap hc0)))))))))))) rfl ⟨_, rfl⟩ ?_
  refine r_aload_n dX4_init_35 rfl ?_
  refine r_sipush dX4_init_36 (by decide) ?_
  refine r_newaI dX4_init_39 ac_I rfl rfl rfl rfl ?_
  refine r_putF dX4_init_41 fl_X4_26 rfl (by first | exact hc0 | exact ap hc0 | exact ap (ap hc0) | exact ap (ap (ap hc0)) | exact ap (ap (ap (ap hc0))) | exact ap (ap (ap (ap (ap hc0)))) | exact ap (ap (ap (ap (ap (ap hc0))))) | exact ap (ap (ap (ap (ap (ap (ap hc0)))))) | exact ap (ap (ap (ap (ap (ap (ap (ap hc0))))))) | exact ap (ap (ap (ap (ap (ap (ap (ap (ap hc0)))))))) | exact ap (ap (ap (ap (ap (ap (ap (ap (ap (ap hc0))))))))) | exact ap (ap (ap (ap (ap (ap (ap (ap (ap (ap (ap hc0)))))))))) | exact ap (ap (ap (ap (ap (ap (ap (ap (ap (ap (ap (ap hc0)))))))))))) rfl ⟨_, rfl⟩ ?_
  refine r_return dX4_init_44 rfl rfl rfl ?_
  exact ⟨rfl, by simp [cshX4], ((((((NS.start hz0).arr 1 0 (by decide) (by decide) (by decide) (by simp [hlen] <;> omega)).arr 2 2 (by decide) (by decide) (by decide) (by simp [hlen] <;> omega)).arr 3 3 (by decide) (by decide) (by decide) (by simp [hlen] <;> omega)).arr 4 4 (by decide) (by decide) (by decide) (by simp [hlen] <;> omega)).arr 5 5 (by decide) (by decide) (by decide) (by simp [hlen] <;> omega))⟩
theorem i_X8 {sh : Sh} {μ : Mem} {a : Nat} (hlen : sh.length = a + 1) (hc0 : sh[a]? = some (7, 15)) (hz0 : ∀ j, μ.1 a j = 0)  : AMet yX8_init gX8_init sh [vR a] μ (CQ μ a sh cshX8 rfX8 [0, 1, 2, 3, 4, 5, 6, 7, 8, 9]) := by
  refine AMet.of (by decide) rfl (fun _ => rfl) rfl ?_
  refine r_aload_n dX8_init_0 rfl ?_
  refine r_objInit dX8_init_1 ml_X8_3 rfl rfl ?_
  refine r_aload_n dX8_init_4 rfl ?_
  refine r_sipush dX8_init_5 (by decide) ?_
  refine r_newaI dX8_init_8 ac_I rfl rfl rfl rfl ?_
  refine r_putF dX8_init_10 fl_X8_11 rfl (by first | exact hc0 | exact ap hc0 | exact ap (ap hc0) | exact ap (ap (ap hc0)) | exact ap (ap (ap (ap hc0))) | exact ap (ap (ap (ap (ap hc0)))) | exact ap (ap (ap (ap (ap (ap hc0))))) | exact ap (ap (ap (ap (ap (ap (ap hc0)))))) | exact ap (ap (ap (ap (ap (ap (ap (ap hc0))))))) | exact ap (ap (ap (ap (ap (ap (ap (ap (ap hc0)))))))) | exact ap (ap (ap (ap (ap (ap (ap (ap (ap (ap hc0))))))))) | exact ap (ap (ap (ap (ap (ap (ap (ap (ap (ap (ap hc0)))))))))) | exact ap (ap (ap (ap (ap (ap (ap (ap (ap (ap (ap (ap hc0)))))))))))) rfl ⟨_, rfl⟩ ?_
  refine r_aload_n dX8_init_13 rfl ?_
  refine r_sipush dX8_init_14 (by decide) ?_
  refine r_newaI dX8_init_17 ac_I rfl rfl rfl rfl ?_
  refine r_putF dX8_init_19 fl_X8_15 rfl (by first | exact hc0 | exact ap hc0 | exact ap (ap hc0) | exact ap (ap (ap hc0)) | exact ap (ap (ap (ap hc0))) | exact ap (ap (ap (ap (ap hc0)))) | exact ap (ap (ap (ap (ap (ap hc0))))) | exact ap (ap (ap (ap (ap (ap (ap hc0)))))) | exact ap (ap (ap (ap (ap (ap (ap (ap hc0))))))) | exact ap (ap (ap (ap (ap (ap (ap (ap (ap hc0)))))))) | exact ap (ap (ap (ap (ap (ap (ap (ap (ap (ap hc0))))))))) | exact ap (ap (ap (ap (ap (ap (ap (ap (ap (ap (ap hc0)))))))))) | exact ap (ap (ap (ap (ap (ap (ap (ap (ap (ap (ap (ap hc0)))))))))))) rfl ⟨_, rfl⟩ ?_
  refine r_aload_n dX8_init_22 rfl ?_
  refine r_sipush dX8_init_23 (by decide) ?_
  refine r_newaI dX8_init_26 ac_I rfl rfl rfl rfl ?_
  refine r_putF dX8_init_28 fl_X8_18 rfl (by first | exact hc0 | exact ap hc0 | exact ap (ap hc0) | exact ap (ap (ap hc0)) | exact ap (ap (ap (ap hc0))) | exact ap (ap (ap (ap (ap hc0)))) | exact ap (ap (ap (ap (ap (ap hc0))))) | exact ap (ap (ap (ap (ap (ap (ap hc0)))))) | exact ap (ap (ap (ap (ap (ap (ap (ap hc0))))))) | exact ap (ap (ap (ap (ap (ap (ap (ap (ap hc0)))))))) | exact ap (ap (ap (ap (ap (ap (ap (ap (ap (ap hc0))))))))) | exact ap (ap (ap (ap (ap (ap (ap (ap (ap (ap (ap hc0)))))))))) | exact ap (ap (ap (ap (ap (ap (ap (ap (ap (ap (ap (ap hc0)))))))))))) rfl ⟨_, rfl⟩ ?_
  refine r_aload_n dX8_init_31 rfl ?_
  refine r_iconst dX8_init_32 ?_
  refine r_newaI dX8_init_33 ac_I rfl rfl rfl rfl ?_
  refine r_putF dX8_init_35 fl_X8_21 rfl (by first | exact hc0 | exact ap hc0 | exact ap (ap hc0) | exact ap (ap (ap hc0)) | exact ap (ap (ap (ap hc0))) | exact ap (ap (ap (ap (ap hc0)))) | exact ap (ap (ap (ap (ap (ap hc0))))) | exact ap (ap (ap (ap (ap (ap (ap hc0)))))) | exact ap (ap (ap (ap (ap (ap (ap (ap hc0))))))) | exact ap (ap (ap (ap (ap (ap (ap (ap (ap hc0)))))))) | exact ap (ap (ap (ap (ap (ap (ap (ap (ap (ap hc0))))))))) | exact ap (ap (ap (ap (ap (ap (ap (ap (ap (ap (ap hc0)))))))))) | exact ap (ap (ap (ap (ap (ap (ap (ap (ap (ap (ap (ap hc0)))))))))))) rfl ⟨_, rfl⟩ ?_
  refine r_aload_n dX8_init_38 rfl ?_
  refine r_iconst dX8_init_39 ?_
  refine r_newaI dX8_init_40 ac_I rfl rfl rfl rfl ?_
  refine r_putF dX8_init_42 fl_X8_24 rfl (by first | exact hc0 | exact ap hc0 | exact ap (ap hc0) | exact ap (ap (ap hc0)) | exact ap (ap (ap (ap hc0))) | exact ap (ap (ap (ap (ap hc0)))) | exact ap (ap (ap (ap (ap (ap hc0))))) | exact ap (ap (ap (ap (ap (ap (ap hc0)))))) | exact ap (ap (ap (ap (ap (ap (ap (ap hc0))))))) | exact ap (ap (ap (ap (ap (ap (ap (ap (ap hc0)))))))) | exact ap (ap (ap (ap (ap (ap (ap (ap (ap (ap hc0))))))))) | exact ap (ap (ap (ap (ap (ap (ap (ap (ap (ap (ap hc0)))))))))) | exact ap (ap (ap (ap (ap (ap (ap (ap (ap (ap (ap (ap hc0)))))))))))) rfl ⟨_, rfl⟩ ?_
  refine r_aload_n dX8_init_45 rfl ?_
  refine r_iconst dX8_init_46 ?_
  refine r_newaI dX8_init_47 ac_I rfl rfl rfl rfl ?_
  refine r_putF dX8_init_49 fl_X8_27 rfl (by first | exact hc0 | exact ap hc0 | exact ap (ap hc0) | exact ap (ap (ap hc0)) | exact ap (ap (ap (ap hc0))) | exact ap (ap (ap (ap (ap hc0)))) | exact ap (ap (ap (ap (ap (ap hc0))))) | exact ap (ap (ap (ap (ap (ap (ap hc0)))))) | exact ap (ap (ap (ap (ap (ap (ap (ap hc0))))))) | exact ap (ap (ap (ap (ap (ap (ap (ap (ap hc0)))))))) | exact ap (ap (ap (ap (ap (ap (ap (ap (ap (ap hc0))))))))) | exact ap (ap (ap (ap (ap (ap (ap (ap (ap (ap (ap hc0)))))))))) | exact ap (ap (ap (ap (ap (ap (ap (ap (ap (ap (ap (ap hc0)))))))))))) rfl ⟨_, rfl⟩ ?_
  refine r_aload_n dX8_init_52 rfl ?_
  refine r_bipush dX8_init_53 (by decide) ?_
  refine r_newaI dX8_init_55 ac_I rfl rfl rfl rfl ?_
  refine r_putF dX8_init_57 fl_X8_30 rfl (by first | exact hc0 | exact ap hc0 | exact ap (ap hc0) | exact ap (ap (ap hc0)) | exact ap (ap (ap (ap hc0))) | exact ap (ap (ap (ap (ap hc0)))) | exact ap (ap (ap (ap (ap (ap hc0))))) | exact ap (ap (ap (ap (ap (ap (ap hc0)))))) | exact ap (ap (ap (ap (ap (ap (ap (ap hc0))))))) | exact ap (ap (ap (ap (ap (ap (ap (ap (ap hc0)))))))) | exact ap (ap (ap (ap (ap (ap (ap (ap (ap (ap hc0))))))))) | exact ap (ap (ap (ap (ap (ap (ap (ap (ap (ap (ap hc0)))))))))) | exact ap (ap (ap (ap (ap (ap (ap (ap (ap (ap (ap (ap hc0)))))))))))) rfl ⟨_, rfl⟩ ?_
  refine r_aload_n dX8_init_60 rfl ?_
  refine r_iconst dX8_init_61 ?_
  refine r_newaI dX8_init_62 ac_I rfl rfl rfl rfl ?_
  refine r_putF dX8_init_64 fl_X8_33 rfl (by first | exact hc0 | exact ap hc0 | exact ap (ap hc0) | exact ap (ap (ap hc0)) | exact ap (ap (ap (ap hc0))) | exact ap (ap (ap (ap (ap hc0)))) | exact ap (ap (ap (ap (ap (ap hc0))))) | exact ap (ap (ap (ap (ap (ap (ap hc0)))))) | exact ap (ap (ap (ap (ap (ap (ap (ap hc0))))))) | exact ap (ap (ap (ap (ap (ap (ap (ap (ap hc0)))))))) | exact ap (ap (ap (ap (ap (ap (ap (ap (ap (ap hc0))))))))) | exact ap (ap (ap (ap (ap (ap (ap (ap (ap (ap (ap hc0)))))))))) | exact ap (ap (ap (ap (ap (ap (ap (ap (ap (ap (ap (ap hc0)))))))))))) rfl ⟨_, rfl⟩ ?_
  refine r_aload_n dX8_init_67 rfl ?_
  refine r_bipush dX8_init_68 (by decide) ?_
  refine r_newaI dX8_init_70 ac_I rfl rfl rfl rfl ?_
  refine r_putF dX8_init_72 fl_X8_36 rfl (by first | exact hc0 | exact ap hc0 | exact ap (ap hc0) | exact ap (ap (ap hc0)) | exact ap (ap (ap (ap hc0))) | exact ap (ap (ap (ap (ap hc0)))) | exact ap (ap (ap (ap (ap (ap hc0))))) | exact ap (ap (ap (ap (ap (ap (ap hc0)))))) | exact ap (ap (ap (ap (ap (ap (ap (ap hc0))))))) | exact ap (ap (ap (ap (ap (ap (ap (ap (ap hc0)))))))) | exact ap (ap (ap (ap (ap (ap (ap (ap (ap (ap hc0))))))))) | exact ap (ap (ap (ap (ap (ap (ap (ap (ap (ap (ap hc0)))))))))) | exact ap (ap (ap (ap (ap (ap (ap (ap (ap (ap (ap (ap hc0)))))))))))) rfl ⟨_, rfl⟩ ?_
  refine r_return dX8_init_75 rfl rfl rfl ?_
  exact ⟨rfl, by simp [cshX8], ((((((((((NS.start hz0).arr 1 2 (by decide) (by decide) (by decide) (by simp [hlen] <;> omega)).arr 2 3 (by decide) (by decide) (by decide) (by simp [hlen] <;> omega)).arr 3 4 (by decide) (by decide) (by decide) (by simp [hlen] <;> omega)).arr 4 9 (by decide) (by decide) (by decide) (by simp [hlen] <;> omega)).arr 5 10 (by decide) (by decide) (by decide) (by simp [hlen] <;> omega)).arr 6 11 (by decide) (by decide) (by decide) (by simp [hlen] <;> omega)).arr 7 12 (by decide) (by decide) (by decide) (by simp [hlen] <;> omega)).arr 8 13 (by decide) (by decide) (by decide) (by simp [hlen] <;> omega)).arr 9 14 (by decide) (by decide) (by decide) (by simp [hlen] <;> omega))⟩
theorem i_X9 {sh : Sh} {μ : Mem} {a : Nat} (hlen : sh.length = a + 1) (hc0 : sh[a]? = some (8, 7)) (hz0 : ∀ j, μ.1 a j = 0)  : AMet yX9_init gX9_init sh [vR a] μ (CQ μ a sh cshX9 rfX9 [0, 1]) := by
  refine AMet.of (by decide) rfl (fun _ => rfl) rfl ?_
  refine r_aload_n dX9_init_0 rfl ?_
  refine r_objInit dX9_init_1 ml_X9_3 rfl rfl ?_
  refine r_aload_n dX9_init_4 rfl ?_
  refine r_sipush dX9_init_5 (by decide) ?_
  refine r_newaI dX9_init_8 ac_I rfl rfl rfl rfl ?_
  refine r_putF dX9_init_10 fl_X9_9 rfl (by first | exact hc0 | exact ap hc0 | exact ap (ap hc0) | exact ap (ap (ap hc0)) | exact ap (ap (ap (ap hc0))) | exact ap (ap (ap (ap (ap hc0)))) | exact ap (ap (ap (ap (ap (ap hc0))))) | exact ap (ap (ap (ap (ap (ap (ap hc0)))))) | exact ap (ap (ap (ap (ap (ap (ap (ap hc0))))))) | exact ap (ap (ap (ap (ap (ap (ap (ap (ap hc0)))))))) | exact ap (ap (ap (ap (ap (ap (ap (ap (ap (ap hc0))))))))) | exact ap (ap (ap (ap (ap (ap (ap (ap (ap (ap (ap hc0)))))))))) | exact ap (ap (ap (ap (ap (ap (ap (ap (ap (ap (ap (ap hc0)))))))))))) rfl ⟨_, rfl⟩ ?_
  refine r_return dX9_init_13 rfl rfl rfl ?_
  exact ⟨rfl, by simp [cshX9], ((NS.start hz0).arr 1 0 (by decide) (by decide) (by decide) (by simp [hlen] <;> omega))⟩
theorem i_X10 {sh : Sh} {μ : Mem} {a : Nat} (hlen : sh.length = a + 1) (hc0 : sh[a]? = some (9, 12)) (hz0 : ∀ j, μ.1 a j = 0)  : AMet yX10_init gX10_init sh [vR a] μ (CQ μ a sh cshX10 rfX10 [0, 1, 2, 3, 4, 5, 6, 7, 8, 9]) := by
  refine AMet.of (by decide) rfl (fun _ => rfl) rfl ?_
  refine r_aload_n dX10_init_0 rfl ?_
  refine r_objInit dX10_init_1 ml_X10_3 rfl rfl ?_
  refine r_aload_n dX10_init_4 rfl ?_
  refine r_iconst dX10_init_5 ?_
  refine r_newaL dX10_init_6 ac_L rfl rfl rfl rfl ?_
  refine r_putF dX10_init_8 fl_X10_9 rfl (by first | exact hc0 | exact ap hc0 | exact ap (ap hc0) | exact ap (ap (ap hc0)) | exact ap (ap (ap (ap hc0))) | exact ap (ap (ap (ap (ap hc0)))) | exact ap (ap (ap (ap (ap (ap hc0))))) | exact ap (ap (ap (ap (ap (ap (ap hc0)))))) | exact ap (ap (ap (ap (ap (ap (ap (ap hc0))))))) | exact ap (ap (ap (ap (ap (ap (ap (ap (ap hc0)))))))) | exact ap (ap (ap (ap (ap (ap (ap (ap (ap (ap hc0))))))))) | exact ap (ap (ap (ap (ap (ap (ap (ap (ap (ap (ap hc0)))))))))) | exact ap (ap (ap (ap (ap (ap (ap (ap (ap (ap (ap (ap hc0)))))))))))) rfl ⟨_, rfl⟩ ?_
  refine r_aload_n dX10_init_11 rfl ?_
  refine r_iconst dX10_init_12 ?_
  refine r_newaI dX10_init_13 ac_I rfl rfl rfl rfl ?_
  refine r_putF dX10_init_15 fl_X10_15 rfl (by first | exact hc0 | exact ap hc0 | exact ap (ap hc0) | exact ap (ap (ap hc0)) | exact ap (ap (ap (ap hc0))) | exact ap (ap (ap (ap (ap hc0)))) | exact ap (ap (ap (ap (ap (ap hc0))))) | exact ap (ap (ap (ap (ap (ap (ap hc0)))))) | exact ap (ap (ap (ap (ap (ap (ap (ap hc0))))))) | exact ap (ap (ap (ap (ap (ap (ap (ap (ap hc0)))))))) | exact ap (ap (ap (ap (ap (ap (ap (ap (ap (ap hc0))))))))) | exact ap (ap (ap (ap (ap (ap (ap (ap (ap (ap (ap hc0)))))))))) | exact ap (ap (ap (ap (ap (ap (ap (ap (ap (ap (ap (ap hc0)))))))))))) rfl ⟨_, rfl⟩ ?_
  refine r_aload_n dX10_init_18 rfl ?_
  refine r_iconst dX10_init_19 ?_
  refine r_newaI dX10_init_20 ac_I rfl rfl rfl rfl ?_
  refine r_putF dX10_init_22 fl_X10_19 rfl (by first | exact hc0 | exact ap hc0 | exact ap (ap hc0) | exact ap (ap (ap hc0)) | exact ap (ap (ap (ap hc0))) | exact ap (ap (ap (ap (ap hc0)))) | exact ap (ap (ap (ap (ap (ap hc0))))) | exact ap (ap (ap (ap (ap (ap (ap hc0)))))) | exact ap (ap (ap (ap (ap (ap (ap (ap hc0))))))) | exact ap (ap (ap (ap (ap (ap (ap (ap (ap hc0)))))))) | exact ap (ap (ap (ap (ap (ap (ap (ap (ap (ap hc0))))))))) | exact ap (ap (ap (ap (ap (ap (ap (ap (ap (ap (ap hc0)))))))))) | exact ap (ap (ap (ap (ap (ap (ap (ap (ap (ap (ap (ap hc0)))))))))))) rfl ⟨_, rfl⟩ ?_
  refine r_aload_n dX10_init_25 rfl ?_
  refine r_iconst dX10_init_26 ?_
  refine r_newaI dX10_init_27 ac_I rfl rfl rfl rfl ?_
  refine r_putF dX10_init_29 fl_X10_22 rfl (by first | exact hc0 | exact ap hc0 | exact ap (ap hc0) | exact ap (ap (ap hc0)) | exact ap (ap (ap (ap hc0))) | exact ap (ap (ap (ap (ap hc0)))) | exact ap (ap (ap (ap (ap (ap hc0))))) | exact ap (ap (ap (ap (ap (ap (ap hc0)))))) | exact ap (ap (ap (ap (ap (ap (ap (ap hc0))))))) | exact ap (ap (ap (ap (ap (ap (ap (ap (ap hc0)))))))) | exact ap (ap (ap (ap (ap (ap (ap (ap (ap (ap hc0))))))))) | exact ap (ap (ap (ap (ap (ap (ap (ap (ap (ap (ap hc0)))))))))) | exact ap (ap (ap (ap (ap (ap (ap (ap (ap (ap (ap (ap hc0)))))))))))) rfl ⟨_, rfl⟩ ?_
  refine r_aload_n dX10_init_32 rfl ?_
  refine r_bipush dX10_init_33 (by decide) ?_
  refine r_newaI dX10_init_35 ac_I rfl rfl rfl rfl ?_
  refine r_putF dX10_init_37 fl_X10_25 rfl (by first | exact hc0 | exact ap hc0 | exact ap (ap hc0) | exact ap (ap (ap hc0)) | exact ap (ap (ap (ap hc0))) | exact ap (ap (ap (ap (ap hc0)))) | exact ap (ap (ap (ap (ap (ap hc0))))) | exact ap (ap (ap (ap (ap (ap (ap hc0)))))) | exact ap (ap (ap (ap (ap (ap (ap (ap hc0))))))) | exact ap (ap (ap (ap (ap (ap (ap (ap (ap hc0)))))))) | exact ap (ap (ap (ap (ap (ap (ap (ap (ap (ap hc0))))))))) | exact ap (ap (ap (ap (ap (ap (ap (ap (ap (ap (ap hc0)))))))))) | exact ap (ap (ap (ap (ap (ap (ap (ap (ap (ap (ap (ap hc0)))))))))))) rfl ⟨_, rfl⟩ ?_
  refine r_aload_n dX10_init_40 rfl ?_
  refine r_bipush dX10_init_41 (by decide) ?_
  refine r_newaI dX10_init_43 ac_I rfl rfl rfl rfl ?_
  refine r_putF dX10_init_45 fl_X10_28 rfl (by first | exact hc0 | exact ap hc0 | exact ap (ap hc0) | exact ap (ap (ap hc0)) | exact ap (ap (ap (ap hc0))) | exact ap (ap (ap (ap (ap hc0)))) | exact ap (ap (ap (ap (ap (ap hc0))))) | exact ap (ap (ap (ap (ap (ap (ap hc0)))))) | exact ap (ap (ap (ap (ap (ap (ap (ap hc0))))))) | exact ap (ap (ap (ap (ap (ap (ap (ap (ap hc0)))))))) | exact ap (ap (ap (ap (ap (ap (ap (ap (ap (ap hc0))))))))) | exact ap (ap (ap (ap (ap (ap (ap (ap (ap (ap (ap hc0)))))))))) | exact ap (ap (ap (ap (ap (ap (ap (ap (ap (ap (ap (ap hc0)))))))))))) rfl ⟨_, rfl⟩ ?_
  refine r_aload_n dX10_init_48 rfl ?_
  refine r_bipush dX10_init_49 (by decide) ?_
  refine r_newaI dX10_init_51 ac_I rfl rfl rfl rfl ?_
  refine r_putF dX10_init_53 fl_X10_31 rfl (by first | exact hc0 | exact ap hc0 | exact ap (ap hc0) | exact ap (ap (ap hc0)) | exact ap (ap (ap (ap hc0))) | exact ap (ap (ap (ap (ap hc0)))) | exact ap (ap (ap (ap (ap (ap hc0))))) | exact ap (ap (ap (ap (ap (ap (ap hc0)))))) | exact ap (ap (ap (ap (ap (ap (ap (ap hc0))))))) | exact ap (ap (ap (ap (ap (ap (ap (ap (ap hc0)))))))) | exact ap (ap (ap (ap (ap (ap (ap (ap (ap (ap hc0))))))))) | exact ap (ap (ap (ap (ap (ap (ap (ap (ap (ap (ap hc0)))))))))) | exact ap (ap (ap (ap (ap (ap (ap (ap (ap (ap (ap (ap hc0)))))))))))) rfl ⟨_, rfl⟩ ?_
  refine r_aload_n dX10_init_56 rfl ?_
  refine r_bipush dX10_init_57 (by decide) ?_
  refine r_newaI dX10_init_59 ac_I rfl rfl rfl rfl ?_
  refine r_putF dX10_init_61 fl_X10_34 rfl (by first | exact hc0 | exact ap hc0 | exact ap (ap hc0) | exact ap (ap (ap hc0)) | exact ap (ap (ap (ap hc0))) | exact ap (ap (ap (ap (ap hc0)))) | exact ap (ap (ap (ap (ap (ap hc0))))) | exact ap (ap (ap (ap (ap (ap (ap hc0)))))) | exact ap (ap (ap (ap (ap (ap (ap (ap hc0))))))) | exact ap (ap (ap (ap (ap (ap (ap (ap (ap hc0)))))))) | exact ap (ap (ap (ap (ap (ap (ap (ap (ap (ap hc0))))))))) | exact ap (ap (ap (ap (ap (ap (ap (ap (ap (ap (ap hc0)))))))))) | exact ap (ap (ap (ap (ap (ap (ap (ap (ap (ap (ap (ap hc0)))))))))))) rfl ⟨_, rfl⟩ ?_
  refine r_aload_n dX10_init_64 rfl ?_
  refine r_bipush dX10_init_65 (by decide) ?_
  refine r_newaI dX10_init_67 ac_I rfl rfl rfl rfl ?_
  refine r_putF dX10_init_69 fl_X10_37 rfl (by first | exact hc0 | exact ap hc0 | exact ap (ap hc0) | exact ap (ap (ap hc0)) | exact ap (ap (ap (ap hc0))) | exact ap (ap (ap (ap (ap hc0)))) | exact ap (ap (ap (ap (ap (ap hc0))))) | exact ap (ap (ap (ap (ap (ap (ap hc0)))))) | exact ap (ap (ap (ap (ap (ap (ap (ap hc0))))))) | exact ap (ap (ap (ap (ap (ap (ap (ap (ap hc0)))))))) | exact ap (ap (ap (ap (ap (ap (ap (ap (ap (ap hc0))))))))) | exact ap (ap (ap (ap (ap (ap (ap (ap (ap (ap (ap hc0)))))))))) | exact ap (ap (ap (ap (ap (ap (ap (ap (ap (ap (ap (ap hc0)))))))))))) rfl ⟨_, rfl⟩ ?_
  refine r_return dX10_init_72 rfl rfl rfl ?_
  exact ⟨rfl, by simp [cshX10], ((((((((((NS.start hz0).arr 1 1 (by decide) (by decide) (by decide) (by simp [hlen] <;> omega)).arr 2 2 (by decide) (by decide) (by decide) (by simp [hlen] <;> omega)).arr 3 3 (by decide) (by decide) (by decide) (by simp [hlen] <;> omega)).arr 4 4 (by decide) (by decide) (by decide) (by simp [hlen] <;> omega)).arr 5 6 (by decide) (by decide) (by decide) (by simp [hlen] <;> omega)).arr 6 7 (by decide) (by decide) (by decide) (by simp [hlen] <;> omega)).arr 7 9 (by decide) (by decide) (by decide) (by simp [hlen] <;> omega)).arr 8 10 (by decide) (by decide) (by decide) (by simp [hlen] <;> omega)).arr 9 11 (by decide) (by decide) (by decide) (by simp [hlen] <;> omega))⟩
theorem apL {sh : Sh} {a : Nat} {x : Nat × Nat} (h : sh.length = a) : (sh ++ [x])[a]? = some x := by
  rw [List.getElem?_append_right (by omega), show a - sh.length = 0 by omega]; rfl
theorem bornZ (μ : Mem) (a : Nat) : ∀ j, (born μ a).1 a j = 0 := fun j => born_self1 μ a j

