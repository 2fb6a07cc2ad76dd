/-! 04.base: taken from whole (wip/p37/port.py) -/
/-! 04.base: the abstract world: every cell by a number, ints as Int; what a method's code does there (AW), its contract (AMet) -/
abbrev AV : Type := Int ⊕ (Int ⊕ (Option Nat ⊕ Nat))
abbrev vI (x : Int) : AV := .inl x
abbrev vL (x : Int) : AV := .inr (.inl x)
abbrev vR (r : Nat) : AV := .inr (.inr (.inl (some r)))
abbrev vN : AV := .inr (.inr (.inl none))
abbrev vX (j : Nat) : AV := .inr (.inr (.inr j))
/-- a world: where its cells begin, the tables' classes, slots, array classes, what lies outside, the script -/
abbrev Wd : Type := Nat × (Nat → ClassId) × (Nat → Nat → Nat) × (Nat → ClassId) × (Nat → Nat) × Nat × Nat × (Nat → Int32)
def wB (w : Wd) : Nat := w.1
def wG (w : Wd) : va_G := (w.2.1, w.2.2.1)
def wA (w : Wd) : Nat → ClassId := w.2.2.2.1
def wE (w : Wd) : Nat → Nat := w.2.2.2.2.1
def wS (w : Wd) : Nat := w.2.2.2.2.2.1
def wL (w : Wd) : Nat := w.2.2.2.2.2.2.1
def wXs (w : Wd) : Nat → Int32 := w.2.2.2.2.2.2.2
def wO (w : Wd) : Nat → Prop := fun q => wB w ≤ q
def rv (w : Wd) : Option Nat → Value
  | none => .null
  | some r => .ref (wB w + r)
def cv (w : Wd) : AV → Value
  | .inl x => .int (Int32.ofInt x)
  | .inr (.inl x) => .long (Int64.ofInt x)
  | .inr (.inr (.inl o)) => rv w o
  | .inr (.inr (.inr j)) => .ref (wE w j)
/-- the kinds of the cells: below 12 an object of that class, 20 int[], 21 long[], 22 byte[], 23 boolean[], else Cargo[]; and how long -/
abbrev Sh : Type := List (Nat × Nat)
abbrev Mem : Type := (Nat → Int → Int) × (Nat → Int → Int) × (Nat → Int → Option Nat)
def tyOf (c : Nat) : Nat → FieldType := match c with
  | 0 => tyX0 | 1 => tyX1 | 2 => tyX2 | 3 => tyX3 | 4 => tyX4 | 5 => tyX5 | 6 => tyX6 | 7 => tyX8 | 8 => tyX9 | 9 => tyX10 | _ => tyX11
def fieldV (w : Wd) (μ : Mem) (a c k : Nat) : Value := if (tyOf c k).isReference then rv w (μ.2.2 a k) else .int (Int32.ofInt (μ.1 a k))
def nz (x : Int) : Int := if x = 0 then 0 else 1
def cellOf (w : Wd) (μ : Mem) (a : Nat) (k : Nat × Nat) : va_E :=
  if k.1 < 12 then .inr (k.1, (List.range k.2).map (fieldV w μ a k.1))
  else if k.1 = 20 then .inl (wA w 0, k.2, .inl fun j => Int32.ofInt (μ.1 a j))
  else if k.1 = 21 then .inl (wA w 1, k.2, .inr (.inl fun j => Int64.ofInt (μ.2.1 a j)))
  else if k.1 = 22 then .inl (wA w 2, k.2, .inl fun j => Int32.ofInt (μ.1 a j))
  else if k.1 = 23 then .inl (wA w 3, k.2, .inl fun j => Int32.ofInt (nz (μ.1 a j)))
  else .inl (wA w 4, k.2, .inr (.inr (.inr (.inr fun j => (μ.2.2 a j).map (wB w + ·)))))
def wsOf (w : Wd) (sh : Sh) (μ : Mem) : va_W := sh.mapIdx fun a k => (wB w + a, cellOf w μ a k)
def tysW (w : Wd) : List (ClassId × FieldType) := [(wA w 0, .int), (wA w 1, .long), (wA w 2, .byte), (wA w 3, .boolean), (wA w 4, .object "LoadSpans$Cargo")]
theorem ws_get {w : Wd} {sh : Sh} {μ : Mem} {a : Nat} {k : Nat × Nat} (h : sh[a]? = some k) : (wsOf w sh μ)[a]? = some (wB w + a, cellOf w μ a k) := by
  simp [wsOf, h]
theorem ws_apart (w : Wd) (sh : Sh) (μ : Mem) : va_D (wO w) (wsOf w sh μ) := by
  have key : ∀ (i : Nat) (p : Nat × va_E), (wsOf w sh μ)[i]? = some p → p.1 = wB w + i := by
    intro i p h
    simp only [wsOf, List.getElem?_mapIdx] at h
    cases hs : sh[i]? with
    | none => rw [hs] at h; cases h
    | some k => rw [hs] at h; cases h; rfl
  refine ⟨fun i j p q hp hq he => ?_, fun k q hq => ?_⟩
  · have h1 := key i p hp
    have h2 := key j q hq
    omega
  · show wB w ≤ q.1
    have h1 := key k q hq
    omega
theorem ws_set {w : Wd} {sh : Sh} {μ μ' : Mem} {a : Nat} {k : Nat × Nat} {e : va_E} (h : sh[a]? = some k) (he : cellOf w μ' a k = e) (ho : ∀ b, b ≠ a → ∀ k, cellOf w μ' b k = cellOf w μ b k) :
    (wsOf w sh μ).set a (wB w + a, e) = wsOf w sh μ' := by
  have hlt : a < sh.length := (List.getElem?_eq_some_iff.mp h).1
  apply List.ext_getElem?
  intro i
  by_cases hi : i = a
  · subst hi
    rw [ws_get h, he, List.getElem?_set_self (by simpa [wsOf] using hlt)]
  · rw [List.getElem?_set_ne (Ne.symm hi)]
    simp only [wsOf, List.getElem?_mapIdx]
    cases hs : sh[i]? with
    | none => rfl
    | some q => simp [ho i hi q]
theorem ws_push {w : Wd} {sh : Sh} {μ μ' : Mem} {k : Nat × Nat} (ho : ∀ b, b < sh.length → ∀ k, cellOf w μ' b k = cellOf w μ b k) :
    wsOf w (sh ++ [k]) μ' = wsOf w sh μ ++ [(wB w + sh.length, cellOf w μ' sh.length k)] := by
  apply List.ext_getElem?
  intro i
  simp only [wsOf, List.getElem?_mapIdx]
  rcases Nat.lt_trichotomy i sh.length with h | h | h
  · rw [List.getElem?_append_left h, List.getElem?_append_left (by simpa using h)]
    simp [List.getElem?_mapIdx, List.getElem?_eq_getElem h, ho i h]
  · subst h
    simp
  · rw [List.getElem?_eq_none (by simp; omega), List.getElem?_eq_none (by simp; omega)]
    rfl
/-! what lies outside: script, String constants, KNOWN, statics -/
def sxT : List (String × Nat × String × List Int) := [("LoadSpans$Reader", 38, "empty", [101, 109, 112, 116, 121]), ("LoadSpans$Reader", 48, "span", [115, 112, 97, 110]), ("LoadSpans$Reader", 53, "hold", [104, 111, 108, 100]), ("LoadSpans$Reader", 58, "spot", [115, 112, 111, 116]), ("LoadSpans$Reader", 68, "joint", [106, 111, 105, 110, 116]), ("LoadSpans$Reader", 73, "bin", [98, 105, 110]), ("LoadSpans$Reader", 78, "tank", [116, 97, 110, 107]), ("LoadSpans$Reader", 83, "burn", [98, 117, 114, 110]), ("LoadSpans$Reader", 93, "stop", [115, 116, 111, 112]), ("LoadSpans$Reader", 126, "pallet", [112, 97, 108, 108, 101, 116]), ("LoadSpans$Reader", 132, "bulk", [98, 117, 108, 107]), ("LoadSpans$Reader", 172, "front", [102, 114, 111, 110, 116]), ("LoadSpans$Reader", 174, "back", [98, 97, 99, 107]), ("LoadSpans$Tokens", 69, "empty", [101, 109, 112, 116, 121]), ("LoadSpans$Tokens", 75, "span", [115, 112, 97, 110]), ("LoadSpans$Tokens", 77, "hold", [104, 111, 108, 100]), ("LoadSpans$Tokens", 79, "front", [102, 114, 111, 110, 116]), ("LoadSpans$Tokens", 81, "back", [98, 97, 99, 107]), ("LoadSpans$Tokens", 83, "spot", [115, 112, 111, 116]), ("LoadSpans$Tokens", 85, "joint", [106, 111, 105, 110, 116]), ("LoadSpans$Tokens", 87, "bin", [98, 105, 110]), ("LoadSpans$Tokens", 89, "tank", [116, 97, 110, 107]), ("LoadSpans$Tokens", 91, "burn", [98, 117, 114, 110]), ("LoadSpans$Tokens", 93, "stop", [115, 116, 111, 112]), ("LoadSpans$Tokens", 95, "pallet", [112, 97, 108, 108, 101, 116]), ("LoadSpans$Tokens", 97, "bulk", [98, 117, 108, 107])]
def nestL : List (String × Nat × MethodName × String) := [("LoadSpans", 9, ⟨"LoadSpans$Reader", "<init>", "()V"⟩, "LoadSpans"), ("LoadSpans$Reader", 11, ⟨"LoadSpans$Tokens", "<init>", "()V"⟩, "LoadSpans"), ("LoadSpans$Plane", 20, ⟨"LoadSpans$Floor", "<init>", "()V"⟩, "LoadSpans"), ("LoadSpans$Plane", 27, ⟨"LoadSpans$Voyage", "<init>", "()V"⟩, "LoadSpans"), ("LoadSpans", 28, ⟨"LoadSpans$Cargo", "<init>", "()V"⟩, "LoadSpans"), ("LoadSpans$History", 17, ⟨"LoadSpans$Cargo", "<init>", "()V"⟩, "LoadSpans"), ("LoadSpans", 45, ⟨"LoadSpans$Image", "<init>", "()V"⟩, "LoadSpans"), ("LoadSpans$Image", 18, ⟨"LoadSpans$Cargo", "<init>", "()V"⟩, "LoadSpans"), ("LoadSpans", 55, ⟨"LoadSpans$Table", "<init>", "()V"⟩, "LoadSpans"), ("LoadSpans", 62, ⟨"LoadSpans$Mender", "<init>", "()V"⟩, "LoadSpans")]
def sxD : String × Nat × String × List Int := ("", 0, "", [])
def sxO (i : Nat) : String := (sxT.getD i sxD).1
def sxI (i : Nat) : Nat := (sxT.getD i sxD).2.1
def sxX (i : Nat) : String := (sxT.getD i sxD).2.2.1
def sxB (i : Nat) : List Int := (sxT.getD i sxD).2.2.2
def ExtA (w : Wd) (U : State) (H : Heap) : Prop := (wS w < wB w ∧ wE w 62 = wS w ∧ wL w ≤ 260) ∧ va_X (wS w) (wL w) (wXs w) U H
def ExtB (w : Wd) (U : State) (H : Heap) : Prop :=
  va_Z "java/lang/String" "COMPACT_STRINGS" "Z" (.int 1) (wO w) U H ∧ va_Z "java/lang/String" "COMPACT_STRINGS" "Z" (.int 1) (wO w) U H ∧ va_Z "java/lang/String" "COMPACT_STRINGS" "Z" (.int 1) (wO w) U H ∧
  ∃ v : Value, (v = .null ∨ v = .ref (wE w 61)) ∧ va_Z "jdk/internal/util/Preconditions" "SIOOBE_FORMATTER" "Ljava/util/function/BiFunction;" v (wO w) U H
def ExtC (w : Wd) (U : State) (H : Heap) : Prop := ∀ i : Nat, i < 26 →
  va_O "java/lang/String" (wE w i) (wO w) U H ∧ va_OF "java/lang/String" "coder" "B" (.int 0) (wE w i) (wO w) U H ∧ va_OF "java/lang/String" "value" "[B" (.ref (wE w (26 + i))) (wE w i) (wO w) U H ∧
  va_T .byte (wE w (26 + i)) (sxB i).length (fun j => .int (Int32.ofInt ((sxB i).getD j 0))) (wO w) U H
def ExtD (w : Wd) (U : State) : Prop := (∀ i : Nat, i < 26 → vk_R (sxO i) (sxI i) (sxX i) (wE w i) U) ∧ (∀ q ∈ nestL, va_Nw (.methodLinkNest q.1 q.2.1 q.2.2.1 q.2.2.2) U) ∧ va_AO "LoadSpans$Cargo" U
def ExtOK (w : Wd) (U : State) (H : Heap) : Prop := ExtA w U H ∧ ExtB w U H ∧ ExtC w U H ∧ ExtD w U
theorem ext_kept {w : Wd} {U : State} {H H1 : Heap} (h : ExtOK w U H) (hq : ∀ a : Nat, a < H.size → ¬ wO w a → H1[a]? = H[a]?) : ExtOK w U H1 := by
  obtain ⟨⟨a1, a2⟩, ⟨b1, b2, b3, v, hv, b4⟩, hc, hd⟩ := h
  have hs : wS w < H.size := by
    obtain ⟨scr, h1, -⟩ := a2
    exact (Array.getElem?_eq_some_iff.mp h1).1
  refine ⟨⟨a1, a2.kept (hq _ hs (Nat.not_le.mpr a1.1))⟩, ⟨b1.kept hq, b2.kept hq, b3.kept hq, v, hv, b4.kept hq⟩, fun i hi => ?_, hd⟩
  obtain ⟨c1, c2, c3, c4⟩ := hc i hi
  exact ⟨c1.kept hq, c2.kept hq, c3.kept hq, c4.kept hq⟩
theorem ext_warm {w : Wd} {s U : State} {H : Heap} (hW : s.WarmedH U.vm) (h : ExtOK w s H) : ExtOK w U H := by
  obtain ⟨⟨a1, a2⟩, ⟨b1, b2, b3, v, hv, b4⟩, hc, d1, d2, d3⟩ := h
  have hvm := hW.alike
  refine ⟨⟨a1, a2.moved hvm⟩, ⟨b1.moved hvm, b2.moved hvm, b3.moved hvm, v, hv, b4.moved hvm⟩, fun i hi => ?_, fun i hi => (d1 i hi).warm hW, fun q hq => (d2 q hq).warmM hW, d3.moved hvm⟩
  obtain ⟨c1, c2, c3, c4⟩ := hc i hi
  exact ⟨c1.moved hvm, c2.moved hvm, c3.moved hvm, c4.moved hvm⟩
theorem ext_same {w : Wd} {u U : State} {H : Heap} (hv : U.vm = u.vm) (h : ExtOK w u H) : ExtOK w U H := by
  obtain ⟨⟨a1, a2⟩, ⟨b1, b2, b3, v, hv', b4⟩, hc, d1, d2, d3⟩ := h
  have hvm : u.vm.Alike U.vm := by rw [hv]; exact Vm.Alike.refl _
  refine ⟨⟨a1, a2.moved hvm⟩, ⟨b1.moved hvm, b2.moved hvm, b3.moved hvm, v, hv', b4.moved hvm⟩, fun i hi => ?_, fun i hi => (d1 i hi).same hv, fun q hq => (d2 q hq).same rfl hv.symm, d3.moved hvm⟩
  obtain ⟨c1, c2, c3, c4⟩ := hc i hi
  exact ⟨c1.moved hvm, c2.moved hvm, c3.moved hvm, c4.moved hvm⟩
/-! a method: own class, bytes, locals, what it returns, whether it is a constructor, frames of room, cells and slots that it makes -/
abbrev Gm : Type := String × ByteArray × Nat × Option FieldType × Bool × Nat × Nat × Nat
def gO (g : Gm) : String := g.1
def gC (g : Gm) : ByteArray := g.2.1
def gL (g : Gm) : Nat := g.2.2.1
def gR (g : Gm) : Option FieldType := g.2.2.2.1
def gI (g : Gm) : Bool := g.2.2.2.2.1
def gD (g : Gm) : Nat := g.2.2.2.2.2.1
def gM (g : Gm) : Nat := g.2.2.2.2.2.2.1
def gS (g : Gm) : Nat := g.2.2.2.2.2.2.2
def rmOf (g : Gm) : Room := { frames := gD g, cells := gM g, slots := gS g, locals := gD g * 36 }
def GW : List Cond := lw_tbl.filter goodWord
theorem gw_in {w : Cond} {i : Nat} (h : lw_tbl[i]? = some w) (hg : goodWord w = true) : w ∈ GW := List.mem_filter.mpr ⟨List.mem_of_getElem? h, hg⟩
def wsm (y : MethodName) (g : Gm) : List Cond := .code y (gC g) (gL g) (gR g) :: GW
/-- what a method's body knows of the machine -/
def Cx (g : Gm) (w : Wd) (p : Program) (s : State) (m : MethodId) (args : Array Value) (meth : Method) (c : Code) : Prop :=
  p.tables.exec = Jvm.exec ∧ c.code = gC g ∧ meth.sig.returnType = gR g ∧ c.maxLocals = gL g ∧ meth.locks = false ∧ (∀ x ∈ GW, x.before args s = true) ∧ s.vm.findClass (gO g) = some m.cls ∧ (gI g = true → meth.name = "<init>") ∧
  va_K (wG w) vwCl (tysW w) s ∧ ExtOK w s s.heap ∧ wB w ≤ s.heap.size
def QcG (w : Wd) (mc : Nat) (P : Option AV → Sh → Mem → Prop) : Array Value → State → Outcome → State → Prop := fun _ st oc t =>
  (∃ (r : Option AV) (sh : Sh) (μ : Mem), oc = .returned (r.map (cv w)) ∧ P r sh μ ∧ va_P (wG w) vwCl (wsOf w sh μ) t.heap ∧ st.heap.size + mc = wB w + sh.length ∧ va_K (wG w) vwCl (tysW w) t) ∧ va_F (wO w) st t
/-- locals by place: what is known of each -/
abbrev Ls : Type := List (Option AV)
def prs (w : Wd) : Nat → Ls → List (Nat × Value)
  | _, [] => []
  | i, none :: t => prs w (i + 1) t
  | i, some v :: t => (i, cv w v) :: prs w (i + 1) t
theorem prs_mem {w : Wd} : ∀ (ls : Ls) (i : Nat) (q : Nat × Value), q ∈ prs w i ls ↔ ∃ (k : Nat) (v : AV), ls[k]? = some (some v) ∧ q = (i + k, cv w v)
  | [], i, q => by simp [prs]
  | none :: t, i, q => by
    rw [prs, prs_mem t (i + 1) q]
    constructor
    · rintro ⟨k, v, h1, h2⟩
      exact ⟨k + 1, v, h1, by rw [h2]; congr 1; omega⟩
    · rintro ⟨k, v, h1, h2⟩
      cases k with
      | zero => simp at h1
      | succ k => exact ⟨k, v, h1, by rw [h2]; congr 1; omega⟩
  | some u :: t, i, q => by
    rw [prs, List.mem_cons, prs_mem t (i + 1) q]
    constructor
    · rintro (h | ⟨k, v, h1, h2⟩)
      · exact ⟨0, u, rfl, h⟩
      · exact ⟨k + 1, v, h1, by rw [h2]; congr 1; omega⟩
    · rintro ⟨k, v, h1, h2⟩
      cases k with
      | zero => simp at h1; subst h1; exact Or.inl h2
      | succ k => exact Or.inr ⟨k, v, h1, by rw [h2]; congr 1; omega⟩
def lvr (w : Wd) (la : Array Slot) (nL : Nat) (ls : Ls) : Prop := lv_has la nL (prs w 0 ls)
def lget : Ls → Nat → Option AV
  | [], _ => none
  | o :: _, 0 => o
  | _ :: t, n + 1 => lget t n
theorem lget_some {ls : Ls} {i : Nat} {v : AV} (h : lget ls i = some v) : ls[i]? = some (some v) := by
  induction ls generalizing i with
  | nil => simp [lget] at h
  | cons o t ih =>
    cases i with
    | zero => simp [lget] at h; simp [h]
    | succ i => exact ih h
def unl : Option AV → Option AV
  | some (.inr (.inl _)) => none
  | o => o
def lset1 : Ls → Nat → AV → Ls
  | [], _, _ => []
  | _ :: t, 0, v => some v :: t
  | o :: t, 1, v => unl o :: lset1 t 0 v
  | o :: t, n + 2, v => o :: lset1 t (n + 1) v
def lset2 : Ls → Nat → AV → Ls
  | [], _, _ => []
  | _ :: [], 0, v => [some v]
  | _ :: _ :: t, 0, v => some v :: none :: t
  | o :: t, 1, v => unl o :: lset2 t 0 v
  | o :: t, n + 2, v => o :: lset2 t (n + 1) v
def cat2 : AV → Bool
  | .inr (.inl _) => true
  | _ => false
theorem unl_some {o : Option AV} {u : AV} (h : unl o = some u) : o = some u ∧ cat2 u = false := by
  match o, h with
  | none, h => simp [unl] at h
  | some (.inl x), h => simp [unl] at h; subst h; exact ⟨rfl, rfl⟩
  | some (.inr (.inl x)), h => simp [unl] at h
  | some (.inr (.inr x)), h => simp [unl] at h; subst h; exact ⟨rfl, rfl⟩
theorem lset1_some : ∀ (ls : Ls) (i : Nat) (v : AV) (k : Nat) (u : AV), (lset1 ls i v)[k]? = some (some u) → (k = i ∧ u = v) ∨ (k ≠ i ∧ ls[k]? = some (some u) ∧ (k + 1 = i → cat2 u = false))
  | [], i, v, k, u, h => by simp [lset1] at h
  | o :: t, 0, v, k, u, h => by
    cases k with
    | zero => simp [lset1] at h; exact Or.inl ⟨rfl, h.symm⟩
    | succ k => exact Or.inr ⟨by omega, by simpa [lset1] using h, by omega⟩
  | o :: t, 1, v, k, u, h => by
    cases k with
    | zero => simp [lset1] at h; have := unl_some h; exact Or.inr ⟨by omega, by simp [this.1], fun _ => this.2⟩
    | succ k =>
      simp [lset1] at h
      rcases lset1_some t 0 v k u h with ⟨h1, h2⟩ | ⟨h1, h2, h3⟩
      · exact Or.inl ⟨by omega, h2⟩
      · exact Or.inr ⟨by omega, by simpa using h2, by omega⟩
  | o :: t, n + 2, v, k, u, h => by
    cases k with
    | zero => simp [lset1] at h; exact Or.inr ⟨by omega, by simp [h], by omega⟩
    | succ k =>
      simp [lset1] at h
      rcases lset1_some t (n + 1) v k u h with ⟨h1, h2⟩ | ⟨h1, h2, h3⟩
      · exact Or.inl ⟨by omega, h2⟩
      · exact Or.inr ⟨by omega, by simpa using h2, fun e => h3 (by omega)⟩
theorem lset2_some : ∀ (ls : Ls) (i : Nat) (v : AV) (k : Nat) (u : AV), (lset2 ls i v)[k]? = some (some u) → (k = i ∧ u = v) ∨ (k ≠ i ∧ k ≠ i + 1 ∧ ls[k]? = some (some u) ∧ (k + 1 = i → cat2 u = false))
  | [], i, v, k, u, h => by simp [lset2] at h
  | [o], 0, v, k, u, h => by
    cases k with
    | zero => simp [lset2] at h; exact Or.inl ⟨rfl, h.symm⟩
    | succ k => simp [lset2] at h
  | o :: o2 :: t, 0, v, k, u, h => by
    match k, h with
    | 0, h => simp [lset2] at h; exact Or.inl ⟨rfl, h.symm⟩
    | 1, h => simp [lset2] at h
    | k + 2, h => exact Or.inr ⟨by omega, by omega, by simpa [lset2] using h, by omega⟩
  | o :: t, 1, v, k, u, h => by
    cases k with
    | zero => simp [lset2] at h; have := unl_some h; exact Or.inr ⟨by omega, by omega, by simp [this.1], fun _ => this.2⟩
    | succ k =>
      simp [lset2] at h
      rcases lset2_some t 0 v k u h with ⟨h1, h2⟩ | ⟨h1, h1', h2, h3⟩
      · exact Or.inl ⟨by omega, h2⟩
      · exact Or.inr ⟨by omega, by omega, by simpa using h2, by omega⟩
  | o :: t, n + 2, v, k, u, h => by
    cases k with
    | zero => simp [lset2] at h; exact Or.inr ⟨by omega, by omega, by simp [h], by omega⟩
    | succ k =>
      simp [lset2] at h
      rcases lset2_some t (n + 1) v k u h with ⟨h1, h2⟩ | ⟨h1, h1', h2, h3⟩
      · exact Or.inl ⟨by omega, h2⟩
      · exact Or.inr ⟨by omega, by omega, by simpa using h2, fun e => h3 (by omega)⟩
theorem cv_cat (w : Wd) (v : AV) : (cv w v).category = if cat2 v then 2 else 1 := by
  match v with
  | .inl x => rfl
  | .inr (.inl x) => rfl
  | .inr (.inr (.inl none)) => rfl
  | .inr (.inr (.inl (some r))) => rfl
  | .inr (.inr (.inr j)) => rfl
theorem lvr_get {w : Wd} {la : Array Slot} {nL : Nat} {ls : Ls} {i : Nat} {v : AV} (h : lvr w la nL ls) (hv : lget ls i = some v) : la[i]? = some (.val (cv w v)) :=
  h.2.2 (i, cv w v) ((prs_mem ls 0 _).mpr ⟨i, v, lget_some hv, by simp⟩)
theorem lvr_set1 {w : Wd} {la : Array Slot} {nL : Nat} {ls : Ls} {i : Nat} {v : AV} (h : lvr w la nL ls) (hi : i < nL) (hc : cat2 v = false) : ∃ la', storeLocals la i (cv w v) = some la' ∧ lvr w la' nL (lset1 ls i v) := by
  obtain ⟨la', e, h1, h2, h3⟩ := lv_store1 (v := cv w v) h hi (by rw [cv_cat, hc]; rfl)
  refine ⟨la', e, h1, h2, fun q hq => h3 q ?_⟩
  obtain ⟨k, u, hk, rfl⟩ := (prs_mem _ 0 q).mp hq
  rcases lset1_some ls i v k u hk with ⟨a, b⟩ | ⟨a, b, c⟩
  · subst a; subst b; simp
  · refine List.mem_cons_of_mem _ (List.mem_filter.mpr ⟨(prs_mem ls 0 _).mpr ⟨k, u, b, rfl⟩, ?_⟩)
    simp only [Nat.zero_add, Bool.and_eq_true, Bool.not_eq_true', beq_eq_false_iff_ne, ne_eq]
    refine ⟨a, ?_⟩
    by_cases hk1 : k + 1 = i
    · rw [cv_cat, c hk1]; simp
    · simp [hk1]
theorem lvr_set2 {w : Wd} {la : Array Slot} {nL : Nat} {ls : Ls} {i : Nat} {v : AV} (h : lvr w la nL ls) (hi : i + 1 < nL) (hc : cat2 v = true) : ∃ la', storeLocals la i (cv w v) = some la' ∧ lvr w la' nL (lset2 ls i v) := by
  obtain ⟨la', e, h1, h2, h3⟩ := lv_store2 (v := cv w v) h hi (by rw [cv_cat, hc]; rfl)
  refine ⟨la', e, h1, h2, fun q hq => h3 q ?_⟩
  obtain ⟨k, u, hk, rfl⟩ := (prs_mem _ 0 q).mp hq
  rcases lset2_some ls i v k u hk with ⟨a, b⟩ | ⟨a, a', b, c⟩
  · subst a; subst b; simp
  · refine List.mem_cons_of_mem _ (List.mem_filter.mpr ⟨(prs_mem ls 0 _).mpr ⟨k, u, b, rfl⟩, ?_⟩)
    simp only [Nat.zero_add, Bool.and_eq_true, Bool.not_eq_true', beq_eq_false_iff_ne, ne_eq]
    refine ⟨a, a', ?_⟩
    by_cases hk1 : k + 1 = i
    · rw [cv_cat, c hk1]; simp
    · simp [hk1]
/-- from the code at pc, with these locals, stack and memory, the method comes to its end with P of what it returns and of the memory -/
def AW (g : Gm) (sh : Sh) (μ : Mem) (cs ss pc : Nat) (ls : Ls) (st : List AV) (P : Option AV → Sh → Mem → Prop) : Prop :=
  ∀ (w : Wd) (p : Program) (l : Launch) (e : Env) (s : State) (m : MethodId) (args : Array Value) (below : List Frame) (meth : Method) (c : Code) (H : Heap) (locs : List Loc) (la : Array Slot),
    Cx g w p s m args meth c → va_P (wG w) vwCl (wsOf w sh μ) H → s.heap.size + cs = wB w + sh.length → va_S (wO w) s.heap H locs → lvr w la (gL g) ls →
    W p l e (rmOf g) s m args below meth c H locs cs ss (MQ below (QcG w (gM g) P) args s (gM g) (gS g) (wO w)) (F0 m pc la (st.map (cv w)))
/-- where a method begins: its world -/
def StW (w : Wd) (sh : Sh) (μ : Mem) (U : State) : Prop := U.heap.size = wB w + sh.length ∧ va_P (wG w) vwCl (wsOf w sh μ) U.heap ∧ va_K (wG w) vwCl (tysW w) U ∧ ExtOK w U U.heap
/-- a method's contract: with these arguments and this memory it returns, with P -/
def AMet (y : MethodName) (g : Gm) (sh : Sh) (vs : List AV) (μ : Mem) (P : Option AV → Sh → Mem → Prop) : Prop :=
  ∀ (w : Wd) (l : Launch), Met l y (wsm y g) (rmOf g) (va_Pc (vs.map (cv w)) (StW w sh μ)) (QcG w (gM g) P) (gM g) (gS g) (wO w)
def argsL : List AV → Ls
  | [] => []
  | .inr (.inl x) :: t => some (vL x) :: none :: argsL t
  | v :: t => some v :: argsL t
def padL : Nat → Ls → Ls
  | 0, ls => ls
  | n + 1, [] => none :: padL n []
  | n + 1, o :: t => o :: padL n t
def entL (g : Gm) (vs : List AV) : Ls := padL (gL g) (argsL vs)
/-- how large the heap is: counted by what the world holds -/
theorem withSize {w : Wd} {sh : Sh} {μ : Mem} {cs ss : Nat} {p : Program} {l : Launch} {e : Env} {R : Room} {s : State} {m : MethodId} {args : Array Value} {below : List Frame} {meth : Method} {c : Code} {H : Heap} {locs : List Loc} {Q : State → Prop} {f : JFrame}
    (hP : va_P (wG w) vwCl (wsOf w sh μ) H) (hS : va_S (wO w) s.heap H locs) (hz : s.heap.size + cs = wB w + sh.length) (hb : wB w ≤ s.heap.size)
    (k : H.size = wB w + sh.length → W p l e R s m args below meth c H locs cs ss Q f) : W p l e R s m args below meth c H locs cs ss Q f := by
  intro T hT X
  refine k ?_ T hT X
  have h1 : T.heap.size ≤ s.heap.size + cs := X.same.2.2.1
  rw [hT] at h1
  have h2 := hS.1
  cases hn : sh.length with
  | zero => omega
  | succ n =>
    have hlt : n < sh.length := by omega
    have h3 := (hP n _ (ws_get (List.getElem?_eq_getElem hlt))).lt
    simp only at h3
    omega

