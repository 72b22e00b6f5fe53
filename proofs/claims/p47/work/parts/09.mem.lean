/-! ===== THE HEAP AS TYPED MAPS: tags (class + 1; 20 byte[], 21 int[], 22 long[], 23 boolean[], 24 Guild[], 25 Strip[], 26 int[][]), lengths, ints, longs, references, the heap's size ===== -/
/-- the script: where it lies, how long, its ints -/
abbrev SC : Type := Nat × Nat × (Nat → Int32)
abbrev Mm : Type := (Nat → Nat) × (Nat → Nat) × (Nat → Nat → Int32) × (Nat → Nat → Int64) × (Nat → Nat → Option Nat) × Nat
def tg (μ : Mm) (a : Nat) : Nat := μ.1 a
def ln (μ : Mm) (a : Nat) : Nat := μ.2.1 a
def mI (μ : Mm) (a k : Nat) : Int32 := μ.2.2.1 a k
def mL (μ : Mm) (a k : Nat) : Int64 := μ.2.2.2.1 a k
def mP (μ : Mm) (a k : Nat) : Option Nat := μ.2.2.2.2.1 a k
def hz (μ : Mm) : Nat := μ.2.2.2.2.2
def u1 {α : Type} (f : Nat → α) (a : Nat) (v : α) : Nat → α := fun b => if b = a then v else f b
def u2 {α : Type} (f : Nat → Nat → α) (a k : Nat) (v : α) : Nat → Nat → α := fun b j => if b = a ∧ j = k then v else f b j
def sI (μ : Mm) (a k : Nat) (v : Int32) : Mm := (μ.1, μ.2.1, u2 μ.2.2.1 a k v, μ.2.2.2.1, μ.2.2.2.2.1, μ.2.2.2.2.2)
def sL (μ : Mm) (a k : Nat) (v : Int64) : Mm := (μ.1, μ.2.1, μ.2.2.1, u2 μ.2.2.2.1 a k v, μ.2.2.2.2.1, μ.2.2.2.2.2)
def sP (μ : Mm) (a k : Nat) (v : Option Nat) : Mm := (μ.1, μ.2.1, μ.2.2.1, μ.2.2.2.1, u2 μ.2.2.2.2.1 a k v, μ.2.2.2.2.2)
/-- a whole row of ints -/
def sR (μ : Mm) (a : Nat) (g : Nat → Int32) : Mm := (μ.1, μ.2.1, u1 μ.2.2.1 a g, μ.2.2.2.1, μ.2.2.2.2.1, μ.2.2.2.2.2)
/-- a new cell -/
def nw (μ : Mm) (t n : Nat) : Mm := (u1 μ.1 μ.2.2.2.2.2 t, u1 μ.2.1 μ.2.2.2.2.2 n, u1 μ.2.2.1 μ.2.2.2.2.2 (fun _ => 0), u1 μ.2.2.2.1 μ.2.2.2.2.2 (fun _ => 0), u1 μ.2.2.2.2.1 μ.2.2.2.2.2 (fun _ => none), μ.2.2.2.2.2 + 1)
-- what may fail
def gI (μ : Mm) (a t k : Nat) : Option Int32 := if tg μ a = t then some (mI μ a k) else none
def gL (μ : Mm) (a t k : Nat) : Option Int64 := if tg μ a = t then some (mL μ a k) else none
def gP (μ : Mm) (a t k : Nat) : Option Nat := if tg μ a = t then mP μ a k else none
def pI (μ : Mm) (a t k : Nat) (v : Int32) : Option Mm := if tg μ a = t then some (sI μ a k v) else none
def pZ (μ : Mm) (a t k : Nat) (v : Int32) : Option Mm := if tg μ a = t ∧ (v = 0 ∨ v = 1) then some (sI μ a k v) else none
def pL (μ : Mm) (a t k : Nat) (v : Int64) : Option Mm := if tg μ a = t then some (sL μ a k v) else none
def pP (μ : Mm) (a t k : Nat) (v : Nat) : Option Mm := if tg μ a = t then some (sP μ a k (some v)) else none
abbrev ofr (μ : Mm) (a : Nat) (i : Int32) : Prop := i < 0 ∨ ln μ a ≤ i.toNatClampNeg
def aI (μ : Mm) (a t : Nat) (i : Int32) : Option Int32 := if tg μ a = t then (if ofr μ a i then none else some (mI μ a i.toNatClampNeg)) else none
def aL (μ : Mm) (a t : Nat) (i : Int32) : Option Int64 := if tg μ a = t then (if ofr μ a i then none else some (mL μ a i.toNatClampNeg)) else none
def aP (μ : Mm) (a t : Nat) (i : Int32) : Option Nat := if tg μ a = t then (if ofr μ a i then none else mP μ a i.toNatClampNeg) else none
def qI (μ : Mm) (a t : Nat) (i v : Int32) : Option Mm := if tg μ a = t then (if ofr μ a i then none else some (sI μ a i.toNatClampNeg v)) else none
def qB (μ : Mm) (a t : Nat) (i v : Int32) : Option Mm := if tg μ a = t then (if ofr μ a i then none else some (sI μ a i.toNatClampNeg v.toInt8.toInt32)) else none
def qZ (μ : Mm) (a t : Nat) (i v : Int32) : Option Mm := if tg μ a = t ∧ (v = 0 ∨ v = 1) then (if ofr μ a i then none else some (sI μ a i.toNatClampNeg v)) else none
def qL (μ : Mm) (a t : Nat) (i : Int32) (v : Int64) : Option Mm := if tg μ a = t then (if ofr μ a i then none else some (sL μ a i.toNatClampNeg v)) else none
def qP (μ : Mm) (a t : Nat) (i : Int32) (tv v : Nat) : Option Mm := if tg μ a = t ∧ tg μ v = tv then (if ofr μ a i then none else some (sP μ a i.toNatClampNeg (some v))) else none
def zI (μ : Mm) (a : Nat) : Option Int32 := if 20 ≤ tg μ a then some (Int32.ofNat (ln μ a)) else none
def cI (μ : Mm) (a : Nat) (i : Int32) (b : Nat) (j n : Int32) : Option Mm := if tg μ a = 21 ∧ tg μ b = 21 ∧ ¬ i < 0 ∧ ¬ j < 0 ∧ ¬ n < 0 ∧ i.toNatClampNeg + n.toNatClampNeg ≤ ln μ a ∧ j.toNatClampNeg + n.toNatClampNeg ≤ ln μ b then some (sR μ b (va_cpy (mI μ a) (mI μ b) i.toNatClampNeg j.toNatClampNeg n.toNatClampNeg)) else none
/-- a new array: where it is, the heap behind -/
def nA (μ : Mm) (t N : Nat) (n : Int32) : Option (Nat × Mm) := if ¬ n < 0 ∧ n.toNatClampNeg ≤ N then some (hz μ, nw μ t n.toNatClampNeg) else none
def zb (v : Int32) : Option Int32 := if v = 0 ∨ v = 1 then some v else none
/-- the guilds' tags -/
abbrev gt (t : Nat) : Prop := t = 1 ∨ t = 2 ∨ t = 3 ∨ t = 5 ∨ t = 7 ∨ t = 10
def gG (μ : Mm) (a k : Nat) : Option Int32 := if gt (tg μ a) then some (mI μ a k) else none
def pG (μ : Mm) (a k : Nat) (v : Int32) : Option Mm := if gt (tg μ a) then some (sI μ a k v) else none
def BIG : Nat := 100000
theorem bnd {α β : Type} {x : Option α} {f : α → Option β} {r : β} (h : x.bind f = some r) : ∃ v, x = some v ∧ f v = some r := by
  cases x with
  | none => cases h
  | some v => exact ⟨v, rfl, h⟩
theorem ift {α : Sort _} {c : Prop} [Decidable c] {x y z : α} (h : (if c then x else y) = z) (hc : c) : x = z := by rw [if_pos hc] at h; exact h
theorem iff' {α : Sort _} {c : Prop} [Decidable c] {x y z : α} (h : (if c then x else y) = z) (hc : ¬ c) : y = z := by rw [if_neg hc] at h; exact h
theorem gsm {α : Type} {c : Prop} [Decidable c] {x y : α} (h : (if c then some x else none) = some y) : c ∧ x = y := by
  by_cases hc : c
  · rw [if_pos hc] at h; exact ⟨hc, Option.some.inj h⟩
  · rw [if_neg hc] at h; cases h
theorem gsn {α : Type} {c : Prop} [Decidable c] {x : Option α} {y : α} (h : (if c then x else none) = some y) : c ∧ x = some y := by
  by_cases hc : c
  · rw [if_pos hc] at h; exact ⟨hc, h⟩
  · rw [if_neg hc] at h; cases h
theorem gsf {α : Type} {c : Prop} [Decidable c] {x : Option α} {y : α} (h : (if c then none else x) = some y) : ¬ c ∧ x = some y := by
  by_cases hc : c
  · rw [if_pos hc] at h; cases h
  · rw [if_neg hc] at h; exact ⟨hc, h⟩
def scI (sc : SC) (a : Nat) (i : Int32) : Option Int32 := if a = sc.1 then (if i < 0 ∨ sc.2.1 ≤ i.toNatClampNeg then none else some (sc.2.2 i.toNatClampNeg)) else none
def scZ (sc : SC) (a : Nat) : Option Int32 := if a = sc.1 then some (Int32.ofNat sc.2.1) else none
-- THE CELLS
def fk : Nat → List Nat := fun c => match c with
  | 0 => [0, 0]
  | 1 => [0, 0]
  | 2 => [0, 0]
  | 3 => [2, 2, 0, 0, 0, 0, 0, 0, 0, 0, 0, 1]
  | 4 => [0, 0]
  | 5 => [2, 2, 0, 0, 1, 0, 0, 0]
  | 6 => [0, 0]
  | 7 => [2, 2, 2, 2, 0, 0, 0, 0]
  | 8 => [2, 0]
  | 9 => [0, 0]
  | 10 => [2, 2, 2]
  | 11 => [2, 2, 2, 2, 2, 2, 2, 2, 2, 2, 0, 0, 1, 1]
  | _ => []
def vl (μ : Mm) (a d k : Nat) : Value := match d with
  | 0 => .int (mI μ a k)
  | 1 => .long (mL μ a k)
  | _ => va_rf (mP μ a k)
def fls (c : Nat) (μ : Mm) (a : Nat) : List Value := (fk c).mapIdx (fun k d => vl μ a d k)
def cnt (t : Nat) (μ : Mm) (a : Nat) : (Nat → Int32) ⊕ (Nat → Int64) ⊕ (Nat → UInt32) ⊕ (Nat → UInt64) ⊕ (Nat → Option Nat) := if t = 22 then .inr (.inl (mL μ a)) else if 24 ≤ t then .inr (.inr (.inr (.inr (mP μ a)))) else .inl (mI μ a)
abbrev CG : Type := va_G × (Nat → ClassId) × Nat × SC × Cell
abbrev gS (G : CG) : SC := G.2.2.2.1
abbrev gC (G : CG) : Cell := G.2.2.2.2
def cel (G : CG) (μ : Mm) (a : Nat) : va_E := if tg μ a < 20 then .inr (tg μ a - 1, fls (tg μ a - 1) μ a) else .inl (G.2.1 (tg μ a), ln μ a, cnt (tg μ a) μ a)
def fA (G : CG) : Nat → Prop := fun q => G.2.2.1 ≤ q
def ScX (G : CG) (H : Heap) : Prop := H[(gS G).1]? = some (gC G) ∧ ¬ fA G (gS G).1
theorem ScX.kept {G : CG} {H H1 : Heap} (h : ScX G H) (o : ∀ q, ¬ fA G q → q < H.size → H1[q]? = H[q]?) : ScX G H1 := ⟨(o _ h.2 (Array.getElem?_eq_some_iff.mp h.1).1).trans h.1, h.2⟩
/-- what is known of the script's cell -/
def ScK (G : CG) (U : State) : Prop := U.isArrayOf (gC G) .int ∧ (gC G).vm ≠ .unknown ∧ (gC G).slots.size = (gS G).2.1 ∧ ∀ j : Nat, j < (gS G).2.1 → (gC G).slots[j]? = some (.int ((gS G).2.2 j))
def Rl (G : CG) (μ : Mm) (H : Heap) : Prop := (∀ a, tg μ a ≠ 0 → va_at G.1 vwCl (a, cel G μ a) H ∧ fA G a) ∧ H.size = hz μ ∧ G.2.2.1 ≤ hz μ ∧ ScX G H
def HS (G : CG) (s : State) (μ : Mm) (H : Heap) (locs : List Loc) : Prop := Rl G μ H ∧ va_S (fA G) s.heap H locs
def tysG (G : CG) : List (ClassId × FieldType) := [(G.2.1 20, .int), (G.2.1 21, .int), (G.2.1 22, .long), (G.2.1 23, .boolean), (G.2.1 24, .object "ClockFeet$Guild"), (G.2.1 25, .object "ClockFeet$Strip"), (G.2.1 26, .array .int)]
theorem fls_get {c k d : Nat} (μ : Mm) (a : Nat) (h : (fk c)[k]? = some d) : (fls c μ a)[k]? = some (vl μ a d k) := by
  unfold fls
  rw [List.getElem?_mapIdx, h]
  rfl
theorem fls_len (c : Nat) (μ : Mm) (a : Nat) : (fls c μ a).length = (fk c).length := by unfold fls; rw [List.length_mapIdx]
theorem fls_set {c k d : Nat} {μ μ' : Mm} {a : Nat} {v : Value} (h : (fk c)[k]? = some d) (hv : v = vl μ' a d k) (ho : ∀ j e, j ≠ k → vl μ' a e j = vl μ a e j) : (fls c μ a).set k v = fls c μ' a := by
  apply List.ext_getElem?
  intro j
  by_cases hj : j = k
  · subst hj
    have hl : j < (fls c μ a).length := by rw [fls_len]; exact (List.getElem?_eq_some_iff.mp h).1
    rw [List.getElem?_set_self hl, fls_get μ' a h, hv]
  · rw [List.getElem?_set_ne (Ne.symm hj)]
    unfold fls
    rw [List.getElem?_mapIdx, List.getElem?_mapIdx]
    cases (fk c)[j]? with
    | none => rfl
    | some e => exact congrArg some (ho j e hj).symm
theorem cel_o {G : CG} {μ : Mm} {a ci : Nat} (h : tg μ a = ci + 1) (hc : ci < 19) : cel G μ a = .inr (ci, fls ci μ a) := by
  unfold cel
  rw [if_pos (by omega), h]
  rfl
theorem cel_a {G : CG} {μ : Mm} {a t : Nat} (h : tg μ a = t) (hc : 20 ≤ t) : cel G μ a = .inl (G.2.1 t, ln μ a, cnt t μ a) := by
  unfold cel
  rw [if_neg (by omega), h]
theorem vl_ne {μ μ' : Mm} {b : Nat} (h1 : ∀ j, mI μ' b j = mI μ b j) (h2 : ∀ j, mL μ' b j = mL μ b j) (h3 : ∀ j, mP μ' b j = mP μ b j) (c : Nat) : fls c μ' b = fls c μ b := by
  unfold fls
  have : (fun k d => vl μ' b d k) = (fun k d => vl μ b d k) := by
    funext k d
    unfold vl
    split
    · rw [h1]
    · rw [h2]
    · rw [h3]
  rw [this]
theorem cel_ne {G : CG} {μ μ' : Mm} {b : Nat} (h1 : ∀ j, mI μ' b j = mI μ b j) (h2 : ∀ j, mL μ' b j = mL μ b j) (h3 : ∀ j, mP μ' b j = mP μ b j) (ht : tg μ' b = tg μ b) (hl : ln μ' b = ln μ b) : cel G μ' b = cel G μ b := by
  have e1 : mI μ' b = mI μ b := funext h1
  have e2 : mL μ' b = mL μ b := funext h2
  have e3 : mP μ' b = mP μ b := funext h3
  unfold cel
  rw [ht, hl, vl_ne h1 h2 h3]
  unfold cnt
  rw [e1, e2, e3]
-- reads of what was written
theorem mI_sI (μ : Mm) (a k : Nat) (v : Int32) (b j : Nat) : mI (sI μ a k v) b j = if b = a ∧ j = k then v else mI μ b j := rfl
theorem mL_sI (μ : Mm) (a k : Nat) (v : Int32) (b j : Nat) : mL (sI μ a k v) b j = mL μ b j := rfl
theorem mP_sI (μ : Mm) (a k : Nat) (v : Int32) (b j : Nat) : mP (sI μ a k v) b j = mP μ b j := rfl
theorem tg_sI (μ : Mm) (a k : Nat) (v : Int32) (b : Nat) : tg (sI μ a k v) b = tg μ b := rfl
theorem ln_sI (μ : Mm) (a k : Nat) (v : Int32) (b : Nat) : ln (sI μ a k v) b = ln μ b := rfl
theorem hz_sI (μ : Mm) (a k : Nat) (v : Int32) : hz (sI μ a k v) = hz μ := rfl
theorem mI_sL (μ : Mm) (a k : Nat) (v : Int64) (b j : Nat) : mI (sL μ a k v) b j = mI μ b j := rfl
theorem mL_sL (μ : Mm) (a k : Nat) (v : Int64) (b j : Nat) : mL (sL μ a k v) b j = if b = a ∧ j = k then v else mL μ b j := rfl
theorem mP_sL (μ : Mm) (a k : Nat) (v : Int64) (b j : Nat) : mP (sL μ a k v) b j = mP μ b j := rfl
theorem tg_sL (μ : Mm) (a k : Nat) (v : Int64) (b : Nat) : tg (sL μ a k v) b = tg μ b := rfl
theorem ln_sL (μ : Mm) (a k : Nat) (v : Int64) (b : Nat) : ln (sL μ a k v) b = ln μ b := rfl
theorem hz_sL (μ : Mm) (a k : Nat) (v : Int64) : hz (sL μ a k v) = hz μ := rfl
theorem mI_sP (μ : Mm) (a k : Nat) (v : Option Nat) (b j : Nat) : mI (sP μ a k v) b j = mI μ b j := rfl
theorem mL_sP (μ : Mm) (a k : Nat) (v : Option Nat) (b j : Nat) : mL (sP μ a k v) b j = mL μ b j := rfl
theorem mP_sP (μ : Mm) (a k : Nat) (v : Option Nat) (b j : Nat) : mP (sP μ a k v) b j = if b = a ∧ j = k then v else mP μ b j := rfl
theorem tg_sP (μ : Mm) (a k : Nat) (v : Option Nat) (b : Nat) : tg (sP μ a k v) b = tg μ b := rfl
theorem ln_sP (μ : Mm) (a k : Nat) (v : Option Nat) (b : Nat) : ln (sP μ a k v) b = ln μ b := rfl
theorem hz_sP (μ : Mm) (a k : Nat) (v : Option Nat) : hz (sP μ a k v) = hz μ := rfl
theorem mI_sR (μ : Mm) (a : Nat) (g : Nat → Int32) (b j : Nat) : mI (sR μ a g) b j = if b = a then g j else mI μ b j := by
  show u1 μ.2.2.1 a g b j = _
  unfold u1
  split <;> rfl
theorem mL_sR (μ : Mm) (a : Nat) (g : Nat → Int32) (b j : Nat) : mL (sR μ a g) b j = mL μ b j := rfl
theorem mP_sR (μ : Mm) (a : Nat) (g : Nat → Int32) (b j : Nat) : mP (sR μ a g) b j = mP μ b j := rfl
theorem tg_sR (μ : Mm) (a : Nat) (g : Nat → Int32) (b : Nat) : tg (sR μ a g) b = tg μ b := rfl
theorem ln_sR (μ : Mm) (a : Nat) (g : Nat → Int32) (b : Nat) : ln (sR μ a g) b = ln μ b := rfl
theorem hz_sR (μ : Mm) (a : Nat) (g : Nat → Int32) : hz (sR μ a g) = hz μ := rfl
theorem tg_nw (μ : Mm) (t n b : Nat) : tg (nw μ t n) b = if b = hz μ then t else tg μ b := rfl
theorem ln_nw (μ : Mm) (t n b : Nat) : ln (nw μ t n) b = if b = hz μ then n else ln μ b := rfl
theorem hz_nw (μ : Mm) (t n : Nat) : hz (nw μ t n) = hz μ + 1 := rfl
theorem mI_nw (μ : Mm) (t n b j : Nat) : mI (nw μ t n) b j = if b = hz μ then 0 else mI μ b j := by
  show u1 μ.2.2.1 (hz μ) (fun _ => 0) b j = _
  unfold u1
  split <;> rfl
theorem mL_nw (μ : Mm) (t n b j : Nat) : mL (nw μ t n) b j = if b = hz μ then 0 else mL μ b j := by
  show u1 μ.2.2.2.1 (hz μ) (fun _ => 0) b j = _
  unfold u1
  split <;> rfl
theorem mP_nw (μ : Mm) (t n b j : Nat) : mP (nw μ t n) b j = if b = hz μ then none else mP μ b j := by
  show u1 μ.2.2.2.2.1 (hz μ) (fun _ => none) b j = _
  unfold u1
  split <;> rfl
