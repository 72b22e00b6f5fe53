/-! ===== the model's fits ===== -/
section FM
variable {R T : GR} {F : GF} {h : GH} {K : GK} {μ : Mm} {c : Nat}
/-- all, some -/
def andN (h : GH) (t : Nat) : Nat → Nat
  | 0 => 2 ^ h.n - 1
  | s+1 => if fit h t s then andN h t s &&& s else andN h t s
def orN (h : GH) (t : Nat) : Nat → Nat
  | 0 => 0
  | s+1 => if fit h t s then orN h t s ||| s else orN h t s
def ffN (h : GH) (t : Nat) : Nat → Option Nat
  | 0 => none
  | s+1 => if fit h t s ∧ cntP (fit h t) s = 0 then some s else ffN h t s
theorem andN_s (h : GH) (t s : Nat) : andN h t (s + 1) = if fit h t s then andN h t s &&& s else andN h t s := rfl
theorem orN_s (h : GH) (t s : Nat) : orN h t (s + 1) = if fit h t s then orN h t s ||| s else orN h t s := rfl
theorem ffN_s (h : GH) (t s : Nat) : ffN h t (s + 1) = if fit h t s ∧ cntP (fit h t) s = 0 then some s else ffN h t s := rfl
/-- the model's numbers behind s sets -/
def Fq (h : GH) (t s : Nat) (μ : Mm) (c : Nat) : Prop := mI μ c 42 = nI (cntP (fit h t) s) ∧ mI μ c 43 = ofn (ffN h t s) ∧ mI μ c 44 = nI (andN h t s) ∧ mI μ c 45 = nI (orN h t s) ∧ ∀ g, g < h.n → mI μ (c + 23) g = nI (cntP (fitg h t g) s)
theorem andN_lt (h : GH) (t : Nat) : ∀ s, andN h t s < 2 ^ h.n := by
  intro s
  induction s with
  | zero => exact Nat.sub_lt (Nat.two_pow_pos _) (by decide)
  | succ s ih =>
    rw [andN_s]
    by_cases e : fit h t s = true
    · rw [if_pos e]; exact Nat.lt_of_le_of_lt (Nat.and_le_left) ih
    · rw [if_neg e]; exact ih
theorem orN_lt (h : GH) (t : Nat) : ∀ s, s ≤ 2 ^ h.n → orN h t s < 2 ^ h.n := by
  intro s
  induction s with
  | zero => intro _; exact Nat.two_pow_pos _
  | succ s ih =>
    intro hs
    rw [orN_s]
    by_cases e : fit h t s = true
    · rw [if_pos e]; exact Nat.or_lt_two_pow (ih (by omega)) (by omega)
    · rw [if_neg e]; exact ih (by omega)
def mlf (h : GH) (t s : Nat) (μ : Mm) (c : Nat) : Mm := sI (sI (sI (sI μ c 43 (if cntP (fit h t) s = 0 then nI s else ofn (ffN h t s))) c 42 (nI (cntP (fit h t) s + 1))) c 44 (nI (andN h t s &&& s))) c 45 (nI (orN h t s ||| s))
end FM
