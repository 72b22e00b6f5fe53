/-! ===== odds: the model's rows ===== -/
section OM
variable {R T : GR} {F : GF} {h : GH} {K : GK} {c : Nat} {p q : Int32} {v : Int64} {i : Int32}
/-- the model's sums, in the midst -/
def Tm (te n : Nat) (t ch : Nat → Nat) (x g j : Nat) : Nat := sumN (fun g' => if wy te j (t g') < x ∨ (wy te j (t g') = x ∧ g' < g) then ch (wy te j (t g')) else 0) n
theorem sumN_bump {f f' : Nat → Nat} {g v : Nat} : ∀ n, g < n → (∀ i, i < n → i ≠ g → f' i = f i) → f' g = f g + v → sumN f' n = sumN f n + v := by
  intro n
  induction n with
  | zero => intro h; exact absurd h (Nat.not_lt_zero _)
  | succ n ih =>
    intro hg h1 h2
    rw [sumN_s, sumN_s]
    by_cases e : g = n
    · subst e
      rw [sumN_cong g (fun i hi => h1 i (by omega) (by omega)), h2]; omega
    · rw [ih (by omega) (fun i hi => h1 i (by omega)) h2, h1 n (by omega) (fun z => e z.symm)]; omega
end OM