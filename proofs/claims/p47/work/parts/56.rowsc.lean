/-! ===== copy ===== -/
/-- the first k items by a rule -/
def filf (g : Nat → Int32) (k : Nat) (f : Nat → Int32) : Nat → Int32 := fun x => if x < k then f x else g x
theorem filf_0 (g f : Nat → Int32) : filf g 0 f = g := funext fun j => if_neg (by omega)
theorem filf_s (g : Nat → Int32) (k : Nat) (f : Nat → Int32) : upd (filf g k f) k (f k) = filf g (k + 1) f := by
  funext j
  unfold filf
  by_cases hj : j = k
  · subst hj; rw [pk_us, if_pos (by omega)]
  · rw [pk_un hj]
    by_cases h2 : j < k
    · rw [if_pos h2, if_pos (by omega)]
    · rw [if_neg h2, if_neg (by omega)]
theorem filf_in {g : Nat → Int32} {k : Nat} {f : Nat → Int32} {j : Nat} (h : j < k) : filf g k f j = f j := if_pos h
theorem filf_out {g : Nat → Int32} {k : Nat} {f : Nat → Int32} {j : Nat} (h : k ≤ j) : filf g k f j = g j := if_neg (by omega)
/-- k items from o on by a rule -/
def filo (g : Nat → Int32) (o k : Nat) (f : Nat → Int32) : Nat → Int32 := fun x => if o ≤ x ∧ x < o + k then f (x - o) else g x
theorem filo_0 (g : Nat → Int32) (o : Nat) (f : Nat → Int32) : filo g o 0 f = g := funext fun j => if_neg (by omega)
theorem filo_s (g : Nat → Int32) (o k : Nat) (f : Nat → Int32) : upd (filo g o k f) (o + k) (f k) = filo g o (k + 1) f := by
  funext j
  unfold filo
  by_cases hj : j = o + k
  · subst hj; rw [pk_us, if_pos (by omega), Nat.add_sub_cancel_left]
  · rw [pk_un hj]
    by_cases h2 : o ≤ j ∧ j < o + k
    · rw [if_pos h2, if_pos (by omega)]
    · rw [if_neg h2, if_neg (by omega)]
theorem filo_in {g : Nat → Int32} {o k : Nat} {f : Nat → Int32} {j : Nat} (h1 : o ≤ j) (h : j < o + k) : filo g o k f j = f (j - o) := if_pos ⟨h1, h⟩
theorem filo_out {g : Nat → Int32} {o k : Nat} {f : Nat → Int32} {j : Nat} (h : j < o ∨ o + k ≤ j) : filo g o k f j = g j := if_neg (by omega)
theorem toInt_nn {x : Int32} (h : 0 ≤ x) : 0 ≤ x.toInt := by
  rw [Int32.le_iff_toInt_le] at h
  exact h
theorem toInt_hi (x : Int32) : x.toInt < 2 ^ 31 := Int32.toInt_lt x
theorem sub_n {n : Nat} {q : Int32} (hn : n ≤ 60) (hq : 0 ≤ q) : (nI n - q).toInt = (n : Int) - q.toInt := by
  have h1 := toInt_nn hq
  have h2 := toInt_hi q
  rw [Int32.toInt_sub, nI_toInt (by omega)]
  exact Int.bmod_eq_of_le (by omega) (by omega)
theorem add_l (p q : Int32) : (p.toInt64 + q.toInt64).toInt = p.toInt + q.toInt := by
  have h1 := toInt_hi p
  have h2 := toInt_hi q
  have h3 := Int32.le_toInt p
  have h4 := Int32.le_toInt q
  rw [Int64.toInt_add, Int32.toInt_toInt64, Int32.toInt_toInt64]
  exact Int.bmod_eq_of_le (by omega) (by omega)
/-- within a strip -/
def Rg (n : Nat) (p q : Int32) : Prop := ¬ p < 0 ∧ p.toInt + q.toInt ≤ n
theorem m_gt {n : Nat} {p q : Int32} (hn : n ≤ 60) : (0 < lg_cmp (p.toInt64 + q.toInt64) (nI n).toInt64) ↔ ¬ p.toInt + q.toInt ≤ n := by
  rw [lg_cmp_gt, Int64.lt_iff_toInt_lt, add_l, Int32.toInt_toInt64, nI_toInt (by omega)]
  omega
theorem m_le {n : Nat} {p q : Int32} (hn : n ≤ 60) : (lg_cmp (p.toInt64 + q.toInt64) (nI n).toInt64 ≤ 0) ↔ p.toInt + q.toInt ≤ n := by
  rw [lg_cmp_le, Int64.le_iff_toInt_le, add_l, Int32.toInt_toInt64, nI_toInt (by omega)]