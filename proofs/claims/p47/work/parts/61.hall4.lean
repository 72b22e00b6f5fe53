/-! ===== hour, due, noon, rent ===== -/
theorem x_rentNow {R T : GR} {F : GF} {h : GH} {K : GK} {μ : Mm} {a : Nat} (H : XI R T F h K μ a) (w : WH h) : f_X3_hasRentAt μ (a + 3) (nI h.q.1) = some (nI (b1 (isr h.rs h.q.1))) := by
  by_cases h0 : h.n = 0
  · rcases w.2.1 with ⟨n0, t0, r0', m0, s0⟩ | ⟨n1, -⟩
    · have hq : h.q.1 = 0 := by unfold GH.q; rw [s0]; rfl
      rw [hq, r0']
      have hb : f_X3_hasTooth μ (a + 3) (nI 0) = some 0 := x_hasT_bad H (Or.inr ⟨nI_pos (by decide), by rw [t0]; exact Int32.le_refl _⟩)
      simp (config := { decide := true }) only [↓reduceIte, Option.bind_some, Option.bind_none, f_X3_hasRentAt, x_hev H, hb] <;> rfl
    · omega
  · exact x_rentAt H w (w.now_lt h0)
theorem nI_b1 (b : Bool) : (nI (b1 b) = 0) ↔ b = false := by cases b <;> decide
/-- the first of n places from k on -/
def fst (P : Nat → Bool) : Nat → Nat → Option Nat
  | 0, _ => none
  | n+1, k => if P k then some k else fst P n (k + 1)
theorem fst_some (P : Nat → Bool) : ∀ (n k j : Nat), k ≤ j → j < k + n → P j = true → (∀ i, k ≤ i → i < j → P i = false) → fst P n k = some j := by
  intro n
  induction n with
  | zero => intro k j h1 h2; omega
  | succ n ih =>
    intro k j h1 h2 h3 h4
    unfold fst
    by_cases e : k = j
    · subst e; rw [if_pos h3]
    · rw [if_neg (by rw [h4 k (Nat.le_refl _) (by omega)]; decide)]
      exact ih (k + 1) j (by omega) (by omega) h3 (fun i q1 q2 => h4 i (by omega) q2)
theorem fst_none (P : Nat → Bool) : ∀ (n k : Nat), (∀ i, k ≤ i → i < k + n → P i = false) → fst P n k = none := by
  intro n
  induction n with
  | zero => intro k _; rfl
  | succ n ih =>
    intro k h
    unfold fst
    rw [if_neg (by rw [h k (Nat.le_refl _) (by omega)]; decide)]
    exact ih (k + 1) (fun i q1 q2 => h i (by omega) (by omega))
theorem fst_cases (P : Nat → Bool) (n k : Nat) : (∃ j, k ≤ j ∧ j < k + n ∧ P j = true ∧ ∀ i, k ≤ i → i < j → P i = false) ∨ ∀ i, k ≤ i → i < k + n → P i = false := by
  induction n generalizing k with
  | zero => right; intro i h1 h2; omega
  | succ n ih =>
    cases hp : P k with
    | true => exact Or.inl ⟨k, Nat.le_refl _, by omega, hp, fun i q1 q2 => by omega⟩
    | false =>
      rcases ih (k + 1) with ⟨j, h1, h2, h3, h4⟩ | h1
      · exact Or.inl ⟨j, by omega, by omega, h3, fun i q1 q2 => by
          by_cases e : i = k
          · rw [e]; exact hp
          · exact h4 i (by omega) q2⟩
      · exact Or.inr fun i q1 q2 => by
          by_cases e : i = k
          · rw [e]; exact hp
          · exact h1 i (by omega) (by omega)
theorem fst_long (P : Nat → Bool) {n m k : Nat} (hnm : n ≤ m) (hp : ∀ j, k ≤ j → P j = true → ∃ i, k ≤ i ∧ i < k + n ∧ P i = true) : fst P n k = fst P m k := by
  rcases fst_cases P n k with ⟨j, h1, h2, h3, h4⟩ | h1
  · rw [fst_some P n k j h1 h2 h3 h4, fst_some P m k j h1 (by omega) h3 h4]
  · rw [fst_none P n k h1, fst_none P m k fun i q1 q2 => by
      cases hi : P i with
      | false => rfl
      | true =>
        obtain ⟨i', e1, e2, e3⟩ := hp i q1 hi
        rw [h1 i' e1 e2] at e3
        cases e3]
/-- what a found place is told as -/
def ofo : Option Nat → Nat × Int32
  | some j => (0, nI j)
  | none => (1, 0)
theorem mod_per {q t te : Nat} (hte : 0 < te) {j : Nat} (hj : 1 ≤ j) : ∃ i, 1 ≤ i ∧ i < 1 + te ∧ (q + i * t) % te = (q + j * t) % te := by
  refine ⟨(j - 1) % te + 1, by omega, by have := Nat.mod_lt (j - 1) hte; omega, ?_⟩
  have e : j = te * ((j - 1) / te) + ((j - 1) % te + 1) := by
    have := Nat.div_add_mod (j - 1) te
    omega
  have e2 : q + j * t = (q + ((j - 1) % te + 1) * t) + te * ((j - 1) / te * t) := by
    conv => lhs; rw [e]
    rw [Nat.add_mul, Nat.mul_assoc]
    omega
  rw [e2, Nat.add_mul_mod_self_left]
theorem x_noon_l {R T : GR} {F : GF} {h : GH} {K : GK} {μ : Mm} {a t : Nat} (H : XI R T F h K μ a) (w : WH h) (h0 : ¬ h.n = 0) (ht : t ≤ 18) : ∀ (m f k : Nat), k + m = h.te + 1 → m < f → lp_X3_walksToNoon_2 f (a + 3) (nI t) (nI k) μ = some (ofo (fst (fun k => decide ((h.q.1 + k * t) % h.te = 0)) m k)) := by
  have t1 := w.te_ge h0
  have t2 := w.te_lt
  have t3 := w.now_lt h0
  intro m
  induction m with
  | zero =>
    intro f k h1 h2
    obtain ⟨f, rfl⟩ : ∃ g, f = g + 1 := ⟨f - 1, by omega⟩
    have e : nI h.te < nI k := nI_lt (by omega) (by omega)
    simp (config := { decide := true }) only [↓reduceIte, Option.bind_some, Option.bind_none, lp_X3_walksToNoon_2, x_hev H, e] <;> rfl
  | succ m ih =>
    intro f k h1 h2
    obtain ⟨f, rfl⟩ : ∃ g, f = g + 1 := ⟨f - 1, by omega⟩
    have e : ¬ nI h.te < nI k := nI_nlt (by omega) (by omega)
    have hk : k * t ≤ 61 * 18 := Nat.mul_le_mul (by omega) ht
    have hmod := Nat.mod_lt (h.q.1 + k * t) (show 0 < h.te by omega)
    unfold fst
    by_cases hp : (h.q.1 + k * t) % h.te = 0
    · simp (config := { decide := true }) only [↓reduceIte, Option.bind_some, Option.bind_none, lp_X3_walksToNoon_2, x_hev H, e, pk_mul, nI_add, x_wrap H w h0 (show h.q.1 + k * t < 2 ^ 31 by omega), hp, show nI 0 = 0 from rfl] <;> rfl
    · have e0 : ¬ nI ((h.q.1 + k * t) % h.te) = 0 := nI_ne0 (by omega) (by omega)
      have := ih f (k + 1) (by omega) (by omega)
      simp (config := { decide := true }) only [↓reduceIte, Option.bind_some, Option.bind_none, lp_X3_walksToNoon_2, x_hev H, e, pk_mul, nI_add, x_wrap H w h0 (show h.q.1 + k * t < 2 ^ 31 by omega), e0, hp, nI_1, this] <;> rfl
theorem noon_same {h : GH} (w : WH h) (h0 : ¬ h.n = 0) (t : Nat) (P : Nat → Bool) : fst (fun k => P ((h.q.1 + k * t) % h.te)) h.te 1 = fst (fun k => P ((h.q.1 + k * t) % h.te)) 60 1 := by
  have t1 := w.te_ge h0
  refine fst_long _ w.te_lt fun j h1 h2 => ?_
  obtain ⟨i, e1, e2, e3⟩ := mod_per (q := h.q.1) (t := t) (show 0 < h.te by omega) h1
  exact ⟨i, e1, e2, by rw [e3]; exact h2⟩
/-- the answer told of a found place -/
def ofn : Option Nat → Int32
  | some j => nI j
  | none => -9
theorem x_noon {R T : GR} {F : GF} {h : GH} {K : GK} {μ : Mm} {a t : Nat} (H : XI R T F h K μ a) (w : WH h) (h0 : ¬ h.n = 0) (ht : t ≤ 18) : f_X3_walksToNoon μ (a + 3) (nI t) = some (ofn (fst (fun k => decide ((h.q.1 + k * t) % h.te = 0)) h.te 1)) := by
  have := x_noon_l H w h0 ht h.te BIG 1 (by omega) (by have := w.te_lt; unfold BIG; omega)
  have e : lp_X3_walksToNoon_2 BIG (a + 3) (nI t) 1 μ = _ := this
  simp (config := { decide := true }) only [↓reduceIte, Option.bind_some, Option.bind_none, f_X3_walksToNoon, x_hev H, e]
  cases fst (fun k => decide ((h.q.1 + k * t) % h.te = 0)) h.te 1 <;> rfl