/-! ===== never, keyed: what the model reaches ===== -/
def setb (A : Nat → Bool) (j : Nat) : Nat → Bool := fun y => if y = j then true else A y
theorem cntP_setb {A : Nat → Bool} {j : Nat} (h : A j = false) : ∀ n, cntP (setb A j) n = cntP A n + (if j < n then 1 else 0) := by
  intro n
  induction n with
  | zero => rfl
  | succ n ih =>
    rw [cntP_s, cntP_s, ih]
    unfold setb
    by_cases e : n = j
    · subst e
      rw [if_pos rfl, if_neg (Nat.lt_irrefl _), if_pos (Nat.lt_succ_self _), h]; rfl
    · rw [if_neg e]
      by_cases z : j < n
      · rw [if_pos z, if_pos (by omega)]; omega
      · rw [if_neg z, if_neg (by omega)]; omega
/-- closed under going on -/
def Gon (te : Nat) (A : Nat → Bool) (s : Nat) : Prop := ∀ x, x < te → A x = true → A ((x + s) % te) = true
theorem Gon.add {te : Nat} {A : Nat → Bool} {s r : Nat} (hs : Gon te A s) (hr : Gon te A r) : Gon te A (s + r) := fun x hx hA => by
  have h1 := hs x hx hA
  have h2 := hr _ (Nat.mod_lt _ (by omega)) h1
  rw [Nat.mod_add_mod, Nat.add_assoc] at h2
  exact h2
theorem Gon.zero (te : Nat) (A : Nat → Bool) : Gon te A 0 := fun x hx hA => by rw [Nat.add_zero, Nat.mod_eq_of_lt hx]; exact hA
theorem Gon.mul {te : Nat} {A : Nat → Bool} {s : Nat} (hs : Gon te A s) : ∀ k, Gon te A (k * s) := by
  intro k
  induction k with
  | zero => rw [Nat.zero_mul]; exact Gon.zero te A
  | succ k ih => rw [Nat.succ_mul]; exact ih.add hs
theorem Gon.cong {te : Nat} {A : Nat → Bool} {s r : Nat} (hs : Gon te A s) (e : s % te = r % te) : Gon te A r := fun x hx hA => by
  have h1 := hs x hx hA
  rw [Nat.add_mod, e, ← Nat.add_mod] at h1
  exact h1
theorem Gon.te (te : Nat) (A : Nat → Bool) : Gon te A te := (Gon.zero te A).cong (by rw [Nat.mod_self, Nat.zero_mod])
theorem Gon.gcd {te : Nat} {A : Nat → Bool} (hte : 0 < te) : ∀ s r : Nat, Gon te A s → Gon te A r → Gon te A (Nat.gcd s r) := by
  intro s
  induction s using Nat.strongRecOn with
  | ind s ih =>
    intro r hs hr
    by_cases h0 : s = 0
    · subst h0; rw [Nat.gcd_zero_left]; exact hr
    · rw [Nat.gcd_rec]
      refine ih (r % s) (Nat.mod_lt _ (by omega)) s ?_ hs
      refine (hr.add (hs.mul ((te - 1) * (r / s)))).cong ?_
      have e1 := Nat.div_add_mod r s
      have e2 : r + (te - 1) * (r / s) * s = r % s + te * (s * (r / s)) := by
        obtain ⟨u, rfl⟩ : ∃ u, te = u + 1 := ⟨te - 1, by omega⟩
        rw [Nat.add_sub_cancel, Nat.succ_mul, Nat.mul_assoc u (r / s) s, Nat.mul_comm (r / s) s]
        omega
      rw [e2, Nat.add_mul_mod_self_left]
theorem Gon.all {h : GH} {A : Nat → Bool} {o : Option Nat} (hte : 0 < h.te) (hg : ∀ g, g < h.n → selo o g = true → Gon h.te A (h.tr g)) : Gon h.te A (std h o) := by
  unfold std
  have : ∀ n, n ≤ h.n → Gon h.te A (gcdN h.te h.tr o n) := by
    intro n
    induction n with
    | zero => intro _; exact Gon.te _ _
    | succ n ih =>
      intro hn
      unfold gcdN
      by_cases s : selo o n = true
      · rw [if_pos s]; exact Gon.gcd hte _ _ (ih (by omega)) (hg n (by omega) s)
      · rw [if_neg s]; exact ih (by omega)
  exact this h.n (Nat.le_refl _)
theorem std_te (h : GH) (o : Option Nat) : std h o ∣ h.te := ((gcdN_dvd (t := h.tr) (o := o) (te := h.te) (std h o) h.n).mp (Nat.dvd_refl _)).1
theorem std_tr {h : GH} {o : Option Nat} {g : Nat} (hg : g < h.n) (hs : selo o g = true) : std h o ∣ h.tr g := ((gcdN_dvd (t := h.tr) (o := o) (te := h.te) (std h o) h.n).mp (Nat.dvd_refl _)).2 g hg hs
theorem rch_step {h : GH} {o : Option Nat} {g x : Nat} (hg : g < h.n) (hs : selo o g = true) (hx : rch h o x = true) : rch h o ((x + h.tr g) % h.te) = true := by
  unfold rch at hx ⊢
  have hx := of_decide_eq_true hx
  refine decide_eq_true ?_
  rw [Nat.mod_mod_of_dvd _ (std_te h o), ← hx]
  obtain ⟨u, hu⟩ := std_tr hg hs
  rw [hu, Nat.add_mul_mod_self_left]
theorem rch_all {h : GH} {o : Option Nat} {A : Nat → Bool} {x : Nat} (hte : 0 < h.te) (hn : h.q.1 < h.te) (hA : A h.q.1 = true) (hg : ∀ g, g < h.n → selo o g = true → Gon h.te A (h.tr g)) (hx : x < h.te) (hr : rch h o x = true) : A x = true := by
  have hd := Gon.all hte hg
  have hr := of_decide_eq_true hr
  have e1 := wy_add (te := h.te) (p := x) (q := h.q.1) (by omega)
  rw [Nat.mod_eq_of_lt hx] at e1
  have hgl := gcdN_le (te := h.te) (t := h.tr) (o := o) hte h.n
  have hz : wy h.te x h.q.1 % std h o = 0 := by
    have e2 : (wy h.te x h.q.1 + h.q.1) % std h o = h.q.1 % std h o := by
      rw [← Nat.mod_mod_of_dvd (wy h.te x h.q.1 + h.q.1) (std_te h o), e1, hr]
    refine mod_inj (s := h.q.1) (Nat.mod_lt _ hgl.1) hgl.1 ?_
    rw [Nat.mod_add_mod, e2, Nat.zero_add]
  have hdv := Nat.dvd_of_mod_eq_zero hz
  obtain ⟨u, hu⟩ := hdv
  have := hd.mul u h.q.1 hn hA
  rw [Nat.mul_comm u, ← hu, Nat.add_comm, e1] at this
  exact this
section NM
variable {R T : GR} {F : GF} {h : GH} {K : GK} {c : Nat} {o : Option Nat}
def Hd (h : GH) (A : Nat → Bool) (μ : Mm) (c : Nat) : Prop := ∀ x, x < h.te → mI μ (c + 22) x = nI (b1 (A x))
def Snd (h : GH) (o : Option Nat) (A : Nat → Bool) : Prop := A h.q.1 = true ∧ ∀ x, x < h.te → A x = true → rch h o x = true
/-- what a sweep has seen -/
def Swp (h : GH) (o : Option Nat) (A0 A : Nat → Bool) (m : Bool) (x g : Nat) : Prop := (m = false → A = A0 ∧ (∀ y, y < x → A0 y = true → ∀ e, e < h.n → selo o e = true → A0 ((y + h.tr e) % h.te) = true) ∧ (A0 x = true → ∀ e, e < g → selo o e = true → A0 ((x + h.tr e) % h.te) = true)) ∧ (m = true → cntP A0 h.te < cntP A h.te)
theorem cntP_one (j : Nat) : ∀ n, cntP (fun i => decide (i = j)) n = if j < n then 1 else 0 := by
  intro n
  induction n with
  | zero => rfl
  | succ n ih =>
    rw [cntP_s, ih]
    by_cases e : n = j
    · subst e; rw [if_neg (Nat.lt_irrefl _), if_pos (Nat.lt_succ_self _), decide_eq_true rfl]; rfl
    · rw [decide_eq_false e]
      by_cases z : j < n
      · rw [if_pos z, if_pos (by omega)]; rfl
      · rw [if_neg z, if_neg (by omega)]; rfl
end NM
/-- the guilds without which less can be had -/
def kyd (h : GH) : Nat := bts (fun g => decide (std h (some g) ≠ std h none)) h.n
theorem std_sub (h : GH) (g : Nat) : std h none ∣ std h (some g) := by
  rw [show std h (some g) = gcdN h.te h.tr (some g) h.n from rfl, gcdN_dvd]
  exact ⟨std_te h none, fun e he _ => std_tr he (decide_eq_true (fun q => by cases q))⟩
theorem key_iff {h : GH} (w : WH h) (h0 : ¬ h.n = 0) (g : Nat) : cntP (rch h none) h.te ≤ cntP (rch h (some g)) h.te ↔ std h (some g) = std h none := by
  have t1 := w.te_ge h0
  have hsub := cntP_sub (P := rch h (some g)) (Q := rch h none) h.te (fun x _ q => by
    have q := of_decide_eq_true q
    refine decide_eq_true ?_
    rw [← Nat.mod_mod_of_dvd x (std_sub h g), q, Nat.mod_mod_of_dvd _ (std_sub h g)])
  constructor
  · intro q
    have he := hsub.2.mp (by have := hsub.1; omega)
    have hgl := gcdN_le (te := h.te) (t := h.tr) (o := some g) (by omega) h.n
    have hx := he ((h.q.1 + std h none) % h.te) (Nat.mod_lt _ (by omega)) (decide_eq_true (by rw [Nat.mod_mod_of_dvd _ (std_te h none), Nat.add_mod_right]))
    have hx := of_decide_eq_true hx
    rw [Nat.mod_mod_of_dvd _ (std_te h (some g))] at hx
    have hz : std h none % std h (some g) = 0 := by
      refine mod_inj (s := h.q.1) (Nat.mod_lt _ hgl.1) hgl.1 ?_
      rw [Nat.mod_add_mod, Nat.add_comm, hx, Nat.zero_add]
    exact Nat.dvd_antisymm (Nat.dvd_of_mod_eq_zero hz) (std_sub h g)
  · intro q
    unfold rch
    rw [q]
    exact Nat.le_refl _