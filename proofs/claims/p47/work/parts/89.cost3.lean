/-! ===== the model's costs; fewest, feet ===== -/
section CM
variable {R T : GR} {F : GF} {h : GH} {K : GK} {c p : Nat} {D : Nat → Nat} {fl : Bool}
def Cm (h : GH) (p : Nat) (C : Nat → Nat) (μ : Mm) (c : Nat) : Prop := ∀ x, x < h.te → mI μ (c + 21) x = nI (C (wy h.te p x))
theorem wy_inv {te p k x : Nat} (hp : p < te) (hk : k < te) (hx : x < te) : wy te p k = x ↔ k = wy te p x := by
  have e1 := wy_iff (x := x) (j := p) (t := k) hx hp (by omega)
  have e2 := wy_iff (x := k) (j := p) (t := x) hk hp (by omega)
  rw [Nat.add_comm k x] at e2
  constructor
  · intro q; exact e2.mp (e1.mpr q.symm)
  · intro q; exact (e1.mp (e2.mpr q)).symm
theorem wy_on {te p x t : Nat} (hp : p < te) (hx : x < te) : (wy te p ((x + t) % te) + t) % te = wy te p x := by
  have hm : (x + t) % te < te := Nat.mod_lt _ (by omega)
  have e := wy_add (te := te) (p := p) (q := (x + t) % te) (by omega)
  rw [Nat.mod_eq_of_lt hp] at e
  refine (wy_iff (Nat.mod_lt _ (by omega)) hp (show x ≤ 81 * te by omega)).mp ?_
  rw [Nat.mod_add_mod, Nat.add_assoc, Nat.add_comm t x, ← Nat.add_mod_mod, e]
/-- what a sweep over the teeth has seen -/
def dnm (h : GH) (p x g : Nat) : Nat → Nat → Prop := fun j' g' => wy h.te p ((j' + h.tr g') % h.te) < x ∨ (wy h.te p ((j' + h.tr g') % h.te) = x ∧ g' < g)
theorem dnm_step {x g : Nat} (hp : p < h.te) (hx : x < h.te) {j' g' : Nat} (hj : j' < h.te) (hd : dnm h p x (g + 1) j' g') : dnm h p x g j' g' ∨ (j' = wy h.te p ((x + h.tr g) % h.te) ∧ g' = g) := by
  unfold dnm at hd ⊢
  rcases hd with q | ⟨q1, q2⟩
  · exact Or.inl (Or.inl q)
  · by_cases z : g' = g
    · subst z
      refine Or.inr ⟨?_, rfl⟩
      have hk : (j' + h.tr g') % h.te < h.te := Nat.mod_lt _ (by omega)
      have e1 := (wy_inv hp hk hx).mp q1
      have e2 := wy_on (t := h.tr g') hp hx
      exact mod_inj hj (wy_lt (by omega)) (e1.trans e2.symm)
    · exact Or.inl (Or.inr ⟨q1, by omega⟩)
theorem fwk_m {g : Nat} (w : WH h) (h0 : ¬ h.n = 0) (hp : p < h.te) (hg : g < h.n) : wy h.te p ((h.q.1 + h.tr g) % h.te) = wy h.te p (h.tr g + h.q.1) := by
  have t1 := w.te_ge h0
  have tn := w.now_lt h0
  have htr := w.tr_le hg
  have hm : (h.q.1 + h.tr g) % h.te < h.te := Nat.mod_lt _ (by omega)
  have e1 := wy_add (te := h.te) (p := p) (q := (h.q.1 + h.tr g) % h.te) (by omega)
  have e2 := wy_add (te := h.te) (p := p) (q := h.tr g + h.q.1) (by omega)
  refine mod_inj (s := h.tr g + h.q.1) (wy_lt (by omega)) (wy_lt (by omega)) ?_
  rw [e2, ← e1, Nat.add_mod_mod, Nat.add_comm h.q.1]
end CM