/-! ===== quiet, cheap, order ===== -/
section OA
variable {R T : GR} {F : GF} {h : GH} {K : GK} {c a : Nat} {o : Option Nat} {tt : Nat}
theorem spt_0 {h : GH} (w : WH h) (h0 : ¬ h.n = 0) : spt h 0 = h.q.1 := by unfold spt; rw [smt_0, Nat.add_zero, Nat.mod_eq_of_lt (w.now_lt h0)]
theorem BW_full (h : GH) : BW h (2 ^ h.n - 1) = PW h h.n 0 (2 ^ h.n - 1) := by unfold BW; rw [pc_all]
end OA
/-- an order's number -/
def cod (l : List Nat) : Nat → Nat
  | 0 => 0
  | i+1 => 6 * cod l i + l.getD i 0
theorem cod_s (l : List Nat) (i : Nat) : cod l (i + 1) = 6 * cod l i + l.getD i 0 := rfl
theorem cod_e (x y : Nat) : (6 : Int32) * nI x + nI y = nI (6 * x + y) := by rw [show (6 : Int32) = nI 6 from rfl, pk_mul, nI_add]
theorem setr_setr (R : GR) (r : Nat) (o o' : Option Nat) (g g' : Nat → Int32) : setr (setr R r o g) r o' g' = setr R r o' g' := by
  unfold setr
  refine Prod.ext ?_ ?_
  · funext s
    show u1 (u1 R.1 r o) r o' s = u1 R.1 r o' s
    by_cases z : s = r
    · subst z; rw [u1_eq, u1_eq]
    · rw [u1_ne z, u1_ne z, u1_ne z]
  · funext s
    show u1 (u1 R.2 r g) r g' s = u1 R.2 r g' s
    by_cases z : s = r
    · subst z; rw [u1_eq, u1_eq]
    · rw [u1_ne z, u1_ne z, u1_ne z]
theorem x_place {μ : Mm} {s0 c0 n g : Nat} {l : List Nat} (hS : Sto μ s0 c0 n) (hn : n ≤ 60) (hl : ∀ j, j < n → mI μ c0 j = nI (l.getD j 0)) (hl6 : ∀ j, j < n → l.getD j 0 < 6) (hg : g < 6) : f_X8_placeOf μ s0 (nI g) = some (ofn (fst (fun i => decide (l.getD i 0 = g)) n 0)) := by
  have hloop : ∀ (m f i : Nat), i + m = n → m < f → lp_X8_placeOf_2 f s0 (nI g) (nI i) μ = some (match fst (fun i => decide (l.getD i 0 = g)) m i with | some j => (0, nI j) | none => (1, 0)) := by
    intro m
    induction m with
    | zero =>
      intro f i q1 q2
      obtain ⟨f, rfl⟩ : ∃ e, f = e + 1 := ⟨f - 1, by omega⟩
      have e1 : nI n ≤ nI i := nI_le (by omega) (by omega)
      simp (config := { decide := true }) only [↓reduceIte, Option.bind_some, Option.bind_none, lp_X8_placeOf_2, gI_e hS.1 hS.2.2.2.2, e1]
      rfl
    | succ m ih =>
      intro f i q1 q2
      obtain ⟨f, rfl⟩ : ∃ e, f = e + 1 := ⟨f - 1, by omega⟩
      have e1 : ¬ nI n ≤ nI i := nI_ge (by omega) (by omega)
      have h1 := hS.2.2.2.1
      have ea : aI μ c0 21 (nI i) = some (nI (l.getD i 0)) := by rw [aI_of hS.2.2.1 (by omega) (by omega), hl i (by omega)]
      have h6 := hl6 i (by omega)
      rw [fst_s]
      by_cases z : l.getD i 0 = g
      · rw [if_pos (decide_eq_true z)]
        rw [z] at ea
        simp (config := { decide := true }) only [↓reduceIte, Option.bind_some, Option.bind_none, lp_X8_placeOf_2, gI_e hS.1 hS.2.2.2.2, e1, gP_of hS.1 hS.2.1, ea]
      · rw [if_neg (by rw [decide_eq_false z]; decide)]
        have e2 : ¬ nI (l.getD i 0) = nI g := fun q => z ((nI_eq (by omega) (by omega)).mp q)
        simp (config := { decide := true }) only [↓reduceIte, Option.bind_some, Option.bind_none, lp_X8_placeOf_2, gI_e hS.1 hS.2.2.2.2, e1, gP_of hS.1 hS.2.1, ea, e2, nI_1]
        exact ih f (i + 1) (by omega) (by omega)
  have e := hloop n BIG 0 (by omega) (by unfold BIG; omega)
  have e' : lp_X8_placeOf_2 BIG s0 (nI g) 0 μ = _ := e
  cases hf : fst (fun i => decide (l.getD i 0 = g)) n 0 with
  | none =>
    rw [hf] at e'
    simp (config := { decide := true }) only [↓reduceIte, Option.bind_some, Option.bind_none, f_X8_placeOf, hS.1, e'] <;> rfl
  | some j =>
    rw [hf] at e'
    simp (config := { decide := true }) only [↓reduceIte, Option.bind_some, Option.bind_none, f_X8_placeOf, hS.1, e'] <;> rfl