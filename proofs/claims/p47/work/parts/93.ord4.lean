/-! ===== orders: the model's tree, walked ===== -/
def inS (o : Option Nat) (s : Nat) : Bool := match o with
  | none => false
  | some g0 => s.testBit g0
def tp (o : Option Nat) (s : Nat) (at' : Bool) : Nat := b1 (inS o s && !at')
theorem tp_step {h : GH} {o : Option Nat} {tt s g : Nat} {at' : Bool} (hat : at' = true → inS o s = true) (hb : s.testBit g = false) : tp o (s ||| 2 ^ g) (at' || (!selo o g && decide (spt h (s ||| 2 ^ g) = tt))) = tp o s at' + b1 (!selo o g && decide (spt h (s ||| 2 ^ g) ≠ tt)) := by
  cases o with
  | none =>
    have e : selo none g = true := decide_eq_true (fun q => by cases q)
    rw [e]
    rfl
  | some g0 =>
    by_cases z : g0 = g
    · subst z
      have e : selo (some g0) g0 = false := decide_eq_false (fun q => q rfl)
      have hat' : at' = false := by
        cases at' with
        | false => rfl
        | true =>
          have h1 : s.testBit g0 = true := hat rfl
          rw [hb] at h1; cases h1
      have e1 : inS (some g0) (s ||| 2 ^ g0) = true := by
        show (s ||| 2 ^ g0).testBit g0 = true
        rw [bt_ob, decide_eq_true rfl, Bool.or_true]
      have e2 : inS (some g0) s = false := hb
      unfold tp
      rw [e, hat', e1, e2]
      by_cases y : spt h (s ||| 2 ^ g0) = tt
      · rw [decide_eq_true y, decide_eq_false (fun q : spt h (s ||| 2 ^ g0) ≠ tt => q y)]; rfl
      · rw [decide_eq_false y, decide_eq_true (show spt h (s ||| 2 ^ g0) ≠ tt from y)]; rfl
    · have e : selo (some g0) g = true := decide_eq_true (fun q => z (Option.some.inj q))
      have e1 : inS (some g0) (s ||| 2 ^ g) = inS (some g0) s := by
        show (s ||| 2 ^ g).testBit g0 = s.testBit g0
        rw [bt_ob, decide_eq_false (fun q => z q.symm), Bool.or_false]
      unfold tp
      rw [e, e1, show (!true && decide (spt h (s ||| 2 ^ g) = tt)) = false from rfl, Bool.or_false]
      rfl
theorem inS_step {h : GH} {o : Option Nat} {tt s g : Nat} {at' : Bool} (hat : at' = true → inS o s = true) : (at' || (!selo o g && decide (spt h (s ||| 2 ^ g) = tt))) = true → inS o (s ||| 2 ^ g) = true := by
  intro q
  cases o with
  | none =>
    have e : selo none g = true := decide_eq_true (fun q => by cases q)
    rw [e, show (!true && decide (spt h (s ||| 2 ^ g) = tt)) = false from rfl, Bool.or_false] at q
    have := hat q
    cases this
  | some g0 =>
    show (s ||| 2 ^ g).testBit g0 = true
    rw [bt_ob]
    rcases (Bool.or_eq_true _ _ ▸ q : at' = true ∨ (!selo (some g0) g && decide (spt h (s ||| 2 ^ g) = tt)) = true) with q | q
    · have h1 : s.testBit g0 = true := hat q
      rw [h1]; rfl
    · have q := (Bool.and_eq_true _ _ ▸ q : (!selo (some g0) g) = true ∧ _).1
      by_cases z : g = g0
      · rw [decide_eq_true z, Bool.or_true]
      · have e : selo (some g0) g = true := decide_eq_true (fun q => z (Option.some.inj q).symm)
        rw [e] at q; cases q
theorem U_le (acc x : Nat × List Nat) : (U acc x).1 ≤ acc.1 := by
  by_cases z : x.1 < acc.1
  · rw [U_lt z]; omega
  · rw [U_ge z]; exact Nat.le_refl _
theorem nAcc_le (h : GH) (o : Option Nat) (tt m s p : Nat) (l : List Nat) (acc : Nat × List Nat) (g : Nat) : (nAcc h o tt m s p l acc g).1 ≤ acc.1 := by
  unfold nAcc nA2
  by_cases z : (fmn (nF h o tt m s) (nS s) g).1 < 64
  · rw [if_pos z]; exact U_le _ _
  · rw [if_neg z]; exact Nat.le_refl _
theorem getD_last {l : List Nat} {g : Nat} : (l ++ [g]).getD ((l ++ [g]).length - 1) 0 = g := by
  rw [List.length_append]
  show (l ++ [g]).getD (l.length + 1 - 1) 0 = g
  rw [Nat.add_sub_cancel]
  exact getD_e (suf := [])
section OT2
variable {R T : GR} {F : GF} {h : GH} {K : GK} {c : Nat} {o : Option Nat} {tt : Nat}
def Fq' (h : GH) (m s g : Nat) : Nat := if (2 ^ h.n - 1).testBit g = true ∧ s.testBit g = false ∧ due h (s ||| 2 ^ g) = false then PW h m (s ||| 2 ^ g) (2 ^ h.n - 1) else 0
def Fl' (h : GH) (m s g : Nat) : Nat := if s.testBit g = false ∧ due h (s ||| 2 ^ g) = false then lq h m (s ||| 2 ^ g) g else 0
end OT2
