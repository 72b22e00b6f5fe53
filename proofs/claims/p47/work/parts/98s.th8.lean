/-! ===== the numbers of the law's hall ===== -/
section NU
variable {T : GR} {K : GK} {a b L : Nat} {xs : Nat → Int32}
/-- alike but for the first row -/
def Og (μ μ' : Mm) (a : Nat) : Prop := (∀ b, b ≠ a + 59 → Sm μ μ' b) ∧ hz μ' = hz μ
theorem Og.rf (μ : Mm) (a : Nat) : Og μ μ a := ⟨fun b _ => Sm.rf μ b, rfl⟩
theorem Og.tr {μ μ1 μ2 : Mm} (h : Og μ μ1 a) (h2 : Og μ1 μ2 a) : Og μ μ2 a := ⟨fun b q => (h.1 b q).tr (h2.1 b q), h2.2.trans h.2⟩
theorem Og.sI {μ μ1 : Mm} (h : Og μ μ1 a) (k : Nat) (v : Int32) : Og μ (sI μ1 (a + 59) k v) a := ⟨fun b q => (h.1 b q).sI q, h.2⟩
/-- the first row, being filled: m guilds of n -/
def Gp (n te m rn : Nat) (kd ft ρ : Nat → Nat) (μ : Mm) (a : Nat) : Prop := tg μ (a + 59) = 21 ∧ ln μ (a + 59) = 24 ∧ mI μ (a + 59) 0 = nI n ∧ mI μ (a + 59) 13 = nI te ∧ mI μ (a + 59) 14 = nI rn ∧ (∀ i, i < m → mI μ (a + 59) (1 + i) = nI (kd i) ∧ mI μ (a + 59) (7 + i) = nI (ft i)) ∧ ∀ k, k < rn → mI μ (a + 59) (15 + k) = nI (ρ k)
/-- what holds of the numbers -/
def Gd (n te m rn : Nat) (kd ft ρ : Nat → Nat) : Prop := 1 ≤ n ∧ n ≤ 5 ∧ 12 ≤ te ∧ te ≤ 30 ∧ (∀ i, i < m → kd i < 6 ∧ 1 ≤ ft i ∧ ft i ≤ 9) ∧ rn ≤ 4 ∧ (∀ j, j < rn → 1 ≤ ρ j ∧ ρ j < te) ∧ ∀ i j, i < j → j < rn → ρ i ≠ ρ j
theorem g_rd {μ : Mm} (h1 : tg μ (a + 59) = 21) (h2 : ln μ (a + 59) = 24) {k : Nat} (hk : k < 24) : aI μ (a + 59) 21 (nI k) = some (mI μ (a + 59) k) := aI_of h1 (by rw [h2]; exact hk) (by omega)
theorem g_wr {μ : Mm} (h1 : tg μ (a + 59) = 21) (h2 : ln μ (a + 59) = 24) {k : Nat} (hk : k < 24) (v : Int32) : qI μ (a + 59) 21 (nI k) v = some (sI μ (a + 59) k v) := qI_of h1 (by rw [h2]; exact hk) (by omega)
theorem nu_3 (sc : SC) {v0 : Nat} {v1 v2 v3 : Int32} : ∀ (f k : Nat) (μ : Mm), k ≤ 24 → 24 < k + f → tg μ (a + 59) = 21 → ln μ (a + 59) = 24 → (∀ j, j < k → mI μ (a + 59) j = 0) → ∃ μ', lp_L_numbers_3 sc f v0 v1 v2 v3 (a + 59) (nI k) μ = some μ' ∧ tg μ' (a + 59) = 21 ∧ ln μ' (a + 59) = 24 ∧ (∀ j, j < 24 → mI μ' (a + 59) j = 0) ∧ Og μ μ' a := by
  intro f
  induction f with
  | zero => intro k μ q1 q2; omega
  | succ f ih =>
    intro k μ q1 q2 h1 h2 h3
    by_cases e : k = 24
    · subst e
      have e1 : (24 : Int32) ≤ nI 24 := by decide
      refine ⟨μ, ?_, h1, h2, h3, Og.rf μ a⟩
      simp (config := { decide := true }) only [↓reduceIte, Option.bind_some, Option.bind_none, lp_L_numbers_3, e1]
    · have e1 : ¬ (24 : Int32) ≤ nI k := (show ¬ nI 24 ≤ nI k from nI_ge (by omega) (by decide))
      have q := g_wr h1 h2 (k := k) (by omega) 0
      obtain ⟨μ', z1, z2, z3, z4, z5⟩ := ih (k + 1) (sI μ (a + 59) k 0) (by omega) (by omega) h1 h2 (fun j hj => by
        by_cases y : j = k
        · rw [y, mI_eq]
        · rw [mI_nk y]; exact h3 j (by omega))
      refine ⟨μ', ?_, z2, z3, z4, ((Og.rf μ a).sI _ _).tr z5⟩
      simp (config := { decide := true }) only [↓reduceIte, Option.bind_some, Option.bind_none, lp_L_numbers_3, e1, q, nI_1, z1]
theorem nu_59 (hL : L ≤ 260) {n te : Nat} (hn : n ≤ 5) : ∀ (f m : Nat) (μ : Mm) (kd ft ρ : Nat → Nat), m ≤ n → n < m + f → Gp n te m 0 kd ft ρ μ a → Gd n te m 0 kd ft ρ → ∃ μ' kd' ft', lp_L_numbers_59 (b, L, xs) f b 10 (a + 59) (nI m) μ = some μ' ∧ Gp n te n 0 kd' ft' ρ μ' a ∧ Gd n te n 0 kd' ft' ρ ∧ Og μ μ' a := by
  intro f
  induction f with
  | zero => intro m μ kd ft ρ q1 q2; omega
  | succ f ih =>
    intro m μ kd ft ρ q1 q2 hG hD
    obtain ⟨g1, g2, g3, g4, g5, g6, g7⟩ := hG
    have e0 : aI μ (a + 59) 21 0 = some (nI n) := (g_rd g1 g2 (k := 0) (by decide)).trans (congrArg some g3)
    by_cases e : m = n
    · have e1 : nI n ≤ nI m := by rw [e]; exact Int32.le_refl _
      subst e
      refine ⟨μ, kd, ft, ?_, ⟨g1, g2, g3, g4, g5, g6, g7⟩, hD, Og.rf μ a⟩
      simp (config := { decide := true }) only [↓reduceIte, Option.bind_some, Option.bind_none, lp_L_numbers_59, e0, e1]
    · have e1 : ¬ nI n ≤ nI m := nI_ge (by omega) (by omega)
      obtain ⟨c, hc, ec⟩ := L_cell (b := b) (xs := xs) hL (show 11 + m ≤ 60 by omega)
      have e28 : (2 : Nat) ^ 28 = 268435456 := by decide
      have e2 : (10 : Int32) + 1 + nI m = nI (11 + m) := nI_add 11 m
      have m6 : nI c - nI c / 6 * 6 = nI (c % 6) := pk_rem (d := 6) (by omega) (by decide) (by decide)
      have d8 : nI c / 8 = nI (c / 8) := pk_div (d := 8) (by omega) (by decide) (by decide)
      have m9 : nI (c / 8) - nI (c / 8) / 9 * 9 = nI (c / 8 % 9) := pk_rem (d := 9) (by omega) (by decide) (by decide)
      have a1 : (1 : Int32) + nI (c / 8 % 9) = nI (1 + c / 8 % 9) := nI_add 1 _
      have i1 : (1 : Int32) + nI m = nI (1 + m) := nI_add 1 m
      have i7 : (7 : Int32) + nI m = nI (7 + m) := nI_add 7 m
      have q1' := g_wr g1 g2 (k := 1 + m) (by omega) (nI (c % 6))
      have q7' : qI (sI μ (a + 59) (1 + m) (nI (c % 6))) (a + 59) 21 (nI (7 + m)) (nI (1 + c / 8 % 9)) = some (sI (sI μ (a + 59) (1 + m) (nI (c % 6))) (a + 59) (7 + m) (nI (1 + c / 8 % 9))) := g_wr (a := a) (μ := sI μ (a + 59) (1 + m) (nI (c % 6))) g1 g2 (k := 7 + m) (by omega) _
      have r : ∀ j, j ≠ 1 + m → j ≠ 7 + m → mI (sI (sI μ (a + 59) (1 + m) (nI (c % 6))) (a + 59) (7 + m) (nI (1 + c / 8 % 9))) (a + 59) j = mI μ (a + 59) j := fun j j1 j2 => by rw [mI_nk j2, mI_nk j1]
      obtain ⟨d1, d2, d3, d4, d5, d6, d7, d8'⟩ := hD
      obtain ⟨μ', kd', ft', z1, z2, z3, z4⟩ := ih (m + 1) (sI (sI μ (a + 59) (1 + m) (nI (c % 6))) (a + 59) (7 + m) (nI (1 + c / 8 % 9))) (u1 kd m (c % 6)) (u1 ft m (1 + c / 8 % 9)) ρ (by omega) (by omega) ⟨g1, g2, (r _ (by omega) (by omega)).trans g3, (r _ (by omega) (by omega)).trans g4, (r _ (by omega) (by omega)).trans g5, fun i hi => by
        by_cases y : i = m
        · subst y
          rw [u1_eq, u1_eq]
          exact ⟨by rw [mI_nk (by omega), mI_eq], mI_eq⟩
        · rw [u1_ne y, u1_ne y, r _ (by omega) (by omega), r _ (by omega) (by omega)]
          exact g6 i (by omega), fun k hk => absurd hk (Nat.not_lt_zero _)⟩ ⟨d1, d2, d3, d4, fun i hi => by
        by_cases y : i = m
        · subst y
          rw [u1_eq, u1_eq]
          omega
        · rw [u1_ne y, u1_ne y]
          exact d5 i (by omega), d6, d7, d8'⟩
      refine ⟨μ', kd', ft', ?_, z2, z3, (((Og.rf μ a).sI _ _).sI _ _).tr z4⟩
      have ec' := ec μ
      simp (config := { decide := true }) only [↓reduceIte, Option.bind_some, Option.bind_none, lp_L_numbers_59, e0, e1, e2, ec', m6, d8, m9, a1, i1, i7, q1', q7', nI_1, z1]
theorem nu_119 (hL : L ≤ 260) {n te c0 : Nat} (hc0 : c0 < 2 ^ 28) (he : ∀ μ, f_L_cell (b, L, xs) μ b 10 = some (nI c0)) {kd ft : Nat → Nat} : ∀ (f k : Nat) (μ : Mm) (rn : Nat) (ρ : Nat → Nat), k ≤ c0 / 512 % 5 → c0 / 512 % 5 < k + f → rn ≤ k → Gp n te n rn kd ft ρ μ a → Gd n te n rn kd ft ρ → ∃ μ' rn' ρ', lp_L_numbers_119 (b, L, xs) f b 10 (a + 59) (nI k) μ = some μ' ∧ Gp n te n rn' kd ft ρ' μ' a ∧ Gd n te n rn' kd ft ρ' ∧ Og μ μ' a := by
  have e28 : (2 : Nat) ^ 28 = 268435456 := by decide
  have d5 : nI c0 / 512 = nI (c0 / 512) := pk_div (d := 512) (by omega) (by decide) (by decide)
  have m5 : nI (c0 / 512) - nI (c0 / 512) / 5 * 5 = nI (c0 / 512 % 5) := pk_rem (d := 5) (by omega) (by decide) (by decide)
  have hM : c0 / 512 % 5 < 5 := Nat.mod_lt _ (by decide)
  generalize c0 / 512 % 5 = M at m5 hM
  intro f
  induction f with
  | zero => intro k μ rn ρ q1 q2; omega
  | succ f ih =>
    intro k μ rn ρ q1 q2 q3 hG hD
    have he' := he μ
    by_cases e : k = M
    · have e1 : nI M ≤ nI k := by rw [e]; exact Int32.le_refl _
      refine ⟨μ, rn, ρ, ?_, hG, hD, Og.rf μ a⟩
      simp (config := { decide := true }) only [↓reduceIte, Option.bind_some, Option.bind_none, lp_L_numbers_119, he', d5, m5, e1]
    · have e1 : ¬ nI M ≤ nI k := nI_ge (by omega) (by omega)
      obtain ⟨g1, g2, g3, g4, g5, g6, g7⟩ := hG
      obtain ⟨d1, d2, d3, d4, d5', d6, d7, d8⟩ := hD
      obtain ⟨c, hc, ec⟩ := L_cell (b := b) (xs := xs) hL (show 18 + k ≤ 60 by omega)
      have ec' := ec μ
      have e2 : (10 : Int32) + 8 + nI k = nI (18 + k) := nI_add 18 k
      have e13 : aI μ (a + 59) 21 13 = some (nI te) := (g_rd g1 g2 (k := 13) (by decide)).trans (congrArg some g4)
      have e14 : aI μ (a + 59) 21 14 = some (nI rn) := (g_rd g1 g2 (k := 14) (by decide)).trans (congrArg some g5)
      have s1 : nI te - 1 = nI (te - 1) := pk_sub (b := 1) (by omega)
      have s0 : ¬ nI (te - 1) = 0 := nI_ne0 (by omega) (by omega)
      have mt' : nI c - nI c / nI (te - 1) * nI (te - 1) = nI (c % (te - 1)) := pk_rem (by omega) (by omega) (by omega)
      have a1 : (1 : Int32) + nI (c % (te - 1)) = nI (1 + c % (te - 1)) := nI_add 1 _
      have hlt : c % (te - 1) < te - 1 := Nat.mod_lt _ (by omega)
      generalize c % (te - 1) = t at mt' a1 hlt
      have y := L_rent (a := a) (n := n) (te := te) (rn := rn) (kd := kd) (ft := ft) (rh := fun k => nI (ρ k)) (μ := μ) ⟨g1, g2, g3, g4, g5, g6, g7⟩ (by omega) (nI (1 + t))
      cases hb : hasR (fun k => nI (ρ k)) (nI (1 + t)) rn with
      | true =>
        rw [hb] at y
        have y : f_L_rent μ (a + 59) (nI (1 + t)) = some 1 := y
        obtain ⟨μ', rn', ρ', z1, z2⟩ := ih (k + 1) μ rn ρ (by omega) (by omega) (by omega) ⟨g1, g2, g3, g4, g5, g6, g7⟩ ⟨d1, d2, d3, d4, d5', d6, d7, d8⟩
        refine ⟨μ', rn', ρ', ?_, z2⟩
        simp (config := { decide := true }) only [↓reduceIte, Option.bind_some, Option.bind_none, lp_L_numbers_119, he', d5, m5, e1, e2, ec', e13, s1, s0, mt', a1, y, nI_1, z1]
      | false =>
        rw [hb] at y
        have y : f_L_rent μ (a + 59) (nI (1 + t)) = some 0 := y
        have hno := of_decide_eq_false hb
        have i15 : (15 : Int32) + nI rn = nI (15 + rn) := nI_add 15 rn
        have q15 := g_wr g1 g2 (k := 15 + rn) (by omega) (nI (1 + t))
        have e14' : aI (sI μ (a + 59) (15 + rn) (nI (1 + t))) (a + 59) 21 14 = some (nI rn) := by
          have := g_rd (a := a) (μ := sI μ (a + 59) (15 + rn) (nI (1 + t))) g1 g2 (k := 14) (by decide)
          rw [mI_nk (by omega), g5] at this
          exact this
        have q14 : qI (sI μ (a + 59) (15 + rn) (nI (1 + t))) (a + 59) 21 14 (nI (rn + 1)) = some (sI (sI μ (a + 59) (15 + rn) (nI (1 + t))) (a + 59) 14 (nI (rn + 1))) := g_wr (a := a) (μ := sI μ (a + 59) (15 + rn) (nI (1 + t))) g1 g2 (k := 14) (by decide) _
        have r : ∀ j, j ≠ 15 + rn → j ≠ 14 → mI (sI (sI μ (a + 59) (15 + rn) (nI (1 + t))) (a + 59) 14 (nI (rn + 1))) (a + 59) j = mI μ (a + 59) j := fun j j1 j2 => by rw [mI_nk j2, mI_nk j1]
        obtain ⟨μ', rn', ρ', z1, z2, z3, z4⟩ := ih (k + 1) (sI (sI μ (a + 59) (15 + rn) (nI (1 + t))) (a + 59) 14 (nI (rn + 1))) (rn + 1) (u1 ρ rn (1 + t)) (by omega) (by omega) (by omega) ⟨g1, g2, (r _ (by omega) (by omega)).trans g3, (r _ (by omega) (by omega)).trans g4, mI_eq, fun i hi => ⟨(r _ (by omega) (by omega)).trans (g6 i hi).1, (r _ (by omega) (by omega)).trans (g6 i hi).2⟩, fun j hj => by
          by_cases z : j = rn
          · subst z
            rw [u1_eq, mI_nk (by omega), mI_eq]
          · rw [u1_ne z, r _ (by omega) (by omega)]
            exact g7 j (by omega)⟩ ⟨d1, d2, d3, d4, d5', by omega, fun j hj => by
          by_cases z : j = rn
          · subst z
            rw [u1_eq]; omega
          · rw [u1_ne z]
            exact d7 j (by omega), fun i j hij hj => by
          by_cases z : j = rn
          · subst z
            rw [u1_eq, u1_ne (by omega)]
            intro q
            exact hno ⟨i, hij, congrArg nI q⟩
          · rw [u1_ne z, u1_ne (by omega)]
            exact d8 i j hij (by omega)⟩
        refine ⟨μ', rn', ρ', ?_, z2, z3, (((Og.rf μ a).sI _ _).sI _ _).tr z4⟩
        simp (config := { decide := true }) only [↓reduceIte, Option.bind_some, Option.bind_none, lp_L_numbers_119, he', d5, m5, e1, e2, ec', e13, s1, s0, mt', a1, y, e14, i15, q15, e14', nI_1, q14, z1]
theorem L_numbers (hL : L ≤ 260) {μ : Mm} (h1 : tg μ (a + 59) = 21) (h2 : ln μ (a + 59) = 24) : ∃ μ' n te rn kd ft ρ, f_L_numbers (b, L, xs) μ b 10 5 30 (a + 59) = some μ' ∧ Gp n te n rn kd ft ρ μ' a ∧ Gd n te n rn kd ft ρ ∧ Og μ μ' a := by
  obtain ⟨c, hc, ec⟩ := L_cell (b := b) (xs := xs) hL (show 10 ≤ 60 by decide)
  have ec : ∀ μ, f_L_cell (b, L, xs) μ b 10 = some (nI c) := ec
  have e28 : (2 : Nat) ^ 28 = 268435456 := by decide
  obtain ⟨μ1, z1, z2, z3, z4, z5⟩ := nu_3 (a := a) (b, L, xs) (v0 := b) (v1 := 10) (v2 := 5) (v3 := 30) BIG 0 μ (by decide) (by unfold BIG; omega) h1 h2 (fun j hj => absurd hj (Nat.not_lt_zero _))
  have z1 : lp_L_numbers_3 (b, L, xs) BIG b 10 5 30 (a + 59) 0 μ = some μ1 := z1
  have c1 := ec μ1
  have m5 : nI c - nI c / 5 * 5 = nI (c % 5) := pk_rem (d := 5) (by omega) (by decide) (by decide)
  have a5 : (1 : Int32) + nI (c % 5) = nI (1 + c % 5) := nI_add 1 _
  have q0 : qI μ1 (a + 59) 21 0 (nI (1 + c % 5)) = some (sI μ1 (a + 59) 0 (nI (1 + c % 5))) := g_wr z2 z3 (k := 0) (by decide) _
  have c2 := ec (sI μ1 (a + 59) 0 (nI (1 + c % 5)))
  have d8 : nI c / 8 = nI (c / 8) := pk_div (d := 8) (by omega) (by decide) (by decide)
  have k19 : (30 : Int32) - 11 = 19 := by decide
  have m19 : nI (c / 8) - nI (c / 8) / 19 * 19 = nI (c / 8 % 19) := pk_rem (d := 19) (by omega) (by decide) (by decide)
  have a12 : (12 : Int32) + nI (c / 8 % 19) = nI (12 + c / 8 % 19) := nI_add 12 _
  have q13 : qI (sI μ1 (a + 59) 0 (nI (1 + c % 5))) (a + 59) 21 13 (nI (12 + c / 8 % 19)) = some (sI (sI μ1 (a + 59) 0 (nI (1 + c % 5))) (a + 59) 13 (nI (12 + c / 8 % 19))) := g_wr (a := a) (μ := sI μ1 (a + 59) 0 (nI (1 + c % 5))) z2 z3 (k := 13) (by decide) _
  obtain ⟨μ2, kd, ft, y1, y2, y3, y4⟩ := nu_59 (a := a) (b := b) (xs := xs) hL (n := 1 + c % 5) (te := 12 + c / 8 % 19) (by omega) BIG 0 (sI (sI μ1 (a + 59) 0 (nI (1 + c % 5))) (a + 59) 13 (nI (12 + c / 8 % 19))) (fun _ => 0) (fun _ => 0) (fun _ => 0) (by omega) (by unfold BIG; omega) ⟨z2, z3, by rw [mI_nk (by decide), mI_eq], mI_eq, by rw [mI_nk (by decide), mI_nk (by decide)]; exact z4 14 (by decide), fun i hi => absurd hi (Nat.not_lt_zero _), fun i hi => absurd hi (Nat.not_lt_zero _)⟩ ⟨by omega, by omega, by omega, by omega, fun i hi => absurd hi (Nat.not_lt_zero _), by decide, fun i hi => absurd hi (Nat.not_lt_zero _), fun i j _ hj => absurd hj (Nat.not_lt_zero _)⟩
  have y1 : lp_L_numbers_59 (b, L, xs) BIG b 10 (a + 59) 0 (sI (sI μ1 (a + 59) 0 (nI (1 + c % 5))) (a + 59) 13 (nI (12 + c / 8 % 19))) = some μ2 := y1
  obtain ⟨μ3, rn, ρ, x1, x2, x3, x4⟩ := nu_119 (a := a) (b := b) (xs := xs) hL hc ec BIG 0 μ2 0 (fun _ => 0) (Nat.zero_le _) (by unfold BIG; omega) (Nat.le_refl _) y2 y3
  have x1 : lp_L_numbers_119 (b, L, xs) BIG b 10 (a + 59) 0 μ2 = some μ3 := x1
  refine ⟨μ3, _, _, rn, kd, ft, ρ, ?_, x2, x3, ((z5.tr (((Og.rf μ1 a).sI _ _).sI _ _)).tr y4).tr x4⟩
  simp (config := { decide := true }) only [↓reduceIte, Option.bind_some, Option.bind_none, f_L_numbers, z1, c1, m5, a5, q0, c2, k19, d8, m19, a12, q13, y1, x1]
end NU
/-! ===== the text of the law's hall ===== -/
def ch (k : Nat) : Nat := if k = 0 then 103 else if k = 1 then 104 else if k = 2 then 99 else if k = 3 then 107 else if k = 4 then 114 else 116
/-- its bytes -/
def Ct (n te rn : Nat) (kd ft ρ : Nat → Nat) (j : Nat) : Nat := if j = 1 then 100 else if j = 2 then 48 + te / 10 else if j = 3 then 48 + te % 10 else if 4 ≤ j ∧ j < 4 + 2 * n then (if (j - 4) % 2 = 0 then ch (kd ((j - 4) / 2)) else 48 + ft ((j - 4) / 2)) else if 4 + 2 * n ≤ j ∧ j < 4 + 2 * n + 3 * rn then (if (j - 4 - 2 * n) % 3 = 0 then 101 else if (j - 4 - 2 * n) % 3 = 1 then 48 + ρ ((j - 4 - 2 * n) / 3) / 10 else 48 + ρ ((j - 4 - 2 * n) / 3) % 10) else 32
section CT
variable {n te rn : Nat} {kd ft ρ : Nat → Nat}
theorem Ct_1 : Ct n te rn kd ft ρ 1 = 100 := by unfold Ct; rw [if_pos rfl]
theorem Ct_2 : Ct n te rn kd ft ρ 2 = 48 + te / 10 := by unfold Ct; rw [if_neg (by decide), if_pos rfl]
theorem Ct_3 : Ct n te rn kd ft ρ 3 = 48 + te % 10 := by unfold Ct; rw [if_neg (by decide), if_neg (by decide), if_pos rfl]
theorem Ct_k {x : Nat} (hx : x < n) : Ct n te rn kd ft ρ (4 + 2 * x) = ch (kd x) := by
  unfold Ct
  rw [if_neg (by omega), if_neg (by omega), if_neg (by omega), if_pos (by omega), if_pos (by omega), show (4 + 2 * x - 4) / 2 = x by omega]
theorem Ct_f {x : Nat} (hx : x < n) : Ct n te rn kd ft ρ (4 + 2 * x + 1) = 48 + ft x := by
  unfold Ct
  rw [if_neg (by omega), if_neg (by omega), if_neg (by omega), if_pos (by omega), if_neg (by omega), show (4 + 2 * x + 1 - 4) / 2 = x by omega]
theorem Ct_e {y : Nat} (hy : y < rn) : Ct n te rn kd ft ρ (4 + 2 * n + 3 * y) = 101 := by
  unfold Ct
  rw [if_neg (by omega), if_neg (by omega), if_neg (by omega), if_neg (by omega), if_pos (by omega), if_pos (by omega)]
theorem Ct_t {y : Nat} (hy : y < rn) : Ct n te rn kd ft ρ (4 + 2 * n + 3 * y + 1) = 48 + ρ y / 10 := by
  unfold Ct
  rw [if_neg (by omega), if_neg (by omega), if_neg (by omega), if_neg (by omega), if_pos (by omega), if_neg (by omega), if_pos (by omega), show (4 + 2 * n + 3 * y + 1 - 4 - 2 * n) / 3 = y by omega]
theorem Ct_u {y : Nat} (hy : y < rn) : Ct n te rn kd ft ρ (4 + 2 * n + 3 * y + 1 + 1) = 48 + ρ y % 10 := by
  unfold Ct
  rw [if_neg (by omega), if_neg (by omega), if_neg (by omega), if_neg (by omega), if_pos (by omega), if_neg (by omega), if_neg (by omega), show (4 + 2 * n + 3 * y + 1 + 1 - 4 - 2 * n) / 3 = y by omega]
theorem Ct_end {j : Nat} (hj : 4 + 2 * n + 3 * rn ≤ j) : Ct n te rn kd ft ρ j = 32 := by
  unfold Ct
  rw [if_neg (by omega), if_neg (by omega), if_neg (by omega), if_neg (by omega), if_neg (by omega)]
theorem Ct_0 : Ct n te rn kd ft ρ 0 = 32 := by
  unfold Ct
  rw [if_neg (by decide), if_neg (by decide), if_neg (by decide), if_neg (by omega), if_neg (by omega)]
-- read as a hall
theorem isf_n {u : Nat} (hu : u ≤ 9) : isf (nI (48 + u)) = true ∧ fig (nI (48 + u)) = u := by
  have tab : ∀ u, u < 10 → isf (nI (48 + u)) = true ∧ fig (nI (48 + u)) = u := by decide +kernel
  exact tab u (by omega)
theorem two_n {G : Nat → Int32} {i lo hi u v : Nat} (h1 : G i = nI (48 + u)) (h2 : G (i + 1) = nI (48 + v)) (hu : u ≤ 9) (hv : v ≤ 9) (hi' : i + 1 < 60) (hl : lo ≤ 10 * u + v) (hh : 10 * u + v ≤ hi) : two G 60 i lo hi = .inr (10 * u + v) := by
  unfold two
  rw [h1, h2, (isf_n hu).1, (isf_n hu).2, (isf_n hv).1, (isf_n hv).2, if_pos ⟨by omega, rfl⟩, if_pos ⟨hi', rfl⟩, if_pos ⟨hl, hh⟩]
theorem ch_tab : ∀ k, k < 6 → kof (nI (ch k)) = some k ∧ ¬ nI (ch k) = 101 ∧ ¬ nI (ch k) = 32 := by decide +kernel
theorem isr_0 (t : Nat) : isr 0 t = false := by
  unfold isr
  show (BitVec.ofNat 64 0).getLsbD t = false
  simp
theorem pa_g {G : Nat → Int32} (hG : ∀ j, j < 60 → G j = nI (Ct n te rn kd ft ρ j)) (hD : Gd n te n rn kd ft ρ) : ∀ (m x d : Nat) (P : PS), x + m = n → m ≤ d → P.n = x → P.te = te → P.rm = 0 → P.rs = 0 → (∀ i, i < x → P.kd i = kd i ∧ P.ft i = ft i) → ∃ Q : PS, prs G 60 d (4 + 2 * x) P = prs G 60 (d - m) (4 + 2 * n) Q ∧ Q.n = n ∧ Q.te = te ∧ Q.rm = 0 ∧ Q.rs = 0 ∧ ∀ i, i < n → Q.kd i = kd i ∧ Q.ft i = ft i := by
  obtain ⟨d1, d2, d3, d4, d5, d6, d7, d8⟩ := hD
  intro m
  induction m with
  | zero =>
    intro x d P q1 q2 p1 p2 p3 p4 p5
    have : x = n := by omega
    subst this
    exact ⟨P, rfl, p1, p2, p3, p4, p5⟩
  | succ m ih =>
    intro x d P q1 q2 p1 p2 p3 p4 p5
    obtain ⟨d, rfl⟩ : ∃ e, d = e + 1 := ⟨d - 1, by omega⟩
    obtain ⟨w1, w2, w3⟩ := d5 x (by omega)
    have e1 : G (4 + 2 * x) = nI (ch (kd x)) := by rw [hG _ (by omega), Ct_k (by omega)]
    have e2 : G (4 + 2 * x + 1) = nI (48 + ft x) := by rw [hG _ (by omega), Ct_f (by omega)]
    obtain ⟨t1, t2, t3⟩ := ch_tab (kd x) w1
    obtain ⟨f1, f2⟩ := isf_n w3
    have hit : itm G 60 (4 + 2 * x) P = .inr (4 + 2 * x + 2, (P.n + 1, P.te, P.rs, P.rm, u1 P.kd P.n (kd x), u1 P.ft P.n (ft x))) := by
      unfold itm
      rw [if_neg (by omega), e1, if_neg t2, t1]
      show (if 6 ≤ P.n ∨ 0 < P.rm then _ else _) = _
      rw [if_neg (by omega), e2, f1, f2, if_pos ⟨by omega, rfl, by omega⟩]
    obtain ⟨Q, z1, z2⟩ := ih (x + 1) d (P.n + 1, P.te, P.rs, P.rm, u1 P.kd P.n (kd x), u1 P.ft P.n (ft x)) (by omega) (by omega) (by show P.n + 1 = x + 1; omega) p2 p3 p4 (fun i hi => by
      show u1 P.kd P.n (kd x) i = kd i ∧ u1 P.ft P.n (ft x) i = ft i
      rw [p1]
      by_cases z : i = x
      · rw [z, u1_eq, u1_eq]; exact ⟨rfl, rfl⟩
      · rw [u1_ne z, u1_ne z]; exact p5 i (by omega))
    refine ⟨Q, ?_, z2⟩
    rw [prs_s, skp_stay (by omega) (by rw [e1]; exact t3), if_neg (by omega), hit]
    show prs G 60 d (4 + 2 * x + 2) _ = _
    rw [show 4 + 2 * x + 2 = 4 + 2 * (x + 1) by omega, z1, show d + 1 - (m + 1) = d - m by omega]
theorem pa_e {G : Nat → Int32} (hG : ∀ j, j < 60 → G j = nI (Ct n te rn kd ft ρ j)) (hD : Gd n te n rn kd ft ρ) : ∀ (m y d : Nat) (P : PS), y + m = rn → m ≤ d → P.n = n → P.te = te → P.rm = y → (∀ t, isr P.rs t = true → ∃ j, j < y ∧ ρ j = t) → (∀ i, i < n → P.kd i = kd i ∧ P.ft i = ft i) → ∃ Q : PS, prs G 60 d (4 + 2 * n + 3 * y) P = prs G 60 (d - m) (4 + 2 * n + 3 * rn) Q ∧ Q.n = n ∧ Q.te = te ∧ ∀ i, i < n → Q.kd i = kd i ∧ Q.ft i = ft i := by
  obtain ⟨d1, d2, d3, d4, d5, d6, d7, d8⟩ := hD
  intro m
  induction m with
  | zero =>
    intro y d P q1 q2 p1 p2 p3 p4 p5
    have : y = rn := by omega
    subst this
    exact ⟨P, rfl, p1, p2, p5⟩
  | succ m ih =>
    intro y d P q1 q2 p1 p2 p3 p4 p5
    obtain ⟨d, rfl⟩ : ∃ e, d = e + 1 := ⟨d - 1, by omega⟩
    obtain ⟨w1, w2⟩ := d7 y (by omega)
    have e1 : G (4 + 2 * n + 3 * y) = 101 := by rw [hG _ (by omega), Ct_e (by omega)]; rfl
    have e2 : G (4 + 2 * n + 3 * y + 1) = nI (48 + ρ y / 10) := by rw [hG _ (by omega), Ct_t (by omega)]
    have e3 : G (4 + 2 * n + 3 * y + 1 + 1) = nI (48 + ρ y % 10) := by rw [hG _ (by omega), Ct_u (by omega)]
    have e4 : 10 * (ρ y / 10) + ρ y % 10 = ρ y := Nat.div_add_mod (ρ y) 10
    have hno : ¬ isr P.rs (ρ y) = true := fun q => by
      obtain ⟨j, j1, j2⟩ := p4 _ q
      exact d8 j y j1 (by omega) j2
    have h2 : two G 60 (4 + 2 * n + 3 * y + 2 - 1) 1 (P.te - 1) = .inr (ρ y) := by
      have := two_n (i := 4 + 2 * n + 3 * y + 1) (lo := 1) (hi := P.te - 1) e2 e3 (by omega) (by omega) (by omega) (by omega) (by omega)
      rw [e4] at this
      exact this
    have hit : itm G 60 (4 + 2 * n + 3 * y) P = .inr (4 + 2 * n + 3 * y + 3, (P.n, P.te, orb P.rs (ρ y), P.rm + 1, P.kd, P.ft)) := by
      unfold itm
      rw [if_neg (by omega), if_pos e1, if_neg (by omega), h2]
      show (if isr P.rs (ρ y) = true then _ else _) = _
      rw [if_neg hno]
    obtain ⟨Q, z1, z2⟩ := ih (y + 1) d (P.n, P.te, orb P.rs (ρ y), P.rm + 1, P.kd, P.ft) (by omega) (by omega) p1 p2 (by show P.rm + 1 = y + 1; omega) (fun t q => by
      have q : isr (orb P.rs (ρ y)) t = true := q
      unfold orb at q
      rw [isr_or P.rs (show ρ y < 64 by omega), Bool.or_eq_true] at q
      rcases q with q | q
      · obtain ⟨j, j1, j2⟩ := p4 t q
        exact ⟨j, by omega, j2⟩
      · exact ⟨y, Nat.lt_succ_self y, (of_decide_eq_true q).symm⟩) p5
    refine ⟨Q, ?_, z2⟩
    rw [prs_s, skp_stay (by omega) (by rw [e1]; decide), if_neg (by omega), hit]
    show prs G 60 d (4 + 2 * n + 3 * y + 3) _ = _
    rw [show 4 + 2 * n + 3 * y + 3 = 4 + 2 * n + 3 * (y + 1) by omega, z1, show d + 1 - (m + 1) = d - m by omega]
theorem skp_all {G : Nat → Int32} : ∀ (m i : Nat), i + m = 60 → (∀ j, i ≤ j → j < 60 → G j = 32) → skp G m i = 60 := by
  intro m
  induction m with
  | zero => intro i q _; show i = 60; omega
  | succ m ih =>
    intro i q h
    rw [skp_s, if_pos (h i (Nat.le_refl _) (by omega))]
    exact ih (i + 1) (by omega) (fun j q1 q2 => h j (by omega) q2)
/-- the law's text, read -/
theorem par_law {G : Nat → Int32} (hG : ∀ j, j < 60 → G j = nI (Ct n te rn kd ft ρ j)) (hD : Gd n te n rn kd ft ρ) : ∃ P : PS, par G 60 = .inr P ∧ P.n = n ∧ P.te = te ∧ ∀ i, i < n → P.kd i = kd i ∧ P.ft i = ft i := by
  have hD' := hD
  obtain ⟨d1, d2, d3, d4, d5, d6, d7, d8⟩ := hD'
  have e0 : G 0 = 32 := by rw [hG _ (by decide), Ct_0]; rfl
  have e1 : G 1 = 100 := by rw [hG _ (by decide), Ct_1]; rfl
  have e2 : G (1 + 1) = nI (48 + te / 10) := by rw [hG _ (by decide), Ct_2]
  have e3 : G (1 + 1 + 1) = nI (48 + te % 10) := by rw [hG _ (by decide), Ct_3]
  have e4 : 10 * (te / 10) + te % 10 = te := Nat.div_add_mod te 10
  have h2 : two G 60 (1 + 1) 12 60 = .inr te := by
    have := two_n (lo := 12) (hi := 60) e2 e3 (by omega) (by omega) (by decide) (by omega) (by omega)
    rw [e4] at this
    exact this
  have hit : itm G 60 1 P0 = .inr (1 + 3, (0, te, 0, 0, P0.kd, P0.ft)) := by
    unfold itm
    rw [if_pos (show P0.te = 0 from rfl), if_pos e1, h2]
    rfl
  obtain ⟨Q, z1, z2, z3, z4, z5, z6⟩ := pa_g hG hD n 0 61 (0, te, 0, 0, P0.kd, P0.ft) (Nat.zero_add _) (by omega) rfl rfl rfl rfl (fun i hi => absurd hi (Nat.not_lt_zero _))
  obtain ⟨P, y1, y2, y3, y4⟩ := pa_e hG hD rn 0 (61 - n) Q (Nat.zero_add _) (by omega) z2 z3 z4 (fun t q => by rw [z5, isr_0] at q; cases q) z6
  refine ⟨P, ?_, y2, y3, y4⟩
  have hs0 : skp G (60 - 0) 0 = 1 := by
    rw [skp_step (m := 60) (by decide) e0]
    exact skp_stay (m := 60) (i := 1) (by decide) (by rw [e1]; decide)
  have hp : prs G 60 62 0 P0 = .inr P := by
    rw [prs_s, hs0, if_neg (by decide), hit]
    show prs G 60 61 (4 + 2 * 0) (0, te, 0, 0, P0.kd, P0.ft) = _
    rw [z1, show 4 + 2 * n = 4 + 2 * n + 3 * 0 by omega, y1]
    obtain ⟨d, hd⟩ : ∃ d, 61 - n - rn = d + 1 := ⟨61 - n - rn - 1, by omega⟩
    rw [hd, prs_s, skp_all (60 - (4 + 2 * n + 3 * rn)) (4 + 2 * n + 3 * rn) (by omega) (fun j q1 q2 => by rw [hG j q2, Ct_end q1]; rfl), if_pos (Nat.le_refl _)]
  unfold par
  rw [hp]
  show (if P.n = 0 then _ else _) = _
  rw [if_neg (by omega)]
end CT
