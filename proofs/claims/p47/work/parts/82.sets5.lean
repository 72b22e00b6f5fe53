/-! ===== fits, sure, ask ===== -/
theorem ffN_fst (h : GH) (t : Nat) : ∀ s, ffN h t s = fst (fit h t) s 0 := by
  have hn : ∀ s, (∀ i, i < s → fit h t i = false) → ffN h t s = none := by
    intro s
    induction s with
    | zero => intro _; rfl
    | succ s ih =>
      intro q
      rw [ffN_s]
      rw [if_neg (fun z => by have := q s (by omega); rw [this] at z; cases z.1)]
      exact ih fun i hi => q i (by omega)
  have hs : ∀ s j, j < s → fit h t j = true → (∀ i, i < j → fit h t i = false) → ffN h t s = some j := by
    intro s
    induction s with
    | zero => intro j hj; omega
    | succ s ih =>
      intro j hj e1 e2
      rw [ffN_s]
      by_cases z : j = s
      · subst z
        rw [if_pos ⟨e1, (cntP_zero _).mpr e2⟩]
      · rw [if_neg (fun q => by have := (cntP_zero _).mp q.2 j (by omega); rw [e1] at this; cases this)]
        exact ih j (by omega) e1 e2
  intro s
  rcases fst_cases (fit h t) s 0 with ⟨j, j1, j2, j3, j4⟩ | q
  · rw [fst_some (fit h t) s 0 j j1 j2 j3 j4]
    exact hs s j (by omega) j3 (fun i hi => j4 i (Nat.zero_le _) hi)
  · rw [fst_none (fit h t) s 0 q]
    exact hn s fun i hi => q i (Nat.zero_le _) (by omega)
theorem andN_b (h : GH) (t j : Nat) : ∀ s, (andN h t s).testBit j = true ↔ (j < h.n ∧ ∀ i, i < s → fit h t i = true → i.testBit j = true) := by
  intro s
  induction s with
  | zero =>
    unfold andN
    rw [Nat.testBit_two_pow_sub_one, decide_eq_true_iff]
    exact ⟨fun q => ⟨q, fun i hi => absurd hi (Nat.not_lt_zero i)⟩, fun q => q.1⟩
  | succ s ih =>
    rw [andN_s]
    by_cases e : fit h t s = true
    · rw [if_pos e, Nat.testBit_and, Bool.and_eq_true, ih]
      constructor
      · rintro ⟨⟨q1, q2⟩, q3⟩
        refine ⟨q1, fun i hi hf => ?_⟩
        by_cases z : i = s
        · rw [z]; exact q3
        · exact q2 i (by omega) hf
      · rintro ⟨q1, q2⟩
        exact ⟨⟨q1, fun i hi => q2 i (by omega)⟩, q2 s (by omega) e⟩
    · rw [if_neg e, ih]
      constructor
      · rintro ⟨q1, q2⟩
        refine ⟨q1, fun i hi hf => ?_⟩
        by_cases z : i = s
        · rw [z] at hf; exact absurd hf e
        · exact q2 i (by omega) hf
      · rintro ⟨q1, q2⟩
        exact ⟨q1, fun i hi => q2 i (by omega)⟩
theorem orN_b (h : GH) (t j : Nat) : ∀ s, (orN h t s).testBit j = true ↔ ∃ i, i < s ∧ fit h t i = true ∧ i.testBit j = true := by
  intro s
  induction s with
  | zero =>
    unfold orN
    rw [Nat.zero_testBit]
    exact ⟨fun q => (by cases q), fun ⟨i, hi, _⟩ => absurd hi (Nat.not_lt_zero i)⟩
  | succ s ih =>
    rw [orN_s]
    by_cases e : fit h t s = true
    · rw [if_pos e, Nat.testBit_or, Bool.or_eq_true, ih]
      constructor
      · rintro (⟨i, q1, q2⟩ | q)
        · exact ⟨i, by omega, q2⟩
        · exact ⟨s, by omega, e, q⟩
      · rintro ⟨i, q1, q2, q3⟩
        by_cases z : i = s
        · rw [z] at q3; exact Or.inr q3
        · exact Or.inl ⟨i, by omega, q2, q3⟩
    · rw [if_neg e, ih]
      constructor
      · rintro ⟨i, q1, q2⟩
        exact ⟨i, by omega, q2⟩
      · rintro ⟨i, q1, q2, q3⟩
        by_cases z : i = s
        · rw [z] at q2; exact absurd q2 e
        · exact ⟨i, by omega, q2, q3⟩
theorem sur_and (h : GH) (t : Nat) : sur h t = andN h t (2 ^ h.n) := by
  apply Nat.eq_of_testBit_eq
  intro j
  rw [Bool.eq_iff_iff, andN_b]
  unfold sur
  rw [bts_b, Bool.and_eq_true, decide_eq_true_iff, decide_eq_true_iff]
  have hc := (cntP_sub (P := fitg h t j) (Q := fit h t) (2 ^ h.n) (fun i _ q => fitg_sub q)).2
  constructor
  · rintro ⟨q1, q2⟩
    refine ⟨q1, fun i hi hf => ?_⟩
    have := hc.mp q2 i hi hf
    unfold fitg at this
    rw [hf, Bool.true_and] at this
    exact this
  · rintro ⟨q1, q2⟩
    refine ⟨q1, hc.mpr fun i hi hf => ?_⟩
    unfold fitg
    rw [hf, Bool.true_and]
    exact q2 i hi hf
theorem nwh_or {h : GH} (hn6 : h.n ≤ 6) (t : Nat) : nwh h t = (2 ^ h.n - 1) &&& (63 ^^^ orN h t (2 ^ h.n)) := by
  apply Nat.eq_of_testBit_eq
  intro j
  unfold nwh
  rw [bts_b, Nat.testBit_and, Nat.testBit_two_pow_sub_one, Nat.testBit_xor, show (63 : Nat) = 2 ^ 6 - 1 from rfl, Nat.testBit_two_pow_sub_one]
  by_cases hj : j < h.n
  · rw [decide_eq_true hj, Bool.true_and, Bool.true_and, decide_eq_true (show j < 6 by omega)]
    by_cases z : nfg h t j = 0
    · rw [decide_eq_true z]
      have : (orN h t (2 ^ h.n)).testBit j = false := by
        cases hb : (orN h t (2 ^ h.n)).testBit j with
        | false => rfl
        | true =>
          obtain ⟨i, i1, i2, i3⟩ := (orN_b h t j _).mp hb
          have := (cntP_zero _).mp z i i1
          unfold fitg at this
          rw [i2, i3] at this; cases this
      rw [this]; rfl
    · rw [decide_eq_false z]
      have : (orN h t (2 ^ h.n)).testBit j = true := by
        cases hb : (orN h t (2 ^ h.n)).testBit j with
        | true => rfl
        | false =>
          refine absurd ((cntP_zero _).mpr fun i hi => ?_) z
          cases hf : fitg h t j i with
          | false => rfl
          | true =>
            have hf1 := fitg_sub hf
            unfold fitg at hf
            rw [hf1, Bool.true_and] at hf
            rw [(orN_b h t j _).mpr ⟨i, hi, hf1, hf⟩] at hb
            cases hb
      rw [this]; rfl
  · rw [decide_eq_false hj, Bool.false_and, Bool.false_and]
theorem te_pos {h : GH} (w : WH h) {t : Nat} (ht : t < h.te) : ¬ h.n = 0 := fun q => by
  rcases w.2.1 with ⟨_, z, _⟩ | ⟨z, _⟩
  · omega
  · omega