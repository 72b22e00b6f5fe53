/-! ===== keep, on ===== -/
theorem m_keep_40 {μ : Mm} {c k : Nat} {g : Nat → Int32} (hL : LM μ c) (hk : k < 3) : ∀ (f i : Nat), i ≤ 6 → 6 < i + f → lp_X12_keep_40 f c (nI k) (nI i) (sR μ (c + 16) (filo g (6 * k) i (fun x => mI μ (c + 8) x))) = some (sR μ (c + 16) (filo g (6 * k) 6 (fun x => mI μ (c + 8) x))) := by
  intro f
  induction f with
  | zero => intro i h1 h2; omega
  | succ f ih =>
    intro i h1 h2
    have hL' : LM (sR μ (c + 16) (filo g (6 * k) i (fun x => mI μ (c + 8) x))) c := hL
    by_cases hi : i = 6
    · have e : (6 : Int32) ≤ nI i := by rw [hi]; exact Int32.le_refl _
      simp (config := { decide := true }) only [↓reduceIte, Option.bind_some, Option.bind_none, lp_X12_keep_40, e]
      rw [hi]
    · have e : ¬ (6 : Int32) ≤ nI i := (show ¬ nI 6 ≤ nI i from nI_ge (by omega) (by decide))
      have ex : ((6 : Int32) * nI k) + nI i = nI (6 * k + i) := by
        show nI 6 * nI k + nI i = _
        rw [pk_mul, nI_add]
      have ea : aI (sR μ (c + 16) (filo g (6 * k) i (fun x => mI μ (c + 8) x))) (c + 8) 21 (nI (i)) = some (mI μ (c + 8) (i)) := by
        rw [aI_of hL'.t8 (by rw [hL'.n8]; omega) (by omega), mR_ne (by omega)]
      simp (config := { decide := true }) only [↓reduceIte, Option.bind_some, Option.bind_none, lp_X12_keep_40, e, gP_of hL'.t0 hL'.p0_29, gP_of hL'.t0 hL'.p0_15, ex, ea, qI_of (i := 6 * k + i) hL'.t16 (show 6 * k + i < ln μ (c + 16) by rw [hL.n16]; omega) (show 6 * k + i < 2 ^ 31 by omega)]
      rw [sI_sRg, filo_s g (6 * k) i (fun x => mI μ (c + 8) x), nI_1]
      exact ih (i + 1) (by omega) (by omega)
theorem m_keep_71 {μ : Mm} {c k : Nat} {g : Nat → Int32} (hL : LM μ c) (hk : k < 3) : ∀ (f i : Nat), i ≤ 11 → 11 < i + f → lp_X12_keep_71 f c (nI k) (nI i) (sR μ (c + 17) (filo g (11 * k) i (fun x => mI μ (c + 11) x))) = some (sR μ (c + 17) (filo g (11 * k) 11 (fun x => mI μ (c + 11) x))) := by
  intro f
  induction f with
  | zero => intro i h1 h2; omega
  | succ f ih =>
    intro i h1 h2
    have hL' : LM (sR μ (c + 17) (filo g (11 * k) i (fun x => mI μ (c + 11) x))) c := hL
    by_cases hi : i = 11
    · have e : (11 : Int32) ≤ nI i := by rw [hi]; exact Int32.le_refl _
      simp (config := { decide := true }) only [↓reduceIte, Option.bind_some, Option.bind_none, lp_X12_keep_71, e]
      rw [hi]
    · have e : ¬ (11 : Int32) ≤ nI i := (show ¬ nI 11 ≤ nI i from nI_ge (by omega) (by decide))
      have ex : ((11 : Int32) * nI k) + nI i = nI (11 * k + i) := by
        show nI 11 * nI k + nI i = _
        rw [pk_mul, nI_add]
      have ea : aI (sR μ (c + 17) (filo g (11 * k) i (fun x => mI μ (c + 11) x))) (c + 11) 21 (nI (i)) = some (mI μ (c + 11) (i)) := by
        rw [aI_of hL'.t11 (by rw [hL'.n11]; omega) (by omega), mR_ne (by omega)]
      simp (config := { decide := true }) only [↓reduceIte, Option.bind_some, Option.bind_none, lp_X12_keep_71, e, gP_of hL'.t0 hL'.p0_30, gP_of hL'.t0 hL'.p0_23, ex, ea, qI_of (i := 11 * k + i) hL'.t17 (show 11 * k + i < ln μ (c + 17) by rw [hL.n17]; omega) (show 11 * k + i < 2 ^ 31 by omega)]
      rw [sI_sRg, filo_s g (11 * k) i (fun x => mI μ (c + 11) x), nI_1]
      exact ih (i + 1) (by omega) (by omega)
theorem m_keep_102 {μ : Mm} {c k : Nat} {g : Nat → Int32} {len : Nat} (h25 : mI μ c 25 = nI len) (hl : len ≤ 60) (hL : LM μ c) (hk : k < 3) : ∀ (f i : Nat), i ≤ (11 * len) → (11 * len) < i + f → lp_X12_keep_102 f c (nI k) (nI i) (sR μ (c + 18) (filo g (660 * k) i (fun x => mI μ (c + 13) x))) = some (sR μ (c + 18) (filo g (660 * k) (11 * len) (fun x => mI μ (c + 13) x))) := by
  intro f
  induction f with
  | zero => intro i h1 h2; omega
  | succ f ih =>
    intro i h1 h2
    have hL' : LM (sR μ (c + 18) (filo g (660 * k) i (fun x => mI μ (c + 13) x))) c := hL
    have e25 : gI (sR μ (c + 18) (filo g (660 * k) i (fun x => mI μ (c + 13) x))) c 13 25 = some (nI len) := gI_e hL'.t0 (by rw [mR_ne (by omega)]; exact h25)
    have e11 : (11 : Int32) * nI len = nI (11 * len) := pk_mul 11 _
    by_cases hi : i = 11 * len
    · have e : nI (11 * len) ≤ nI i := by rw [hi]; exact Int32.le_refl _
      simp (config := { decide := true }) only [↓reduceIte, Option.bind_some, Option.bind_none, lp_X12_keep_102, e25, e11, e]
      rw [hi]
    · have e : ¬ nI (11 * len) ≤ nI i := nI_ge (by omega) (by omega)
      have ex : ((660 : Int32) * nI k) + nI i = nI (660 * k + i) := by
        show nI 660 * nI k + nI i = _
        rw [pk_mul, nI_add]
      have ea : aI (sR μ (c + 18) (filo g (660 * k) i (fun x => mI μ (c + 13) x))) (c + 13) 21 (nI (i)) = some (mI μ (c + 13) (i)) := by
        rw [aI_of hL'.t13 (by rw [hL'.n13]; omega) (by omega), mR_ne (by omega)]
      simp (config := { decide := true }) only [↓reduceIte, Option.bind_some, Option.bind_none, lp_X12_keep_102, e25, e11, e, gP_of hL'.t0 hL'.p0_31, gP_of hL'.t0 hL'.p0_26, ex, ea, qI_of (i := 660 * k + i) hL'.t18 (show 660 * k + i < ln μ (c + 18) by rw [hL.n18]; omega) (show 660 * k + i < 2 ^ 31 by omega)]
      rw [sI_sRg, filo_s g (660 * k) i (fun x => mI μ (c + 13) x), nI_1]
      exact ih (i + 1) (by omega) (by omega)
theorem m_on_38 {μ : Mm} {c k : Nat} {g : Nat → Int32} (hL : LM μ c) (hk : k < 3) : ∀ (f i : Nat), i ≤ 6 → 6 < i + f → lp_X12_on_38 f c (nI k) (nI i) (sR μ (c + 8) (filf g i (fun x => mI μ (c + 16) (6 * k + x)))) = some (sR μ (c + 8) (filf g 6 (fun x => mI μ (c + 16) (6 * k + x)))) := by
  intro f
  induction f with
  | zero => intro i h1 h2; omega
  | succ f ih =>
    intro i h1 h2
    have hL' : LM (sR μ (c + 8) (filf g i (fun x => mI μ (c + 16) (6 * k + x)))) c := hL
    by_cases hi : i = 6
    · have e : (6 : Int32) ≤ nI i := by rw [hi]; exact Int32.le_refl _
      simp (config := { decide := true }) only [↓reduceIte, Option.bind_some, Option.bind_none, lp_X12_on_38, e]
      rw [hi]
    · have e : ¬ (6 : Int32) ≤ nI i := (show ¬ nI 6 ≤ nI i from nI_ge (by omega) (by decide))
      have ex : ((6 : Int32) * nI k) + nI i = nI (6 * k + i) := by
        show nI 6 * nI k + nI i = _
        rw [pk_mul, nI_add]
      have ea : aI (sR μ (c + 8) (filf g i (fun x => mI μ (c + 16) (6 * k + x)))) (c + 16) 21 (nI (6 * k + i)) = some (mI μ (c + 16) (6 * k + i)) := by
        rw [aI_of hL'.t16 (by rw [hL'.n16]; omega) (by omega), mR_ne (by omega)]
      simp (config := { decide := true }) only [↓reduceIte, Option.bind_some, Option.bind_none, lp_X12_on_38, e, gP_of hL'.t0 hL'.p0_15, gP_of hL'.t0 hL'.p0_29, ex, ea, qI_of (i := i) hL'.t8 (show i < ln μ (c + 8) by rw [hL.n8]; omega) (show i < 2 ^ 31 by omega)]
      rw [sI_sRg, filf_s g i (fun x => mI μ (c + 16) (6 * k + x)), nI_1]
      exact ih (i + 1) (by omega) (by omega)
theorem m_on_69 {μ : Mm} {c k : Nat} {g : Nat → Int32} (hL : LM μ c) (hk : k < 3) : ∀ (f i : Nat), i ≤ 11 → 11 < i + f → lp_X12_on_69 f c (nI k) (nI i) (sR μ (c + 11) (filf g i (fun x => mI μ (c + 17) (11 * k + x)))) = some (sR μ (c + 11) (filf g 11 (fun x => mI μ (c + 17) (11 * k + x)))) := by
  intro f
  induction f with
  | zero => intro i h1 h2; omega
  | succ f ih =>
    intro i h1 h2
    have hL' : LM (sR μ (c + 11) (filf g i (fun x => mI μ (c + 17) (11 * k + x)))) c := hL
    by_cases hi : i = 11
    · have e : (11 : Int32) ≤ nI i := by rw [hi]; exact Int32.le_refl _
      simp (config := { decide := true }) only [↓reduceIte, Option.bind_some, Option.bind_none, lp_X12_on_69, e]
      rw [hi]
    · have e : ¬ (11 : Int32) ≤ nI i := (show ¬ nI 11 ≤ nI i from nI_ge (by omega) (by decide))
      have ex : ((11 : Int32) * nI k) + nI i = nI (11 * k + i) := by
        show nI 11 * nI k + nI i = _
        rw [pk_mul, nI_add]
      have ea : aI (sR μ (c + 11) (filf g i (fun x => mI μ (c + 17) (11 * k + x)))) (c + 17) 21 (nI (11 * k + i)) = some (mI μ (c + 17) (11 * k + i)) := by
        rw [aI_of hL'.t17 (by rw [hL'.n17]; omega) (by omega), mR_ne (by omega)]
      simp (config := { decide := true }) only [↓reduceIte, Option.bind_some, Option.bind_none, lp_X12_on_69, e, gP_of hL'.t0 hL'.p0_23, gP_of hL'.t0 hL'.p0_30, ex, ea, qI_of (i := i) hL'.t11 (show i < ln μ (c + 11) by rw [hL.n11]; omega) (show i < 2 ^ 31 by omega)]
      rw [sI_sRg, filf_s g i (fun x => mI μ (c + 17) (11 * k + x)), nI_1]
      exact ih (i + 1) (by omega) (by omega)
theorem m_on_100 {μ : Mm} {c k : Nat} {g : Nat → Int32} {len : Nat} (h25 : mI μ c 25 = nI len) (hl : len ≤ 60) (hL : LM μ c) (hk : k < 3) : ∀ (f i : Nat), i ≤ (11 * len) → (11 * len) < i + f → lp_X12_on_100 f c (nI k) (nI i) (sR μ (c + 13) (filf g i (fun x => mI μ (c + 18) (660 * k + x)))) = some (sR μ (c + 13) (filf g (11 * len) (fun x => mI μ (c + 18) (660 * k + x)))) := by
  intro f
  induction f with
  | zero => intro i h1 h2; omega
  | succ f ih =>
    intro i h1 h2
    have hL' : LM (sR μ (c + 13) (filf g i (fun x => mI μ (c + 18) (660 * k + x)))) c := hL
    have e25 : gI (sR μ (c + 13) (filf g i (fun x => mI μ (c + 18) (660 * k + x)))) c 13 25 = some (nI len) := gI_e hL'.t0 (by rw [mR_ne (by omega)]; exact h25)
    have e11 : (11 : Int32) * nI len = nI (11 * len) := pk_mul 11 _
    by_cases hi : i = 11 * len
    · have e : nI (11 * len) ≤ nI i := by rw [hi]; exact Int32.le_refl _
      simp (config := { decide := true }) only [↓reduceIte, Option.bind_some, Option.bind_none, lp_X12_on_100, e25, e11, e]
      rw [hi]
    · have e : ¬ nI (11 * len) ≤ nI i := nI_ge (by omega) (by omega)
      have ex : ((660 : Int32) * nI k) + nI i = nI (660 * k + i) := by
        show nI 660 * nI k + nI i = _
        rw [pk_mul, nI_add]
      have ea : aI (sR μ (c + 13) (filf g i (fun x => mI μ (c + 18) (660 * k + x)))) (c + 18) 21 (nI (660 * k + i)) = some (mI μ (c + 18) (660 * k + i)) := by
        rw [aI_of hL'.t18 (by rw [hL'.n18]; omega) (by omega), mR_ne (by omega)]
      simp (config := { decide := true }) only [↓reduceIte, Option.bind_some, Option.bind_none, lp_X12_on_100, e25, e11, e, gP_of hL'.t0 hL'.p0_26, gP_of hL'.t0 hL'.p0_31, ex, ea, qI_of (i := i) hL'.t13 (show i < ln μ (c + 13) by rw [hL.n13]; omega) (show i < 2 ^ 31 by omega)]
      rw [sI_sRg, filf_s g i (fun x => mI μ (c + 18) (660 * k + x)), nI_1]
      exact ih (i + 1) (by omega) (by omega)
theorem sR_id {μ : Mm} {a : Nat} {g : Nat → Int32} (h : g = mI μ a) : sR μ a g = μ := by rw [h, sR_self]
/-- the model's heap with a state kept -/
def mk1 (μ : Mm) (c k len : Nat) : Mm := sI (sI μ (c + 14) k 1) (c + 15) k (nI len)
def mk2 (μ : Mm) (c k len : Nat) : Mm := sR (mk1 μ c k len) (c + 16) (filo (mI μ (c + 16)) (6 * k) 6 (mI μ (c + 8)))
def mk3 (μ : Mm) (c k len : Nat) : Mm := sR (mk2 μ c k len) (c + 17) (filo (mI μ (c + 17)) (11 * k) 11 (mI μ (c + 11)))
def mk4 (μ : Mm) (c k len : Nat) : Mm := sR (mk3 μ c k len) (c + 18) (filo (mI μ (c + 18)) (660 * k) (11 * len) (mI μ (c + 13)))
theorem mk1_ne {μ : Mm} {c k len b : Nat} (h1 : b ≠ c + 14) (h2 : b ≠ c + 15) : mI (mk1 μ c k len) b = mI μ b := funext fun j => by unfold mk1; rw [mI_ne h2, mI_ne h1]
theorem mk2_ne {μ : Mm} {c k len b : Nat} (h1 : b ≠ c + 14) (h2 : b ≠ c + 15) (h3 : b ≠ c + 16) : mI (mk2 μ c k len) b = mI μ b := funext fun j => by unfold mk2; rw [mR_ne h3, mk1_ne h1 h2]
theorem mk3_ne {μ : Mm} {c k len b : Nat} (h1 : b ≠ c + 14) (h2 : b ≠ c + 15) (h3 : b ≠ c + 16) (h4 : b ≠ c + 17) : mI (mk3 μ c k len) b = mI μ b := funext fun j => by unfold mk3; rw [mR_ne h4, mk2_ne h1 h2 h3]
theorem mk4_sm {μ : Mm} {c k len b : Nat} (h : b < c + 14 ∨ c + 19 ≤ b) : Sm μ (mk4 μ c k len) b := by
  unfold mk4 mk3 mk2 mk1
  exact (((((Sm.rf μ b).sI (by omega)).sI (by omega)).sR (by omega)).sR (by omega)).sR (by omega)
theorem m_keep {μ : Mm} {c k n len : Nat} (hL : LM μ c) (hk : k < 3) (hn : mI μ c 10 = nI n) (h0 : 0 < n) (hn6 : n ≤ 6) (h25 : mI μ c 25 = nI len) (hl : len ≤ 60) : f_X12_keep μ c (nI k) = some (nI len, mk4 μ c k len) := by
  have ein : f_X12_in μ (nI k) 0 2 = some 1 := m_in_ok (N := 3) hk (by decide)
  have en0 : ¬ nI n = 0 := nI_ne0 h0 (by omega)
  have hL0 : LM (sI μ (c + 14) k 1) c := hL
  have hL1 : LM (mk1 μ c k len) c := hL
  have hL2 : LM (mk2 μ c k len) c := hL
  have hL3 : LM (mk3 μ c k len) c := hL
  have hL4 : LM (mk4 μ c k len) c := hL
  have z25 : gI (sI μ (c + 14) k 1) c 13 25 = some (nI len) := gI_e hL0.t0 (by rw [mI_ne (by omega)]; exact h25)
  have q14 : qZ μ (c + 14) 23 (nI k) 1 = some (sI μ (c + 14) k 1) := qZ_of hL.t14 (by rw [hL.n14]; exact hk) (by omega) (Or.inr rfl)
  have q15 : qI (sI μ (c + 14) k 1) (c + 15) 21 (nI k) (nI len) = some (mk1 μ c k len) := qI_of hL0.t15 (by rw [hL0.n15]; exact hk) (by omega)
  have l1 := m_keep_40 (g := mI μ (c + 16)) hL1 hk BIG 0 (by decide) (by unfold BIG; omega)
  rw [filo_0, sR_id (mk1_ne (by omega) (by omega)).symm, mk1_ne (b := c + 8) (by omega) (by omega)] at l1
  have l1' : lp_X12_keep_40 BIG c (nI k) 0 (mk1 μ c k len) = some (mk2 μ c k len) := l1
  have l2 := m_keep_71 (g := mI μ (c + 17)) hL2 hk BIG 0 (by decide) (by unfold BIG; omega)
  rw [filo_0, sR_id (mk2_ne (by omega) (by omega) (by omega)).symm, mk2_ne (b := c + 11) (by omega) (by omega) (by omega)] at l2
  have l2' : lp_X12_keep_71 BIG c (nI k) 0 (mk2 μ c k len) = some (mk3 μ c k len) := l2
  have c25 : mI (mk3 μ c k len) c 25 = nI len := by rw [mk3_ne (by omega) (by omega) (by omega) (by omega)]; exact h25
  have l3 := m_keep_102 (g := mI μ (c + 18)) c25 hl hL3 hk BIG 0 (by omega) (by unfold BIG; omega)
  rw [filo_0, sR_id (mk3_ne (by omega) (by omega) (by omega) (by omega)).symm, mk3_ne (b := c + 13) (by omega) (by omega) (by omega) (by omega)] at l3
  have l3' : lp_X12_keep_102 BIG c (nI k) 0 (mk3 μ c k len) = some (mk4 μ c k len) := l3
  have d25 : gI (mk4 μ c k len) c 13 25 = some (nI len) := gI_e hL4.t0 (by rw [(mk4_sm (b := c) (by omega)).2.2.1]; exact h25)
  simp (config := { decide := true }) only [↓reduceIte, Option.bind_some, Option.bind_none, f_X12_keep, hL.t0, ein, gI_e hL.t0 hn, en0, gP_of hL.t0 hL.p0_27, q14, gP_of hL0.t0 hL0.p0_28, z25, q15, l1', l2', l3', d25]
theorem nat11_shift {μ μ' : Mm} {b b' o o' : Nat} {q : Rst} (h : nat11 μ b o q) (he : ∀ j, j < 11 → mI μ' b' (o' + j) = mI μ b (o + j)) : nat11 μ' b' o' q := by
  obtain ⟨k0, k1, k2, k3, k4, k5⟩ := h
  refine ⟨(he 0 (by decide)).trans k0, (he 1 (by decide)).trans k1, (he 2 (by decide)).trans k2, (he 3 (by decide)).trans k3, (he 4 (by decide)).trans k4, fun g hg => ?_⟩
  have := k5 g hg
  rw [Nat.add_assoc] at this ⊢
  rw [he (5 + g) (by omega)]
  exact this
theorem mk4_14 {μ : Mm} {c k len j : Nat} : mI (mk4 μ c k len) (c + 14) j = if j = k then 1 else mI μ (c + 14) j := by
  unfold mk4 mk3 mk2 mk1
  rw [mR_ne (by omega), mR_ne (by omega), mR_ne (by omega), mI_ne (by omega)]
  by_cases e : j = k
  · subst e; rw [mI_eq, if_pos rfl]
  · rw [mI_nk e, if_neg e]
theorem mk4_15 {μ : Mm} {c k len j : Nat} : mI (mk4 μ c k len) (c + 15) j = if j = k then nI len else mI μ (c + 15) j := by
  unfold mk4 mk3 mk2 mk1
  rw [mR_ne (by omega), mR_ne (by omega), mR_ne (by omega)]
  by_cases e : j = k
  · subst e; rw [mI_eq, if_pos rfl]
  · rw [mI_nk e, if_neg e, mI_ne (by omega)]
theorem mk4_16 {μ : Mm} {c k len j : Nat} : mI (mk4 μ c k len) (c + 16) j = filo (mI μ (c + 16)) (6 * k) 6 (mI μ (c + 8)) j := by
  unfold mk4 mk3 mk2
  rw [mR_ne (by omega), mR_ne (by omega), mR_eq]
theorem mk4_17 {μ : Mm} {c k len j : Nat} : mI (mk4 μ c k len) (c + 17) j = filo (mI μ (c + 17)) (11 * k) 11 (mI μ (c + 11)) j := by
  unfold mk4 mk3
  rw [mR_ne (by omega), mR_eq]
theorem mk4_18 {μ : Mm} {c k len j : Nat} : mI (mk4 μ c k len) (c + 18) j = filo (mI μ (c + 18)) (660 * k) (11 * len) (mI μ (c + 13)) j := by
  unfold mk4
  rw [mR_eq]
theorem XI.kset {R T : GR} {F : GF} {h : GH} {K : GK} {μ μ' : Mm} {a k : Nat} {v : (Nat → Nat) × List Nat} (H : XI R T F h K μ a) (hk : k < 3) (hs : ∀ b, b ≠ a + 15 + k → b ≠ a + 53 + 2 * k → b ≠ a + 54 + 2 * k → Sm μ μ' b) (hL : LX μ' a) (h1 : mI μ' (a + 53 + 2 * k) 1 = nI v.2.length) (h2 : ∀ i, i < v.2.length → mI μ' (a + 54 + 2 * k) i = nI (v.2.getD i 0)) (h3 : ∀ g, g < h.n → mI μ' (a + 15 + k) g = nI (v.1 g)) (hz' : hz μ ≤ hz μ') : XI R T F h (u1 K k (some v)) μ' a := by
  obtain ⟨g1, g2, g3, g4, g5, g6, g7⟩ := H
  refine ⟨hL, g2.mv (fun b _ _ => hs b (by omega) (by omega) (by omega)), g3.mv (fun b _ _ => hs b (by omega) (by omega) (by omega)), g4.mv (hs _ (by omega) (by omega) (by omega)) (hs _ (by omega) (by omega) (by omega)), g5.mv (fun b _ _ => hs b (by omega) (by omega) (by omega)) (fun b _ _ => hs b (by omega) (by omega) (by omega)) hz', fun j hj => ?_, Nat.le_trans g7 hz'⟩
  by_cases e : j = k
  · subst e
    rw [u1_eq]
    exact ⟨h1, fun w hw => by cases hw; exact ⟨h2, h3⟩⟩
  · rw [u1_ne e]
    obtain ⟨y1, y2⟩ := g6 j hj
    refine ⟨by rw [(hs _ (by omega) (by omega) (by omega)).2.2.1]; exact y1, fun w hw => ?_⟩
    obtain ⟨y3, y4⟩ := y2 w hw
    exact ⟨fun i hi => by rw [(hs _ (by omega) (by omega) (by omega)).2.2.1]; exact y3 i hi, fun g hg => by rw [(hs _ (by omega) (by omega) (by omega)).2.2.1]; exact y4 g hg⟩
theorem MI.keep {R T : GR} {F : GF} {h : GH} {K : GK} {μ : Mm} {c k : Nat} (H : MI R T F h K μ c) (w : WH h) (wk : WK h K) (hk : k < 3) : MI R T F h (u1 K k (some (h.ft, h.sp))) (mk4 μ c k h.sp.length) c := by
  have hn6 := w.1
  have hl := w.2.2.2.1
  obtain ⟨g1, g2, g3, g4, g5, g6⟩ := H
  have e : ∀ b, (b < c + 14 ∨ c + 19 ≤ b) → Sm μ (mk4 μ c k h.sp.length) b := fun b hb => mk4_sm hb
  refine ⟨g1, g2.mv (e _ (by omega)) (e _ (by omega)), g3.mv (e _ (by omega)) (e _ (by omega)), g4.mv (e _ (by omega)) (e _ (by omega)), g5.mv (e _ (by omega)).Fh (e _ (by omega)) (e _ (by omega)) (e _ (by omega)) (e _ (by omega)), fun j hj => ?_⟩
  rw [mk4_14]
  by_cases ej : j = k
  · subst ej
    rw [u1_eq, if_pos rfl]
    refine ⟨rfl, fun v hv => ?_⟩
    cases hv
    rw [mk4_15, if_pos rfl]
    refine ⟨rfl, fun g hg => ?_, ?_, fun i hi => ?_⟩
    · rw [mk4_16, filo_in (by omega) (by omega), Nat.add_sub_cancel_left]
      exact (g5.2.2.2.2.2.1 g hg).2
    · exact nat11_filo g5.2.2.2.2.2.2.1 fun x hx => by rw [mk4_17, filo_in (by omega) (by omega), Nat.add_sub_cancel_left]
    · have hi' : i < h.sp.length := hi
      exact nat11_shift (g5.2.2.2.2.2.2.2 i hi') fun x hx => by rw [mk4_18, filo_in (by omega) (by omega), show 660 * j + 11 * i + x - 660 * j = 11 * i + x by omega]
  · rw [u1_ne ej, if_neg ej]
    obtain ⟨y1, y2⟩ := g6 j hj
    refine ⟨y1, fun v hv => ?_⟩
    obtain ⟨y3, y4, y5, y6⟩ := y2 v hv
    have hvl := (wk j hj v hv).2.1.1
    rw [mk4_15, if_neg ej]
    refine ⟨y3, fun g hg => ?_, ?_, fun i hi => ?_⟩
    · rw [mk4_16, filo_out (by omega)]; exact y4 g hg
    · exact nat11_shift y5 fun x hx => by rw [mk4_17, filo_out (by omega)]
    · exact nat11_shift (y6 i hi) fun x hx => by rw [mk4_18, filo_out (by omega)]
theorem XS.mv {n te rm gb wk a : Nat} {rs : Int64} {kd ft : Nat → Nat} {q : Rst} {μ μ' : Mm} (hS : XS n te rs rm kd ft gb q wk μ a) (h3 : Sm μ μ' (a + 3)) (h4 : Sm μ μ' (a + 4)) (hg : ∀ b, gb ≤ b → b < gb + n → Sm μ μ' b) (hz' : hz μ ≤ hz μ') : XS n te rs rm kd ft gb q wk μ' a := by
  obtain ⟨g1, g2, g3, g4, g5, g6, g7, g8, g9, g10, k1, k2, k3⟩ := hS
  have r := h3.2.2.1
  refine ⟨(r _).trans g1, (r _).trans g2, (r _).trans g3, (h3.2.2.2.1 _).trans g4, (r _).trans g5, (r _).trans g6, (r _).trans g7, (r _).trans g8, (r _).trans g9, (r _).trans g10, k1, by omega, fun g hgn => ?_⟩
  obtain ⟨u1', u2', u3, u4⟩ := k3 g hgn
  have e := hg (gb + g) (by omega) (by omega)
  exact ⟨(h4.2.2.2.2 _).trans u1', e.1.trans u2', (e.2.2.1 _).trans u3, (e.2.2.1 _).trans u4⟩
theorem PSI_keep : PS_keep INV := by
  intro μ a1 a2 q1 hI
  refine both_of (fx := fun μ a => f_X11_keep μ a q1) (fm := fun μ c => f_X12_keep μ c q1) ?_ μ a1 a2 hI
  intro R T F h K hw
  have w := hw.2.2.1
  have hl := w.2.2.2.1
  have hn6 := w.1
  rcases ix2 q1 3 (by decide) with h1 | ⟨k, hk, rfl⟩
  · refine ⟨-1, R, T, F, h, K, hw, fun μ a H => XO.same H ?_, fun μ c H => MO.same H ?_⟩
    · simp (config := { decide := true }) only [↓reduceIte, Option.bind_some, Option.bind_none, f_X11_keep, H.1.t0, gP_of H.1.t0 H.1.p0_0, gP_of H.1.t0 H.1.p0_1, gP_of H.1.t0 H.1.p0_2, gP_of H.1.t0 H.1.p0_3, gP_of H.1.t0 H.1.p0_4, gP_of H.1.t0 H.1.p0_5, gP_of H.1.t0 H.1.p0_6, gP_of H.1.t0 H.1.p0_7, gP_of H.1.t0 H.1.p0_8, gP_of H.1.t0 H.1.p0_9, H.1.fk.has_bad h1]
    · have ein : f_X12_in μ q1 0 2 = some 0 := m_in_bad (N := 3) h1 (by decide) (by decide)
      simp (config := { decide := true }) only [↓reduceIte, Option.bind_some, Option.bind_none, f_X12_keep, H.1.t0, gP_of H.1.t0 H.1.p0_1, gP_of H.1.t0 H.1.p0_5, gP_of H.1.t0 H.1.p0_6, gP_of H.1.t0 H.1.p0_7, gP_of H.1.t0 H.1.p0_8, gP_of H.1.t0 H.1.p0_9, gP_of H.1.t0 H.1.p0_14, gP_of H.1.t0 H.1.p0_15, gP_of H.1.t0 H.1.p0_21, gP_of H.1.t0 H.1.p0_22, gP_of H.1.t0 H.1.p0_23, gP_of H.1.t0 H.1.p0_24, gP_of H.1.t0 H.1.p0_26, gP_of H.1.t0 H.1.p0_27, gP_of H.1.t0 H.1.p0_28, gP_of H.1.t0 H.1.p0_29, gP_of H.1.t0 H.1.p0_30, gP_of H.1.t0 H.1.p0_31, gP_of H.1.t0 H.1.p0_32, gP_of H.1.t0 H.1.p0_33, gP_of H.1.t0 H.1.p0_40, gP_of H.1.t0 H.1.p0_41, gP_of H.1.t0 H.1.p0_46, gP_of H.1.t0 H.1.p0_47, gP_of H.1.t0 H.1.p0_48, ein]
  by_cases h0 : h.n = 0
  · refine ⟨-4, R, T, F, h, K, hw, fun μ a H => XO.same H ?_, fun μ c H => MO.same H ?_⟩
    · simp (config := { decide := true }) only [↓reduceIte, Option.bind_some, Option.bind_none, f_X11_keep, H.1.t0, gP_of H.1.t0 H.1.p0_0, gP_of H.1.t0 H.1.p0_1, gP_of H.1.t0 H.1.p0_2, gP_of H.1.t0 H.1.p0_3, gP_of H.1.t0 H.1.p0_4, gP_of H.1.t0 H.1.p0_5, gP_of H.1.t0 H.1.p0_6, gP_of H.1.t0 H.1.p0_7, gP_of H.1.t0 H.1.p0_8, gP_of H.1.t0 H.1.p0_9, H.1.fk.has_ok hk, x_empty H h0]
    · have ein : f_X12_in μ (nI k) 0 2 = some 1 := m_in_ok (N := 3) hk (by decide)
      simp (config := { decide := true }) only [↓reduceIte, Option.bind_some, Option.bind_none, f_X12_keep, H.1.t0, gP_of H.1.t0 H.1.p0_1, gP_of H.1.t0 H.1.p0_5, gP_of H.1.t0 H.1.p0_6, gP_of H.1.t0 H.1.p0_7, gP_of H.1.t0 H.1.p0_8, gP_of H.1.t0 H.1.p0_9, gP_of H.1.t0 H.1.p0_14, gP_of H.1.t0 H.1.p0_15, gP_of H.1.t0 H.1.p0_21, gP_of H.1.t0 H.1.p0_22, gP_of H.1.t0 H.1.p0_23, gP_of H.1.t0 H.1.p0_24, gP_of H.1.t0 H.1.p0_26, gP_of H.1.t0 H.1.p0_27, gP_of H.1.t0 H.1.p0_28, gP_of H.1.t0 H.1.p0_29, gP_of H.1.t0 H.1.p0_30, gP_of H.1.t0 H.1.p0_31, gP_of H.1.t0 H.1.p0_32, gP_of H.1.t0 H.1.p0_33, gP_of H.1.t0 H.1.p0_40, gP_of H.1.t0 H.1.p0_41, gP_of H.1.t0 H.1.p0_46, gP_of H.1.t0 H.1.p0_47, gP_of H.1.t0 H.1.p0_48, ein, m_hev H, h0, show nI 0 = 0 from rfl]
  refine ⟨nI h.sp.length, R, T, F, h, u1 K k (some (h.ft, h.sp)), ⟨hw.1, hw.2.1, w, fun j hj v hv => ?_⟩, fun μ a H => ?_, fun μ c H => ⟨mk4 μ c k h.sp.length, ?_, MI.keep H w hw.2.2.2 hk, fun b hb => mk4_sm (by omega), Nat.le_refl _⟩⟩
  · by_cases e : j = k
    · subst e
      rw [u1_eq] at hv
      cases hv
      exact ⟨by omega, w.2.2.2, fun g hg => (w.2.2.1 g hg).2⟩
    · rw [u1_ne e] at hv
      exact hw.2.2.2 j hj v hv
  · obtain ⟨gb, hS, hP⟩ := (XH_iff h μ a).mp H.2.2.2.2.1
    obtain ⟨k1, k2, k3, k4, k5, k6, k7, k8⟩ := H.1.kept hk
    have t1 := x_tell_l (b := a + 15 + k) (g0 := mI μ (a + 15 + k)) H.1 hS hn6 (fun g hg => (w.2.2.1 g hg).1) k7 k8 (by omega) (by omega) BIG 0 (by omega) (by unfold BIG; omega)
    rw [filf_0, sR_self] at t1
    have t1' : lp_X3_tellFeet_2 BIG (a + 3) (a + 15 + k) 0 μ = some (sR μ (a + 15 + k) (filf (mI μ (a + 15 + k)) h.n (fun x => nI (h.ft x)))) := t1
    have hL1 : LX (sR μ (a + 15 + k) (filf (mI μ (a + 15 + k)) h.n (fun x => nI (h.ft x)))) a := H.1
    have n1 : ∀ b j, b ≠ a + 15 + k → mI (sR μ (a + 15 + k) (filf (mI μ (a + 15 + k)) h.n (fun x => nI (h.ft x)))) b j = mI μ b j := fun b j z => mR_ne z
    have t2 := s_takeFrom (μ := sR μ (a + 15 + k) (filf (mI μ (a + 15 + k)) h.n (fun x => nI (h.ft x)))) (s := a + 53 + 2 * k) (p := a + 5) (n := h.sp.length) k2 k3 k4 k5 hL1.t5 hL1.p5_0 hL1.t6 hL1.n6 hl ((n1 _ _ (by omega)).trans hP.1) (by omega) (by omega) (by omega)
    have eAP : aP μ (a + 14) 26 (nI k) = some (a + 15 + k) := aP_of H.1.t14 (by rw [H.1.n14]; exact hk) (by omega) k6
    have eAS : aP (sR μ (a + 15 + k) (filf (mI μ (a + 15 + k)) h.n (fun x => nI (h.ft x)))) (a + 13) 25 (nI k) = some (a + 53 + 2 * k) := hL1.fk.get hk
    have hL2 : LX (sR (sI (sR μ (a + 15 + k) (filf (mI μ (a + 15 + k)) h.n (fun x => nI (h.ft x)))) (a + 53 + 2 * k) 1 (nI h.sp.length)) (a + 54 + 2 * k) (filf (mI (sR μ (a + 15 + k) (filf (mI μ (a + 15 + k)) h.n (fun x => nI (h.ft x)))) (a + 54 + 2 * k)) h.sp.length (mI (sR μ (a + 15 + k) (filf (mI μ (a + 15 + k)) h.n (fun x => nI (h.ft x)))) (a + 6)))) a := H.1
    have e5 : gI (sR (sI (sR μ (a + 15 + k) (filf (mI μ (a + 15 + k)) h.n (fun x => nI (h.ft x)))) (a + 53 + 2 * k) 1 (nI h.sp.length)) (a + 54 + 2 * k) (filf (mI (sR μ (a + 15 + k) (filf (mI μ (a + 15 + k)) h.n (fun x => nI (h.ft x)))) (a + 54 + 2 * k)) h.sp.length (mI (sR μ (a + 15 + k) (filf (mI μ (a + 15 + k)) h.n (fun x => nI (h.ft x)))) (a + 6)))) (a + 5) 9 1 = some (nI h.sp.length) := gI_e hL2.t5 (by rw [mR_ne (by omega), mI_ne (by omega), n1 _ _ (by omega)]; exact hP.1)
    refine ⟨_, ?_, XI.kset (v := (h.ft, h.sp)) H hk (fun b z1 z2 z3 => (((Sm.rf μ b).sR z1).sI z2).sR z3) hL2 ?_ (fun i hi => ?_) (fun g hg => ?_) (Nat.le_refl _), fun b z1 z2 => (((Sm.rf μ b).sR (by omega)).sI (by omega)).sR (by omega), Nat.le_refl _⟩
    · show f_X11_keep μ a (nI k) = _
      simp (config := { decide := true }) only [↓reduceIte, Option.bind_some, Option.bind_none, f_X11_keep, H.1.t0, gP_of H.1.t0 H.1.p0_0, gP_of H.1.t0 H.1.p0_1, gP_of H.1.t0 H.1.p0_2, gP_of H.1.t0 H.1.p0_3, gP_of H.1.t0 H.1.p0_4, gP_of H.1.t0 H.1.p0_5, gP_of H.1.t0 H.1.p0_6, gP_of H.1.t0 H.1.p0_7, gP_of H.1.t0 H.1.p0_8, gP_of H.1.t0 H.1.p0_9, H.1.fk.has_ok hk, x_full H w h0, eAP, f_X3_tellFeet, H.1.t3, t1', gP_of hL1.t0 hL1.p0_3, gP_of hL1.t0 hL1.p0_2, gP_of hL1.t3 hL1.p3_1, eAS, t2, gP_of hL2.t0 hL2.p0_2, gP_of hL2.t3 hL2.p3_1, e5]
    · rw [mR_ne (by omega), mI_eq]
    · have hi' : i < h.sp.length := hi
      rw [mR_eq, filf_in hi', n1 _ _ (by omega)]
      exact hP.2 i hi'
    · rw [mR_ne (by omega), mI_ne (by omega), mR_eq, filf_in hg]
  · show f_X12_keep μ c (nI k) = _
    exact m_keep H.1 hk H.2.2.2.2.1.1 (by omega) hn6 H.2.2.2.2.1.2.2.2.1 hl
