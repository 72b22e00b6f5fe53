/-! ===== copy ===== -/
/-- the first k items by a rule -/
def filf (g : Nat → Int32) (k : Nat) (f : Nat → Int32) : Nat → Int32 := fun x => if x < k then f x else g x
theorem filf_0 (g f : Nat → Int32) : filf g 0 f = g := funext fun j => if_neg (by omega)
theorem filf_s (g : Nat → Int32) (k : Nat) (f : Nat → Int32) : upd (filf g k f) k (f k) = filf g (k + 1) f := by
  funext j
  unfold filf
  by_cases hj : j = k
  · subst hj; rw [pk_us, if_pos (by omega)]
  · rw [pk_un hj]
    by_cases h2 : j < k
    · rw [if_pos h2, if_pos (by omega)]
    · rw [if_neg h2, if_neg (by omega)]
theorem filf_in {g : Nat → Int32} {k : Nat} {f : Nat → Int32} {j : Nat} (h : j < k) : filf g k f j = f j := if_pos h
theorem filf_out {g : Nat → Int32} {k : Nat} {f : Nat → Int32} {j : Nat} (h : k ≤ j) : filf g k f j = g j := if_neg (by omega)
/-- k items from o on by a rule -/
def filo (g : Nat → Int32) (o k : Nat) (f : Nat → Int32) : Nat → Int32 := fun x => if o ≤ x ∧ x < o + k then f (x - o) else g x
theorem filo_0 (g : Nat → Int32) (o : Nat) (f : Nat → Int32) : filo g o 0 f = g := funext fun j => if_neg (by omega)
theorem filo_s (g : Nat → Int32) (o k : Nat) (f : Nat → Int32) : upd (filo g o k f) (o + k) (f k) = filo g o (k + 1) f := by
  funext j
  unfold filo
  by_cases hj : j = o + k
  · subst hj; rw [pk_us, if_pos (by omega), Nat.add_sub_cancel_left]
  · rw [pk_un hj]
    by_cases h2 : o ≤ j ∧ j < o + k
    · rw [if_pos h2, if_pos (by omega)]
    · rw [if_neg h2, if_neg (by omega)]
theorem filo_in {g : Nat → Int32} {o k : Nat} {f : Nat → Int32} {j : Nat} (h1 : o ≤ j) (h : j < o + k) : filo g o k f j = f (j - o) := if_pos ⟨h1, h⟩
theorem filo_out {g : Nat → Int32} {o k : Nat} {f : Nat → Int32} {j : Nat} (h : j < o ∨ o + k ≤ j) : filo g o k f j = g j := if_neg (by omega)
theorem toInt_nn {x : Int32} (h : 0 ≤ x) : 0 ≤ x.toInt := by
  rw [Int32.le_iff_toInt_le] at h
  exact h
theorem toInt_hi (x : Int32) : x.toInt < 2 ^ 31 := Int32.toInt_lt x
theorem sub_n {n : Nat} {q : Int32} (hn : n ≤ 60) (hq : 0 ≤ q) : (nI n - q).toInt = (n : Int) - q.toInt := by
  have h1 := toInt_nn hq
  have h2 := toInt_hi q
  rw [Int32.toInt_sub, nI_toInt (by omega)]
  exact Int.bmod_eq_of_le (by omega) (by omega)
theorem add_l (p q : Int32) : (p.toInt64 + q.toInt64).toInt = p.toInt + q.toInt := by
  have h1 := toInt_hi p
  have h2 := toInt_hi q
  have h3 := Int32.le_toInt p
  have h4 := Int32.le_toInt q
  rw [Int64.toInt_add, Int32.toInt_toInt64, Int32.toInt_toInt64]
  exact Int.bmod_eq_of_le (by omega) (by omega)
/-- within a strip -/
def Rg (n : Nat) (p q : Int32) : Prop := ¬ p < 0 ∧ p.toInt + q.toInt ≤ n
theorem s_range {μ : Mm} {s n : Nat} {p q : Int32} (ht : tg μ s = 9) (hs : mI μ s 1 = nI n) (hn : n ≤ 60) (hq : 0 ≤ q) [Decidable (Rg n p q)] : f_X8_hasRange μ s p q = some (if Rg n p q then 1 else 0) := by
  have hq' : ¬ q < 0 := fun h => i_neg h hq
  by_cases hp : p < 0
  · have : ¬ Rg n p q := fun h => h.1 hp
    simp (config := { decide := true }) only [↓reduceIte, Option.bind_some, Option.bind_none, f_X8_hasRange, ht, hp, this]
  · by_cases h : p.toInt + q.toInt ≤ n
    · have h1 : Rg n p q := ⟨hp, h⟩
      have h2 : ¬ (nI n - q) < p := by rw [Int32.lt_iff_toInt_lt, sub_n hn hq]; omega
      simp (config := { decide := true }) only [↓reduceIte, Option.bind_some, Option.bind_none, f_X8_hasRange, ht, hp, hq', gI_of ht, hs, h1, h2]
    · have h1 : ¬ Rg n p q := fun h' => h h'.2
      have h2 : (nI n - q) < p := by rw [Int32.lt_iff_toInt_lt, sub_n hn hq]; omega
      simp (config := { decide := true }) only [↓reduceIte, Option.bind_some, Option.bind_none, f_X8_hasRange, ht, hp, hq', gI_of ht, hs, h1, h2]
theorem m_gt {n : Nat} {p q : Int32} (hn : n ≤ 60) : (0 < lg_cmp (p.toInt64 + q.toInt64) (nI n).toInt64) ↔ ¬ p.toInt + q.toInt ≤ n := by
  rw [lg_cmp_gt, Int64.lt_iff_toInt_lt, add_l, Int32.toInt_toInt64, nI_toInt (by omega)]
  omega
theorem m_le {n : Nat} {p q : Int32} (hn : n ≤ 60) : (lg_cmp (p.toInt64 + q.toInt64) (nI n).toInt64 ≤ 0) ↔ p.toInt + q.toInt ≤ n := by
  rw [lg_cmp_le, Int64.le_iff_toInt_le, add_l, Int32.toInt_toInt64, nI_toInt (by omega)]
theorem m_copy1 {R T : GR} {F : GF} {h : GH} {K : GK} {μ : Mm} {c r n i m : Nat} {p3 p4 : Int32} (H : MI R T F h K μ c) (hw : WR R) (hr : r < 6) (hn : R.1 r = some n) (hm : i + m ≤ n) : ∀ (f k : Nat), k ≤ m → m < k + f → lp_X12_copy_104 f c (nI r) (nI i) p3 p4 (nI m) (nI k) (sR μ (c + 4) (filf (mI μ (c + 4)) k (fun x => R.2 r (i + x)))) = some (sR μ (c + 4) (filf (mI μ (c + 4)) m (fun x => R.2 r (i + x)))) := by
  have hn4 := hw r hr n hn
  intro f
  induction f with
  | zero => intro k h1 h2; omega
  | succ f ih =>
    intro k h1 h2
    by_cases hk : k = m
    · subst hk
      simp (config := { decide := true }) only [↓reduceIte, Option.bind_some, Option.bind_none, lp_X12_copy_104, Int32.le_refl]
    · have e : ¬ nI m ≤ nI k := nI_ge (by omega) (by omega)
      have hL : LM (sR μ (c + 4) (filf (mI μ (c + 4)) k (fun x => R.2 r (i + x)))) c := H.1
      have er : f_X12_rowAt (sR μ (c + 4) (filf (mI μ (c + 4)) k (fun x => R.2 r (i + x)))) c (nI r) (nI i + nI k) = some (R.2 r (i + k)) := by
        unfold f_X12_rowAt
        rw [if_pos hL.t0, gP_of hL.t0 hL.p0_6, Option.bind_some, nI_add, ix40, aI_of hL.t3 (show 40 * r + (i + k) < ln μ (c + 3) by rw [H.1.n3]; omega) (show 40 * r + (i + k) < 2 ^ 31 by omega), mR_ne (by omega), (H.2.1 r hr).2 n hn (i + k) (by omega)]
        rfl
      simp (config := { decide := true }) only [↓reduceIte, Option.bind_some, Option.bind_none, lp_X12_copy_104, e, gP_of hL.t0 hL.p0_7, er, qI_of (i := k) hL.t4 (show k < ln μ (c + 4) by rw [H.1.n4]; omega) (show k < 2 ^ 31 by omega)]
      rw [sI_sRg, filf_s (mI μ (c + 4)) k (fun x => R.2 r (i + x)), nI_1]
      exact ih (k + 1) (by omega) (by omega)
theorem m_copy2 {μ : Mm} {c s j m : Nat} {f0 g : Nat → Int32} (hL : LM μ c) (hs : s < 6) (hm : j + m ≤ 40) (hf : ∀ x, x < m → mI μ (c + 4) x = f0 x) : ∀ (f k : Nat), k ≤ m → m < k + f → lp_X12_copy_136 f c (nI s) (nI j) (nI m) (nI k) (sR μ (c + 3) (filo g (40 * s + j) k f0)) = some (sR μ (c + 3) (filo g (40 * s + j) m f0)) := by
  intro f
  induction f with
  | zero => intro k h1 h2; omega
  | succ f ih =>
    intro k h1 h2
    by_cases hk : k = m
    · subst hk
      simp (config := { decide := true }) only [↓reduceIte, Option.bind_some, Option.bind_none, lp_X12_copy_136, Int32.le_refl]
    · have e : ¬ nI m ≤ nI k := nI_ge (by omega) (by omega)
      have hL' : LM (sR μ (c + 3) (filo g (40 * s + j) k f0)) c := hL
      have ea : mI (sR μ (c + 3) (filo g (40 * s + j) k f0)) (c + 4) k = f0 k := by rw [mR_ne (by omega)]; exact hf k (by omega)
      simp (config := { decide := true }) only [↓reduceIte, Option.bind_some, Option.bind_none, lp_X12_copy_136, e, gP_of hL'.t0 hL'.p0_6, gP_of hL'.t0 hL'.p0_7, aI_of (i := k) hL'.t4 (show k < ln μ (c + 4) by rw [hL.n4]; omega) (show k < 2 ^ 31 by omega), ea, ix40, nI_add, qI_of (i := 40 * s + j + k) hL'.t3 (show 40 * s + j + k < ln μ (c + 3) by rw [hL.n3]; omega) (show 40 * s + j + k < 2 ^ 31 by omega)]
      rw [sI_sRg, filo_s, nI_1]
      exact ih (k + 1) (by omega) (by omega)
theorem PSI_copy : PS_copy INV := by
  intro μ a1 a2 q1 q2 q3 q4 q5 hI
  refine both_of (fx := fun μ a => f_X11_copy μ a q1 q2 q3 q4 q5) (fm := fun μ c => f_X12_copy μ c q1 q2 q3 q4 q5) ?_ μ a1 a2 hI
  intro R T F h K hw
  rcases ix2 q1 6 (by decide) with h1 | ⟨r, hr, rfl⟩
  · refine ⟨-1, R, T, F, h, K, hw, fun μ a H => XO.same H ?_, fun μ c H => MO.same H ?_⟩
    · simp (config := { decide := true }) only [↓reduceIte, Option.bind_some, Option.bind_none, f_X11_copy, H.1.t0, gP_of H.1.t0 H.1.p0_0, gP_of H.1.t0 H.1.p0_1, gP_of H.1.t0 H.1.p0_2, gP_of H.1.t0 H.1.p0_3, gP_of H.1.t0 H.1.p0_4, gP_of H.1.t0 H.1.p0_5, gP_of H.1.t0 H.1.p0_6, gP_of H.1.t0 H.1.p0_7, gP_of H.1.t0 H.1.p0_8, gP_of H.1.t0 H.1.p0_9, H.1.fr.has_bad h1]
    · simp (config := { decide := true }) only [↓reduceIte, Option.bind_some, Option.bind_none, f_X12_copy, H.1.t0, gP_of H.1.t0 H.1.p0_1, gP_of H.1.t0 H.1.p0_5, gP_of H.1.t0 H.1.p0_6, gP_of H.1.t0 H.1.p0_7, gP_of H.1.t0 H.1.p0_8, gP_of H.1.t0 H.1.p0_9, gP_of H.1.t0 H.1.p0_14, gP_of H.1.t0 H.1.p0_15, gP_of H.1.t0 H.1.p0_21, gP_of H.1.t0 H.1.p0_22, gP_of H.1.t0 H.1.p0_23, gP_of H.1.t0 H.1.p0_24, gP_of H.1.t0 H.1.p0_26, gP_of H.1.t0 H.1.p0_27, gP_of H.1.t0 H.1.p0_28, gP_of H.1.t0 H.1.p0_29, gP_of H.1.t0 H.1.p0_30, gP_of H.1.t0 H.1.p0_31, gP_of H.1.t0 H.1.p0_32, gP_of H.1.t0 H.1.p0_33, gP_of H.1.t0 H.1.p0_40, gP_of H.1.t0 H.1.p0_41, gP_of H.1.t0 H.1.p0_46, gP_of H.1.t0 H.1.p0_47, gP_of H.1.t0 H.1.p0_48, isRow_bad h1]
  rcases ix2 q3 6 (by decide) with h3 | ⟨s, hs, rfl⟩
  · refine ⟨-1, R, T, F, h, K, hw, fun μ a H => XO.same H ?_, fun μ c H => MO.same H ?_⟩
    · simp (config := { decide := true }) only [↓reduceIte, Option.bind_some, Option.bind_none, f_X11_copy, H.1.t0, gP_of H.1.t0 H.1.p0_0, gP_of H.1.t0 H.1.p0_1, gP_of H.1.t0 H.1.p0_2, gP_of H.1.t0 H.1.p0_3, gP_of H.1.t0 H.1.p0_4, gP_of H.1.t0 H.1.p0_5, gP_of H.1.t0 H.1.p0_6, gP_of H.1.t0 H.1.p0_7, gP_of H.1.t0 H.1.p0_8, gP_of H.1.t0 H.1.p0_9, H.1.fr.has_ok hr, H.1.fr.has_bad h3]
    · simp (config := { decide := true }) only [↓reduceIte, Option.bind_some, Option.bind_none, f_X12_copy, H.1.t0, gP_of H.1.t0 H.1.p0_1, gP_of H.1.t0 H.1.p0_5, gP_of H.1.t0 H.1.p0_6, gP_of H.1.t0 H.1.p0_7, gP_of H.1.t0 H.1.p0_8, gP_of H.1.t0 H.1.p0_9, gP_of H.1.t0 H.1.p0_14, gP_of H.1.t0 H.1.p0_15, gP_of H.1.t0 H.1.p0_21, gP_of H.1.t0 H.1.p0_22, gP_of H.1.t0 H.1.p0_23, gP_of H.1.t0 H.1.p0_24, gP_of H.1.t0 H.1.p0_26, gP_of H.1.t0 H.1.p0_27, gP_of H.1.t0 H.1.p0_28, gP_of H.1.t0 H.1.p0_29, gP_of H.1.t0 H.1.p0_30, gP_of H.1.t0 H.1.p0_31, gP_of H.1.t0 H.1.p0_32, gP_of H.1.t0 H.1.p0_33, gP_of H.1.t0 H.1.p0_40, gP_of H.1.t0 H.1.p0_41, gP_of H.1.t0 H.1.p0_46, gP_of H.1.t0 H.1.p0_47, gP_of H.1.t0 H.1.p0_48, isRow_ok hr, isRow_bad h3]
  by_cases h5 : 0 ≤ q5
  rotate_left
  · refine ⟨-3, R, T, fnd F 5, h, K, hw, fun μ a H => XO.find H (by decide) ?_, fun μ c H => MO.find H (by decide) ?_⟩
    · simp (config := { decide := true }) only [↓reduceIte, Option.bind_some, Option.bind_none, f_X11_copy, H.1.t0, gP_of H.1.t0 H.1.p0_0, gP_of H.1.t0 H.1.p0_1, gP_of H.1.t0 H.1.p0_2, gP_of H.1.t0 H.1.p0_3, gP_of H.1.t0 H.1.p0_4, gP_of H.1.t0 H.1.p0_5, gP_of H.1.t0 H.1.p0_6, gP_of H.1.t0 H.1.p0_7, gP_of H.1.t0 H.1.p0_8, gP_of H.1.t0 H.1.p0_9, H.1.fr.has_ok hr, H.1.fr.has_ok hs, h5, xf5 H.1]
    · simp (config := { decide := true }) only [↓reduceIte, Option.bind_some, Option.bind_none, f_X12_copy, H.1.t0, gP_of H.1.t0 H.1.p0_1, gP_of H.1.t0 H.1.p0_5, gP_of H.1.t0 H.1.p0_6, gP_of H.1.t0 H.1.p0_7, gP_of H.1.t0 H.1.p0_8, gP_of H.1.t0 H.1.p0_9, gP_of H.1.t0 H.1.p0_14, gP_of H.1.t0 H.1.p0_15, gP_of H.1.t0 H.1.p0_21, gP_of H.1.t0 H.1.p0_22, gP_of H.1.t0 H.1.p0_23, gP_of H.1.t0 H.1.p0_24, gP_of H.1.t0 H.1.p0_26, gP_of H.1.t0 H.1.p0_27, gP_of H.1.t0 H.1.p0_28, gP_of H.1.t0 H.1.p0_29, gP_of H.1.t0 H.1.p0_30, gP_of H.1.t0 H.1.p0_31, gP_of H.1.t0 H.1.p0_32, gP_of H.1.t0 H.1.p0_33, gP_of H.1.t0 H.1.p0_40, gP_of H.1.t0 H.1.p0_41, gP_of H.1.t0 H.1.p0_46, gP_of H.1.t0 H.1.p0_47, gP_of H.1.t0 H.1.p0_48, isRow_ok hr, isRow_ok hs, h5, mf5 H.1]
  cases hn : R.1 r with
  | none =>
    refine ⟨-3, R, T, fnd F 1, h, K, hw, fun μ a H => XO.find H (by decide) ?_, fun μ c H => MO.find H (by decide) ?_⟩
    · simp (config := { decide := true }) only [↓reduceIte, Option.bind_some, Option.bind_none, f_X11_copy, H.1.t0, gP_of H.1.t0 H.1.p0_0, gP_of H.1.t0 H.1.p0_1, gP_of H.1.t0 H.1.p0_2, gP_of H.1.t0 H.1.p0_3, gP_of H.1.t0 H.1.p0_4, gP_of H.1.t0 H.1.p0_5, gP_of H.1.t0 H.1.p0_6, gP_of H.1.t0 H.1.p0_7, gP_of H.1.t0 H.1.p0_8, gP_of H.1.t0 H.1.p0_9, H.1.fr.has_ok hr, H.1.fr.has_ok hs, h5, H.1.fr.get hr, there_no (H.1.row hr).2.1 ((H.2.1 r hr).1.trans (by rw [hn]; rfl)), xf1 H.1]
    · simp (config := { decide := true }) only [↓reduceIte, Option.bind_some, Option.bind_none, f_X12_copy, H.1.t0, gP_of H.1.t0 H.1.p0_1, gP_of H.1.t0 H.1.p0_5, gP_of H.1.t0 H.1.p0_6, gP_of H.1.t0 H.1.p0_7, gP_of H.1.t0 H.1.p0_8, gP_of H.1.t0 H.1.p0_9, gP_of H.1.t0 H.1.p0_14, gP_of H.1.t0 H.1.p0_15, gP_of H.1.t0 H.1.p0_21, gP_of H.1.t0 H.1.p0_22, gP_of H.1.t0 H.1.p0_23, gP_of H.1.t0 H.1.p0_24, gP_of H.1.t0 H.1.p0_26, gP_of H.1.t0 H.1.p0_27, gP_of H.1.t0 H.1.p0_28, gP_of H.1.t0 H.1.p0_29, gP_of H.1.t0 H.1.p0_30, gP_of H.1.t0 H.1.p0_31, gP_of H.1.t0 H.1.p0_32, gP_of H.1.t0 H.1.p0_33, gP_of H.1.t0 H.1.p0_40, gP_of H.1.t0 H.1.p0_41, gP_of H.1.t0 H.1.p0_46, gP_of H.1.t0 H.1.p0_47, gP_of H.1.t0 H.1.p0_48, isRow_ok hr, isRow_ok hs, h5, m_rl H hr, hn, en_no, mf1 H.1]
  | some n =>
    have hn4 : n ≤ 40 := hw.1 r hr n hn
    have hn0 : ¬ nI n < 0 := nI_pos (by omega)
    cases hn2 : R.1 s with
    | none =>
      refine ⟨-3, R, T, fnd F 1, h, K, hw, fun μ a H => XO.find H (by decide) ?_, fun μ c H => MO.find H (by decide) ?_⟩
      · simp (config := { decide := true }) only [↓reduceIte, Option.bind_some, Option.bind_none, f_X11_copy, H.1.t0, gP_of H.1.t0 H.1.p0_0, gP_of H.1.t0 H.1.p0_1, gP_of H.1.t0 H.1.p0_2, gP_of H.1.t0 H.1.p0_3, gP_of H.1.t0 H.1.p0_4, gP_of H.1.t0 H.1.p0_5, gP_of H.1.t0 H.1.p0_6, gP_of H.1.t0 H.1.p0_7, gP_of H.1.t0 H.1.p0_8, gP_of H.1.t0 H.1.p0_9, H.1.fr.has_ok hr, H.1.fr.has_ok hs, h5, H.1.fr.get hr, H.1.fr.get hs, there_ok (H.1.row hr).2.1 ((H.2.1 r hr).1.trans (by rw [hn]; rfl)) (show n < 2 ^ 31 by omega), there_no (H.1.row hs).2.1 ((H.2.1 s hs).1.trans (by rw [hn2]; rfl)), xf1 H.1]
      · simp (config := { decide := true }) only [↓reduceIte, Option.bind_some, Option.bind_none, f_X12_copy, H.1.t0, gP_of H.1.t0 H.1.p0_1, gP_of H.1.t0 H.1.p0_5, gP_of H.1.t0 H.1.p0_6, gP_of H.1.t0 H.1.p0_7, gP_of H.1.t0 H.1.p0_8, gP_of H.1.t0 H.1.p0_9, gP_of H.1.t0 H.1.p0_14, gP_of H.1.t0 H.1.p0_15, gP_of H.1.t0 H.1.p0_21, gP_of H.1.t0 H.1.p0_22, gP_of H.1.t0 H.1.p0_23, gP_of H.1.t0 H.1.p0_24, gP_of H.1.t0 H.1.p0_26, gP_of H.1.t0 H.1.p0_27, gP_of H.1.t0 H.1.p0_28, gP_of H.1.t0 H.1.p0_29, gP_of H.1.t0 H.1.p0_30, gP_of H.1.t0 H.1.p0_31, gP_of H.1.t0 H.1.p0_32, gP_of H.1.t0 H.1.p0_33, gP_of H.1.t0 H.1.p0_40, gP_of H.1.t0 H.1.p0_41, gP_of H.1.t0 H.1.p0_46, gP_of H.1.t0 H.1.p0_47, gP_of H.1.t0 H.1.p0_48, isRow_ok hr, isRow_ok hs, h5, m_rl H hr, m_rl H hs, hn, hn2, en_no, en_some, hn0, mf1 H.1]
    | some n2 =>
      have hn24 : n2 ≤ 40 := hw.1 s hs n2 hn2
      have hn20 : 0 ≤ nI n2 := i_pos (by omega)
      have hx : ∀ μ a, XI R T F h K μ a → mI μ (a + 33 + 2 * r) 1 = nI n := fun μ a H => (H.2.1 r hr).1.trans (by rw [hn]; rfl)
      have hx2 : ∀ μ a, XI R T F h K μ a → mI μ (a + 33 + 2 * s) 1 = nI n2 := fun μ a H => (H.2.1 s hs).1.trans (by rw [hn2]; rfl)
      by_cases hb : Rg n q2 q5 ∧ Rg n2 q4 q5
      rotate_left
      · refine ⟨-3, R, T, fnd F 2, h, K, hw, fun μ a H => XO.find H (by decide) ?_, fun μ c H => MO.find H (by decide) ?_⟩
        · haveI := Classical.propDecidable (Rg n q2 q5)
          haveI := Classical.propDecidable (Rg n2 q4 q5)
          by_cases h6 : Rg n q2 q5
          · have h7 : ¬ Rg n2 q4 q5 := fun q => hb ⟨h6, q⟩
            simp (config := { decide := true }) only [↓reduceIte, Option.bind_some, Option.bind_none, f_X11_copy, H.1.t0, gP_of H.1.t0 H.1.p0_0, gP_of H.1.t0 H.1.p0_1, gP_of H.1.t0 H.1.p0_2, gP_of H.1.t0 H.1.p0_3, gP_of H.1.t0 H.1.p0_4, gP_of H.1.t0 H.1.p0_5, gP_of H.1.t0 H.1.p0_6, gP_of H.1.t0 H.1.p0_7, gP_of H.1.t0 H.1.p0_8, gP_of H.1.t0 H.1.p0_9, H.1.fr.has_ok hr, H.1.fr.has_ok hs, h5, H.1.fr.get hr, H.1.fr.get hs, there_ok (H.1.row hr).2.1 (hx μ a H) (show n < 2 ^ 31 by omega), there_ok (H.1.row hs).2.1 (hx2 μ a H) (show n2 < 2 ^ 31 by omega), s_range (H.1.row hr).2.1 (hx μ a H) (show n ≤ 60 by omega) h5, s_range (H.1.row hs).2.1 (hx2 μ a H) (show n2 ≤ 60 by omega) h5, h6, h7, xf2 H.1]
          · simp (config := { decide := true }) only [↓reduceIte, Option.bind_some, Option.bind_none, f_X11_copy, H.1.t0, gP_of H.1.t0 H.1.p0_0, gP_of H.1.t0 H.1.p0_1, gP_of H.1.t0 H.1.p0_2, gP_of H.1.t0 H.1.p0_3, gP_of H.1.t0 H.1.p0_4, gP_of H.1.t0 H.1.p0_5, gP_of H.1.t0 H.1.p0_6, gP_of H.1.t0 H.1.p0_7, gP_of H.1.t0 H.1.p0_8, gP_of H.1.t0 H.1.p0_9, H.1.fr.has_ok hr, H.1.fr.has_ok hs, h5, H.1.fr.get hr, H.1.fr.get hs, there_ok (H.1.row hr).2.1 (hx μ a H) (show n < 2 ^ 31 by omega), there_ok (H.1.row hs).2.1 (hx2 μ a H) (show n2 < 2 ^ 31 by omega), s_range (H.1.row hr).2.1 (hx μ a H) (show n ≤ 60 by omega) h5, h6, xf2 H.1]
        · have hcase : q2 < 0 ∨ q4 < 0 ∨ (¬ q2 < 0 ∧ ¬ q4 < 0 ∧ ¬ q2.toInt + q5.toInt ≤ n) ∨ (¬ q2 < 0 ∧ ¬ q4 < 0 ∧ q2.toInt + q5.toInt ≤ n ∧ ¬ q4.toInt + q5.toInt ≤ n2) := by
            by_cases e1 : q2 < 0
            · exact Or.inl e1
            by_cases e2 : q4 < 0
            · exact Or.inr (Or.inl e2)
            by_cases e3 : q2.toInt + q5.toInt ≤ n
            · exact Or.inr (Or.inr (Or.inr ⟨e1, e2, e3, fun e4 => hb ⟨⟨e1, e3⟩, e2, e4⟩⟩))
            · exact Or.inr (Or.inr (Or.inl ⟨e1, e2, e3⟩))
          rcases hcase with e1 | e1 | ⟨e1, e2, e3⟩ | ⟨e1, e2, e3, e4⟩
          · simp (config := { decide := true }) only [↓reduceIte, Option.bind_some, Option.bind_none, f_X12_copy, H.1.t0, gP_of H.1.t0 H.1.p0_1, gP_of H.1.t0 H.1.p0_5, gP_of H.1.t0 H.1.p0_6, gP_of H.1.t0 H.1.p0_7, gP_of H.1.t0 H.1.p0_8, gP_of H.1.t0 H.1.p0_9, gP_of H.1.t0 H.1.p0_14, gP_of H.1.t0 H.1.p0_15, gP_of H.1.t0 H.1.p0_21, gP_of H.1.t0 H.1.p0_22, gP_of H.1.t0 H.1.p0_23, gP_of H.1.t0 H.1.p0_24, gP_of H.1.t0 H.1.p0_26, gP_of H.1.t0 H.1.p0_27, gP_of H.1.t0 H.1.p0_28, gP_of H.1.t0 H.1.p0_29, gP_of H.1.t0 H.1.p0_30, gP_of H.1.t0 H.1.p0_31, gP_of H.1.t0 H.1.p0_32, gP_of H.1.t0 H.1.p0_33, gP_of H.1.t0 H.1.p0_40, gP_of H.1.t0 H.1.p0_41, gP_of H.1.t0 H.1.p0_46, gP_of H.1.t0 H.1.p0_47, gP_of H.1.t0 H.1.p0_48, isRow_ok hr, isRow_ok hs, h5, m_rl H hr, m_rl H hs, hn, hn2, en_some, hn0, hn20, e1, mf2 H.1]
          · simp (config := { decide := true }) only [↓reduceIte, Option.bind_some, Option.bind_none, f_X12_copy, H.1.t0, gP_of H.1.t0 H.1.p0_1, gP_of H.1.t0 H.1.p0_5, gP_of H.1.t0 H.1.p0_6, gP_of H.1.t0 H.1.p0_7, gP_of H.1.t0 H.1.p0_8, gP_of H.1.t0 H.1.p0_9, gP_of H.1.t0 H.1.p0_14, gP_of H.1.t0 H.1.p0_15, gP_of H.1.t0 H.1.p0_21, gP_of H.1.t0 H.1.p0_22, gP_of H.1.t0 H.1.p0_23, gP_of H.1.t0 H.1.p0_24, gP_of H.1.t0 H.1.p0_26, gP_of H.1.t0 H.1.p0_27, gP_of H.1.t0 H.1.p0_28, gP_of H.1.t0 H.1.p0_29, gP_of H.1.t0 H.1.p0_30, gP_of H.1.t0 H.1.p0_31, gP_of H.1.t0 H.1.p0_32, gP_of H.1.t0 H.1.p0_33, gP_of H.1.t0 H.1.p0_40, gP_of H.1.t0 H.1.p0_41, gP_of H.1.t0 H.1.p0_46, gP_of H.1.t0 H.1.p0_47, gP_of H.1.t0 H.1.p0_48, isRow_ok hr, isRow_ok hs, h5, m_rl H hr, m_rl H hs, hn, hn2, en_some, hn0, hn20, e1, mf2 H.1]
            by_cases e0 : q2 < 0
            · rw [if_pos e0]
            · rw [if_neg e0]
          · simp (config := { decide := true }) only [↓reduceIte, Option.bind_some, Option.bind_none, f_X12_copy, H.1.t0, gP_of H.1.t0 H.1.p0_1, gP_of H.1.t0 H.1.p0_5, gP_of H.1.t0 H.1.p0_6, gP_of H.1.t0 H.1.p0_7, gP_of H.1.t0 H.1.p0_8, gP_of H.1.t0 H.1.p0_9, gP_of H.1.t0 H.1.p0_14, gP_of H.1.t0 H.1.p0_15, gP_of H.1.t0 H.1.p0_21, gP_of H.1.t0 H.1.p0_22, gP_of H.1.t0 H.1.p0_23, gP_of H.1.t0 H.1.p0_24, gP_of H.1.t0 H.1.p0_26, gP_of H.1.t0 H.1.p0_27, gP_of H.1.t0 H.1.p0_28, gP_of H.1.t0 H.1.p0_29, gP_of H.1.t0 H.1.p0_30, gP_of H.1.t0 H.1.p0_31, gP_of H.1.t0 H.1.p0_32, gP_of H.1.t0 H.1.p0_33, gP_of H.1.t0 H.1.p0_40, gP_of H.1.t0 H.1.p0_41, gP_of H.1.t0 H.1.p0_46, gP_of H.1.t0 H.1.p0_47, gP_of H.1.t0 H.1.p0_48, isRow_ok hr, isRow_ok hs, h5, m_rl H hr, m_rl H hs, hn, hn2, en_some, hn0, hn20, e1, e2, m_gt (show n ≤ 60 by omega), e3, not_false_eq_true, mf2 H.1]
          · simp (config := { decide := true }) only [↓reduceIte, Option.bind_some, Option.bind_none, f_X12_copy, H.1.t0, gP_of H.1.t0 H.1.p0_1, gP_of H.1.t0 H.1.p0_5, gP_of H.1.t0 H.1.p0_6, gP_of H.1.t0 H.1.p0_7, gP_of H.1.t0 H.1.p0_8, gP_of H.1.t0 H.1.p0_9, gP_of H.1.t0 H.1.p0_14, gP_of H.1.t0 H.1.p0_15, gP_of H.1.t0 H.1.p0_21, gP_of H.1.t0 H.1.p0_22, gP_of H.1.t0 H.1.p0_23, gP_of H.1.t0 H.1.p0_24, gP_of H.1.t0 H.1.p0_26, gP_of H.1.t0 H.1.p0_27, gP_of H.1.t0 H.1.p0_28, gP_of H.1.t0 H.1.p0_29, gP_of H.1.t0 H.1.p0_30, gP_of H.1.t0 H.1.p0_31, gP_of H.1.t0 H.1.p0_32, gP_of H.1.t0 H.1.p0_33, gP_of H.1.t0 H.1.p0_40, gP_of H.1.t0 H.1.p0_41, gP_of H.1.t0 H.1.p0_46, gP_of H.1.t0 H.1.p0_47, gP_of H.1.t0 H.1.p0_48, isRow_ok hr, isRow_ok hs, h5, m_rl H hr, m_rl H hs, hn, hn2, en_some, hn0, hn20, e1, e2, m_gt (show n ≤ 60 by omega), m_le (show n2 ≤ 60 by omega), e3, e4, not_true_eq_false, mf2 H.1]
      · obtain ⟨⟨e1, e3⟩, e2, e4⟩ := hb
        have h0 := toInt_nn h5
        obtain ⟨i, hi, rfl⟩ := nI_of e1
        obtain ⟨j, hj, rfl⟩ := nI_of e2
        obtain ⟨m, hm, rfl⟩ := nI_of (fun q => i_neg q h5)
        rw [nI_toInt hi, nI_toInt hm] at e3
        rw [nI_toInt hj, nI_toInt hm] at e4
        have hm0 : ¬ nI m < 0 := nI_pos hm
        have hg1 : Rg n (nI i) (nI m) := ⟨e1, by rw [nI_toInt hi, nI_toInt hm]; exact e3⟩
        have hg2 : Rg n2 (nI j) (nI m) := ⟨e2, by rw [nI_toInt hj, nI_toInt hm]; exact e4⟩
        refine ⟨1, setr R s (some n2) (filo (R.2 s) j m (fun x => R.2 r (i + x))), T, F, h, K, ⟨hw.1.set (fun q hq => by cases hq; exact hn24), hw.2⟩, fun μ a H => ⟨sR μ (a + 34 + 2 * s) (va_cpy (mI μ (a + 34 + 2 * r)) (mI μ (a + 34 + 2 * s)) i j m), ?_, ?_, fun b _ _ => (Sm.rf μ b).sR (by omega), Nat.le_refl _⟩, fun μ c H => ⟨sR (sR μ (c + 4) (filf (mI μ (c + 4)) m (fun x => R.2 r (i + x)))) (c + 3) (filo (mI μ (c + 3)) (40 * s + j) m (fun x => R.2 r (i + x))), ?_, ?_, fun b _ => ((Sm.rf μ b).sR (by omega)).sR (by omega), Nat.le_refl _⟩⟩
        · haveI := Classical.propDecidable (Rg n (nI i) (nI m))
          haveI := Classical.propDecidable (Rg n2 (nI j) (nI m))
          obtain ⟨k1, k2, k3, k4, k5⟩ := H.1.row hr
          obtain ⟨l1, l2, l3, l4, l5⟩ := H.1.row hs
          have hc : cI μ (a + 34 + 2 * r) (nI i) (a + 34 + 2 * s) (nI j) (nI m) = some (sR μ (a + 34 + 2 * s) (va_cpy (mI μ (a + 34 + 2 * r)) (mI μ (a + 34 + 2 * s)) i j m)) := by
            unfold cI
            rw [nI_clamp hi, nI_clamp hj, nI_clamp hm]
            exact if_pos ⟨k4, l4, e1, e2, hm0, by omega, by omega⟩
          simp (config := { decide := true }) only [↓reduceIte, Option.bind_some, Option.bind_none, f_X11_copy, H.1.t0, gP_of H.1.t0 H.1.p0_0, gP_of H.1.t0 H.1.p0_1, gP_of H.1.t0 H.1.p0_2, gP_of H.1.t0 H.1.p0_3, gP_of H.1.t0 H.1.p0_4, gP_of H.1.t0 H.1.p0_5, gP_of H.1.t0 H.1.p0_6, gP_of H.1.t0 H.1.p0_7, gP_of H.1.t0 H.1.p0_8, gP_of H.1.t0 H.1.p0_9, H.1.fr.has_ok hr, H.1.fr.has_ok hs, h5, H.1.fr.get hr, H.1.fr.get hs, there_ok (H.1.row hr).2.1 (hx μ a H) (show n < 2 ^ 31 by omega), there_ok (H.1.row hs).2.1 (hx2 μ a H) (show n2 < 2 ^ 31 by omega), s_range (H.1.row hr).2.1 (hx μ a H) (show n ≤ 60 by omega) h5, s_range (H.1.row hs).2.1 (hx2 μ a H) (show n2 ≤ 60 by omega) h5, hg1, hg2, gP_of k2 k3, gP_of l2 l3, hc]
        · refine H.rset hs (fun b h1 h2 _ => (Sm.rf μ b).sR h2) H.1 ?_ ?_ (Nat.le_refl _)
          · rw [mR_ne (by omega)]; exact hx2 μ a H
          · intro q hq x hx'
            cases hq
            rw [mR_eq]
            by_cases hin : j ≤ x ∧ x < j + m
            · rw [pk_cpy_in hin.1 hin.2, filo_in hin.1 hin.2, (H.2.1 r hr).2 n hn _ (by omega)]
            · rw [pk_cpy_out (by omega), filo_out (by omega), (H.2.1 s hs).2 n2 hn2 x hx']
        · have hm0' : ¬ nI i < 0 := e1
          have d1 : (nI i).toInt + (nI m).toInt ≤ n := hg1.2
          have d2 : (nI j).toInt + (nI m).toInt ≤ n2 := hg2.2
          have c1 := m_copy1 (p3 := nI s) (p4 := nI j) H hw.1 hr hn (show i + m ≤ n by omega) BIG 0 (by omega) (by unfold BIG; omega)
          rw [filf_0, sR_self] at c1
          have c2 := m_copy2 (μ := sR μ (c + 4) (filf (mI μ (c + 4)) m (fun x => R.2 r (i + x)))) (g := mI μ (c + 3)) (f0 := fun x => R.2 r (i + x)) H.1 hs (show j + m ≤ 40 by omega) (fun x hx => by rw [mR_eq, filf_in hx]) BIG 0 (by omega) (by unfold BIG; omega)
          have es : sR (sR μ (c + 4) (filf (mI μ (c + 4)) m (fun x => R.2 r (i + x)))) (c + 3) (mI μ (c + 3)) = sR μ (c + 4) (filf (mI μ (c + 4)) m (fun x => R.2 r (i + x))) := by
            have : mI μ (c + 3) = mI (sR μ (c + 4) (filf (mI μ (c + 4)) m (fun x => R.2 r (i + x)))) (c + 3) := funext fun x => (mR_ne (by omega)).symm
            rw [this, sR_self]
          rw [filo_0, es] at c2
          have c1' : lp_X12_copy_104 BIG c (nI r) (nI i) (nI s) (nI j) (nI m) 0 μ = _ := c1
          have c2' : lp_X12_copy_136 BIG c (nI s) (nI j) (nI m) 0 _ = _ := c2
          simp (config := { decide := true }) only [↓reduceIte, Option.bind_some, Option.bind_none, f_X12_copy, H.1.t0, gP_of H.1.t0 H.1.p0_1, gP_of H.1.t0 H.1.p0_5, gP_of H.1.t0 H.1.p0_6, gP_of H.1.t0 H.1.p0_7, gP_of H.1.t0 H.1.p0_8, gP_of H.1.t0 H.1.p0_9, gP_of H.1.t0 H.1.p0_14, gP_of H.1.t0 H.1.p0_15, gP_of H.1.t0 H.1.p0_21, gP_of H.1.t0 H.1.p0_22, gP_of H.1.t0 H.1.p0_23, gP_of H.1.t0 H.1.p0_24, gP_of H.1.t0 H.1.p0_26, gP_of H.1.t0 H.1.p0_27, gP_of H.1.t0 H.1.p0_28, gP_of H.1.t0 H.1.p0_29, gP_of H.1.t0 H.1.p0_30, gP_of H.1.t0 H.1.p0_31, gP_of H.1.t0 H.1.p0_32, gP_of H.1.t0 H.1.p0_33, gP_of H.1.t0 H.1.p0_40, gP_of H.1.t0 H.1.p0_41, gP_of H.1.t0 H.1.p0_46, gP_of H.1.t0 H.1.p0_47, gP_of H.1.t0 H.1.p0_48, isRow_ok hr, isRow_ok hs, h5, m_rl H hr, m_rl H hs, hn, hn2, en_some, hn0, hn20, e1, e2, m_gt (show n ≤ 60 by omega), m_le (show n2 ≤ 60 by omega), d1, d2, not_true_eq_false, c1', c2']
        · refine H.rset hw.1 hs (fun b h1 h2 h3 => Or.inl (((Sm.rf μ b).sR h3).sR h2)) H.1 ?_ ?_ ?_ ?_
          · rw [mR_ne (by omega), mR_ne (by omega), (H.2.1 s hs).1, hn2]
          · intro x hx'; rw [mR_ne (by omega), mR_ne (by omega)]
          · intro q hq x hx'
            cases hq
            rw [mR_eq]
            by_cases hin : j ≤ x ∧ x < j + m
            · rw [filo_in (by omega) (by omega), filo_in hin.1 hin.2, show 40 * s + x - (40 * s + j) = x - j by omega]
            · rw [filo_out (by omega), filo_out (by omega), (H.2.1 s hs).2 n2 hn2 x hx']
          · intro x y hx' hy
            rw [mR_eq, filo_out (by omega)]
