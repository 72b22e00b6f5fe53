/-! ===== at, tear, mean ===== -/
theorem PSI_at : PS_at INV := by
  intro μ a1 a2 q1 q2 hI
  refine both_of (fx := fun μ a => f_X11_at μ a q1 q2) (fm := fun μ c => f_X12_at μ c q1 q2) ?_ μ a1 a2 hI
  intro R T F h K hw
  rcases ix2 q1 6 (by decide) with h1 | ⟨r, hr, rfl⟩
  · refine ⟨-1, R, T, F, h, K, hw, fun μ a H => XO.same H ?_, fun μ c H => MO.same H ?_⟩
    · simp (config := { decide := true }) only [↓reduceIte, Option.bind_some, Option.bind_none, f_X11_at, H.1.t0, gP_of H.1.t0 H.1.p0_0, gP_of H.1.t0 H.1.p0_1, gP_of H.1.t0 H.1.p0_2, gP_of H.1.t0 H.1.p0_3, gP_of H.1.t0 H.1.p0_4, gP_of H.1.t0 H.1.p0_5, gP_of H.1.t0 H.1.p0_6, gP_of H.1.t0 H.1.p0_7, gP_of H.1.t0 H.1.p0_8, gP_of H.1.t0 H.1.p0_9, H.1.fr.place_bad H.1 h1]
    · simp (config := { decide := true }) only [↓reduceIte, Option.bind_some, Option.bind_none, f_X12_at, H.1.t0, gP_of H.1.t0 H.1.p0_1, gP_of H.1.t0 H.1.p0_5, gP_of H.1.t0 H.1.p0_6, gP_of H.1.t0 H.1.p0_7, gP_of H.1.t0 H.1.p0_8, gP_of H.1.t0 H.1.p0_9, gP_of H.1.t0 H.1.p0_14, gP_of H.1.t0 H.1.p0_15, gP_of H.1.t0 H.1.p0_21, gP_of H.1.t0 H.1.p0_22, gP_of H.1.t0 H.1.p0_23, gP_of H.1.t0 H.1.p0_24, gP_of H.1.t0 H.1.p0_26, gP_of H.1.t0 H.1.p0_27, gP_of H.1.t0 H.1.p0_28, gP_of H.1.t0 H.1.p0_29, gP_of H.1.t0 H.1.p0_30, gP_of H.1.t0 H.1.p0_31, gP_of H.1.t0 H.1.p0_32, gP_of H.1.t0 H.1.p0_33, gP_of H.1.t0 H.1.p0_40, gP_of H.1.t0 H.1.p0_41, gP_of H.1.t0 H.1.p0_46, gP_of H.1.t0 H.1.p0_47, gP_of H.1.t0 H.1.p0_48, isRow_bad h1]
  · cases hn : R.1 r with
    | none =>
      refine ⟨-3, R, T, fnd F 1, h, K, hw, fun μ a H => XO.find H (by decide) ?_, fun μ c H => MO.find H (by decide) ?_⟩
      · simp (config := { decide := true }) only [↓reduceIte, Option.bind_some, Option.bind_none, f_X11_at, H.1.t0, gP_of H.1.t0 H.1.p0_0, gP_of H.1.t0 H.1.p0_1, gP_of H.1.t0 H.1.p0_2, gP_of H.1.t0 H.1.p0_3, gP_of H.1.t0 H.1.p0_4, gP_of H.1.t0 H.1.p0_5, gP_of H.1.t0 H.1.p0_6, gP_of H.1.t0 H.1.p0_7, gP_of H.1.t0 H.1.p0_8, gP_of H.1.t0 H.1.p0_9, H.1.fr.place_no H.1 hr ((H.2.1 r hr).1.trans (by rw [hn]; rfl))]
      · simp (config := { decide := true }) only [↓reduceIte, Option.bind_some, Option.bind_none, f_X12_at, H.1.t0, gP_of H.1.t0 H.1.p0_1, gP_of H.1.t0 H.1.p0_5, gP_of H.1.t0 H.1.p0_6, gP_of H.1.t0 H.1.p0_7, gP_of H.1.t0 H.1.p0_8, gP_of H.1.t0 H.1.p0_9, gP_of H.1.t0 H.1.p0_14, gP_of H.1.t0 H.1.p0_15, gP_of H.1.t0 H.1.p0_21, gP_of H.1.t0 H.1.p0_22, gP_of H.1.t0 H.1.p0_23, gP_of H.1.t0 H.1.p0_24, gP_of H.1.t0 H.1.p0_26, gP_of H.1.t0 H.1.p0_27, gP_of H.1.t0 H.1.p0_28, gP_of H.1.t0 H.1.p0_29, gP_of H.1.t0 H.1.p0_30, gP_of H.1.t0 H.1.p0_31, gP_of H.1.t0 H.1.p0_32, gP_of H.1.t0 H.1.p0_33, gP_of H.1.t0 H.1.p0_40, gP_of H.1.t0 H.1.p0_41, gP_of H.1.t0 H.1.p0_46, gP_of H.1.t0 H.1.p0_47, gP_of H.1.t0 H.1.p0_48, isRow_ok hr, m_rl H hr, hn, en_no, mf1 H.1]
    | some n =>
      have hn4 : n ≤ 40 := hw.1 r hr n hn
      have h0 : (0 : Int32) ≤ nI n := i_pos (by omega)
      rcases ix2 q2 n (by omega) with h2 | ⟨i, hi, rfl⟩
      · refine ⟨-3, R, T, fnd F 2, h, K, hw, fun μ a H => XO.find H (by decide) ?_, fun μ c H => MO.find H (by decide) ?_⟩
        · simp (config := { decide := true }) only [↓reduceIte, Option.bind_some, Option.bind_none, f_X11_at, H.1.t0, gP_of H.1.t0 H.1.p0_0, gP_of H.1.t0 H.1.p0_1, gP_of H.1.t0 H.1.p0_2, gP_of H.1.t0 H.1.p0_3, gP_of H.1.t0 H.1.p0_4, gP_of H.1.t0 H.1.p0_5, gP_of H.1.t0 H.1.p0_6, gP_of H.1.t0 H.1.p0_7, gP_of H.1.t0 H.1.p0_8, gP_of H.1.t0 H.1.p0_9, H.1.fr.place_out H.1 hr ((H.2.1 r hr).1.trans (by rw [hn]; rfl)) (show n < 2 ^ 31 by omega) h2]
        · simp (config := { decide := true }) only [↓reduceIte, Option.bind_some, Option.bind_none, f_X12_at, H.1.t0, gP_of H.1.t0 H.1.p0_1, gP_of H.1.t0 H.1.p0_5, gP_of H.1.t0 H.1.p0_6, gP_of H.1.t0 H.1.p0_7, gP_of H.1.t0 H.1.p0_8, gP_of H.1.t0 H.1.p0_9, gP_of H.1.t0 H.1.p0_14, gP_of H.1.t0 H.1.p0_15, gP_of H.1.t0 H.1.p0_21, gP_of H.1.t0 H.1.p0_22, gP_of H.1.t0 H.1.p0_23, gP_of H.1.t0 H.1.p0_24, gP_of H.1.t0 H.1.p0_26, gP_of H.1.t0 H.1.p0_27, gP_of H.1.t0 H.1.p0_28, gP_of H.1.t0 H.1.p0_29, gP_of H.1.t0 H.1.p0_30, gP_of H.1.t0 H.1.p0_31, gP_of H.1.t0 H.1.p0_32, gP_of H.1.t0 H.1.p0_33, gP_of H.1.t0 H.1.p0_40, gP_of H.1.t0 H.1.p0_41, gP_of H.1.t0 H.1.p0_46, gP_of H.1.t0 H.1.p0_47, gP_of H.1.t0 H.1.p0_48, isRow_ok hr, m_rl H hr, hn, en_some, h0, m_in_last (show n < 2 ^ 31 by omega) h2, mf2 H.1]
      · refine ⟨1, R, T, tel F (R.2 r i), h, K, hw, fun μ a H => XO.tell H ?_, fun μ c H => MO.tell H ?_⟩
        · obtain ⟨k1, k2, k3, k4, k5⟩ := H.1.row hr
          have hs : mI μ (a + 33 + 2 * r) 1 = nI n := (H.2.1 r hr).1.trans (by rw [hn]; rfl)
          simp (config := { decide := true }) only [↓reduceIte, Option.bind_some, Option.bind_none, f_X11_at, H.1.t0, gP_of H.1.t0 H.1.p0_0, gP_of H.1.t0 H.1.p0_1, gP_of H.1.t0 H.1.p0_2, gP_of H.1.t0 H.1.p0_3, gP_of H.1.t0 H.1.p0_4, gP_of H.1.t0 H.1.p0_5, gP_of H.1.t0 H.1.p0_6, gP_of H.1.t0 H.1.p0_7, gP_of H.1.t0 H.1.p0_8, gP_of H.1.t0 H.1.p0_9, H.1.fr.place_ok H.1 hr hs (show n < 2 ^ 31 by omega) hi, H.1.fr.get hr, gP_of k2 k3, aI_of k4 (show i < ln μ (a + 34 + 2 * r) by omega) (show i < 2 ^ 31 by omega), (H.2.1 r hr).2 n hn i hi, x_tell H.1]
        · simp (config := { decide := true }) only [↓reduceIte, Option.bind_some, Option.bind_none, f_X12_at, H.1.t0, gP_of H.1.t0 H.1.p0_1, gP_of H.1.t0 H.1.p0_5, gP_of H.1.t0 H.1.p0_6, gP_of H.1.t0 H.1.p0_7, gP_of H.1.t0 H.1.p0_8, gP_of H.1.t0 H.1.p0_9, gP_of H.1.t0 H.1.p0_14, gP_of H.1.t0 H.1.p0_15, gP_of H.1.t0 H.1.p0_21, gP_of H.1.t0 H.1.p0_22, gP_of H.1.t0 H.1.p0_23, gP_of H.1.t0 H.1.p0_24, gP_of H.1.t0 H.1.p0_26, gP_of H.1.t0 H.1.p0_27, gP_of H.1.t0 H.1.p0_28, gP_of H.1.t0 H.1.p0_29, gP_of H.1.t0 H.1.p0_30, gP_of H.1.t0 H.1.p0_31, gP_of H.1.t0 H.1.p0_32, gP_of H.1.t0 H.1.p0_33, gP_of H.1.t0 H.1.p0_40, gP_of H.1.t0 H.1.p0_41, gP_of H.1.t0 H.1.p0_46, gP_of H.1.t0 H.1.p0_47, gP_of H.1.t0 H.1.p0_48, isRow_ok hr, m_rl H hr, hn, en_some, h0, m_in_last1 hi (show n < 2 ^ 31 by omega), m_rowAt H hr hn hi hn4, m_tell H.1]
theorem PSI_tear : PS_tear INV := by
  intro μ a1 a2 q1 hI
  refine both_of (fx := fun μ a => f_X11_tear μ a q1) (fm := fun μ c => f_X12_tear μ c q1) ?_ μ a1 a2 hI
  intro R T F h K hw
  rcases ix2 q1 6 (by decide) with h1 | ⟨r, hr, rfl⟩
  · refine ⟨-1, R, T, F, h, K, hw, fun μ a H => XO.same H ?_, fun μ c H => MO.same H ?_⟩
    · simp (config := { decide := true }) only [↓reduceIte, Option.bind_some, Option.bind_none, f_X11_tear, H.1.t0, gP_of H.1.t0 H.1.p0_0, gP_of H.1.t0 H.1.p0_1, gP_of H.1.t0 H.1.p0_2, gP_of H.1.t0 H.1.p0_3, gP_of H.1.t0 H.1.p0_4, gP_of H.1.t0 H.1.p0_5, gP_of H.1.t0 H.1.p0_6, gP_of H.1.t0 H.1.p0_7, gP_of H.1.t0 H.1.p0_8, gP_of H.1.t0 H.1.p0_9, H.1.fr.refuse_bad H.1 h1]
    · simp (config := { decide := true }) only [↓reduceIte, Option.bind_some, Option.bind_none, f_X12_tear, H.1.t0, gP_of H.1.t0 H.1.p0_1, gP_of H.1.t0 H.1.p0_5, gP_of H.1.t0 H.1.p0_6, gP_of H.1.t0 H.1.p0_7, gP_of H.1.t0 H.1.p0_8, gP_of H.1.t0 H.1.p0_9, gP_of H.1.t0 H.1.p0_14, gP_of H.1.t0 H.1.p0_15, gP_of H.1.t0 H.1.p0_21, gP_of H.1.t0 H.1.p0_22, gP_of H.1.t0 H.1.p0_23, gP_of H.1.t0 H.1.p0_24, gP_of H.1.t0 H.1.p0_26, gP_of H.1.t0 H.1.p0_27, gP_of H.1.t0 H.1.p0_28, gP_of H.1.t0 H.1.p0_29, gP_of H.1.t0 H.1.p0_30, gP_of H.1.t0 H.1.p0_31, gP_of H.1.t0 H.1.p0_32, gP_of H.1.t0 H.1.p0_33, gP_of H.1.t0 H.1.p0_40, gP_of H.1.t0 H.1.p0_41, gP_of H.1.t0 H.1.p0_46, gP_of H.1.t0 H.1.p0_47, gP_of H.1.t0 H.1.p0_48, isRow_bad h1]
  · cases hn : R.1 r with
    | none =>
      refine ⟨-3, R, T, fnd F 1, h, K, hw, fun μ a H => XO.find H (by decide) ?_, fun μ c H => MO.find H (by decide) ?_⟩
      · simp (config := { decide := true }) only [↓reduceIte, Option.bind_some, Option.bind_none, f_X11_tear, H.1.t0, gP_of H.1.t0 H.1.p0_0, gP_of H.1.t0 H.1.p0_1, gP_of H.1.t0 H.1.p0_2, gP_of H.1.t0 H.1.p0_3, gP_of H.1.t0 H.1.p0_4, gP_of H.1.t0 H.1.p0_5, gP_of H.1.t0 H.1.p0_6, gP_of H.1.t0 H.1.p0_7, gP_of H.1.t0 H.1.p0_8, gP_of H.1.t0 H.1.p0_9, H.1.fr.refuse_no H.1 hr ((H.2.1 r hr).1.trans (by rw [hn]; rfl))]
      · simp (config := { decide := true }) only [↓reduceIte, Option.bind_some, Option.bind_none, f_X12_tear, H.1.t0, gP_of H.1.t0 H.1.p0_1, gP_of H.1.t0 H.1.p0_5, gP_of H.1.t0 H.1.p0_6, gP_of H.1.t0 H.1.p0_7, gP_of H.1.t0 H.1.p0_8, gP_of H.1.t0 H.1.p0_9, gP_of H.1.t0 H.1.p0_14, gP_of H.1.t0 H.1.p0_15, gP_of H.1.t0 H.1.p0_21, gP_of H.1.t0 H.1.p0_22, gP_of H.1.t0 H.1.p0_23, gP_of H.1.t0 H.1.p0_24, gP_of H.1.t0 H.1.p0_26, gP_of H.1.t0 H.1.p0_27, gP_of H.1.t0 H.1.p0_28, gP_of H.1.t0 H.1.p0_29, gP_of H.1.t0 H.1.p0_30, gP_of H.1.t0 H.1.p0_31, gP_of H.1.t0 H.1.p0_32, gP_of H.1.t0 H.1.p0_33, gP_of H.1.t0 H.1.p0_40, gP_of H.1.t0 H.1.p0_41, gP_of H.1.t0 H.1.p0_46, gP_of H.1.t0 H.1.p0_47, gP_of H.1.t0 H.1.p0_48, isRow_ok hr, m_rl H hr, hn, en_no, mf1 H.1]
    | some n =>
      have hn4 : n ≤ 40 := hw.1 r hr n hn
      have h0 : (0 : Int32) ≤ nI n := i_pos (by omega)
      refine ⟨1, setr R r none (R.2 r), T, F, h, K, ⟨hw.1.set (fun m hm => by cases hm), hw.2⟩, fun μ a H => ⟨sI μ (a + 33 + 2 * r) 1 (-1), ?_, ?_, fun b _ _ => (Sm.rf μ b).sI (by omega), Nat.le_refl _⟩, fun μ c H => ⟨sI μ (c + 2) r (-1), ?_, ?_, fun b _ => (Sm.rf μ b).sI (by omega), Nat.le_refl _⟩⟩
      · obtain ⟨k1, k2, k3, k4, k5⟩ := H.1.row hr
        have hs : mI μ (a + 33 + 2 * r) 1 = nI n := (H.2.1 r hr).1.trans (by rw [hn]; rfl)
        simp (config := { decide := true }) only [↓reduceIte, Option.bind_some, Option.bind_none, f_X11_tear, H.1.t0, gP_of H.1.t0 H.1.p0_0, gP_of H.1.t0 H.1.p0_1, gP_of H.1.t0 H.1.p0_2, gP_of H.1.t0 H.1.p0_3, gP_of H.1.t0 H.1.p0_4, gP_of H.1.t0 H.1.p0_5, gP_of H.1.t0 H.1.p0_6, gP_of H.1.t0 H.1.p0_7, gP_of H.1.t0 H.1.p0_8, gP_of H.1.t0 H.1.p0_9, H.1.fr.refuse_ok H.1 hr hs (show n < 2 ^ 31 by omega), H.1.fr.get hr, f_X8_close, k2, pI_of k2]
      · refine H.rset hr (fun b h1 h2 _ => (Sm.rf μ b).sI h1) H.1 mI_eq (fun m hm => by cases hm) (Nat.le_refl _)
      · simp (config := { decide := true }) only [↓reduceIte, Option.bind_some, Option.bind_none, f_X12_tear, H.1.t0, gP_of H.1.t0 H.1.p0_1, gP_of H.1.t0 H.1.p0_5, gP_of H.1.t0 H.1.p0_6, gP_of H.1.t0 H.1.p0_7, gP_of H.1.t0 H.1.p0_8, gP_of H.1.t0 H.1.p0_9, gP_of H.1.t0 H.1.p0_14, gP_of H.1.t0 H.1.p0_15, gP_of H.1.t0 H.1.p0_21, gP_of H.1.t0 H.1.p0_22, gP_of H.1.t0 H.1.p0_23, gP_of H.1.t0 H.1.p0_24, gP_of H.1.t0 H.1.p0_26, gP_of H.1.t0 H.1.p0_27, gP_of H.1.t0 H.1.p0_28, gP_of H.1.t0 H.1.p0_29, gP_of H.1.t0 H.1.p0_30, gP_of H.1.t0 H.1.p0_31, gP_of H.1.t0 H.1.p0_32, gP_of H.1.t0 H.1.p0_33, gP_of H.1.t0 H.1.p0_40, gP_of H.1.t0 H.1.p0_41, gP_of H.1.t0 H.1.p0_46, gP_of H.1.t0 H.1.p0_47, gP_of H.1.t0 H.1.p0_48, isRow_ok hr, m_rl H hr, hn, en_some, h0, qI_of (i := r) H.1.t2 (show r < ln μ (c + 2) by rw [H.1.n2]; exact hr) (show r < 2 ^ 31 by omega)]
      · refine H.rset hw.1 hr (fun b h1 h2 _ => Or.inl ((Sm.rf μ b).sI h1)) H.1 mI_eq (fun s hs => mI_nk hs) (fun m hm => by cases hm) (fun s i hs hi => mI_ne (by omega))
/-- the sum of the first items -/
def sm64 (g : Nat → Int32) (n : Nat) : Int64 := (List.range n).foldl (fun s i => s + (g i).toInt64) 0
theorem sm64_s (g : Nat → Int32) (n : Nat) : sm64 g (n + 1) = sm64 g n + (g n).toInt64 := by
  unfold sm64
  rw [List.range_succ, List.foldl_append]
  rfl
theorem s_total_l {μ : Mm} {s c n : Nat} {g : Nat → Int32} (ht : tg μ s = 9) (hp : mP μ s 0 = some c) (hc : tg μ c = 21) (hs : mI μ s 1 = nI n) (hn : n ≤ ln μ c) (hn2 : n < 2 ^ 31) (hg : ∀ i, i < n → mI μ c i = g i) : ∀ (f k : Nat), k ≤ n → n < k + f → lp_X8_total_4 f s (sm64 g k) (nI k) μ = some (sm64 g n) := by
  intro f
  induction f with
  | zero => intro k h1 h2; omega
  | succ f ih =>
    intro k h1 h2
    by_cases hk : k = n
    · subst hk
      simp (config := { decide := true }) only [↓reduceIte, Option.bind_some, Option.bind_none, lp_X8_total_4, gI_of ht, hs, Int32.le_refl]
    · have e : ¬ nI n ≤ nI k := nI_ge (by omega) hn2
      simp (config := { decide := true }) only [↓reduceIte, Option.bind_some, Option.bind_none, lp_X8_total_4, gI_of ht, hs, e, gP_of ht hp, aI_of hc (show k < ln μ c by omega) (show k < 2 ^ 31 by omega), hg k (show k < n by omega)]
      rw [← sm64_s, nI_1]
      exact ih (k + 1) (by omega) (by omega)
theorem m_mean_l {R T : GR} {F : GF} {h : GH} {K : GK} {μ : Mm} {c r n : Nat} (H : MI R T F h K μ c) (hr : r < 6) (hn : R.1 r = some n) (hn4 : n ≤ 40) : ∀ (f k : Nat), k ≤ n → n < k + f → lp_X12_mean_44 f c (nI r) (sm64 (R.2 r) k) (nI k) μ = some (sm64 (R.2 r) n) := by
  intro f
  induction f with
  | zero => intro k h1 h2; omega
  | succ f ih =>
    intro k h1 h2
    by_cases hk : k = n
    · subst hk
      simp (config := { decide := true }) only [↓reduceIte, Option.bind_some, Option.bind_none, lp_X12_mean_44, gP_of H.1.t0 H.1.p0_5, m_rl H hr, hn, en_some, Int32.le_refl]
    · have e : ¬ nI n ≤ nI k := nI_ge (by omega) (by omega)
      simp (config := { decide := true }) only [↓reduceIte, Option.bind_some, Option.bind_none, lp_X12_mean_44, gP_of H.1.t0 H.1.p0_5, m_rl H hr, hn, en_some, e, m_rowAt H hr hn (show k < n by omega) hn4]
      rw [← sm64_s, nI_1]
      exact ih (k + 1) (by omega) (by omega)
theorem PSI_mean : PS_mean INV := by
  intro μ a1 a2 q1 hI
  refine both_of (fx := fun μ a => f_X11_mean μ a q1) (fm := fun μ c => f_X12_mean μ c q1) ?_ μ a1 a2 hI
  intro R T F h K hw
  rcases ix2 q1 6 (by decide) with h1 | ⟨r, hr, rfl⟩
  · refine ⟨-1, R, T, F, h, K, hw, fun μ a H => XO.same H ?_, fun μ c H => MO.same H ?_⟩
    · simp (config := { decide := true }) only [↓reduceIte, Option.bind_some, Option.bind_none, f_X11_mean, H.1.t0, gP_of H.1.t0 H.1.p0_0, gP_of H.1.t0 H.1.p0_1, gP_of H.1.t0 H.1.p0_2, gP_of H.1.t0 H.1.p0_3, gP_of H.1.t0 H.1.p0_4, gP_of H.1.t0 H.1.p0_5, gP_of H.1.t0 H.1.p0_6, gP_of H.1.t0 H.1.p0_7, gP_of H.1.t0 H.1.p0_8, gP_of H.1.t0 H.1.p0_9, H.1.fr.refuse_bad H.1 h1]
    · simp (config := { decide := true }) only [↓reduceIte, Option.bind_some, Option.bind_none, f_X12_mean, H.1.t0, gP_of H.1.t0 H.1.p0_1, gP_of H.1.t0 H.1.p0_5, gP_of H.1.t0 H.1.p0_6, gP_of H.1.t0 H.1.p0_7, gP_of H.1.t0 H.1.p0_8, gP_of H.1.t0 H.1.p0_9, gP_of H.1.t0 H.1.p0_14, gP_of H.1.t0 H.1.p0_15, gP_of H.1.t0 H.1.p0_21, gP_of H.1.t0 H.1.p0_22, gP_of H.1.t0 H.1.p0_23, gP_of H.1.t0 H.1.p0_24, gP_of H.1.t0 H.1.p0_26, gP_of H.1.t0 H.1.p0_27, gP_of H.1.t0 H.1.p0_28, gP_of H.1.t0 H.1.p0_29, gP_of H.1.t0 H.1.p0_30, gP_of H.1.t0 H.1.p0_31, gP_of H.1.t0 H.1.p0_32, gP_of H.1.t0 H.1.p0_33, gP_of H.1.t0 H.1.p0_40, gP_of H.1.t0 H.1.p0_41, gP_of H.1.t0 H.1.p0_46, gP_of H.1.t0 H.1.p0_47, gP_of H.1.t0 H.1.p0_48, isRow_bad h1]
  · cases hn : R.1 r with
    | none =>
      refine ⟨-3, R, T, fnd F 1, h, K, hw, fun μ a H => XO.find H (by decide) ?_, fun μ c H => MO.find H (by decide) ?_⟩
      · simp (config := { decide := true }) only [↓reduceIte, Option.bind_some, Option.bind_none, f_X11_mean, H.1.t0, gP_of H.1.t0 H.1.p0_0, gP_of H.1.t0 H.1.p0_1, gP_of H.1.t0 H.1.p0_2, gP_of H.1.t0 H.1.p0_3, gP_of H.1.t0 H.1.p0_4, gP_of H.1.t0 H.1.p0_5, gP_of H.1.t0 H.1.p0_6, gP_of H.1.t0 H.1.p0_7, gP_of H.1.t0 H.1.p0_8, gP_of H.1.t0 H.1.p0_9, H.1.fr.refuse_no H.1 hr ((H.2.1 r hr).1.trans (by rw [hn]; rfl))]
      · simp (config := { decide := true }) only [↓reduceIte, Option.bind_some, Option.bind_none, f_X12_mean, H.1.t0, gP_of H.1.t0 H.1.p0_1, gP_of H.1.t0 H.1.p0_5, gP_of H.1.t0 H.1.p0_6, gP_of H.1.t0 H.1.p0_7, gP_of H.1.t0 H.1.p0_8, gP_of H.1.t0 H.1.p0_9, gP_of H.1.t0 H.1.p0_14, gP_of H.1.t0 H.1.p0_15, gP_of H.1.t0 H.1.p0_21, gP_of H.1.t0 H.1.p0_22, gP_of H.1.t0 H.1.p0_23, gP_of H.1.t0 H.1.p0_24, gP_of H.1.t0 H.1.p0_26, gP_of H.1.t0 H.1.p0_27, gP_of H.1.t0 H.1.p0_28, gP_of H.1.t0 H.1.p0_29, gP_of H.1.t0 H.1.p0_30, gP_of H.1.t0 H.1.p0_31, gP_of H.1.t0 H.1.p0_32, gP_of H.1.t0 H.1.p0_33, gP_of H.1.t0 H.1.p0_40, gP_of H.1.t0 H.1.p0_41, gP_of H.1.t0 H.1.p0_46, gP_of H.1.t0 H.1.p0_47, gP_of H.1.t0 H.1.p0_48, isRow_ok hr, m_rl H hr, hn, en_no, mf1 H.1]
    | some n =>
      have hn4 : n ≤ 40 := hw.1 r hr n hn
      have h0 : (0 : Int32) ≤ nI n := i_pos (by omega)
      by_cases hz0 : n = 0
      · subst hz0
        refine ⟨-3, R, T, fnd F 4, h, K, hw, fun μ a H => XO.find H (by decide) ?_, fun μ c H => MO.find H (by decide) ?_⟩
        · obtain ⟨k1, k2, k3, k4, k5⟩ := H.1.row hr
          have hs : mI μ (a + 33 + 2 * r) 1 = nI 0 := (H.2.1 r hr).1.trans (by rw [hn]; rfl)
          simp (config := { decide := true }) only [↓reduceIte, Option.bind_some, Option.bind_none, f_X11_mean, H.1.t0, gP_of H.1.t0 H.1.p0_0, gP_of H.1.t0 H.1.p0_1, gP_of H.1.t0 H.1.p0_2, gP_of H.1.t0 H.1.p0_3, gP_of H.1.t0 H.1.p0_4, gP_of H.1.t0 H.1.p0_5, gP_of H.1.t0 H.1.p0_6, gP_of H.1.t0 H.1.p0_7, gP_of H.1.t0 H.1.p0_8, gP_of H.1.t0 H.1.p0_9, H.1.fr.refuse_ok H.1 hr hs (show 0 < 2 ^ 31 by decide), H.1.fr.get hr, gI_of k2, hs, show nI 0 = 0 from rfl, xf4 H.1]
        · simp (config := { decide := true }) only [↓reduceIte, Option.bind_some, Option.bind_none, f_X12_mean, H.1.t0, gP_of H.1.t0 H.1.p0_1, gP_of H.1.t0 H.1.p0_5, gP_of H.1.t0 H.1.p0_6, gP_of H.1.t0 H.1.p0_7, gP_of H.1.t0 H.1.p0_8, gP_of H.1.t0 H.1.p0_9, gP_of H.1.t0 H.1.p0_14, gP_of H.1.t0 H.1.p0_15, gP_of H.1.t0 H.1.p0_21, gP_of H.1.t0 H.1.p0_22, gP_of H.1.t0 H.1.p0_23, gP_of H.1.t0 H.1.p0_24, gP_of H.1.t0 H.1.p0_26, gP_of H.1.t0 H.1.p0_27, gP_of H.1.t0 H.1.p0_28, gP_of H.1.t0 H.1.p0_29, gP_of H.1.t0 H.1.p0_30, gP_of H.1.t0 H.1.p0_31, gP_of H.1.t0 H.1.p0_32, gP_of H.1.t0 H.1.p0_33, gP_of H.1.t0 H.1.p0_40, gP_of H.1.t0 H.1.p0_41, gP_of H.1.t0 H.1.p0_46, gP_of H.1.t0 H.1.p0_47, gP_of H.1.t0 H.1.p0_48, isRow_ok hr, m_rl H hr, hn, en_some, h0, show nI 0 = 0 from rfl, mf4 H.1]
      · have hne : ¬ nI n = 0 := nI_ne0 (by omega) (by omega)
        have hne2 : ¬ (nI n).toInt64 = 0 := fun q => hne (by
          have := congrArg Int64.toInt q
          rw [Int32.toInt_toInt64] at this
          exact Int32.toInt_inj.mp (this.trans rfl))
        refine ⟨1, R, T, tel F (sm64 (R.2 r) n / (nI n).toInt64).toInt32, h, K, hw, fun μ a H => XO.tell H ?_, fun μ c H => MO.tell H ?_⟩
        · obtain ⟨k1, k2, k3, k4, k5⟩ := H.1.row hr
          have hs : mI μ (a + 33 + 2 * r) 1 = nI n := (H.2.1 r hr).1.trans (by rw [hn]; rfl)
          have e := s_total_l (g := R.2 r) k2 k3 k4 hs (by omega) (by omega) (fun i hi => (H.2.1 r hr).2 n hn i hi) BIG 0 (by omega) (by unfold BIG; omega)
          have e' : lp_X8_total_4 BIG (a + 33 + 2 * r) 0 0 μ = some (sm64 (R.2 r) n) := e
          simp (config := { decide := true }) only [↓reduceIte, Option.bind_some, Option.bind_none, f_X11_mean, H.1.t0, gP_of H.1.t0 H.1.p0_0, gP_of H.1.t0 H.1.p0_1, gP_of H.1.t0 H.1.p0_2, gP_of H.1.t0 H.1.p0_3, gP_of H.1.t0 H.1.p0_4, gP_of H.1.t0 H.1.p0_5, gP_of H.1.t0 H.1.p0_6, gP_of H.1.t0 H.1.p0_7, gP_of H.1.t0 H.1.p0_8, gP_of H.1.t0 H.1.p0_9, H.1.fr.refuse_ok H.1 hr hs (show n < 2 ^ 31 by omega), H.1.fr.get hr, gI_of k2, hs, hne, hne2, f_X8_total, k2, e', x_tell H.1]
        · have e := m_mean_l H hr hn hn4 BIG 0 (by omega) (by unfold BIG; omega)
          have e' : lp_X12_mean_44 BIG c (nI r) 0 0 μ = some (sm64 (R.2 r) n) := e
          simp (config := { decide := true }) only [↓reduceIte, Option.bind_some, Option.bind_none, f_X12_mean, H.1.t0, gP_of H.1.t0 H.1.p0_1, gP_of H.1.t0 H.1.p0_5, gP_of H.1.t0 H.1.p0_6, gP_of H.1.t0 H.1.p0_7, gP_of H.1.t0 H.1.p0_8, gP_of H.1.t0 H.1.p0_9, gP_of H.1.t0 H.1.p0_14, gP_of H.1.t0 H.1.p0_15, gP_of H.1.t0 H.1.p0_21, gP_of H.1.t0 H.1.p0_22, gP_of H.1.t0 H.1.p0_23, gP_of H.1.t0 H.1.p0_24, gP_of H.1.t0 H.1.p0_26, gP_of H.1.t0 H.1.p0_27, gP_of H.1.t0 H.1.p0_28, gP_of H.1.t0 H.1.p0_29, gP_of H.1.t0 H.1.p0_30, gP_of H.1.t0 H.1.p0_31, gP_of H.1.t0 H.1.p0_32, gP_of H.1.t0 H.1.p0_33, gP_of H.1.t0 H.1.p0_40, gP_of H.1.t0 H.1.p0_41, gP_of H.1.t0 H.1.p0_46, gP_of H.1.t0 H.1.p0_47, gP_of H.1.t0 H.1.p0_48, isRow_ok hr, m_rl H hr, hn, en_some, h0, hne, hne2, e', m_tell H.1]
