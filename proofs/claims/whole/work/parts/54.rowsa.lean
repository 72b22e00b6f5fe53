/-! ===== lay ===== -/
theorem xf1 {μ : Mm} {a : Nat} (hL : LX μ a) : f_X11_find μ a 1 = some (-3, xfind μ a 1) := x_find hL (by decide)
theorem mf1 {μ : Mm} {c : Nat} (hL : LM μ c) : f_X12_meets μ c 1 = some (-3, mfind μ c 1) := m_find hL (by decide)
theorem xf2 {μ : Mm} {a : Nat} (hL : LX μ a) : f_X11_find μ a 2 = some (-3, xfind μ a 2) := x_find hL (by decide)
theorem mf2 {μ : Mm} {c : Nat} (hL : LM μ c) : f_X12_meets μ c 2 = some (-3, mfind μ c 2) := m_find hL (by decide)
theorem xf3 {μ : Mm} {a : Nat} (hL : LX μ a) : f_X11_find μ a 3 = some (-3, xfind μ a 3) := x_find hL (by decide)
theorem mf3 {μ : Mm} {c : Nat} (hL : LM μ c) : f_X12_meets μ c 3 = some (-3, mfind μ c 3) := m_find hL (by decide)
theorem xf4 {μ : Mm} {a : Nat} (hL : LX μ a) : f_X11_find μ a 4 = some (-3, xfind μ a 4) := x_find hL (by decide)
theorem mf4 {μ : Mm} {c : Nat} (hL : LM μ c) : f_X12_meets μ c 4 = some (-3, mfind μ c 4) := m_find hL (by decide)
theorem xf5 {μ : Mm} {a : Nat} (hL : LX μ a) : f_X11_find μ a 5 = some (-3, xfind μ a 5) := x_find hL (by decide)
theorem mf5 {μ : Mm} {c : Nat} (hL : LM μ c) : f_X12_meets μ c 5 = some (-3, mfind μ c 5) := m_find hL (by decide)
theorem pred1 {n : Nat} (h : 0 < n) : nI n - 1 = nI (n - 1) := by
  obtain ⟨m, rfl⟩ : ∃ m, n = m + 1 := ⟨n - 1, by omega⟩
  exact nI_pred m
/-! ===== lay, at, tear, mean ===== -/
theorem m_in_last {μ : Mm} {p : Int32} {n : Nat} (hn : n < 2 ^ 31) (hp : Out p n) : f_X12_in μ p 0 (nI n - 1) = some 0 := by
  by_cases h0 : n = 0
  · subst h0
    unfold f_X12_in
    rcases hp with hp | ⟨hp, hq⟩
    · rw [if_pos hp]
    · rw [if_neg hp, if_pos (show nI 0 - 1 < p from ?_)]
      have := i_nn hp
      rw [Int32.le_iff_toInt_le] at this
      rw [Int32.lt_iff_toInt_lt]
      have e1 : (0 : Int32).toInt = 0 := rfl
      have e2 : (nI 0 - 1).toInt = -1 := rfl
      omega
  · rw [pred1 (by omega)]
    exact m_in_bad hp (by omega) hn
theorem m_in_last1 {μ : Mm} {i n : Nat} (hi : i < n) (hn : n < 2 ^ 31) : f_X12_in μ (nI i) 0 (nI n - 1) = some 1 := by
  rw [pred1 (by omega)]
  exact m_in_ok hi hn
theorem m_rl {R T : GR} {F : GF} {h : GH} {K : GK} {μ : Mm} {c r : Nat} (H : MI R T F h K μ c) (hr : r < 6) : aI μ (c + 2) 21 (nI r) = some (en (R.1 r)) := by
  rw [aI_of H.1.t2 (by rw [H.1.n2]; exact hr) (by omega), (H.2.1 r hr).1]
theorem m_rowAt {R T : GR} {F : GF} {h : GH} {K : GK} {μ : Mm} {c r n i : Nat} (H : MI R T F h K μ c) (hr : r < 6) (hn : R.1 r = some n) (hi : i < n) (hn4 : n ≤ 40) : f_X12_rowAt μ c (nI r) (nI i) = some (R.2 r i) := by
  unfold f_X12_rowAt
  rw [if_pos H.1.t0, gP_of H.1.t0 H.1.p0_6, Option.bind_some, ix40, aI_of H.1.t3 (show 40 * r + i < ln μ (c + 3) by rw [H.1.n3]; omega) (show 40 * r + i < 2 ^ 31 by omega), (H.2.1 r hr).2 n hn i hi]
  rfl
theorem s_replace_ok {μ : Mm} {s c n i : Nat} {v : Int32} (ht : tg μ s = 9) (hp : mP μ s 0 = some c) (hc : tg μ c = 21) (hs : mI μ s 1 = nI n) (hn : n ≤ ln μ c) (hn2 : n < 2 ^ 31) (hi : i < n) : f_X8_replace μ s (nI i) v = some (mI μ c i, sI μ c i v) := by
  unfold f_X8_replace
  rw [if_pos ht, s_has_ok ht hs hn2 hi, Option.bind_some, if_neg (by decide), gP_of ht hp, Option.bind_some, aI_of hc (by omega) (by omega), Option.bind_some, Option.bind_some, qI_of hc (by omega) (by omega)]
  rfl
theorem rset_one {R T : GR} {F : GF} {h : GH} {K : GK} {μ : Mm} {a r n i : Nat} {v : Int32} (H : XI R T F h K μ a) (hr : r < 6) (hn : R.1 r = some n) : XI (setr R r (some n) (upd (R.2 r) i v)) T F h K (sI μ (a + 34 + 2 * r) i v) a := by
  refine H.rset hr (fun b h1 h2 _ => (Sm.rf μ b).sI h2) H.1 ?_ ?_ (Nat.le_refl _)
  · rw [mI_ne (by omega), (H.2.1 r hr).1, hn]
  · intro m hm j hj
    cases hm
    by_cases e : j = i
    · subst e; rw [mI_eq, pk_us]
    · rw [mI_nk e, pk_un e]; exact (H.2.1 r hr).2 n hn j hj
theorem mset_one {R T : GR} {F : GF} {h : GH} {K : GK} {μ : Mm} {c r n i : Nat} {v : Int32} (H : MI R T F h K μ c) (hw : WR R) (hr : r < 6) (hn : R.1 r = some n) (hi : i < 40) : MI (setr R r (some n) (upd (R.2 r) i v)) T F h K (sI μ (c + 3) (40 * r + i) v) c := by
  have hn4 := hw r hr n hn
  refine H.rset hw hr (fun b h1 h2 h3 => Or.inl ((Sm.rf μ b).sI h2)) H.1 ?_ ?_ ?_ ?_
  · rw [mI_ne (by omega), (H.2.1 r hr).1, hn]
  · intro s hs; rw [mI_ne (by omega)]
  · intro m hm j hj
    cases hm
    by_cases e : j = i
    · subst e; rw [mI_eq, pk_us]
    · rw [mI_nk (by omega), pk_un e]; exact (H.2.1 r hr).2 n hn j hj
  · intro s j hs hj
    exact mI_nk (by omega)
theorem PSI_lay : PS_lay INV := by
  intro μ a1 a2 q1 q2 q3 hI
  refine both_of (fx := fun μ a => f_X11_lay μ a q1 q2 q3) (fm := fun μ c => f_X12_lay μ c q1 q2 q3) ?_ μ a1 a2 hI
  intro R T F h K hw
  have hx0 : ∀ μ a, LX μ a → ∀ (v : Int32) (μ' : Mm), v ≠ 0 → f_X11_refusePlace μ a (a + 1) q1 q2 = some (v, μ') → f_X11_lay μ a q1 q2 q3 = some (v, μ') := fun μ a hL v μ' hv e => by
    unfold f_X11_lay
    rw [if_pos hL.t0, gP_of hL.t0 hL.p0_0, Option.bind_some, e, Option.bind_some, if_neg hv]
  rcases ix2 q1 6 (by decide) with h1 | ⟨r, hr, rfl⟩
  · refine ⟨-1, R, T, F, h, K, hw, fun μ a H => XO.same H (hx0 μ a H.1 _ _ (by decide) (H.1.fr.place_bad H.1 h1)), fun μ c H => MO.same H ?_⟩
    show f_X12_lay μ c q1 q2 q3 = _
    unfold f_X12_lay
    rw [if_pos H.1.t0, isRow_bad h1, Option.bind_some, if_pos rfl]
  · cases hn : R.1 r with
    | none =>
      refine ⟨-3, R, T, fnd F 1, h, K, hw, fun μ a H => XO.find H (by decide) (hx0 μ a H.1 _ _ (by decide) (H.1.fr.place_no H.1 hr ((H.2.1 r hr).1.trans (by rw [hn]; rfl)))), fun μ c H => MO.find H (by decide) ?_⟩
      show f_X12_lay μ c (nI r) q2 q3 = _
      unfold f_X12_lay
      rw [if_pos H.1.t0, isRow_ok hr, Option.bind_some, if_neg (by decide), gP_of H.1.t0 H.1.p0_5, Option.bind_some, m_rl H hr, hn, Option.bind_some, if_neg (show ¬ 0 ≤ en none by decide)]
      show (f_X12_meets μ c (nI 1)).bind _ = _
      rw [m_find H.1 (by decide)]
      rfl
    | some n =>
      have hn4 : n ≤ 40 := hw.1 r hr n hn
      have hm0 : ∀ μ c, MI R T F h K μ c → f_X12_lay μ c (nI r) q2 q3 = (f_X12_in μ q2 0 (nI n - 1)).bind fun x8 => if x8 = 0 then (f_X12_meets μ c 2).bind fun x14 => some (x14.1, x14.2) else (f_X12_rowAt μ c (nI r) q2).bind fun x10 => (gP μ c 13 6).bind fun x11 => (qI μ x11 21 (((40 : Int32) * nI r) + q2) q3).bind fun x12 => (f_X12_tells x12 c x10 1).bind fun x13 => some (x13.1, x13.2) := fun μ c H => by
        have h0 : (0 : Int32) ≤ nI n := i_pos (by omega)
        simp (config := { decide := true }) only [↓reduceIte, Option.bind_some, Option.bind_none, f_X12_lay, H.1.t0, isRow_ok hr, gP_of H.1.t0 H.1.p0_5, m_rl H hr, hn, en_some, h0]
      rcases ix2 q2 n (by omega) with h2 | ⟨i, hi, rfl⟩
      · refine ⟨-3, R, T, fnd F 2, h, K, hw, fun μ a H => XO.find H (by decide) (hx0 μ a H.1 _ _ (by decide) (H.1.fr.place_out H.1 hr ((H.2.1 r hr).1.trans (by rw [hn]; rfl)) (by omega) h2)), fun μ c H => MO.find H (by decide) ?_⟩
        show f_X12_lay μ c (nI r) q2 q3 = _
        rw [hm0 μ c H, m_in_last (by omega) h2, Option.bind_some, if_pos rfl]
        show (f_X12_meets μ c (nI 2)).bind _ = _
        rw [m_find H.1 (by decide)]
        rfl
      · refine ⟨1, setr R r (some n) (upd (R.2 r) i q3), T, tel F (R.2 r i), h, K, ⟨hw.1.set (fun m hm => by cases hm; exact hn4), hw.2⟩, fun μ a H => ⟨sI (sI μ (a + 34 + 2 * r) i q3) a 11 (R.2 r i), ?_, (rset_one H hr hn).tell, fun b _ _ => ((Sm.rf μ b).sI (by omega)).sI (by omega), Nat.le_refl _⟩, fun μ c H => ⟨sI (sI μ (c + 3) (40 * r + i) q3) c 2 (R.2 r i), ?_, (mset_one H hw.1 hr hn (by omega)).tell, fun b _ => ((Sm.rf μ b).sI (by omega)).sI (by omega), Nat.le_refl _⟩⟩
        · obtain ⟨k1, k2, k3, k4, k5⟩ := H.1.row hr
          show f_X11_lay μ a (nI r) (nI i) q3 = _
          unfold f_X11_lay
          have hs : mI μ (a + 33 + 2 * r) 1 = nI n := (H.2.1 r hr).1.trans (by rw [hn]; rfl)
          simp (config := { decide := true }) only [↓reduceIte, Option.bind_some, Option.bind_none, H.1.t0, gP_of H.1.t0 H.1.p0_0, H.1.fr.place_ok H.1 hr hs (show n < 2 ^ 31 by omega) hi, H.1.fr.get hr, s_replace_ok k2 k3 k4 hs (show n ≤ ln μ (a + 34 + 2 * r) by omega) (show n < 2 ^ 31 by omega) hi, (H.2.1 r hr).2 n hn i hi, x_tell (show LX (sI μ (a + 34 + 2 * r) i q3) a from H.1)]
        · show f_X12_lay μ c (nI r) (nI i) q3 = _
          rw [hm0 μ c H, m_in_last1 hi (by omega), Option.bind_some, if_neg (by decide), m_rowAt H hr hn hi hn4, Option.bind_some, gP_of H.1.t0 H.1.p0_6, Option.bind_some, ix40, qI_of H.1.t3 (show 40 * r + i < ln μ (c + 3) by rw [H.1.n3]; omega) (show 40 * r + i < 2 ^ 31 by omega), Option.bind_some, m_tell (show LM (sI μ (c + 3) (40 * r + i) q3) c from H.1)]
          rfl
