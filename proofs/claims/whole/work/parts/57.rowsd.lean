/-! ===== text, put ===== -/
theorem m_tl {R T : GR} {F : GF} {h : GH} {K : GK} {μ : Mm} {c r : Nat} (H : MI R T F h K μ c) (hr : r < 4) : aI μ (c + 5) 21 (nI r) = some (en (T.1 r)) := by
  rw [aI_of H.1.t5 (by rw [H.1.n5]; exact hr) (by omega), (H.2.2.1 r hr).1]
theorem m_text_l {μ : Mm} {c r : Nat} {q : Int32} {g : Nat → Int32} (hL : LM μ c) (hr : r < 4) : ∀ (f k : Nat), k ≤ 60 → 60 < k + f → lp_X12_text_34 f c (nI r) q (nI k) (sR μ (c + 6) (filr g (60 * r) k 32)) = some (sR μ (c + 6) (filr g (60 * r) 60 32)) := by
  intro f
  induction f with
  | zero => intro k h1 h2; omega
  | succ f ih =>
    intro k h1 h2
    have hL' : LM (sR μ (c + 6) (filr g (60 * r) k 32)) c := hL
    by_cases hk : k = 60
    · subst hk
      have e : (60 : Int32) ≤ nI 60 := Int32.le_refl _
      simp (config := { decide := true }) only [↓reduceIte, Option.bind_some, Option.bind_none, lp_X12_text_34, e]
    · have e : ¬ (60 : Int32) ≤ nI k := (show ¬ nI 60 ≤ nI k from nI_ge (by omega) (by decide))
      simp (config := { decide := true }) only [↓reduceIte, Option.bind_some, Option.bind_none, lp_X12_text_34, e, gP_of hL'.t0 hL'.p0_9, ix60, qB_of (i := 60 * r + k) hL'.t6 (show 60 * r + k < ln μ (c + 6) by rw [hL.n6]; omega) (show 60 * r + k < 2 ^ 31 by omega)]
      rw [show (32 : Int32).toInt8.toInt32 = 32 by decide, sI_sRg, filr_s, nI_1]
      exact ih (k + 1) (by omega) (by omega)
theorem PSI_text : PS_text INV := by
  intro μ a1 a2 q1 q2 hI
  refine both_of (fx := fun μ a => f_X11_text μ a q1 q2) (fm := fun μ c => f_X12_text μ c q1 q2) ?_ μ a1 a2 hI
  intro R T F h K hw
  rcases ix2 q1 4 (by decide) with h1 | ⟨r, hr, rfl⟩
  · refine ⟨-1, R, T, F, h, K, hw, fun μ a H => XO.same H ?_, fun μ c H => MO.same H ?_⟩
    · simp (config := { decide := true }) only [↓reduceIte, Option.bind_some, Option.bind_none, f_X11_text, H.1.t0, gP_of H.1.t0 H.1.p0_0, gP_of H.1.t0 H.1.p0_1, gP_of H.1.t0 H.1.p0_2, gP_of H.1.t0 H.1.p0_3, gP_of H.1.t0 H.1.p0_4, gP_of H.1.t0 H.1.p0_5, gP_of H.1.t0 H.1.p0_6, gP_of H.1.t0 H.1.p0_7, gP_of H.1.t0 H.1.p0_8, gP_of H.1.t0 H.1.p0_9, H.1.ft.open_bad H.1 h1]
    · simp (config := { decide := true }) only [↓reduceIte, Option.bind_some, Option.bind_none, f_X12_text, H.1.t0, gP_of H.1.t0 H.1.p0_1, gP_of H.1.t0 H.1.p0_5, gP_of H.1.t0 H.1.p0_6, gP_of H.1.t0 H.1.p0_7, gP_of H.1.t0 H.1.p0_8, gP_of H.1.t0 H.1.p0_9, gP_of H.1.t0 H.1.p0_14, gP_of H.1.t0 H.1.p0_15, gP_of H.1.t0 H.1.p0_21, gP_of H.1.t0 H.1.p0_22, gP_of H.1.t0 H.1.p0_23, gP_of H.1.t0 H.1.p0_24, gP_of H.1.t0 H.1.p0_26, gP_of H.1.t0 H.1.p0_27, gP_of H.1.t0 H.1.p0_28, gP_of H.1.t0 H.1.p0_29, gP_of H.1.t0 H.1.p0_30, gP_of H.1.t0 H.1.p0_31, gP_of H.1.t0 H.1.p0_32, gP_of H.1.t0 H.1.p0_33, gP_of H.1.t0 H.1.p0_40, gP_of H.1.t0 H.1.p0_41, gP_of H.1.t0 H.1.p0_46, gP_of H.1.t0 H.1.p0_47, gP_of H.1.t0 H.1.p0_48, isText_bad h1]
  rcases ix3 q2 61 (by decide) with h2 | ⟨h2, h3⟩ | ⟨n, hn, rfl⟩
  · refine ⟨-3, R, T, fnd F 5, h, K, hw, fun μ a H => XO.find H (by decide) ?_, fun μ c H => MO.find H (by decide) ?_⟩
    · simp (config := { decide := true }) only [↓reduceIte, Option.bind_some, Option.bind_none, f_X11_text, H.1.t0, gP_of H.1.t0 H.1.p0_0, gP_of H.1.t0 H.1.p0_1, gP_of H.1.t0 H.1.p0_2, gP_of H.1.t0 H.1.p0_3, gP_of H.1.t0 H.1.p0_4, gP_of H.1.t0 H.1.p0_5, gP_of H.1.t0 H.1.p0_6, gP_of H.1.t0 H.1.p0_7, gP_of H.1.t0 H.1.p0_8, gP_of H.1.t0 H.1.p0_9, H.1.ft.open_neg H.1 hr h2]
    · have e : q2 ≤ 60 := i_neg_le (n := 60) h2 (by decide)
      simp (config := { decide := true }) only [↓reduceIte, Option.bind_some, Option.bind_none, f_X12_text, H.1.t0, gP_of H.1.t0 H.1.p0_1, gP_of H.1.t0 H.1.p0_5, gP_of H.1.t0 H.1.p0_6, gP_of H.1.t0 H.1.p0_7, gP_of H.1.t0 H.1.p0_8, gP_of H.1.t0 H.1.p0_9, gP_of H.1.t0 H.1.p0_14, gP_of H.1.t0 H.1.p0_15, gP_of H.1.t0 H.1.p0_21, gP_of H.1.t0 H.1.p0_22, gP_of H.1.t0 H.1.p0_23, gP_of H.1.t0 H.1.p0_24, gP_of H.1.t0 H.1.p0_26, gP_of H.1.t0 H.1.p0_27, gP_of H.1.t0 H.1.p0_28, gP_of H.1.t0 H.1.p0_29, gP_of H.1.t0 H.1.p0_30, gP_of H.1.t0 H.1.p0_31, gP_of H.1.t0 H.1.p0_32, gP_of H.1.t0 H.1.p0_33, gP_of H.1.t0 H.1.p0_40, gP_of H.1.t0 H.1.p0_41, gP_of H.1.t0 H.1.p0_46, gP_of H.1.t0 H.1.p0_47, gP_of H.1.t0 H.1.p0_48, isText_ok hr, e, i_neg h2, mf5 H.1]
  · refine ⟨-1, R, T, F, h, K, hw, fun μ a H => XO.same H ?_, fun μ c H => MO.same H ?_⟩
    · simp (config := { decide := true }) only [↓reduceIte, Option.bind_some, Option.bind_none, f_X11_text, H.1.t0, gP_of H.1.t0 H.1.p0_0, gP_of H.1.t0 H.1.p0_1, gP_of H.1.t0 H.1.p0_2, gP_of H.1.t0 H.1.p0_3, gP_of H.1.t0 H.1.p0_4, gP_of H.1.t0 H.1.p0_5, gP_of H.1.t0 H.1.p0_6, gP_of H.1.t0 H.1.p0_7, gP_of H.1.t0 H.1.p0_8, gP_of H.1.t0 H.1.p0_9, H.1.ft.open_big H.1 hr h3]
    · have e : ¬ q2 ≤ 60 := i_big (m := 60) h3 (by decide) (by decide)
      simp (config := { decide := true }) only [↓reduceIte, Option.bind_some, Option.bind_none, f_X12_text, H.1.t0, gP_of H.1.t0 H.1.p0_1, gP_of H.1.t0 H.1.p0_5, gP_of H.1.t0 H.1.p0_6, gP_of H.1.t0 H.1.p0_7, gP_of H.1.t0 H.1.p0_8, gP_of H.1.t0 H.1.p0_9, gP_of H.1.t0 H.1.p0_14, gP_of H.1.t0 H.1.p0_15, gP_of H.1.t0 H.1.p0_21, gP_of H.1.t0 H.1.p0_22, gP_of H.1.t0 H.1.p0_23, gP_of H.1.t0 H.1.p0_24, gP_of H.1.t0 H.1.p0_26, gP_of H.1.t0 H.1.p0_27, gP_of H.1.t0 H.1.p0_28, gP_of H.1.t0 H.1.p0_29, gP_of H.1.t0 H.1.p0_30, gP_of H.1.t0 H.1.p0_31, gP_of H.1.t0 H.1.p0_32, gP_of H.1.t0 H.1.p0_33, gP_of H.1.t0 H.1.p0_40, gP_of H.1.t0 H.1.p0_41, gP_of H.1.t0 H.1.p0_46, gP_of H.1.t0 H.1.p0_47, gP_of H.1.t0 H.1.p0_48, isText_ok hr, e]
  · refine ⟨nI n, R, setr T r (some n) (fun _ => 32), F, h, K, ⟨hw.1, hw.2.1.set (fun m hm => by cases hm; omega), hw.2.2⟩, fun μ a H => ⟨sR (sI μ (a + 45 + 2 * r) 1 (nI n)) (a + 46 + 2 * r) (fil (mI μ (a + 46 + 2 * r)) n 32), by
        show f_X11_text μ a (nI r) (nI n) = _
        simp (config := { decide := true }) only [↓reduceIte, Option.bind_some, Option.bind_none, f_X11_text, H.1.t0, gP_of H.1.t0 H.1.p0_0, gP_of H.1.t0 H.1.p0_1, gP_of H.1.t0 H.1.p0_2, gP_of H.1.t0 H.1.p0_3, gP_of H.1.t0 H.1.p0_4, gP_of H.1.t0 H.1.p0_5, gP_of H.1.t0 H.1.p0_6, gP_of H.1.t0 H.1.p0_7, gP_of H.1.t0 H.1.p0_8, gP_of H.1.t0 H.1.p0_9, H.1.ft.open_ok H.1 hr (show n ≤ 60 by omega)], H.tset hr (fun b h1 h2 _ => ((Sm.rf μ b).sI h1).sR h2) H.1 ?_ ?_ (Nat.le_refl _), fun b _ _ => ((Sm.rf μ b).sI (by omega)).sR (by omega), Nat.le_refl _⟩, fun μ c H => ⟨sR (sI μ (c + 5) r (nI n)) (c + 6) (filr (mI μ (c + 6)) (60 * r) 60 32), ?_, H.tset hw.2.1 hr (fun b h1 h2 => ((Sm.rf μ b).sI h1).sR h2) H.1 ?_ ?_ ?_ ?_, fun b _ => ((Sm.rf μ b).sI (by omega)).sR (by omega), Nat.le_refl _⟩⟩
    · rw [mR_ne (by omega), mI_eq, en_some]
    · intro m hm i hi
      cases hm
      rw [mR_eq]
      exact if_pos hi
    · have e := m_text_l (μ := sI μ (c + 5) r (nI n)) (q := nI n) (g := mI μ (c + 6)) H.1 hr BIG 0 (by decide) (by unfold BIG; omega)
      rw [filr_0] at e
      have e0 : sR (sI μ (c + 5) r (nI n)) (c + 6) (mI μ (c + 6)) = sI μ (c + 5) r (nI n) := by
        have : mI μ (c + 6) = mI (sI μ (c + 5) r (nI n)) (c + 6) := funext fun j => (mI_ne (by omega)).symm
        rw [this, sR_self]
      rw [e0] at e
      have e' : lp_X12_text_34 BIG c (nI r) (nI n) 0 _ = _ := e
      have u1 : nI n ≤ 60 := (show nI n ≤ nI 60 from nI_le (by omega) (by decide))
      have u2 : 0 ≤ nI n := i_pos (by omega)
      simp (config := { decide := true }) only [↓reduceIte, Option.bind_some, Option.bind_none, f_X12_text, H.1.t0, gP_of H.1.t0 H.1.p0_1, gP_of H.1.t0 H.1.p0_5, gP_of H.1.t0 H.1.p0_6, gP_of H.1.t0 H.1.p0_7, gP_of H.1.t0 H.1.p0_8, gP_of H.1.t0 H.1.p0_9, gP_of H.1.t0 H.1.p0_14, gP_of H.1.t0 H.1.p0_15, gP_of H.1.t0 H.1.p0_21, gP_of H.1.t0 H.1.p0_22, gP_of H.1.t0 H.1.p0_23, gP_of H.1.t0 H.1.p0_24, gP_of H.1.t0 H.1.p0_26, gP_of H.1.t0 H.1.p0_27, gP_of H.1.t0 H.1.p0_28, gP_of H.1.t0 H.1.p0_29, gP_of H.1.t0 H.1.p0_30, gP_of H.1.t0 H.1.p0_31, gP_of H.1.t0 H.1.p0_32, gP_of H.1.t0 H.1.p0_33, gP_of H.1.t0 H.1.p0_40, gP_of H.1.t0 H.1.p0_41, gP_of H.1.t0 H.1.p0_46, gP_of H.1.t0 H.1.p0_47, gP_of H.1.t0 H.1.p0_48, isText_ok hr, u1, u2, qI_of H.1.t5 (show r < ln μ (c + 5) by rw [H.1.n5]; exact hr) (show r < 2 ^ 31 by omega), e']
    · rw [mR_ne (by omega), mI_eq, en_some]
    · intro s hs
      rw [mR_ne (by omega), mI_nk hs]
    · intro m hm i hi
      cases hm
      rw [mR_eq]
      exact if_pos (by omega)
    · intro s i hs hi
      rw [mR_eq]
      exact if_neg (by omega)
theorem PSI_put : PS_put INV := by
  intro μ a1 a2 q1 q2 q3 hI
  refine both_of (fx := fun μ a => f_X11_put μ a q1 q2 q3) (fm := fun μ c => f_X12_put μ c q1 q2 q3) ?_ μ a1 a2 hI
  intro R T F h K hw
  rcases ix2 q1 4 (by decide) with h1 | ⟨r, hr, rfl⟩
  · refine ⟨-1, R, T, F, h, K, hw, fun μ a H => XO.same H ?_, fun μ c H => MO.same H ?_⟩
    · simp (config := { decide := true }) only [↓reduceIte, Option.bind_some, Option.bind_none, f_X11_put, H.1.t0, gP_of H.1.t0 H.1.p0_0, gP_of H.1.t0 H.1.p0_1, gP_of H.1.t0 H.1.p0_2, gP_of H.1.t0 H.1.p0_3, gP_of H.1.t0 H.1.p0_4, gP_of H.1.t0 H.1.p0_5, gP_of H.1.t0 H.1.p0_6, gP_of H.1.t0 H.1.p0_7, gP_of H.1.t0 H.1.p0_8, gP_of H.1.t0 H.1.p0_9, H.1.ft.place_bad H.1 h1]
    · simp (config := { decide := true }) only [↓reduceIte, Option.bind_some, Option.bind_none, f_X12_put, H.1.t0, gP_of H.1.t0 H.1.p0_1, gP_of H.1.t0 H.1.p0_5, gP_of H.1.t0 H.1.p0_6, gP_of H.1.t0 H.1.p0_7, gP_of H.1.t0 H.1.p0_8, gP_of H.1.t0 H.1.p0_9, gP_of H.1.t0 H.1.p0_14, gP_of H.1.t0 H.1.p0_15, gP_of H.1.t0 H.1.p0_21, gP_of H.1.t0 H.1.p0_22, gP_of H.1.t0 H.1.p0_23, gP_of H.1.t0 H.1.p0_24, gP_of H.1.t0 H.1.p0_26, gP_of H.1.t0 H.1.p0_27, gP_of H.1.t0 H.1.p0_28, gP_of H.1.t0 H.1.p0_29, gP_of H.1.t0 H.1.p0_30, gP_of H.1.t0 H.1.p0_31, gP_of H.1.t0 H.1.p0_32, gP_of H.1.t0 H.1.p0_33, gP_of H.1.t0 H.1.p0_40, gP_of H.1.t0 H.1.p0_41, gP_of H.1.t0 H.1.p0_46, gP_of H.1.t0 H.1.p0_47, gP_of H.1.t0 H.1.p0_48, isText_bad h1]
  cases hn : T.1 r with
  | none =>
    refine ⟨-3, R, T, fnd F 1, h, K, hw, fun μ a H => XO.find H (by decide) ?_, fun μ c H => MO.find H (by decide) ?_⟩
    · simp (config := { decide := true }) only [↓reduceIte, Option.bind_some, Option.bind_none, f_X11_put, H.1.t0, gP_of H.1.t0 H.1.p0_0, gP_of H.1.t0 H.1.p0_1, gP_of H.1.t0 H.1.p0_2, gP_of H.1.t0 H.1.p0_3, gP_of H.1.t0 H.1.p0_4, gP_of H.1.t0 H.1.p0_5, gP_of H.1.t0 H.1.p0_6, gP_of H.1.t0 H.1.p0_7, gP_of H.1.t0 H.1.p0_8, gP_of H.1.t0 H.1.p0_9, H.1.ft.place_no H.1 hr ((H.2.2.1 r hr).1.trans (by rw [hn]; rfl))]
    · simp (config := { decide := true }) only [↓reduceIte, Option.bind_some, Option.bind_none, f_X12_put, H.1.t0, gP_of H.1.t0 H.1.p0_1, gP_of H.1.t0 H.1.p0_5, gP_of H.1.t0 H.1.p0_6, gP_of H.1.t0 H.1.p0_7, gP_of H.1.t0 H.1.p0_8, gP_of H.1.t0 H.1.p0_9, gP_of H.1.t0 H.1.p0_14, gP_of H.1.t0 H.1.p0_15, gP_of H.1.t0 H.1.p0_21, gP_of H.1.t0 H.1.p0_22, gP_of H.1.t0 H.1.p0_23, gP_of H.1.t0 H.1.p0_24, gP_of H.1.t0 H.1.p0_26, gP_of H.1.t0 H.1.p0_27, gP_of H.1.t0 H.1.p0_28, gP_of H.1.t0 H.1.p0_29, gP_of H.1.t0 H.1.p0_30, gP_of H.1.t0 H.1.p0_31, gP_of H.1.t0 H.1.p0_32, gP_of H.1.t0 H.1.p0_33, gP_of H.1.t0 H.1.p0_40, gP_of H.1.t0 H.1.p0_41, gP_of H.1.t0 H.1.p0_46, gP_of H.1.t0 H.1.p0_47, gP_of H.1.t0 H.1.p0_48, isText_ok hr, m_tl H hr, hn, en_no, mf1 H.1]
  | some n =>
    have hn4 : n ≤ 60 := hw.2.1 r hr n hn
    have h0 : (0 : Int32) ≤ nI n := i_pos (by omega)
    rcases ix2 q2 n (by omega) with h2 | ⟨i, hi, rfl⟩
    · refine ⟨-3, R, T, fnd F 2, h, K, hw, fun μ a H => XO.find H (by decide) ?_, fun μ c H => MO.find H (by decide) ?_⟩
      · simp (config := { decide := true }) only [↓reduceIte, Option.bind_some, Option.bind_none, f_X11_put, H.1.t0, gP_of H.1.t0 H.1.p0_0, gP_of H.1.t0 H.1.p0_1, gP_of H.1.t0 H.1.p0_2, gP_of H.1.t0 H.1.p0_3, gP_of H.1.t0 H.1.p0_4, gP_of H.1.t0 H.1.p0_5, gP_of H.1.t0 H.1.p0_6, gP_of H.1.t0 H.1.p0_7, gP_of H.1.t0 H.1.p0_8, gP_of H.1.t0 H.1.p0_9, H.1.ft.place_out H.1 hr ((H.2.2.1 r hr).1.trans (by rw [hn]; rfl)) (show n < 2 ^ 31 by omega) h2]
      · simp (config := { decide := true }) only [↓reduceIte, Option.bind_some, Option.bind_none, f_X12_put, H.1.t0, gP_of H.1.t0 H.1.p0_1, gP_of H.1.t0 H.1.p0_5, gP_of H.1.t0 H.1.p0_6, gP_of H.1.t0 H.1.p0_7, gP_of H.1.t0 H.1.p0_8, gP_of H.1.t0 H.1.p0_9, gP_of H.1.t0 H.1.p0_14, gP_of H.1.t0 H.1.p0_15, gP_of H.1.t0 H.1.p0_21, gP_of H.1.t0 H.1.p0_22, gP_of H.1.t0 H.1.p0_23, gP_of H.1.t0 H.1.p0_24, gP_of H.1.t0 H.1.p0_26, gP_of H.1.t0 H.1.p0_27, gP_of H.1.t0 H.1.p0_28, gP_of H.1.t0 H.1.p0_29, gP_of H.1.t0 H.1.p0_30, gP_of H.1.t0 H.1.p0_31, gP_of H.1.t0 H.1.p0_32, gP_of H.1.t0 H.1.p0_33, gP_of H.1.t0 H.1.p0_40, gP_of H.1.t0 H.1.p0_41, gP_of H.1.t0 H.1.p0_46, gP_of H.1.t0 H.1.p0_47, gP_of H.1.t0 H.1.p0_48, isText_ok hr, m_tl H hr, hn, en_some, h0, m_in_last (show n < 2 ^ 31 by omega) h2, mf2 H.1]
    · refine ⟨1000 + T.2 r i, R, setr T r (some n) (upd (T.2 r) i q3.toInt8.toInt32), F, h, K, ⟨hw.1, hw.2.1.set (fun m hm => by cases hm; exact hn4), hw.2.2⟩, fun μ a H => ⟨sI μ (a + 46 + 2 * r) i q3.toInt8.toInt32, ?_, ?_, fun b _ _ => (Sm.rf μ b).sI (by omega), Nat.le_refl _⟩, fun μ c H => ⟨sI μ (c + 6) (60 * r + i) q3.toInt8.toInt32, ?_, ?_, fun b _ => (Sm.rf μ b).sI (by omega), Nat.le_refl _⟩⟩
      · obtain ⟨k1, k2, k3, k4, k5⟩ := H.1.text hr
        have hs : mI μ (a + 45 + 2 * r) 1 = nI n := (H.2.2.1 r hr).1.trans (by rw [hn]; rfl)
        simp (config := { decide := true }) only [↓reduceIte, Option.bind_some, Option.bind_none, f_X11_put, H.1.t0, gP_of H.1.t0 H.1.p0_0, gP_of H.1.t0 H.1.p0_1, gP_of H.1.t0 H.1.p0_2, gP_of H.1.t0 H.1.p0_3, gP_of H.1.t0 H.1.p0_4, gP_of H.1.t0 H.1.p0_5, gP_of H.1.t0 H.1.p0_6, gP_of H.1.t0 H.1.p0_7, gP_of H.1.t0 H.1.p0_8, gP_of H.1.t0 H.1.p0_9, H.1.ft.place_ok H.1 hr hs (show n < 2 ^ 31 by omega) hi, H.1.ft.get hr, s_replace_ok k2 k3 k4 hs (show n ≤ ln μ (a + 46 + 2 * r) by omega) (show n < 2 ^ 31 by omega) hi, (H.2.2.1 r hr).2 n hn i hi]
      · refine H.tset hr (fun b h1 h2 _ => (Sm.rf μ b).sI h2) H.1 ?_ ?_ (Nat.le_refl _)
        · rw [mI_ne (by omega), (H.2.2.1 r hr).1, hn]
        · intro m hm j hj
          cases hm
          by_cases e : j = i
          · subst e; rw [mI_eq, pk_us]
          · rw [mI_nk e, pk_un e]; exact (H.2.2.1 r hr).2 n hn j hj
      · have ei : mI μ (c + 6) (60 * r + i) = T.2 r i := (H.2.2.1 r hr).2 n hn i hi
        have ec : q3.toInt8.toInt32.toInt8.toInt32 = q3.toInt8.toInt32 := by simp
        simp (config := { decide := true }) only [↓reduceIte, Option.bind_some, Option.bind_none, f_X12_put, H.1.t0, gP_of H.1.t0 H.1.p0_1, gP_of H.1.t0 H.1.p0_5, gP_of H.1.t0 H.1.p0_6, gP_of H.1.t0 H.1.p0_7, gP_of H.1.t0 H.1.p0_8, gP_of H.1.t0 H.1.p0_9, gP_of H.1.t0 H.1.p0_14, gP_of H.1.t0 H.1.p0_15, gP_of H.1.t0 H.1.p0_21, gP_of H.1.t0 H.1.p0_22, gP_of H.1.t0 H.1.p0_23, gP_of H.1.t0 H.1.p0_24, gP_of H.1.t0 H.1.p0_26, gP_of H.1.t0 H.1.p0_27, gP_of H.1.t0 H.1.p0_28, gP_of H.1.t0 H.1.p0_29, gP_of H.1.t0 H.1.p0_30, gP_of H.1.t0 H.1.p0_31, gP_of H.1.t0 H.1.p0_32, gP_of H.1.t0 H.1.p0_33, gP_of H.1.t0 H.1.p0_40, gP_of H.1.t0 H.1.p0_41, gP_of H.1.t0 H.1.p0_46, gP_of H.1.t0 H.1.p0_47, gP_of H.1.t0 H.1.p0_48, isText_ok hr, m_tl H hr, hn, en_some, h0, m_in_last1 hi (show n < 2 ^ 31 by omega), ix60, aI_of (i := 60 * r + i) H.1.t6 (show 60 * r + i < ln μ (c + 6) by rw [H.1.n6]; omega) (show 60 * r + i < 2 ^ 31 by omega), qB_of (i := 60 * r + i) H.1.t6 (show 60 * r + i < ln μ (c + 6) by rw [H.1.n6]; omega) (show 60 * r + i < 2 ^ 31 by omega), ei, ec]
      · refine H.tset hw.2.1 hr (fun b h1 h2 => (Sm.rf μ b).sI h2) H.1 ?_ ?_ ?_ ?_
        · rw [mI_ne (by omega), (H.2.2.1 r hr).1, hn]
        · intro s hs; rw [mI_ne (by omega)]
        · intro m hm j hj
          cases hm
          by_cases e : j = i
          · subst e; rw [mI_eq, pk_us]
          · rw [mI_nk (by omega), pk_un e]; exact (H.2.2.1 r hr).2 n hn j hj
        · intro s j hs hj
          exact mI_nk (by omega)
