/-! ===== floor, undo, shoe ===== -/
theorem nat11_set2 {μ : Mm} {b f : Nat} {q : Rst} (h : nat11 μ b 0 q) : nat11 (sI μ b 2 (nI f)) b 0 (q.1, q.2.1, f, q.2.2.2.1, q.2.2.2.2.1, q.2.2.2.2.2) := by
  obtain ⟨k0, k1, k2, k3, k4, k5⟩ := h
  refine ⟨(mI_nk (by decide)).trans k0, (mI_nk (by decide)).trans k1, mI_eq, (mI_nk (by decide)).trans k3, (mI_nk (by decide)).trans k4, fun g hg => (mI_nk (by omega)).trans (k5 g hg)⟩
theorem PSI_floor : PS_floor INV := by
  intro μ a1 a2 q1 hI
  refine both_of (fx := fun μ a => f_X11_floor μ a q1) (fm := fun μ c => f_X12_floor μ c q1) ?_ μ a1 a2 hI
  intro R T F h K hw
  have w := hw.2.2.1
  have hl := w.2.2.2.1
  have hn6 := w.1
  rcases ix3 q1 3 (by decide) with h1 | ⟨h1, h2⟩ | ⟨f, hf, rfl⟩
  · refine ⟨-1, R, T, F, h, K, hw, fun μ a H => XO.same H ?_, fun μ c H => MO.same H ?_⟩
    · simp (config := { decide := true }) only [↓reduceIte, Option.bind_some, Option.bind_none, f_X11_floor, H.1.t0, gP_of H.1.t0 H.1.p0_0, gP_of H.1.t0 H.1.p0_1, gP_of H.1.t0 H.1.p0_2, gP_of H.1.t0 H.1.p0_3, gP_of H.1.t0 H.1.p0_4, gP_of H.1.t0 H.1.p0_5, gP_of H.1.t0 H.1.p0_6, gP_of H.1.t0 H.1.p0_7, gP_of H.1.t0 H.1.p0_8, gP_of H.1.t0 H.1.p0_9, h1]
    · simp (config := { decide := true }) only [↓reduceIte, Option.bind_some, Option.bind_none, f_X12_floor, H.1.t0, gP_of H.1.t0 H.1.p0_1, gP_of H.1.t0 H.1.p0_5, gP_of H.1.t0 H.1.p0_6, gP_of H.1.t0 H.1.p0_7, gP_of H.1.t0 H.1.p0_8, gP_of H.1.t0 H.1.p0_9, gP_of H.1.t0 H.1.p0_14, gP_of H.1.t0 H.1.p0_15, gP_of H.1.t0 H.1.p0_21, gP_of H.1.t0 H.1.p0_22, gP_of H.1.t0 H.1.p0_23, gP_of H.1.t0 H.1.p0_24, gP_of H.1.t0 H.1.p0_26, gP_of H.1.t0 H.1.p0_27, gP_of H.1.t0 H.1.p0_28, gP_of H.1.t0 H.1.p0_29, gP_of H.1.t0 H.1.p0_30, gP_of H.1.t0 H.1.p0_31, gP_of H.1.t0 H.1.p0_32, gP_of H.1.t0 H.1.p0_33, gP_of H.1.t0 H.1.p0_40, gP_of H.1.t0 H.1.p0_41, gP_of H.1.t0 H.1.p0_46, gP_of H.1.t0 H.1.p0_47, gP_of H.1.t0 H.1.p0_48, f_X12_in, h1]
  · have e1 : ¬ q1 ≤ 2 := i_big (m := 2) h2 (by decide) (by decide)
    have e2 : 2 < q1 := i_big' (m := 2) h2 (by decide) (by decide)
    refine ⟨-1, R, T, F, h, K, hw, fun μ a H => XO.same H ?_, fun μ c H => MO.same H ?_⟩
    · simp (config := { decide := true }) only [↓reduceIte, Option.bind_some, Option.bind_none, f_X11_floor, H.1.t0, gP_of H.1.t0 H.1.p0_0, gP_of H.1.t0 H.1.p0_1, gP_of H.1.t0 H.1.p0_2, gP_of H.1.t0 H.1.p0_3, gP_of H.1.t0 H.1.p0_4, gP_of H.1.t0 H.1.p0_5, gP_of H.1.t0 H.1.p0_6, gP_of H.1.t0 H.1.p0_7, gP_of H.1.t0 H.1.p0_8, gP_of H.1.t0 H.1.p0_9, h1, e1]
    · simp (config := { decide := true }) only [↓reduceIte, Option.bind_some, Option.bind_none, f_X12_floor, H.1.t0, gP_of H.1.t0 H.1.p0_1, gP_of H.1.t0 H.1.p0_5, gP_of H.1.t0 H.1.p0_6, gP_of H.1.t0 H.1.p0_7, gP_of H.1.t0 H.1.p0_8, gP_of H.1.t0 H.1.p0_9, gP_of H.1.t0 H.1.p0_14, gP_of H.1.t0 H.1.p0_15, gP_of H.1.t0 H.1.p0_21, gP_of H.1.t0 H.1.p0_22, gP_of H.1.t0 H.1.p0_23, gP_of H.1.t0 H.1.p0_24, gP_of H.1.t0 H.1.p0_26, gP_of H.1.t0 H.1.p0_27, gP_of H.1.t0 H.1.p0_28, gP_of H.1.t0 H.1.p0_29, gP_of H.1.t0 H.1.p0_30, gP_of H.1.t0 H.1.p0_31, gP_of H.1.t0 H.1.p0_32, gP_of H.1.t0 H.1.p0_33, gP_of H.1.t0 H.1.p0_40, gP_of H.1.t0 H.1.p0_41, gP_of H.1.t0 H.1.p0_46, gP_of H.1.t0 H.1.p0_47, gP_of H.1.t0 H.1.p0_48, f_X12_in, h1, e2]
  have e1 : nI f ≤ 2 := (show nI f ≤ nI 2 from nI_le (by omega) (by decide))
  have e2 : ¬ 2 < nI f := (show ¬ nI 2 < nI f from nI_nlt (by omega) (by decide))
  have e3 : ¬ nI f < 0 := nI_pos (by omega)
  by_cases h0 : h.n = 0
  · refine ⟨-4, R, T, F, h, K, hw, fun μ a H => XO.same H ?_, fun μ c H => MO.same H ?_⟩
    · simp (config := { decide := true }) only [↓reduceIte, Option.bind_some, Option.bind_none, f_X11_floor, H.1.t0, gP_of H.1.t0 H.1.p0_0, gP_of H.1.t0 H.1.p0_1, gP_of H.1.t0 H.1.p0_2, gP_of H.1.t0 H.1.p0_3, gP_of H.1.t0 H.1.p0_4, gP_of H.1.t0 H.1.p0_5, gP_of H.1.t0 H.1.p0_6, gP_of H.1.t0 H.1.p0_7, gP_of H.1.t0 H.1.p0_8, gP_of H.1.t0 H.1.p0_9, e3, e1, x_empty H h0]
    · simp (config := { decide := true }) only [↓reduceIte, Option.bind_some, Option.bind_none, f_X12_floor, H.1.t0, gP_of H.1.t0 H.1.p0_1, gP_of H.1.t0 H.1.p0_5, gP_of H.1.t0 H.1.p0_6, gP_of H.1.t0 H.1.p0_7, gP_of H.1.t0 H.1.p0_8, gP_of H.1.t0 H.1.p0_9, gP_of H.1.t0 H.1.p0_14, gP_of H.1.t0 H.1.p0_15, gP_of H.1.t0 H.1.p0_21, gP_of H.1.t0 H.1.p0_22, gP_of H.1.t0 H.1.p0_23, gP_of H.1.t0 H.1.p0_24, gP_of H.1.t0 H.1.p0_26, gP_of H.1.t0 H.1.p0_27, gP_of H.1.t0 H.1.p0_28, gP_of H.1.t0 H.1.p0_29, gP_of H.1.t0 H.1.p0_30, gP_of H.1.t0 H.1.p0_31, gP_of H.1.t0 H.1.p0_32, gP_of H.1.t0 H.1.p0_33, gP_of H.1.t0 H.1.p0_40, gP_of H.1.t0 H.1.p0_41, gP_of H.1.t0 H.1.p0_46, gP_of H.1.t0 H.1.p0_47, gP_of H.1.t0 H.1.p0_48, f_X12_in, e2, e3, m_hev H, h0, show nI 0 = 0 from rfl]
  have hn0 : ¬ nI h.n = 0 := nI_ne0 (by omega) (by omega)
  by_cases hs : h.q.2.2.1 = f
  · refine ⟨-4, R, T, F, h, K, hw, fun μ a H => XO.same H ?_, fun μ c H => MO.same H ?_⟩
    · simp (config := { decide := true }) only [↓reduceIte, Option.bind_some, Option.bind_none, f_X11_floor, H.1.t0, gP_of H.1.t0 H.1.p0_0, gP_of H.1.t0 H.1.p0_1, gP_of H.1.t0 H.1.p0_2, gP_of H.1.t0 H.1.p0_3, gP_of H.1.t0 H.1.p0_4, gP_of H.1.t0 H.1.p0_5, gP_of H.1.t0 H.1.p0_6, gP_of H.1.t0 H.1.p0_7, gP_of H.1.t0 H.1.p0_8, gP_of H.1.t0 H.1.p0_9, e3, e1, x_full H w h0, x_hev H, hs]
    · simp (config := { decide := true }) only [↓reduceIte, Option.bind_some, Option.bind_none, f_X12_floor, H.1.t0, gP_of H.1.t0 H.1.p0_1, gP_of H.1.t0 H.1.p0_5, gP_of H.1.t0 H.1.p0_6, gP_of H.1.t0 H.1.p0_7, gP_of H.1.t0 H.1.p0_8, gP_of H.1.t0 H.1.p0_9, gP_of H.1.t0 H.1.p0_14, gP_of H.1.t0 H.1.p0_15, gP_of H.1.t0 H.1.p0_21, gP_of H.1.t0 H.1.p0_22, gP_of H.1.t0 H.1.p0_23, gP_of H.1.t0 H.1.p0_24, gP_of H.1.t0 H.1.p0_26, gP_of H.1.t0 H.1.p0_27, gP_of H.1.t0 H.1.p0_28, gP_of H.1.t0 H.1.p0_29, gP_of H.1.t0 H.1.p0_30, gP_of H.1.t0 H.1.p0_31, gP_of H.1.t0 H.1.p0_32, gP_of H.1.t0 H.1.p0_33, gP_of H.1.t0 H.1.p0_40, gP_of H.1.t0 H.1.p0_41, gP_of H.1.t0 H.1.p0_46, gP_of H.1.t0 H.1.p0_47, gP_of H.1.t0 H.1.p0_48, f_X12_in, e2, e3, m_hev H, hn0, hs]
  have hfl := w.fl
  have hs' : ¬ nI h.q.2.2.1 = nI f := fun z => hs ((nI_eq (by omega) (by omega)).mp z)
  have hxr : ∀ μ a, XI R T F h K μ a → f_X3_hasRoomFor μ (a + 3) 1 = some (if 60 < h.sp.length + 1 then 0 else 1) := fun μ a H => x_room1 (m := 1) H hl (by decide)
  by_cases h60 : h.sp.length = 60
  · have e1' : 60 < h.sp.length + 1 := by omega
    refine ⟨-2, R, T, F, h, K, hw, fun μ a H => XO.same H ?_, fun μ c H => MO.same H ?_⟩
    · simp (config := { decide := true }) only [↓reduceIte, Option.bind_some, Option.bind_none, f_X11_floor, H.1.t0, gP_of H.1.t0 H.1.p0_0, gP_of H.1.t0 H.1.p0_1, gP_of H.1.t0 H.1.p0_2, gP_of H.1.t0 H.1.p0_3, gP_of H.1.t0 H.1.p0_4, gP_of H.1.t0 H.1.p0_5, gP_of H.1.t0 H.1.p0_6, gP_of H.1.t0 H.1.p0_7, gP_of H.1.t0 H.1.p0_8, gP_of H.1.t0 H.1.p0_9, e3, e1, x_full H w h0, x_hev H, hs', hxr μ a H, e1']
    · simp (config := { decide := true }) only [↓reduceIte, Option.bind_some, Option.bind_none, f_X12_floor, H.1.t0, gP_of H.1.t0 H.1.p0_1, gP_of H.1.t0 H.1.p0_5, gP_of H.1.t0 H.1.p0_6, gP_of H.1.t0 H.1.p0_7, gP_of H.1.t0 H.1.p0_8, gP_of H.1.t0 H.1.p0_9, gP_of H.1.t0 H.1.p0_14, gP_of H.1.t0 H.1.p0_15, gP_of H.1.t0 H.1.p0_21, gP_of H.1.t0 H.1.p0_22, gP_of H.1.t0 H.1.p0_23, gP_of H.1.t0 H.1.p0_24, gP_of H.1.t0 H.1.p0_26, gP_of H.1.t0 H.1.p0_27, gP_of H.1.t0 H.1.p0_28, gP_of H.1.t0 H.1.p0_29, gP_of H.1.t0 H.1.p0_30, gP_of H.1.t0 H.1.p0_31, gP_of H.1.t0 H.1.p0_32, gP_of H.1.t0 H.1.p0_33, gP_of H.1.t0 H.1.p0_40, gP_of H.1.t0 H.1.p0_41, gP_of H.1.t0 H.1.p0_46, gP_of H.1.t0 H.1.p0_47, gP_of H.1.t0 H.1.p0_48, f_X12_in, e2, e3, m_hev H, hn0, hs', h60, show nI 60 = 60 from rfl]
  have hl' : h.sp.length < 60 := by omega
  have e1' : ¬ 60 < h.sp.length + 1 := by omega
  have e2' : ¬ nI h.sp.length = 60 := fun z => h60 ((nI_eq (b := 60) (by omega) (by decide)).mp z)
  have e6 : (6 : Int32) + nI f = nI (6 + f) := nI_add 6 f
  refine ⟨nI h.q.2.2.1, R, T, F, h.wsp (h.sp ++ [6 + f]), K, ⟨hw.1, hw.2.1, w.wsp h0 (spok_snoc w.2.2.2 hl' (by omega) (fun z => by omega)), hw.2.2.2⟩, fun μ a H => ?_, fun μ c H => ?_⟩
  · obtain ⟨μ', x1, x2, x3, x4⟩ := x_add H w h0 hl' (show 6 + f < 9 by omega) (fun z => by omega)
    refine ⟨μ', ?_, x2, x3, x4⟩
    show f_X11_floor μ a (nI f) = _
    simp (config := { decide := true }) only [↓reduceIte, Option.bind_some, Option.bind_none, f_X11_floor, H.1.t0, gP_of H.1.t0 H.1.p0_0, gP_of H.1.t0 H.1.p0_1, gP_of H.1.t0 H.1.p0_2, gP_of H.1.t0 H.1.p0_3, gP_of H.1.t0 H.1.p0_4, gP_of H.1.t0 H.1.p0_5, gP_of H.1.t0 H.1.p0_6, gP_of H.1.t0 H.1.p0_7, gP_of H.1.t0 H.1.p0_8, gP_of H.1.t0 H.1.p0_9, e3, e1, x_full H w h0, x_hev H, hs', hxr μ a H, e1', e6, x1]
  · have er := m_remember H.1 H.2.2.2.2.1.2.2.2.1 hl'
    have hL1 : LM (mrem μ c h.sp.length) c := H.1
    have sm11 : Sm μ (mrem μ c h.sp.length) (c + 11) := mrem_sm (by omega) (by omega)
    have g7 := H.2.2.2.2.1.2.2.2.2.2.2.1
    have hnow : mI (mrem μ c h.sp.length) (c + 11) 2 = nI h.q.2.2.1 := by rw [sm11.2.2.1]; exact g7.2.2.1
    have ea : aI (mrem μ c h.sp.length) (c + 11) 21 2 = some (nI h.q.2.2.1) := (aI_l 2 rfl hL1.t11 hL1.n11 (by decide)).trans (congrArg some hnow)
    have eq : qI (mrem μ c h.sp.length) (c + 11) 21 2 (nI f) = some (sI (mrem μ c h.sp.length) (c + 11) 2 (nI f)) := qI_l 2 rfl hL1.t11 hL1.n11 (by decide)
    have hsm : ∀ b, b ≠ c → b ≠ c + 13 → b ≠ c + 11 → Sm μ (sI (mrem μ c h.sp.length) (c + 11) 2 (nI f)) b := fun b z1 z2 z3 => (mrem_sm z1 z2).sI z3
    have hc : ∀ j, j ≠ 25 → mI (sI (mrem μ c h.sp.length) (c + 11) 2 (nI f)) c j = mI μ c j := fun j hj => by rw [mI_ne (by omega), mrem_c hj]
    refine ⟨sI (mrem μ c h.sp.length) (c + 11) 2 (nI f), ?_, H.hupd (h' := h.wsp (h.sp ++ [6 + f])) (fun b z1 z2 => hsm b (by omega) (by omega) (by omega)) (fun b z1 z2 => hsm b (by omega) (by omega) (by omega)) (fun j hj => hc j (by omega)) (fun j hj => rfl) H.1 (MH_add H.2.2.2.2.1 (fun j hj => hc j (by omega)) rfl (by rw [mI_ne (by omega)]; exact mrem_25) (hsm _ (by omega) (by omega) (by omega)) (hsm _ (by omega) (by omega) (by omega)) ?_ ((mrem_log g7).mv (fun j => mI_ne (by omega))) (fun j hj => by rw [mI_ne (by omega), mrem_old hj])) ⟨rfl, rfl, rfl, rfl⟩, fun b hb => hsm b (by omega) (by omega) (by omega), Nat.le_refl _⟩
    · show f_X12_floor μ c (nI f) = _
      simp (config := { decide := true }) only [↓reduceIte, Option.bind_some, Option.bind_none, f_X12_floor, H.1.t0, gP_of H.1.t0 H.1.p0_1, gP_of H.1.t0 H.1.p0_5, gP_of H.1.t0 H.1.p0_6, gP_of H.1.t0 H.1.p0_7, gP_of H.1.t0 H.1.p0_8, gP_of H.1.t0 H.1.p0_9, gP_of H.1.t0 H.1.p0_14, gP_of H.1.t0 H.1.p0_15, gP_of H.1.t0 H.1.p0_21, gP_of H.1.t0 H.1.p0_22, gP_of H.1.t0 H.1.p0_23, gP_of H.1.t0 H.1.p0_24, gP_of H.1.t0 H.1.p0_26, gP_of H.1.t0 H.1.p0_27, gP_of H.1.t0 H.1.p0_28, gP_of H.1.t0 H.1.p0_29, gP_of H.1.t0 H.1.p0_30, gP_of H.1.t0 H.1.p0_31, gP_of H.1.t0 H.1.p0_32, gP_of H.1.t0 H.1.p0_33, gP_of H.1.t0 H.1.p0_40, gP_of H.1.t0 H.1.p0_41, gP_of H.1.t0 H.1.p0_46, gP_of H.1.t0 H.1.p0_47, gP_of H.1.t0 H.1.p0_48, f_X12_in, e2, e3, m_hev H, hn0, hs', e2', er, gP_of hL1.t0 hL1.p0_23, ea, eq]
    · have : stp h.te h.rs h.kd h.ft h.q (6 + f) = (h.q.1, h.q.2.1, f, h.q.2.2.2.1, h.q.2.2.2.2.1, h.q.2.2.2.2.2) := by
        unfold stp
        rw [if_neg (by omega), Nat.add_sub_cancel_left]
      rw [this]
      exact nat11_set2 (g7.mv sm11.2.2.1)
theorem x_replay0 {te rm gb wk a : Nat} {rs : Int64} {kd ft : Nat → Nat} {q : Rst} {μ : Mm} (hL : LX μ a) (hS : XS 0 te rs rm kd ft gb q wk μ a) (hP : XP [] μ a) : ∃ μ', f_X3_replay μ (a + 3) = some μ' ∧ LX μ' a ∧ XS 0 te rs rm kd ft gb r0 0 μ' a ∧ (∀ b, b ≠ a + 3 → Sm μ μ' b) ∧ hz μ' = hz μ := by
  obtain ⟨g1, g2, g3, g4, g5, g6, g7, g8, g9, g10, k1, k2, k3⟩ := hS
  have r : ∀ k, k ≠ 5 → k ≠ 6 → k ≠ 7 → k ≠ 8 → k ≠ 9 → k ≠ 10 → mI (sI (sI (sI (sI (sI (sI μ (a + 3) 5 0) (a + 3) 6 0) (a + 3) 7 0) (a + 3) 8 0) (a + 3) 9 0) (a + 3) 10 0) (a + 3) k = mI μ (a + 3) k := fun k z1 z2 z3 z4 z5 z6 => by
    rw [mI_nk z6, mI_nk z5, mI_nk z4, mI_nk z3, mI_nk z2, mI_nk z1]
  have c1 : ∀ f, 0 < f → lp_X3_replay_32 f (a + 3) 0 (sI (sI (sI (sI (sI (sI μ (a + 3) 5 0) (a + 3) 6 0) (a + 3) 7 0) (a + 3) 8 0) (a + 3) 9 0) (a + 3) 10 0) = some (sI (sI (sI (sI (sI (sI μ (a + 3) 5 0) (a + 3) 6 0) (a + 3) 7 0) (a + 3) 8 0) (a + 3) 9 0) (a + 3) 10 0) := fun f hf => by
    obtain ⟨f, rfl⟩ : ∃ g, f = g + 1 := ⟨f - 1, by omega⟩
    have e : gI (sI (sI (sI (sI (sI (sI μ (a + 3) 5 0) (a + 3) 6 0) (a + 3) 7 0) (a + 3) 8 0) (a + 3) 9 0) (a + 3) 10 0) (a + 3) 4 2 = some 0 := gI_e hL.t3 ((r 2 (by decide) (by decide) (by decide) (by decide) (by decide) (by decide)).trans g1)
    simp (config := { decide := true }) only [↓reduceIte, Option.bind_some, Option.bind_none, lp_X3_replay_32, e, Int32.le_refl]
  have c2 : ∀ f, 0 < f → lp_X3_replay_58 f (a + 3) 0 (sI (sI (sI (sI (sI (sI μ (a + 3) 5 0) (a + 3) 6 0) (a + 3) 7 0) (a + 3) 8 0) (a + 3) 9 0) (a + 3) 10 0) = some (sI (sI (sI (sI (sI (sI μ (a + 3) 5 0) (a + 3) 6 0) (a + 3) 7 0) (a + 3) 8 0) (a + 3) 9 0) (a + 3) 10 0) := fun f hf => by
    obtain ⟨f, rfl⟩ : ∃ g, f = g + 1 := ⟨f - 1, by omega⟩
    have hL' : LX (sI (sI (sI (sI (sI (sI μ (a + 3) 5 0) (a + 3) 6 0) (a + 3) 7 0) (a + 3) 8 0) (a + 3) 9 0) (a + 3) 10 0) a := hL
    have e : gI (sI (sI (sI (sI (sI (sI μ (a + 3) 5 0) (a + 3) 6 0) (a + 3) 7 0) (a + 3) 8 0) (a + 3) 9 0) (a + 3) 10 0) (a + 5) 9 1 = some 0 := gI_e hL.t5 (by
      rw [mI_ne (by omega), mI_ne (by omega), mI_ne (by omega), mI_ne (by omega), mI_ne (by omega), mI_ne (by omega)]; exact hP.1)
    simp (config := { decide := true }) only [↓reduceIte, Option.bind_some, Option.bind_none, lp_X3_replay_58, gP_of hL'.t3 hL'.p3_1, e, Int32.le_refl]
  refine ⟨(sI (sI (sI (sI (sI (sI μ (a + 3) 5 0) (a + 3) 6 0) (a + 3) 7 0) (a + 3) 8 0) (a + 3) 9 0) (a + 3) 10 0), ?_, hL, ⟨(r 2 (by decide) (by decide) (by decide) (by decide) (by decide) (by decide)).trans g1, (r 3 (by decide) (by decide) (by decide) (by decide) (by decide) (by decide)).trans g2, (r 4 (by decide) (by decide) (by decide) (by decide) (by decide) (by decide)).trans g3, g4, ?_, ?_, ?_, ?_, ?_, ?_, k1, k2, fun g hg => by omega⟩, fun b z1 => ((((((Sm.rf μ b).sI z1).sI z1).sI z1).sI z1).sI z1).sI z1, rfl⟩
  · simp (config := { decide := true }) only [↓reduceIte, Option.bind_some, Option.bind_none, f_X3_replay, hL.t3, pI, tg_sI, c1 BIG (by unfold BIG; omega), c2 BIG (by unfold BIG; omega)]
  · rw [mI_nk (by decide), mI_nk (by decide), mI_nk (by decide), mI_nk (by decide), mI_nk (by decide), mI_eq]; rfl
  · rw [mI_nk (by decide), mI_nk (by decide), mI_nk (by decide), mI_nk (by decide), mI_eq]; rfl
  · rw [mI_nk (by decide), mI_nk (by decide), mI_nk (by decide), mI_eq]; rfl
  · rw [mI_nk (by decide), mI_nk (by decide), mI_eq]; rfl
  · rw [mI_nk (by decide), mI_eq]; rfl
  · rw [mI_eq]; rfl
/-- all anew, in one form: a hall or none -/
theorem x_anew {n te rm gb wk a : Nat} {rs : Int64} {kd ft : Nat → Nat} {q : Rst} {sp : List Nat} {μ : Mm} (hL : LX μ a) (hS : XS n te rs rm kd ft gb q wk μ a) (hP : XP sp μ a) (hw : (n = 0 ∧ sp = []) ∨ (Wst n te kd ft ∧ spok n sp)) : ∃ μ', f_X3_replay μ (a + 3) = some μ' ∧ LX μ' a ∧ XS n te rs rm kd ft gb (run te rs kd ft sp) (wks sp) μ' a ∧ (∀ b, b ≠ a + 3 → (b < gb ∨ gb + n ≤ b) → Sm μ μ' b) ∧ hz μ' = hz μ := by
  rcases hw with ⟨rfl, rfl⟩ | ⟨h1, h2⟩
  · obtain ⟨μ', e1, e2, e3, e4, e5⟩ := x_replay0 hL hS hP
    exact ⟨μ', e1, e2, e3, fun b z1 _ => e4 b z1, e5⟩
  · exact x_replay hL hS hP h1 h2
theorem WH.anew {h : GH} (w : WH h) {sp : List Nat} (hs : spok h.n sp) (h0 : h.n = 0 → sp = []) : (h.n = 0 ∧ sp = []) ∨ (Wst h.n h.te h.kd h.ft ∧ spok h.n sp) := by
  by_cases e : h.n = 0
  · exact Or.inl ⟨e, h0 e⟩
  · exact Or.inr ⟨w.wst e, hs⟩
theorem spok_take {n : Nat} {sp : List Nat} (h : spok n sp) (k : Nat) : spok n (sp.take k) := ⟨Nat.le_trans (List.length_take_le' k sp) h.1, fun s hs => h.2 s (List.mem_of_mem_take hs)⟩
theorem getD_take {sp : List Nat} {k i : Nat} (h : i < k) : (sp.take k).getD i 0 = sp.getD i 0 := by
  rw [List.getD_eq_getElem?_getD, List.getD_eq_getElem?_getD, List.getElem?_take_of_lt h]
theorem WH.nil {h : GH} (w : WH h) (h0 : h.n = 0) : h.sp = [] := by
  rcases w.2.1 with ⟨-, -, -, -, s⟩ | ⟨n1, -⟩
  · exact s
  · omega
theorem WH.wsp' {h : GH} (w : WH h) {sp : List Nat} (hs : spok h.n sp) (h0 : h.n = 0 → sp = []) : WH (h.wsp sp) := by
  obtain ⟨w1, w2, w3, w4⟩ := w
  refine ⟨w1, ?_, w3, hs⟩
  rcases w2 with ⟨n0, a, b, c, d⟩ | w2
  · exact Or.inl ⟨n0, a, b, c, h0 n0⟩
  · exact Or.inr w2
theorem m_undo_l {μ : Mm} {c k d : Nat} {g : Nat → Int32} (hL : LM μ c) (hk : k < 60) (hd : 0 < d) (hd2 : d < 2 ^ 31) : ∀ (f j : Nat), j ≤ 11 → 11 < j + f → lp_X12_undo_23 f c (nI k) (nI d) (nI j) (sR μ (c + 11) (filf g j (fun x => mI μ (c + 13) (11 * k + x)))) = some (sR μ (c + 11) (filf g 11 (fun x => mI μ (c + 13) (11 * k + x)))) := by
  have hd0 : ¬ nI d ≤ 0 := nI_nle hd hd2
  intro f
  induction f with
  | zero => intro j h1 h2; omega
  | succ f ih =>
    intro j h1 h2
    by_cases hj : j = 11
    · subst hj
      have e : (11 : Int32) ≤ nI 11 := Int32.le_refl _
      simp (config := { decide := true }) only [↓reduceIte, Option.bind_some, Option.bind_none, lp_X12_undo_23, e]
    · have e : ¬ (11 : Int32) ≤ nI j := (show ¬ nI 11 ≤ nI j from nI_ge (by omega) (by decide))
      have hL' : LM (sR μ (c + 11) (filf g j (fun x => mI μ (c + 13) (11 * k + x)))) c := hL
      have ex : ((11 : Int32) * nI k) + nI j = nI (11 * k + j) := by
        show nI 11 * nI k + nI j = _
        rw [pk_mul, nI_add]
      have ea : aI (sR μ (c + 11) (filf g j (fun x => mI μ (c + 13) (11 * k + x)))) (c + 13) 21 (nI (11 * k + j)) = some (mI μ (c + 13) (11 * k + j)) := by
        rw [aI_of hL'.t13 (by rw [hL'.n13]; omega) (by omega), mR_ne (by omega)]
      simp (config := { decide := true }) only [↓reduceIte, Option.bind_some, Option.bind_none, lp_X12_undo_23, e, hd0, gP_of hL'.t0 hL'.p0_23, gP_of hL'.t0 hL'.p0_26, ex, ea, qI_of (i := j) hL'.t11 (show j < ln μ (c + 11) by rw [hL.n11]; omega) (show j < 2 ^ 31 by omega)]
      rw [sI_sRg, filf_s g j (fun x => mI μ (c + 13) (11 * k + x)), nI_1]
      exact ih (j + 1) (by omega) (by omega)
theorem PSI_undo : PS_undo INV := by
  intro μ a1 a2 q1 hI
  refine both_of (fx := fun μ a => f_X11_undo μ a q1) (fm := fun μ c => f_X12_undo μ c q1) ?_ μ a1 a2 hI
  intro R T F h K hw
  have w := hw.2.2.1
  have hl := w.2.2.2.1
  have hmo : ∀ μ c, MI R T F h K μ c → f_X12_in μ q1 0 (nI h.sp.length) = some 0 → f_X12_undo μ c q1 = some (-1, μ) := fun μ c H e => by
    simp (config := { decide := true }) only [↓reduceIte, Option.bind_some, Option.bind_none, f_X12_undo, H.1.t0, gP_of H.1.t0 H.1.p0_1, gP_of H.1.t0 H.1.p0_5, gP_of H.1.t0 H.1.p0_6, gP_of H.1.t0 H.1.p0_7, gP_of H.1.t0 H.1.p0_8, gP_of H.1.t0 H.1.p0_9, gP_of H.1.t0 H.1.p0_14, gP_of H.1.t0 H.1.p0_15, gP_of H.1.t0 H.1.p0_21, gP_of H.1.t0 H.1.p0_22, gP_of H.1.t0 H.1.p0_23, gP_of H.1.t0 H.1.p0_24, gP_of H.1.t0 H.1.p0_26, gP_of H.1.t0 H.1.p0_27, gP_of H.1.t0 H.1.p0_28, gP_of H.1.t0 H.1.p0_29, gP_of H.1.t0 H.1.p0_30, gP_of H.1.t0 H.1.p0_31, gP_of H.1.t0 H.1.p0_32, gP_of H.1.t0 H.1.p0_33, gP_of H.1.t0 H.1.p0_40, gP_of H.1.t0 H.1.p0_41, gP_of H.1.t0 H.1.p0_46, gP_of H.1.t0 H.1.p0_47, gP_of H.1.t0 H.1.p0_48, m_hev H, e]
  rcases ix3 q1 (h.sp.length + 1) (by omega) with h1 | ⟨h1, h2⟩ | ⟨k, hk, rfl⟩
  · refine ⟨-1, R, T, F, h, K, hw, fun μ a H => XO.same H ?_, fun μ c H => MO.same H (hmo μ c H ?_)⟩
    · simp (config := { decide := true }) only [↓reduceIte, Option.bind_some, Option.bind_none, f_X11_undo, H.1.t0, gP_of H.1.t0 H.1.p0_0, gP_of H.1.t0 H.1.p0_1, gP_of H.1.t0 H.1.p0_2, gP_of H.1.t0 H.1.p0_3, gP_of H.1.t0 H.1.p0_4, gP_of H.1.t0 H.1.p0_5, gP_of H.1.t0 H.1.p0_6, gP_of H.1.t0 H.1.p0_7, gP_of H.1.t0 H.1.p0_8, gP_of H.1.t0 H.1.p0_9, h1]
    · exact m_in_bad (N := h.sp.length + 1) (Or.inl h1) (by omega) (by omega)
  · refine ⟨-1, R, T, F, h, K, hw, fun μ a H => XO.same H ?_, fun μ c H => MO.same H (hmo μ c H ?_)⟩
    · have e1 : ¬ q1 ≤ nI h.sp.length := i_big h2 (by omega) (by omega)
      simp (config := { decide := true }) only [↓reduceIte, Option.bind_some, Option.bind_none, f_X11_undo, H.1.t0, gP_of H.1.t0 H.1.p0_0, gP_of H.1.t0 H.1.p0_1, gP_of H.1.t0 H.1.p0_2, gP_of H.1.t0 H.1.p0_3, gP_of H.1.t0 H.1.p0_4, gP_of H.1.t0 H.1.p0_5, gP_of H.1.t0 H.1.p0_6, gP_of H.1.t0 H.1.p0_7, gP_of H.1.t0 H.1.p0_8, gP_of H.1.t0 H.1.p0_9, h1, x_hev H, e1]
    · exact m_in_bad (N := h.sp.length + 1) (Or.inr ⟨h1, h2⟩) (by omega) (by omega)
  have hsk : spok h.n (h.sp.take k) := spok_take w.2.2.2 k
  have hnil : h.n = 0 → h.sp.take k = [] := fun z => by rw [w.nil z]; exact List.take_nil
  have hlen : (h.sp.take k).length = k := by rw [List.length_take]; omega
  have e0 : ¬ nI k < 0 := nI_pos (by omega)
  have e1 : nI k ≤ nI h.sp.length := nI_le (by omega) (by omega)
  have es : nI h.sp.length - nI k = nI (h.sp.length - k) := pk_sub (by omega)
  refine ⟨nI (h.sp.length - k), R, T, F, h.wsp (h.sp.take k), K, ⟨hw.1, hw.2.1, w.wsp' hsk hnil, hw.2.2.2⟩, fun μ a H => ?_, fun μ c H => ?_⟩
  · obtain ⟨gb, hS, hP⟩ := (XH_iff h μ a).mp H.2.2.2.2.1
    have kgb := hS.2.2.2.2.2.2.2.2.2.2.1
    have hS1 : XS h.n h.te h.rs h.rm h.kd h.ft gb h.q (wks h.sp) (sI μ (a + 5) 1 (nI k)) a := by
      obtain ⟨g1, g2, g3, g4, g5, g6, g7, g8, g9, g10, k1, k2, k3⟩ := hS
      have r : ∀ b j, b ≠ a + 5 → mI (sI μ (a + 5) 1 (nI k)) b j = mI μ b j := fun b j z => mI_ne z
      refine ⟨(r _ _ (by omega)).trans g1, (r _ _ (by omega)).trans g2, (r _ _ (by omega)).trans g3, g4, (r _ _ (by omega)).trans g5, (r _ _ (by omega)).trans g6, (r _ _ (by omega)).trans g7, (r _ _ (by omega)).trans g8, (r _ _ (by omega)).trans g9, (r _ _ (by omega)).trans g10, k1, k2, fun g hg => ?_⟩
      obtain ⟨u1', u2', u3, u4⟩ := k3 g hg
      exact ⟨u1', u2', (r _ _ (by omega)).trans u3, (r _ _ (by omega)).trans u4⟩
    have hP1 : XP (h.sp.take k) (sI μ (a + 5) 1 (nI k)) a := ⟨by rw [mI_eq, hlen], fun i hi => by
      rw [hlen] at hi
      rw [mI_ne (by omega), getD_take hi]
      exact hP.2 i (by omega)⟩
    have hL1 : LX (sI μ (a + 5) 1 (nI k)) a := H.1
    obtain ⟨μ', x1, x2, x3, x4, x5⟩ := x_anew hL1 hS1 hP1 (w.anew hsk hnil)
    have hsm : ∀ b, b ≠ a + 3 → b ≠ a + 5 → (b < gb ∨ gb + h.n ≤ b) → Sm μ μ' b := fun b z1 z2 z3 => ((Sm.rf μ b).sI z2).tr (x4 b z1 z3)
    have hP2 : XP (h.sp.take k) μ' a := hP1.mv (x4 _ (by omega) (by omega)) (x4 _ (by omega) (by omega))
    refine ⟨μ', ?_, H.hupd (h' := h.wsp (h.sp.take k)) rfl (fun b z1 z2 z3 z4 => hsm b z1 z2 (by omega)) x2 ((XH_iff _ _ _).mpr ⟨gb, x3, hP2⟩) (by rw [x5]; exact Nat.le_refl _), fun b z1 z2 => hsm b (by omega) (by omega) (by omega), by rw [x5]; exact Nat.le_refl _⟩
    show f_X11_undo μ a (nI k) = _
    simp (config := { decide := true }) only [↓reduceIte, Option.bind_some, Option.bind_none, f_X11_undo, H.1.t0, gP_of H.1.t0 H.1.p0_0, gP_of H.1.t0 H.1.p0_1, gP_of H.1.t0 H.1.p0_2, gP_of H.1.t0 H.1.p0_3, gP_of H.1.t0 H.1.p0_4, gP_of H.1.t0 H.1.p0_5, gP_of H.1.t0 H.1.p0_6, gP_of H.1.t0 H.1.p0_7, gP_of H.1.t0 H.1.p0_8, gP_of H.1.t0 H.1.p0_9, e0, x_hev H, e1, pI_of H.1.t5, gP_of hL1.t0 hL1.p0_2, x1, es]
  · obtain ⟨g1, g2, g3, g4, g5, g6, g7, g8⟩ := H.2.2.2.2.1
    have ein : f_X12_in μ (nI k) 0 (nI h.sp.length) = some 1 := m_in_ok (N := h.sp.length + 1) hk (by omega)
    have hMH : ∀ μ', (∀ j, (j = 10 ∨ j = 11 ∨ j = 12) → mI μ' c j = mI μ c j) → mL μ' c 13 = mL μ c 13 → mI μ' c 25 = nI k → Sm μ μ' (c + 7) → Sm μ μ' (c + 8) → Sm μ μ' (c + 13) → nat11 μ' (c + 11) 0 (run h.te h.rs h.kd h.ft (h.sp.take k)) → MH (h.wsp (h.sp.take k)) μ' c := fun μ' z1 z2 z3 z4 z5 z6 z7 => by
      refine ⟨(z1 10 (by simp)).trans g1, (z1 11 (by simp)).trans g2, (z1 12 (by simp)).trans g3, z3.trans (by show _ = nI (h.sp.take k).length; rw [hlen]), z2.trans g5, fun g hg => by rw [z4.2.2.1, z5.2.2.1]; exact g6 g hg, z7, fun i hi => ?_⟩
      have hi' : i < k := by
        have : i < (h.sp.take k).length := hi
        omega
      show nat11 μ' (c + 13) (11 * i) (run h.te h.rs h.kd h.ft ((h.sp.take k).take i))
      rw [List.take_take, Nat.min_eq_left (by omega)]
      exact (g8 i (by omega)).mv z6.2.2.1
    by_cases hkl : k = h.sp.length
    · have e2 : ∀ f, 0 < f → lp_X12_undo_23 f c (nI k) (nI (h.sp.length - k)) 0 μ = some μ := fun f hf => by
        obtain ⟨f, rfl⟩ : ∃ g, f = g + 1 := ⟨f - 1, by omega⟩
        rw [show h.sp.length - k = 0 by omega]
        simp (config := { decide := true }) only [↓reduceIte, Option.bind_some, Option.bind_none, lp_X12_undo_23, show nI 0 = 0 from rfl]
      refine ⟨sI μ c 25 (nI k), ?_, H.hupd (h' := h.wsp (h.sp.take k)) (fun b z1 z2 => (Sm.rf μ b).sI (by omega)) (fun b z1 z2 => (Sm.rf μ b).sI (by omega)) (fun j hj => mI_nk (by omega)) (fun j hj => rfl) H.1 (hMH _ (fun j hj => mI_nk (by omega)) rfl mI_eq ((Sm.rf μ _).sI (by omega)) ((Sm.rf μ _).sI (by omega)) ((Sm.rf μ _).sI (by omega)) ?_) ⟨rfl, rfl, rfl, rfl⟩, fun b hb => (Sm.rf μ b).sI (by omega), Nat.le_refl _⟩
      · show f_X12_undo μ c (nI k) = _
        simp (config := { decide := true }) only [↓reduceIte, Option.bind_some, Option.bind_none, f_X12_undo, H.1.t0, gP_of H.1.t0 H.1.p0_1, gP_of H.1.t0 H.1.p0_5, gP_of H.1.t0 H.1.p0_6, gP_of H.1.t0 H.1.p0_7, gP_of H.1.t0 H.1.p0_8, gP_of H.1.t0 H.1.p0_9, gP_of H.1.t0 H.1.p0_14, gP_of H.1.t0 H.1.p0_15, gP_of H.1.t0 H.1.p0_21, gP_of H.1.t0 H.1.p0_22, gP_of H.1.t0 H.1.p0_23, gP_of H.1.t0 H.1.p0_24, gP_of H.1.t0 H.1.p0_26, gP_of H.1.t0 H.1.p0_27, gP_of H.1.t0 H.1.p0_28, gP_of H.1.t0 H.1.p0_29, gP_of H.1.t0 H.1.p0_30, gP_of H.1.t0 H.1.p0_31, gP_of H.1.t0 H.1.p0_32, gP_of H.1.t0 H.1.p0_33, gP_of H.1.t0 H.1.p0_40, gP_of H.1.t0 H.1.p0_41, gP_of H.1.t0 H.1.p0_46, gP_of H.1.t0 H.1.p0_47, gP_of H.1.t0 H.1.p0_48, m_hev H, ein, es, e2 BIG (by unfold BIG; omega), pI_of H.1.t0]
      · rw [hkl, List.take_length]
        exact g7.mv fun j => mI_ne (by omega)
    · have e2 := m_undo_l (g := mI μ (c + 11)) H.1 (show k < 60 by omega) (show 0 < h.sp.length - k by omega) (by omega) BIG 0 (by decide) (by unfold BIG; omega)
      rw [filf_0, sR_self] at e2
      have e2' : lp_X12_undo_23 BIG c (nI k) (nI (h.sp.length - k)) 0 μ = _ := e2
      have hL1 : LM (sR μ (c + 11) (filf (mI μ (c + 11)) 11 (fun x => mI μ (c + 13) (11 * k + x)))) c := H.1
      have hsm : ∀ b, b ≠ c → b ≠ c + 11 → Sm μ (sI (sR μ (c + 11) (filf (mI μ (c + 11)) 11 (fun x => mI μ (c + 13) (11 * k + x)))) c 25 (nI k)) b := fun b z1 z2 => ((Sm.rf μ b).sR z2).sI z1
      have hc : ∀ j, j ≠ 25 → mI (sI (sR μ (c + 11) (filf (mI μ (c + 11)) 11 (fun x => mI μ (c + 13) (11 * k + x)))) c 25 (nI k)) c j = mI μ c j := fun j hj => by rw [mI_nk hj, mR_ne (by omega)]
      refine ⟨sI (sR μ (c + 11) (filf (mI μ (c + 11)) 11 (fun x => mI μ (c + 13) (11 * k + x)))) c 25 (nI k), ?_, H.hupd (h' := h.wsp (h.sp.take k)) (fun b z1 z2 => hsm b (by omega) (by omega)) (fun b z1 z2 => hsm b (by omega) (by omega)) (fun j hj => hc j (by omega)) (fun j hj => rfl) H.1 (hMH _ (fun j hj => hc j (by omega)) rfl mI_eq (hsm _ (by omega) (by omega)) (hsm _ (by omega) (by omega)) (hsm _ (by omega) (by omega)) ?_) ⟨rfl, rfl, rfl, rfl⟩, fun b hb => hsm b (by omega) (by omega), Nat.le_refl _⟩
      · show f_X12_undo μ c (nI k) = _
        simp (config := { decide := true }) only [↓reduceIte, Option.bind_some, Option.bind_none, f_X12_undo, H.1.t0, gP_of H.1.t0 H.1.p0_1, gP_of H.1.t0 H.1.p0_5, gP_of H.1.t0 H.1.p0_6, gP_of H.1.t0 H.1.p0_7, gP_of H.1.t0 H.1.p0_8, gP_of H.1.t0 H.1.p0_9, gP_of H.1.t0 H.1.p0_14, gP_of H.1.t0 H.1.p0_15, gP_of H.1.t0 H.1.p0_21, gP_of H.1.t0 H.1.p0_22, gP_of H.1.t0 H.1.p0_23, gP_of H.1.t0 H.1.p0_24, gP_of H.1.t0 H.1.p0_26, gP_of H.1.t0 H.1.p0_27, gP_of H.1.t0 H.1.p0_28, gP_of H.1.t0 H.1.p0_29, gP_of H.1.t0 H.1.p0_30, gP_of H.1.t0 H.1.p0_31, gP_of H.1.t0 H.1.p0_32, gP_of H.1.t0 H.1.p0_33, gP_of H.1.t0 H.1.p0_40, gP_of H.1.t0 H.1.p0_41, gP_of H.1.t0 H.1.p0_46, gP_of H.1.t0 H.1.p0_47, gP_of H.1.t0 H.1.p0_48, m_hev H, ein, es, e2', pI_of hL1.t0]
      · have k8 := g8 k (by omega)
        have r : ∀ j, j < 11 → mI (sI (sR μ (c + 11) (filf (mI μ (c + 11)) 11 (fun x => mI μ (c + 13) (11 * k + x)))) c 25 (nI k)) (c + 11) j = mI μ (c + 13) (11 * k + j) := fun j hj => by rw [mI_ne (by omega), mR_eq, filf_in hj]
        obtain ⟨y0, y1, y2, y3, y4, y5⟩ := k8
        refine ⟨(r 0 (by decide)).trans y0, (r 1 (by decide)).trans y1, (r 2 (by decide)).trans y2, (r 3 (by decide)).trans y3, (r 4 (by decide)).trans y4, fun g hg => ?_⟩
        rw [show 0 + 5 + g = 5 + g by omega, r (5 + g) (by omega), ← Nat.add_assoc]
        exact y5 g hg
