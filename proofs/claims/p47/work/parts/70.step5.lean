/-! ===== floor, undo, shoe ===== -/
theorem x_replay0 {te rm gb wk a : Nat} {rs : Int64} {kd ft : Nat → Nat} {q : Rst} {μ : Mm} (hL : LX μ a) (hS : XS 0 te rs rm kd ft gb q wk μ a) (hP : XP [] μ a) : ∃ μ', f_X3_replay μ (a + 3) = some μ' ∧ LX μ' a ∧ XS 0 te rs rm kd ft gb r0 0 μ' a ∧ (∀ b, b ≠ a + 3 → Sm μ μ' b) ∧ hz μ' = hz μ := by
  obtain ⟨g1, g2, g3, g4, g5, g6, g7, g8, g9, g10, k1, k2, k3⟩ := hS
  have r : ∀ k, k ≠ 5 → k ≠ 6 → k ≠ 7 → k ≠ 8 → k ≠ 9 → k ≠ 10 → mI (sI (sI (sI (sI (sI (sI μ (a + 3) 5 0) (a + 3) 6 0) (a + 3) 7 0) (a + 3) 8 0) (a + 3) 9 0) (a + 3) 10 0) (a + 3) k = mI μ (a + 3) k := fun k z1 z2 z3 z4 z5 z6 => by
    rw [mI_nk z6, mI_nk z5, mI_nk z4, mI_nk z3, mI_nk z2, mI_nk z1]
  have c1 : ∀ f, 0 < f → lp_X3_replay_32 f (a + 3) 0 (sI (sI (sI (sI (sI (sI μ (a + 3) 5 0) (a + 3) 6 0) (a + 3) 7 0) (a + 3) 8 0) (a + 3) 9 0) (a + 3) 10 0) = some (sI (sI (sI (sI (sI (sI μ (a + 3) 5 0) (a + 3) 6 0) (a + 3) 7 0) (a + 3) 8 0) (a + 3) 9 0) (a + 3) 10 0) := fun f hf => by
    obtain ⟨f, rfl⟩ : ∃ g, f = g + 1 := ⟨f - 1, by omega⟩
    have e : gI (sI (sI (sI (sI (sI (sI μ (a + 3) 5 0) (a + 3) 6 0) (a + 3) 7 0) (a + 3) 8 0) (a + 3) 9 0) (a + 3) 10 0) (a + 3) 4 2 = some 0 := gI_e hL.t3 ((r 2 (by decide) (by decide) (by decide) (by decide) (by decide) (by decide)).trans g1)
    simp (config := { decide := true }) only [↓reduceIte, Option.bind_some, Option.bind_none, lp_X3_replay_32, e, Int32.le_refl]
  have c2 : ∀ f, 0 < f → lp_X3_replay_58 f (a + 3) 0 (sI (sI (sI (sI (sI (sI μ (a + 3) 5 0) (a + 3) 6 0) (a + 3) 7 0) (a + 3) 8 0) (a + 3) 9 0) (a + 3) 10 0) = some (sI (sI (sI (sI (sI (sI μ (a + 3) 5 0) (a + 3) 6 0) (a + 3) 7 0) (a + 3) 8 0) (a + 3) 9 0) (a + 3) 10 0) := fun f hf => by
    obtain ⟨f, rfl⟩ : ∃ g, f = g + 1 := ⟨f - 1, by omega⟩
    have hL' : LX (sI (sI (sI (sI (sI (sI μ (a + 3) 5 0) (a + 3) 6 0) (a + 3) 7 0) (a + 3) 8 0) (a + 3) 9 0) (a + 3) 10 0) a := hL
    have e : gI (sI (sI (sI (sI (sI (sI μ (a + 3) 5 0) (a + 3) 6 0) (a + 3) 7 0) (a + 3) 8 0) (a + 3) 9 0) (a + 3) 10 0) (a + 5) 9 1 = some 0 := gI_e hL.t5 (by
      rw [mI_ne (by omega), mI_ne (by omega), mI_ne (by omega), mI_ne (by omega), mI_ne (by omega), mI_ne (by omega)]; exact hP.1)
    simp (config := { decide := true }) only [↓reduceIte, Option.bind_some, Option.bind_none, lp_X3_replay_58, gP_of hL'.t3 hL'.p3_1, e, Int32.le_refl]
  refine ⟨(sI (sI (sI (sI (sI (sI μ (a + 3) 5 0) (a + 3) 6 0) (a + 3) 7 0) (a + 3) 8 0) (a + 3) 9 0) (a + 3) 10 0), ?_, hL, ⟨(r 2 (by decide) (by decide) (by decide) (by decide) (by decide) (by decide)).trans g1, (r 3 (by decide) (by decide) (by decide) (by decide) (by decide) (by decide)).trans g2, (r 4 (by decide) (by decide) (by decide) (by decide) (by decide) (by decide)).trans g3, g4, ?_, ?_, ?_, ?_, ?_, ?_, k1, k2, fun g hg => by omega⟩, fun b z1 => ((((((Sm.rf μ b).sI z1).sI z1).sI z1).sI z1).sI z1).sI z1, rfl⟩
  · simp (config := { decide := true }) only [↓reduceIte, Option.bind_some, Option.bind_none, f_X3_replay, hL.t3, pI, tg_sI, c1 BIG (by unfold BIG; omega), c2 BIG (by unfold BIG; omega)]
  · rw [mI_nk (by decide), mI_nk (by decide), mI_nk (by decide), mI_nk (by decide), mI_nk (by decide), mI_eq]; rfl
  · rw [mI_nk (by decide), mI_nk (by decide), mI_nk (by decide), mI_nk (by decide), mI_eq]; rfl
  · rw [mI_nk (by decide), mI_nk (by decide), mI_nk (by decide), mI_eq]; rfl
  · rw [mI_nk (by decide), mI_nk (by decide), mI_eq]; rfl
  · rw [mI_nk (by decide), mI_eq]; rfl
  · rw [mI_eq]; rfl
/-- all anew, in one form: a hall or none -/
theorem x_anew {n te rm gb wk a : Nat} {rs : Int64} {kd ft : Nat → Nat} {q : Rst} {sp : List Nat} {μ : Mm} (hL : LX μ a) (hS : XS n te rs rm kd ft gb q wk μ a) (hP : XP sp μ a) (hw : (n = 0 ∧ sp = []) ∨ (Wst n te kd ft ∧ spok n sp)) : ∃ μ', f_X3_replay μ (a + 3) = some μ' ∧ LX μ' a ∧ XS n te rs rm kd ft gb (run te rs kd ft sp) (wks sp) μ' a ∧ (∀ b, b ≠ a + 3 → (b < gb ∨ gb + n ≤ b) → Sm μ μ' b) ∧ hz μ' = hz μ := by
  rcases hw with ⟨rfl, rfl⟩ | ⟨h1, h2⟩
  · obtain ⟨μ', e1, e2, e3, e4, e5⟩ := x_replay0 hL hS hP
    exact ⟨μ', e1, e2, e3, fun b z1 _ => e4 b z1, e5⟩
  · exact x_replay hL hS hP h1 h2
theorem WH.anew {h : GH} (w : WH h) {sp : List Nat} (hs : spok h.n sp) (h0 : h.n = 0 → sp = []) : (h.n = 0 ∧ sp = []) ∨ (Wst h.n h.te h.kd h.ft ∧ spok h.n sp) := by
  by_cases e : h.n = 0
  · exact Or.inl ⟨e, h0 e⟩
  · exact Or.inr ⟨w.wst e, hs⟩
theorem spok_take {n : Nat} {sp : List Nat} (h : spok n sp) (k : Nat) : spok n (sp.take k) := ⟨Nat.le_trans (List.length_take_le' k sp) h.1, fun s hs => h.2 s (List.mem_of_mem_take hs)⟩
theorem getD_take {sp : List Nat} {k i : Nat} (h : i < k) : (sp.take k).getD i 0 = sp.getD i 0 := by
  rw [List.getD_eq_getElem?_getD, List.getD_eq_getElem?_getD, List.getElem?_take_of_lt h]
theorem WH.nil {h : GH} (w : WH h) (h0 : h.n = 0) : h.sp = [] := by
  rcases w.2.1 with ⟨-, -, -, -, s⟩ | ⟨n1, -⟩
  · exact s
  · omega
theorem WH.wsp' {h : GH} (w : WH h) {sp : List Nat} (hs : spok h.n sp) (h0 : h.n = 0 → sp = []) : WH (h.wsp sp) := by
  obtain ⟨w1, w2, w3, w4⟩ := w
  refine ⟨w1, ?_, w3, hs⟩
  rcases w2 with ⟨n0, a, b, c, d⟩ | w2
  · exact Or.inl ⟨n0, a, b, c, h0 n0⟩
  · exact Or.inr w2