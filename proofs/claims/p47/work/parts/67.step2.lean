/-! ===== a step added; all steps anew ===== -/
theorem getD_l {sp : List Nat} {s i : Nat} (h : i < sp.length) : (sp ++ [s]).getD i 0 = sp.getD i 0 := by
  rw [List.getD_eq_getElem?_getD, List.getD_eq_getElem?_getD, List.getElem?_append_left h]
theorem getD_e {sp suf : List Nat} {s : Nat} : (sp ++ s :: suf).getD sp.length 0 = s := by
  rw [List.getD_eq_getElem?_getD, List.getElem?_append_right (Nat.le_refl _), Nat.sub_self]
  rfl
theorem run_snoc (te : Nat) (rs : Int64) (kd ft : Nat → Nat) (sp : List Nat) (s : Nat) : run te rs kd ft (sp ++ [s]) = stp te rs kd ft (run te rs kd ft sp) s := by
  unfold run
  rw [List.foldl_append]
  rfl
theorem wks_snoc (sp : List Nat) (s : Nat) : wks (sp ++ [s]) = wks sp + (if s < 6 then 1 else 0) := by
  unfold wks
  rw [List.filter_append, List.length_append]
  congr 1
  by_cases h : s < 6
  · rw [if_pos h, List.filter_cons_of_pos (by exact decide_eq_true h)]; rfl
  · rw [if_neg h, List.filter_cons_of_neg (by rw [decide_eq_false h]; decide)]; rfl
theorem Bq.sml {te m : Nat} {q : Rst} (h : Bq te m q) (hm : m ≤ 60) (t1 : 12 ≤ te) : Sml te q := by
  obtain ⟨h1, h2, h3, h4, h5, h6⟩ := h
  have hp : (2 : Nat) ^ 20 = 1048576 := by decide
  refine ⟨?_, by omega, h3, by omega, by omega, fun g => ?_⟩
  · rcases h1 with z | z <;> omega
  · have := h6 g; omega
theorem run_sml {n te : Nat} {rs : Int64} {kd ft : Nat → Nat} {sp : List Nat} (hw : Wst n te kd ft) (hs : spok n sp) : Sml te (run te rs kd ft sp) := by
  obtain ⟨n6, t1, t2, hkf⟩ := hw
  have := Bq_run (rs := rs) (kd := kd) t1 (fun g hg => (hkf g hg).2.2) sp 0 r0 (Bq_r0 _) hs.2
  rw [Nat.zero_add] at this
  exact this.sml hs.1 t1
theorem spok_pre {n : Nat} {pre suf : List Nat} (h : spok n (pre ++ suf)) : spok n pre := ⟨by have := h.1; rw [List.length_append] at this; omega, fun s hs => h.2 s (List.mem_append_left _ hs)⟩
theorem XP.mv {sp : List Nat} {μ μ' : Mm} {a : Nat} (h : XP sp μ a) (h5 : Sm μ μ' (a + 5)) (h6 : Sm μ μ' (a + 6)) : XP sp μ' a := ⟨by rw [h5.2.2.1]; exact h.1, fun i hi => by rw [h6.2.2.1]; exact h.2 i hi⟩
theorem x_addStep {n te rm gb wk s a : Nat} {rs : Int64} {kd ft : Nat → Nat} {q : Rst} {sp : List Nat} {μ : Mm} (hL : LX μ a) (hS : XS n te rs rm kd ft gb q wk μ a) (hP : XP sp μ a) (hl : sp.length < 60) (hw : Wst n te kd ft) (hq : Sml te q) (hs : s < 9) (hsn : s < 6 → s < n) : ∃ μ', f_X3_addStep μ (a + 3) (nI s) = some μ' ∧ LX μ' a ∧ XS n te rs rm kd ft gb (stp te rs kd ft q s) (wk + (if s < 6 then 1 else 0)) μ' a ∧ XP (sp ++ [s]) μ' a ∧ (∀ b, b ≠ a + 3 → b ≠ a + 5 → b ≠ a + 6 → (b < gb ∨ gb + n ≤ b) → Sm μ μ' b) ∧ hz μ' = hz μ := by
  have kgb := hS.2.2.2.2.2.2.2.2.2.2.1
  have hL1 : LX (sI (sI μ (a + 6) sp.length (nI s)) (a + 5) 1 (nI (sp.length + 1))) a := hL
  have hS1 : XS n te rs rm kd ft gb q wk (sI (sI μ (a + 6) sp.length (nI s)) (a + 5) 1 (nI (sp.length + 1))) a := by
    obtain ⟨g1, g2, g3, g4, g5, g6, g7, g8, g9, g10, k1, k2, k3⟩ := hS
    have r : ∀ b k, b ≠ a + 5 → b ≠ a + 6 → mI (sI (sI μ (a + 6) sp.length (nI s)) (a + 5) 1 (nI (sp.length + 1))) b k = mI μ b k := fun b k z1 z2 => by rw [mI_ne z1, mI_ne z2]
    refine ⟨(r _ _ (by omega) (by omega)).trans g1, (r _ _ (by omega) (by omega)).trans g2, (r _ _ (by omega) (by omega)).trans g3, g4, (r _ _ (by omega) (by omega)).trans g5, (r _ _ (by omega) (by omega)).trans g6, (r _ _ (by omega) (by omega)).trans g7, (r _ _ (by omega) (by omega)).trans g8, (r _ _ (by omega) (by omega)).trans g9, (r _ _ (by omega) (by omega)).trans g10, k1, k2, fun g hg => ?_⟩
    obtain ⟨u1', u2', u3, u4⟩ := k3 g hg
    exact ⟨u1', u2', (r _ _ (by omega) (by omega)).trans u3, (r _ _ (by omega) (by omega)).trans u4⟩
  obtain ⟨μ', e, hL', hS', hf, hz', -⟩ := x_step hL1 hS1 hw hq hs hsn
  refine ⟨μ', ?_, hL', hS', ?_, fun b z1 z2 z3 z4 => (((Sm.rf μ b).sI z3).sI z2).tr (hf b z1 z4), hz'⟩
  · have e1 : ¬ nI sp.length < 0 := nI_pos (by omega)
    have e2 : nI sp.length < nI 60 := nI_lt hl (by decide)
    have ez : zI μ (a + 6) = some (nI 60) := by rw [zI_of (by rw [hL.t6]; decide), hL.n6]
    have es := hP.1
    have hne : ¬ a + 5 = a + 6 := by omega
    simp (config := { decide := true }) only [↓reduceIte, Option.bind_some, Option.bind_none, f_X3_addStep, hL.t3, gP_of hL.t3 hL.p3_1, f_X8_append, hL.t5, gI_e hL.t5 es, e1, gP_of hL.t5 hL.p5_0, hL.t6, ez, e2, qI_of (i := sp.length) (v := nI s) hL.t6 (show sp.length < ln μ (a + 6) by rw [hL.n6]; exact hl) (show sp.length < 2 ^ 31 by omega), gI, pI, tg_sI, mI_sI, es, hne, false_and, nI_1, e]
  · refine XP.mv ?_ (hf _ (by omega) (by omega)) (hf _ (by omega) (by omega))
    refine ⟨?_, fun i hi => ?_⟩
    · rw [mI_eq, List.length_append]; rfl
    · rw [List.length_append, List.length_singleton] at hi
      rw [mI_ne (by omega)]
      by_cases h : i = sp.length
      · subst h; rw [mI_eq, getD_e]
      · rw [mI_nk h, getD_l (by omega)]; exact hP.2 i (by omega)
theorem XS.wcong {n te rm gb wk a : Nat} {rs : Int64} {kd ft : Nat → Nat} {a1 a2 a3 a4 a5 : Nat} {f g : Nat → Nat} {μ : Mm} (h : XS n te rs rm kd ft gb (a1, a2, a3, a4, a5, f) wk μ a) (hfg : ∀ i, i < n → f i = g i) : XS n te rs rm kd ft gb (a1, a2, a3, a4, a5, g) wk μ a := by
  obtain ⟨g1, g2, g3, g4, g5, g6, g7, g8, g9, g10, k1, k2, k3⟩ := h
  refine ⟨g1, g2, g3, g4, g5, g6, g7, g8, g9, g10, k1, k2, fun i hi => ?_⟩
  obtain ⟨u1', u2', u3, u4⟩ := k3 i hi
  refine ⟨u1', u2', u3, u4.trans ?_⟩
  show nI (f i) = nI (g i)
  rw [hfg i hi]
/-- the walks forgotten, one guild after the other -/
theorem x_clear_l {n te rm gb a : Nat} {rs : Int64} {kd ft : Nat → Nat} (hw : Wst n te kd ft) : ∀ (f k : Nat) (w0 : Nat → Nat) (μ : Mm), k ≤ n → n < k + f → LX μ a → XS n te rs rm kd ft gb (0, 0, 0, 0, 0, w0) 0 μ a → (∀ g, g < k → w0 g = 0) → ∃ μ', lp_X3_replay_32 f (a + 3) (nI k) μ = some μ' ∧ LX μ' a ∧ XS n te rs rm kd ft gb r0 0 μ' a ∧ (∀ b, (b < gb ∨ gb + n ≤ b) → Sm μ μ' b) ∧ hz μ' = hz μ := by
  have n6 := hw.1
  intro f
  induction f with
  | zero => intro k w0 μ h1 h2; omega
  | succ f ih =>
    intro k w0 μ h1 h2 hL hS hz0
    have kgb := hS.2.2.2.2.2.2.2.2.2.2.1
    by_cases hk : k = n
    · have e : nI n ≤ nI k := by rw [hk]; exact Int32.le_refl _
      refine ⟨μ, ?_, hL, hS.wcong (fun i hi => hz0 i (by omega)), fun b _ => Sm.rf μ b, rfl⟩
      simp (config := { decide := true }) only [↓reduceIte, Option.bind_some, Option.bind_none, lp_X3_replay_32, gI_e hL.t3 hS.1, e]
    · have e : ¬ nI n ≤ nI k := nI_ge (by omega) (by omega)
      obtain ⟨g1, g2, g3, g4, g5, g6, g7, g8, g9, g10, k1, k2, k3⟩ := hS
      obtain ⟨p1, p2, p3, p4⟩ := k3 k (by omega)
      have hgt := ktg_gt (hw.2.2.2 k (by omega)).1
      rw [← p2] at hgt
      have eP : aP μ (a + 4) 24 (nI k) = some (gb + k) := aP_of hL.t4 (by rw [hL.n4]; omega) (by omega) p1
      have hS1 : XS n te rs rm kd ft gb (0, 0, 0, 0, 0, fun g => if g = k then 0 else w0 g) 0 (sI μ (gb + k) 1 0) a := by
        have r : ∀ j, mI (sI μ (gb + k) 1 0) (a + 3) j = mI μ (a + 3) j := fun j => mI_ne (by omega)
        refine ⟨(r _).trans g1, (r _).trans g2, (r _).trans g3, g4, (r _).trans g5, (r _).trans g6, (r _).trans g7, (r _).trans g8, (r _).trans g9, (r _).trans g10, k1, k2, fun g hg => ?_⟩
        obtain ⟨u1', u2', u3, u4⟩ := k3 g hg
        refine ⟨u1', u2', (mI_nk (by decide)).trans u3, ?_⟩
        show _ = nI (if g = k then 0 else w0 g)
        by_cases e : g = k
        · subst e; rw [if_pos rfl, mI_eq]; rfl
        · rw [if_neg e, mI_ne (by omega)]; exact u4
      obtain ⟨μ', e1, e2, e3, e4, e5⟩ := ih (k + 1) _ _ (by omega) (by omega) (show LX (sI μ (gb + k) 1 0) a from hL) hS1 (fun g hg => by
        by_cases e : g = k
        · exact if_pos e
        · rw [if_neg e]; exact hz0 g (by omega))
      refine ⟨μ', ?_, e2, e3, fun b hb => ((Sm.rf μ b).sI (by omega)).tr (e4 b hb), e5⟩
      simp (config := { decide := true }) only [↓reduceIte, Option.bind_some, Option.bind_none, lp_X3_replay_32, gI_e hL.t3 g1, e, gP_of hL.t3 hL.p3_0, eP, pG, hgt, nI_1, e1]
/-- the steps taken again, one after the other -/
theorem x_again_l {n te rm gb a : Nat} {rs : Int64} {kd ft : Nat → Nat} {sp : List Nat} (hw : Wst n te kd ft) (hsp : spok n sp) : ∀ (suf pre : List Nat) (f : Nat) (μ : Mm), sp = pre ++ suf → suf.length < f → LX μ a → XS n te rs rm kd ft gb (run te rs kd ft pre) (wks pre) μ a → XP sp μ a → ∃ μ', lp_X3_replay_58 f (a + 3) (nI pre.length) μ = some μ' ∧ LX μ' a ∧ XS n te rs rm kd ft gb (run te rs kd ft sp) (wks sp) μ' a ∧ (∀ b, b ≠ a + 3 → (b < gb ∨ gb + n ≤ b) → Sm μ μ' b) ∧ hz μ' = hz μ := by
  have hl := hsp.1
  intro suf
  induction suf with
  | nil =>
    intro pre f μ e1 e2 hL hS hP
    obtain ⟨f, rfl⟩ : ∃ g, f = g + 1 := ⟨f - 1, by omega⟩
    rw [List.append_nil] at e1
    subst e1
    refine ⟨μ, ?_, hL, hS, fun b _ _ => Sm.rf μ b, rfl⟩
    simp (config := { decide := true }) only [↓reduceIte, Option.bind_some, Option.bind_none, lp_X3_replay_58, gP_of hL.t3 hL.p3_1, gI_e hL.t5 hP.1, Int32.le_refl]
  | cons s suf ih =>
    intro pre f μ e1 e2 hL hS hP
    rw [List.length_cons] at e2
    obtain ⟨f, rfl⟩ : ∃ g, f = g + 1 := ⟨f - 1, by omega⟩
    have hlen : pre.length < sp.length := by rw [e1, List.length_append, List.length_cons]; omega
    have hsm : s ∈ sp := by rw [e1]; exact List.mem_append_right _ (List.mem_cons_self ..)
    have hso := hsp.2 s hsm
    have kgb := hS.2.2.2.2.2.2.2.2.2.2.1
    obtain ⟨μ1, x1, x2, x3, x4, x5, -⟩ := x_step hL hS hw (run_sml hw (spok_pre (suf := s :: suf) (by rw [← e1]; exact hsp))) hso.1 hso.2
    rw [← run_snoc, ← wks_snoc] at x3
    obtain ⟨μ2, y1, y2, y3, y4, y5⟩ := ih (pre ++ [s]) f μ1 (by rw [e1, List.append_assoc]; rfl) (by omega) x2 x3 (hP.mv (x4 _ (by omega) (by omega)) (x4 _ (by omega) (by omega)))
    refine ⟨μ2, ?_, y2, y3, fun b z1 z2 => (x4 b z1 z2).tr (y4 b z1 z2), y5.trans x5⟩
    have e : ¬ nI sp.length ≤ nI pre.length := nI_ge hlen (by omega)
    have er : mI μ (a + 6) pre.length = nI s := by
      rw [hP.2 _ hlen]
      have : sp.getD pre.length 0 = s := by rw [e1]; exact getD_e
      rw [this]
    rw [List.length_append, List.length_singleton] at y1
    simp (config := { decide := true }) only [↓reduceIte, Option.bind_some, Option.bind_none, lp_X3_replay_58, gP_of hL.t3 hL.p3_1, gI_e hL.t5 hP.1, e, gP_of hL.t5 hL.p5_0, aI_of (i := pre.length) hL.t6 (show pre.length < ln μ (a + 6) by rw [hL.n6]; omega) (show pre.length < 2 ^ 31 by omega), er, x1, nI_1, y1]
theorem x_replay {n te rm gb wk a : Nat} {rs : Int64} {kd ft : Nat → Nat} {q : Rst} {sp : List Nat} {μ : Mm} (hL : LX μ a) (hS : XS n te rs rm kd ft gb q wk μ a) (hP : XP sp μ a) (hw : Wst n te kd ft) (hsp : spok n sp) : ∃ μ', f_X3_replay μ (a + 3) = some μ' ∧ LX μ' a ∧ XS n te rs rm kd ft gb (run te rs kd ft sp) (wks sp) μ' a ∧ (∀ b, b ≠ a + 3 → (b < gb ∨ gb + n ≤ b) → Sm μ μ' b) ∧ hz μ' = hz μ := by
  have kgb := hS.2.2.2.2.2.2.2.2.2.2.1
  obtain ⟨g1, g2, g3, g4, g5, g6, g7, g8, g9, g10, k1, k2, k3⟩ := hS
  have hS1 : XS n te rs rm kd ft gb (0, 0, 0, 0, 0, q.2.2.2.2.2) 0 (sI (sI (sI (sI (sI (sI μ (a + 3) 5 0) (a + 3) 6 0) (a + 3) 7 0) (a + 3) 8 0) (a + 3) 9 0) (a + 3) 10 0) a := by
    have r : ∀ k, k ≠ 5 → k ≠ 6 → k ≠ 7 → k ≠ 8 → k ≠ 9 → k ≠ 10 → mI (sI (sI (sI (sI (sI (sI μ (a + 3) 5 0) (a + 3) 6 0) (a + 3) 7 0) (a + 3) 8 0) (a + 3) 9 0) (a + 3) 10 0) (a + 3) k = mI μ (a + 3) k := fun k z1 z2 z3 z4 z5 z6 => by
      rw [mI_nk z6, mI_nk z5, mI_nk z4, mI_nk z3, mI_nk z2, mI_nk z1]
    refine ⟨(r 2 (by decide) (by decide) (by decide) (by decide) (by decide) (by decide)).trans g1, (r 3 (by decide) (by decide) (by decide) (by decide) (by decide) (by decide)).trans g2, (r 4 (by decide) (by decide) (by decide) (by decide) (by decide) (by decide)).trans g3, g4, ?_, ?_, ?_, ?_, ?_, ?_, k1, k2, fun g hg => ?_⟩
    · rw [mI_nk (by decide), mI_nk (by decide), mI_nk (by decide), mI_nk (by decide), mI_nk (by decide), mI_eq]; rfl
    · rw [mI_nk (by decide), mI_nk (by decide), mI_nk (by decide), mI_nk (by decide), mI_eq]; rfl
    · rw [mI_nk (by decide), mI_nk (by decide), mI_nk (by decide), mI_eq]; rfl
    · rw [mI_nk (by decide), mI_nk (by decide), mI_eq]; rfl
    · rw [mI_nk (by decide), mI_eq]; rfl
    · rw [mI_eq]; rfl
    · obtain ⟨u1', u2', u3, u4⟩ := k3 g hg
      have r2 : ∀ j, mI (sI (sI (sI (sI (sI (sI μ (a + 3) 5 0) (a + 3) 6 0) (a + 3) 7 0) (a + 3) 8 0) (a + 3) 9 0) (a + 3) 10 0) (gb + g) j = mI μ (gb + g) j := fun j => by
        rw [mI_ne (by omega), mI_ne (by omega), mI_ne (by omega), mI_ne (by omega), mI_ne (by omega), mI_ne (by omega)]
      exact ⟨u1', u2', (r2 _).trans u3, (r2 _).trans u4⟩
  obtain ⟨μ1, x1, x2, x3, x4, x5⟩ := x_clear_l hw BIG 0 q.2.2.2.2.2 (sI (sI (sI (sI (sI (sI μ (a + 3) 5 0) (a + 3) 6 0) (a + 3) 7 0) (a + 3) 8 0) (a + 3) 9 0) (a + 3) 10 0) (by omega) (by have := hw.1; unfold BIG; omega) hL hS1 (fun g hg => by omega)
  have hP1 : XP sp μ1 a := by
    refine XP.mv (μ := sI (sI (sI (sI (sI (sI μ (a + 3) 5 0) (a + 3) 6 0) (a + 3) 7 0) (a + 3) 8 0) (a + 3) 9 0) (a + 3) 10 0) ⟨?_, fun i hi => ?_⟩ (x4 _ (by omega)) (x4 _ (by omega))
    · rw [mI_ne (by omega), mI_ne (by omega), mI_ne (by omega), mI_ne (by omega), mI_ne (by omega), mI_ne (by omega)]; exact hP.1
    · rw [mI_ne (by omega), mI_ne (by omega), mI_ne (by omega), mI_ne (by omega), mI_ne (by omega), mI_ne (by omega)]; exact hP.2 i hi
  obtain ⟨μ2, y1, y2, y3, y4, y5⟩ := x_again_l (rm := rm) (gb := gb) (rs := rs) hw hsp sp [] BIG μ1 rfl (by have := hsp.1; unfold BIG; omega) x2 x3 hP1
  refine ⟨μ2, ?_, y2, y3, fun b z1 z2 => ?_, y5.trans x5⟩
  · have x1' : lp_X3_replay_32 BIG (a + 3) 0 _ = some μ1 := x1
    have y1' : lp_X3_replay_58 BIG (a + 3) 0 μ1 = some μ2 := y1
    simp (config := { decide := true }) only [↓reduceIte, Option.bind_some, Option.bind_none, f_X3_replay, hL.t3, pI, tg_sI, x1', y1']
  · exact (((((((Sm.rf μ b).sI z1).sI z1).sI z1).sI z1).sI z1).sI z1).tr ((x4 b z2).tr (y4 b z1 z2))
