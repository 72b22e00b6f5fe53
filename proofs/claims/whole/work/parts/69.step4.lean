/-! ===== walk, floor, undo, shoe ===== -/
theorem XI.hupd {R T : GR} {F : GF} {h h' : GH} {K : GK} {μ μ' : Mm} {a : Nat} (H : XI R T F h K μ a) (hn : h'.n = h.n) (hs : ∀ b, b ≠ a + 3 → b ≠ a + 5 → b ≠ a + 6 → (b < a + 19 ∨ (a + 32 ≤ b ∧ b < a + 59)) → Sm μ μ' b) (hL : LX μ' a) (hH : XH h' μ' a) (hz' : hz μ ≤ hz μ') : XI R T F h' K μ' a := by
  obtain ⟨g1, g2, g3, g4, g5, g6, g7⟩ := H
  exact ⟨hL, g2.mv (fun b _ _ => hs b (by omega) (by omega) (by omega) (by omega)), g3.mv (fun b _ _ => hs b (by omega) (by omega) (by omega) (by omega)), g4.mv (hs _ (by omega) (by omega) (by omega) (by omega)) (hs _ (by omega) (by omega) (by omega) (by omega)), hH, by rw [hn]; exact g6.mv (fun b _ _ => hs b (by omega) (by omega) (by omega) (by omega)) (fun b _ _ => hs b (by omega) (by omega) (by omega) (by omega)), Nat.le_trans g7 hz'⟩
theorem MI.hupd {R T : GR} {F : GF} {h h' : GH} {K : GK} {μ μ' : Mm} {c : Nat} (H : MI R T F h K μ c) (hs : ∀ b, c + 1 ≤ b → b < c + 7 → Sm μ μ' b) (hs2 : ∀ b, c + 14 ≤ b → b < c + 19 → Sm μ μ' b) (h0 : ∀ j, j < 5 → mI μ' c j = mI μ c j) (h0' : ∀ j, j < 5 → mL μ' c j = mL μ c j) (hL : LM μ' c) (hH : MH h' μ' c) (hk : h'.n = h.n ∧ h'.te = h.te ∧ h'.rs = h.rs ∧ h'.kd = h.kd) : MI R T F h' K μ' c := by
  obtain ⟨g1, g2, g3, g4, g5, g6⟩ := H
  obtain ⟨f1, f2, f3, f4, f5⟩ := g4
  refine ⟨hL, g2.mv (hs _ (by omega) (by omega)) (hs _ (by omega) (by omega)), g3.mv (hs _ (by omega) (by omega)) (hs _ (by omega) (by omega)), ⟨(h0 0 (by decide)).trans f1, fun j hj => ?_, (h0 2 (by decide)).trans f3, (h0' 3 (by decide)).trans f4, (h0' 4 (by decide)).trans f5⟩, hH, ?_⟩
  · rw [(hs _ (by omega) (by omega)).2.2.1]; exact f2 j hj
  · have := g6.mv hs2
    intro k hk'
    obtain ⟨z1, z2⟩ := this k hk'
    refine ⟨z1, fun v hv => ?_⟩
    obtain ⟨y1, y2, y3, y4⟩ := z2 v hv
    obtain ⟨e1, e2, e3, e4⟩ := hk
    exact ⟨y1, fun g hg => y2 g (by rw [← e1]; exact hg), by rw [e2, e3, e4]; exact y3, fun i hi => by rw [e2, e3, e4]; exact y4 i hi⟩
def GH.wsp (h : GH) (sp : List Nat) : GH := (h.1, h.2.1, h.2.2.1, h.2.2.2.1, h.2.2.2.2.1, h.2.2.2.2.2.1, sp)
def GH.wft (h : GH) (ft : Nat → Nat) (sp : List Nat) : GH := (h.1, h.2.1, h.2.2.1, h.2.2.2.1, h.2.2.2.2.1, ft, sp)
theorem WH.wst {h : GH} (w : WH h) (h0 : ¬ h.n = 0) : Wst h.n h.te h.kd h.ft := ⟨w.1, w.te_ge h0, w.te_lt, w.2.2.1⟩
theorem WH.sml {h : GH} (w : WH h) (h0 : ¬ h.n = 0) : Sml h.te h.q := run_sml (w.wst h0) w.2.2.2
theorem WH.wsp {h : GH} (w : WH h) (h0 : ¬ h.n = 0) {sp : List Nat} (hs : spok h.n sp) : WH (h.wsp sp) := by
  obtain ⟨w1, w2, w3, w4⟩ := w
  refine ⟨w1, ?_, w3, hs⟩
  rcases w2 with ⟨n0, -⟩ | w2
  · exact absurd n0 h0
  · exact Or.inr w2
theorem spok_snoc {n s : Nat} {sp : List Nat} (h : spok n sp) (hl : sp.length < 60) (hs : s < 9) (hsn : s < 6 → s < n) : spok n (sp ++ [s]) := by
  refine ⟨by rw [List.length_append, List.length_singleton]; omega, fun x hx => ?_⟩
  rcases List.mem_append.mp hx with hx | hx
  · exact h.2 x hx
  · rw [List.mem_singleton.mp hx]; exact ⟨hs, hsn⟩
/-- a step added, the class's side -/
theorem x_add {R T : GR} {F : GF} {h : GH} {K : GK} {μ : Mm} {a s : Nat} (H : XI R T F h K μ a) (w : WH h) (h0 : ¬ h.n = 0) (hl : h.sp.length < 60) (hs : s < 9) (hsn : s < 6 → s < h.n) : ∃ μ', f_X3_addStep μ (a + 3) (nI s) = some μ' ∧ XI R T F (h.wsp (h.sp ++ [s])) K μ' a ∧ (∀ b, a + 59 ≤ b → b < a + 85 → Sm μ μ' b) ∧ hz μ ≤ hz μ' := by
  obtain ⟨gb, hS, hP⟩ := (XH_iff h μ a).mp H.2.2.2.2.1
  have kgb := hS.2.2.2.2.2.2.2.2.2.2.1
  obtain ⟨μ', e1, e2, e3, e4, e5, e6⟩ := x_addStep H.1 hS hP hl (w.wst h0) (w.sml h0) hs hsn
  refine ⟨μ', e1, H.hupd (h' := h.wsp (h.sp ++ [s])) rfl (fun b z1 z2 z3 z4 => e5 b z1 z2 z3 (by omega)) e2 ((XH_iff _ _ _).mpr ⟨gb, ?_, e4⟩) (by omega), fun b z1 z2 => e5 b (by omega) (by omega) (by omega) (by omega), by omega⟩
  have : (h.wsp (h.sp ++ [s])).q = stp h.te h.rs h.kd h.ft h.q s := run_snoc h.te h.rs h.kd h.ft h.sp s
  rw [this, show wks (h.wsp (h.sp ++ [s])).sp = _ from wks_snoc h.sp s]
  exact e3
theorem take_l {sp : List Nat} {s i : Nat} (h : i ≤ sp.length) : (sp ++ [s]).take i = sp.take i := List.take_append_of_le_length h
/-- the log with one more line -/
theorem MH_add {h : GH} {μ μ' : Mm} {c s : Nat} (hH : MH h μ c) (h0 : ∀ j, (j = 10 ∨ j = 11 ∨ j = 12) → mI μ' c j = mI μ c j) (h13 : mL μ' c 13 = mL μ c 13) (h25 : mI μ' c 25 = nI (h.sp.length + 1)) (h7 : Sm μ μ' (c + 7)) (h8 : Sm μ μ' (c + 8)) (hnow : nat11 μ' (c + 11) 0 (stp h.te h.rs h.kd h.ft h.q s)) (hlog : nat11 μ' (c + 13) (11 * h.sp.length) h.q) (hold : ∀ j, j < 11 * h.sp.length → mI μ' (c + 13) j = mI μ (c + 13) j) : MH (h.wsp (h.sp ++ [s])) μ' c := by
  obtain ⟨g1, g2, g3, g4, g5, g6, g7, g8⟩ := hH
  refine ⟨(h0 10 (by simp)).trans g1, (h0 11 (by simp)).trans g2, (h0 12 (by simp)).trans g3, ?_, h13.trans g5, fun g hg => ?_, ?_, fun i hi => ?_⟩
  · rw [h25]
    show _ = nI (h.sp ++ [s]).length
    rw [List.length_append]; rfl
  · rw [h7.2.2.1, h8.2.2.1]
    exact g6 g hg
  · have : (h.wsp (h.sp ++ [s])).q = stp h.te h.rs h.kd h.ft h.q s := run_snoc h.te h.rs h.kd h.ft h.sp s
    rw [this]
    exact hnow
  · have hi' : i < h.sp.length + 1 := by
      have : i < (h.sp ++ [s]).length := hi
      rw [List.length_append, List.length_singleton] at this
      exact this
    show nat11 μ' (c + 13) (11 * i) (run h.te h.rs h.kd h.ft ((h.sp ++ [s]).take i))
    rw [take_l (by omega)]
    by_cases e : i = h.sp.length
    · subst e
      rw [List.take_length]
      exact hlog
    · obtain ⟨k0, k1, k2, k3, k4, k5⟩ := g8 i (by omega)
      refine ⟨(hold _ (by omega)).trans k0, (hold _ (by omega)).trans k1, (hold _ (by omega)).trans k2, (hold _ (by omega)).trans k3, (hold _ (by omega)).trans k4, fun g hg => (hold _ (by omega)).trans (k5 g hg)⟩
/-- a walk remembered and taken, the model's side -/
theorem m_addWalk {R T : GR} {F : GF} {h : GH} {K : GK} {μ : Mm} {c s : Nat} (H : MI R T F h K μ c) (w : WH h) (h0 : ¬ h.n = 0) (hl : h.sp.length < 60) (hs : s < h.n) : ∃ μ', f_X12_walks (mrem μ c h.sp.length) c (c + 11) (nI s) = some μ' ∧ MI R T F (h.wsp (h.sp ++ [s])) K μ' c ∧ (∀ b, (b < c ∨ c + 26 ≤ b) → Sm μ μ' b) ∧ hz μ' = hz μ := by
  obtain ⟨g1, g2, g3, g4, g5, g6, g7, g8⟩ := H.2.2.2.2.1
  have hn6 := w.1
  obtain ⟨w3, w4, w5⟩ := w.2.2.1 s hs
  have hL1 : LM (mrem μ c h.sp.length) c := H.1
  have sm7 : Sm μ (mrem μ c h.sp.length) (c + 7) := mrem_sm (by omega) (by omega)
  have sm8 : Sm μ (mrem μ c h.sp.length) (c + 8) := mrem_sm (by omega) (by omega)
  have sm11 : Sm μ (mrem μ c h.sp.length) (c + 11) := mrem_sm (by omega) (by omega)
  have htr := l_tread (kd := h.kd) (ft := h.ft) (fl := h.q.2.2.1) hL1 (show s < 6 by omega) (by rw [sm7.2.2.1]; exact (g6 s hs).1) (by rw [sm8.2.2.1]; exact (g6 s hs).2) w3 w4 w5 (by rw [sm11.2.2.1]; exact g7.2.2.1) w.fl
  obtain ⟨μ', e1, e2, e3, e4, e5⟩ := m_walks (te := h.te) (rs := h.rs) (q := h.q) hL1 (show c + 11 ≠ c by omega) hL1.t11 hL1.n11 (show s < 6 by omega) htr (trd_le w5) (g7.mv sm11.2.2.1) (by rw [mrem_c (by decide)]; exact g2) (w.te_ge h0) w.te_lt g5 (w.sml h0)
  have hsm : ∀ b, b ≠ c → b ≠ c + 13 → b ≠ c + 11 → Sm μ μ' b := fun b z1 z2 z3 => (mrem_sm z1 z2).tr (e4 b z3)
  have hc : ∀ j, j ≠ 25 → mI μ' c j = mI μ c j := fun j hj => by rw [(e4 c (by omega)).2.2.1, mrem_c hj]
  refine ⟨μ', e1, H.hupd (h' := h.wsp (h.sp ++ [s])) (fun b z1 z2 => hsm b (by omega) (by omega) (by omega)) (fun b z1 z2 => hsm b (by omega) (by omega) (by omega)) (fun j hj => hc j (by omega)) (fun j hj => (e4 c (by omega)).2.2.2.1 j) e2 (MH_add H.2.2.2.2.1 (fun j hj => hc j (by omega)) ((e4 c (by omega)).2.2.2.1 13) (by rw [(e4 c (by omega)).2.2.1]; exact mrem_25) (hsm _ (by omega) (by omega) (by omega)) (hsm _ (by omega) (by omega) (by omega)) (by rw [stp_wlk (by omega)]; exact e3) ((mrem_log g7).mv (e4 (c + 13) (by omega)).2.2.1) (fun j hj => by rw [(e4 (c + 13) (by omega)).2.2.1, mrem_old hj])) ⟨rfl, rfl, rfl, rfl⟩, fun b hb => hsm b (by omega) (by omega) (by omega), e5⟩
theorem x_room1 {R T : GR} {F : GF} {h : GH} {K : GK} {μ : Mm} {a m : Nat} (H : XI R T F h K μ a) (hl : h.sp.length ≤ 60) (hm : m ≤ 30) : f_X3_hasRoomFor μ (a + 3) (nI m) = some (if 60 < h.sp.length + m then 0 else 1) := by
  by_cases e : 60 < h.sp.length + m
  · have e' : (60 : Int32) < nI (h.sp.length + m) := (show nI 60 < nI (h.sp.length + m) from nI_lt e (by omega))
    simp (config := { decide := true }) only [↓reduceIte, Option.bind_some, Option.bind_none, f_X3_hasRoomFor, x_hev H, nI_add, e, e']
  · have e' : ¬ (60 : Int32) < nI (h.sp.length + m) := (show ¬ nI 60 < nI (h.sp.length + m) from nI_nlt (by omega) (by omega))
    simp (config := { decide := true }) only [↓reduceIte, Option.bind_some, Option.bind_none, f_X3_hasRoomFor, x_hev H, nI_add, e, e']
theorem PSI_walk : PS_walk INV := by
  intro μ a1 a2 q1 hI
  refine both_of (fx := fun μ a => f_X11_walk μ a q1) (fm := fun μ c => f_X12_walk μ c q1) ?_ μ a1 a2 hI
  intro R T F h K hw
  have w := hw.2.2.1
  have hl := w.2.2.2.1
  rcases ix2 q1 h.n (by have := w.1; omega) with h1 | ⟨g, hg, rfl⟩
  · refine ⟨-1, R, T, F, h, K, hw, fun μ a H => XO.same H ?_, fun μ c H => MO.same H ?_⟩
    · simp (config := { decide := true }) only [↓reduceIte, Option.bind_some, Option.bind_none, f_X11_walk, H.1.t0, gP_of H.1.t0 H.1.p0_0, gP_of H.1.t0 H.1.p0_1, gP_of H.1.t0 H.1.p0_2, gP_of H.1.t0 H.1.p0_3, gP_of H.1.t0 H.1.p0_4, gP_of H.1.t0 H.1.p0_5, gP_of H.1.t0 H.1.p0_6, gP_of H.1.t0 H.1.p0_7, gP_of H.1.t0 H.1.p0_8, gP_of H.1.t0 H.1.p0_9, x_hasG_bad H h1]
    · simp (config := { decide := true }) only [↓reduceIte, Option.bind_some, Option.bind_none, f_X12_walk, H.1.t0, gP_of H.1.t0 H.1.p0_1, gP_of H.1.t0 H.1.p0_5, gP_of H.1.t0 H.1.p0_6, gP_of H.1.t0 H.1.p0_7, gP_of H.1.t0 H.1.p0_8, gP_of H.1.t0 H.1.p0_9, gP_of H.1.t0 H.1.p0_14, gP_of H.1.t0 H.1.p0_15, gP_of H.1.t0 H.1.p0_21, gP_of H.1.t0 H.1.p0_22, gP_of H.1.t0 H.1.p0_23, gP_of H.1.t0 H.1.p0_24, gP_of H.1.t0 H.1.p0_26, gP_of H.1.t0 H.1.p0_27, gP_of H.1.t0 H.1.p0_28, gP_of H.1.t0 H.1.p0_29, gP_of H.1.t0 H.1.p0_30, gP_of H.1.t0 H.1.p0_31, gP_of H.1.t0 H.1.p0_32, gP_of H.1.t0 H.1.p0_33, gP_of H.1.t0 H.1.p0_40, gP_of H.1.t0 H.1.p0_41, gP_of H.1.t0 H.1.p0_46, gP_of H.1.t0 H.1.p0_47, gP_of H.1.t0 H.1.p0_48, m_isG_bad H w h1]
  have hxr : ∀ μ a, XI R T F h K μ a → f_X3_hasRoomFor μ (a + 3) 1 = some (if 60 < h.sp.length + 1 then 0 else 1) := fun μ a H => x_room1 (m := 1) H hl (by decide)
  by_cases h60 : h.sp.length = 60
  · have e1 : 60 < h.sp.length + 1 := by omega
    refine ⟨-2, R, T, F, h, K, hw, fun μ a H => XO.same H ?_, fun μ c H => MO.same H ?_⟩
    · simp (config := { decide := true }) only [↓reduceIte, Option.bind_some, Option.bind_none, f_X11_walk, H.1.t0, gP_of H.1.t0 H.1.p0_0, gP_of H.1.t0 H.1.p0_1, gP_of H.1.t0 H.1.p0_2, gP_of H.1.t0 H.1.p0_3, gP_of H.1.t0 H.1.p0_4, gP_of H.1.t0 H.1.p0_5, gP_of H.1.t0 H.1.p0_6, gP_of H.1.t0 H.1.p0_7, gP_of H.1.t0 H.1.p0_8, gP_of H.1.t0 H.1.p0_9, x_hasG_ok H w hg, hxr μ a H, e1]
    · simp (config := { decide := true }) only [↓reduceIte, Option.bind_some, Option.bind_none, f_X12_walk, H.1.t0, gP_of H.1.t0 H.1.p0_1, gP_of H.1.t0 H.1.p0_5, gP_of H.1.t0 H.1.p0_6, gP_of H.1.t0 H.1.p0_7, gP_of H.1.t0 H.1.p0_8, gP_of H.1.t0 H.1.p0_9, gP_of H.1.t0 H.1.p0_14, gP_of H.1.t0 H.1.p0_15, gP_of H.1.t0 H.1.p0_21, gP_of H.1.t0 H.1.p0_22, gP_of H.1.t0 H.1.p0_23, gP_of H.1.t0 H.1.p0_24, gP_of H.1.t0 H.1.p0_26, gP_of H.1.t0 H.1.p0_27, gP_of H.1.t0 H.1.p0_28, gP_of H.1.t0 H.1.p0_29, gP_of H.1.t0 H.1.p0_30, gP_of H.1.t0 H.1.p0_31, gP_of H.1.t0 H.1.p0_32, gP_of H.1.t0 H.1.p0_33, gP_of H.1.t0 H.1.p0_40, gP_of H.1.t0 H.1.p0_41, gP_of H.1.t0 H.1.p0_46, gP_of H.1.t0 H.1.p0_47, gP_of H.1.t0 H.1.p0_48, m_isG_ok H w hg, m_hev H, h60, show nI 60 = 60 from rfl]
  have h0 : ¬ h.n = 0 := by omega
  have hl' : h.sp.length < 60 := by omega
  have hn6 := w.1
  have e1 : ¬ 60 < h.sp.length + 1 := by omega
  have e2 : ¬ nI h.sp.length = 60 := fun z => h60 ((nI_eq (b := 60) (by omega) (by decide)).mp z)
  refine ⟨nI (stp h.te h.rs h.kd h.ft h.q g).1, R, T, F, h.wsp (h.sp ++ [g]), K, ⟨hw.1, hw.2.1, w.wsp h0 (spok_snoc w.2.2.2 hl' (by omega) (fun _ => hg)), hw.2.2.2⟩, fun μ a H => ?_, fun μ c H => ?_⟩
  · obtain ⟨μ', x1, x2, x3, x4⟩ := x_add H w h0 hl' (show g < 9 by omega) (fun _ => hg)
    have hq : (h.wsp (h.sp ++ [g])).q = stp h.te h.rs h.kd h.ft h.q g := run_snoc h.te h.rs h.kd h.ft h.sp g
    refine ⟨μ', ?_, x2, x3, x4⟩
    have ev := (x_hev x2).2.2.2.1
    rw [hq] at ev
    show f_X11_walk μ a (nI g) = _
    simp (config := { decide := true }) only [↓reduceIte, Option.bind_some, Option.bind_none, f_X11_walk, H.1.t0, gP_of H.1.t0 H.1.p0_0, gP_of H.1.t0 H.1.p0_1, gP_of H.1.t0 H.1.p0_2, gP_of H.1.t0 H.1.p0_3, gP_of H.1.t0 H.1.p0_4, gP_of H.1.t0 H.1.p0_5, gP_of H.1.t0 H.1.p0_6, gP_of H.1.t0 H.1.p0_7, gP_of H.1.t0 H.1.p0_8, gP_of H.1.t0 H.1.p0_9, x_hasG_ok H w hg, hxr μ a H, e1, x1, gP_of x2.1.t0 x2.1.p0_2, ev]
  · obtain ⟨μ', x1, x2, x3, x4⟩ := m_addWalk H w h0 hl' hg
    have hq : (h.wsp (h.sp ++ [g])).q = stp h.te h.rs h.kd h.ft h.q g := run_snoc h.te h.rs h.kd h.ft h.sp g
    refine ⟨μ', ?_, x2, x3, by omega⟩
    have ev := (m_hev x2).2.2.2.2.2.1
    rw [hq] at ev
    have er := m_remember H.1 H.2.2.2.2.1.2.2.2.1 hl'
    have hL1 : LM (mrem μ c h.sp.length) c := H.1
    show f_X12_walk μ c (nI g) = _
    simp (config := { decide := true }) only [↓reduceIte, Option.bind_some, Option.bind_none, f_X12_walk, H.1.t0, gP_of H.1.t0 H.1.p0_1, gP_of H.1.t0 H.1.p0_5, gP_of H.1.t0 H.1.p0_6, gP_of H.1.t0 H.1.p0_7, gP_of H.1.t0 H.1.p0_8, gP_of H.1.t0 H.1.p0_9, gP_of H.1.t0 H.1.p0_14, gP_of H.1.t0 H.1.p0_15, gP_of H.1.t0 H.1.p0_21, gP_of H.1.t0 H.1.p0_22, gP_of H.1.t0 H.1.p0_23, gP_of H.1.t0 H.1.p0_24, gP_of H.1.t0 H.1.p0_26, gP_of H.1.t0 H.1.p0_27, gP_of H.1.t0 H.1.p0_28, gP_of H.1.t0 H.1.p0_29, gP_of H.1.t0 H.1.p0_30, gP_of H.1.t0 H.1.p0_31, gP_of H.1.t0 H.1.p0_32, gP_of H.1.t0 H.1.p0_33, gP_of H.1.t0 H.1.p0_40, gP_of H.1.t0 H.1.p0_41, gP_of H.1.t0 H.1.p0_46, gP_of H.1.t0 H.1.p0_47, gP_of H.1.t0 H.1.p0_48, m_isG_ok H w hg, m_hev H, e2, er, gP_of hL1.t0 hL1.p0_23, x1, gP_of x2.1.t0 x2.1.p0_23, ev]
