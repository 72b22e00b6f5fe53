/-! ===== lots ===== -/
theorem rem_g {μ : Mm} {x t : Nat} (hx : x < 2 ^ 31) (ht : 1 ≤ t) (ht2 : t < 2 ^ 31) : f_X11_remainder μ (nI x) (nI t) = some (nI (x % t)) := by
  have e1 : (1 : Int32) ≤ nI t := (show nI 1 ≤ nI t from nI_le (by omega) (by omega))
  have e2 : ¬ nI t = 0 := nI_ne0 (by omega) (by omega)
  have e3 : (0 : Int32) ≤ nI x ^^^ nI t := by
    have e0 : ¬ (nI x ^^^ nI t) < 0 := by
      intro q
      rw [Int32.lt_iff_toInt_lt] at q
      have hx1 : (nI x).toBitVec.msb = false := by
        rw [BitVec.msb_eq_false_iff_two_mul_lt, pk_tn (by omega)]; omega
      have ht1 : (nI t).toBitVec.msb = false := by
        rw [BitVec.msb_eq_false_iff_two_mul_lt, pk_tn (by omega)]; omega
      have hb : (nI x ^^^ nI t).toBitVec.msb = false := by
        rw [Int32.toBitVec_xor, BitVec.msb_xor, hx1, ht1]; rfl
      have : 0 ≤ (nI x ^^^ nI t).toBitVec.toInt := by
        rw [BitVec.toInt_eq_msb_cond, hb]
        exact Int.natCast_nonneg _
      have e5 : (nI x ^^^ nI t).toInt = (nI x ^^^ nI t).toBitVec.toInt := rfl
      have e6 : (0 : Int32).toInt = 0 := rfl
      omega
    exact i_nn e0
  simp (config := { decide := true }) only [↓reduceIte, Option.bind_some, Option.bind_none, f_X11_remainder, f_J9_floorMod_7cf53, e1, e2, e3, pk_rem hx (show 0 < t by omega) (show t < 2 ^ 31 by omega)]
/-- the next draw; the step of a draw -/
def nx (d : Nat) : Nat := 48271 * d % 2147483647
def stN (d n fl : Nat) : Nat := if d % 16 = 0 then 6 + (fl + 1) % 3 else d / 16 % n
theorem nx_lt (d : Nat) : nx d < 2147483647 := Nat.mod_lt _ (by decide)
theorem nx_l {d : Nat} (h : d < 2147483647) : ((48271 : Int64) * lN d) - ((48271 : Int64) * lN d) / (2147483647 : Int64) * (2147483647 : Int64) = lN (nx d) := by
  have e : (48271 : Int64) * lN d = lN (48271 * d) := lN_mul 48271 d
  rw [e]
  exact pk_lRem (a := 48271 * d) (b := 2147483647) (by omega) (by decide) (by decide)
theorem stN_ok {d n fl : Nat} (hn : 0 < n) (hn6 : n ≤ 6) : stN d n fl < 9 ∧ (stN d n fl < 6 → stN d n fl < n) := by
  unfold stN
  by_cases h : d % 16 = 0
  · rw [if_pos h]; omega
  · rw [if_neg h]
    have := Nat.mod_lt (d / 16) hn
    omega
/-- a hall after so many lots -/
def lotH : Nat → Nat → GH → GH
  | 0, _, h => h
  | m+1, d, h => lotH m (nx d) (h.wsp (h.sp ++ [stN (nx d) h.n h.q.2.2.1]))
theorem lotH_wf : ∀ (m d : Nat) (h : GH) (K : GK), WH h → ¬ h.n = 0 → h.sp.length + m ≤ 60 → WK h K → WH (lotH m d h) ∧ WK (lotH m d h) K := by
  intro m
  induction m with
  | zero => intro d h K w h0 hl wk; exact ⟨w, wk⟩
  | succ m ih =>
    intro d h K w h0 hl wk
    obtain ⟨s1, s2⟩ := stN_ok (d := nx d) (n := h.n) (fl := h.q.2.2.1) (by omega) w.1
    exact ih (nx d) (h.wsp (h.sp ++ [stN (nx d) h.n h.q.2.2.1])) K (w.wsp h0 (spok_snoc w.2.2.2 (by omega) s1 s2)) h0 (by
      show (h.sp ++ [stN (nx d) h.n h.q.2.2.1]).length + m ≤ 60
      rw [List.length_append, List.length_singleton]; omega) wk
theorem x_stepOf {R T : GR} {F : GF} {h : GH} {K : GK} {μ : Mm} {a d : Nat} (H : XI R T F h K μ a) (w : WH h) (h0 : ¬ h.n = 0) (hd : d < 2147483647) : f_X11_stepOf μ a (nI d) = some (nI (stN d h.n h.q.2.2.1)) := by
  have hn6 := w.1
  have hfl := w.fl
  have e16 := pk_rem (a := d) (d := 16) (by omega) (by decide) (by decide)
  have d16 := pk_div (a := d) (d := 16) (by omega) (by decide) (by decide)
  have e16' : nI d - nI d / 16 * 16 = nI (d % 16) := e16
  have d16' : nI d / 16 = nI (d / 16) := d16
  rw [d16'] at e16'
  have e3 := pk_rem (a := h.q.2.2.1 + 1) (d := 3) (by omega) (by decide) (by decide)
  have e3' : nI (h.q.2.2.1 + 1) - nI (h.q.2.2.1 + 1) / 3 * 3 = nI ((h.q.2.2.1 + 1) % 3) := e3
  have e6 : (6 : Int32) + nI ((h.q.2.2.1 + 1) % 3) = nI (6 + (h.q.2.2.1 + 1) % 3) := nI_add 6 _
  unfold stN
  by_cases h16 : d % 16 = 0
  · simp (config := { decide := true }) only [↓reduceIte, Option.bind_some, Option.bind_none, f_X11_stepOf, H.1.t0, gP_of H.1.t0 H.1.p0_0, gP_of H.1.t0 H.1.p0_1, gP_of H.1.t0 H.1.p0_2, gP_of H.1.t0 H.1.p0_3, gP_of H.1.t0 H.1.p0_4, gP_of H.1.t0 H.1.p0_5, gP_of H.1.t0 H.1.p0_6, gP_of H.1.t0 H.1.p0_7, gP_of H.1.t0 H.1.p0_8, gP_of H.1.t0 H.1.p0_9, d16', e16', h16, show nI 0 = 0 from rfl, x_hev H, nI_1, e3', e6]
  · have e0 : ¬ nI (d % 16) = 0 := nI_ne0 (by omega) (by omega)
    simp (config := { decide := true }) only [↓reduceIte, Option.bind_some, Option.bind_none, f_X11_stepOf, H.1.t0, gP_of H.1.t0 H.1.p0_0, gP_of H.1.t0 H.1.p0_1, gP_of H.1.t0 H.1.p0_2, gP_of H.1.t0 H.1.p0_3, gP_of H.1.t0 H.1.p0_4, gP_of H.1.t0 H.1.p0_5, gP_of H.1.t0 H.1.p0_6, gP_of H.1.t0 H.1.p0_7, gP_of H.1.t0 H.1.p0_8, gP_of H.1.t0 H.1.p0_9, d16', e16', h16, e0, x_hev H, rem_g (show d / 16 < 2 ^ 31 by omega) (show 1 ≤ h.n by omega) (show h.n < 2 ^ 31 by omega)]
theorem x_lots_l {R T : GR} {F : GF} {K : GK} {a P : Nat} (hP : P ≤ 30) : ∀ (m f i d : Nat) (h : GH) (μ : Mm), i + m = P → m < f → d < 2147483647 → XI R T F h K μ a → WH h → ¬ h.n = 0 → h.sp.length + m ≤ 60 → ∃ μ', lp_X11_lots_60 f a (nI P) (lN d) (nI i) μ = some μ' ∧ XI R T F (lotH m d h) K μ' a ∧ (∀ b, a + 59 ≤ b → b < a + 85 → Sm μ μ' b) ∧ hz μ ≤ hz μ' := by
  intro m
  induction m with
  | zero =>
    intro f i d h μ e1 e2 hd H w h0 hl
    obtain ⟨f, rfl⟩ : ∃ g, f = g + 1 := ⟨f - 1, by omega⟩
    have e : nI P ≤ nI i := nI_le (by omega) (by omega)
    refine ⟨μ, ?_, H, fun b _ _ => Sm.rf μ b, Nat.le_refl _⟩
    simp (config := { decide := true }) only [↓reduceIte, Option.bind_some, Option.bind_none, lp_X11_lots_60, e]
  | succ m ih =>
    intro f i d h μ e1 e2 hd H w h0 hl
    obtain ⟨f, rfl⟩ : ∃ g, f = g + 1 := ⟨f - 1, by omega⟩
    have e : ¬ nI P ≤ nI i := nI_ge (by omega) (by omega)
    obtain ⟨s1, s2⟩ := stN_ok (d := nx d) (n := h.n) (fl := h.q.2.2.1) (by omega) w.1
    obtain ⟨μ1, x1, x2, x3, x4⟩ := x_add H w h0 (show h.sp.length < 60 by omega) s1 s2
    obtain ⟨μ2, y1, y2, y3, y4⟩ := ih f (i + 1) (nx d) _ μ1 (by omega) (by omega) (nx_lt d) x2 (w.wsp h0 (spok_snoc w.2.2.2 (by omega) s1 s2)) h0 (by
      show (h.sp ++ [stN (nx d) h.n h.q.2.2.1]).length + m ≤ 60
      rw [List.length_append, List.length_singleton]; omega)
    refine ⟨μ2, ?_, y2, fun b z1 z2 => (x3 b z1 z2).tr (y3 b z1 z2), Nat.le_trans x4 y4⟩
    simp (config := { decide := true }) only [↓reduceIte, Option.bind_some, Option.bind_none, lp_X11_lots_60, H.1.t0, gP_of H.1.t0 H.1.p0_0, gP_of H.1.t0 H.1.p0_1, gP_of H.1.t0 H.1.p0_2, gP_of H.1.t0 H.1.p0_3, gP_of H.1.t0 H.1.p0_4, gP_of H.1.t0 H.1.p0_5, gP_of H.1.t0 H.1.p0_6, gP_of H.1.t0 H.1.p0_7, gP_of H.1.t0 H.1.p0_8, gP_of H.1.t0 H.1.p0_9, e, nx_l hd, lN_i, x_stepOf H w h0 (nx_lt d), x1, nI_1, y1]
theorem m_addFloor {R T : GR} {F : GF} {h : GH} {K : GK} {μ : Mm} {c f : Nat} (H : MI R T F h K μ c) (hf : f ≤ 2) : MI R T F (h.wsp (h.sp ++ [6 + f])) K (sI (mrem μ c h.sp.length) (c + 11) 2 (nI f)) c ∧ ∀ b, (b < c ∨ c + 26 ≤ b) → Sm μ (sI (mrem μ c h.sp.length) (c + 11) 2 (nI f)) b := by
  have sm11 : Sm μ (mrem μ c h.sp.length) (c + 11) := mrem_sm (by omega) (by omega)
  have g7 := H.2.2.2.2.1.2.2.2.2.2.2.1
  have hsm : ∀ b, b ≠ c → b ≠ c + 13 → b ≠ c + 11 → Sm μ (sI (mrem μ c h.sp.length) (c + 11) 2 (nI f)) b := fun b z1 z2 z3 => (mrem_sm z1 z2).sI z3
  have hc : ∀ j, j ≠ 25 → mI (sI (mrem μ c h.sp.length) (c + 11) 2 (nI f)) c j = mI μ c j := fun j hj => by rw [mI_ne (by omega), mrem_c hj]
  refine ⟨H.hupd (h' := h.wsp (h.sp ++ [6 + f])) (fun b z1 z2 => hsm b (by omega) (by omega) (by omega)) (fun b z1 z2 => hsm b (by omega) (by omega) (by omega)) (fun j hj => hc j (by omega)) (fun j hj => rfl) H.1 (MH_add H.2.2.2.2.1 (fun j hj => hc j (by omega)) rfl (by rw [mI_ne (by omega)]; exact mrem_25) (hsm _ (by omega) (by omega) (by omega)) (hsm _ (by omega) (by omega) (by omega)) ?_ ((mrem_log g7).mv (fun j => mI_ne (by omega))) (fun j hj => by rw [mI_ne (by omega), mrem_old hj])) ⟨rfl, rfl, rfl, rfl⟩, fun b hb => hsm b (by omega) (by omega) (by omega)⟩
  have : stp h.te h.rs h.kd h.ft h.q (6 + f) = (h.q.1, h.q.2.1, f, h.q.2.2.2.1, h.q.2.2.2.2.1, h.q.2.2.2.2.2) := by
    unfold stp
    rw [if_neg (by omega), Nat.add_sub_cancel_left]
  rw [this]
  exact nat11_set2 (g7.mv sm11.2.2.1)
theorem m_lots_l {R T : GR} {F : GF} {K : GK} {c P : Nat} (hP : P ≤ 30) : ∀ (m f i d : Nat) (h : GH) (μ : Mm), i + m = P → m < f → d < 2147483647 → MI R T F h K μ c → WH h → ¬ h.n = 0 → h.sp.length + m ≤ 60 → ∃ μ', lp_X12_lots_53 f c (nI P) (lN d) (nI i) μ = some μ' ∧ MI R T F (lotH m d h) K μ' c ∧ (∀ b, (b < c ∨ c + 26 ≤ b) → Sm μ μ' b) ∧ hz μ' = hz μ := by
  intro m
  induction m with
  | zero =>
    intro f i d h μ e1 e2 hd H w h0 hl
    obtain ⟨f, rfl⟩ : ∃ g, f = g + 1 := ⟨f - 1, by omega⟩
    have e : nI P ≤ nI i := nI_le (by omega) (by omega)
    refine ⟨μ, ?_, H, fun b _ => Sm.rf μ b, rfl⟩
    simp (config := { decide := true }) only [↓reduceIte, Option.bind_some, Option.bind_none, lp_X12_lots_53, e]
  | succ m ih =>
    intro f i d h μ e1 e2 hd H w h0 hl
    obtain ⟨f, rfl⟩ : ∃ g, f = g + 1 := ⟨f - 1, by omega⟩
    have hn6 := w.1
    have hfl := w.fl
    have e : ¬ nI P ≤ nI i := nI_ge (by omega) (by omega)
    have hnx := nx_lt d
    obtain ⟨s1, s2⟩ := stN_ok (d := nx d) (n := h.n) (fl := h.q.2.2.1) (by omega) w.1
    have hw' := w.wsp h0 (spok_snoc w.2.2.2 (show h.sp.length < 60 by omega) s1 s2)
    have hl' : (h.wsp (h.sp ++ [stN (nx d) h.n h.q.2.2.1])).sp.length + m ≤ 60 := by
      show (h.sp ++ [stN (nx d) h.n h.q.2.2.1]).length + m ≤ 60
      rw [List.length_append, List.length_singleton]; omega
    have er := m_remember H.1 H.2.2.2.2.1.2.2.2.1 (show h.sp.length < 60 by omega)
    have hL1 : LM (mrem μ c h.sp.length) c := H.1
    have sm11 : Sm μ (mrem μ c h.sp.length) (c + 11) := mrem_sm (by omega) (by omega)
    have d16 : lN (nx d) / 16 = lN (nx d / 16) := pk_lDiv (a := nx d) (b := 16) (by omega) (by decide) (by decide)
    have e16 : lN (nx d) - lN (nx d) / 16 * 16 = lN (nx d % 16) := pk_lRem (a := nx d) (b := 16) (by omega) (by decide) (by decide)
    rw [d16] at e16
    by_cases h16 : nx d % 16 = 0
    · have est : stN (nx d) h.n h.q.2.2.1 = 6 + (h.q.2.2.1 + 1) % 3 := if_pos h16
      obtain ⟨x2, x3⟩ := m_addFloor H (f := (h.q.2.2.1 + 1) % 3) (by omega)
      rw [est] at hw' hl'
      obtain ⟨μ2, y1, y2, y3, y4⟩ := ih f (i + 1) (nx d) _ (sI (mrem μ c h.sp.length) (c + 11) 2 (nI ((h.q.2.2.1 + 1) % 3))) (by omega) (by omega) hnx x2 hw' h0 hl'
      have ez : lg_cmp (lN (nx d % 16)) 0 = 0 := by rw [h16]; exact (lg_cmp_eq _ _).mpr rfl
      have hnow : mI (mrem μ c h.sp.length) (c + 11) 2 = nI h.q.2.2.1 := by rw [sm11.2.2.1]; exact H.2.2.2.2.1.2.2.2.2.2.2.1.2.2.1
      have ea : aI (mrem μ c h.sp.length) (c + 11) 21 2 = some (nI h.q.2.2.1) := (aI_l 2 rfl hL1.t11 hL1.n11 (by decide)).trans (congrArg some hnow)
      have eq : qI (mrem μ c h.sp.length) (c + 11) 21 2 (nI ((h.q.2.2.1 + 1) % 3)) = some (sI (mrem μ c h.sp.length) (c + 11) 2 (nI ((h.q.2.2.1 + 1) % 3))) := qI_l 2 rfl hL1.t11 hL1.n11 (by decide)
      have e3 : nI (h.q.2.2.1 + 1) - nI (h.q.2.2.1 + 1) / 3 * 3 = nI ((h.q.2.2.1 + 1) % 3) := pk_rem (a := h.q.2.2.1 + 1) (d := 3) (by omega) (by decide) (by decide)
      refine ⟨μ2, ?_, ?_, fun b hb => (x3 b hb).tr (y3 b hb), y4⟩
      · simp (config := { decide := true }) only [↓reduceIte, Option.bind_some, Option.bind_none, lp_X12_lots_53, e, er, nx_l hd, d16, e16, ez, gP_of hL1.t0 hL1.p0_23, ea, nI_1, e3, eq, y1]
      · show MI R T F (lotH m (nx d) (h.wsp (h.sp ++ [stN (nx d) h.n h.q.2.2.1]))) K μ2 c
        rw [est]; exact y2
    · have est : stN (nx d) h.n h.q.2.2.1 = nx d / 16 % h.n := if_neg h16
      have hlt := Nat.mod_lt (nx d / 16) (show 0 < h.n by omega)
      obtain ⟨μ1, x1, x2, x3, x4⟩ := m_addWalk H w h0 (show h.sp.length < 60 by omega) hlt
      rw [est] at hw' hl'
      obtain ⟨μ2, y1, y2, y3, y4⟩ := ih f (i + 1) (nx d) _ μ1 (by omega) (by omega) hnx x2 hw' h0 hl'
      have ez : ¬ lg_cmp (lN (nx d % 16)) 0 = 0 := fun z => h16 ((pk_lEQ (b := 0) (by omega) (by decide)).mp ((lg_cmp_eq _ _).mp z))
      have c10 : gI (mrem μ c h.sp.length) c 13 10 = some (nI h.n) := gI_e hL1.t0 (by rw [mrem_c (by decide)]; exact H.2.2.2.2.1.1)
      have en : (nI h.n).toInt64 = lN h.n := nI_l (by omega)
      have en0 : ¬ lN h.n = 0 := fun z => h0 ((pk_lEQ (b := 0) (by omega) (by decide)).mp z)
      have erm : lN (nx d / 16) - lN (nx d / 16) / lN h.n * lN h.n = lN (nx d / 16 % h.n) := pk_lRem (by omega) (by omega) (by omega)
      refine ⟨μ2, ?_, ?_, fun b hb => (x3 b hb).tr (y3 b hb), y4.trans x4⟩
      · simp (config := { decide := true }) only [↓reduceIte, Option.bind_some, Option.bind_none, lp_X12_lots_53, e, er, nx_l hd, d16, e16, ez, gP_of hL1.t0 hL1.p0_23, c10, en, en0, erm, lN_i, x1, nI_1, y1]
      · show MI R T F (lotH m (nx d) (h.wsp (h.sp ++ [stN (nx d) h.n h.q.2.2.1]))) K μ2 c
        rw [est]; exact y2
theorem PSI_lots : PS_lots INV := by
  intro μ a1 a2 q1 q2 hI
  refine both_of (fx := fun μ a => f_X11_lots μ a q1 q2) (fm := fun μ c => f_X12_lots μ c q1 q2) ?_ μ a1 a2 hI
  intro R T F h K hw
  have w := hw.2.2.1
  have hl := w.2.2.2.1
  have hn6 := w.1
  rcases ix1 q1 30 (by decide) with h1 | ⟨h1, h2⟩ | ⟨P, hP1, hP, rfl⟩
  · refine ⟨-1, R, T, F, h, K, hw, fun μ a H => XO.same H ?_, fun μ c H => MO.same H ?_⟩
    · simp (config := { decide := true }) only [↓reduceIte, Option.bind_some, Option.bind_none, f_X11_lots, H.1.t0, gP_of H.1.t0 H.1.p0_0, gP_of H.1.t0 H.1.p0_1, gP_of H.1.t0 H.1.p0_2, gP_of H.1.t0 H.1.p0_3, gP_of H.1.t0 H.1.p0_4, gP_of H.1.t0 H.1.p0_5, gP_of H.1.t0 H.1.p0_6, gP_of H.1.t0 H.1.p0_7, gP_of H.1.t0 H.1.p0_8, gP_of H.1.t0 H.1.p0_9, h1]
    · simp (config := { decide := true }) only [↓reduceIte, Option.bind_some, Option.bind_none, f_X12_lots, H.1.t0, gP_of H.1.t0 H.1.p0_1, gP_of H.1.t0 H.1.p0_5, gP_of H.1.t0 H.1.p0_6, gP_of H.1.t0 H.1.p0_7, gP_of H.1.t0 H.1.p0_8, gP_of H.1.t0 H.1.p0_9, gP_of H.1.t0 H.1.p0_14, gP_of H.1.t0 H.1.p0_15, gP_of H.1.t0 H.1.p0_21, gP_of H.1.t0 H.1.p0_22, gP_of H.1.t0 H.1.p0_23, gP_of H.1.t0 H.1.p0_24, gP_of H.1.t0 H.1.p0_26, gP_of H.1.t0 H.1.p0_27, gP_of H.1.t0 H.1.p0_28, gP_of H.1.t0 H.1.p0_29, gP_of H.1.t0 H.1.p0_30, gP_of H.1.t0 H.1.p0_31, gP_of H.1.t0 H.1.p0_32, gP_of H.1.t0 H.1.p0_33, gP_of H.1.t0 H.1.p0_40, gP_of H.1.t0 H.1.p0_41, gP_of H.1.t0 H.1.p0_46, gP_of H.1.t0 H.1.p0_47, gP_of H.1.t0 H.1.p0_48, f_X12_in, h1]
  · have h2' : 30 < q1 := h2
    refine ⟨-1, R, T, F, h, K, hw, fun μ a H => XO.same H ?_, fun μ c H => MO.same H ?_⟩
    · simp (config := { decide := true }) only [↓reduceIte, Option.bind_some, Option.bind_none, f_X11_lots, H.1.t0, gP_of H.1.t0 H.1.p0_0, gP_of H.1.t0 H.1.p0_1, gP_of H.1.t0 H.1.p0_2, gP_of H.1.t0 H.1.p0_3, gP_of H.1.t0 H.1.p0_4, gP_of H.1.t0 H.1.p0_5, gP_of H.1.t0 H.1.p0_6, gP_of H.1.t0 H.1.p0_7, gP_of H.1.t0 H.1.p0_8, gP_of H.1.t0 H.1.p0_9, h1, h2']
    · simp (config := { decide := true }) only [↓reduceIte, Option.bind_some, Option.bind_none, f_X12_lots, H.1.t0, gP_of H.1.t0 H.1.p0_1, gP_of H.1.t0 H.1.p0_5, gP_of H.1.t0 H.1.p0_6, gP_of H.1.t0 H.1.p0_7, gP_of H.1.t0 H.1.p0_8, gP_of H.1.t0 H.1.p0_9, gP_of H.1.t0 H.1.p0_14, gP_of H.1.t0 H.1.p0_15, gP_of H.1.t0 H.1.p0_21, gP_of H.1.t0 H.1.p0_22, gP_of H.1.t0 H.1.p0_23, gP_of H.1.t0 H.1.p0_24, gP_of H.1.t0 H.1.p0_26, gP_of H.1.t0 H.1.p0_27, gP_of H.1.t0 H.1.p0_28, gP_of H.1.t0 H.1.p0_29, gP_of H.1.t0 H.1.p0_30, gP_of H.1.t0 H.1.p0_31, gP_of H.1.t0 H.1.p0_32, gP_of H.1.t0 H.1.p0_33, gP_of H.1.t0 H.1.p0_40, gP_of H.1.t0 H.1.p0_41, gP_of H.1.t0 H.1.p0_46, gP_of H.1.t0 H.1.p0_47, gP_of H.1.t0 H.1.p0_48, f_X12_in, h1, h2']
  have e1 : ¬ nI P < 1 := (show ¬ nI P < nI 1 from nI_nlt hP1 (by omega))
  have e2 : ¬ 30 < nI P := (show ¬ nI 30 < nI P from nI_nlt hP (by decide))
  by_cases h3 : q2 < 1
  · refine ⟨-1, R, T, F, h, K, hw, fun μ a H => XO.same H ?_, fun μ c H => MO.same H ?_⟩
    · simp (config := { decide := true }) only [↓reduceIte, Option.bind_some, Option.bind_none, f_X11_lots, H.1.t0, gP_of H.1.t0 H.1.p0_0, gP_of H.1.t0 H.1.p0_1, gP_of H.1.t0 H.1.p0_2, gP_of H.1.t0 H.1.p0_3, gP_of H.1.t0 H.1.p0_4, gP_of H.1.t0 H.1.p0_5, gP_of H.1.t0 H.1.p0_6, gP_of H.1.t0 H.1.p0_7, gP_of H.1.t0 H.1.p0_8, gP_of H.1.t0 H.1.p0_9, e1, e2, h3]
    · simp (config := { decide := true }) only [↓reduceIte, Option.bind_some, Option.bind_none, f_X12_lots, H.1.t0, gP_of H.1.t0 H.1.p0_1, gP_of H.1.t0 H.1.p0_5, gP_of H.1.t0 H.1.p0_6, gP_of H.1.t0 H.1.p0_7, gP_of H.1.t0 H.1.p0_8, gP_of H.1.t0 H.1.p0_9, gP_of H.1.t0 H.1.p0_14, gP_of H.1.t0 H.1.p0_15, gP_of H.1.t0 H.1.p0_21, gP_of H.1.t0 H.1.p0_22, gP_of H.1.t0 H.1.p0_23, gP_of H.1.t0 H.1.p0_24, gP_of H.1.t0 H.1.p0_26, gP_of H.1.t0 H.1.p0_27, gP_of H.1.t0 H.1.p0_28, gP_of H.1.t0 H.1.p0_29, gP_of H.1.t0 H.1.p0_30, gP_of H.1.t0 H.1.p0_31, gP_of H.1.t0 H.1.p0_32, gP_of H.1.t0 H.1.p0_33, gP_of H.1.t0 H.1.p0_40, gP_of H.1.t0 H.1.p0_41, gP_of H.1.t0 H.1.p0_46, gP_of H.1.t0 H.1.p0_47, gP_of H.1.t0 H.1.p0_48, f_X12_in, e1, e2, h3]
  obtain ⟨d, hd, rfl⟩ := nI_of (x := q2) (fun z => h3 (lt_one z))
  have hdl : (nI d).toInt64 = lN d := nI_l hd
  by_cases h4 : d < 2147483647
  rotate_left
  · have e4 : ¬ lg_cmp (lN d) 2147483647 < 0 := fun z => by
      have := (lg_cmp_lt _ _).mp z
      exact h4 ((pk_lLT (b := 2147483647) (by omega) (by decide)).mp this)
    have e5 : 2147483646 < nI d := (show nI 2147483646 < nI d from nI_lt (by omega) (by omega))
    refine ⟨-1, R, T, F, h, K, hw, fun μ a H => XO.same H ?_, fun μ c H => MO.same H ?_⟩
    · simp (config := { decide := true }) only [↓reduceIte, Option.bind_some, Option.bind_none, f_X11_lots, H.1.t0, gP_of H.1.t0 H.1.p0_0, gP_of H.1.t0 H.1.p0_1, gP_of H.1.t0 H.1.p0_2, gP_of H.1.t0 H.1.p0_3, gP_of H.1.t0 H.1.p0_4, gP_of H.1.t0 H.1.p0_5, gP_of H.1.t0 H.1.p0_6, gP_of H.1.t0 H.1.p0_7, gP_of H.1.t0 H.1.p0_8, gP_of H.1.t0 H.1.p0_9, e1, e2, h3, hdl, e4]
    · simp (config := { decide := true }) only [↓reduceIte, Option.bind_some, Option.bind_none, f_X12_lots, H.1.t0, gP_of H.1.t0 H.1.p0_1, gP_of H.1.t0 H.1.p0_5, gP_of H.1.t0 H.1.p0_6, gP_of H.1.t0 H.1.p0_7, gP_of H.1.t0 H.1.p0_8, gP_of H.1.t0 H.1.p0_9, gP_of H.1.t0 H.1.p0_14, gP_of H.1.t0 H.1.p0_15, gP_of H.1.t0 H.1.p0_21, gP_of H.1.t0 H.1.p0_22, gP_of H.1.t0 H.1.p0_23, gP_of H.1.t0 H.1.p0_24, gP_of H.1.t0 H.1.p0_26, gP_of H.1.t0 H.1.p0_27, gP_of H.1.t0 H.1.p0_28, gP_of H.1.t0 H.1.p0_29, gP_of H.1.t0 H.1.p0_30, gP_of H.1.t0 H.1.p0_31, gP_of H.1.t0 H.1.p0_32, gP_of H.1.t0 H.1.p0_33, gP_of H.1.t0 H.1.p0_40, gP_of H.1.t0 H.1.p0_41, gP_of H.1.t0 H.1.p0_46, gP_of H.1.t0 H.1.p0_47, gP_of H.1.t0 H.1.p0_48, f_X12_in, e1, e2, h3, e5]
  have e4 : lg_cmp (lN d) 2147483647 < 0 := (lg_cmp_lt _ _).mpr ((pk_lLT (b := 2147483647) (by omega) (by decide)).mpr h4)
  have e5 : ¬ 2147483646 < nI d := (show ¬ nI 2147483646 < nI d from nI_nlt (by omega) (by decide))
  by_cases h0 : h.n = 0
  · refine ⟨-4, R, T, F, h, K, hw, fun μ a H => XO.same H ?_, fun μ c H => MO.same H ?_⟩
    · simp (config := { decide := true }) only [↓reduceIte, Option.bind_some, Option.bind_none, f_X11_lots, H.1.t0, gP_of H.1.t0 H.1.p0_0, gP_of H.1.t0 H.1.p0_1, gP_of H.1.t0 H.1.p0_2, gP_of H.1.t0 H.1.p0_3, gP_of H.1.t0 H.1.p0_4, gP_of H.1.t0 H.1.p0_5, gP_of H.1.t0 H.1.p0_6, gP_of H.1.t0 H.1.p0_7, gP_of H.1.t0 H.1.p0_8, gP_of H.1.t0 H.1.p0_9, e1, e2, h3, hdl, e4, x_empty H h0]
    · simp (config := { decide := true }) only [↓reduceIte, Option.bind_some, Option.bind_none, f_X12_lots, H.1.t0, gP_of H.1.t0 H.1.p0_1, gP_of H.1.t0 H.1.p0_5, gP_of H.1.t0 H.1.p0_6, gP_of H.1.t0 H.1.p0_7, gP_of H.1.t0 H.1.p0_8, gP_of H.1.t0 H.1.p0_9, gP_of H.1.t0 H.1.p0_14, gP_of H.1.t0 H.1.p0_15, gP_of H.1.t0 H.1.p0_21, gP_of H.1.t0 H.1.p0_22, gP_of H.1.t0 H.1.p0_23, gP_of H.1.t0 H.1.p0_24, gP_of H.1.t0 H.1.p0_26, gP_of H.1.t0 H.1.p0_27, gP_of H.1.t0 H.1.p0_28, gP_of H.1.t0 H.1.p0_29, gP_of H.1.t0 H.1.p0_30, gP_of H.1.t0 H.1.p0_31, gP_of H.1.t0 H.1.p0_32, gP_of H.1.t0 H.1.p0_33, gP_of H.1.t0 H.1.p0_40, gP_of H.1.t0 H.1.p0_41, gP_of H.1.t0 H.1.p0_46, gP_of H.1.t0 H.1.p0_47, gP_of H.1.t0 H.1.p0_48, f_X12_in, e1, e2, h3, e5, m_hev H, h0, show nI 0 = 0 from rfl]
  have hn0 : ¬ nI h.n = 0 := nI_ne0 (by omega) (by omega)
  by_cases h6 : 60 < h.sp.length + P
  · have e6 : ¬ nI (h.sp.length + P) ≤ 60 := (show ¬ nI (h.sp.length + P) ≤ nI 60 from nI_ge h6 (by omega))
    refine ⟨-2, R, T, F, h, K, hw, fun μ a H => XO.same H ?_, fun μ c H => MO.same H ?_⟩
    · simp (config := { decide := true }) only [↓reduceIte, Option.bind_some, Option.bind_none, f_X11_lots, H.1.t0, gP_of H.1.t0 H.1.p0_0, gP_of H.1.t0 H.1.p0_1, gP_of H.1.t0 H.1.p0_2, gP_of H.1.t0 H.1.p0_3, gP_of H.1.t0 H.1.p0_4, gP_of H.1.t0 H.1.p0_5, gP_of H.1.t0 H.1.p0_6, gP_of H.1.t0 H.1.p0_7, gP_of H.1.t0 H.1.p0_8, gP_of H.1.t0 H.1.p0_9, e1, e2, h3, hdl, e4, x_full H w h0, x_room1 H hl hP, h6]
    · simp (config := { decide := true }) only [↓reduceIte, Option.bind_some, Option.bind_none, f_X12_lots, H.1.t0, gP_of H.1.t0 H.1.p0_1, gP_of H.1.t0 H.1.p0_5, gP_of H.1.t0 H.1.p0_6, gP_of H.1.t0 H.1.p0_7, gP_of H.1.t0 H.1.p0_8, gP_of H.1.t0 H.1.p0_9, gP_of H.1.t0 H.1.p0_14, gP_of H.1.t0 H.1.p0_15, gP_of H.1.t0 H.1.p0_21, gP_of H.1.t0 H.1.p0_22, gP_of H.1.t0 H.1.p0_23, gP_of H.1.t0 H.1.p0_24, gP_of H.1.t0 H.1.p0_26, gP_of H.1.t0 H.1.p0_27, gP_of H.1.t0 H.1.p0_28, gP_of H.1.t0 H.1.p0_29, gP_of H.1.t0 H.1.p0_30, gP_of H.1.t0 H.1.p0_31, gP_of H.1.t0 H.1.p0_32, gP_of H.1.t0 H.1.p0_33, gP_of H.1.t0 H.1.p0_40, gP_of H.1.t0 H.1.p0_41, gP_of H.1.t0 H.1.p0_46, gP_of H.1.t0 H.1.p0_47, gP_of H.1.t0 H.1.p0_48, f_X12_in, e1, e2, h3, e5, m_hev H, hn0, nI_add, e6]
  have e6 : nI (h.sp.length + P) ≤ 60 := (show nI (h.sp.length + P) ≤ nI 60 from nI_le (by omega) (by decide))
  obtain ⟨wf1, wf2⟩ := lotH_wf P d h K w h0 (by omega) hw.2.2.2
  refine ⟨nI (lotH P d h).q.1, R, T, F, lotH P d h, K, ⟨hw.1, hw.2.1, wf1, wf2⟩, fun μ a H => ?_, fun μ c H => ?_⟩
  · obtain ⟨μ', x1, x2, x3, x4⟩ := x_lots_l hP P BIG 0 d h μ (by omega) (by unfold BIG; omega) h4 H w h0 (by omega)
    have x1' : lp_X11_lots_60 BIG a (nI P) (lN d) 0 μ = some μ' := x1
    refine ⟨μ', ?_, x2, x3, x4⟩
    show f_X11_lots μ a (nI P) (nI d) = _
    simp (config := { decide := true }) only [↓reduceIte, Option.bind_some, Option.bind_none, f_X11_lots, H.1.t0, gP_of H.1.t0 H.1.p0_0, gP_of H.1.t0 H.1.p0_1, gP_of H.1.t0 H.1.p0_2, gP_of H.1.t0 H.1.p0_3, gP_of H.1.t0 H.1.p0_4, gP_of H.1.t0 H.1.p0_5, gP_of H.1.t0 H.1.p0_6, gP_of H.1.t0 H.1.p0_7, gP_of H.1.t0 H.1.p0_8, gP_of H.1.t0 H.1.p0_9, e1, e2, h3, hdl, e4, x_full H w h0, x_room1 H hl hP, h6, x1', gP_of x2.1.t0 x2.1.p0_2, (x_hev x2).2.2.2.1]
  · obtain ⟨μ', x1, x2, x3, x4⟩ := m_lots_l hP P BIG 0 d h μ (by omega) (by unfold BIG; omega) h4 H w h0 (by omega)
    have x1' : lp_X12_lots_53 BIG c (nI P) (lN d) 0 μ = some μ' := x1
    refine ⟨μ', ?_, x2, x3, by omega⟩
    show f_X12_lots μ c (nI P) (nI d) = _
    simp (config := { decide := true }) only [↓reduceIte, Option.bind_some, Option.bind_none, f_X12_lots, H.1.t0, gP_of H.1.t0 H.1.p0_1, gP_of H.1.t0 H.1.p0_5, gP_of H.1.t0 H.1.p0_6, gP_of H.1.t0 H.1.p0_7, gP_of H.1.t0 H.1.p0_8, gP_of H.1.t0 H.1.p0_9, gP_of H.1.t0 H.1.p0_14, gP_of H.1.t0 H.1.p0_15, gP_of H.1.t0 H.1.p0_21, gP_of H.1.t0 H.1.p0_22, gP_of H.1.t0 H.1.p0_23, gP_of H.1.t0 H.1.p0_24, gP_of H.1.t0 H.1.p0_26, gP_of H.1.t0 H.1.p0_27, gP_of H.1.t0 H.1.p0_28, gP_of H.1.t0 H.1.p0_29, gP_of H.1.t0 H.1.p0_30, gP_of H.1.t0 H.1.p0_31, gP_of H.1.t0 H.1.p0_32, gP_of H.1.t0 H.1.p0_33, gP_of H.1.t0 H.1.p0_40, gP_of H.1.t0 H.1.p0_41, gP_of H.1.t0 H.1.p0_46, gP_of H.1.t0 H.1.p0_47, gP_of H.1.t0 H.1.p0_48, f_X12_in, e1, e2, h3, e5, m_hev H, hn0, nI_add, e6, hdl, x1', gP_of x2.1.t0 x2.1.p0_23, (m_hev x2).2.2.2.2.2.1]
