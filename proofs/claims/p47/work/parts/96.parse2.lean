/-! ===== the class's reader ===== -/
def RX (P : PS) (i : Nat) (wv : Int32) (μ : Mm) (a : Nat) : Prop := mI μ (a + 18) 2 = nI P.n ∧ mI μ (a + 18) 3 = nI P.te ∧ mI μ (a + 18) 5 = nI P.rm ∧ mI μ (a + 18) 6 = nI i ∧ mI μ (a + 18) 7 = wv ∧ mL μ (a + 18) 4 = P.rs ∧ ∀ x, x < P.n → mI μ (a + 19) x = nI (P.kd x) ∧ mI μ (a + 20) x = nI (P.ft x)
theorem RX.at6 {P : PS} {i j : Nat} {wv : Int32} {μ : Mm} {a : Nat} (h : RX P i wv μ a) : RX P j wv (sI μ (a + 18) 6 (nI j)) a := by
  obtain ⟨h1, h2, h3, h4, h5, h6, h7⟩ := h
  exact ⟨by rw [mI_nk (by decide)]; exact h1, by rw [mI_nk (by decide)]; exact h2, by rw [mI_nk (by decide)]; exact h3, mI_eq, by rw [mI_nk (by decide)]; exact h5, h6, fun x hx => by rw [mI_ne (by omega), mI_ne (by omega)]; exact h7 x hx⟩
theorem RX.at7 {P : PS} {i : Nat} {wv v : Int32} {μ : Mm} {a : Nat} (h : RX P i wv μ a) : RX P i v (sI μ (a + 18) 7 v) a := by
  obtain ⟨h1, h2, h3, h4, h5, h6, h7⟩ := h
  exact ⟨by rw [mI_nk (by decide)]; exact h1, by rw [mI_nk (by decide)]; exact h2, by rw [mI_nk (by decide)]; exact h3, by rw [mI_nk (by decide)]; exact h4, mI_eq, h6, fun x hx => by rw [mI_ne (by omega), mI_ne (by omega)]; exact h7 x hx⟩
section PX
variable {R T : GR} {F : GF} {h : GH} {K : GK} {a t m : Nat}
theorem rx_ev {P : PS} {i : Nat} {wv : Int32} {μ : Mm} (H : XI R T F h K μ a) (hr : RX P i wv μ a) : gI μ (a + 18) 6 2 = some (nI P.n) ∧ gI μ (a + 18) 6 3 = some (nI P.te) ∧ gI μ (a + 18) 6 5 = some (nI P.rm) ∧ gI μ (a + 18) 6 6 = some (nI i) ∧ gI μ (a + 18) 6 7 = some wv ∧ gL μ (a + 18) 6 4 = some P.rs := by
  obtain ⟨h1, h2, h3, h4, h5, h6, h7⟩ := hr
  exact ⟨gI_e H.1.t18 h1, gI_e H.1.t18 h2, gI_e H.1.t18 h3, gI_e H.1.t18 h4, gI_e H.1.t18 h5, (gL_of H.1.t18).trans (congrArg some h6)⟩
theorem x_hs {μ : Mm} (H : XI R T F h K μ a) (ht : t < 4) (hm : T.1 t = some m) (hm6 : m ≤ 60) {i : Nat} (hi : i < 2 ^ 31) : f_X8_has μ (a + 45 + 2 * t) (nI i) = some (nI (b1 (decide (i < m)))) := by
  obtain ⟨k1, k2, k3, k4, k5⟩ := H.1.text ht
  have hs : mI μ (a + 45 + 2 * t) 1 = nI m := (H.2.2.1 t ht).1.trans (by rw [hm]; rfl)
  by_cases z : i < m
  · rw [decide_eq_true z]
    exact s_has_ok k2 hs (by omega) z
  · rw [decide_eq_false z]
    exact s_has_bad k2 hs (Or.inr ⟨nI_pos hi, nI_le (by omega) hi⟩)
theorem x_sz {μ : Mm} (H : XI R T F h K μ a) (ht : t < 4) (hm : T.1 t = some m) : gI μ (a + 45 + 2 * t) 9 1 = some (nI m) := gI_e (H.1.text ht).2.1 ((H.2.2.1 t ht).1.trans (by rw [hm]; rfl))
theorem x_cp {μ : Mm} (H : XI R T F h K μ a) (ht : t < 4) : gP μ (a + 45 + 2 * t) 9 0 = some (a + 46 + 2 * t) := gP_of (H.1.text ht).2.1 (H.1.text ht).2.2.1
theorem x_cl {μ : Mm} (H : XI R T F h K μ a) (ht : t < 4) (hm : T.1 t = some m) (hm6 : m ≤ 60) {i : Nat} (hi : i < m) : aI μ (a + 46 + 2 * t) 21 (nI i) = some (T.2 t i) := by
  obtain ⟨k1, k2, k3, k4, k5⟩ := H.1.text ht
  rw [aI_of k4 (by omega) (by omega), (H.2.2.1 t ht).2 m hm i hi]
theorem x_fig {P : PS} {i : Nat} {μ : Mm} (H : XI R T F h K μ a) (ht : t < 4) (hm : T.1 t = some m) (hm6 : m ≤ 60) (hi : i ≤ m) (hr : RX P i (-9) μ a) : (i < m ∧ isf (T.2 t i) = true → ∃ μ', f_X5_readFigure μ (a + 18) (a + 45 + 2 * t) = some (nI (fig (T.2 t i)), μ') ∧ SX μ μ' a ∧ RX P (i + 1) (-9) μ' a) ∧ (¬ (i < m ∧ isf (T.2 t i) = true) → ∃ μ', f_X5_readFigure μ (a + 18) (a + 45 + 2 * t) = some (-9, μ') ∧ SX μ μ' a ∧ RX P i (nI i) μ' a) := by
  obtain ⟨e2, e3, e5, e6, e7, e4⟩ := rx_ev H hr
  have eh := x_hs H ht hm hm6 (show i < 2 ^ 31 by omega)
  constructor
  · rintro ⟨hl, hf⟩
    rw [decide_eq_true hl] at eh
    have eh' : f_X8_has μ (a + 45 + 2 * t) (nI i) = some 1 := eh
    obtain ⟨f1, f2, f3⟩ := isf_fig hf
    obtain ⟨g1, g2⟩ := of_decide_eq_true hf
    have s1 : SX μ (sI μ (a + 18) 6 (nI (i + 1))) a := (SX.rf μ a).sI (by omega) (by omega)
    refine ⟨_, ?_, s1, hr.at6⟩
    simp (config := { decide := true }) only [↓reduceIte, Option.bind_some, Option.bind_none, f_X5_readFigure, H.1.t18, e6, eh', x_cp H ht, x_cl H ht hm hm6 hl, g1, g2, pI_of H.1.t18, nI_1, f3]
  · intro hn
    have s1 : SX μ (sI μ (a + 18) 7 (nI i)) a := (SX.rf μ a).sI (by omega) (by omega)
    refine ⟨_, ?_, s1, hr.at7⟩
    by_cases hl : i < m
    · rw [decide_eq_true hl] at eh
      have eh' : f_X8_has μ (a + 45 + 2 * t) (nI i) = some 1 := eh
      have hf : ¬ (¬ T.2 t i < 48 ∧ T.2 t i ≤ 57) := fun q => hn ⟨hl, decide_eq_true q⟩
      by_cases g1 : T.2 t i < 48
      · simp (config := { decide := true }) only [↓reduceIte, Option.bind_some, Option.bind_none, f_X5_readFigure, H.1.t18, e6, eh', x_cp H ht, x_cl H ht hm hm6 hl, g1, pI_of H.1.t18]
      · have g2 : ¬ T.2 t i ≤ 57 := fun q => hf ⟨g1, q⟩
        simp (config := { decide := true }) only [↓reduceIte, Option.bind_some, Option.bind_none, f_X5_readFigure, H.1.t18, e6, eh', x_cp H ht, x_cl H ht hm hm6 hl, g1, g2, pI_of H.1.t18]
    · rw [decide_eq_false hl] at eh
      have eh' : f_X8_has μ (a + 45 + 2 * t) (nI i) = some 0 := eh
      have him : i = m := by omega
      simp (config := { decide := true }) only [↓reduceIte, Option.bind_some, Option.bind_none, f_X5_readFigure, H.1.t18, e6, eh', x_sz H ht hm, pI_of H.1.t18]
      rw [him]
theorem x_two {P : PS} {i lo hi : Nat} {μ : Mm} (H : XI R T F h K μ a) (ht : t < 4) (hm : T.1 t = some m) (hm6 : m ≤ 60) (hi' : i ≤ m) (hlo : lo < 2 ^ 31) (hhi : hi < 2 ^ 31) (hr : RX P i (-9) μ a) : (∀ v, two (T.2 t) m i lo hi = .inr v → ∃ μ', f_X5_readTwoFigures μ (a + 18) (a + 45 + 2 * t) (nI lo) (nI hi) = some (nI v, μ') ∧ SX μ μ' a ∧ RX P (i + 2) (-9) μ' a) ∧ (∀ f, two (T.2 t) m i lo hi = .inl f → ∃ x μ' j, f_X5_readTwoFigures μ (a + 18) (a + 45 + 2 * t) (nI lo) (nI hi) = some (x, μ') ∧ SX μ μ' a ∧ RX P j (nI f) μ' a) := by
  obtain ⟨e2, e3, e5, e6, e7, e4⟩ := rx_ev H hr
  have hfig := x_fig H ht hm hm6 hi' hr
  unfold two
  by_cases h1 : i < m ∧ isf (T.2 t i) = true
  · rw [if_pos h1]
    obtain ⟨μ1, y1, y2, y3⟩ := hfig.1 h1
    have H1 := H.scr y2
    obtain ⟨d2, d3, d5, d6, d7, d4⟩ := rx_ev H1 y3
    have hfig2 := x_fig H1 ht hm hm6 (show i + 1 ≤ m by omega) y3
    have hf1 := (isf_fig h1.2).1
    by_cases h2 : i + 1 < m ∧ isf (T.2 t (i + 1)) = true
    · rw [if_pos h2]
      obtain ⟨μ2, z1, z2, z3⟩ := hfig2.1 h2
      have H2 := H1.scr z2
      obtain ⟨c2, c3, c5, c6, c7, c4⟩ := rx_ev H2 z3
      have hf2 := (isf_fig h2.2).1
      have ev : (10 : Int32) * nI (fig (T.2 t i)) + nI (fig (T.2 t (i + 1))) = nI (10 * fig (T.2 t i) + fig (T.2 t (i + 1))) := by rw [show (10 : Int32) = nI 10 from rfl, pk_mul, nI_add]
      by_cases h3 : lo ≤ 10 * fig (T.2 t i) + fig (T.2 t (i + 1)) ∧ 10 * fig (T.2 t i) + fig (T.2 t (i + 1)) ≤ hi
      · rw [if_pos h3]
        refine ⟨fun v q => ?_, fun f q => by cases q⟩
        cases q
        have l1 : ¬ nI (10 * fig (T.2 t i) + fig (T.2 t (i + 1))) < nI lo := nI_nlt h3.1 (by omega)
        have l2 : nI (10 * fig (T.2 t i) + fig (T.2 t (i + 1))) ≤ nI hi := nI_le h3.2 hhi
        refine ⟨μ2, ?_, y2.tr z2, z3⟩
        simp (config := { decide := true }) only [↓reduceIte, Option.bind_some, Option.bind_none, f_X5_readTwoFigures, H.1.t18, e6, y1, d7, z1, c7, ev, l1, l2]
      · rw [if_neg h3]
        refine ⟨fun v q => (by cases q), fun f q => ?_⟩
        cases q
        have s1 : SX μ2 (sI μ2 (a + 18) 7 (nI i)) a := (SX.rf μ2 a).sI (by omega) (by omega)
        refine ⟨nI (10 * fig (T.2 t i) + fig (T.2 t (i + 1))), sI μ2 (a + 18) 7 (nI i), i + 1 + 1, ?_, (y2.tr z2).tr s1, z3.at7⟩
        by_cases l1 : nI (10 * fig (T.2 t i) + fig (T.2 t (i + 1))) < nI lo
        · simp (config := { decide := true }) only [↓reduceIte, Option.bind_some, Option.bind_none, f_X5_readTwoFigures, H.1.t18, e6, y1, d7, z1, c7, ev, l1, pI_of H2.1.t18]
        · have l2 : ¬ nI (10 * fig (T.2 t i) + fig (T.2 t (i + 1))) ≤ nI hi := fun q => h3 ⟨Nat.le_of_not_lt fun y => l1 (nI_lt y hlo), (nI_leI (by omega) hhi).mp q⟩
          simp (config := { decide := true }) only [↓reduceIte, Option.bind_some, Option.bind_none, f_X5_readTwoFigures, H.1.t18, e6, y1, d7, z1, c7, ev, l1, l2, pI_of H2.1.t18]
    · rw [if_neg h2]
      refine ⟨fun v q => (by cases q), fun f q => ?_⟩
      cases q
      obtain ⟨μ2, z1, z2, z3⟩ := hfig2.2 h2
      have H2 := H1.scr z2
      obtain ⟨c2, c3, c5, c6, c7, c4⟩ := rx_ev H2 z3
      have hne := n9 (f := i + 1) (by omega)
      refine ⟨(10 : Int32) * nI (fig (T.2 t i)) + (-9), μ2, i + 1, ?_, y2.tr z2, z3⟩
      simp (config := { decide := true }) only [↓reduceIte, Option.bind_some, Option.bind_none, f_X5_readTwoFigures, H.1.t18, e6, y1, d7, z1, c7, hne]
  · rw [if_neg h1]
    refine ⟨fun v q => (by cases q), fun f q => ?_⟩
    cases q
    obtain ⟨μ1, y1, y2, y3⟩ := hfig.2 h1
    have H1 := H.scr y2
    obtain ⟨d2, d3, d5, d6, d7, d4⟩ := rx_ev H1 y3
    have hne := n9 (f := i) (by omega)
    refine ⟨(10 : Int32) * (-9) + 0, μ1, i, ?_, y2, y3⟩
    simp (config := { decide := true }) only [↓reduceIte, Option.bind_some, Option.bind_none, f_X5_readTwoFigures, H.1.t18, e6, y1, d7, hne]
theorem x_kof (μ : Mm) (x : Int32) : f_X5_kindOf μ x = some (match kof x with | some k => nI k | none => -9) := by
  unfold f_X5_kindOf kof
  by_cases h1 : x = 99
  · rw [if_pos h1, if_pos h1]; rfl
  rw [if_neg h1, if_neg h1]
  by_cases h2 : x = 103
  · rw [if_pos h2, if_pos h2]; rfl
  rw [if_neg h2, if_neg h2]
  by_cases h3 : x = 104
  · rw [if_pos h3, if_pos h3]; rfl
  rw [if_neg h3, if_neg h3]
  by_cases h4 : x = 107
  · rw [if_pos h4, if_pos h4]; rfl
  rw [if_neg h4, if_neg h4]
  by_cases h5 : x = 114
  · rw [if_pos h5, if_pos h5]; rfl
  rw [if_neg h5, if_neg h5]
  by_cases h6 : x = 116
  · rw [if_pos h6, if_pos h6]; rfl
  rw [if_neg h6, if_neg h6]
theorem x_item {P : PS} {i : Nat} {μ : Mm} (H : XI R T F h K μ a) (ht : t < 4) (hm : T.1 t = some m) (hm6 : m ≤ 60) (hi : i < m) (hP : PW' P) (hte : ¬ P.te = 0) (hr : RX P i (-9) μ a) : (∀ x, itm (T.2 t) m i P = .inr x → ∃ μ', f_X5_readItem μ (a + 18) (a + 45 + 2 * t) = some μ' ∧ SX μ μ' a ∧ RX x.2 x.1 (-9) μ' a) ∧ (∀ f, itm (T.2 t) m i P = .inl f → ∃ μ', f_X5_readItem μ (a + 18) (a + 45 + 2 * t) = some μ' ∧ SX μ μ' a ∧ mI μ' (a + 18) 7 = nI f) := by
  obtain ⟨p1, p2, p3, p4, p5⟩ := hP
  have hte2 : 12 ≤ P.te ∧ P.te ≤ 60 := by
    rcases p3 with ⟨q, _⟩ | q
    · exact absurd q hte
    · exact q
  obtain ⟨e2, e3, e5, e6, e7, e4⟩ := rx_ev H hr
  have eh := x_hs H ht hm hm6 (show i < 2 ^ 31 by omega)
  rw [decide_eq_true hi] at eh
  have eh' : f_X8_has μ (a + 45 + 2 * t) (nI i) = some 1 := eh
  have ecl := x_cl H ht hm hm6 hi
  have sF : SX μ (sI μ (a + 18) 7 (nI i)) a := (SX.rf μ a).sI (by omega) (by omega)
  have s1 : SX μ (sI μ (a + 18) 6 (nI (i + 1))) a := (SX.rf μ a).sI (by omega) (by omega)
  have H1 := H.scr s1
  have hr1 : RX P (i + 1) (-9) (sI μ (a + 18) 6 (nI (i + 1))) a := hr.at6
  obtain ⟨d2, d3, d5, d6, d7, d4⟩ := rx_ev H1 hr1
  unfold itm
  rw [if_neg hte]
  by_cases g1 : T.2 t i = 101
  · rw [if_pos g1]
    have hitem : ∀ o, f_X5_readRent μ (a + 18) (a + 45 + 2 * t) = some o → f_X5_readItem μ (a + 18) (a + 45 + 2 * t) = some o := fun o q => by
      rw [g1] at ecl
      simp (config := { decide := true }) only [↓reduceIte, Option.bind_some, Option.bind_none, f_X5_readItem, H.1.t18, e6, eh', x_cp H ht, ecl, q]
    by_cases b : P.n = 0 ∨ 6 ≤ P.rm
    · rw [if_pos b]
      refine ⟨fun x q => (by cases q), fun f q => ?_⟩
      cases q
      refine ⟨_, hitem (sI μ (a + 18) 7 (nI i)) ?_, sF, mI_eq⟩
      by_cases b1' : P.n = 0
      · have n0 : nI P.n = 0 := congrArg nI b1'
        simp (config := { decide := true }) only [↓reduceIte, Option.bind_some, Option.bind_none, f_X5_readRent, H.1.t18, e2, n0, e6, pI_of H.1.t18]
      · have n0 : ¬ nI P.n = 0 := nI_ne0 (by omega) (by omega)
        have n6 : ¬ nI P.rm < 6 := (show ¬ nI P.rm < nI 6 from nI_nlt (by omega) (by omega))
        simp (config := { decide := true }) only [↓reduceIte, Option.bind_some, Option.bind_none, f_X5_readRent, H.1.t18, e2, n0, e5, n6, e6, pI_of H.1.t18]
    · rw [if_neg b]
      have n0 : ¬ nI P.n = 0 := nI_ne0 (by omega) (by omega)
      have n6 : nI P.rm < 6 := (show nI P.rm < nI 6 from nI_lt (by omega) (by decide))
      have ep : nI P.te - 1 = nI (P.te - 1) := pred1 (by omega)
      have h2 := x_two (lo := 1) (hi := P.te - 1) H1 ht hm hm6 (show i + 1 ≤ m by omega) (by decide) (by omega) hr1
      show (∀ x, (match two (T.2 t) m (i + 1) 1 (P.te - 1) with | .inl f => .inl f | .inr v => if isr P.rs v = true then .inl (i + 1) else .inr (i + 3, (P.n, P.te, orb P.rs v, P.rm + 1, P.kd, P.ft))) = Sum.inr x → _) ∧ ∀ f, (match two (T.2 t) m (i + 1) 1 (P.te - 1) with | .inl f => .inl f | .inr v => if isr P.rs v = true then .inl (i + 1) else .inr (i + 3, (P.n, P.te, orb P.rs v, P.rm + 1, P.kd, P.ft))) = Sum.inl f → _
      cases ht2 : two (T.2 t) m (i + 1) 1 (P.te - 1) with
      | inl f0 =>
        obtain ⟨x, μ', j, y1, y2, y3⟩ := h2.2 f0 ht2
        have H2 := H1.scr y2
        obtain ⟨c2, c3, c5, c6, c7, c4⟩ := rx_ev H2 y3
        have hne := n9 (f := f0) (by have := two_f (show i + 1 ≤ m by omega) ht2; omega)
        have y1' : f_X5_readTwoFigures (sI μ (a + 18) 6 (nI (i + 1))) (a + 18) (a + 45 + 2 * t) 1 (nI (P.te - 1)) = some (x, μ') := y1
        refine ⟨fun x q => (by cases q), fun f q => ?_⟩
        cases q
        refine ⟨_, hitem μ' ?_, s1.tr y2, y3.2.2.2.2.1⟩
        simp (config := { decide := true }) only [↓reduceIte, Option.bind_some, Option.bind_none, f_X5_readRent, H.1.t18, e2, n0, e5, n6, e6, pI_of H.1.t18, nI_1, d6, d3, ep, y1', c7, hne]
      | inr v =>
        obtain ⟨v1, v2, v3⟩ := two_in ht2
        obtain ⟨μ', y1, y2, y3⟩ := h2.1 v ht2
        have H2 := H1.scr y2
        obtain ⟨c2, c3, c5, c6, c7, c4⟩ := rx_ev H2 y3
        have y1' : f_X5_readTwoFigures (sI μ (a + 18) 6 (nI (i + 1))) (a + 18) (a + 45 + 2 * t) 1 (nI (P.te - 1)) = some (nI v, μ') := y1
        have hru := rentU (rs := P.rs) (show v < 64 by omega)
        by_cases c : isr P.rs v = true
        · have hc : ¬ (lg_cmp ((P.rs.toUInt64 >>> ((nI v).toInt64.toUInt64 &&& Int64.toUInt64 63)).toInt64 &&& (1 : Int64)) (0 : Int64) = 0) := fun q => by
            have := hru.mp q
            rw [c] at this; cases this
          show (∀ x, (if isr P.rs v = true then _ else _) = Sum.inr x → _) ∧ ∀ f, (if isr P.rs v = true then _ else _) = Sum.inl f → _
          rw [if_pos c]
          refine ⟨fun x q => (by cases q), fun f q => ?_⟩
          cases q
          refine ⟨_, hitem (sI μ' (a + 18) 7 (nI (i + 1))) ?_, (s1.tr y2).sI (by omega) (by omega), mI_eq⟩
          simp (config := { decide := true }) only [↓reduceIte, Option.bind_some, Option.bind_none, f_X5_readRent, H.1.t18, e2, n0, e5, n6, e6, pI_of H.1.t18, nI_1, d6, d3, ep, y1', c7, c4, hc, pI_of H2.1.t18]
        · have hc : lg_cmp ((P.rs.toUInt64 >>> ((nI v).toInt64.toUInt64 &&& Int64.toUInt64 63)).toInt64 &&& (1 : Int64)) (0 : Int64) = 0 := hru.mpr (by
            cases hq : isr P.rs v with
            | true => exact absurd hq c
            | false => rfl)
          show (∀ x, (if isr P.rs v = true then _ else _) = Sum.inr x → _) ∧ ∀ f, (if isr P.rs v = true then _ else _) = Sum.inl f → _
          rw [if_neg c]
          refine ⟨fun x q => ?_, fun f q => by cases q⟩
          cases q
          have T1 : tg (sL μ' (a + 18) 4 (orb P.rs v)) (a + 18) = 6 := H2.1.t18
          have c5' : gI (sL μ' (a + 18) 4 (orb P.rs v)) (a + 18) 6 5 = some (nI P.rm) := c5
          have qL4 : pL μ' (a + 18) 6 4 (P.rs ||| ((1 : Int64) <<< ((nI v).toInt64 &&& 63))) = some (sL μ' (a + 18) 4 (orb P.rs v)) := pL_of H2.1.t18
          obtain ⟨r1, r2, r3, r4, r5, r6, r7⟩ := y3
          refine ⟨_, hitem (sI (sL μ' (a + 18) 4 (orb P.rs v)) (a + 18) 5 (nI (P.rm + 1))) ?_, ((s1.tr y2).sL (by omega) (by omega)).sI (by omega) (by omega), ?_⟩
          · simp (config := { decide := true }) only [↓reduceIte, Option.bind_some, Option.bind_none, f_X5_readRent, H.1.t18, e2, n0, e5, n6, e6, pI_of H.1.t18, nI_1, d6, d3, ep, y1', c7, c4, hc, qL4, c5', pI_of T1]
          · refine ⟨by rw [mI_nk (by decide)]; exact r1, by rw [mI_nk (by decide)]; exact r2, mI_eq, by rw [mI_nk (by decide)]; exact r4, by rw [mI_nk (by decide)]; exact r5, ?_, fun x hx => by rw [mI_ne (by omega), mI_ne (by omega)]; exact r7 x hx⟩
            show mL (sL μ' (a + 18) 4 (orb P.rs v)) (a + 18) 4 = _
            rw [mL_eq]
  · rw [if_neg g1]
    have hitem : ∀ o, f_X5_readGuild μ (a + 18) (a + 45 + 2 * t) = some o → f_X5_readItem μ (a + 18) (a + 45 + 2 * t) = some o := fun o q => by
      simp (config := { decide := true }) only [↓reduceIte, Option.bind_some, Option.bind_none, f_X5_readItem, H.1.t18, e6, eh', x_cp H ht, ecl, g1, q]
    have ek := x_kof μ (T.2 t i)
    cases hk : kof (T.2 t i) with
    | none =>
      rw [hk] at ek
      have ek' : f_X5_kindOf μ (T.2 t i) = some (-9) := ek
      refine ⟨fun x q => (by cases q), fun f q => ?_⟩
      cases q
      refine ⟨_, hitem (sI μ (a + 18) 7 (nI i)) ?_, sF, mI_eq⟩
      simp (config := { decide := true }) only [↓reduceIte, Option.bind_some, Option.bind_none, f_X5_readGuild, H.1.t18, e6, eh', x_cp H ht, ecl, ek', pI_of H.1.t18]
    | some k =>
      have hk6 := kof_lt hk
      rw [hk] at ek
      have ek' : f_X5_kindOf μ (T.2 t i) = some (nI k) := ek
      have hk9 := n9 (f := k) (by omega)
      show (∀ x, (if 6 ≤ P.n ∨ 0 < P.rm then _ else _) = Sum.inr x → _) ∧ ∀ f, (if 6 ≤ P.n ∨ 0 < P.rm then _ else _) = Sum.inl f → _
      by_cases b : 6 ≤ P.n ∨ 0 < P.rm
      · rw [if_pos b]
        refine ⟨fun x q => (by cases q), fun f q => ?_⟩
        cases q
        refine ⟨_, hitem (sI μ (a + 18) 7 (nI i)) ?_, sF, mI_eq⟩
        by_cases b6 : 6 ≤ P.n
        · have n6 : (6 : Int32) ≤ nI P.n := (show nI 6 ≤ nI P.n from nI_le b6 (by omega))
          simp (config := { decide := true }) only [↓reduceIte, Option.bind_some, Option.bind_none, f_X5_readGuild, H.1.t18, e6, eh', x_cp H ht, ecl, ek', hk9, e2, n6, pI_of H.1.t18]
        · have n6 : ¬ (6 : Int32) ≤ nI P.n := (show ¬ nI 6 ≤ nI P.n from nI_ge (by omega) (by decide))
          have r0 : ¬ nI P.rm ≤ 0 := nI_nle (by omega) (by omega)
          simp (config := { decide := true }) only [↓reduceIte, Option.bind_some, Option.bind_none, f_X5_readGuild, H.1.t18, e6, eh', x_cp H ht, ecl, ek', hk9, e2, n6, e5, r0, pI_of H.1.t18]
      · rw [if_neg b]
        have n6 : ¬ (6 : Int32) ≤ nI P.n := (show ¬ nI 6 ≤ nI P.n from nI_ge (by omega) (by decide))
        have r0 : nI P.rm ≤ 0 := by rw [show P.rm = 0 by omega]; decide
        have hfig := x_fig H1 ht hm hm6 (show i + 1 ≤ m by omega) hr1
        by_cases d : i + 1 < m ∧ isf (T.2 t (i + 1)) = true ∧ fig (T.2 t (i + 1)) ≠ 0
        · rw [if_pos d]
          refine ⟨fun x q => ?_, fun f q => by cases q⟩
          cases q
          obtain ⟨μ', y1, y2, y3⟩ := hfig.1 ⟨d.1, d.2.1⟩
          have H2 := H1.scr y2
          obtain ⟨c2, c3, c5, c6, c7, c4⟩ := rx_ev H2 y3
          have hf9 := (isf_fig d.2.1).1
          have hf0 : ¬ nI (fig (T.2 t (i + 1))) = 0 := nI_ne0 (Nat.pos_of_ne_zero d.2.2) (by omega)
          have qa := qI_of (v := nI k) H2.1.t19 (show P.n < ln μ' (a + 19) by rw [H2.1.n19]; omega) (by omega)
          have sA : SX μ' (sI μ' (a + 19) P.n (nI k)) a := (SX.rf μ' a).sI (by omega) (by omega)
          have H3 := H2.scr sA
          have g2 : gI (sI μ' (a + 19) P.n (nI k)) (a + 18) 6 2 = some (nI P.n) := gI_e H3.1.t18 (by rw [mI_ne (by omega)]; exact y3.1)
          have qb := qI_of (v := nI (fig (T.2 t (i + 1)))) H3.1.t20 (show P.n < ln (sI μ' (a + 19) P.n (nI k)) (a + 20) by rw [H3.1.n20]; omega) (by omega)
          have sB := sA.sI (b := a + 20) (k := P.n) (v := nI (fig (T.2 t (i + 1)))) (by omega) (by omega)
          have H4 := H2.scr sB
          have g3 : gI (sI (sI μ' (a + 19) P.n (nI k)) (a + 20) P.n (nI (fig (T.2 t (i + 1))))) (a + 18) 6 2 = some (nI P.n) := gI_e H4.1.t18 (by rw [mI_ne (by omega), mI_ne (by omega)]; exact y3.1)
          obtain ⟨r1, r2, r3, r4, r5, r6, r7⟩ := y3
          refine ⟨_, hitem (sI (sI (sI μ' (a + 19) P.n (nI k)) (a + 20) P.n (nI (fig (T.2 t (i + 1))))) (a + 18) 2 (nI (P.n + 1))) ?_, ((s1.tr y2).tr sB).sI (by omega) (by omega), ?_⟩
          · simp (config := { decide := true }) only [↓reduceIte, Option.bind_some, Option.bind_none, f_X5_readGuild, H.1.t18, e6, eh', x_cp H ht, ecl, ek', hk9, e2, n6, e5, r0, pI_of H.1.t18, nI_1, y1, hf0, c7, gP_of H2.1.t18 H2.1.p18_0, c2, qa, gP_of H3.1.t18 H3.1.p18_1, g2, qb, g3, pI_of H4.1.t18]
          · refine ⟨mI_eq, ?_, ?_, ?_, ?_, r6, fun x hx => ?_⟩
            · rw [mI_nk (by decide), mI_ne (by omega), mI_ne (by omega)]; exact r2
            · rw [mI_nk (by decide), mI_ne (by omega), mI_ne (by omega)]; exact r3
            · rw [mI_nk (by decide), mI_ne (by omega), mI_ne (by omega)]; exact r4
            · rw [mI_nk (by decide), mI_ne (by omega), mI_ne (by omega)]; exact r5
            · have hx : x < P.n + 1 := hx
              show _ = nI (u1 P.kd P.n k x) ∧ _ = nI (u1 P.ft P.n (fig (T.2 t (i + 1))) x)
              by_cases y : x = P.n
              · subst y
                refine ⟨?_, ?_⟩
                · rw [mI_ne (by omega), mI_ne (by omega), mI_eq, u1_eq]
                · rw [mI_ne (by omega), mI_eq, u1_eq]
              · obtain ⟨r8, r9⟩ := r7 x (by omega)
                refine ⟨?_, ?_⟩
                · rw [mI_ne (by omega), mI_ne (by omega), mI_nk y, u1_ne y]; exact r8
                · rw [mI_ne (by omega), mI_nk y, mI_ne (by omega), u1_ne y]; exact r9
        · rw [if_neg d]
          refine ⟨fun x q => (by cases q), fun f q => ?_⟩
          cases q
          by_cases d2' : i + 1 < m ∧ isf (T.2 t (i + 1)) = true
          · obtain ⟨μ', y1, y2, y3⟩ := hfig.1 d2'
            have H2 := H1.scr y2
            obtain ⟨c2, c3, c5, c6, c7, c4⟩ := rx_ev H2 y3
            have hz : fig (T.2 t (i + 1)) = 0 := Classical.byContradiction fun q => d ⟨d2'.1, d2'.2, q⟩
            rw [hz] at y1
            have y1' : f_X5_readFigure (sI μ (a + 18) 6 (nI (i + 1))) (a + 18) (a + 45 + 2 * t) = some (0, μ') := y1
            have ep : nI (i + 1 + 1) - 1 = nI (i + 1) := pred1 (Nat.succ_pos _)
            have hne := n9 (f := i + 1) (by omega)
            have sA : SX μ' (sI μ' (a + 18) 7 (nI (i + 1))) a := (SX.rf μ' a).sI (by omega) (by omega)
            have H3 := H2.scr sA
            have g7 : gI (sI μ' (a + 18) 7 (nI (i + 1))) (a + 18) 6 7 = some (nI (i + 1)) := gI_e H3.1.t18 mI_eq
            refine ⟨_, hitem (sI μ' (a + 18) 7 (nI (i + 1))) ?_, (s1.tr y2).tr sA, mI_eq⟩
            simp (config := { decide := true }) only [↓reduceIte, Option.bind_some, Option.bind_none, f_X5_readGuild, H.1.t18, e6, eh', x_cp H ht, ecl, ek', hk9, e2, n6, e5, r0, pI_of H.1.t18, nI_1, y1', c6, ep, pI_of H2.1.t18, g7, hne]
          · obtain ⟨μ', y1, y2, y3⟩ := hfig.2 d2'
            have H2 := H1.scr y2
            obtain ⟨c2, c3, c5, c6, c7, c4⟩ := rx_ev H2 y3
            have hne := n9 (f := i + 1) (by omega)
            have h90 : ¬ (-9 : Int32) = 0 := by decide
            refine ⟨_, hitem μ' ?_, s1.tr y2, y3.2.2.2.2.1⟩
            simp (config := { decide := true }) only [↓reduceIte, Option.bind_some, Option.bind_none, f_X5_readGuild, H.1.t18, e6, eh', x_cp H ht, ecl, ek', hk9, e2, n6, e5, r0, pI_of H.1.t18, nI_1, y1, h90, c7, hne]
theorem x_skp (ht : t < 4) (hm : T.1 t = some m) (hm6 : m ≤ 60) {P : PS} : ∀ (d f i : Nat) (μ : Mm), i + d = m → d < f → XI R T F h K μ a → RX P i (-9) μ a → ∃ μ', lp_X5_reachesItem_0 f (a + 18) (a + 45 + 2 * t) μ = some μ' ∧ SX μ μ' a ∧ RX P (skp (T.2 t) d i) (-9) μ' a := by
  intro d
  induction d with
  | zero =>
    intro f i μ q1 q2 H hr
    obtain ⟨f, rfl⟩ : ∃ g, f = g + 1 := ⟨f - 1, by omega⟩
    obtain ⟨e2, e3, e5, e6, e7, e4⟩ := rx_ev H hr
    have eh := x_hs H ht hm hm6 (show i < 2 ^ 31 by omega)
    rw [decide_eq_false (by omega)] at eh
    have eh' : f_X8_has μ (a + 45 + 2 * t) (nI i) = some 0 := eh
    refine ⟨μ, ?_, SX.rf μ a, hr⟩
    simp (config := { decide := true }) only [↓reduceIte, Option.bind_some, Option.bind_none, lp_X5_reachesItem_0, e6, eh']
  | succ d ih =>
    intro f i μ q1 q2 H hr
    obtain ⟨f, rfl⟩ : ∃ g, f = g + 1 := ⟨f - 1, by omega⟩
    obtain ⟨e2, e3, e5, e6, e7, e4⟩ := rx_ev H hr
    have hi : i < m := by omega
    have eh := x_hs H ht hm hm6 (show i < 2 ^ 31 by omega)
    rw [decide_eq_true hi] at eh
    have eh' : f_X8_has μ (a + 45 + 2 * t) (nI i) = some 1 := eh
    have ecl := x_cl H ht hm hm6 hi
    rw [skp_s]
    by_cases z : T.2 t i = 32
    · rw [if_pos z]
      have s1 : SX μ (sI μ (a + 18) 6 (nI (i + 1))) a := (SX.rf μ a).sI (by omega) (by omega)
      obtain ⟨μ', y1, y2, y3⟩ := ih f (i + 1) _ (by omega) (by omega) (H.scr s1) hr.at6
      refine ⟨μ', ?_, s1.tr y2, y3⟩
      rw [z] at ecl
      simp (config := { decide := true }) only [↓reduceIte, Option.bind_some, Option.bind_none, lp_X5_reachesItem_0, e6, eh', x_cp H ht, ecl, pI_of H.1.t18, nI_1, y1]
    · rw [if_neg z]
      refine ⟨μ, ?_, SX.rf μ a, hr⟩
      simp (config := { decide := true }) only [↓reduceIte, Option.bind_some, Option.bind_none, lp_X5_reachesItem_0, e6, eh', x_cp H ht, ecl, z]
theorem x_reach (ht : t < 4) (hm : T.1 t = some m) (hm6 : m ≤ 60) {P : PS} {i : Nat} {μ : Mm} (hi : i ≤ m) (H : XI R T F h K μ a) (hr : RX P i (-9) μ a) : ∃ μ', f_X5_reachesItem μ (a + 18) (a + 45 + 2 * t) = some (nI (b1 (decide (skp (T.2 t) (m - i) i < m))), μ') ∧ SX μ μ' a ∧ RX P (skp (T.2 t) (m - i) i) (-9) μ' a := by
  obtain ⟨μ1, y1, y2, y3⟩ := x_skp (F := F) (h := h) (K := K) (R := R) (a := a) ht hm hm6 (m - i) BIG i μ (by omega) (by unfold BIG; omega) H hr
  have H1 := H.scr y2
  obtain ⟨e2, e3, e5, e6, e7, e4⟩ := rx_ev H1 y3
  have hle := skp_le (T.2 t) (m - i) i
  have eh := x_hs H1 ht hm hm6 (show skp (T.2 t) (m - i) i < 2 ^ 31 by omega)
  refine ⟨μ1, ?_, y2, y3⟩
  simp (config := { decide := true }) only [↓reduceIte, Option.bind_some, Option.bind_none, f_X5_reachesItem, H.1.t18, y1, e6, eh, zb_b1]
theorem x_rd38 (ht : t < 4) (hm : T.1 t = some m) (hm6 : m ≤ 60) : ∀ (d f v i : Nat) (P : PS) (μ : Mm), m + 1 < i + d → d < f → 2 * v ≤ i → i ≤ m → PW' P → 12 ≤ P.te → XI R T F h K μ a → RX P i (-9) μ a → (∀ Q, prs (T.2 t) m d i P = .inr Q → ∃ μ' j, lp_X5_read_38 f (a + 18) (a + 45 + 2 * t) (nI v) μ = some μ' ∧ SX μ μ' a ∧ RX Q j (-9) μ' a) ∧ (∀ fo, prs (T.2 t) m d i P = .inl fo → ∃ μ', lp_X5_read_38 f (a + 18) (a + 45 + 2 * t) (nI v) μ = some μ' ∧ SX μ μ' a ∧ mI μ' (a + 18) 7 = nI fo) := by
  intro d
  induction d with
  | zero => intro f v i P μ q1 q2 q3 q4; omega
  | succ d ih =>
    intro f v i P μ q1 q2 q3 q4 hP hte H hr
    obtain ⟨f, rfl⟩ : ∃ g, f = g + 1 := ⟨f - 1, by omega⟩
    obtain ⟨e2, e3, e5, e6, e7, e4⟩ := rx_ev H hr
    have e1 : ¬ (60 : Int32) ≤ nI v := (show ¬ nI 60 ≤ nI v from nI_ge (by omega) (by decide))
    obtain ⟨μ1, y1, y2, y3⟩ := x_reach ht hm hm6 q4 H hr
    have H1 := H.scr y2
    rw [prs_s]
    by_cases z : m ≤ skp (T.2 t) (m - i) i
    · rw [if_pos z]
      rw [decide_eq_false (by omega)] at y1
      have y1' : f_X5_reachesItem μ (a + 18) (a + 45 + 2 * t) = some (0, μ1) := y1
      refine ⟨fun Q q => ?_, fun fo q => by cases q⟩
      cases q
      refine ⟨μ1, _, ?_, y2, y3⟩
      simp (config := { decide := true }) only [↓reduceIte, Option.bind_some, Option.bind_none, lp_X5_read_38, e1, e7, y1']
    · rw [if_neg z]
      rw [decide_eq_true (by omega)] at y1
      have y1' : f_X5_reachesItem μ (a + 18) (a + 45 + 2 * t) = some (1, μ1) := y1
      have hj : skp (T.2 t) (m - i) i < m := by omega
      have hji := (skp_le (T.2 t) (m - i) i).1
      obtain ⟨hx1, hx2⟩ := x_item H1 ht hm hm6 hj hP (by omega) y3
      obtain ⟨ok1, ok2⟩ := itm_ok (g := T.2 t) hP hj
      cases hI : itm (T.2 t) m (skp (T.2 t) (m - i) i) P with
      | inl f0 =>
        obtain ⟨μ2, z1, z2, z3⟩ := hx2 f0 hI
        have H2 := H1.scr z2
        have hf0 := ok1 f0 hI
        refine ⟨fun Q q => (by cases q), fun fo q => ?_⟩
        cases q
        have g7 : gI μ2 (a + 18) 6 7 = some (nI f0) := gI_e H2.1.t18 z3
        have hne := n9 (f := f0) (by omega)
        have hlast : lp_X5_read_38 f (a + 18) (a + 45 + 2 * t) (nI (v + 1)) μ2 = some μ2 := by
          obtain ⟨f, rfl⟩ : ∃ g, f = g + 1 := ⟨f - 1, by omega⟩
          by_cases w6 : (60 : Int32) ≤ nI (v + 1)
          · simp (config := { decide := true }) only [↓reduceIte, Option.bind_some, Option.bind_none, lp_X5_read_38, w6]
          · simp (config := { decide := true }) only [↓reduceIte, Option.bind_some, Option.bind_none, lp_X5_read_38, w6, g7, hne]
        refine ⟨μ2, ?_, y2.tr z2, z3⟩
        simp (config := { decide := true }) only [↓reduceIte, Option.bind_some, Option.bind_none, lp_X5_read_38, e1, e7, y1', z1, nI_1, hlast]
      | inr x =>
        obtain ⟨μ2, z1, z2, z3⟩ := hx1 x hI
        obtain ⟨o1, o2, o3, o4⟩ := ok2 x hI
        have hrec := ih f (v + 1) x.1 x.2 μ2 (by omega) (by omega) (by omega) o3 o1 o4 (H1.scr z2) z3
        refine ⟨fun Q q => ?_, fun fo q => ?_⟩
        · obtain ⟨μ3, j, x1, x2, x3⟩ := hrec.1 Q q
          refine ⟨μ3, j, ?_, (y2.tr z2).tr x2, x3⟩
          simp (config := { decide := true }) only [↓reduceIte, Option.bind_some, Option.bind_none, lp_X5_read_38, e1, e7, y1', z1, nI_1, x1]
        · obtain ⟨μ3, x1, x2, x3⟩ := hrec.2 fo q
          refine ⟨μ3, ?_, (y2.tr z2).tr x2, x3⟩
          simp (config := { decide := true }) only [↓reduceIte, Option.bind_some, Option.bind_none, lp_X5_read_38, e1, e7, y1', z1, nI_1, x1]
end PX
