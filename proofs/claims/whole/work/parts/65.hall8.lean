/-! ===== mark, shoe ===== -/
def rb (te B : Nat) : Int32 := if B = 0 then -9 else (nI te + nI B - 1) / nI B
def mk (h : GH) (g j : Nat) : Option Int32 :=
  if j = 1 ∧ (h.kd g = 1 ∨ h.kd g = 4) then some (nI (bar (h.kd g) (h.ft g)) - nI (h.ft g))
  else if j = 2 ∧ (h.kd g = 2 ∨ h.kd g = 5) then some (nI (cntP (isCh h) h.n))
  else if j = 3 ∧ h.kd g = 3 then some (nI (cntP (isSt h) h.n))
  else if j = 4 ∧ h.kd g = 4 then some (nI (h.ft g / 2))
  else if j = 5 ∧ h.kd g = 5 then some (rb h.te ((h.ft g - 1) / 2)) else none
theorem x_wfr {R T : GR} {F : GF} {h : GH} {K : GK} {μ : Mm} {a : Nat} (w : WH h) {p f : Nat} (hp : tg μ p = 10) (hf : mI μ p 0 = nI f) (h1 : 1 ≤ f) (h9 : f ≤ 9) : f_X9_walksForRound μ p (nI h.te) = some (rb h.te ((f - 1) / 2)) := by
  have s1 : nI f - (1 : Int32) = nI (f - 1) := pred1 (by omega)
  have d3 : nI (f - 1) / (2 : Int32) = nI ((f - 1) / 2) := pk_div (d := 2) (by omega) (by decide) (by decide)
  unfold rb
  by_cases hB : (f - 1) / 2 = 0
  · simp (config := { decide := true }) only [↓reduceIte, Option.bind_some, Option.bind_none, f_X9_walksForRound, f_X9_bareTread, f_X1_bareTread, gG, gt, hp, hf, s1, d3, hB, show nI 0 = 0 from rfl]
  · have e1 : (1 : Int32) ≤ nI ((f - 1) / 2) := (show nI 1 ≤ nI ((f - 1) / 2) from nI_le (by omega) (by omega))
    have e2 : ¬ nI ((f - 1) / 2) = 0 := nI_ne0 (by omega) (by omega)
    simp (config := { decide := true }) only [↓reduceIte, Option.bind_some, Option.bind_none, f_X9_walksForRound, f_X9_bareTread, f_X1_bareTread, gG, gt, hp, hf, s1, d3, hB, e1, e2]
theorem m_rby {R T : GR} {F : GF} {h : GH} {K : GK} {μ : Mm} {c g : Nat} (H : MI R T F h K μ c) (w : WH h) (hg : g < h.n) (hk : h.kd g = 5) : f_X12_roundBy μ c (nI g) = some (rb h.te ((h.ft g - 1) / 2)) := by
  obtain ⟨w3, h1, h9⟩ := w.2.2.1 g hg
  have eb := m_bare H w hg
  rw [hk] at eb
  have eb' : f_X12_bareOf μ c (nI g) = some (nI ((h.ft g - 1) / 2)) := eb
  unfold rb
  by_cases hB : (h.ft g - 1) / 2 = 0
  · simp (config := { decide := true }) only [↓reduceIte, Option.bind_some, Option.bind_none, f_X12_roundBy, H.1.t0, eb', hB, show nI 0 = 0 from rfl]
  · have e2 : ¬ nI ((h.ft g - 1) / 2) = 0 := nI_ne0 (by omega) (by omega)
    simp (config := { decide := true }) only [↓reduceIte, Option.bind_some, Option.bind_none, f_X12_roundBy, H.1.t0, m_hev H, eb', hB, e2]
theorem x_mark {R T : GR} {F : GF} {h : GH} {K : GK} {μ : Mm} {a g j : Nat} (H : XI R T F h K μ a) (w : WH h) (hg : g < h.n) (hj : 1 ≤ j) (hj5 : j ≤ 5) : f_X11_mark μ a (nI g) (nI j) = (match mk h g j with | some v => some (v, μ) | none => some (-3, xfind μ a 3)) := by
  obtain ⟨gb, k1, k2, k3⟩ := x_guild H w
  obtain ⟨p1, p2, p3, p4⟩ := k3 g hg
  obtain ⟨w3, w4, w5⟩ := w.2.2.1 g hg
  have hh := x_hasG_ok H w hg
  have c1 := x_countChildren H w
  have c2 := x_countStill H w
  have hx := xf3 H.1
  have ev := x_hev H
  have m2 : (2 : Int32) * nI (h.ft g) = nI (2 * h.ft g) := pk_mul 2 _
  have d2 : nI (h.ft g) / (2 : Int32) = nI (h.ft g / 2) := pk_div (d := 2) (by omega) (by decide) (by decide)
  have s2 : nI (2 * h.ft g) - nI (h.ft g / 2) = nI (2 * h.ft g - h.ft g / 2) := pk_sub (by omega)
  have hw5 : h.kd g = 5 → f_X9_walksForRound μ (gb + g) (nI h.te) = some (rb h.te ((h.ft g - 1) / 2)) := fun e => x_wfr (R := R) (T := T) (F := F) (K := K) (a := a) w (by rw [p2, e]; rfl) p3 w4 w5
  rcases (show h.kd g = 0 ∨ h.kd g = 1 ∨ h.kd g = 2 ∨ h.kd g = 3 ∨ h.kd g = 4 ∨ h.kd g = 5 by omega) with hk | hk | hk | hk | hk | hk <;> rw [hk] at p2
  · have e : tg μ (gb + g) = 3 := p2
    rcases (show j = 1 ∨ j = 2 ∨ j = 3 ∨ j = 4 ∨ j = 5 by omega) with rfl | rfl | rfl | rfl | rfl <;>
      simp (config := { decide := true }) only [↓reduceIte, Option.bind_some, Option.bind_none, f_X11_mark, H.1.t0, gP_of H.1.t0 H.1.p0_0, gP_of H.1.t0 H.1.p0_1, gP_of H.1.t0 H.1.p0_2, gP_of H.1.t0 H.1.p0_3, gP_of H.1.t0 H.1.p0_4, gP_of H.1.t0 H.1.p0_5, gP_of H.1.t0 H.1.p0_6, gP_of H.1.t0 H.1.p0_7, gP_of H.1.t0 H.1.p0_8, gP_of H.1.t0 H.1.p0_9, hh, ev, p1, ins, cst, gt, e, hx, mk, hk, show nI 1 = 1 from rfl, show nI 2 = 2 from rfl, show nI 3 = 3 from rfl, show nI 4 = 4 from rfl, show nI 5 = 5 from rfl]
  · have e : tg μ (gb + g) = 5 := p2
    rcases (show j = 1 ∨ j = 2 ∨ j = 3 ∨ j = 4 ∨ j = 5 by omega) with rfl | rfl | rfl | rfl | rfl <;>
      simp (config := { decide := true }) only [↓reduceIte, Option.bind_some, Option.bind_none, f_X11_mark, H.1.t0, gP_of H.1.t0 H.1.p0_0, gP_of H.1.t0 H.1.p0_1, gP_of H.1.t0 H.1.p0_2, gP_of H.1.t0 H.1.p0_3, gP_of H.1.t0 H.1.p0_4, gP_of H.1.t0 H.1.p0_5, gP_of H.1.t0 H.1.p0_6, gP_of H.1.t0 H.1.p0_7, gP_of H.1.t0 H.1.p0_8, gP_of H.1.t0 H.1.p0_9, hh, ev, p1, ins, cst, gt, e, hx, mk, hk, show nI 1 = 1 from rfl, show nI 2 = 2 from rfl, show nI 3 = 3 from rfl, show nI 4 = 4 from rfl, show nI 5 = 5 from rfl, f_X4_gain, fv_4_bareTread, f_X4_bareTread, gG, p3, m2, bar]
  · have e : tg μ (gb + g) = 2 := p2
    rcases (show j = 1 ∨ j = 2 ∨ j = 3 ∨ j = 4 ∨ j = 5 by omega) with rfl | rfl | rfl | rfl | rfl <;>
      simp (config := { decide := true }) only [↓reduceIte, Option.bind_some, Option.bind_none, f_X11_mark, H.1.t0, gP_of H.1.t0 H.1.p0_0, gP_of H.1.t0 H.1.p0_1, gP_of H.1.t0 H.1.p0_2, gP_of H.1.t0 H.1.p0_3, gP_of H.1.t0 H.1.p0_4, gP_of H.1.t0 H.1.p0_5, gP_of H.1.t0 H.1.p0_6, gP_of H.1.t0 H.1.p0_7, gP_of H.1.t0 H.1.p0_8, gP_of H.1.t0 H.1.p0_9, hh, ev, p1, ins, cst, gt, e, hx, mk, hk, c1, show nI 1 = 1 from rfl, show nI 2 = 2 from rfl, show nI 3 = 3 from rfl, show nI 4 = 4 from rfl, show nI 5 = 5 from rfl]
  · have e : tg μ (gb + g) = 1 := p2
    rcases (show j = 1 ∨ j = 2 ∨ j = 3 ∨ j = 4 ∨ j = 5 by omega) with rfl | rfl | rfl | rfl | rfl <;>
      simp (config := { decide := true }) only [↓reduceIte, Option.bind_some, Option.bind_none, f_X11_mark, H.1.t0, gP_of H.1.t0 H.1.p0_0, gP_of H.1.t0 H.1.p0_1, gP_of H.1.t0 H.1.p0_2, gP_of H.1.t0 H.1.p0_3, gP_of H.1.t0 H.1.p0_4, gP_of H.1.t0 H.1.p0_5, gP_of H.1.t0 H.1.p0_6, gP_of H.1.t0 H.1.p0_7, gP_of H.1.t0 H.1.p0_8, gP_of H.1.t0 H.1.p0_9, hh, ev, p1, ins, cst, gt, e, hx, mk, hk, c2, show nI 1 = 1 from rfl, show nI 2 = 2 from rfl, show nI 3 = 3 from rfl, show nI 4 = 4 from rfl, show nI 5 = 5 from rfl]
  · have e : tg μ (gb + g) = 7 := p2
    rcases (show j = 1 ∨ j = 2 ∨ j = 3 ∨ j = 4 ∨ j = 5 by omega) with rfl | rfl | rfl | rfl | rfl <;>
      simp (config := { decide := true }) only [↓reduceIte, Option.bind_some, Option.bind_none, f_X11_mark, H.1.t0, gP_of H.1.t0 H.1.p0_0, gP_of H.1.t0 H.1.p0_1, gP_of H.1.t0 H.1.p0_2, gP_of H.1.t0 H.1.p0_3, gP_of H.1.t0 H.1.p0_4, gP_of H.1.t0 H.1.p0_5, gP_of H.1.t0 H.1.p0_6, gP_of H.1.t0 H.1.p0_7, gP_of H.1.t0 H.1.p0_8, gP_of H.1.t0 H.1.p0_9, hh, ev, p1, ins, cst, gt, e, hx, mk, hk, show nI 1 = 1 from rfl, show nI 2 = 2 from rfl, show nI 3 = 3 from rfl, show nI 4 = 4 from rfl, show nI 5 = 5 from rfl, f_X4_gain, fv_4_bareTread, f_X6_bareTread, f_X6_uncountedFeet, f_X4_bareTread, gG, p3, m2, d2, s2, bar]
  · have e : tg μ (gb + g) = 10 := p2
    rcases (show j = 1 ∨ j = 2 ∨ j = 3 ∨ j = 4 ∨ j = 5 by omega) with rfl | rfl | rfl | rfl | rfl <;>
      simp (config := { decide := true }) only [↓reduceIte, Option.bind_some, Option.bind_none, f_X11_mark, H.1.t0, gP_of H.1.t0 H.1.p0_0, gP_of H.1.t0 H.1.p0_1, gP_of H.1.t0 H.1.p0_2, gP_of H.1.t0 H.1.p0_3, gP_of H.1.t0 H.1.p0_4, gP_of H.1.t0 H.1.p0_5, gP_of H.1.t0 H.1.p0_6, gP_of H.1.t0 H.1.p0_7, gP_of H.1.t0 H.1.p0_8, gP_of H.1.t0 H.1.p0_9, hh, ev, p1, ins, cst, gt, e, hx, mk, hk, c1, hw5 hk, show nI 1 = 1 from rfl, show nI 2 = 2 from rfl, show nI 3 = 3 from rfl, show nI 4 = 4 from rfl, show nI 5 = 5 from rfl]
theorem m_mark {R T : GR} {F : GF} {h : GH} {K : GK} {μ : Mm} {c g j : Nat} (H : MI R T F h K μ c) (w : WH h) (hg : g < h.n) (hj : 1 ≤ j) (hj5 : j ≤ 5) : f_X12_mark μ c (nI g) (nI j) = (match mk h g j with | some v => some (v, μ) | none => some (-3, mfind μ c 3)) := by
  obtain ⟨w3, w4, w5⟩ := w.2.2.1 g hg
  have hh := m_isG_ok H w hg
  have c1 := m_childMany H w
  have c2 := m_idle H w
  have hx := mf3 H.1
  have d2 : nI (h.ft g) / (2 : Int32) = nI (h.ft g / 2) := pk_div (d := 2) (by omega) (by decide) (by decide)
  have ek := m_kd H w hg
  have ef := m_ft H w hg
  have eb := m_bare H w hg
  have er := m_rby H w hg
  rcases (show h.kd g = 0 ∨ h.kd g = 1 ∨ h.kd g = 2 ∨ h.kd g = 3 ∨ h.kd g = 4 ∨ h.kd g = 5 by omega) with hk | hk | hk | hk | hk | hk <;> rw [hk] at ek eb
  all_goals
    rcases (show j = 1 ∨ j = 2 ∨ j = 3 ∨ j = 4 ∨ j = 5 by omega) with rfl | rfl | rfl | rfl | rfl <;> first
      | (simp (config := { decide := true }) only [↓reduceIte, Option.bind_some, Option.bind_none, f_X12_mark, H.1.t0, gP_of H.1.t0 H.1.p0_1, gP_of H.1.t0 H.1.p0_5, gP_of H.1.t0 H.1.p0_6, gP_of H.1.t0 H.1.p0_7, gP_of H.1.t0 H.1.p0_8, gP_of H.1.t0 H.1.p0_9, gP_of H.1.t0 H.1.p0_14, gP_of H.1.t0 H.1.p0_15, gP_of H.1.t0 H.1.p0_21, gP_of H.1.t0 H.1.p0_22, gP_of H.1.t0 H.1.p0_23, gP_of H.1.t0 H.1.p0_24, gP_of H.1.t0 H.1.p0_26, gP_of H.1.t0 H.1.p0_27, gP_of H.1.t0 H.1.p0_28, gP_of H.1.t0 H.1.p0_29, gP_of H.1.t0 H.1.p0_30, gP_of H.1.t0 H.1.p0_31, gP_of H.1.t0 H.1.p0_32, gP_of H.1.t0 H.1.p0_33, gP_of H.1.t0 H.1.p0_40, gP_of H.1.t0 H.1.p0_41, gP_of H.1.t0 H.1.p0_46, gP_of H.1.t0 H.1.p0_47, gP_of H.1.t0 H.1.p0_48, hh, f_X12_in, ek, ef, eb, hx, mk, hk, c1, c2, d2, er hk, show nI 0 = 0 from rfl, show nI 1 = 1 from rfl, show nI 2 = 2 from rfl, show nI 3 = 3 from rfl, show nI 4 = 4 from rfl, show nI 5 = 5 from rfl]; done)
      | (simp (config := { decide := true }) only [↓reduceIte, Option.bind_some, Option.bind_none, f_X12_mark, H.1.t0, gP_of H.1.t0 H.1.p0_1, gP_of H.1.t0 H.1.p0_5, gP_of H.1.t0 H.1.p0_6, gP_of H.1.t0 H.1.p0_7, gP_of H.1.t0 H.1.p0_8, gP_of H.1.t0 H.1.p0_9, gP_of H.1.t0 H.1.p0_14, gP_of H.1.t0 H.1.p0_15, gP_of H.1.t0 H.1.p0_21, gP_of H.1.t0 H.1.p0_22, gP_of H.1.t0 H.1.p0_23, gP_of H.1.t0 H.1.p0_24, gP_of H.1.t0 H.1.p0_26, gP_of H.1.t0 H.1.p0_27, gP_of H.1.t0 H.1.p0_28, gP_of H.1.t0 H.1.p0_29, gP_of H.1.t0 H.1.p0_30, gP_of H.1.t0 H.1.p0_31, gP_of H.1.t0 H.1.p0_32, gP_of H.1.t0 H.1.p0_33, gP_of H.1.t0 H.1.p0_40, gP_of H.1.t0 H.1.p0_41, gP_of H.1.t0 H.1.p0_46, gP_of H.1.t0 H.1.p0_47, gP_of H.1.t0 H.1.p0_48, hh, f_X12_in, ek, ef, eb, hx, mk, hk, c1, c2, d2, show nI 0 = 0 from rfl, show nI 1 = 1 from rfl, show nI 2 = 2 from rfl, show nI 3 = 3 from rfl, show nI 4 = 4 from rfl, show nI 5 = 5 from rfl]; done)
theorem lt_one {x : Int32} (h : x < 0) : x < 1 := by
  rw [Int32.lt_iff_toInt_lt] at h ⊢
  have : (0 : Int32).toInt = 0 := rfl
  have : (1 : Int32).toInt = 1 := rfl
  omega
/-- a number from 1 to N, or not -/
theorem ix1 (x : Int32) (N : Nat) (hN : N < 2 ^ 30) : x < 1 ∨ (¬ x < 1 ∧ nI N < x) ∨ ∃ j, 1 ≤ j ∧ j ≤ N ∧ x = nI j := by
  rcases ix3 x (N + 1) (by omega) with h | ⟨h, h2⟩ | ⟨j, hj, rfl⟩
  · exact Or.inl (lt_one h)
  · by_cases h1 : x < 1
    · exact Or.inl h1
    · exact Or.inr (Or.inl ⟨h1, i_big' h2 (by omega) (by omega)⟩)
  · by_cases h0 : j = 0
    · subst h0; exact Or.inl (by decide)
    · exact Or.inr (Or.inr ⟨j, by omega, by omega, rfl⟩)
theorem PSI_mark : PS_mark INV := by
  intro μ a1 a2 q1 q2 hI
  refine both_of (fx := fun μ a => f_X11_mark μ a q1 q2) (fm := fun μ c => f_X12_mark μ c q1 q2) ?_ μ a1 a2 hI
  intro R T F h K hw
  have w := hw.2.2.1
  rcases ix2 q1 h.n (by have := w.1; omega) with h1 | ⟨g, hg, rfl⟩
  · refine ⟨-1, R, T, F, h, K, hw, fun μ a H => XO.same H ?_, fun μ c H => MO.same H ?_⟩
    · simp (config := { decide := true }) only [↓reduceIte, Option.bind_some, Option.bind_none, f_X11_mark, H.1.t0, gP_of H.1.t0 H.1.p0_0, gP_of H.1.t0 H.1.p0_1, gP_of H.1.t0 H.1.p0_2, gP_of H.1.t0 H.1.p0_3, gP_of H.1.t0 H.1.p0_4, gP_of H.1.t0 H.1.p0_5, gP_of H.1.t0 H.1.p0_6, gP_of H.1.t0 H.1.p0_7, gP_of H.1.t0 H.1.p0_8, gP_of H.1.t0 H.1.p0_9, x_hasG_bad H h1]
    · simp (config := { decide := true }) only [↓reduceIte, Option.bind_some, Option.bind_none, f_X12_mark, H.1.t0, gP_of H.1.t0 H.1.p0_1, gP_of H.1.t0 H.1.p0_5, gP_of H.1.t0 H.1.p0_6, gP_of H.1.t0 H.1.p0_7, gP_of H.1.t0 H.1.p0_8, gP_of H.1.t0 H.1.p0_9, gP_of H.1.t0 H.1.p0_14, gP_of H.1.t0 H.1.p0_15, gP_of H.1.t0 H.1.p0_21, gP_of H.1.t0 H.1.p0_22, gP_of H.1.t0 H.1.p0_23, gP_of H.1.t0 H.1.p0_24, gP_of H.1.t0 H.1.p0_26, gP_of H.1.t0 H.1.p0_27, gP_of H.1.t0 H.1.p0_28, gP_of H.1.t0 H.1.p0_29, gP_of H.1.t0 H.1.p0_30, gP_of H.1.t0 H.1.p0_31, gP_of H.1.t0 H.1.p0_32, gP_of H.1.t0 H.1.p0_33, gP_of H.1.t0 H.1.p0_40, gP_of H.1.t0 H.1.p0_41, gP_of H.1.t0 H.1.p0_46, gP_of H.1.t0 H.1.p0_47, gP_of H.1.t0 H.1.p0_48, m_isG_bad H w h1]
  rcases ix1 q2 5 (by decide) with h2 | ⟨h2, h3⟩ | ⟨j, hj, hj5, rfl⟩
  · refine ⟨-1, R, T, F, h, K, hw, fun μ a H => XO.same H ?_, fun μ c H => MO.same H ?_⟩
    · simp (config := { decide := true }) only [↓reduceIte, Option.bind_some, Option.bind_none, f_X11_mark, H.1.t0, gP_of H.1.t0 H.1.p0_0, gP_of H.1.t0 H.1.p0_1, gP_of H.1.t0 H.1.p0_2, gP_of H.1.t0 H.1.p0_3, gP_of H.1.t0 H.1.p0_4, gP_of H.1.t0 H.1.p0_5, gP_of H.1.t0 H.1.p0_6, gP_of H.1.t0 H.1.p0_7, gP_of H.1.t0 H.1.p0_8, gP_of H.1.t0 H.1.p0_9, x_hasG_ok H w hg, h2]
    · simp (config := { decide := true }) only [↓reduceIte, Option.bind_some, Option.bind_none, f_X12_mark, H.1.t0, gP_of H.1.t0 H.1.p0_1, gP_of H.1.t0 H.1.p0_5, gP_of H.1.t0 H.1.p0_6, gP_of H.1.t0 H.1.p0_7, gP_of H.1.t0 H.1.p0_8, gP_of H.1.t0 H.1.p0_9, gP_of H.1.t0 H.1.p0_14, gP_of H.1.t0 H.1.p0_15, gP_of H.1.t0 H.1.p0_21, gP_of H.1.t0 H.1.p0_22, gP_of H.1.t0 H.1.p0_23, gP_of H.1.t0 H.1.p0_24, gP_of H.1.t0 H.1.p0_26, gP_of H.1.t0 H.1.p0_27, gP_of H.1.t0 H.1.p0_28, gP_of H.1.t0 H.1.p0_29, gP_of H.1.t0 H.1.p0_30, gP_of H.1.t0 H.1.p0_31, gP_of H.1.t0 H.1.p0_32, gP_of H.1.t0 H.1.p0_33, gP_of H.1.t0 H.1.p0_40, gP_of H.1.t0 H.1.p0_41, gP_of H.1.t0 H.1.p0_46, gP_of H.1.t0 H.1.p0_47, gP_of H.1.t0 H.1.p0_48, m_isG_ok H w hg, f_X12_in, h2]
  · have e1 : ¬ q2 ≤ 5 := fun q => by
      rw [Int32.lt_iff_toInt_lt] at h3
      rw [Int32.le_iff_toInt_le] at q
      have : (5 : Int32).toInt = 5 := rfl
      have : (nI 5).toInt = 5 := rfl
      omega
    have h3' : 5 < q2 := h3
    refine ⟨-1, R, T, F, h, K, hw, fun μ a H => XO.same H ?_, fun μ c H => MO.same H ?_⟩
    · simp (config := { decide := true }) only [↓reduceIte, Option.bind_some, Option.bind_none, f_X11_mark, H.1.t0, gP_of H.1.t0 H.1.p0_0, gP_of H.1.t0 H.1.p0_1, gP_of H.1.t0 H.1.p0_2, gP_of H.1.t0 H.1.p0_3, gP_of H.1.t0 H.1.p0_4, gP_of H.1.t0 H.1.p0_5, gP_of H.1.t0 H.1.p0_6, gP_of H.1.t0 H.1.p0_7, gP_of H.1.t0 H.1.p0_8, gP_of H.1.t0 H.1.p0_9, x_hasG_ok H w hg, h2, e1]
    · simp (config := { decide := true }) only [↓reduceIte, Option.bind_some, Option.bind_none, f_X12_mark, H.1.t0, gP_of H.1.t0 H.1.p0_1, gP_of H.1.t0 H.1.p0_5, gP_of H.1.t0 H.1.p0_6, gP_of H.1.t0 H.1.p0_7, gP_of H.1.t0 H.1.p0_8, gP_of H.1.t0 H.1.p0_9, gP_of H.1.t0 H.1.p0_14, gP_of H.1.t0 H.1.p0_15, gP_of H.1.t0 H.1.p0_21, gP_of H.1.t0 H.1.p0_22, gP_of H.1.t0 H.1.p0_23, gP_of H.1.t0 H.1.p0_24, gP_of H.1.t0 H.1.p0_26, gP_of H.1.t0 H.1.p0_27, gP_of H.1.t0 H.1.p0_28, gP_of H.1.t0 H.1.p0_29, gP_of H.1.t0 H.1.p0_30, gP_of H.1.t0 H.1.p0_31, gP_of H.1.t0 H.1.p0_32, gP_of H.1.t0 H.1.p0_33, gP_of H.1.t0 H.1.p0_40, gP_of H.1.t0 H.1.p0_41, gP_of H.1.t0 H.1.p0_46, gP_of H.1.t0 H.1.p0_47, gP_of H.1.t0 H.1.p0_48, m_isG_ok H w hg, f_X12_in, h2, h3']
  · cases hm : mk h g j with
    | none =>
      refine ⟨-3, R, T, fnd F 3, h, K, hw, fun μ a H => XO.find H (by decide) ?_, fun μ c H => MO.find H (by decide) ?_⟩
      · have := x_mark H w hg hj hj5; rw [hm] at this; exact this
      · have := m_mark H w hg hj hj5; rw [hm] at this; exact this
    | some v =>
      refine ⟨v, R, T, F, h, K, hw, fun μ a H => XO.same H ?_, fun μ c H => MO.same H ?_⟩
      · have := x_mark H w hg hj hj5; rw [hm] at this; exact this
      · have := m_mark H w hg hj hj5; rw [hm] at this; exact this
