/-! ===== guilds, teeth, treads ===== -/
section HX
variable {R T : GR} {F : GF} {h : GH} {K : GK} {μ : Mm} {a : Nat}
theorem x_hasG_bad (H : XI R T F h K μ a) {p : Int32} (hp : Out p h.n) : f_X3_hasGuild μ (a + 3) p = some 0 := by
  rcases hp with hp | ⟨hp, hq⟩
  · simp (config := { decide := true }) only [↓reduceIte, Option.bind_some, Option.bind_none, f_X3_hasGuild, x_hev H, hp]
  · simp (config := { decide := true }) only [↓reduceIte, Option.bind_some, Option.bind_none, f_X3_hasGuild, x_hev H, hp, hq]
theorem x_hasG_ok (H : XI R T F h K μ a) (w : WH h) {g : Nat} (hg : g < h.n) : f_X3_hasGuild μ (a + 3) (nI g) = some 1 := by
  have := w.1
  have e1 : ¬ nI g < 0 := nI_pos (by omega)
  have e2 : ¬ nI h.n ≤ nI g := nI_ge hg (by omega)
  simp (config := { decide := true }) only [↓reduceIte, Option.bind_some, Option.bind_none, f_X3_hasGuild, x_hev H, e1, e2]
theorem WH.te_lt {h : GH} (w : WH h) : h.te ≤ 60 := by
  rcases w.2.1 with ⟨-, t0, -⟩ | ⟨-, -, t2, -⟩ <;> omega
theorem x_hasT_bad (H : XI R T F h K μ a) {p : Int32} (hp : Out p h.te) : f_X3_hasTooth μ (a + 3) p = some 0 := by
  rcases hp with hp | ⟨hp, hq⟩
  · simp (config := { decide := true }) only [↓reduceIte, Option.bind_some, Option.bind_none, f_X3_hasTooth, x_hev H, hp]
  · simp (config := { decide := true }) only [↓reduceIte, Option.bind_some, Option.bind_none, f_X3_hasTooth, x_hev H, hp, hq]
theorem x_hasT_ok (H : XI R T F h K μ a) (w : WH h) {g : Nat} (hg : g < h.te) : f_X3_hasTooth μ (a + 3) (nI g) = some 1 := by
  have := w.te_lt
  have e1 : ¬ nI g < 0 := nI_pos (by omega)
  have e2 : ¬ nI h.te ≤ nI g := nI_ge hg (by omega)
  simp (config := { decide := true }) only [↓reduceIte, Option.bind_some, Option.bind_none, f_X3_hasTooth, x_hev H, e1, e2]
theorem x_empty (H : XI R T F h K μ a) (h0 : h.n = 0) : f_X3_isEmpty μ (a + 3) = some 1 := by
  simp (config := { decide := true }) only [↓reduceIte, Option.bind_some, Option.bind_none, f_X3_isEmpty, x_hev H, h0, show nI 0 = 0 from rfl]
theorem x_full (H : XI R T F h K μ a) (w : WH h) (h0 : ¬ h.n = 0) : f_X3_isEmpty μ (a + 3) = some 0 := by
  have := w.1
  have e : ¬ nI h.n = 0 := nI_ne0 (by omega) (by omega)
  simp (config := { decide := true }) only [↓reduceIte, Option.bind_some, Option.bind_none, f_X3_isEmpty, x_hev H, e]
theorem x_guild (H : XI R T F h K μ a) (w : WH h) : ∃ gb, a + 61 ≤ gb ∧ gb + h.n ≤ hz μ ∧ ∀ g, g < h.n → aP μ (a + 4) 24 (nI g) = some (gb + g) ∧ tg μ (gb + g) = ktg (h.kd g) ∧ mI μ (gb + g) 0 = nI (h.ft g) ∧ mI μ (gb + g) 1 = nI (h.q.2.2.2.2.2 g) := by
  obtain ⟨g1, g2, g3, g4, g5, g6, g7, g8, g9, g10, g11, g12, gb, k1, k2, k3⟩ := H.2.2.2.2.1
  have := w.1
  refine ⟨gb, k1, k2, fun g hg => ?_⟩
  obtain ⟨p1, p2, p3, p4⟩ := k3 g hg
  exact ⟨aP_of H.1.t4 (by rw [H.1.n4]; omega) (by omega) p1, p2, p3, p4⟩
/-- a guild's tread with no floor between -/
theorem g_bare {μ : Mm} {p k f : Nat} (ht : tg μ p = ktg k) (hk : k < 6) (hf : mI μ p 0 = nI f) (h1 : 1 ≤ f) (h9 : f ≤ 9) : fv_2_bareTread μ p = some (nI (bar k f)) := by
  have m2 : (2 : Int32) * nI f = nI (2 * f) := pk_mul 2 f
  have d2 : nI f / (2 : Int32) = nI (f / 2) := pk_div (d := 2) (by omega) (by decide) (by decide)
  have s1 : nI f - (1 : Int32) = nI (f - 1) := pred1 (by omega)
  have d3 : nI (f - 1) / (2 : Int32) = nI ((f - 1) / 2) := pk_div (d := 2) (by omega) (by decide) (by decide)
  rcases (show k = 0 ∨ k = 1 ∨ k = 2 ∨ k = 3 ∨ k = 4 ∨ k = 5 by omega) with rfl | rfl | rfl | rfl | rfl | rfl
  · have e : tg μ p = 3 := ht
    simp (config := { decide := true }) only [↓reduceIte, Option.bind_some, Option.bind_none, fv_2_bareTread, f_X2_bareTread, gG, gt, e, hf, bar]
  · have e : tg μ p = 5 := ht
    simp (config := { decide := true }) only [↓reduceIte, Option.bind_some, Option.bind_none, fv_2_bareTread, f_X4_bareTread, gG, gt, e, hf, bar, m2]
  · have e : tg μ p = 2 := ht
    simp (config := { decide := true }) only [↓reduceIte, Option.bind_some, Option.bind_none, fv_2_bareTread, f_X1_bareTread, gG, gt, e, hf, bar, s1]
  · have e : tg μ p = 1 := ht
    simp (config := { decide := true }) only [↓reduceIte, Option.bind_some, Option.bind_none, fv_2_bareTread, f_X0_bareTread, e, bar]
  · have e : tg μ p = 7 := ht
    simp (config := { decide := true }) only [↓reduceIte, Option.bind_some, Option.bind_none, fv_2_bareTread, f_X6_bareTread, f_X4_bareTread, f_X6_uncountedFeet, gG, gt, e, hf, bar, m2, d2]
    rw [pk_sub (by omega)]
  · have e : tg μ p = 10 := ht
    simp (config := { decide := true }) only [↓reduceIte, Option.bind_some, Option.bind_none, fv_2_bareTread, f_X9_bareTread, f_X1_bareTread, gG, gt, e, hf, bar, s1, d3]
theorem ktg_gt {k : Nat} (hk : k < 6) : gt (ktg k) := by
  rcases (show k = 0 ∨ k = 1 ∨ k = 2 ∨ k = 3 ∨ k = 4 ∨ k = 5 by omega) with rfl | rfl | rfl | rfl | rfl | rfl <;> decide
theorem g_treadOn {μ : Mm} {p k f fl : Nat} (ht : tg μ p = ktg k) (hk : k < 6) (hf : mI μ p 0 = nI f) (h1 : 1 ≤ f) (h9 : f ≤ 9) (hfl : fl ≤ 2) : f_X2_treadOn μ p (nI fl) = some (nI (if fl = 0 then bar k f else if fl = 1 then bar k f / 2 else 0)) := by
  have hg := ktg_gt hk
  rw [← ht] at hg
  have hb := bar_le (k := k) h9
  have d2 : nI (bar k f) / (2 : Int32) = nI (bar k f / 2) := pk_div (d := 2) (by omega) (by decide) (by decide)
  rcases (show fl = 0 ∨ fl = 1 ∨ fl = 2 by omega) with rfl | rfl | rfl
  · simp (config := { decide := true }) only [↓reduceIte, Option.bind_some, Option.bind_none, f_X2_treadOn, hg, g_bare ht hk hf h1 h9, show nI 0 = 0 from rfl]
  · simp (config := { decide := true }) only [↓reduceIte, Option.bind_some, Option.bind_none, f_X2_treadOn, hg, g_bare ht hk hf h1 h9, show nI 1 = 1 from rfl, d2]
  · simp (config := { decide := true }) only [↓reduceIte, Option.bind_some, Option.bind_none, f_X2_treadOn, hg, show nI 2 = 2 from rfl]
theorem WH.fl {h : GH} (w : WH h) : h.q.2.2.1 ≤ 2 := w.bq.2.2.1
theorem x_tread (H : XI R T F h K μ a) (w : WH h) {g : Nat} (hg : g < h.n) : f_X3_treadNow μ (a + 3) (nI g) = some (nI (h.tr g)) := by
  obtain ⟨gb, k1, k2, k3⟩ := x_guild H w
  obtain ⟨p1, p2, p3, p4⟩ := k3 g hg
  obtain ⟨w3, w4, w5⟩ := w.2.2.1 g hg
  simp (config := { decide := true }) only [↓reduceIte, Option.bind_some, Option.bind_none, f_X3_treadNow, x_hev H, x_hasG_ok H w hg, p1, g_treadOn p2 w3 p3 w4 w5 w.fl]
  first | done | rfl
theorem rem_te {x t : Nat} (hx : x < 2 ^ 31) (ht : 12 ≤ t) (ht2 : t ≤ 60) : f_X11_remainder μ (nI x) (nI t) = some (nI (x % t)) := by
  have e1 : (1 : Int32) ≤ nI t := (show nI 1 ≤ nI t from nI_le (by omega) (by omega))
  have e2 : ¬ nI t = 0 := nI_ne0 (by omega) (by omega)
  have e3 : (0 : Int32) ≤ nI x ^^^ nI t := by
    have e0 : ¬ (nI x ^^^ nI t) < 0 := by
      intro q
      rw [Int32.lt_iff_toInt_lt] at q
      have hx1 : (nI x).toBitVec.msb = false := by
        rw [BitVec.msb_eq_false_iff_two_mul_lt, pk_tn (by omega)]; omega
      have ht1 : (nI t).toBitVec.msb = false := by
        rw [BitVec.msb_eq_false_iff_two_mul_lt, pk_tn (by omega)]; omega
      have hb : (nI x ^^^ nI t).toBitVec.msb = false := by
        rw [Int32.toBitVec_xor, BitVec.msb_xor, hx1, ht1]; rfl
      have : 0 ≤ (nI x ^^^ nI t).toBitVec.toInt := by
        rw [BitVec.toInt_eq_msb_cond, hb]
        exact Int.natCast_nonneg _
      have e5 : (nI x ^^^ nI t).toInt = (nI x ^^^ nI t).toBitVec.toInt := rfl
      have e6 : (0 : Int32).toInt = 0 := rfl
      omega
    exact i_nn e0
  simp (config := { decide := true }) only [↓reduceIte, Option.bind_some, Option.bind_none, f_X11_remainder, f_J9_floorMod_7cf53, e1, e2, e3, pk_rem hx (show 0 < t by omega) (show t < 2 ^ 31 by omega)]
theorem x_wrap (H : XI R T F h K μ a) (w : WH h) (h0 : ¬ h.n = 0) {x : Nat} (hx : x < 2 ^ 31) : f_X3_wrap μ (a + 3) (nI x) = some (nI (x % h.te)) := by
  rcases w.2.1 with ⟨n0, -⟩ | ⟨-, t1, t2, -⟩
  · exact absurd n0 h0
  simp (config := { decide := true }) only [↓reduceIte, Option.bind_some, Option.bind_none, f_X3_wrap, x_hev H, rem_te hx t1 t2]
theorem x_byTeeth (H : XI R T F h K μ a) (w : WH h) (h0 : ¬ h.n = 0) {x : Nat} (hx : x < 2 ^ 31) : f_X3_byTeeth μ (a + 3) (nI x) = some (nI (x / h.te)) := by
  rcases w.2.1 with ⟨n0, -⟩ | ⟨-, t1, t2, -⟩
  · exact absurd n0 h0
  have e1 : (1 : Int32) ≤ nI h.te := (show nI 1 ≤ nI h.te from nI_le (by omega) (by omega))
  have e2 : ¬ nI h.te = 0 := nI_ne0 (by omega) (by omega)
  simp (config := { decide := true }) only [↓reduceIte, Option.bind_some, Option.bind_none, f_X3_byTeeth, x_hev H, e1, e2, pk_div hx (show 0 < h.te by omega) (show h.te < 2 ^ 31 by omega)]
end HX
