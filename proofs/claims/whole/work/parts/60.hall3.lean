/-! ===== rents, and the model's guilds ===== -/
theorem and63 {t : Nat} (ht : t < 64) : ((nI t).toInt64 &&& 63) = lN t := by
  rw [nI_l (by omega)]
  have : ∀ t, t < 64 → (lN t &&& 63) = lN t := by decide +kernel
  exact this t ht
theorem and63u {t : Nat} (ht : t < 64) : ((nI t).toInt64.toUInt64 &&& Int64.toUInt64 63) = UInt64.ofNat t := by
  rw [nI_l (by omega)]
  have : ∀ t, t < 64 → ((lN t).toUInt64 &&& Int64.toUInt64 63) = UInt64.ofNat t := by decide +kernel
  exact this t ht
theorem and1 (x : Int64) : (x &&& 1) = if x.toBitVec.getLsbD 0 then 1 else 0 := by
  apply Int64.toBitVec_inj.mp
  apply BitVec.eq_of_getLsbD_eq
  intro i hi
  rw [Int64.toBitVec_and, BitVec.getLsbD_and, show (1 : Int64).toBitVec = 1#64 from rfl, BitVec.getLsbD_one]
  by_cases h0 : i = 0
  · subst h0
    by_cases hb : x.toBitVec.getLsbD 0
    · rw [if_pos hb, hb]; decide
    · rw [if_neg hb, Bool.eq_false_iff.mpr hb]; decide
  · rw [decide_eq_false h0, Bool.and_false, Bool.and_false]
    by_cases hb : x.toBitVec.getLsbD 0
    · rw [if_pos hb, show (1 : Int64).toBitVec = 1#64 from rfl, BitVec.getLsbD_one, decide_eq_false h0, Bool.and_false]
    · rw [if_neg hb, show (0 : Int64).toBitVec = 0#64 from rfl, BitVec.getLsbD_zero]
theorem bitU (rs : Int64) {t : Nat} (ht : t < 64) : ((rs.toUInt64 >>> ((nI t).toInt64.toUInt64 &&& Int64.toUInt64 63)).toInt64 &&& 1) = if isr rs t then 1 else 0 := by
  rw [and63u ht, and1]
  have : (rs.toUInt64 >>> UInt64.ofNat t).toInt64.toBitVec.getLsbD 0 = isr rs t := by
    have e : (rs.toUInt64 >>> UInt64.ofNat t).toInt64.toBitVec = rs.toBitVec >>> t := by
      have e1 : (rs.toUInt64 >>> UInt64.ofNat t).toInt64.toBitVec = (rs.toUInt64 >>> UInt64.ofNat t).toBitVec := rfl
      rw [e1, UInt64.toBitVec_shiftRight]
      have e2 : ((UInt64.ofNat t).toBitVec % 64).toNat = t := by
        have : ∀ t, t < 64 → ((UInt64.ofNat t).toBitVec % 64).toNat = t := by decide +kernel
        exact this t ht
      rw [BitVec.ushiftRight_eq', e2]
      rfl
    rw [e, BitVec.getLsbD_ushiftRight, Nat.add_zero]
    rfl
  rw [this]
theorem bitS (rs : Int64) {t : Nat} (ht : t < 64) : ((rs >>> ((nI t).toInt64 &&& 63)) &&& 1) = if isr rs t then 1 else 0 := by
  rw [and63 ht, and1]
  have : (rs >>> lN t).toBitVec.getLsbD 0 = isr rs t := by
    rw [Int64.toBitVec_shiftRight]
    have e2 : ((lN t).toBitVec.smod 64).toNat = t := by
      have : ∀ t, t < 64 → ((lN t).toBitVec.smod 64).toNat = t := by decide +kernel
      exact this t ht
    rw [BitVec.sshiftRight_eq', e2, BitVec.getLsbD_sshiftRight]
    have : t + 0 < 64 := by omega
    rw [if_pos this]
    show (decide (0 < 64) && rs.toBitVec.getLsbD (t + 0)) = isr rs t
    rw [Nat.add_zero]
    rfl
  rw [this]
/-- one more rent -/
theorem isr_or (rs : Int64) {t : Nat} (ht : t < 64) (u : Nat) : isr (rs ||| ((1 : Int64) <<< ((nI t).toInt64 &&& 63))) u = (isr rs u || decide (u = t)) := by
  rw [and63 ht]
  unfold isr
  rw [Int64.toBitVec_or, BitVec.getLsbD_or, Int64.toBitVec_shiftLeft]
  have e2 : ((lN t).toBitVec.smod 64).toNat = t := by
    have : ∀ t, t < 64 → ((lN t).toBitVec.smod 64).toNat = t := by decide +kernel
    exact this t ht
  rw [BitVec.shiftLeft_eq', e2, BitVec.getLsbD_shiftLeft, show (1 : Int64).toBitVec = 1#64 from rfl, BitVec.getLsbD_one]
  congr 1
  by_cases h : u = t
  · subst h; rw [Nat.sub_self]; simp; omega
  · rw [decide_eq_false h]
    by_cases h2 : u < t
    · simp [h2]
    · have : ¬ u - t = 0 := by omega
      rw [decide_eq_false this]; simp
theorem rentU {rs : Int64} {t : Nat} (ht : t < 64) : (lg_cmp ((rs.toUInt64 >>> ((nI t).toInt64.toUInt64 &&& Int64.toUInt64 63)).toInt64 &&& (1 : Int64)) (0 : Int64) = 0) ↔ isr rs t = false := by
  rw [bitU rs ht]
  cases isr rs t <;> decide
theorem rentS {rs : Int64} {t : Nat} (ht : t < 64) : (lg_cmp ((rs >>> ((nI t).toInt64 &&& 63)) &&& (1 : Int64)) (1 : Int64) = 0) ↔ isr rs t = true := by
  rw [bitS rs ht]
  cases isr rs t <;> decide
theorem x_rentAt {R T : GR} {F : GF} {h : GH} {K : GK} {μ : Mm} {a : Nat} (H : XI R T F h K μ a) (w : WH h) {t : Nat} (ht : t < h.te) : f_X3_hasRentAt μ (a + 3) (nI t) = some (nI (b1 (isr h.rs t))) := by
  have := w.te_lt
  have e := rentU (rs := h.rs) (show t < 64 by omega)
  cases hb : isr h.rs t with
  | true =>
    have e' : ¬ lg_cmp ((h.rs.toUInt64 >>> ((nI t).toInt64.toUInt64 &&& Int64.toUInt64 63)).toInt64 &&& (1 : Int64)) (0 : Int64) = 0 := fun q => by rw [e, hb] at q; cases q
    simp (config := { decide := true }) only [↓reduceIte, Option.bind_some, Option.bind_none, f_X3_hasRentAt, x_hev H, x_hasT_ok H w ht, e'] <;> rfl
  | false =>
    have e' := e.mpr hb
    simp (config := { decide := true }) only [↓reduceIte, Option.bind_some, Option.bind_none, f_X3_hasRentAt, x_hev H, x_hasT_ok H w ht, e'] <;> rfl
section HM
variable {R T : GR} {F : GF} {h : GH} {K : GK} {μ : Mm} {c : Nat}
theorem m_isG_bad (H : MI R T F h K μ c) (w : WH h) {p : Int32} (hp : Out p h.n) : f_X12_isGuild μ c p = some 0 := by
  have := w.1
  simp (config := { decide := true }) only [↓reduceIte, Option.bind_some, Option.bind_none, f_X12_isGuild, H.1.t0, m_hev H, m_in_last (show h.n < 2 ^ 31 by omega) hp] <;> rfl
theorem m_isG_ok (H : MI R T F h K μ c) (w : WH h) {g : Nat} (hg : g < h.n) : f_X12_isGuild μ c (nI g) = some 1 := by
  have := w.1
  simp (config := { decide := true }) only [↓reduceIte, Option.bind_some, Option.bind_none, f_X12_isGuild, H.1.t0, m_hev H, m_in_last1 hg (show h.n < 2 ^ 31 by omega)] <;> rfl
theorem m_isT_bad (H : MI R T F h K μ c) (w : WH h) {p : Int32} (hp : Out p h.te) : f_X12_isTooth μ c p = some 0 := by
  have := w.te_lt
  simp (config := { decide := true }) only [↓reduceIte, Option.bind_some, Option.bind_none, f_X12_isTooth, H.1.t0, m_hev H, m_in_last (show h.te < 2 ^ 31 by omega) hp] <;> rfl
theorem m_isT_ok (H : MI R T F h K μ c) (w : WH h) {g : Nat} (hg : g < h.te) : f_X12_isTooth μ c (nI g) = some 1 := by
  have := w.te_lt
  simp (config := { decide := true }) only [↓reduceIte, Option.bind_some, Option.bind_none, f_X12_isTooth, H.1.t0, m_hev H, m_in_last1 hg (show h.te < 2 ^ 31 by omega)] <;> rfl
theorem m_rent (H : MI R T F h K μ c) {t : Nat} (ht : t < 64) : f_X12_isRent μ c (nI t) = some (nI (b1 (isr h.rs t))) := by
  have e := rentS (rs := h.rs) ht
  cases hb : isr h.rs t with
  | true =>
    have e' := e.mpr hb
    simp (config := { decide := true }) only [↓reduceIte, Option.bind_some, Option.bind_none, f_X12_isRent, H.1.t0, m_hev H, e'] <;> rfl
  | false =>
    have e' : ¬ lg_cmp ((h.rs >>> ((nI t).toInt64 &&& 63)) &&& (1 : Int64)) (1 : Int64) = 0 := fun q => by rw [e, hb] at q; cases q
    simp (config := { decide := true }) only [↓reduceIte, Option.bind_some, Option.bind_none, f_X12_isRent, H.1.t0, m_hev H, e'] <;> rfl
theorem m_kd (H : MI R T F h K μ c) (w : WH h) {g : Nat} (hg : g < h.n) : aI μ (c + 7) 21 (nI g) = some (nI (h.kd g)) := by
  have := w.1
  rw [aI_of H.1.t7 (by rw [H.1.n7]; omega) (by omega), (H.2.2.2.2.1.2.2.2.2.2.1 g hg).1]
theorem m_ft (H : MI R T F h K μ c) (w : WH h) {g : Nat} (hg : g < h.n) : aI μ (c + 8) 21 (nI g) = some (nI (h.ft g)) := by
  have := w.1
  rw [aI_of H.1.t8 (by rw [H.1.n8]; omega) (by omega), (H.2.2.2.2.1.2.2.2.2.2.1 g hg).2]
theorem m_wk (H : MI R T F h K μ c) {g : Nat} (hg : g < 6) : aI μ (c + 11) 21 (nI (5 + g)) = some (nI (h.q.2.2.2.2.2 g)) := by
  have := H.2.2.2.2.1.2.2.2.2.2.2.1.2.2.2.2.2 g hg
  rw [aI_of H.1.t11 (by rw [H.1.n11]; omega) (by omega), show 5 + g = 0 + 5 + g by omega, this]
theorem m_bare (H : MI R T F h K μ c) (w : WH h) {g : Nat} (hg : g < h.n) : f_X12_bareOf μ c (nI g) = some (nI (bar (h.kd g) (h.ft g))) := by
  obtain ⟨w3, h1, h9⟩ := w.2.2.1 g hg
  generalize hk : h.kd g = k at *
  generalize hf : h.ft g = f at *
  have m2 : (2 : Int32) * nI f = nI (2 * f) := pk_mul 2 f
  have d2 : nI f / (2 : Int32) = nI (f / 2) := pk_div (d := 2) (by omega) (by decide) (by decide)
  have s1 : nI f - (1 : Int32) = nI (f - 1) := pred1 (by omega)
  have d3 : nI (f - 1) / (2 : Int32) = nI ((f - 1) / 2) := pk_div (d := 2) (by omega) (by decide) (by decide)
  have s2 : nI (2 * f) - nI (f / 2) = nI (2 * f - f / 2) := pk_sub (by omega)
  rcases (show k = 0 ∨ k = 1 ∨ k = 2 ∨ k = 3 ∨ k = 4 ∨ k = 5 by omega) with rfl | rfl | rfl | rfl | rfl | rfl <;>
    simp (config := { decide := true }) only [↓reduceIte, Option.bind_some, Option.bind_none, f_X12_bareOf, H.1.t0, gP_of H.1.t0 H.1.p0_14, gP_of H.1.t0 H.1.p0_15, m_kd H w hg, m_ft H w hg, hk, hf, show nI 0 = 0 from rfl, show nI 1 = 1 from rfl, show nI 2 = 2 from rfl, show nI 3 = 3 from rfl, show nI 4 = 4 from rfl, show nI 5 = 5 from rfl, bar, m2, d2, s1, d3, s2]
theorem m_tread (H : MI R T F h K μ c) (w : WH h) {g : Nat} (hg : g < h.n) : f_X12_treadOf μ c (nI g) = some (nI (h.tr g)) := by
  obtain ⟨w3, h1, h9⟩ := w.2.2.1 g hg
  have hb := bar_le (k := h.kd g) h9
  have d2 : nI (bar (h.kd g) (h.ft g)) / (2 : Int32) = nI (bar (h.kd g) (h.ft g) / 2) := pk_div (d := 2) (by omega) (by decide) (by decide)
  have hfl := w.fl
  have ev := m_hev H
  unfold GH.tr trd
  generalize h.q.2.2.1 = fl at *
  rcases (show fl = 0 ∨ fl = 1 ∨ fl = 2 by omega) with rfl | rfl | rfl <;>
    simp (config := { decide := true }) only [↓reduceIte, Option.bind_some, Option.bind_none, f_X12_treadOf, H.1.t0, gP_of H.1.t0 H.1.p0_23, ev, show nI 0 = 0 from rfl, show nI 1 = 1 from rfl, show nI 2 = 2 from rfl, m_bare H w hg, d2]
end HM
theorem WH.tr_le {h : GH} (w : WH h) {g : Nat} (hg : g < h.n) : h.tr g ≤ 18 := trd_le (w.2.2.1 g hg).2.2
theorem WH.te_ge {h : GH} (w : WH h) (h0 : ¬ h.n = 0) : 12 ≤ h.te := by
  rcases w.2.1 with ⟨n0, -⟩ | ⟨-, t1, -⟩
  · exact absurd n0 h0
  · exact t1
theorem WH.now_lt {h : GH} (w : WH h) (h0 : ¬ h.n = 0) : h.q.1 < h.te := by
  have := w.te_ge h0
  rcases w.bq.1 with h1 | h1
  · exact h1
  · omega
