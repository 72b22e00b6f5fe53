/-! ===== rents, and the model's guilds ===== -/
theorem and63 {t : Nat} (ht : t < 64) : ((nI t).toInt64 &&& 63) = lN t := by
  rw [nI_l (by omega)]
  have : ∀ t, t < 64 → (lN t &&& 63) = lN t := by decide +kernel
  exact this t ht
theorem and63u {t : Nat} (ht : t < 64) : ((nI t).toInt64.toUInt64 &&& Int64.toUInt64 63) = UInt64.ofNat t := by
  rw [nI_l (by omega)]
  have : ∀ t, t < 64 → ((lN t).toUInt64 &&& Int64.toUInt64 63) = UInt64.ofNat t := by decide +kernel
  exact this t ht
theorem and1 (x : Int64) : (x &&& 1) = if x.toBitVec.getLsbD 0 then 1 else 0 := by
  apply Int64.toBitVec_inj.mp
  apply BitVec.eq_of_getLsbD_eq
  intro i hi
  rw [Int64.toBitVec_and, BitVec.getLsbD_and, show (1 : Int64).toBitVec = 1#64 from rfl, BitVec.getLsbD_one]
  by_cases h0 : i = 0
  · subst h0
    by_cases hb : x.toBitVec.getLsbD 0
    · rw [if_pos hb, hb]; decide
    · rw [if_neg hb, Bool.eq_false_iff.mpr hb]; decide
  · rw [decide_eq_false h0, Bool.and_false, Bool.and_false]
    by_cases hb : x.toBitVec.getLsbD 0
    · rw [if_pos hb, show (1 : Int64).toBitVec = 1#64 from rfl, BitVec.getLsbD_one, decide_eq_false h0, Bool.and_false]
    · rw [if_neg hb, show (0 : Int64).toBitVec = 0#64 from rfl, BitVec.getLsbD_zero]
theorem bitU (rs : Int64) {t : Nat} (ht : t < 64) : ((rs.toUInt64 >>> ((nI t).toInt64.toUInt64 &&& Int64.toUInt64 63)).toInt64 &&& 1) = if isr rs t then 1 else 0 := by
  rw [and63u ht, and1]
  have : (rs.toUInt64 >>> UInt64.ofNat t).toInt64.toBitVec.getLsbD 0 = isr rs t := by
    have e : (rs.toUInt64 >>> UInt64.ofNat t).toInt64.toBitVec = rs.toBitVec >>> t := by
      have e1 : (rs.toUInt64 >>> UInt64.ofNat t).toInt64.toBitVec = (rs.toUInt64 >>> UInt64.ofNat t).toBitVec := rfl
      rw [e1, UInt64.toBitVec_shiftRight]
      have e2 : ((UInt64.ofNat t).toBitVec % 64).toNat = t := by
        have : ∀ t, t < 64 → ((UInt64.ofNat t).toBitVec % 64).toNat = t := by decide +kernel
        exact this t ht
      rw [BitVec.ushiftRight_eq', e2]
      rfl
    rw [e, BitVec.getLsbD_ushiftRight, Nat.add_zero]
    rfl
  rw [this]
theorem bitS (rs : Int64) {t : Nat} (ht : t < 64) : ((rs >>> ((nI t).toInt64 &&& 63)) &&& 1) = if isr rs t then 1 else 0 := by
  rw [and63 ht, and1]
  have : (rs >>> lN t).toBitVec.getLsbD 0 = isr rs t := by
    rw [Int64.toBitVec_shiftRight]
    have e2 : ((lN t).toBitVec.smod 64).toNat = t := by
      have : ∀ t, t < 64 → ((lN t).toBitVec.smod 64).toNat = t := by decide +kernel
      exact this t ht
    rw [BitVec.sshiftRight_eq', e2, BitVec.getLsbD_sshiftRight]
    have : t + 0 < 64 := by omega
    rw [if_pos this]
    show (decide (0 < 64) && rs.toBitVec.getLsbD (t + 0)) = isr rs t
    rw [Nat.add_zero]
    rfl
  rw [this]
/-- one more rent -/
theorem isr_or (rs : Int64) {t : Nat} (ht : t < 64) (u : Nat) : isr (rs ||| ((1 : Int64) <<< ((nI t).toInt64 &&& 63))) u = (isr rs u || decide (u = t)) := by
  rw [and63 ht]
  unfold isr
  rw [Int64.toBitVec_or, BitVec.getLsbD_or, Int64.toBitVec_shiftLeft]
  have e2 : ((lN t).toBitVec.smod 64).toNat = t := by
    have : ∀ t, t < 64 → ((lN t).toBitVec.smod 64).toNat = t := by decide +kernel
    exact this t ht
  rw [BitVec.shiftLeft_eq', e2, BitVec.getLsbD_shiftLeft, show (1 : Int64).toBitVec = 1#64 from rfl, BitVec.getLsbD_one]
  congr 1
  by_cases h : u = t
  · subst h; rw [Nat.sub_self]; simp; omega
  · rw [decide_eq_false h]
    by_cases h2 : u < t
    · simp [h2]
    · have : ¬ u - t = 0 := by omega
      rw [decide_eq_false this]; simp
theorem rentU {rs : Int64} {t : Nat} (ht : t < 64) : (lg_cmp ((rs.toUInt64 >>> ((nI t).toInt64.toUInt64 &&& Int64.toUInt64 63)).toInt64 &&& (1 : Int64)) (0 : Int64) = 0) ↔ isr rs t = false := by
  rw [bitU rs ht]
  cases isr rs t <;> decide
theorem rentS {rs : Int64} {t : Nat} (ht : t < 64) : (lg_cmp ((rs >>> ((nI t).toInt64 &&& 63)) &&& (1 : Int64)) (1 : Int64) = 0) ↔ isr rs t = true := by
  rw [bitS rs ht]
  cases isr rs t <;> decide
theorem x_rentAt {R T : GR} {F : GF} {h : GH} {K : GK} {μ : Mm} {a : Nat} (H : XI R T F h K μ a) (w : WH h) {t : Nat} (ht : t < h.te) : f_X3_hasRentAt μ (a + 3) (nI t) = some (nI (b1 (isr h.rs t))) := by
  have := w.te_lt
  have e := rentU (rs := h.rs) (show t < 64 by omega)
  cases hb : isr h.rs t with
  | true =>
    have e' : ¬ lg_cmp ((h.rs.toUInt64 >>> ((nI t).toInt64.toUInt64 &&& Int64.toUInt64 63)).toInt64 &&& (1 : Int64)) (0 : Int64) = 0 := fun q => by rw [e, hb] at q; cases q
    simp (config := { decide := true }) only [↓reduceIte, Option.bind_some, Option.bind_none, f_X3_hasRentAt, x_hev H, x_hasT_ok H w ht, e'] <;> rfl
  | false =>
    have e' := e.mpr hb
    simp (config := { decide := true }) only [↓reduceIte, Option.bind_some, Option.bind_none, f_X3_hasRentAt, x_hev H, x_hasT_ok H w ht, e'] <;> rfl
section HM
variable {R T : GR} {F : GF} {h : GH} {K : GK} {μ : Mm} {c : Nat}
end HM
theorem WH.tr_le {h : GH} (w : WH h) {g : Nat} (hg : g < h.n) : h.tr g ≤ 18 := trd_le (w.2.2.1 g hg).2.2
theorem WH.te_ge {h : GH} (w : WH h) (h0 : ¬ h.n = 0) : 12 ≤ h.te := by
  rcases w.2.1 with ⟨n0, -⟩ | ⟨-, t1, -⟩
  · exact absurd n0 h0
  · exact t1
theorem WH.now_lt {h : GH} (w : WH h) (h0 : ¬ h.n = 0) : h.q.1 < h.te := by
  have := w.te_ge h0
  rcases w.bq.1 with h1 | h1
  · exact h1
  · omega
