/-! ===== lots ===== -/
theorem rem_g {μ : Mm} {x t : Nat} (hx : x < 2 ^ 31) (ht : 1 ≤ t) (ht2 : t < 2 ^ 31) : f_X11_remainder μ (nI x) (nI t) = some (nI (x % t)) := by
  have e1 : (1 : Int32) ≤ nI t := (show nI 1 ≤ nI t from nI_le (by omega) (by omega))
  have e2 : ¬ nI t = 0 := nI_ne0 (by omega) (by omega)
  have e3 : (0 : Int32) ≤ nI x ^^^ nI t := by
    have e0 : ¬ (nI x ^^^ nI t) < 0 := by
      intro q
      rw [Int32.lt_iff_toInt_lt] at q
      have hx1 : (nI x).toBitVec.msb = false := by
        rw [BitVec.msb_eq_false_iff_two_mul_lt, pk_tn (by omega)]; omega
      have ht1 : (nI t).toBitVec.msb = false := by
        rw [BitVec.msb_eq_false_iff_two_mul_lt, pk_tn (by omega)]; omega
      have hb : (nI x ^^^ nI t).toBitVec.msb = false := by
        rw [Int32.toBitVec_xor, BitVec.msb_xor, hx1, ht1]; rfl
      have : 0 ≤ (nI x ^^^ nI t).toBitVec.toInt := by
        rw [BitVec.toInt_eq_msb_cond, hb]
        exact Int.natCast_nonneg _
      have e5 : (nI x ^^^ nI t).toInt = (nI x ^^^ nI t).toBitVec.toInt := rfl
      have e6 : (0 : Int32).toInt = 0 := rfl
      omega
    exact i_nn e0
  simp (config := { decide := true }) only [↓reduceIte, Option.bind_some, Option.bind_none, f_X11_remainder, f_J9_floorMod_7cf53, e1, e2, e3, pk_rem hx (show 0 < t by omega) (show t < 2 ^ 31 by omega)]
/-- the next draw; the step of a draw -/
def nx (d : Nat) : Nat := 48271 * d % 2147483647
def stN (d n fl : Nat) : Nat := if d % 16 = 0 then 6 + (fl + 1) % 3 else d / 16 % n
theorem nx_lt (d : Nat) : nx d < 2147483647 := Nat.mod_lt _ (by decide)
theorem nx_l {d : Nat} (h : d < 2147483647) : ((48271 : Int64) * lN d) - ((48271 : Int64) * lN d) / (2147483647 : Int64) * (2147483647 : Int64) = lN (nx d) := by
  have e : (48271 : Int64) * lN d = lN (48271 * d) := lN_mul 48271 d
  rw [e]
  exact pk_lRem (a := 48271 * d) (b := 2147483647) (by omega) (by decide) (by decide)
theorem stN_ok {d n fl : Nat} (hn : 0 < n) (hn6 : n ≤ 6) : stN d n fl < 9 ∧ (stN d n fl < 6 → stN d n fl < n) := by
  unfold stN
  by_cases h : d % 16 = 0
  · rw [if_pos h]; omega
  · rw [if_neg h]
    have := Nat.mod_lt (d / 16) hn
    omega
/-- a hall after so many lots -/
def lotH : Nat → Nat → GH → GH
  | 0, _, h => h
  | m+1, d, h => lotH m (nx d) (h.wsp (h.sp ++ [stN (nx d) h.n h.q.2.2.1]))
theorem lotH_wf : ∀ (m d : Nat) (h : GH) (K : GK), WH h → ¬ h.n = 0 → h.sp.length + m ≤ 60 → WK h K → WH (lotH m d h) ∧ WK (lotH m d h) K := by
  intro m
  induction m with
  | zero => intro d h K w h0 hl wk; exact ⟨w, wk⟩
  | succ m ih =>
    intro d h K w h0 hl wk
    obtain ⟨s1, s2⟩ := stN_ok (d := nx d) (n := h.n) (fl := h.q.2.2.1) (by omega) w.1
    exact ih (nx d) (h.wsp (h.sp ++ [stN (nx d) h.n h.q.2.2.1])) K (w.wsp h0 (spok_snoc w.2.2.2 (by omega) s1 s2)) h0 (by
      show (h.sp ++ [stN (nx d) h.n h.q.2.2.1]).length + m ≤ 60
      rw [List.length_append, List.length_singleton]; omega) wk