/-! ===== the hall: what both sides read ===== -/
-- the numbers of a run
theorem bar_le {k f : Nat} (hf : f ≤ 9) : bar k f ≤ 18 := by
  unfold bar
  by_cases h1 : k = 1
  · rw [if_pos h1]; omega
  rw [if_neg h1]
  by_cases h4 : k = 4
  · rw [if_pos h4]; omega
  rw [if_neg h4]
  by_cases h2 : k = 2
  · rw [if_pos h2]; omega
  rw [if_neg h2]
  by_cases h5 : k = 5
  · rw [if_pos h5]; omega
  rw [if_neg h5]
  by_cases h3 : k = 3
  · rw [if_pos h3]; omega
  rw [if_neg h3]; omega
theorem trd_le {kd ft : Nat → Nat} {fl g : Nat} (hf : ft g ≤ 9) : trd kd ft fl g ≤ 18 := by
  have := bar_le (k := kd g) hf
  unfold trd
  by_cases h0 : fl = 0
  · rw [if_pos h0]; omega
  rw [if_neg h0]
  by_cases h1 : fl = 1
  · rw [if_pos h1]; omega
  rw [if_neg h1]; omega
theorem b1_le (b : Bool) : b1 b ≤ 1 := by cases b <;> decide
/-- bounds of a state's numbers after m steps -/
def Bq (te m : Nat) (q : Rst) : Prop := (q.1 < te ∨ (q.1 = 0 ∧ q.2.1 = 0 ∧ te = 0)) ∧ q.2.1 ≤ 18 * m ∧ q.2.2.1 ≤ 2 ∧ q.2.2.2.1 ≤ m ∧ q.2.2.2.2.1 ≤ 18 * m ∧ ∀ g, q.2.2.2.2.2 g ≤ m
theorem Bq_stp {te m n : Nat} {rs : Int64} {kd ft : Nat → Nat} {q : Rst} {s : Nat} (h : Bq te m q) (hte : 12 ≤ te) (hft : ∀ g, g < n → ft g ≤ 9) (hs : s < 9) (hsn : s < 6 → s < n) : Bq te (m + 1) (stp te rs kd ft q s) := by
  obtain ⟨h1, h2, h3, h4, h5, h6⟩ := h
  unfold stp
  by_cases hs6 : s < 6
  · rw [if_pos hs6]
    have ht := trd_le (kd := kd) (fl := q.2.2.1) (hft s (hsn hs6))
    have hd : (q.1 + trd kd ft q.2.2.1 s) / te ≤ trd kd ft q.2.2.1 s := by
      rcases h1 with h1 | h1
      · have := Nat.div_lt_of_lt_mul (show q.1 + trd kd ft q.2.2.1 s < te * (trd kd ft q.2.2.1 s + 1) by
          have : te * (trd kd ft q.2.2.1 s + 1) = te * trd kd ft q.2.2.1 s + te := by rw [Nat.mul_add, Nat.mul_one]
          have h7 : trd kd ft q.2.2.1 s ≤ te * trd kd ft q.2.2.1 s := Nat.le_mul_of_pos_left _ (by omega)
          omega)
        omega
      · omega
    refine ⟨Or.inl (Nat.mod_lt _ (by omega)), ?_, h3, ?_, ?_, fun g => ?_⟩
    · show q.2.1 + (q.1 + trd kd ft q.2.2.1 s) / te ≤ 18 * (m + 1); omega
    · show q.2.2.2.1 + b1 _ ≤ m + 1
      have := b1_le (isr rs ((q.1 + trd kd ft q.2.2.1 s) % te))
      omega
    · show q.2.2.2.2.1 + trd kd ft q.2.2.1 s ≤ 18 * (m + 1); omega
    · show u1 q.2.2.2.2.2 s (q.2.2.2.2.2 s + 1) g ≤ m + 1
      unfold u1
      have := h6 g
      have := h6 s
      by_cases e : g = s
      · rw [if_pos e]; omega
      · rw [if_neg e]; omega
  · rw [if_neg hs6]
    refine ⟨h1, ?_, ?_, ?_, ?_, fun g => ?_⟩
    · show q.2.1 ≤ _; omega
    · show s - 6 ≤ 2; omega
    · show q.2.2.2.1 ≤ _; omega
    · show q.2.2.2.2.1 ≤ _; omega
    · show q.2.2.2.2.2 g ≤ _; have := h6 g; omega
theorem Bq_run {te n : Nat} {rs : Int64} {kd ft : Nat → Nat} (hte : 12 ≤ te) (hft : ∀ g, g < n → ft g ≤ 9) : ∀ (sp : List Nat) (m : Nat) (q : Rst), Bq te m q → (∀ s ∈ sp, s < 9 ∧ (s < 6 → s < n)) → Bq te (m + sp.length) (sp.foldl (stp te rs kd ft) q) := by
  intro sp
  induction sp with
  | nil => intro m q h _; exact h
  | cons s sp ih =>
    intro m q h hs
    have h1 := hs s (List.mem_cons_self ..)
    have := ih (m + 1) (stp te rs kd ft q s) (Bq_stp h hte hft h1.1 h1.2) (fun x hx => hs x (List.mem_cons_of_mem _ hx))
    rw [List.length_cons, show m + (sp.length + 1) = m + 1 + sp.length by omega]
    exact this
theorem Bq_r0 (te : Nat) : Bq te 0 r0 := ⟨by
  by_cases h : te = 0
  · exact Or.inr ⟨rfl, rfl, h⟩
  · exact Or.inl (by show 0 < te; omega), Nat.le_refl _, by decide, Nat.le_refl _, Nat.le_refl _, fun _ => Nat.le_refl _⟩
theorem WH.bq {h : GH} (w : WH h) : Bq h.te 60 h.q := by
  obtain ⟨w1, w2, w3, w4⟩ := w
  have : Bq h.te h.sp.length h.q := by
    rcases w2 with ⟨n0, t0, r0', m0, s0⟩ | ⟨n1, t1, t2, m1, s1⟩
    · unfold GH.q
      rw [s0]
      exact Bq_r0 _
    · have := Bq_run (rs := h.rs) (kd := h.kd) t1 (fun g hg => (w3 g hg).2.2) h.sp 0 r0 (Bq_r0 _) w4.2
      rw [Nat.zero_add] at this
      exact this
  obtain ⟨h1, h2, h3, h4, h5, h6⟩ := this
  have hl := w4.1
  exact ⟨h1, by omega, h3, by omega, by omega, fun g => Nat.le_trans (h6 g) hl⟩
theorem x_hev {R T : GR} {F : GF} {h : GH} {K : GK} {μ : Mm} {a : Nat} (H : XI R T F h K μ a) : gI μ (a + 3) 4 2 = some (nI h.n) ∧ gI μ (a + 3) 4 3 = some (nI h.te) ∧ gI μ (a + 3) 4 4 = some (nI h.rm) ∧ gI μ (a + 3) 4 5 = some (nI h.q.1) ∧ gI μ (a + 3) 4 6 = some (nI h.q.2.1) ∧ gI μ (a + 3) 4 7 = some (nI h.q.2.2.1) ∧ gI μ (a + 3) 4 8 = some (nI h.q.2.2.2.1) ∧ gI μ (a + 3) 4 9 = some (nI (wks h.sp)) ∧ gI μ (a + 3) 4 10 = some (nI h.q.2.2.2.2.1) ∧ gL μ (a + 3) 4 11 = some h.rs ∧ gP μ (a + 3) 4 0 = some (a + 4) ∧ gP μ (a + 3) 4 1 = some (a + 5) ∧ gI μ (a + 5) 9 1 = some (nI h.sp.length) ∧ gP μ (a + 5) 9 0 = some (a + 6) ∧ tg μ (a + 3) = 4 ∧ tg μ (a + 5) = 9 := by
  obtain ⟨g1, g2, g3, g4, g5, g6, g7, g8, g9, g10, g11, g12, g13⟩ := H.2.2.2.2.1
  exact ⟨(gI_of H.1.t3).trans (by rw [g1]), (gI_of H.1.t3).trans (by rw [g2]), (gI_of H.1.t3).trans (by rw [g3]), (gI_of H.1.t3).trans (by rw [g4]), (gI_of H.1.t3).trans (by rw [g5]), (gI_of H.1.t3).trans (by rw [g6]), (gI_of H.1.t3).trans (by rw [g7]), (gI_of H.1.t3).trans (by rw [g8]), (gI_of H.1.t3).trans (by rw [g9]), (gL_of H.1.t3).trans (by rw [g10]), gP_of H.1.t3 H.1.p3_0, gP_of H.1.t3 H.1.p3_1, (gI_of H.1.t5).trans (by rw [g11]), gP_of H.1.t5 H.1.p5_0, H.1.t3, H.1.t5⟩