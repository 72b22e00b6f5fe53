/-! ===== the hall: what both sides read ===== -/
theorem pure_of {β : Type} {fx fm : Mm → Nat → Option β}
    (hh : ∀ (R T : GR) (F : GF) (h : GH) (K : GK), WF R T h K → ∃ ans : β, (∀ μ a, XI R T F h K μ a → fx μ a = some ans) ∧ (∀ μ c, MI R T F h K μ c → fm μ c = some ans))
    (μ : Mm) (a1 a2 : Nat) (hI : INV μ a1 a2) : ∃ r : β, fx μ a1 = some r ∧ fm μ a2 = some r ∧ INV μ a1 a2 := by
  obtain ⟨e, R, T, F, h, K, hw, hx, hm⟩ := hI
  obtain ⟨ans, gx, gm⟩ := hh R T F h K hw
  exact ⟨ans, gx μ a1 hx, gm μ a2 hm, e, R, T, F, h, K, hw, hx, hm⟩
theorem PSI_asked : PS_asked INV := by
  intro μ a1 a2 hI
  refine pure_of (fx := f_X11_asked) (fm := f_X12_asked) ?_ μ a1 a2 hI
  intro R T F h K hw
  refine ⟨F.2.2.1, fun μ a H => ?_, fun μ c H => ?_⟩
  · simp (config := { decide := true }) only [↓reduceIte, Option.bind_some, Option.bind_none, f_X11_asked, H.1.t0, gI_of H.1.t0, H.2.2.2.1.2.2.1]
  · simp (config := { decide := true }) only [↓reduceIte, Option.bind_some, Option.bind_none, f_X12_asked, H.1.t0, gI_of H.1.t0, H.2.2.2.1.2.2.1]
theorem PSI_upper : PS_upper INV := by
  intro μ a1 a2 hI
  refine pure_of (fx := f_X11_upper) (fm := f_X12_upper) ?_ μ a1 a2 hI
  intro R T F h K hw
  refine ⟨F.2.2.2.1, fun μ a H => ?_, fun μ c H => ?_⟩
  · simp (config := { decide := true }) only [↓reduceIte, Option.bind_some, Option.bind_none, f_X11_upper, H.1.t0, gL_of H.1.t0, H.2.2.2.1.2.2.2.1]
  · simp (config := { decide := true }) only [↓reduceIte, Option.bind_some, Option.bind_none, f_X12_upper, H.1.t0, gL_of H.1.t0, H.2.2.2.1.2.2.2.1]
theorem PSI_lower : PS_lower INV := by
  intro μ a1 a2 hI
  refine pure_of (fx := f_X11_lower) (fm := f_X12_lower) ?_ μ a1 a2 hI
  intro R T F h K hw
  refine ⟨F.2.2.2.2, fun μ a H => ?_, fun μ c H => ?_⟩
  · simp (config := { decide := true }) only [↓reduceIte, Option.bind_some, Option.bind_none, f_X11_lower, H.1.t0, gL_of H.1.t0, H.2.2.2.1.2.2.2.2]
  · simp (config := { decide := true }) only [↓reduceIte, Option.bind_some, Option.bind_none, f_X12_lower, H.1.t0, gL_of H.1.t0, H.2.2.2.1.2.2.2.2]
theorem PSI_finding : PS_finding INV := by
  intro μ a1 a2 hI
  refine pure_of (fx := f_X11_finding) (fm := f_X12_finding) ?_ μ a1 a2 hI
  intro R T F h K hw
  refine ⟨F.1, fun μ a H => ?_, fun μ c H => ?_⟩
  · simp (config := { decide := true }) only [↓reduceIte, Option.bind_some, Option.bind_none, f_X11_finding, H.1.t0, gI_of H.1.t0, H.2.2.2.1.1]
  · simp (config := { decide := true }) only [↓reduceIte, Option.bind_some, Option.bind_none, f_X12_finding, H.1.t0, gI_of H.1.t0, H.2.2.2.1.1]
theorem PSI_findings : PS_findings INV := by
  intro μ a1 a2 q1 hI
  refine pure_of (fx := fun μ a => f_X11_findings μ a q1) (fm := fun μ c => f_X12_findings μ c q1) ?_ μ a1 a2 hI
  intro R T F h K hw
  by_cases h1 : q1 < 1
  · refine ⟨-1, fun μ a H => ?_, fun μ c H => ?_⟩
    · simp (config := { decide := true }) only [↓reduceIte, Option.bind_some, Option.bind_none, f_X11_findings, H.1.t0, h1]
    · simp (config := { decide := true }) only [↓reduceIte, Option.bind_some, Option.bind_none, f_X12_findings, H.1.t0, f_X12_in, h1]
  rcases ix3 q1 6 (by decide) with h2 | ⟨h2, h3⟩ | ⟨j, hj, rfl⟩
  · exact absurd (by rw [Int32.lt_iff_toInt_lt] at h2 ⊢; have : (0 : Int32).toInt = 0 := rfl; have : (1 : Int32).toInt = 1 := rfl; omega) h1
  · have e1 : ¬ q1 ≤ 5 := i_big (m := 5) h3 (by decide) (by decide)
    have e2 : (5 : Int32) < q1 := i_big' (m := 5) h3 (by decide) (by decide)
    refine ⟨-1, fun μ a H => ?_, fun μ c H => ?_⟩
    · simp (config := { decide := true }) only [↓reduceIte, Option.bind_some, Option.bind_none, f_X11_findings, H.1.t0, h1, e1]
    · simp (config := { decide := true }) only [↓reduceIte, Option.bind_some, Option.bind_none, f_X12_findings, H.1.t0, f_X12_in, h1, e2]
  · have e1 : nI j ≤ 5 := (show nI j ≤ nI 5 from nI_le (by omega) (by decide))
    have e2 : ¬ (5 : Int32) < nI j := (show ¬ nI 5 < nI j from nI_nlt (by omega) (by decide))
    refine ⟨F.2.1 j, fun μ a H => ?_, fun μ c H => ?_⟩
    · simp (config := { decide := true }) only [↓reduceIte, Option.bind_some, Option.bind_none, f_X11_findings, H.1.t0, gP_of H.1.t0 H.1.p0_9, h1, e1, aI_of H.1.t32 (show j < ln μ (a + 32) by rw [H.1.n32]; exact hj) (show j < 2 ^ 31 by omega), H.2.2.2.1.2.1 j hj]
    · simp (config := { decide := true }) only [↓reduceIte, Option.bind_some, Option.bind_none, f_X12_findings, H.1.t0, gP_of H.1.t0 H.1.p0_1, f_X12_in, h1, e2, aI_of H.1.t1 (show j < ln μ (c + 1) by rw [H.1.n1]; exact hj) (show j < 2 ^ 31 by omega), H.2.2.2.1.2.1 j hj]
-- the numbers of a run
theorem bar_le {k f : Nat} (hf : f ≤ 9) : bar k f ≤ 18 := by
  unfold bar
  by_cases h1 : k = 1
  · rw [if_pos h1]; omega
  rw [if_neg h1]
  by_cases h4 : k = 4
  · rw [if_pos h4]; omega
  rw [if_neg h4]
  by_cases h2 : k = 2
  · rw [if_pos h2]; omega
  rw [if_neg h2]
  by_cases h5 : k = 5
  · rw [if_pos h5]; omega
  rw [if_neg h5]
  by_cases h3 : k = 3
  · rw [if_pos h3]; omega
  rw [if_neg h3]; omega
theorem trd_le {kd ft : Nat → Nat} {fl g : Nat} (hf : ft g ≤ 9) : trd kd ft fl g ≤ 18 := by
  have := bar_le (k := kd g) hf
  unfold trd
  by_cases h0 : fl = 0
  · rw [if_pos h0]; omega
  rw [if_neg h0]
  by_cases h1 : fl = 1
  · rw [if_pos h1]; omega
  rw [if_neg h1]; omega
theorem b1_le (b : Bool) : b1 b ≤ 1 := by cases b <;> decide
/-- bounds of a state's numbers after m steps -/
def Bq (te m : Nat) (q : Rst) : Prop := (q.1 < te ∨ (q.1 = 0 ∧ q.2.1 = 0 ∧ te = 0)) ∧ q.2.1 ≤ 18 * m ∧ q.2.2.1 ≤ 2 ∧ q.2.2.2.1 ≤ m ∧ q.2.2.2.2.1 ≤ 18 * m ∧ ∀ g, q.2.2.2.2.2 g ≤ m
theorem Bq_stp {te m n : Nat} {rs : Int64} {kd ft : Nat → Nat} {q : Rst} {s : Nat} (h : Bq te m q) (hte : 12 ≤ te) (hft : ∀ g, g < n → ft g ≤ 9) (hs : s < 9) (hsn : s < 6 → s < n) : Bq te (m + 1) (stp te rs kd ft q s) := by
  obtain ⟨h1, h2, h3, h4, h5, h6⟩ := h
  unfold stp
  by_cases hs6 : s < 6
  · rw [if_pos hs6]
    have ht := trd_le (kd := kd) (fl := q.2.2.1) (hft s (hsn hs6))
    have hd : (q.1 + trd kd ft q.2.2.1 s) / te ≤ trd kd ft q.2.2.1 s := by
      rcases h1 with h1 | h1
      · have := Nat.div_lt_of_lt_mul (show q.1 + trd kd ft q.2.2.1 s < te * (trd kd ft q.2.2.1 s + 1) by
          have : te * (trd kd ft q.2.2.1 s + 1) = te * trd kd ft q.2.2.1 s + te := by rw [Nat.mul_add, Nat.mul_one]
          have h7 : trd kd ft q.2.2.1 s ≤ te * trd kd ft q.2.2.1 s := Nat.le_mul_of_pos_left _ (by omega)
          omega)
        omega
      · omega
    refine ⟨Or.inl (Nat.mod_lt _ (by omega)), ?_, h3, ?_, ?_, fun g => ?_⟩
    · show q.2.1 + (q.1 + trd kd ft q.2.2.1 s) / te ≤ 18 * (m + 1); omega
    · show q.2.2.2.1 + b1 _ ≤ m + 1
      have := b1_le (isr rs ((q.1 + trd kd ft q.2.2.1 s) % te))
      omega
    · show q.2.2.2.2.1 + trd kd ft q.2.2.1 s ≤ 18 * (m + 1); omega
    · show u1 q.2.2.2.2.2 s (q.2.2.2.2.2 s + 1) g ≤ m + 1
      unfold u1
      have := h6 g
      have := h6 s
      by_cases e : g = s
      · rw [if_pos e]; omega
      · rw [if_neg e]; omega
  · rw [if_neg hs6]
    refine ⟨h1, ?_, ?_, ?_, ?_, fun g => ?_⟩
    · show q.2.1 ≤ _; omega
    · show s - 6 ≤ 2; omega
    · show q.2.2.2.1 ≤ _; omega
    · show q.2.2.2.2.1 ≤ _; omega
    · show q.2.2.2.2.2 g ≤ _; have := h6 g; omega
theorem Bq_run {te n : Nat} {rs : Int64} {kd ft : Nat → Nat} (hte : 12 ≤ te) (hft : ∀ g, g < n → ft g ≤ 9) : ∀ (sp : List Nat) (m : Nat) (q : Rst), Bq te m q → (∀ s ∈ sp, s < 9 ∧ (s < 6 → s < n)) → Bq te (m + sp.length) (sp.foldl (stp te rs kd ft) q) := by
  intro sp
  induction sp with
  | nil => intro m q h _; exact h
  | cons s sp ih =>
    intro m q h hs
    have h1 := hs s (List.mem_cons_self ..)
    have := ih (m + 1) (stp te rs kd ft q s) (Bq_stp h hte hft h1.1 h1.2) (fun x hx => hs x (List.mem_cons_of_mem _ hx))
    rw [List.length_cons, show m + (sp.length + 1) = m + 1 + sp.length by omega]
    exact this
theorem Bq_r0 (te : Nat) : Bq te 0 r0 := ⟨by
  by_cases h : te = 0
  · exact Or.inr ⟨rfl, rfl, h⟩
  · exact Or.inl (by show 0 < te; omega), Nat.le_refl _, by decide, Nat.le_refl _, Nat.le_refl _, fun _ => Nat.le_refl _⟩
theorem WH.bq {h : GH} (w : WH h) : Bq h.te 60 h.q := by
  obtain ⟨w1, w2, w3, w4⟩ := w
  have : Bq h.te h.sp.length h.q := by
    rcases w2 with ⟨n0, t0, r0', m0, s0⟩ | ⟨n1, t1, t2, m1, s1⟩
    · unfold GH.q
      rw [s0]
      exact Bq_r0 _
    · have := Bq_run (rs := h.rs) (kd := h.kd) t1 (fun g hg => (w3 g hg).2.2) h.sp 0 r0 (Bq_r0 _) w4.2
      rw [Nat.zero_add] at this
      exact this
  obtain ⟨h1, h2, h3, h4, h5, h6⟩ := this
  have hl := w4.1
  exact ⟨h1, by omega, h3, by omega, by omega, fun g => Nat.le_trans (h6 g) hl⟩
theorem x_hev {R T : GR} {F : GF} {h : GH} {K : GK} {μ : Mm} {a : Nat} (H : XI R T F h K μ a) : gI μ (a + 3) 4 2 = some (nI h.n) ∧ gI μ (a + 3) 4 3 = some (nI h.te) ∧ gI μ (a + 3) 4 4 = some (nI h.rm) ∧ gI μ (a + 3) 4 5 = some (nI h.q.1) ∧ gI μ (a + 3) 4 6 = some (nI h.q.2.1) ∧ gI μ (a + 3) 4 7 = some (nI h.q.2.2.1) ∧ gI μ (a + 3) 4 8 = some (nI h.q.2.2.2.1) ∧ gI μ (a + 3) 4 9 = some (nI (wks h.sp)) ∧ gI μ (a + 3) 4 10 = some (nI h.q.2.2.2.2.1) ∧ gL μ (a + 3) 4 11 = some h.rs ∧ gP μ (a + 3) 4 0 = some (a + 4) ∧ gP μ (a + 3) 4 1 = some (a + 5) ∧ gI μ (a + 5) 9 1 = some (nI h.sp.length) ∧ gP μ (a + 5) 9 0 = some (a + 6) ∧ tg μ (a + 3) = 4 ∧ tg μ (a + 5) = 9 := by
  obtain ⟨g1, g2, g3, g4, g5, g6, g7, g8, g9, g10, g11, g12, g13⟩ := H.2.2.2.2.1
  exact ⟨(gI_of H.1.t3).trans (by rw [g1]), (gI_of H.1.t3).trans (by rw [g2]), (gI_of H.1.t3).trans (by rw [g3]), (gI_of H.1.t3).trans (by rw [g4]), (gI_of H.1.t3).trans (by rw [g5]), (gI_of H.1.t3).trans (by rw [g6]), (gI_of H.1.t3).trans (by rw [g7]), (gI_of H.1.t3).trans (by rw [g8]), (gI_of H.1.t3).trans (by rw [g9]), (gL_of H.1.t3).trans (by rw [g10]), gP_of H.1.t3 H.1.p3_0, gP_of H.1.t3 H.1.p3_1, (gI_of H.1.t5).trans (by rw [g11]), gP_of H.1.t5 H.1.p5_0, H.1.t3, H.1.t5⟩
theorem m_hev {R T : GR} {F : GF} {h : GH} {K : GK} {μ : Mm} {c : Nat} (H : MI R T F h K μ c) : gI μ c 13 10 = some (nI h.n) ∧ gI μ c 13 11 = some (nI h.te) ∧ gI μ c 13 12 = some (nI h.rm) ∧ gI μ c 13 25 = some (nI h.sp.length) ∧ gL μ c 13 13 = some h.rs ∧ aI μ (c + 11) 21 0 = some (nI h.q.1) ∧ aI μ (c + 11) 21 1 = some (nI h.q.2.1) ∧ aI μ (c + 11) 21 2 = some (nI h.q.2.2.1) ∧ aI μ (c + 11) 21 3 = some (nI h.q.2.2.2.1) ∧ aI μ (c + 11) 21 4 = some (nI h.q.2.2.2.2.1) := by
  obtain ⟨g1, g2, g3, g4, g5, g6, g7, g8⟩ := H.2.2.2.2.1
  obtain ⟨k0, k1, k2, k3, k4, k5⟩ := g7
  refine ⟨(gI_of H.1.t0).trans (by rw [g1]), (gI_of H.1.t0).trans (by rw [g2]), (gI_of H.1.t0).trans (by rw [g3]), (gI_of H.1.t0).trans (by rw [g4]), (gL_of H.1.t0).trans (by rw [g5]), ?_, ?_, ?_, ?_, ?_⟩
  · exact (aI_of (i := 0) H.1.t11 (by rw [H.1.n11]; decide) (by decide)).trans (by rw [k0])
  · exact (aI_of (i := 1) H.1.t11 (by rw [H.1.n11]; decide) (by decide)).trans (congrArg some k1)
  · exact (aI_of (i := 2) H.1.t11 (by rw [H.1.n11]; decide) (by decide)).trans (congrArg some k2)
  · exact (aI_of (i := 3) H.1.t11 (by rw [H.1.n11]; decide) (by decide)).trans (congrArg some k3)
  · exact (aI_of (i := 4) H.1.t11 (by rw [H.1.n11]; decide) (by decide)).trans (congrArg some k4)
