/-! ===== both ===== -/
theorem fst_skip (P : Nat → Bool) : ∀ (s n k : Nat), (∀ i, k ≤ i → i < k + s → P i = false) → fst P n k = fst P (n - s) (k + s) := by
  intro s
  induction s with
  | zero => intro n k _; rfl
  | succ s ih =>
    intro n k h
    cases n with
    | zero => rw [Nat.zero_sub]; rfl
    | succ n =>
      conv => lhs; unfold fst
      rw [if_neg (by rw [h k (Nat.le_refl _) (by omega)]; decide), ih n (k + 1) (fun i q1 q2 => h i (by omega) (by omega)), Nat.succ_sub_succ, show k + 1 + s = k + (s + 1) by omega]
theorem noon_diff {q te t i k : Nat} (hki : k ≤ i) (h1 : (q + k * t) % te = 0) : (q + i * t) % te = 0 ↔ te ∣ (i - k) * t := by
  obtain ⟨e, rfl⟩ : ∃ e, i = k + e := ⟨i - k, by omega⟩
  rw [Nat.add_sub_cancel_left, Nat.add_mul, ← Nat.add_assoc]
  have hd := Nat.dvd_of_mod_eq_zero h1
  constructor
  · intro h
    exact (Nat.dvd_add_right hd).mp (Nat.dvd_of_mod_eq_zero h)
  · intro h
    exact Nat.mod_eq_zero_of_dvd ((Nat.dvd_add_right hd).mpr h)
theorem noon_next {q te t k : Nat} (hte : 0 < te) (h1 : (q + k * t) % te = 0) : (q + (k + te / Nat.gcd te t) * t) % te = 0 ∧ ∀ i, k < i → i < k + te / Nat.gcd te t → ¬ (q + i * t) % te = 0 := by
  have hg : 0 < Nat.gcd te t := Nat.gcd_pos_of_pos_left _ hte
  have hc := Nat.coprime_div_gcd_div_gcd hg
  have e1 : te = Nat.gcd te t * (te / Nat.gcd te t) := (Nat.mul_div_cancel' (Nat.gcd_dvd_left te t)).symm
  have e2 : t = Nat.gcd te t * (t / Nat.gcd te t) := (Nat.mul_div_cancel' (Nat.gcd_dvd_right te t)).symm
  refine ⟨(noon_diff (Nat.le_add_right _ _) h1).mpr ?_, fun i h2 h3 h4 => ?_⟩
  · rw [Nat.add_sub_cancel_left]
    refine ⟨t / Nat.gcd te t, ?_⟩
    calc te / Nat.gcd te t * t = te / Nat.gcd te t * (Nat.gcd te t * (t / Nat.gcd te t)) := by rw [← e2]
      _ = Nat.gcd te t * (te / Nat.gcd te t) * (t / Nat.gcd te t) := by rw [← Nat.mul_assoc, Nat.mul_comm (te / Nat.gcd te t) (Nat.gcd te t)]
      _ = te * (t / Nat.gcd te t) := by rw [← e1]
  · have hd := (noon_diff (Nat.le_of_lt h2) h1).mp h4
    have hd2 : Nat.gcd te t * (te / Nat.gcd te t) ∣ Nat.gcd te t * ((i - k) * (t / Nat.gcd te t)) := by
      have e3 : Nat.gcd te t * ((i - k) * (t / Nat.gcd te t)) = (i - k) * t := by
        rw [← Nat.mul_assoc, Nat.mul_comm (Nat.gcd te t), Nat.mul_assoc, ← e2]
      rw [e3, ← e1]
      exact hd
    have hd3 := Nat.dvd_of_mul_dvd_mul_left hg hd2
    have hd4 := Nat.Coprime.dvd_of_dvd_mul_right hc hd3
    have := Nat.le_of_dvd (by omega) hd4
    omega
theorem x_return {R T : GR} {F : GF} {h : GH} {K : GK} {μ : Mm} {a t : Nat} (H : XI R T F h K μ a) (w : WH h) (h0 : ¬ h.n = 0) (ht : t ≤ 18) : f_X3_walksToReturn μ (a + 3) (nI t) = some (nI (h.te / Nat.gcd h.te t)) := by
  have t1 := w.te_ge h0
  have t2 := w.te_lt
  have hg : 0 < Nat.gcd h.te t := Nat.gcd_pos_of_pos_left _ (by omega)
  have hg2 : Nat.gcd h.te t ≤ h.te := Nat.le_of_dvd (by omega) (Nat.gcd_dvd_left _ _)
  have e1 : (1 : Int32) ≤ nI (Nat.gcd h.te t) := (show nI 1 ≤ nI (Nat.gcd h.te t) from nI_le hg (by omega))
  have e2 : ¬ nI (Nat.gcd h.te t) = 0 := nI_ne0 hg (by omega)
  have e3 := pk_div (a := h.te) (d := Nat.gcd h.te t) (by omega) hg (by omega)
  have hq : 0 < h.te / Nat.gcd h.te t := Nat.div_pos hg2 hg
  have hq2 : h.te / Nat.gcd h.te t ≤ h.te := Nat.div_le_self _ _
  have e4 : (if (1 : Int32) < nI (h.te / Nat.gcd h.te t) then nI (h.te / Nat.gcd h.te t) else 1) = nI (h.te / Nat.gcd h.te t) := by
    by_cases h1 : h.te / Nat.gcd h.te t = 1
    · rw [h1]; decide
    · exact if_pos (show nI 1 < nI (h.te / Nat.gcd h.te t) from nI_lt (by omega) (by omega))
  simp (config := { decide := true }) only [↓reduceIte, Option.bind_some, Option.bind_none, f_X3_walksToReturn, x_hev H, nI_l (show h.te < 2 ^ 31 by omega), nI_l (show t < 2 ^ 31 by omega), x_gcd μ (show h.te < 2 ^ 40 by omega) (show t < 2 ^ 40 by omega), lN_i, e1, e2, e3, e4]
theorem fst_step {P : Nat → Bool} {n k s : Nat} (hs : 0 < s) (hk : P k = false) (h : ∀ i, k < i → i < k + s → P i = false) : fst P n k = fst P (n - s) (k + s) := fst_skip P s n k fun i q1 q2 => by
  by_cases e : i = k
  · rw [e]; exact hk
  · exact h i (by omega) q2
/-- noons of one guild are so many walks from one another -/
theorem noon_mult {q te t : Nat} (hte : 0 < te) : ∀ (n k i : Nat), i - k < n → k ≤ i → (q + k * t) % te = 0 → (q + i * t) % te = 0 → ∃ m, i = k + m * (te / Nat.gcd te t) := by
  have hg : 0 < Nat.gcd te t := Nat.gcd_pos_of_pos_left _ hte
  have hP : 0 < te / Nat.gcd te t := Nat.div_pos (Nat.le_of_dvd hte (Nat.gcd_dvd_left _ _)) hg
  intro n
  induction n with
  | zero => intro k i h1; omega
  | succ n ih =>
    intro k i h1 h2 h3 h4
    by_cases e : i = k
    · exact ⟨0, by rw [Nat.zero_mul, e]; rfl⟩
    · obtain ⟨n1, n2⟩ := noon_next hte h3
      have hge : k + te / Nat.gcd te t ≤ i := by
        rcases Nat.lt_or_ge i (k + te / Nat.gcd te t) with z | z
        · exact absurd h4 (n2 i (by omega) z)
        · exact z
      obtain ⟨m, hm⟩ := ih (k + te / Nat.gcd te t) i (by omega) hge n1 h4
      exact ⟨m + 1, by rw [Nat.succ_mul]; omega⟩
/-- so many turns further on the other clock is where it was -/
theorem turn_mod (p3 k0 P t p2 m : Nat) : (p3 + (k0 + m * P) * t) % p2 = (p3 + (k0 + m % p2 * P) * t) % p2 := by
  have e : p3 + (k0 + (m % p2 + p2 * (m / p2)) * P) * t = p3 + (k0 + m % p2 * P) * t + p2 * (m / p2 * P * t) := by
    rw [Nat.add_mul (m % p2), ← Nat.add_assoc k0, Nat.add_mul (k0 + m % p2 * P), Nat.mul_assoc p2 (m / p2) P, Nat.mul_assoc p2 (m / p2 * P) t]
    exact (Nat.add_assoc _ _ _).symm
  rw [Nat.mod_add_div] at e
  rw [e, Nat.add_mul_mod_self_left]
theorem x_both_l {μ : Mm} {a te t q p2 p3 k0 : Nat} (hte : 12 ≤ te) (hte2 : te ≤ 60) (ht : t ≤ 18) (hp : 12 ≤ p2) (hp2 : p2 ≤ 60) (hk2 : k0 ≤ 60) (hp3 : p3 < p2) (hq0 : (q + k0 * t) % te = 0) : ∀ (f u : Nat), u ≤ p2 → p2 < u + f → (q + (k0 + u * (te / Nat.gcd te t)) * t) % te = 0 → (∀ v, v < u → ¬ (p3 + (k0 + v * (te / Nat.gcd te t)) * t) % p2 = 0) → lp_X11_both_79 f a (nI p2) (nI p3) (nI t) (nI k0) (nI (te / Nat.gcd te t)) (nI u) μ = some (ofo (fst (fun k => decide ((q + k * t) % te = 0 ∧ (p3 + k * t) % p2 = 0)) (3601 - (k0 + u * (te / Nat.gcd te t))) (k0 + u * (te / Nat.gcd te t)))) := by
  have hg : 0 < Nat.gcd te t := Nat.gcd_pos_of_pos_left _ (by omega)
  have hg2 : Nat.gcd te t ≤ te := Nat.le_of_dvd (by omega) (Nat.gcd_dvd_left _ _)
  have hq : 0 < te / Nat.gcd te t := Nat.div_pos hg2 hg
  have hq2 : te / Nat.gcd te t ≤ te := Nat.div_le_self _ _
  have hp0 : ¬ nI p2 = 0 := nI_ne0 (by omega) (by omega)
  intro f
  induction f with
  | zero =>
    intro u h1 h2 h4 h5
    omega
  | succ f ih =>
    intro u h1 h2 h4 h5
    by_cases hu : u = p2
    · have e : nI p2 ≤ nI u := by rw [hu]; exact Int32.le_refl _
      have hz := fst_none (fun k => decide ((q + k * t) % te = 0 ∧ (p3 + k * t) % p2 = 0)) (3601 - (k0 + u * (te / Nat.gcd te t))) (k0 + u * (te / Nat.gcd te t)) (fun i q1 q2 => decide_eq_false fun z => by
        obtain ⟨m, hm⟩ := noon_mult (show 0 < te by omega) (i + 1) k0 i (by omega) (by omega) hq0 z.1
        have z2 := z.2
        rw [hm, turn_mod] at z2
        exact h5 (m % p2) (by rw [hu]; exact Nat.mod_lt _ (by omega)) z2)
      rw [hz]
      simp (config := { decide := true }) only [↓reduceIte, Option.bind_some, Option.bind_none, lp_X11_both_79, e] <;> rfl
    · have e : ¬ nI p2 ≤ nI u := nI_ge (by omega) (by omega)
      have huP : u * (te / Nat.gcd te t) ≤ 59 * 60 := Nat.mul_le_mul (by omega) (by omega)
      have hkt : (k0 + u * (te / Nat.gcd te t)) * t ≤ 3600 * 18 := Nat.mul_le_mul (by omega) ht
      have er := pk_rem (a := p3 + (k0 + u * (te / Nat.gcd te t)) * t) (d := p2) (by omega) (by omega) (by omega)
      have hr := Nat.mod_lt (p3 + (k0 + u * (te / Nat.gcd te t)) * t) (show 0 < p2 by omega)
      by_cases hz0 : (p3 + (k0 + u * (te / Nat.gcd te t)) * t) % p2 = 0
      · have hP : decide ((q + (k0 + u * (te / Nat.gcd te t)) * t) % te = 0 ∧ (p3 + (k0 + u * (te / Nat.gcd te t)) * t) % p2 = 0) = true := decide_eq_true ⟨h4, hz0⟩
        rw [fst_some (fun k => decide ((q + k * t) % te = 0 ∧ (p3 + k * t) % p2 = 0)) (3601 - (k0 + u * (te / Nat.gcd te t))) (k0 + u * (te / Nat.gcd te t)) (k0 + u * (te / Nat.gcd te t)) (Nat.le_refl _) (by omega) hP (fun i q1 q2 => by omega)]
        simp (config := { decide := true }) only [↓reduceIte, Option.bind_some, Option.bind_none, lp_X11_both_79, e, hp0, pk_mul, nI_add, er, hz0, show nI 0 = 0 from rfl] <;> rfl
      · have e0 : ¬ nI ((p3 + (k0 + u * (te / Nat.gcd te t)) * t) % p2) = 0 := nI_ne0 (by omega) (by omega)
        obtain ⟨n1, n2⟩ := noon_next (show 0 < te by omega) h4
        have hs := fst_step (P := fun k => decide ((q + k * t) % te = 0 ∧ (p3 + k * t) % p2 = 0)) (n := 3601 - (k0 + u * (te / Nat.gcd te t))) (k := k0 + u * (te / Nat.gcd te t)) hq (decide_eq_false fun z => hz0 z.2) (fun i q1 q2 => decide_eq_false fun z => n2 i q1 q2 z.1)
        have hu1 : k0 + (u + 1) * (te / Nat.gcd te t) = k0 + u * (te / Nat.gcd te t) + te / Nat.gcd te t := by rw [Nat.succ_mul, Nat.add_assoc]
        rw [hs]
        have := ih (u + 1) (by omega) (by omega) (by rw [hu1]; exact n1) (fun v hv => by
          by_cases z : v = u
          · rw [z]; exact hz0
          · exact h5 v (by omega))
        rw [hu1] at this
        rw [Nat.sub_sub]
        simp (config := { decide := true }) only [↓reduceIte, Option.bind_some, Option.bind_none, lp_X11_both_79, e, hp0, pk_mul, nI_add, er, e0, nI_1, this]
theorem div_step {q te t k : Nat} (hte : 0 < te) (hk : 1 ≤ k) : (q + (k - 1) * t) / te + ((q + (k - 1) * t) % te + t) / te = (q + k * t) / te := by
  obtain ⟨k', rfl⟩ : ∃ k', k = k' + 1 := ⟨k - 1, by omega⟩
  rw [Nat.add_sub_cancel, Nat.succ_mul]
  generalize hx : q + k' * t = x
  have e : q + (k' * t + t) = (x % te + t) + te * (x / te) := by
    have := Nat.div_add_mod x te
    omega
  rw [e, Nat.add_mul_div_left _ _ hte]
  omega
/-- what the model's loop tells -/
def ofb (q te t : Nat) : Option Nat → Nat × Int32 × Int32
  | some j => (0, nI ((q + j * t) / te), nI j)
  | none => (1, 0, 0)
theorem m_both_l {R T : GR} {F : GF} {h : GH} {K : GK} {μ : Mm} {c t p2 p3 : Nat} (H : MI R T F h K μ c) (w : WH h) (h0 : ¬ h.n = 0) (ht : t ≤ 18) (hp : 12 ≤ p2) (hp2 : p2 ≤ 60) (hp3 : p3 < p2) : ∀ (m f k : Nat), 1 ≤ k → k + m = 3601 → m < f → lp_X12_both_56 f c (nI p2) (nI t) (nI ((h.q.1 + (k - 1) * t) % h.te)) (nI ((p3 + (k - 1) * t) % p2)) (nI ((h.q.1 + (k - 1) * t) / h.te)) (nI k) μ = some (ofb h.q.1 h.te t (fst (fun k => decide ((h.q.1 + k * t) % h.te = 0 ∧ (p3 + k * t) % p2 = 0)) m k)) := by
  have t1 := w.te_ge h0
  have t2 := w.te_lt
  have t3 := w.now_lt h0
  have hte0 : ¬ nI h.te = 0 := nI_ne0 (by omega) (by omega)
  have hp0 : ¬ nI p2 = 0 := nI_ne0 (by omega) (by omega)
  intro m
  induction m with
  | zero =>
    intro f k hk1 h1 h2
    obtain ⟨f, rfl⟩ : ∃ g, f = g + 1 := ⟨f - 1, by omega⟩
    have e : (3600 : Int32) < nI k := (show nI 3600 < nI k from nI_lt (by omega) (by omega))
    simp (config := { decide := true }) only [↓reduceIte, Option.bind_some, Option.bind_none, lp_X12_both_56, e] <;> rfl
  | succ m ih =>
    intro f k hk1 h1 h2
    obtain ⟨f, rfl⟩ : ∃ g, f = g + 1 := ⟨f - 1, by omega⟩
    have e : ¬ (3600 : Int32) < nI k := (show ¬ nI 3600 < nI k from nI_nlt (by omega) (by omega))
    have hm1 := Nat.mod_lt (h.q.1 + (k - 1) * t) (show 0 < h.te by omega)
    have hm2 := Nat.mod_lt (p3 + (k - 1) * t) (show 0 < p2 by omega)
    have hm3 := Nat.mod_lt (h.q.1 + k * t) (show 0 < h.te by omega)
    have hm4 := Nat.mod_lt (p3 + k * t) (show 0 < p2 by omega)
    have es1 := it_step (q := h.q.1) (te := h.te) (t := t) hk1
    have es2 := it_step (q := p3) (te := p2) (t := t) hk1
    have er1 := pk_rem (a := (h.q.1 + (k - 1) * t) % h.te + t) (d := h.te) (by omega) (by omega) (by omega)
    have er2 := pk_rem (a := (p3 + (k - 1) * t) % p2 + t) (d := p2) (by omega) (by omega) (by omega)
    have ed := pk_div (a := (h.q.1 + (k - 1) * t) % h.te + t) (d := h.te) (by omega) (by omega) (by omega)
    have eds := div_step (q := h.q.1) (te := h.te) (t := t) (by omega) hk1
    rw [ed] at er1
    unfold fst
    by_cases hp1 : (h.q.1 + k * t) % h.te = 0
    · by_cases hp4 : (p3 + k * t) % p2 = 0
      · rw [if_pos (decide_eq_true ⟨hp1, hp4⟩)]
        simp (config := { decide := true }) only [↓reduceIte, Option.bind_some, Option.bind_none, lp_X12_both_56, e, m_hev H, hte0, hp0, nI_add, er1, er2, ed, eds, es1, es2, hp1, hp4, show nI 0 = 0 from rfl] <;> rfl
      · rw [if_neg (by rw [decide_eq_false fun z => hp4 z.2]; decide)]
        have e0 : ¬ nI ((p3 + k * t) % p2) = 0 := nI_ne0 (by omega) (by omega)
        have := ih f (k + 1) (by omega) (by omega) (by omega)
        rw [Nat.add_sub_cancel, hp1] at this
        simp (config := { decide := true }) only [↓reduceIte, Option.bind_some, Option.bind_none, lp_X12_both_56, e, m_hev H, hte0, hp0, nI_add, er1, er2, ed, eds, es1, es2, hp1, e0, show nI 0 = 0 from rfl, nI_1]
        exact this
    · rw [if_neg (by rw [decide_eq_false fun z => hp1 z.1]; decide)]
      have e0 : ¬ nI ((h.q.1 + k * t) % h.te) = 0 := nI_ne0 (by omega) (by omega)
      have := ih f (k + 1) (by omega) (by omega) (by omega)
      rw [Nat.add_sub_cancel] at this
      simp (config := { decide := true }) only [↓reduceIte, Option.bind_some, Option.bind_none, lp_X12_both_56, e, m_hev H, hte0, hp0, nI_add, er1, er2, ed, eds, es1, es2, e0, nI_1, this]
/-- no noon, no such moment; else the walk goes from the first noon on -/
theorem both_from {q te t : Nat} (Pt : Nat → Bool) (hte : 0 < te) (hte2 : te ≤ 60) : fst (fun k => decide ((q + k * t) % te = 0 ∧ Pt k = true)) 3600 1 = (match fst (fun k => decide ((q + k * t) % te = 0)) te 1 with | some k0 => fst (fun k => decide ((q + k * t) % te = 0 ∧ Pt k = true)) (3601 - k0) k0 | none => none) := by
  rcases fst_cases (fun k => decide ((q + k * t) % te = 0)) te 1 with ⟨j, h1, h2, h3, h4⟩ | h1
  · rw [fst_some _ te 1 j h1 h2 h3 h4]
    show _ = fst _ (3601 - j) j
    rw [fst_skip _ (j - 1) 3600 1 (fun i q1 q2 => decide_eq_false fun z => by
      have := h4 i q1 (by omega)
      rw [decide_eq_true z.1] at this
      cases this), show 1 + (j - 1) = j by omega, show 3600 - (j - 1) = 3601 - j by omega]
  · rw [fst_none _ te 1 h1]
    refine fst_none _ _ _ fun i q1 q2 => decide_eq_false fun z => ?_
    obtain ⟨i', e1, e2, e3⟩ := mod_per (q := q) (t := t) hte q1
    have := h1 i' e1 e2
    rw [decide_eq_true (e3.trans z.1)] at this
    cases this
theorem PSI_both : PS_both INV := by
  intro μ a1 a2 q1 q2 q3 hI
  refine both_of (fx := fun μ a => f_X11_both μ a q1 q2 q3) (fm := fun μ c => f_X12_both μ c q1 q2 q3) ?_ μ a1 a2 hI
  intro R T F h K hw
  have w := hw.2.2.1
  rcases ix2 q1 h.n (by have := w.1; omega) with h1 | ⟨g, hg, rfl⟩
  · refine ⟨-1, R, T, F, h, K, hw, fun μ a H => XO.same H ?_, fun μ c H => MO.same H ?_⟩
    · simp (config := { decide := true }) only [↓reduceIte, Option.bind_some, Option.bind_none, f_X11_both, H.1.t0, gP_of H.1.t0 H.1.p0_0, gP_of H.1.t0 H.1.p0_1, gP_of H.1.t0 H.1.p0_2, gP_of H.1.t0 H.1.p0_3, gP_of H.1.t0 H.1.p0_4, gP_of H.1.t0 H.1.p0_5, gP_of H.1.t0 H.1.p0_6, gP_of H.1.t0 H.1.p0_7, gP_of H.1.t0 H.1.p0_8, gP_of H.1.t0 H.1.p0_9, x_hasG_bad H h1]
    · simp (config := { decide := true }) only [↓reduceIte, Option.bind_some, Option.bind_none, f_X12_both, H.1.t0, gP_of H.1.t0 H.1.p0_1, gP_of H.1.t0 H.1.p0_5, gP_of H.1.t0 H.1.p0_6, gP_of H.1.t0 H.1.p0_7, gP_of H.1.t0 H.1.p0_8, gP_of H.1.t0 H.1.p0_9, gP_of H.1.t0 H.1.p0_14, gP_of H.1.t0 H.1.p0_15, gP_of H.1.t0 H.1.p0_21, gP_of H.1.t0 H.1.p0_22, gP_of H.1.t0 H.1.p0_23, gP_of H.1.t0 H.1.p0_24, gP_of H.1.t0 H.1.p0_26, gP_of H.1.t0 H.1.p0_27, gP_of H.1.t0 H.1.p0_28, gP_of H.1.t0 H.1.p0_29, gP_of H.1.t0 H.1.p0_30, gP_of H.1.t0 H.1.p0_31, gP_of H.1.t0 H.1.p0_32, gP_of H.1.t0 H.1.p0_33, gP_of H.1.t0 H.1.p0_40, gP_of H.1.t0 H.1.p0_41, gP_of H.1.t0 H.1.p0_46, gP_of H.1.t0 H.1.p0_47, gP_of H.1.t0 H.1.p0_48, m_isG_bad H w h1]
  by_cases h12 : q2 < 12
  · refine ⟨-1, R, T, F, h, K, hw, fun μ a H => XO.same H ?_, fun μ c H => MO.same H ?_⟩
    · simp (config := { decide := true }) only [↓reduceIte, Option.bind_some, Option.bind_none, f_X11_both, H.1.t0, gP_of H.1.t0 H.1.p0_0, gP_of H.1.t0 H.1.p0_1, gP_of H.1.t0 H.1.p0_2, gP_of H.1.t0 H.1.p0_3, gP_of H.1.t0 H.1.p0_4, gP_of H.1.t0 H.1.p0_5, gP_of H.1.t0 H.1.p0_6, gP_of H.1.t0 H.1.p0_7, gP_of H.1.t0 H.1.p0_8, gP_of H.1.t0 H.1.p0_9, x_hasG_ok H w hg, h12]
    · simp (config := { decide := true }) only [↓reduceIte, Option.bind_some, Option.bind_none, f_X12_both, H.1.t0, gP_of H.1.t0 H.1.p0_1, gP_of H.1.t0 H.1.p0_5, gP_of H.1.t0 H.1.p0_6, gP_of H.1.t0 H.1.p0_7, gP_of H.1.t0 H.1.p0_8, gP_of H.1.t0 H.1.p0_9, gP_of H.1.t0 H.1.p0_14, gP_of H.1.t0 H.1.p0_15, gP_of H.1.t0 H.1.p0_21, gP_of H.1.t0 H.1.p0_22, gP_of H.1.t0 H.1.p0_23, gP_of H.1.t0 H.1.p0_24, gP_of H.1.t0 H.1.p0_26, gP_of H.1.t0 H.1.p0_27, gP_of H.1.t0 H.1.p0_28, gP_of H.1.t0 H.1.p0_29, gP_of H.1.t0 H.1.p0_30, gP_of H.1.t0 H.1.p0_31, gP_of H.1.t0 H.1.p0_32, gP_of H.1.t0 H.1.p0_33, gP_of H.1.t0 H.1.p0_40, gP_of H.1.t0 H.1.p0_41, gP_of H.1.t0 H.1.p0_46, gP_of H.1.t0 H.1.p0_47, gP_of H.1.t0 H.1.p0_48, m_isG_ok H w hg, f_X12_in, h12]
  by_cases h60 : 60 < q2
  · refine ⟨-1, R, T, F, h, K, hw, fun μ a H => XO.same H ?_, fun μ c H => MO.same H ?_⟩
    · simp (config := { decide := true }) only [↓reduceIte, Option.bind_some, Option.bind_none, f_X11_both, H.1.t0, gP_of H.1.t0 H.1.p0_0, gP_of H.1.t0 H.1.p0_1, gP_of H.1.t0 H.1.p0_2, gP_of H.1.t0 H.1.p0_3, gP_of H.1.t0 H.1.p0_4, gP_of H.1.t0 H.1.p0_5, gP_of H.1.t0 H.1.p0_6, gP_of H.1.t0 H.1.p0_7, gP_of H.1.t0 H.1.p0_8, gP_of H.1.t0 H.1.p0_9, x_hasG_ok H w hg, h12, h60]
    · simp (config := { decide := true }) only [↓reduceIte, Option.bind_some, Option.bind_none, f_X12_both, H.1.t0, gP_of H.1.t0 H.1.p0_1, gP_of H.1.t0 H.1.p0_5, gP_of H.1.t0 H.1.p0_6, gP_of H.1.t0 H.1.p0_7, gP_of H.1.t0 H.1.p0_8, gP_of H.1.t0 H.1.p0_9, gP_of H.1.t0 H.1.p0_14, gP_of H.1.t0 H.1.p0_15, gP_of H.1.t0 H.1.p0_21, gP_of H.1.t0 H.1.p0_22, gP_of H.1.t0 H.1.p0_23, gP_of H.1.t0 H.1.p0_24, gP_of H.1.t0 H.1.p0_26, gP_of H.1.t0 H.1.p0_27, gP_of H.1.t0 H.1.p0_28, gP_of H.1.t0 H.1.p0_29, gP_of H.1.t0 H.1.p0_30, gP_of H.1.t0 H.1.p0_31, gP_of H.1.t0 H.1.p0_32, gP_of H.1.t0 H.1.p0_33, gP_of H.1.t0 H.1.p0_40, gP_of H.1.t0 H.1.p0_41, gP_of H.1.t0 H.1.p0_46, gP_of H.1.t0 H.1.p0_47, gP_of H.1.t0 H.1.p0_48, m_isG_ok H w hg, f_X12_in, h12, h60]
  obtain ⟨p2, hp2, rfl⟩ : ∃ p2, (12 ≤ p2 ∧ p2 ≤ 60) ∧ q2 = nI p2 := by
    rcases ix3 q2 61 (by decide) with z | ⟨z1, z2⟩ | ⟨j, hj, rfl⟩
    · exact absurd (by rw [Int32.lt_iff_toInt_lt] at z ⊢; have : (0 : Int32).toInt = 0 := rfl; have : (12 : Int32).toInt = 12 := rfl; omega) h12
    · exact absurd (i_big' (m := 60) z2 (by decide) (by decide)) h60
    · refine ⟨j, ⟨?_, by omega⟩, rfl⟩
      by_cases z : 12 ≤ j
      · exact z
      · exact absurd (show nI j < nI 12 from nI_lt (by omega) (by decide)) h12
  rcases ix2 q3 p2 (by omega) with h3 | ⟨p3, hp3, rfl⟩
  · refine ⟨-1, R, T, F, h, K, hw, fun μ a H => XO.same H ?_, fun μ c H => MO.same H ?_⟩
    · rcases h3 with h3 | ⟨h3, h4⟩
      · simp (config := { decide := true }) only [↓reduceIte, Option.bind_some, Option.bind_none, f_X11_both, H.1.t0, gP_of H.1.t0 H.1.p0_0, gP_of H.1.t0 H.1.p0_1, gP_of H.1.t0 H.1.p0_2, gP_of H.1.t0 H.1.p0_3, gP_of H.1.t0 H.1.p0_4, gP_of H.1.t0 H.1.p0_5, gP_of H.1.t0 H.1.p0_6, gP_of H.1.t0 H.1.p0_7, gP_of H.1.t0 H.1.p0_8, gP_of H.1.t0 H.1.p0_9, x_hasG_ok H w hg, h12, h60, h3]
      · have : ¬ q3 < nI p2 := by rw [Int32.le_iff_toInt_le] at h4; rw [Int32.lt_iff_toInt_lt]; omega
        simp (config := { decide := true }) only [↓reduceIte, Option.bind_some, Option.bind_none, f_X11_both, H.1.t0, gP_of H.1.t0 H.1.p0_0, gP_of H.1.t0 H.1.p0_1, gP_of H.1.t0 H.1.p0_2, gP_of H.1.t0 H.1.p0_3, gP_of H.1.t0 H.1.p0_4, gP_of H.1.t0 H.1.p0_5, gP_of H.1.t0 H.1.p0_6, gP_of H.1.t0 H.1.p0_7, gP_of H.1.t0 H.1.p0_8, gP_of H.1.t0 H.1.p0_9, x_hasG_ok H w hg, h12, h60, h3, this]
    · have e1 : f_X12_in μ (nI p2) 12 60 = some 1 := by simp (config := { decide := true }) only [↓reduceIte, Option.bind_some, Option.bind_none, f_X12_in, h12, h60]
      simp (config := { decide := true }) only [↓reduceIte, Option.bind_some, Option.bind_none, f_X12_both, H.1.t0, gP_of H.1.t0 H.1.p0_1, gP_of H.1.t0 H.1.p0_5, gP_of H.1.t0 H.1.p0_6, gP_of H.1.t0 H.1.p0_7, gP_of H.1.t0 H.1.p0_8, gP_of H.1.t0 H.1.p0_9, gP_of H.1.t0 H.1.p0_14, gP_of H.1.t0 H.1.p0_15, gP_of H.1.t0 H.1.p0_21, gP_of H.1.t0 H.1.p0_22, gP_of H.1.t0 H.1.p0_23, gP_of H.1.t0 H.1.p0_24, gP_of H.1.t0 H.1.p0_26, gP_of H.1.t0 H.1.p0_27, gP_of H.1.t0 H.1.p0_28, gP_of H.1.t0 H.1.p0_29, gP_of H.1.t0 H.1.p0_30, gP_of H.1.t0 H.1.p0_31, gP_of H.1.t0 H.1.p0_32, gP_of H.1.t0 H.1.p0_33, gP_of H.1.t0 H.1.p0_40, gP_of H.1.t0 H.1.p0_41, gP_of H.1.t0 H.1.p0_46, gP_of H.1.t0 H.1.p0_47, gP_of H.1.t0 H.1.p0_48, m_isG_ok H w hg, e1, m_in_last (show p2 < 2 ^ 31 by omega) h3]
  have h0 : ¬ h.n = 0 := by omega
  have t1 := w.te_ge h0
  have t2 := w.te_lt
  have t3 := w.now_lt h0
  have ht := w.tr_le hg
  have e3 : ¬ nI p3 < 0 := nI_pos (by omega)
  have e4 : nI p3 < nI p2 := nI_lt hp3 (by omega)
  have hbf := both_from (q := h.q.1) (te := h.te) (t := h.tr g) (fun k => decide ((p3 + k * h.tr g) % p2 = 0)) (by omega) t2
  have hPP : (fun k => decide ((h.q.1 + k * h.tr g) % h.te = 0 ∧ decide ((p3 + k * h.tr g) % p2 = 0) = true)) = (fun k => decide ((h.q.1 + k * h.tr g) % h.te = 0 ∧ (p3 + k * h.tr g) % p2 = 0)) := by
    funext k
    congr 1
    rw [decide_eq_true_iff]
  rw [hPP] at hbf
  have hm : ∀ μ c, MI R T F h K μ c → lp_X12_both_56 BIG c (nI p2) (nI (h.tr g)) (nI h.q.1) (nI p3) 0 1 μ = some (ofb h.q.1 h.te (h.tr g) (fst (fun k => decide ((h.q.1 + k * h.tr g) % h.te = 0 ∧ (p3 + k * h.tr g) % p2 = 0)) 3600 1)) := fun μ c H => by
    have := m_both_l H w h0 ht hp2.1 hp2.2 hp3 3600 BIG 1 (by decide) (by decide) (by unfold BIG; omega)
    rw [Nat.sub_self, Nat.zero_mul, Nat.add_zero, Nat.add_zero, Nat.mod_eq_of_lt t3, Nat.mod_eq_of_lt hp3, Nat.div_eq_of_lt t3] at this
    exact this
  have em1 : ∀ μ, f_X12_in μ (nI p2) 12 60 = some 1 := fun μ => by simp (config := { decide := true }) only [↓reduceIte, Option.bind_some, Option.bind_none, f_X12_in, h12, h60]
  cases hno : fst (fun k => decide ((h.q.1 + k * h.tr g) % h.te = 0)) h.te 1 with
  | none =>
    rw [hno] at hbf
    refine ⟨-9, R, T, F, h, K, hw, fun μ a H => XO.same H ?_, fun μ c H => MO.same H ?_⟩
    · simp (config := { decide := true }) only [↓reduceIte, Option.bind_some, Option.bind_none, f_X11_both, H.1.t0, gP_of H.1.t0 H.1.p0_0, gP_of H.1.t0 H.1.p0_1, gP_of H.1.t0 H.1.p0_2, gP_of H.1.t0 H.1.p0_3, gP_of H.1.t0 H.1.p0_4, gP_of H.1.t0 H.1.p0_5, gP_of H.1.t0 H.1.p0_6, gP_of H.1.t0 H.1.p0_7, gP_of H.1.t0 H.1.p0_8, gP_of H.1.t0 H.1.p0_9, x_hasG_ok H w hg, h12, h60, e3, e4, x_tread H w hg, x_noon H w h0 ht, hno, ofn]
    · simp (config := { decide := true }) only [↓reduceIte, Option.bind_some, Option.bind_none, f_X12_both, H.1.t0, gP_of H.1.t0 H.1.p0_1, gP_of H.1.t0 H.1.p0_5, gP_of H.1.t0 H.1.p0_6, gP_of H.1.t0 H.1.p0_7, gP_of H.1.t0 H.1.p0_8, gP_of H.1.t0 H.1.p0_9, gP_of H.1.t0 H.1.p0_14, gP_of H.1.t0 H.1.p0_15, gP_of H.1.t0 H.1.p0_21, gP_of H.1.t0 H.1.p0_22, gP_of H.1.t0 H.1.p0_23, gP_of H.1.t0 H.1.p0_24, gP_of H.1.t0 H.1.p0_26, gP_of H.1.t0 H.1.p0_27, gP_of H.1.t0 H.1.p0_28, gP_of H.1.t0 H.1.p0_29, gP_of H.1.t0 H.1.p0_30, gP_of H.1.t0 H.1.p0_31, gP_of H.1.t0 H.1.p0_32, gP_of H.1.t0 H.1.p0_33, gP_of H.1.t0 H.1.p0_40, gP_of H.1.t0 H.1.p0_41, gP_of H.1.t0 H.1.p0_46, gP_of H.1.t0 H.1.p0_47, gP_of H.1.t0 H.1.p0_48, m_isG_ok H w hg, em1, m_in_last1 hp3 (show p2 < 2 ^ 31 by omega), m_tread H w hg, m_hev H, hm μ c H, hbf, ofb]
  | some k0 =>
    rw [hno] at hbf
    obtain ⟨j1, j2, j3⟩ : 1 ≤ k0 ∧ k0 ≤ 60 ∧ (h.q.1 + k0 * h.tr g) % h.te = 0 := by
      rcases fst_cases (fun k => decide ((h.q.1 + k * h.tr g) % h.te = 0)) h.te 1 with ⟨j, z1, z2, z3, z4⟩ | z1
      · rw [fst_some _ h.te 1 j z1 z2 z3 z4] at hno
        cases hno
        exact ⟨z1, by omega, of_decide_eq_true z3⟩
      · rw [fst_none _ h.te 1 z1] at hno
        cases hno
    have hk9 : ¬ nI k0 = -9 := fun z => by
      have := congrArg Int32.toInt z
      rw [nI_toInt (by omega), show (-9 : Int32).toInt = -9 from rfl] at this
      omega
    have hx : ∀ μ a, lp_X11_both_79 BIG a (nI p2) (nI p3) (nI (h.tr g)) (nI k0) (nI (h.te / Nat.gcd h.te (h.tr g))) 0 μ = some (ofo (fst (fun k => decide ((h.q.1 + k * h.tr g) % h.te = 0 ∧ (p3 + k * h.tr g) % p2 = 0)) (3601 - k0) k0)) := fun μ a => by
      have := x_both_l (μ := μ) (a := a) t1 t2 ht hp2.1 hp2.2 j2 hp3 j3 BIG 0 (Nat.zero_le _) (by unfold BIG; omega) (by rw [Nat.zero_mul]; exact j3) (fun v hv => absurd hv (Nat.not_lt_zero _))
      rw [show k0 + 0 * (h.te / Nat.gcd h.te (h.tr g)) = k0 by rw [Nat.zero_mul]; rfl] at this
      exact this
    cases hf : fst (fun k => decide ((h.q.1 + k * h.tr g) % h.te = 0 ∧ (p3 + k * h.tr g) % p2 = 0)) (3601 - k0) k0 with
    | none =>
      have hbf' := hbf.trans hf
      refine ⟨-9, R, T, F, h, K, hw, fun μ a H => XO.same H ?_, fun μ c H => MO.same H ?_⟩
      · simp (config := { decide := true }) only [↓reduceIte, Option.bind_some, Option.bind_none, f_X11_both, H.1.t0, gP_of H.1.t0 H.1.p0_0, gP_of H.1.t0 H.1.p0_1, gP_of H.1.t0 H.1.p0_2, gP_of H.1.t0 H.1.p0_3, gP_of H.1.t0 H.1.p0_4, gP_of H.1.t0 H.1.p0_5, gP_of H.1.t0 H.1.p0_6, gP_of H.1.t0 H.1.p0_7, gP_of H.1.t0 H.1.p0_8, gP_of H.1.t0 H.1.p0_9, x_hasG_ok H w hg, h12, h60, e3, e4, x_tread H w hg, x_noon H w h0 ht, hno, ofn, hk9, x_return H w h0 ht, hx, hf, ofo]
      · simp (config := { decide := true }) only [↓reduceIte, Option.bind_some, Option.bind_none, f_X12_both, H.1.t0, gP_of H.1.t0 H.1.p0_1, gP_of H.1.t0 H.1.p0_5, gP_of H.1.t0 H.1.p0_6, gP_of H.1.t0 H.1.p0_7, gP_of H.1.t0 H.1.p0_8, gP_of H.1.t0 H.1.p0_9, gP_of H.1.t0 H.1.p0_14, gP_of H.1.t0 H.1.p0_15, gP_of H.1.t0 H.1.p0_21, gP_of H.1.t0 H.1.p0_22, gP_of H.1.t0 H.1.p0_23, gP_of H.1.t0 H.1.p0_24, gP_of H.1.t0 H.1.p0_26, gP_of H.1.t0 H.1.p0_27, gP_of H.1.t0 H.1.p0_28, gP_of H.1.t0 H.1.p0_29, gP_of H.1.t0 H.1.p0_30, gP_of H.1.t0 H.1.p0_31, gP_of H.1.t0 H.1.p0_32, gP_of H.1.t0 H.1.p0_33, gP_of H.1.t0 H.1.p0_40, gP_of H.1.t0 H.1.p0_41, gP_of H.1.t0 H.1.p0_46, gP_of H.1.t0 H.1.p0_47, gP_of H.1.t0 H.1.p0_48, m_isG_ok H w hg, em1, m_in_last1 hp3 (show p2 < 2 ^ 31 by omega), m_tread H w hg, m_hev H, hm μ c H, hbf', ofb]
    | some k =>
      have hbf' := hbf.trans hf
      have hk : k ≤ 3600 := by
        rcases fst_cases (fun k => decide ((h.q.1 + k * h.tr g) % h.te = 0 ∧ (p3 + k * h.tr g) % p2 = 0)) (3601 - k0) k0 with ⟨j, z1, z2, z3, z4⟩ | z1
        · rw [fst_some _ _ k0 j z1 z2 z3 z4] at hf
          cases hf
          omega
        · rw [fst_none _ _ k0 z1] at hf
          cases hf
      have hkt : k * h.tr g ≤ 3600 * 18 := Nat.mul_le_mul hk ht
      refine ⟨nI k, R, T, tel F (nI ((h.q.1 + k * h.tr g) / h.te)), h, K, hw, fun μ a H => XO.tell H ?_, fun μ c H => MO.tell H ?_⟩
      · simp (config := { decide := true }) only [↓reduceIte, Option.bind_some, Option.bind_none, f_X11_both, H.1.t0, gP_of H.1.t0 H.1.p0_0, gP_of H.1.t0 H.1.p0_1, gP_of H.1.t0 H.1.p0_2, gP_of H.1.t0 H.1.p0_3, gP_of H.1.t0 H.1.p0_4, gP_of H.1.t0 H.1.p0_5, gP_of H.1.t0 H.1.p0_6, gP_of H.1.t0 H.1.p0_7, gP_of H.1.t0 H.1.p0_8, gP_of H.1.t0 H.1.p0_9, x_hasG_ok H w hg, h12, h60, e3, e4, x_tread H w hg, x_noon H w h0 ht, hno, ofn, hk9, x_return H w h0 ht, hx, hf, ofo, x_hev H, pk_mul, nI_add, x_byTeeth H w h0 (show h.q.1 + k * h.tr g < 2 ^ 31 by omega), pI_of H.1.t0]
      · simp (config := { decide := true }) only [↓reduceIte, Option.bind_some, Option.bind_none, f_X12_both, H.1.t0, gP_of H.1.t0 H.1.p0_1, gP_of H.1.t0 H.1.p0_5, gP_of H.1.t0 H.1.p0_6, gP_of H.1.t0 H.1.p0_7, gP_of H.1.t0 H.1.p0_8, gP_of H.1.t0 H.1.p0_9, gP_of H.1.t0 H.1.p0_14, gP_of H.1.t0 H.1.p0_15, gP_of H.1.t0 H.1.p0_21, gP_of H.1.t0 H.1.p0_22, gP_of H.1.t0 H.1.p0_23, gP_of H.1.t0 H.1.p0_24, gP_of H.1.t0 H.1.p0_26, gP_of H.1.t0 H.1.p0_27, gP_of H.1.t0 H.1.p0_28, gP_of H.1.t0 H.1.p0_29, gP_of H.1.t0 H.1.p0_30, gP_of H.1.t0 H.1.p0_31, gP_of H.1.t0 H.1.p0_32, gP_of H.1.t0 H.1.p0_33, gP_of H.1.t0 H.1.p0_40, gP_of H.1.t0 H.1.p0_41, gP_of H.1.t0 H.1.p0_46, gP_of H.1.t0 H.1.p0_47, gP_of H.1.t0 H.1.p0_48, m_isG_ok H w hg, em1, m_in_last1 hp3 (show p2 < 2 ^ 31 by omega), m_tread H w hg, m_hev H, hm μ c H, hbf', ofb, m_tell H.1]
