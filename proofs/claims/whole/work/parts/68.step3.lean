/-! ===== steps: the model's side ===== -/
theorem m_rem_l {μ : Mm} {c len : Nat} (hL : LM μ c) (h25 : mI μ c 25 = nI len) (hl : len < 60) : ∀ (f k : Nat), k ≤ 11 → 11 < k + f → lp_X12_remember_2 f c (nI k) (sR μ (c + 13) (filo (mI μ (c + 13)) (11 * len) k (mI μ (c + 11)))) = some (sR μ (c + 13) (filo (mI μ (c + 13)) (11 * len) 11 (mI μ (c + 11)))) := by
  intro f
  induction f with
  | zero => intro k h1 h2; omega
  | succ f ih =>
    intro k h1 h2
    by_cases hk : k = 11
    · subst hk
      have e : (11 : Int32) ≤ nI 11 := Int32.le_refl _
      simp (config := { decide := true }) only [↓reduceIte, Option.bind_some, Option.bind_none, lp_X12_remember_2, e]
    · have e : ¬ (11 : Int32) ≤ nI k := (show ¬ nI 11 ≤ nI k from nI_ge (by omega) (by decide))
      have hL' : LM (sR μ (c + 13) (filo (mI μ (c + 13)) (11 * len) k (mI μ (c + 11)))) c := hL
      have e25 : gI (sR μ (c + 13) (filo (mI μ (c + 13)) (11 * len) k (mI μ (c + 11)))) c 13 25 = some (nI len) := gI_e hL'.t0 (by rw [mR_ne (by omega)]; exact h25)
      have ea : aI (sR μ (c + 13) (filo (mI μ (c + 13)) (11 * len) k (mI μ (c + 11)))) (c + 11) 21 (nI k) = some (mI μ (c + 11) k) := by
        rw [aI_of hL'.t11 (by rw [hL'.n11]; omega) (by omega), mR_ne (by omega)]
      have ex : ((11 : Int32) * nI len) + nI k = nI (11 * len + k) := by
        show nI 11 * nI len + nI k = _
        rw [pk_mul, nI_add]
      simp (config := { decide := true }) only [↓reduceIte, Option.bind_some, Option.bind_none, lp_X12_remember_2, e, gP_of hL'.t0 hL'.p0_26, gP_of hL'.t0 hL'.p0_23, e25, ea, ex, qI_of (i := 11 * len + k) hL'.t13 (show 11 * len + k < ln μ (c + 13) by rw [hL.n13]; omega) (show 11 * len + k < 2 ^ 31 by omega)]
      rw [sI_sRg, filo_s, nI_1]
      exact ih (k + 1) (by omega) (by omega)
/-- the heap with the numbers of now laid into the log -/
def mrem (μ : Mm) (c len : Nat) : Mm := sI (sR μ (c + 13) (filo (mI μ (c + 13)) (11 * len) 11 (mI μ (c + 11)))) c 25 (nI (len + 1))
theorem m_remember {μ : Mm} {c len : Nat} (hL : LM μ c) (h25 : mI μ c 25 = nI len) (hl : len < 60) : f_X12_remember μ c = some (mrem μ c len) := by
  have e := m_rem_l hL h25 hl BIG 0 (by decide) (by unfold BIG; omega)
  rw [filo_0, sR_self] at e
  have e' : lp_X12_remember_2 BIG c 0 μ = _ := e
  have hL' : LM (sR μ (c + 13) (filo (mI μ (c + 13)) (11 * len) 11 (mI μ (c + 11)))) c := hL
  have e25 : gI (sR μ (c + 13) (filo (mI μ (c + 13)) (11 * len) 11 (mI μ (c + 11)))) c 13 25 = some (nI len) := gI_e hL'.t0 (by rw [mR_ne (by omega)]; exact h25)
  simp (config := { decide := true }) only [↓reduceIte, Option.bind_some, Option.bind_none, f_X12_remember, hL.t0, e', e25, nI_1, pI_of hL'.t0] <;> rfl
theorem nat11_filo {μ μ' : Mm} {b b' o : Nat} {q : Rst} (h : nat11 μ b 0 q) (he : ∀ j, j < 11 → mI μ' b' (o + j) = mI μ b j) : nat11 μ' b' o q := by
  obtain ⟨k0, k1, k2, k3, k4, k5⟩ := h
  refine ⟨(he 0 (by decide)).trans k0, (he 1 (by decide)).trans k1, (he 2 (by decide)).trans k2, (he 3 (by decide)).trans k3, (he 4 (by decide)).trans k4, fun g hg => ?_⟩
  have := k5 g hg
  rw [Nat.add_assoc, he (5 + g) (by omega), show 5 + g = 0 + 5 + g by omega]
  exact this
theorem mrem_log {μ : Mm} {c len : Nat} {q : Rst} (h : nat11 μ (c + 11) 0 q) : nat11 (mrem μ c len) (c + 13) (11 * len) q := nat11_filo h fun j hj => by
  unfold mrem
  rw [mI_ne (by omega), mR_eq, filo_in (by omega) (by omega), Nat.add_sub_cancel_left]
theorem mrem_old {μ : Mm} {c len j : Nat} (hj : j < 11 * len) : mI (mrem μ c len) (c + 13) j = mI μ (c + 13) j := by
  unfold mrem
  rw [mI_ne (by omega), mR_eq, filo_out (Or.inl hj)]
theorem mrem_sm {μ : Mm} {c len b : Nat} (h0 : b ≠ c) (h13 : b ≠ c + 13) : Sm μ (mrem μ c len) b := ((Sm.rf μ b).sR h13).sI h0
theorem mrem_25 {μ : Mm} {c len : Nat} : mI (mrem μ c len) c 25 = nI (len + 1) := mI_eq
theorem mrem_c {μ : Mm} {c len j : Nat} (hj : j ≠ 25) : mI (mrem μ c len) c j = mI μ c j := by
  unfold mrem
  rw [mI_nk hj, mR_ne (by omega)]
theorem l_bare {μ : Mm} {c g k f : Nat} (hL : LM μ c) (hg : g < 6) (hk' : mI μ (c + 7) g = nI k) (hf' : mI μ (c + 8) g = nI f) (hk : k < 6) (h1 : 1 ≤ f) (h9 : f ≤ 9) : f_X12_bareOf μ c (nI g) = some (nI (bar k f)) := by
  have m2 : (2 : Int32) * nI f = nI (2 * f) := pk_mul 2 f
  have d2 : nI f / (2 : Int32) = nI (f / 2) := pk_div (d := 2) (by omega) (by decide) (by decide)
  have s1 : nI f - (1 : Int32) = nI (f - 1) := pred1 (by omega)
  have d3 : nI (f - 1) / (2 : Int32) = nI ((f - 1) / 2) := pk_div (d := 2) (by omega) (by decide) (by decide)
  have s2 : nI (2 * f) - nI (f / 2) = nI (2 * f - f / 2) := pk_sub (by omega)
  have e7 : aI μ (c + 7) 21 (nI g) = some (nI k) := by rw [aI_of hL.t7 (by rw [hL.n7]; omega) (by omega), hk']
  have e8 : aI μ (c + 8) 21 (nI g) = some (nI f) := by rw [aI_of hL.t8 (by rw [hL.n8]; omega) (by omega), hf']
  rcases (show k = 0 ∨ k = 1 ∨ k = 2 ∨ k = 3 ∨ k = 4 ∨ k = 5 by omega) with rfl | rfl | rfl | rfl | rfl | rfl <;>
    simp (config := { decide := true }) only [↓reduceIte, Option.bind_some, Option.bind_none, f_X12_bareOf, hL.t0, gP_of hL.t0 hL.p0_14, gP_of hL.t0 hL.p0_15, e7, e8, show nI 0 = 0 from rfl, show nI 1 = 1 from rfl, show nI 2 = 2 from rfl, show nI 3 = 3 from rfl, show nI 4 = 4 from rfl, show nI 5 = 5 from rfl, bar, m2, d2, s1, d3, s2]
theorem l_tread {μ : Mm} {c g fl : Nat} {kd ft : Nat → Nat} (hL : LM μ c) (hg : g < 6) (hk' : mI μ (c + 7) g = nI (kd g)) (hf' : mI μ (c + 8) g = nI (ft g)) (hk : kd g < 6) (h1 : 1 ≤ ft g) (h9 : ft g ≤ 9) (h2 : mI μ (c + 11) 2 = nI fl) (hfl : fl ≤ 2) : f_X12_treadOf μ c (nI g) = some (nI (trd kd ft fl g)) := by
  have hb := bar_le (k := kd g) h9
  have d2 : nI (bar (kd g) (ft g)) / (2 : Int32) = nI (bar (kd g) (ft g) / 2) := pk_div (d := 2) (by omega) (by decide) (by decide)
  have e2 : aI μ (c + 11) 21 2 = some (nI fl) := (aI_of (i := 2) hL.t11 (by rw [hL.n11]; decide) (by decide)).trans (congrArg some h2)
  have eb := l_bare hL hg hk' hf' hk h1 h9
  unfold trd
  rcases (show fl = 0 ∨ fl = 1 ∨ fl = 2 by omega) with rfl | rfl | rfl <;>
    simp (config := { decide := true }) only [↓reduceIte, Option.bind_some, Option.bind_none, f_X12_treadOf, hL.t0, gP_of hL.t0 hL.p0_23, e2, show nI 0 = 0 from rfl, show nI 1 = 1 from rfl, show nI 2 = 2 from rfl, eb, d2]
theorem l_isRent {μ : Mm} {c t : Nat} {rs : Int64} (ht0 : tg μ c = 13) (hr : mL μ c 13 = rs) (ht : t < 64) : f_X12_isRent μ c (nI t) = some (nI (b1 (isr rs t))) := by
  have e := rentS (rs := rs) ht
  have eL : gL μ c 13 13 = some rs := by rw [← hr]; exact gL_of ht0
  cases hb : isr rs t with
  | true =>
    have e' := e.mpr hb
    simp (config := { decide := true }) only [↓reduceIte, Option.bind_some, Option.bind_none, f_X12_isRent, ht0, eL, e'] <;> rfl
  | false =>
    have e' : ¬ lg_cmp ((rs >>> ((nI t).toInt64 &&& 63)) &&& (1 : Int64)) (1 : Int64) = 0 := fun q => by rw [e, hb] at q; cases q
    simp (config := { decide := true }) only [↓reduceIte, Option.bind_some, Option.bind_none, f_X12_isRent, ht0, eL, e'] <;> rfl
/-- a walk of t teeth -/
def wlk (te : Nat) (rs : Int64) (t g : Nat) (q : Rst) : Rst := ((q.1 + t) % te, q.2.1 + (q.1 + t) / te, q.2.2.1, q.2.2.2.1 + b1 (isr rs ((q.1 + t) % te)), q.2.2.2.2.1 + t, u1 q.2.2.2.2.2 g (q.2.2.2.2.2 g + 1))
theorem stp_wlk {te s : Nat} {rs : Int64} {kd ft : Nat → Nat} {q : Rst} (h : s < 6) : stp te rs kd ft q s = wlk te rs (trd kd ft q.2.2.1 s) s q := if_pos h
theorem aI_l {s : Mm} {b : Nat} (i : Nat) {x : Int32} (hx : x = nI i) (h1 : tg s b = 21) (h2 : ln s b = 11) (hi : i < 11) : aI s b 21 x = some (mI s b i) := by
  rw [hx]; exact aI_of h1 (by omega) (by omega)
theorem qI_l {s : Mm} {b : Nat} (i : Nat) {x v : Int32} (hx : x = nI i) (h1 : tg s b = 21) (h2 : ln s b = 11) (hi : i < 11) : qI s b 21 x v = some (sI s b i v) := by
  rw [hx]; exact qI_of h1 (by omega) (by omega)
theorem m_walks {μ : Mm} {c b g te t : Nat} {rs : Int64} {q : Rst} (hL : LM μ c) (hb : b ≠ c) (htb : tg μ b = 21) (hlb : ln μ b = 11) (hg : g < 6) (htr : f_X12_treadOf μ c (nI g) = some (nI t)) (ht : t ≤ 18) (hq : nat11 μ b 0 q) (hte : mI μ c 11 = nI te) (t1 : 12 ≤ te) (t2 : te ≤ 60) (hr : mL μ c 13 = rs) (hsm : Sml te q) : ∃ μ', f_X12_walks μ c b (nI g) = some μ' ∧ LM μ' c ∧ nat11 μ' b 0 (wlk te rs t g q) ∧ (∀ b', b' ≠ b → Sm μ μ' b') ∧ hz μ' = hz μ := by
  obtain ⟨k0, k1, k2, k3, k4, k5⟩ := hq
  obtain ⟨s1, s2, s3, s4, s5, s6⟩ := hsm
  have hmod := Nat.mod_lt (q.1 + t) (show 0 < te by omega)
  have ed := pk_div (a := q.1 + t) (d := te) (by omega) (by omega) (by omega)
  have er := pk_rem (a := q.1 + t) (d := te) (by omega) (by omega) (by omega)
  rw [ed] at er
  have hte0 : ¬ nI te = 0 := nI_ne0 (by omega) (by omega)
  have e5 : (5 : Int32) + nI g = nI (5 + g) := nI_add 5 g
  have k5' : mI μ b (5 + g) = nI (q.2.2.2.2.2 g) := by
    have := k5 g hg
    rw [Nat.zero_add] at this
    exact this
  have k0' : mI μ b 0 = nI q.1 := k0
  have k1' : mI μ b 1 = nI q.2.1 := k1
  have k3' : mI μ b 3 = nI q.2.2.2.1 := k3
  have k4' : mI μ b 4 = nI q.2.2.2.2.1 := k4
  have hbc : ¬ c = b := fun z => hb z.symm
  have eR := l_isRent (μ := sI (sI (sI (sI μ b 1 (nI (q.2.1 + (q.1 + t) / te))) b 0 (nI ((q.1 + t) % te))) b 4 (nI (q.2.2.2.2.1 + t))) b (5 + g) (nI (q.2.2.2.2.2 g + 1))) (t := (q.1 + t) % te) hL.t0 hr (by omega)
  refine ⟨sI (sI (sI (sI (sI μ b 1 (nI (q.2.1 + (q.1 + t) / te))) b 0 (nI ((q.1 + t) % te))) b 4 (nI (q.2.2.2.2.1 + t))) b (5 + g) (nI (q.2.2.2.2.2 g + 1))) b 3 (nI (q.2.2.2.1 + b1 (isr rs ((q.1 + t) % te)))), ?_, hL, ?_, fun b' h' => (((((Sm.rf μ b').sI h').sI h').sI h').sI h').sI h', rfl⟩
  · have n1 : ¬ 3 = 5 + g := by omega
    have n2 : ¬ 0 = 5 + g := by omega
    have n3 : ¬ 5 + g = 4 := by omega
    have n4 : ¬ 5 + g = 0 := by omega
    have n5 : ¬ 5 + g = 1 := by omega
    have gte : ∀ (s : Mm), tg s c = 13 → mI s c 11 = nI te → gI s c 13 11 = some (nI te) := fun s z1 z2 => gI_e z1 z2
    have hA0 : ∀ (s : Mm), tg s b = 21 → ln s b = 11 → aI s b 21 0 = some (mI s b 0) := fun s z1 z2 => aI_l 0 rfl z1 z2 (by decide)
    have hA1 : ∀ (s : Mm), tg s b = 21 → ln s b = 11 → aI s b 21 1 = some (mI s b 1) := fun s z1 z2 => aI_l 1 rfl z1 z2 (by decide)
    have hA3 : ∀ (s : Mm), tg s b = 21 → ln s b = 11 → aI s b 21 3 = some (mI s b 3) := fun s z1 z2 => aI_l 3 rfl z1 z2 (by decide)
    have hA4 : ∀ (s : Mm), tg s b = 21 → ln s b = 11 → aI s b 21 4 = some (mI s b 4) := fun s z1 z2 => aI_l 4 rfl z1 z2 (by decide)
    have hA5 : ∀ (s : Mm), tg s b = 21 → ln s b = 11 → aI s b 21 (nI (5 + g)) = some (mI s b (5 + g)) := fun s z1 z2 => aI_l (5 + g) rfl z1 z2 (by omega)
    have hQ0 : ∀ (s : Mm) (v : Int32), tg s b = 21 → ln s b = 11 → qI s b 21 0 v = some (sI s b 0 v) := fun s v z1 z2 => qI_l 0 rfl z1 z2 (by decide)
    have hQ1 : ∀ (s : Mm) (v : Int32), tg s b = 21 → ln s b = 11 → qI s b 21 1 v = some (sI s b 1 v) := fun s v z1 z2 => qI_l 1 rfl z1 z2 (by decide)
    have hQ3 : ∀ (s : Mm) (v : Int32), tg s b = 21 → ln s b = 11 → qI s b 21 3 v = some (sI s b 3 v) := fun s v z1 z2 => qI_l 3 rfl z1 z2 (by decide)
    have hQ4 : ∀ (s : Mm) (v : Int32), tg s b = 21 → ln s b = 11 → qI s b 21 4 v = some (sI s b 4 v) := fun s v z1 z2 => qI_l 4 rfl z1 z2 (by decide)
    have hQ5 : ∀ (s : Mm) (v : Int32), tg s b = 21 → ln s b = 11 → qI s b 21 (nI (5 + g)) v = some (sI s b (5 + g) v) := fun s v z1 z2 => qI_l (5 + g) rfl z1 z2 (by omega)
    cases hbb : isr rs ((q.1 + t) % te) with
    | true =>
      rw [hbb] at eR
      have eR' : f_X12_isRent _ c (nI ((q.1 + t) % te)) = some 1 := eR
      simp (config := { decide := true }) only [↓reduceIte, Option.bind_some, Option.bind_none, f_X12_walks, hL.t0, htr, hA0, hA1, hA3, hA4, hA5, hQ0, hQ1, hQ3, hQ4, hQ5, gte, htb, hlb, tg_sI, ln_sI, mI_sI, hbc, hte, hte0, k0', k1', k3', k4', k5', nI_add, nI_1, e5, ed, er, n1, n2, n3, n4, n5, and_true, and_false, true_and, false_and, and_self, eR'] <;> rfl
    | false =>
      rw [hbb] at eR
      have eR' : f_X12_isRent _ c (nI ((q.1 + t) % te)) = some 0 := eR
      simp (config := { decide := true }) only [↓reduceIte, Option.bind_some, Option.bind_none, f_X12_walks, hL.t0, htr, hA0, hA1, hA3, hA4, hA5, hQ0, hQ1, hQ3, hQ4, hQ5, gte, htb, hlb, tg_sI, ln_sI, mI_sI, hbc, hte, hte0, k0', k1', k3', k4', k5', nI_add, nI_1, e5, ed, er, n1, n2, n3, n4, n5, and_true, and_false, true_and, false_and, and_self, eR', nI_z] <;> rfl
  · refine ⟨?_, ?_, ?_, ?_, ?_, fun j hj => ?_⟩
    · show mI _ b 0 = _
      rw [mI_nk (by decide), mI_nk (by omega), mI_nk (by decide), mI_eq]; rfl
    · show mI _ b 1 = _
      rw [mI_nk (by decide), mI_nk (by omega), mI_nk (by decide), mI_nk (by decide), mI_eq]; rfl
    · show mI _ b 2 = _
      rw [mI_nk (by decide), mI_nk (by omega), mI_nk (by decide), mI_nk (by decide), mI_nk (by decide)]; exact k2
    · show mI _ b 3 = _
      rw [mI_eq]; rfl
    · show mI _ b 4 = _
      rw [mI_nk (by decide), mI_nk (by omega), mI_eq]; rfl
    · rw [Nat.zero_add, mI_nk (by omega)]
      show _ = nI (u1 q.2.2.2.2.2 g (q.2.2.2.2.2 g + 1) j)
      unfold u1
      by_cases e : j = g
      · subst e; rw [if_pos rfl, mI_eq]
      · rw [if_neg e, mI_nk (by omega), mI_nk (by omega), mI_nk (by omega), mI_nk (by omega)]
        have := k5 j hj
        rw [Nat.zero_add] at this
        exact this
