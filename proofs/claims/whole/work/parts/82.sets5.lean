/-! ===== fits, sure, ask ===== -/
theorem ffN_fst (h : GH) (t : Nat) : ∀ s, ffN h t s = fst (fit h t) s 0 := by
  have hn : ∀ s, (∀ i, i < s → fit h t i = false) → ffN h t s = none := by
    intro s
    induction s with
    | zero => intro _; rfl
    | succ s ih =>
      intro q
      rw [ffN_s]
      rw [if_neg (fun z => by have := q s (by omega); rw [this] at z; cases z.1)]
      exact ih fun i hi => q i (by omega)
  have hs : ∀ s j, j < s → fit h t j = true → (∀ i, i < j → fit h t i = false) → ffN h t s = some j := by
    intro s
    induction s with
    | zero => intro j hj; omega
    | succ s ih =>
      intro j hj e1 e2
      rw [ffN_s]
      by_cases z : j = s
      · subst z
        rw [if_pos ⟨e1, (cntP_zero _).mpr e2⟩]
      · rw [if_neg (fun q => by have := (cntP_zero _).mp q.2 j (by omega); rw [e1] at this; cases this)]
        exact ih j (by omega) e1 e2
  intro s
  rcases fst_cases (fit h t) s 0 with ⟨j, j1, j2, j3, j4⟩ | q
  · rw [fst_some (fit h t) s 0 j j1 j2 j3 j4]
    exact hs s j (by omega) j3 (fun i hi => j4 i (Nat.zero_le _) hi)
  · rw [fst_none (fit h t) s 0 q]
    exact hn s fun i hi => q i (Nat.zero_le _) (by omega)
theorem andN_b (h : GH) (t j : Nat) : ∀ s, (andN h t s).testBit j = true ↔ (j < h.n ∧ ∀ i, i < s → fit h t i = true → i.testBit j = true) := by
  intro s
  induction s with
  | zero =>
    unfold andN
    rw [Nat.testBit_two_pow_sub_one, decide_eq_true_iff]
    exact ⟨fun q => ⟨q, fun i hi => absurd hi (Nat.not_lt_zero i)⟩, fun q => q.1⟩
  | succ s ih =>
    rw [andN_s]
    by_cases e : fit h t s = true
    · rw [if_pos e, Nat.testBit_and, Bool.and_eq_true, ih]
      constructor
      · rintro ⟨⟨q1, q2⟩, q3⟩
        refine ⟨q1, fun i hi hf => ?_⟩
        by_cases z : i = s
        · rw [z]; exact q3
        · exact q2 i (by omega) hf
      · rintro ⟨q1, q2⟩
        exact ⟨⟨q1, fun i hi => q2 i (by omega)⟩, q2 s (by omega) e⟩
    · rw [if_neg e, ih]
      constructor
      · rintro ⟨q1, q2⟩
        refine ⟨q1, fun i hi hf => ?_⟩
        by_cases z : i = s
        · rw [z] at hf; exact absurd hf e
        · exact q2 i (by omega) hf
      · rintro ⟨q1, q2⟩
        exact ⟨q1, fun i hi => q2 i (by omega)⟩
theorem orN_b (h : GH) (t j : Nat) : ∀ s, (orN h t s).testBit j = true ↔ ∃ i, i < s ∧ fit h t i = true ∧ i.testBit j = true := by
  intro s
  induction s with
  | zero =>
    unfold orN
    rw [Nat.zero_testBit]
    exact ⟨fun q => (by cases q), fun ⟨i, hi, _⟩ => absurd hi (Nat.not_lt_zero i)⟩
  | succ s ih =>
    rw [orN_s]
    by_cases e : fit h t s = true
    · rw [if_pos e, Nat.testBit_or, Bool.or_eq_true, ih]
      constructor
      · rintro (⟨i, q1, q2⟩ | q)
        · exact ⟨i, by omega, q2⟩
        · exact ⟨s, by omega, e, q⟩
      · rintro ⟨i, q1, q2, q3⟩
        by_cases z : i = s
        · rw [z] at q3; exact Or.inr q3
        · exact Or.inl ⟨i, by omega, q2, q3⟩
    · rw [if_neg e, ih]
      constructor
      · rintro ⟨i, q1, q2⟩
        exact ⟨i, by omega, q2⟩
      · rintro ⟨i, q1, q2, q3⟩
        by_cases z : i = s
        · rw [z] at q2; exact absurd q2 e
        · exact ⟨i, by omega, q2, q3⟩
theorem sur_and (h : GH) (t : Nat) : sur h t = andN h t (2 ^ h.n) := by
  apply Nat.eq_of_testBit_eq
  intro j
  rw [Bool.eq_iff_iff, andN_b]
  unfold sur
  rw [bts_b, Bool.and_eq_true, decide_eq_true_iff, decide_eq_true_iff]
  have hc := (cntP_sub (P := fitg h t j) (Q := fit h t) (2 ^ h.n) (fun i _ q => fitg_sub q)).2
  constructor
  · rintro ⟨q1, q2⟩
    refine ⟨q1, fun i hi hf => ?_⟩
    have := hc.mp q2 i hi hf
    unfold fitg at this
    rw [hf, Bool.true_and] at this
    exact this
  · rintro ⟨q1, q2⟩
    refine ⟨q1, hc.mpr fun i hi hf => ?_⟩
    unfold fitg
    rw [hf, Bool.true_and]
    exact q2 i hi hf
theorem nwh_or {h : GH} (hn6 : h.n ≤ 6) (t : Nat) : nwh h t = (2 ^ h.n - 1) &&& (63 ^^^ orN h t (2 ^ h.n)) := by
  apply Nat.eq_of_testBit_eq
  intro j
  unfold nwh
  rw [bts_b, Nat.testBit_and, Nat.testBit_two_pow_sub_one, Nat.testBit_xor, show (63 : Nat) = 2 ^ 6 - 1 from rfl, Nat.testBit_two_pow_sub_one]
  by_cases hj : j < h.n
  · rw [decide_eq_true hj, Bool.true_and, Bool.true_and, decide_eq_true (show j < 6 by omega)]
    by_cases z : nfg h t j = 0
    · rw [decide_eq_true z]
      have : (orN h t (2 ^ h.n)).testBit j = false := by
        cases hb : (orN h t (2 ^ h.n)).testBit j with
        | false => rfl
        | true =>
          obtain ⟨i, i1, i2, i3⟩ := (orN_b h t j _).mp hb
          have := (cntP_zero _).mp z i i1
          unfold fitg at this
          rw [i2, i3] at this; cases this
      rw [this]; rfl
    · rw [decide_eq_false z]
      have : (orN h t (2 ^ h.n)).testBit j = true := by
        cases hb : (orN h t (2 ^ h.n)).testBit j with
        | true => rfl
        | false =>
          refine absurd ((cntP_zero _).mpr fun i hi => ?_) z
          cases hf : fitg h t j i with
          | false => rfl
          | true =>
            have hf1 := fitg_sub hf
            unfold fitg at hf
            rw [hf1, Bool.true_and] at hf
            rw [(orN_b h t j _).mpr ⟨i, hi, hf1, hf⟩] at hb
            cases hb
      rw [this]; rfl
  · rw [decide_eq_false hj, Bool.false_and, Bool.false_and]
theorem te_pos {h : GH} (w : WH h) {t : Nat} (ht : t < h.te) : ¬ h.n = 0 := fun q => by
  rcases w.2.1 with ⟨_, z, _⟩ | ⟨z, _⟩
  · omega
  · omega
theorem PSI_fits : PS_fits INV := by
  intro μ a1 a2 q1 hI
  refine both_of (fx := fun μ a => f_X11_fits μ a q1) (fm := fun μ c => f_X12_fits μ c q1) ?_ μ a1 a2 hI
  intro R T F h K hw
  have w := hw.2.2.1
  have hn6 := w.1
  have hp := bt_p6 hn6
  have hp0 := Nat.two_pow_pos h.n
  have t2 := w.te_lt
  rcases ix2 q1 h.te (by omega) with h1 | ⟨t, ht, rfl⟩
  · refine ⟨-1, R, T, F, h, K, hw, fun μ a H => XO.same H ?_, fun μ c H => MO.same H ?_⟩
    · simp (config := { decide := true }) only [↓reduceIte, Option.bind_some, Option.bind_none, f_X11_fits, H.1.t0, gP_of H.1.t0 H.1.p0_0, gP_of H.1.t0 H.1.p0_1, gP_of H.1.t0 H.1.p0_2, gP_of H.1.t0 H.1.p0_3, gP_of H.1.t0 H.1.p0_4, gP_of H.1.t0 H.1.p0_5, gP_of H.1.t0 H.1.p0_6, gP_of H.1.t0 H.1.p0_7, gP_of H.1.t0 H.1.p0_8, gP_of H.1.t0 H.1.p0_9, x_hasT_bad H h1]
    · simp (config := { decide := true }) only [↓reduceIte, Option.bind_some, Option.bind_none, f_X12_fits, H.1.t0, m_isT_bad H w h1]
  have h0 := te_pos w ht
  have hN := nft_le h t
  have l1 : (nI (nft h t)).toInt64 = lN (nft h t) := nI_l (by omega)
  refine ⟨1, R, T, rat (tel F (ofn (fst (fit h t) (2 ^ h.n) 0))) (lN (nft h t / Nat.gcd (nft h t) 1)) (lN (1 / Nat.gcd (nft h t) 1)), h, K, hw, fun μ a H => ?_, fun μ c H => ?_⟩
  · obtain ⟨μ1, y1, y2, y3⟩ := x_look H w h0
    have H1 := H.scr y2
    have Ht : XI R T (tel F (ofn (fst (fit h t) (2 ^ h.n) 0))) h K (sI μ1 a 11 (ofn (fst (fit h t) (2 ^ h.n) 0))) a := H1.tell
    have hk : Lkd h (sI μ1 a 11 (ofn (fst (fit h t) (2 ^ h.n) 0))) a := y3.mv (fun j => mI_ne (by omega)) (fun j => mI_ne (by omega)) (fun j => mI_ne (by omega)) (mI_ne (by omega)) (mI_ne (by omega))
    have ec : f_X7_countFits (sI μ1 a 11 (ofn (fst (fit h t) (2 ^ h.n) 0))) (a + 21) (nI t) 0 = some (nI (nft h t)) := x_cf0 Ht hk w h0 ht
    have er : f_X11_tellRatio (sI μ1 a 11 (ofn (fst (fit h t) (2 ^ h.n) 0))) a (lN (nft h t)) 1 = some (1, xrat (sI μ1 a 11 (ofn (fst (fit h t) (2 ^ h.n) 0))) a (nft h t) 1) := x_rat Ht.1 (show nft h t < 2 ^ 40 by omega) (show 1 < 2 ^ 40 by decide) (by decide)
    refine XO.scr y2 ⟨xrat (sI μ1 a 11 (ofn (fst (fit h t) (2 ^ h.n) 0))) a (nft h t) 1, ?_, Ht.rat, fun b _ _ => (((Sm.rf μ1 b).sI (by omega)).sL (by omega)).sL (by omega), Nat.le_refl _⟩
    show f_X11_fits μ a (nI t) = _
    simp (config := { decide := true }) only [↓reduceIte, Option.bind_some, Option.bind_none, f_X11_fits, H.1.t0, gP_of H.1.t0 H.1.p0_0, gP_of H.1.t0 H.1.p0_1, gP_of H.1.t0 H.1.p0_2, gP_of H.1.t0 H.1.p0_3, gP_of H.1.t0 H.1.p0_4, gP_of H.1.t0 H.1.p0_5, gP_of H.1.t0 H.1.p0_6, gP_of H.1.t0 H.1.p0_7, gP_of H.1.t0 H.1.p0_8, gP_of H.1.t0 H.1.p0_9, x_hasT_ok H w ht, y1, p1x H1, x_ff H1 y3 w h0 ht, pI_of H1.1.t0, p1x Ht, ec, l1, er]
  · obtain ⟨μ1, y1, y2, y3⟩ := m_lay H w h0 ht
    have H1 := H.scr y2
    obtain ⟨f1, f2, -⟩ := y3
    rw [ffN_fst] at f2
    have er : f_X12_fraction μ1 c (lN (nft h t)) 1 = some (1, mrat μ1 c (nft h t) 1) := m_rat H1.1 (show nft h t < 2 ^ 40 by omega) (show 1 < 2 ^ 40 by decide) (by decide)
    have Hr : MI R T _ h K (mrat μ1 c (nft h t) 1) c := H1.rat
    have g42 : gI μ1 c 13 42 = some (nI (nft h t)) := gI_e H1.1.t0 f1
    have g43 : gI (mrat μ1 c (nft h t) 1) c 13 43 = some (ofn (fst (fit h t) (2 ^ h.n) 0)) := gI_e Hr.1.t0 f2
    refine MO.scr y2 ⟨sI (mrat μ1 c (nft h t) 1) c 2 (ofn (fst (fit h t) (2 ^ h.n) 0)), ?_, Hr.tell, fun b _ => (((Sm.rf μ1 b).sL (by omega)).sL (by omega)).sI (by omega), Nat.le_refl _⟩
    show f_X12_fits μ c (nI t) = _
    simp (config := { decide := true }) only [↓reduceIte, Option.bind_some, Option.bind_none, f_X12_fits, H.1.t0, m_isT_ok H w ht, y1, g42, l1, er, g43, m_tell Hr.1]
theorem PSI_sure : PS_sure INV := by
  intro μ a1 a2 q1 hI
  refine both_of (fx := fun μ a => f_X11_sure μ a q1) (fm := fun μ c => f_X12_sure μ c q1) ?_ μ a1 a2 hI
  intro R T F h K hw
  have w := hw.2.2.1
  have hn6 := w.1
  have hp := bt_p6 hn6
  have hp0 := Nat.two_pow_pos h.n
  have t2 := w.te_lt
  rcases ix2 q1 h.te (by omega) with h1 | ⟨t, ht, rfl⟩
  · refine ⟨-1, R, T, F, h, K, hw, fun μ a H => XO.same H ?_, fun μ c H => MO.same H ?_⟩
    · simp (config := { decide := true }) only [↓reduceIte, Option.bind_some, Option.bind_none, f_X11_sure, f_X11_refuseUnfit, H.1.t0, gP_of H.1.t0 H.1.p0_0, gP_of H.1.t0 H.1.p0_1, gP_of H.1.t0 H.1.p0_2, gP_of H.1.t0 H.1.p0_3, gP_of H.1.t0 H.1.p0_4, gP_of H.1.t0 H.1.p0_5, gP_of H.1.t0 H.1.p0_6, gP_of H.1.t0 H.1.p0_7, gP_of H.1.t0 H.1.p0_8, gP_of H.1.t0 H.1.p0_9, x_hasT_bad H h1]
    · simp (config := { decide := true }) only [↓reduceIte, Option.bind_some, Option.bind_none, f_X12_sure, H.1.t0, m_isT_bad H w h1]
  have h0 := te_pos w ht
  have hN := nft_le h t
  by_cases hz : nft h t = 0
  · refine ⟨-3, R, T, fnd F 4, h, K, hw, fun μ a H => ?_, fun μ c H => ?_⟩
    · obtain ⟨μ1, y1, y2, y3⟩ := x_look H w h0
      have H1 := H.scr y2
      have ec : f_X7_countFits μ1 (a + 21) (nI t) 0 = some 0 := (x_cf0 H1 y3 w h0 ht).trans (congrArg (fun x => some (nI x)) hz)
      refine XO.scr y2 (XO.find H1 (by decide) ?_)
      simp (config := { decide := true }) only [↓reduceIte, Option.bind_some, Option.bind_none, f_X11_sure, f_X11_refuseUnfit, H.1.t0, gP_of H.1.t0 H.1.p0_0, gP_of H.1.t0 H.1.p0_1, gP_of H.1.t0 H.1.p0_2, gP_of H.1.t0 H.1.p0_3, gP_of H.1.t0 H.1.p0_4, gP_of H.1.t0 H.1.p0_5, gP_of H.1.t0 H.1.p0_6, gP_of H.1.t0 H.1.p0_7, gP_of H.1.t0 H.1.p0_8, gP_of H.1.t0 H.1.p0_9, x_hasT_ok H w ht, y1, p1x H1, ec, xf4 H1.1]
    · obtain ⟨μ1, y1, y2, y3⟩ := m_lay H w h0 ht
      have H1 := H.scr y2
      have g42 : gI μ1 c 13 42 = some 0 := gI_e H1.1.t0 (y3.1.trans (congrArg nI hz))
      refine MO.scr y2 (MO.find H1 (by decide) ?_)
      simp (config := { decide := true }) only [↓reduceIte, Option.bind_some, Option.bind_none, f_X12_sure, H.1.t0, m_isT_ok H w ht, y1, g42, mf4 H1.1]
  · have hz' : ¬ nI (nft h t) = 0 := nI_ne0 (by omega) (by omega)
    have hz'' : ¬ nI (nft h t) ≤ 0 := (show ¬ nI (nft h t) ≤ nI 0 from nI_ge (by omega) (by omega))
    refine ⟨nI (sur h t), R, T, tel F (nI (nwh h t)), h, K, hw, fun μ a H => ?_, fun μ c H => ?_⟩
    · obtain ⟨μ1, y1, y2, y3⟩ := x_look H w h0
      have H1 := H.scr y2
      have ec : f_X7_countFits μ1 (a + 21) (nI t) 0 = some (nI (nft h t)) := x_cf0 H1 y3 w h0 ht
      have el : lp_X11_sure_31 BIG a (nI t) (nI (nft h t)) 0 0 0 μ1 = some (nI (sur h t), nI (nwh h t)) := x_sure_l H1 y3 w h0 ht BIG 0 (by omega) (by unfold BIG; omega)
      refine XO.scr y2 (XO.tell H1 ?_)
      simp (config := { decide := true }) only [↓reduceIte, Option.bind_some, Option.bind_none, f_X11_sure, f_X11_refuseUnfit, H.1.t0, gP_of H.1.t0 H.1.p0_0, gP_of H.1.t0 H.1.p0_1, gP_of H.1.t0 H.1.p0_2, gP_of H.1.t0 H.1.p0_3, gP_of H.1.t0 H.1.p0_4, gP_of H.1.t0 H.1.p0_5, gP_of H.1.t0 H.1.p0_6, gP_of H.1.t0 H.1.p0_7, gP_of H.1.t0 H.1.p0_8, gP_of H.1.t0 H.1.p0_9, x_hasT_ok H w ht, y1, p1x H1, ec, hz'', el, pI_of H1.1.t0]
    · obtain ⟨μ1, y1, y2, y3⟩ := m_lay H w h0 ht
      have H1 := H.scr y2
      obtain ⟨f1, f2, f3, f4, -⟩ := y3
      have g42 : gI μ1 c 13 42 = some (nI (nft h t)) := gI_e H1.1.t0 f1
      have g44 : gI μ1 c 13 44 = some (nI (sur h t)) := gI_e H1.1.t0 (by rw [f3, sur_and])
      have g45 : gI μ1 c 13 45 = some (nI (orN h t (2 ^ h.n))) := gI_e H1.1.t0 f4
      have lo := Nat.lt_of_lt_of_le (orN_lt h t (2 ^ h.n) (Nat.le_refl _)) hp
      have en := bt_not h.n (by omega) _ lo
      rw [← nwh_or hn6] at en
      refine MO.scr y2 (MO.tell H1 ?_)
      simp (config := { decide := true }) only [↓reduceIte, Option.bind_some, Option.bind_none, f_X12_sure, H.1.t0, m_isT_ok H w ht, y1, g42, hz', m_hev H1, g44, g45, bt_one h.n (by omega), en, m_tell H1.1]
theorem m_ask_l {R T : GR} {F : GF} {h : GH} {K : GK} {μ : Mm} {c t z : Nat} (H : MI R T F h K μ c) (w : WH h) (hF : Fq h t (2 ^ h.n) μ c) (hz : z ≤ 1000000) (hz1 : 64 ≤ z) : ∀ (f g : Nat), g ≤ h.n → h.n < g + f → lp_X12_ask_36 f c (nI (lst (grt h t) z g).2) (nI (lst (grt h t) z g).1) (nI g) μ = some (nI (lst (grt h t) z h.n).2, nI (lst (grt h t) z h.n).1) := by
  have hn6 := w.1
  have hp := bt_p6 hn6
  have hp0 := Nat.two_pow_pos h.n
  have hN := nft_le h t
  obtain ⟨f1, f2, f3, f4, f5⟩ := hF
  have g42 : gI μ c 13 42 = some (nI (nft h t)) := gI_e H.1.t0 f1
  intro f
  induction f with
  | zero => intro g q1 q2; omega
  | succ f ih =>
    intro g q1 q2
    by_cases e : g = h.n
    · have e1 : nI h.n ≤ nI g := by rw [e]; exact Int32.le_refl _
      simp (config := { decide := true }) only [↓reduceIte, Option.bind_some, Option.bind_none, lp_X12_ask_36, m_hev H, e1]
      rw [e]
    · have e1 : ¬ nI h.n ≤ nI g := nI_ge (by omega) (by omega)
      have hg : g < h.n := by omega
      have ea : aI μ (c + 23) 21 (nI g) = some (nI (nfg h t g)) := by rw [aI_of H.1.t23 (by rw [H.1.n23]; omega) (by omega), f5 g hg]; rfl
      have hle := nfg_le h t g
      have hI := ih (g + 1) (by omega) (by omega)
      have es : nI (nft h t) - nI (nfg h t g) = nI (nft h t - nfg h t g) := pk_sub hle
      have eg : (if nI (nft h t - nfg h t g) ≤ nI (nfg h t g) then some (nI (nfg h t g)) else some (nI (nft h t - nfg h t g))) = some (nI (grt h t g)) := by
        unfold grt
        by_cases q : nfg h t g < nft h t - nfg h t g
        · rw [if_pos q, if_neg (nI_ge q (by omega))]
        · rw [if_neg q, if_pos (nI_le (by omega) (by omega))]
      have hgl := grt_le h t g
      have hll := (lst_lt (f := grt h t) (z := z) (B := 1000001) (by omega) g (fun x _ => by have := grt_le h t x; omega)).1
      rw [lst_s] at hI
      by_cases q : grt h t g < (lst (grt h t) z g).1
      · rw [if_pos q] at hI
        have c1 : ¬ nI (lst (grt h t) z g).1 ≤ nI (grt h t g) := nI_ge q (by omega)
        simp (config := { decide := true }) only [↓reduceIte, Option.bind_some, Option.bind_none, lp_X12_ask_36, m_hev H, e1, g42, H.1.t0, gP_of H.1.t0 H.1.p0_1, gP_of H.1.t0 H.1.p0_5, gP_of H.1.t0 H.1.p0_6, gP_of H.1.t0 H.1.p0_7, gP_of H.1.t0 H.1.p0_8, gP_of H.1.t0 H.1.p0_9, gP_of H.1.t0 H.1.p0_14, gP_of H.1.t0 H.1.p0_15, gP_of H.1.t0 H.1.p0_21, gP_of H.1.t0 H.1.p0_22, gP_of H.1.t0 H.1.p0_23, gP_of H.1.t0 H.1.p0_24, gP_of H.1.t0 H.1.p0_26, gP_of H.1.t0 H.1.p0_27, gP_of H.1.t0 H.1.p0_28, gP_of H.1.t0 H.1.p0_29, gP_of H.1.t0 H.1.p0_30, gP_of H.1.t0 H.1.p0_31, gP_of H.1.t0 H.1.p0_32, gP_of H.1.t0 H.1.p0_33, gP_of H.1.t0 H.1.p0_40, gP_of H.1.t0 H.1.p0_41, gP_of H.1.t0 H.1.p0_46, gP_of H.1.t0 H.1.p0_47, gP_of H.1.t0 H.1.p0_48, ea, es, eg, c1, nI_1]
        exact hI
      · rw [if_neg q] at hI
        have c1 : nI (lst (grt h t) z g).1 ≤ nI (grt h t g) := nI_le (by omega) (by omega)
        simp (config := { decide := true }) only [↓reduceIte, Option.bind_some, Option.bind_none, lp_X12_ask_36, m_hev H, e1, g42, H.1.t0, gP_of H.1.t0 H.1.p0_1, gP_of H.1.t0 H.1.p0_5, gP_of H.1.t0 H.1.p0_6, gP_of H.1.t0 H.1.p0_7, gP_of H.1.t0 H.1.p0_8, gP_of H.1.t0 H.1.p0_9, gP_of H.1.t0 H.1.p0_14, gP_of H.1.t0 H.1.p0_15, gP_of H.1.t0 H.1.p0_21, gP_of H.1.t0 H.1.p0_22, gP_of H.1.t0 H.1.p0_23, gP_of H.1.t0 H.1.p0_24, gP_of H.1.t0 H.1.p0_26, gP_of H.1.t0 H.1.p0_27, gP_of H.1.t0 H.1.p0_28, gP_of H.1.t0 H.1.p0_29, gP_of H.1.t0 H.1.p0_30, gP_of H.1.t0 H.1.p0_31, gP_of H.1.t0 H.1.p0_32, gP_of H.1.t0 H.1.p0_33, gP_of H.1.t0 H.1.p0_40, gP_of H.1.t0 H.1.p0_41, gP_of H.1.t0 H.1.p0_46, gP_of H.1.t0 H.1.p0_47, gP_of H.1.t0 H.1.p0_48, ea, es, eg, c1, nI_1]
        exact hI
theorem PSI_ask : PS_ask INV := by
  intro μ a1 a2 q1 hI
  refine both_of (fx := fun μ a => f_X11_ask μ a q1) (fm := fun μ c => f_X12_ask μ c q1) ?_ μ a1 a2 hI
  intro R T F h K hw
  have w := hw.2.2.1
  have hn6 := w.1
  have hp := bt_p6 hn6
  have hp0 := Nat.two_pow_pos h.n
  have t2 := w.te_lt
  rcases ix2 q1 h.te (by omega) with h1 | ⟨t, ht, rfl⟩
  · refine ⟨-1, R, T, F, h, K, hw, fun μ a H => XO.same H ?_, fun μ c H => MO.same H ?_⟩
    · simp (config := { decide := true }) only [↓reduceIte, Option.bind_some, Option.bind_none, f_X11_ask, f_X11_refuseUnfit, H.1.t0, gP_of H.1.t0 H.1.p0_0, gP_of H.1.t0 H.1.p0_1, gP_of H.1.t0 H.1.p0_2, gP_of H.1.t0 H.1.p0_3, gP_of H.1.t0 H.1.p0_4, gP_of H.1.t0 H.1.p0_5, gP_of H.1.t0 H.1.p0_6, gP_of H.1.t0 H.1.p0_7, gP_of H.1.t0 H.1.p0_8, gP_of H.1.t0 H.1.p0_9, x_hasT_bad H h1]
    · simp (config := { decide := true }) only [↓reduceIte, Option.bind_some, Option.bind_none, f_X12_ask, H.1.t0, m_isT_bad H w h1]
  have h0 := te_pos w ht
  have hN := nft_le h t
  by_cases hz : nft h t = 0
  · refine ⟨-3, R, T, fnd F 4, h, K, hw, fun μ a H => ?_, fun μ c H => ?_⟩
    · obtain ⟨μ1, y1, y2, y3⟩ := x_look H w h0
      have H1 := H.scr y2
      have ec : f_X7_countFits μ1 (a + 21) (nI t) 0 = some 0 := (x_cf0 H1 y3 w h0 ht).trans (congrArg (fun x => some (nI x)) hz)
      refine XO.scr y2 (XO.find H1 (by decide) ?_)
      simp (config := { decide := true }) only [↓reduceIte, Option.bind_some, Option.bind_none, f_X11_ask, f_X11_refuseUnfit, H.1.t0, gP_of H.1.t0 H.1.p0_0, gP_of H.1.t0 H.1.p0_1, gP_of H.1.t0 H.1.p0_2, gP_of H.1.t0 H.1.p0_3, gP_of H.1.t0 H.1.p0_4, gP_of H.1.t0 H.1.p0_5, gP_of H.1.t0 H.1.p0_6, gP_of H.1.t0 H.1.p0_7, gP_of H.1.t0 H.1.p0_8, gP_of H.1.t0 H.1.p0_9, x_hasT_ok H w ht, y1, p1x H1, ec, xf4 H1.1]
    · obtain ⟨μ1, y1, y2, y3⟩ := m_lay H w h0 ht
      have H1 := H.scr y2
      have g42 : gI μ1 c 13 42 = some 0 := gI_e H1.1.t0 (y3.1.trans (congrArg nI hz))
      refine MO.scr y2 (MO.find H1 (by decide) ?_)
      simp (config := { decide := true }) only [↓reduceIte, Option.bind_some, Option.bind_none, f_X12_ask, H.1.t0, m_isT_ok H w ht, y1, g42, mf4 H1.1]
  · have hz' : ¬ nI (nft h t) = 0 := nI_ne0 (by omega) (by omega)
    have hz'' : ¬ nI (nft h t) ≤ 0 := (show ¬ nI (nft h t) ≤ nI 0 from nI_ge (by omega) (by omega))
    have hgl := grt_le h t 0
    have hsame : lst (grt h t) (nft h t + 1) h.n = lst (grt h t) 1000000 h.n := by
      obtain ⟨m, hm⟩ : ∃ m, h.n = m + 1 := ⟨h.n - 1, by omega⟩
      rw [hm]
      exact lst_same (by omega) (by omega) m
    refine ⟨nI (lst (grt h t) (nft h t + 1) h.n).2, R, T, tel F (nI (lst (grt h t) (nft h t + 1) h.n).1), h, K, hw, fun μ a H => ?_, fun μ c H => ?_⟩
    · obtain ⟨μ1, y1, y2, y3⟩ := x_look H w h0
      have H1 := H.scr y2
      have ec : f_X7_countFits μ1 (a + 21) (nI t) 0 = some (nI (nft h t)) := x_cf0 H1 y3 w h0 ht
      have el : lp_X11_ask_33 BIG a (nI t) (nI (nft h t)) 0 (nI (nft h t + 1)) 0 μ1 = some (nI (lst (grt h t) (nft h t + 1) h.n).2, nI (lst (grt h t) (nft h t + 1) h.n).1) := x_ask_l (z := nft h t + 1) H1 y3 w h0 ht (by omega) BIG 0 (by omega) (by unfold BIG; omega)
      refine XO.scr y2 (XO.tell H1 ?_)
      simp (config := { decide := true }) only [↓reduceIte, Option.bind_some, Option.bind_none, f_X11_ask, f_X11_refuseUnfit, H.1.t0, gP_of H.1.t0 H.1.p0_0, gP_of H.1.t0 H.1.p0_1, gP_of H.1.t0 H.1.p0_2, gP_of H.1.t0 H.1.p0_3, gP_of H.1.t0 H.1.p0_4, gP_of H.1.t0 H.1.p0_5, gP_of H.1.t0 H.1.p0_6, gP_of H.1.t0 H.1.p0_7, gP_of H.1.t0 H.1.p0_8, gP_of H.1.t0 H.1.p0_9, x_hasT_ok H w ht, y1, p1x H1, ec, hz'', nI_1, el, pI_of H1.1.t0]
    · obtain ⟨μ1, y1, y2, y3⟩ := m_lay H w h0 ht
      have H1 := H.scr y2
      have g42 : gI μ1 c 13 42 = some (nI (nft h t)) := gI_e H1.1.t0 y3.1
      have el : lp_X12_ask_36 BIG c 0 1000000 0 μ1 = some (nI (lst (grt h t) 1000000 h.n).2, nI (lst (grt h t) 1000000 h.n).1) := m_ask_l (z := 1000000) H1 w y3 (by omega) (by omega) BIG 0 (by omega) (by unfold BIG; omega)
      rw [← hsame] at el
      refine MO.scr y2 (MO.tell H1 ?_)
      simp (config := { decide := true }) only [↓reduceIte, Option.bind_some, Option.bind_none, f_X12_ask, H.1.t0, m_isT_ok H w ht, y1, g42, hz', el, m_tell H1.1]
