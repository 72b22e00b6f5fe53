/-! ===== on ===== -/
theorem XS.fcong {n te rm gb wk a : Nat} {rs : Int64} {kd ft ft' : Nat → Nat} {q : Rst} {μ : Mm} (hS : XS n te rs rm kd ft gb q wk μ a) (h : ∀ g, g < n → ft g = ft' g) : XS n te rs rm kd ft' gb q wk μ a := by
  obtain ⟨g1, g2, g3, g4, g5, g6, g7, g8, g9, g10, k1, k2, k3⟩ := hS
  refine ⟨g1, g2, g3, g4, g5, g6, g7, g8, g9, g10, k1, k2, fun g hg => ?_⟩
  obtain ⟨u1', u2', u3, u4⟩ := k3 g hg
  exact ⟨u1', u2', by rw [← h g hg]; exact u3, u4⟩
theorem x_take_l {n te rm gb wk a b : Nat} {rs : Int64} {kd v : Nat → Nat} {q : Rst} (n6 : n ≤ 6) (hkd : ∀ g, g < n → kd g < 6) (hba : b < a + 59) (hba3 : b ≠ a + 3) : ∀ (f k : Nat) (ft : Nat → Nat) (μ : Mm), k ≤ n → n < k + f → LX μ a → tg μ b = 21 → ln μ b = 6 → XS n te rs rm kd ft gb q wk μ a → (∀ g, g < k → ft g = v g) → (∀ g, g < n → mI μ b g = nI (v g)) → ∃ μ', lp_X3_takeFeet_2 f (a + 3) b (nI k) μ = some μ' ∧ LX μ' a ∧ XS n te rs rm kd v gb q wk μ' a ∧ (∀ b, (b < gb ∨ gb + n ≤ b) → Sm μ μ' b) ∧ hz μ' = hz μ := by
  intro f
  induction f with
  | zero => intro k ft μ q1 q2; omega
  | succ f ih =>
    intro k ft μ q1 q2 hL hb1 hb2 hS hv hr
    have kgb := hS.2.2.2.2.2.2.2.2.2.2.1
    have es : gI μ (a + 3) 4 2 = some (nI n) := gI_e hL.t3 hS.1
    by_cases hk : k = n
    · have e : nI n ≤ nI k := by rw [hk]; exact Int32.le_refl _
      refine ⟨μ, ?_, hL, hS.fcong (fun g hg => hv g (by omega)), fun b _ => Sm.rf μ b, rfl⟩
      simp (config := { decide := true }) only [↓reduceIte, Option.bind_some, Option.bind_none, lp_X3_takeFeet_2, es, e]
    · have e : ¬ nI n ≤ nI k := nI_ge (by omega) (by omega)
      obtain ⟨p1, p2, p3, p4⟩ := hS.2.2.2.2.2.2.2.2.2.2.2.2 k (by omega)
      have hgt := ktg_gt (hkd k (by omega))
      rw [← p2] at hgt
      have ez : zI μ b = some (nI 6) := by rw [zI_of (by rw [hb1]; decide), hb2]
      have e6 : ¬ nI 6 ≤ nI k := nI_ge (by omega) (by decide)
      have eP : aP μ (a + 4) 24 (nI k) = some (gb + k) := aP_of hL.t4 (by rw [hL.n4]; omega) (by omega) p1
      have ea : aI μ b 21 (nI k) = some (nI (v k)) := by rw [aI_of hb1 (by omega) (by omega), hr k (by omega)]
      have hS1 := hS.ftset (g := k) (f := v k) (by omega)
      obtain ⟨μ', e1, e2, e3, e4, e5⟩ := ih (k + 1) _ (sI μ (gb + k) 0 (nI (v k))) (by omega) (by omega) hL hb1 hb2 hS1 (fun g hg => by
        by_cases z : g = k
        · rw [z]; exact if_pos rfl
        · exact (if_neg z).trans (hv g (by omega))) (fun g hg => (mI_ne (by omega)).trans (hr g hg))
      refine ⟨μ', ?_, e2, e3, fun b hb => ((Sm.rf μ b).sI (by omega)).tr (e4 b hb), e5⟩
      simp (config := { decide := true }) only [↓reduceIte, Option.bind_some, Option.bind_none, lp_X3_takeFeet_2, es, e, hb1, ez, e6, gP_of hL.t3 hL.p3_0, eP, ea, pG, hgt, nI_1, e1]
/-- the model's heap with a kept state taken up again -/
def mo1 (μ : Mm) (c len : Nat) : Mm := sI μ c 25 (nI len)
def mo2 (μ : Mm) (c k len : Nat) : Mm := sR (mo1 μ c len) (c + 8) (filf (mI μ (c + 8)) 6 (fun x => mI μ (c + 16) (6 * k + x)))
def mo3 (μ : Mm) (c k len : Nat) : Mm := sR (mo2 μ c k len) (c + 11) (filf (mI μ (c + 11)) 11 (fun x => mI μ (c + 17) (11 * k + x)))
def mo4 (μ : Mm) (c k len : Nat) : Mm := sR (mo3 μ c k len) (c + 13) (filf (mI μ (c + 13)) (11 * len) (fun x => mI μ (c + 18) (660 * k + x)))
theorem mo1_ne {μ : Mm} {c len b : Nat} (h1 : b ≠ c) : mI (mo1 μ c len) b = mI μ b := funext fun j => by unfold mo1; rw [mI_ne h1]
theorem mo2_ne {μ : Mm} {c k len b : Nat} (h1 : b ≠ c) (h2 : b ≠ c + 8) : mI (mo2 μ c k len) b = mI μ b := funext fun j => by unfold mo2; rw [mR_ne h2, mo1_ne h1]
theorem mo3_ne {μ : Mm} {c k len b : Nat} (h1 : b ≠ c) (h2 : b ≠ c + 8) (h3 : b ≠ c + 11) : mI (mo3 μ c k len) b = mI μ b := funext fun j => by unfold mo3; rw [mR_ne h3, mo2_ne h1 h2]
theorem mo4_sm {μ : Mm} {c k len b : Nat} (h1 : b ≠ c) (h2 : b ≠ c + 8) (h3 : b ≠ c + 11) (h4 : b ≠ c + 13) : Sm μ (mo4 μ c k len) b := by
  unfold mo4 mo3 mo2 mo1
  exact ((((Sm.rf μ b).sI h1).sR h2).sR h3).sR h4
theorem mo4_c {μ : Mm} {c k len j : Nat} : mI (mo4 μ c k len) c j = if j = 25 then nI len else mI μ c j := by
  unfold mo4 mo3 mo2 mo1
  rw [mR_ne (by omega), mR_ne (by omega), mR_ne (by omega)]
  by_cases e : j = 25
  · subst e; rw [mI_eq, if_pos rfl]
  · rw [mI_nk e, if_neg e]
theorem m_on {μ : Mm} {c k len : Nat} (hL : LM μ c) (hk : k < 3) (h14 : mI μ (c + 14) k = 1) (h15 : mI μ (c + 15) k = nI len) (hl : len ≤ 60) : f_X12_on μ c (nI k) = some (nI len, mo4 μ c k len) := by
  have ein : f_X12_in μ (nI k) 0 2 = some 1 := m_in_ok (N := 3) hk (by decide)
  have hL1 : LM (mo1 μ c len) c := hL
  have hL2 : LM (mo2 μ c k len) c := hL
  have hL3 : LM (mo3 μ c k len) c := hL
  have hL4 : LM (mo4 μ c k len) c := hL
  have a14 : aI μ (c + 14) 23 (nI k) = some 1 := by rw [aI_of hL.t14 (by rw [hL.n14]; exact hk) (by omega), h14]
  have a15 : aI μ (c + 15) 21 (nI k) = some (nI len) := by rw [aI_of hL.t15 (by rw [hL.n15]; exact hk) (by omega), h15]
  have e1 : pI μ c 13 25 (nI len) = some (mo1 μ c len) := pI_of hL.t0
  have l1 := m_on_38 (g := mI μ (c + 8)) hL1 hk BIG 0 (by decide) (by unfold BIG; omega)
  rw [filf_0, sR_id (mo1_ne (by omega)).symm, mo1_ne (b := c + 16) (by omega)] at l1
  have l1' : lp_X12_on_38 BIG c (nI k) 0 (mo1 μ c len) = some (mo2 μ c k len) := l1
  have l2 := m_on_69 (g := mI μ (c + 11)) hL2 hk BIG 0 (by decide) (by unfold BIG; omega)
  rw [filf_0, sR_id (mo2_ne (by omega) (by omega)).symm, mo2_ne (b := c + 17) (by omega) (by omega)] at l2
  have l2' : lp_X12_on_69 BIG c (nI k) 0 (mo2 μ c k len) = some (mo3 μ c k len) := l2
  have c25 : mI (mo3 μ c k len) c 25 = nI len := by
    unfold mo3 mo2 mo1
    rw [mR_ne (by omega), mR_ne (by omega), mI_eq]
  have l3 := m_on_100 (g := mI μ (c + 13)) c25 hl hL3 hk BIG 0 (by omega) (by unfold BIG; omega)
  rw [filf_0, sR_id (mo3_ne (by omega) (by omega) (by omega)).symm, mo3_ne (b := c + 18) (by omega) (by omega) (by omega)] at l3
  have l3' : lp_X12_on_100 BIG c (nI k) 0 (mo3 μ c k len) = some (mo4 μ c k len) := l3
  have d25 : gI (mo4 μ c k len) c 13 25 = some (nI len) := gI_e hL4.t0 (by rw [mo4_c, if_pos rfl])
  simp (config := { decide := true }) only [↓reduceIte, Option.bind_some, Option.bind_none, f_X12_on, hL.t0, ein, gP_of hL.t0 hL.p0_27, a14, gP_of hL.t0 hL.p0_28, a15, e1, l1', l2', l3', d25]
theorem MI.on {R T : GR} {F : GF} {h : GH} {K : GK} {μ : Mm} {c k : Nat} {v : (Nat → Nat) × List Nat} (H : MI R T F h K μ c) (w : WH h) (wk : WK h K) (hk : k < 3) (hv : K k = some v) : MI R T F (h.wft v.1 v.2) K (mo4 μ c k v.2.length) c := by
  have hn6 := w.1
  obtain ⟨w1, w2, w3⟩ := wk k hk v hv
  have hvl := w2.1
  obtain ⟨y1, y2⟩ := H.2.2.2.2.2 k hk
  obtain ⟨y3, y4, y5, y6⟩ := y2 v hv
  obtain ⟨g1, g2, g3, g4, g5, g6, g7, g8⟩ := H.2.2.2.2.1
  have e : ∀ b, b ≠ c → b ≠ c + 8 → b ≠ c + 11 → b ≠ c + 13 → Sm μ (mo4 μ c k v.2.length) b := fun b z1 z2 z3 z4 => mo4_sm z1 z2 z3 z4
  have ec : ∀ j, j ≠ 25 → mI (mo4 μ c k v.2.length) c j = mI μ c j := fun j hj => by rw [mo4_c, if_neg hj]
  have e8 : ∀ j, j < 6 → mI (mo4 μ c k v.2.length) (c + 8) j = mI μ (c + 16) (6 * k + j) := fun j hj => by
    unfold mo4 mo3 mo2
    rw [mR_ne (by omega), mR_ne (by omega), mR_eq, filf_in hj]
  have e11 : ∀ j, j < 11 → mI (mo4 μ c k v.2.length) (c + 11) j = mI μ (c + 17) (11 * k + j) := fun j hj => by
    unfold mo4 mo3
    rw [mR_ne (by omega), mR_eq, filf_in hj]
  have e13 : ∀ j, j < 11 * v.2.length → mI (mo4 μ c k v.2.length) (c + 13) j = mI μ (c + 18) (660 * k + j) := fun j hj => by
    unfold mo4
    rw [mR_eq, filf_in hj]
  refine H.hupd (h' := h.wft v.1 v.2) (fun b z1 z2 => e b (by omega) (by omega) (by omega) (by omega)) (fun b z1 z2 => e b (by omega) (by omega) (by omega) (by omega)) (fun j hj => ec j (by omega)) (fun j hj => rfl) H.1 ⟨(ec 10 (by decide)).trans g1, (ec 11 (by decide)).trans g2, (ec 12 (by decide)).trans g3, by rw [mo4_c, if_pos rfl]; rfl, g5, fun g hg => ?_, ?_, fun i hi => ?_⟩ ⟨rfl, rfl, rfl, rfl⟩
  · have hg' : g < h.n := hg
    rw [(e (c + 7) (by omega) (by omega) (by omega) (by omega)).2.2.1, e8 g (by omega)]
    exact ⟨(g6 g hg').1, y4 g hg'⟩
  · exact nat11_shift y5 fun x hx => by rw [Nat.zero_add]; exact e11 x hx
  · have hi' : i < v.2.length := hi
    exact nat11_shift (y6 i hi') fun x hx => by rw [e13 _ (by omega), Nat.add_assoc]
theorem PSI_on : PS_on INV := by
  intro μ a1 a2 q1 hI
  refine both_of (fx := fun μ a => f_X11_on μ a q1) (fm := fun μ c => f_X12_on μ c q1) ?_ μ a1 a2 hI
  intro R T F h K hw
  have w := hw.2.2.1
  have hl := w.2.2.2.1
  have hn6 := w.1
  rcases ix2 q1 3 (by decide) with h1 | ⟨k, hk, rfl⟩
  · refine ⟨-1, R, T, F, h, K, hw, fun μ a H => XO.same H ?_, fun μ c H => MO.same H ?_⟩
    · simp (config := { decide := true }) only [↓reduceIte, Option.bind_some, Option.bind_none, f_X11_on, H.1.t0, gP_of H.1.t0 H.1.p0_0, gP_of H.1.t0 H.1.p0_1, gP_of H.1.t0 H.1.p0_2, gP_of H.1.t0 H.1.p0_3, gP_of H.1.t0 H.1.p0_4, gP_of H.1.t0 H.1.p0_5, gP_of H.1.t0 H.1.p0_6, gP_of H.1.t0 H.1.p0_7, gP_of H.1.t0 H.1.p0_8, gP_of H.1.t0 H.1.p0_9, H.1.fk.refuse_bad H.1 h1]
    · have ein : f_X12_in μ q1 0 2 = some 0 := m_in_bad (N := 3) h1 (by decide) (by decide)
      simp (config := { decide := true }) only [↓reduceIte, Option.bind_some, Option.bind_none, f_X12_on, H.1.t0, gP_of H.1.t0 H.1.p0_1, gP_of H.1.t0 H.1.p0_5, gP_of H.1.t0 H.1.p0_6, gP_of H.1.t0 H.1.p0_7, gP_of H.1.t0 H.1.p0_8, gP_of H.1.t0 H.1.p0_9, gP_of H.1.t0 H.1.p0_14, gP_of H.1.t0 H.1.p0_15, gP_of H.1.t0 H.1.p0_21, gP_of H.1.t0 H.1.p0_22, gP_of H.1.t0 H.1.p0_23, gP_of H.1.t0 H.1.p0_24, gP_of H.1.t0 H.1.p0_26, gP_of H.1.t0 H.1.p0_27, gP_of H.1.t0 H.1.p0_28, gP_of H.1.t0 H.1.p0_29, gP_of H.1.t0 H.1.p0_30, gP_of H.1.t0 H.1.p0_31, gP_of H.1.t0 H.1.p0_32, gP_of H.1.t0 H.1.p0_33, gP_of H.1.t0 H.1.p0_40, gP_of H.1.t0 H.1.p0_41, gP_of H.1.t0 H.1.p0_46, gP_of H.1.t0 H.1.p0_47, gP_of H.1.t0 H.1.p0_48, ein]
  cases hv : K k with
  | none =>
    refine ⟨-3, R, T, fnd F 1, h, K, hw, fun μ a H => XO.find H (by decide) ?_, fun μ c H => MO.find H (by decide) ?_⟩
    · have hs : mI μ (a + 53 + 2 * k) 1 = -1 := by rw [(H.2.2.2.2.2.1 k hk).1, hv]; rfl
      simp (config := { decide := true }) only [↓reduceIte, Option.bind_some, Option.bind_none, f_X11_on, H.1.t0, gP_of H.1.t0 H.1.p0_0, gP_of H.1.t0 H.1.p0_1, gP_of H.1.t0 H.1.p0_2, gP_of H.1.t0 H.1.p0_3, gP_of H.1.t0 H.1.p0_4, gP_of H.1.t0 H.1.p0_5, gP_of H.1.t0 H.1.p0_6, gP_of H.1.t0 H.1.p0_7, gP_of H.1.t0 H.1.p0_8, gP_of H.1.t0 H.1.p0_9, H.1.fk.refuse_no H.1 hk hs]
    · have ein : f_X12_in μ (nI k) 0 2 = some 1 := m_in_ok (N := 3) hk (by decide)
      have e14 : mI μ (c + 14) k = 0 := by rw [(H.2.2.2.2.2 k hk).1, if_pos hv]
      have a14 : aI μ (c + 14) 23 (nI k) = some 0 := by rw [aI_of H.1.t14 (by rw [H.1.n14]; exact hk) (by omega), e14]
      simp (config := { decide := true }) only [↓reduceIte, Option.bind_some, Option.bind_none, f_X12_on, H.1.t0, gP_of H.1.t0 H.1.p0_1, gP_of H.1.t0 H.1.p0_5, gP_of H.1.t0 H.1.p0_6, gP_of H.1.t0 H.1.p0_7, gP_of H.1.t0 H.1.p0_8, gP_of H.1.t0 H.1.p0_9, gP_of H.1.t0 H.1.p0_14, gP_of H.1.t0 H.1.p0_15, gP_of H.1.t0 H.1.p0_21, gP_of H.1.t0 H.1.p0_22, gP_of H.1.t0 H.1.p0_23, gP_of H.1.t0 H.1.p0_24, gP_of H.1.t0 H.1.p0_26, gP_of H.1.t0 H.1.p0_27, gP_of H.1.t0 H.1.p0_28, gP_of H.1.t0 H.1.p0_29, gP_of H.1.t0 H.1.p0_30, gP_of H.1.t0 H.1.p0_31, gP_of H.1.t0 H.1.p0_32, gP_of H.1.t0 H.1.p0_33, gP_of H.1.t0 H.1.p0_40, gP_of H.1.t0 H.1.p0_41, gP_of H.1.t0 H.1.p0_46, gP_of H.1.t0 H.1.p0_47, gP_of H.1.t0 H.1.p0_48, ein, a14, mf1 H.1]
  | some v =>
    obtain ⟨w1, w2, w3⟩ := hw.2.2.2 k hk v hv
    have hvl := w2.1
    have h0 : ¬ h.n = 0 := by omega
    refine ⟨nI v.2.length, R, T, F, h.wft v.1 v.2, K, ⟨hw.1, hw.2.1, w.wft h0 w2 w3, hw.2.2.2⟩, fun μ a H => ?_, fun μ c H => ⟨mo4 μ c k v.2.length, ?_, MI.on H w hw.2.2.2 hk hv, fun b hb => mo4_sm (by omega) (by omega) (by omega) (by omega), Nat.le_refl _⟩⟩
    · obtain ⟨gb, hS, hP⟩ := (XH_iff h μ a).mp H.2.2.2.2.1
      have kgb := hS.2.2.2.2.2.2.2.2.2.2.1
      obtain ⟨k1, k2, k3, k4, k5, k6, k7, k8⟩ := H.1.kept hk
      obtain ⟨y1, y2⟩ := H.2.2.2.2.2.1 k hk
      obtain ⟨y3, y4⟩ := y2 v hv
      have hs : mI μ (a + 53 + 2 * k) 1 = nI v.2.length := by rw [y1, hv]; rfl
      obtain ⟨μ1, t1, t2, t3, t4, t5⟩ := x_take_l (b := a + 15 + k) (v := v.1) hn6 (fun g hg => (w.2.2.1 g hg).1) (by omega) (by omega) BIG 0 h.ft μ (by omega) (by unfold BIG; omega) H.1 k7 k8 hS (fun g hg => by omega) y4
      have t1' : lp_X3_takeFeet_2 BIG (a + 3) (a + 15 + k) 0 μ = some μ1 := t1
      obtain ⟨l1, l2, l3, l4, l5, l6, l7, l8⟩ := t2.kept hk
      have s52 := t4 (a + 53 + 2 * k) (by omega)
      have s53 := t4 (a + 54 + 2 * k) (by omega)
      have t6 := s_takeFrom (μ := μ1) (s := a + 5) (p := a + 53 + 2 * k) (n := v.2.length) t2.t5 t2.p5_0 t2.t6 t2.n6 l2 l3 l4 l5 hvl ((s52.2.2.1 1).trans hs) (by omega) (by omega) (by omega)
      have hS2 : XS h.n h.te h.rs h.rm h.kd v.1 gb h.q (wks h.sp) (sR (sI μ1 (a + 5) 1 (nI v.2.length)) (a + 6) (filf (mI μ1 (a + 6)) v.2.length (mI μ1 (a + 54 + 2 * k)))) a := t3.mv (((Sm.rf μ1 _).sI (by omega)).sR (by omega)) (((Sm.rf μ1 _).sI (by omega)).sR (by omega)) (fun b z1 z2 => ((Sm.rf μ1 _).sI (by omega)).sR (by omega)) (Nat.le_refl _)
      have hP2 : XP v.2 (sR (sI μ1 (a + 5) 1 (nI v.2.length)) (a + 6) (filf (mI μ1 (a + 6)) v.2.length (mI μ1 (a + 54 + 2 * k)))) a := ⟨by rw [mR_ne (by omega), mI_eq], fun i hi => by rw [mR_eq, filf_in hi, s53.2.2.1]; exact y3 i hi⟩
      have hL2 : LX (sR (sI μ1 (a + 5) 1 (nI v.2.length)) (a + 6) (filf (mI μ1 (a + 6)) v.2.length (mI μ1 (a + 54 + 2 * k)))) a := t2
      have hw' : Wst h.n h.te h.kd v.1 := ⟨hn6, w.te_ge h0, w.te_lt, fun g hg => ⟨(w.2.2.1 g hg).1, w3 g hg⟩⟩
      obtain ⟨μ3, r1, r2, r3, r4, r5⟩ := x_replay hL2 hS2 hP2 hw' w2
      have hP3 : XP v.2 μ3 a := hP2.mv (r4 _ (by omega) (by omega)) (r4 _ (by omega) (by omega))
      have hsm : ∀ b, b ≠ a + 3 → b ≠ a + 5 → b ≠ a + 6 → (b < gb ∨ gb + h.n ≤ b) → Sm μ μ3 b := fun b z1 z2 z3 z4 => ((t4 b z4).tr (((Sm.rf μ1 b).sI z2).sR z3)).tr (r4 b z1 z4)
      have hz3 : hz μ3 = hz μ := r5.trans t5
      refine ⟨μ3, ?_, H.hupd (h' := h.wft v.1 v.2) rfl (fun b z1 z2 z3 z4 => hsm b z1 z2 z3 (by omega)) r2 ((XH_iff _ _ _).mpr ⟨gb, r3, hP3⟩) (by rw [hz3]; exact Nat.le_refl _), fun b z1 z2 => hsm b (by omega) (by omega) (by omega) (by omega), by rw [hz3]; exact Nat.le_refl _⟩
      have eAP : aP μ (a + 14) 26 (nI k) = some (a + 15 + k) := aP_of H.1.t14 (by rw [H.1.n14]; exact hk) (by omega) k6
      show f_X11_on μ a (nI k) = _
      simp (config := { decide := true }) only [↓reduceIte, Option.bind_some, Option.bind_none, f_X11_on, H.1.t0, gP_of H.1.t0 H.1.p0_0, gP_of H.1.t0 H.1.p0_1, gP_of H.1.t0 H.1.p0_2, gP_of H.1.t0 H.1.p0_3, gP_of H.1.t0 H.1.p0_4, gP_of H.1.t0 H.1.p0_5, gP_of H.1.t0 H.1.p0_6, gP_of H.1.t0 H.1.p0_7, gP_of H.1.t0 H.1.p0_8, gP_of H.1.t0 H.1.p0_9, H.1.fk.refuse_ok H.1 hk hs (show v.2.length < 2 ^ 31 by omega), eAP, f_X3_takeFeet, H.1.t3, t1', gP_of t2.t0 t2.p0_2, gP_of t2.t0 t2.p0_3, gP_of t2.t3 t2.p3_1, t2.fk.get hk, t6, gP_of hL2.t0 hL2.p0_2, r1, gP_of r2.t0 r2.p0_2, gP_of r2.t3 r2.p3_1, gI_e r2.t5 hP3.1]
    · show f_X12_on μ c (nI k) = _
      refine m_on H.1 hk ?_ ((H.2.2.2.2.2 k hk).2 v hv).1 hvl
      rw [(H.2.2.2.2.2 k hk).1, if_neg (by rw [hv]; exact fun z => by cases z)]
