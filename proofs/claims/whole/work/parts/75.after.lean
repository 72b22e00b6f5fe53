/-! ===== after, pace ===== -/
theorem Bq.sml' {te m : Nat} {q : Rst} (h : Bq te m q) (hm : m ≤ 1000) (t1 : 12 ≤ te) : Sml te q := by
  obtain ⟨h1, h2, h3, h4, h5, h6⟩ := h
  have hp : (2 : Nat) ^ 20 = 1048576 := by decide
  refine ⟨?_, by omega, h3, by omega, by omega, fun g => ?_⟩
  · rcases h1 with z | z <;> omega
  · have := h6 g; omega
/-- the states on the way -/
def qs (te : Nat) (rs : Int64) (kd ft : Nat → Nat) (q : Rst) (gs : Nat → Nat) : Nat → Rst
  | 0 => q
  | i+1 => stp te rs kd ft (qs te rs kd ft q gs i) (gs i)
/-- a row's item as a guild -/
def gof (g : Nat → Int32) (i : Nat) : Nat := (g i).toNatClampNeg
theorem qs_fl {te : Nat} {rs : Int64} {kd ft : Nat → Nat} {q : Rst} {gs : Nat → Nat} : ∀ (m : Nat), (∀ i, i < m → gs i < 6) → (qs te rs kd ft q gs m).2.2.1 = q.2.2.1 := by
  intro m
  induction m with
  | zero => intro _; rfl
  | succ m ih =>
    intro h
    unfold qs stp
    rw [if_pos (h m (by omega))]
    exact ih fun i hi => h i (by omega)
theorem qs_bq {te n b : Nat} {rs : Int64} {kd ft : Nat → Nat} {q : Rst} {gs : Nat → Nat} (hq : Bq te b q) (hte : 12 ≤ te) (hft : ∀ g, g < n → ft g ≤ 9) (hn6 : n ≤ 6) : ∀ (m : Nat), (∀ i, i < m → gs i < n) → Bq te (b + m) (qs te rs kd ft q gs m) := by
  intro m
  induction m with
  | zero => intro _; exact hq
  | succ m ih =>
    intro h
    have := h m (by omega)
    exact Bq_stp (ih fun i hi => h i (by omega)) hte hft (show gs m < 9 by omega) (fun _ => this)
theorem qs_due {te : Nat} {rs : Int64} {kd ft : Nat → Nat} {q : Rst} {gs : Nat → Nat} {m : Nat} (h : gs m < 6) : (qs te rs kd ft q gs (m + 1)).1 = ((qs te rs kd ft q gs m).1 + trd kd ft (qs te rs kd ft q gs m).2.2.1 (gs m)) % te ∧ (qs te rs kd ft q gs (m + 1)).2.2.2.1 = (qs te rs kd ft q gs m).2.2.2.1 + b1 (isr rs (qs te rs kd ft q gs (m + 1)).1) := by
  have e : qs te rs kd ft q gs (m + 1) = wlk te rs (trd kd ft (qs te rs kd ft q gs m).2.2.1 (gs m)) (gs m) (qs te rs kd ft q gs m) := stp_wlk h
  rw [e]
  exact ⟨rfl, rfl⟩
theorem qs_due_le {te : Nat} {rs : Int64} {kd ft : Nat → Nat} {q : Rst} {gs : Nat → Nat} : ∀ (m : Nat), (∀ i, i < m → gs i < 6) → q.2.2.2.1 ≤ (qs te rs kd ft q gs m).2.2.2.1 := by
  intro m
  induction m with
  | zero => intro _; exact Nat.le_refl _
  | succ m ih =>
    intro h
    rw [(qs_due (h m (by omega))).2]
    exact Nat.le_trans (ih fun i hi => h i (by omega)) (Nat.le_add_right _ _)
/-- names guilds alone -/
def Ng (n m : Nat) (g : Nat → Int32) : Prop := ∀ i, i < m → ∃ x, x < n ∧ g i = nI x
theorem Ng.gf {n m : Nat} {g : Nat → Int32} (h : Ng n m g) (hn : n ≤ 6) {i : Nat} (hi : i < m) : gof g i < n ∧ g i = nI (gof g i) := by
  obtain ⟨x, hx, e⟩ := h i hi
  unfold gof
  rw [e, nI_clamp (by omega)]
  exact ⟨hx, rfl⟩
theorem x_names_l {R T : GR} {F : GF} {h : GH} {K : GK} {μ : Mm} {a r m : Nat} (H : XI R T F h K μ a) (w : WH h) (hr : r < 6) (hm : R.1 r = some m) (hm4 : m ≤ 40) : ∀ (f k : Nat), k ≤ m → m < k + f → (∀ i, i < k → ∃ x, x < h.n ∧ R.2 r i = nI x) → ∃ b, lp_X11_namesGuilds_2 f a (a + 33 + 2 * r) (nI k) μ = some b ∧ (b = 1 ∧ Ng h.n m (R.2 r) ∨ b = 0 ∧ ¬ Ng h.n m (R.2 r)) := by
  obtain ⟨k1, k2, k3, k4, k5⟩ := H.1.row hr
  have hs : mI μ (a + 33 + 2 * r) 1 = nI m := (H.2.1 r hr).1.trans (by rw [hm]; rfl)
  have hn6 := w.1
  intro f
  induction f with
  | zero => intro k q1 q2; omega
  | succ f ih =>
    intro k q1 q2 hk
    by_cases e : k = m
    · have e1 : nI m ≤ nI k := by rw [e]; exact Int32.le_refl _
      refine ⟨1, ?_, Or.inl ⟨rfl, fun i hi => hk i (by omega)⟩⟩
      simp (config := { decide := true }) only [↓reduceIte, Option.bind_some, Option.bind_none, lp_X11_namesGuilds_2, gI_e k2 hs, e1]
    · have e1 : ¬ nI m ≤ nI k := nI_ge (by omega) (by omega)
      have ea : aI μ (a + 34 + 2 * r) 21 (nI k) = some (R.2 r k) := by rw [aI_of k4 (by omega) (by omega), (H.2.1 r hr).2 m hm k (by omega)]
      rcases ix2 (R.2 r k) h.n (by omega) with z | ⟨g, hg, z⟩
      · refine ⟨0, ?_, Or.inr ⟨rfl, fun q => ?_⟩⟩
        · simp (config := { decide := true }) only [↓reduceIte, Option.bind_some, Option.bind_none, lp_X11_namesGuilds_2, H.1.t0, gP_of H.1.t0 H.1.p0_0, gP_of H.1.t0 H.1.p0_1, gP_of H.1.t0 H.1.p0_2, gP_of H.1.t0 H.1.p0_3, gP_of H.1.t0 H.1.p0_4, gP_of H.1.t0 H.1.p0_5, gP_of H.1.t0 H.1.p0_6, gP_of H.1.t0 H.1.p0_7, gP_of H.1.t0 H.1.p0_8, gP_of H.1.t0 H.1.p0_9, gI_e k2 hs, e1, gP_of k2 k3, ea, x_hasG_bad H z]
        · obtain ⟨x, hx, ex⟩ := q k (by omega)
          rw [ex] at z
          rcases z with z | ⟨z, z2⟩
          · exact nI_pos (by omega) z
          · exact nI_ge hx (by omega) z2
      · obtain ⟨b, e2, e3⟩ := ih (k + 1) (by omega) (by omega) (fun i hi => by
          by_cases y : i = k
          · rw [y]; exact ⟨g, hg, z⟩
          · exact hk i (by omega))
        refine ⟨b, ?_, e3⟩
        rw [z] at ea
        simp (config := { decide := true }) only [↓reduceIte, Option.bind_some, Option.bind_none, lp_X11_namesGuilds_2, H.1.t0, gP_of H.1.t0 H.1.p0_0, gP_of H.1.t0 H.1.p0_1, gP_of H.1.t0 H.1.p0_2, gP_of H.1.t0 H.1.p0_3, gP_of H.1.t0 H.1.p0_4, gP_of H.1.t0 H.1.p0_5, gP_of H.1.t0 H.1.p0_6, gP_of H.1.t0 H.1.p0_7, gP_of H.1.t0 H.1.p0_8, gP_of H.1.t0 H.1.p0_9, gI_e k2 hs, e1, gP_of k2 k3, ea, x_hasG_ok H w hg, nI_1, e2]
theorem m_names_l {R T : GR} {F : GF} {h : GH} {K : GK} {μ : Mm} {c r m : Nat} (H : MI R T F h K μ c) (w : WH h) (hr : r < 6) (hm : R.1 r = some m) (hm4 : m ≤ 40) : ∀ (f k : Nat) (fl : Bool), k ≤ m → m < k + f → (fl = true → ∀ i, i < k → ∃ x, x < h.n ∧ R.2 r i = nI x) → (fl = false → ¬ Ng h.n m (R.2 r)) → ∃ b, lp_X12_after_38 f c (nI r) (nI (b1 fl)) (nI k) μ = some (nI (b1 b)) ∧ (b = true ∧ Ng h.n m (R.2 r) ∨ b = false ∧ ¬ Ng h.n m (R.2 r)) := by
  have hn6 := w.1
  intro f
  induction f with
  | zero => intro k fl q1 q2; omega
  | succ f ih =>
    intro k fl q1 q2 h1 h2
    have el := m_rl H hr
    rw [hm, en_some] at el
    by_cases e : k = m
    · have e1 : nI m ≤ nI k := by rw [e]; exact Int32.le_refl _
      refine ⟨fl, ?_, ?_⟩
      · simp (config := { decide := true }) only [↓reduceIte, Option.bind_some, Option.bind_none, lp_X12_after_38, H.1.t0, gP_of H.1.t0 H.1.p0_1, gP_of H.1.t0 H.1.p0_5, gP_of H.1.t0 H.1.p0_6, gP_of H.1.t0 H.1.p0_7, gP_of H.1.t0 H.1.p0_8, gP_of H.1.t0 H.1.p0_9, gP_of H.1.t0 H.1.p0_14, gP_of H.1.t0 H.1.p0_15, gP_of H.1.t0 H.1.p0_21, gP_of H.1.t0 H.1.p0_22, gP_of H.1.t0 H.1.p0_23, gP_of H.1.t0 H.1.p0_24, gP_of H.1.t0 H.1.p0_26, gP_of H.1.t0 H.1.p0_27, gP_of H.1.t0 H.1.p0_28, gP_of H.1.t0 H.1.p0_29, gP_of H.1.t0 H.1.p0_30, gP_of H.1.t0 H.1.p0_31, gP_of H.1.t0 H.1.p0_32, gP_of H.1.t0 H.1.p0_33, gP_of H.1.t0 H.1.p0_40, gP_of H.1.t0 H.1.p0_41, gP_of H.1.t0 H.1.p0_46, gP_of H.1.t0 H.1.p0_47, gP_of H.1.t0 H.1.p0_48, el, e1]
      · cases fl with
        | true => exact Or.inl ⟨rfl, fun i hi => h1 rfl i (by omega)⟩
        | false => exact Or.inr ⟨rfl, h2 rfl⟩
    · have e1 : ¬ nI m ≤ nI k := nI_ge (by omega) (by omega)
      have ea := m_rowAt H hr hm (show k < m by omega) hm4
      cases fl with
      | false =>
        obtain ⟨b, e2, e3⟩ := ih (k + 1) false (by omega) (by omega) (fun z => by cases z) (fun _ => h2 rfl)
        have e2' : lp_X12_after_38 f c (nI r) 0 (nI (k + 1)) μ = _ := e2
        refine ⟨b, ?_, e3⟩
        show lp_X12_after_38 (f + 1) c (nI r) 0 (nI k) μ = _
        simp (config := { decide := true }) only [↓reduceIte, Option.bind_some, Option.bind_none, lp_X12_after_38, H.1.t0, gP_of H.1.t0 H.1.p0_1, gP_of H.1.t0 H.1.p0_5, gP_of H.1.t0 H.1.p0_6, gP_of H.1.t0 H.1.p0_7, gP_of H.1.t0 H.1.p0_8, gP_of H.1.t0 H.1.p0_9, gP_of H.1.t0 H.1.p0_14, gP_of H.1.t0 H.1.p0_15, gP_of H.1.t0 H.1.p0_21, gP_of H.1.t0 H.1.p0_22, gP_of H.1.t0 H.1.p0_23, gP_of H.1.t0 H.1.p0_24, gP_of H.1.t0 H.1.p0_26, gP_of H.1.t0 H.1.p0_27, gP_of H.1.t0 H.1.p0_28, gP_of H.1.t0 H.1.p0_29, gP_of H.1.t0 H.1.p0_30, gP_of H.1.t0 H.1.p0_31, gP_of H.1.t0 H.1.p0_32, gP_of H.1.t0 H.1.p0_33, gP_of H.1.t0 H.1.p0_40, gP_of H.1.t0 H.1.p0_41, gP_of H.1.t0 H.1.p0_46, gP_of H.1.t0 H.1.p0_47, gP_of H.1.t0 H.1.p0_48, el, e1, nI_1, e2']
      | true =>
        rcases ix2 (R.2 r k) h.n (by omega) with z | ⟨g, hg, z⟩
        · obtain ⟨b, e2, e3⟩ := ih (k + 1) false (by omega) (by omega) (fun z => by cases z) (fun _ q => by
            obtain ⟨x, hx, ex⟩ := q k (by omega)
            rw [ex] at z
            rcases z with z | ⟨z, z2⟩
            · exact nI_pos (by omega) z
            · exact nI_ge hx (by omega) z2)
          have e2' : lp_X12_after_38 f c (nI r) 0 (nI (k + 1)) μ = _ := e2
          refine ⟨b, ?_, e3⟩
          show lp_X12_after_38 (f + 1) c (nI r) 1 (nI k) μ = _
          simp (config := { decide := true }) only [↓reduceIte, Option.bind_some, Option.bind_none, lp_X12_after_38, H.1.t0, gP_of H.1.t0 H.1.p0_1, gP_of H.1.t0 H.1.p0_5, gP_of H.1.t0 H.1.p0_6, gP_of H.1.t0 H.1.p0_7, gP_of H.1.t0 H.1.p0_8, gP_of H.1.t0 H.1.p0_9, gP_of H.1.t0 H.1.p0_14, gP_of H.1.t0 H.1.p0_15, gP_of H.1.t0 H.1.p0_21, gP_of H.1.t0 H.1.p0_22, gP_of H.1.t0 H.1.p0_23, gP_of H.1.t0 H.1.p0_24, gP_of H.1.t0 H.1.p0_26, gP_of H.1.t0 H.1.p0_27, gP_of H.1.t0 H.1.p0_28, gP_of H.1.t0 H.1.p0_29, gP_of H.1.t0 H.1.p0_30, gP_of H.1.t0 H.1.p0_31, gP_of H.1.t0 H.1.p0_32, gP_of H.1.t0 H.1.p0_33, gP_of H.1.t0 H.1.p0_40, gP_of H.1.t0 H.1.p0_41, gP_of H.1.t0 H.1.p0_46, gP_of H.1.t0 H.1.p0_47, gP_of H.1.t0 H.1.p0_48, el, e1, ea, m_isG_bad H w z, nI_1, e2']
        · obtain ⟨b, e2, e3⟩ := ih (k + 1) true (by omega) (by omega) (fun _ i hi => by
            by_cases y : i = k
            · rw [y]; exact ⟨g, hg, z⟩
            · exact h1 rfl i (by omega)) (fun z => by cases z)
          have e2' : lp_X12_after_38 f c (nI r) 1 (nI (k + 1)) μ = _ := e2
          refine ⟨b, ?_, e3⟩
          rw [z] at ea
          show lp_X12_after_38 (f + 1) c (nI r) 1 (nI k) μ = _
          simp (config := { decide := true }) only [↓reduceIte, Option.bind_some, Option.bind_none, lp_X12_after_38, H.1.t0, gP_of H.1.t0 H.1.p0_1, gP_of H.1.t0 H.1.p0_5, gP_of H.1.t0 H.1.p0_6, gP_of H.1.t0 H.1.p0_7, gP_of H.1.t0 H.1.p0_8, gP_of H.1.t0 H.1.p0_9, gP_of H.1.t0 H.1.p0_14, gP_of H.1.t0 H.1.p0_15, gP_of H.1.t0 H.1.p0_21, gP_of H.1.t0 H.1.p0_22, gP_of H.1.t0 H.1.p0_23, gP_of H.1.t0 H.1.p0_24, gP_of H.1.t0 H.1.p0_26, gP_of H.1.t0 H.1.p0_27, gP_of H.1.t0 H.1.p0_28, gP_of H.1.t0 H.1.p0_29, gP_of H.1.t0 H.1.p0_30, gP_of H.1.t0 H.1.p0_31, gP_of H.1.t0 H.1.p0_32, gP_of H.1.t0 H.1.p0_33, gP_of H.1.t0 H.1.p0_40, gP_of H.1.t0 H.1.p0_41, gP_of H.1.t0 H.1.p0_46, gP_of H.1.t0 H.1.p0_47, gP_of H.1.t0 H.1.p0_48, el, e1, ea, m_isG_ok H w hg, nI_1, e2']
theorem x_after_l {R T : GR} {F : GF} {h : GH} {K : GK} {μ : Mm} {a r m : Nat} (H : XI R T F h K μ a) (w : WH h) (h0 : ¬ h.n = 0) (hr : r < 6) (hm : R.1 r = some m) (hm4 : m ≤ 40) (hN : Ng h.n m (R.2 r)) : ∀ (f k : Nat), k ≤ m → m < k + f → lp_X11_after_76 f a (nI r) (nI (qs h.te h.rs h.kd h.ft h.q (gof (R.2 r)) k).1) (nI ((qs h.te h.rs h.kd h.ft h.q (gof (R.2 r)) k).2.2.2.1 - h.q.2.2.2.1)) (nI k) μ = some (nI (qs h.te h.rs h.kd h.ft h.q (gof (R.2 r)) m).1, nI ((qs h.te h.rs h.kd h.ft h.q (gof (R.2 r)) m).2.2.2.1 - h.q.2.2.2.1)) := by
  obtain ⟨k1, k2, k3, k4, k5⟩ := H.1.row hr
  have hs : mI μ (a + 33 + 2 * r) 1 = nI m := (H.2.1 r hr).1.trans (by rw [hm]; rfl)
  have hn6 := w.1
  have t1 := w.te_ge h0
  have t2 := w.te_lt
  have hgs : ∀ i, i < m → gof (R.2 r) i < h.n := fun i hi => (hN.gf hn6 hi).1
  intro f
  induction f with
  | zero => intro k q1 q2; omega
  | succ f ih =>
    intro k q1 q2
    by_cases e : k = m
    · have e1 : nI m ≤ nI k := by rw [e]; exact Int32.le_refl _
      simp (config := { decide := true }) only [↓reduceIte, Option.bind_some, Option.bind_none, lp_X11_after_76, H.1.t0, gP_of H.1.t0 H.1.p0_0, gP_of H.1.t0 H.1.p0_1, gP_of H.1.t0 H.1.p0_2, gP_of H.1.t0 H.1.p0_3, gP_of H.1.t0 H.1.p0_4, gP_of H.1.t0 H.1.p0_5, gP_of H.1.t0 H.1.p0_6, gP_of H.1.t0 H.1.p0_7, gP_of H.1.t0 H.1.p0_8, gP_of H.1.t0 H.1.p0_9, H.1.fr.get hr, gI_e k2 hs, e1]
      rw [e]
    · have e1 : ¬ nI m ≤ nI k := nI_ge (by omega) (by omega)
      obtain ⟨hg, eg⟩ := hN.gf hn6 (show k < m by omega)
      have ea : aI μ (a + 34 + 2 * r) 21 (nI k) = some (nI (gof (R.2 r) k)) := by rw [aI_of k4 (by omega) (by omega), (H.2.1 r hr).2 m hm k (by omega)]; exact congrArg some eg
      have hfl := qs_fl (te := h.te) (rs := h.rs) (kd := h.kd) (ft := h.ft) (q := h.q) (gs := gof (R.2 r)) k (fun i hi => by have := hgs i (by omega); omega)
      have hb := (qs_bq (rs := h.rs) (kd := h.kd) (gs := gof (R.2 r)) w.bq t1 (fun g hg => (w.2.2.1 g hg).2.2) hn6 k (fun i hi => hgs i (by omega))).sml' (by omega) t1
      have htl := w.tr_le hg
      obtain ⟨d1, d2⟩ := qs_due (te := h.te) (rs := h.rs) (kd := h.kd) (ft := h.ft) (q := h.q) (gs := gof (R.2 r)) (m := k) (by omega)
      have hdl := qs_due_le (te := h.te) (rs := h.rs) (kd := h.kd) (ft := h.ft) (q := h.q) (gs := gof (R.2 r)) k (fun i hi => by have := hgs i (by omega); omega)
      rw [hfl] at d1
      have d1' : ((qs h.te h.rs h.kd h.ft h.q (gof (R.2 r)) k).1 + h.tr (gof (R.2 r) k)) % h.te = (qs h.te h.rs h.kd h.ft h.q (gof (R.2 r)) (k + 1)).1 := d1.symm
      have hlt : (qs h.te h.rs h.kd h.ft h.q (gof (R.2 r)) (k + 1)).1 < h.te := by rw [← d1']; exact Nat.mod_lt _ (by omega)
      have hI := ih (k + 1) (by omega) (by omega)
      have hb1' := hb.1
      have er := x_rentAt H w hlt
      cases hbb : isr h.rs (qs h.te h.rs h.kd h.ft h.q (gof (R.2 r)) (k + 1)).1 with
      | true =>
        rw [hbb] at er d2
        have er' : f_X3_hasRentAt μ (a + 3) (nI (qs h.te h.rs h.kd h.ft h.q (gof (R.2 r)) (k + 1)).1) = some 1 := er
        rw [d2, show (qs h.te h.rs h.kd h.ft h.q (gof (R.2 r)) k).2.2.2.1 + b1 true - h.q.2.2.2.1 = (qs h.te h.rs h.kd h.ft h.q (gof (R.2 r)) k).2.2.2.1 - h.q.2.2.2.1 + 1 by show _ + 1 - _ = _; omega] at hI
        simp (config := { decide := true }) only [↓reduceIte, Option.bind_some, Option.bind_none, lp_X11_after_76, H.1.t0, gP_of H.1.t0 H.1.p0_0, gP_of H.1.t0 H.1.p0_1, gP_of H.1.t0 H.1.p0_2, gP_of H.1.t0 H.1.p0_3, gP_of H.1.t0 H.1.p0_4, gP_of H.1.t0 H.1.p0_5, gP_of H.1.t0 H.1.p0_6, gP_of H.1.t0 H.1.p0_7, gP_of H.1.t0 H.1.p0_8, gP_of H.1.t0 H.1.p0_9, H.1.fr.get hr, gI_e k2 hs, e1, gP_of k2 k3, ea, x_tread H w hg, nI_add, x_wrap H w h0 (show (qs h.te h.rs h.kd h.ft h.q (gof (R.2 r)) k).1 + h.tr (gof (R.2 r) k) < 2 ^ 31 by omega), d1', er', nI_1, hI]
      | false =>
        rw [hbb] at er d2
        have er' : f_X3_hasRentAt μ (a + 3) (nI (qs h.te h.rs h.kd h.ft h.q (gof (R.2 r)) (k + 1)).1) = some 0 := er
        rw [d2, show (qs h.te h.rs h.kd h.ft h.q (gof (R.2 r)) k).2.2.2.1 + b1 false - h.q.2.2.2.1 = (qs h.te h.rs h.kd h.ft h.q (gof (R.2 r)) k).2.2.2.1 - h.q.2.2.2.1 from rfl] at hI
        simp (config := { decide := true }) only [↓reduceIte, Option.bind_some, Option.bind_none, lp_X11_after_76, H.1.t0, gP_of H.1.t0 H.1.p0_0, gP_of H.1.t0 H.1.p0_1, gP_of H.1.t0 H.1.p0_2, gP_of H.1.t0 H.1.p0_3, gP_of H.1.t0 H.1.p0_4, gP_of H.1.t0 H.1.p0_5, gP_of H.1.t0 H.1.p0_6, gP_of H.1.t0 H.1.p0_7, gP_of H.1.t0 H.1.p0_8, gP_of H.1.t0 H.1.p0_9, H.1.fr.get hr, gI_e k2 hs, e1, gP_of k2 k3, ea, x_tread H w hg, nI_add, x_wrap H w h0 (show (qs h.te h.rs h.kd h.ft h.q (gof (R.2 r)) k).1 + h.tr (gof (R.2 r) k) < 2 ^ 31 by omega), d1', er', nI_1, nI_z, hI]
theorem m_copyNow_l {μ : Mm} {c : Nat} {g : Nat → Int32} (hL : LM μ c) : ∀ (f k : Nat), k ≤ 11 → 11 < k + f → lp_X12_copyNow_2 f c (nI k) (sR μ (c + 12) (filf g k (mI μ (c + 11)))) = some (sR μ (c + 12) (filf g 11 (mI μ (c + 11)))) := by
  intro f
  induction f with
  | zero => intro k q1 q2; omega
  | succ f ih =>
    intro k q1 q2
    have hL' : LM (sR μ (c + 12) (filf g k (mI μ (c + 11)))) c := hL
    by_cases hk : k = 11
    · subst hk
      have e : (11 : Int32) ≤ nI 11 := Int32.le_refl _
      simp (config := { decide := true }) only [↓reduceIte, Option.bind_some, Option.bind_none, lp_X12_copyNow_2, e]
    · have e : ¬ (11 : Int32) ≤ nI k := (show ¬ nI 11 ≤ nI k from nI_ge (by omega) (by decide))
      have ea : aI (sR μ (c + 12) (filf g k (mI μ (c + 11)))) (c + 11) 21 (nI k) = some (mI μ (c + 11) k) := by
        rw [aI_of hL'.t11 (by rw [hL'.n11]; omega) (by omega), mR_ne (by omega)]
      simp (config := { decide := true }) only [↓reduceIte, Option.bind_some, Option.bind_none, lp_X12_copyNow_2, e, gP_of hL'.t0 hL'.p0_24, gP_of hL'.t0 hL'.p0_23, ea, qI_of (i := k) hL'.t12 (show k < ln μ (c + 12) by rw [hL.n12]; omega) (show k < 2 ^ 31 by omega)]
      rw [sI_sRg, filf_s g k (mI μ (c + 11)), nI_1]
      exact ih (k + 1) (by omega) (by omega)
theorem m_after_l {R T : GR} {F : GF} {h : GH} {K : GK} {c r m : Nat} (w : WH h) (h0 : ¬ h.n = 0) (hr : r < 6) (hm : R.1 r = some m) (hm4 : m ≤ 40) (hN : Ng h.n m (R.2 r)) : ∀ (f k : Nat) (μ : Mm), k ≤ m → m < k + f → MI R T F h K μ c → nat11 μ (c + 12) 0 (qs h.te h.rs h.kd h.ft h.q (gof (R.2 r)) k) → ∃ μ', lp_X12_after_93 f c (nI r) (nI k) μ = some μ' ∧ MI R T F h K μ' c ∧ nat11 μ' (c + 12) 0 (qs h.te h.rs h.kd h.ft h.q (gof (R.2 r)) m) ∧ (∀ b, b ≠ c + 12 → Sm μ μ' b) ∧ hz μ' = hz μ := by
  have hn6 := w.1
  have t1 := w.te_ge h0
  have t2 := w.te_lt
  have hgs : ∀ i, i < m → gof (R.2 r) i < h.n := fun i hi => (hN.gf hn6 hi).1
  intro f
  induction f with
  | zero => intro k μ q1 q2; omega
  | succ f ih =>
    intro k μ q1 q2 H hq
    have el := m_rl H hr
    rw [hm, en_some] at el
    by_cases e : k = m
    · have e1 : nI m ≤ nI k := by rw [e]; exact Int32.le_refl _
      refine ⟨μ, ?_, H, by rw [← e]; exact hq, fun b _ => Sm.rf μ b, rfl⟩
      simp (config := { decide := true }) only [↓reduceIte, Option.bind_some, Option.bind_none, lp_X12_after_93, H.1.t0, gP_of H.1.t0 H.1.p0_1, gP_of H.1.t0 H.1.p0_5, gP_of H.1.t0 H.1.p0_6, gP_of H.1.t0 H.1.p0_7, gP_of H.1.t0 H.1.p0_8, gP_of H.1.t0 H.1.p0_9, gP_of H.1.t0 H.1.p0_14, gP_of H.1.t0 H.1.p0_15, gP_of H.1.t0 H.1.p0_21, gP_of H.1.t0 H.1.p0_22, gP_of H.1.t0 H.1.p0_23, gP_of H.1.t0 H.1.p0_24, gP_of H.1.t0 H.1.p0_26, gP_of H.1.t0 H.1.p0_27, gP_of H.1.t0 H.1.p0_28, gP_of H.1.t0 H.1.p0_29, gP_of H.1.t0 H.1.p0_30, gP_of H.1.t0 H.1.p0_31, gP_of H.1.t0 H.1.p0_32, gP_of H.1.t0 H.1.p0_33, gP_of H.1.t0 H.1.p0_40, gP_of H.1.t0 H.1.p0_41, gP_of H.1.t0 H.1.p0_46, gP_of H.1.t0 H.1.p0_47, gP_of H.1.t0 H.1.p0_48, el, e1]
    · have e1 : ¬ nI m ≤ nI k := nI_ge (by omega) (by omega)
      obtain ⟨hg, eg⟩ := hN.gf hn6 (show k < m by omega)
      have ea := m_rowAt H hr hm (show k < m by omega) hm4
      rw [eg] at ea
      have hfl := qs_fl (te := h.te) (rs := h.rs) (kd := h.kd) (ft := h.ft) (q := h.q) (gs := gof (R.2 r)) k (fun i hi => by have := hgs i (by omega); omega)
      have hb := (qs_bq (rs := h.rs) (kd := h.kd) (gs := gof (R.2 r)) w.bq t1 (fun g hg => (w.2.2.1 g hg).2.2) hn6 k (fun i hi => hgs i (by omega))).sml' (by omega) t1
      obtain ⟨g1, g2, g3, g4, g5, g6, g7, g8⟩ := H.2.2.2.2.1
      obtain ⟨μ1, x1, x2, x3, x4, x5⟩ := m_walks (te := h.te) (rs := h.rs) H.1 (show c + 12 ≠ c by omega) H.1.t12 H.1.n12 (show gof (R.2 r) k < 6 by omega) (m_tread H w hg) (w.tr_le hg) hq g2 t1 t2 g5 hb
      have hstp : wlk h.te h.rs (h.tr (gof (R.2 r) k)) (gof (R.2 r) k) (qs h.te h.rs h.kd h.ft h.q (gof (R.2 r)) k) = qs h.te h.rs h.kd h.ft h.q (gof (R.2 r)) (k + 1) := by
        show _ = stp h.te h.rs h.kd h.ft (qs h.te h.rs h.kd h.ft h.q (gof (R.2 r)) k) (gof (R.2 r) k)
        rw [stp_wlk (by omega), hfl]; rfl
      rw [hstp] at x3
      have H1 : MI R T F h K μ1 c := by
        obtain ⟨z1, z2, z3, z4, z5, z6⟩ := H
        exact ⟨x2, z2.mv (x4 _ (by omega)) (x4 _ (by omega)), z3.mv (x4 _ (by omega)) (x4 _ (by omega)), z4.mv (x4 _ (by omega)) (x4 _ (by omega)), z5.mv (x4 c (by omega)).Fh (x4 _ (by omega)) (x4 _ (by omega)) (x4 _ (by omega)) (x4 _ (by omega)), z6.mv (fun b _ _ => x4 b (by omega))⟩
      obtain ⟨μ2, y1, y2, y3, y4, y5⟩ := ih (k + 1) μ1 (by omega) (by omega) H1 x3
      refine ⟨μ2, ?_, y2, y3, fun b hb => (x4 b hb).tr (y4 b hb), y5.trans x5⟩
      simp (config := { decide := true }) only [↓reduceIte, Option.bind_some, Option.bind_none, lp_X12_after_93, H.1.t0, gP_of H.1.t0 H.1.p0_1, gP_of H.1.t0 H.1.p0_5, gP_of H.1.t0 H.1.p0_6, gP_of H.1.t0 H.1.p0_7, gP_of H.1.t0 H.1.p0_8, gP_of H.1.t0 H.1.p0_9, gP_of H.1.t0 H.1.p0_14, gP_of H.1.t0 H.1.p0_15, gP_of H.1.t0 H.1.p0_21, gP_of H.1.t0 H.1.p0_22, gP_of H.1.t0 H.1.p0_23, gP_of H.1.t0 H.1.p0_24, gP_of H.1.t0 H.1.p0_26, gP_of H.1.t0 H.1.p0_27, gP_of H.1.t0 H.1.p0_28, gP_of H.1.t0 H.1.p0_29, gP_of H.1.t0 H.1.p0_30, gP_of H.1.t0 H.1.p0_31, gP_of H.1.t0 H.1.p0_32, gP_of H.1.t0 H.1.p0_33, gP_of H.1.t0 H.1.p0_40, gP_of H.1.t0 H.1.p0_41, gP_of H.1.t0 H.1.p0_46, gP_of H.1.t0 H.1.p0_47, gP_of H.1.t0 H.1.p0_48, el, e1, ea, x1, nI_1, y1]
theorem PSI_after : PS_after INV := by
  intro μ a1 a2 q1 hI
  refine both_of (fx := fun μ a => f_X11_after μ a q1) (fm := fun μ c => f_X12_after μ c q1) ?_ μ a1 a2 hI
  intro R T F h K hw
  have w := hw.2.2.1
  have hn6 := w.1
  rcases ix2 q1 6 (by decide) with h1 | ⟨r, hr, rfl⟩
  · refine ⟨-1, R, T, F, h, K, hw, fun μ a H => XO.same H ?_, fun μ c H => MO.same H ?_⟩
    · simp (config := { decide := true }) only [↓reduceIte, Option.bind_some, Option.bind_none, f_X11_after, H.1.t0, gP_of H.1.t0 H.1.p0_0, gP_of H.1.t0 H.1.p0_1, gP_of H.1.t0 H.1.p0_2, gP_of H.1.t0 H.1.p0_3, gP_of H.1.t0 H.1.p0_4, gP_of H.1.t0 H.1.p0_5, gP_of H.1.t0 H.1.p0_6, gP_of H.1.t0 H.1.p0_7, gP_of H.1.t0 H.1.p0_8, gP_of H.1.t0 H.1.p0_9, H.1.fr.has_bad h1]
    · simp (config := { decide := true }) only [↓reduceIte, Option.bind_some, Option.bind_none, f_X12_after, H.1.t0, gP_of H.1.t0 H.1.p0_1, gP_of H.1.t0 H.1.p0_5, gP_of H.1.t0 H.1.p0_6, gP_of H.1.t0 H.1.p0_7, gP_of H.1.t0 H.1.p0_8, gP_of H.1.t0 H.1.p0_9, gP_of H.1.t0 H.1.p0_14, gP_of H.1.t0 H.1.p0_15, gP_of H.1.t0 H.1.p0_21, gP_of H.1.t0 H.1.p0_22, gP_of H.1.t0 H.1.p0_23, gP_of H.1.t0 H.1.p0_24, gP_of H.1.t0 H.1.p0_26, gP_of H.1.t0 H.1.p0_27, gP_of H.1.t0 H.1.p0_28, gP_of H.1.t0 H.1.p0_29, gP_of H.1.t0 H.1.p0_30, gP_of H.1.t0 H.1.p0_31, gP_of H.1.t0 H.1.p0_32, gP_of H.1.t0 H.1.p0_33, gP_of H.1.t0 H.1.p0_40, gP_of H.1.t0 H.1.p0_41, gP_of H.1.t0 H.1.p0_46, gP_of H.1.t0 H.1.p0_47, gP_of H.1.t0 H.1.p0_48, isRow_bad h1]
  by_cases h0 : h.n = 0
  · refine ⟨-4, R, T, F, h, K, hw, fun μ a H => XO.same H ?_, fun μ c H => MO.same H ?_⟩
    · simp (config := { decide := true }) only [↓reduceIte, Option.bind_some, Option.bind_none, f_X11_after, H.1.t0, gP_of H.1.t0 H.1.p0_0, gP_of H.1.t0 H.1.p0_1, gP_of H.1.t0 H.1.p0_2, gP_of H.1.t0 H.1.p0_3, gP_of H.1.t0 H.1.p0_4, gP_of H.1.t0 H.1.p0_5, gP_of H.1.t0 H.1.p0_6, gP_of H.1.t0 H.1.p0_7, gP_of H.1.t0 H.1.p0_8, gP_of H.1.t0 H.1.p0_9, H.1.fr.has_ok hr, x_empty H h0]
    · simp (config := { decide := true }) only [↓reduceIte, Option.bind_some, Option.bind_none, f_X12_after, H.1.t0, gP_of H.1.t0 H.1.p0_1, gP_of H.1.t0 H.1.p0_5, gP_of H.1.t0 H.1.p0_6, gP_of H.1.t0 H.1.p0_7, gP_of H.1.t0 H.1.p0_8, gP_of H.1.t0 H.1.p0_9, gP_of H.1.t0 H.1.p0_14, gP_of H.1.t0 H.1.p0_15, gP_of H.1.t0 H.1.p0_21, gP_of H.1.t0 H.1.p0_22, gP_of H.1.t0 H.1.p0_23, gP_of H.1.t0 H.1.p0_24, gP_of H.1.t0 H.1.p0_26, gP_of H.1.t0 H.1.p0_27, gP_of H.1.t0 H.1.p0_28, gP_of H.1.t0 H.1.p0_29, gP_of H.1.t0 H.1.p0_30, gP_of H.1.t0 H.1.p0_31, gP_of H.1.t0 H.1.p0_32, gP_of H.1.t0 H.1.p0_33, gP_of H.1.t0 H.1.p0_40, gP_of H.1.t0 H.1.p0_41, gP_of H.1.t0 H.1.p0_46, gP_of H.1.t0 H.1.p0_47, gP_of H.1.t0 H.1.p0_48, isRow_ok hr, m_hev H, h0, show nI 0 = 0 from rfl]
  have hn0 : ¬ nI h.n = 0 := nI_ne0 (by omega) (by omega)
  cases hm : R.1 r with
  | none =>
    refine ⟨-3, R, T, fnd F 1, h, K, hw, fun μ a H => XO.find H (by decide) ?_, fun μ c H => MO.find H (by decide) ?_⟩
    · simp (config := { decide := true }) only [↓reduceIte, Option.bind_some, Option.bind_none, f_X11_after, H.1.t0, gP_of H.1.t0 H.1.p0_0, gP_of H.1.t0 H.1.p0_1, gP_of H.1.t0 H.1.p0_2, gP_of H.1.t0 H.1.p0_3, gP_of H.1.t0 H.1.p0_4, gP_of H.1.t0 H.1.p0_5, gP_of H.1.t0 H.1.p0_6, gP_of H.1.t0 H.1.p0_7, gP_of H.1.t0 H.1.p0_8, gP_of H.1.t0 H.1.p0_9, H.1.fr.has_ok hr, x_full H w h0, H.1.fr.get hr, there_no (H.1.row hr).2.1 ((H.2.1 r hr).1.trans (by rw [hm]; rfl)), xf1 H.1]
    · simp (config := { decide := true }) only [↓reduceIte, Option.bind_some, Option.bind_none, f_X12_after, H.1.t0, gP_of H.1.t0 H.1.p0_1, gP_of H.1.t0 H.1.p0_5, gP_of H.1.t0 H.1.p0_6, gP_of H.1.t0 H.1.p0_7, gP_of H.1.t0 H.1.p0_8, gP_of H.1.t0 H.1.p0_9, gP_of H.1.t0 H.1.p0_14, gP_of H.1.t0 H.1.p0_15, gP_of H.1.t0 H.1.p0_21, gP_of H.1.t0 H.1.p0_22, gP_of H.1.t0 H.1.p0_23, gP_of H.1.t0 H.1.p0_24, gP_of H.1.t0 H.1.p0_26, gP_of H.1.t0 H.1.p0_27, gP_of H.1.t0 H.1.p0_28, gP_of H.1.t0 H.1.p0_29, gP_of H.1.t0 H.1.p0_30, gP_of H.1.t0 H.1.p0_31, gP_of H.1.t0 H.1.p0_32, gP_of H.1.t0 H.1.p0_33, gP_of H.1.t0 H.1.p0_40, gP_of H.1.t0 H.1.p0_41, gP_of H.1.t0 H.1.p0_46, gP_of H.1.t0 H.1.p0_47, gP_of H.1.t0 H.1.p0_48, isRow_ok hr, m_hev H, hn0, m_rl H hr, hm, en_no, mf1 H.1]
  | some m =>
    have hm4 : m ≤ 40 := hw.1 r hr m hm
    have hm0 : 0 ≤ nI m := i_pos (by omega)
    have hth : ∀ μ a, XI R T F h K μ a → f_X8_isThere μ (a + 33 + 2 * r) = some 1 := fun μ a H => there_ok (H.1.row hr).2.1 ((H.2.1 r hr).1.trans (by rw [hm]; rfl)) (show m < 2 ^ 31 by omega)
    have hnx : ∀ μ a, XI R T F h K μ a → ∃ b, lp_X11_namesGuilds_2 BIG a (a + 33 + 2 * r) 0 μ = some b ∧ (b = 1 ∧ Ng h.n m (R.2 r) ∨ b = 0 ∧ ¬ Ng h.n m (R.2 r)) := fun μ a H => x_names_l H w hr hm hm4 BIG 0 (by omega) (by unfold BIG; omega) (fun i hi => by omega)
    have hnm : ∀ μ c, MI R T F h K μ c → ∃ b, lp_X12_after_38 BIG c (nI r) 1 0 μ = some (nI (b1 b)) ∧ (b = true ∧ Ng h.n m (R.2 r) ∨ b = false ∧ ¬ Ng h.n m (R.2 r)) := fun μ c H => m_names_l H w hr hm hm4 BIG 0 true (by omega) (by unfold BIG; omega) (fun _ i hi => by omega) (fun z => by cases z)
    by_cases hN : Ng h.n m (R.2 r)
    rotate_left
    · refine ⟨-3, R, T, fnd F 3, h, K, hw, fun μ a H => XO.find H (by decide) ?_, fun μ c H => MO.find H (by decide) ?_⟩
      · obtain ⟨b, e1, e2⟩ := hnx μ a H
        have hb : b = 0 := by
          rcases e2 with ⟨-, z⟩ | ⟨z, -⟩
          · exact absurd z hN
          · exact z
        rw [hb] at e1
        simp (config := { decide := true }) only [↓reduceIte, Option.bind_some, Option.bind_none, f_X11_after, H.1.t0, gP_of H.1.t0 H.1.p0_0, gP_of H.1.t0 H.1.p0_1, gP_of H.1.t0 H.1.p0_2, gP_of H.1.t0 H.1.p0_3, gP_of H.1.t0 H.1.p0_4, gP_of H.1.t0 H.1.p0_5, gP_of H.1.t0 H.1.p0_6, gP_of H.1.t0 H.1.p0_7, gP_of H.1.t0 H.1.p0_8, gP_of H.1.t0 H.1.p0_9, H.1.fr.has_ok hr, x_full H w h0, H.1.fr.get hr, hth μ a H, f_X11_namesGuilds, e1, xf3 H.1]
      · obtain ⟨b, e1, e2⟩ := hnm μ c H
        have hb : b = false := by
          rcases e2 with ⟨-, z⟩ | ⟨z, -⟩
          · exact absurd z hN
          · exact z
        rw [hb] at e1
        have e1' : lp_X12_after_38 BIG c (nI r) 1 0 μ = some 0 := e1
        simp (config := { decide := true }) only [↓reduceIte, Option.bind_some, Option.bind_none, f_X12_after, H.1.t0, gP_of H.1.t0 H.1.p0_1, gP_of H.1.t0 H.1.p0_5, gP_of H.1.t0 H.1.p0_6, gP_of H.1.t0 H.1.p0_7, gP_of H.1.t0 H.1.p0_8, gP_of H.1.t0 H.1.p0_9, gP_of H.1.t0 H.1.p0_14, gP_of H.1.t0 H.1.p0_15, gP_of H.1.t0 H.1.p0_21, gP_of H.1.t0 H.1.p0_22, gP_of H.1.t0 H.1.p0_23, gP_of H.1.t0 H.1.p0_24, gP_of H.1.t0 H.1.p0_26, gP_of H.1.t0 H.1.p0_27, gP_of H.1.t0 H.1.p0_28, gP_of H.1.t0 H.1.p0_29, gP_of H.1.t0 H.1.p0_30, gP_of H.1.t0 H.1.p0_31, gP_of H.1.t0 H.1.p0_32, gP_of H.1.t0 H.1.p0_33, gP_of H.1.t0 H.1.p0_40, gP_of H.1.t0 H.1.p0_41, gP_of H.1.t0 H.1.p0_46, gP_of H.1.t0 H.1.p0_47, gP_of H.1.t0 H.1.p0_48, isRow_ok hr, m_hev H, hn0, m_rl H hr, hm, en_some, hm0, e1', mf3 H.1]
    have hgs : ∀ i, i < m → gof (R.2 r) i < h.n := fun i hi => (hN.gf hn6 hi).1
    have hdl := qs_due_le (te := h.te) (rs := h.rs) (kd := h.kd) (ft := h.ft) (q := h.q) (gs := gof (R.2 r)) m (fun i hi => by have := hgs i hi; omega)
    refine ⟨nI (qs h.te h.rs h.kd h.ft h.q (gof (R.2 r)) m).1, R, T, tel F (nI ((qs h.te h.rs h.kd h.ft h.q (gof (R.2 r)) m).2.2.2.1 - h.q.2.2.2.1)), h, K, hw, fun μ a H => XO.tell H ?_, fun μ c H => ?_⟩
    · obtain ⟨b, e1, e2⟩ := hnx μ a H
      have hb : b = 1 := by
        rcases e2 with ⟨z, -⟩ | ⟨-, z⟩
        · exact z
        · exact absurd hN z
      rw [hb] at e1
      have e3 := x_after_l H w h0 hr hm hm4 hN BIG 0 (by omega) (by unfold BIG; omega)
      rw [show (qs h.te h.rs h.kd h.ft h.q (gof (R.2 r)) 0) = h.q from rfl, Nat.sub_self] at e3
      have e3' : lp_X11_after_76 BIG a (nI r) (nI h.q.1) 0 0 μ = _ := e3
      simp (config := { decide := true }) only [↓reduceIte, Option.bind_some, Option.bind_none, f_X11_after, H.1.t0, gP_of H.1.t0 H.1.p0_0, gP_of H.1.t0 H.1.p0_1, gP_of H.1.t0 H.1.p0_2, gP_of H.1.t0 H.1.p0_3, gP_of H.1.t0 H.1.p0_4, gP_of H.1.t0 H.1.p0_5, gP_of H.1.t0 H.1.p0_6, gP_of H.1.t0 H.1.p0_7, gP_of H.1.t0 H.1.p0_8, gP_of H.1.t0 H.1.p0_9, H.1.fr.has_ok hr, x_full H w h0, H.1.fr.get hr, hth μ a H, f_X11_namesGuilds, e1, x_hev H, e3', pI_of H.1.t0]
    · obtain ⟨b, e1, e2⟩ := hnm μ c H
      have hb : b = true := by
        rcases e2 with ⟨z, -⟩ | ⟨-, z⟩
        · exact z
        · exact absurd hN z
      rw [hb] at e1
      have e1' : lp_X12_after_38 BIG c (nI r) 1 0 μ = some 1 := e1
      have e4 := m_copyNow_l (g := mI μ (c + 12)) H.1 BIG 0 (by decide) (by unfold BIG; omega)
      rw [filf_0, sR_self] at e4
      have e4' : lp_X12_copyNow_2 BIG c 0 μ = _ := e4
      have s1 : ∀ b, b ≠ c + 12 → Sm μ (sR μ (c + 12) (filf (mI μ (c + 12)) 11 (mI μ (c + 11)))) b := fun b hb => (Sm.rf μ b).sR hb
      have H1 : MI R T F h K (sR μ (c + 12) (filf (mI μ (c + 12)) 11 (mI μ (c + 11)))) c := by
        obtain ⟨z1, z2, z3, z4, z5, z6⟩ := H
        exact ⟨z1, z2.mv (s1 _ (by omega)) (s1 _ (by omega)), z3.mv (s1 _ (by omega)) (s1 _ (by omega)), z4.mv (s1 _ (by omega)) (s1 _ (by omega)), z5.mv (s1 c (by omega)).Fh (s1 _ (by omega)) (s1 _ (by omega)) (s1 _ (by omega)) (s1 _ (by omega)), z6.mv (fun b _ _ => s1 b (by omega))⟩
      have hq1 : nat11 (sR μ (c + 12) (filf (mI μ (c + 12)) 11 (mI μ (c + 11)))) (c + 12) 0 h.q := nat11_shift H.2.2.2.2.1.2.2.2.2.2.2.1 fun x hx => by rw [Nat.zero_add, mR_eq, filf_in hx]
      obtain ⟨μ', y1, y2, y3, y4, y5⟩ := m_after_l w h0 hr hm hm4 hN BIG 0 _ (by omega) (by unfold BIG; omega) H1 hq1
      have y1' : lp_X12_after_93 BIG c (nI r) 0 _ = some μ' := y1
      have a3 : aI μ' (c + 12) 21 3 = some (nI (qs h.te h.rs h.kd h.ft h.q (gof (R.2 r)) m).2.2.2.1) := (aI_l 3 rfl y2.1.t12 y2.1.n12 (by decide)).trans (congrArg some y3.2.2.2.1)
      have a0 : aI μ' (c + 12) 21 0 = some (nI (qs h.te h.rs h.kd h.ft h.q (gof (R.2 r)) m).1) := (aI_l 0 rfl y2.1.t12 y2.1.n12 (by decide)).trans (congrArg some y3.1)
      have es : nI (qs h.te h.rs h.kd h.ft h.q (gof (R.2 r)) m).2.2.2.1 - nI h.q.2.2.2.1 = nI ((qs h.te h.rs h.kd h.ft h.q (gof (R.2 r)) m).2.2.2.1 - h.q.2.2.2.1) := pk_sub hdl
      refine ⟨sI μ' c 2 (nI ((qs h.te h.rs h.kd h.ft h.q (gof (R.2 r)) m).2.2.2.1 - h.q.2.2.2.1)), ?_, y2.tell, fun b hb => ((s1 b (by omega)).tr (y4 b (by omega))).sI (by omega), by show hz μ ≤ hz μ'; rw [y5]; exact Nat.le_refl _⟩
      show f_X12_after μ c (nI r) = _
      simp (config := { decide := true }) only [↓reduceIte, Option.bind_some, Option.bind_none, f_X12_after, H.1.t0, gP_of H.1.t0 H.1.p0_1, gP_of H.1.t0 H.1.p0_5, gP_of H.1.t0 H.1.p0_6, gP_of H.1.t0 H.1.p0_7, gP_of H.1.t0 H.1.p0_8, gP_of H.1.t0 H.1.p0_9, gP_of H.1.t0 H.1.p0_14, gP_of H.1.t0 H.1.p0_15, gP_of H.1.t0 H.1.p0_21, gP_of H.1.t0 H.1.p0_22, gP_of H.1.t0 H.1.p0_23, gP_of H.1.t0 H.1.p0_24, gP_of H.1.t0 H.1.p0_26, gP_of H.1.t0 H.1.p0_27, gP_of H.1.t0 H.1.p0_28, gP_of H.1.t0 H.1.p0_29, gP_of H.1.t0 H.1.p0_30, gP_of H.1.t0 H.1.p0_31, gP_of H.1.t0 H.1.p0_32, gP_of H.1.t0 H.1.p0_33, gP_of H.1.t0 H.1.p0_40, gP_of H.1.t0 H.1.p0_41, gP_of H.1.t0 H.1.p0_46, gP_of H.1.t0 H.1.p0_47, gP_of H.1.t0 H.1.p0_48, isRow_ok hr, m_hev H, hn0, m_rl H hr, hm, en_some, hm0, e1', f_X12_copyNow, e4', y1', gP_of y2.1.t0 y2.1.p0_24, gP_of y2.1.t0 y2.1.p0_23, a3, a0, (m_hev y2).2.2.2.2.2.2.2.2.1, es, m_tell y2.1]
