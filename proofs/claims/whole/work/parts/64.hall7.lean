/-! ===== guild, mark, shoe ===== -/
/-- how many of the first -/
def cntP (P : Nat → Bool) : Nat → Nat
  | 0 => 0
  | k+1 => cntP P k + b1 (P k)
theorem cntP_s (P : Nat → Bool) (k : Nat) : cntP P (k + 1) = cntP P k + b1 (P k) := rfl
theorem cntP_le (P : Nat → Bool) (n : Nat) : cntP P n ≤ n := by
  induction n with
  | zero => exact Nat.le_refl _
  | succ n ih => unfold cntP; have := b1_le (P n); omega
theorem ktg_in {k : Nat} (hk : k < 6) : (ktg k ∈ [5, 7] ↔ (decide (k = 1) || decide (k = 4)) = true) ∧ (ktg k ∈ [2, 10] ↔ (decide (k = 2) || decide (k = 5)) = true) ∧ (ktg k ∈ [1] ↔ k = 3) ∧ (ktg k ∈ [7] ↔ k = 4) ∧ (ktg k ∈ [10] ↔ k = 5) := by
  rcases (show k = 0 ∨ k = 1 ∨ k = 2 ∨ k = 3 ∨ k = 4 ∨ k = 5 by omega) with rfl | rfl | rfl | rfl | rfl | rfl <;> decide
def isHv (h : GH) (g : Nat) : Bool := decide (h.kd g = 1) || decide (h.kd g = 4)
def isCh (h : GH) (g : Nat) : Bool := decide (h.kd g = 2) || decide (h.kd g = 5)
def isSt (h : GH) (g : Nat) : Bool := decide (h.tr g = 0)
theorem g_ins {μ : Mm} {p k : Nat} {ys : List Nat} {b : Bool} (ht : tg μ p = ktg k) (hk : k < 6) (hb : ktg k ∈ ys ↔ b = true) : ins μ p ys = some (nI (b1 b)) := by
  have hg := ktg_gt hk
  unfold ins
  rw [ht, if_pos hg]
  cases b with
  | true => rw [if_pos (hb.mpr rfl)]; rfl
  | false => rw [if_neg (fun q => by have := hb.mp q; cases this)]; rfl
theorem g_cst {μ : Mm} {p k : Nat} {ys : List Nat} (ht : tg μ p = ktg k) (hb : ktg k ∈ ys) : cst μ p ys = some () := by
  unfold cst
  rw [ht, if_pos hb]
theorem nI_z (n : Nat) : nI n + 0 = nI n := by
  rw [show (0 : Int32) = nI 0 from rfl, nI_add]; rfl
theorem x_countHeavy {R T : GR} {F : GF} {h : GH} {K : GK} {μ : Mm} {a : Nat} (H : XI R T F h K μ a) (w : WH h) : f_X3_countHeavy μ (a + 3) = some (nI (cntP (isHv h) h.n)) := by
  have hn := w.1
  obtain ⟨gb, k1, k2, k3⟩ := x_guild H w
  have hl : ∀ (f k : Nat), k ≤ h.n → h.n < k + f → lp_X3_countHeavy_4 f (a + 3) (nI (cntP (isHv h) k)) (nI k) μ = some (nI (cntP (isHv h) h.n)) := by
    intro f
    induction f with
    | zero => intro k q1 q2; omega
    | succ f ih =>
      intro k q1 q2
      by_cases hk : k = h.n
      · have e : nI h.n ≤ nI k := by rw [hk]; exact Int32.le_refl _
        simp (config := { decide := true }) only [↓reduceIte, Option.bind_some, Option.bind_none, lp_X3_countHeavy_4, x_hev H, e]
        rw [hk]
      · have e : ¬ nI h.n ≤ nI k := nI_ge (by omega) (by omega)
        obtain ⟨p1, p2, p3, p4⟩ := k3 k (by omega)
        have hi : ins μ (gb + k) [5, 7] = some (nI (b1 (isHv h k))) := g_ins p2 (w.2.2.1 k (by omega)).1 (ktg_in (w.2.2.1 k (by omega)).1).1
        have hI := ih (k + 1) (by omega) (by omega)
        rw [cntP_s] at hI
        cases hb : isHv h k with
        | true =>
          rw [hb] at hi hI
          have hi' : ins μ (gb + k) [5, 7] = some 1 := hi
          have hI' : lp_X3_countHeavy_4 f (a + 3) (nI (cntP (isHv h) k + 1)) (nI (k + 1)) μ = _ := hI
          simp (config := { decide := true }) only [↓reduceIte, Option.bind_some, Option.bind_none, lp_X3_countHeavy_4, x_hev H, e, p1, hi', nI_1, hI']
        | false =>
          rw [hb] at hi hI
          have hi' : ins μ (gb + k) [5, 7] = some 0 := hi
          have hI' : lp_X3_countHeavy_4 f (a + 3) (nI (cntP (isHv h) k)) (nI (k + 1)) μ = _ := hI
          simp (config := { decide := true }) only [↓reduceIte, Option.bind_some, Option.bind_none, lp_X3_countHeavy_4, x_hev H, e, p1, hi', nI_1, nI_z, hI']
  have := hl BIG 0 (by omega) (by unfold BIG; omega)
  have e : lp_X3_countHeavy_4 BIG (a + 3) 0 0 μ = _ := this
  simp (config := { decide := true }) only [↓reduceIte, Option.bind_some, Option.bind_none, f_X3_countHeavy, x_hev H, e]
theorem x_countChildren {R T : GR} {F : GF} {h : GH} {K : GK} {μ : Mm} {a : Nat} (H : XI R T F h K μ a) (w : WH h) : f_X3_countChildren μ (a + 3) = some (nI (cntP (isCh h) h.n)) := by
  have hn := w.1
  obtain ⟨gb, k1, k2, k3⟩ := x_guild H w
  have hl : ∀ (f k : Nat), k ≤ h.n → h.n < k + f → lp_X3_countChildren_4 f (a + 3) (nI (cntP (isCh h) k)) (nI k) μ = some (nI (cntP (isCh h) h.n)) := by
    intro f
    induction f with
    | zero => intro k q1 q2; omega
    | succ f ih =>
      intro k q1 q2
      by_cases hk : k = h.n
      · have e : nI h.n ≤ nI k := by rw [hk]; exact Int32.le_refl _
        simp (config := { decide := true }) only [↓reduceIte, Option.bind_some, Option.bind_none, lp_X3_countChildren_4, x_hev H, e]
        rw [hk]
      · have e : ¬ nI h.n ≤ nI k := nI_ge (by omega) (by omega)
        obtain ⟨p1, p2, p3, p4⟩ := k3 k (by omega)
        have hi : ins μ (gb + k) [2, 10] = some (nI (b1 (isCh h k))) := g_ins p2 (w.2.2.1 k (by omega)).1 (ktg_in (w.2.2.1 k (by omega)).1).2.1
        have hI := ih (k + 1) (by omega) (by omega)
        rw [cntP_s] at hI
        cases hb : isCh h k with
        | true =>
          rw [hb] at hi hI
          have hi' : ins μ (gb + k) [2, 10] = some 1 := hi
          have hI' : lp_X3_countChildren_4 f (a + 3) (nI (cntP (isCh h) k + 1)) (nI (k + 1)) μ = _ := hI
          simp (config := { decide := true }) only [↓reduceIte, Option.bind_some, Option.bind_none, lp_X3_countChildren_4, x_hev H, e, p1, hi', nI_1, hI']
        | false =>
          rw [hb] at hi hI
          have hi' : ins μ (gb + k) [2, 10] = some 0 := hi
          have hI' : lp_X3_countChildren_4 f (a + 3) (nI (cntP (isCh h) k)) (nI (k + 1)) μ = _ := hI
          simp (config := { decide := true }) only [↓reduceIte, Option.bind_some, Option.bind_none, lp_X3_countChildren_4, x_hev H, e, p1, hi', nI_1, nI_z, hI']
  have := hl BIG 0 (by omega) (by unfold BIG; omega)
  have e : lp_X3_countChildren_4 BIG (a + 3) 0 0 μ = _ := this
  simp (config := { decide := true }) only [↓reduceIte, Option.bind_some, Option.bind_none, f_X3_countChildren, x_hev H, e]
theorem x_countStill {R T : GR} {F : GF} {h : GH} {K : GK} {μ : Mm} {a : Nat} (H : XI R T F h K μ a) (w : WH h) : f_X3_countStill μ (a + 3) = some (nI (cntP (isSt h) h.n)) := by
  have hn := w.1
  have hl : ∀ (f k : Nat), k ≤ h.n → h.n < k + f → lp_X3_countStill_4 f (a + 3) (nI (cntP (isSt h) k)) (nI k) μ = some (nI (cntP (isSt h) h.n)) := by
    intro f
    induction f with
    | zero => intro k q1 q2; omega
    | succ f ih =>
      intro k q1 q2
      by_cases hk : k = h.n
      · have e : nI h.n ≤ nI k := by rw [hk]; exact Int32.le_refl _
        simp (config := { decide := true }) only [↓reduceIte, Option.bind_some, Option.bind_none, lp_X3_countStill_4, x_hev H, e]
        rw [hk]
      · have e : ¬ nI h.n ≤ nI k := nI_ge (by omega) (by omega)
        have ht := w.tr_le (show k < h.n by omega)
        have hI := ih (k + 1) (by omega) (by omega)
        rw [cntP_s] at hI
        by_cases hb : h.tr k = 0
        · have hs : isSt h k = true := decide_eq_true hb
          rw [hs] at hI
          have hI' : lp_X3_countStill_4 f (a + 3) (nI (cntP (isSt h) k + 1)) (nI (k + 1)) μ = _ := hI
          simp (config := { decide := true }) only [↓reduceIte, Option.bind_some, Option.bind_none, lp_X3_countStill_4, x_hev H, e, x_tread H w (show k < h.n by omega), hb, show nI 0 = 0 from rfl, nI_1, hI']
        · have hs : isSt h k = false := decide_eq_false hb
          have e0 : ¬ nI (h.tr k) = 0 := nI_ne0 (by omega) (by omega)
          rw [hs] at hI
          have hI' : lp_X3_countStill_4 f (a + 3) (nI (cntP (isSt h) k)) (nI (k + 1)) μ = _ := hI
          simp (config := { decide := true }) only [↓reduceIte, Option.bind_some, Option.bind_none, lp_X3_countStill_4, x_hev H, e, x_tread H w (show k < h.n by omega), e0, nI_1, nI_z, hI']
  have := hl BIG 0 (by omega) (by unfold BIG; omega)
  have e : lp_X3_countStill_4 BIG (a + 3) 0 0 μ = _ := this
  simp (config := { decide := true }) only [↓reduceIte, Option.bind_some, Option.bind_none, f_X3_countStill, x_hev H, e]
theorem m_idle {R T : GR} {F : GF} {h : GH} {K : GK} {μ : Mm} {c : Nat} (H : MI R T F h K μ c) (w : WH h) : f_X12_idle μ c = some (nI (cntP (isSt h) h.n)) := by
  have hn := w.1
  have hl : ∀ (f k : Nat), k ≤ h.n → h.n < k + f → lp_X12_idle_4 f c (nI (cntP (isSt h) k)) (nI k) μ = some (nI (cntP (isSt h) h.n)) := by
    intro f
    induction f with
    | zero => intro k q1 q2; omega
    | succ f ih =>
      intro k q1 q2
      by_cases hk : k = h.n
      · have e : nI h.n ≤ nI k := by rw [hk]; exact Int32.le_refl _
        simp (config := { decide := true }) only [↓reduceIte, Option.bind_some, Option.bind_none, lp_X12_idle_4, m_hev H, e]
        rw [hk]
      · have e : ¬ nI h.n ≤ nI k := nI_ge (by omega) (by omega)
        have ht := w.tr_le (show k < h.n by omega)
        have hI := ih (k + 1) (by omega) (by omega)
        rw [cntP_s] at hI
        by_cases hb : h.tr k = 0
        · have hs : isSt h k = true := decide_eq_true hb
          rw [hs] at hI
          have hI' : lp_X12_idle_4 f c (nI (cntP (isSt h) k + 1)) (nI (k + 1)) μ = _ := hI
          simp (config := { decide := true }) only [↓reduceIte, Option.bind_some, Option.bind_none, lp_X12_idle_4, m_hev H, e, m_tread H w (show k < h.n by omega), hb, show nI 0 = 0 from rfl, nI_1, hI']
        · have hs : isSt h k = false := decide_eq_false hb
          have e0 : ¬ nI (h.tr k) = 0 := nI_ne0 (by omega) (by omega)
          rw [hs] at hI
          have hI' : lp_X12_idle_4 f c (nI (cntP (isSt h) k)) (nI (k + 1)) μ = _ := hI
          simp (config := { decide := true }) only [↓reduceIte, Option.bind_some, Option.bind_none, lp_X12_idle_4, m_hev H, e, m_tread H w (show k < h.n by omega), e0, nI_1, nI_z, hI']
  have := hl BIG 0 (by omega) (by unfold BIG; omega)
  have e : lp_X12_idle_4 BIG c 0 0 μ = _ := this
  simp (config := { decide := true }) only [↓reduceIte, Option.bind_some, Option.bind_none, f_X12_idle, H.1.t0, e]
theorem m_isHeavy {R T : GR} {F : GF} {h : GH} {K : GK} {μ : Mm} {c : Nat} (H : MI R T F h K μ c) (w : WH h) {g : Nat} (hg : g < h.n) : f_X12_isHeavy μ c (nI g) = some (nI (b1 (isHv h g))) := by
  obtain ⟨w3, h1, h9⟩ := w.2.2.1 g hg
  have ek := m_kd H w hg
  unfold isHv
  generalize h.kd g = k at *
  rcases (show k = 0 ∨ k = 1 ∨ k = 2 ∨ k = 3 ∨ k = 4 ∨ k = 5 by omega) with rfl | rfl | rfl | rfl | rfl | rfl <;>
    simp (config := { decide := true }) only [↓reduceIte, Option.bind_some, Option.bind_none, f_X12_isHeavy, H.1.t0, gP_of H.1.t0 H.1.p0_14, ek] <;> rfl
theorem m_isChild {R T : GR} {F : GF} {h : GH} {K : GK} {μ : Mm} {c : Nat} (H : MI R T F h K μ c) (w : WH h) {g : Nat} (hg : g < h.n) : f_X12_isChild μ c (nI g) = some (nI (b1 (isCh h g))) := by
  obtain ⟨w3, h1, h9⟩ := w.2.2.1 g hg
  have ek := m_kd H w hg
  unfold isCh
  generalize h.kd g = k at *
  rcases (show k = 0 ∨ k = 1 ∨ k = 2 ∨ k = 3 ∨ k = 4 ∨ k = 5 by omega) with rfl | rfl | rfl | rfl | rfl | rfl <;>
    simp (config := { decide := true }) only [↓reduceIte, Option.bind_some, Option.bind_none, f_X12_isChild, H.1.t0, gP_of H.1.t0 H.1.p0_14, ek] <;> rfl
theorem m_childMany {R T : GR} {F : GF} {h : GH} {K : GK} {μ : Mm} {c : Nat} (H : MI R T F h K μ c) (w : WH h) : f_X12_childMany μ c = some (nI (cntP (isCh h) h.n)) := by
  have hn := w.1
  have hl : ∀ (f k : Nat), k ≤ h.n → h.n < k + f → lp_X12_childMany_4 f c (nI (cntP (isCh h) k)) (nI k) μ = some (nI (cntP (isCh h) h.n)) := by
    intro f
    induction f with
    | zero => intro k q1 q2; omega
    | succ f ih =>
      intro k q1 q2
      by_cases hk : k = h.n
      · have e : nI h.n ≤ nI k := by rw [hk]; exact Int32.le_refl _
        simp (config := { decide := true }) only [↓reduceIte, Option.bind_some, Option.bind_none, lp_X12_childMany_4, m_hev H, e]
        rw [hk]
      · have e : ¬ nI h.n ≤ nI k := nI_ge (by omega) (by omega)
        have hi := m_isChild H w (show k < h.n by omega)
        have hI := ih (k + 1) (by omega) (by omega)
        rw [cntP_s] at hI
        cases hb : isCh h k with
        | true =>
          rw [hb] at hi hI
          have hi' : f_X12_isChild μ c (nI k) = some 1 := hi
          have hI' : lp_X12_childMany_4 f c (nI (cntP (isCh h) k + 1)) (nI (k + 1)) μ = _ := hI
          simp (config := { decide := true }) only [↓reduceIte, Option.bind_some, Option.bind_none, lp_X12_childMany_4, m_hev H, e, hi', nI_1, hI']
        | false =>
          rw [hb] at hi hI
          have hi' : f_X12_isChild μ c (nI k) = some 0 := hi
          have hI' : lp_X12_childMany_4 f c (nI (cntP (isCh h) k)) (nI (k + 1)) μ = _ := hI
          simp (config := { decide := true }) only [↓reduceIte, Option.bind_some, Option.bind_none, lp_X12_childMany_4, m_hev H, e, hi', nI_1, nI_z, hI']
  have := hl BIG 0 (by omega) (by unfold BIG; omega)
  have e : lp_X12_childMany_4 BIG c 0 0 μ = _ := this
  simp (config := { decide := true }) only [↓reduceIte, Option.bind_some, Option.bind_none, f_X12_childMany, H.1.t0, e]
theorem g_kind {μ : Mm} {p k : Nat} (ht : tg μ p = ktg k) (hk : k < 6) : fv_2_kind μ p = some (nI k) := by
  rcases (show k = 0 ∨ k = 1 ∨ k = 2 ∨ k = 3 ∨ k = 4 ∨ k = 5 by omega) with rfl | rfl | rfl | rfl | rfl | rfl
  · have e : tg μ p = 3 := ht
    simp (config := { decide := true }) only [↓reduceIte, Option.bind_some, Option.bind_none, fv_2_kind, f_X2_kind, gt, e] <;> rfl
  · have e : tg μ p = 5 := ht
    simp (config := { decide := true }) only [↓reduceIte, Option.bind_some, Option.bind_none, fv_2_kind, f_X4_kind, e] <;> rfl
  · have e : tg μ p = 2 := ht
    simp (config := { decide := true }) only [↓reduceIte, Option.bind_some, Option.bind_none, fv_2_kind, f_X1_kind, e] <;> rfl
  · have e : tg μ p = 1 := ht
    simp (config := { decide := true }) only [↓reduceIte, Option.bind_some, Option.bind_none, fv_2_kind, f_X0_kind, e] <;> rfl
  · have e : tg μ p = 7 := ht
    simp (config := { decide := true }) only [↓reduceIte, Option.bind_some, Option.bind_none, fv_2_kind, f_X6_kind, e] <;> rfl
  · have e : tg μ p = 10 := ht
    simp (config := { decide := true }) only [↓reduceIte, Option.bind_some, Option.bind_none, fv_2_kind, f_X9_kind, e] <;> rfl
/-- what is asked of a guild -/
def det (h : GH) (g k : Nat) : Nat := if k = 0 then h.kd g else if k = 1 then h.ft g else if k = 2 then h.tr g else if k = 3 then bar (h.kd g) (h.ft g) else h.q.2.2.2.2.2 g
theorem x_detail {R T : GR} {F : GF} {h : GH} {K : GK} {μ : Mm} {a : Nat} (H : XI R T F h K μ a) (w : WH h) {g k : Nat} (hg : g < h.n) (hk : k ≤ 4) : f_X3_detail μ (a + 3) (nI g) (nI k) = some (nI (det h g k)) := by
  obtain ⟨gb, k1, k2, k3⟩ := x_guild H w
  obtain ⟨p1, p2, p3, p4⟩ := k3 g hg
  obtain ⟨w3, w4, w5⟩ := w.2.2.1 g hg
  have hgt : gt (tg μ (gb + g)) := by rw [p2]; exact ktg_gt w3
  have e0 : gG μ (gb + g) 0 = some (nI (h.ft g)) := by rw [← p3]; exact if_pos hgt
  have e1 : gG μ (gb + g) 1 = some (nI (h.q.2.2.2.2.2 g)) := by rw [← p4]; exact if_pos hgt
  rcases (show k = 0 ∨ k = 1 ∨ k = 2 ∨ k = 3 ∨ k = 4 by omega) with rfl | rfl | rfl | rfl | rfl <;>
    simp (config := { decide := true }) only [↓reduceIte, Option.bind_some, Option.bind_none, f_X3_detail, x_hev H, x_hasG_ok H w hg, p1, g_kind p2 w3, e0, e1, x_tread H w hg, g_bare p2 w3 p3 w4 w5, show nI 0 = 0 from rfl, show nI 1 = 1 from rfl, show nI 2 = 2 from rfl, show nI 3 = 3 from rfl, show nI 4 = 4 from rfl] <;> rfl
theorem m_detail {R T : GR} {F : GF} {h : GH} {K : GK} {μ : Mm} {c : Nat} (H : MI R T F h K μ c) (w : WH h) {g k : Nat} (hg : g < h.n) (hk : k ≤ 4) : f_X12_guildTells μ c (nI g) (nI k) = some (nI (det h g k)) := by
  have := w.1
  have e5 : (5 : Int32) + nI g = nI (5 + g) := nI_add 5 g
  rcases (show k = 0 ∨ k = 1 ∨ k = 2 ∨ k = 3 ∨ k = 4 by omega) with rfl | rfl | rfl | rfl | rfl <;>
    simp (config := { decide := true }) only [↓reduceIte, Option.bind_some, Option.bind_none, f_X12_guildTells, H.1.t0, gP_of H.1.t0 H.1.p0_1, gP_of H.1.t0 H.1.p0_5, gP_of H.1.t0 H.1.p0_6, gP_of H.1.t0 H.1.p0_7, gP_of H.1.t0 H.1.p0_8, gP_of H.1.t0 H.1.p0_9, gP_of H.1.t0 H.1.p0_14, gP_of H.1.t0 H.1.p0_15, gP_of H.1.t0 H.1.p0_21, gP_of H.1.t0 H.1.p0_22, gP_of H.1.t0 H.1.p0_23, gP_of H.1.t0 H.1.p0_24, gP_of H.1.t0 H.1.p0_26, gP_of H.1.t0 H.1.p0_27, gP_of H.1.t0 H.1.p0_28, gP_of H.1.t0 H.1.p0_29, gP_of H.1.t0 H.1.p0_30, gP_of H.1.t0 H.1.p0_31, gP_of H.1.t0 H.1.p0_32, gP_of H.1.t0 H.1.p0_33, gP_of H.1.t0 H.1.p0_40, gP_of H.1.t0 H.1.p0_41, gP_of H.1.t0 H.1.p0_46, gP_of H.1.t0 H.1.p0_47, gP_of H.1.t0 H.1.p0_48, m_kd H w hg, m_ft H w hg, m_tread H w hg, m_bare H w hg, e5, m_wk H (show g < 6 by omega), show nI 0 = 0 from rfl, show nI 1 = 1 from rfl, show nI 2 = 2 from rfl, show nI 3 = 3 from rfl, show nI 4 = 4 from rfl] <;> rfl
theorem PSI_guild : PS_guild INV := by
  intro μ a1 a2 q1 q2 hI
  refine both_of (fx := fun μ a => f_X11_guild μ a q1 q2) (fm := fun μ c => f_X12_guild μ c q1 q2) ?_ μ a1 a2 hI
  intro R T F h K hw
  have w := hw.2.2.1
  rcases ix2 q1 h.n (by have := w.1; omega) with h1 | ⟨g, hg, rfl⟩
  · refine ⟨-1, R, T, F, h, K, hw, fun μ a H => XO.same H ?_, fun μ c H => MO.same H ?_⟩
    · simp (config := { decide := true }) only [↓reduceIte, Option.bind_some, Option.bind_none, f_X11_guild, H.1.t0, gP_of H.1.t0 H.1.p0_0, gP_of H.1.t0 H.1.p0_1, gP_of H.1.t0 H.1.p0_2, gP_of H.1.t0 H.1.p0_3, gP_of H.1.t0 H.1.p0_4, gP_of H.1.t0 H.1.p0_5, gP_of H.1.t0 H.1.p0_6, gP_of H.1.t0 H.1.p0_7, gP_of H.1.t0 H.1.p0_8, gP_of H.1.t0 H.1.p0_9, x_hasG_bad H h1]
    · simp (config := { decide := true }) only [↓reduceIte, Option.bind_some, Option.bind_none, f_X12_guild, H.1.t0, gP_of H.1.t0 H.1.p0_1, gP_of H.1.t0 H.1.p0_5, gP_of H.1.t0 H.1.p0_6, gP_of H.1.t0 H.1.p0_7, gP_of H.1.t0 H.1.p0_8, gP_of H.1.t0 H.1.p0_9, gP_of H.1.t0 H.1.p0_14, gP_of H.1.t0 H.1.p0_15, gP_of H.1.t0 H.1.p0_21, gP_of H.1.t0 H.1.p0_22, gP_of H.1.t0 H.1.p0_23, gP_of H.1.t0 H.1.p0_24, gP_of H.1.t0 H.1.p0_26, gP_of H.1.t0 H.1.p0_27, gP_of H.1.t0 H.1.p0_28, gP_of H.1.t0 H.1.p0_29, gP_of H.1.t0 H.1.p0_30, gP_of H.1.t0 H.1.p0_31, gP_of H.1.t0 H.1.p0_32, gP_of H.1.t0 H.1.p0_33, gP_of H.1.t0 H.1.p0_40, gP_of H.1.t0 H.1.p0_41, gP_of H.1.t0 H.1.p0_46, gP_of H.1.t0 H.1.p0_47, gP_of H.1.t0 H.1.p0_48, m_isG_bad H w h1]
  rcases ix3 q2 5 (by decide) with h2 | ⟨h2, h3⟩ | ⟨k, hk, rfl⟩
  · refine ⟨-1, R, T, F, h, K, hw, fun μ a H => XO.same H ?_, fun μ c H => MO.same H ?_⟩
    · simp (config := { decide := true }) only [↓reduceIte, Option.bind_some, Option.bind_none, f_X11_guild, H.1.t0, gP_of H.1.t0 H.1.p0_0, gP_of H.1.t0 H.1.p0_1, gP_of H.1.t0 H.1.p0_2, gP_of H.1.t0 H.1.p0_3, gP_of H.1.t0 H.1.p0_4, gP_of H.1.t0 H.1.p0_5, gP_of H.1.t0 H.1.p0_6, gP_of H.1.t0 H.1.p0_7, gP_of H.1.t0 H.1.p0_8, gP_of H.1.t0 H.1.p0_9, x_hasG_ok H w hg, h2]
    · simp (config := { decide := true }) only [↓reduceIte, Option.bind_some, Option.bind_none, f_X12_guild, H.1.t0, gP_of H.1.t0 H.1.p0_1, gP_of H.1.t0 H.1.p0_5, gP_of H.1.t0 H.1.p0_6, gP_of H.1.t0 H.1.p0_7, gP_of H.1.t0 H.1.p0_8, gP_of H.1.t0 H.1.p0_9, gP_of H.1.t0 H.1.p0_14, gP_of H.1.t0 H.1.p0_15, gP_of H.1.t0 H.1.p0_21, gP_of H.1.t0 H.1.p0_22, gP_of H.1.t0 H.1.p0_23, gP_of H.1.t0 H.1.p0_24, gP_of H.1.t0 H.1.p0_26, gP_of H.1.t0 H.1.p0_27, gP_of H.1.t0 H.1.p0_28, gP_of H.1.t0 H.1.p0_29, gP_of H.1.t0 H.1.p0_30, gP_of H.1.t0 H.1.p0_31, gP_of H.1.t0 H.1.p0_32, gP_of H.1.t0 H.1.p0_33, gP_of H.1.t0 H.1.p0_40, gP_of H.1.t0 H.1.p0_41, gP_of H.1.t0 H.1.p0_46, gP_of H.1.t0 H.1.p0_47, gP_of H.1.t0 H.1.p0_48, m_isG_ok H w hg, f_X12_in, h2]
  · have e1 : ¬ q2 ≤ 4 := i_big (m := 4) h3 (by decide) (by decide)
    have e2 : 4 < q2 := i_big' (m := 4) h3 (by decide) (by decide)
    refine ⟨-1, R, T, F, h, K, hw, fun μ a H => XO.same H ?_, fun μ c H => MO.same H ?_⟩
    · simp (config := { decide := true }) only [↓reduceIte, Option.bind_some, Option.bind_none, f_X11_guild, H.1.t0, gP_of H.1.t0 H.1.p0_0, gP_of H.1.t0 H.1.p0_1, gP_of H.1.t0 H.1.p0_2, gP_of H.1.t0 H.1.p0_3, gP_of H.1.t0 H.1.p0_4, gP_of H.1.t0 H.1.p0_5, gP_of H.1.t0 H.1.p0_6, gP_of H.1.t0 H.1.p0_7, gP_of H.1.t0 H.1.p0_8, gP_of H.1.t0 H.1.p0_9, x_hasG_ok H w hg, h2, e1]
    · simp (config := { decide := true }) only [↓reduceIte, Option.bind_some, Option.bind_none, f_X12_guild, H.1.t0, gP_of H.1.t0 H.1.p0_1, gP_of H.1.t0 H.1.p0_5, gP_of H.1.t0 H.1.p0_6, gP_of H.1.t0 H.1.p0_7, gP_of H.1.t0 H.1.p0_8, gP_of H.1.t0 H.1.p0_9, gP_of H.1.t0 H.1.p0_14, gP_of H.1.t0 H.1.p0_15, gP_of H.1.t0 H.1.p0_21, gP_of H.1.t0 H.1.p0_22, gP_of H.1.t0 H.1.p0_23, gP_of H.1.t0 H.1.p0_24, gP_of H.1.t0 H.1.p0_26, gP_of H.1.t0 H.1.p0_27, gP_of H.1.t0 H.1.p0_28, gP_of H.1.t0 H.1.p0_29, gP_of H.1.t0 H.1.p0_30, gP_of H.1.t0 H.1.p0_31, gP_of H.1.t0 H.1.p0_32, gP_of H.1.t0 H.1.p0_33, gP_of H.1.t0 H.1.p0_40, gP_of H.1.t0 H.1.p0_41, gP_of H.1.t0 H.1.p0_46, gP_of H.1.t0 H.1.p0_47, gP_of H.1.t0 H.1.p0_48, m_isG_ok H w hg, f_X12_in, h2, e2]
  · have e1 : nI k ≤ 4 := (show nI k ≤ nI 4 from nI_le (by omega) (by decide))
    have e2 : ¬ 4 < nI k := (show ¬ nI 4 < nI k from nI_nlt (by omega) (by decide))
    have e3 : ¬ nI k < 0 := nI_pos (by omega)
    refine ⟨1, R, T, tel F (nI (det h g k)), h, K, hw, fun μ a H => XO.tell H ?_, fun μ c H => MO.tell H ?_⟩
    · simp (config := { decide := true }) only [↓reduceIte, Option.bind_some, Option.bind_none, f_X11_guild, H.1.t0, gP_of H.1.t0 H.1.p0_0, gP_of H.1.t0 H.1.p0_1, gP_of H.1.t0 H.1.p0_2, gP_of H.1.t0 H.1.p0_3, gP_of H.1.t0 H.1.p0_4, gP_of H.1.t0 H.1.p0_5, gP_of H.1.t0 H.1.p0_6, gP_of H.1.t0 H.1.p0_7, gP_of H.1.t0 H.1.p0_8, gP_of H.1.t0 H.1.p0_9, x_hasG_ok H w hg, e3, e1, x_detail H w hg (show k ≤ 4 by omega), x_tell H.1]
    · simp (config := { decide := true }) only [↓reduceIte, Option.bind_some, Option.bind_none, f_X12_guild, H.1.t0, gP_of H.1.t0 H.1.p0_1, gP_of H.1.t0 H.1.p0_5, gP_of H.1.t0 H.1.p0_6, gP_of H.1.t0 H.1.p0_7, gP_of H.1.t0 H.1.p0_8, gP_of H.1.t0 H.1.p0_9, gP_of H.1.t0 H.1.p0_14, gP_of H.1.t0 H.1.p0_15, gP_of H.1.t0 H.1.p0_21, gP_of H.1.t0 H.1.p0_22, gP_of H.1.t0 H.1.p0_23, gP_of H.1.t0 H.1.p0_24, gP_of H.1.t0 H.1.p0_26, gP_of H.1.t0 H.1.p0_27, gP_of H.1.t0 H.1.p0_28, gP_of H.1.t0 H.1.p0_29, gP_of H.1.t0 H.1.p0_30, gP_of H.1.t0 H.1.p0_31, gP_of H.1.t0 H.1.p0_32, gP_of H.1.t0 H.1.p0_33, gP_of H.1.t0 H.1.p0_40, gP_of H.1.t0 H.1.p0_41, gP_of H.1.t0 H.1.p0_46, gP_of H.1.t0 H.1.p0_47, gP_of H.1.t0 H.1.p0_48, m_isG_ok H w hg, f_X12_in, e2, e3, m_detail H w hg (show k ≤ 4 by omega), m_tell H.1]
