/-! ===== guild, mark, shoe ===== -/
/-- how many of the first -/
def cntP (P : Nat → Bool) : Nat → Nat
  | 0 => 0
  | k+1 => cntP P k + b1 (P k)
theorem cntP_s (P : Nat → Bool) (k : Nat) : cntP P (k + 1) = cntP P k + b1 (P k) := rfl
theorem cntP_le (P : Nat → Bool) (n : Nat) : cntP P n ≤ n := by
  induction n with
  | zero => exact Nat.le_refl _
  | succ n ih => unfold cntP; have := b1_le (P n); omega
theorem ktg_in {k : Nat} (hk : k < 6) : (ktg k ∈ [5, 7] ↔ (decide (k = 1) || decide (k = 4)) = true) ∧ (ktg k ∈ [2, 10] ↔ (decide (k = 2) || decide (k = 5)) = true) ∧ (ktg k ∈ [1] ↔ k = 3) ∧ (ktg k ∈ [7] ↔ k = 4) ∧ (ktg k ∈ [10] ↔ k = 5) := by
  rcases (show k = 0 ∨ k = 1 ∨ k = 2 ∨ k = 3 ∨ k = 4 ∨ k = 5 by omega) with rfl | rfl | rfl | rfl | rfl | rfl <;> decide
def isHv (h : GH) (g : Nat) : Bool := decide (h.kd g = 1) || decide (h.kd g = 4)
def isCh (h : GH) (g : Nat) : Bool := decide (h.kd g = 2) || decide (h.kd g = 5)
def isSt (h : GH) (g : Nat) : Bool := decide (h.tr g = 0)
theorem g_ins {μ : Mm} {p k : Nat} {ys : List Nat} {b : Bool} (ht : tg μ p = ktg k) (hk : k < 6) (hb : ktg k ∈ ys ↔ b = true) : ins μ p ys = some (nI (b1 b)) := by
  have hg := ktg_gt hk
  unfold ins
  rw [ht, if_pos hg]
  cases b with
  | true => rw [if_pos (hb.mpr rfl)]; rfl
  | false => rw [if_neg (fun q => by have := hb.mp q; cases this)]; rfl
theorem g_cst {μ : Mm} {p k : Nat} {ys : List Nat} (ht : tg μ p = ktg k) (hb : ktg k ∈ ys) : cst μ p ys = some () := by
  unfold cst
  rw [ht, if_pos hb]
theorem nI_z (n : Nat) : nI n + 0 = nI n := by
  rw [show (0 : Int32) = nI 0 from rfl, nI_add]; rfl
theorem x_countHeavy {R T : GR} {F : GF} {h : GH} {K : GK} {μ : Mm} {a : Nat} (H : XI R T F h K μ a) (w : WH h) : f_X3_countHeavy μ (a + 3) = some (nI (cntP (isHv h) h.n)) := by
  have hn := w.1
  obtain ⟨gb, k1, k2, k3⟩ := x_guild H w
  have hl : ∀ (f k : Nat), k ≤ h.n → h.n < k + f → lp_X3_countHeavy_4 f (a + 3) (nI (cntP (isHv h) k)) (nI k) μ = some (nI (cntP (isHv h) h.n)) := by
    intro f
    induction f with
    | zero => intro k q1 q2; omega
    | succ f ih =>
      intro k q1 q2
      by_cases hk : k = h.n
      · have e : nI h.n ≤ nI k := by rw [hk]; exact Int32.le_refl _
        simp (config := { decide := true }) only [↓reduceIte, Option.bind_some, Option.bind_none, lp_X3_countHeavy_4, x_hev H, e]
        rw [hk]
      · have e : ¬ nI h.n ≤ nI k := nI_ge (by omega) (by omega)
        obtain ⟨p1, p2, p3, p4⟩ := k3 k (by omega)
        have hi : ins μ (gb + k) [5, 7] = some (nI (b1 (isHv h k))) := g_ins p2 (w.2.2.1 k (by omega)).1 (ktg_in (w.2.2.1 k (by omega)).1).1
        have hI := ih (k + 1) (by omega) (by omega)
        rw [cntP_s] at hI
        cases hb : isHv h k with
        | true =>
          rw [hb] at hi hI
          have hi' : ins μ (gb + k) [5, 7] = some 1 := hi
          have hI' : lp_X3_countHeavy_4 f (a + 3) (nI (cntP (isHv h) k + 1)) (nI (k + 1)) μ = _ := hI
          simp (config := { decide := true }) only [↓reduceIte, Option.bind_some, Option.bind_none, lp_X3_countHeavy_4, x_hev H, e, p1, hi', nI_1, hI']
        | false =>
          rw [hb] at hi hI
          have hi' : ins μ (gb + k) [5, 7] = some 0 := hi
          have hI' : lp_X3_countHeavy_4 f (a + 3) (nI (cntP (isHv h) k)) (nI (k + 1)) μ = _ := hI
          simp (config := { decide := true }) only [↓reduceIte, Option.bind_some, Option.bind_none, lp_X3_countHeavy_4, x_hev H, e, p1, hi', nI_1, nI_z, hI']
  have := hl BIG 0 (by omega) (by unfold BIG; omega)
  have e : lp_X3_countHeavy_4 BIG (a + 3) 0 0 μ = _ := this
  simp (config := { decide := true }) only [↓reduceIte, Option.bind_some, Option.bind_none, f_X3_countHeavy, x_hev H, e]
theorem g_kind {μ : Mm} {p k : Nat} (ht : tg μ p = ktg k) (hk : k < 6) : fv_2_kind μ p = some (nI k) := by
  rcases (show k = 0 ∨ k = 1 ∨ k = 2 ∨ k = 3 ∨ k = 4 ∨ k = 5 by omega) with rfl | rfl | rfl | rfl | rfl | rfl
  · have e : tg μ p = 3 := ht
    simp (config := { decide := true }) only [↓reduceIte, Option.bind_some, Option.bind_none, fv_2_kind, f_X2_kind, gt, e] <;> rfl
  · have e : tg μ p = 5 := ht
    simp (config := { decide := true }) only [↓reduceIte, Option.bind_some, Option.bind_none, fv_2_kind, f_X4_kind, e] <;> rfl
  · have e : tg μ p = 2 := ht
    simp (config := { decide := true }) only [↓reduceIte, Option.bind_some, Option.bind_none, fv_2_kind, f_X1_kind, e] <;> rfl
  · have e : tg μ p = 1 := ht
    simp (config := { decide := true }) only [↓reduceIte, Option.bind_some, Option.bind_none, fv_2_kind, f_X0_kind, e] <;> rfl
  · have e : tg μ p = 7 := ht
    simp (config := { decide := true }) only [↓reduceIte, Option.bind_some, Option.bind_none, fv_2_kind, f_X6_kind, e] <;> rfl
  · have e : tg μ p = 10 := ht
    simp (config := { decide := true }) only [↓reduceIte, Option.bind_some, Option.bind_none, fv_2_kind, f_X9_kind, e] <;> rfl
/-- what is asked of a guild -/
def det (h : GH) (g k : Nat) : Nat := if k = 0 then h.kd g else if k = 1 then h.ft g else if k = 2 then h.tr g else if k = 3 then bar (h.kd g) (h.ft g) else h.q.2.2.2.2.2 g
theorem x_detail {R T : GR} {F : GF} {h : GH} {K : GK} {μ : Mm} {a : Nat} (H : XI R T F h K μ a) (w : WH h) {g k : Nat} (hg : g < h.n) (hk : k ≤ 4) : f_X3_detail μ (a + 3) (nI g) (nI k) = some (nI (det h g k)) := by
  obtain ⟨gb, k1, k2, k3⟩ := x_guild H w
  obtain ⟨p1, p2, p3, p4⟩ := k3 g hg
  obtain ⟨w3, w4, w5⟩ := w.2.2.1 g hg
  have hgt : gt (tg μ (gb + g)) := by rw [p2]; exact ktg_gt w3
  have e0 : gG μ (gb + g) 0 = some (nI (h.ft g)) := by rw [← p3]; exact if_pos hgt
  have e1 : gG μ (gb + g) 1 = some (nI (h.q.2.2.2.2.2 g)) := by rw [← p4]; exact if_pos hgt
  rcases (show k = 0 ∨ k = 1 ∨ k = 2 ∨ k = 3 ∨ k = 4 by omega) with rfl | rfl | rfl | rfl | rfl <;>
    simp (config := { decide := true }) only [↓reduceIte, Option.bind_some, Option.bind_none, f_X3_detail, x_hev H, x_hasG_ok H w hg, p1, g_kind p2 w3, e0, e1, x_tread H w hg, g_bare p2 w3 p3 w4 w5, show nI 0 = 0 from rfl, show nI 1 = 1 from rfl, show nI 2 = 2 from rfl, show nI 3 = 3 from rfl, show nI 4 = 4 from rfl] <;> rfl