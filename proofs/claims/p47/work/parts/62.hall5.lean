/-! ===== rent; the greatest divisor; ratios; both ===== -/
theorem x_rent_l {R T : GR} {F : GF} {h : GH} {K : GK} {μ : Mm} {a t : Nat} (H : XI R T F h K μ a) (w : WH h) (h0 : ¬ h.n = 0) (ht : t ≤ 18) : ∀ (m f k : Nat), k + m = h.te + 1 → m < f → lp_X11_rent_24 f a (nI t) (nI k) μ = some (ofo (fst (fun k => isr h.rs ((h.q.1 + k * t) % h.te)) m k)) := by
  have t1 := w.te_ge h0
  have t2 := w.te_lt
  have t3 := w.now_lt h0
  intro m
  induction m with
  | zero =>
    intro f k h1 h2
    obtain ⟨f, rfl⟩ : ∃ g, f = g + 1 := ⟨f - 1, by omega⟩
    have e : nI h.te < nI k := nI_lt (by omega) (by omega)
    simp (config := { decide := true }) only [↓reduceIte, Option.bind_some, Option.bind_none, lp_X11_rent_24, H.1.t0, gP_of H.1.t0 H.1.p0_0, gP_of H.1.t0 H.1.p0_1, gP_of H.1.t0 H.1.p0_2, gP_of H.1.t0 H.1.p0_3, gP_of H.1.t0 H.1.p0_4, gP_of H.1.t0 H.1.p0_5, gP_of H.1.t0 H.1.p0_6, gP_of H.1.t0 H.1.p0_7, gP_of H.1.t0 H.1.p0_8, gP_of H.1.t0 H.1.p0_9, x_hev H, e] <;> rfl
  | succ m ih =>
    intro f k h1 h2
    obtain ⟨f, rfl⟩ : ∃ g, f = g + 1 := ⟨f - 1, by omega⟩
    have e : ¬ nI h.te < nI k := nI_nlt (by omega) (by omega)
    have hk : k * t ≤ 61 * 18 := Nat.mul_le_mul (by omega) ht
    have hmod := Nat.mod_lt (h.q.1 + k * t) (show 0 < h.te by omega)
    have er := x_rentAt H w hmod
    unfold fst
    cases hp : isr h.rs ((h.q.1 + k * t) % h.te) with
    | true =>
      rw [hp] at er
      have er' : f_X3_hasRentAt μ (a + 3) (nI ((h.q.1 + k * t) % h.te)) = some 1 := er
      simp (config := { decide := true }) only [↓reduceIte, Option.bind_some, Option.bind_none, lp_X11_rent_24, H.1.t0, gP_of H.1.t0 H.1.p0_0, gP_of H.1.t0 H.1.p0_1, gP_of H.1.t0 H.1.p0_2, gP_of H.1.t0 H.1.p0_3, gP_of H.1.t0 H.1.p0_4, gP_of H.1.t0 H.1.p0_5, gP_of H.1.t0 H.1.p0_6, gP_of H.1.t0 H.1.p0_7, gP_of H.1.t0 H.1.p0_8, gP_of H.1.t0 H.1.p0_9, x_hev H, e, pk_mul, nI_add, x_wrap H w h0 (show h.q.1 + k * t < 2 ^ 31 by omega), er'] <;> rfl
    | false =>
      rw [hp] at er
      have er' : f_X3_hasRentAt μ (a + 3) (nI ((h.q.1 + k * t) % h.te)) = some 0 := er
      have := ih f (k + 1) (by omega) (by omega)
      simp (config := { decide := true }) only [↓reduceIte, Option.bind_some, Option.bind_none, lp_X11_rent_24, H.1.t0, gP_of H.1.t0 H.1.p0_0, gP_of H.1.t0 H.1.p0_1, gP_of H.1.t0 H.1.p0_2, gP_of H.1.t0 H.1.p0_3, gP_of H.1.t0 H.1.p0_4, gP_of H.1.t0 H.1.p0_5, gP_of H.1.t0 H.1.p0_6, gP_of H.1.t0 H.1.p0_7, gP_of H.1.t0 H.1.p0_8, gP_of H.1.t0 H.1.p0_9, x_hev H, e, pk_mul, nI_add, x_wrap H w h0 (show h.q.1 + k * t < 2 ^ 31 by omega), er', nI_1, this] <;> rfl
theorem it_step {q te t k : Nat} (hk : 1 ≤ k) : ((q + (k - 1) * t) % te + t) % te = (q + k * t) % te := by
  rw [Nat.mod_add_mod]
  obtain ⟨k', rfl⟩ : ∃ k', k = k' + 1 := ⟨k - 1, by omega⟩
  rw [Nat.add_sub_cancel, Nat.succ_mul]
  congr 1
  omega
-- the greatest divisor
theorem x_gcd_l (μ : Mm) : ∀ (m a b k f : Nat), a < 2 ^ 62 → b < 2 ^ m → b < 2 ^ 62 → k + 2 * m ≤ 100 → 2 * m < f → lp_X11_greatestDivisor_9 f (lN a) (lN b) (nI k) μ = some (lN (Nat.gcd a b)) := by
  intro m
  induction m with
  | zero =>
    intro a b k f ha hb hb2 hk hf
    obtain ⟨f, rfl⟩ : ∃ g, f = g + 1 := ⟨f - 1, by omega⟩
    have h0 : b = 0 := by omega
    subst h0
    rw [Nat.gcd_zero_right]
    by_cases hk1 : k = 100
    · subst hk1
      have e : (100 : Int32) ≤ nI 100 := Int32.le_refl _
      simp (config := { decide := true }) only [↓reduceIte, Option.bind_some, Option.bind_none, lp_X11_greatestDivisor_9, e]
    · have e : ¬ (100 : Int32) ≤ nI k := (show ¬ nI 100 ≤ nI k from nI_ge (by omega) (by decide))
      simp (config := { decide := true }) only [↓reduceIte, Option.bind_some, Option.bind_none, lp_X11_greatestDivisor_9, e, lg_cmp_eq, show lN 0 = 0 from rfl]
  | succ m ih =>
    intro a b k f ha hb hb2 hk hf
    obtain ⟨f, rfl⟩ : ∃ g, f = g + 2 := ⟨f - 2, by omega⟩
    have e : ¬ (100 : Int32) ≤ nI k := (show ¬ nI 100 ≤ nI k from nI_ge (by omega) (by decide))
    have e1 : ¬ (100 : Int32) ≤ nI (k + 1) := (show ¬ nI 100 ≤ nI (k + 1) from nI_ge (by omega) (by decide))
    by_cases h0 : b = 0
    · subst h0
      rw [Nat.gcd_zero_right]
      simp (config := { decide := true }) only [↓reduceIte, Option.bind_some, Option.bind_none, lp_X11_greatestDivisor_9, e, lg_cmp_eq, show lN 0 = 0 from rfl]
    have hb0 : ¬ lN b = 0 := fun q => h0 ((pk_lEQ (b := 0) (by omega) (by decide)).mp q)
    have hr := Nat.mod_lt a (show 0 < b by omega)
    have em := pk_lRem (a := a) (b := b) (by omega) (by omega) (by omega)
    by_cases h1 : a % b = 0
    · have hg : Nat.gcd a b = b := by rw [Nat.gcd_comm, Nat.gcd_rec, h1, Nat.gcd_zero_left]
      rw [hg]
      simp (config := { decide := true }) only [↓reduceIte, Option.bind_some, Option.bind_none, lp_X11_greatestDivisor_9, e, e1, lg_cmp_eq, hb0, em, h1, nI_1, show lN 0 = 0 from rfl]
    have hr0 : ¬ lN (a % b) = 0 := fun q => h1 ((pk_lEQ (b := 0) (by omega) (by decide)).mp q)
    have em2 := pk_lRem (a := b) (b := a % b) (by omega) (by omega) (by omega)
    have hr2 := Nat.mod_lt b (show 0 < a % b by omega)
    have hsm : 2 * (b % (a % b)) < b := by
      have d1 := Nat.div_add_mod b (a % b)
      have d2 : 1 ≤ b / (a % b) := (Nat.le_div_iff_mul_le (by omega)).mpr (by omega)
      have d3 : a % b ≤ (a % b) * (b / (a % b)) := Nat.le_mul_of_pos_right _ d2
      omega
    have hp2 : 2 ^ (m + 1) = 2 * 2 ^ m := by rw [Nat.pow_succ]; omega
    have := ih (a % b) (b % (a % b)) (k + 2) f (by omega) (by omega) (by omega) (by omega) (by omega)
    have hg : Nat.gcd (a % b) (b % (a % b)) = Nat.gcd a b := by
      rw [Nat.gcd_comm, ← Nat.gcd_rec, ← Nat.gcd_rec, Nat.gcd_comm]
    rw [hg] at this
    simp (config := { decide := true }) only [↓reduceIte, Option.bind_some, Option.bind_none, lp_X11_greatestDivisor_9, e, e1, lg_cmp_eq, hb0, hr0, em, em2, nI_1, this]
theorem x_gcd (μ : Mm) {a b : Nat} (ha : a < 2 ^ 40) (hb : b < 2 ^ 40) : f_X11_greatestDivisor μ (lN a) (lN b) = some (lN (Nat.gcd a b)) := by
  have e : lp_X11_greatestDivisor_9 BIG (lN a) (lN b) 0 μ = _ := x_gcd_l μ 40 a b 0 BIG (by omega) hb (by omega) (by decide) (by unfold BIG; omega)
  simp (config := { decide := true }) only [↓reduceIte, Option.bind_some, Option.bind_none, f_X11_greatestDivisor, e]
/-- a ratio told -/
def xrat (μ : Mm) (a u l : Nat) : Mm := sL (sL μ a 12 (lN (u / Nat.gcd u l))) a 13 (lN (l / Nat.gcd u l))
theorem gcd_pos {u l : Nat} (hl : 0 < l) : 0 < Nat.gcd u l := Nat.pos_of_ne_zero fun q => by
  have := Nat.gcd_dvd_right u l
  rw [q] at this
  have := Nat.eq_zero_of_zero_dvd this
  omega
theorem gcd_le {u l : Nat} (hl : 0 < l) : Nat.gcd u l ≤ l := Nat.le_of_dvd hl (Nat.gcd_dvd_right u l)
theorem x_rat {μ : Mm} {a u l : Nat} (hL : LX μ a) (hu : u < 2 ^ 40) (hl : l < 2 ^ 40) (h0 : 0 < l) : f_X11_tellRatio μ a (lN u) (lN l) = some (1, xrat μ a u l) := by
  have g1 := gcd_pos (u := u) h0
  have g2 := gcd_le (u := u) h0
  have e1 : (0 : Int32) ≤ lg_cmp (lN (Nat.gcd u l)) 1 := (lg_cmp_ge _ _).mpr ((pk_lLE (a := 1) (by decide) (by omega)).mpr g1)
  have e2 : ¬ lN (Nat.gcd u l) = 0 := fun q => by have := (pk_lEQ (b := 0) (show Nat.gcd u l < 2 ^ 63 by omega) (by decide)).mp q; omega
  have hL' : LX (sL μ a 12 (lN (u / Nat.gcd u l))) a := hL
  simp (config := { decide := true }) only [↓reduceIte, Option.bind_some, Option.bind_none, f_X11_tellRatio, hL.t0, x_gcd μ hu hl, e1, e2, pk_lDiv (show u < 2 ^ 63 by omega) g1 (show Nat.gcd u l < 2 ^ 63 by omega), pk_lDiv (show l < 2 ^ 63 by omega) g1 (show Nat.gcd u l < 2 ^ 63 by omega), pL_of hL.t0, pL_of hL'.t0] <;> rfl
theorem XI.rat {R T : GR} {F : GF} {h : GH} {K : GK} {μ : Mm} {a u l : Nat} (H : XI R T F h K μ a) : XI R T (rat F (lN (u / Nat.gcd u l)) (lN (l / Nat.gcd u l))) h K (xrat μ a u l) a := by
  refine H.fupd (fun b h1 h2 _ => ((Sm.rf μ b).sL h1).sL h1) H.1 ?_ (Nat.le_refl _)
  obtain ⟨g1, g2, g3, g4, g5⟩ := H.2.2.2.1
  refine ⟨g1, g2, g3, ?_, ?_⟩
  · unfold xrat; rw [mL_nk (by decide), mL_eq]; rfl
  · unfold xrat; rw [mL_eq]; rfl