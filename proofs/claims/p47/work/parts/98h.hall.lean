/-! ===== hall ===== -/
theorem LX.mv2 {μ μ' : Mm} {a : Nat} (h : LX μ a) (hs : ∀ b, a ≤ b → b < a + 59 → tg μ' b = tg μ b ∧ ln μ' b = ln μ b ∧ (b ≠ a + 4 → ∀ j, mP μ' b j = mP μ b j)) : LX μ' a := by
  refine ⟨fun q hq => ?_, fun q hq => ?_, fun q hq => ?_⟩
  · have hb : q.1 < 59 := (show ∀ q ∈ tgX, q.1 < 59 by decide) q hq
    rw [(hs (a + q.1) (by omega) (by omega)).1]
    exact h.1 q hq
  · have hb : q.1 < 59 := (show ∀ q ∈ lnX, q.1 < 59 by decide) q hq
    rw [(hs (a + q.1) (by omega) (by omega)).2.1]
    exact h.2.1 q hq
  · have hb : q.1 < 59 ∧ q.1 ≠ 4 := (show ∀ q ∈ ptX, q.1 < 59 ∧ q.1 ≠ 4 by decide) q hq
    rw [(hs (a + q.1) (by omega) (by omega)).2.2 (by omega)]
    exact h.2.2 q hq
/-- a new guild -/
def gnew (μ : Mm) (k f : Nat) : Mm := sI (sI (nw μ (ktg k) 0) (hz μ) 1 0) (hz μ) 0 (nI f)
theorem g_init {μ : Mm} {b : Nat} {v : Int32} (ht : gt (tg μ b)) : f_X2_init μ b v = some (sI (sI μ b 1 0) b 0 v) := by
  unfold f_X2_init pG
  rw [if_pos ht, if_pos ht, Option.bind_some, if_pos (show gt (tg (sI μ b 1 0) b) from ht), Option.bind_some]
theorem x_newG {μ : Mm} {k f : Nat} (hk : k < 6) : f_X3_newGuild μ (nI k) (nI f) = some (hz μ, gnew μ k f) := by
  have tn : ∀ t, tg (nw μ t 0) (hz μ) = t := fun t => by rw [tg_nw, if_pos rfl]
  have hg : ∀ t, gt t → f_X2_init (nw μ t 0) (hz μ) (nI f) = some (sI (sI (nw μ t 0) (hz μ) 1 0) (hz μ) 0 (nI f)) := fun t q => g_init (by rw [tn]; exact q)
  have h1 := hg 1 (by decide)
  have h2 := hg 2 (by decide)
  have h3 := hg 3 (by decide)
  have h5 := hg 5 (by decide)
  have h7 := hg 7 (by decide)
  have h10 := hg 10 (by decide)
  rcases (show k = 0 ∨ k = 1 ∨ k = 2 ∨ k = 3 ∨ k = 4 ∨ k = 5 by omega) with rfl | rfl | rfl | rfl | rfl | rfl
  · simp (config := { decide := true }) only [↓reduceIte, Option.bind_some, Option.bind_none, f_X3_newGuild, show nI 0 = 0 from rfl, h3] <;> rfl
  · simp (config := { decide := true }) only [↓reduceIte, Option.bind_some, Option.bind_none, f_X3_newGuild, show nI 1 = 1 from rfl, f_X4_init, tn, h5] <;> rfl
  · simp (config := { decide := true }) only [↓reduceIte, Option.bind_some, Option.bind_none, f_X3_newGuild, show nI 2 = 2 from rfl, f_X1_init, tn, h2] <;> rfl
  · simp (config := { decide := true }) only [↓reduceIte, Option.bind_some, Option.bind_none, f_X3_newGuild, show nI 3 = 3 from rfl, f_X0_init, tn, h1] <;> rfl
  · simp (config := { decide := true }) only [↓reduceIte, Option.bind_some, Option.bind_none, f_X3_newGuild, show nI 4 = 4 from rfl, f_X6_init, f_X4_init, tn, h7] <;> rfl
  · simp (config := { decide := true }) only [↓reduceIte, Option.bind_some, Option.bind_none, f_X3_newGuild, show nI 5 = 5 from rfl, f_X9_init, f_X1_init, tn, h10] <;> rfl
def Bd (P : PS) (μ2 : Mm) (a g : Nat) (μ : Mm) : Prop := hz μ = hz μ2 + g ∧ (∀ b, b ≠ a + 4 → b < hz μ2 → Sm μ2 μ b) ∧ tg μ (a + 4) = 24 ∧ ln μ (a + 4) = 6 ∧ ∀ x, x < g → mP μ (a + 4) x = some (hz μ2 + x) ∧ tg μ (hz μ2 + x) = ktg (P.kd x) ∧ mI μ (hz μ2 + x) 0 = nI (P.ft x) ∧ mI μ (hz μ2 + x) 1 = 0
theorem x_bd34 {P : PS} {μ2 : Mm} {a : Nat} (hL : LX μ2 a) (hz2 : a + 59 ≤ hz μ2) (hP : PW' P) (h2 : mI μ2 (a + 3) 2 = nI P.n) (hk : ∀ x, x < P.n → mI μ2 (a + 19) x = nI (P.kd x) ∧ mI μ2 (a + 20) x = nI (P.ft x)) : ∀ (f g : Nat) (μ : Mm), g ≤ P.n → P.n < g + f → Bd P μ2 a g μ → ∃ μ', lp_X3_build_34 f (a + 3) (a + 18) (nI g) μ = some μ' ∧ Bd P μ2 a P.n μ' := by
  have hn6 := hP.1
  intro f
  induction f with
  | zero => intro g μ q1 q2; omega
  | succ f ih =>
    intro g μ q1 q2 hb
    obtain ⟨b1', b2, b3, b4, b5⟩ := hb
    have s3 := b2 (a + 3) (by omega) (by omega)
    have s18 := b2 (a + 18) (by omega) (by omega)
    have s19 := b2 (a + 19) (by omega) (by omega)
    have s20 := b2 (a + 20) (by omega) (by omega)
    have e2 : gI μ (a + 3) 4 2 = some (nI P.n) := gI_e (s3.1.trans hL.t3) ((s3.2.2.1 2).trans h2)
    by_cases e : g = P.n
    · have e1 : nI P.n ≤ nI g := by rw [e]; exact Int32.le_refl _
      refine ⟨μ, ?_, by rw [← e]; exact ⟨b1', b2, b3, b4, b5⟩⟩
      simp (config := { decide := true }) only [↓reduceIte, Option.bind_some, Option.bind_none, lp_X3_build_34, e2, e1]
    · have hg : g < P.n := by omega
      have e1 : ¬ nI P.n ≤ nI g := nI_ge hg (by omega)
      obtain ⟨k1, k2⟩ := hk g hg
      have eg0 : gP μ (a + 3) 4 0 = some (a + 4) := gP_of (s3.1.trans hL.t3) ((s3.2.2.2.2 0).trans hL.p3_0)
      have er0 : gP μ (a + 18) 6 0 = some (a + 19) := gP_of (s18.1.trans hL.t18) ((s18.2.2.2.2 0).trans hL.p18_0)
      have er1 : gP μ (a + 18) 6 1 = some (a + 20) := gP_of (s18.1.trans hL.t18) ((s18.2.2.2.2 1).trans hL.p18_1)
      have ea : aI μ (a + 19) 21 (nI g) = some (nI (P.kd g)) := by rw [aI_of (s19.1.trans hL.t19) (by rw [s19.2.1, hL.n19]; omega) (by omega), s19.2.2.1, k1]
      have eb : aI μ (a + 20) 21 (nI g) = some (nI (P.ft g)) := by rw [aI_of (s20.1.trans hL.t20) (by rw [s20.2.1, hL.n20]; omega) (by omega), s20.2.2.1, k2]
      have hkd := (hP.2.2.2.2 g hg).1
      have en := x_newG (μ := μ) (k := P.kd g) (f := P.ft g) hkd
      have hne : a + 4 ≠ hz μ := by omega
      have tg4 : tg (gnew μ (P.kd g) (P.ft g)) (a + 4) = 24 := by
        show tg (nw μ (ktg (P.kd g)) 0) (a + 4) = 24
        rw [tg_nw, if_neg hne, b3]
      have tgn : tg (gnew μ (P.kd g) (P.ft g)) (hz μ) = ktg (P.kd g) := by
        show tg (nw μ (ktg (P.kd g)) 0) (hz μ) = _
        rw [tg_nw, if_pos rfl]
      have ln4 : ln (gnew μ (P.kd g) (P.ft g)) (a + 4) = 6 := by
        show ln (nw μ (ktg (P.kd g)) 0) (a + 4) = 6
        rw [ln_nw, if_neg hne, b4]
      have eq : qG (gnew μ (P.kd g) (P.ft g)) (a + 4) (nI g) (hz μ) = some (sP (gnew μ (P.kd g) (P.ft g)) (a + 4) g (some (hz μ))) := by
        unfold qG
        rw [if_pos ⟨tg4, by rw [tgn]; exact ktg_gt hkd⟩, if_neg (nofr (by rw [ln4]; omega) (by omega)), nI_clamp (by omega)]
      have hbn : Bd P μ2 a (g + 1) (sP (gnew μ (P.kd g) (P.ft g)) (a + 4) g (some (hz μ))) := by
        refine ⟨?_, fun b h4 hb => ?_, tg4, ln4, fun x hx => ?_⟩
        · show hz μ + 1 = _; omega
        · have : Sm μ (sP (gnew μ (P.kd g) (P.ft g)) (a + 4) g (some (hz μ))) b := ((((Sm.rf μ b).nw (by omega)).sI (by omega)).sI (by omega)).sP h4
          exact (b2 b h4 hb).tr this
        · by_cases z : x = g
          · subst z
            have hzx : hz μ2 + x = hz μ := by omega
            rw [hzx]
            refine ⟨by rw [mP_sP, if_pos ⟨rfl, rfl⟩], tgn, ?_, ?_⟩
            · show mI (gnew μ (P.kd x) (P.ft x)) (hz μ) 0 = _
              unfold gnew
              rw [mI_eq]
            · show mI (gnew μ (P.kd x) (P.ft x)) (hz μ) 1 = _
              unfold gnew
              rw [mI_nk (by decide), mI_eq]
          · obtain ⟨y1, y2, y3, y4⟩ := b5 x (by omega)
            have hs : Sm μ (gnew μ (P.kd g) (P.ft g)) (hz μ2 + x) := (((Sm.rf μ _).nw (by omega)).sI (by omega)).sI (by omega)
            refine ⟨?_, hs.1.trans y2, (hs.2.2.1 0).trans y3, (hs.2.2.1 1).trans y4⟩
            rw [mP_sP, if_neg (fun q => z q.2)]
            show mP (nw μ (ktg (P.kd g)) 0) (a + 4) x = _
            rw [mP_nw, if_neg hne]
            exact y1
      obtain ⟨μ', y1, y2⟩ := ih (g + 1) _ (by omega) (by omega) hbn
      refine ⟨μ', ?_, y2⟩
      simp (config := { decide := true }) only [↓reduceIte, Option.bind_some, Option.bind_none, lp_X3_build_34, e2, e1, eg0, er0, er1, ea, eb, en, eq, nI_1, y1]
theorem x_cl57 {a : Nat} : ∀ (f k : Nat) (μ : Mm), k ≤ 3 → 3 < k + f → LX μ a → (∀ x, x < k → mI μ (a + 53 + 2 * x) 1 = -1) → ∃ μ', lp_X11_hall_57 f a (nI k) μ = some μ' ∧ LX μ' a ∧ (∀ x, x < 3 → mI μ' (a + 53 + 2 * x) 1 = -1) ∧ (∀ b, (b < a + 53 ∨ a + 59 ≤ b) → Sm μ μ' b) ∧ hz μ' = hz μ := by
  intro f
  induction f with
  | zero => intro k μ q1 q2; omega
  | succ f ih =>
    intro k μ q1 q2 hL hk
    by_cases e : k = 3
    · subst e
      have e1 : (3 : Int32) ≤ nI 3 := by decide
      refine ⟨μ, ?_, hL, hk, fun b _ => Sm.rf μ b, rfl⟩
      simp (config := { decide := true }) only [↓reduceIte, Option.bind_some, Option.bind_none, lp_X11_hall_57, e1]
    · have e1 : ¬ (3 : Int32) ≤ nI k := (show ¬ nI 3 ≤ nI k from nI_ge (by omega) (by decide))
      have ht := (hL.kept (show k < 3 by omega)).2.1
      obtain ⟨μ', y1, y2, y3, y4, y5⟩ := ih (k + 1) (sI μ (a + 53 + 2 * k) 1 (-1)) (by omega) (by omega) hL (fun x hx => by
        by_cases z : x = k
        · subst z; rw [mI_eq]
        · rw [mI_ne (by omega)]; exact hk x (by omega))
      refine ⟨μ', ?_, y2, y3, fun b hb => ((Sm.rf μ b).sI (by omega)).tr (y4 b hb), y5⟩
      simp (config := { decide := true }) only [↓reduceIte, Option.bind_some, Option.bind_none, lp_X11_hall_57, e1, gP_of hL.t0 hL.p0_3, hL.fk.get (show k < 3 by omega), f_X8_close, ht, pI_of ht, nI_1, y1]
/-- the new hall -/
def PS.h (P : PS) : GH := (P.n, P.te, P.rs, P.rm, P.kd, P.ft, [])
theorem PS.h_wh {P : PS} (hP : PW' P) (h1 : 1 ≤ P.n) (h2 : 12 ≤ P.te) : WH P.h := by
  obtain ⟨p1, p2, p3, p4, p5⟩ := hP
  have ht : P.te ≤ 60 := by
    rcases p3 with ⟨q, _⟩ | q
    · omega
    · exact q.2
  exact ⟨p1, Or.inr ⟨h1, h2, ht, p2, p4⟩, p5, by show (0 : Nat) ≤ 60; decide, fun s hs => by cases hs⟩
theorem x_hallok {R T : GR} {F : GF} {h : GH} {K : GK} {μ : Mm} {a j : Nat} {P : PS} (H : XI R T F h K μ a) (hP : PW' P) (h1 : 1 ≤ P.n) (h2 : 12 ≤ P.te) (hr : RX P j (-9) μ a) : ∃ μ', ((f_X3_build μ (a + 3) (a + 18)).bind fun x11 => (gP x11 a 12 2).bind fun x12 => (f_X3_replay x11 x12).bind fun x13 => (lp_X11_hall_57 BIG a (0 : Int32) x13).bind fun x18 => (gP x18 a 12 2).bind fun x19 => (gI x18 x19 4 2).bind fun x20 => some (x20, x18)) = some (nI P.n, μ') ∧ XI R T F P.h (fun _ => none) μ' a ∧ (∀ b, a + 59 ≤ b → b < a + 61 → Sm μ μ' b) ∧ hz μ ≤ hz μ' := by
  obtain ⟨e2, e3, e5, e6, e7, e4⟩ := rx_ev H hr
  obtain ⟨r1, r2, r3, r4, r5, r6, r7⟩ := hr
  have ht : P.te ≤ 60 := by
    rcases hP.2.2.1 with ⟨q, _⟩ | q
    · omega
    · exact q.2
  obtain ⟨g1, g2, g3, g4, g5, g6, g7⟩ := H
  obtain ⟨k1, k2, k3, k4, k5, k6, k7, k8, k9, k10, k11, k12, gb0, k13, k14, k15⟩ := g5
  -- the fields
  generalize hμ2 : sI (sL (sI (sI μ (a + 3) 2 (nI P.n)) (a + 3) 3 (nI P.te)) (a + 3) 11 P.rs) (a + 3) 4 (nI P.rm) = μ2
  have sm2 : ∀ b, b ≠ a + 3 → Sm μ μ2 b := fun b hb => by rw [← hμ2]; exact ((((Sm.rf μ b).sI hb).sI hb).sL hb).sI hb
  have hL2 : LX μ2 a := by rw [← hμ2]; exact g1
  have hz2 : hz μ2 = hz μ := by rw [← hμ2]; rfl
  have m2 : mI μ2 (a + 3) 2 = nI P.n := by
    rw [← hμ2, mI_nk (by decide)]
    show mI (sI (sI μ (a + 3) 2 (nI P.n)) (a + 3) 3 (nI P.te)) (a + 3) 2 = _
    rw [mI_nk (by decide), mI_eq]
  have m3 : mI μ2 (a + 3) 3 = nI P.te := by
    rw [← hμ2, mI_nk (by decide)]
    show mI (sI (sI μ (a + 3) 2 (nI P.n)) (a + 3) 3 (nI P.te)) (a + 3) 3 = _
    rw [mI_eq]
  have m4 : mI μ2 (a + 3) 4 = nI P.rm := by rw [← hμ2, mI_eq]
  have m11 : mL μ2 (a + 3) 11 = P.rs := by
    rw [← hμ2]
    show mL (sL (sI (sI μ (a + 3) 2 (nI P.n)) (a + 3) 3 (nI P.te)) (a + 3) 11 P.rs) (a + 3) 11 = _
    rw [mL_eq]
  have mo : ∀ j, j ≠ 2 → j ≠ 3 → j ≠ 4 → mI μ2 (a + 3) j = mI μ (a + 3) j := fun j q1 q2 q3 => by
    rw [← hμ2, mI_nk q3]
    show mI (sI (sI μ (a + 3) 2 (nI P.n)) (a + 3) 3 (nI P.te)) (a + 3) j = _
    rw [mI_nk q2, mI_nk q1]
  have hB0 : Bd P μ2 a 0 μ2 := ⟨rfl, fun b _ _ => Sm.rf μ2 b, hL2.t4, hL2.n4, fun x hx => absurd hx (Nat.not_lt_zero _)⟩
  obtain ⟨μ3, x1, b1', b2, b3, b4, b5⟩ := x_bd34 hL2 (by omega) hP m2 (fun x hx => by rw [(sm2 (a + 19) (by omega)).2.2.1, (sm2 (a + 20) (by omega)).2.2.1]; exact r7 x hx) 7 0 μ2 (Nat.zero_le _) (by have := hP.1; omega) hB0
  have x1' : lp_X3_build_34 7 (a + 3) (a + 18) 0 μ2 = some μ3 := x1
  have sm3 : ∀ b, b ≠ a + 4 → b < hz μ → Sm μ2 μ3 b := fun b q1 q2 => b2 b q1 (by omega)
  have hL3 : LX μ3 a := hL2.mv2 (fun b q1 q2 => by
    by_cases z : b = a + 4
    · subst z
      exact ⟨b3.trans hL2.t4.symm, b4.trans hL2.n4.symm, fun q => absurd rfl q⟩
    · have := sm3 b z (by omega)
      exact ⟨this.1, this.2.1, fun _ => this.2.2.2.2⟩)
  have eo := s_open (n := 0) (v := 0) hL3.t5 hL3.p5_0 hL3.t6 hL3.n6 (by decide) (show a + 5 ≠ a + 6 by omega) (Nat.zero_le _)
  have eo' : f_X8_open μ3 (a + 5) 0 0 = some (sR (sI μ3 (a + 5) 1 0) (a + 6) (fil (mI μ3 (a + 6)) 0 0)) := eo
  generalize hμ4 : sR (sI μ3 (a + 5) 1 0) (a + 6) (fil (mI μ3 (a + 6)) 0 0) = μ4 at eo'
  have sm4 : ∀ b, b ≠ a + 5 → b ≠ a + 6 → Sm μ3 μ4 b := fun b q1 q2 => by rw [← hμ4]; exact ((Sm.rf μ3 b).sI q1).sR q2
  have hL4 : LX μ4 a := by rw [← hμ4]; exact hL3
  have hz4 : hz μ4 = hz μ + P.n := by rw [← hμ4]; show hz μ3 = _; omega
  have m51 : mI μ4 (a + 5) 1 = 0 := by rw [← hμ4, mR_ne (by omega), mI_eq]
  have s3 : Sm μ2 μ4 (a + 3) := (sm3 (a + 3) (by omega) (by omega)).tr (sm4 _ (by omega) (by omega))
  have hS4 : XS P.n P.te P.rs P.rm P.kd P.ft (hz μ) (h.q.1, h.q.2.1, h.q.2.2.1, h.q.2.2.2.1, h.q.2.2.2.2.1, fun _ => 0) (wks h.sp) μ4 a := by
    have r : ∀ j, mI μ4 (a + 3) j = mI μ2 (a + 3) j := s3.2.2.1
    refine ⟨(r _).trans m2, (r _).trans m3, (r _).trans m4, (s3.2.2.2.1 _).trans m11, ?_, ?_, ?_, ?_, ?_, ?_, g7, by omega, fun g hg => ?_⟩
    · rw [r, mo _ (by decide) (by decide) (by decide)]; exact k4
    · rw [r, mo _ (by decide) (by decide) (by decide)]; exact k5
    · rw [r, mo _ (by decide) (by decide) (by decide)]; exact k6
    · rw [r, mo _ (by decide) (by decide) (by decide)]; exact k7
    · rw [r, mo _ (by decide) (by decide) (by decide)]; exact k8
    · rw [r, mo _ (by decide) (by decide) (by decide)]; exact k9
    · obtain ⟨y1, y2, y3, y4⟩ := b5 g hg
      rw [hz2] at y1 y2 y3 y4
      have s4' := sm4 (a + 4) (by omega) (by omega)
      have sg := sm4 (hz μ + g) (by omega) (by omega)
      exact ⟨(s4'.2.2.2.2 g).trans y1, sg.1.trans y2, (sg.2.2.1 0).trans y3, (sg.2.2.1 1).trans y4⟩
  have hP4 : XP [] μ4 a := ⟨m51, fun i hi => absurd hi (Nat.not_lt_zero _)⟩
  obtain ⟨μ5, z1, z2, z3, z4, z5⟩ := x_anew hL4 hS4 hP4 (Or.inr ⟨⟨hP.1, h2, ht, hP.2.2.2.2⟩, by show (0 : Nat) ≤ 60; decide, fun s hs => by cases hs⟩)
  have hP5 : XP [] μ5 a := hP4.mv (z4 _ (by omega) (by omega)) (z4 _ (by omega) (by omega))
  obtain ⟨μ6, w1, w2, w3, w4, w5⟩ := x_cl57 BIG 0 μ5 (by omega) (by unfold BIG; omega) z2 (fun x hx => absurd hx (Nat.not_lt_zero _))
  have w1' : lp_X11_hall_57 BIG a 0 μ5 = some μ6 := w1
  have hS6 : XS P.n P.te P.rs P.rm P.kd P.ft (hz μ) (run P.te P.rs P.kd P.ft []) (wks []) μ6 a := z3.mv (w4 _ (by omega)) (w4 _ (by omega)) (fun b q1 q2 => w4 b (by omega)) (by rw [w5]; exact Nat.le_refl _)
  have hP6 : XP [] μ6 a := hP5.mv (w4 _ (by omega)) (w4 _ (by omega))
  have hn6 : gI μ6 (a + 3) 4 2 = some (nI P.n) := gI_e w2.t3 hS6.1
  have sm6 : ∀ b, b ≠ a + 3 → b ≠ a + 4 → b ≠ a + 5 → b ≠ a + 6 → (b < a + 53 ∨ a + 59 ≤ b) → b < hz μ → Sm μ μ6 b := fun b q3 q4 q5 q6 q7 q8 => (sm2 b q3).tr ((sm3 b q4 q8).tr ((sm4 b q5 q6).tr ((z4 b q3 (Or.inl q8)).tr (w4 b q7))))
  refine ⟨μ6, ?_, ⟨w2, g2.mv (fun b q1 q2 => sm6 b (by omega) (by omega) (by omega) (by omega) (by omega) (by omega)), g3.mv (fun b q1 q2 => sm6 b (by omega) (by omega) (by omega) (by omega) (by omega) (by omega)), g4.mv (sm6 _ (by omega) (by omega) (by omega) (by omega) (by omega) (by omega)) (sm6 _ (by omega) (by omega) (by omega) (by omega) (by omega) (by omega)), (XH_iff P.h μ6 a).mpr ⟨hz μ, hS6, hP6⟩, fun k hk => ⟨w3 k hk, fun v hv => by cases hv⟩, by omega⟩, fun b q1 q2 => sm6 b (by omega) (by omega) (by omega) (by omega) (by omega) (by omega), by omega⟩
  have T1 : tg (sI μ (a + 3) 2 (nI P.n)) (a + 3) = 4 := g1.t3
  have T2 : tg (sI (sI μ (a + 3) 2 (nI P.n)) (a + 3) 3 (nI P.te)) (a + 3) = 4 := g1.t3
  have T3 : tg (sL (sI (sI μ (a + 3) 2 (nI P.n)) (a + 3) 3 (nI P.te)) (a + 3) 11 P.rs) (a + 3) = 4 := g1.t3
  have c3 : gI (sI μ (a + 3) 2 (nI P.n)) (a + 18) 6 3 = some (nI P.te) := gI_e g1.t18 (by rw [mI_ne (by omega)]; exact r2)
  have c4 : gL (sI (sI μ (a + 3) 2 (nI P.n)) (a + 3) 3 (nI P.te)) (a + 18) 6 4 = some P.rs := (gL_of (show tg μ (a + 18) = 6 from g1.t18)).trans (congrArg some r6)
  have c5 : gI (sL (sI (sI μ (a + 3) 2 (nI P.n)) (a + 3) 3 (nI P.te)) (a + 3) 11 P.rs) (a + 18) 6 5 = some (nI P.rm) := gI_e g1.t18 (by
    show mI (sI (sI μ (a + 3) 2 (nI P.n)) (a + 3) 3 (nI P.te)) (a + 18) 5 = _
    rw [mI_ne (by omega), mI_ne (by omega)]; exact r3)
  have hbuild : f_X3_build μ (a + 3) (a + 18) = some μ4 := by
    unfold f_X3_build
    rw [if_pos g1.t3, e2, Option.bind_some, pI_of g1.t3, Option.bind_some, c3, Option.bind_some, pI_of T1, Option.bind_some, c4, Option.bind_some, pL_of T2, Option.bind_some, c5, Option.bind_some, pI_of T3, Option.bind_some, hμ2, x1', Option.bind_some, gP_of hL3.t3 hL3.p3_1, Option.bind_some, eo', Option.bind_some]
  rw [hbuild, Option.bind_some, gP_of hL4.t0 hL4.p0_2, Option.bind_some, z1, Option.bind_some, w1', Option.bind_some, gP_of w2.t0 w2.p0_2, Option.bind_some, hn6, Option.bind_some]
-- the model's side