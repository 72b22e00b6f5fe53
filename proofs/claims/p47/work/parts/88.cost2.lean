/-! ===== the class's costs ===== -/
def wgt (h : GH) (fl : Bool) (g : Nat) : Nat := if fl then h.ft g else 1
theorem wgt_ok {h : GH} (w : WH h) (fl : Bool) {g : Nat} (hg : g < h.n) : 1 ≤ wgt h fl g ∧ wgt h fl g ≤ 9 := by
  unfold wgt
  cases fl with
  | true => exact (w.2.2.1 g hg).2
  | false => exact ⟨Nat.le_refl 1, (by decide : (1 : Nat) ≤ 9)⟩
theorem gG_of {μ : Mm} {p k f : Nat} (ht : tg μ p = ktg k) (hk : k < 6) (hf : mI μ p 0 = nI f) : gG μ p 0 = some (nI f) := by
  unfold gG
  rw [if_pos (by rw [ht]; exact ktg_gt hk), hf]
section CX
variable {R T : GR} {F : GF} {h : GH} {K : GK} {a : Nat} {D : Nat → Nat} {fl : Bool}
def Cs (h : GH) (C : Nat → Nat) (μ : Mm) (a : Nat) : Prop := ∀ i, i < h.te → mI μ (a + 29) i = nI (C i)
theorem Cs.get {C : Nat → Nat} {μ : Mm} (hc : Cs h C μ a) (hL : LX μ a) (t2 : h.te ≤ 60) {i : Nat} (hi : i < h.te) : aI μ (a + 29) 21 (nI i) = some (nI (C i)) := by rw [aI_of hL.t29 (by rw [hL.n29]; omega) (by omega), hc i hi]
theorem x_spr_l (w : WH h) (h0 : ¬ h.n = 0) (hF : Fix h.te h.n h.tr (wgt h fl) D) {g : Nat} (hg : g < h.n) {C0 : Nat → Nat} : ∀ (f i : Nat) (μ : Mm) (C : Nat → Nat) (m m0 : Bool), i ≤ h.te → h.te < i + f → XI R T F h K μ a → Cs h C μ a → Rx h.te h.n h.tr (wgt h fl) D C0 C (m || m0) (fun j' g' => g' < g ∨ (g' = g ∧ j' < i)) → ∃ μ' C' m', lp_X10_spread_6 f (a + 28) (a + 3) (nI (h.tr g)) (nI (wgt h fl g)) (nI (b1 m)) (nI i) μ = some (nI (b1 m'), μ') ∧ SX μ μ' a ∧ Cs h C' μ' a ∧ Rx h.te h.n h.tr (wgt h fl) D C0 C' (m' || m0) (fun j' g' => g' < g + 1) := by
  have t1 := w.te_ge h0
  have t2 := w.te_lt
  have htr := w.tr_le hg
  have hwg := wgt_ok w fl hg
  intro f
  induction f with
  | zero => intro i μ C m m0 q1 q2; omega
  | succ f ih =>
    intro i μ C m m0 q1 q2 H hc hr
    by_cases e : i = h.te
    · have e1 : nI h.te ≤ nI i := by rw [e]; exact Int32.le_refl _
      refine ⟨μ, C, m, ?_, SX.rf μ a, hc, hr.weak (fun j' g' hj' _ q => by omega)⟩
      simp (config := { decide := true }) only [↓reduceIte, Option.bind_some, Option.bind_none, lp_X10_spread_6, x_hev H, e1]
    · have e1 : ¬ nI h.te ≤ nI i := nI_ge (by omega) (by omega)
      have hi : i < h.te := by omega
      have hk : (i + h.tr g) % h.te < h.te := Nat.mod_lt _ (by omega)
      have e2 := x_wrap H w h0 (show i + h.tr g < 2 ^ 31 by omega)
      have ea := hc.get H.1 t2 hi
      have eb := hc.get H.1 t2 hk
      have b1' := (hr.1.2 i hi).2
      have b2' := (hr.1.2 _ hk).2
      have hFA : FARn = 1000000 := rfl
      by_cases z : C i + wgt h fl g < C ((i + h.tr g) % h.te)
      · have e3 : ¬ nI (C ((i + h.tr g) % h.te)) ≤ nI (C i + wgt h fl g) := nI_ge z (by omega)
        have s1 : SX μ (sI μ (a + 29) ((i + h.tr g) % h.te) (nI (C i + wgt h fl g))) a := (SX.rf μ a).sI (by omega) (by omega)
        have qa := qI_of (v := nI (C i + wgt h fl g)) H.1.t29 (show (i + h.tr g) % h.te < ln μ (a + 29) by rw [H.1.n29]; omega) (by omega)
        have hr' := hr.less hF hi hg z (don' := fun j' g' => g' < g ∨ (g' = g ∧ j' < i + 1)) (fun j' g' _ _ q => by omega)
        obtain ⟨μ', C', m', y1, y2, y3, y4⟩ := ih (i + 1) _ (u1 C ((i + h.tr g) % h.te) (C i + wgt h fl g)) true m0 (by omega) (by omega) (H.scr s1) (fun j hj => by
          by_cases y : j = (i + h.tr g) % h.te
          · rw [y, mI_eq, u1_eq]
          · rw [mI_nk y, u1_ne y]; exact hc j hj) (by rw [Bool.true_or]; exact hr')
        have y1' : lp_X10_spread_6 f (a + 28) (a + 3) (nI (h.tr g)) (nI (wgt h fl g)) 1 (nI (i + 1)) (sI μ (a + 29) ((i + h.tr g) % h.te) (nI (C i + wgt h fl g))) = _ := y1
        refine ⟨μ', C', m', ?_, s1.tr y2, y3, y4⟩
        simp (config := { decide := true }) only [↓reduceIte, Option.bind_some, Option.bind_none, lp_X10_spread_6, gP_of H.1.t28 H.1.p28_0, x_hev H, e1, nI_add, e2, ea, eb, e3, qa, nI_1, y1']
      · have e3 : nI (C ((i + h.tr g) % h.te)) ≤ nI (C i + wgt h fl g) := nI_le (by omega) (by omega)
        obtain ⟨μ', C', m', y1, y2, y3, y4⟩ := ih (i + 1) μ C m m0 (by omega) (by omega) H hc (hr.same hi z (fun j' g' _ _ q => by omega))
        refine ⟨μ', C', m', ?_, y2, y3, y4⟩
        simp (config := { decide := true }) only [↓reduceIte, Option.bind_some, Option.bind_none, lp_X10_spread_6, gP_of H.1.t28 H.1.p28_0, x_hev H, e1, nI_add, e2, ea, eb, e3, nI_1, y1]
theorem b1_or (m m' : Bool) : (nI (b1 m) ||| nI (b1 m')) = nI (b1 (m || m')) := by cases m <;> cases m' <;> decide
theorem zb_b1 (m : Bool) : zb (nI (b1 m)) = some (nI (b1 m)) := by cases m <;> decide
theorem x_fc49 (w : WH h) (h0 : ¬ h.n = 0) (hF : Fix h.te h.n h.tr (wgt h fl) D) {C0 : Nat → Nat} {q : Int32} : ∀ (f g : Nat) (μ : Mm) (C : Nat → Nat) (m : Bool), g ≤ h.n → h.n < g + f → XI R T F h K μ a → Cs h C μ a → Rx h.te h.n h.tr (wgt h fl) D C0 C m (fun j' g' => g' < g) → ∃ μ' C' m', lp_X10_findCosts_51 f (a + 28) (a + 3) (nI (b1 fl)) (nI (b1 m)) q (nI g) μ = some (nI (b1 m'), μ') ∧ SX μ μ' a ∧ Cs h C' μ' a ∧ Rx h.te h.n h.tr (wgt h fl) D C0 C' m' (fun _ _ => True) := by
  have hn6 := w.1
  have t1 := w.te_ge h0
  have t2 := w.te_lt
  intro f
  induction f with
  | zero => intro g μ C m q1 q2; omega
  | succ f ih =>
    intro g μ C m q1 q2 H hc hr
    by_cases e : g = h.n
    · have e1 : nI h.n ≤ nI g := by rw [e]; exact Int32.le_refl _
      refine ⟨μ, C, m, ?_, SX.rf μ a, hc, hr.weak (fun j' g' _ hg' _ => by omega)⟩
      simp (config := { decide := true }) only [↓reduceIte, Option.bind_some, Option.bind_none, lp_X10_findCosts_51, x_hev H, e1]
    · have e1 : ¬ nI h.n ≤ nI g := nI_ge (by omega) (by omega)
      have hg : g < h.n := by omega
      obtain ⟨μ1, C1, m1, y1, y2, y3, y4⟩ := x_spr_l (F := F) (K := K) (R := R) (T := T) (a := a) w h0 hF hg (C0 := C0) BIG 0 μ C false m (by omega) (by unfold BIG; omega) H hc (hr.weak (fun j' g' _ _ z => by omega))
      have y1' : lp_X10_spread_6 BIG (a + 28) (a + 3) (nI (h.tr g)) (nI (wgt h fl g)) 0 0 μ = _ := y1
      have es : f_X10_spread μ (a + 28) (a + 3) (nI (h.tr g)) (nI (wgt h fl g)) = some (nI (b1 m1), μ1) := by
        simp (config := { decide := true }) only [↓reduceIte, Option.bind_some, Option.bind_none, f_X10_spread, H.1.t28, y1', zb_b1]
      obtain ⟨μ2, C2, m2, z1, z2, z3, z4⟩ := ih (g + 1) μ1 C1 (m1 || m) (by omega) (by omega) (H.scr y2) y3 y4
      refine ⟨μ2, C2, m2, ?_, y2.tr z2, z3, z4⟩
      have eo : (nI (b1 m) ||| nI (b1 m1)) = nI (b1 (m1 || m)) := by rw [b1_or, Bool.or_comm]
      cases fl with
      | false =>
        have es' : f_X10_spread μ (a + 28) (a + 3) (nI (h.tr g)) 1 = some (nI (b1 m1), μ1) := es
        have e0 : nI (b1 false) = 0 := rfl
        have z1' : lp_X10_findCosts_51 f (a + 28) (a + 3) 0 (nI (b1 (m1 || m))) q (nI (g + 1)) μ1 = _ := z1
        simp (config := { decide := true }) only [↓reduceIte, Option.bind_some, Option.bind_none, lp_X10_findCosts_51, x_hev H, e1, e0, x_tread H w hg, es', eo, nI_1, z1']
      | true =>
        obtain ⟨gb, g1, g2, g3⟩ := x_guild H w
        obtain ⟨k1, k2, k3, k4⟩ := g3 g hg
        have es' : f_X10_spread μ (a + 28) (a + 3) (nI (h.tr g)) (nI (h.ft g)) = some (nI (b1 m1), μ1) := es
        have e0 : nI (b1 true) = 1 := rfl
        have z1' : lp_X10_findCosts_51 f (a + 28) (a + 3) 1 (nI (b1 (m1 || m))) q (nI (g + 1)) μ1 = _ := z1
        simp (config := { decide := true }) only [↓reduceIte, Option.bind_some, Option.bind_none, lp_X10_findCosts_51, gP_of H.1.t3 H.1.p3_0, x_hev H, e1, e0, k1, gG_of k2 (w.2.2.1 g hg).1 k3, x_tread H w hg, es', eo, nI_1, z1']
theorem x_fc34 (w : WH h) (h0 : ¬ h.n = 0) (hD : Sup h.te h.n h.tr (wgt h fl) D) (hF : Fix h.te h.n h.tr (wgt h fl) D) : ∀ (d f k : Nat) (μ : Mm) (C : Nat → Nat) (m : Bool), k + d = 60 → d < f → XI R T F h K μ a → Cs h C μ a → Inv h.te D C → (m = false → ∀ i, i < h.te → C i = D i) → h.te ≤ fin h.te D C + d → ∃ μ', lp_X10_findCosts_35 f (a + 28) (a + 3) (nI (b1 fl)) (nI (b1 m)) (nI k) μ = some μ' ∧ SX μ μ' a ∧ Cs h D μ' a := by
  have t1 := w.te_ge h0
  have t2 := w.te_lt
  have hall : ∀ C, Inv h.te D C → h.te ≤ fin h.te D C → ∀ i, i < h.te → C i = D i := fun C hC hf => by
    have hr := Rx.start (n := h.n) (t := h.tr) (w := wgt h fl) hC (don := fun _ _ => False) (fun _ _ _ _ q => q)
    have hl : fin h.te D C = h.te := by have := cntP_le (fun i => decide (C i = D i)) h.te; unfold fin at hf ⊢; omega
    have hs := (cntP_sub (P := fun i => decide (C i = D i)) (Q := fun _ => true) h.te (fun _ _ _ => rfl)).2
    have hc : ∀ u, cntP (fun _ => true) u = u := by
      intro u
      induction u with
      | zero => rfl
      | succ k ih => rw [cntP_s, ih]; rfl
    rw [hc] at hs
    intro i hi
    exact of_decide_eq_true (hs.mp hl i hi rfl)
  intro d
  induction d with
  | zero =>
    intro f k μ C m q1 q2 H hc hC hm hf
    obtain ⟨f, rfl⟩ : ∃ g, f = g + 1 := ⟨f - 1, by omega⟩
    have e1 : (60 : Int32) ≤ nI k := by rw [show k = 60 by omega]; decide
    refine ⟨μ, ?_, SX.rf μ a, fun i hi => by rw [hc i hi, hall C hC (by omega) i hi]⟩
    simp (config := { decide := true }) only [↓reduceIte, Option.bind_some, Option.bind_none, lp_X10_findCosts_35, e1]
  | succ d ih =>
    intro f k μ C m q1 q2 H hc hC hm hf
    obtain ⟨f, rfl⟩ : ∃ g, f = g + 1 := ⟨f - 1, by omega⟩
    have e1 : ¬ (60 : Int32) ≤ nI k := (show ¬ nI 60 ≤ nI k from nI_ge (by omega) (by decide))
    cases m with
    | false =>
      have e0 : nI (b1 false) = 0 := rfl
      refine ⟨μ, ?_, SX.rf μ a, fun i hi => by rw [hc i hi, hm rfl i hi]⟩
      simp (config := { decide := true }) only [↓reduceIte, Option.bind_some, Option.bind_none, lp_X10_findCosts_35, e1, e0]
    | true =>
      have e0 : nI (b1 true) = 1 := rfl
      obtain ⟨μ1, C1, m1, y1, y2, y3, y4⟩ := x_fc49 (F := F) (K := K) (R := R) (T := T) (a := a) w h0 hF (C0 := C) (q := nI k) BIG 0 μ C false (by omega) (by have := w.1; unfold BIG; omega) H hc (Rx.start hC (fun _ _ _ _ q => absurd q (Nat.not_lt_zero _)))
      have y1' : lp_X10_findCosts_51 BIG (a + 28) (a + 3) (nI (b1 fl)) 0 (nI k) 0 μ = _ := y1
      obtain ⟨s1, s2, s3, s4⟩ := sweep (fun g hg => (wgt_ok w fl hg).1) hD hF hC y4
      obtain ⟨μ2, z1, z2, z3⟩ := ih f (k + 1) μ1 C1 m1 (by omega) (by omega) (H.scr y2) y3 y4.1 s1 (by
        by_cases z : fin h.te D C < h.te
        · have := s2 z; omega
        · omega)
      refine ⟨μ2, ?_, y2.tr z2, z3⟩
      simp (config := { decide := true }) only [↓reduceIte, Option.bind_some, Option.bind_none, lp_X10_findCosts_35, e1, e0, y1', nI_1, z1]
theorem x_fc2 {q : Int32} : ∀ (f k : Nat) (μ : Mm), k ≤ 60 → 60 < k + f → XI R T F h K μ a → (∀ j, j < k → mI μ (a + 29) j = nI (if j = 0 then 0 else FARn)) → ∃ μ', lp_X10_findCosts_2 f (a + 28) (a + 3) q (nI k) μ = some μ' ∧ SX μ μ' a ∧ (∀ j, j < 60 → mI μ' (a + 29) j = nI (if j = 0 then 0 else FARn)) := by
  intro f
  induction f with
  | zero => intro k μ q1 q2; omega
  | succ f ih =>
    intro k μ q1 q2 H hc
    by_cases e : k = 60
    · subst e
      have e1 : (60 : Int32) ≤ nI 60 := by decide
      refine ⟨μ, ?_, SX.rf μ a, hc⟩
      simp (config := { decide := true }) only [↓reduceIte, Option.bind_some, Option.bind_none, lp_X10_findCosts_2, e1]
    · have e1 : ¬ (60 : Int32) ≤ nI k := (show ¬ nI 60 ≤ nI k from nI_ge (by omega) (by decide))
      have s1 : SX μ (sI μ (a + 29) k (nI (if k = 0 then 0 else FARn))) a := (SX.rf μ a).sI (by omega) (by omega)
      have qa := qI_of (v := nI (if k = 0 then 0 else FARn)) H.1.t29 (show k < ln μ (a + 29) by rw [H.1.n29]; omega) (by omega)
      obtain ⟨μ', y1, y2, y3⟩ := ih (k + 1) _ (by omega) (by omega) (H.scr s1) (fun j hj => by
        by_cases z : j = k
        · subst z; rw [mI_eq]
        · rw [mI_nk z]; exact hc j (by omega))
      refine ⟨μ', ?_, s1.tr y2, y3⟩
      by_cases k0 : k = 0
      · subst k0
        have qa' : qI μ (a + 29) 21 0 0 = some (sI μ (a + 29) 0 0) := qa
        have e0 : nI 0 = 0 := rfl
        have y1' : lp_X10_findCosts_2 f (a + 28) (a + 3) q (0 + 1) (sI μ (a + 29) 0 0) = some μ' := y1
        simp (config := { decide := true }) only [↓reduceIte, Option.bind_some, Option.bind_none, lp_X10_findCosts_2, e0, gP_of H.1.t28 H.1.p28_0, qa']
        exact y1'
      · rw [if_neg k0] at qa y1
        have e0 : ¬ nI k = 0 := nI_ne0 (by omega) (by omega)
        have qa' : qI μ (a + 29) 21 (nI k) 1000000 = some (sI μ (a + 29) k 1000000) := qa
        have y1' : lp_X10_findCosts_2 f (a + 28) (a + 3) q (nI (k + 1)) (sI μ (a + 29) k 1000000) = some μ' := y1
        simp (config := { decide := true }) only [↓reduceIte, Option.bind_some, Option.bind_none, lp_X10_findCosts_2, e1, e0, gP_of H.1.t28 H.1.p28_0, qa', nI_1, y1']
theorem inv_0 {te n : Nat} {t w D : Nat → Nat} (hD : Sup te n t w D) : Inv te D (fun i => if i = 0 then 0 else FARn) := by
  refine ⟨rfl, fun i hi => ?_⟩
  show D i ≤ (if i = 0 then 0 else FARn) ∧ (if i = 0 then 0 else FARn) ≤ FARn
  by_cases z : i = 0
  · rw [if_pos z, z, hD.1]; exact ⟨Nat.le_refl _, Nat.zero_le _⟩
  · rw [if_neg z]; exact ⟨hD.2.1 i hi, Nat.le_refl _⟩
theorem fin_0 {te n : Nat} {t w D C : Nat → Nat} (hte : 0 < te) (hD : Sup te n t w D) (hC : C 0 = 0) : 1 ≤ fin te D C := by
  unfold fin
  refine Nat.pos_of_ne_zero fun q => ?_
  have := (cntP_zero _).mp q 0 hte
  rw [hC, hD.1] at this
  cases this
theorem x_costs {μ : Mm} (H : XI R T F h K μ a) (w : WH h) (h0 : ¬ h.n = 0) (hD : Sup h.te h.n h.tr (wgt h fl) D) (hF : Fix h.te h.n h.tr (wgt h fl) D) : ∃ μ', f_X10_findCosts μ (a + 28) (a + 3) (nI (b1 fl)) = some μ' ∧ SX μ μ' a ∧ Cs h D μ' a := by
  have t1 := w.te_ge h0
  have t2 := w.te_lt
  obtain ⟨μ1, y1, y2, y3⟩ := x_fc2 (F := F) (h := h) (K := K) (R := R) (T := T) (a := a) (q := nI (b1 fl)) BIG 0 μ (by omega) (by unfold BIG; omega) H (fun j hj => absurd hj (Nat.not_lt_zero _))
  have y1' : lp_X10_findCosts_2 BIG (a + 28) (a + 3) (nI (b1 fl)) 0 μ = some μ1 := y1
  have h1 := fin_0 (C := fun i => if i = 0 then 0 else FARn) (show 0 < h.te by omega) hD rfl
  obtain ⟨μ2, z1, z2, z3⟩ := x_fc34 (F := F) (K := K) (R := R) (T := T) (a := a) (fl := fl) w h0 hD hF 60 BIG 0 μ1 (fun i => if i = 0 then 0 else FARn) true (by omega) (by unfold BIG; omega) (H.scr y2) (fun i hi => y3 i (by omega)) (inv_0 hD) (fun z => by cases z) (by omega)
  have z1' : lp_X10_findCosts_35 BIG (a + 28) (a + 3) (nI (b1 fl)) 1 0 μ1 = some μ2 := z1
  refine ⟨μ2, ?_, y2.tr z2, z3⟩
  simp (config := { decide := true }) only [↓reduceIte, Option.bind_some, Option.bind_none, f_X10_findCosts, H.1.t28, y1', z1']
/-- a cost told -/
def cto (v : Nat) : Int32 := if v < FARn then nI v else -9
theorem x_costOf {μ : Mm} (H : XI R T F h K μ a) (w : WH h) (hD : Sup h.te h.n h.tr (wgt h fl) D) (hc : Cs h D μ a) {i : Nat} (hi : i < h.te) : f_X10_costOf μ (a + 28) (nI i) = some (cto (D i)) := by
  have t2 := w.te_lt
  have ea := hc.get H.1 t2 hi
  have hb := hD.2.1 _ hi
  have hFA : FARn = 1000000 := rfl
  unfold cto
  by_cases z : D i < FARn
  · have e1 : nI (D i) < 1000000 := (show nI (D i) < nI 1000000 from nI_lt (by omega) (by decide))
    rw [if_pos z]
    simp (config := { decide := true }) only [↓reduceIte, Option.bind_some, Option.bind_none, f_X10_costOf, H.1.t28, gP_of H.1.t28 H.1.p28_0, ea, e1]
  · have e1 : ¬ nI (D i) < 1000000 := (show ¬ nI (D i) < nI 1000000 from nI_nlt (by omega) (by omega))
    rw [if_neg z]
    simp (config := { decide := true }) only [↓reduceIte, Option.bind_some, Option.bind_none, f_X10_costOf, H.1.t28, gP_of H.1.t28 H.1.p28_0, ea, e1]
/-- a guild that walks first -/
def fwk (h : GH) (D : Nat → Nat) (p g : Nat) : Bool := decide (0 < D (wy h.te p h.q.1) ∧ D (wy h.te p (h.tr g + h.q.1)) + 1 = D (wy h.te p h.q.1))
theorem fw_cmp {x L : Nat} (hx : x ≤ FARn) (hL : L ≤ FARn) : (nI x = nI L - 1) ↔ (0 < L ∧ x + 1 = L) := by
  have hFA : FARn = 1000000 := rfl
  by_cases z : L = 0
  · subst z
    constructor
    · intro q
      have e : nI 0 - 1 = -1 := by decide
      rw [e] at q
      have := nI_pos (n := x) (by omega)
      rw [q] at this
      exact absurd (by decide) this
    · intro q; exact absurd q.1 (Nat.lt_irrefl _)
  · rw [pred1 (by omega), nI_eq (by omega) (by omega)]; omega
theorem x_fw {μ : Mm} (H : XI R T F h K μ a) (w : WH h) (h0 : ¬ h.n = 0) (hD : Sup h.te h.n h.tr (wgt h fl) D) (hc : Cs h D μ a) {p : Nat} (hp : p < h.te) : f_X10_firstWalker μ (a + 28) (a + 3) (nI (wy h.te p h.q.1)) = some (ofn (fst (fwk h D p) h.n 0)) := by
  have hn6 := w.1
  have t1 := w.te_ge h0
  have t2 := w.te_lt
  have tn := w.now_lt h0
  have hl0 : wy h.te p h.q.1 < h.te := wy_lt (by omega)
  have hl : ∀ (m f g : Nat), g + m = h.n → m < f → lp_X10_firstWalker_2 f (a + 28) (a + 3) (nI (wy h.te p h.q.1)) (nI g) μ = some (match fst (fwk h D p) m g with | some j => (0, nI j) | none => (1, 0)) := by
    intro m
    induction m with
    | zero =>
      intro f g q1 q2
      obtain ⟨f, rfl⟩ : ∃ g, f = g + 1 := ⟨f - 1, by omega⟩
      have e1 : nI h.n ≤ nI g := nI_le (by omega) (by omega)
      simp (config := { decide := true }) only [↓reduceIte, Option.bind_some, Option.bind_none, lp_X10_firstWalker_2, x_hev H, e1]
      rfl
    | succ m ih =>
      intro f g q1 q2
      obtain ⟨f, rfl⟩ : ∃ g, f = g + 1 := ⟨f - 1, by omega⟩
      have hg : g < h.n := by omega
      have e1 : ¬ nI h.n ≤ nI g := nI_ge (by omega) (by omega)
      have htr := w.tr_le hg
      have hlg : wy h.te p (h.tr g + h.q.1) < h.te := wy_lt (by omega)
      have ew : f_X3_wrap μ (a + 3) (nI (wy h.te p h.q.1) - nI (h.tr g)) = some (nI (wy h.te p (h.tr g + h.q.1))) := by
        rw [x_wrapW H w h0 (show wy h.te p h.q.1 < 2 ^ 30 by omega) (show h.tr g ≤ 80 by omega), wy_wy (by omega) (by omega) (by omega) (by omega)]
      have ea := hc.get H.1 t2 hlg
      have ea0 := hc.get H.1 t2 hl0
      have hcm := fw_cmp (hD.2.1 _ hlg) (hD.2.1 _ hl0)
      unfold fst
      by_cases z : fwk h D p g = true
      · have e2 := hcm.mpr (of_decide_eq_true z)
        rw [if_pos z]
        have e2' : ∀ (X Y : Option (Nat × Int32)), (if nI (D (wy h.te p (h.tr g + h.q.1))) = nI (D (wy h.te p h.q.1)) - 1 then X else Y) = X := fun X Y => if_pos e2
        simp (config := { decide := true }) only [↓reduceIte, Option.bind_some, Option.bind_none, lp_X10_firstWalker_2, gP_of H.1.t28 H.1.p28_0, x_hev H, e1, x_tread H w hg, ew, ea, ea0, e2']
      · have e2 : ¬ nI (D (wy h.te p (h.tr g + h.q.1))) = nI (D (wy h.te p h.q.1)) - 1 := fun q => z (decide_eq_true (hcm.mp q))
        rw [if_neg z]
        simp (config := { decide := true }) only [↓reduceIte, Option.bind_some, Option.bind_none, lp_X10_firstWalker_2, gP_of H.1.t28 H.1.p28_0, x_hev H, e1, x_tread H w hg, ew, ea, ea0, e2, nI_1]
        exact ih f (g + 1) (by omega) (by omega)
  have e := hl h.n BIG 0 (by omega) (by unfold BIG; omega)
  have e' : lp_X10_firstWalker_2 BIG (a + 28) (a + 3) (nI (wy h.te p h.q.1)) 0 μ = _ := e
  cases hf : fst (fwk h D p) h.n 0 with
  | none =>
    rw [hf] at e'
    simp (config := { decide := true }) only [↓reduceIte, Option.bind_some, Option.bind_none, f_X10_firstWalker, H.1.t28, e'] <;> rfl
  | some j =>
    rw [hf] at e'
    simp (config := { decide := true }) only [↓reduceIte, Option.bind_some, Option.bind_none, f_X10_firstWalker, H.1.t28, e'] <;> rfl
end CX
