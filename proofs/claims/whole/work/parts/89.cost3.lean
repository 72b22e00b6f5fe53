/-! ===== the model's costs; fewest, feet ===== -/
section CM
variable {R T : GR} {F : GF} {h : GH} {K : GK} {c p : Nat} {D : Nat → Nat} {fl : Bool}
def Cm (h : GH) (p : Nat) (C : Nat → Nat) (μ : Mm) (c : Nat) : Prop := ∀ x, x < h.te → mI μ (c + 21) x = nI (C (wy h.te p x))
theorem Cm.get {C : Nat → Nat} {μ : Mm} (hc : Cm h p C μ c) (hL : LM μ c) (t2 : h.te ≤ 60) {i : Nat} (hi : i < h.te) : aI μ (c + 21) 21 (nI i) = some (nI (C (wy h.te p i))) := by rw [aI_of hL.t21 (by rw [hL.n21]; omega) (by omega), hc i hi]
theorem wy_inv {te p k x : Nat} (hp : p < te) (hk : k < te) (hx : x < te) : wy te p k = x ↔ k = wy te p x := by
  have e1 := wy_iff (x := x) (j := p) (t := k) hx hp (by omega)
  have e2 := wy_iff (x := k) (j := p) (t := x) hk hp (by omega)
  rw [Nat.add_comm k x] at e2
  constructor
  · intro q; exact e2.mp (e1.mpr q.symm)
  · intro q; exact (e1.mp (e2.mpr q)).symm
theorem wy_on {te p x t : Nat} (hp : p < te) (hx : x < te) : (wy te p ((x + t) % te) + t) % te = wy te p x := by
  have hm : (x + t) % te < te := Nat.mod_lt _ (by omega)
  have e := wy_add (te := te) (p := p) (q := (x + t) % te) (by omega)
  rw [Nat.mod_eq_of_lt hp] at e
  refine (wy_iff (Nat.mod_lt _ (by omega)) hp (show x ≤ 81 * te by omega)).mp ?_
  rw [Nat.mod_add_mod, Nat.add_assoc, Nat.add_comm t x, ← Nat.add_mod_mod, e]
/-- what a sweep over the teeth has seen -/
def dnm (h : GH) (p x g : Nat) : Nat → Nat → Prop := fun j' g' => wy h.te p ((j' + h.tr g') % h.te) < x ∨ (wy h.te p ((j' + h.tr g') % h.te) = x ∧ g' < g)
theorem dnm_step {x g : Nat} (hp : p < h.te) (hx : x < h.te) {j' g' : Nat} (hj : j' < h.te) (hd : dnm h p x (g + 1) j' g') : dnm h p x g j' g' ∨ (j' = wy h.te p ((x + h.tr g) % h.te) ∧ g' = g) := by
  unfold dnm at hd ⊢
  rcases hd with q | ⟨q1, q2⟩
  · exact Or.inl (Or.inl q)
  · by_cases z : g' = g
    · subst z
      refine Or.inr ⟨?_, rfl⟩
      have hk : (j' + h.tr g') % h.te < h.te := Nat.mod_lt _ (by omega)
      have e1 := (wy_inv hp hk hx).mp q1
      have e2 := wy_on (t := h.tr g') hp hx
      exact mod_inj hj (wy_lt (by omega)) (e1.trans e2.symm)
    · exact Or.inl (Or.inr ⟨q1, by omega⟩)
theorem m_lc56 (w : WH h) (h0 : ¬ h.n = 0) (hp : p < h.te) (hF : Fix h.te h.n h.tr (wgt h fl) D) {C0 : Nat → Nat} {x : Nat} (hx : x < h.te) : ∀ (f g : Nat) (μ : Mm) (C : Nat → Nat) (m : Bool), g ≤ h.n → h.n < g + f → MI R T F h K μ c → Cm h p C μ c → Rx h.te h.n h.tr (wgt h fl) D C0 C m (dnm h p x g) → ∃ μ' C' m', lp_X12_layCosts_56 f c (nI (b1 fl)) (nI (b1 m)) (nI x) (nI g) μ = some (nI (b1 m'), μ') ∧ SM μ μ' c ∧ Cm h p C' μ' c ∧ Rx h.te h.n h.tr (wgt h fl) D C0 C' m' (dnm h p (x + 1) 0) := by
  have hn6 := w.1
  have t1 := w.te_ge h0
  have t2 := w.te_lt
  have ht0 : ¬ nI h.te = 0 := nI_ne0 (by omega) (by omega)
  have hFA : FARn = 1000000 := rfl
  intro f
  induction f with
  | zero => intro g μ C m q1 q2; omega
  | succ f ih =>
    intro g μ C m q1 q2 H hc hr
    by_cases e : g = h.n
    · have e1 : nI h.n ≤ nI g := by rw [e]; exact Int32.le_refl _
      refine ⟨μ, C, m, ?_, SM.rf μ c, hc, hr.weak (fun j' g' _ _ q => by unfold dnm at q ⊢; omega)⟩
      simp (config := { decide := true }) only [↓reduceIte, Option.bind_some, Option.bind_none, lp_X12_layCosts_56, m_hev H, e1]
    · have e1 : ¬ nI h.n ≤ nI g := nI_ge (by omega) (by omega)
      have hg : g < h.n := by omega
      have htr := w.tr_le hg
      have hwg := wgt_ok w fl hg
      have hk : (x + h.tr g) % h.te < h.te := Nat.mod_lt _ (by omega)
      have e2 := pk_rem (a := x + h.tr g) (d := h.te) (by omega) (by omega) (by omega)
      have ea := hc.get H.1 t2 hx
      have eb := hc.get H.1 t2 hk
      have hj : wy h.te p ((x + h.tr g) % h.te) < h.te := wy_lt (by omega)
      have hi : wy h.te p x < h.te := wy_lt (by omega)
      have eon := wy_on (t := h.tr g) hp hx
      have b1' := (hr.1.2 _ hi).2
      have b2' := (hr.1.2 _ hj).2
      have ew : ((if nI (b1 fl) = 0 then some (1 : Int32) else (aI μ (c + 8) 21 (nI g)).bind fun x16 => some x16 : Option Int32)) = some (nI (wgt h fl g)) := by
        cases fl with
        | false => rfl
        | true =>
          have e0 : ¬ nI (b1 true) = 0 := by decide
          rw [if_neg e0, m_ft H w hg]
          rfl
      have ec : nI (wgt h fl g) + nI (C (wy h.te p ((x + h.tr g) % h.te))) = nI (C (wy h.te p ((x + h.tr g) % h.te)) + wgt h fl g) := by rw [nI_add, Nat.add_comm]
      by_cases z : C (wy h.te p ((x + h.tr g) % h.te)) + wgt h fl g < C (wy h.te p x)
      · have e3 : ¬ nI (C (wy h.te p x)) ≤ nI (C (wy h.te p ((x + h.tr g) % h.te)) + wgt h fl g) := nI_ge z (by omega)
        have s1 : SM μ (sI μ (c + 21) x (nI (C (wy h.te p ((x + h.tr g) % h.te)) + wgt h fl g))) c := (SM.rf μ c).sI (by unfold asd; omega)
        have qa := qI_of (v := nI (C (wy h.te p ((x + h.tr g) % h.te)) + wgt h fl g)) H.1.t21 (show x < ln μ (c + 21) by rw [H.1.n21]; omega) (by omega)
        have hr' := hr.less hF hj hg (by rw [eon]; exact z) (don' := dnm h p x (g + 1)) (fun j' g' hj' _ q => dnm_step hp hx hj' q)
        rw [eon] at hr'
        obtain ⟨μ', C', m', y1, y2, y3, y4⟩ := ih (g + 1) _ (u1 C (wy h.te p x) (C (wy h.te p ((x + h.tr g) % h.te)) + wgt h fl g)) true (by omega) (by omega) (H.scr s1) (fun y hy => by
          by_cases q : y = x
          · rw [q, mI_eq, u1_eq]
          · have hne : wy h.te p y ≠ wy h.te p x := fun z => q (((wy_inv hp hy hi).mp z).trans ((wy_inv hp hx hi).mp rfl).symm)
            rw [mI_nk q, u1_ne hne]; exact hc y hy) hr'
        have y1' : lp_X12_layCosts_56 f c (nI (b1 fl)) 1 (nI x) (nI (g + 1)) (sI μ (c + 21) x (nI (C (wy h.te p ((x + h.tr g) % h.te)) + wgt h fl g))) = _ := y1
        refine ⟨μ', C', m', ?_, s1.tr y2, y3, y4⟩
        have ex : nI x + nI (h.tr g) = nI (x + h.tr g) := nI_add _ _
        simp (config := { decide := true }) only [↓reduceIte, Option.bind_some, Option.bind_none, lp_X12_layCosts_56, m_hev H, e1, ew, H.1.t0, gP_of H.1.t0 H.1.p0_1, gP_of H.1.t0 H.1.p0_5, gP_of H.1.t0 H.1.p0_6, gP_of H.1.t0 H.1.p0_7, gP_of H.1.t0 H.1.p0_8, gP_of H.1.t0 H.1.p0_9, gP_of H.1.t0 H.1.p0_14, gP_of H.1.t0 H.1.p0_15, gP_of H.1.t0 H.1.p0_21, gP_of H.1.t0 H.1.p0_22, gP_of H.1.t0 H.1.p0_23, gP_of H.1.t0 H.1.p0_24, gP_of H.1.t0 H.1.p0_26, gP_of H.1.t0 H.1.p0_27, gP_of H.1.t0 H.1.p0_28, gP_of H.1.t0 H.1.p0_29, gP_of H.1.t0 H.1.p0_30, gP_of H.1.t0 H.1.p0_31, gP_of H.1.t0 H.1.p0_32, gP_of H.1.t0 H.1.p0_33, gP_of H.1.t0 H.1.p0_40, gP_of H.1.t0 H.1.p0_41, gP_of H.1.t0 H.1.p0_46, gP_of H.1.t0 H.1.p0_47, gP_of H.1.t0 H.1.p0_48, m_tread H w hg, ht0, ex, e2, ea, eb, ec, e3, qa, nI_1, y1']
      · have e3 : nI (C (wy h.te p x)) ≤ nI (C (wy h.te p ((x + h.tr g) % h.te)) + wgt h fl g) := nI_le (by omega) (by omega)
        obtain ⟨μ', C', m', y1, y2, y3, y4⟩ := ih (g + 1) μ C m (by omega) (by omega) H hc (hr.same hj (by rw [eon]; exact z) (fun j' g' hj' _ q => dnm_step hp hx hj' q))
        refine ⟨μ', C', m', ?_, y2, y3, y4⟩
        have ex : nI x + nI (h.tr g) = nI (x + h.tr g) := nI_add _ _
        simp (config := { decide := true }) only [↓reduceIte, Option.bind_some, Option.bind_none, lp_X12_layCosts_56, m_hev H, e1, ew, H.1.t0, gP_of H.1.t0 H.1.p0_1, gP_of H.1.t0 H.1.p0_5, gP_of H.1.t0 H.1.p0_6, gP_of H.1.t0 H.1.p0_7, gP_of H.1.t0 H.1.p0_8, gP_of H.1.t0 H.1.p0_9, gP_of H.1.t0 H.1.p0_14, gP_of H.1.t0 H.1.p0_15, gP_of H.1.t0 H.1.p0_21, gP_of H.1.t0 H.1.p0_22, gP_of H.1.t0 H.1.p0_23, gP_of H.1.t0 H.1.p0_24, gP_of H.1.t0 H.1.p0_26, gP_of H.1.t0 H.1.p0_27, gP_of H.1.t0 H.1.p0_28, gP_of H.1.t0 H.1.p0_29, gP_of H.1.t0 H.1.p0_30, gP_of H.1.t0 H.1.p0_31, gP_of H.1.t0 H.1.p0_32, gP_of H.1.t0 H.1.p0_33, gP_of H.1.t0 H.1.p0_40, gP_of H.1.t0 H.1.p0_41, gP_of H.1.t0 H.1.p0_46, gP_of H.1.t0 H.1.p0_47, gP_of H.1.t0 H.1.p0_48, m_tread H w hg, ht0, ex, e2, ea, eb, ec, e3, nI_1, y1]
theorem m_lc44 (w : WH h) (h0 : ¬ h.n = 0) (hp : p < h.te) (hF : Fix h.te h.n h.tr (wgt h fl) D) {C0 : Nat → Nat} : ∀ (f x : Nat) (μ : Mm) (C : Nat → Nat) (m : Bool), x ≤ h.te → h.te < x + f → MI R T F h K μ c → Cm h p C μ c → Rx h.te h.n h.tr (wgt h fl) D C0 C m (dnm h p x 0) → ∃ μ' C' m', lp_X12_layCosts_44 f c (nI (b1 fl)) (nI (b1 m)) (nI x) μ = some (nI (b1 m'), μ') ∧ SM μ μ' c ∧ Cm h p C' μ' c ∧ Rx h.te h.n h.tr (wgt h fl) D C0 C' m' (fun _ _ => True) := by
  have hn6 := w.1
  have t1 := w.te_ge h0
  have t2 := w.te_lt
  intro f
  induction f with
  | zero => intro x μ C m q1 q2; omega
  | succ f ih =>
    intro x μ C m q1 q2 H hc hr
    by_cases e : x = h.te
    · have e1 : nI h.te ≤ nI x := by rw [e]; exact Int32.le_refl _
      refine ⟨μ, C, m, ?_, SM.rf μ c, hc, hr.weak (fun j' g' _ _ _ => Or.inl (by rw [e]; exact wy_lt (by omega)))⟩
      simp (config := { decide := true }) only [↓reduceIte, Option.bind_some, Option.bind_none, lp_X12_layCosts_44, m_hev H, e1]
    · have e1 : ¬ nI h.te ≤ nI x := nI_ge (by omega) (by omega)
      obtain ⟨μ1, C1, m1, y1, y2, y3, y4⟩ := m_lc56 (F := F) (K := K) (R := R) (T := T) (c := c) w h0 hp hF (C0 := C0) (show x < h.te by omega) BIG 0 μ C m (by omega) (by unfold BIG; omega) H hc hr
      have y1' : lp_X12_layCosts_56 BIG c (nI (b1 fl)) (nI (b1 m)) (nI x) 0 μ = _ := y1
      obtain ⟨μ2, C2, m2, z1, z2, z3, z4⟩ := ih (x + 1) μ1 C1 m1 (by omega) (by omega) (H.scr y2) y3 y4
      refine ⟨μ2, C2, m2, ?_, y2.tr z2, z3, z4⟩
      simp (config := { decide := true }) only [↓reduceIte, Option.bind_some, Option.bind_none, lp_X12_layCosts_44, m_hev H, e1, y1', nI_1, z1]
theorem m_lc35 (w : WH h) (h0 : ¬ h.n = 0) (hp : p < h.te) (hD : Sup h.te h.n h.tr (wgt h fl) D) (hF : Fix h.te h.n h.tr (wgt h fl) D) : ∀ (d f : Nat) (μ : Mm) (C : Nat → Nat) (m : Bool), d + 2 < f → MI R T F h K μ c → Cm h p C μ c → Inv h.te D C → (m = false → ∀ i, i < h.te → C i = D i) → h.te ≤ fin h.te D C + d → ∃ μ', lp_X12_layCosts_35 f c (nI (b1 fl)) (nI (b1 m)) μ = some μ' ∧ SM μ μ' c ∧ Cm h p D μ' c := by
  have t1 := w.te_ge h0
  have t2 := w.te_lt
  intro d
  induction d with
  | zero =>
    intro f μ C m q1 H hc hC hm hf
    obtain ⟨f, rfl⟩ : ∃ g, f = g + 2 := ⟨f - 2, by omega⟩
    cases m with
    | false =>
      have e0 : nI (b1 false) = 0 := rfl
      refine ⟨μ, ?_, SM.rf μ c, fun x hx => by rw [hc x hx, hm rfl _ (wy_lt (by omega))]⟩
      simp (config := { decide := true }) only [↓reduceIte, Option.bind_some, Option.bind_none, lp_X12_layCosts_35, e0]
    | true =>
      have e0 : nI (b1 true) = 1 := rfl
      obtain ⟨μ1, C1, m1, y1, y2, y3, y4⟩ := m_lc44 (F := F) (K := K) (R := R) (T := T) (c := c) w h0 hp hF (C0 := C) BIG 0 μ C false (by omega) (by unfold BIG; omega) H hc (Rx.start hC (fun _ _ _ _ q => by unfold dnm at q; omega))
      have y1' : lp_X12_layCosts_44 BIG c (nI (b1 fl)) 0 0 μ = _ := y1
      obtain ⟨s1, s2, s3, s4⟩ := sweep (fun g hg => (wgt_ok w fl hg).1) hD hF hC y4
      have hl : fin h.te D C = h.te := by have := cntP_le (fun i => decide (C i = D i)) h.te; unfold fin at hf ⊢; omega
      have hm1 := s3 hl
      subst hm1
      have e2 : nI (b1 false) = 0 := rfl
      refine ⟨μ1, ?_, y2, fun x hx => by rw [y3 x hx, s1 rfl _ (wy_lt (by omega))]⟩
      simp (config := { decide := true }) only [↓reduceIte, Option.bind_some, Option.bind_none, lp_X12_layCosts_35, e0, y1', e2]
  | succ d ih =>
    intro f μ C m q1 H hc hC hm hf
    obtain ⟨f, rfl⟩ : ∃ g, f = g + 1 := ⟨f - 1, by omega⟩
    cases m with
    | false =>
      have e0 : nI (b1 false) = 0 := rfl
      refine ⟨μ, ?_, SM.rf μ c, fun x hx => by rw [hc x hx, hm rfl _ (wy_lt (by omega))]⟩
      simp (config := { decide := true }) only [↓reduceIte, Option.bind_some, Option.bind_none, lp_X12_layCosts_35, e0]
    | true =>
      have e0 : nI (b1 true) = 1 := rfl
      obtain ⟨μ1, C1, m1, y1, y2, y3, y4⟩ := m_lc44 (F := F) (K := K) (R := R) (T := T) (c := c) w h0 hp hF (C0 := C) BIG 0 μ C false (by omega) (by unfold BIG; omega) H hc (Rx.start hC (fun _ _ _ _ q => by unfold dnm at q; omega))
      have y1' : lp_X12_layCosts_44 BIG c (nI (b1 fl)) 0 0 μ = _ := y1
      obtain ⟨s1, s2, s3, s4⟩ := sweep (fun g hg => (wgt_ok w fl hg).1) hD hF hC y4
      obtain ⟨μ2, z1, z2, z3⟩ := ih f μ1 C1 m1 (by omega) (H.scr y2) y3 y4.1 s1 (by
        by_cases z : fin h.te D C < h.te
        · have := s2 z; omega
        · omega)
      refine ⟨μ2, ?_, y2.tr z2, z3⟩
      simp (config := { decide := true }) only [↓reduceIte, Option.bind_some, Option.bind_none, lp_X12_layCosts_35, e0, y1', z1]
theorem m_lc2 (w : WH h) (h0 : ¬ h.n = 0) (hp : p < h.te) {q : Int32} : ∀ (f k : Nat) (μ : Mm), k ≤ h.te → h.te < k + f → MI R T F h K μ c → (∀ j, j < k → mI μ (c + 21) j = nI (if j = p then 0 else FARn)) → ∃ μ', lp_X12_layCosts_2 f c (nI p) q (nI k) μ = some μ' ∧ SM μ μ' c ∧ (∀ j, j < h.te → mI μ' (c + 21) j = nI (if j = p then 0 else FARn)) := by
  have t1 := w.te_ge h0
  have t2 := w.te_lt
  intro f
  induction f with
  | zero => intro k μ q1 q2; omega
  | succ f ih =>
    intro k μ q1 q2 H hc
    by_cases e : k = h.te
    · have e1 : nI h.te ≤ nI k := by rw [e]; exact Int32.le_refl _
      refine ⟨μ, ?_, SM.rf μ c, fun j hj => hc j (by omega)⟩
      simp (config := { decide := true }) only [↓reduceIte, Option.bind_some, Option.bind_none, lp_X12_layCosts_2, m_hev H, e1]
    · have e1 : ¬ nI h.te ≤ nI k := nI_ge (by omega) (by omega)
      have s1 : SM μ (sI μ (c + 21) k (nI (if k = p then 0 else FARn))) c := (SM.rf μ c).sI (by unfold asd; omega)
      have qa := qI_of (v := nI (if k = p then 0 else FARn)) H.1.t21 (show k < ln μ (c + 21) by rw [H.1.n21]; omega) (by omega)
      obtain ⟨μ', y1, y2, y3⟩ := ih (k + 1) _ (by omega) (by omega) (H.scr s1) (fun j hj => by
        by_cases z : j = k
        · subst z; rw [mI_eq]
        · rw [mI_nk z]; exact hc j (by omega))
      refine ⟨μ', ?_, s1.tr y2, y3⟩
      by_cases k0 : k = p
      · rw [if_pos k0] at qa y1
        have qa' : qI μ (c + 21) 21 (nI k) 0 = some (sI μ (c + 21) k 0) := qa
        have y1' : lp_X12_layCosts_2 f c (nI p) q (nI (k + 1)) (sI μ (c + 21) k 0) = some μ' := y1
        have e0' : ∀ (X Y : Option Mm), (if nI k = nI p then X else Y) = X := fun X Y => if_pos (congrArg nI k0)
        simp (config := { decide := true }) only [↓reduceIte, Option.bind_some, Option.bind_none, lp_X12_layCosts_2, m_hev H, e1, H.1.t0, gP_of H.1.t0 H.1.p0_1, gP_of H.1.t0 H.1.p0_5, gP_of H.1.t0 H.1.p0_6, gP_of H.1.t0 H.1.p0_7, gP_of H.1.t0 H.1.p0_8, gP_of H.1.t0 H.1.p0_9, gP_of H.1.t0 H.1.p0_14, gP_of H.1.t0 H.1.p0_15, gP_of H.1.t0 H.1.p0_21, gP_of H.1.t0 H.1.p0_22, gP_of H.1.t0 H.1.p0_23, gP_of H.1.t0 H.1.p0_24, gP_of H.1.t0 H.1.p0_26, gP_of H.1.t0 H.1.p0_27, gP_of H.1.t0 H.1.p0_28, gP_of H.1.t0 H.1.p0_29, gP_of H.1.t0 H.1.p0_30, gP_of H.1.t0 H.1.p0_31, gP_of H.1.t0 H.1.p0_32, gP_of H.1.t0 H.1.p0_33, gP_of H.1.t0 H.1.p0_40, gP_of H.1.t0 H.1.p0_41, gP_of H.1.t0 H.1.p0_46, gP_of H.1.t0 H.1.p0_47, gP_of H.1.t0 H.1.p0_48, e0', qa', nI_1, y1']
      · rw [if_neg k0] at qa y1
        have e0 : ¬ nI k = nI p := fun z => k0 ((nI_eq (by omega) (by omega)).mp z)
        have qa' : qI μ (c + 21) 21 (nI k) 1000000 = some (sI μ (c + 21) k 1000000) := qa
        have y1' : lp_X12_layCosts_2 f c (nI p) q (nI (k + 1)) (sI μ (c + 21) k 1000000) = some μ' := y1
        simp (config := { decide := true }) only [↓reduceIte, Option.bind_some, Option.bind_none, lp_X12_layCosts_2, m_hev H, e1, H.1.t0, gP_of H.1.t0 H.1.p0_1, gP_of H.1.t0 H.1.p0_5, gP_of H.1.t0 H.1.p0_6, gP_of H.1.t0 H.1.p0_7, gP_of H.1.t0 H.1.p0_8, gP_of H.1.t0 H.1.p0_9, gP_of H.1.t0 H.1.p0_14, gP_of H.1.t0 H.1.p0_15, gP_of H.1.t0 H.1.p0_21, gP_of H.1.t0 H.1.p0_22, gP_of H.1.t0 H.1.p0_23, gP_of H.1.t0 H.1.p0_24, gP_of H.1.t0 H.1.p0_26, gP_of H.1.t0 H.1.p0_27, gP_of H.1.t0 H.1.p0_28, gP_of H.1.t0 H.1.p0_29, gP_of H.1.t0 H.1.p0_30, gP_of H.1.t0 H.1.p0_31, gP_of H.1.t0 H.1.p0_32, gP_of H.1.t0 H.1.p0_33, gP_of H.1.t0 H.1.p0_40, gP_of H.1.t0 H.1.p0_41, gP_of H.1.t0 H.1.p0_46, gP_of H.1.t0 H.1.p0_47, gP_of H.1.t0 H.1.p0_48, e0, qa', nI_1, y1']
theorem m_costs {μ : Mm} (H : MI R T F h K μ c) (w : WH h) (h0 : ¬ h.n = 0) (hp : p < h.te) (hD : Sup h.te h.n h.tr (wgt h fl) D) (hF : Fix h.te h.n h.tr (wgt h fl) D) : ∃ μ', f_X12_layCosts μ c (nI p) (nI (b1 fl)) = some μ' ∧ SM μ μ' c ∧ Cm h p D μ' c := by
  have t1 := w.te_ge h0
  have t2 := w.te_lt
  obtain ⟨μ1, y1, y2, y3⟩ := m_lc2 (F := F) (K := K) (R := R) (T := T) (c := c) w h0 hp (q := nI (b1 fl)) BIG 0 μ (by omega) (by unfold BIG; omega) H (fun j hj => absurd hj (Nat.not_lt_zero _))
  have y1' : lp_X12_layCosts_2 BIG c (nI p) (nI (b1 fl)) 0 μ = some μ1 := y1
  have h1 := fin_0 (C := fun i => if i = 0 then 0 else FARn) (show 0 < h.te by omega) hD rfl
  obtain ⟨μ2, z1, z2, z3⟩ := m_lc35 (F := F) (K := K) (R := R) (T := T) (c := c) (fl := fl) w h0 hp hD hF 60 BIG μ1 (fun i => if i = 0 then 0 else FARn) true (by unfold BIG; omega) (H.scr y2) (fun x hx => by
    rw [y3 x hx]
    show _ = nI (if wy h.te p x = 0 then 0 else FARn)
    have hi := wy_inv hp hx (show 0 < h.te by omega)
    have h00 : wy h.te p 0 = p := by unfold wy; rw [Nat.sub_zero, Nat.add_mul_mod_self_right, Nat.mod_eq_of_lt hp]
    by_cases z : x = p
    · rw [if_pos z, if_pos (hi.mpr (by rw [h00]; exact z))]
    · rw [if_neg z, if_neg (fun q => z ((hi.mp q).trans h00))]) (inv_0 hD) (fun z => by cases z) (by omega)
  have z1' : lp_X12_layCosts_35 BIG c (nI (b1 fl)) 1 μ1 = some μ2 := z1
  refine ⟨μ2, ?_, y2.tr z2, z3⟩
  simp (config := { decide := true }) only [↓reduceIte, Option.bind_some, Option.bind_none, f_X12_layCosts, H.1.t0, y1', z1']
theorem fwk_m {g : Nat} (w : WH h) (h0 : ¬ h.n = 0) (hp : p < h.te) (hg : g < h.n) : wy h.te p ((h.q.1 + h.tr g) % h.te) = wy h.te p (h.tr g + h.q.1) := by
  have t1 := w.te_ge h0
  have tn := w.now_lt h0
  have htr := w.tr_le hg
  have hm : (h.q.1 + h.tr g) % h.te < h.te := Nat.mod_lt _ (by omega)
  have e1 := wy_add (te := h.te) (p := p) (q := (h.q.1 + h.tr g) % h.te) (by omega)
  have e2 := wy_add (te := h.te) (p := p) (q := h.tr g + h.q.1) (by omega)
  refine mod_inj (s := h.tr g + h.q.1) (wy_lt (by omega)) (wy_lt (by omega)) ?_
  rw [e2, ← e1, Nat.add_mod_mod, Nat.add_comm h.q.1]
theorem m_few_l {μ : Mm} (H : MI R T F h K μ c) (w : WH h) (h0 : ¬ h.n = 0) (hp : p < h.te) (hD : Sup h.te h.n h.tr (wgt h fl) D) (hc : Cm h p D μ c) : ∀ (k f : Nat), k ≤ h.n → k < f → lp_X12_fewest_48 f c (nI (D (wy h.te p h.q.1))) (ofn (fst (fwk h D p) (h.n - k) k)) (dn k) μ = some (ofn (fst (fwk h D p) h.n 0)) := by
  have hn6 := w.1
  have t1 := w.te_ge h0
  have t2 := w.te_lt
  have tn := w.now_lt h0
  have hl0 : wy h.te p h.q.1 < h.te := wy_lt (by omega)
  have ht0 : ¬ nI h.te = 0 := nI_ne0 (by omega) (by omega)
  have hFA : FARn = 1000000 := rfl
  have hLb := hD.2.1 _ hl0
  intro k
  induction k with
  | zero =>
    intro f q1 q2
    obtain ⟨f, rfl⟩ : ∃ g, f = g + 1 := ⟨f - 1, by omega⟩
    have e1 : dn 0 < 0 := by decide
    rw [Nat.sub_zero]
    simp (config := { decide := true }) only [↓reduceIte, Option.bind_some, Option.bind_none, lp_X12_fewest_48, e1]
  | succ k ih =>
    intro f q1 q2
    obtain ⟨f, rfl⟩ : ∃ g, f = g + 1 := ⟨f - 1, by omega⟩
    have hI := ih f (by omega) (by omega)
    rw [show h.n - k = (h.n - (k + 1)) + 1 by omega, fst_s] at hI
    have hk : k < h.n := by omega
    have htr := w.tr_le hk
    have e1 : ¬ nI k < 0 := nI_pos (by omega)
    have hm : (h.q.1 + h.tr k) % h.te < h.te := Nat.mod_lt _ (by omega)
    have e2 := pk_rem (a := h.q.1 + h.tr k) (d := h.te) (by omega) (by omega) (by omega)
    have ea := hc.get H.1 t2 hm
    rw [fwk_m w h0 hp hk] at ea
    have hlg : wy h.te p (h.tr k + h.q.1) < h.te := wy_lt (by omega)
    have hcm := fw_cmp (hD.2.1 _ hlg) hLb
    show lp_X12_fewest_48 (f + 1) c _ _ (nI k) μ = _
    by_cases z : fwk h D p k = true
    · have z2 := of_decide_eq_true z
      have e3 := hcm.mpr z2
      have e4 : ¬ nI (D (wy h.te p h.q.1)) ≤ 0 := nI_nle (by omega) (by omega)
      rw [if_pos z] at hI
      have e3' : ∀ (X Y : Option Int32), (if nI (D (wy h.te p (h.tr k + h.q.1))) = nI (D (wy h.te p h.q.1)) - 1 then X else Y) = X := fun X Y => if_pos e3
      simp (config := { decide := true }) only [↓reduceIte, Option.bind_some, Option.bind_none, lp_X12_fewest_48, e1, e4, H.1.t0, gP_of H.1.t0 H.1.p0_1, gP_of H.1.t0 H.1.p0_5, gP_of H.1.t0 H.1.p0_6, gP_of H.1.t0 H.1.p0_7, gP_of H.1.t0 H.1.p0_8, gP_of H.1.t0 H.1.p0_9, gP_of H.1.t0 H.1.p0_14, gP_of H.1.t0 H.1.p0_15, gP_of H.1.t0 H.1.p0_21, gP_of H.1.t0 H.1.p0_22, gP_of H.1.t0 H.1.p0_23, gP_of H.1.t0 H.1.p0_24, gP_of H.1.t0 H.1.p0_26, gP_of H.1.t0 H.1.p0_27, gP_of H.1.t0 H.1.p0_28, gP_of H.1.t0 H.1.p0_29, gP_of H.1.t0 H.1.p0_30, gP_of H.1.t0 H.1.p0_31, gP_of H.1.t0 H.1.p0_32, gP_of H.1.t0 H.1.p0_33, gP_of H.1.t0 H.1.p0_40, gP_of H.1.t0 H.1.p0_41, gP_of H.1.t0 H.1.p0_46, gP_of H.1.t0 H.1.p0_47, gP_of H.1.t0 H.1.p0_48, m_hev H, m_tread H w hk, ht0, nI_add, e2, ea, e3', dn_s]
      exact hI
    · rw [if_neg z] at hI
      by_cases y : D (wy h.te p h.q.1) = 0
      · have e4 : nI (D (wy h.te p h.q.1)) ≤ 0 := by rw [y]; decide
        simp (config := { decide := true }) only [↓reduceIte, Option.bind_some, Option.bind_none, lp_X12_fewest_48, e1, e4, dn_s]
        exact hI
      · have e4 : ¬ nI (D (wy h.te p h.q.1)) ≤ 0 := nI_nle (by omega) (by omega)
        have e3 : ¬ nI (D (wy h.te p (h.tr k + h.q.1))) = nI (D (wy h.te p h.q.1)) - 1 := fun q => z (decide_eq_true (hcm.mp q))
        simp (config := { decide := true }) only [↓reduceIte, Option.bind_some, Option.bind_none, lp_X12_fewest_48, e1, e4, H.1.t0, gP_of H.1.t0 H.1.p0_1, gP_of H.1.t0 H.1.p0_5, gP_of H.1.t0 H.1.p0_6, gP_of H.1.t0 H.1.p0_7, gP_of H.1.t0 H.1.p0_8, gP_of H.1.t0 H.1.p0_9, gP_of H.1.t0 H.1.p0_14, gP_of H.1.t0 H.1.p0_15, gP_of H.1.t0 H.1.p0_21, gP_of H.1.t0 H.1.p0_22, gP_of H.1.t0 H.1.p0_23, gP_of H.1.t0 H.1.p0_24, gP_of H.1.t0 H.1.p0_26, gP_of H.1.t0 H.1.p0_27, gP_of H.1.t0 H.1.p0_28, gP_of H.1.t0 H.1.p0_29, gP_of H.1.t0 H.1.p0_30, gP_of H.1.t0 H.1.p0_31, gP_of H.1.t0 H.1.p0_32, gP_of H.1.t0 H.1.p0_33, gP_of H.1.t0 H.1.p0_40, gP_of H.1.t0 H.1.p0_41, gP_of H.1.t0 H.1.p0_46, gP_of H.1.t0 H.1.p0_47, gP_of H.1.t0 H.1.p0_48, m_hev H, m_tread H w hk, ht0, nI_add, e2, ea, e3, dn_s]
        exact hI
end CM
theorem PSI_feet : PS_feet INV := by
  intro μ a1 a2 q1 hI
  refine both_of (fx := fun μ a => f_X11_feet μ a q1) (fm := fun μ c => f_X12_feet μ c q1) ?_ μ a1 a2 hI
  intro R T F h K hw
  have w := hw.2.2.1
  have hn6 := w.1
  have t2 := w.te_lt
  have hFA : FARn = 1000000 := rfl
  rcases ix2 q1 h.te (by omega) with h1 | ⟨p, hp, rfl⟩
  · refine ⟨-1, R, T, F, h, K, hw, fun μ a H => XO.same H ?_, fun μ c H => MO.same H ?_⟩
    · simp (config := { decide := true }) only [↓reduceIte, Option.bind_some, Option.bind_none, f_X11_feet, H.1.t0, gP_of H.1.t0 H.1.p0_0, gP_of H.1.t0 H.1.p0_1, gP_of H.1.t0 H.1.p0_2, gP_of H.1.t0 H.1.p0_3, gP_of H.1.t0 H.1.p0_4, gP_of H.1.t0 H.1.p0_5, gP_of H.1.t0 H.1.p0_6, gP_of H.1.t0 H.1.p0_7, gP_of H.1.t0 H.1.p0_8, gP_of H.1.t0 H.1.p0_9, x_hasT_bad H h1]
    · simp (config := { decide := true }) only [↓reduceIte, Option.bind_some, Option.bind_none, f_X12_feet, H.1.t0, m_isT_bad H w h1]
  have h0 := te_pos w hp
  have t1 := w.te_ge h0
  have tn := w.now_lt h0
  obtain ⟨D, hD, hF⟩ := dst_ex (te := h.te) (n := h.n) (t := h.tr) (w := wgt h true) (by omega) (fun g hg => (wgt_ok w true hg).1)
  have hl0 : wy h.te p h.q.1 < h.te := wy_lt (by omega)
  have hLb := hD.2.1 _ hl0
  refine ⟨cto (D (wy h.te p h.q.1)), R, T, F, h, K, hw, fun μ a H => ?_, fun μ c H => ?_⟩
  · obtain ⟨μ1, y1, y2, y3⟩ := x_costs (fl := true) H w h0 hD hF
    have y1' : f_X10_findCosts μ (a + 28) (a + 3) 1 = some μ1 := y1
    have H1 := H.scr y2
    refine XO.scr y2 (XO.same H1 ?_)
    simp (config := { decide := true }) only [↓reduceIte, Option.bind_some, Option.bind_none, f_X11_feet, H.1.t0, gP_of H.1.t0 H.1.p0_0, gP_of H.1.t0 H.1.p0_1, gP_of H.1.t0 H.1.p0_2, gP_of H.1.t0 H.1.p0_3, gP_of H.1.t0 H.1.p0_4, gP_of H.1.t0 H.1.p0_5, gP_of H.1.t0 H.1.p0_6, gP_of H.1.t0 H.1.p0_7, gP_of H.1.t0 H.1.p0_8, gP_of H.1.t0 H.1.p0_9, x_hasT_ok H w hp, y1', gP_of H1.1.t0 H1.1.p0_8, gP_of H1.1.t0 H1.1.p0_2, x_wayTo H1 w h0 (show p < 2 ^ 30 by omega), x_costOf H1 w hD y3 hl0]
  · obtain ⟨μ1, y1, y2, y3⟩ := m_costs (fl := true) H w h0 hp hD hF
    have y1' : f_X12_layCosts μ c (nI p) 1 = some μ1 := y1
    have H1 := H.scr y2
    have ea := y3.get H1.1 t2 tn
    refine MO.scr y2 (MO.same H1 ?_)
    unfold cto
    by_cases z : D (wy h.te p h.q.1) < FARn
    · have e1 : ¬ nI (D (wy h.te p h.q.1)) = 1000000 := fun q => by
        have := (nI_eq (b := 1000000) (by omega) (by decide)).mp q
        omega
      rw [if_pos z]
      simp (config := { decide := true }) only [↓reduceIte, Option.bind_some, Option.bind_none, f_X12_feet, H.1.t0, m_isT_ok H w hp, y1', gP_of H1.1.t0 H1.1.p0_40, gP_of H1.1.t0 H1.1.p0_23, m_hev H1, ea, e1]
    · have e1 : nI (D (wy h.te p h.q.1)) = 1000000 := congrArg nI (show D (wy h.te p h.q.1) = 1000000 by omega)
      rw [if_neg z]
      rw [e1] at ea
      simp (config := { decide := true }) only [↓reduceIte, Option.bind_some, Option.bind_none, f_X12_feet, H.1.t0, m_isT_ok H w hp, y1', gP_of H1.1.t0 H1.1.p0_40, gP_of H1.1.t0 H1.1.p0_23, m_hev H1, ea]
theorem PSI_fewest : PS_fewest INV := by
  intro μ a1 a2 q1 hI
  refine both_of (fx := fun μ a => f_X11_fewest μ a q1) (fm := fun μ c => f_X12_fewest μ c q1) ?_ μ a1 a2 hI
  intro R T F h K hw
  have w := hw.2.2.1
  have hn6 := w.1
  have t2 := w.te_lt
  have hFA : FARn = 1000000 := rfl
  rcases ix2 q1 h.te (by omega) with h1 | ⟨p, hp, rfl⟩
  · refine ⟨-1, R, T, F, h, K, hw, fun μ a H => XO.same H ?_, fun μ c H => MO.same H ?_⟩
    · simp (config := { decide := true }) only [↓reduceIte, Option.bind_some, Option.bind_none, f_X11_fewest, H.1.t0, gP_of H.1.t0 H.1.p0_0, gP_of H.1.t0 H.1.p0_1, gP_of H.1.t0 H.1.p0_2, gP_of H.1.t0 H.1.p0_3, gP_of H.1.t0 H.1.p0_4, gP_of H.1.t0 H.1.p0_5, gP_of H.1.t0 H.1.p0_6, gP_of H.1.t0 H.1.p0_7, gP_of H.1.t0 H.1.p0_8, gP_of H.1.t0 H.1.p0_9, x_hasT_bad H h1]
    · simp (config := { decide := true }) only [↓reduceIte, Option.bind_some, Option.bind_none, f_X12_fewest, H.1.t0, m_isT_bad H w h1]
  have h0 := te_pos w hp
  have t1 := w.te_ge h0
  have tn := w.now_lt h0
  obtain ⟨D, hD, hF⟩ := dst_ex (te := h.te) (n := h.n) (t := h.tr) (w := wgt h false) (by omega) (fun g hg => (wgt_ok w false hg).1)
  have hl0 : wy h.te p h.q.1 < h.te := wy_lt (by omega)
  have hLb := hD.2.1 _ hl0
  have eN : nI h.n - 1 = dn h.n := by
    obtain ⟨u, hu⟩ : ∃ u, h.n = u + 1 := ⟨h.n - 1, by omega⟩
    rw [hu]; exact pred1 (Nat.succ_pos u)
  by_cases z : D (wy h.te p h.q.1) < FARn
  · have e9 : ¬ nI (D (wy h.te p h.q.1)) = -9 := fun q => by
      have := nI_pos (n := D (wy h.te p h.q.1)) (by omega)
      rw [q] at this
      exact this (by decide)
    have e1 : ¬ nI (D (wy h.te p h.q.1)) = 1000000 := fun q => by
      have := (nI_eq (b := 1000000) (by omega) (by decide)).mp q
      omega
    refine ⟨nI (D (wy h.te p h.q.1)), R, T, tel F (ofn (fst (fwk h D p) h.n 0)), h, K, hw, fun μ a H => ?_, fun μ c H => ?_⟩
    · obtain ⟨μ1, y1, y2, y3⟩ := x_costs (fl := false) H w h0 hD hF
      have y1' : f_X10_findCosts μ (a + 28) (a + 3) 0 = some μ1 := y1
      have H1 := H.scr y2
      have ec := x_costOf H1 w hD y3 hl0
      unfold cto at ec
      rw [if_pos z] at ec
      refine XO.scr y2 (XO.tell H1 ?_)
      simp (config := { decide := true }) only [↓reduceIte, Option.bind_some, Option.bind_none, f_X11_fewest, H.1.t0, gP_of H.1.t0 H.1.p0_0, gP_of H.1.t0 H.1.p0_1, gP_of H.1.t0 H.1.p0_2, gP_of H.1.t0 H.1.p0_3, gP_of H.1.t0 H.1.p0_4, gP_of H.1.t0 H.1.p0_5, gP_of H.1.t0 H.1.p0_6, gP_of H.1.t0 H.1.p0_7, gP_of H.1.t0 H.1.p0_8, gP_of H.1.t0 H.1.p0_9, x_hasT_ok H w hp, x_wayTo H w h0 (show p < 2 ^ 30 by omega), y1', gP_of H1.1.t0 H1.1.p0_8, gP_of H1.1.t0 H1.1.p0_2, ec, e9, x_fw H1 w h0 hD y3 hp, pI_of H1.1.t0]
    · obtain ⟨μ1, y1, y2, y3⟩ := m_costs (fl := false) H w h0 hp hD hF
      have y1' : f_X12_layCosts μ c (nI p) 0 = some μ1 := y1
      have H1 := H.scr y2
      have ea := y3.get H1.1 t2 tn
      have el := m_few_l H1 w h0 hp hD y3 h.n BIG (Nat.le_refl _) (by unfold BIG; omega)
      rw [Nat.sub_self] at el
      have el' : lp_X12_fewest_48 BIG c (nI (D (wy h.te p h.q.1))) (-9) (dn h.n) μ1 = _ := el
      refine MO.scr y2 (MO.tell H1 ?_)
      simp (config := { decide := true }) only [↓reduceIte, Option.bind_some, Option.bind_none, f_X12_fewest, H.1.t0, m_isT_ok H w hp, y1', gP_of H1.1.t0 H1.1.p0_40, gP_of H1.1.t0 H1.1.p0_23, m_hev H1, ea, e1, eN, el', m_tell H1.1]
  · refine ⟨-9, R, T, F, h, K, hw, fun μ a H => ?_, fun μ c H => ?_⟩
    · obtain ⟨μ1, y1, y2, y3⟩ := x_costs (fl := false) H w h0 hD hF
      have y1' : f_X10_findCosts μ (a + 28) (a + 3) 0 = some μ1 := y1
      have H1 := H.scr y2
      have ec := x_costOf H1 w hD y3 hl0
      unfold cto at ec
      rw [if_neg z] at ec
      refine XO.scr y2 (XO.same H1 ?_)
      simp (config := { decide := true }) only [↓reduceIte, Option.bind_some, Option.bind_none, f_X11_fewest, H.1.t0, gP_of H.1.t0 H.1.p0_0, gP_of H.1.t0 H.1.p0_1, gP_of H.1.t0 H.1.p0_2, gP_of H.1.t0 H.1.p0_3, gP_of H.1.t0 H.1.p0_4, gP_of H.1.t0 H.1.p0_5, gP_of H.1.t0 H.1.p0_6, gP_of H.1.t0 H.1.p0_7, gP_of H.1.t0 H.1.p0_8, gP_of H.1.t0 H.1.p0_9, x_hasT_ok H w hp, x_wayTo H w h0 (show p < 2 ^ 30 by omega), y1', gP_of H1.1.t0 H1.1.p0_8, gP_of H1.1.t0 H1.1.p0_2, ec]
    · obtain ⟨μ1, y1, y2, y3⟩ := m_costs (fl := false) H w h0 hp hD hF
      have y1' : f_X12_layCosts μ c (nI p) 0 = some μ1 := y1
      have H1 := H.scr y2
      have ea := y3.get H1.1 t2 tn
      have e1 : nI (D (wy h.te p h.q.1)) = 1000000 := congrArg nI (show D (wy h.te p h.q.1) = 1000000 by omega)
      rw [e1] at ea
      refine MO.scr y2 (MO.same H1 ?_)
      simp (config := { decide := true }) only [↓reduceIte, Option.bind_some, Option.bind_none, f_X12_fewest, H.1.t0, m_isT_ok H w hp, y1', gP_of H1.1.t0 H1.1.p0_40, gP_of H1.1.t0 H1.1.p0_23, m_hev H1, ea]
