/-! ===== odds: the model's rows ===== -/
section OM
variable {R T : GR} {F : GF} {h : GH} {K : GK} {c : Nat} {p q : Int32} {v : Int64} {i : Int32}
theorem m_od25 (w : WH h) (h0 : ¬ h.n = 0) : ∀ (f k : Nat) (μ : Mm), k ≤ h.te → h.te < k + f → MI R T F h K μ c → (∀ j, j < k → mL μ (c + 24) j = lN (if j = h.q.1 then 1 else 0)) → ∃ μ', lp_X12_odds_25 f c p q v (nI k) μ = some μ' ∧ SM μ μ' c ∧ (∀ j, j < h.te → mL μ' (c + 24) j = lN (if j = h.q.1 then 1 else 0)) := by
  have t1 := w.te_ge h0
  have t2 := w.te_lt
  have tn := w.now_lt h0
  intro f
  induction f with
  | zero => intro k μ q1 q2; omega
  | succ f ih =>
    intro k μ q1 q2 H hc
    by_cases e : k = h.te
    · have e1 : nI h.te ≤ nI k := by rw [e]; exact Int32.le_refl _
      refine ⟨μ, ?_, SM.rf μ c, by rw [← e]; exact hc⟩
      simp (config := { decide := true }) only [↓reduceIte, Option.bind_some, Option.bind_none, lp_X12_odds_25, m_hev H, e1]
    · have e1 : ¬ nI h.te ≤ nI k := nI_ge (by omega) (by omega)
      have s1 : SM μ (sL μ (c + 24) k (lN (if k = h.q.1 then 1 else 0))) c := (SM.rf μ c).sL (by unfold asd; omega)
      have qa := qL_of (v := lN (if k = h.q.1 then 1 else 0)) H.1.t24 (show k < ln μ (c + 24) by rw [H.1.n24]; omega) (by omega)
      obtain ⟨μ', y1, y2, y3⟩ := ih (k + 1) _ (by omega) (by omega) (H.scr s1) (fun j hj => by
        by_cases z : j = k
        · subst z; rw [mL_eq]
        · rw [mL_nk z]; exact hc j (by omega))
      refine ⟨μ', ?_, s1.tr y2, y3⟩
      by_cases k0 : k = h.q.1
      · rw [if_pos k0] at qa y1
        have qa' : qL μ (c + 24) 22 (nI k) 1 = some (sL μ (c + 24) k 1) := qa
        have y1' : lp_X12_odds_25 f c p q v (nI (k + 1)) (sL μ (c + 24) k 1) = some μ' := y1
        have e0 : nI k = nI h.q.1 := congrArg nI k0
        have e0' : ∀ (X Y : Option Mm), (if nI k = nI h.q.1 then X else Y) = X := fun X Y => if_pos e0
        simp (config := { decide := true }) only [↓reduceIte, Option.bind_some, Option.bind_none, lp_X12_odds_25, m_hev H, e1, H.1.t0, gP_of H.1.t0 H.1.p0_1, gP_of H.1.t0 H.1.p0_5, gP_of H.1.t0 H.1.p0_6, gP_of H.1.t0 H.1.p0_7, gP_of H.1.t0 H.1.p0_8, gP_of H.1.t0 H.1.p0_9, gP_of H.1.t0 H.1.p0_14, gP_of H.1.t0 H.1.p0_15, gP_of H.1.t0 H.1.p0_21, gP_of H.1.t0 H.1.p0_22, gP_of H.1.t0 H.1.p0_23, gP_of H.1.t0 H.1.p0_24, gP_of H.1.t0 H.1.p0_26, gP_of H.1.t0 H.1.p0_27, gP_of H.1.t0 H.1.p0_28, gP_of H.1.t0 H.1.p0_29, gP_of H.1.t0 H.1.p0_30, gP_of H.1.t0 H.1.p0_31, gP_of H.1.t0 H.1.p0_32, gP_of H.1.t0 H.1.p0_33, gP_of H.1.t0 H.1.p0_40, gP_of H.1.t0 H.1.p0_41, gP_of H.1.t0 H.1.p0_46, gP_of H.1.t0 H.1.p0_47, gP_of H.1.t0 H.1.p0_48, e0', qa', nI_1, y1']
      · rw [if_neg k0] at qa y1
        have e0 : ¬ nI k = nI h.q.1 := fun z => k0 ((nI_eq (by omega) (by omega)).mp z)
        have qa' : qL μ (c + 24) 22 (nI k) 0 = some (sL μ (c + 24) k 0) := qa
        have y1' : lp_X12_odds_25 f c p q v (nI (k + 1)) (sL μ (c + 24) k 0) = some μ' := y1
        simp (config := { decide := true }) only [↓reduceIte, Option.bind_some, Option.bind_none, lp_X12_odds_25, m_hev H, e1, H.1.t0, gP_of H.1.t0 H.1.p0_1, gP_of H.1.t0 H.1.p0_5, gP_of H.1.t0 H.1.p0_6, gP_of H.1.t0 H.1.p0_7, gP_of H.1.t0 H.1.p0_8, gP_of H.1.t0 H.1.p0_9, gP_of H.1.t0 H.1.p0_14, gP_of H.1.t0 H.1.p0_15, gP_of H.1.t0 H.1.p0_21, gP_of H.1.t0 H.1.p0_22, gP_of H.1.t0 H.1.p0_23, gP_of H.1.t0 H.1.p0_24, gP_of H.1.t0 H.1.p0_26, gP_of H.1.t0 H.1.p0_27, gP_of H.1.t0 H.1.p0_28, gP_of H.1.t0 H.1.p0_29, gP_of H.1.t0 H.1.p0_30, gP_of H.1.t0 H.1.p0_31, gP_of H.1.t0 H.1.p0_32, gP_of H.1.t0 H.1.p0_33, gP_of H.1.t0 H.1.p0_40, gP_of H.1.t0 H.1.p0_41, gP_of H.1.t0 H.1.p0_46, gP_of H.1.t0 H.1.p0_47, gP_of H.1.t0 H.1.p0_48, e0, qa', nI_1, y1']
theorem m_od75 (w : WH h) : ∀ (f k : Nat) (μ : Mm), k ≤ h.te → h.te < k + f → MI R T F h K μ c → (∀ j, j < k → mL μ (c + 25) j = 0) → ∃ μ', lp_X12_odds_75 f c p q v i (nI k) μ = some μ' ∧ SM μ μ' c ∧ (∀ j, j < h.te → mL μ' (c + 25) j = 0) ∧ (∀ j, mL μ' (c + 24) j = mL μ (c + 24) j) := by
  have t2 := w.te_lt
  intro f
  induction f with
  | zero => intro k μ q1 q2; omega
  | succ f ih =>
    intro k μ q1 q2 H hc
    by_cases e : k = h.te
    · have e1 : nI h.te ≤ nI k := by rw [e]; exact Int32.le_refl _
      refine ⟨μ, ?_, SM.rf μ c, by rw [← e]; exact hc, fun _ => rfl⟩
      simp (config := { decide := true }) only [↓reduceIte, Option.bind_some, Option.bind_none, lp_X12_odds_75, m_hev H, e1]
    · have e1 : ¬ nI h.te ≤ nI k := nI_ge (by omega) (by omega)
      have s1 : SM μ (sL μ (c + 25) k 0) c := (SM.rf μ c).sL (by unfold asd; omega)
      have qa := qL_of (v := 0) H.1.t25 (show k < ln μ (c + 25) by rw [H.1.n25]; omega) (by omega)
      obtain ⟨μ', y1, y2, y3, y4⟩ := ih (k + 1) _ (by omega) (by omega) (H.scr s1) (fun j hj => by
        by_cases z : j = k
        · subst z; rw [mL_eq]
        · rw [mL_nk z]; exact hc j (by omega))
      refine ⟨μ', ?_, s1.tr y2, y3, fun j => (y4 j).trans (mL_ne (by omega))⟩
      simp (config := { decide := true }) only [↓reduceIte, Option.bind_some, Option.bind_none, lp_X12_odds_75, m_hev H, e1, H.1.t0, gP_of H.1.t0 H.1.p0_1, gP_of H.1.t0 H.1.p0_5, gP_of H.1.t0 H.1.p0_6, gP_of H.1.t0 H.1.p0_7, gP_of H.1.t0 H.1.p0_8, gP_of H.1.t0 H.1.p0_9, gP_of H.1.t0 H.1.p0_14, gP_of H.1.t0 H.1.p0_15, gP_of H.1.t0 H.1.p0_21, gP_of H.1.t0 H.1.p0_22, gP_of H.1.t0 H.1.p0_23, gP_of H.1.t0 H.1.p0_24, gP_of H.1.t0 H.1.p0_26, gP_of H.1.t0 H.1.p0_27, gP_of H.1.t0 H.1.p0_28, gP_of H.1.t0 H.1.p0_29, gP_of H.1.t0 H.1.p0_30, gP_of H.1.t0 H.1.p0_31, gP_of H.1.t0 H.1.p0_32, gP_of H.1.t0 H.1.p0_33, gP_of H.1.t0 H.1.p0_40, gP_of H.1.t0 H.1.p0_41, gP_of H.1.t0 H.1.p0_46, gP_of H.1.t0 H.1.p0_47, gP_of H.1.t0 H.1.p0_48, qa, nI_1, y1]
/-- the model's sums, in the midst -/
def Tm (te n : Nat) (t ch : Nat → Nat) (x g j : Nat) : Nat := sumN (fun g' => if wy te j (t g') < x ∨ (wy te j (t g') = x ∧ g' < g) then ch (wy te j (t g')) else 0) n
theorem sumN_bump {f f' : Nat → Nat} {g v : Nat} : ∀ n, g < n → (∀ i, i < n → i ≠ g → f' i = f i) → f' g = f g + v → sumN f' n = sumN f n + v := by
  intro n
  induction n with
  | zero => intro h; exact absurd h (Nat.not_lt_zero _)
  | succ n ih =>
    intro hg h1 h2
    rw [sumN_s, sumN_s]
    by_cases e : g = n
    · subst e
      rw [sumN_cong g (fun i hi => h1 i (by omega) (by omega)), h2]; omega
    · rw [ih (by omega) (fun i hi => h1 i (by omega)) h2, h1 n (by omega) (fun z => e z.symm)]; omega
theorem m_od113 (w : WH h) (h0 : ¬ h.n = 0) {ch : Nat → Nat} {x : Nat} (hx : x < h.te) : ∀ (f g : Nat) (μ : Mm), g ≤ h.n → h.n < g + f → MI R T F h K μ c → (∀ j, j < h.te → mL μ (c + 25) j = lN (Tm h.te h.n h.tr ch x g j)) → (∀ j, j < h.te → mL μ (c + 24) j = lN (ch j)) → ∃ μ', lp_X12_odds_113 f c p q v i (nI x) (nI g) μ = some μ' ∧ SM μ μ' c ∧ (∀ j, j < h.te → mL μ' (c + 25) j = lN (Tm h.te h.n h.tr ch x h.n j)) ∧ (∀ j, mL μ' (c + 24) j = mL μ (c + 24) j) := by
  have hn6 := w.1
  have t1 := w.te_ge h0
  have t2 := w.te_lt
  intro f
  induction f with
  | zero => intro g μ q1 q2; omega
  | succ f ih =>
    intro g μ q1 q2 H hc hf
    by_cases e : g = h.n
    · have e1 : nI h.n ≤ nI g := by rw [e]; exact Int32.le_refl _
      refine ⟨μ, ?_, SM.rf μ c, fun j hj => by rw [hc j hj, e], fun _ => rfl⟩
      simp (config := { decide := true }) only [↓reduceIte, Option.bind_some, Option.bind_none, lp_X12_odds_113, m_hev H, e1]
    · have e1 : ¬ nI h.n ≤ nI g := nI_ge (by omega) (by omega)
      have hg : g < h.n := by omega
      have htr := w.tr_le hg
      have ht0 : ¬ nI h.te = 0 := nI_ne0 (by omega) (by omega)
      have hj0 : (x + h.tr g) % h.te < h.te := Nat.mod_lt _ (by omega)
      have hw0 : wy h.te ((x + h.tr g) % h.te) (h.tr g) = x := ((wy_iff hx hj0 (by omega)).mp rfl).symm
      have e2 := pk_rem (a := x + h.tr g) (d := h.te) (by omega) (by omega) (by omega)
      have ea : aL μ (c + 25) 22 (nI ((x + h.tr g) % h.te)) = some (lN (Tm h.te h.n h.tr ch x g ((x + h.tr g) % h.te))) := by
        rw [aL_of H.1.t25 (by rw [H.1.n25]; omega) (by omega), hc _ hj0]
      have eb : aL μ (c + 24) 22 (nI x) = some (lN (ch x)) := by rw [aL_of H.1.t24 (by rw [H.1.n24]; omega) (by omega), hf x hx]
      have qa := qL_of (v := lN (Tm h.te h.n h.tr ch x g ((x + h.tr g) % h.te) + ch x)) H.1.t25 (show (x + h.tr g) % h.te < ln μ (c + 25) by rw [H.1.n25]; omega) (by omega)
      have s1 : SM μ (sL μ (c + 25) ((x + h.tr g) % h.te) (lN (Tm h.te h.n h.tr ch x g ((x + h.tr g) % h.te) + ch x))) c := (SM.rf μ c).sL (by unfold asd; omega)
      obtain ⟨μ', y1, y2, y3, y4⟩ := ih (g + 1) _ (by omega) (by omega) (H.scr s1) (fun j hj => by
        by_cases z : j = (x + h.tr g) % h.te
        · subst z
          rw [mL_eq]
          refine congrArg lN (sumN_bump (g := g) h.n hg (fun i hi hne => ?_) ?_).symm
          · by_cases z2 : wy h.te ((x + h.tr g) % h.te) (h.tr i) < x ∨ (wy h.te ((x + h.tr g) % h.te) (h.tr i) = x ∧ i < g)
            · rw [if_pos z2, if_pos (by omega)]
            · rw [if_neg z2, if_neg (by omega)]
          · rw [hw0, if_pos (by omega), if_neg (by omega), Nat.zero_add]
        · rw [mL_nk z, hc j hj]
          refine congrArg lN (sumN_cong h.n fun i hi => ?_)
          by_cases z3 : i = g
          · subst z3
            have hne : wy h.te j (h.tr i) ≠ x := fun y => z ((wy_iff hx hj (by omega)).mpr y.symm).symm
            by_cases z2 : wy h.te j (h.tr i) < x
            · rw [if_pos (Or.inl z2), if_pos (Or.inl z2)]
            · rw [if_neg (by omega), if_neg (by omega)]
          · by_cases z2 : wy h.te j (h.tr i) < x ∨ (wy h.te j (h.tr i) = x ∧ i < g)
            · rw [if_pos z2, if_pos (by omega)]
            · rw [if_neg z2, if_neg (by omega)]) (fun j hj => by rw [mL_ne (by omega)]; exact hf j hj)
      refine ⟨μ', ?_, s1.tr y2, y3, fun j => (y4 j).trans (mL_ne (by omega))⟩
      simp (config := { decide := true }) only [↓reduceIte, Option.bind_some, Option.bind_none, lp_X12_odds_113, m_hev H, e1, H.1.t0, gP_of H.1.t0 H.1.p0_1, gP_of H.1.t0 H.1.p0_5, gP_of H.1.t0 H.1.p0_6, gP_of H.1.t0 H.1.p0_7, gP_of H.1.t0 H.1.p0_8, gP_of H.1.t0 H.1.p0_9, gP_of H.1.t0 H.1.p0_14, gP_of H.1.t0 H.1.p0_15, gP_of H.1.t0 H.1.p0_21, gP_of H.1.t0 H.1.p0_22, gP_of H.1.t0 H.1.p0_23, gP_of H.1.t0 H.1.p0_24, gP_of H.1.t0 H.1.p0_26, gP_of H.1.t0 H.1.p0_27, gP_of H.1.t0 H.1.p0_28, gP_of H.1.t0 H.1.p0_29, gP_of H.1.t0 H.1.p0_30, gP_of H.1.t0 H.1.p0_31, gP_of H.1.t0 H.1.p0_32, gP_of H.1.t0 H.1.p0_33, gP_of H.1.t0 H.1.p0_40, gP_of H.1.t0 H.1.p0_41, gP_of H.1.t0 H.1.p0_46, gP_of H.1.t0 H.1.p0_47, gP_of H.1.t0 H.1.p0_48, m_tread H w hg, ht0, nI_add, e2, ea, eb, lN_add, qa, nI_1, y1]
theorem m_od101 (w : WH h) (h0 : ¬ h.n = 0) {ch : Nat → Nat} : ∀ (f x : Nat) (μ : Mm), x ≤ h.te → h.te < x + f → MI R T F h K μ c → (∀ j, j < h.te → mL μ (c + 25) j = lN (Tm h.te h.n h.tr ch x 0 j)) → (∀ j, j < h.te → mL μ (c + 24) j = lN (ch j)) → ∃ μ', lp_X12_odds_101 f c p q v i (nI x) μ = some μ' ∧ SM μ μ' c ∧ (∀ j, j < h.te → mL μ' (c + 25) j = lN (sumN (fun g => ch (wy h.te j (h.tr g))) h.n)) := by
  have hn6 := w.1
  have t1 := w.te_ge h0
  have t2 := w.te_lt
  intro f
  induction f with
  | zero => intro x μ q1 q2; omega
  | succ f ih =>
    intro x μ q1 q2 H hc hf
    by_cases e : x = h.te
    · have e1 : nI h.te ≤ nI x := by rw [e]; exact Int32.le_refl _
      refine ⟨μ, ?_, SM.rf μ c, fun j hj => ?_⟩
      · simp (config := { decide := true }) only [↓reduceIte, Option.bind_some, Option.bind_none, lp_X12_odds_101, m_hev H, e1]
      · rw [hc j hj, e]
        refine congrArg lN (sumN_cong h.n fun g hg => ?_)
        rw [if_pos (Or.inl (wy_lt (by omega)))]
    · have e1 : ¬ nI h.te ≤ nI x := nI_ge (by omega) (by omega)
      obtain ⟨μ1, y1, y2, y3, y4⟩ := m_od113 (F := F) (K := K) (R := R) (T := T) (c := c) (p := p) (q := q) (v := v) (i := i) w h0 (ch := ch) (show x < h.te by omega) BIG 0 μ (by omega) (by unfold BIG; omega) H hc hf
      have y1' : lp_X12_odds_113 BIG c p q v i (nI x) 0 μ = some μ1 := y1
      obtain ⟨μ2, z1, z2, z3⟩ := ih (x + 1) μ1 (by omega) (by omega) (H.scr y2) (fun j hj => by
        rw [y3 j hj]
        refine congrArg lN (sumN_cong h.n fun g hg => ?_)
        by_cases z2 : wy h.te j (h.tr g) < x + 1
        · rw [if_pos (by omega), if_pos (by omega)]
        · rw [if_neg (by omega), if_neg (by omega)]) (fun j hj => (y4 j).trans (hf j hj))
      refine ⟨μ2, ?_, y2.tr z2, z3⟩
      simp (config := { decide := true }) only [↓reduceIte, Option.bind_some, Option.bind_none, lp_X12_odds_101, m_hev H, e1, y1', nI_1, z1]
theorem m_od166 (w : WH h) {X : Nat → Int64} : ∀ (f k : Nat) (μ : Mm), k ≤ h.te → h.te < k + f → MI R T F h K μ c → (∀ j, j < h.te → mL μ (c + 25) j = X j) → (∀ j, j < k → mL μ (c + 24) j = X j) → ∃ μ', lp_X12_odds_166 f c p q v i (nI k) μ = some μ' ∧ SM μ μ' c ∧ (∀ j, j < h.te → mL μ' (c + 24) j = X j) := by
  have t2 := w.te_lt
  intro f
  induction f with
  | zero => intro k μ q1 q2; omega
  | succ f ih =>
    intro k μ q1 q2 H hx hc
    by_cases e : k = h.te
    · have e1 : nI h.te ≤ nI k := by rw [e]; exact Int32.le_refl _
      refine ⟨μ, ?_, SM.rf μ c, by rw [← e]; exact hc⟩
      simp (config := { decide := true }) only [↓reduceIte, Option.bind_some, Option.bind_none, lp_X12_odds_166, m_hev H, e1]
    · have e1 : ¬ nI h.te ≤ nI k := nI_ge (by omega) (by omega)
      have ea : aL μ (c + 25) 22 (nI k) = some (X k) := by rw [aL_of H.1.t25 (by rw [H.1.n25]; omega) (by omega), hx k (by omega)]
      have s1 : SM μ (sL μ (c + 24) k (X k)) c := (SM.rf μ c).sL (by unfold asd; omega)
      have qa := qL_of (v := X k) H.1.t24 (show k < ln μ (c + 24) by rw [H.1.n24]; omega) (by omega)
      obtain ⟨μ', y1, y2, y3⟩ := ih (k + 1) _ (by omega) (by omega) (H.scr s1) (fun j hj => by rw [mL_ne (by omega)]; exact hx j hj) (fun j hj => by
        by_cases z : j = k
        · subst z; rw [mL_eq]
        · rw [mL_nk z]; exact hc j (by omega))
      refine ⟨μ', ?_, s1.tr y2, y3⟩
      simp (config := { decide := true }) only [↓reduceIte, Option.bind_some, Option.bind_none, lp_X12_odds_166, m_hev H, e1, H.1.t0, gP_of H.1.t0 H.1.p0_1, gP_of H.1.t0 H.1.p0_5, gP_of H.1.t0 H.1.p0_6, gP_of H.1.t0 H.1.p0_7, gP_of H.1.t0 H.1.p0_8, gP_of H.1.t0 H.1.p0_9, gP_of H.1.t0 H.1.p0_14, gP_of H.1.t0 H.1.p0_15, gP_of H.1.t0 H.1.p0_21, gP_of H.1.t0 H.1.p0_22, gP_of H.1.t0 H.1.p0_23, gP_of H.1.t0 H.1.p0_24, gP_of H.1.t0 H.1.p0_26, gP_of H.1.t0 H.1.p0_27, gP_of H.1.t0 H.1.p0_28, gP_of H.1.t0 H.1.p0_29, gP_of H.1.t0 H.1.p0_30, gP_of H.1.t0 H.1.p0_31, gP_of H.1.t0 H.1.p0_32, gP_of H.1.t0 H.1.p0_33, gP_of H.1.t0 H.1.p0_40, gP_of H.1.t0 H.1.p0_41, gP_of H.1.t0 H.1.p0_46, gP_of H.1.t0 H.1.p0_47, gP_of H.1.t0 H.1.p0_48, ea, qa, nI_1, y1]
theorem m_od66 (w : WH h) (h0 : ¬ h.n = 0) {m : Nat} (hm : m ≤ 10) : ∀ (f k : Nat) (μ : Mm), k ≤ m → m < k + f → MI R T F h K μ c → (∀ j, j < h.te → mL μ (c + 24) j = lN (Wo h.te h.n h.tr k (wy h.te j h.q.1))) → ∃ μ', lp_X12_odds_66 f c p (nI m) (lN (h.n ^ k)) (nI k) μ = some (lN (h.n ^ m), μ') ∧ SM μ μ' c ∧ (∀ j, j < h.te → mL μ' (c + 24) j = lN (Wo h.te h.n h.tr m (wy h.te j h.q.1))) := by
  have hn6 := w.1
  have t1 := w.te_ge h0
  have t2 := w.te_lt
  have tn := w.now_lt h0
  intro f
  induction f with
  | zero => intro k μ q1 q2; omega
  | succ f ih =>
    intro k μ q1 q2 H hc
    by_cases e : k = m
    · have e1 : nI m ≤ nI k := by rw [e]; exact Int32.le_refl _
      refine ⟨μ, ?_, SM.rf μ c, by rw [← e]; exact hc⟩
      simp (config := { decide := true }) only [↓reduceIte, Option.bind_some, Option.bind_none, lp_X12_odds_66, e1]
      rw [e]
    · have e1 : ¬ nI m ≤ nI k := nI_ge (by omega) (by omega)
      obtain ⟨μ1, y1, y2, y3, y4⟩ := m_od75 (F := F) (h := h) (K := K) (R := R) (T := T) (c := c) (p := p) (q := nI m) (v := lN (h.n ^ k)) (i := nI k) w BIG 0 μ (by omega) (by unfold BIG; omega) H (fun j hj => absurd hj (Nat.not_lt_zero _))
      have y1' : lp_X12_odds_75 BIG c p (nI m) (lN (h.n ^ k)) (nI k) 0 μ = some μ1 := y1
      have H1 := H.scr y2
      obtain ⟨μ2, z1, z2, z3⟩ := m_od101 (F := F) (K := K) (R := R) (T := T) (c := c) (p := p) (q := nI m) (v := lN (h.n ^ k)) (i := nI k) w h0 (ch := fun j => Wo h.te h.n h.tr k (wy h.te j h.q.1)) BIG 0 μ1 (by omega) (by unfold BIG; omega) H1 (fun j hj => by
        rw [y3 j hj]
        have : Tm h.te h.n h.tr (fun j => Wo h.te h.n h.tr k (wy h.te j h.q.1)) 0 0 j = 0 := by
          unfold Tm
          rw [sumN_cong h.n (g := fun _ => 0) (fun g hg => by rw [if_neg (by omega)]), sumN_0]
        rw [this]; rfl) (fun j hj => by rw [y4 j]; exact hc j hj)
      have z1' : lp_X12_odds_101 BIG c p (nI m) (lN (h.n ^ k)) (nI k) 0 μ1 = some μ2 := z1
      have H2 := H.scr (y2.tr z2)
      obtain ⟨μ3, x1, x2, x3⟩ := m_od166 (F := F) (h := h) (K := K) (R := R) (T := T) (c := c) (p := p) (q := nI m) (v := lN (h.n ^ k)) (i := nI k) w (X := fun j => lN (sumN (fun g => Wo h.te h.n h.tr k (wy h.te (wy h.te j (h.tr g)) h.q.1)) h.n)) BIG 0 μ2 (by omega) (by unfold BIG; omega) H2 z3 (fun j hj => absurd hj (Nat.not_lt_zero _))
      have x1' : lp_X12_odds_166 BIG c p (nI m) (lN (h.n ^ k)) (nI k) 0 μ2 = some μ3 := x1
      have H3 := H.scr ((y2.tr z2).tr x2)
      obtain ⟨μ4, r1, r2, r3⟩ := ih (k + 1) μ3 (by omega) (by omega) H3 (fun j hj => by
        rw [x3 j hj]
        refine congrArg lN (sumN_cong h.n fun g hg => ?_)
        have := w.tr_le hg
        rw [wy_comm (by omega) (by omega) (by omega)])
      refine ⟨μ4, ?_, ((y2.tr z2).tr x2).tr r2, r3⟩
      simp (config := { decide := true }) only [↓reduceIte, Option.bind_some, Option.bind_none, lp_X12_odds_66, e1, y1', z1', x1', m_hev H3, lN_powS h.n k (show h.n < 2 ^ 31 by omega), nI_1, r1]
end OM
theorem PSI_odds : PS_odds INV := by
  intro μ a1 a2 q1 q2 hI
  refine both_of (fx := fun μ a => f_X11_odds μ a q1 q2) (fm := fun μ c => f_X12_odds μ c q1 q2) ?_ μ a1 a2 hI
  intro R T F h K hw
  have w := hw.2.2.1
  have hn6 := w.1
  have t2 := w.te_lt
  rcases ix2 q1 h.te (by omega) with h1 | ⟨t, ht, rfl⟩
  · refine ⟨-1, R, T, F, h, K, hw, fun μ a H => XO.same H ?_, fun μ c H => MO.same H ?_⟩
    · simp (config := { decide := true }) only [↓reduceIte, Option.bind_some, Option.bind_none, f_X11_odds, H.1.t0, gP_of H.1.t0 H.1.p0_0, gP_of H.1.t0 H.1.p0_1, gP_of H.1.t0 H.1.p0_2, gP_of H.1.t0 H.1.p0_3, gP_of H.1.t0 H.1.p0_4, gP_of H.1.t0 H.1.p0_5, gP_of H.1.t0 H.1.p0_6, gP_of H.1.t0 H.1.p0_7, gP_of H.1.t0 H.1.p0_8, gP_of H.1.t0 H.1.p0_9, x_hasT_bad H h1]
    · simp (config := { decide := true }) only [↓reduceIte, Option.bind_some, Option.bind_none, f_X12_odds, H.1.t0, m_isT_bad H w h1]
  have h0 := te_pos w ht
  rcases ix2 q2 11 (by decide) with h2 | ⟨m, hm, rfl⟩
  · refine ⟨-1, R, T, F, h, K, hw, fun μ a H => XO.same H ?_, fun μ c H => MO.same H ?_⟩
    · rcases h2 with z | ⟨z, z2⟩
      · simp (config := { decide := true }) only [↓reduceIte, Option.bind_some, Option.bind_none, f_X11_odds, H.1.t0, gP_of H.1.t0 H.1.p0_0, gP_of H.1.t0 H.1.p0_1, gP_of H.1.t0 H.1.p0_2, gP_of H.1.t0 H.1.p0_3, gP_of H.1.t0 H.1.p0_4, gP_of H.1.t0 H.1.p0_5, gP_of H.1.t0 H.1.p0_6, gP_of H.1.t0 H.1.p0_7, gP_of H.1.t0 H.1.p0_8, gP_of H.1.t0 H.1.p0_9, x_hasT_ok H w ht, z]
      · have z3 : ¬ q2 ≤ 10 := (show ¬ q2 ≤ nI 10 from i_big (n := 11) z2 (by decide) (by decide))
        simp (config := { decide := true }) only [↓reduceIte, Option.bind_some, Option.bind_none, f_X11_odds, H.1.t0, gP_of H.1.t0 H.1.p0_0, gP_of H.1.t0 H.1.p0_1, gP_of H.1.t0 H.1.p0_2, gP_of H.1.t0 H.1.p0_3, gP_of H.1.t0 H.1.p0_4, gP_of H.1.t0 H.1.p0_5, gP_of H.1.t0 H.1.p0_6, gP_of H.1.t0 H.1.p0_7, gP_of H.1.t0 H.1.p0_8, gP_of H.1.t0 H.1.p0_9, x_hasT_ok H w ht, z, z3]
    · have ein : f_X12_in μ q2 0 10 = some 0 := m_in_bad (N := 11) h2 (by decide) (by decide)
      simp (config := { decide := true }) only [↓reduceIte, Option.bind_some, Option.bind_none, f_X12_odds, H.1.t0, m_isT_ok H w ht, ein]
  have tn := w.now_lt h0
  have hwl : wy h.te t h.q.1 < h.te := wy_lt (by omega)
  have hpw : h.n ^ m ≤ 6 ^ 10 := Nat.le_trans (Nat.pow_le_pow_left hn6 m) (Nat.pow_le_pow_right (by decide) (by omega))
  have h610 : (6 : Nat) ^ 10 = 60466176 := by decide
  have hpp : 0 < h.n ^ m := Nat.pow_pos (by omega)
  have hW := Wo_le h.te h.n h.tr m (wy h.te t h.q.1)
  refine ⟨1, R, T, rat F (lN (Wo h.te h.n h.tr m (wy h.te t h.q.1) / Nat.gcd (Wo h.te h.n h.tr m (wy h.te t h.q.1)) (h.n ^ m))) (lN (h.n ^ m / Nat.gcd (Wo h.te h.n h.tr m (wy h.te t h.q.1)) (h.n ^ m))), h, K, hw, fun μ a H => ?_, fun μ c H => ?_⟩
  · obtain ⟨μ1, y1, y2, y3⟩ := x_crows H w h0 (show m ≤ 10 by omega)
    have H1 := H.scr y2
    have e1 : ¬ nI m < 0 := nI_pos (by omega)
    have e2 : nI m ≤ 10 := (show nI m ≤ nI 10 from nI_le (by omega) (by decide))
    have el : lp_X11_odds_40 BIG a (nI t) (nI m) 1 0 μ1 = some (lN (h.n ^ m)) := x_od40 H1 w (show m ≤ 10 by omega) BIG 0 (by omega) (by unfold BIG; omega)
    have ea : aL μ1 (a + 30) 22 (nI (wy h.te t h.q.1)) = some (lN (Wo h.te h.n h.tr m (wy h.te t h.q.1))) := by rw [aL_of H1.1.t30 (by rw [H1.1.n30]; omega) (by omega), y3 _ hwl]
    have er := x_rat H1.1 (u := Wo h.te h.n h.tr m (wy h.te t h.q.1)) (l := h.n ^ m) (by omega) (by omega) hpp
    refine XO.scr y2 ⟨xrat μ1 a _ _, ?_, H1.rat, fun b _ _ => ((Sm.rf μ1 b).sL (by omega)).sL (by omega), Nat.le_refl _⟩
    show f_X11_odds μ a (nI t) (nI m) = _
    simp (config := { decide := true }) only [↓reduceIte, Option.bind_some, Option.bind_none, f_X11_odds, H.1.t0, gP_of H.1.t0 H.1.p0_0, gP_of H.1.t0 H.1.p0_1, gP_of H.1.t0 H.1.p0_2, gP_of H.1.t0 H.1.p0_3, gP_of H.1.t0 H.1.p0_4, gP_of H.1.t0 H.1.p0_5, gP_of H.1.t0 H.1.p0_6, gP_of H.1.t0 H.1.p0_7, gP_of H.1.t0 H.1.p0_8, gP_of H.1.t0 H.1.p0_9, x_hasT_ok H w ht, e1, e2, y1, el, gP_of H1.1.t0 H1.1.p0_8, gP_of H1.1.t0 H1.1.p0_2, f_X10_rowsOf, H1.1.t28, gP_of H1.1.t28 H1.1.p28_1, x_wayTo H1 w h0 (show t < 2 ^ 30 by omega), ea, er]
  · obtain ⟨μ1, y1, y2, y3⟩ := m_od25 (F := F) (K := K) (R := R) (T := T) (c := c) (p := nI t) (q := nI m) (v := 1) w h0 BIG 0 μ (by omega) (by unfold BIG; omega) H (fun j hj => absurd hj (Nat.not_lt_zero _))
    have y1' : lp_X12_odds_25 BIG c (nI t) (nI m) 1 0 μ = some μ1 := y1
    have H1 := H.scr y2
    obtain ⟨μ2, z1, z2, z3⟩ := m_od66 (F := F) (K := K) (R := R) (T := T) (c := c) (p := nI t) w h0 (show m ≤ 10 by omega) BIG 0 μ1 (by omega) (by unfold BIG; omega) H1 (fun j hj => by
      rw [y3 j hj]
      show _ = lN (if wy h.te j h.q.1 = 0 then 1 else 0)
      by_cases z : j = h.q.1
      · have : wy h.te j h.q.1 = 0 := ((wy_iff (show 0 < h.te by omega) hj (by omega)).mp (by rw [Nat.zero_add, z, Nat.mod_eq_of_lt tn])).symm
        rw [if_pos z, if_pos this]
      · have : ¬ wy h.te j h.q.1 = 0 := fun y => z (by
          have := (wy_iff (show 0 < h.te by omega) hj (show h.q.1 ≤ 81 * h.te by omega)).mpr y.symm
          rw [Nat.zero_add, Nat.mod_eq_of_lt tn] at this; exact this.symm)
        rw [if_neg z, if_neg this])
    have z1' : lp_X12_odds_66 BIG c (nI t) (nI m) 1 0 μ1 = some (lN (h.n ^ m), μ2) := z1
    have H2 := H.scr (y2.tr z2)
    have ein : f_X12_in μ (nI m) 0 10 = some 1 := m_in_ok (N := 11) hm (by decide)
    have ea : aL μ2 (c + 24) 22 (nI t) = some (lN (Wo h.te h.n h.tr m (wy h.te t h.q.1))) := by rw [aL_of H2.1.t24 (by rw [H2.1.n24]; omega) (by omega), z3 t ht]
    have er := m_rat H2.1 (u := Wo h.te h.n h.tr m (wy h.te t h.q.1)) (l := h.n ^ m) (by omega) (by omega) hpp
    refine MO.scr (y2.tr z2) ⟨mrat μ2 c _ _, ?_, H2.rat, fun b _ => ((Sm.rf μ2 b).sL (by omega)).sL (by omega), Nat.le_refl _⟩
    show f_X12_odds μ c (nI t) (nI m) = _
    simp (config := { decide := true }) only [↓reduceIte, Option.bind_some, Option.bind_none, f_X12_odds, H.1.t0, m_isT_ok H w ht, ein, y1', z1', gP_of H2.1.t0 H2.1.p0_47, ea, er]
