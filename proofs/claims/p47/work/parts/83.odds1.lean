/-! ===== odds: ways back on the dial; the class's rows ===== -/
def flm (x y : Int32) : Int32 := if 0 ≤ (x ^^^ y) then x - x / y * y else if (x - x / y * y) = 0 then (x - x / y * y) else (x - x / y * y) + y
set_option maxRecDepth 100000 in
theorem flm_tab : ∀ d, d < 81 → ∀ t, t < 61 → 0 < t → flm (0 - nI d) (nI t) = nI ((t * 81 - d) % t) := by decide +kernel
theorem f_flm {μ : Mm} {x y : Int32} (h : ¬ y = 0) : f_J9_floorMod_7cf53 μ x y = some (flm x y) := by
  unfold f_J9_floorMod_7cf53 flm
  rw [if_neg h]
  by_cases h1 : 0 ≤ (x ^^^ y)
  · rw [if_pos h1, if_pos h1]
  · rw [if_neg h1, if_neg h1]
    by_cases h2 : (x - x / y * y) = 0
    · rw [if_pos h2, if_pos h2]
    · rw [if_neg h2, if_neg h2]
theorem i_ss (x y z : Int32) : x - y - z = x - (y + z) := by
  rw [Int32.sub_eq_add_neg, Int32.sub_eq_add_neg, Int32.sub_eq_add_neg, Int32.neg_add, Int32.sub_eq_add_neg, Int32.add_assoc]
theorem i_sc (x y : Int32) : x - (x + y) = 0 - y := by
  rw [← i_ss, Int32.sub_self]
/-- the way from one place on the dial to another one -/
def wy (te p q : Nat) : Nat := (p + 81 * te - q) % te
theorem rem_way {μ : Mm} {p q t : Nat} (hp : p < 2 ^ 30) (hq : q ≤ 80) (ht : 1 ≤ t) (ht2 : t ≤ 60) : f_X11_remainder μ (nI p - nI q) (nI t) = some (nI (wy t p q)) := by
  unfold wy
  by_cases h : q ≤ p
  · rw [pk_sub h, rem_g (by omega) ht (by omega), show p + 81 * t - q = (p - q) + 81 * t by omega, Nat.add_mul_mod_self_right]
  · have e : nI q = nI p + nI (q - p) := by rw [nI_add]; exact congrArg nI (by omega)
    rw [e, i_sc]
    have e1 : (1 : Int32) ≤ nI t := (show nI 1 ≤ nI t from nI_le ht (by omega))
    have e2 : ¬ nI t = 0 := nI_ne0 (by omega) (by omega)
    have e3 := flm_tab (q - p) (by omega) t (by omega) (by omega)
    rw [show t * 81 - (q - p) = p + 81 * t - q by omega] at e3
    simp (config := { decide := true }) only [↓reduceIte, Option.bind_some, Option.bind_none, f_X11_remainder, e1, f_flm e2, e3]
theorem x_wrapW {R T : GR} {F : GF} {h : GH} {K : GK} {μ : Mm} {a : Nat} (H : XI R T F h K μ a) (w : WH h) (h0 : ¬ h.n = 0) {p q : Nat} (hp : p < 2 ^ 30) (hq : q ≤ 80) : f_X3_wrap μ (a + 3) (nI p - nI q) = some (nI (wy h.te p q)) := by
  have t1 := w.te_ge h0
  have t2 := w.te_lt
  simp (config := { decide := true }) only [↓reduceIte, Option.bind_some, Option.bind_none, f_X3_wrap, H.1.t3, x_hev H, rem_way hp hq (show 1 ≤ h.te by omega) t2]
theorem x_wayTo {R T : GR} {F : GF} {h : GH} {K : GK} {μ : Mm} {a : Nat} (H : XI R T F h K μ a) (w : WH h) (h0 : ¬ h.n = 0) {p : Nat} (hp : p < 2 ^ 30) : f_X3_wayTo μ (a + 3) (nI p) = some (nI (wy h.te p h.q.1)) := by
  have t2 := w.te_lt
  have tn := w.now_lt h0
  simp (config := { decide := true }) only [↓reduceIte, Option.bind_some, Option.bind_none, f_X3_wayTo, H.1.t3, x_hev H, x_wrapW H w h0 hp (show h.q.1 ≤ 80 by omega)]
theorem wy_lt {te p q : Nat} (h : 0 < te) : wy te p q < te := Nat.mod_lt _ h
theorem wy_add {te p q : Nat} (hq : q ≤ 81 * te) : (wy te p q + q) % te = p % te := by
  unfold wy
  rw [Nat.mod_add_mod, show p + 81 * te - q + q = p + 81 * te by omega, Nat.add_mul_mod_self_right]
theorem mod_inj {te a b s : Nat} (ha : a < te) (hb : b < te) (h : (a + s) % te = (b + s) % te) : a = b := by
  have h1 := Nat.sub_mod_eq_zero_of_mod_eq h
  have h2 := Nat.sub_mod_eq_zero_of_mod_eq h.symm
  rw [show a + s - (b + s) = a - b by omega, Nat.mod_eq_of_lt (by omega)] at h1
  rw [show b + s - (a + s) = b - a by omega, Nat.mod_eq_of_lt (by omega)] at h2
  omega
theorem wy_iff {te x j t : Nat} (hx : x < te) (hj : j < te) (ht : t ≤ 81 * te) : (x + t) % te = j ↔ x = wy te j t := by
  have e := wy_add (p := j) ht
  rw [Nat.mod_eq_of_lt hj] at e
  constructor
  · intro q
    exact mod_inj hx (wy_lt (by omega)) (q.trans e.symm)
  · intro q; rw [q]; exact e
theorem wy_comm {te j t s : Nat} (h : 0 < te) (ht : t ≤ 81 * te) (hs : s ≤ 81 * te) : wy te (wy te j t) s = wy te (wy te j s) t := by
  have e1 := wy_add (p := wy te j t) hs
  have e2 := wy_add (p := wy te j s) ht
  have e3 := wy_add (p := j) ht
  have e4 := wy_add (p := j) hs
  rw [Nat.mod_eq_of_lt (wy_lt h)] at e1 e2
  refine mod_inj (s := s + t) (wy_lt h) (wy_lt h) ?_
  rw [← Nat.add_assoc, ← Nat.mod_add_mod, e1, e3, Nat.add_comm s t, ← Nat.add_assoc, ← Nat.mod_add_mod, e2, e4]
theorem wy_wy {te p q s : Nat} (h : 0 < te) (hq : q ≤ 81 * te) (hs : s ≤ 81 * te) (hqs : s + q ≤ 81 * te) : wy te (wy te p q) s = wy te p (s + q) := by
  have e1 := wy_add (p := wy te p q) hs
  have e2 := wy_add (p := p) hq
  have e3 := wy_add (p := p) hqs
  refine mod_inj (s := s + q) (wy_lt h) (wy_lt h) ?_
  rw [e3, ← Nat.add_assoc, ← Nat.mod_add_mod, e1, Nat.mod_add_mod, e2]
/-- rows of k walks that go so far -/
def Wo (te n : Nat) (t : Nat → Nat) : Nat → Nat → Nat
  | 0, i => if i = 0 then 1 else 0
  | k+1, i => sumN (fun g => Wo te n t k (wy te i (t g))) n
theorem Wo_le (te n : Nat) (t : Nat → Nat) : ∀ k i, Wo te n t k i ≤ n ^ k := by
  intro k
  induction k with
  | zero =>
    intro i
    show (if i = 0 then 1 else 0) ≤ 1
    by_cases h : i = 0
    · rw [if_pos h]; exact Nat.le_refl _
    · rw [if_neg h]; exact Nat.zero_le _
  | succ k ih =>
    intro i
    show sumN _ n ≤ _
    rw [Nat.pow_succ, Nat.mul_comm]
    exact sumN_le n fun g _ => ih _
section OX
variable {R T : GR} {F : GF} {h : GH} {K : GK} {a : Nat}
theorem x_om2 : ∀ (f k : Nat) (μ : Mm) (C : Nat → Int64), k ≤ 60 → 60 < k + f → XI R T F h K μ a → (∀ j, j < 60 → mL μ (a + 30) j = if j < k then 0 else C j) → (∀ j, j < k → mL μ (a + 31) j = C j) → ∃ μ', lp_X10_countOneMore_2 f (a + 28) (a + 3) (nI k) μ = some μ' ∧ SX μ μ' a ∧ (∀ j, j < 60 → mL μ' (a + 30) j = 0) ∧ (∀ j, j < 60 → mL μ' (a + 31) j = C j) := by
  intro f
  induction f with
  | zero => intro k μ C q1 q2; omega
  | succ f ih =>
    intro k μ C q1 q2 H hc hf
    by_cases e : k = 60
    · subst e
      have e1 : (60 : Int32) ≤ nI 60 := by decide
      refine ⟨μ, ?_, SX.rf μ a, fun j hj => by rw [hc j hj, if_pos hj], hf⟩
      simp (config := { decide := true }) only [↓reduceIte, Option.bind_some, Option.bind_none, lp_X10_countOneMore_2, e1]
    · have e1 : ¬ (60 : Int32) ≤ nI k := (show ¬ nI 60 ≤ nI k from nI_ge (by omega) (by decide))
      have ea : aL μ (a + 30) 22 (nI k) = some (C k) := by rw [aL_of H.1.t30 (by rw [H.1.n30]; omega) (by omega), hc k (by omega), if_neg (Nat.lt_irrefl _)]
      have s1 : SX μ (sL μ (a + 31) k (C k)) a := (SX.rf μ a).sL (by omega) (by omega)
      have H1 := H.scr s1
      have qa := qL_of (v := C k) H.1.t31 (show k < ln μ (a + 31) by rw [H.1.n31]; omega) (by omega)
      have qb := qL_of (v := 0) H1.1.t30 (show k < ln (sL μ (a + 31) k (C k)) (a + 30) by rw [H1.1.n30]; omega) (by omega)
      have s2 : SX μ (sL (sL μ (a + 31) k (C k)) (a + 30) k 0) a := s1.sL (by omega) (by omega)
      obtain ⟨μ', y1, y2, y3, y4⟩ := ih (k + 1) _ C (by omega) (by omega) (H.scr s2) (fun j hj => by
        by_cases z : j = k
        · subst z; rw [mL_eq, if_pos (by omega)]
        · rw [mL_nk z, mL_ne (by omega), hc j hj]
          by_cases z2 : j < k
          · rw [if_pos z2, if_pos (by omega)]
          · rw [if_neg z2, if_neg (by omega)]) (fun j hj => by
        by_cases z : j = k
        · subst z; rw [mL_ne (by omega), mL_eq]
        · rw [mL_ne (by omega), mL_nk z]; exact hf j (by omega))
      refine ⟨μ', ?_, s2.tr y2, y3, y4⟩
      simp (config := { decide := true }) only [↓reduceIte, Option.bind_some, Option.bind_none, lp_X10_countOneMore_2, e1, gP_of H.1.t28 H.1.p28_2, gP_of H.1.t28 H.1.p28_1, gP_of H1.1.t28 H1.1.p28_1, ea, qa, qb, nI_1, y1]
theorem x_om52 (w : WH h) (h0 : ¬ h.n = 0) {g : Nat} (hg : g < h.n) {C Fo : Nat → Nat} : ∀ (f m : Nat) (μ : Mm), m ≤ h.te → h.te < m + f → XI R T F h K μ a → (∀ j, j < h.te → mL μ (a + 30) j = lN (C j + if wy h.te j (h.tr g) < m then Fo (wy h.te j (h.tr g)) else 0)) → (∀ j, j < h.te → mL μ (a + 31) j = lN (Fo j)) → ∃ μ', lp_X10_countOneMore_52 f (a + 28) (a + 3) (nI g) (nI (h.tr g)) (nI m) μ = some μ' ∧ SX μ μ' a ∧ (∀ j, j < h.te → mL μ' (a + 30) j = lN (C j + Fo (wy h.te j (h.tr g)))) ∧ (∀ j, j < h.te → mL μ' (a + 31) j = lN (Fo j)) := by
  have t1 := w.te_ge h0
  have t2 := w.te_lt
  have htr := w.tr_le hg
  intro f
  induction f with
  | zero => intro m μ q1 q2; omega
  | succ f ih =>
    intro m μ q1 q2 H hc hf
    by_cases e : m = h.te
    · have e1 : nI h.te ≤ nI m := by rw [e]; exact Int32.le_refl _
      refine ⟨μ, ?_, SX.rf μ a, fun j hj => by rw [hc j hj, if_pos (by rw [e]; exact wy_lt (by omega))], hf⟩
      simp (config := { decide := true }) only [↓reduceIte, Option.bind_some, Option.bind_none, lp_X10_countOneMore_52, x_hev H, e1]
    · have e1 : ¬ nI h.te ≤ nI m := nI_ge (by omega) (by omega)
      have hj0 : (m + h.tr g) % h.te < h.te := Nat.mod_lt _ (by omega)
      have hw0 : wy h.te ((m + h.tr g) % h.te) (h.tr g) = m := ((wy_iff (show m < h.te by omega) hj0 (by omega)).mp rfl).symm
      have e2 := x_wrap H w h0 (show m + h.tr g < 2 ^ 31 by omega)
      have ea : aL μ (a + 30) 22 (nI ((m + h.tr g) % h.te)) = some (lN (C ((m + h.tr g) % h.te))) := by
        rw [aL_of H.1.t30 (by rw [H.1.n30]; omega) (by omega), hc _ hj0, hw0, if_neg (Nat.lt_irrefl _), Nat.add_zero]
      have eb : aL μ (a + 31) 22 (nI m) = some (lN (Fo m)) := by rw [aL_of H.1.t31 (by rw [H.1.n31]; omega) (by omega), hf m (by omega)]
      have qa := qL_of (v := lN (C ((m + h.tr g) % h.te) + Fo m)) H.1.t30 (show (m + h.tr g) % h.te < ln μ (a + 30) by rw [H.1.n30]; omega) (by omega)
      have s1 : SX μ (sL μ (a + 30) ((m + h.tr g) % h.te) (lN (C ((m + h.tr g) % h.te) + Fo m))) a := (SX.rf μ a).sL (by omega) (by omega)
      obtain ⟨μ', y1, y2, y3, y4⟩ := ih (m + 1) _ (by omega) (by omega) (H.scr s1) (fun j hj => by
        by_cases z : j = (m + h.tr g) % h.te
        · subst z; rw [mL_eq, hw0, if_pos (by omega)]
        · have hne : wy h.te j (h.tr g) ≠ m := fun q => z ((wy_iff (show m < h.te by omega) hj (by omega)).mpr q.symm).symm
          rw [mL_nk z, hc j hj]
          by_cases z2 : wy h.te j (h.tr g) < m
          · rw [if_pos z2, if_pos (by omega)]
          · rw [if_neg z2, if_neg (by omega)]) (fun j hj => by rw [mL_ne (by omega)]; exact hf j hj)
      refine ⟨μ', ?_, s1.tr y2, y3, y4⟩
      simp (config := { decide := true }) only [↓reduceIte, Option.bind_some, Option.bind_none, lp_X10_countOneMore_52, gP_of H.1.t28 H.1.p28_1, gP_of H.1.t28 H.1.p28_2, x_hev H, e1, nI_add, e2, ea, eb, lN_add, qa, nI_1, y1]
theorem x_om35 (w : WH h) (h0 : ¬ h.n = 0) {Fo : Nat → Nat} : ∀ (f g : Nat) (μ : Mm), g ≤ h.n → h.n < g + f → XI R T F h K μ a → (∀ j, j < h.te → mL μ (a + 30) j = lN (sumN (fun g => Fo (wy h.te j (h.tr g))) g)) → (∀ j, j < h.te → mL μ (a + 31) j = lN (Fo j)) → ∃ μ', lp_X10_countOneMore_35 f (a + 28) (a + 3) (nI g) μ = some μ' ∧ SX μ μ' a ∧ (∀ j, j < h.te → mL μ' (a + 30) j = lN (sumN (fun g => Fo (wy h.te j (h.tr g))) h.n)) := by
  have hn6 := w.1
  have t2 := w.te_lt
  intro f
  induction f with
  | zero => intro g μ q1 q2; omega
  | succ f ih =>
    intro g μ q1 q2 H hc hf
    by_cases e : g = h.n
    · have e1 : nI h.n ≤ nI g := by rw [e]; exact Int32.le_refl _
      refine ⟨μ, ?_, SX.rf μ a, by rw [← e]; exact hc⟩
      simp (config := { decide := true }) only [↓reduceIte, Option.bind_some, Option.bind_none, lp_X10_countOneMore_35, x_hev H, e1]
    · have e1 : ¬ nI h.n ≤ nI g := nI_ge (by omega) (by omega)
      obtain ⟨μ1, y1, y2, y3, y4⟩ := x_om52 (F := F) (K := K) (R := R) (T := T) (a := a) w h0 (show g < h.n by omega) (C := fun j => sumN (fun g => Fo (wy h.te j (h.tr g))) g) (Fo := Fo) BIG 0 μ (by omega) (by unfold BIG; omega) H (fun j hj => by rw [if_neg (Nat.not_lt_zero _), Nat.add_zero]; exact hc j hj) hf
      have y1' : lp_X10_countOneMore_52 BIG (a + 28) (a + 3) (nI g) (nI (h.tr g)) 0 μ = some μ1 := y1
      obtain ⟨μ2, z1, z2, z3⟩ := ih (g + 1) μ1 (by omega) (by omega) (H.scr y2) y3 y4
      refine ⟨μ2, ?_, y2.tr z2, z3⟩
      simp (config := { decide := true }) only [↓reduceIte, Option.bind_some, Option.bind_none, lp_X10_countOneMore_35, x_hev H, e1, x_tread H w (show g < h.n by omega), y1', nI_1, z1]
theorem x_cr2 {q : Int32} : ∀ (f k : Nat) (μ : Mm), k ≤ 60 → 60 < k + f → XI R T F h K μ a → (∀ j, j < k → mL μ (a + 30) j = lN (if j = 0 then 1 else 0)) → ∃ μ', lp_X10_countRows_2 f (a + 28) (a + 3) q (nI k) μ = some μ' ∧ SX μ μ' a ∧ (∀ j, j < 60 → mL μ' (a + 30) j = lN (if j = 0 then 1 else 0)) := by
  intro f
  induction f with
  | zero => intro k μ q1 q2; omega
  | succ f ih =>
    intro k μ q1 q2 H hc
    by_cases e : k = 60
    · subst e
      have e1 : (60 : Int32) ≤ nI 60 := by decide
      refine ⟨μ, ?_, SX.rf μ a, hc⟩
      simp (config := { decide := true }) only [↓reduceIte, Option.bind_some, Option.bind_none, lp_X10_countRows_2, e1]
    · have e1 : ¬ (60 : Int32) ≤ nI k := (show ¬ nI 60 ≤ nI k from nI_ge (by omega) (by decide))
      have s1 : SX μ (sL μ (a + 30) k (lN (if k = 0 then 1 else 0))) a := (SX.rf μ a).sL (by omega) (by omega)
      have qa := qL_of (v := lN (if k = 0 then 1 else 0)) H.1.t30 (show k < ln μ (a + 30) by rw [H.1.n30]; omega) (by omega)
      obtain ⟨μ', y1, y2, y3⟩ := ih (k + 1) _ (by omega) (by omega) (H.scr s1) (fun j hj => by
        by_cases z : j = k
        · subst z; rw [mL_eq]
        · rw [mL_nk z]; exact hc j (by omega))
      refine ⟨μ', ?_, s1.tr y2, y3⟩
      by_cases k0 : k = 0
      · subst k0
        have qa' : qL μ (a + 30) 22 (nI 0) 1 = some (sL μ (a + 30) 0 1) := qa
        have e0 : nI 0 = 0 := rfl
        have y1' : lp_X10_countRows_2 f (a + 28) (a + 3) q (nI (0 + 1)) (sL μ (a + 30) 0 1) = some μ' := y1
        rw [e0] at qa'
        have y1'' : lp_X10_countRows_2 f (a + 28) (a + 3) q (0 + 1) (sL μ (a + 30) 0 1) = some μ' := y1'
        simp (config := { decide := true }) only [↓reduceIte, Option.bind_some, Option.bind_none, lp_X10_countRows_2, e0, gP_of H.1.t28 H.1.p28_1, qa']
        exact y1''
      · rw [if_neg k0] at qa y1
        have e0 : ¬ nI k = 0 := nI_ne0 (by omega) (by omega)
        have qa' : qL μ (a + 30) 22 (nI k) 0 = some (sL μ (a + 30) k 0) := qa
        have y1' : lp_X10_countRows_2 f (a + 28) (a + 3) q (nI (k + 1)) (sL μ (a + 30) k 0) = some μ' := y1
        simp (config := { decide := true }) only [↓reduceIte, Option.bind_some, Option.bind_none, lp_X10_countRows_2, e1, e0, gP_of H.1.t28 H.1.p28_1, qa', nI_1, y1']
theorem x_cr31 (w : WH h) (h0 : ¬ h.n = 0) {m : Nat} (hm : m ≤ 10) : ∀ (f k : Nat) (μ : Mm), k ≤ m → m < k + f → XI R T F h K μ a → (∀ j, j < h.te → mL μ (a + 30) j = lN (Wo h.te h.n h.tr k j)) → ∃ μ', lp_X10_countRows_31 f (a + 28) (a + 3) (nI m) (nI k) μ = some μ' ∧ SX μ μ' a ∧ (∀ j, j < h.te → mL μ' (a + 30) j = lN (Wo h.te h.n h.tr m j)) := by
  have hn6 := w.1
  have t1 := w.te_ge h0
  have t2 := w.te_lt
  intro f
  induction f with
  | zero => intro k μ q1 q2; omega
  | succ f ih =>
    intro k μ q1 q2 H hc
    by_cases e : k = m
    · have e1 : nI m ≤ nI k := by rw [e]; exact Int32.le_refl _
      refine ⟨μ, ?_, SX.rf μ a, by rw [← e]; exact hc⟩
      simp (config := { decide := true }) only [↓reduceIte, Option.bind_some, Option.bind_none, lp_X10_countRows_31, e1]
    · have e1 : ¬ nI m ≤ nI k := nI_ge (by omega) (by omega)
      obtain ⟨μ1, y1, y2, y3, y4⟩ := x_om2 (F := F) (h := h) (K := K) (R := R) (T := T) (a := a) BIG 0 μ (mL μ (a + 30)) (by omega) (by unfold BIG; omega) H (fun j hj => by rw [if_neg (Nat.not_lt_zero _)]) (fun j hj => absurd hj (Nat.not_lt_zero _))
      have y1' : lp_X10_countOneMore_2 BIG (a + 28) (a + 3) 0 μ = some μ1 := y1
      have H1 := H.scr y2
      obtain ⟨μ2, z1, z2, z3⟩ := x_om35 (F := F) (K := K) (R := R) (T := T) (a := a) w h0 (Fo := Wo h.te h.n h.tr k) BIG 0 μ1 (by omega) (by unfold BIG; omega) H1 (fun j hj => by rw [y3 j (by omega)]; rfl) (fun j hj => by rw [y4 j (by omega), hc j hj])
      have z1' : lp_X10_countOneMore_35 BIG (a + 28) (a + 3) 0 μ1 = some μ2 := z1
      obtain ⟨μ3, x1, x2, x3⟩ := ih (k + 1) μ2 (by omega) (by omega) (H.scr (y2.tr z2)) z3
      refine ⟨μ3, ?_, (y2.tr z2).tr x2, x3⟩
      simp (config := { decide := true }) only [↓reduceIte, Option.bind_some, Option.bind_none, lp_X10_countRows_31, f_X10_countOneMore, H.1.t28, e1, y1', z1', nI_1, x1]
theorem x_crows {μ : Mm} (H : XI R T F h K μ a) (w : WH h) (h0 : ¬ h.n = 0) {m : Nat} (hm : m ≤ 10) : ∃ μ', f_X10_countRows μ (a + 28) (a + 3) (nI m) = some μ' ∧ SX μ μ' a ∧ (∀ j, j < h.te → mL μ' (a + 30) j = lN (Wo h.te h.n h.tr m j)) := by
  have t2 := w.te_lt
  obtain ⟨μ1, y1, y2, y3⟩ := x_cr2 (F := F) (h := h) (K := K) (R := R) (T := T) (a := a) (q := nI m) BIG 0 μ (by omega) (by unfold BIG; omega) H (fun j hj => absurd hj (Nat.not_lt_zero _))
  have y1' : lp_X10_countRows_2 BIG (a + 28) (a + 3) (nI m) 0 μ = some μ1 := y1
  obtain ⟨μ2, z1, z2, z3⟩ := x_cr31 (F := F) (K := K) (R := R) (T := T) (a := a) w h0 hm BIG 0 μ1 (by omega) (by unfold BIG; omega) (H.scr y2) (fun j hj => y3 j (by omega))
  have z1' : lp_X10_countRows_31 BIG (a + 28) (a + 3) (nI m) 0 μ1 = some μ2 := z1
  refine ⟨μ2, ?_, y2.tr z2, z3⟩
  simp (config := { decide := true }) only [↓reduceIte, Option.bind_some, Option.bind_none, f_X10_countRows, H.1.t28, y1', z1']
theorem lN_powS (n k : Nat) (hn : n < 2 ^ 31) : lN (n ^ k) * (nI n).toInt64 = lN (n ^ (k + 1)) := by rw [nI_l hn, lN_mul, Nat.pow_succ]
theorem x_od40 {μ : Mm} (H : XI R T F h K μ a) (w : WH h) {q : Int32} {m : Nat} (hm : m ≤ 10) : ∀ (f k : Nat), k ≤ m → m < k + f → lp_X11_odds_40 f a q (nI m) (lN (h.n ^ k)) (nI k) μ = some (lN (h.n ^ m)) := by
  have hn6 := w.1
  intro f
  induction f with
  | zero => intro k q1 q2; omega
  | succ f ih =>
    intro k q1 q2
    by_cases e : k = m
    · have e1 : nI m ≤ nI k := by rw [e]; exact Int32.le_refl _
      simp (config := { decide := true }) only [↓reduceIte, Option.bind_some, Option.bind_none, lp_X11_odds_40, e1]
      rw [e]
    · have e1 : ¬ nI m ≤ nI k := nI_ge (by omega) (by omega)
      simp (config := { decide := true }) only [↓reduceIte, Option.bind_some, Option.bind_none, lp_X11_odds_40, H.1.t0, gP_of H.1.t0 H.1.p0_0, gP_of H.1.t0 H.1.p0_1, gP_of H.1.t0 H.1.p0_2, gP_of H.1.t0 H.1.p0_3, gP_of H.1.t0 H.1.p0_4, gP_of H.1.t0 H.1.p0_5, gP_of H.1.t0 H.1.p0_6, gP_of H.1.t0 H.1.p0_7, gP_of H.1.t0 H.1.p0_8, gP_of H.1.t0 H.1.p0_9, x_hev H, e1, lN_powS h.n k (by omega), nI_1]
      exact ih (k + 1) (by omega) (by omega)
end OX
