/-! ===== the class's look; fits, sure, ask on its side ===== -/
section LK
variable {R T : GR} {F : GF} {h : GH} {K : GK} {μ : Mm} {a : Nat}
theorem sft_0 (h : GH) : sft h 0 = 0 := by unfold sft; rw [smt_0, Nat.zero_mod]
theorem sft_add {h : GH} {s g : Nat} (hg : g < h.n) (hs : s.testBit g = false) : (sft h s + h.tr g) % h.te = sft h (s ||| 2 ^ g) := by
  unfold sft
  rw [smt_add hg hs, Nat.mod_add_mod]
theorem spt_add {h : GH} {s g : Nat} (hg : g < h.n) (hs : s.testBit g = false) : (spt h s + h.tr g) % h.te = spt h (s ||| 2 ^ g) := by
  unfold spt
  rw [smt_add hg hs, Nat.mod_add_mod, Nat.add_assoc]
theorem or_add {k g : Nat} (hk : k < 2 ^ g) : k ||| 2 ^ g = 2 ^ g + k := by
  rw [Nat.or_comm]
  have := Nat.two_pow_add_eq_or_of_lt hk 1
  rw [Nat.mul_one] at this
  exact this.symm
theorem x_isIn {μ : Mm} {s g : Nat} (hs : s < 64) (hg : g < 6) : f_X7_isIn μ (nI s) (nI g) = some (if s.testBit g then 1 else 0) := by
  have e := (bt_tab s hs g hg).1
  cases hb : s.testBit g with
  | true =>
    rw [hb] at e
    have e' : ((nI s >>> (nI g &&& 31)) &&& (1 : Int32)) = 1 := e
    simp (config := { decide := true }) only [↓reduceIte, Option.bind_some, Option.bind_none, f_X7_isIn, e']
  | false =>
    rw [hb] at e
    have e' : ((nI s >>> (nI g &&& 31)) &&& (1 : Int32)) = 0 := e
    simp (config := { decide := true }) only [↓reduceIte, Option.bind_some, Option.bind_none, f_X7_isIn, e'] <;> rfl
theorem x_look_in (w : WH h) (h0 : ¬ h.n = 0) {g : Nat} (hg : g < h.n) : ∀ (f k : Nat) (μ : Mm), k ≤ 2 ^ g → 2 ^ g < k + f → XI R T F h K μ a → Lk h (2 ^ g + k) μ a → ∃ μ', lp_X7_look_49 f (a + 21) (a + 3) (nI g) (nI (2 ^ g)) (nI k) μ = some μ' ∧ SX μ μ' a ∧ Lk h (2 ^ (g + 1)) μ' a ∧ ∀ j, mI μ' (a + 21) j = mI μ (a + 21) j := by
  have hn6 := w.1
  have hp := bt_p6 (n := g + 1) (by omega)
  have hp0 := Nat.two_pow_pos g
  have hp2 : 2 ^ (g + 1) = 2 * 2 ^ g := by rw [Nat.pow_succ]; omega
  have t2 := w.te_lt
  have t1 := w.te_ge h0
  have htr := w.tr_le hg
  intro f
  induction f with
  | zero => intro k μ q1 q2; omega
  | succ f ih =>
    intro k μ q1 q2 H hL
    by_cases e : k = 2 ^ g
    · have e1 : nI (2 ^ g) ≤ nI k := by rw [e]; exact Int32.le_refl _
      refine ⟨μ, ?_, SX.rf μ a, by rw [hp2, show 2 * 2 ^ g = 2 ^ g + k by omega]; exact hL, fun _ => rfl⟩
      simp (config := { decide := true }) only [↓reduceIte, Option.bind_some, Option.bind_none, lp_X7_look_49, e1]
    · have e1 : ¬ nI (2 ^ g) ≤ nI k := nI_ge (by omega) (by omega)
      have hk : k < 2 ^ g := by omega
      have eo : (nI k ||| nI (2 ^ g)) = nI (2 ^ g + k) := by rw [(bt_or k (by omega) (2 ^ g) (by omega)).1, or_add hk]
      have l1 := hL k (by omega)
      have hkb : k.testBit g = false := Nat.testBit_lt_two_pow hk
      have m1 : sft h k < h.te := Nat.mod_lt _ (by omega)
      have a1 : aI μ (a + 22) 21 (nI k) = some (nI (sft h k)) := by rw [aI_of H.1.t22 (by rw [H.1.n22]; omega) (by omega), l1]
      have w1 := x_wrap H w h0 (show sft h k + h.tr g < 2 ^ 31 by omega)
      rw [sft_add hg hkb, or_add hk] at w1
      have s1 : SX μ (sI μ (a + 22) (2 ^ g + k) (nI (sft h (2 ^ g + k)))) a := (SX.rf μ a).sI (by omega) (by omega)
      have H1 := H.scr s1
      have q1' := qI_of (v := nI (sft h (2 ^ g + k))) H.1.t22 (show 2 ^ g + k < ln μ (a + 22) by rw [H.1.n22]; omega) (by omega)
      have hL1 : Lk h (2 ^ g + (k + 1)) (sI μ (a + 22) (2 ^ g + k) (nI (sft h (2 ^ g + k)))) a := by
        intro s hs
        by_cases q : s = 2 ^ g + k
        · subst q
          exact mI_eq
        · rw [mI_nk q]; exact hL s (by omega)
      obtain ⟨μ', y1, y2, y3, y4⟩ := ih (k + 1) _ (by omega) (by omega) H1 hL1
      refine ⟨μ', ?_, s1.tr y2, y3, fun j => (y4 j).trans (mI_ne (by omega))⟩
      simp (config := { decide := true }) only [↓reduceIte, Option.bind_some, Option.bind_none, lp_X7_look_49, e1, gP_of H.1.t21 H.1.p21_0, eo, a1, x_tread H w hg, nI_add, w1, q1', nI_1, y1]
theorem x_look_out (w : WH h) (h0 : ¬ h.n = 0) : ∀ (f g : Nat) (μ : Mm), g ≤ h.n → h.n < g + f → XI R T F h K μ a → Lk h (2 ^ g) μ a → mI μ (a + 21) 4 = nI h.n → ∃ μ', lp_X7_look_34 f (a + 21) (a + 3) (nI g) μ = some μ' ∧ SX μ μ' a ∧ Lk h (2 ^ h.n) μ' a ∧ ∀ j, mI μ' (a + 21) j = mI μ (a + 21) j := by
  have hn6 := w.1
  intro f
  induction f with
  | zero => intro g μ q1 q2; omega
  | succ f ih =>
    intro g μ q1 q2 H hL h4
    have e4 : gI μ (a + 21) 8 4 = some (nI h.n) := (if_pos H.1.t21).trans (congrArg some h4)
    by_cases e : g = h.n
    · have e1 : nI h.n ≤ nI g := by rw [e]; exact Int32.le_refl _
      refine ⟨μ, ?_, SX.rf μ a, by rw [← e]; exact hL, fun _ => rfl⟩
      simp (config := { decide := true }) only [↓reduceIte, Option.bind_some, Option.bind_none, lp_X7_look_34, e4, e1]
    · have e1 : ¬ nI h.n ≤ nI g := nI_ge (by omega) (by omega)
      have hp := bt_p6 (n := g) (by omega)
      have hp0 := Nat.two_pow_pos g
      obtain ⟨μ1, y1, y2, y3, y4⟩ := x_look_in (F := F) (K := K) (R := R) (T := T) (a := a) w h0 (show g < h.n by omega) BIG 0 μ (by omega) (by unfold BIG; omega) H (by rw [Nat.add_zero]; exact hL)
      have y1' : lp_X7_look_49 BIG (a + 21) (a + 3) (nI g) (nI (2 ^ g)) 0 μ = some μ1 := y1
      obtain ⟨μ2, z1, z2, z3, z4⟩ := ih (g + 1) μ1 (by omega) (by omega) (H.scr y2) y3 ((y4 4).trans h4)
      refine ⟨μ2, ?_, y2.tr z2, z3, fun j => (z4 j).trans (y4 j)⟩
      simp (config := { decide := true }) only [↓reduceIte, Option.bind_some, Option.bind_none, lp_X7_look_34, e4, e1, bt_one g (by omega), y1', nI_1, z1]
/-- where each set comes to, and whether a rent is due there -/
def Ls (h : GH) (m : Nat) (μ : Mm) (a : Nat) : Prop := ∀ s, s < m → mI μ (a + 23) s = nI (spt h s) ∧ mI μ (a + 24) s = nI (b1 (isr h.rs (spt h s)))
theorem b1_01 (b : Bool) : nI (b1 b) = 0 ∨ nI (b1 b) = 1 := by
  cases b with
  | true => exact Or.inr rfl
  | false => exact Or.inl rfl
theorem x_look_st (w : WH h) (h0 : ¬ h.n = 0) : ∀ (f k : Nat) (μ : Mm), k ≤ 2 ^ h.n → 2 ^ h.n < k + f → XI R T F h K μ a → Lk h (2 ^ h.n) μ a → Ls h k μ a → mI μ (a + 21) 5 = nI (2 ^ h.n - 1) → ∃ μ', lp_X7_look_95 f (a + 21) (a + 3) (nI k) μ = some μ' ∧ SX μ μ' a ∧ Lk h (2 ^ h.n) μ' a ∧ Ls h (2 ^ h.n) μ' a ∧ ∀ j, mI μ' (a + 21) j = mI μ (a + 21) j := by
  have hn6 := w.1
  have hp := bt_p6 hn6
  have hp0 := Nat.two_pow_pos h.n
  have t2 := w.te_lt
  have t1 := w.te_ge h0
  have tn := w.now_lt h0
  intro f
  induction f with
  | zero => intro k μ q1 q2; omega
  | succ f ih =>
    intro k μ q1 q2 H hL hS h5
    have e5 : gI μ (a + 21) 8 5 = some (nI (2 ^ h.n - 1)) := (if_pos H.1.t21).trans (congrArg some h5)
    by_cases e : k = 2 ^ h.n
    · have e1 : nI (2 ^ h.n - 1) < nI k := nI_lt (by omega) (by omega)
      refine ⟨μ, ?_, SX.rf μ a, hL, by rw [← e]; exact hS, fun _ => rfl⟩
      simp (config := { decide := true }) only [↓reduceIte, Option.bind_some, Option.bind_none, lp_X7_look_95, e5, e1]
    · have e1 : ¬ nI (2 ^ h.n - 1) < nI k := nI_nlt (by omega) (by omega)
      have hk : k < 2 ^ h.n := by omega
      have m1 : sft h k < h.te := Nat.mod_lt _ (by omega)
      have m2 : spt h k < h.te := Nat.mod_lt _ (by omega)
      have a1 : aI μ (a + 22) 21 (nI k) = some (nI (sft h k)) := by rw [aI_of H.1.t22 (by rw [H.1.n22]; omega) (by omega), hL k hk]
      have w1 := x_wrap H w h0 (show h.q.1 + sft h k < 2 ^ 31 by omega)
      rw [show (h.q.1 + sft h k) % h.te = spt h k by unfold sft spt; rw [Nat.add_mod_mod]] at w1
      have s1 : SX μ (sI μ (a + 23) k (nI (spt h k))) a := (SX.rf μ a).sI (by omega) (by omega)
      have H1 := H.scr s1
      have q1' := qI_of (v := nI (spt h k)) H.1.t23 (show k < ln μ (a + 23) by rw [H.1.n23]; omega) (by omega)
      have a2 : aI (sI μ (a + 23) k (nI (spt h k))) (a + 23) 21 (nI k) = some (nI (spt h k)) := by rw [aI_of H1.1.t23 (by rw [H1.1.n23]; omega) (by omega), mI_eq]
      have er := x_rentAt H1 w m2
      have s2 : SX μ (sI (sI μ (a + 23) k (nI (spt h k))) (a + 24) k (nI (b1 (isr h.rs (spt h k))))) a := s1.sI (by omega) (by omega)
      have H2 := H.scr s2
      have q2' := qZ_of (v := nI (b1 (isr h.rs (spt h k)))) H1.1.t24 (show k < ln (sI μ (a + 23) k (nI (spt h k))) (a + 24) by rw [H1.1.n24]; omega) (by omega) (b1_01 _)
      have hL2 : Lk h (2 ^ h.n) (sI (sI μ (a + 23) k (nI (spt h k))) (a + 24) k (nI (b1 (isr h.rs (spt h k))))) a := fun s hs => by rw [mI_ne (by omega), mI_ne (by omega)]; exact hL s hs
      have hS2 : Ls h (k + 1) (sI (sI μ (a + 23) k (nI (spt h k))) (a + 24) k (nI (b1 (isr h.rs (spt h k))))) a := by
        intro s hs
        by_cases q : s = k
        · subst q
          exact ⟨by rw [mI_ne (by omega), mI_eq], mI_eq⟩
        · obtain ⟨z1, z2⟩ := hS s (by omega)
          exact ⟨by rw [mI_ne (by omega), mI_nk q]; exact z1, by rw [mI_nk q, mI_ne (by omega)]; exact z2⟩
      obtain ⟨μ', y1, y2, y3, y4, y5⟩ := ih (k + 1) _ (by omega) (by omega) H2 hL2 hS2 (by rw [mI_ne (by omega), mI_ne (by omega)]; exact h5)
      refine ⟨μ', ?_, s2.tr y2, y3, y4, fun j => (y5 j).trans (by rw [mI_ne (by omega), mI_ne (by omega)])⟩
      simp (config := { decide := true }) only [↓reduceIte, Option.bind_some, Option.bind_none, lp_X7_look_95, e5, e1, gP_of H.1.t21 H.1.p21_0, gP_of H.1.t21 H.1.p21_1, x_hev H, a1, nI_add, w1, q1', gP_of H1.1.t21 H1.1.p21_1, gP_of H1.1.t21 H1.1.p21_2, a2, er, q2', nI_1, y1]
/-- the class has looked -/
def Lkd (h : GH) (μ : Mm) (a : Nat) : Prop := Lk h (2 ^ h.n) μ a ∧ Ls h (2 ^ h.n) μ a ∧ mI μ (a + 21) 4 = nI h.n ∧ mI μ (a + 21) 5 = nI (2 ^ h.n - 1)
theorem Lkd.gA {μ : Mm} {a : Nat} (hk : Lkd h μ a) (hL : LX μ a) : gI μ (a + 21) 8 5 = some (nI (2 ^ h.n - 1)) := (if_pos hL.t21).trans (congrArg some hk.2.2.2)
theorem Lkd.gN {μ : Mm} {a : Nat} (hk : Lkd h μ a) (hL : LX μ a) : gI μ (a + 21) 8 4 = some (nI h.n) := (if_pos hL.t21).trans (congrArg some hk.2.2.1)
theorem Lkd.sf {μ : Mm} {a : Nat} (hk : Lkd h μ a) (hL : LX μ a) (hn6 : h.n ≤ 6) {s : Nat} (hs : s < 2 ^ h.n) : aI μ (a + 22) 21 (nI s) = some (nI (sft h s)) := by
  have hp := bt_p6 hn6
  have hp0 := Nat.two_pow_pos h.n
  rw [aI_of hL.t22 (by rw [hL.n22]; omega) (by omega), hk.1 s hs]
theorem Lkd.sp {μ : Mm} {a : Nat} (hk : Lkd h μ a) (hL : LX μ a) (hn6 : h.n ≤ 6) {s : Nat} (hs : s < 2 ^ h.n) : aI μ (a + 23) 21 (nI s) = some (nI (spt h s)) := by
  have hp := bt_p6 hn6
  have hp0 := Nat.two_pow_pos h.n
  rw [aI_of hL.t23 (by rw [hL.n23]; omega) (by omega), (hk.2.1 s hs).1]
theorem Lkd.du {μ : Mm} {a : Nat} (hk : Lkd h μ a) (hL : LX μ a) (hn6 : h.n ≤ 6) {s : Nat} (hs : s < 2 ^ h.n) : aI μ (a + 24) 23 (nI s) = some (nI (b1 (isr h.rs (spt h s)))) := by
  have hp := bt_p6 hn6
  have hp0 := Nat.two_pow_pos h.n
  rw [aI_of hL.t24 (by rw [hL.n24]; omega) (by omega), (hk.2.1 s hs).2]
theorem Lkd.mv {μ μ' : Mm} {a : Nat} (hk : Lkd h μ a) (h1 : ∀ j, mI μ' (a + 22) j = mI μ (a + 22) j) (h2 : ∀ j, mI μ' (a + 23) j = mI μ (a + 23) j) (h3 : ∀ j, mI μ' (a + 24) j = mI μ (a + 24) j) (h4 : mI μ' (a + 21) 4 = mI μ (a + 21) 4) (h5 : mI μ' (a + 21) 5 = mI μ (a + 21) 5) : Lkd h μ' a := ⟨fun s hs => by rw [h1]; exact hk.1 s hs, fun s hs => by rw [h2, h3]; exact hk.2.1 s hs, by rw [h4]; exact hk.2.2.1, by rw [h5]; exact hk.2.2.2⟩
theorem x_look (H : XI R T F h K μ a) (w : WH h) (h0 : ¬ h.n = 0) : ∃ μ', f_X7_look μ (a + 21) (a + 3) = some μ' ∧ SX μ μ' a ∧ Lkd h μ' a := by
  have hn6 := w.1
  have hp := bt_p6 hn6
  have hp0 := Nat.two_pow_pos h.n
  have t1 := w.te_ge h0
  have e6 : ¬ (6 : Int32) < nI h.n := (show ¬ nI 6 < nI h.n from nI_nlt (by omega) (by omega))
  have s1 : SX μ (sI μ (a + 21) 4 (nI h.n)) a := (SX.rf μ a).sI (by omega) (by omega)
  have H1 := H.scr s1
  have g4 : gI (sI μ (a + 21) 4 (nI h.n)) (a + 21) 8 4 = some (nI h.n) := (if_pos H1.1.t21).trans (congrArg some mI_eq)
  have s2 : SX μ (sI (sI μ (a + 21) 4 (nI h.n)) (a + 21) 5 (nI (2 ^ h.n - 1))) a := s1.sI (by omega) (by omega)
  have H2 := H.scr s2
  have q1 : qI (sI (sI μ (a + 21) 4 (nI h.n)) (a + 21) 5 (nI (2 ^ h.n - 1))) (a + 22) 21 0 0 = some (sI (sI (sI μ (a + 21) 4 (nI h.n)) (a + 21) 5 (nI (2 ^ h.n - 1))) (a + 22) 0 0) := qI_of (i := 0) H2.1.t22 (by rw [H2.1.n22]; decide) (by decide)
  have s3 : SX μ (sI (sI (sI μ (a + 21) 4 (nI h.n)) (a + 21) 5 (nI (2 ^ h.n - 1))) (a + 22) 0 0) a := s2.sI (by omega) (by omega)
  have H3 := H.scr s3
  have hL : Lk h (2 ^ 0) (sI (sI (sI μ (a + 21) 4 (nI h.n)) (a + 21) 5 (nI (2 ^ h.n - 1))) (a + 22) 0 0) a := by
    intro s hs
    have s0 : s = 0 := by have : s < 1 := hs; omega
    subst s0
    rw [mI_eq, sft_0]; rfl
  have h4 : mI (sI (sI (sI μ (a + 21) 4 (nI h.n)) (a + 21) 5 (nI (2 ^ h.n - 1))) (a + 22) 0 0) (a + 21) 4 = nI h.n := by rw [mI_ne (by omega), mI_nk (by decide), mI_eq]
  have h5 : mI (sI (sI (sI μ (a + 21) 4 (nI h.n)) (a + 21) 5 (nI (2 ^ h.n - 1))) (a + 22) 0 0) (a + 21) 5 = nI (2 ^ h.n - 1) := by rw [mI_ne (by omega), mI_eq]
  obtain ⟨μ1, y1, y2, y3, y4⟩ := x_look_out (F := F) (K := K) (R := R) (T := T) (a := a) w h0 BIG 0 _ (by omega) (by unfold BIG; omega) H3 hL h4
  have y1' : lp_X7_look_34 BIG (a + 21) (a + 3) 0 (sI (sI (sI μ (a + 21) 4 (nI h.n)) (a + 21) 5 (nI (2 ^ h.n - 1))) (a + 22) 0 0) = some μ1 := y1
  have s4 := s3.tr y2
  have H4 := H.scr s4
  obtain ⟨μ2, z1, z2, z3, z4, z5⟩ := x_look_st (F := F) (K := K) (R := R) (T := T) (a := a) w h0 BIG 0 μ1 (by omega) (by unfold BIG; omega) H4 y3 (fun s hs => absurd hs (Nat.not_lt_zero _)) ((y4 5).trans h5)
  have z1' : lp_X7_look_95 BIG (a + 21) (a + 3) 0 μ1 = some μ2 := z1
  refine ⟨μ2, ?_, s4.tr z2, z3, z4, ?_, ?_⟩
  · simp (config := { decide := true }) only [↓reduceIte, Option.bind_some, Option.bind_none, f_X7_look, H.1.t21, x_hev H, e6, pI_of H.1.t21, g4, bt_one h.n (by omega), bt_all h.n (by omega), pI_of H1.1.t21, gP_of H2.1.t21 H2.1.p21_0, q1, y1', z1']
  · rw [z5, y4]; exact h4
  · rw [z5, y4]; exact h5
/-- sets that fit -/
def fit (h : GH) (t s : Nat) : Bool := decide (sft h s = t)
def fitg (h : GH) (t g s : Nat) : Bool := fit h t s && s.testBit g
theorem x_ff_l (H : XI R T F h K μ a) (hk : Lkd h μ a) (hn6 : h.n ≤ 6) (w : WH h) (h0 : ¬ h.n = 0) {t : Nat} (ht : t < h.te) : ∀ (m f s : Nat), s + m = 2 ^ h.n → m < f → lp_X7_firstFit_2 f (a + 21) (nI t) (nI s) μ = some (match fst (fit h t) m s with | some j => (0, nI j) | none => (1, 0)) := by
  have hp := bt_p6 hn6
  have hp0 := Nat.two_pow_pos h.n
  have t2 := w.te_lt
  have t1 := w.te_ge h0
  intro m
  induction m with
  | zero =>
    intro f s q1 q2
    obtain ⟨f, rfl⟩ : ∃ g, f = g + 1 := ⟨f - 1, by omega⟩
    have e1 : nI (2 ^ h.n - 1) < nI s := nI_lt (by omega) (by omega)
    simp (config := { decide := true }) only [↓reduceIte, Option.bind_some, Option.bind_none, lp_X7_firstFit_2, hk.gA H.1, e1]
    rfl
  | succ m ih =>
    intro f s q1 q2
    obtain ⟨f, rfl⟩ : ∃ g, f = g + 1 := ⟨f - 1, by omega⟩
    have e1 : ¬ nI (2 ^ h.n - 1) < nI s := nI_nlt (by omega) (by omega)
    have es := hk.sf H.1 hn6 (show s < 2 ^ h.n by omega)
    have hlt : sft h s < h.te := Nat.mod_lt _ (by omega)
    unfold fst
    by_cases e : sft h s = t
    · have e2 : fit h t s = true := decide_eq_true e
      rw [e] at es
      rw [if_pos e2]
      simp (config := { decide := true }) only [↓reduceIte, Option.bind_some, Option.bind_none, lp_X7_firstFit_2, hk.gA H.1, e1, gP_of H.1.t21 H.1.p21_0, es]
    · have e2 : ¬ fit h t s = true := by unfold fit; rw [decide_eq_false e]; decide
      have e3 : ¬ nI (sft h s) = nI t := fun q => e ((nI_eq (by omega) (by omega)).mp q)
      rw [if_neg e2]
      simp (config := { decide := true }) only [↓reduceIte, Option.bind_some, Option.bind_none, lp_X7_firstFit_2, hk.gA H.1, e1, gP_of H.1.t21 H.1.p21_0, es, e3, nI_1]
      exact ih f (s + 1) (by omega) (by omega)
theorem x_ff (H : XI R T F h K μ a) (hk : Lkd h μ a) (w : WH h) (h0 : ¬ h.n = 0) {t : Nat} (ht : t < h.te) : f_X7_firstFit μ (a + 21) (nI t) = some (ofn (fst (fit h t) (2 ^ h.n) 0)) := by
  have hp := bt_p6 w.1
  have hp0 := Nat.two_pow_pos h.n
  have e := x_ff_l H hk w.1 w h0 ht (2 ^ h.n) BIG 0 (by omega) (by unfold BIG; omega)
  have e' : lp_X7_firstFit_2 BIG (a + 21) (nI t) 0 μ = _ := e
  cases hf : fst (fit h t) (2 ^ h.n) 0 with
  | none =>
    rw [hf] at e'
    simp (config := { decide := true }) only [↓reduceIte, Option.bind_some, Option.bind_none, f_X7_firstFit, H.1.t21, e'] <;> rfl
  | some j =>
    rw [hf] at e'
    simp (config := { decide := true }) only [↓reduceIte, Option.bind_some, Option.bind_none, f_X7_firstFit, H.1.t21, e'] <;> rfl
theorem x_cf (H : XI R T F h K μ a) (hk : Lkd h μ a) (w : WH h) (h0 : ¬ h.n = 0) {t v : Nat} {P : Nat → Bool} (ht : t < h.te) (hv : ∀ s, s < 64 → ((nI s &&& nI v) = nI v ↔ P s = true)) : f_X7_countFits μ (a + 21) (nI t) (nI v) = some (nI (cntP (fun s => fit h t s && P s) (2 ^ h.n))) := by
  have hn6 := w.1
  have hp := bt_p6 hn6
  have hp0 := Nat.two_pow_pos h.n
  have t2 := w.te_lt
  have t1 := w.te_ge h0
  have hl : ∀ (f s : Nat), s ≤ 2 ^ h.n → 2 ^ h.n < s + f → lp_X7_countFits_5 f (a + 21) (nI t) (nI v) (nI (cntP (fun s => fit h t s && P s) s)) (nI s) μ = some (nI (cntP (fun s => fit h t s && P s) (2 ^ h.n))) := by
    intro f
    induction f with
    | zero => intro s q1 q2; omega
    | succ f ih =>
      intro s q1 q2
      by_cases e : s = 2 ^ h.n
      · have e1 : nI (2 ^ h.n - 1) < nI s := nI_lt (by omega) (by omega)
        simp (config := { decide := true }) only [↓reduceIte, Option.bind_some, Option.bind_none, lp_X7_countFits_5, hk.gA H.1, e1]
        rw [e]
      · have e1 : ¬ nI (2 ^ h.n - 1) < nI s := nI_nlt (by omega) (by omega)
        have es := hk.sf H.1 hn6 (show s < 2 ^ h.n by omega)
        have hlt : sft h s < h.te := Nat.mod_lt _ (by omega)
        have hI := ih (s + 1) (by omega) (by omega)
        rw [cntP_s] at hI
        have hv' := hv s (by omega)
        by_cases e2 : sft h s = t
        · have e2' : fit h t s = true := decide_eq_true e2
          rw [e2] at es
          cases hb : P s with
          | true =>
            have e3 : (nI s &&& nI v) = nI v := hv'.mpr hb
            rw [show (fit h t s && P s) = true by rw [e2', hb]; rfl] at hI
            simp (config := { decide := true }) only [↓reduceIte, Option.bind_some, Option.bind_none, lp_X7_countFits_5, hk.gA H.1, e1, gP_of H.1.t21 H.1.p21_0, es, e3, nI_1]
            exact hI
          | false =>
            have e3 : ¬ (nI s &&& nI v) = nI v := fun q => by have := hv'.mp q; rw [hb] at this; cases this
            rw [show (fit h t s && P s) = false by rw [e2', hb]; rfl] at hI
            simp (config := { decide := true }) only [↓reduceIte, Option.bind_some, Option.bind_none, lp_X7_countFits_5, hk.gA H.1, e1, gP_of H.1.t21 H.1.p21_0, es, e3, nI_1]
            exact hI
        · have e2' : fit h t s = false := decide_eq_false e2
          have e3 : ¬ nI (sft h s) = nI t := fun q => e2 ((nI_eq (by omega) (by omega)).mp q)
          rw [show (fit h t s && P s) = false by rw [e2']; rfl] at hI
          simp (config := { decide := true }) only [↓reduceIte, Option.bind_some, Option.bind_none, lp_X7_countFits_5, hk.gA H.1, e1, gP_of H.1.t21 H.1.p21_0, es, e3, nI_1]
          exact hI
  have e := hl BIG 0 (by omega) (by unfold BIG; omega)
  have e' : lp_X7_countFits_5 BIG (a + 21) (nI t) (nI v) 0 0 μ = _ := e
  simp (config := { decide := true }) only [↓reduceIte, Option.bind_some, Option.bind_none, f_X7_countFits, H.1.t21, e']
theorem cntP_cong {P Q : Nat → Bool} : ∀ n, (∀ i, i < n → P i = Q i) → cntP P n = cntP Q n := by
  intro n
  induction n with
  | zero => intro _; rfl
  | succ n ih => intro h; rw [cntP_s, cntP_s, ih fun i hi => h i (by omega), h n (by omega)]
theorem x_cf0 (H : XI R T F h K μ a) (hk : Lkd h μ a) (w : WH h) (h0 : ¬ h.n = 0) {t : Nat} (ht : t < h.te) : f_X7_countFits μ (a + 21) (nI t) 0 = some (nI (cntP (fit h t) (2 ^ h.n))) := by
  have e := x_cf H hk w h0 (v := 0) (P := fun _ => true) ht (fun s hs => ⟨fun _ => rfl, fun _ => by rw [(bt_or s hs 0 (by decide)).2, Nat.and_zero]⟩)
  rw [cntP_cong (2 ^ h.n) (fun i _ => Bool.and_true (fit h t i))] at e
  exact e
theorem x_cfg (H : XI R T F h K μ a) (hk : Lkd h μ a) (w : WH h) (h0 : ¬ h.n = 0) {t g : Nat} (ht : t < h.te) (hg : g < h.n) : f_X7_countFits μ (a + 21) (nI t) (nI (2 ^ g)) = some (nI (cntP (fitg h t g) (2 ^ h.n))) := by
  have hn6 := w.1
  exact x_cf H hk w h0 (P := fun s => s.testBit g) ht (fun s hs => (bt_tab s hs g (by omega)).2.2.2)
end LK
