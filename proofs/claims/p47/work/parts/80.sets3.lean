/-! ===== fits, sure, ask: what is meant; the class's loops ===== -/
/-- the guilds of which something holds -/
def bts (Q : Nat → Bool) : Nat → Nat
  | 0 => 0
  | g+1 => bts Q g ||| (if Q g then 2 ^ g else 0)
theorem bts_s (Q : Nat → Bool) (g : Nat) : bts Q (g + 1) = bts Q g ||| (if Q g then 2 ^ g else 0) := rfl
theorem bts_lt (Q : Nat → Bool) : ∀ n, bts Q n < 2 ^ n := by
  intro n
  induction n with
  | zero => exact Nat.one_pos
  | succ n ih =>
    rw [bts_s]
    have h2 : (2 : Nat) ^ n < 2 ^ (n + 1) := Nat.pow_lt_pow_of_lt (by decide) (Nat.lt_succ_self n)
    refine Nat.or_lt_two_pow (Nat.lt_trans ih h2) ?_
    by_cases h : Q n = true
    · rw [if_pos h]; exact h2
    · rw [if_neg h]; exact Nat.two_pow_pos _
theorem bts_b (Q : Nat → Bool) (j : Nat) : ∀ n, (bts Q n).testBit j = (decide (j < n) && Q j) := by
  intro n
  induction n with
  | zero =>
    rw [show bts Q 0 = 0 from rfl, Nat.zero_testBit, decide_eq_false (Nat.not_lt_zero j)]; rfl
  | succ n ih =>
    rw [bts_s, Nat.testBit_or, ih]
    by_cases h : Q n = true
    · rw [if_pos h, Nat.testBit_two_pow]
      by_cases e : n = j
      · subst e
        rw [decide_eq_true rfl, decide_eq_true (Nat.lt_succ_self n), h]; simp
      · rw [decide_eq_false e, Bool.or_false, show decide (j < n + 1) = decide (j < n) from by rw [decide_eq_decide]; omega]
    · rw [if_neg h, Nat.zero_testBit, Bool.or_false]
      by_cases e : n = j
      · subst e
        have : Q n = false := by cases hq : Q n with
          | true => exact absurd hq h
          | false => rfl
        rw [this, Bool.and_false, Bool.and_false]
      · rw [show decide (j < n + 1) = decide (j < n) from by rw [decide_eq_decide]; omega]
theorem cntP_zero {P : Nat → Bool} : ∀ n, cntP P n = 0 ↔ ∀ i, i < n → P i = false := by
  intro n
  induction n with
  | zero => exact ⟨fun _ i hi => absurd hi (Nat.not_lt_zero i), fun _ => rfl⟩
  | succ n ih =>
    rw [cntP_s]
    constructor
    · intro h i hi
      have hz : cntP P n = 0 ∧ b1 (P n) = 0 := by omega
      by_cases e : i = n
      · subst e
        cases hp : P i with
        | true => rw [hp] at hz; exact absurd hz.2 (by decide)
        | false => rfl
      · exact (ih.mp hz.1) i (by omega)
    · intro h
      rw [ih.mpr fun i hi => h i (by omega), h n (by omega)]; rfl
theorem cntP_sub {P Q : Nat → Bool} : ∀ n, (∀ i, i < n → P i = true → Q i = true) → cntP P n ≤ cntP Q n ∧ (cntP P n = cntP Q n ↔ ∀ i, i < n → Q i = true → P i = true) := by
  intro n
  induction n with
  | zero => intro _; exact ⟨Nat.le_refl _, fun _ i hi => absurd hi (Nat.not_lt_zero i), fun _ => rfl⟩
  | succ n ih =>
    intro h
    obtain ⟨h1, h2⟩ := ih fun i hi => h i (by omega)
    rw [cntP_s, cntP_s]
    have hn := h n (by omega)
    cases hp : P n with
    | true =>
      have hq := hn hp
      rw [hq]
      refine ⟨by omega, ⟨fun e i hi hqi => ?_, fun e => ?_⟩⟩
      · by_cases z : i = n
        · rw [z]; exact hp
        · exact h2.mp (by omega) i (by omega) hqi
      · rw [h2.mpr fun i hi hqi => e i (by omega) hqi]
    | false =>
      cases hq : Q n with
      | false =>
        refine ⟨by omega, ⟨fun e i hi hqi => ?_, fun e => ?_⟩⟩
        · by_cases z : i = n
          · rw [z] at hqi; rw [hqi] at hq; cases hq
          · exact h2.mp (by omega) i (by omega) hqi
        · rw [h2.mpr fun i hi hqi => e i (by omega) hqi]
      | true =>
        have b0 : b1 false = 0 := rfl
        have b1' : b1 true = 1 := rfl
        refine ⟨by omega, ⟨fun e => by omega, fun e => ?_⟩⟩
        have := e n (by omega) hq
        rw [hp] at this; cases this
/-- how many fit, how many with a guild -/
def nft (h : GH) (t : Nat) : Nat := cntP (fit h t) (2 ^ h.n)
def nfg (h : GH) (t g : Nat) : Nat := cntP (fitg h t g) (2 ^ h.n)
theorem fitg_sub {h : GH} {t g i : Nat} (q : fitg h t g i = true) : fit h t i = true := by
  unfold fitg at q
  cases hf : fit h t i with
  | true => rfl
  | false => rw [hf] at q; cases q
theorem nfg_le (h : GH) (t g : Nat) : nfg h t g ≤ nft h t := (cntP_sub (P := fitg h t g) (Q := fit h t) (2 ^ h.n) (fun i _ q => fitg_sub q)).1
theorem nft_le (h : GH) (t : Nat) : nft h t ≤ 2 ^ h.n := cntP_le _ _
def sur (h : GH) (t : Nat) : Nat := bts (fun g => decide (nfg h t g = nft h t)) h.n
def nwh (h : GH) (t : Nat) : Nat := bts (fun g => decide (nfg h t g = 0)) h.n
/-- the least of some numbers, and where it is first -/
def lst (f : Nat → Nat) (z : Nat) : Nat → Nat × Nat
  | 0 => (z, 0)
  | g+1 => if f g < (lst f z g).1 then (f g, g) else lst f z g
theorem lst_s (f : Nat → Nat) (z g : Nat) : lst f z (g + 1) = if f g < (lst f z g).1 then (f g, g) else lst f z g := rfl
theorem lst_same {f : Nat → Nat} {z z' : Nat} (h : f 0 < z) (h' : f 0 < z') : ∀ n, lst f z (n + 1) = lst f z' (n + 1) := by
  intro n
  induction n with
  | zero =>
    rw [lst_s, lst_s, show lst f z 0 = (z, 0) from rfl, show lst f z' 0 = (z', 0) from rfl, if_pos h, if_pos h']
  | succ n ih => rw [lst_s, lst_s f z', ih]
theorem lst_lt {f : Nat → Nat} {z B : Nat} (hz : z < B) : ∀ n, (∀ g, g < n → f g < B) → (lst f z n).1 < B ∧ (n = 0 → (lst f z n).2 = 0) ∧ (0 < n → (lst f z n).2 < n) := by
  intro n
  induction n with
  | zero => intro _; exact ⟨hz, fun _ => rfl, fun q => absurd q (by decide)⟩
  | succ n ih =>
    intro h
    obtain ⟨i1, i2, i3⟩ := ih fun g hg => h g (by omega)
    rw [lst_s]
    by_cases e : f n < (lst f z n).1
    · rw [if_pos e]
      exact ⟨h n (by omega), fun q => absurd q (by omega), fun _ => Nat.lt_succ_self n⟩
    · rw [if_neg e]
      refine ⟨i1, fun q => absurd q (by omega), fun _ => ?_⟩
      by_cases z0 : n = 0
      · rw [i2 z0]; omega
      · have := i3 (by omega); omega
def grt (h : GH) (t g : Nat) : Nat := if nfg h t g < nft h t - nfg h t g then nft h t - nfg h t g else nfg h t g
theorem grt_le (h : GH) (t g : Nat) : grt h t g ≤ nft h t := by
  unfold grt
  have := nfg_le h t g
  by_cases e : nfg h t g < nft h t - nfg h t g
  · rw [if_pos e]; omega
  · rw [if_neg e]; exact this
section FX
variable {R T : GR} {F : GF} {h : GH} {K : GK} {μ : Mm} {a : Nat}
theorem p1x (H : XI R T F h K μ a) : gP μ a 12 6 = some (a + 21) := gP_of H.1.t0 H.1.p0_6
theorem x_sure_l (H : XI R T F h K μ a) (hk : Lkd h μ a) (w : WH h) (h0 : ¬ h.n = 0) {t : Nat} (ht : t < h.te) : ∀ (f g : Nat), g ≤ h.n → h.n < g + f → lp_X11_sure_31 f a (nI t) (nI (nft h t)) (nI (bts (fun g => decide (nfg h t g = nft h t)) g)) (nI (bts (fun g => decide (nfg h t g = 0)) g)) (nI g) μ = some (nI (sur h t), nI (nwh h t)) := by
  have hn6 := w.1
  have hp := bt_p6 hn6
  have hp0 := Nat.two_pow_pos h.n
  have hN := nft_le h t
  intro f
  induction f with
  | zero => intro g q1 q2; omega
  | succ f ih =>
    intro g q1 q2
    by_cases e : g = h.n
    · have e1 : nI h.n ≤ nI g := by rw [e]; exact Int32.le_refl _
      simp (config := { decide := true }) only [↓reduceIte, Option.bind_some, Option.bind_none, lp_X11_sure_31, H.1.t0, gP_of H.1.t0 H.1.p0_0, gP_of H.1.t0 H.1.p0_1, gP_of H.1.t0 H.1.p0_2, gP_of H.1.t0 H.1.p0_3, gP_of H.1.t0 H.1.p0_4, gP_of H.1.t0 H.1.p0_5, gP_of H.1.t0 H.1.p0_6, gP_of H.1.t0 H.1.p0_7, gP_of H.1.t0 H.1.p0_8, gP_of H.1.t0 H.1.p0_9, x_hev H, e1]
      rw [e]
      rfl
    · have e1 : ¬ nI h.n ≤ nI g := nI_ge (by omega) (by omega)
      have hg : g < h.n := by omega
      have eb := bt_one g (by omega)
      have ec : f_X7_countFits μ (a + 21) (nI t) (nI (2 ^ g)) = some (nI (nfg h t g)) := x_cfg H hk w h0 ht hg
      have hle := nfg_le h t g
      have hI := ih (g + 1) (by omega) (by omega)
      have l1 := Nat.lt_of_lt_of_le (bts_lt (fun g => decide (nfg h t g = nft h t)) g) (bt_p6 (n := g) (by omega))
      have l2 := Nat.lt_of_lt_of_le (bts_lt (fun g => decide (nfg h t g = 0)) g) (bt_p6 (n := g) (by omega))
      have l3 : 2 ^ g < 64 := Nat.pow_lt_pow_of_lt (a := 2) (m := 6) (by decide) (by omega)
      have o1 : ∀ s, s < 64 → nI s ||| nI (2 ^ g) = nI (s ||| 2 ^ g) := fun s hs => (bt_or s hs (2 ^ g) l3).1
      have o2 : ∀ s, s < 64 → nI s ||| (0 : Int32) = nI (s ||| 0) := fun s hs => (bt_or s hs 0 (by decide)).1
      rw [bts_s, bts_s] at hI
      have e13 : (if nI (nfg h t g) = nI (nft h t) then some (nI (2 ^ g)) else some (0 : Int32)) = some (nI (if decide (nfg h t g = nft h t) = true then 2 ^ g else 0)) := by
        by_cases c1 : nfg h t g = nft h t
        · rw [if_pos (congrArg nI c1), decide_eq_true c1, if_pos rfl]
        · rw [if_neg (fun q => c1 ((nI_eq (by omega) (by omega)).mp q)), decide_eq_false c1, if_neg (by decide)]; rfl
      have l4 : (if decide (nfg h t g = nft h t) = true then 2 ^ g else 0) < 64 := by
        by_cases c1 : decide (nfg h t g = nft h t) = true
        · rw [if_pos c1]; exact l3
        · rw [if_neg c1]; decide
      have o3 := (bt_or _ l1 _ l4).1
      by_cases c2 : nfg h t g = 0
      · have e4 : ∀ (X Y : Option (Int32 × Int32)), (if nI (nfg h t g) = 0 then X else Y) = X := fun X Y => if_pos (congrArg nI c2)
        rw [show (if decide (nfg h t g = 0) = true then 2 ^ g else 0) = 2 ^ g from by rw [decide_eq_true c2, if_pos rfl]] at hI
        simp (config := { decide := true }) only [↓reduceIte, Option.bind_some, Option.bind_none, lp_X11_sure_31, H.1.t0, gP_of H.1.t0 H.1.p0_0, gP_of H.1.t0 H.1.p0_1, gP_of H.1.t0 H.1.p0_2, gP_of H.1.t0 H.1.p0_3, gP_of H.1.t0 H.1.p0_4, gP_of H.1.t0 H.1.p0_5, gP_of H.1.t0 H.1.p0_6, gP_of H.1.t0 H.1.p0_7, gP_of H.1.t0 H.1.p0_8, gP_of H.1.t0 H.1.p0_9, x_hev H, e1, eb, ec, e13, e4, o3, o1 _ l2, nI_1]
        exact hI
      · have e4 : ∀ (X Y : Option (Int32 × Int32)), (if nI (nfg h t g) = 0 then X else Y) = Y := fun X Y => if_neg (nI_ne0 (by omega) (by omega))
        rw [show (if decide (nfg h t g = 0) = true then 2 ^ g else 0) = 0 from by rw [decide_eq_false c2, if_neg (by decide)]] at hI
        simp (config := { decide := true }) only [↓reduceIte, Option.bind_some, Option.bind_none, lp_X11_sure_31, H.1.t0, gP_of H.1.t0 H.1.p0_0, gP_of H.1.t0 H.1.p0_1, gP_of H.1.t0 H.1.p0_2, gP_of H.1.t0 H.1.p0_3, gP_of H.1.t0 H.1.p0_4, gP_of H.1.t0 H.1.p0_5, gP_of H.1.t0 H.1.p0_6, gP_of H.1.t0 H.1.p0_7, gP_of H.1.t0 H.1.p0_8, gP_of H.1.t0 H.1.p0_9, x_hev H, e1, eb, ec, e13, e4, o3, o2 _ l2, nI_1]
        exact hI
theorem x_ask_l (H : XI R T F h K μ a) (hk : Lkd h μ a) (w : WH h) (h0 : ¬ h.n = 0) {t z : Nat} (ht : t < h.te) (hz : z ≤ 100) : ∀ (f g : Nat), g ≤ h.n → h.n < g + f → lp_X11_ask_33 f a (nI t) (nI (nft h t)) (nI (lst (grt h t) z g).2) (nI (lst (grt h t) z g).1) (nI g) μ = some (nI (lst (grt h t) z h.n).2, nI (lst (grt h t) z h.n).1) := by
  have hn6 := w.1
  have hp := bt_p6 hn6
  have hp0 := Nat.two_pow_pos h.n
  have hN := nft_le h t
  intro f
  induction f with
  | zero => intro g q1 q2; omega
  | succ f ih =>
    intro g q1 q2
    by_cases e : g = h.n
    · have e1 : nI h.n ≤ nI g := by rw [e]; exact Int32.le_refl _
      simp (config := { decide := true }) only [↓reduceIte, Option.bind_some, Option.bind_none, lp_X11_ask_33, H.1.t0, gP_of H.1.t0 H.1.p0_0, gP_of H.1.t0 H.1.p0_1, gP_of H.1.t0 H.1.p0_2, gP_of H.1.t0 H.1.p0_3, gP_of H.1.t0 H.1.p0_4, gP_of H.1.t0 H.1.p0_5, gP_of H.1.t0 H.1.p0_6, gP_of H.1.t0 H.1.p0_7, gP_of H.1.t0 H.1.p0_8, gP_of H.1.t0 H.1.p0_9, x_hev H, e1]
      rw [e]
    · have e1 : ¬ nI h.n ≤ nI g := nI_ge (by omega) (by omega)
      have hg : g < h.n := by omega
      have eb := bt_one g (by omega)
      have ec : f_X7_countFits μ (a + 21) (nI t) (nI (2 ^ g)) = some (nI (nfg h t g)) := x_cfg H hk w h0 ht hg
      have hle := nfg_le h t g
      have hI := ih (g + 1) (by omega) (by omega)
      have es : nI (nft h t) - nI (nfg h t g) = nI (nft h t - nfg h t g) := pk_sub hle
      have eg : (if nI (nfg h t g) < nI (nft h t - nfg h t g) then nI (nft h t - nfg h t g) else nI (nfg h t g)) = nI (grt h t g) := by
        unfold grt
        by_cases c : nfg h t g < nft h t - nfg h t g
        · rw [if_pos c, if_pos (nI_lt c (by omega))]
        · rw [if_neg c, if_neg (nI_nlt (by omega) (by omega))]
      have hgl := grt_le h t g
      have hll := (lst_lt (f := grt h t) (z := z) (B := 101) (by omega) g (fun x _ => by have := grt_le h t x; omega)).1
      rw [lst_s] at hI
      by_cases c : grt h t g < (lst (grt h t) z g).1
      · rw [if_pos c] at hI
        have c1 : ¬ nI (lst (grt h t) z g).1 ≤ nI (grt h t g) := nI_ge c (by omega)
        simp (config := { decide := true }) only [↓reduceIte, Option.bind_some, Option.bind_none, lp_X11_ask_33, H.1.t0, gP_of H.1.t0 H.1.p0_0, gP_of H.1.t0 H.1.p0_1, gP_of H.1.t0 H.1.p0_2, gP_of H.1.t0 H.1.p0_3, gP_of H.1.t0 H.1.p0_4, gP_of H.1.t0 H.1.p0_5, gP_of H.1.t0 H.1.p0_6, gP_of H.1.t0 H.1.p0_7, gP_of H.1.t0 H.1.p0_8, gP_of H.1.t0 H.1.p0_9, x_hev H, e1, eb, ec, es, eg, c1, nI_1]
        exact hI
      · rw [if_neg c] at hI
        have c1 : nI (lst (grt h t) z g).1 ≤ nI (grt h t g) := nI_le (by omega) (by omega)
        simp (config := { decide := true }) only [↓reduceIte, Option.bind_some, Option.bind_none, lp_X11_ask_33, H.1.t0, gP_of H.1.t0 H.1.p0_0, gP_of H.1.t0 H.1.p0_1, gP_of H.1.t0 H.1.p0_2, gP_of H.1.t0 H.1.p0_3, gP_of H.1.t0 H.1.p0_4, gP_of H.1.t0 H.1.p0_5, gP_of H.1.t0 H.1.p0_6, gP_of H.1.t0 H.1.p0_7, gP_of H.1.t0 H.1.p0_8, gP_of H.1.t0 H.1.p0_9, x_hev H, e1, eb, ec, es, eg, c1, nI_1]
        exact hI
end FX
