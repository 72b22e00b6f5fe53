/-! ===== THE LAW'S OWN SMALL METHODS; what holds between its parts ===== -/
theorem L_cell {b L k : Nat} {xs : Nat → Int32} (hL : L ≤ 260) (hk : k ≤ 60) : ∃ c, c < 2 ^ 28 ∧ ∀ μ, f_L_cell (b, L, xs) μ b (nI k) = some (nI c) := by
  have ez : scZ (b, L, xs) b = some (nI L) := if_pos rfl
  by_cases z : L ≤ k
  · have e1 : nI L ≤ nI k := nI_le z (by omega)
    have e2 : (61 : Int32) * nI k = nI (61 * k) := pk_mul 61 k
    have e3 : nI (61 * k) + 7 = nI (61 * k + 7) := nI_add _ 7
    have e4 : nI k + 3 = nI (k + 3) := nI_add k 3
    refine ⟨(61 * k + 7) * (k + 3), ?_, fun μ => ?_⟩
    · have := Nat.mul_le_mul (show 61 * k + 7 ≤ 3667 by omega) (show k + 3 ≤ 63 by omega)
      have : (2 : Nat) ^ 28 = 268435456 := by decide
      omega
    · simp (config := { decide := true }) only [↓reduceIte, Option.bind_some, Option.bind_none, f_L_cell, ez, e1, e2, e3, e4, pk_mul]
  · have e1 : ¬ nI L ≤ nI k := nI_ge (by omega) (by omega)
    obtain ⟨c, hc, e2⟩ := pk_andE (xs k) (m := 268435455) 28 (by decide)
    have es : scI (b, L, xs) b (nI k) = some (xs k) := by
      unfold scI
      rw [if_pos rfl, if_neg]
      · show some (xs (nI k).toNatClampNeg) = _
        rw [nI_clamp (by omega)]
      · rintro (q | q)
        · exact nI_pos (by omega) q
        · have q : L ≤ (nI k).toNatClampNeg := q
          rw [nI_clamp (by omega)] at q
          omega
    refine ⟨c, hc, fun μ => ?_⟩
    simp (config := { decide := true }) only [↓reduceIte, Option.bind_some, Option.bind_none, f_L_cell, ez, e1, es, e2]
section TH3
variable {R T : GR} {F : GF} {h : GH} {K : GK} {μ : Mm} {a : Nat}
theorem L_gave {v : Int32} (e : f_X11_asked μ a = some v) : f_L_gave μ a 1 = some v := by
  simp (config := { decide := true }) only [↓reduceIte, Option.bind_some, Option.bind_none, f_L_gave, e]
/-- between the law's parts: the hall as it was, of rows the second alone -/
def JJ (h : GH) (T : GR) (K : GK) (a : Nat) (μ : Mm) : Prop := ∃ R F, XI R T F h K μ a ∧ WF R T h K ∧ ∀ r, r < 6 → r ≠ 1 → R.1 r = none
theorem lcmp_lt0 {x : Nat} (h : x < 2 ^ 63) : ¬ lg_cmp (lN x) 0 < 0 := fun q => by
  have := (lg_cmp_lt _ _).mp q
  have := (pk_lLT (b := 0) h (by decide)).mp this
  omega
theorem lcmp_le0 {x : Nat} (h : x < 2 ^ 63) : lg_cmp (lN x) 0 ≤ 0 ↔ x = 0 := by
  constructor
  · intro q
    have := (lg_cmp_le _ _).mp q
    have := (pk_lLE (b := 0) h (by decide)).mp this
    omega
  · rintro rfl
    exact (lg_cmp_le _ _).mpr ((pk_lLE (a := 0) (b := 0) (by decide) (by decide)).mpr (Nat.le_refl _))
theorem lcmp_eq0 {x : Nat} (h : x < 2 ^ 63) : lg_cmp (lN x) 0 = 0 ↔ x = 0 := by
  constructor
  · intro q
    have := (lg_cmp_eq _ _).mp q
    exact (pk_lEQ (b := 0) h (by decide)).mp this
  · rintro rfl
    exact (lg_cmp_eq _ _).mpr rfl
theorem rat_1 (F : GF) (x : Nat) : rat F (lN (x / Nat.gcd x 1)) (lN (1 / Nat.gcd x 1)) = rat F (lN x) (lN 1) := by rw [Nat.gcd_one_right, Nat.div_one]
theorem lN_ne0 {x : Nat} (h0 : 0 < x) (h : x < 2 ^ 63) : ¬ lN x = 0 := fun q => by
  have := (pk_lEQ (b := 0) h (by decide)).mp q
  omega
end TH3
/-! ===== chances ===== -/
section CH
variable {b L : Nat} {xs : Nat → Int32} {T : GR} {h : GH} {K : GK} {a : Nat}
theorem ch_21 {R : GR} {F : GF} {μ : Mm} (sc : SC) (H : XI R T F h K μ a) (hw : WF R T h K) {m te : Nat} (hm : m ≤ 10) : ∀ (f k : Nat), k ≤ m → m < k + f → lp_L_chances_21 sc f a (nI m) (nI te) (lN (h.n ^ k)) (nI k) μ = some (lN (h.n ^ m)) := by
  have w := hw.2.2.1
  have hn6 := w.1
  intro f
  induction f with
  | zero => intro k q1 q2; omega
  | succ f ih =>
    intro k q1 q2
    by_cases e : k = m
    · have e1 : nI m ≤ nI k := by rw [e]; exact Int32.le_refl _
      simp (config := { decide := true }) only [↓reduceIte, Option.bind_some, Option.bind_none, lp_L_chances_21, e1]
      rw [e]
    · have e1 : ¬ nI m ≤ nI k := nI_ge (by omega) (by omega)
      have ec : f_X11_count μ a 0 = some (nI h.n) := P_count H hw (j := 0) (by decide)
      simp (config := { decide := true }) only [↓reduceIte, Option.bind_some, Option.bind_none, lp_L_chances_21, e1, ec, lN_powS h.n k (show h.n < 2 ^ 31 by omega), nI_1]
      exact ih (k + 1) (by omega) (by omega)
theorem ch_50 (sc : SC) (h0 : ¬ h.n = 0) {m : Nat} (hm : m ≤ 4) : ∀ (f x : Nat) (μ : Mm), x ≤ h.te → h.te < x + f → JJ h T K a μ → ∃ μ', lp_L_chances_50 sc f a (nI m) (nI h.te) (lN (h.n ^ m)) (lN (sumN (fun i => Wo h.te h.n h.tr m (wy h.te i h.q.1)) x)) (nI x) μ = some (1, lN (h.n ^ m), μ') ∧ JJ h T K a μ' := by
  intro f
  induction f with
  | zero => intro x μ q1 q2; omega
  | succ f ih =>
    intro x μ q1 q2 hJ
    obtain ⟨R, F, H, hw, hR⟩ := hJ
    have w := hw.2.2.1
    have hn6 := w.1
    have t1 := w.te_ge h0
    have t2 := w.te_lt
    have tn := w.now_lt h0
    have hte : 0 < h.te := by omega
    have htr : ∀ g, g < h.n → h.tr g ≤ 81 * h.te := fun g hg => by have := w.tr_le hg; omega
    have hpw : h.n ^ m ≤ 6 ^ 4 := Nat.le_trans (Nat.pow_le_pow_left hn6 m) (Nat.pow_le_pow_right (by decide) hm)
    have h64 : (6 : Nat) ^ 4 = 1296 := by decide
    have hpp : 0 < h.n ^ m := Nat.pow_pos (by omega)
    by_cases e : x = h.te
    · have e1 : nI h.te ≤ nI x := by rw [e]; exact Int32.le_refl _
      refine ⟨μ, ?_, R, F, H, hw, hR⟩
      simp (config := { decide := true }) only [↓reduceIte, Option.bind_some, Option.bind_none, lp_L_chances_50, e1]
      rw [e, sumN_wy (fun i => Wo h.te h.n h.tr m i) hte (by omega), Wo_sum hte htr]
    · have e1 : ¬ nI h.te ≤ nI x := nI_ge (by omega) (by omega)
      have hx : x < h.te := by omega
      have hl : wy h.te x h.q.1 < h.te := wy_lt hte
      have hW := Wo_le h.te h.n h.tr m (wy h.te x h.q.1)
      obtain ⟨μ1, y1, H1, -, -⟩ := P_odds w hx (show m ≤ 10 by omega) H
      generalize hV : Wo h.te h.n h.tr m (wy h.te x h.q.1) = V at y1 H1 hW
      have hgp := gcd_pos (u := V) hpp
      have hgd := Nat.gcd_dvd_right V (h.n ^ m)
      have hgl := Nat.gcd_dvd_left V (h.n ^ m)
      have hgle := gcd_le (u := V) hpp
      obtain ⟨A, hA⟩ := hgl
      obtain ⟨B, hB⟩ := hgd
      generalize hg : Nat.gcd V (h.n ^ m) = d at *
      have eA : V / d = A := by rw [hA]; exact Nat.mul_div_cancel_left A hgp
      have eB : h.n ^ m / d = B := by rw [hB]; exact Nat.mul_div_cancel_left B hgp
      rw [eA, eB] at H1
      have hB0 : 0 < B := Nat.pos_of_ne_zero fun z => by rw [z, Nat.mul_zero] at hB; omega
      have hBle : B ≤ h.n ^ m := by rw [hB]; exact Nat.le_mul_of_pos_left B hgp
      have hAle : A ≤ V := by rw [hA]; exact Nat.le_mul_of_pos_left A hgp
      have eWB : h.n ^ m / B = d := by rw [hB]; exact Nat.mul_div_cancel d hB0
      have eMB : h.n ^ m % B = 0 := by rw [hB]; exact Nat.mul_mod_left d B
      have u1 : f_X11_upper μ1 a = some (lN A) := P_upper H1
      have l1 : f_X11_lower μ1 a = some (lN B) := P_lower H1
      have c1 : ¬ lg_cmp (lN B) 1 < 0 := fun q => by
        have := (lg_cmp_lt _ _).mp q
        have := (pk_lLT (b := 1) (by omega) (by decide)).mp this
        omega
      have c2 : ¬ lN B = 0 := lN_ne0 hB0 (by omega)
      have c6 : lN (h.n ^ m) / lN B = lN d := by rw [pk_lDiv (by omega) hB0 (by omega), eWB]
      have c3 : lN (h.n ^ m) - lN d * lN B = lN 0 := by rw [← c6, pk_lRem (by omega) hB0 (by omega), eMB]
      have c4 : lg_cmp (lN 0) 0 = 0 := (lcmp_eq0 (by decide)).mpr rfl
      have c5 : ¬ lg_cmp (lN A) 0 < 0 := lcmp_lt0 (by omega)
      have c7 : lN A * lN d = lN V := by rw [lN_mul, Nat.mul_comm, ← hA]
      have hs := ih (x + 1)
      have es : lN (sumN (fun i => Wo h.te h.n h.tr m (wy h.te i h.q.1)) x) + lN V = lN (sumN (fun i => Wo h.te h.n h.tr m (wy h.te i h.q.1)) (x + 1)) := by rw [lN_add, sumN_s, hV]
      by_cases z : A = 0
      · have c8 : lg_cmp (lN A) 0 ≤ 0 := (lcmp_le0 (by omega)).mpr z
        obtain ⟨μ', z1, z2⟩ := hs μ1 (by omega) (by omega) ⟨R, _, H1, hw, hR⟩
        refine ⟨μ', ?_, z2⟩
        simp (config := { decide := true }) only [↓reduceIte, Option.bind_some, Option.bind_none, lp_L_chances_50, e1, y1, u1, l1, c1, c2, c3, c4, c5, c8, c6, c7, es, nI_1, z1]
      · have c8 : ¬ lg_cmp (lN A) 0 ≤ 0 := fun q => z ((lcmp_le0 (by omega)).mp q)
        obtain ⟨D, hD, hF⟩ := dst_ex (te := h.te) (n := h.n) (t := h.tr) (w := wgt h false) (by omega) (fun g hg => (wgt_ok w false hg).1)
        have hD' : Sup h.te h.n h.tr (fun _ => 1) D := hD
        have hF' : Fix h.te h.n h.tr (fun _ => 1) D := hF
        have hc := Wo_cost hF' hD' hte htr m (wy h.te x h.q.1) hl (by rw [hV]; exact Nat.pos_of_ne_zero fun y => z (by
          rw [y] at hA
          rcases Nat.mul_eq_zero.mp hA.symm with q | q
          · omega
          · exact q))
        have hFA : FARn = 1000000 := rfl
        obtain ⟨μ2, y2, H2, -, -⟩ := P_fewest w hx hD hF (by omega) H1
        have c9 : nI (D (wy h.te x h.q.1)) ≤ nI m := nI_le hc (by omega)
        have u2 : f_X11_upper μ2 a = some (lN A) := P_upper H2
        have l2 : f_X11_lower μ2 a = some (lN B) := P_lower H2
        obtain ⟨μ', z1, z2⟩ := hs μ2 (by omega) (by omega) ⟨R, _, H2, hw, hR⟩
        refine ⟨μ', ?_, z2⟩
        simp (config := { decide := true }) only [↓reduceIte, Option.bind_some, Option.bind_none, lp_L_chances_50, e1, y1, u1, l1, c1, c2, c3, c4, c5, c8, y2, c9, u2, l2, c6, c7, es, nI_1, z1]
theorem L_chances (hL : L ≤ 260) (h0 : ¬ h.n = 0) {μ : Mm} (hJ : JJ h T K a μ) : ∃ μ', f_L_chances (b, L, xs) μ a b = some (1, μ') ∧ JJ h T K a μ' := by
  obtain ⟨R, F, H, hw, hR⟩ := hJ
  obtain ⟨c, hc, ec⟩ := L_cell (b := b) (xs := xs) hL (show 45 ≤ 60 by decide)
  have e28 : (2 : Nat) ^ 28 = 268435456 := by decide
  have w := hw.2.2.1
  have hn6 := w.1
  have hm : c % 5 ≤ 4 := by omega
  have em : nI c - nI c / 5 * 5 = nI (c % 5) := pk_rem (d := 5) (by omega) (by decide) (by decide)
  have e1 : f_X11_count μ a 1 = some (nI h.te) := P_count H hw (j := 1) (by decide)
  have e2 := ch_21 (b, L, xs) H hw (m := c % 5) (te := h.te) (by omega) BIG 0 (Nat.zero_le _) (by unfold BIG; omega)
  have e2' : lp_L_chances_21 (b, L, xs) BIG a (nI (c % 5)) (nI h.te) 1 0 μ = some (lN (h.n ^ (c % 5))) := e2
  obtain ⟨μ', z1, z2⟩ := ch_50 (b, L, xs) h0 hm BIG 0 μ (Nat.zero_le _) (by have := w.te_lt; unfold BIG; omega) ⟨R, F, H, hw, hR⟩
  have z1' : lp_L_chances_50 (b, L, xs) BIG a (nI (c % 5)) (nI h.te) (lN (h.n ^ (c % 5))) 0 0 μ = some (1, lN (h.n ^ (c % 5)), μ') := z1
  have ec' : f_L_cell (b, L, xs) μ b 45 = some (nI c) := ec μ
  have e3 : lg_cmp (lN (h.n ^ (c % 5))) (lN (h.n ^ (c % 5))) = 0 := (lg_cmp_eq _ _).mpr rfl
  refine ⟨μ', ?_, z2⟩
  simp (config := { decide := true }) only [↓reduceIte, Option.bind_some, Option.bind_none, f_L_chances, ec', e1, em, e2', z1', e3]
end CH
