/-! ===== teeth and rounds are what was trodden in all ===== -/
theorem run_went {te : Nat} {rs : Int64} {kd ft : Nat → Nat} (hte : 0 < te) : ∀ (sp : List Nat) (q : Rst), q.2.1 * te + q.1 = q.2.2.2.2.1 → (sp.foldl (stp te rs kd ft) q).2.1 * te + (sp.foldl (stp te rs kd ft) q).1 = (sp.foldl (stp te rs kd ft) q).2.2.2.2.1 := by
  intro sp
  induction sp with
  | nil => intro q h; exact h
  | cons s sp ih =>
    intro q h
    rw [List.foldl_cons]
    refine ih _ ?_
    unfold stp
    by_cases z : s < 6
    · rw [if_pos z]
      show (q.2.1 + (q.1 + trd kd ft q.2.2.1 s) / te) * te + (q.1 + trd kd ft q.2.2.1 s) % te = q.2.2.2.2.1 + trd kd ft q.2.2.1 s
      have := Nat.div_add_mod (q.1 + trd kd ft q.2.2.1 s) te
      rw [Nat.mul_comm] at this
      rw [Nat.add_mul]
      omega
    · rw [if_neg z]; exact h
theorem run_still {te : Nat} {rs : Int64} {kd ft : Nat → Nat} : ∀ (sp : List Nat) (q : Rst), wks sp = 0 → (sp.foldl (stp te rs kd ft) q).1 = q.1 ∧ (sp.foldl (stp te rs kd ft) q).2.1 = q.2.1 := by
  intro sp
  induction sp with
  | nil => intro q _; exact ⟨rfl, rfl⟩
  | cons s sp ih =>
    intro q h
    rw [wks_cons] at h
    have hs : ¬ s < 6 := fun z => by rw [if_pos z] at h; omega
    rw [List.foldl_cons]
    obtain ⟨h1, h2⟩ := ih (stp te rs kd ft q s) (by omega)
    rw [h1, h2]
    unfold stp
    rw [if_neg hs]
    exact ⟨rfl, rfl⟩
section PA
variable {T : GR} {h : GH} {K : GK} {a : Nat}
theorem pa_4 (w : WH h) {R : GR} (hw : WF R T h K) : ∀ (f k : Nat) (μ : Mm) (F : GF), k ≤ h.n → h.n < k + f → XI R T F h K μ a → ∃ μ' F', lp_L_paced_4 f a (nI h.n) (nI (sumN h.q.2.2.2.2.2 k)) (nI k) μ = some (nI (wks h.sp), μ') ∧ XI R T F' h K μ' a ∧ ∀ b, a + 59 ≤ b → b < a + 61 → Sm μ μ' b := by
  have hn6 := w.1
  intro f
  induction f with
  | zero => intro k μ F q1 q2; omega
  | succ f ih =>
    intro k μ F q1 q2 H
    by_cases e : k = h.n
    · have e1 : nI h.n ≤ nI k := by rw [e]; exact Int32.le_refl _
      refine ⟨μ, F, ?_, H, fun b _ _ => Sm.rf μ b⟩
      simp (config := { decide := true }) only [↓reduceIte, Option.bind_some, Option.bind_none, lp_L_paced_4, e1]
      rw [e, w.wsum]
    · have e1 : ¬ nI h.n ≤ nI k := nI_ge (by omega) (by omega)
      obtain ⟨μ1, y1, H1, s1, -⟩ := P_guild w (g := k) (k := 4) (by omega) (by decide) H
      have y1 : f_X11_guild μ a (nI k) 4 = some (1, μ1) := y1
      have y2 : f_L_gave μ1 a 1 = some (nI (h.q.2.2.2.2.2 k)) := L_gave (P_asked H1)
      obtain ⟨μ', F', z1, z2, z3⟩ := ih (k + 1) μ1 _ (by omega) (by omega) H1
      have e2 : nI (sumN h.q.2.2.2.2.2 k) + nI (h.q.2.2.2.2.2 k) = nI (sumN h.q.2.2.2.2.2 (k + 1)) := by rw [nI_add]; rfl
      refine ⟨μ', F', ?_, z2, fun b b1 b2 => (s1 b b1 b2).tr (z3 b b1 b2)⟩
      simp (config := { decide := true }) only [↓reduceIte, Option.bind_some, Option.bind_none, lp_L_paced_4, e1, y1, y2, e2, nI_1, z1]
theorem L_paced {R : GR} {F : GF} {μ : Mm} (h0 : ¬ h.n = 0) (H : XI R T F h K μ a) (hw : WF R T h K) : ∃ μ' F', f_L_paced μ a (nI h.n) = some (1, μ') ∧ XI R T F' h K μ' a ∧ ∀ b, a + 59 ≤ b → b < a + 61 → Sm μ μ' b := by
  have w := hw.2.2.1
  have hn6 := w.1
  have t1 := w.te_ge h0
  have t2 := w.te_lt
  have tn := w.now_lt h0
  have hl := w.2.2.2.1
  have hwk := wks_le h.sp
  have hrd := w.bq.2.1
  have hwt := w.bq.2.2.2.2.1
  obtain ⟨μ1, F1, y1, H1, s1⟩ := pa_4 (K := K) (T := T) (a := a) w hw BIG 0 μ F (Nat.zero_le _) (by unfold BIG; omega) H
  have y1 : lp_L_paced_4 BIG a (nI h.n) 0 0 μ = some (nI (wks h.sp), μ1) := y1
  have e1 : f_X11_count μ1 a 1 = some (nI h.te) := P_count H1 hw (j := 1) (by decide)
  have hwent : h.q.2.1 * h.te + h.q.1 = h.q.2.2.2.2.1 := run_went (by omega) h.sp r0 (by show 0 * h.te + 0 = 0; rw [Nat.zero_mul])
  by_cases z : wks h.sp = 0
  · obtain ⟨k1, k2⟩ := run_still (te := h.te) (rs := h.rs) (kd := h.kd) (ft := h.ft) h.sp r0 z
    have k1 : h.q.1 = 0 := k1
    have k2 : h.q.2.1 = 0 := k2
    obtain ⟨μ2, y2, H2, s2, -⟩ := P_pace_no z H1
    have e2 : f_X11_count μ2 a 2 = some 0 := by
      have : f_X11_count μ2 a 2 = some (nI h.q.1) := P_count H2 hw (j := 2) (by decide)
      rw [k1] at this; exact this
    have e3 : f_X11_count μ2 a 3 = some 0 := by
      have : f_X11_count μ2 a 3 = some (nI h.q.2.1) := P_count H2 hw (j := 3) (by decide)
      rw [k2] at this; exact this
    have c1 : nI (wks h.sp) = 0 := by rw [z]; rfl
    refine ⟨μ2, _, ?_, H2, fun b b1 b2 => (s1 b b1 b2).tr (s2 b b1 b2)⟩
    simp (config := { decide := true }) only [↓reduceIte, Option.bind_some, Option.bind_none, f_L_paced, y1, e1, y2, c1, e2, e3]
  · obtain ⟨μ2, y2, H2, s2, -⟩ := P_pace w z H1
    have hgp := gcd_pos (u := h.q.2.2.2.2.1) (Nat.pos_of_ne_zero z)
    have hgle := gcd_le (u := h.q.2.2.2.2.1) (Nat.pos_of_ne_zero z)
    obtain ⟨A, hA⟩ := Nat.gcd_dvd_left h.q.2.2.2.2.1 (wks h.sp)
    obtain ⟨B, hB⟩ := Nat.gcd_dvd_right h.q.2.2.2.2.1 (wks h.sp)
    generalize Nat.gcd h.q.2.2.2.2.1 (wks h.sp) = d at *
    have eA : h.q.2.2.2.2.1 / d = A := by rw [hA]; exact Nat.mul_div_cancel_left A hgp
    have eB : wks h.sp / d = B := by rw [hB]; exact Nat.mul_div_cancel_left B hgp
    rw [eA, eB] at H2
    have hB0 : 0 < B := Nat.pos_of_ne_zero fun y => by rw [y, Nat.mul_zero] at hB; omega
    have hBle : B ≤ wks h.sp := by rw [hB]; exact Nat.le_mul_of_pos_left B hgp
    have u1 : f_X11_upper μ2 a = some (lN A) := P_upper H2
    have l1 : f_X11_lower μ2 a = some (lN B) := P_lower H2
    have c1 : ¬ nI (wks h.sp) = 0 := nI_ne0 (by omega) (by omega)
    have c2 : ¬ lN B = 0 := lN_ne0 hB0 (by omega)
    have i1 : (nI (wks h.sp)).toInt64 = lN (wks h.sp) := nI_l (by omega)
    have i2 : (nI h.q.2.1).toInt64 = lN h.q.2.1 := nI_l (by omega)
    have i3 : (nI h.te).toInt64 = lN h.te := nI_l (by omega)
    have i4 : (nI h.q.1).toInt64 = lN h.q.1 := nI_l (by omega)
    have c5 : lN (wks h.sp) / lN B = lN d := by
      rw [pk_lDiv (by omega) hB0 (by omega), show wks h.sp / B = d from by rw [hB]; exact Nat.mul_div_cancel d hB0]
    have c3 : lN (wks h.sp) - lN d * lN B = lN 0 := by
      rw [← c5, pk_lRem (by omega) hB0 (by omega), show wks h.sp % B = 0 from by rw [hB]; exact Nat.mul_mod_left d B]
    have c4 : lg_cmp (lN 0) 0 = 0 := (lcmp_eq0 (by decide)).mpr rfl
    have c6 : lN A * lN d = lN h.q.2.2.2.2.1 := by rw [lN_mul, Nat.mul_comm, ← hA]
    have c7 : lN h.q.2.1 * lN h.te + lN h.q.1 = lN h.q.2.2.2.2.1 := by rw [lN_mul, lN_add, hwent]
    have c8 : lg_cmp (lN h.q.2.2.2.2.1) (lN h.q.2.2.2.2.1) = 0 := (lg_cmp_eq _ _).mpr rfl
    have e2 : f_X11_count μ2 a 2 = some (nI h.q.1) := P_count H2 hw (j := 2) (by decide)
    have e3 : f_X11_count μ2 a 3 = some (nI h.q.2.1) := P_count H2 hw (j := 3) (by decide)
    obtain ⟨μ3, y3, H3, s3, -⟩ := P_hour w h0 H2
    have e4 : f_X11_count μ3 a 2 = some (nI h.q.1) := P_count H3 hw (j := 2) (by decide)
    have e5 : f_X11_count μ3 a 3 = some (nI h.q.2.1) := P_count H3 hw (j := 3) (by decide)
    have e6 : f_X11_asked μ3 a = some (nI h.q.2.1) := P_asked H3
    have c9 : ¬ nI h.te = 0 := nI_ne0 (by omega) (by omega)
    have c10 : (12 : Int32) * nI h.q.1 = nI (12 * h.q.1) := pk_mul 12 _
    have c11 : nI (12 * h.q.1) / nI h.te = nI (12 * h.q.1 / h.te) := pk_div (by omega) (by omega) (by omega)
    refine ⟨μ3, _, ?_, H3, fun b b1 b2 => ((s1 b b1 b2).tr (s2 b b1 b2)).tr (s3 b b1 b2)⟩
    simp (config := { decide := true }) only [↓reduceIte, Option.bind_some, Option.bind_none, f_L_paced, y1, e1, y2, c1, l1, c2, i1, c3, c4, u1, c5, c6, e3, e2, i2, i3, i4, c7, c8, y3, e4, c9, c10, c11, e6, e5]
end PA
/-! ===== the law's own hall: its two rows ===== -/
section GO
variable {T : GR} {K : GK} {a : Nat}
/-- the first row: guilds, kinds, feet, teeth, rents -/
def AG (n te rn : Nat) (kd ft : Nat → Nat) (rh : Nat → Int32) (μ : Mm) (a : Nat) : Prop := tg μ (a + 59) = 21 ∧ ln μ (a + 59) = 24 ∧ mI μ (a + 59) 0 = nI n ∧ mI μ (a + 59) 13 = nI te ∧ mI μ (a + 59) 14 = nI rn ∧ (∀ i, i < n → mI μ (a + 59) (1 + i) = nI (kd i) ∧ mI μ (a + 59) (7 + i) = nI (ft i)) ∧ ∀ k, k < rn → mI μ (a + 59) (15 + k) = rh k
theorem AG.mv {n te rn : Nat} {kd ft : Nat → Nat} {rh : Nat → Int32} {μ μ' : Mm} (h : AG n te rn kd ft rh μ a) (s : Sm μ μ' (a + 59)) : AG n te rn kd ft rh μ' a := by
  obtain ⟨g1, g2, g3, g4, g5, g6, g7⟩ := h
  exact ⟨s.1.trans g1, s.2.1.trans g2, (s.2.2.1 _).trans g3, (s.2.2.1 _).trans g4, (s.2.2.1 _).trans g5, fun i hi => ⟨(s.2.2.1 _).trans (g6 i hi).1, (s.2.2.1 _).trans (g6 i hi).2⟩, fun k hk => (s.2.2.1 _).trans (g7 k hk)⟩
/-- the second row: the tooth, the floor -/
def AW (x f : Nat) (μ : Mm) (a : Nat) : Prop := tg μ (a + 60) = 21 ∧ ln μ (a + 60) = 12 ∧ mI μ (a + 60) 0 = nI x ∧ mI μ (a + 60) 2 = nI f
theorem AW.mv {x f : Nat} {μ μ' : Mm} (h : AW x f μ a) (s : Sm μ μ' (a + 60)) : AW x f μ' a := ⟨s.1.trans h.1, s.2.1.trans h.2.1, (s.2.2.1 _).trans h.2.2.1, (s.2.2.1 _).trans h.2.2.2⟩
theorem AG.rd {n te rn : Nat} {kd ft : Nat → Nat} {rh : Nat → Int32} {μ : Mm} (h : AG n te rn kd ft rh μ a) {k : Nat} (hk : k < 24) : aI μ (a + 59) 21 (nI k) = some (mI μ (a + 59) k) := aI_of h.1 (by rw [h.2.1]; exact hk) (by omega)
theorem AW.rd {x f : Nat} {μ : Mm} (h : AW x f μ a) {k : Nat} (hk : k < 12) : aI μ (a + 60) 21 (nI k) = some (mI μ (a + 60) k) := aI_of h.1 (by rw [h.2.1]; exact hk) (by omega)
theorem AW.wr {x f : Nat} {μ : Mm} (h : AW x f μ a) {k : Nat} (hk : k < 12) (v : Int32) : qI μ (a + 60) 21 (nI k) v = some (sI μ (a + 60) k v) := qI_of h.1 (by rw [h.2.1]; exact hk) (by omega)
/-- is there a rent -/
def hasR (rh : Nat → Int32) (v : Int32) (k : Nat) : Bool := decide (∃ j, j < k ∧ rh j = v)
theorem hasR_s (rh : Nat → Int32) (v : Int32) (k : Nat) : hasR rh v (k + 1) = (hasR rh v k || decide (rh k = v)) := by
  unfold hasR
  rw [Bool.eq_iff_iff, Bool.or_eq_true, decide_eq_true_iff, decide_eq_true_iff, decide_eq_true_iff]
  constructor
  · rintro ⟨j, h1, h2⟩
    by_cases z : j = k
    · exact Or.inr (by rw [← z]; exact h2)
    · exact Or.inl ⟨j, by omega, h2⟩
  · rintro (⟨j, h1, h2⟩ | h2)
    · exact ⟨j, by omega, h2⟩
    · exact ⟨k, Nat.lt_succ_self k, h2⟩
theorem re_4 {n te rn : Nat} {kd ft : Nat → Nat} {rh : Nat → Int32} {μ : Mm} (h : AG n te rn kd ft rh μ a) (hr : rn ≤ 8) (v : Int32) : ∀ (f k : Nat), k ≤ rn → rn < k + f → lp_L_rent_4 f (a + 59) v (nI (b1 (hasR rh v k))) (nI k) μ = some (nI (b1 (hasR rh v rn))) := by
  intro f
  induction f with
  | zero => intro k q1 q2; omega
  | succ f ih =>
    intro k q1 q2
    have e14 : aI μ (a + 59) 21 14 = some (nI rn) := (h.rd (k := 14) (by decide)).trans (congrArg some h.2.2.2.2.1)
    by_cases e : k = rn
    · have e1 : nI rn ≤ nI k := by rw [e]; exact Int32.le_refl _
      simp (config := { decide := true }) only [↓reduceIte, Option.bind_some, Option.bind_none, lp_L_rent_4, e14, e1]
      rw [e]
    · have e1 : ¬ nI rn ≤ nI k := nI_ge (by omega) (by omega)
      have e2 : (15 : Int32) + nI k = nI (15 + k) := nI_add 15 k
      have e3 : aI μ (a + 59) 21 (nI (15 + k)) = some (rh k) := (h.rd (k := 15 + k) (by omega)).trans (congrArg some (h.2.2.2.2.2.2 k (by omega)))
      have hI := ih (k + 1) (by omega) (by omega)
      rw [hasR_s] at hI
      by_cases z : rh k = v
      · have o : nI (b1 (hasR rh v k)) ||| (1 : Int32) = nI (b1 (hasR rh v k || decide (rh k = v))) := by
          rw [decide_eq_true z, Bool.or_true]
          cases hasR rh v k <;> decide
        simp (config := { decide := true }) only [↓reduceIte, Option.bind_some, Option.bind_none, lp_L_rent_4, e14, e1, e2, e3, z, nI_1]
        rw [z] at o
        rw [o]
        rw [z] at hI
        exact hI
      · have o : nI (b1 (hasR rh v k)) ||| (0 : Int32) = nI (b1 (hasR rh v k)) := by
          cases hasR rh v k <;> decide
        rw [decide_eq_false z, Bool.or_false] at hI
        simp (config := { decide := true }) only [↓reduceIte, Option.bind_some, Option.bind_none, lp_L_rent_4, e14, e1, e2, e3, z, nI_1, o, hI]
theorem L_rent {n te rn : Nat} {kd ft : Nat → Nat} {rh : Nat → Int32} {μ : Mm} (h : AG n te rn kd ft rh μ a) (hr : rn ≤ 8) (v : Int32) : f_L_rent μ (a + 59) v = some (nI (b1 (hasR rh v rn))) := by
  have e := re_4 h hr v BIG 0 (Nat.zero_le _) (by unfold BIG; omega)
  have h0 : hasR rh v 0 = false := decide_eq_false (fun ⟨j, hj, _⟩ => absurd hj (Nat.not_lt_zero _))
  rw [h0] at e
  have e : lp_L_rent_4 BIG (a + 59) v 0 0 μ = some (nI (b1 (hasR rh v rn))) := e
  have ez : zb (nI (b1 (hasR rh v rn))) = some (nI (b1 (hasR rh v rn))) := if_pos (b1_01 _)
  simp (config := { decide := true }) only [↓reduceIte, Option.bind_some, Option.bind_none, f_L_rent, e, ez]
set_option maxRecDepth 100000 in
theorem bare_tab : ∀ k, k < 6 → ∀ f, f < 10 → 1 ≤ f → ((if nI k = (3 : Int32) then some (0 : Int32) else if nI k = (1 : Int32) then some (nI f + nI f) else if nI k = (4 : Int32) then some (nI f + ((nI f + (1 : Int32)) / (2 : Int32))) else if nI k = (2 : Int32) then some (nI f - (1 : Int32)) else if nI k = (5 : Int32) then some ((nI f - (1 : Int32)) / (2 : Int32)) else some (nI f) : Option Int32) = some (nI (bar k f))) := by decide +kernel
theorem L_bare {n te rn : Nat} {kd ft : Nat → Nat} {rh : Nat → Int32} {μ : Mm} (h : AG n te rn kd ft rh μ a) (hn : n ≤ 6) {i : Nat} (hi : i < n) (hk : kd i < 6) (h1 : 1 ≤ ft i) (h9 : ft i ≤ 9) : f_L_bare μ (a + 59) (nI i) = some (nI (bar (kd i) (ft i))) := by
  obtain ⟨k1, k2⟩ := h.2.2.2.2.2.1 i hi
  have e1 : (1 : Int32) + nI i = nI (1 + i) := nI_add 1 i
  have e2 : (7 : Int32) + nI i = nI (7 + i) := nI_add 7 i
  have e3 : aI μ (a + 59) 21 (nI (1 + i)) = some (nI (kd i)) := (h.rd (k := 1 + i) (by omega)).trans (congrArg some k1)
  have e4 : aI μ (a + 59) 21 (nI (7 + i)) = some (nI (ft i)) := (h.rd (k := 7 + i) (by omega)).trans (congrArg some k2)
  have t := bare_tab (kd i) hk (ft i) (by omega) h1
  unfold f_L_bare
  rw [e1, e3, Option.bind_some, e2, e4, Option.bind_some]
  exact t
theorem L_tread {n te rn x fl : Nat} {kd ft : Nat → Nat} {rh : Nat → Int32} {μ : Mm} (h : AG n te rn kd ft rh μ a) (hW : AW x fl μ a) (hn : n ≤ 6) {i : Nat} (hi : i < n) (hk : kd i < 6) (h1 : 1 ≤ ft i) (h9 : ft i ≤ 9) (hfl : fl ≤ 2) : f_L_tread μ (a + 59) (a + 60) (nI i) = some (nI (trd kd ft fl i)) := by
  have e1 := L_bare h hn hi hk h1 h9
  have e2 : aI μ (a + 60) 21 2 = some (nI fl) := (hW.rd (k := 2) (by decide)).trans (congrArg some hW.2.2.2)
  have hb := bar_le (k := kd i) h9
  rcases (show fl = 0 ∨ fl = 1 ∨ fl = 2 by omega) with rfl | rfl | rfl
  · simp (config := { decide := true }) only [↓reduceIte, Option.bind_some, Option.bind_none, f_L_tread, e1, e2, show nI 0 = 0 from rfl]
    rfl
  · have e3 : nI (bar (kd i) (ft i)) / 2 = nI (bar (kd i) (ft i) / 2) := pk_div (d := 2) (by omega) (by decide) (by decide)
    simp (config := { decide := true }) only [↓reduceIte, Option.bind_some, Option.bind_none, f_L_tread, e1, e2, show nI 1 = 1 from rfl, e3]
    rfl
  · simp (config := { decide := true }) only [↓reduceIte, Option.bind_some, Option.bind_none, f_L_tread, e1, e2, show nI 2 = 2 from rfl]
    rfl
/-- alike but for the second row -/
def Ot (μ μ' : Mm) (a : Nat) : Prop := (∀ b, b ≠ a + 60 → Sm μ μ' b) ∧ hz μ' = hz μ
theorem Ot.rf (μ : Mm) (a : Nat) : Ot μ μ a := ⟨fun b _ => Sm.rf μ b, rfl⟩
theorem Ot.tr {μ μ1 μ2 : Mm} (h : Ot μ μ1 a) (h2 : Ot μ1 μ2 a) : Ot μ μ2 a := ⟨fun b q => (h.1 b q).tr (h2.1 b q), h2.2.trans h.2⟩
theorem Ot.sI {μ μ1 : Mm} (h : Ot μ μ1 a) (k : Nat) (v : Int32) : Ot μ (sI μ1 (a + 60) k v) a := ⟨fun b q => (h.1 b q).sI q, h.2⟩
theorem AW.s0 {x f y : Nat} {μ : Mm} (h : AW x f μ a) : AW y f (sI μ (a + 60) 0 (nI y)) a := ⟨h.1, h.2.1, mI_eq, by rw [mI_nk (by decide)]; exact h.2.2.2⟩
theorem AW.s2 {x f y : Nat} {μ : Mm} (h : AW x f μ a) : AW x y (sI μ (a + 60) 2 (nI y)) a := ⟨h.1, h.2.1, by rw [mI_nk (by decide)]; exact h.2.2.1, mI_eq⟩
theorem AW.sk {x f k : Nat} {v : Int32} {μ : Mm} (h : AW x f μ a) (h0 : 0 ≠ k) (h2 : 2 ≠ k) : AW x f (sI μ (a + 60) k v) a := ⟨h.1, h.2.1, by rw [mI_nk h0]; exact h.2.2.1, by rw [mI_nk h2]; exact h.2.2.2⟩
theorem XI.ot {R : GR} {F : GF} {h : GH} {μ μ' : Mm} (H : XI R T F h K μ a) (o : Ot μ μ' a) : XI R T F h K μ' a := H.mv (fun b hb => o.1 b (by omega)) (by rw [o.2]; exact Nat.le_refl _)
theorem wk_14 {n te rn fl : Nat} {kd ft : Nat → Nat} {rh : Nat → Int32} (hte : 12 ≤ te) (hte2 : te ≤ 60) {p2 p3 : Int32} : ∀ (f y : Nat) (μ : Mm), y < f → y < 1000 → AG n te rn kd ft rh μ a → AW y fl μ a → ∃ μ', lp_L_walk_14 f (a + 59) (a + 60) p2 p3 μ = some μ' ∧ AW (y % te) fl μ' a ∧ Ot μ μ' a := by
  intro f
  induction f with
  | zero => intro y μ q1; omega
  | succ f ih =>
    intro y μ q1 q2 hG hW
    have e0 : aI μ (a + 60) 21 0 = some (nI y) := (hW.rd (k := 0) (by decide)).trans (congrArg some hW.2.2.1)
    have e13 : aI μ (a + 59) 21 13 = some (nI te) := (hG.rd (k := 13) (by decide)).trans (congrArg some hG.2.2.2.1)
    by_cases z : y < te
    · have e1 : nI y < nI te := nI_lt z (by omega)
      refine ⟨μ, ?_, by rw [Nat.mod_eq_of_lt z]; exact hW, Ot.rf μ a⟩
      simp (config := { decide := true }) only [↓reduceIte, Option.bind_some, Option.bind_none, lp_L_walk_14, e0, e13, e1]
    · have e1 : ¬ nI y < nI te := nI_nlt (by omega) (by omega)
      have e2 : nI y - nI te = nI (y - te) := pk_sub (by omega)
      have q1' : qI μ (a + 60) 21 0 (nI (y - te)) = some (sI μ (a + 60) 0 (nI (y - te))) := hW.wr (k := 0) (by decide) _
      have hW1 : AW (y - te) fl (sI μ (a + 60) 0 (nI (y - te))) a := hW.s0
      have e3 : aI (sI μ (a + 60) 0 (nI (y - te))) (a + 60) 21 1 = some (mI (sI μ (a + 60) 0 (nI (y - te))) (a + 60) 1) := hW1.rd (k := 1) (by decide)
      have q2' : qI (sI μ (a + 60) 0 (nI (y - te))) (a + 60) 21 1 (mI (sI μ (a + 60) 0 (nI (y - te))) (a + 60) 1 + 1) = some (sI (sI μ (a + 60) 0 (nI (y - te))) (a + 60) 1 (mI (sI μ (a + 60) 0 (nI (y - te))) (a + 60) 1 + 1)) := hW1.wr (k := 1) (by decide) _
      have o : Ot μ (sI (sI μ (a + 60) 0 (nI (y - te))) (a + 60) 1 (mI (sI μ (a + 60) 0 (nI (y - te))) (a + 60) 1 + 1)) a := ((Ot.rf μ a).sI _ _).sI _ _
      obtain ⟨μ', z1, z2, z3⟩ := ih (y - te) _ (by omega) (by omega) (hG.mv (o.1 _ (by omega))) (hW1.sk (k := 1) (v := mI (sI μ (a + 60) 0 (nI (y - te))) (a + 60) 1 + 1) (by decide) (by decide))
      refine ⟨μ', ?_, by rw [Nat.mod_eq_sub_mod (by omega)]; exact z2, o.tr z3⟩
      simp (config := { decide := true }) only [↓reduceIte, Option.bind_some, Option.bind_none, lp_L_walk_14, e0, e13, e1, e2, q1', e3, q2', z1]
theorem L_walk {n te rn x fl : Nat} {kd ft : Nat → Nat} {rh : Nat → Int32} {μ : Mm} (hG : AG n te rn kd ft rh μ a) (hW : AW x fl μ a) (hn : n ≤ 6) (hte : 12 ≤ te) (hte2 : te ≤ 60) (hr : rn ≤ 8) (hx : x < te) {i : Nat} (hi : i < n) (hk : kd i < 6) (h1 : 1 ≤ ft i) (h9 : ft i ≤ 9) (hfl : fl ≤ 2) : ∃ μ', f_L_walk μ (a + 59) (a + 60) (nI i) = some μ' ∧ AW ((x + trd kd ft fl i) % te) fl μ' a ∧ Ot μ μ' a := by
  have y1 := L_tread hG hW hn hi hk h1 h9 hfl
  have ht := trd_le (kd := kd) (fl := fl) h9
  generalize trd kd ft fl i = t at y1 ht
  have e0 : aI μ (a + 60) 21 0 = some (nI x) := (hW.rd (k := 0) (by decide)).trans (congrArg some hW.2.2.1)
  have q0 : qI μ (a + 60) 21 0 (nI x + nI t) = some (sI μ (a + 60) 0 (nI (x + t))) := by rw [nI_add]; exact hW.wr (k := 0) (by decide) _
  have o0 : Ot μ (sI μ (a + 60) 0 (nI (x + t))) a := (Ot.rf μ a).sI _ _
  obtain ⟨μ1, y2, W1, o1⟩ := wk_14 (p2 := nI i) (p3 := nI t) hte hte2 BIG (x + t) _ (by unfold BIG; omega) (by omega) (hG.mv (o0.1 _ (by omega))) hW.s0
  have o01 := o0.tr o1
  have G1 := hG.mv (o01.1 _ (by omega))
  have e3 : aI μ1 (a + 60) 21 3 = some (mI μ1 (a + 60) 3) := W1.rd (k := 3) (by decide)
  have e0' : aI μ1 (a + 60) 21 0 = some (nI ((x + t) % te)) := (W1.rd (k := 0) (by decide)).trans (congrArg some W1.2.2.1)
  have y3 := L_rent G1 hr (nI ((x + t) % te))
  generalize hasR rh (nI ((x + t) % te)) rn = bb at y3
  have q3 : ∀ v, qI μ1 (a + 60) 21 3 v = some (sI μ1 (a + 60) 3 v) := fun v => W1.wr (k := 3) (by decide) v
  have W2 : ∀ v, AW ((x + t) % te) fl (sI μ1 (a + 60) 3 v) a := fun v => W1.sk (by decide) (by decide)
  have fin : ∀ v3, ∃ μ', ((aI (sI μ1 (a + 60) 3 v3) (a + 60) 21 (4 : Int32)).bind fun x19 => (qI (sI μ1 (a + 60) 3 v3) (a + 60) 21 (4 : Int32) (x19 + nI t)).bind fun x20 => (aI x20 (a + 60) 21 ((5 : Int32) + nI i)).bind fun x21 => (qI x20 (a + 60) 21 ((5 : Int32) + nI i) (x21 + (1 : Int32))).bind fun x22 => some x22) = some μ' ∧ AW ((x + t) % te) fl μ' a ∧ Ot μ μ' a := fun v3 => by
    have W2 := W2 v3
    have o2 : Ot μ (sI μ1 (a + 60) 3 v3) a := o01.sI _ _
    generalize sI μ1 (a + 60) 3 v3 = μ2 at W2 o2
    have e4 : aI μ2 (a + 60) 21 4 = some (mI μ2 (a + 60) 4) := W2.rd (k := 4) (by decide)
    have q4 : qI μ2 (a + 60) 21 4 (mI μ2 (a + 60) 4 + nI t) = some (sI μ2 (a + 60) 4 (mI μ2 (a + 60) 4 + nI t)) := W2.wr (k := 4) (by decide) _
    have W3 : AW ((x + t) % te) fl (sI μ2 (a + 60) 4 (mI μ2 (a + 60) 4 + nI t)) a := W2.sk (by decide) (by decide)
    have o3 : Ot μ (sI μ2 (a + 60) 4 (mI μ2 (a + 60) 4 + nI t)) a := o2.sI _ _
    generalize sI μ2 (a + 60) 4 (mI μ2 (a + 60) 4 + nI t) = μ3 at q4 W3 o3
    have ei : (5 : Int32) + nI i = nI (5 + i) := nI_add 5 i
    have e5 : aI μ3 (a + 60) 21 (nI (5 + i)) = some (mI μ3 (a + 60) (5 + i)) := W3.rd (k := 5 + i) (by omega)
    have q5 : qI μ3 (a + 60) 21 (nI (5 + i)) (mI μ3 (a + 60) (5 + i) + 1) = some (sI μ3 (a + 60) (5 + i) (mI μ3 (a + 60) (5 + i) + 1)) := W3.wr (k := 5 + i) (by omega) _
    refine ⟨_, ?_, W3.sk (k := 5 + i) (v := mI μ3 (a + 60) (5 + i) + 1) (by omega) (by omega), o3.sI _ _⟩
    simp (config := { decide := true }) only [↓reduceIte, Option.bind_some, Option.bind_none, e4, q4, ei, e5, q5]
  cases bb with
  | true =>
    have y3 : f_L_rent μ1 (a + 59) (nI ((x + t) % te)) = some 1 := y3
    obtain ⟨μ', z1, z2⟩ := fin (mI μ1 (a + 60) 3 + 1)
    refine ⟨μ', ?_, z2⟩
    rw [← z1]
    simp (config := { decide := true }) only [↓reduceIte, Option.bind_some, Option.bind_none, f_L_walk, y1, e0, q0, y2, e3, e0', y3, q3]
  | false =>
    have y3 : f_L_rent μ1 (a + 59) (nI ((x + t) % te)) = some 0 := y3
    obtain ⟨μ', z1, z2⟩ := fin (mI μ1 (a + 60) 3 + 0)
    refine ⟨μ', ?_, z2⟩
    rw [← z1]
    simp (config := { decide := true }) only [↓reduceIte, Option.bind_some, Option.bind_none, f_L_walk, y1, e0, q0, y2, e3, e0', y3, q3]
/-- one turn -/
theorem L_goes {R : GR} {F : GF} {h : GH} {n te rn : Nat} {kd ft : Nat → Nat} {rh : Nat → Int32} {μ : Mm} {c : Nat} (hc : c < 2 ^ 28) (h0 : ¬ h.n = 0) (hl : h.sp.length < 60) (hr : rn ≤ 8) (en : h.n = n) (et : h.te = te) (ek : ∀ i, i < n → h.kd i = kd i ∧ h.ft i = ft i) (H : XI R T F h K μ a) (hw : WF R T h K) (hG : AG n te rn kd ft rh μ a) (hW : AW h.q.1 h.q.2.2.1 μ a) : ∃ μ' h' d F', f_L_goes μ a (nI c) (a + 59) (a + 60) = some (nI d, μ') ∧ d ≤ 1 ∧ h' = h.wsp h'.sp ∧ h'.sp.length = h.sp.length + d ∧ XI R T F' h' K μ' a ∧ WF R T h' K ∧ AG n te rn kd ft rh μ' a ∧ AW h'.q.1 h'.q.2.2.1 μ' a := by
  have w := hw.2.2.1
  have hn6 := w.1
  have t1 := w.te_ge h0
  have t2 := w.te_lt
  have tn := w.now_lt h0
  have hfl := w.fl
  have e28 : (2 : Nat) ^ 28 = 268435456 := by decide
  have m4 : nI c - nI c / 4 * 4 = nI (c % 4) := pk_rem (d := 4) (by omega) (by decide) (by decide)
  have d8 : nI c / 8 = nI (c / 8) := pk_div (d := 8) (by omega) (by decide) (by decide)
  have e2 : aI μ (a + 60) 21 2 = some (nI h.q.2.2.1) := (hW.rd (k := 2) (by decide)).trans (congrArg some hW.2.2.2)
  by_cases z : c % 4 = 0
  · have c1 : nI (c % 4) = 0 := by rw [z]; rfl
    have m3 : nI (c / 8) - nI (c / 8) / 3 * 3 = nI (c / 8 % 3) := pk_rem (d := 3) (by omega) (by decide) (by decide)
    have hv : c / 8 % 3 < 3 := Nat.mod_lt _ (by decide)
    generalize c / 8 % 3 = v at m3 hv
    have q2 : qI μ (a + 60) 21 2 (nI v) = some (sI μ (a + 60) 2 (nI v)) := hW.wr (k := 2) (by decide) _
    have o : Ot μ (sI μ (a + 60) 2 (nI v)) a := (Ot.rf μ a).sI _ _
    have W1 : AW h.q.1 v (sI μ (a + 60) 2 (nI v)) a := hW.s2
    have H1 := H.ot o
    have G1 := hG.mv (o.1 (a + 59) (by omega))
    by_cases y : h.q.2.2.1 = v
    · obtain ⟨μ2, y2, H2, s2, -⟩ := P_floor_same hw hv h0 y H1
      have c2 : nI h.q.2.2.1 = nI v := by rw [y]
      refine ⟨μ2, h, 0, F, ?_, by decide, rfl, rfl, H2, hw, G1.mv (s2 _ (by omega) (by omega)), ?_⟩
      · simp (config := { decide := true }) only [↓reduceIte, Option.bind_some, Option.bind_none, f_L_goes, m4, c1, d8, m3, e2, q2, y2, c2]
        rfl
      · rw [y]; exact W1.mv (s2 _ (by omega) (by omega))
    · obtain ⟨hw1, μ2, y2, H2, s2, -⟩ := P_floor hw hv h0 y hl H1
      have c2 : ¬ nI h.q.2.2.1 = nI v := fun q => y ((nI_eq (by omega) (by omega)).mp q)
      have hq : (h.wsp (h.sp ++ [6 + v])).q = stp h.te h.rs h.kd h.ft h.q (6 + v) := wsp_q h (6 + v)
      refine ⟨μ2, h.wsp (h.sp ++ [6 + v]), 1, F, ?_, Nat.le_refl _, rfl, by show (h.sp ++ [6 + v]).length = _; rw [List.length_append]; rfl, H2, hw1, G1.mv (s2 _ (by omega) (by omega)), ?_⟩
      · simp (config := { decide := true }) only [↓reduceIte, Option.bind_some, Option.bind_none, f_L_goes, m4, c1, d8, m3, e2, q2, y2, c2]
        rfl
      · rw [hq]
        unfold stp
        rw [if_neg (by omega), Nat.add_sub_cancel_left]
        exact W1.mv (s2 _ (by omega) (by omega))
  · have c1 : ¬ nI (c % 4) = 0 := nI_ne0 (Nat.pos_of_ne_zero z) (by omega)
    have e0 : aI μ (a + 59) 21 0 = some (nI h.n) := by rw [en]; exact (hG.rd (k := 0) (by decide)).trans (congrArg some hG.2.2.1)
    have c2 : ¬ nI h.n = 0 := nI_ne0 (by omega) (by omega)
    have mn : nI (c / 8) - nI (c / 8) / nI h.n * nI h.n = nI (c / 8 % h.n) := pk_rem (by omega) (by omega) (by omega)
    have hi : c / 8 % h.n < h.n := Nat.mod_lt _ (by omega)
    generalize c / 8 % h.n = i at mn hi
    obtain ⟨w3, w4, w5⟩ := w.2.2.1 i hi
    obtain ⟨k1, k2⟩ := ek i (by rw [← en]; exact hi)
    obtain ⟨μ1, y1, W1, o1⟩ := L_walk hG hW (by omega) (by omega) (by omega) hr (by omega) (i := i) (by omega) (by rw [← k1]; exact w3) (by rw [← k2]; exact w4) (by rw [← k2]; exact w5) hfl
    have etr : trd kd ft h.q.2.2.1 i = h.tr i := by
      unfold GH.tr trd
      rw [k1, k2]
    rw [etr, ← et] at W1
    obtain ⟨hw1, μ2, y2, H2, s2, -⟩ := P_walk hw hi hl (H.ot o1)
    have hq : (h.wsp (h.sp ++ [i])).q = stp h.te h.rs h.kd h.ft h.q i := wsp_q h i
    have e1 : (stp h.te h.rs h.kd h.ft h.q i).1 = (h.q.1 + h.tr i) % h.te := by
      unfold stp
      rw [if_pos (by omega)]; rfl
    rw [e1] at y2
    have W2 := W1.mv (s2 _ (by omega) (by omega))
    have e6 : aI μ2 (a + 60) 21 0 = some (nI ((h.q.1 + h.tr i) % h.te)) := (W2.rd (k := 0) (by decide)).trans (congrArg some W2.2.2.1)
    refine ⟨μ2, h.wsp (h.sp ++ [i]), 1, F, ?_, Nat.le_refl _, rfl, by show (h.sp ++ [i]).length = _; rw [List.length_append]; rfl, H2, hw1, (hG.mv (o1.1 _ (by omega))).mv (s2 _ (by omega) (by omega)), ?_⟩
    · simp (config := { decide := true }) only [↓reduceIte, Option.bind_some, Option.bind_none, f_L_goes, m4, c1, e0, c2, d8, mn, y1, y2, e6]
      rfl
    · rw [hq, e1]
      have : (stp h.te h.rs h.kd h.ft h.q i).2.2.1 = h.q.2.2.1 := by unfold stp; rw [if_pos (by omega)]
      rw [this]
      exact W2
end GO
