/-! ===== the law's hall is written ===== -/
section HA
variable {n te rn : Nat} {kd ft ρ : Nat → Nat} {K : GK} {a : Nat}
/-- the fourth text, written as far as a place -/
def TI (n te rn : Nat) (kd ft ρ : Nat → Nat) (p : Nat) (T : GR) : Prop := T.1 3 = some 60 ∧ ∀ j, j < 60 → T.2 3 j = nI (if j < p then Ct n te rn kd ft ρ j else 32)
set_option maxRecDepth 100000 in
theorem b8 : ∀ v, v < 128 → (nI v).toInt8.toInt32 = nI v := by decide +kernel
theorem L_put {R T : GR} {F : GF} {h : GH} {μ : Mm} {p v : Nat} (hp : p < 60) (hv : Ct n te rn kd ft ρ p = v) (hv8 : v < 128) (hT : TI n te rn kd ft ρ p T) (H : XI R T F h K μ a) (hw : WF R T h K) : ∃ μ' T', f_L_put μ a (nI p) (nI v) = some (nI (p + 1), μ') ∧ XI R T' F h K μ' a ∧ WF R T' h K ∧ TI n te rn kd ft ρ (p + 1) T' ∧ ∀ b, a + 59 ≤ b → b < a + 61 → Sm μ μ' b := by
  obtain ⟨t1, t2⟩ := hT
  obtain ⟨μ1, y1, H1, s1, -⟩ := P_put hw (r := 3) (n := 60) (i := p) (by decide) t1 hp (nI v) H
  have e0 : T.2 3 p = 32 := by rw [t2 p hp, if_neg (Nat.lt_irrefl _)]; rfl
  rw [e0] at y1
  rw [b8 v hv8] at H1
  have y1 : f_X11_put μ a 3 (nI p) (nI v) = some (1032, μ1) := y1
  have c1 : ¬ nI p < 0 := nI_pos (by omega)
  refine ⟨μ1, setr T 3 (some 60) (upd (T.2 3) p (nI v)), ?_, H1, ⟨hw.1, hw.2.1.set (fun m hm => by cases hm; exact Nat.le_refl _), hw.2.2⟩, ⟨setr_1 _ _ _ _, fun j hj => ?_⟩, s1⟩
  · simp (config := { decide := true }) only [↓reduceIte, Option.bind_some, Option.bind_none, f_L_put, c1, y1, nI_1]
  · rw [setr_2]
    by_cases z : j = p
    · rw [z, pk_us, if_pos (Nat.lt_succ_self p), hv]
    · rw [pk_un z, t2 j hj]
      by_cases y : j < p
      · rw [if_pos y, if_pos (by omega)]
      · rw [if_neg y, if_neg (by omega)]
theorem ch_lt {k : Nat} (hk : k < 6) : ch k < 128 := by
  have tab : ∀ k, k < 6 → ch k < 128 := by decide
  exact tab k hk
theorem ch_if : ∀ k, k < 6 → ((if nI k = 0 then some (103 : Int32) else if nI k = (1 : Int32) then some (104 : Int32) else if nI k = (2 : Int32) then some (99 : Int32) else if nI k = (3 : Int32) then some (107 : Int32) else if nI k = (4 : Int32) then some (114 : Int32) else some (116 : Int32) : Option Int32) = some (nI (ch k))) := by decide +kernel
/-- what holds as the text is written -/
def HT (n te rn : Nat) (kd ft ρ : Nat → Nat) (R : GR) (F : GF) (h : GH) (K : GK) (p : Nat) (μ0 μ : Mm) (a : Nat) : Prop := ∃ T, XI R T F h K μ a ∧ WF R T h K ∧ TI n te rn kd ft ρ p T ∧ Gp n te n rn kd ft ρ μ a ∧ ∀ b, a + 59 ≤ b → b < a + 61 → Sm μ0 μ b
theorem Gp.mv {m : Nat} {μ μ' : Mm} (h : Gp n te m rn kd ft ρ μ a) (s : Sm μ μ' (a + 59)) : Gp n te m rn kd ft ρ μ' a := by
  obtain ⟨g1, g2, g3, g4, g5, g6, g7⟩ := h
  exact ⟨s.1.trans g1, s.2.1.trans g2, (s.2.2.1 _).trans g3, (s.2.2.1 _).trans g4, (s.2.2.1 _).trans g5, fun i hi => ⟨(s.2.2.1 _).trans (g6 i hi).1, (s.2.2.1 _).trans (g6 i hi).2⟩, fun k hk => (s.2.2.1 _).trans (g7 k hk)⟩
theorem HT.put {R : GR} {F : GF} {h : GH} {μ0 μ : Mm} {p v : Nat} (hH : HT n te rn kd ft ρ R F h K p μ0 μ a) (hp : p < 60) (hv : Ct n te rn kd ft ρ p = v) (hv8 : v < 128) : ∃ μ', f_L_put μ a (nI p) (nI v) = some (nI (p + 1), μ') ∧ HT n te rn kd ft ρ R F h K (p + 1) μ0 μ' a := by
  obtain ⟨T, H, hw, hT, hG, hs⟩ := hH
  obtain ⟨μ', T', y1, y2, y3, y4, y5⟩ := L_put hp hv hv8 hT H hw
  exact ⟨μ', y1, T', y2, y3, y4, hG.mv (y5 _ (by omega) (by omega)), fun b b1 b2 => (hs b b1 b2).tr (y5 b b1 b2)⟩
theorem HT.rd {R : GR} {F : GF} {h : GH} {μ0 μ : Mm} {p k : Nat} (hH : HT n te rn kd ft ρ R F h K p μ0 μ a) (hk : k < 24) : aI μ (a + 59) 21 (nI k) = some (mI μ (a + 59) k) := by
  obtain ⟨T, H, hw, hT, hG, hs⟩ := hH
  exact g_rd hG.1 hG.2.1 hk
theorem HT.g {R : GR} {F : GF} {h : GH} {μ0 μ : Mm} {p : Nat} (hH : HT n te rn kd ft ρ R F h K p μ0 μ a) : Gp n te n rn kd ft ρ μ a := by
  obtain ⟨T, H, hw, hT, hG, hs⟩ := hH
  exact hG
theorem ha_52 (hD : Gd n te n rn kd ft ρ) {R : GR} {F : GF} {h : GH} {μ0 : Mm} : ∀ (f x : Nat) (μ : Mm), x ≤ n → n < x + f → HT n te rn kd ft ρ R F h K (4 + 2 * x) μ0 μ a → ∃ μ', lp_L_hall_52 f a (a + 59) (nI (4 + 2 * x)) (nI x) μ = some (nI (4 + 2 * n), μ') ∧ HT n te rn kd ft ρ R F h K (4 + 2 * n) μ0 μ' a := by
  obtain ⟨d1, d2, d3, d4, d5, d6, d7, d8⟩ := hD
  intro f
  induction f with
  | zero => intro x μ q1 q2; omega
  | succ f ih =>
    intro x μ q1 q2 hH
    have g3 := hH.g.2.2.1
    have e0 : aI μ (a + 59) 21 0 = some (nI n) := (hH.rd (k := 0) (by decide)).trans (congrArg some g3)
    by_cases e : x = n
    · have e1 : nI n ≤ nI x := by rw [e]; exact Int32.le_refl _
      subst e
      refine ⟨μ, ?_, hH⟩
      simp (config := { decide := true }) only [↓reduceIte, Option.bind_some, Option.bind_none, lp_L_hall_52, e0, e1]
    · have e1 : ¬ nI n ≤ nI x := nI_ge (by omega) (by omega)
      obtain ⟨w1, w2, w3⟩ := d5 x (by omega)
      have i1 : (1 : Int32) + nI x = nI (1 + x) := nI_add 1 x
      have i7 : (7 : Int32) + nI x = nI (7 + x) := nI_add 7 x
      have e2 : aI μ (a + 59) 21 (nI (1 + x)) = some (nI (kd x)) := (hH.rd (k := 1 + x) (by omega)).trans (congrArg some (hH.g.2.2.2.2.2.1 x (by omega)).1)
      have e3 := ch_if (kd x) w1
      obtain ⟨μ1, y1, H1⟩ := hH.put (v := ch (kd x)) (by omega) (Ct_k (by omega)) (ch_lt w1)
      have e4 : aI μ1 (a + 59) 21 (nI (7 + x)) = some (nI (ft x)) := (H1.rd (k := 7 + x) (by omega)).trans (congrArg some (H1.g.2.2.2.2.2.1 x (by omega)).2)
      have e5 : (48 : Int32) + nI (ft x) = nI (48 + ft x) := nI_add 48 _
      obtain ⟨μ2, y2, H2⟩ := H1.put (v := 48 + ft x) (by omega) (Ct_f (by omega)) (by omega)
      rw [show 4 + 2 * x + 1 + 1 = 4 + 2 * (x + 1) by omega] at y2 H2
      obtain ⟨μ', z1, z2⟩ := ih (x + 1) μ2 (by omega) (by omega) H2
      refine ⟨μ', ?_, z2⟩
      generalize kd x = k at e2 e3 y1
      unfold lp_L_hall_52
      rw [e0, Option.bind_some, if_neg e1, i1, e2, Option.bind_some, e3, Option.bind_some, y1, Option.bind_some, i7, e4, Option.bind_some, e5, y2, Option.bind_some, nI_1, z1]
theorem ha_151 (hD : Gd n te n rn kd ft ρ) {R : GR} {F : GF} {h : GH} {μ0 : Mm} : ∀ (f y : Nat) (μ : Mm), y ≤ rn → rn < y + f → HT n te rn kd ft ρ R F h K (4 + 2 * n + 3 * y) μ0 μ a → ∃ μ', lp_L_hall_151 f a (a + 59) (nI (4 + 2 * n + 3 * y)) (nI y) μ = some (nI (4 + 2 * n + 3 * rn), μ') ∧ HT n te rn kd ft ρ R F h K (4 + 2 * n + 3 * rn) μ0 μ' a := by
  obtain ⟨d1, d2, d3, d4, d5, d6, d7, d8⟩ := hD
  intro f
  induction f with
  | zero => intro y μ q1 q2; omega
  | succ f ih =>
    intro y μ q1 q2 hH
    have g5 := hH.g.2.2.2.2.1
    have e0 : aI μ (a + 59) 21 14 = some (nI rn) := (hH.rd (k := 14) (by decide)).trans (congrArg some g5)
    by_cases e : y = rn
    · have e1 : nI rn ≤ nI y := by rw [e]; exact Int32.le_refl _
      subst e
      refine ⟨μ, ?_, hH⟩
      simp (config := { decide := true }) only [↓reduceIte, Option.bind_some, Option.bind_none, lp_L_hall_151, e0, e1]
    · have e1 : ¬ nI rn ≤ nI y := nI_ge (by omega) (by omega)
      obtain ⟨w1, w2⟩ := d7 y (by omega)
      obtain ⟨μ1, y1, H1⟩ := hH.put (v := 101) (by omega) (Ct_e (by omega)) (by decide)
      have y1 : f_L_put μ a (nI (4 + 2 * n + 3 * y)) 101 = some (nI (4 + 2 * n + 3 * y + 1), μ1) := y1
      have i1 : (15 : Int32) + nI y = nI (15 + y) := nI_add 15 y
      have e2 : aI μ1 (a + 59) 21 (nI (15 + y)) = some (nI (ρ y)) := (H1.rd (k := 15 + y) (by omega)).trans (congrArg some (H1.g.2.2.2.2.2.2 y (by omega)))
      have d10 : nI (ρ y) / 10 = nI (ρ y / 10) := pk_div (d := 10) (by omega) (by decide) (by decide)
      have m10 : nI (ρ y) - nI (ρ y / 10) * 10 = nI (ρ y % 10) := by
        have := pk_rem (a := ρ y) (d := 10) (by omega) (by decide) (by decide)
        have this : nI (ρ y) - nI (ρ y) / 10 * 10 = nI (ρ y % 10) := this
        rw [d10] at this
        exact this
      have e5 : (48 : Int32) + nI (ρ y / 10) = nI (48 + ρ y / 10) := nI_add 48 _
      have e6 : (48 : Int32) + nI (ρ y % 10) = nI (48 + ρ y % 10) := nI_add 48 _
      obtain ⟨μ2, y2, H2⟩ := H1.put (v := 48 + ρ y / 10) (by omega) (Ct_t (by omega)) (by omega)
      have e3 : aI μ2 (a + 59) 21 (nI (15 + y)) = some (nI (ρ y)) := (H2.rd (k := 15 + y) (by omega)).trans (congrArg some (H2.g.2.2.2.2.2.2 y (by omega)))
      obtain ⟨μ3, y3, H3⟩ := H2.put (v := 48 + ρ y % 10) (by omega) (Ct_u (by omega)) (by omega)
      rw [show 4 + 2 * n + 3 * y + 1 + 1 + 1 = 4 + 2 * n + 3 * (y + 1) by omega] at y3 H3
      obtain ⟨μ', z1, z2⟩ := ih (y + 1) μ3 (by omega) (by omega) H3
      refine ⟨μ', ?_, z2⟩
      simp (config := { decide := true }) only [↓reduceIte, Option.bind_some, Option.bind_none, lp_L_hall_151, e0, e1, y1, i1, e2, d10, e5, y2, e3, m10, e6, y3, nI_1, z1]
theorem L_hall (hD : Gd n te n rn kd ft ρ) {R T : GR} {F : GF} {h : GH} {μ : Mm} (hG : Gp n te n rn kd ft ρ μ a) (H : XI R T F h K μ a) (hw : WF R T h K) : ∃ μ' T' P, f_L_hall μ a (a + 59) = some (1, μ') ∧ XI R T' F (PS.h P) (fun _ => none) μ' a ∧ WF R T' (PS.h P) (fun _ => none) ∧ P.n = n ∧ P.te = te ∧ (∀ i, i < n → P.kd i = kd i ∧ P.ft i = ft i) ∧ Gp n te n rn kd ft ρ μ' a ∧ ∀ b, a + 59 ≤ b → b < a + 61 → Sm μ μ' b := by
  have hD' := hD
  obtain ⟨d1, d2, d3, d4, d5, d6, d7, d8⟩ := hD'
  obtain ⟨μ1, y1, H1, s1, -⟩ := P_text hw (r := 3) (n := 60) (by decide) (Nat.le_refl _) H
  have y1 : f_X11_text μ a 3 60 = some (60, μ1) := y1
  have h1 : HT n te rn kd ft ρ R F h K 1 μ μ1 a := ⟨_, H1, ⟨hw.1, hw.2.1.set (fun m hm => by cases hm; exact Nat.le_refl _), hw.2.2⟩, ⟨setr_1 _ _ _ _, fun j hj => by
    rw [setr_2]
    by_cases z : j < 1
    · rw [if_pos z, show j = 0 by omega, Ct_0]; rfl
    · rw [if_neg z]; rfl⟩, hG.mv (s1 _ (by omega) (by omega)), s1⟩
  obtain ⟨μ2, y2, h2⟩ := h1.put (v := 100) (by decide) Ct_1 (by decide)
  have y2 : f_L_put μ1 a 1 100 = some (nI 2, μ2) := y2
  have e13 : aI μ2 (a + 59) 21 13 = some (nI te) := (h2.rd (k := 13) (by decide)).trans (congrArg some h2.g.2.2.2.1)
  have d10 : nI te / 10 = nI (te / 10) := pk_div (d := 10) (by omega) (by decide) (by decide)
  have m10 : nI te - nI (te / 10) * 10 = nI (te % 10) := by
    have := pk_rem (a := te) (d := 10) (by omega) (by decide) (by decide)
    have this : nI te - nI te / 10 * 10 = nI (te % 10) := this
    rw [d10] at this
    exact this
  have e5 : (48 : Int32) + nI (te / 10) = nI (48 + te / 10) := nI_add 48 _
  have e6 : (48 : Int32) + nI (te % 10) = nI (48 + te % 10) := nI_add 48 _
  obtain ⟨μ3, y3, h3⟩ := h2.put (v := 48 + te / 10) (by decide) Ct_2 (by omega)
  have y3 : f_L_put μ2 a (nI 2) (nI (48 + te / 10)) = some (nI 3, μ3) := y3
  have e13' : aI μ3 (a + 59) 21 13 = some (nI te) := (h3.rd (k := 13) (by decide)).trans (congrArg some h3.g.2.2.2.1)
  obtain ⟨μ4, y4, h4⟩ := h3.put (v := 48 + te % 10) (by decide) Ct_3 (by omega)
  have y4 : f_L_put μ3 a (nI 3) (nI (48 + te % 10)) = some (nI 4, μ4) := y4
  obtain ⟨μ5, y5, h5⟩ := ha_52 hD BIG 0 μ4 (Nat.zero_le _) (by unfold BIG; omega) h4
  have y5 : lp_L_hall_52 BIG a (a + 59) (nI 4) 0 μ4 = some (nI (4 + 2 * n), μ5) := y5
  obtain ⟨μ6, y6, h6⟩ := ha_151 hD BIG 0 μ5 (Nat.zero_le _) (by unfold BIG; omega) h5
  have y6 : lp_L_hall_151 BIG a (a + 59) (nI (4 + 2 * n)) 0 μ5 = some (nI (4 + 2 * n + 3 * rn), μ6) := y6
  have c1 : ¬ nI (4 + 2 * n + 3 * rn) ≤ 0 := nI_nle (by omega) (by omega)
  obtain ⟨T6, H6, hw6, hT6, hG6, s6⟩ := h6
  obtain ⟨P, p1, p2, p3, p4⟩ := par_law (G := T6.2 3) (n := n) (te := te) (rn := rn) (kd := kd) (ft := ft) (ρ := ρ) (fun j hj => by
    rw [hT6.2 j hj]
    by_cases z : j < 4 + 2 * n + 3 * rn
    · rw [if_pos z]
    · rw [if_neg z, Ct_end (by omega)]) hD
  obtain ⟨μ7, y7, H7, s7, -⟩ := P_fault hw6 (t := 3) (m := 60) (by decide) hT6.1 p1 H6
  have y7 : f_X11_fault μ6 a 3 = some (-9, μ7) := y7
  obtain ⟨hw8, μ8, y8, H8, s8, -⟩ := P_hall hw6 (t := 3) (m := 60) (by decide) hT6.1 p1 H7
  have y8 : f_X11_hall μ7 a 3 = some (nI P.n, μ8) := y8
  rw [p2] at y8
  have hG8 := (hG6.mv (s7 _ (by omega) (by omega))).mv (s8 _ (by omega) (by omega))
  have e0 : aI μ8 (a + 59) 21 0 = some (nI n) := (g_rd hG8.1 hG8.2.1 (k := 0) (by decide)).trans (congrArg some hG8.2.2.1)
  refine ⟨μ8, T6, P, ?_, H8, hw8, p2, p3, p4, hG8, fun b b1 b2 => ((s6 b b1 b2).tr (s7 b b1 b2)).tr (s8 b b1 b2)⟩
  simp (config := { decide := true }) only [↓reduceIte, Option.bind_some, Option.bind_none, f_L_hall, y1, y2, e13, d10, e5, y3, e13', m10, e6, y4, y5, y6, c1, y7, y8, e0]
end HA
/-! ===== THE LAW ===== -/
theorem itr_cong {G G' : Nat → Int64 → Int64} : ∀ n, (∀ k, k < n → G k = G' k) → ∀ x, itr G n x = itr G' n x := by
  intro n
  induction n with
  | zero => intro _ x; rfl
  | succ n ih => intro h x; rw [itr_s, itr_s, ih (fun k hk => h k (by omega)), h n (Nat.lt_succ_self n)]
set_option maxRecDepth 100000 in
theorem dg_same {R R' T : GR} {h : GH} {K : GK} (h1 : ∀ r, r < 6 → R.1 r = none) (h2 : ∀ r, r < 6 → R'.1 r = none) : dg5 R T h K = dg5 R' T h K := by
  have e8 : cntP (isS R.1) 6 = cntP (isS R'.1) 6 := cntP_cong 6 fun r hr => by unfold isS; rw [h1 r hr, h2 r hr]
  have ec : dgc R T h K = dgc R' T h K := by
    funext j
    unfold dgc cv
    rw [e8]
  have e0 : dg0 R T h K = dg0 R' T h K := by unfold dg0; rw [ec]
  have e1 : dg1 R T h K = dg1 R' T h K := by unfold dg1; rw [e0]
  have e2 : dg2 R T h K = dg2 R' T h K := by unfold dg2; rw [e1]
  have e3 : dg3 R T h K = dg3 R' T h K := by unfold dg3; rw [e2]
  have e4 : dg4 R T h K = dg4 R' T h K := by
    unfold dg4
    rw [e3]
    refine itr_cong 6 (fun k hk => ?_) _
    funext x
    unfold dgr mxr
    have eo : osz none = 0 := rfl
    rw [h1 k hk, h2 k hk, eo, itr_0, itr_0]
  unfold dg5
  rw [e4]
section LW
variable {b L : Nat} {xs : Nat → Int32} {T : GR} {K : GK} {a : Nat}
theorem lw_63 (hL : L ≤ 260) {n te rn : Nat} {kd ft : Nat → Nat} {rh : Nat → Int32} {R : GR} {p4 : Int64} (hr : rn ≤ 8) {h0 : GH} (hn0 : ¬ h0.n = 0) (en : h0.n = n) (et : h0.te = te) (ek : ∀ i, i < n → h0.kd i = kd i ∧ h0.ft i = ft i) : ∀ (f k : Nat) (μ : Mm) (h : GH) (F : GF), k ≤ 8 → 8 < k + f → h = h0.wsp h.sp → h.sp.length ≤ k → XI R T F h K μ a → WF R T h K → AG n te rn kd ft rh μ a → AW h.q.1 h.q.2.2.1 μ a → ∃ μ' h' F', lp_L_law_63 (b, L, xs) f b a (a + 59) (a + 60) p4 (nI n) (nI h.sp.length) (nI k) μ = some (1, nI h'.sp.length, μ') ∧ h' = h0.wsp h'.sp ∧ h'.sp.length ≤ 8 ∧ XI R T F' h' K μ' a ∧ WF R T h' K := by
  intro f
  induction f with
  | zero => intro k μ h F q1 q2; omega
  | succ f ih =>
    intro k μ h F q1 q2 hh hs H hw hG hW
    by_cases e : k = 8
    · subst e
      have e1 : (8 : Int32) ≤ nI 8 := by decide
      refine ⟨μ, h, F, ?_, hh, hs, H, hw⟩
      simp (config := { decide := true }) only [↓reduceIte, Option.bind_some, Option.bind_none, lp_L_law_63, e1]
    · have e1 : ¬ (8 : Int32) ≤ nI k := (show ¬ nI 8 ≤ nI k from nI_ge (by omega) (by decide))
      have gn : h.n = h0.n := by rw [hh]; rfl
      have gt' : h.te = h0.te := by rw [hh]; rfl
      have gk : h.kd = h0.kd := by rw [hh]; rfl
      have gf : h.ft = h0.ft := by rw [hh]; rfl
      obtain ⟨c, hc, ec⟩ := L_cell (b := b) (xs := xs) hL (show 30 + k ≤ 60 by omega)
      have ec' := ec μ
      have e2 : (30 : Int32) + nI k = nI (30 + k) := nI_add 30 k
      obtain ⟨μ1, h1, d, F1, y1, y2, y3, y4, H1, hw1, hG1, hW1⟩ := L_goes hc (by rw [gn]; exact hn0) (by omega) hr (by rw [gn]; exact en) (by rw [gt']; exact et) (fun i hi => by rw [gk, gf]; exact ek i hi) H hw hG hW
      have c1 : ¬ nI d < 0 := nI_pos (by omega)
      have e4 : f_X11_count μ1 a 4 = some (nI h1.sp.length) := P_count H1 hw1 (j := 4) (by decide)
      have e5 : nI h.sp.length + nI d = nI h1.sp.length := by rw [nI_add, y4]
      have gn1 : h1.n = n := by rw [y3]; show h.n = n; rw [gn]; exact en
      obtain ⟨μ2, F2, y5, H2, s2⟩ := L_paced (by rw [gn1, ← en]; exact hn0) H1 hw1
      rw [gn1] at y5
      obtain ⟨μ', h', F', z1, z2⟩ := ih (k + 1) μ2 h1 F2 (by omega) (by omega) (by rw [y3, hh]; rfl) (by omega) H2 hw1 (hG1.mv (s2 _ (by omega) (by omega))) (hW1.mv (s2 _ (by omega) (by omega)))
      refine ⟨μ', h', F', ?_, z2⟩
      simp (config := { decide := true }) only [↓reduceIte, Option.bind_some, Option.bind_none, lp_L_law_63, e1, e2, ec', y1, c1, e4, e5, y5, nI_1, z1]
end LW
