section PX2
variable {R T : GR} {F : GF} {h : GH} {K : GK} {μ : Mm} {a : Nat}
theorem P_due (w : WH h) (H : XI R T F h K μ a) : XO R T (tel F (nI (b1 (isr h.rs h.q.1)))) h K μ a (nI h.q.2.2.2.1) (f_X11_due μ a) := by
  refine XO.tell H ?_
  have e := x_rentNow H w
  have Ht : ∀ v, XI R T (tel F v) h K (sI μ a 11 v) a := fun v => H.tell
  cases hb : isr h.rs h.q.1 with
  | true =>
    rw [hb] at e
    have e' : f_X3_hasRentAt μ (a + 3) (nI h.q.1) = some 1 := e
    simp (config := { decide := true }) only [↓reduceIte, Option.bind_some, Option.bind_none, f_X11_due, H.1.t0, gP_of H.1.t0 H.1.p0_0, gP_of H.1.t0 H.1.p0_1, gP_of H.1.t0 H.1.p0_2, gP_of H.1.t0 H.1.p0_3, gP_of H.1.t0 H.1.p0_4, gP_of H.1.t0 H.1.p0_5, gP_of H.1.t0 H.1.p0_6, gP_of H.1.t0 H.1.p0_7, gP_of H.1.t0 H.1.p0_8, gP_of H.1.t0 H.1.p0_9, x_hev H, e', pI_of H.1.t0, gP_of (Ht 1).1.t0 (Ht 1).1.p0_2, x_hev (Ht 1)] <;> rfl
  | false =>
    rw [hb] at e
    have e' : f_X3_hasRentAt μ (a + 3) (nI h.q.1) = some 0 := e
    simp (config := { decide := true }) only [↓reduceIte, Option.bind_some, Option.bind_none, f_X11_due, H.1.t0, gP_of H.1.t0 H.1.p0_0, gP_of H.1.t0 H.1.p0_1, gP_of H.1.t0 H.1.p0_2, gP_of H.1.t0 H.1.p0_3, gP_of H.1.t0 H.1.p0_4, gP_of H.1.t0 H.1.p0_5, gP_of H.1.t0 H.1.p0_6, gP_of H.1.t0 H.1.p0_7, gP_of H.1.t0 H.1.p0_8, gP_of H.1.t0 H.1.p0_9, x_hev H, e', pI_of H.1.t0, gP_of (Ht 0).1.t0 (Ht 0).1.p0_2, x_hev (Ht 0)] <;> rfl
theorem P_hour (w : WH h) (h0 : ¬ h.n = 0) (H : XI R T F h K μ a) : XO R T (tel F (nI h.q.2.1)) h K μ a (nI (12 * h.q.1 / h.te)) (f_X11_hour μ a) := by
  have h2 := w.1
  have t1 := w.te_ge h0
  have t2 := w.te_lt
  have t3 := w.now_lt h0
  have m12 : (12 : Int32) * nI h.q.1 = nI (12 * h.q.1) := pk_mul 12 _
  refine XO.tell H ?_
  have Ht : XI R T (tel F (nI h.q.2.1)) h K (sI μ a 11 (nI h.q.2.1)) a := H.tell
  simp (config := { decide := true }) only [↓reduceIte, Option.bind_some, Option.bind_none, f_X11_hour, H.1.t0, gP_of H.1.t0 H.1.p0_0, gP_of H.1.t0 H.1.p0_1, gP_of H.1.t0 H.1.p0_2, gP_of H.1.t0 H.1.p0_3, gP_of H.1.t0 H.1.p0_4, gP_of H.1.t0 H.1.p0_5, gP_of H.1.t0 H.1.p0_6, gP_of H.1.t0 H.1.p0_7, gP_of H.1.t0 H.1.p0_8, gP_of H.1.t0 H.1.p0_9, x_full H w h0, x_hev H, pI_of H.1.t0, gP_of Ht.1.t0 Ht.1.p0_2, x_hev Ht, m12, x_byTeeth Ht w h0 (show 12 * h.q.1 < 2 ^ 31 by omega)] <;> rfl
theorem P_noon (w : WH h) {g : Nat} (hg : g < h.n) (H : XI R T F h K μ a) : f_X11_noon μ a (nI g) = some (ofn (fst (fun k => decide ((h.q.1 + k * h.tr g) % h.te = 0)) h.te 1)) := by
  have h0 : ¬ h.n = 0 := by omega
  simp (config := { decide := true }) only [↓reduceIte, Option.bind_some, Option.bind_none, f_X11_noon, H.1.t0, gP_of H.1.t0 H.1.p0_0, gP_of H.1.t0 H.1.p0_1, gP_of H.1.t0 H.1.p0_2, gP_of H.1.t0 H.1.p0_3, gP_of H.1.t0 H.1.p0_4, gP_of H.1.t0 H.1.p0_5, gP_of H.1.t0 H.1.p0_6, gP_of H.1.t0 H.1.p0_7, gP_of H.1.t0 H.1.p0_8, gP_of H.1.t0 H.1.p0_9, x_hasG_ok H w hg, x_tread H w hg, x_noon H w h0 (w.tr_le hg)]
theorem P_rent_no (w : WH h) {g : Nat} (hg : g < h.n) (hf : fst (fun k => isr h.rs ((h.q.1 + k * h.tr g) % h.te)) h.te 1 = none) (H : XI R T F h K μ a) : XO R T F h K μ a (-9) (f_X11_rent μ a (nI g)) := by
  have h0 : ¬ h.n = 0 := by omega
  have hx : lp_X11_rent_24 BIG a (nI (h.tr g)) 1 μ = some (ofo (fst (fun k => isr h.rs ((h.q.1 + k * h.tr g) % h.te)) h.te 1)) := x_rent_l H w h0 (w.tr_le hg) h.te BIG 1 (by omega) (by have := w.te_lt; unfold BIG; omega)
  refine XO.same H ?_
  simp (config := { decide := true }) only [↓reduceIte, Option.bind_some, Option.bind_none, f_X11_rent, H.1.t0, gP_of H.1.t0 H.1.p0_0, gP_of H.1.t0 H.1.p0_1, gP_of H.1.t0 H.1.p0_2, gP_of H.1.t0 H.1.p0_3, gP_of H.1.t0 H.1.p0_4, gP_of H.1.t0 H.1.p0_5, gP_of H.1.t0 H.1.p0_6, gP_of H.1.t0 H.1.p0_7, gP_of H.1.t0 H.1.p0_8, gP_of H.1.t0 H.1.p0_9, x_hasG_ok H w hg, x_tread H w hg, hx, hf, ofo]
theorem P_rent (w : WH h) {g k : Nat} (hg : g < h.n) (hf : fst (fun k => isr h.rs ((h.q.1 + k * h.tr g) % h.te)) h.te 1 = some k) (H : XI R T F h K μ a) : XO R T (tel F (nI k * nI (h.tr g))) h K μ a (nI k) (f_X11_rent μ a (nI g)) := by
  have h0 : ¬ h.n = 0 := by omega
  have hx : lp_X11_rent_24 BIG a (nI (h.tr g)) 1 μ = some (ofo (fst (fun k => isr h.rs ((h.q.1 + k * h.tr g) % h.te)) h.te 1)) := x_rent_l H w h0 (w.tr_le hg) h.te BIG 1 (by omega) (by have := w.te_lt; unfold BIG; omega)
  refine XO.tell H ?_
  simp (config := { decide := true }) only [↓reduceIte, Option.bind_some, Option.bind_none, f_X11_rent, H.1.t0, gP_of H.1.t0 H.1.p0_0, gP_of H.1.t0 H.1.p0_1, gP_of H.1.t0 H.1.p0_2, gP_of H.1.t0 H.1.p0_3, gP_of H.1.t0 H.1.p0_4, gP_of H.1.t0 H.1.p0_5, gP_of H.1.t0 H.1.p0_6, gP_of H.1.t0 H.1.p0_7, gP_of H.1.t0 H.1.p0_8, gP_of H.1.t0 H.1.p0_9, x_hasG_ok H w hg, x_tread H w hg, hx, hf, ofo, pI_of H.1.t0]
theorem P_pace_no (h0 : wks h.sp = 0) (H : XI R T F h K μ a) : XO R T (fnd F 4) h K μ a (-3) (f_X11_pace μ a) := by
  refine XO.find H (by decide) ?_
  simp (config := { decide := true }) only [↓reduceIte, Option.bind_some, Option.bind_none, f_X11_pace, H.1.t0, gP_of H.1.t0 H.1.p0_0, gP_of H.1.t0 H.1.p0_1, gP_of H.1.t0 H.1.p0_2, gP_of H.1.t0 H.1.p0_3, gP_of H.1.t0 H.1.p0_4, gP_of H.1.t0 H.1.p0_5, gP_of H.1.t0 H.1.p0_6, gP_of H.1.t0 H.1.p0_7, gP_of H.1.t0 H.1.p0_8, gP_of H.1.t0 H.1.p0_9, x_hev H, h0, show nI 0 = 0 from rfl, xf4 H.1]
theorem P_pace (w : WH h) (h0 : ¬ wks h.sp = 0) (H : XI R T F h K μ a) : XO R T (rat F (lN (h.q.2.2.2.2.1 / Nat.gcd h.q.2.2.2.2.1 (wks h.sp))) (lN (wks h.sp / Nat.gcd h.q.2.2.2.2.1 (wks h.sp)))) h K μ a 1 (f_X11_pace μ a) := by
  have hl := w.2.2.2.1
  have hwk := wks_le h.sp
  have hwt := w.bq.2.2.2.2.1
  have e0 : ¬ nI (wks h.sp) = 0 := nI_ne0 (by omega) (by omega)
  have l1 : (nI h.q.2.2.2.2.1).toInt64 = lN h.q.2.2.2.2.1 := nI_l (by omega)
  have l2 : (nI (wks h.sp)).toInt64 = lN (wks h.sp) := nI_l (by omega)
  refine ⟨xrat μ a h.q.2.2.2.2.1 (wks h.sp), ?_, H.rat, fun b _ _ => ((Sm.rf μ b).sL (by omega)).sL (by omega), Nat.le_refl _⟩
  simp (config := { decide := true }) only [↓reduceIte, Option.bind_some, Option.bind_none, f_X11_pace, H.1.t0, gP_of H.1.t0 H.1.p0_0, gP_of H.1.t0 H.1.p0_1, gP_of H.1.t0 H.1.p0_2, gP_of H.1.t0 H.1.p0_3, gP_of H.1.t0 H.1.p0_4, gP_of H.1.t0 H.1.p0_5, gP_of H.1.t0 H.1.p0_6, gP_of H.1.t0 H.1.p0_7, gP_of H.1.t0 H.1.p0_8, gP_of H.1.t0 H.1.p0_9, x_hev H, e0, l1, l2, x_rat H.1 (show h.q.2.2.2.2.1 < 2 ^ 40 by omega) (show wks h.sp < 2 ^ 40 by omega) (show 0 < wks h.sp by omega)]
theorem P_odds (w : WH h) {t m : Nat} (ht : t < h.te) (hm : m ≤ 10) (H : XI R T F h K μ a) : XO R T (rat F (lN (Wo h.te h.n h.tr m (wy h.te t h.q.1) / Nat.gcd (Wo h.te h.n h.tr m (wy h.te t h.q.1)) (h.n ^ m))) (lN (h.n ^ m / Nat.gcd (Wo h.te h.n h.tr m (wy h.te t h.q.1)) (h.n ^ m)))) h K μ a 1 (f_X11_odds μ a (nI t) (nI m)) := by
  have hn6 := w.1
  have t2 := w.te_lt
  have h0 := te_pos w ht
  have tn := w.now_lt h0
  have hwl : wy h.te t h.q.1 < h.te := wy_lt (by omega)
  have hpw : h.n ^ m ≤ 6 ^ 10 := Nat.le_trans (Nat.pow_le_pow_left hn6 m) (Nat.pow_le_pow_right (by decide) (by omega))
  have h610 : (6 : Nat) ^ 10 = 60466176 := by decide
  have hpp : 0 < h.n ^ m := Nat.pow_pos (by omega)
  have hW := Wo_le h.te h.n h.tr m (wy h.te t h.q.1)
  obtain ⟨μ1, y1, y2, y3⟩ := x_crows H w h0 (show m ≤ 10 by omega)
  have H1 := H.scr y2
  have e1 : ¬ nI m < 0 := nI_pos (by omega)
  have e2 : nI m ≤ 10 := (show nI m ≤ nI 10 from nI_le (by omega) (by decide))
  have el : lp_X11_odds_40 BIG a (nI t) (nI m) 1 0 μ1 = some (lN (h.n ^ m)) := x_od40 H1 w (show m ≤ 10 by omega) BIG 0 (by omega) (by unfold BIG; omega)
  have ea : aL μ1 (a + 30) 22 (nI (wy h.te t h.q.1)) = some (lN (Wo h.te h.n h.tr m (wy h.te t h.q.1))) := by rw [aL_of H1.1.t30 (by rw [H1.1.n30]; omega) (by omega), y3 _ hwl]
  have er := x_rat H1.1 (u := Wo h.te h.n h.tr m (wy h.te t h.q.1)) (l := h.n ^ m) (by omega) (by omega) hpp
  refine XO.scr y2 ⟨xrat μ1 a _ _, ?_, H1.rat, fun b _ _ => ((Sm.rf μ1 b).sL (by omega)).sL (by omega), Nat.le_refl _⟩
  simp (config := { decide := true }) only [↓reduceIte, Option.bind_some, Option.bind_none, f_X11_odds, H.1.t0, gP_of H.1.t0 H.1.p0_0, gP_of H.1.t0 H.1.p0_1, gP_of H.1.t0 H.1.p0_2, gP_of H.1.t0 H.1.p0_3, gP_of H.1.t0 H.1.p0_4, gP_of H.1.t0 H.1.p0_5, gP_of H.1.t0 H.1.p0_6, gP_of H.1.t0 H.1.p0_7, gP_of H.1.t0 H.1.p0_8, gP_of H.1.t0 H.1.p0_9, x_hasT_ok H w ht, e1, e2, y1, el, gP_of H1.1.t0 H1.1.p0_8, gP_of H1.1.t0 H1.1.p0_2, f_X10_rowsOf, H1.1.t28, gP_of H1.1.t28 H1.1.p28_1, x_wayTo H1 w h0 (show t < 2 ^ 30 by omega), ea, er]
theorem P_never (w : WH h) (h0 : ¬ h.n = 0) (H : XI R T F h K μ a) : XO R T (tel F (ofn (fst (fun x => !rch h none x) h.te 0))) h K μ a (nI (cntP (fun x => !rch h none x) h.te)) (f_X11_never μ a) := by
  have hn6 := w.1
  have t2 := w.te_lt
  have t1 := w.te_ge h0
  have eT : nI h.te - 1 = dn h.te := by
    obtain ⟨u, hu⟩ : ∃ u, h.te = u + 1 := ⟨h.te - 1, by omega⟩
    rw [hu]; exact pred1 (Nat.succ_pos u)
  refine XO.tell H ?_
  have es : f_X3_stride μ (a + 3) (-1) = some (nI (std h none)) := x_stride H w h0 (o := none) (fun x q => by cases q)
  have Ht : XI R T (tel F (-9)) h K (sI μ a 11 (-9)) a := H.tell
  have el := x_nev_l H w h0 h.te BIG (Nat.le_refl _) (by unfold BIG; omega)
  rw [Nat.sub_self] at el
  have el' : lp_X11_never_40 BIG a (nI (std h none)) 0 (dn h.te) (sI μ a 11 (-9)) = _ := el
  simp (config := { decide := true }) only [↓reduceIte, Option.bind_some, Option.bind_none, f_X11_never, H.1.t0, gP_of H.1.t0 H.1.p0_0, gP_of H.1.t0 H.1.p0_1, gP_of H.1.t0 H.1.p0_2, gP_of H.1.t0 H.1.p0_3, gP_of H.1.t0 H.1.p0_4, gP_of H.1.t0 H.1.p0_5, gP_of H.1.t0 H.1.p0_6, gP_of H.1.t0 H.1.p0_7, gP_of H.1.t0 H.1.p0_8, gP_of H.1.t0 H.1.p0_9, x_full H w h0, es, pI_of H.1.t0, gP_of Ht.1.t0 Ht.1.p0_2, x_hev Ht, eT, el']
theorem P_feet (w : WH h) {p : Nat} (hp : p < h.te) {D : Nat → Nat} (hD : Sup h.te h.n h.tr (wgt h true) D) (hF : Fix h.te h.n h.tr (wgt h true) D) (H : XI R T F h K μ a) : XO R T F h K μ a (cto (D (wy h.te p h.q.1))) (f_X11_feet μ a (nI p)) := by
  have hn6 := w.1
  have t2 := w.te_lt
  have h0 := te_pos w hp
  have t1 := w.te_ge h0
  have hl0 : wy h.te p h.q.1 < h.te := wy_lt (by omega)
  obtain ⟨μ1, y1, y2, y3⟩ := x_costs (fl := true) H w h0 hD hF
  have y1' : f_X10_findCosts μ (a + 28) (a + 3) 1 = some μ1 := y1
  have H1 := H.scr y2
  refine XO.scr y2 (XO.same H1 ?_)
  simp (config := { decide := true }) only [↓reduceIte, Option.bind_some, Option.bind_none, f_X11_feet, H.1.t0, gP_of H.1.t0 H.1.p0_0, gP_of H.1.t0 H.1.p0_1, gP_of H.1.t0 H.1.p0_2, gP_of H.1.t0 H.1.p0_3, gP_of H.1.t0 H.1.p0_4, gP_of H.1.t0 H.1.p0_5, gP_of H.1.t0 H.1.p0_6, gP_of H.1.t0 H.1.p0_7, gP_of H.1.t0 H.1.p0_8, gP_of H.1.t0 H.1.p0_9, x_hasT_ok H w hp, y1', gP_of H1.1.t0 H1.1.p0_8, gP_of H1.1.t0 H1.1.p0_2, x_wayTo H1 w h0 (show p < 2 ^ 30 by omega), x_costOf H1 w hD y3 hl0]
theorem P_fewest (w : WH h) {p : Nat} (hp : p < h.te) {D : Nat → Nat} (hD : Sup h.te h.n h.tr (wgt h false) D) (hF : Fix h.te h.n h.tr (wgt h false) D) (z : D (wy h.te p h.q.1) < FARn) (H : XI R T F h K μ a) : XO R T (tel F (ofn (fst (fwk h D p) h.n 0))) h K μ a (nI (D (wy h.te p h.q.1))) (f_X11_fewest μ a (nI p)) := by
  have hn6 := w.1
  have t2 := w.te_lt
  have hFA : FARn = 1000000 := rfl
  have h0 := te_pos w hp
  have t1 := w.te_ge h0
  have hl0 : wy h.te p h.q.1 < h.te := wy_lt (by omega)
  have e9 : ¬ nI (D (wy h.te p h.q.1)) = -9 := fun q => by
    have := nI_pos (n := D (wy h.te p h.q.1)) (by omega)
    rw [q] at this
    exact this (by decide)
  obtain ⟨μ1, y1, y2, y3⟩ := x_costs (fl := false) H w h0 hD hF
  have y1' : f_X10_findCosts μ (a + 28) (a + 3) 0 = some μ1 := y1
  have H1 := H.scr y2
  have ec := x_costOf H1 w hD y3 hl0
  unfold cto at ec
  rw [if_pos z] at ec
  refine XO.scr y2 (XO.tell H1 ?_)
  simp (config := { decide := true }) only [↓reduceIte, Option.bind_some, Option.bind_none, f_X11_fewest, H.1.t0, gP_of H.1.t0 H.1.p0_0, gP_of H.1.t0 H.1.p0_1, gP_of H.1.t0 H.1.p0_2, gP_of H.1.t0 H.1.p0_3, gP_of H.1.t0 H.1.p0_4, gP_of H.1.t0 H.1.p0_5, gP_of H.1.t0 H.1.p0_6, gP_of H.1.t0 H.1.p0_7, gP_of H.1.t0 H.1.p0_8, gP_of H.1.t0 H.1.p0_9, x_hasT_ok H w hp, x_wayTo H w h0 (show p < 2 ^ 30 by omega), y1', gP_of H1.1.t0 H1.1.p0_8, gP_of H1.1.t0 H1.1.p0_2, ec, e9, x_fw H1 w h0 hD y3 hp, pI_of H1.1.t0]
theorem P_fewest_no (w : WH h) {p : Nat} (hp : p < h.te) {D : Nat → Nat} (hD : Sup h.te h.n h.tr (wgt h false) D) (hF : Fix h.te h.n h.tr (wgt h false) D) (z : ¬ D (wy h.te p h.q.1) < FARn) (H : XI R T F h K μ a) : XO R T F h K μ a (-9) (f_X11_fewest μ a (nI p)) := by
  have hn6 := w.1
  have t2 := w.te_lt
  have h0 := te_pos w hp
  have t1 := w.te_ge h0
  have hl0 : wy h.te p h.q.1 < h.te := wy_lt (by omega)
  obtain ⟨μ1, y1, y2, y3⟩ := x_costs (fl := false) H w h0 hD hF
  have y1' : f_X10_findCosts μ (a + 28) (a + 3) 0 = some μ1 := y1
  have H1 := H.scr y2
  have ec := x_costOf H1 w hD y3 hl0
  unfold cto at ec
  rw [if_neg z] at ec
  refine XO.scr y2 (XO.same H1 ?_)
  simp (config := { decide := true }) only [↓reduceIte, Option.bind_some, Option.bind_none, f_X11_fewest, H.1.t0, gP_of H.1.t0 H.1.p0_0, gP_of H.1.t0 H.1.p0_1, gP_of H.1.t0 H.1.p0_2, gP_of H.1.t0 H.1.p0_3, gP_of H.1.t0 H.1.p0_4, gP_of H.1.t0 H.1.p0_5, gP_of H.1.t0 H.1.p0_6, gP_of H.1.t0 H.1.p0_7, gP_of H.1.t0 H.1.p0_8, gP_of H.1.t0 H.1.p0_9, x_hasT_ok H w hp, x_wayTo H w h0 (show p < 2 ^ 30 by omega), y1', gP_of H1.1.t0 H1.1.p0_8, gP_of H1.1.t0 H1.1.p0_2, ec]
theorem P_fits (w : WH h) {t : Nat} (ht : t < h.te) (H : XI R T F h K μ a) : XO R T (rat (tel F (ofn (fst (fit h t) (2 ^ h.n) 0))) (lN (nft h t / Nat.gcd (nft h t) 1)) (lN (1 / Nat.gcd (nft h t) 1))) h K μ a 1 (f_X11_fits μ a (nI t)) := by
  have hn6 := w.1
  have hp := bt_p6 hn6
  have t2 := w.te_lt
  have h0 := te_pos w ht
  have hN := nft_le h t
  have l1 : (nI (nft h t)).toInt64 = lN (nft h t) := nI_l (by omega)
  obtain ⟨μ1, y1, y2, y3⟩ := x_look H w h0
  have H1 := H.scr y2
  have Ht : XI R T (tel F (ofn (fst (fit h t) (2 ^ h.n) 0))) h K (sI μ1 a 11 (ofn (fst (fit h t) (2 ^ h.n) 0))) a := H1.tell
  have hk : Lkd h (sI μ1 a 11 (ofn (fst (fit h t) (2 ^ h.n) 0))) a := y3.mv (fun j => mI_ne (by omega)) (fun j => mI_ne (by omega)) (fun j => mI_ne (by omega)) (mI_ne (by omega)) (mI_ne (by omega))
  have ec : f_X7_countFits (sI μ1 a 11 (ofn (fst (fit h t) (2 ^ h.n) 0))) (a + 21) (nI t) 0 = some (nI (nft h t)) := x_cf0 Ht hk w h0 ht
  have er : f_X11_tellRatio (sI μ1 a 11 (ofn (fst (fit h t) (2 ^ h.n) 0))) a (lN (nft h t)) 1 = some (1, xrat (sI μ1 a 11 (ofn (fst (fit h t) (2 ^ h.n) 0))) a (nft h t) 1) := x_rat Ht.1 (show nft h t < 2 ^ 40 by omega) (show 1 < 2 ^ 40 by decide) (by decide)
  refine XO.scr y2 ⟨xrat (sI μ1 a 11 (ofn (fst (fit h t) (2 ^ h.n) 0))) a (nft h t) 1, ?_, Ht.rat, fun b _ _ => (((Sm.rf μ1 b).sI (by omega)).sL (by omega)).sL (by omega), Nat.le_refl _⟩
  simp (config := { decide := true }) only [↓reduceIte, Option.bind_some, Option.bind_none, f_X11_fits, H.1.t0, gP_of H.1.t0 H.1.p0_0, gP_of H.1.t0 H.1.p0_1, gP_of H.1.t0 H.1.p0_2, gP_of H.1.t0 H.1.p0_3, gP_of H.1.t0 H.1.p0_4, gP_of H.1.t0 H.1.p0_5, gP_of H.1.t0 H.1.p0_6, gP_of H.1.t0 H.1.p0_7, gP_of H.1.t0 H.1.p0_8, gP_of H.1.t0 H.1.p0_9, x_hasT_ok H w ht, y1, p1x H1, x_ff H1 y3 w h0 ht, pI_of H1.1.t0, p1x Ht, ec, l1, er]
theorem P_sure_no (w : WH h) {t : Nat} (ht : t < h.te) (hz : nft h t = 0) (H : XI R T F h K μ a) : XO R T (fnd F 4) h K μ a (-3) (f_X11_sure μ a (nI t)) := by
  have h0 := te_pos w ht
  obtain ⟨μ1, y1, y2, y3⟩ := x_look H w h0
  have H1 := H.scr y2
  have ec : f_X7_countFits μ1 (a + 21) (nI t) 0 = some 0 := (x_cf0 H1 y3 w h0 ht).trans (congrArg (fun x => some (nI x)) hz)
  refine XO.scr y2 (XO.find H1 (by decide) ?_)
  simp (config := { decide := true }) only [↓reduceIte, Option.bind_some, Option.bind_none, f_X11_sure, f_X11_refuseUnfit, H.1.t0, gP_of H.1.t0 H.1.p0_0, gP_of H.1.t0 H.1.p0_1, gP_of H.1.t0 H.1.p0_2, gP_of H.1.t0 H.1.p0_3, gP_of H.1.t0 H.1.p0_4, gP_of H.1.t0 H.1.p0_5, gP_of H.1.t0 H.1.p0_6, gP_of H.1.t0 H.1.p0_7, gP_of H.1.t0 H.1.p0_8, gP_of H.1.t0 H.1.p0_9, x_hasT_ok H w ht, y1, p1x H1, ec, xf4 H1.1]
theorem P_sure (w : WH h) {t : Nat} (ht : t < h.te) (hz : ¬ nft h t = 0) (H : XI R T F h K μ a) : XO R T (tel F (nI (nwh h t))) h K μ a (nI (sur h t)) (f_X11_sure μ a (nI t)) := by
  have hn6 := w.1
  have hp := bt_p6 hn6
  have h0 := te_pos w ht
  have hN := nft_le h t
  have hz'' : ¬ nI (nft h t) ≤ 0 := (show ¬ nI (nft h t) ≤ nI 0 from nI_ge (by omega) (by omega))
  obtain ⟨μ1, y1, y2, y3⟩ := x_look H w h0
  have H1 := H.scr y2
  have ec : f_X7_countFits μ1 (a + 21) (nI t) 0 = some (nI (nft h t)) := x_cf0 H1 y3 w h0 ht
  have el : lp_X11_sure_31 BIG a (nI t) (nI (nft h t)) 0 0 0 μ1 = some (nI (sur h t), nI (nwh h t)) := x_sure_l H1 y3 w h0 ht BIG 0 (by omega) (by unfold BIG; omega)
  refine XO.scr y2 (XO.tell H1 ?_)
  simp (config := { decide := true }) only [↓reduceIte, Option.bind_some, Option.bind_none, f_X11_sure, f_X11_refuseUnfit, H.1.t0, gP_of H.1.t0 H.1.p0_0, gP_of H.1.t0 H.1.p0_1, gP_of H.1.t0 H.1.p0_2, gP_of H.1.t0 H.1.p0_3, gP_of H.1.t0 H.1.p0_4, gP_of H.1.t0 H.1.p0_5, gP_of H.1.t0 H.1.p0_6, gP_of H.1.t0 H.1.p0_7, gP_of H.1.t0 H.1.p0_8, gP_of H.1.t0 H.1.p0_9, x_hasT_ok H w ht, y1, p1x H1, ec, hz'', el, pI_of H1.1.t0]
theorem P_ask (w : WH h) {t : Nat} (ht : t < h.te) (hz : ¬ nft h t = 0) (H : XI R T F h K μ a) : XO R T (tel F (nI (lst (grt h t) (nft h t + 1) h.n).1)) h K μ a (nI (lst (grt h t) (nft h t + 1) h.n).2) (f_X11_ask μ a (nI t)) := by
  have hn6 := w.1
  have hp := bt_p6 hn6
  have h0 := te_pos w ht
  have hN := nft_le h t
  have hz'' : ¬ nI (nft h t) ≤ 0 := (show ¬ nI (nft h t) ≤ nI 0 from nI_ge (by omega) (by omega))
  obtain ⟨μ1, y1, y2, y3⟩ := x_look H w h0
  have H1 := H.scr y2
  have ec : f_X7_countFits μ1 (a + 21) (nI t) 0 = some (nI (nft h t)) := x_cf0 H1 y3 w h0 ht
  have el : lp_X11_ask_33 BIG a (nI t) (nI (nft h t)) 0 (nI (nft h t + 1)) 0 μ1 = some (nI (lst (grt h t) (nft h t + 1) h.n).2, nI (lst (grt h t) (nft h t + 1) h.n).1) := x_ask_l (z := nft h t + 1) H1 y3 w h0 ht (by omega) BIG 0 (by omega) (by unfold BIG; omega)
  refine XO.scr y2 (XO.tell H1 ?_)
  simp (config := { decide := true }) only [↓reduceIte, Option.bind_some, Option.bind_none, f_X11_ask, f_X11_refuseUnfit, H.1.t0, gP_of H.1.t0 H.1.p0_0, gP_of H.1.t0 H.1.p0_1, gP_of H.1.t0 H.1.p0_2, gP_of H.1.t0 H.1.p0_3, gP_of H.1.t0 H.1.p0_4, gP_of H.1.t0 H.1.p0_5, gP_of H.1.t0 H.1.p0_6, gP_of H.1.t0 H.1.p0_7, gP_of H.1.t0 H.1.p0_8, gP_of H.1.t0 H.1.p0_9, x_hasT_ok H w ht, y1, p1x H1, ec, hz'', nI_1, el, pI_of H1.1.t0]
theorem P_quiet (w : WH h) (h0 : ¬ h.n = 0) (H : XI R T F h K μ a) : XO R T (rat (tel F (nI (lsq h))) (lN (BW h (2 ^ h.n - 1) / Nat.gcd (BW h (2 ^ h.n - 1)) 1)) (lN (1 / Nat.gcd (BW h (2 ^ h.n - 1)) 1))) h K μ a 1 (f_X11_quiet μ a) := by
  have hn6 := w.1
  have hN := BW_lt hn6 (2 ^ h.n - 1)
  have l1 : (nI (BW h (2 ^ h.n - 1))).toInt64 = lN (BW h (2 ^ h.n - 1)) := nI_l (by omega)
  obtain ⟨μ1, y1, y2, y3⟩ := x_look H w h0
  have H1 := H.scr y2
  obtain ⟨μ2, z1, z2, z3, z4⟩ := x_cq H1 w h0 y3
  have H2 := H1.scr z2
  have Ht : XI R T (tel F (nI (lsq h))) h K (sI μ2 a 11 (nI (lsq h))) a := H2.tell
  have er : f_X11_tellRatio (sI μ2 a 11 (nI (lsq h))) a (lN (BW h (2 ^ h.n - 1))) 1 = some (1, xrat (sI μ2 a 11 (nI (lsq h))) a (BW h (2 ^ h.n - 1)) 1) := x_rat Ht.1 (show BW h (2 ^ h.n - 1) < 2 ^ 40 by omega) (show 1 < 2 ^ 40 by decide) (by decide)
  refine XO.scr (y2.tr z2) ⟨xrat (sI μ2 a 11 (nI (lsq h))) a (BW h (2 ^ h.n - 1)) 1, ?_, Ht.rat, fun b _ _ => (((Sm.rf μ2 b).sI (by omega)).sL (by omega)).sL (by omega), Nat.le_refl _⟩
  simp (config := { decide := true }) only [↓reduceIte, Option.bind_some, Option.bind_none, f_X11_quiet, H.1.t0, gP_of H.1.t0 H.1.p0_0, gP_of H.1.t0 H.1.p0_1, gP_of H.1.t0 H.1.p0_2, gP_of H.1.t0 H.1.p0_3, gP_of H.1.t0 H.1.p0_4, gP_of H.1.t0 H.1.p0_5, gP_of H.1.t0 H.1.p0_6, gP_of H.1.t0 H.1.p0_7, gP_of H.1.t0 H.1.p0_8, gP_of H.1.t0 H.1.p0_9, x_full H w h0, y1, p1x H1, z1, p1x H2, x_lq H2 w z3 z4, pI_of H2.1.t0, l1, er]
theorem P_cheap (w : WH h) (h0 : ¬ h.n = 0) (H : XI R T F h K μ a) : XO R T (tel F (nI (cod (bst h none 0 h.n 0) h.n))) h K μ a (nI (SV h none 0 h.n 0)) (f_X11_cheap μ a) := by
  have hn6 := w.1
  have hn0 : ¬ nI h.n = 0 := nI_ne0 (by omega) (by omega)
  have hn31 : h.n < 2 ^ 31 := by omega
  obtain ⟨μ1, y1, y2, y3⟩ := x_look H w h0
  have H1 := H.scr y2
  obtain ⟨μ2, z1, z2, z3, z4⟩ := x_weigh (o := none) (tt := 0) H1 w h0 y3 (fun x q => by cases q) (by decide)
  have z1' : f_X7_weigh μ1 (a + 21) (-1) 0 = some μ2 := z1
  have s2 := y2.tr z2
  have H2 := H.scr s2
  obtain ⟨μ3, x1, x2, x3, x4, x5, x6, x7, x8⟩ := x_tellF (F := F) (K := K) (R := R) (T := T) (a := a) (o := none) (tt := 0) (s0 := a + 26) (c0 := a + 27) (cap := 6) (J := fun μ' => SX μ2 μ' a) w h0 (fun x q => by cases q) (by decide) (by omega) (by omega) (by omega) (fun μ' hJ => ⟨R, H2.scr hJ⟩) (fun μ' i v hJ _ => hJ.sI (by omega) (by omega)) H2 z3 z4 H2.1.t26 H2.1.p26_0 H2.1.t27 H2.1.n27 (by decide) hn6 (((SX.rf μ2 a).sI (by omega) (by omega)).sR (by omega) (by omega))
  have s3 := s2.tr x2
  have H3 := H.scr s3
  have hl : ∀ (f i : Nat), i ≤ h.n → h.n < i + f → lp_X11_cheap_51 f a (nI i) (sI μ3 a 11 (nI (cod (bst h none 0 h.n 0) i))) = some (sI μ3 a 11 (nI (cod (bst h none 0 h.n 0) h.n))) := by
    intro f
    induction f with
    | zero => intro i q1 q2; omega
    | succ f ih =>
      intro i q1 q2
      have Ht : XI R T (tel F (nI (cod (bst h none 0 h.n 0) i))) h K (sI μ3 a 11 (nI (cod (bst h none 0 h.n 0) i))) a := H3.tell
      have es : gI (sI μ3 a 11 (nI (cod (bst h none 0 h.n 0) i))) (a + 26) 9 1 = some (nI h.n) := gI_e Ht.1.t26 (by rw [mI_ne (by omega)]; exact x5.2.2.2.2)
      by_cases e : i = h.n
      · have e1 : nI h.n ≤ nI i := by rw [e]; exact Int32.le_refl _
        simp (config := { decide := true }) only [↓reduceIte, Option.bind_some, Option.bind_none, lp_X11_cheap_51, gP_of Ht.1.t0 Ht.1.p0_7, es, e1]
        rw [e]
      · have e1 : ¬ nI h.n ≤ nI i := nI_ge (by omega) (by omega)
        have ea : aI (sI μ3 a 11 (nI (cod (bst h none 0 h.n 0) i))) (a + 27) 21 (nI i) = some (nI ((bst h none 0 h.n 0).getD i 0)) := by rw [aI_of Ht.1.t27 (by rw [Ht.1.n27]; omega) (by omega), mI_ne (by omega), x8 i (by omega)]
        have et : gI (sI μ3 a 11 (nI (cod (bst h none 0 h.n 0) i))) a 12 11 = some (nI (cod (bst h none 0 h.n 0) i)) := gI_e Ht.1.t0 mI_eq
        have hI := ih (i + 1) (by omega) (by omega)
        rw [cod_s] at hI
        simp (config := { decide := true }) only [↓reduceIte, Option.bind_some, Option.bind_none, lp_X11_cheap_51, gP_of Ht.1.t0 Ht.1.p0_7, gP_of Ht.1.t26 Ht.1.p26_0, es, e1, et, ea, cod_e, pI_of Ht.1.t0, sI_sI, nI_1]
        exact hI
  have el := hl BIG 0 (by omega) (by unfold BIG; omega)
  have el' : lp_X11_cheap_51 BIG a 0 (sI μ3 a 11 0) = some (sI μ3 a 11 (nI (cod (bst h none 0 h.n 0) h.n))) := el
  have Hf : XI R T (tel F (nI (cod (bst h none 0 h.n 0) h.n))) h K (sI μ3 a 11 (nI (cod (bst h none 0 h.n 0) h.n))) a := H3.tell
  have efw := x_fewW Hf (o := none) (tt := 0) (x4.mv (fun j => mI_ne (by omega)))
  refine XO.scr s3 (XO.tell H3 ?_)
  simp (config := { decide := true }) only [↓reduceIte, Option.bind_some, Option.bind_none, f_X11_cheap, H.1.t0, gP_of H.1.t0 H.1.p0_0, gP_of H.1.t0 H.1.p0_1, gP_of H.1.t0 H.1.p0_2, gP_of H.1.t0 H.1.p0_3, gP_of H.1.t0 H.1.p0_4, gP_of H.1.t0 H.1.p0_5, gP_of H.1.t0 H.1.p0_6, gP_of H.1.t0 H.1.p0_7, gP_of H.1.t0 H.1.p0_8, gP_of H.1.t0 H.1.p0_9, x_full H w h0, y1, p1x H1, z1', p1x H2, gP_of H2.1.t0 H2.1.p0_7, x1, pI_of H3.1.t0, el', gP_of Hf.1.t0 Hf.1.p0_6, efw]
theorem P_order (hw : WF R T h K) {g t r : Nat} (hg : g < h.n) (ht : t < h.te) (hr : r < 6) (hz : SV h (some g) t h.n 0 = 0) (H : XI R T F h K μ a) : ∃ j, j < h.n ∧ (bst h (some g) t h.n 0).getD j 0 = g ∧ (∀ i, i < j → ¬ (bst h (some g) t h.n 0).getD i 0 = g) ∧ WF (setr R r (some h.n) (fun i => nI ((bst h (some g) t h.n 0).getD i 0))) T h K ∧ XO (setr R r (some h.n) (fun i => nI ((bst h (some g) t h.n 0).getD i 0))) T F h K μ a (nI j) (f_X11_order μ a (nI g) (nI t) (nI r)) := by
  have w := hw.2.2.1
  have hn6 := w.1
  have t2 := w.te_lt
  have h0 := te_pos w ht
  have hsv := SV_le (h := h) (o := some g) (tt := t) h.n 0 (by rw [pc_0]; omega)
  have ho6 : ∀ x, some g = some x → x < 6 := fun x q => by cases q; omega
  have hon : ∀ x, some g = some x → x < h.n := fun x q => by cases q; exact hg
  have hlen := bst_len h (some g) t h.n 0
  have hbl : ∀ j, j < h.n → (bst h (some g) t h.n 0).getD j 0 < h.n := fun j hj => by
    rw [List.getD_eq_getElem?_getD, List.getElem?_eq_getElem (by omega)]
    exact bst_lt hn6 h.n 0 (by rw [pc_0]; omega) _ (List.getElem_mem _)
  have hxw : ∀ μ a, XI R T F h K μ a → ∃ μ2, (∃ μ1, f_X7_look μ (a + 21) (a + 3) = some μ1 ∧ XI R T F h K μ1 a ∧ f_X7_weigh μ1 (a + 21) (nI g) (nI t) = some μ2) ∧ SX μ μ2 a ∧ Wg h (some g) t μ2 a ∧ Sc h (some g) t 0 μ2 a := fun μ a H => by
    obtain ⟨μ1, y1, y2, y3⟩ := x_look H w h0
    obtain ⟨μ2, z1, z2, z3, z4⟩ := x_weigh (o := some g) (tt := t) (H.scr y2) w h0 y3 ho6 (by omega)
    exact ⟨μ2, ⟨μ1, y1, H.scr y2, z1⟩, y2.tr z2, z3, z4⟩
  have hfst : ∃ j, j < h.n ∧ fst (fun i => decide ((bst h (some g) t h.n 0).getD i 0 = g)) h.n 0 = some j ∧ (bst h (some g) t h.n 0).getD j 0 = g ∧ ∀ i, i < j → ¬ (bst h (some g) t h.n 0).getD i 0 = g := by
    rcases fst_cases (fun i => decide ((bst h (some g) t h.n 0).getD i 0 = g)) h.n 0 with ⟨j, j1, j2, j3, j4⟩ | q
    · exact ⟨j, by omega, fst_some _ _ _ j j1 j2 j3 j4, of_decide_eq_true j3, fun i hi => of_decide_eq_false (j4 i (Nat.zero_le _) hi)⟩
    · obtain ⟨i, hi, e⟩ := bst_has (o := some g) (tt := t) hn6 hg h.n 0 (by rw [pc_0]; omega) (Nat.zero_testBit g)
      have := q i (Nat.zero_le _) (by omega)
      rw [decide_eq_true e] at this; cases this
  obtain ⟨j, hj, hjf, hjg, hjn⟩ := hfst
  refine ⟨j, hj, hjg, hjn, ⟨hw.1.set (fun n q => by cases q; omega), hw.2.1, hw.2.2⟩, ?_⟩
  obtain ⟨μ2, ⟨μ1, y1, H1, z1⟩, s2, z3, z4⟩ := hxw μ a H
  have H2 := H.scr s2
  obtain ⟨k1, k2, k3, k4, k5⟩ := H2.1.row hr
  have hJ0 : ∃ g', XI (setr R r (some h.n) g') T F h K (sR (sI μ2 (a + 33 + 2 * r) 1 (nI h.n)) (a + 34 + 2 * r) (fil (mI μ2 (a + 34 + 2 * r)) h.n 0)) a := ⟨_, H2.rset hr (fun b b1 b2 _ => ((Sm.rf μ2 b).sI b1).sR b2) H2.1 (by rw [mR_ne (by omega), mI_eq]; rfl) (fun n _ i _ => rfl) (Nat.le_refl _)⟩
  obtain ⟨μ3, x1, ⟨g', x2⟩, x3, x4, x5, x6, x7, x8⟩ := x_tellF (F := F) (K := K) (R := R) (T := T) (a := a) (o := some g) (tt := t) (s0 := a + 33 + 2 * r) (c0 := a + 34 + 2 * r) (cap := 40) (J := fun μ' => ∃ g', XI (setr R r (some h.n) g') T F h K μ' a) w h0 ho6 (by omega) (by omega) (by omega) (by omega) (fun μ' hJ => ⟨_, hJ.choose_spec⟩) (fun μ' i v hJ _ => by
    obtain ⟨g', hJ⟩ := hJ
    have := rset_one (i := i) (v := v) hJ hr (setr_1 R r (some h.n) g')
    rw [setr_setr] at this
    exact ⟨_, this⟩) H2 z3 z4 k2 k3 k4 k5 (by decide) (by omega) hJ0
  have H3 : XI (setr R r (some h.n) (fun i => nI ((bst h (some g) t h.n 0).getD i 0))) T F h K μ3 a := by
    have := x2.rset (o := some h.n) (g := fun i => nI ((bst h (some g) t h.n 0).getD i 0)) hr (fun b _ _ _ => Sm.rf μ3 b) x2.1 x5.2.2.2.2 (fun n q i hi => by cases q; exact x8 i hi) (Nat.le_refl _)
    rw [setr_setr] at this
    exact this
  have efw := x_fewW H2 z4
  rw [hz] at efw
  have efw' : f_X7_fewestWrongs μ2 (a + 21) = some 0 := efw
  have ep := x_place (g := g) x5 (by omega) x8 (fun i hi => by have := hbl i hi; omega) (by omega)
  rw [hjf] at ep
  have ep' : f_X8_placeOf μ3 (a + 33 + 2 * r) (nI g) = some (nI j) := ep
  refine XO.scr s2 ⟨μ3, ?_, H3, fun b b1 b2 => x6 b (by omega) (by omega), by rw [x7]; exact Nat.le_refl _⟩
  simp (config := { decide := true }) only [↓reduceIte, Option.bind_some, Option.bind_none, f_X11_order, H.1.t0, gP_of H.1.t0 H.1.p0_0, gP_of H.1.t0 H.1.p0_1, gP_of H.1.t0 H.1.p0_2, gP_of H.1.t0 H.1.p0_3, gP_of H.1.t0 H.1.p0_4, gP_of H.1.t0 H.1.p0_5, gP_of H.1.t0 H.1.p0_6, gP_of H.1.t0 H.1.p0_7, gP_of H.1.t0 H.1.p0_8, gP_of H.1.t0 H.1.p0_9, x_hasG_ok H w hg, x_hasT_ok H w ht, H.1.fr.has_ok hr, y1, p1x H1, z1, p1x H2, efw', gP_of H2.1.t0 H2.1.p0_0, H2.1.fr.get hr, x1, gP_of H3.1.t0 H3.1.p0_0, H3.1.fr.get hr, ep']
theorem P_order_no (hw : WF R T h K) {g t r : Nat} (hg : g < h.n) (ht : t < h.te) (hr : r < 6) (hz : ¬ SV h (some g) t h.n 0 = 0) (H : XI R T F h K μ a) : XO R T F h K μ a (-9) (f_X11_order μ a (nI g) (nI t) (nI r)) := by
  have w := hw.2.2.1
  have hn6 := w.1
  have t2 := w.te_lt
  have h0 := te_pos w ht
  have hsv := SV_le (h := h) (o := some g) (tt := t) h.n 0 (by rw [pc_0]; omega)
  have ho6 : ∀ x, some g = some x → x < 6 := fun x q => by cases q; omega
  have hon : ∀ x, some g = some x → x < h.n := fun x q => by cases q; exact hg
  have hlen := bst_len h (some g) t h.n 0
  have hbl : ∀ j, j < h.n → (bst h (some g) t h.n 0).getD j 0 < h.n := fun j hj => by
    rw [List.getD_eq_getElem?_getD, List.getElem?_eq_getElem (by omega)]
    exact bst_lt hn6 h.n 0 (by rw [pc_0]; omega) _ (List.getElem_mem _)
  have hxw : ∀ μ a, XI R T F h K μ a → ∃ μ2, (∃ μ1, f_X7_look μ (a + 21) (a + 3) = some μ1 ∧ XI R T F h K μ1 a ∧ f_X7_weigh μ1 (a + 21) (nI g) (nI t) = some μ2) ∧ SX μ μ2 a ∧ Wg h (some g) t μ2 a ∧ Sc h (some g) t 0 μ2 a := fun μ a H => by
    obtain ⟨μ1, y1, y2, y3⟩ := x_look H w h0
    obtain ⟨μ2, z1, z2, z3, z4⟩ := x_weigh (o := some g) (tt := t) (H.scr y2) w h0 y3 ho6 (by omega)
    exact ⟨μ2, ⟨μ1, y1, H.scr y2, z1⟩, y2.tr z2, z3, z4⟩
  obtain ⟨μ2, ⟨μ1, y1, H1, z1⟩, s2, z3, z4⟩ := hxw μ a H
  have H2 := H.scr s2
  have e1 : ¬ nI (SV h (some g) t h.n 0) ≤ 0 := nI_nle (by omega) (by omega)
  refine XO.scr s2 (XO.same H2 ?_)
  simp (config := { decide := true }) only [↓reduceIte, Option.bind_some, Option.bind_none, f_X11_order, H.1.t0, gP_of H.1.t0 H.1.p0_0, gP_of H.1.t0 H.1.p0_1, gP_of H.1.t0 H.1.p0_2, gP_of H.1.t0 H.1.p0_3, gP_of H.1.t0 H.1.p0_4, gP_of H.1.t0 H.1.p0_5, gP_of H.1.t0 H.1.p0_6, gP_of H.1.t0 H.1.p0_7, gP_of H.1.t0 H.1.p0_8, gP_of H.1.t0 H.1.p0_9, x_hasG_ok H w hg, x_hasT_ok H w ht, H.1.fr.has_ok hr, y1, p1x H1, z1, p1x H2, x_fewW H2 z4, e1]
end PX2
