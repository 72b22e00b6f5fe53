/-! ===== THE CALLS, one by one: what they answer, what they leave ===== -/
section PX1
variable {R T : GR} {F : GF} {h : GH} {K : GK} {μ : Mm} {a : Nat}
theorem P_asked (H : XI R T F h K μ a) : f_X11_asked μ a = some F.2.2.1 := by simp (config := { decide := true }) only [↓reduceIte, Option.bind_some, Option.bind_none, f_X11_asked, H.1.t0, gI_of H.1.t0, H.2.2.2.1.2.2.1]
theorem P_upper (H : XI R T F h K μ a) : f_X11_upper μ a = some F.2.2.2.1 := by simp (config := { decide := true }) only [↓reduceIte, Option.bind_some, Option.bind_none, f_X11_upper, H.1.t0, gL_of H.1.t0, H.2.2.2.1.2.2.2.1]
theorem P_lower (H : XI R T F h K μ a) : f_X11_lower μ a = some F.2.2.2.2 := by simp (config := { decide := true }) only [↓reduceIte, Option.bind_some, Option.bind_none, f_X11_lower, H.1.t0, gL_of H.1.t0, H.2.2.2.1.2.2.2.2]
theorem P_finding (H : XI R T F h K μ a) : f_X11_finding μ a = some F.1 := by simp (config := { decide := true }) only [↓reduceIte, Option.bind_some, Option.bind_none, f_X11_finding, H.1.t0, gI_of H.1.t0, H.2.2.2.1.1]
theorem P_count (H : XI R T F h K μ a) (hw : WF R T h K) {j : Nat} (hj : j ≤ 10) : f_X11_count μ a (nI j) = some (nI (cv R T h K j)) := x_count H hw hj
theorem P_digest (H : XI R T F h K μ a) (hw : WF R T h K) : f_X11_digest μ a = some (dg5 R T h K) := x_digest H hw
theorem P_text (hw : WF R T h K) {r n : Nat} (hr : r < 4) (hn : n ≤ 60) (H : XI R T F h K μ a) : XO R (setr T r (some n) (fun _ => 32)) F h K μ a (nI n) (f_X11_text μ a (nI r) (nI n)) := by
  refine ⟨sR (sI μ (a + 45 + 2 * r) 1 (nI n)) (a + 46 + 2 * r) (fil (mI μ (a + 46 + 2 * r)) n 32), by
    simp (config := { decide := true }) only [↓reduceIte, Option.bind_some, Option.bind_none, f_X11_text, H.1.t0, gP_of H.1.t0 H.1.p0_0, gP_of H.1.t0 H.1.p0_1, gP_of H.1.t0 H.1.p0_2, gP_of H.1.t0 H.1.p0_3, gP_of H.1.t0 H.1.p0_4, gP_of H.1.t0 H.1.p0_5, gP_of H.1.t0 H.1.p0_6, gP_of H.1.t0 H.1.p0_7, gP_of H.1.t0 H.1.p0_8, gP_of H.1.t0 H.1.p0_9, H.1.ft.open_ok H.1 hr hn], H.tset hr (fun b h1 h2 _ => ((Sm.rf μ b).sI h1).sR h2) H.1 ?_ ?_ (Nat.le_refl _), fun b _ _ => ((Sm.rf μ b).sI (by omega)).sR (by omega), Nat.le_refl _⟩
  · rw [mR_ne (by omega), mI_eq, en_some]
  · intro m hm i hi
    cases hm
    rw [mR_eq]
    exact if_pos hi
theorem P_put (hw : WF R T h K) {r n i : Nat} (hr : r < 4) (hn : T.1 r = some n) (hi : i < n) (q3 : Int32) (H : XI R T F h K μ a) : XO R (setr T r (some n) (upd (T.2 r) i q3.toInt8.toInt32)) F h K μ a (1000 + T.2 r i) (f_X11_put μ a (nI r) (nI i) q3) := by
  have hn4 : n ≤ 60 := hw.2.1 r hr n hn
  refine ⟨sI μ (a + 46 + 2 * r) i q3.toInt8.toInt32, ?_, ?_, fun b _ _ => (Sm.rf μ b).sI (by omega), Nat.le_refl _⟩
  · obtain ⟨k1, k2, k3, k4, k5⟩ := H.1.text hr
    have hs : mI μ (a + 45 + 2 * r) 1 = nI n := (H.2.2.1 r hr).1.trans (by rw [hn]; rfl)
    simp (config := { decide := true }) only [↓reduceIte, Option.bind_some, Option.bind_none, f_X11_put, H.1.t0, gP_of H.1.t0 H.1.p0_0, gP_of H.1.t0 H.1.p0_1, gP_of H.1.t0 H.1.p0_2, gP_of H.1.t0 H.1.p0_3, gP_of H.1.t0 H.1.p0_4, gP_of H.1.t0 H.1.p0_5, gP_of H.1.t0 H.1.p0_6, gP_of H.1.t0 H.1.p0_7, gP_of H.1.t0 H.1.p0_8, gP_of H.1.t0 H.1.p0_9, H.1.ft.place_ok H.1 hr hs (show n < 2 ^ 31 by omega) hi, H.1.ft.get hr, s_replace_ok k2 k3 k4 hs (show n ≤ ln μ (a + 46 + 2 * r) by omega) (show n < 2 ^ 31 by omega) hi, (H.2.2.1 r hr).2 n hn i hi]
  · refine H.tset hr (fun b h1 h2 _ => (Sm.rf μ b).sI h2) H.1 ?_ ?_ (Nat.le_refl _)
    · rw [mI_ne (by omega), (H.2.2.1 r hr).1, hn]
    · intro m hm j hj
      cases hm
      by_cases e : j = i
      · subst e; rw [mI_eq, pk_us]
      · rw [mI_nk e, pk_un e]; exact (H.2.2.1 r hr).2 n hn j hj
theorem P_fault (hw : WF R T h K) {t m : Nat} (ht : t < 4) (hm : T.1 t = some m) {P : PS} (hp : par (T.2 t) m = .inr P) (H : XI R T F h K μ a) : XO R T F h K μ a (-9) (f_X11_fault μ a (nI t)) := by
  have hm6 : m ≤ 60 := hw.2.1 t ht m hm
  have hxr : f_X11_refuse μ a (a + 2) (nI t) = some (0, μ) := Fam.refuse_ok H.1 H.1.ft ht ((H.2.2.1 t ht).1.trans (by rw [hm]; rfl)) (show m < 2 ^ 31 by omega)
  obtain ⟨μ', j, y1, y2, -⟩ := (x_read ht hm hm6 H).2 P hp
  refine XO.scr y2 (XO.same (H.scr y2) ?_)
  simp (config := { decide := true }) only [↓reduceIte, Option.bind_some, Option.bind_none, f_X11_fault, H.1.t0, gP_of H.1.t0 H.1.p0_0, gP_of H.1.t0 H.1.p0_1, gP_of H.1.t0 H.1.p0_2, gP_of H.1.t0 H.1.p0_3, gP_of H.1.t0 H.1.p0_4, gP_of H.1.t0 H.1.p0_5, gP_of H.1.t0 H.1.p0_6, gP_of H.1.t0 H.1.p0_7, gP_of H.1.t0 H.1.p0_8, gP_of H.1.t0 H.1.p0_9, hxr, H.1.ft.get ht, y1]
theorem P_hall (hw : WF R T h K) {t m : Nat} (ht : t < 4) (hm : T.1 t = some m) {P : PS} (hp : par (T.2 t) m = .inr P) (H : XI R T F h K μ a) : WF R T P.h (fun _ => none) ∧ XO R T F P.h (fun _ => none) μ a (nI P.n) (f_X11_hall μ a (nI t)) := by
  have hm6 : m ≤ 60 := hw.2.1 t ht m hm
  have hxr : f_X11_refuse μ a (a + 2) (nI t) = some (0, μ) := Fam.refuse_ok H.1 H.1.ft ht ((H.2.2.1 t ht).1.trans (by rw [hm]; rfl)) (show m < 2 ^ 31 by omega)
  obtain ⟨hP, hn, hte⟩ := (par_ok (T.2 t) m).2 P hp
  refine ⟨⟨hw.1, hw.2.1, PS.h_wh hP hn hte, fun k _ v hv => by cases hv⟩, ?_⟩
  obtain ⟨μ', j, y1, y2, y3⟩ := (x_read ht hm hm6 H).2 P hp
  have H1 := H.scr y2
  obtain ⟨μ2, z1, z2, z3, z4⟩ := x_hallok H1 hP hn hte y3
  refine XO.scr y2 ⟨μ2, ?_, z2, z3, z4⟩
  rw [← z1]
  simp (config := { decide := true }) only [↓reduceIte, Option.bind_some, Option.bind_none, f_X11_hall, H.1.t0, gP_of H.1.t0 H.1.p0_0, gP_of H.1.t0 H.1.p0_1, gP_of H.1.t0 H.1.p0_2, gP_of H.1.t0 H.1.p0_3, gP_of H.1.t0 H.1.p0_4, gP_of H.1.t0 H.1.p0_5, gP_of H.1.t0 H.1.p0_6, gP_of H.1.t0 H.1.p0_7, gP_of H.1.t0 H.1.p0_8, gP_of H.1.t0 H.1.p0_9, hxr, H.1.ft.get ht, y1, gP_of H1.1.t0 H1.1.p0_2, gP_of H1.1.t0 H1.1.p0_5]
theorem P_at (hw : WF R T h K) {r n i : Nat} (hr : r < 6) (hn : R.1 r = some n) (hi : i < n) (H : XI R T F h K μ a) : XO R T (tel F (R.2 r i)) h K μ a 1 (f_X11_at μ a (nI r) (nI i)) := by
  have hn4 : n ≤ 40 := hw.1 r hr n hn
  refine XO.tell H ?_
  obtain ⟨k1, k2, k3, k4, k5⟩ := H.1.row hr
  have hs : mI μ (a + 33 + 2 * r) 1 = nI n := (H.2.1 r hr).1.trans (by rw [hn]; rfl)
  simp (config := { decide := true }) only [↓reduceIte, Option.bind_some, Option.bind_none, f_X11_at, H.1.t0, gP_of H.1.t0 H.1.p0_0, gP_of H.1.t0 H.1.p0_1, gP_of H.1.t0 H.1.p0_2, gP_of H.1.t0 H.1.p0_3, gP_of H.1.t0 H.1.p0_4, gP_of H.1.t0 H.1.p0_5, gP_of H.1.t0 H.1.p0_6, gP_of H.1.t0 H.1.p0_7, gP_of H.1.t0 H.1.p0_8, gP_of H.1.t0 H.1.p0_9, H.1.fr.place_ok H.1 hr hs (show n < 2 ^ 31 by omega) hi, H.1.fr.get hr, gP_of k2 k3, aI_of k4 (show i < ln μ (a + 34 + 2 * r) by omega) (show i < 2 ^ 31 by omega), (H.2.1 r hr).2 n hn i hi, x_tell H.1]
theorem P_at_out (hw : WF R T h K) {r n : Nat} (hr : r < 6) (hn : R.1 r = some n) (H : XI R T F h K μ a) : XO R T (fnd F 2) h K μ a (-3) (f_X11_at μ a (nI r) (nI n)) := by
  have hn4 : n ≤ 40 := hw.1 r hr n hn
  refine XO.find H (by decide) ?_
  simp (config := { decide := true }) only [↓reduceIte, Option.bind_some, Option.bind_none, f_X11_at, H.1.t0, gP_of H.1.t0 H.1.p0_0, gP_of H.1.t0 H.1.p0_1, gP_of H.1.t0 H.1.p0_2, gP_of H.1.t0 H.1.p0_3, gP_of H.1.t0 H.1.p0_4, gP_of H.1.t0 H.1.p0_5, gP_of H.1.t0 H.1.p0_6, gP_of H.1.t0 H.1.p0_7, gP_of H.1.t0 H.1.p0_8, gP_of H.1.t0 H.1.p0_9, H.1.fr.place_out H.1 hr ((H.2.1 r hr).1.trans (by rw [hn]; rfl)) (show n < 2 ^ 31 by omega) (show Out (nI n) n from Or.inr ⟨nI_pos (by omega), Int32.le_refl _⟩)]
theorem P_tear_no {r : Nat} (hr : r < 6) (hn : R.1 r = none) (H : XI R T F h K μ a) : XO R T (fnd F 1) h K μ a (-3) (f_X11_tear μ a (nI r)) := by
  refine XO.find H (by decide) ?_
  simp (config := { decide := true }) only [↓reduceIte, Option.bind_some, Option.bind_none, f_X11_tear, H.1.t0, gP_of H.1.t0 H.1.p0_0, gP_of H.1.t0 H.1.p0_1, gP_of H.1.t0 H.1.p0_2, gP_of H.1.t0 H.1.p0_3, gP_of H.1.t0 H.1.p0_4, gP_of H.1.t0 H.1.p0_5, gP_of H.1.t0 H.1.p0_6, gP_of H.1.t0 H.1.p0_7, gP_of H.1.t0 H.1.p0_8, gP_of H.1.t0 H.1.p0_9, H.1.fr.refuse_no H.1 hr ((H.2.1 r hr).1.trans (by rw [hn]; rfl))]
theorem P_tear (hw : WF R T h K) {r n : Nat} (hr : r < 6) (hn : R.1 r = some n) (H : XI R T F h K μ a) : WF (setr R r none (R.2 r)) T h K ∧ XO (setr R r none (R.2 r)) T F h K μ a 1 (f_X11_tear μ a (nI r)) := by
  have hn4 : n ≤ 40 := hw.1 r hr n hn
  refine ⟨⟨hw.1.set (fun m hm => by cases hm), hw.2⟩, sI μ (a + 33 + 2 * r) 1 (-1), ?_, ?_, fun b _ _ => (Sm.rf μ b).sI (by omega), Nat.le_refl _⟩
  · obtain ⟨k1, k2, k3, k4, k5⟩ := H.1.row hr
    have hs : mI μ (a + 33 + 2 * r) 1 = nI n := (H.2.1 r hr).1.trans (by rw [hn]; rfl)
    simp (config := { decide := true }) only [↓reduceIte, Option.bind_some, Option.bind_none, f_X11_tear, H.1.t0, gP_of H.1.t0 H.1.p0_0, gP_of H.1.t0 H.1.p0_1, gP_of H.1.t0 H.1.p0_2, gP_of H.1.t0 H.1.p0_3, gP_of H.1.t0 H.1.p0_4, gP_of H.1.t0 H.1.p0_5, gP_of H.1.t0 H.1.p0_6, gP_of H.1.t0 H.1.p0_7, gP_of H.1.t0 H.1.p0_8, gP_of H.1.t0 H.1.p0_9, H.1.fr.refuse_ok H.1 hr hs (show n < 2 ^ 31 by omega), H.1.fr.get hr, f_X8_close, k2, pI_of k2]
  · refine H.rset hr (fun b h1 h2 _ => (Sm.rf μ b).sI h1) H.1 mI_eq (fun m hm => by cases hm) (Nat.le_refl _)
theorem P_guild (w : WH h) {g k : Nat} (hg : g < h.n) (hk : k ≤ 4) (H : XI R T F h K μ a) : XO R T (tel F (nI (det h g k))) h K μ a 1 (f_X11_guild μ a (nI g) (nI k)) := by
  have e1 : nI k ≤ 4 := (show nI k ≤ nI 4 from nI_le (by omega) (by decide))
  have e3 : ¬ nI k < 0 := nI_pos (by omega)
  refine XO.tell H ?_
  simp (config := { decide := true }) only [↓reduceIte, Option.bind_some, Option.bind_none, f_X11_guild, H.1.t0, gP_of H.1.t0 H.1.p0_0, gP_of H.1.t0 H.1.p0_1, gP_of H.1.t0 H.1.p0_2, gP_of H.1.t0 H.1.p0_3, gP_of H.1.t0 H.1.p0_4, gP_of H.1.t0 H.1.p0_5, gP_of H.1.t0 H.1.p0_6, gP_of H.1.t0 H.1.p0_7, gP_of H.1.t0 H.1.p0_8, gP_of H.1.t0 H.1.p0_9, x_hasG_ok H w hg, e3, e1, x_detail H w hg hk, x_tell H.1]
theorem P_walk (hw : WF R T h K) {g : Nat} (hg : g < h.n) (hl' : h.sp.length < 60) (H : XI R T F h K μ a) : WF R T (h.wsp (h.sp ++ [g])) K ∧ XO R T F (h.wsp (h.sp ++ [g])) K μ a (nI (stp h.te h.rs h.kd h.ft h.q g).1) (f_X11_walk μ a (nI g)) := by
  have w := hw.2.2.1
  have hl := w.2.2.2.1
  have h0 : ¬ h.n = 0 := by omega
  have hn6 := w.1
  have e1 : ¬ 60 < h.sp.length + 1 := by omega
  have hxr : f_X3_hasRoomFor μ (a + 3) 1 = some (if 60 < h.sp.length + 1 then 0 else 1) := x_room1 (m := 1) H hl (by decide)
  refine ⟨⟨hw.1, hw.2.1, w.wsp h0 (spok_snoc w.2.2.2 hl' (by omega) (fun _ => hg)), hw.2.2.2⟩, ?_⟩
  obtain ⟨μ', x1, x2, x3, x4⟩ := x_add H w h0 hl' (show g < 9 by omega) (fun _ => hg)
  have hq : (h.wsp (h.sp ++ [g])).q = stp h.te h.rs h.kd h.ft h.q g := run_snoc h.te h.rs h.kd h.ft h.sp g
  refine ⟨μ', ?_, x2, x3, x4⟩
  have ev := (x_hev x2).2.2.2.1
  rw [hq] at ev
  simp (config := { decide := true }) only [↓reduceIte, Option.bind_some, Option.bind_none, f_X11_walk, H.1.t0, gP_of H.1.t0 H.1.p0_0, gP_of H.1.t0 H.1.p0_1, gP_of H.1.t0 H.1.p0_2, gP_of H.1.t0 H.1.p0_3, gP_of H.1.t0 H.1.p0_4, gP_of H.1.t0 H.1.p0_5, gP_of H.1.t0 H.1.p0_6, gP_of H.1.t0 H.1.p0_7, gP_of H.1.t0 H.1.p0_8, gP_of H.1.t0 H.1.p0_9, x_hasG_ok H w hg, hxr, e1, x1, gP_of x2.1.t0 x2.1.p0_2, ev]
theorem P_floor_same (hw : WF R T h K) {f : Nat} (hf : f < 3) (h0 : ¬ h.n = 0) (hs : h.q.2.2.1 = f) (H : XI R T F h K μ a) : XO R T F h K μ a (-4) (f_X11_floor μ a (nI f)) := by
  have w := hw.2.2.1
  have e1 : nI f ≤ 2 := (show nI f ≤ nI 2 from nI_le (by omega) (by decide))
  have e3 : ¬ nI f < 0 := nI_pos (by omega)
  refine XO.same H ?_
  simp (config := { decide := true }) only [↓reduceIte, Option.bind_some, Option.bind_none, f_X11_floor, H.1.t0, gP_of H.1.t0 H.1.p0_0, gP_of H.1.t0 H.1.p0_1, gP_of H.1.t0 H.1.p0_2, gP_of H.1.t0 H.1.p0_3, gP_of H.1.t0 H.1.p0_4, gP_of H.1.t0 H.1.p0_5, gP_of H.1.t0 H.1.p0_6, gP_of H.1.t0 H.1.p0_7, gP_of H.1.t0 H.1.p0_8, gP_of H.1.t0 H.1.p0_9, e3, e1, x_full H w h0, x_hev H, hs]
theorem P_floor (hw : WF R T h K) {f : Nat} (hf : f < 3) (h0 : ¬ h.n = 0) (hs : ¬ h.q.2.2.1 = f) (hl' : h.sp.length < 60) (H : XI R T F h K μ a) : WF R T (h.wsp (h.sp ++ [6 + f])) K ∧ XO R T F (h.wsp (h.sp ++ [6 + f])) K μ a (nI h.q.2.2.1) (f_X11_floor μ a (nI f)) := by
  have w := hw.2.2.1
  have hl := w.2.2.2.1
  have hfl := w.fl
  have e1 : nI f ≤ 2 := (show nI f ≤ nI 2 from nI_le (by omega) (by decide))
  have e3 : ¬ nI f < 0 := nI_pos (by omega)
  have hs' : ¬ nI h.q.2.2.1 = nI f := fun z => hs ((nI_eq (by omega) (by omega)).mp z)
  have hxr : f_X3_hasRoomFor μ (a + 3) 1 = some (if 60 < h.sp.length + 1 then 0 else 1) := x_room1 (m := 1) H hl (by decide)
  have e1' : ¬ 60 < h.sp.length + 1 := by omega
  have e6 : (6 : Int32) + nI f = nI (6 + f) := nI_add 6 f
  refine ⟨⟨hw.1, hw.2.1, w.wsp h0 (spok_snoc w.2.2.2 hl' (by omega) (fun z => by omega)), hw.2.2.2⟩, ?_⟩
  obtain ⟨μ', x1, x2, x3, x4⟩ := x_add H w h0 hl' (show 6 + f < 9 by omega) (fun z => by omega)
  refine ⟨μ', ?_, x2, x3, x4⟩
  simp (config := { decide := true }) only [↓reduceIte, Option.bind_some, Option.bind_none, f_X11_floor, H.1.t0, gP_of H.1.t0 H.1.p0_0, gP_of H.1.t0 H.1.p0_1, gP_of H.1.t0 H.1.p0_2, gP_of H.1.t0 H.1.p0_3, gP_of H.1.t0 H.1.p0_4, gP_of H.1.t0 H.1.p0_5, gP_of H.1.t0 H.1.p0_6, gP_of H.1.t0 H.1.p0_7, gP_of H.1.t0 H.1.p0_8, gP_of H.1.t0 H.1.p0_9, e3, e1, x_full H w h0, x_hev H, hs', hxr, e1', e6, x1]
theorem P_undo (hw : WF R T h K) {k : Nat} (hk : k ≤ h.sp.length) (H : XI R T F h K μ a) : WF R T (h.wsp (h.sp.take k)) K ∧ XO R T F (h.wsp (h.sp.take k)) K μ a (nI (h.sp.length - k)) (f_X11_undo μ a (nI k)) := by
  have w := hw.2.2.1
  have hl := w.2.2.2.1
  have hsk : spok h.n (h.sp.take k) := spok_take w.2.2.2 k
  have hnil : h.n = 0 → h.sp.take k = [] := fun z => by rw [w.nil z]; exact List.take_nil
  have hlen : (h.sp.take k).length = k := by rw [List.length_take]; omega
  have e0 : ¬ nI k < 0 := nI_pos (by omega)
  have e1 : nI k ≤ nI h.sp.length := nI_le (by omega) (by omega)
  have es : nI h.sp.length - nI k = nI (h.sp.length - k) := pk_sub (by omega)
  refine ⟨⟨hw.1, hw.2.1, w.wsp' hsk hnil, hw.2.2.2⟩, ?_⟩
  obtain ⟨gb, hS, hP⟩ := (XH_iff h μ a).mp H.2.2.2.2.1
  have kgb := hS.2.2.2.2.2.2.2.2.2.2.1
  have hS1 : XS h.n h.te h.rs h.rm h.kd h.ft gb h.q (wks h.sp) (sI μ (a + 5) 1 (nI k)) a := by
    obtain ⟨g1, g2, g3, g4, g5, g6, g7, g8, g9, g10, k1, k2, k3⟩ := hS
    have r : ∀ b j, b ≠ a + 5 → mI (sI μ (a + 5) 1 (nI k)) b j = mI μ b j := fun b j z => mI_ne z
    refine ⟨(r _ _ (by omega)).trans g1, (r _ _ (by omega)).trans g2, (r _ _ (by omega)).trans g3, g4, (r _ _ (by omega)).trans g5, (r _ _ (by omega)).trans g6, (r _ _ (by omega)).trans g7, (r _ _ (by omega)).trans g8, (r _ _ (by omega)).trans g9, (r _ _ (by omega)).trans g10, k1, k2, fun g hg => ?_⟩
    obtain ⟨u1', u2', u3, u4⟩ := k3 g hg
    exact ⟨u1', u2', (r _ _ (by omega)).trans u3, (r _ _ (by omega)).trans u4⟩
  have hP1 : XP (h.sp.take k) (sI μ (a + 5) 1 (nI k)) a := ⟨by rw [mI_eq, hlen], fun i hi => by
    rw [hlen] at hi
    rw [mI_ne (by omega), getD_take hi]
    exact hP.2 i (by omega)⟩
  have hL1 : LX (sI μ (a + 5) 1 (nI k)) a := H.1
  obtain ⟨μ', x1, x2, x3, x4, x5⟩ := x_anew hL1 hS1 hP1 (w.anew hsk hnil)
  have hsm : ∀ b, b ≠ a + 3 → b ≠ a + 5 → (b < gb ∨ gb + h.n ≤ b) → Sm μ μ' b := fun b z1 z2 z3 => ((Sm.rf μ b).sI z2).tr (x4 b z1 z3)
  have hP2 : XP (h.sp.take k) μ' a := hP1.mv (x4 _ (by omega) (by omega)) (x4 _ (by omega) (by omega))
  refine ⟨μ', ?_, H.hupd (h' := h.wsp (h.sp.take k)) rfl (fun b z1 z2 z3 z4 => hsm b z1 z2 (by omega)) x2 ((XH_iff _ _ _).mpr ⟨gb, x3, hP2⟩) (by rw [x5]; exact Nat.le_refl _), fun b z1 z2 => hsm b (by omega) (by omega) (by omega), by rw [x5]; exact Nat.le_refl _⟩
  simp (config := { decide := true }) only [↓reduceIte, Option.bind_some, Option.bind_none, f_X11_undo, H.1.t0, gP_of H.1.t0 H.1.p0_0, gP_of H.1.t0 H.1.p0_1, gP_of H.1.t0 H.1.p0_2, gP_of H.1.t0 H.1.p0_3, gP_of H.1.t0 H.1.p0_4, gP_of H.1.t0 H.1.p0_5, gP_of H.1.t0 H.1.p0_6, gP_of H.1.t0 H.1.p0_7, gP_of H.1.t0 H.1.p0_8, gP_of H.1.t0 H.1.p0_9, e0, x_hev H, e1, pI_of H.1.t5, gP_of hL1.t0 hL1.p0_2, x1, es]
theorem P_keep (hw : WF R T h K) {k : Nat} (hk : k < 3) (h0 : ¬ h.n = 0) (H : XI R T F h K μ a) : WF R T h (u1 K k (some (h.ft, h.sp))) ∧ XO R T F h (u1 K k (some (h.ft, h.sp))) μ a (nI h.sp.length) (f_X11_keep μ a (nI k)) := by
  have w := hw.2.2.1
  have hl := w.2.2.2.1
  have hn6 := w.1
  refine ⟨⟨hw.1, hw.2.1, w, fun j hj v hv => ?_⟩, ?_⟩
  · by_cases e : j = k
    · subst e
      rw [u1_eq] at hv
      cases hv
      exact ⟨by omega, w.2.2.2, fun g hg => (w.2.2.1 g hg).2⟩
    · rw [u1_ne e] at hv
      exact hw.2.2.2 j hj v hv
  · obtain ⟨gb, hS, hP⟩ := (XH_iff h μ a).mp H.2.2.2.2.1
    obtain ⟨k1, k2, k3, k4, k5, k6, k7, k8⟩ := H.1.kept hk
    have t1 := x_tell_l (b := a + 15 + k) (g0 := mI μ (a + 15 + k)) H.1 hS hn6 (fun g hg => (w.2.2.1 g hg).1) k7 k8 (by omega) (by omega) BIG 0 (by omega) (by unfold BIG; omega)
    rw [filf_0, sR_self] at t1
    have t1' : lp_X3_tellFeet_2 BIG (a + 3) (a + 15 + k) 0 μ = some (sR μ (a + 15 + k) (filf (mI μ (a + 15 + k)) h.n (fun x => nI (h.ft x)))) := t1
    have hL1 : LX (sR μ (a + 15 + k) (filf (mI μ (a + 15 + k)) h.n (fun x => nI (h.ft x)))) a := H.1
    have n1 : ∀ b j, b ≠ a + 15 + k → mI (sR μ (a + 15 + k) (filf (mI μ (a + 15 + k)) h.n (fun x => nI (h.ft x)))) b j = mI μ b j := fun b j z => mR_ne z
    have t2 := s_takeFrom (μ := sR μ (a + 15 + k) (filf (mI μ (a + 15 + k)) h.n (fun x => nI (h.ft x)))) (s := a + 53 + 2 * k) (p := a + 5) (n := h.sp.length) k2 k3 k4 k5 hL1.t5 hL1.p5_0 hL1.t6 hL1.n6 hl ((n1 _ _ (by omega)).trans hP.1) (by omega) (by omega) (by omega)
    have eAP : aP μ (a + 14) 26 (nI k) = some (a + 15 + k) := aP_of H.1.t14 (by rw [H.1.n14]; exact hk) (by omega) k6
    have eAS : aP (sR μ (a + 15 + k) (filf (mI μ (a + 15 + k)) h.n (fun x => nI (h.ft x)))) (a + 13) 25 (nI k) = some (a + 53 + 2 * k) := hL1.fk.get hk
    have hL2 : LX (sR (sI (sR μ (a + 15 + k) (filf (mI μ (a + 15 + k)) h.n (fun x => nI (h.ft x)))) (a + 53 + 2 * k) 1 (nI h.sp.length)) (a + 54 + 2 * k) (filf (mI (sR μ (a + 15 + k) (filf (mI μ (a + 15 + k)) h.n (fun x => nI (h.ft x)))) (a + 54 + 2 * k)) h.sp.length (mI (sR μ (a + 15 + k) (filf (mI μ (a + 15 + k)) h.n (fun x => nI (h.ft x)))) (a + 6)))) a := H.1
    have e5 : gI (sR (sI (sR μ (a + 15 + k) (filf (mI μ (a + 15 + k)) h.n (fun x => nI (h.ft x)))) (a + 53 + 2 * k) 1 (nI h.sp.length)) (a + 54 + 2 * k) (filf (mI (sR μ (a + 15 + k) (filf (mI μ (a + 15 + k)) h.n (fun x => nI (h.ft x)))) (a + 54 + 2 * k)) h.sp.length (mI (sR μ (a + 15 + k) (filf (mI μ (a + 15 + k)) h.n (fun x => nI (h.ft x)))) (a + 6)))) (a + 5) 9 1 = some (nI h.sp.length) := gI_e hL2.t5 (by rw [mR_ne (by omega), mI_ne (by omega), n1 _ _ (by omega)]; exact hP.1)
    refine ⟨_, ?_, XI.kset (v := (h.ft, h.sp)) H hk (fun b z1 z2 z3 => (((Sm.rf μ b).sR z1).sI z2).sR z3) hL2 ?_ (fun i hi => ?_) (fun g hg => ?_) (Nat.le_refl _), fun b z1 z2 => (((Sm.rf μ b).sR (by omega)).sI (by omega)).sR (by omega), Nat.le_refl _⟩
    · simp (config := { decide := true }) only [↓reduceIte, Option.bind_some, Option.bind_none, f_X11_keep, H.1.t0, gP_of H.1.t0 H.1.p0_0, gP_of H.1.t0 H.1.p0_1, gP_of H.1.t0 H.1.p0_2, gP_of H.1.t0 H.1.p0_3, gP_of H.1.t0 H.1.p0_4, gP_of H.1.t0 H.1.p0_5, gP_of H.1.t0 H.1.p0_6, gP_of H.1.t0 H.1.p0_7, gP_of H.1.t0 H.1.p0_8, gP_of H.1.t0 H.1.p0_9, H.1.fk.has_ok hk, x_full H w h0, eAP, f_X3_tellFeet, H.1.t3, t1', gP_of hL1.t0 hL1.p0_3, gP_of hL1.t0 hL1.p0_2, gP_of hL1.t3 hL1.p3_1, eAS, t2, gP_of hL2.t0 hL2.p0_2, gP_of hL2.t3 hL2.p3_1, e5]
    · rw [mR_ne (by omega), mI_eq]
    · have hi' : i < h.sp.length := hi
      rw [mR_eq, filf_in hi', n1 _ _ (by omega)]
      exact hP.2 i hi'
    · rw [mR_ne (by omega), mI_ne (by omega), mR_eq, filf_in hg]
end PX1
