/-! ===== orders: the class's scores ===== -/
section OC
variable {R T : GR} {F : GF} {h : GH} {K : GK} {a : Nat} {o : Option Nat} {tt : Nat}
theorem bt_up {s g : Nat} (hb : s.testBit g = false) : s < s ||| 2 ^ g := by
  refine Nat.lt_of_le_of_ne (Nat.left_le_or) fun q => ?_
  have e : (s ||| 2 ^ g).testBit g = true := by rw [bt_ob, decide_eq_true rfl, Bool.or_true]
  rw [← q, hb] at e
  cases e
theorem bt_dn {t g : Nat} (hb : t.testBit g = true) : t ^^^ 2 ^ g < t := by
  have h1 : (t ^^^ 2 ^ g).testBit g = false := by rw [bt_xb, hb, decide_eq_true rfl]; rfl
  have h2 := bt_up h1
  have h3 : (t ^^^ 2 ^ g) ||| 2 ^ g = t := by
    apply Nat.eq_of_testBit_eq
    intro j
    rw [bt_ob, bt_xb]
    by_cases z : g = j
    · rw [decide_eq_true z, Bool.or_true, ← z, hb]
    · rw [decide_eq_false z, Bool.or_false, Bool.bne_false]
  rw [h3] at h2
  exact h2
/-- looked, and the told guild -/
def Wg (h : GH) (o : Option Nat) (tt : Nat) (μ : Mm) (a : Nat) : Prop := Lkd h μ a ∧ mI μ (a + 21) 6 = ncode o ∧ mI μ (a + 21) 7 = nI tt
theorem Wg.mv {μ μ' : Mm} (hg : Wg h o tt μ a) (h1 : ∀ j, mI μ' (a + 21) j = mI μ (a + 21) j) (h2 : ∀ j, mI μ' (a + 22) j = mI μ (a + 22) j) (h3 : ∀ j, mI μ' (a + 23) j = mI μ (a + 23) j) (h4 : ∀ j, mI μ' (a + 24) j = mI μ (a + 24) j) : Wg h o tt μ' a := ⟨hg.1.mv h2 h3 h4 (h1 4) (h1 5), by rw [h1]; exact hg.2.1, by rw [h1]; exact hg.2.2⟩
def Sc (h : GH) (o : Option Nat) (tt k : Nat) (μ : Mm) (a : Nat) : Prop := ∀ t, k ≤ t → t < 2 ^ h.n → mI μ (a + 25) t = nI (SV h o tt (h.n - pc h.n t) t)
theorem Sc.mv {k : Nat} {μ μ' : Mm} (hs : Sc h o tt k μ a) (h1 : ∀ j, mI μ' (a + 25) j = mI μ (a + 25) j) : Sc h o tt k μ' a := fun t q1 q2 => by rw [h1]; exact hs t q1 q2
theorem x_due {μ : Mm} (H : XI R T F h K μ a) (w : WH h) (hk : Lkd h μ a) {s : Nat} (hs : s < 2 ^ h.n) : aI μ (a + 24) 23 (nI s) = some (nI (b1 (due h s))) := hk.du H.1 w.1 hs
theorem x_wrongs {μ : Mm} (H : XI R T F h K μ a) (w : WH h) (h0 : ¬ h.n = 0) (hk : Wg h o tt μ a) (ho : ∀ x, o = some x → x < 6) (htt : tt < 2 ^ 31) {s g v : Nat} (hs : s < 2 ^ h.n) (hg : g < h.n) (hv : aI μ (a + 25) 21 (nI (s ||| 2 ^ g)) = some (nI v)) : f_X7_wrongsBy μ (a + 21) (nI s) (nI g) = some (nI (wr h o tt s g + v)) := by
  have hn6 := w.1
  have hp := bt_p6 hn6
  have t1 := w.te_ge h0
  have t2 := w.te_lt
  have hsg := bt_ltn hs hg
  have eo := (bt_tab s (by omega) g (by omega)).2.1
  have ed := x_due H w hk.1 hsg
  have es := hk.1.sp H.1 hn6 hsg
  have hl : spt h (s ||| 2 ^ g) < h.te := Nat.mod_lt _ (by omega)
  have e5 : gI μ (a + 21) 8 6 = some (ncode o) := gI_e H.1.t21 hk.2.1
  have e6 : gI μ (a + 21) 8 7 = some (nI tt) := gI_e H.1.t21 hk.2.2
  have hce := ncode_eq (o := o) (g := g) (by omega) ho
  have e13 : (if nI (b1 (due h (s ||| 2 ^ g))) = 0 then some (nI v) else some (nI (v + 1))) = some (nI (b1 (due h (s ||| 2 ^ g)) + v)) := by
    cases due h (s ||| 2 ^ g) with
    | true => rw [if_neg (by decide), Nat.add_comm v 1]; rfl
    | false => rw [if_pos (by decide), show b1 false + v = v from Nat.zero_add v]
  unfold wr
  by_cases q : selo o g = true
  · have e2 : ¬ nI g = ncode o := fun z => by have := hce.mp z; rw [q] at this; cases this
    rw [q]
    show _ = some (nI (b1 (due h (s ||| 2 ^ g)) + v))
    simp (config := { decide := true }) only [↓reduceIte, Option.bind_some, Option.bind_none, f_X7_wrongsBy, H.1.t21, gP_of H.1.t21 H.1.p21_3, gP_of H.1.t21 H.1.p21_2, eo, hv, ed, nI_1, e13, e5, e2]
  · have q' : selo o g = false := by
      cases hq : selo o g with
      | true => exact absurd hq q
      | false => rfl
    have e2 : ∀ (X Y : Option Int32), (if nI g = ncode o then X else Y) = X := fun X Y => if_pos (hce.mpr q')
    rw [q']
    by_cases z : spt h (s ||| 2 ^ g) = tt
    · have e3 : ∀ (X Y : Option Int32), (if nI (spt h (s ||| 2 ^ g)) = nI tt then X else Y) = X := fun X Y => if_pos (congrArg nI z)
      rw [show b1 (!false && decide (spt h (s ||| 2 ^ g) ≠ tt)) = 0 from by rw [decide_eq_false (fun y => y z)]; rfl]
      show _ = some (nI (b1 (due h (s ||| 2 ^ g)) + v))
      simp (config := { decide := true }) only [↓reduceIte, Option.bind_some, Option.bind_none, f_X7_wrongsBy, H.1.t21, gP_of H.1.t21 H.1.p21_3, gP_of H.1.t21 H.1.p21_2, gP_of H.1.t21 H.1.p21_1, eo, hv, ed, nI_1, e13, e5, e6, e2, es, e3]
    · have e3 : ¬ nI (spt h (s ||| 2 ^ g)) = nI tt := fun y => z ((nI_eq (by omega) htt).mp y)
      rw [show b1 (!false && decide (spt h (s ||| 2 ^ g) ≠ tt)) = 1 from by rw [decide_eq_true z]; rfl]
      simp (config := { decide := true }) only [↓reduceIte, Option.bind_some, Option.bind_none, f_X7_wrongsBy, H.1.t21, gP_of H.1.t21 H.1.p21_3, gP_of H.1.t21 H.1.p21_2, gP_of H.1.t21 H.1.p21_1, eo, hv, ed, e13, e5, e6, e2, es, e3, nI_1]
      rw [show b1 (due h (s ||| 2 ^ g)) + v + 1 = b1 (due h (s ||| 2 ^ g)) + 1 + v by omega]
theorem Sc.get {k m : Nat} {μ : Mm} (hc : Sc h o tt k μ a) (hL : LX μ a) (hn6 : h.n ≤ 6) {s g : Nat} (hs : s < 2 ^ h.n) (hg : g < h.n) (hb : s.testBit g = false) (hk : k ≤ s + 1) (hp : pc h.n s + (m + 1) = h.n) : aI μ (a + 25) 21 (nI (s ||| 2 ^ g)) = some (nI (SV h o tt m (s ||| 2 ^ g))) := by
  have hp6 := bt_p6 hn6
  have hsg := bt_ltn hs hg
  have := bt_up hb
  rw [aI_of hL.t25 (by rw [hL.n25]; omega) (by omega), hc _ (by omega) hsg, pc_add hg hb, show h.n - (pc h.n s + 1) = m by omega]
theorem x_wg38 {μ : Mm} (H : XI R T F h K μ a) (w : WH h) (h0 : ¬ h.n = 0) (hk : Wg h o tt μ a) (ho : ∀ x, o = some x → x < 6) (htt : tt < 2 ^ 31) {s m : Nat} (hs : s < 2 ^ h.n) (hc : Sc h o tt (s + 1) μ a) (hp : pc h.n s + (m + 1) = h.n) : ∀ (f g : Nat), g ≤ h.n → h.n < g + f → lp_X7_weigh_38 f (a + 21) (nI s) (nI (fmn (nF h o tt m s) (nS s) g).1) (nI g) μ = some (nI (SV h o tt (m + 1) s)) := by
  have hn6 := w.1
  have hp6 := bt_p6 hn6
  intro f
  induction f with
  | zero => intro g q1 q2; omega
  | succ f ih =>
    intro g q1 q2
    by_cases e : g = h.n
    · have e1 : nI h.n ≤ nI g := by rw [e]; exact Int32.le_refl _
      simp (config := { decide := true }) only [↓reduceIte, Option.bind_some, Option.bind_none, lp_X7_weigh_38, hk.1.gN H.1, e1]
      rw [e, SV_s]
    · have e1 : ¬ nI h.n ≤ nI g := nI_ge (by omega) (by omega)
      have hg : g < h.n := by omega
      have hI := ih (g + 1) (by omega) (by omega)
      rw [fmn_s] at hI
      have ebt := x_isIn (μ := μ) (show s < 64 by omega) (show g < 6 by omega)
      cases hb : s.testBit g with
      | true =>
        rw [hb] at ebt
        have ebt' : f_X7_isIn μ (nI s) (nI g) = some 1 := ebt
        have hns : ¬ (nS s g = true ∧ nF h o tt m s g < (fmn (nF h o tt m s) (nS s) g).1) := fun q => by
          have := q.1
          unfold nS at this
          rw [hb] at this
          cases this
        rw [if_neg hns] at hI
        simp (config := { decide := true }) only [↓reduceIte, Option.bind_some, Option.bind_none, lp_X7_weigh_38, hk.1.gN H.1, e1, ebt', nI_1, hI]
      | false =>
        rw [hb] at ebt
        have ebt' : f_X7_isIn μ (nI s) (nI g) = some 0 := ebt
        have ew : f_X7_wrongsBy μ (a + 21) (nI s) (nI g) = some (nI (nF h o tt m s g)) := x_wrongs H w h0 hk ho htt hs hg (hc.get H.1 hn6 hs hg hb (Nat.le_refl _) hp)
        have hlt := nF_lt (o := o) (tt := tt) hn6 hp hg hb
        have hle := fmn_le (nF h o tt m s) (nS s) g
        have hnt : nS s g = true := by unfold nS; rw [hb]; rfl
        by_cases z : nF h o tt m s g < (fmn (nF h o tt m s) (nS s) g).1
        · rw [if_pos ⟨hnt, z⟩] at hI
          have e2 : (if nI (nF h o tt m s g) < nI (fmn (nF h o tt m s) (nS s) g).1 then nI (nF h o tt m s g) else nI (fmn (nF h o tt m s) (nS s) g).1) = nI (nF h o tt m s g) := if_pos (nI_lt z (by omega))
          simp (config := { decide := true }) only [↓reduceIte, Option.bind_some, Option.bind_none, lp_X7_weigh_38, hk.1.gN H.1, e1, ebt', ew, e2, nI_1]
          exact hI
        · rw [if_neg (fun q => z q.2)] at hI
          have e2 : (if nI (nF h o tt m s g) < nI (fmn (nF h o tt m s) (nS s) g).1 then nI (nF h o tt m s g) else nI (fmn (nF h o tt m s) (nS s) g).1) = nI (fmn (nF h o tt m s) (nS s) g).1 := if_neg (nI_nlt (by omega) (by omega))
          simp (config := { decide := true }) only [↓reduceIte, Option.bind_some, Option.bind_none, lp_X7_weigh_38, hk.1.gN H.1, e1, ebt', ew, e2, nI_1]
          exact hI
theorem x_wg27 (w : WH h) (h0 : ¬ h.n = 0) (ho : ∀ x, o = some x → x < 6) (htt : tt < 2 ^ 31) : ∀ (k f : Nat) (μ : Mm), k < 2 ^ h.n → k < f → XI R T F h K μ a → Wg h o tt μ a → Sc h o tt k μ a → ∃ μ', lp_X7_weigh_27 f (a + 21) (dn k) μ = some μ' ∧ SX μ μ' a ∧ Wg h o tt μ' a ∧ Sc h o tt 0 μ' a := by
  have hn6 := w.1
  have hp6 := bt_p6 hn6
  intro k
  induction k with
  | zero =>
    intro f μ q1 q2 H hk hc
    obtain ⟨f, rfl⟩ : ∃ g, f = g + 1 := ⟨f - 1, by omega⟩
    have e1 : dn 0 < 0 := by decide
    refine ⟨μ, ?_, SX.rf μ a, hk, hc⟩
    simp (config := { decide := true }) only [↓reduceIte, Option.bind_some, Option.bind_none, lp_X7_weigh_27, e1]
  | succ k ih =>
    intro f μ q1 q2 H hk hc
    obtain ⟨f, rfl⟩ : ∃ g, f = g + 1 := ⟨f - 1, by omega⟩
    have e1 : ¬ nI k < 0 := nI_pos (by omega)
    have hne : pc h.n k ≠ h.n := fun q => by
      have := pc_max (show k < 2 ^ h.n by omega) q
      omega
    have hle := pc_le h.n k
    obtain ⟨m, hm⟩ : ∃ m, pc h.n k + (m + 1) = h.n := ⟨h.n - pc h.n k - 1, by omega⟩
    have el := x_wg38 H w h0 hk ho htt (show k < 2 ^ h.n by omega) hc hm BIG 0 (by omega) (by unfold BIG; omega)
    have el' : lp_X7_weigh_38 BIG (a + 21) (nI k) 64 0 μ = _ := el
    have qa := qI_of (v := nI (SV h o tt (m + 1) k)) H.1.t25 (show k < ln μ (a + 25) by rw [H.1.n25]; omega) (by omega)
    have s1 : SX μ (sI μ (a + 25) k (nI (SV h o tt (m + 1) k))) a := (SX.rf μ a).sI (by omega) (by omega)
    obtain ⟨μ', y1, y2, y3, y4⟩ := ih f _ (by omega) (by omega) (H.scr s1) (hk.mv (fun j => mI_ne (by omega)) (fun j => mI_ne (by omega)) (fun j => mI_ne (by omega)) (fun j => mI_ne (by omega))) (fun t q3 q4 => by
      by_cases z : t = k
      · subst z; rw [mI_eq, show h.n - pc h.n t = m + 1 by omega]
      · rw [mI_nk z]; exact hc t (by omega) q4)
    refine ⟨μ', ?_, s1.tr y2, y3, y4⟩
    show lp_X7_weigh_27 (f + 1) (a + 21) (nI k) μ = _
    simp (config := { decide := true }) only [↓reduceIte, Option.bind_some, Option.bind_none, lp_X7_weigh_27, e1, el', gP_of H.1.t21 H.1.p21_3, qa, dn_s, y1]
theorem x_weigh {μ : Mm} (H : XI R T F h K μ a) (w : WH h) (h0 : ¬ h.n = 0) (hk : Lkd h μ a) (ho : ∀ x, o = some x → x < 6) (htt : tt < 2 ^ 31) : ∃ μ', f_X7_weigh μ (a + 21) (ncode o) (nI tt) = some μ' ∧ SX μ μ' a ∧ Wg h o tt μ' a ∧ Sc h o tt 0 μ' a := by
  have hn6 := w.1
  have hp6 := bt_p6 hn6
  have hp0 := Nat.two_pow_pos h.n
  have s2 : SX μ (sI (sI μ (a + 21) 6 (ncode o)) (a + 21) 7 (nI tt)) a := ((SX.rf μ a).sI (by omega) (by omega)).sI (by omega) (by omega)
  have H2 := H.scr s2
  have hk2 : Wg h o tt (sI (sI μ (a + 21) 6 (ncode o)) (a + 21) 7 (nI tt)) a := ⟨hk.mv (fun j => by rw [mI_ne (by omega), mI_ne (by omega)]) (fun j => by rw [mI_ne (by omega), mI_ne (by omega)]) (fun j => by rw [mI_ne (by omega), mI_ne (by omega)]) (by rw [mI_nk (by decide), mI_nk (by decide)]) (by rw [mI_nk (by decide), mI_nk (by decide)]), by rw [mI_nk (by decide), mI_eq], mI_eq⟩
  have e4 := hk2.1.gA H2.1
  have s3 : SX μ (sI (sI (sI μ (a + 21) 6 (ncode o)) (a + 21) 7 (nI tt)) (a + 25) (2 ^ h.n - 1) 0) a := s2.sI (by omega) (by omega)
  have H3 := H.scr s3
  have hk3 : Wg h o tt (sI (sI (sI μ (a + 21) 6 (ncode o)) (a + 21) 7 (nI tt)) (a + 25) (2 ^ h.n - 1) 0) a := hk2.mv (fun j => mI_ne (by omega)) (fun j => mI_ne (by omega)) (fun j => mI_ne (by omega)) (fun j => mI_ne (by omega))
  have e5 := hk3.1.gA H3.1
  have qa := qI_of (v := 0) H2.1.t25 (show 2 ^ h.n - 1 < ln (sI (sI μ (a + 21) 6 (ncode o)) (a + 21) 7 (nI tt)) (a + 25) by rw [H2.1.n25]; omega) (by omega)
  obtain ⟨μ', y1, y2, y3, y4⟩ := x_wg27 (F := F) (K := K) (R := R) (T := T) (a := a) w h0 ho htt (2 ^ h.n - 1) BIG _ (by omega) (by unfold BIG; omega) H3 hk3 (fun t q1 q2 => by
    have ht : t = 2 ^ h.n - 1 := by omega
    subst ht
    rw [mI_eq, pc_all, Nat.sub_self]; rfl)
  have eD : nI (2 ^ h.n - 1) - 1 = dn (2 ^ h.n - 1) := by
    have h2 : 2 ≤ 2 ^ h.n := by
      have := Nat.pow_le_pow_right (show 0 < 2 by decide) (show 1 ≤ h.n by omega)
      exact this
    obtain ⟨u, hu⟩ : ∃ u, 2 ^ h.n - 1 = u + 1 := ⟨2 ^ h.n - 2, by omega⟩
    rw [hu]; exact pred1 (Nat.succ_pos u)
  refine ⟨μ', ?_, s3.tr y2, y3, y4⟩
  have T1 : tg (sI μ (a + 21) 6 (ncode o)) (a + 21) = 8 := H.1.t21
  simp (config := { decide := true }) only [↓reduceIte, Option.bind_some, Option.bind_none, f_X7_weigh, H.1.t21, pI_of H.1.t21, pI_of T1, gP_of H2.1.t21 H2.1.p21_3, e4, qa, e5, eD, y1]
theorem x_fewW {μ : Mm} (H : XI R T F h K μ a) (hc : Sc h o tt 0 μ a) : f_X7_fewestWrongs μ (a + 21) = some (nI (SV h o tt h.n 0)) := by
  have e := hc 0 (Nat.le_refl _) (Nat.two_pow_pos _)
  rw [pc_0, Nat.sub_zero] at e
  have ea : aI μ (a + 25) 21 0 = some (nI (SV h o tt h.n 0)) := (aI_of (i := 0) H.1.t25 (by rw [H.1.n25]; decide) (by decide)).trans (congrArg some e)
  simp (config := { decide := true }) only [↓reduceIte, Option.bind_some, Option.bind_none, f_X7_fewestWrongs, H.1.t21, gP_of H.1.t21 H.1.p21_3, ea]
theorem x_fb {μ : Mm} (H : XI R T F h K μ a) (w : WH h) (h0 : ¬ h.n = 0) (hk : Wg h o tt μ a) (ho : ∀ x, o = some x → x < 6) (htt : tt < 2 ^ 31) {s m : Nat} (hs : s < 2 ^ h.n) (hc : Sc h o tt 0 μ a) (hp : pc h.n s + (m + 1) = h.n) : f_X7_firstBehind μ (a + 21) (nI s) = some (nI (SG h o tt m s)) := by
  have hn6 := w.1
  have hp6 := bt_p6 hn6
  obtain ⟨i1, i2, i3, i4, i5⟩ := SG_spec (o := o) (tt := tt) hn6 hp
  have esc : aI μ (a + 25) 21 (nI s) = some (nI (SV h o tt (m + 1) s)) := by rw [aI_of H.1.t25 (by rw [H.1.n25]; omega) (by omega), hc s (Nat.zero_le _) hs, show h.n - pc h.n s = m + 1 by omega]
  have hl : ∀ (d f g : Nat), g + d = SG h o tt m s → d < f → lp_X7_firstBehind_2 f (a + 21) (nI s) (nI g) μ = some (0, nI (SG h o tt m s)) := by
    intro d
    induction d with
    | zero =>
      intro f g q1 q2
      obtain ⟨f, rfl⟩ : ∃ g, f = g + 1 := ⟨f - 1, by omega⟩
      have hgS : g = SG h o tt m s := by omega
      subst hgS
      have e1 : ¬ nI h.n ≤ nI (SG h o tt m s) := nI_ge i1 (by omega)
      have ebt := x_isIn (μ := μ) (show s < 64 by omega) (show SG h o tt m s < 6 by omega)
      rw [i2] at ebt
      have ebt' : f_X7_isIn μ (nI s) (nI (SG h o tt m s)) = some 0 := ebt
      have ew : f_X7_wrongsBy μ (a + 21) (nI s) (nI (SG h o tt m s)) = some (nI (SV h o tt (m + 1) s)) := (x_wrongs H w h0 hk ho htt hs i1 (hc.get H.1 hn6 hs i1 i2 (Nat.zero_le _) hp)).trans (congrArg (fun x => some (nI x)) i3)
      simp (config := { decide := true }) only [↓reduceIte, Option.bind_some, Option.bind_none, lp_X7_firstBehind_2, gP_of H.1.t21 H.1.p21_3, hk.1.gN H.1, e1, ebt', ew, esc]
    | succ d ih =>
      intro f g q1 q2
      obtain ⟨f, rfl⟩ : ∃ g, f = g + 1 := ⟨f - 1, by omega⟩
      have hg : g < h.n := by omega
      have e1 : ¬ nI h.n ≤ nI g := nI_ge hg (by omega)
      have ebt := x_isIn (μ := μ) (show s < 64 by omega) (show g < 6 by omega)
      have hI := ih f (g + 1) (by omega) (by omega)
      cases hb : s.testBit g with
      | true =>
        rw [hb] at ebt
        have ebt' : f_X7_isIn μ (nI s) (nI g) = some 1 := ebt
        simp (config := { decide := true }) only [↓reduceIte, Option.bind_some, Option.bind_none, lp_X7_firstBehind_2, gP_of H.1.t21 H.1.p21_3, hk.1.gN H.1, e1, ebt', nI_1, hI]
      | false =>
        rw [hb] at ebt
        have ebt' : f_X7_isIn μ (nI s) (nI g) = some 0 := ebt
        have ew : f_X7_wrongsBy μ (a + 21) (nI s) (nI g) = some (nI (nF h o tt m s g)) := x_wrongs H w h0 hk ho htt hs hg (hc.get H.1 hn6 hs hg hb (Nat.zero_le _) hp)
        have hlt := nF_lt (o := o) (tt := tt) hn6 hp hg hb
        have hi4 := i4 g (by omega) hb
        have e2 : ¬ nI (nF h o tt m s g) = nI (SV h o tt (m + 1) s) := fun q => by
          have := (nI_eq (by omega) (by omega)).mp q
          omega
        simp (config := { decide := true }) only [↓reduceIte, Option.bind_some, Option.bind_none, lp_X7_firstBehind_2, gP_of H.1.t21 H.1.p21_3, hk.1.gN H.1, e1, ebt', ew, esc, e2, nI_1, hI]
  have e := hl (SG h o tt m s) BIG 0 (by omega) (by unfold BIG; omega)
  have e' : lp_X7_firstBehind_2 BIG (a + 21) (nI s) 0 μ = _ := e
  simp (config := { decide := true }) only [↓reduceIte, Option.bind_some, Option.bind_none, f_X7_firstBehind, H.1.t21, e']
/-- a strip that an order is told into -/
def Sto (μ : Mm) (s0 c0 n : Nat) : Prop := tg μ s0 = 9 ∧ mP μ s0 0 = some c0 ∧ tg μ c0 = 21 ∧ n ≤ ln μ c0 ∧ mI μ s0 1 = nI n
theorem x_tf13 (w : WH h) (h0 : ¬ h.n = 0) (ho : ∀ x, o = some x → x < 6) (htt : tt < 2 ^ 31) {s0 c0 : Nat} (hsc : s0 ≠ c0) (hc21 : c0 ≠ a + 21 ∧ c0 ≠ a + 22 ∧ c0 ≠ a + 23 ∧ c0 ≠ a + 24 ∧ c0 ≠ a + 25) {J : Mm → Prop} (hJX : ∀ μ, J μ → ∃ R', XI R' T F h K μ a) (hJs : ∀ μ i v, J μ → i < h.n → J (sI μ c0 i v)) : ∀ (m f i s : Nat) (μ : Mm), i + m = h.n → pc h.n s + m = h.n → s < 2 ^ h.n → m < f → J μ → Wg h o tt μ a → Sc h o tt 0 μ a → Sto μ s0 c0 h.n → ∃ μ', lp_X7_tellFirstOrder_13 f (a + 21) s0 (nI s) (nI i) μ = some μ' ∧ J μ' ∧ Wg h o tt μ' a ∧ Sc h o tt 0 μ' a ∧ Sto μ' s0 c0 h.n ∧ (∀ b, b ≠ c0 → Sm μ μ' b) ∧ hz μ' = hz μ ∧ (∀ j, j < i → mI μ' c0 j = mI μ c0 j) ∧ (∀ j, j < m → mI μ' c0 (i + j) = nI ((bst h o tt m s).getD j 0)) := by
  have hn6 := w.1
  have hp6 := bt_p6 hn6
  intro m
  induction m with
  | zero =>
    intro f i s μ q1 q2 q3 q4 hJ hk hc hS
    obtain ⟨f, rfl⟩ : ∃ g, f = g + 1 := ⟨f - 1, by omega⟩
    obtain ⟨R', H⟩ := hJX μ hJ
    have e1 : nI h.n ≤ nI i := nI_le (by omega) (by omega)
    refine ⟨μ, ?_, hJ, hk, hc, hS, fun b _ => Sm.rf μ b, rfl, fun _ _ => rfl, fun j hj => absurd hj (Nat.not_lt_zero _)⟩
    simp (config := { decide := true }) only [↓reduceIte, Option.bind_some, Option.bind_none, lp_X7_tellFirstOrder_13, hk.1.gN H.1, e1]
  | succ m ih =>
    intro f i s μ q1 q2 q3 q4 hJ hk hc hS
    obtain ⟨f, rfl⟩ : ∃ g, f = g + 1 := ⟨f - 1, by omega⟩
    obtain ⟨R', H⟩ := hJX μ hJ
    have e1 : ¬ nI h.n ≤ nI i := nI_ge (by omega) (by omega)
    obtain ⟨i1, i2, i3, i4, i5⟩ := SG_spec (o := o) (tt := tt) hn6 q2
    have ef := x_fb H w h0 hk ho htt q3 hc q2
    have er := s_replace_ok (v := nI (SG h o tt m s)) hS.1 hS.2.1 hS.2.2.1 hS.2.2.2.2 hS.2.2.2.1 (by omega) (show i < h.n by omega)
    have eo := (bt_tab s (by omega) _ (show SG h o tt m s < 6 by omega)).2.1
    obtain ⟨μ', y1, y2, y3, y4, y5, y6, y7, y8, y9⟩ := ih f (i + 1) (s ||| 2 ^ SG h o tt m s) (sI μ c0 i (nI (SG h o tt m s))) (by omega) (by rw [pc_add i1 i2]; omega) (bt_ltn q3 i1) (by omega) (hJs μ i _ hJ (by omega)) (hk.mv (fun j => mI_ne (Ne.symm hc21.1)) (fun j => mI_ne (Ne.symm hc21.2.1)) (fun j => mI_ne (Ne.symm hc21.2.2.1)) (fun j => mI_ne (Ne.symm hc21.2.2.2.1))) (hc.mv (fun j => mI_ne (Ne.symm hc21.2.2.2.2))) ⟨hS.1, hS.2.1, hS.2.2.1, hS.2.2.2.1, (mI_ne hsc).trans hS.2.2.2.2⟩
    refine ⟨μ', ?_, y2, y3, y4, y5, fun b hb => ((Sm.rf μ b).sI hb).tr (y6 b hb), y7, fun j hj => (y8 j (by omega)).trans (mI_nk (by omega)), fun j hj => ?_⟩
    · simp (config := { decide := true }) only [↓reduceIte, Option.bind_some, Option.bind_none, lp_X7_tellFirstOrder_13, hk.1.gN H.1, e1, ef, er, eo, nI_1, y1]
    · cases j with
      | zero =>
        rw [Nat.add_zero, y8 i (Nat.lt_succ_self i), mI_eq]
        rfl
      | succ j =>
        rw [show i + (j + 1) = i + 1 + j by omega, y9 j (by omega)]
        rfl
theorem x_tellF {μ : Mm} (w : WH h) (h0 : ¬ h.n = 0) (ho : ∀ x, o = some x → x < 6) (htt : tt < 2 ^ 31) {s0 c0 cap : Nat} (hsc : s0 ≠ c0) (hc21 : c0 ≠ a + 21 ∧ c0 ≠ a + 22 ∧ c0 ≠ a + 23 ∧ c0 ≠ a + 24 ∧ c0 ≠ a + 25) (hs21 : s0 ≠ a + 21 ∧ s0 ≠ a + 22 ∧ s0 ≠ a + 23 ∧ s0 ≠ a + 24 ∧ s0 ≠ a + 25) {J : Mm → Prop} (hJX : ∀ μ, J μ → ∃ R', XI R' T F h K μ a) (hJs : ∀ μ i v, J μ → i < h.n → J (sI μ c0 i v)) (H : XI R T F h K μ a) (hk : Wg h o tt μ a) (hc : Sc h o tt 0 μ a) (t1 : tg μ s0 = 9) (t2 : mP μ s0 0 = some c0) (t3 : tg μ c0 = 21) (t4 : ln μ c0 = cap) (t5 : cap ≤ 60) (t6 : h.n ≤ cap) (hJ0 : J (sR (sI μ s0 1 (nI h.n)) c0 (fil (mI μ c0) h.n 0))) : ∃ μ', f_X7_tellFirstOrder μ (a + 21) s0 = some μ' ∧ J μ' ∧ Wg h o tt μ' a ∧ Sc h o tt 0 μ' a ∧ Sto μ' s0 c0 h.n ∧ (∀ b, b ≠ s0 → b ≠ c0 → Sm μ μ' b) ∧ hz μ' = hz μ ∧ (∀ j, j < h.n → mI μ' c0 j = nI ((bst h o tt h.n 0).getD j 0)) := by
  have eo := s_open (v := 0) t1 t2 t3 t4 t5 hsc t6
  have hk1 : Wg h o tt (sR (sI μ s0 1 (nI h.n)) c0 (fil (mI μ c0) h.n 0)) a := hk.mv (fun j => by rw [mR_ne (Ne.symm hc21.1), mI_ne (Ne.symm hs21.1)]) (fun j => by rw [mR_ne (Ne.symm hc21.2.1), mI_ne (Ne.symm hs21.2.1)]) (fun j => by rw [mR_ne (Ne.symm hc21.2.2.1), mI_ne (Ne.symm hs21.2.2.1)]) (fun j => by rw [mR_ne (Ne.symm hc21.2.2.2.1), mI_ne (Ne.symm hs21.2.2.2.1)])
  have hc1 : Sc h o tt 0 (sR (sI μ s0 1 (nI h.n)) c0 (fil (mI μ c0) h.n 0)) a := hc.mv (fun j => by rw [mR_ne (Ne.symm hc21.2.2.2.2), mI_ne (Ne.symm hs21.2.2.2.2)])
  obtain ⟨μ', y1, y2, y3, y4, y5, y6, y7, y8, y9⟩ := x_tf13 (F := F) (K := K) (T := T) (a := a) w h0 ho htt hsc hc21 hJX hJs h.n BIG 0 0 _ (by omega) (by rw [pc_0]; omega) (Nat.two_pow_pos _) (by have := w.1; unfold BIG; omega) hJ0 hk1 hc1 ⟨t1, t2, t3, by show h.n ≤ ln μ c0; omega, by rw [mR_ne hsc, mI_eq]⟩
  have y1' : lp_X7_tellFirstOrder_13 BIG (a + 21) s0 0 0 (sR (sI μ s0 1 (nI h.n)) c0 (fil (mI μ c0) h.n 0)) = some μ' := y1
  refine ⟨μ', ?_, y2, y3, y4, y5, fun b h1 h2 => (((Sm.rf μ b).sI h1).sR h2).tr (y6 b h2), y7, fun j hj => by rw [← y9 j hj, Nat.zero_add]⟩
  simp (config := { decide := true }) only [↓reduceIte, Option.bind_some, Option.bind_none, f_X7_tellFirstOrder, H.1.t21, hk.1.gN H.1, eo, y1']
/-- the class's quiet ways -/
def Qc (h : GH) (k : Nat) (μ : Mm) (a : Nat) : Prop := ∀ t, t < k → mI μ (a + 25) t = nI (BW h t)
theorem BW_lt {h : GH} (hn6 : h.n ≤ 6) (t : Nat) : BW h t ≤ 46656 := by
  unfold BW
  have h1 := PW_le h (pc h.n t) 0 t
  have h2 := pc_le h.n t
  have h3 : h.n ^ pc h.n t ≤ 6 ^ 6 := Nat.le_trans (Nat.pow_le_pow_left hn6 _) (Nat.pow_le_pow_right (by decide) (by omega))
  have h4 : (6 : Nat) ^ 6 = 46656 := by decide
  omega
theorem x_cq21 {μ : Mm} (H : XI R T F h K μ a) (w : WH h) (hk : Lkd h μ a) {t : Nat} (ht : t < 2 ^ h.n) (hq : Qc h t μ a) : ∀ (f g : Nat), g ≤ h.n → h.n < g + f → lp_X7_countQuiet_21 f (a + 21) (nI t) (nI (sumN (fun g => if t.testBit g = true then BW h (t ^^^ 2 ^ g) else 0) g)) (nI g) μ = some (nI (sumN (fun g => if t.testBit g = true then BW h (t ^^^ 2 ^ g) else 0) h.n)) := by
  have hn6 := w.1
  have hp6 := bt_p6 hn6
  intro f
  induction f with
  | zero => intro g q1 q2; omega
  | succ f ih =>
    intro g q1 q2
    by_cases e : g = h.n
    · have e1 : nI h.n ≤ nI g := by rw [e]; exact Int32.le_refl _
      simp (config := { decide := true }) only [↓reduceIte, Option.bind_some, Option.bind_none, lp_X7_countQuiet_21, hk.gN H.1, e1]
      rw [e]
    · have e1 : ¬ nI h.n ≤ nI g := nI_ge (by omega) (by omega)
      have hg : g < h.n := by omega
      have hI := ih (g + 1) (by omega) (by omega)
      rw [sumN_s] at hI
      obtain ⟨-, -, ex, -⟩ := bt_tab t (by omega) g (by omega)
      have ebt := x_isIn (μ := μ) (show t < 64 by omega) (show g < 6 by omega)
      cases hb : t.testBit g with
      | true =>
        rw [hb] at ebt
        rw [if_pos hb] at hI
        have ebt' : f_X7_isIn μ (nI t) (nI g) = some 1 := ebt
        have hlt := bt_dn hb
        have ea : aI μ (a + 25) 21 (nI (t ^^^ 2 ^ g)) = some (nI (BW h (t ^^^ 2 ^ g))) := by rw [aI_of H.1.t25 (by rw [H.1.n25]; omega) (by omega), hq _ hlt]
        simp (config := { decide := true }) only [↓reduceIte, Option.bind_some, Option.bind_none, lp_X7_countQuiet_21, gP_of H.1.t21 H.1.p21_3, hk.gN H.1, e1, ebt', ex, ea, nI_add, nI_1, hI]
      | false =>
        rw [hb] at ebt
        rw [if_neg (by rw [hb]; decide)] at hI
        have ebt' : f_X7_isIn μ (nI t) (nI g) = some 0 := ebt
        simp (config := { decide := true }) only [↓reduceIte, Option.bind_some, Option.bind_none, lp_X7_countQuiet_21, gP_of H.1.t21 H.1.p21_3, hk.gN H.1, e1, ebt', nI_1]
        exact hI
theorem x_cq9 (w : WH h) (h0 : ¬ h.n = 0) : ∀ (f t : Nat) (μ : Mm), 1 ≤ t → t ≤ 2 ^ h.n → 2 ^ h.n < t + f → XI R T F h K μ a → Lkd h μ a → Qc h t μ a → ∃ μ', lp_X7_countQuiet_9 f (a + 21) (nI t) μ = some μ' ∧ SX μ μ' a ∧ Lkd h μ' a ∧ Qc h (2 ^ h.n) μ' a := by
  have hn6 := w.1
  have hp6 := bt_p6 hn6
  have hp0 := Nat.two_pow_pos h.n
  intro f
  induction f with
  | zero => intro t μ q0 q1 q2; omega
  | succ f ih =>
    intro t μ q0 q1 q2 H hk hq
    by_cases e : t = 2 ^ h.n
    · have e1 : nI (2 ^ h.n - 1) < nI t := nI_lt (by omega) (by omega)
      refine ⟨μ, ?_, SX.rf μ a, hk, by rw [← e]; exact hq⟩
      simp (config := { decide := true }) only [↓reduceIte, Option.bind_some, Option.bind_none, lp_X7_countQuiet_9, hk.gA H.1, e1]
    · have e1 : ¬ nI (2 ^ h.n - 1) < nI t := nI_nlt (by omega) (by omega)
      have ht : t < 2 ^ h.n := by omega
      have el := x_cq21 H w hk ht hq BIG 0 (by omega) (by unfold BIG; omega)
      have el' : lp_X7_countQuiet_21 BIG (a + 21) (nI t) 0 0 μ = _ := el
      have ed := x_due H w hk ht
      have hs := BW_s (h := h) ht (by omega)
      have qa := qI_of (v := nI (BW h t)) H.1.t25 (show t < ln μ (a + 25) by rw [H.1.n25]; omega) (by omega)
      have s1 : SX μ (sI μ (a + 25) t (nI (BW h t))) a := (SX.rf μ a).sI (by omega) (by omega)
      obtain ⟨μ', y1, y2, y3, y4⟩ := ih (t + 1) _ (by omega) (by omega) (by omega) (H.scr s1) (hk.mv (fun j => mI_ne (by omega)) (fun j => mI_ne (by omega)) (fun j => mI_ne (by omega)) (mI_ne (by omega)) (mI_ne (by omega))) (fun x hx => by
        by_cases z : x = t
        · rw [z, mI_eq]
        · rw [mI_nk z]; exact hq x (by omega))
      refine ⟨μ', ?_, s1.tr y2, y3, y4⟩
      cases hd : due h t with
      | true =>
        rw [hd] at ed
        have ed' : aI μ (a + 24) 23 (nI t) = some 1 := ed
        rw [hd, if_pos rfl] at hs
        rw [hs] at qa y1
        have qa' : qI μ (a + 25) 21 (nI t) 0 = some (sI μ (a + 25) t 0) := qa
        have y1' : lp_X7_countQuiet_9 f (a + 21) (nI (t + 1)) (sI μ (a + 25) t 0) = some μ' := y1
        simp (config := { decide := true }) only [↓reduceIte, Option.bind_some, Option.bind_none, lp_X7_countQuiet_9, hk.gA H.1, e1, el', gP_of H.1.t21 H.1.p21_3, gP_of H.1.t21 H.1.p21_2, ed', qa', nI_1, y1']
      | false =>
        rw [hd] at ed
        have ed' : aI μ (a + 24) 23 (nI t) = some 0 := ed
        rw [hd, if_neg (by decide)] at hs
        rw [hs] at qa y1
        simp (config := { decide := true }) only [↓reduceIte, Option.bind_some, Option.bind_none, lp_X7_countQuiet_9, hk.gA H.1, e1, el', gP_of H.1.t21 H.1.p21_3, gP_of H.1.t21 H.1.p21_2, ed', qa, nI_1, y1]
theorem x_cq {μ : Mm} (H : XI R T F h K μ a) (w : WH h) (h0 : ¬ h.n = 0) (hk : Lkd h μ a) : ∃ μ', f_X7_countQuiet μ (a + 21) = some (nI (BW h (2 ^ h.n - 1)), μ') ∧ SX μ μ' a ∧ Lkd h μ' a ∧ Qc h (2 ^ h.n) μ' a := by
  have hn6 := w.1
  have hp6 := bt_p6 hn6
  have hp0 := Nat.two_pow_pos h.n
  have qa : qI μ (a + 25) 21 0 1 = some (sI μ (a + 25) 0 1) := qI_of (i := 0) H.1.t25 (by rw [H.1.n25]; decide) (by decide)
  have s1 : SX μ (sI μ (a + 25) 0 1) a := (SX.rf μ a).sI (by omega) (by omega)
  obtain ⟨μ1, y1, y2, y3, y4⟩ := x_cq9 (F := F) (K := K) (R := R) (T := T) (a := a) w h0 BIG 1 _ (Nat.le_refl _) (by omega) (by unfold BIG; omega) (H.scr s1) (hk.mv (fun j => mI_ne (by omega)) (fun j => mI_ne (by omega)) (fun j => mI_ne (by omega)) (mI_ne (by omega)) (mI_ne (by omega))) (fun x hx => by
    have : x = 0 := by omega
    rw [this, mI_eq, BW_0]; rfl)
  have y1' : lp_X7_countQuiet_9 BIG (a + 21) 1 (sI μ (a + 25) 0 1) = some μ1 := y1
  have H1 := H.scr (s1.tr y2)
  have ea : aI μ1 (a + 25) 21 (nI (2 ^ h.n - 1)) = some (nI (BW h (2 ^ h.n - 1))) := by rw [aI_of H1.1.t25 (by rw [H1.1.n25]; omega) (by omega), y4 _ (by omega)]
  refine ⟨μ1, ?_, s1.tr y2, y3, y4⟩
  simp (config := { decide := true }) only [↓reduceIte, Option.bind_some, Option.bind_none, f_X7_countQuiet, H.1.t21, gP_of H.1.t21 H.1.p21_3, qa, y1', gP_of H1.1.t21 H1.1.p21_3, y3.gA H1.1, ea]
theorem x_lq {μ : Mm} (H : XI R T F h K μ a) (w : WH h) (hk : Lkd h μ a) (hq : Qc h (2 ^ h.n) μ a) : f_X7_lastInQuiet μ (a + 21) = some (nI (lsq h)) := by
  have hn6 := w.1
  have hp6 := bt_p6 hn6
  have hp0 := Nat.two_pow_pos h.n
  have ea : aI μ (a + 25) 21 (nI (2 ^ h.n - 1)) = some (nI (BW h (2 ^ h.n - 1))) := by rw [aI_of H.1.t25 (by rw [H.1.n25]; omega) (by omega), hq _ (by omega)]
  have hb0 := BW_lt hn6 (2 ^ h.n - 1)
  have hl : ∀ (f g : Nat), g ≤ h.n → h.n < g + f → lp_X7_lastInQuiet_4 f (a + 21) (nI (bts (fun g => decide (0 < BW h (2 ^ h.n - 1) ∧ 0 < BW h ((2 ^ h.n - 1) ^^^ 2 ^ g))) g)) (nI g) μ = some (nI (lsq h)) := by
    intro f
    induction f with
    | zero => intro g q1 q2; omega
    | succ f ih =>
      intro g q1 q2
      by_cases e : g = h.n
      · have e1 : nI h.n ≤ nI g := by rw [e]; exact Int32.le_refl _
        simp (config := { decide := true }) only [↓reduceIte, Option.bind_some, Option.bind_none, lp_X7_lastInQuiet_4, hk.gN H.1, e1]
        rw [e]
        rfl
      · have e1 : ¬ nI h.n ≤ nI g := nI_ge (by omega) (by omega)
        have hg : g < h.n := by omega
        have hI := ih (g + 1) (by omega) (by omega)
        rw [bts_s] at hI
        have l1 := Nat.lt_of_lt_of_le (bts_lt (fun g => decide (0 < BW h (2 ^ h.n - 1) ∧ 0 < BW h ((2 ^ h.n - 1) ^^^ 2 ^ g))) g) (bt_p6 (n := g) (by omega))
        have ex := (bt_tab (2 ^ h.n - 1) (by omega) g (by omega)).2.2.1
        have hxl := bt_xlt (show 2 ^ h.n - 1 < 2 ^ h.n by omega) hg
        have eb : aI μ (a + 25) 21 (nI ((2 ^ h.n - 1) ^^^ 2 ^ g)) = some (nI (BW h ((2 ^ h.n - 1) ^^^ 2 ^ g))) := by rw [aI_of H.1.t25 (by rw [H.1.n25]; omega) (by omega), hq _ hxl]
        have hb1 := BW_lt hn6 ((2 ^ h.n - 1) ^^^ 2 ^ g)
        by_cases z1 : 0 < BW h (2 ^ h.n - 1)
        · have c1 : ¬ nI (BW h (2 ^ h.n - 1)) ≤ 0 := nI_nle z1 (by omega)
          by_cases z2 : 0 < BW h ((2 ^ h.n - 1) ^^^ 2 ^ g)
          · have c2 : ¬ nI (BW h ((2 ^ h.n - 1) ^^^ 2 ^ g)) ≤ 0 := nI_nle z2 (by omega)
            rw [if_pos (decide_eq_true ⟨z1, z2⟩)] at hI
            simp (config := { decide := true }) only [↓reduceIte, Option.bind_some, Option.bind_none, lp_X7_lastInQuiet_4, gP_of H.1.t21 H.1.p21_3, hk.gN H.1, e1, hk.gA H.1, ea, c1, ex, eb, c2, (bt_tab _ l1 g (by omega)).2.1, nI_1]
            exact hI
          · have c2 : nI (BW h ((2 ^ h.n - 1) ^^^ 2 ^ g)) ≤ 0 := by rw [show BW h ((2 ^ h.n - 1) ^^^ 2 ^ g) = 0 by omega]; decide
            rw [if_neg (by rw [decide_eq_false (fun q => z2 q.2)]; decide), Nat.or_zero] at hI
            simp (config := { decide := true }) only [↓reduceIte, Option.bind_some, Option.bind_none, lp_X7_lastInQuiet_4, gP_of H.1.t21 H.1.p21_3, hk.gN H.1, e1, hk.gA H.1, ea, c1, ex, eb, c2, nI_1]
            exact hI
        · have c1 : nI (BW h (2 ^ h.n - 1)) ≤ 0 := by rw [show BW h (2 ^ h.n - 1) = 0 by omega]; decide
          rw [if_neg (by rw [decide_eq_false (fun q => z1 q.1)]; decide), Nat.or_zero] at hI
          simp (config := { decide := true }) only [↓reduceIte, Option.bind_some, Option.bind_none, lp_X7_lastInQuiet_4, gP_of H.1.t21 H.1.p21_3, hk.gN H.1, e1, hk.gA H.1, ea, c1, nI_1]
          exact hI
  have e := hl BIG 0 (by omega) (by unfold BIG; omega)
  have e' : lp_X7_lastInQuiet_4 BIG (a + 21) 0 0 μ = _ := e
  simp (config := { decide := true }) only [↓reduceIte, Option.bind_some, Option.bind_none, f_X7_lastInQuiet, H.1.t21, e']
end OC
