/-! ===== pace, count ===== -/
def sumN (f : Nat → Nat) : Nat → Nat
  | 0 => 0
  | k+1 => sumN f k + f k
theorem sumN_s (f : Nat → Nat) (k : Nat) : sumN f (k + 1) = sumN f k + f k := rfl
theorem sumN_u1 (f : Nat → Nat) (s : Nat) : ∀ n, sumN (u1 f s (f s + 1)) n = sumN f n + (if s < n then 1 else 0) := by
  intro n
  induction n with
  | zero => rfl
  | succ n ih =>
    rw [sumN_s, sumN_s, ih]
    by_cases h : n = s
    · subst h
      rw [u1_eq, if_neg (Nat.lt_irrefl _), if_pos (Nat.lt_succ_self _)]; omega
    · rw [u1_ne h]
      by_cases h2 : s < n
      · rw [if_pos h2, if_pos (by omega)]; omega
      · rw [if_neg h2, if_neg (by omega)]; omega
theorem wks_cons (s : Nat) (sp : List Nat) : wks (s :: sp) = (if s < 6 then 1 else 0) + wks sp := by
  unfold wks
  by_cases h : s < 6
  · rw [if_pos h, List.filter_cons_of_pos (by exact decide_eq_true h), List.length_cons]; omega
  · rw [if_neg h, List.filter_cons_of_neg (by rw [decide_eq_false h]; decide)]; omega
theorem sumN_run {te n : Nat} {rs : Int64} {kd ft : Nat → Nat} : ∀ (sp : List Nat) (q : Rst), (∀ s ∈ sp, s < 6 → s < n) → sumN (sp.foldl (stp te rs kd ft) q).2.2.2.2.2 n = sumN q.2.2.2.2.2 n + wks sp := by
  intro sp
  induction sp with
  | nil => intro q _; rfl
  | cons s sp ih =>
    intro q h
    rw [List.foldl_cons, ih _ (fun x hx => h x (List.mem_cons_of_mem _ hx)), wks_cons]
    have hs := h s (List.mem_cons_self ..)
    unfold stp
    by_cases h6 : s < 6
    · rw [if_pos h6, if_pos h6]
      show sumN (u1 q.2.2.2.2.2 s (q.2.2.2.2.2 s + 1)) n + wks sp = _
      rw [sumN_u1, if_pos (hs h6)]; omega
    · rw [if_neg h6, if_neg h6]
      show sumN q.2.2.2.2.2 n + wks sp = _
      omega
theorem sumN_0 : ∀ n, sumN (fun _ => 0) n = 0 := by
  intro n
  induction n with
  | zero => rfl
  | succ n ih => rw [sumN_s, ih]
theorem WH.wsum {h : GH} (w : WH h) : sumN h.q.2.2.2.2.2 h.n = wks h.sp := by
  have := sumN_run (te := h.te) (n := h.n) (rs := h.rs) (kd := h.kd) (ft := h.ft) h.sp r0 (fun s hs => (w.2.2.2.2 s hs).2)
  rw [show r0.2.2.2.2.2 = fun _ => 0 from rfl, sumN_0, Nat.zero_add] at this
  exact this
theorem wks_le (sp : List Nat) : wks sp ≤ sp.length := List.length_filter_le _ _
theorem m_pace_l {R T : GR} {F : GF} {h : GH} {K : GK} {μ : Mm} {c : Nat} (H : MI R T F h K μ c) (w : WH h) : ∀ (f k : Nat), k ≤ h.n → h.n < k + f → lp_X12_pace_4 f c (nI (sumN h.q.2.2.2.2.2 k)) (nI k) μ = some (nI (sumN h.q.2.2.2.2.2 h.n)) := by
  have hn6 := w.1
  intro f
  induction f with
  | zero => intro k q1 q2; omega
  | succ f ih =>
    intro k q1 q2
    by_cases e : k = h.n
    · have e1 : nI h.n ≤ nI k := by rw [e]; exact Int32.le_refl _
      simp (config := { decide := true }) only [↓reduceIte, Option.bind_some, Option.bind_none, lp_X12_pace_4, m_hev H, e1]
      rw [e]
    · have e1 : ¬ nI h.n ≤ nI k := nI_ge (by omega) (by omega)
      have e5 : (5 : Int32) + nI k = nI (5 + k) := nI_add 5 k
      have := ih (k + 1) (by omega) (by omega)
      rw [sumN_s] at this
      simp (config := { decide := true }) only [↓reduceIte, Option.bind_some, Option.bind_none, lp_X12_pace_4, H.1.t0, gP_of H.1.t0 H.1.p0_1, gP_of H.1.t0 H.1.p0_5, gP_of H.1.t0 H.1.p0_6, gP_of H.1.t0 H.1.p0_7, gP_of H.1.t0 H.1.p0_8, gP_of H.1.t0 H.1.p0_9, gP_of H.1.t0 H.1.p0_14, gP_of H.1.t0 H.1.p0_15, gP_of H.1.t0 H.1.p0_21, gP_of H.1.t0 H.1.p0_22, gP_of H.1.t0 H.1.p0_23, gP_of H.1.t0 H.1.p0_24, gP_of H.1.t0 H.1.p0_26, gP_of H.1.t0 H.1.p0_27, gP_of H.1.t0 H.1.p0_28, gP_of H.1.t0 H.1.p0_29, gP_of H.1.t0 H.1.p0_30, gP_of H.1.t0 H.1.p0_31, gP_of H.1.t0 H.1.p0_32, gP_of H.1.t0 H.1.p0_33, gP_of H.1.t0 H.1.p0_40, gP_of H.1.t0 H.1.p0_41, gP_of H.1.t0 H.1.p0_46, gP_of H.1.t0 H.1.p0_47, gP_of H.1.t0 H.1.p0_48, m_hev H, e1, e5, m_wk H (show k < 6 by omega), nI_add, nI_1, this]
theorem PSI_pace : PS_pace INV := by
  intro μ a1 a2 hI
  refine both_of (fx := f_X11_pace) (fm := f_X12_pace) ?_ μ a1 a2 hI
  intro R T F h K hw
  have w := hw.2.2.1
  have hl := w.2.2.2.1
  have hwk := wks_le h.sp
  have hwt := w.bq.2.2.2.2.1
  have hm : ∀ μ c, MI R T F h K μ c → lp_X12_pace_4 BIG c 0 0 μ = some (nI (wks h.sp)) := fun μ c H => by
    have := m_pace_l H w BIG 0 (by omega) (by have := w.1; unfold BIG; omega)
    rw [w.wsum] at this
    exact this
  by_cases h0 : wks h.sp = 0
  · refine ⟨-3, R, T, fnd F 4, h, K, hw, fun μ a H => XO.find H (by decide) ?_, fun μ c H => MO.find H (by decide) ?_⟩
    · simp (config := { decide := true }) only [↓reduceIte, Option.bind_some, Option.bind_none, f_X11_pace, H.1.t0, gP_of H.1.t0 H.1.p0_0, gP_of H.1.t0 H.1.p0_1, gP_of H.1.t0 H.1.p0_2, gP_of H.1.t0 H.1.p0_3, gP_of H.1.t0 H.1.p0_4, gP_of H.1.t0 H.1.p0_5, gP_of H.1.t0 H.1.p0_6, gP_of H.1.t0 H.1.p0_7, gP_of H.1.t0 H.1.p0_8, gP_of H.1.t0 H.1.p0_9, x_hev H, h0, show nI 0 = 0 from rfl, xf4 H.1]
    · simp (config := { decide := true }) only [↓reduceIte, Option.bind_some, Option.bind_none, f_X12_pace, H.1.t0, gP_of H.1.t0 H.1.p0_1, gP_of H.1.t0 H.1.p0_5, gP_of H.1.t0 H.1.p0_6, gP_of H.1.t0 H.1.p0_7, gP_of H.1.t0 H.1.p0_8, gP_of H.1.t0 H.1.p0_9, gP_of H.1.t0 H.1.p0_14, gP_of H.1.t0 H.1.p0_15, gP_of H.1.t0 H.1.p0_21, gP_of H.1.t0 H.1.p0_22, gP_of H.1.t0 H.1.p0_23, gP_of H.1.t0 H.1.p0_24, gP_of H.1.t0 H.1.p0_26, gP_of H.1.t0 H.1.p0_27, gP_of H.1.t0 H.1.p0_28, gP_of H.1.t0 H.1.p0_29, gP_of H.1.t0 H.1.p0_30, gP_of H.1.t0 H.1.p0_31, gP_of H.1.t0 H.1.p0_32, gP_of H.1.t0 H.1.p0_33, gP_of H.1.t0 H.1.p0_40, gP_of H.1.t0 H.1.p0_41, gP_of H.1.t0 H.1.p0_46, gP_of H.1.t0 H.1.p0_47, gP_of H.1.t0 H.1.p0_48, hm μ c H, h0, show nI 0 = 0 from rfl, mf4 H.1]
  · have e0 : ¬ nI (wks h.sp) = 0 := nI_ne0 (by omega) (by omega)
    have l1 : (nI h.q.2.2.2.2.1).toInt64 = lN h.q.2.2.2.2.1 := nI_l (by omega)
    have l2 : (nI (wks h.sp)).toInt64 = lN (wks h.sp) := nI_l (by omega)
    refine ⟨1, R, T, rat F (lN (h.q.2.2.2.2.1 / Nat.gcd h.q.2.2.2.2.1 (wks h.sp))) (lN (wks h.sp / Nat.gcd h.q.2.2.2.2.1 (wks h.sp))), h, K, hw, fun μ a H => ⟨xrat μ a h.q.2.2.2.2.1 (wks h.sp), ?_, H.rat, fun b _ _ => ((Sm.rf μ b).sL (by omega)).sL (by omega), Nat.le_refl _⟩, fun μ c H => ⟨mrat μ c h.q.2.2.2.2.1 (wks h.sp), ?_, H.rat, fun b _ => ((Sm.rf μ b).sL (by omega)).sL (by omega), Nat.le_refl _⟩⟩
    · simp (config := { decide := true }) only [↓reduceIte, Option.bind_some, Option.bind_none, f_X11_pace, H.1.t0, gP_of H.1.t0 H.1.p0_0, gP_of H.1.t0 H.1.p0_1, gP_of H.1.t0 H.1.p0_2, gP_of H.1.t0 H.1.p0_3, gP_of H.1.t0 H.1.p0_4, gP_of H.1.t0 H.1.p0_5, gP_of H.1.t0 H.1.p0_6, gP_of H.1.t0 H.1.p0_7, gP_of H.1.t0 H.1.p0_8, gP_of H.1.t0 H.1.p0_9, x_hev H, e0, l1, l2, x_rat H.1 (show h.q.2.2.2.2.1 < 2 ^ 40 by omega) (show wks h.sp < 2 ^ 40 by omega) (show 0 < wks h.sp by omega)]
    · simp (config := { decide := true }) only [↓reduceIte, Option.bind_some, Option.bind_none, f_X12_pace, H.1.t0, gP_of H.1.t0 H.1.p0_1, gP_of H.1.t0 H.1.p0_5, gP_of H.1.t0 H.1.p0_6, gP_of H.1.t0 H.1.p0_7, gP_of H.1.t0 H.1.p0_8, gP_of H.1.t0 H.1.p0_9, gP_of H.1.t0 H.1.p0_14, gP_of H.1.t0 H.1.p0_15, gP_of H.1.t0 H.1.p0_21, gP_of H.1.t0 H.1.p0_22, gP_of H.1.t0 H.1.p0_23, gP_of H.1.t0 H.1.p0_24, gP_of H.1.t0 H.1.p0_26, gP_of H.1.t0 H.1.p0_27, gP_of H.1.t0 H.1.p0_28, gP_of H.1.t0 H.1.p0_29, gP_of H.1.t0 H.1.p0_30, gP_of H.1.t0 H.1.p0_31, gP_of H.1.t0 H.1.p0_32, gP_of H.1.t0 H.1.p0_33, gP_of H.1.t0 H.1.p0_40, gP_of H.1.t0 H.1.p0_41, gP_of H.1.t0 H.1.p0_46, gP_of H.1.t0 H.1.p0_47, gP_of H.1.t0 H.1.p0_48, m_hev H, hm μ c H, e0, l1, l2, m_rat H.1 (show h.q.2.2.2.2.1 < 2 ^ 40 by omega) (show wks h.sp < 2 ^ 40 by omega) (show 0 < wks h.sp by omega)]
def isS (o : Nat → Option Nat) (r : Nat) : Bool := (o r).isSome
theorem x_there_l {μ : Mm} {arr N cap : Nat} {sa ca : Nat → Nat} {o : Nat → Option Nat} (h : Fam μ arr N cap sa ca) (ho : ∀ r, r < N → mI μ (sa r) 1 = en (o r) ∧ ∀ n, o r = some n → n ≤ 60) : f_X11_countThere μ arr = some (nI (cntP (isS o) N)) := by
  have hN := h.2.2.1
  have hl : ∀ (f k : Nat), k ≤ N → N < k + f → lp_X11_countThere_4 f arr (nI (cntP (isS o) k)) (nI k) μ = some (nI (cntP (isS o) N)) := by
    intro f
    induction f with
    | zero => intro k q1 q2; omega
    | succ f ih =>
      intro k q1 q2
      have ez : zI μ arr = some (nI N) := by rw [zI_of (by rw [h.1]; decide), h.2.1]
      by_cases e : k = N
      · have e1 : nI N ≤ nI k := by rw [e]; exact Int32.le_refl _
        simp (config := { decide := true }) only [↓reduceIte, Option.bind_some, Option.bind_none, lp_X11_countThere_4, h.1, ez, e1]
        rw [e]
      · have e1 : ¬ nI N ≤ nI k := nI_ge (by omega) (by omega)
        have hI := ih (k + 1) (by omega) (by omega)
        rw [cntP_s] at hI
        obtain ⟨o1, o2⟩ := ho k (by omega)
        have ht := (h.2.2.2.2 k (by omega)).2.1
        cases hok : o k with
        | none =>
          rw [show isS o k = false by unfold isS; rw [hok]; rfl] at hI
          have hI' : lp_X11_countThere_4 f arr (nI (cntP (isS o) k)) (nI (k + 1)) μ = _ := hI
          simp (config := { decide := true }) only [↓reduceIte, Option.bind_some, Option.bind_none, lp_X11_countThere_4, h.1, ez, e1, h.get (show k < N by omega), there_no ht (o1.trans (by rw [hok]; rfl)), nI_1, nI_z, hI']
        | some n =>
          rw [show isS o k = true by unfold isS; rw [hok]; rfl] at hI
          have hI' : lp_X11_countThere_4 f arr (nI (cntP (isS o) k + 1)) (nI (k + 1)) μ = _ := hI
          simp (config := { decide := true }) only [↓reduceIte, Option.bind_some, Option.bind_none, lp_X11_countThere_4, h.1, ez, e1, h.get (show k < N by omega), there_ok ht (o1.trans (by rw [hok]; rfl)) (show n < 2 ^ 31 by have := o2 n hok; omega), nI_1, hI']
  have e := hl BIG 0 (by omega) (by unfold BIG; omega)
  have e' : lp_X11_countThere_4 BIG arr 0 0 μ = _ := e
  simp (config := { decide := true }) only [↓reduceIte, Option.bind_some, Option.bind_none, f_X11_countThere, e']
/-- what is counted -/
def cv (R T : GR) (h : GH) (K : GK) (j : Nat) : Nat := if j = 0 then h.n else if j = 1 then h.te else if j = 2 then h.q.1 else if j = 3 then h.q.2.1 else if j = 4 then h.sp.length else if j = 5 then h.q.2.2.1 else if j = 6 then h.rm else if j = 7 then cntP (isHv h) h.n else if j = 8 then cntP (isS R.1) 6 else if j = 9 then cntP (isS T.1) 4 else cntP (isS fun k => (K k).map fun v => v.2.length) 3
theorem x_count {R T : GR} {F : GF} {h : GH} {K : GK} {μ : Mm} {a j : Nat} (H : XI R T F h K μ a) (hw : WF R T h K) (hj : j ≤ 10) : f_X11_count μ a (nI j) = some (nI (cv R T h K j)) := by
  have w := hw.2.2.1
  have c8 := x_there_l H.1.fr (o := R.1) (fun r hr => ⟨(H.2.1 r hr).1, fun n hn => Nat.le_trans (hw.1 r hr n hn) (by decide)⟩)
  have c9 := x_there_l H.1.ft (o := T.1) (fun r hr => ⟨(H.2.2.1 r hr).1, fun n hn => hw.2.1 r hr n hn⟩)
  have c10 := x_there_l H.1.fk (o := fun k => (K k).map fun v => v.2.length) (fun k hk => ⟨(H.2.2.2.2.2.1 k hk).1, fun n hn => by
    cases hv : K k with
    | none => rw [hv] at hn; cases hn
    | some v => rw [hv] at hn; cases hn; exact (hw.2.2.2 k hk v hv).2.1.1⟩)
  rcases (show j = 0 ∨ j = 1 ∨ j = 2 ∨ j = 3 ∨ j = 4 ∨ j = 5 ∨ j = 6 ∨ j = 7 ∨ j = 8 ∨ j = 9 ∨ j = 10 by omega) with rfl | rfl | rfl | rfl | rfl | rfl | rfl | rfl | rfl | rfl | rfl <;>
    simp (config := { decide := true }) only [↓reduceIte, Option.bind_some, Option.bind_none, f_X11_count, H.1.t0, gP_of H.1.t0 H.1.p0_0, gP_of H.1.t0 H.1.p0_1, gP_of H.1.t0 H.1.p0_2, gP_of H.1.t0 H.1.p0_3, gP_of H.1.t0 H.1.p0_4, gP_of H.1.t0 H.1.p0_5, gP_of H.1.t0 H.1.p0_6, gP_of H.1.t0 H.1.p0_7, gP_of H.1.t0 H.1.p0_8, gP_of H.1.t0 H.1.p0_9, x_hev H, x_countHeavy H w, c8, c9, c10, show nI 0 = 0 from rfl, show nI 1 = 1 from rfl, show nI 2 = 2 from rfl, show nI 3 = 3 from rfl, show nI 4 = 4 from rfl, show nI 5 = 5 from rfl, show nI 6 = 6 from rfl, show nI 7 = 7 from rfl, show nI 8 = 8 from rfl, show nI 9 = 9 from rfl, show nI 10 = 10 from rfl] <;> rfl
theorem m_cnt_4 {R T : GR} {F : GF} {h : GH} {K : GK} {μ : Mm} {c j v : Nat} (H : MI R T F h K μ c) (hw : WF R T h K) (hj : j ≤ 10) : lp_X12_counted_4 BIG c (nI j) (nI v) 0 μ = some (nI (v + (if j = 7 then cntP (isHv h) h.n else 0))) := by
  have w := hw.2.2.1
  have hn6 := w.1
  have hl : ∀ (f k : Nat), k ≤ h.n → h.n < k + f → lp_X12_counted_4 f c (nI j) (nI (v + (if j = 7 then cntP (isHv h) k else 0))) (nI k) μ = some (nI (v + (if j = 7 then cntP (isHv h) h.n else 0))) := by
    intro f
    induction f with
    | zero => intro k q1 q2; omega
    | succ f ih =>
      intro k q1 q2
      by_cases e : k = h.n
      · have e1 : nI h.n ≤ nI k := by rw [e]; exact Int32.le_refl _
        simp (config := { decide := true }) only [↓reduceIte, Option.bind_some, Option.bind_none, lp_X12_counted_4, m_hev H, e1]
        rw [e]
      · have e1 : ¬ nI h.n ≤ nI k := nI_ge (by omega) (by omega)
        have hI := ih (k + 1) (by omega) (by omega)
        by_cases h7 : j = 7
        · subst h7
          rw [if_pos rfl, if_pos rfl, cntP_s] at hI
          rw [if_pos rfl, if_pos rfl]
          have e7 : nI 7 = 7 := rfl
          have hi := m_isHeavy H w (show k < h.n by omega)
          cases hb : (isHv h) k with
          | true =>
            rw [hb] at hi hI
            have hi' : f_X12_isHeavy μ c (nI k) = some 1 := hi
            have hI' : lp_X12_counted_4 f c 7 (nI (v + cntP (isHv h) k + 1)) (nI (k + 1)) μ = _ := hI
            simp (config := { decide := true }) only [↓reduceIte, Option.bind_some, Option.bind_none, lp_X12_counted_4, m_hev H, e7, e1, hi', nI_1, nI_z, hI']
          | false =>
            rw [hb] at hi hI
            have hi' : f_X12_isHeavy μ c (nI k) = some 0 := hi
            have hI' : lp_X12_counted_4 f c 7 (nI (v + cntP (isHv h) k )) (nI (k + 1)) μ = _ := hI
            simp (config := { decide := true }) only [↓reduceIte, Option.bind_some, Option.bind_none, lp_X12_counted_4, m_hev H, e7, e1, hi', nI_1, nI_z, hI']
        · rw [if_neg h7, if_neg h7] at hI
          rw [if_neg h7, if_neg h7]
          have hI' : lp_X12_counted_4 f c (nI j) (nI v) (nI (k + 1)) μ = _ := hI
          have e7 : ¬ nI j = 7 := fun z => h7 ((nI_eq (b := 7) (by omega) (by decide)).mp z)
          show lp_X12_counted_4 (f + 1) c (nI j) (nI v) (nI k) μ = _
          simp (config := { decide := true }) only [↓reduceIte, Option.bind_some, Option.bind_none, lp_X12_counted_4, m_hev H, e1, e7, nI_1, nI_z, hI']
  have e := hl BIG 0 (by omega) (by unfold BIG; omega)
  have e0 : v + (if j = 7 then cntP (isHv h) 0 else 0) = v := by
    by_cases h7 : j = 7
    · rw [if_pos h7]; rfl
    · rw [if_neg h7]; rfl
  rw [e0] at e
  exact e
theorem m_cnt_42 {R T : GR} {F : GF} {h : GH} {K : GK} {μ : Mm} {c j v : Nat} (H : MI R T F h K μ c) (hw : WF R T h K) (hj : j ≤ 10) : lp_X12_counted_42 BIG c (nI j) (nI v) 0 μ = some (nI (v + (if j = 8 then cntP (isS R.1) 6 else 0))) := by
  have w := hw.2.2.1
  have hn6 := w.1
  have hl : ∀ (f k : Nat), k ≤ 6 → 6 < k + f → lp_X12_counted_42 f c (nI j) (nI (v + (if j = 8 then cntP (isS R.1) k else 0))) (nI k) μ = some (nI (v + (if j = 8 then cntP (isS R.1) 6 else 0))) := by
    intro f
    induction f with
    | zero => intro k q1 q2; omega
    | succ f ih =>
      intro k q1 q2
      by_cases e : k = 6
      · have e1 : (6 : Int32) ≤ nI k := by rw [e]; exact Int32.le_refl _
        simp (config := { decide := true }) only [↓reduceIte, Option.bind_some, Option.bind_none, lp_X12_counted_42, e1]
        rw [e]
      · have e1 : ¬ (6 : Int32) ≤ nI k := (show ¬ nI 6 ≤ nI k from nI_ge (by omega) (by decide))
        have hI := ih (k + 1) (by omega) (by omega)
        by_cases h7 : j = 8
        · subst h7
          rw [if_pos rfl, if_pos rfl, cntP_s] at hI
          rw [if_pos rfl, if_pos rfl]
          have e7 : nI 8 = 8 := rfl
          cases hb : R.1 k with
          | none =>
            rw [show isS R.1 k = false by unfold isS; rw [hb]; rfl] at hI
            have hI' : lp_X12_counted_42 f c 8 (nI (v + cntP (isS R.1) k)) (nI (k + 1)) μ = _ := hI
            simp (config := { decide := true }) only [↓reduceIte, Option.bind_some, Option.bind_none, lp_X12_counted_42, H.1.t0, gP_of H.1.t0 H.1.p0_1, gP_of H.1.t0 H.1.p0_5, gP_of H.1.t0 H.1.p0_6, gP_of H.1.t0 H.1.p0_7, gP_of H.1.t0 H.1.p0_8, gP_of H.1.t0 H.1.p0_9, gP_of H.1.t0 H.1.p0_14, gP_of H.1.t0 H.1.p0_15, gP_of H.1.t0 H.1.p0_21, gP_of H.1.t0 H.1.p0_22, gP_of H.1.t0 H.1.p0_23, gP_of H.1.t0 H.1.p0_24, gP_of H.1.t0 H.1.p0_26, gP_of H.1.t0 H.1.p0_27, gP_of H.1.t0 H.1.p0_28, gP_of H.1.t0 H.1.p0_29, gP_of H.1.t0 H.1.p0_30, gP_of H.1.t0 H.1.p0_31, gP_of H.1.t0 H.1.p0_32, gP_of H.1.t0 H.1.p0_33, gP_of H.1.t0 H.1.p0_40, gP_of H.1.t0 H.1.p0_41, gP_of H.1.t0 H.1.p0_46, gP_of H.1.t0 H.1.p0_47, gP_of H.1.t0 H.1.p0_48, e7, e1, m_rl H (show k < 6 by omega), hb, en_no, nI_1, nI_z, hI']
          | some n =>
            rw [show isS R.1 k = true by unfold isS; rw [hb]; rfl] at hI
            have hI' : lp_X12_counted_42 f c 8 (nI (v + cntP (isS R.1) k + 1)) (nI (k + 1)) μ = _ := hI
            have hnn : ¬ nI n < 0 := nI_pos (by have := hw.1 k (by omega) n hb; omega)
            simp (config := { decide := true }) only [↓reduceIte, Option.bind_some, Option.bind_none, lp_X12_counted_42, H.1.t0, gP_of H.1.t0 H.1.p0_1, gP_of H.1.t0 H.1.p0_5, gP_of H.1.t0 H.1.p0_6, gP_of H.1.t0 H.1.p0_7, gP_of H.1.t0 H.1.p0_8, gP_of H.1.t0 H.1.p0_9, gP_of H.1.t0 H.1.p0_14, gP_of H.1.t0 H.1.p0_15, gP_of H.1.t0 H.1.p0_21, gP_of H.1.t0 H.1.p0_22, gP_of H.1.t0 H.1.p0_23, gP_of H.1.t0 H.1.p0_24, gP_of H.1.t0 H.1.p0_26, gP_of H.1.t0 H.1.p0_27, gP_of H.1.t0 H.1.p0_28, gP_of H.1.t0 H.1.p0_29, gP_of H.1.t0 H.1.p0_30, gP_of H.1.t0 H.1.p0_31, gP_of H.1.t0 H.1.p0_32, gP_of H.1.t0 H.1.p0_33, gP_of H.1.t0 H.1.p0_40, gP_of H.1.t0 H.1.p0_41, gP_of H.1.t0 H.1.p0_46, gP_of H.1.t0 H.1.p0_47, gP_of H.1.t0 H.1.p0_48, e7, e1, m_rl H (show k < 6 by omega), hb, en_some, hnn, nI_1, hI']
        · rw [if_neg h7, if_neg h7] at hI
          rw [if_neg h7, if_neg h7]
          have hI' : lp_X12_counted_42 f c (nI j) (nI v) (nI (k + 1)) μ = _ := hI
          have e7 : ¬ nI j = 8 := fun z => h7 ((nI_eq (b := 8) (by omega) (by decide)).mp z)
          show lp_X12_counted_42 (f + 1) c (nI j) (nI v) (nI k) μ = _
          simp (config := { decide := true }) only [↓reduceIte, Option.bind_some, Option.bind_none, lp_X12_counted_42, e1, e7, nI_1, nI_z, hI']
  have e := hl BIG 0 (by omega) (by unfold BIG; omega)
  have e0 : v + (if j = 8 then cntP (isS R.1) 0 else 0) = v := by
    by_cases h7 : j = 8
    · rw [if_pos h7]; rfl
    · rw [if_neg h7]; rfl
  rw [e0] at e
  exact e
theorem m_cnt_79 {R T : GR} {F : GF} {h : GH} {K : GK} {μ : Mm} {c j v : Nat} (H : MI R T F h K μ c) (hw : WF R T h K) (hj : j ≤ 10) : lp_X12_counted_79 BIG c (nI j) (nI v) 0 μ = some (nI (v + (if j = 9 then cntP (isS T.1) 4 else 0))) := by
  have w := hw.2.2.1
  have hn6 := w.1
  have hl : ∀ (f k : Nat), k ≤ 4 → 4 < k + f → lp_X12_counted_79 f c (nI j) (nI (v + (if j = 9 then cntP (isS T.1) k else 0))) (nI k) μ = some (nI (v + (if j = 9 then cntP (isS T.1) 4 else 0))) := by
    intro f
    induction f with
    | zero => intro k q1 q2; omega
    | succ f ih =>
      intro k q1 q2
      by_cases e : k = 4
      · have e1 : (4 : Int32) ≤ nI k := by rw [e]; exact Int32.le_refl _
        simp (config := { decide := true }) only [↓reduceIte, Option.bind_some, Option.bind_none, lp_X12_counted_79, e1]
        rw [e]
      · have e1 : ¬ (4 : Int32) ≤ nI k := (show ¬ nI 4 ≤ nI k from nI_ge (by omega) (by decide))
        have hI := ih (k + 1) (by omega) (by omega)
        by_cases h7 : j = 9
        · subst h7
          rw [if_pos rfl, if_pos rfl, cntP_s] at hI
          rw [if_pos rfl, if_pos rfl]
          have e7 : nI 9 = 9 := rfl
          cases hb : T.1 k with
          | none =>
            rw [show isS T.1 k = false by unfold isS; rw [hb]; rfl] at hI
            have hI' : lp_X12_counted_79 f c 9 (nI (v + cntP (isS T.1) k)) (nI (k + 1)) μ = _ := hI
            simp (config := { decide := true }) only [↓reduceIte, Option.bind_some, Option.bind_none, lp_X12_counted_79, H.1.t0, gP_of H.1.t0 H.1.p0_1, gP_of H.1.t0 H.1.p0_5, gP_of H.1.t0 H.1.p0_6, gP_of H.1.t0 H.1.p0_7, gP_of H.1.t0 H.1.p0_8, gP_of H.1.t0 H.1.p0_9, gP_of H.1.t0 H.1.p0_14, gP_of H.1.t0 H.1.p0_15, gP_of H.1.t0 H.1.p0_21, gP_of H.1.t0 H.1.p0_22, gP_of H.1.t0 H.1.p0_23, gP_of H.1.t0 H.1.p0_24, gP_of H.1.t0 H.1.p0_26, gP_of H.1.t0 H.1.p0_27, gP_of H.1.t0 H.1.p0_28, gP_of H.1.t0 H.1.p0_29, gP_of H.1.t0 H.1.p0_30, gP_of H.1.t0 H.1.p0_31, gP_of H.1.t0 H.1.p0_32, gP_of H.1.t0 H.1.p0_33, gP_of H.1.t0 H.1.p0_40, gP_of H.1.t0 H.1.p0_41, gP_of H.1.t0 H.1.p0_46, gP_of H.1.t0 H.1.p0_47, gP_of H.1.t0 H.1.p0_48, e7, e1, m_tl H (show k < 4 by omega), hb, en_no, nI_1, nI_z, hI']
          | some n =>
            rw [show isS T.1 k = true by unfold isS; rw [hb]; rfl] at hI
            have hI' : lp_X12_counted_79 f c 9 (nI (v + cntP (isS T.1) k + 1)) (nI (k + 1)) μ = _ := hI
            have hnn : ¬ nI n < 0 := nI_pos (by have := hw.2.1 k (by omega) n hb; omega)
            simp (config := { decide := true }) only [↓reduceIte, Option.bind_some, Option.bind_none, lp_X12_counted_79, H.1.t0, gP_of H.1.t0 H.1.p0_1, gP_of H.1.t0 H.1.p0_5, gP_of H.1.t0 H.1.p0_6, gP_of H.1.t0 H.1.p0_7, gP_of H.1.t0 H.1.p0_8, gP_of H.1.t0 H.1.p0_9, gP_of H.1.t0 H.1.p0_14, gP_of H.1.t0 H.1.p0_15, gP_of H.1.t0 H.1.p0_21, gP_of H.1.t0 H.1.p0_22, gP_of H.1.t0 H.1.p0_23, gP_of H.1.t0 H.1.p0_24, gP_of H.1.t0 H.1.p0_26, gP_of H.1.t0 H.1.p0_27, gP_of H.1.t0 H.1.p0_28, gP_of H.1.t0 H.1.p0_29, gP_of H.1.t0 H.1.p0_30, gP_of H.1.t0 H.1.p0_31, gP_of H.1.t0 H.1.p0_32, gP_of H.1.t0 H.1.p0_33, gP_of H.1.t0 H.1.p0_40, gP_of H.1.t0 H.1.p0_41, gP_of H.1.t0 H.1.p0_46, gP_of H.1.t0 H.1.p0_47, gP_of H.1.t0 H.1.p0_48, e7, e1, m_tl H (show k < 4 by omega), hb, en_some, hnn, nI_1, hI']
        · rw [if_neg h7, if_neg h7] at hI
          rw [if_neg h7, if_neg h7]
          have hI' : lp_X12_counted_79 f c (nI j) (nI v) (nI (k + 1)) μ = _ := hI
          have e7 : ¬ nI j = 9 := fun z => h7 ((nI_eq (b := 9) (by omega) (by decide)).mp z)
          show lp_X12_counted_79 (f + 1) c (nI j) (nI v) (nI k) μ = _
          simp (config := { decide := true }) only [↓reduceIte, Option.bind_some, Option.bind_none, lp_X12_counted_79, e1, e7, nI_1, nI_z, hI']
  have e := hl BIG 0 (by omega) (by unfold BIG; omega)
  have e0 : v + (if j = 9 then cntP (isS T.1) 0 else 0) = v := by
    by_cases h7 : j = 9
    · rw [if_pos h7]; rfl
    · rw [if_neg h7]; rfl
  rw [e0] at e
  exact e
theorem m_cnt_115 {R T : GR} {F : GF} {h : GH} {K : GK} {μ : Mm} {c j v : Nat} (H : MI R T F h K μ c) (hw : WF R T h K) (hj : j ≤ 10) : lp_X12_counted_115 BIG c (nI j) (nI v) 0 μ = some (nI (v + (if j = 10 then cntP ((isS fun k => (K k).map fun v => v.2.length)) 3 else 0))) := by
  have w := hw.2.2.1
  have hn6 := w.1
  have hl : ∀ (f k : Nat), k ≤ 3 → 3 < k + f → lp_X12_counted_115 f c (nI j) (nI (v + (if j = 10 then cntP ((isS fun k => (K k).map fun v => v.2.length)) k else 0))) (nI k) μ = some (nI (v + (if j = 10 then cntP ((isS fun k => (K k).map fun v => v.2.length)) 3 else 0))) := by
    intro f
    induction f with
    | zero => intro k q1 q2; omega
    | succ f ih =>
      intro k q1 q2
      by_cases e : k = 3
      · have e1 : (3 : Int32) ≤ nI k := by rw [e]; exact Int32.le_refl _
        simp (config := { decide := true }) only [↓reduceIte, Option.bind_some, Option.bind_none, lp_X12_counted_115, e1]
        rw [e]
      · have e1 : ¬ (3 : Int32) ≤ nI k := (show ¬ nI 3 ≤ nI k from nI_ge (by omega) (by decide))
        have hI := ih (k + 1) (by omega) (by omega)
        by_cases h7 : j = 10
        · subst h7
          rw [if_pos rfl, if_pos rfl, cntP_s] at hI
          rw [if_pos rfl, if_pos rfl]
          have e7 : nI 10 = 10 := rfl
          cases hb : K k with
          | none =>
            rw [show (isS fun k => (K k).map fun v => v.2.length) k = false by show ((K k).map fun v => v.2.length).isSome = _; rw [hb]; rfl] at hI
            have hI' : lp_X12_counted_115 f c 10 (nI (v + cntP ((isS fun k => (K k).map fun v => v.2.length)) k)) (nI (k + 1)) μ = _ := hI
            have e14 : aI μ (c + 14) 23 (nI k) = some 0 := by rw [aI_of H.1.t14 (by rw [H.1.n14]; omega) (by omega), (H.2.2.2.2.2 k (by omega)).1, hb]; rfl
            simp (config := { decide := true }) only [↓reduceIte, Option.bind_some, Option.bind_none, lp_X12_counted_115, H.1.t0, gP_of H.1.t0 H.1.p0_1, gP_of H.1.t0 H.1.p0_5, gP_of H.1.t0 H.1.p0_6, gP_of H.1.t0 H.1.p0_7, gP_of H.1.t0 H.1.p0_8, gP_of H.1.t0 H.1.p0_9, gP_of H.1.t0 H.1.p0_14, gP_of H.1.t0 H.1.p0_15, gP_of H.1.t0 H.1.p0_21, gP_of H.1.t0 H.1.p0_22, gP_of H.1.t0 H.1.p0_23, gP_of H.1.t0 H.1.p0_24, gP_of H.1.t0 H.1.p0_26, gP_of H.1.t0 H.1.p0_27, gP_of H.1.t0 H.1.p0_28, gP_of H.1.t0 H.1.p0_29, gP_of H.1.t0 H.1.p0_30, gP_of H.1.t0 H.1.p0_31, gP_of H.1.t0 H.1.p0_32, gP_of H.1.t0 H.1.p0_33, gP_of H.1.t0 H.1.p0_40, gP_of H.1.t0 H.1.p0_41, gP_of H.1.t0 H.1.p0_46, gP_of H.1.t0 H.1.p0_47, gP_of H.1.t0 H.1.p0_48, e7, e1, e14, nI_1, nI_z, hI']
          | some x =>
            rw [show (isS fun k => (K k).map fun v => v.2.length) k = true by show ((K k).map fun v => v.2.length).isSome = _; rw [hb]; rfl] at hI
            have hI' : lp_X12_counted_115 f c 10 (nI (v + cntP ((isS fun k => (K k).map fun v => v.2.length)) k + 1)) (nI (k + 1)) μ = _ := hI
            have e14 : aI μ (c + 14) 23 (nI k) = some 1 := by rw [aI_of H.1.t14 (by rw [H.1.n14]; omega) (by omega), (H.2.2.2.2.2 k (by omega)).1, hb]; rfl
            simp (config := { decide := true }) only [↓reduceIte, Option.bind_some, Option.bind_none, lp_X12_counted_115, H.1.t0, gP_of H.1.t0 H.1.p0_1, gP_of H.1.t0 H.1.p0_5, gP_of H.1.t0 H.1.p0_6, gP_of H.1.t0 H.1.p0_7, gP_of H.1.t0 H.1.p0_8, gP_of H.1.t0 H.1.p0_9, gP_of H.1.t0 H.1.p0_14, gP_of H.1.t0 H.1.p0_15, gP_of H.1.t0 H.1.p0_21, gP_of H.1.t0 H.1.p0_22, gP_of H.1.t0 H.1.p0_23, gP_of H.1.t0 H.1.p0_24, gP_of H.1.t0 H.1.p0_26, gP_of H.1.t0 H.1.p0_27, gP_of H.1.t0 H.1.p0_28, gP_of H.1.t0 H.1.p0_29, gP_of H.1.t0 H.1.p0_30, gP_of H.1.t0 H.1.p0_31, gP_of H.1.t0 H.1.p0_32, gP_of H.1.t0 H.1.p0_33, gP_of H.1.t0 H.1.p0_40, gP_of H.1.t0 H.1.p0_41, gP_of H.1.t0 H.1.p0_46, gP_of H.1.t0 H.1.p0_47, gP_of H.1.t0 H.1.p0_48, e7, e1, e14, nI_1, nI_z, hI']
        · rw [if_neg h7, if_neg h7] at hI
          rw [if_neg h7, if_neg h7]
          have hI' : lp_X12_counted_115 f c (nI j) (nI v) (nI (k + 1)) μ = _ := hI
          have e7 : ¬ nI j = 10 := fun z => h7 ((nI_eq (b := 10) (by omega) (by decide)).mp z)
          show lp_X12_counted_115 (f + 1) c (nI j) (nI v) (nI k) μ = _
          simp (config := { decide := true }) only [↓reduceIte, Option.bind_some, Option.bind_none, lp_X12_counted_115, e1, e7, nI_1, nI_z, hI']
  have e := hl BIG 0 (by omega) (by unfold BIG; omega)
  have e0 : v + (if j = 10 then cntP ((isS fun k => (K k).map fun v => v.2.length)) 0 else 0) = v := by
    by_cases h7 : j = 10
    · rw [if_pos h7]; rfl
    · rw [if_neg h7]; rfl
  rw [e0] at e
  exact e
theorem m_counted {R T : GR} {F : GF} {h : GH} {K : GK} {μ : Mm} {c j : Nat} (H : MI R T F h K μ c) (hw : WF R T h K) (hj : j ≤ 10) : f_X12_counted μ c (nI j) = some (nI (cv R T h K j)) := by
  have c1 := m_cnt_4 (v := 0) H hw hj
  have c1' : lp_X12_counted_4 BIG c (nI j) 0 0 μ = _ := c1
  rcases (show j = 0 ∨ j = 1 ∨ j = 2 ∨ j = 3 ∨ j = 4 ∨ j = 5 ∨ j = 6 ∨ j = 7 ∨ j = 8 ∨ j = 9 ∨ j = 10 by omega) with rfl | rfl | rfl | rfl | rfl | rfl | rfl | rfl | rfl | rfl | rfl <;>
    (rw [f_X12_counted, if_pos H.1.t0, c1', Option.bind_some, m_cnt_42 H hw hj, Option.bind_some, m_cnt_79 H hw hj, Option.bind_some, m_cnt_115 H hw hj, Option.bind_some]
     simp (config := { decide := true }) only [↓reduceIte, Option.bind_some, Option.bind_none, H.1.t0, gP_of H.1.t0 H.1.p0_1, gP_of H.1.t0 H.1.p0_5, gP_of H.1.t0 H.1.p0_6, gP_of H.1.t0 H.1.p0_7, gP_of H.1.t0 H.1.p0_8, gP_of H.1.t0 H.1.p0_9, gP_of H.1.t0 H.1.p0_14, gP_of H.1.t0 H.1.p0_15, gP_of H.1.t0 H.1.p0_21, gP_of H.1.t0 H.1.p0_22, gP_of H.1.t0 H.1.p0_23, gP_of H.1.t0 H.1.p0_24, gP_of H.1.t0 H.1.p0_26, gP_of H.1.t0 H.1.p0_27, gP_of H.1.t0 H.1.p0_28, gP_of H.1.t0 H.1.p0_29, gP_of H.1.t0 H.1.p0_30, gP_of H.1.t0 H.1.p0_31, gP_of H.1.t0 H.1.p0_32, gP_of H.1.t0 H.1.p0_33, gP_of H.1.t0 H.1.p0_40, gP_of H.1.t0 H.1.p0_41, gP_of H.1.t0 H.1.p0_46, gP_of H.1.t0 H.1.p0_47, gP_of H.1.t0 H.1.p0_48, m_hev H, show nI 0 = 0 from rfl, show nI 1 = 1 from rfl, show nI 2 = 2 from rfl, show nI 3 = 3 from rfl, show nI 4 = 4 from rfl, show nI 5 = 5 from rfl, show nI 6 = 6 from rfl, show nI 7 = 7 from rfl, show nI 8 = 8 from rfl, show nI 9 = 9 from rfl, show nI 10 = 10 from rfl, Nat.zero_add, Nat.add_zero] <;> rfl)
theorem PSI_count : PS_count INV := by
  intro μ a1 a2 q1 hI
  refine pure_of (fx := fun μ a => f_X11_count μ a q1) (fm := fun μ c => f_X12_count μ c q1) ?_ μ a1 a2 hI
  intro R T F h K hw
  rcases ix2 q1 11 (by decide) with h1 | ⟨j, hj, rfl⟩
  · refine ⟨-1, fun μ a H => ?_, fun μ c H => ?_⟩
    · have hne : ∀ k, k < 11 → ¬ q1 = nI k := fun k hk z => by
        rw [z] at h1
        rcases h1 with h1 | ⟨h1, h2⟩
        · exact nI_pos (by omega) h1
        · exact nI_ge hk (by decide) h2
      have n0 : ¬ q1 = 0 := hne 0 (by decide)
      have n1 : ¬ q1 = 1 := hne 1 (by decide)
      have n2 : ¬ q1 = 2 := hne 2 (by decide)
      have n3 : ¬ q1 = 3 := hne 3 (by decide)
      have n4 : ¬ q1 = 4 := hne 4 (by decide)
      have n5 : ¬ q1 = 5 := hne 5 (by decide)
      have n6 : ¬ q1 = 6 := hne 6 (by decide)
      have n7 : ¬ q1 = 7 := hne 7 (by decide)
      have n8 : ¬ q1 = 8 := hne 8 (by decide)
      have n9 : ¬ q1 = 9 := hne 9 (by decide)
      have n10 : ¬ q1 = 10 := hne 10 (by decide)
      simp (config := { decide := true }) only [↓reduceIte, Option.bind_some, Option.bind_none, f_X11_count, H.1.t0, n0, n1, n2, n3, n4, n5, n6, n7, n8, n9, n10]
    · have ein : f_X12_in μ q1 0 10 = some 0 := m_in_bad (N := 11) h1 (by decide) (by decide)
      simp (config := { decide := true }) only [↓reduceIte, Option.bind_some, Option.bind_none, f_X12_count, H.1.t0, ein]
  · refine ⟨nI (cv R T h K j), fun μ a H => x_count H hw (by omega), fun μ c H => ?_⟩
    have ein : f_X12_in μ (nI j) 0 10 = some 1 := m_in_ok (N := 11) hj (by decide)
    simp (config := { decide := true }) only [↓reduceIte, Option.bind_some, Option.bind_none, f_X12_count, H.1.t0, ein, m_counted H hw (show j ≤ 10 by omega)]
