/-! ===== pace, count ===== -/
def sumN (f : Nat → Nat) : Nat → Nat
  | 0 => 0
  | k+1 => sumN f k + f k
theorem sumN_s (f : Nat → Nat) (k : Nat) : sumN f (k + 1) = sumN f k + f k := rfl
theorem sumN_u1 (f : Nat → Nat) (s : Nat) : ∀ n, sumN (u1 f s (f s + 1)) n = sumN f n + (if s < n then 1 else 0) := by
  intro n
  induction n with
  | zero => rfl
  | succ n ih =>
    rw [sumN_s, sumN_s, ih]
    by_cases h : n = s
    · subst h
      rw [u1_eq, if_neg (Nat.lt_irrefl _), if_pos (Nat.lt_succ_self _)]; omega
    · rw [u1_ne h]
      by_cases h2 : s < n
      · rw [if_pos h2, if_pos (by omega)]; omega
      · rw [if_neg h2, if_neg (by omega)]; omega
theorem wks_cons (s : Nat) (sp : List Nat) : wks (s :: sp) = (if s < 6 then 1 else 0) + wks sp := by
  unfold wks
  by_cases h : s < 6
  · rw [if_pos h, List.filter_cons_of_pos (by exact decide_eq_true h), List.length_cons]; omega
  · rw [if_neg h, List.filter_cons_of_neg (by rw [decide_eq_false h]; decide)]; omega
theorem sumN_run {te n : Nat} {rs : Int64} {kd ft : Nat → Nat} : ∀ (sp : List Nat) (q : Rst), (∀ s ∈ sp, s < 6 → s < n) → sumN (sp.foldl (stp te rs kd ft) q).2.2.2.2.2 n = sumN q.2.2.2.2.2 n + wks sp := by
  intro sp
  induction sp with
  | nil => intro q _; rfl
  | cons s sp ih =>
    intro q h
    rw [List.foldl_cons, ih _ (fun x hx => h x (List.mem_cons_of_mem _ hx)), wks_cons]
    have hs := h s (List.mem_cons_self ..)
    unfold stp
    by_cases h6 : s < 6
    · rw [if_pos h6, if_pos h6]
      show sumN (u1 q.2.2.2.2.2 s (q.2.2.2.2.2 s + 1)) n + wks sp = _
      rw [sumN_u1, if_pos (hs h6)]; omega
    · rw [if_neg h6, if_neg h6]
      show sumN q.2.2.2.2.2 n + wks sp = _
      omega
theorem sumN_0 : ∀ n, sumN (fun _ => 0) n = 0 := by
  intro n
  induction n with
  | zero => rfl
  | succ n ih => rw [sumN_s, ih]
theorem WH.wsum {h : GH} (w : WH h) : sumN h.q.2.2.2.2.2 h.n = wks h.sp := by
  have := sumN_run (te := h.te) (n := h.n) (rs := h.rs) (kd := h.kd) (ft := h.ft) h.sp r0 (fun s hs => (w.2.2.2.2 s hs).2)
  rw [show r0.2.2.2.2.2 = fun _ => 0 from rfl, sumN_0, Nat.zero_add] at this
  exact this
theorem wks_le (sp : List Nat) : wks sp ≤ sp.length := List.length_filter_le _ _
def isS (o : Nat → Option Nat) (r : Nat) : Bool := (o r).isSome
theorem x_there_l {μ : Mm} {arr N cap : Nat} {sa ca : Nat → Nat} {o : Nat → Option Nat} (h : Fam μ arr N cap sa ca) (ho : ∀ r, r < N → mI μ (sa r) 1 = en (o r) ∧ ∀ n, o r = some n → n ≤ 60) : f_X11_countThere μ arr = some (nI (cntP (isS o) N)) := by
  have hN := h.2.2.1
  have hl : ∀ (f k : Nat), k ≤ N → N < k + f → lp_X11_countThere_4 f arr (nI (cntP (isS o) k)) (nI k) μ = some (nI (cntP (isS o) N)) := by
    intro f
    induction f with
    | zero => intro k q1 q2; omega
    | succ f ih =>
      intro k q1 q2
      have ez : zI μ arr = some (nI N) := by rw [zI_of (by rw [h.1]; decide), h.2.1]
      by_cases e : k = N
      · have e1 : nI N ≤ nI k := by rw [e]; exact Int32.le_refl _
        simp (config := { decide := true }) only [↓reduceIte, Option.bind_some, Option.bind_none, lp_X11_countThere_4, h.1, ez, e1]
        rw [e]
      · have e1 : ¬ nI N ≤ nI k := nI_ge (by omega) (by omega)
        have hI := ih (k + 1) (by omega) (by omega)
        rw [cntP_s] at hI
        obtain ⟨o1, o2⟩ := ho k (by omega)
        have ht := (h.2.2.2.2 k (by omega)).2.1
        cases hok : o k with
        | none =>
          rw [show isS o k = false by unfold isS; rw [hok]; rfl] at hI
          have hI' : lp_X11_countThere_4 f arr (nI (cntP (isS o) k)) (nI (k + 1)) μ = _ := hI
          simp (config := { decide := true }) only [↓reduceIte, Option.bind_some, Option.bind_none, lp_X11_countThere_4, h.1, ez, e1, h.get (show k < N by omega), there_no ht (o1.trans (by rw [hok]; rfl)), nI_1, nI_z, hI']
        | some n =>
          rw [show isS o k = true by unfold isS; rw [hok]; rfl] at hI
          have hI' : lp_X11_countThere_4 f arr (nI (cntP (isS o) k + 1)) (nI (k + 1)) μ = _ := hI
          simp (config := { decide := true }) only [↓reduceIte, Option.bind_some, Option.bind_none, lp_X11_countThere_4, h.1, ez, e1, h.get (show k < N by omega), there_ok ht (o1.trans (by rw [hok]; rfl)) (show n < 2 ^ 31 by have := o2 n hok; omega), nI_1, hI']
  have e := hl BIG 0 (by omega) (by unfold BIG; omega)
  have e' : lp_X11_countThere_4 BIG arr 0 0 μ = _ := e
  simp (config := { decide := true }) only [↓reduceIte, Option.bind_some, Option.bind_none, f_X11_countThere, e']
/-- what is counted -/
def cv (R T : GR) (h : GH) (K : GK) (j : Nat) : Nat := if j = 0 then h.n else if j = 1 then h.te else if j = 2 then h.q.1 else if j = 3 then h.q.2.1 else if j = 4 then h.sp.length else if j = 5 then h.q.2.2.1 else if j = 6 then h.rm else if j = 7 then cntP (isHv h) h.n else if j = 8 then cntP (isS R.1) 6 else if j = 9 then cntP (isS T.1) 4 else cntP (isS fun k => (K k).map fun v => v.2.length) 3
theorem x_count {R T : GR} {F : GF} {h : GH} {K : GK} {μ : Mm} {a j : Nat} (H : XI R T F h K μ a) (hw : WF R T h K) (hj : j ≤ 10) : f_X11_count μ a (nI j) = some (nI (cv R T h K j)) := by
  have w := hw.2.2.1
  have c8 := x_there_l H.1.fr (o := R.1) (fun r hr => ⟨(H.2.1 r hr).1, fun n hn => Nat.le_trans (hw.1 r hr n hn) (by decide)⟩)
  have c9 := x_there_l H.1.ft (o := T.1) (fun r hr => ⟨(H.2.2.1 r hr).1, fun n hn => hw.2.1 r hr n hn⟩)
  have c10 := x_there_l H.1.fk (o := fun k => (K k).map fun v => v.2.length) (fun k hk => ⟨(H.2.2.2.2.2.1 k hk).1, fun n hn => by
    cases hv : K k with
    | none => rw [hv] at hn; cases hn
    | some v => rw [hv] at hn; cases hn; exact (hw.2.2.2 k hk v hv).2.1.1⟩)
  rcases (show j = 0 ∨ j = 1 ∨ j = 2 ∨ j = 3 ∨ j = 4 ∨ j = 5 ∨ j = 6 ∨ j = 7 ∨ j = 8 ∨ j = 9 ∨ j = 10 by omega) with rfl | rfl | rfl | rfl | rfl | rfl | rfl | rfl | rfl | rfl | rfl <;>
    simp (config := { decide := true }) only [↓reduceIte, Option.bind_some, Option.bind_none, f_X11_count, H.1.t0, gP_of H.1.t0 H.1.p0_0, gP_of H.1.t0 H.1.p0_1, gP_of H.1.t0 H.1.p0_2, gP_of H.1.t0 H.1.p0_3, gP_of H.1.t0 H.1.p0_4, gP_of H.1.t0 H.1.p0_5, gP_of H.1.t0 H.1.p0_6, gP_of H.1.t0 H.1.p0_7, gP_of H.1.t0 H.1.p0_8, gP_of H.1.t0 H.1.p0_9, x_hev H, x_countHeavy H w, c8, c9, c10, show nI 0 = 0 from rfl, show nI 1 = 1 from rfl, show nI 2 = 2 from rfl, show nI 3 = 3 from rfl, show nI 4 = 4 from rfl, show nI 5 = 5 from rfl, show nI 6 = 6 from rfl, show nI 7 = 7 from rfl, show nI 8 = 8 from rfl, show nI 9 = 9 from rfl, show nI 10 = 10 from rfl] <;> rfl