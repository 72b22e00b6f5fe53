/-! ===== one that walks again and again ===== -/
section AG
variable {b L : Nat} {xs : Nat → Int32} {T : GR} {h : GH} {K : GK} {a : Nat}
/-- the same with the rows told -/
def JR (R : GR) (h : GH) (T : GR) (K : GK) (a : Nat) (μ : Mm) : Prop := ∃ F, XI R T F h K μ a ∧ WF R T h K
theorem JR.jj {R : GR} {h : GH} {μ : Mm} (hJ : JR R h T K a μ) (hR : ∀ r, r < 6 → r ≠ 1 → R.1 r = none) : JJ h T K a μ := by
  obtain ⟨F, H, hw⟩ := hJ
  exact ⟨R, F, H, hw, hR⟩
theorem JJ.jr {h : GH} {μ : Mm} (hJ : JJ h T K a μ) : ∃ R, JR R h T K a μ ∧ ∀ r, r < 6 → r ≠ 1 → R.1 r = none := by
  obtain ⟨R, F, H, hw, hR⟩ := hJ
  exact ⟨R, ⟨F, H, hw⟩, hR⟩
/-- a walk, between the parts -/
theorem JR_walk {R : GR} {h' : GH} {μ : Mm} (f : Fur h h') {g : Nat} (hg : g < h.n) (hn6 : h.n ≤ 6) (hl : h'.sp.length < 60) (hJ : JR R h' T K a μ) : ∃ μ', f_X11_walk μ a (nI g) = some (nI ((h'.q.1 + h.tr g) % h.te), μ') ∧ JR R (h'.wsp (h'.sp ++ [g])) T K a μ' := by
  obtain ⟨F, H, hw⟩ := hJ
  obtain ⟨hw1, μ', y1, H1, -, -⟩ := P_walk hw (g := g) (by rw [f.n]; exact hg) hl H
  have e := (f.walk (show g < 6 by omega)).2.1
  rw [wsp_q] at e
  rw [e] at y1
  exact ⟨μ', y1, F, H1, hw1⟩
theorem JR_due {R : GR} {h' : GH} {μ : Mm} (hJ : JR R h' T K a μ) : ∃ μ', f_X11_due μ a = some (nI h'.q.2.2.2.1, μ') ∧ JR R h' T K a μ' := by
  obtain ⟨F, H, hw⟩ := hJ
  obtain ⟨μ', y1, H1, -, -⟩ := P_due hw.2.2.1 H
  exact ⟨μ', y1, _, H1, hw⟩
theorem JR_undo {R : GR} {h' : GH} {μ : Mm} (f : Fur h h') {l : List Nat} (hs : h'.sp = h.sp ++ l) (hJ : JR R h' T K a μ) : ∃ μ', f_X11_undo μ a (nI h.sp.length) = some (nI l.length, μ') ∧ JR R h T K a μ' := by
  obtain ⟨F, H, hw⟩ := hJ
  have hlen : h'.sp.length = h.sp.length + l.length := by rw [hs, List.length_append]
  obtain ⟨hw1, μ', y1, H1, -, -⟩ := P_undo hw (k := h.sp.length) (by omega) H
  rw [f.undo hs] at hw1 H1
  rw [show h'.sp.length - h.sp.length = l.length by omega] at y1
  exact ⟨μ', y1, F, H1, hw1⟩
theorem J_walk {h' : GH} {μ : Mm} (f : Fur h h') {g : Nat} (hg : g < h.n) (hn6 : h.n ≤ 6) (hl : h'.sp.length < 60) (hJ : JJ h' T K a μ) : ∃ μ', f_X11_walk μ a (nI g) = some (nI ((h'.q.1 + h.tr g) % h.te), μ') ∧ JJ (h'.wsp (h'.sp ++ [g])) T K a μ' := by
  obtain ⟨R, hJ, hR⟩ := hJ.jr
  obtain ⟨μ', e, J⟩ := JR_walk f hg hn6 hl hJ
  exact ⟨μ', e, J.jj hR⟩
theorem J_due {h' : GH} {μ : Mm} (hJ : JJ h' T K a μ) : ∃ μ', f_X11_due μ a = some (nI h'.q.2.2.2.1, μ') ∧ JJ h' T K a μ' := by
  obtain ⟨R, hJ, hR⟩ := hJ.jr
  obtain ⟨μ', e, J⟩ := JR_due hJ
  exact ⟨μ', e, J.jj hR⟩
theorem J_undo {h' : GH} {μ : Mm} (f : Fur h h') {l : List Nat} (hs : h'.sp = h.sp ++ l) (hJ : JJ h' T K a μ) : ∃ μ', f_X11_undo μ a (nI h.sp.length) = some (nI l.length, μ') ∧ JJ h T K a μ' := by
  obtain ⟨R, hJ, hR⟩ := hJ.jr
  obtain ⟨μ', e, J⟩ := JR_undo f hs hJ
  exact ⟨μ', e, J.jj hR⟩
theorem JJ.w {h' : GH} {μ : Mm} (hJ : JJ h' T K a μ) : WH h' := by
  obtain ⟨R, F, H, hw, hR⟩ := hJ
  exact hw.2.2.1
/-- how many rents fell due by the first k walks -/
def crn (h : GH) (g k : Nat) : Nat := cntP (fun j => isr h.rs ((h.q.1 + (j + 1) * h.tr g) % h.te)) k
theorem ag_mod {q t te k : Nat} : ((q + k * t) % te + t) % te = (q + (k + 1) * t) % te := by
  rw [Nat.mod_add_mod, Nat.succ_mul, Nat.add_assoc]
set_option maxHeartbeats 1000000 in
theorem ag_95 (sc : SC) {g : Nat} (hg : g < h.n) (hs : h.sp.length ≤ 20) (w : WH h) {p3 v5 v6 : Int32} (h5 : v5 = ofn (fst (fun k => decide ((h.q.1 + k * h.tr g) % h.te = 0)) h.te 1)) (h6 : v6 = (match fst (fun k => isr h.rs ((h.q.1 + k * h.tr g) % h.te)) h.te 1 with | none => -9 | some k => nI k)) : ∀ (f k : Nat) (μ : Mm) (h' : GH), k ≤ 30 → 30 < k + f → Fur h h' → h'.sp = h.sp ++ List.replicate k g → h'.q.1 = (h.q.1 + k * h.tr g) % h.te → h'.q.2.2.2.1 = h.q.2.2.2.1 + crn h g k → JJ h' T K a μ → ∃ μ' h'', lp_L_again_95 sc f a p3 (nI g) v5 v6 (nI h.q.2.2.2.1) (nI (k + 1)) μ = some (1, μ') ∧ Fur h h'' ∧ h''.sp = h.sp ++ List.replicate 30 g ∧ JJ h'' T K a μ' := by
  have h0 : ¬ h.n = 0 := by omega
  have hn6 := w.1
  have t1 := w.te_ge h0
  have t2 := w.te_lt
  have tn := w.now_lt h0
  have hdu := w.bq.2.2.2.1
  intro f
  induction f with
  | zero => intro k μ h' q1 q2; omega
  | succ f ih =>
    intro k μ h' q1 q2 hf hsp hq hd hJ
    by_cases e : k = 30
    · subst e
      have e1 : (30 : Int32) < nI (30 + 1) := by decide
      refine ⟨μ, h', ?_, hf, hsp, hJ⟩
      simp (config := { decide := true }) only [↓reduceIte, Option.bind_some, Option.bind_none, lp_L_again_95, e1]
    · have e1 : ¬ (30 : Int32) < nI (k + 1) := (show ¬ nI 30 < nI (k + 1) from nI_nlt (by omega) (by decide))
      have hlen : h'.sp.length = h.sp.length + k := by rw [hsp, List.length_append, List.length_replicate]
      obtain ⟨μ1, y1, J1⟩ := J_walk hf hg hn6 (by omega) hJ
      obtain ⟨f1, f2, f3, f4⟩ := hf.walk (show g < 6 by omega)
      rw [hq, ag_mod] at y1 f2 f3
      obtain ⟨μ2, y2, J2⟩ := J_due J1
      have hc : (h'.wsp (h'.sp ++ [g])).q.2.2.2.1 = h.q.2.2.2.1 + crn h g (k + 1) := by
        rw [f3, hd, Nat.add_assoc]
        refine congrArg (fun x => h.q.2.2.2.1 + x) ?_
        unfold crn
        rw [cntP_s]
      rw [hc] at y2
      have hcl : crn h g (k + 1) ≤ k + 1 := cntP_le _ _
      have hI := ih (k + 1) μ2 (h'.wsp (h'.sp ++ [g])) (by omega) (by omega) f1 (by rw [f4, hsp, List.append_assoc, ← List.replicate_succ']) f2 hc J2
      obtain ⟨μ', h'', z1, z2⟩ := hI
      refine ⟨μ', h'', ?_, z2⟩
      generalize hX : (h.q.1 + (k + 1) * h.tr g) % h.te = X at y1 f2
      have hXt : X < 60 := by
        have := Nat.mod_lt (h.q.1 + (k + 1) * h.tr g) (show 0 < h.te by omega)
        omega
      -- the rents
      have hrent : (v6 = -9 ∧ nI (h.q.2.2.2.1 + crn h g (k + 1)) ≤ nI h.q.2.2.2.1 ∧ True) ∨ (¬ v6 ≤ 0 ∧ nI (k + 1) < v6 ∧ nI (h.q.2.2.2.1 + crn h g (k + 1)) ≤ nI h.q.2.2.2.1) ∨ (¬ v6 ≤ 0 ∧ ¬ nI (k + 1) < v6 ∧ ¬ nI (h.q.2.2.2.1 + crn h g (k + 1)) ≤ nI h.q.2.2.2.1) := by
        rcases fst_cases (fun k => isr h.rs ((h.q.1 + k * h.tr g) % h.te)) h.te 1 with ⟨j, j1, j2, j3, j4⟩ | q
        · rw [fst_some _ _ _ j j1 j2 j3 j4] at h6
          have h6 : v6 = nI j := h6
          have n0 : ¬ v6 ≤ 0 := by rw [h6]; exact nI_nle (by omega) (by omega)
          by_cases z : k + 1 < j
          · have hc0 : crn h g (k + 1) = 0 := (cntP_zero _).mpr fun i hi => j4 (i + 1) (by omega) (by omega)
            exact Or.inr (Or.inl ⟨n0, by rw [h6]; exact nI_lt z (by omega), by rw [hc0]; exact Int32.le_refl _⟩)
          · have hc0 : crn h g (k + 1) ≠ 0 := fun y => by
              have := (cntP_zero _).mp y (j - 1) (by omega)
              have e3 : j - 1 + 1 = j := by omega
              rw [e3] at this
              rw [this] at j3; cases j3
            exact Or.inr (Or.inr ⟨n0, by rw [h6]; exact nI_nlt (by omega) (by omega), nI_ge (by omega) (by omega)⟩)
        · rw [fst_none _ _ _ q] at h6
          have hc0 : crn h g (k + 1) = 0 := (cntP_zero _).mpr fun i hi => by
            obtain ⟨j, j1, j2, j3⟩ := mod_per (q := h.q.1) (t := h.tr g) (te := h.te) (by omega) (show 1 ≤ i + 1 by omega)
            show isr h.rs ((h.q.1 + (i + 1) * h.tr g) % h.te) = false
            rw [← j3]
            exact q j j1 (by omega)
          exact Or.inl ⟨h6, by rw [hc0]; exact Int32.le_refl _, trivial⟩
      -- noon
      have hnoon : (v5 = -9 ∧ ¬ nI X = 0 ∧ True ∧ True ∧ True ∧ True ∧ True) ∨ (∃ N, v5 = nI N ∧ ¬ nI N ≤ 0 ∧ ¬ nI N = 0 ∧ 0 ≤ nI N ∧ nI (k + 1) - nI (k + 1) / nI N * nI N = nI ((k + 1) % N) ∧ ((¬ nI (k + 1) = nI N ∧ ¬ nI X = 0 ∧ True) ∨ (k + 1 = N ∧ nI X = 0 ∧ nI ((k + 1) % N) = 0) ∨ (¬ nI (k + 1) = nI N ∧ nI X = 0 ∧ ¬ nI (k + 1) ≤ nI N))) := by
        rcases fst_cases (fun k => decide ((h.q.1 + k * h.tr g) % h.te = 0)) h.te 1 with ⟨N, j1, j2, j3, j4⟩ | q
        · rw [fst_some _ _ _ N j1 j2 j3 j4] at h5
          have h5 : v5 = nI N := h5
          refine Or.inr ⟨N, h5, nI_nle (by omega) (by omega), nI_ne0 (by omega) (by omega), nI_pos' (by omega), pk_rem (by omega) (by omega) (by omega), ?_⟩
          by_cases z : k + 1 = N
          · have : X = 0 := by rw [← hX, z]; exact of_decide_eq_true j3
            exact Or.inr (Or.inl ⟨z, by rw [this]; rfl, by rw [z, Nat.mod_self]; rfl⟩)
          · have zn : ¬ nI (k + 1) = nI N := fun y => z ((nI_eq (by omega) (by omega)).mp y)
            by_cases y : X = 0
            · refine Or.inr (Or.inr ⟨zn, by rw [y]; rfl, ?_⟩)
              refine nI_ge (Nat.lt_of_not_le fun x => ?_) (by omega)
              have := j4 (k + 1) (by omega) (by omega)
              have := of_decide_eq_false this
              omega
            · exact Or.inl ⟨zn, nI_ne0 (by omega) (by omega), trivial⟩
        · rw [fst_none _ _ _ q] at h5
          refine Or.inl ⟨h5, nI_ne0 (Nat.pos_of_ne_zero fun y => ?_) (by omega), trivial, trivial, trivial, trivial, trivial⟩
          obtain ⟨j, j1, j2, j3⟩ := mod_per (q := h.q.1) (t := h.tr g) (te := h.te) (by omega) (show 1 ≤ k + 1 by omega)
          have := of_decide_eq_false (q j j1 (by omega))
          rw [j3, hX] at this
          exact this y
      have e2 : nI (k + 1) + 1 = nI (k + 1 + 1) := nI_1 _
      rcases hnoon with ⟨n1, n2, -⟩ | ⟨N, n1, n2, n3, n4, n5, n6⟩
      · rcases hrent with ⟨r1, r2, -⟩ | ⟨r1, r2, r3⟩ | ⟨r1, r2, r3⟩
        · subst n1; subst r1
          simp (config := { decide := true }) only [↓reduceIte, Option.bind_some, Option.bind_none, lp_L_again_95, e1, y1, y2, n2, r2, e2, z1]
        · subst n1
          simp (config := { decide := true }) only [↓reduceIte, Option.bind_some, Option.bind_none, lp_L_again_95, e1, y1, y2, n2, r1, r2, r3, e2, z1]
        · subst n1
          simp (config := { decide := true }) only [↓reduceIte, Option.bind_some, Option.bind_none, lp_L_again_95, e1, y1, y2, n2, r1, r2, r3, e2, z1]
      · subst n1
        rcases n6 with ⟨m1, m2, -⟩ | ⟨m1, m2, m3⟩ | ⟨m1, m2, m3⟩
        · rcases hrent with ⟨r1, r2, -⟩ | ⟨r1, r2, r3⟩ | ⟨r1, r2, r3⟩
          · subst r1
            simp (config := { decide := true }) only [↓reduceIte, Option.bind_some, Option.bind_none, lp_L_again_95, e1, y1, y2, n2, n3, n4, n5, m1, m2, r2, e2, z1, ite_self]
          · simp (config := { decide := true }) only [↓reduceIte, Option.bind_some, Option.bind_none, lp_L_again_95, e1, y1, y2, n2, n3, n4, n5, m1, m2, r1, r2, r3, e2, z1, ite_self]
          · simp (config := { decide := true }) only [↓reduceIte, Option.bind_some, Option.bind_none, lp_L_again_95, e1, y1, y2, n2, n3, n4, n5, m1, m2, r1, r2, r3, e2, z1, ite_self]
        · subst m1
          rcases hrent with ⟨r1, r2, -⟩ | ⟨r1, r2, r3⟩ | ⟨r1, r2, r3⟩
          · subst r1
            simp (config := { decide := true }) only [↓reduceIte, Option.bind_some, Option.bind_none, lp_L_again_95, e1, y1, y2, n2, n3, n4, n5, m2, m3, r2, e2, z1, ite_self, eq_self]
          · simp (config := { decide := true }) only [↓reduceIte, Option.bind_some, Option.bind_none, lp_L_again_95, e1, y1, y2, n2, n3, n4, n5, m2, m3, r1, r2, r3, e2, z1, ite_self, eq_self]
          · simp (config := { decide := true }) only [↓reduceIte, Option.bind_some, Option.bind_none, lp_L_again_95, e1, y1, y2, n2, n3, n4, n5, m2, m3, r1, r2, r3, e2, z1, ite_self, eq_self]
        · rcases hrent with ⟨r1, r2, -⟩ | ⟨r1, r2, r3⟩ | ⟨r1, r2, r3⟩
          · subst r1
            simp (config := { decide := true }) only [↓reduceIte, Option.bind_some, Option.bind_none, lp_L_again_95, e1, y1, y2, n2, n3, n4, n5, m1, m2, m3, r2, e2, z1, ite_self]
          · simp (config := { decide := true }) only [↓reduceIte, Option.bind_some, Option.bind_none, lp_L_again_95, e1, y1, y2, n2, n3, n4, n5, m1, m2, m3, r1, r2, r3, e2, z1, ite_self]
          · simp (config := { decide := true }) only [↓reduceIte, Option.bind_some, Option.bind_none, lp_L_again_95, e1, y1, y2, n2, n3, n4, n5, m1, m2, m3, r1, r2, r3, e2, z1, ite_self]
theorem L_again (hL : L ≤ 260) (h0 : ¬ h.n = 0) (hs : h.sp.length ≤ 20) {μ : Mm} (hJ : JJ h T K a μ) : ∃ μ', f_L_again (b, L, xs) μ a b (nI h.n) (nI h.sp.length) = some (1, μ') ∧ JJ h T K a μ' := by
  have w := hJ.w
  have hn6 := w.1
  obtain ⟨c, hc, ec⟩ := L_cell (b := b) (xs := xs) hL (show 44 ≤ 60 by decide)
  have e28 : (2 : Nat) ^ 28 = 268435456 := by decide
  have ec' : f_L_cell (b, L, xs) μ b 44 = some (nI c) := ec μ
  have hg : c % h.n < h.n := Nat.mod_lt _ (by omega)
  have em : nI c - nI c / nI h.n * nI h.n = nI (c % h.n) := pk_rem (by omega) (by omega) (by omega)
  have hn0 : ¬ nI h.n = 0 := nI_ne0 (by omega) (by omega)
  generalize c % h.n = g at hg em
  obtain ⟨R, F, H, hw, hR⟩ := hJ
  have t2 := w.te_lt
  have y3 := P_noon w hg H
  generalize h5 : ofn (fst (fun k => decide ((h.q.1 + k * h.tr g) % h.te = 0)) h.te 1) = v5 at y3
  -- what noon says
  have hv5 : 0 ≤ v5 ∨ (¬ 0 ≤ v5 ∧ v5 = -9) := by
    rw [← h5]
    cases hq : fst (fun k => decide ((h.q.1 + k * h.tr g) % h.te = 0)) h.te 1 with
    | none => exact Or.inr ⟨by decide, rfl⟩
    | some j =>
      rcases fst_cases (fun k => decide ((h.q.1 + k * h.tr g) % h.te = 0)) h.te 1 with ⟨N, j1, j2, j3, j4⟩ | q
      · rw [fst_some _ _ _ N j1 j2 j3 j4] at hq
        cases hq
        exact Or.inl (nI_pos' (by omega))
      · rw [fst_none _ _ _ q] at hq; cases hq
  have hlast : ∀ (μ1 : Mm) (v6 : Int32), v6 = (match fst (fun k => isr h.rs ((h.q.1 + k * h.tr g) % h.te)) h.te 1 with | none => -9 | some k => nI k) → JJ h T K a μ1 → ∃ μ2 μ3, lp_L_again_95 (b, L, xs) BIG a (nI h.sp.length) (nI g) v5 v6 (nI h.q.2.2.2.1) 1 μ1 = some (1, μ2) ∧ f_X11_undo μ2 a (nI h.sp.length) = some (30, μ3) ∧ JJ h T K a μ3 := fun μ1 v6 h6 J1 => by
    obtain ⟨μ2, h'', z1, z2, z3, z4⟩ := ag_95 (K := K) (T := T) (a := a) (b, L, xs) hg hs w (p3 := nI h.sp.length) h5.symm h6 BIG 0 μ1 h (by decide) (by unfold BIG; omega) (Fur.rf h) (by rw [show List.replicate 0 g = [] from rfl, List.append_nil]) (by rw [Nat.zero_mul, Nat.add_zero, Nat.mod_eq_of_lt (w.now_lt h0)]) rfl J1
    obtain ⟨μ3, x1, x2⟩ := J_undo z2 z3 z4
    rw [List.length_replicate] at x1
    exact ⟨μ2, μ3, z1, x1, x2⟩
  cases hf : fst (fun k => isr h.rs ((h.q.1 + k * h.tr g) % h.te)) h.te 1 with
  | none =>
    obtain ⟨μ1, y4, H1, -, -⟩ := P_rent_no w hg hf H
    have y5 := P_asked H1
    obtain ⟨μ2, y6, H2, -, -⟩ := P_guild w hg (k := 2) (by decide) H1
    have y6 : f_X11_guild μ1 a (nI g) 2 = some (1, μ2) := y6
    have y7 := L_gave (P_asked H2)
    obtain ⟨μ3, y8, H3, -, -⟩ := P_due w H2
    obtain ⟨μ4, μ5, x1, x2, x3⟩ := hlast μ3 (-9) (by rw [hf]) ⟨R, _, H3, hw, hR⟩
    refine ⟨μ5, ?_, x3⟩
    rcases hv5 with v | ⟨v, v'⟩
    · simp (config := { decide := true }) only [↓reduceIte, Option.bind_some, Option.bind_none, f_L_again, ec', hn0, em, y3, y4, y5, y6, y7, y8, v, x1, x2]
    · subst v'
      simp (config := { decide := true }) only [↓reduceIte, Option.bind_some, Option.bind_none, f_L_again, ec', hn0, em, y3, y4, y5, y6, y7, y8, x1, x2]
  | some k =>
    have hk : 1 ≤ k ∧ k ≤ 60 := by
      rcases fst_cases (fun k => isr h.rs ((h.q.1 + k * h.tr g) % h.te)) h.te 1 with ⟨N, j1, j2, j3, j4⟩ | q
      · rw [fst_some _ _ _ N j1 j2 j3 j4] at hf
        cases hf
        omega
      · rw [fst_none _ _ _ q] at hf; cases hf
    obtain ⟨μ1, y4, H1, -, -⟩ := P_rent w hg hf H
    have y5 : f_X11_asked μ1 a = some (nI k * nI (h.tr g)) := P_asked H1
    obtain ⟨μ2, y6, H2, -, -⟩ := P_guild w hg (k := 2) (by decide) H1
    have y6 : f_X11_guild μ1 a (nI g) 2 = some (1, μ2) := y6
    have y7 : f_L_gave μ2 a 1 = some (nI (h.tr g)) := L_gave (P_asked H2)
    obtain ⟨μ3, y8, H3, -, -⟩ := P_due w H2
    obtain ⟨μ4, μ5, x1, x2, x3⟩ := hlast μ3 (nI k) (by rw [hf]) ⟨R, _, H3, hw, hR⟩
    have k1 : ¬ nI k ≤ 0 := nI_nle (by omega) (by omega)
    have k2 : 0 ≤ nI k := nI_pos' (by omega)
    refine ⟨μ5, ?_, x3⟩
    rcases hv5 with v | ⟨v, v'⟩
    · simp (config := { decide := true }) only [↓reduceIte, Option.bind_some, Option.bind_none, f_L_again, ec', hn0, em, y3, y4, y5, y6, y7, y8, k1, k2, v, x1, x2]
    · subst v'
      simp (config := { decide := true }) only [↓reduceIte, Option.bind_some, Option.bind_none, f_L_again, ec', hn0, em, y3, y4, y5, y6, y7, y8, k1, k2, x1, x2]
end AG
