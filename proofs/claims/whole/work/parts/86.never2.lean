/-! ===== never, keyed: what the model reaches ===== -/
def setb (A : Nat → Bool) (j : Nat) : Nat → Bool := fun y => if y = j then true else A y
theorem cntP_setb {A : Nat → Bool} {j : Nat} (h : A j = false) : ∀ n, cntP (setb A j) n = cntP A n + (if j < n then 1 else 0) := by
  intro n
  induction n with
  | zero => rfl
  | succ n ih =>
    rw [cntP_s, cntP_s, ih]
    unfold setb
    by_cases e : n = j
    · subst e
      rw [if_pos rfl, if_neg (Nat.lt_irrefl _), if_pos (Nat.lt_succ_self _), h]; rfl
    · rw [if_neg e]
      by_cases z : j < n
      · rw [if_pos z, if_pos (by omega)]; omega
      · rw [if_neg z, if_neg (by omega)]; omega
/-- closed under going on -/
def Gon (te : Nat) (A : Nat → Bool) (s : Nat) : Prop := ∀ x, x < te → A x = true → A ((x + s) % te) = true
theorem Gon.add {te : Nat} {A : Nat → Bool} {s r : Nat} (hs : Gon te A s) (hr : Gon te A r) : Gon te A (s + r) := fun x hx hA => by
  have h1 := hs x hx hA
  have h2 := hr _ (Nat.mod_lt _ (by omega)) h1
  rw [Nat.mod_add_mod, Nat.add_assoc] at h2
  exact h2
theorem Gon.zero (te : Nat) (A : Nat → Bool) : Gon te A 0 := fun x hx hA => by rw [Nat.add_zero, Nat.mod_eq_of_lt hx]; exact hA
theorem Gon.mul {te : Nat} {A : Nat → Bool} {s : Nat} (hs : Gon te A s) : ∀ k, Gon te A (k * s) := by
  intro k
  induction k with
  | zero => rw [Nat.zero_mul]; exact Gon.zero te A
  | succ k ih => rw [Nat.succ_mul]; exact ih.add hs
theorem Gon.cong {te : Nat} {A : Nat → Bool} {s r : Nat} (hs : Gon te A s) (e : s % te = r % te) : Gon te A r := fun x hx hA => by
  have h1 := hs x hx hA
  rw [Nat.add_mod, e, ← Nat.add_mod] at h1
  exact h1
theorem Gon.te (te : Nat) (A : Nat → Bool) : Gon te A te := (Gon.zero te A).cong (by rw [Nat.mod_self, Nat.zero_mod])
theorem Gon.gcd {te : Nat} {A : Nat → Bool} (hte : 0 < te) : ∀ s r : Nat, Gon te A s → Gon te A r → Gon te A (Nat.gcd s r) := by
  intro s
  induction s using Nat.strongRecOn with
  | ind s ih =>
    intro r hs hr
    by_cases h0 : s = 0
    · subst h0; rw [Nat.gcd_zero_left]; exact hr
    · rw [Nat.gcd_rec]
      refine ih (r % s) (Nat.mod_lt _ (by omega)) s ?_ hs
      refine (hr.add (hs.mul ((te - 1) * (r / s)))).cong ?_
      have e1 := Nat.div_add_mod r s
      have e2 : r + (te - 1) * (r / s) * s = r % s + te * (s * (r / s)) := by
        obtain ⟨u, rfl⟩ : ∃ u, te = u + 1 := ⟨te - 1, by omega⟩
        rw [Nat.add_sub_cancel, Nat.succ_mul, Nat.mul_assoc u (r / s) s, Nat.mul_comm (r / s) s]
        omega
      rw [e2, Nat.add_mul_mod_self_left]
theorem Gon.all {h : GH} {A : Nat → Bool} {o : Option Nat} (hte : 0 < h.te) (hg : ∀ g, g < h.n → selo o g = true → Gon h.te A (h.tr g)) : Gon h.te A (std h o) := by
  unfold std
  have : ∀ n, n ≤ h.n → Gon h.te A (gcdN h.te h.tr o n) := by
    intro n
    induction n with
    | zero => intro _; exact Gon.te _ _
    | succ n ih =>
      intro hn
      unfold gcdN
      by_cases s : selo o n = true
      · rw [if_pos s]; exact Gon.gcd hte _ _ (ih (by omega)) (hg n (by omega) s)
      · rw [if_neg s]; exact ih (by omega)
  exact this h.n (Nat.le_refl _)
theorem std_te (h : GH) (o : Option Nat) : std h o ∣ h.te := ((gcdN_dvd (t := h.tr) (o := o) (te := h.te) (std h o) h.n).mp (Nat.dvd_refl _)).1
theorem std_tr {h : GH} {o : Option Nat} {g : Nat} (hg : g < h.n) (hs : selo o g = true) : std h o ∣ h.tr g := ((gcdN_dvd (t := h.tr) (o := o) (te := h.te) (std h o) h.n).mp (Nat.dvd_refl _)).2 g hg hs
theorem rch_step {h : GH} {o : Option Nat} {g x : Nat} (hg : g < h.n) (hs : selo o g = true) (hx : rch h o x = true) : rch h o ((x + h.tr g) % h.te) = true := by
  unfold rch at hx ⊢
  have hx := of_decide_eq_true hx
  refine decide_eq_true ?_
  rw [Nat.mod_mod_of_dvd _ (std_te h o), ← hx]
  obtain ⟨u, hu⟩ := std_tr hg hs
  rw [hu, Nat.add_mul_mod_self_left]
theorem rch_all {h : GH} {o : Option Nat} {A : Nat → Bool} {x : Nat} (hte : 0 < h.te) (hn : h.q.1 < h.te) (hA : A h.q.1 = true) (hg : ∀ g, g < h.n → selo o g = true → Gon h.te A (h.tr g)) (hx : x < h.te) (hr : rch h o x = true) : A x = true := by
  have hd := Gon.all hte hg
  have hr := of_decide_eq_true hr
  have e1 := wy_add (te := h.te) (p := x) (q := h.q.1) (by omega)
  rw [Nat.mod_eq_of_lt hx] at e1
  have hgl := gcdN_le (te := h.te) (t := h.tr) (o := o) hte h.n
  have hz : wy h.te x h.q.1 % std h o = 0 := by
    have e2 : (wy h.te x h.q.1 + h.q.1) % std h o = h.q.1 % std h o := by
      rw [← Nat.mod_mod_of_dvd (wy h.te x h.q.1 + h.q.1) (std_te h o), e1, hr]
    refine mod_inj (s := h.q.1) (Nat.mod_lt _ hgl.1) hgl.1 ?_
    rw [Nat.mod_add_mod, e2, Nat.zero_add]
  have hdv := Nat.dvd_of_mod_eq_zero hz
  obtain ⟨u, hu⟩ := hdv
  have := hd.mul u h.q.1 hn hA
  rw [Nat.mul_comm u, ← hu, Nat.add_comm, e1] at this
  exact this
section NM
variable {R T : GR} {F : GF} {h : GH} {K : GK} {c : Nat} {o : Option Nat}
def Hd (h : GH) (A : Nat → Bool) (μ : Mm) (c : Nat) : Prop := ∀ x, x < h.te → mI μ (c + 22) x = nI (b1 (A x))
def Snd (h : GH) (o : Option Nat) (A : Nat → Bool) : Prop := A h.q.1 = true ∧ ∀ x, x < h.te → A x = true → rch h o x = true
/-- what a sweep has seen -/
def Swp (h : GH) (o : Option Nat) (A0 A : Nat → Bool) (m : Bool) (x g : Nat) : Prop := (m = false → A = A0 ∧ (∀ y, y < x → A0 y = true → ∀ e, e < h.n → selo o e = true → A0 ((y + h.tr e) % h.te) = true) ∧ (A0 x = true → ∀ e, e < g → selo o e = true → A0 ((x + h.tr e) % h.te) = true)) ∧ (m = true → cntP A0 h.te < cntP A h.te)
theorem Hd.get {A : Nat → Bool} {μ : Mm} (hd : Hd h A μ c) (hL : LM μ c) (t2 : h.te ≤ 60) {x : Nat} (hx : x < h.te) : aI μ (c + 22) 23 (nI x) = some (nI (b1 (A x))) := by rw [aI_of hL.t22 (by rw [hL.n22]; omega) (by omega), hd x hx]
theorem m_hw62 (w : WH h) (h0 : ¬ h.n = 0) (ho : ∀ x, o = some x → x < 6) {x : Nat} (hx : x < h.te) {A0 : Nat → Bool} : ∀ (f g : Nat) (μ : Mm) (A : Nat → Bool) (m : Bool), g ≤ h.n → h.n < g + f → MI R T F h K μ c → Hd h A μ c → Snd h o A → Swp h o A0 A m x g → ∃ μ' A' m', lp_X12_hadWithout_62 f c (mcode o) (nI (cntP A h.te)) (nI (b1 m)) (nI x) (nI g) μ = some (nI (cntP A' h.te), nI (b1 m'), μ') ∧ SM μ μ' c ∧ Hd h A' μ' c ∧ Snd h o A' ∧ Swp h o A0 A' m' (x + 1) 0 := by
  have hn6 := w.1
  have t1 := w.te_ge h0
  have t2 := w.te_lt
  have ht0 : ¬ nI h.te = 0 := nI_ne0 (by omega) (by omega)
  intro f
  induction f with
  | zero => intro g μ A m q1 q2; omega
  | succ f ih =>
    intro g μ A m q1 q2 H hd hs hw
    by_cases e : g = h.n
    · have e1 : nI h.n ≤ nI g := by rw [e]; exact Int32.le_refl _
      refine ⟨μ, A, m, ?_, SM.rf μ c, hd, hs, fun hm => ?_, hw.2⟩
      · simp (config := { decide := true }) only [↓reduceIte, Option.bind_some, Option.bind_none, lp_X12_hadWithout_62, m_hev H, e1]
      · obtain ⟨z1, z2, z3⟩ := hw.1 hm
        refine ⟨z1, fun y hy hA => ?_, fun _ e' he' => absurd he' (Nat.not_lt_zero _)⟩
        by_cases z : y = x
        · subst z; rw [← e]; exact z3 hA
        · exact z2 y (by omega) hA
    · have e1 : ¬ nI h.n ≤ nI g := nI_ge (by omega) (by omega)
      have hg : g < h.n := by omega
      have ea := hd.get H.1 t2 hx
      cases hA : A x with
      | false =>
        rw [hA] at ea
        have ea' : aI μ (c + 22) 23 (nI x) = some 0 := ea
        refine ⟨μ, A, m, ?_, SM.rf μ c, hd, hs, fun hm => ?_, hw.2⟩
        · simp (config := { decide := true }) only [↓reduceIte, Option.bind_some, Option.bind_none, lp_X12_hadWithout_62, m_hev H, e1, H.1.t0, gP_of H.1.t0 H.1.p0_1, gP_of H.1.t0 H.1.p0_5, gP_of H.1.t0 H.1.p0_6, gP_of H.1.t0 H.1.p0_7, gP_of H.1.t0 H.1.p0_8, gP_of H.1.t0 H.1.p0_9, gP_of H.1.t0 H.1.p0_14, gP_of H.1.t0 H.1.p0_15, gP_of H.1.t0 H.1.p0_21, gP_of H.1.t0 H.1.p0_22, gP_of H.1.t0 H.1.p0_23, gP_of H.1.t0 H.1.p0_24, gP_of H.1.t0 H.1.p0_26, gP_of H.1.t0 H.1.p0_27, gP_of H.1.t0 H.1.p0_28, gP_of H.1.t0 H.1.p0_29, gP_of H.1.t0 H.1.p0_30, gP_of H.1.t0 H.1.p0_31, gP_of H.1.t0 H.1.p0_32, gP_of H.1.t0 H.1.p0_33, gP_of H.1.t0 H.1.p0_40, gP_of H.1.t0 H.1.p0_41, gP_of H.1.t0 H.1.p0_46, gP_of H.1.t0 H.1.p0_47, gP_of H.1.t0 H.1.p0_48, ea']
        · obtain ⟨z1, z2, z3⟩ := hw.1 hm
          refine ⟨z1, fun y hy hA' => ?_, fun _ e' he' => absurd he' (Nat.not_lt_zero _)⟩
          by_cases z : y = x
          · subst z; rw [← z1, hA] at hA'; cases hA'
          · exact z2 y (by omega) hA'
      | true =>
        rw [hA] at ea
        have ea' : aI μ (c + 22) 23 (nI x) = some 1 := ea
        have hce := mcode_eq (o := o) (g := g) (by omega) ho
        have htr := w.tr_le hg
        by_cases s : selo o g = true
        · have e2 : ¬ nI g = mcode o := fun q => by have := hce.mp q; rw [s] at this; cases this
          have e3 := pk_rem (a := x + h.tr g) (d := h.te) (by omega) (by omega) (by omega)
          have hj : (x + h.tr g) % h.te < h.te := Nat.mod_lt _ (by omega)
          have eb := hd.get H.1 t2 hj
          cases hB : A ((x + h.tr g) % h.te) with
          | true =>
            rw [hB] at eb
            have eb' : aI μ (c + 22) 23 (nI ((x + h.tr g) % h.te)) = some 1 := eb
            obtain ⟨μ', A', m', y1, y2, y3, y4, y5⟩ := ih (g + 1) μ A m (by omega) (by omega) H hd hs ⟨fun hm => by
              obtain ⟨z1, z2, z3⟩ := hw.1 hm
              refine ⟨z1, z2, fun hA' e' he' hse => ?_⟩
              by_cases z : e' = g
              · subst z; rw [← z1]; exact hB
              · exact z3 hA' e' (by omega) hse, hw.2⟩
            refine ⟨μ', A', m', ?_, y2, y3, y4, y5⟩
            simp (config := { decide := true }) only [↓reduceIte, Option.bind_some, Option.bind_none, lp_X12_hadWithout_62, m_hev H, e1, H.1.t0, gP_of H.1.t0 H.1.p0_1, gP_of H.1.t0 H.1.p0_5, gP_of H.1.t0 H.1.p0_6, gP_of H.1.t0 H.1.p0_7, gP_of H.1.t0 H.1.p0_8, gP_of H.1.t0 H.1.p0_9, gP_of H.1.t0 H.1.p0_14, gP_of H.1.t0 H.1.p0_15, gP_of H.1.t0 H.1.p0_21, gP_of H.1.t0 H.1.p0_22, gP_of H.1.t0 H.1.p0_23, gP_of H.1.t0 H.1.p0_24, gP_of H.1.t0 H.1.p0_26, gP_of H.1.t0 H.1.p0_27, gP_of H.1.t0 H.1.p0_28, gP_of H.1.t0 H.1.p0_29, gP_of H.1.t0 H.1.p0_30, gP_of H.1.t0 H.1.p0_31, gP_of H.1.t0 H.1.p0_32, gP_of H.1.t0 H.1.p0_33, gP_of H.1.t0 H.1.p0_40, gP_of H.1.t0 H.1.p0_41, gP_of H.1.t0 H.1.p0_46, gP_of H.1.t0 H.1.p0_47, gP_of H.1.t0 H.1.p0_48, ea', m_tread H w hg, ht0, e2, nI_add, e3, eb', nI_1, y1]
          | false =>
            rw [hB] at eb
            have eb' : aI μ (c + 22) 23 (nI ((x + h.tr g) % h.te)) = some 0 := eb
            have s1 : SM μ (sI μ (c + 22) ((x + h.tr g) % h.te) 1) c := (SM.rf μ c).sI (by unfold asd; omega)
            have qa := qZ_of (v := 1) H.1.t22 (show (x + h.tr g) % h.te < ln μ (c + 22) by rw [H.1.n22]; omega) (by omega) (Or.inr rfl)
            have hcn := cntP_setb hB h.te
            rw [if_pos hj] at hcn
            obtain ⟨μ', A', m', y1, y2, y3, y4, y5⟩ := ih (g + 1) (sI μ (c + 22) ((x + h.tr g) % h.te) 1) (setb A ((x + h.tr g) % h.te)) true (by omega) (by omega) (H.scr s1) (fun y hy => by
              unfold setb
              by_cases z : y = (x + h.tr g) % h.te
              · rw [if_pos z, z, mI_eq]; rfl
              · rw [if_neg z, mI_nk z]; exact hd y hy) ⟨by
                unfold setb
                by_cases z : h.q.1 = (x + h.tr g) % h.te
                · rw [if_pos z]
                · rw [if_neg z]; exact hs.1, fun y hy hA' => by
                unfold setb at hA'
                by_cases z : y = (x + h.tr g) % h.te
                · rw [z]; exact rch_step hg s (hs.2 x hx hA)
                · rw [if_neg z] at hA'; exact hs.2 y hy hA'⟩ ⟨fun z => (by cases z), fun _ => by
              rw [hcn]
              cases m with
              | false => rw [(hw.1 rfl).1]; omega
              | true => have := hw.2 rfl; omega⟩
            rw [hcn] at y1
            have y1' : lp_X12_hadWithout_62 f c (mcode o) (nI (cntP A h.te + 1)) 1 (nI x) (nI (g + 1)) (sI μ (c + 22) ((x + h.tr g) % h.te) 1) = _ := y1
            refine ⟨μ', A', m', ?_, s1.tr y2, y3, y4, y5⟩
            simp (config := { decide := true }) only [↓reduceIte, Option.bind_some, Option.bind_none, lp_X12_hadWithout_62, m_hev H, e1, H.1.t0, gP_of H.1.t0 H.1.p0_1, gP_of H.1.t0 H.1.p0_5, gP_of H.1.t0 H.1.p0_6, gP_of H.1.t0 H.1.p0_7, gP_of H.1.t0 H.1.p0_8, gP_of H.1.t0 H.1.p0_9, gP_of H.1.t0 H.1.p0_14, gP_of H.1.t0 H.1.p0_15, gP_of H.1.t0 H.1.p0_21, gP_of H.1.t0 H.1.p0_22, gP_of H.1.t0 H.1.p0_23, gP_of H.1.t0 H.1.p0_24, gP_of H.1.t0 H.1.p0_26, gP_of H.1.t0 H.1.p0_27, gP_of H.1.t0 H.1.p0_28, gP_of H.1.t0 H.1.p0_29, gP_of H.1.t0 H.1.p0_30, gP_of H.1.t0 H.1.p0_31, gP_of H.1.t0 H.1.p0_32, gP_of H.1.t0 H.1.p0_33, gP_of H.1.t0 H.1.p0_40, gP_of H.1.t0 H.1.p0_41, gP_of H.1.t0 H.1.p0_46, gP_of H.1.t0 H.1.p0_47, gP_of H.1.t0 H.1.p0_48, ea', m_tread H w hg, ht0, e2, nI_add, e3, eb', qa, nI_1, y1']
        · have hsf : selo o g = false := by
            cases hs' : selo o g with
            | true => exact absurd hs' s
            | false => rfl
          have e2 : nI g = mcode o := hce.mpr hsf
          have e2' : ∀ (X Y : Option (Int32 × Int32 × Mm)), (if nI g = mcode o then X else Y) = X := fun X Y => if_pos e2
          obtain ⟨μ', A', m', y1, y2, y3, y4, y5⟩ := ih (g + 1) μ A m (by omega) (by omega) H hd hs ⟨fun hm => by
            obtain ⟨z1, z2, z3⟩ := hw.1 hm
            refine ⟨z1, z2, fun hA' e' he' hse => ?_⟩
            by_cases z : e' = g
            · rw [z, hsf] at hse; cases hse
            · exact z3 hA' e' (by omega) hse, hw.2⟩
          refine ⟨μ', A', m', ?_, y2, y3, y4, y5⟩
          simp (config := { decide := true }) only [↓reduceIte, Option.bind_some, Option.bind_none, lp_X12_hadWithout_62, m_hev H, e1, H.1.t0, gP_of H.1.t0 H.1.p0_1, gP_of H.1.t0 H.1.p0_5, gP_of H.1.t0 H.1.p0_6, gP_of H.1.t0 H.1.p0_7, gP_of H.1.t0 H.1.p0_8, gP_of H.1.t0 H.1.p0_9, gP_of H.1.t0 H.1.p0_14, gP_of H.1.t0 H.1.p0_15, gP_of H.1.t0 H.1.p0_21, gP_of H.1.t0 H.1.p0_22, gP_of H.1.t0 H.1.p0_23, gP_of H.1.t0 H.1.p0_24, gP_of H.1.t0 H.1.p0_26, gP_of H.1.t0 H.1.p0_27, gP_of H.1.t0 H.1.p0_28, gP_of H.1.t0 H.1.p0_29, gP_of H.1.t0 H.1.p0_30, gP_of H.1.t0 H.1.p0_31, gP_of H.1.t0 H.1.p0_32, gP_of H.1.t0 H.1.p0_33, gP_of H.1.t0 H.1.p0_40, gP_of H.1.t0 H.1.p0_41, gP_of H.1.t0 H.1.p0_46, gP_of H.1.t0 H.1.p0_47, gP_of H.1.t0 H.1.p0_48, ea', m_tread H w hg, ht0, e2', nI_1, y1]
theorem m_hw50 (w : WH h) (h0 : ¬ h.n = 0) (ho : ∀ x, o = some x → x < 6) {A0 : Nat → Bool} : ∀ (f x : Nat) (μ : Mm) (A : Nat → Bool) (m : Bool), x ≤ h.te → h.te < x + f → MI R T F h K μ c → Hd h A μ c → Snd h o A → Swp h o A0 A m x 0 → ∃ μ' A' m', lp_X12_hadWithout_50 f c (mcode o) (nI (cntP A h.te)) (nI (b1 m)) (nI x) μ = some (nI (cntP A' h.te), nI (b1 m'), μ') ∧ SM μ μ' c ∧ Hd h A' μ' c ∧ Snd h o A' ∧ Swp h o A0 A' m' h.te 0 := by
  have hn6 := w.1
  have t1 := w.te_ge h0
  have t2 := w.te_lt
  intro f
  induction f with
  | zero => intro x μ A m q1 q2; omega
  | succ f ih =>
    intro x μ A m q1 q2 H hd hs hw
    by_cases e : x = h.te
    · have e1 : nI h.te ≤ nI x := by rw [e]; exact Int32.le_refl _
      refine ⟨μ, A, m, ?_, SM.rf μ c, hd, hs, by rw [← e]; exact hw⟩
      simp (config := { decide := true }) only [↓reduceIte, Option.bind_some, Option.bind_none, lp_X12_hadWithout_50, m_hev H, e1]
    · have e1 : ¬ nI h.te ≤ nI x := nI_ge (by omega) (by omega)
      obtain ⟨μ1, A1, m1, y1, y2, y3, y4, y5⟩ := m_hw62 (F := F) (K := K) (R := R) (T := T) (c := c) w h0 ho (show x < h.te by omega) BIG 0 μ A m (by omega) (by unfold BIG; omega) H hd hs hw
      have y1' : lp_X12_hadWithout_62 BIG c (mcode o) (nI (cntP A h.te)) (nI (b1 m)) (nI x) 0 μ = _ := y1
      obtain ⟨μ2, A2, m2, z1, z2, z3, z4, z5⟩ := ih (x + 1) μ1 A1 m1 (by omega) (by omega) (H.scr y2) y3 y4 y5
      refine ⟨μ2, A2, m2, ?_, y2.tr z2, z3, z4, z5⟩
      simp (config := { decide := true }) only [↓reduceIte, Option.bind_some, Option.bind_none, lp_X12_hadWithout_50, m_hev H, e1, y1', nI_1, z1]
theorem m_hw41 (w : WH h) (h0 : ¬ h.n = 0) (ho : ∀ x, o = some x → x < 6) : ∀ (d f : Nat) (μ : Mm) (A : Nat → Bool) (m : Bool), h.te ≤ cntP A h.te + d → d + 1 < f → MI R T F h K μ c → Hd h A μ c → Snd h o A → (m = false → ∀ g, g < h.n → selo o g = true → Gon h.te A (h.tr g)) → ∃ μ' A', lp_X12_hadWithout_41 f c (mcode o) (nI (cntP A h.te)) (nI (b1 m)) μ = some (nI (cntP A' h.te), μ') ∧ SM μ μ' c ∧ Hd h A' μ' c ∧ Snd h o A' ∧ ∀ g, g < h.n → selo o g = true → Gon h.te A' (h.tr g) := by
  have t1 := w.te_ge h0
  have t2 := w.te_lt
  intro d
  induction d with
  | zero =>
    intro f μ A m q1 q2 H hd hs hm
    obtain ⟨f, rfl⟩ : ∃ g, f = g + 2 := ⟨f - 2, by omega⟩
    cases m with
    | false =>
      have e0 : nI (b1 false) = 0 := rfl
      refine ⟨μ, A, ?_, SM.rf μ c, hd, hs, hm rfl⟩
      simp (config := { decide := true }) only [↓reduceIte, Option.bind_some, Option.bind_none, lp_X12_hadWithout_41, e0]
    | true =>
      have e0 : ¬ nI (b1 true) = 0 := by decide
      obtain ⟨μ1, A1, m1, y1, y2, y3, y4, y5⟩ := m_hw50 (F := F) (K := K) (R := R) (T := T) (c := c) w h0 ho (A0 := A) BIG 0 μ A false (by omega) (by unfold BIG; omega) H hd hs ⟨fun _ => ⟨rfl, fun y hy => absurd hy (Nat.not_lt_zero _), fun _ e' he' => absurd he' (Nat.not_lt_zero _)⟩, fun z => by cases z⟩
      have y1' : lp_X12_hadWithout_50 BIG c (mcode o) (nI (cntP A h.te)) 0 0 μ = _ := y1
      cases m1 with
      | true =>
        have := y5.2 rfl
        have := cntP_le A1 h.te
        omega
      | false =>
        obtain ⟨z1, z2, -⟩ := y5.1 rfl
        have e2 : nI (b1 false) = 0 := rfl
        refine ⟨μ1, A1, ?_, y2, y3, y4, fun g hg hs x hx hA => by rw [z1] at hA ⊢; exact z2 x hx hA g hg hs⟩
        simp (config := { decide := true }) only [↓reduceIte, Option.bind_some, Option.bind_none, lp_X12_hadWithout_41, e0, y1', e2]
  | succ d ih =>
    intro f μ A m q1 q2 H hd hs hm
    obtain ⟨f, rfl⟩ : ∃ g, f = g + 1 := ⟨f - 1, by omega⟩
    cases m with
    | false =>
      have e0 : nI (b1 false) = 0 := rfl
      refine ⟨μ, A, ?_, SM.rf μ c, hd, hs, hm rfl⟩
      simp (config := { decide := true }) only [↓reduceIte, Option.bind_some, Option.bind_none, lp_X12_hadWithout_41, e0]
    | true =>
      have e0 : ¬ nI (b1 true) = 0 := by decide
      obtain ⟨μ1, A1, m1, y1, y2, y3, y4, y5⟩ := m_hw50 (F := F) (K := K) (R := R) (T := T) (c := c) w h0 ho (A0 := A) BIG 0 μ A false (by omega) (by unfold BIG; omega) H hd hs ⟨fun _ => ⟨rfl, fun y hy => absurd hy (Nat.not_lt_zero _), fun _ e' he' => absurd he' (Nat.not_lt_zero _)⟩, fun z => by cases z⟩
      have y1' : lp_X12_hadWithout_50 BIG c (mcode o) (nI (cntP A h.te)) 0 0 μ = _ := y1
      have hmon : cntP A h.te ≤ cntP A1 h.te ∧ (m1 = true → cntP A h.te < cntP A1 h.te) := by
        cases m1 with
        | true => have := y5.2 rfl; exact ⟨by omega, fun _ => this⟩
        | false => rw [(y5.1 rfl).1]; exact ⟨Nat.le_refl _, fun z => by cases z⟩
      have hmf : m1 = false → ∀ g, g < h.n → selo o g = true → Gon h.te A1 (h.tr g) := fun hm1 g hg hs' x hx hA => by
        obtain ⟨z1, z2, -⟩ := y5.1 hm1
        rw [z1] at hA ⊢; exact z2 x hx hA g hg hs'
      cases m1 with
      | true =>
        have := hmon.2 rfl
        obtain ⟨μ2, A2, z1, z2, z3, z4, z5⟩ := ih f μ1 A1 true (by omega) (by omega) (H.scr y2) y3 y4 hmf
        refine ⟨μ2, A2, ?_, y2.tr z2, z3, z4, z5⟩
        simp (config := { decide := true }) only [↓reduceIte, Option.bind_some, Option.bind_none, lp_X12_hadWithout_41, e0, y1', z1]
      | false =>
        obtain ⟨f, rfl⟩ : ∃ g, f = g + 1 := ⟨f - 1, by omega⟩
        have e2 : nI (b1 false) = 0 := rfl
        refine ⟨μ1, A1, ?_, y2, y3, y4, hmf rfl⟩
        simp (config := { decide := true }) only [↓reduceIte, Option.bind_some, Option.bind_none, lp_X12_hadWithout_41, e0, y1', e2]
theorem m_hw4 (w : WH h) (h0 : ¬ h.n = 0) {p q : Int32} : ∀ (f k : Nat) (μ : Mm), k ≤ h.te → h.te < k + f → MI R T F h K μ c → (∀ j, j < k → mI μ (c + 22) j = nI (b1 (decide (j = h.q.1)))) → ∃ μ', lp_X12_hadWithout_4 f c p q (nI k) μ = some μ' ∧ SM μ μ' c ∧ Hd h (fun j => decide (j = h.q.1)) μ' c := by
  have t1 := w.te_ge h0
  have t2 := w.te_lt
  have tn := w.now_lt h0
  intro f
  induction f with
  | zero => intro k μ q1 q2; omega
  | succ f ih =>
    intro k μ q1 q2 H hc
    by_cases e : k = h.te
    · have e1 : nI h.te ≤ nI k := by rw [e]; exact Int32.le_refl _
      refine ⟨μ, ?_, SM.rf μ c, fun j hj => hc j (by omega)⟩
      simp (config := { decide := true }) only [↓reduceIte, Option.bind_some, Option.bind_none, lp_X12_hadWithout_4, m_hev H, e1]
    · have e1 : ¬ nI h.te ≤ nI k := nI_ge (by omega) (by omega)
      have s1 : SM μ (sI μ (c + 22) k (nI (b1 (decide (k = h.q.1))))) c := (SM.rf μ c).sI (by unfold asd; omega)
      have qa := qZ_of (v := nI (b1 (decide (k = h.q.1)))) H.1.t22 (show k < ln μ (c + 22) by rw [H.1.n22]; omega) (by omega) (by cases decide (k = h.q.1) <;> decide)
      obtain ⟨μ', y1, y2, y3⟩ := ih (k + 1) _ (by omega) (by omega) (H.scr s1) (fun j hj => by
        by_cases z : j = k
        · subst z; rw [mI_eq]
        · rw [mI_nk z]; exact hc j (by omega))
      refine ⟨μ', ?_, s1.tr y2, y3⟩
      by_cases k0 : k = h.q.1
      · rw [decide_eq_true k0] at qa y1
        have qa' : qZ μ (c + 22) 23 (nI k) 1 = some (sI μ (c + 22) k 1) := qa
        have y1' : lp_X12_hadWithout_4 f c p q (nI (k + 1)) (sI μ (c + 22) k 1) = some μ' := y1
        have e0' : ∀ (X Y : Option Mm), (if nI k = nI h.q.1 then X else Y) = X := fun X Y => if_pos (congrArg nI k0)
        simp (config := { decide := true }) only [↓reduceIte, Option.bind_some, Option.bind_none, lp_X12_hadWithout_4, m_hev H, e1, H.1.t0, gP_of H.1.t0 H.1.p0_1, gP_of H.1.t0 H.1.p0_5, gP_of H.1.t0 H.1.p0_6, gP_of H.1.t0 H.1.p0_7, gP_of H.1.t0 H.1.p0_8, gP_of H.1.t0 H.1.p0_9, gP_of H.1.t0 H.1.p0_14, gP_of H.1.t0 H.1.p0_15, gP_of H.1.t0 H.1.p0_21, gP_of H.1.t0 H.1.p0_22, gP_of H.1.t0 H.1.p0_23, gP_of H.1.t0 H.1.p0_24, gP_of H.1.t0 H.1.p0_26, gP_of H.1.t0 H.1.p0_27, gP_of H.1.t0 H.1.p0_28, gP_of H.1.t0 H.1.p0_29, gP_of H.1.t0 H.1.p0_30, gP_of H.1.t0 H.1.p0_31, gP_of H.1.t0 H.1.p0_32, gP_of H.1.t0 H.1.p0_33, gP_of H.1.t0 H.1.p0_40, gP_of H.1.t0 H.1.p0_41, gP_of H.1.t0 H.1.p0_46, gP_of H.1.t0 H.1.p0_47, gP_of H.1.t0 H.1.p0_48, e0', qa', nI_1, y1']
      · rw [decide_eq_false k0] at qa y1
        have e0 : ¬ nI k = nI h.q.1 := fun z => k0 ((nI_eq (by omega) (by omega)).mp z)
        have qa' : qZ μ (c + 22) 23 (nI k) 0 = some (sI μ (c + 22) k 0) := qa
        have y1' : lp_X12_hadWithout_4 f c p q (nI (k + 1)) (sI μ (c + 22) k 0) = some μ' := y1
        simp (config := { decide := true }) only [↓reduceIte, Option.bind_some, Option.bind_none, lp_X12_hadWithout_4, m_hev H, e1, H.1.t0, gP_of H.1.t0 H.1.p0_1, gP_of H.1.t0 H.1.p0_5, gP_of H.1.t0 H.1.p0_6, gP_of H.1.t0 H.1.p0_7, gP_of H.1.t0 H.1.p0_8, gP_of H.1.t0 H.1.p0_9, gP_of H.1.t0 H.1.p0_14, gP_of H.1.t0 H.1.p0_15, gP_of H.1.t0 H.1.p0_21, gP_of H.1.t0 H.1.p0_22, gP_of H.1.t0 H.1.p0_23, gP_of H.1.t0 H.1.p0_24, gP_of H.1.t0 H.1.p0_26, gP_of H.1.t0 H.1.p0_27, gP_of H.1.t0 H.1.p0_28, gP_of H.1.t0 H.1.p0_29, gP_of H.1.t0 H.1.p0_30, gP_of H.1.t0 H.1.p0_31, gP_of H.1.t0 H.1.p0_32, gP_of H.1.t0 H.1.p0_33, gP_of H.1.t0 H.1.p0_40, gP_of H.1.t0 H.1.p0_41, gP_of H.1.t0 H.1.p0_46, gP_of H.1.t0 H.1.p0_47, gP_of H.1.t0 H.1.p0_48, e0, qa', nI_1, y1']
theorem cntP_one (j : Nat) : ∀ n, cntP (fun i => decide (i = j)) n = if j < n then 1 else 0 := by
  intro n
  induction n with
  | zero => rfl
  | succ n ih =>
    rw [cntP_s, ih]
    by_cases e : n = j
    · subst e; rw [if_neg (Nat.lt_irrefl _), if_pos (Nat.lt_succ_self _), decide_eq_true rfl]; rfl
    · rw [decide_eq_false e]
      by_cases z : j < n
      · rw [if_pos z, if_pos (by omega)]; rfl
      · rw [if_neg z, if_neg (by omega)]; rfl
theorem m_had {μ : Mm} (H : MI R T F h K μ c) (w : WH h) (h0 : ¬ h.n = 0) (ho : ∀ x, o = some x → x < 6) : ∃ μ', f_X12_hadWithout μ c (mcode o) = some (nI (cntP (rch h o) h.te), μ') ∧ SM μ μ' c ∧ Hd h (rch h o) μ' c := by
  have t1 := w.te_ge h0
  have t2 := w.te_lt
  have tn := w.now_lt h0
  obtain ⟨μ1, y1, y2, y3⟩ := m_hw4 (F := F) (K := K) (R := R) (T := T) (c := c) (p := mcode o) (q := 1) w h0 BIG 0 μ (by omega) (by unfold BIG; omega) H (fun j hj => absurd hj (Nat.not_lt_zero _))
  have y1' : lp_X12_hadWithout_4 BIG c (mcode o) 1 0 μ = some μ1 := y1
  have hc1 := cntP_one h.q.1 h.te
  rw [if_pos tn] at hc1
  obtain ⟨μ2, A, z1, z2, z3, z4, z5⟩ := m_hw41 (F := F) (K := K) (R := R) (T := T) (c := c) (o := o) w h0 ho 60 BIG μ1 (fun j => decide (j = h.q.1)) true (by omega) (by unfold BIG; omega) (H.scr y2) y3 ⟨decide_eq_true rfl, fun x hx hA => by
    have := of_decide_eq_true hA
    rw [this]; exact decide_eq_true rfl⟩ (fun z => by cases z)
  rw [hc1] at z1
  have z1' : lp_X12_hadWithout_41 BIG c (mcode o) 1 1 μ1 = _ := z1
  have hA : ∀ x, x < h.te → A x = rch h o x := fun x hx => by
    rw [Bool.eq_iff_iff]
    exact ⟨fun q => z4.2 x hx q, fun q => rch_all (by omega) tn z4.1 z5 hx q⟩
  refine ⟨μ2, ?_, y2.tr z2, fun x hx => by rw [z3 x hx, hA x hx]⟩
  rw [← cntP_cong h.te hA]
  simp (config := { decide := true }) only [↓reduceIte, Option.bind_some, Option.bind_none, f_X12_hadWithout, H.1.t0, y1', z1']
theorem m_nev_l {μ : Mm} {v : Int32} (H : MI R T F h K μ c) (w : WH h) (hd : Hd h (rch h none) μ c) : ∀ (k f : Nat), k ≤ h.te → k < f → lp_X12_never_32 f c v (ofn (fst (fun x => !rch h none x) (h.te - k) k)) (dn k) μ = some (ofn (fst (fun x => !rch h none x) h.te 0)) := by
  have t2 := w.te_lt
  intro k
  induction k with
  | zero =>
    intro f q1 q2
    obtain ⟨f, rfl⟩ : ∃ g, f = g + 1 := ⟨f - 1, by omega⟩
    have e1 : dn 0 < 0 := by decide
    rw [Nat.sub_zero]
    simp (config := { decide := true }) only [↓reduceIte, Option.bind_some, Option.bind_none, lp_X12_never_32, e1]
  | succ k ih =>
    intro f q1 q2
    obtain ⟨f, rfl⟩ : ∃ g, f = g + 1 := ⟨f - 1, by omega⟩
    have hI := ih f (by omega) (by omega)
    rw [show h.te - k = (h.te - (k + 1)) + 1 by omega] at hI
    rw [fst_s] at hI
    have e1 : ¬ nI k < 0 := nI_pos (by omega)
    have ea := hd.get H.1 t2 (show k < h.te by omega)
    show lp_X12_never_32 (f + 1) c v _ (nI k) μ = _
    cases hr : rch h none k with
    | true =>
      rw [hr] at ea hI
      have ea' : aI μ (c + 22) 23 (nI k) = some 1 := ea
      rw [if_neg (by decide)] at hI
      simp (config := { decide := true }) only [↓reduceIte, Option.bind_some, Option.bind_none, lp_X12_never_32, e1, H.1.t0, gP_of H.1.t0 H.1.p0_1, gP_of H.1.t0 H.1.p0_5, gP_of H.1.t0 H.1.p0_6, gP_of H.1.t0 H.1.p0_7, gP_of H.1.t0 H.1.p0_8, gP_of H.1.t0 H.1.p0_9, gP_of H.1.t0 H.1.p0_14, gP_of H.1.t0 H.1.p0_15, gP_of H.1.t0 H.1.p0_21, gP_of H.1.t0 H.1.p0_22, gP_of H.1.t0 H.1.p0_23, gP_of H.1.t0 H.1.p0_24, gP_of H.1.t0 H.1.p0_26, gP_of H.1.t0 H.1.p0_27, gP_of H.1.t0 H.1.p0_28, gP_of H.1.t0 H.1.p0_29, gP_of H.1.t0 H.1.p0_30, gP_of H.1.t0 H.1.p0_31, gP_of H.1.t0 H.1.p0_32, gP_of H.1.t0 H.1.p0_33, gP_of H.1.t0 H.1.p0_40, gP_of H.1.t0 H.1.p0_41, gP_of H.1.t0 H.1.p0_46, gP_of H.1.t0 H.1.p0_47, gP_of H.1.t0 H.1.p0_48, ea', dn_s]
      exact hI
    | false =>
      rw [hr] at ea hI
      have ea' : aI μ (c + 22) 23 (nI k) = some 0 := ea
      rw [if_pos (by decide)] at hI
      simp (config := { decide := true }) only [↓reduceIte, Option.bind_some, Option.bind_none, lp_X12_never_32, e1, H.1.t0, gP_of H.1.t0 H.1.p0_1, gP_of H.1.t0 H.1.p0_5, gP_of H.1.t0 H.1.p0_6, gP_of H.1.t0 H.1.p0_7, gP_of H.1.t0 H.1.p0_8, gP_of H.1.t0 H.1.p0_9, gP_of H.1.t0 H.1.p0_14, gP_of H.1.t0 H.1.p0_15, gP_of H.1.t0 H.1.p0_21, gP_of H.1.t0 H.1.p0_22, gP_of H.1.t0 H.1.p0_23, gP_of H.1.t0 H.1.p0_24, gP_of H.1.t0 H.1.p0_26, gP_of H.1.t0 H.1.p0_27, gP_of H.1.t0 H.1.p0_28, gP_of H.1.t0 H.1.p0_29, gP_of H.1.t0 H.1.p0_30, gP_of H.1.t0 H.1.p0_31, gP_of H.1.t0 H.1.p0_32, gP_of H.1.t0 H.1.p0_33, gP_of H.1.t0 H.1.p0_40, gP_of H.1.t0 H.1.p0_41, gP_of H.1.t0 H.1.p0_46, gP_of H.1.t0 H.1.p0_47, gP_of H.1.t0 H.1.p0_48, ea', dn_s]
      exact hI
end NM
theorem PSI_never : PS_never INV := by
  intro μ a1 a2 hI
  refine both_of (fx := f_X11_never) (fm := f_X12_never) ?_ μ a1 a2 hI
  intro R T F h K hw
  have w := hw.2.2.1
  have hn6 := w.1
  have t2 := w.te_lt
  by_cases h0 : h.n = 0
  · refine ⟨-4, R, T, F, h, K, hw, fun μ a H => XO.same H ?_, fun μ c H => MO.same H ?_⟩
    · simp (config := { decide := true }) only [↓reduceIte, Option.bind_some, Option.bind_none, f_X11_never, H.1.t0, gP_of H.1.t0 H.1.p0_0, gP_of H.1.t0 H.1.p0_1, gP_of H.1.t0 H.1.p0_2, gP_of H.1.t0 H.1.p0_3, gP_of H.1.t0 H.1.p0_4, gP_of H.1.t0 H.1.p0_5, gP_of H.1.t0 H.1.p0_6, gP_of H.1.t0 H.1.p0_7, gP_of H.1.t0 H.1.p0_8, gP_of H.1.t0 H.1.p0_9, x_empty H h0]
    · simp (config := { decide := true }) only [↓reduceIte, Option.bind_some, Option.bind_none, f_X12_never, m_hev H, H.1.t0, h0, show nI 0 = 0 from rfl]
  have hn0 : ¬ nI h.n = 0 := nI_ne0 (by omega) (by omega)
  have t1 := w.te_ge h0
  have hcn := cntP_not (rch h none) h.te
  have eT : nI h.te - 1 = dn h.te := by
    obtain ⟨u, hu⟩ : ∃ u, h.te = u + 1 := ⟨h.te - 1, by omega⟩
    rw [hu]; exact pred1 (Nat.succ_pos u)
  refine ⟨nI (cntP (fun x => !rch h none x) h.te), R, T, tel F (ofn (fst (fun x => !rch h none x) h.te 0)), h, K, hw, fun μ a H => XO.tell H ?_, fun μ c H => ?_⟩
  · have es : f_X3_stride μ (a + 3) (-1) = some (nI (std h none)) := x_stride H w h0 (o := none) (fun x q => by cases q)
    have Ht : XI R T (tel F (-9)) h K (sI μ a 11 (-9)) a := H.tell
    have el := x_nev_l H w h0 h.te BIG (Nat.le_refl _) (by unfold BIG; omega)
    rw [Nat.sub_self] at el
    have el' : lp_X11_never_40 BIG a (nI (std h none)) 0 (dn h.te) (sI μ a 11 (-9)) = _ := el
    simp (config := { decide := true }) only [↓reduceIte, Option.bind_some, Option.bind_none, f_X11_never, H.1.t0, gP_of H.1.t0 H.1.p0_0, gP_of H.1.t0 H.1.p0_1, gP_of H.1.t0 H.1.p0_2, gP_of H.1.t0 H.1.p0_3, gP_of H.1.t0 H.1.p0_4, gP_of H.1.t0 H.1.p0_5, gP_of H.1.t0 H.1.p0_6, gP_of H.1.t0 H.1.p0_7, gP_of H.1.t0 H.1.p0_8, gP_of H.1.t0 H.1.p0_9, x_full H w h0, es, pI_of H.1.t0, gP_of Ht.1.t0 Ht.1.p0_2, x_hev Ht, eT, el']
  · obtain ⟨μ1, y1, y2, y3⟩ := m_had (o := none) H w h0 (fun x q => by cases q)
    have y1' : f_X12_hadWithout μ c (-9) = some (nI (cntP (rch h none) h.te), μ1) := y1
    have H1 := H.scr y2
    have es : nI h.te - nI (cntP (rch h none) h.te) = nI (cntP (fun x => !rch h none x) h.te) := by
      rw [pk_sub (cntP_le _ _)]; exact congrArg nI (by omega)
    have el := m_nev_l (v := nI (cntP (fun x => !rch h none x) h.te)) H1 w y3 h.te BIG (Nat.le_refl _) (by unfold BIG; omega)
    rw [Nat.sub_self] at el
    have el' : lp_X12_never_32 BIG c (nI (cntP (fun x => !rch h none x) h.te)) (-9) (dn h.te) μ1 = _ := el
    refine MO.scr y2 (MO.tell H1 ?_)
    simp (config := { decide := true }) only [↓reduceIte, Option.bind_some, Option.bind_none, f_X12_never, H.1.t0, m_hev H, hn0, y1', m_hev H1, es, eT, el', m_tell H1.1]
/-- the guilds without which less can be had -/
def kyd (h : GH) : Nat := bts (fun g => decide (std h (some g) ≠ std h none)) h.n
theorem std_sub (h : GH) (g : Nat) : std h none ∣ std h (some g) := by
  rw [show std h (some g) = gcdN h.te h.tr (some g) h.n from rfl, gcdN_dvd]
  exact ⟨std_te h none, fun e he _ => std_tr he (decide_eq_true (fun q => by cases q))⟩
theorem key_iff {h : GH} (w : WH h) (h0 : ¬ h.n = 0) (g : Nat) : cntP (rch h none) h.te ≤ cntP (rch h (some g)) h.te ↔ std h (some g) = std h none := by
  have t1 := w.te_ge h0
  have hsub := cntP_sub (P := rch h (some g)) (Q := rch h none) h.te (fun x _ q => by
    have q := of_decide_eq_true q
    refine decide_eq_true ?_
    rw [← Nat.mod_mod_of_dvd x (std_sub h g), q, Nat.mod_mod_of_dvd _ (std_sub h g)])
  constructor
  · intro q
    have he := hsub.2.mp (by have := hsub.1; omega)
    have hgl := gcdN_le (te := h.te) (t := h.tr) (o := some g) (by omega) h.n
    have hx := he ((h.q.1 + std h none) % h.te) (Nat.mod_lt _ (by omega)) (decide_eq_true (by rw [Nat.mod_mod_of_dvd _ (std_te h none), Nat.add_mod_right]))
    have hx := of_decide_eq_true hx
    rw [Nat.mod_mod_of_dvd _ (std_te h (some g))] at hx
    have hz : std h none % std h (some g) = 0 := by
      refine mod_inj (s := h.q.1) (Nat.mod_lt _ hgl.1) hgl.1 ?_
      rw [Nat.mod_add_mod, Nat.add_comm, hx, Nat.zero_add]
    exact Nat.dvd_antisymm (Nat.dvd_of_mod_eq_zero hz) (std_sub h g)
  · intro q
    unfold rch
    rw [q]
    exact Nat.le_refl _
theorem PSI_keyed : PS_keyed INV := by
  intro μ a1 a2 hI
  obtain ⟨rfl, R, T, F, h, K, hw, hx, hm⟩ := hI
  have w := hw.2.2.1
  have hn6 := w.1
  have t2 := w.te_lt
  by_cases h0 : h.n = 0
  · refine ⟨-4, μ, ?_, ?_, rfl, R, T, F, h, K, hw, hx, hm⟩
    · have H := hx
      simp (config := { decide := true }) only [↓reduceIte, Option.bind_some, Option.bind_none, f_X11_keyed, H.1.t0, gP_of H.1.t0 H.1.p0_0, gP_of H.1.t0 H.1.p0_1, gP_of H.1.t0 H.1.p0_2, gP_of H.1.t0 H.1.p0_3, gP_of H.1.t0 H.1.p0_4, gP_of H.1.t0 H.1.p0_5, gP_of H.1.t0 H.1.p0_6, gP_of H.1.t0 H.1.p0_7, gP_of H.1.t0 H.1.p0_8, gP_of H.1.t0 H.1.p0_9, x_empty H h0]
    · simp (config := { decide := true }) only [↓reduceIte, Option.bind_some, Option.bind_none, f_X12_keyed, m_hev hm, hm.1.t0, h0, show nI 0 = 0 from rfl]
  have hn0 : ¬ nI h.n = 0 := nI_ne0 (by omega) (by omega)
  have t1 := w.te_ge h0
  have hgl := fun o => gcdN_le (te := h.te) (t := h.tr) (o := o) (by omega) h.n
  have hxl : ∀ (f g : Nat), g ≤ h.n → h.n < g + f → lp_X11_keyed_26 f a1 (nI (std h none)) (nI (bts (fun g => decide (std h (some g) ≠ std h none)) g)) (nI g) μ = some (nI (kyd h)) := by
    have H := hx
    intro f
    induction f with
    | zero => intro g q1 q2; omega
    | succ f ih =>
      intro g q1 q2
      by_cases e : g = h.n
      · have e1 : nI h.n ≤ nI g := by rw [e]; exact Int32.le_refl _
        simp (config := { decide := true }) only [↓reduceIte, Option.bind_some, Option.bind_none, lp_X11_keyed_26, H.1.t0, gP_of H.1.t0 H.1.p0_0, gP_of H.1.t0 H.1.p0_1, gP_of H.1.t0 H.1.p0_2, gP_of H.1.t0 H.1.p0_3, gP_of H.1.t0 H.1.p0_4, gP_of H.1.t0 H.1.p0_5, gP_of H.1.t0 H.1.p0_6, gP_of H.1.t0 H.1.p0_7, gP_of H.1.t0 H.1.p0_8, gP_of H.1.t0 H.1.p0_9, x_hev H, e1]
        rw [e]
        rfl
      · have e1 : ¬ nI h.n ≤ nI g := nI_ge (by omega) (by omega)
        have es : f_X3_stride μ (a1 + 3) (nI g) = some (nI (std h (some g))) := x_stride H w h0 (o := some g) (fun x q => by cases q; omega)
        have hI := ih (g + 1) (by omega) (by omega)
        rw [bts_s] at hI
        have l1 := Nat.lt_of_lt_of_le (bts_lt (fun g => decide (std h (some g) ≠ std h none)) g) (bt_p6 (n := g) (by omega))
        have d1 := hgl none
        have d2 := hgl (some g)
        have u1 : std h none ≤ 60 := by unfold std; omega
        have u2 : std h (some g) ≤ 60 := by unfold std; omega
        by_cases z : std h (some g) = std h none
        · rw [if_neg (by rw [decide_eq_false (fun q => q z)]; decide)] at hI
          have e2 : ∀ (X Y : Option Int32), (if nI (std h (some g)) = nI (std h none) then X else Y) = X := fun X Y => if_pos (congrArg nI z)
          have eo : (nI (bts (fun g => decide (std h (some g) ≠ std h none)) g) ||| (0 : Int32)) = _ := (bt_or _ l1 0 (by decide)).1
          simp (config := { decide := true }) only [↓reduceIte, Option.bind_some, Option.bind_none, lp_X11_keyed_26, H.1.t0, gP_of H.1.t0 H.1.p0_0, gP_of H.1.t0 H.1.p0_1, gP_of H.1.t0 H.1.p0_2, gP_of H.1.t0 H.1.p0_3, gP_of H.1.t0 H.1.p0_4, gP_of H.1.t0 H.1.p0_5, gP_of H.1.t0 H.1.p0_6, gP_of H.1.t0 H.1.p0_7, gP_of H.1.t0 H.1.p0_8, gP_of H.1.t0 H.1.p0_9, x_hev H, e1, es, e2, eo, nI_1]
          exact hI
        · rw [if_pos (decide_eq_true z)] at hI
          have e2 : ¬ nI (std h (some g)) = nI (std h none) := fun q => z ((nI_eq (by omega) (by omega)).mp q)
          simp (config := { decide := true }) only [↓reduceIte, Option.bind_some, Option.bind_none, lp_X11_keyed_26, H.1.t0, gP_of H.1.t0 H.1.p0_0, gP_of H.1.t0 H.1.p0_1, gP_of H.1.t0 H.1.p0_2, gP_of H.1.t0 H.1.p0_3, gP_of H.1.t0 H.1.p0_4, gP_of H.1.t0 H.1.p0_5, gP_of H.1.t0 H.1.p0_6, gP_of H.1.t0 H.1.p0_7, gP_of H.1.t0 H.1.p0_8, gP_of H.1.t0 H.1.p0_9, x_hev H, e1, es, e2, (bt_tab _ l1 g (by omega)).2.1, nI_1]
          exact hI
  have hml : ∀ (f g : Nat) (μ : Mm), g ≤ h.n → h.n < g + f → MI R T F h K μ (a1 + 59) → ∃ μ', lp_X12_keyed_21 f (a1 + 59) (nI (cntP (rch h none) h.te)) (nI (bts (fun g => decide (std h (some g) ≠ std h none)) g)) (nI g) μ = some (nI (kyd h), μ') ∧ SM μ μ' (a1 + 59) := by
    intro f
    induction f with
    | zero => intro g μ q1 q2; omega
    | succ f ih =>
      intro g μ q1 q2 H
      by_cases e : g = h.n
      · have e1 : nI h.n ≤ nI g := by rw [e]; exact Int32.le_refl _
        refine ⟨μ, ?_, SM.rf _ _⟩
        simp (config := { decide := true }) only [↓reduceIte, Option.bind_some, Option.bind_none, lp_X12_keyed_21, m_hev H, e1]
        rw [e]
        rfl
      · have e1 : ¬ nI h.n ≤ nI g := nI_ge (by omega) (by omega)
        obtain ⟨μ1, y1, y2, y3⟩ := m_had (o := some g) H w h0 (fun x q => by cases q; omega)
        have y1' : f_X12_hadWithout μ (a1 + 59) (nI g) = some (nI (cntP (rch h (some g)) h.te), μ1) := y1
        obtain ⟨μ2, z1, z2⟩ := ih (g + 1) μ1 (by omega) (by omega) (H.scr y2)
        rw [bts_s] at z1
        have l1 := Nat.lt_of_lt_of_le (bts_lt (fun g => decide (std h (some g) ≠ std h none)) g) (bt_p6 (n := g) (by omega))
        have k1 := cntP_le (rch h none) h.te
        have k2 := cntP_le (rch h (some g)) h.te
        have hk := key_iff w h0 g
        refine ⟨μ2, ?_, y2.tr z2⟩
        by_cases z : std h (some g) = std h none
        · rw [if_neg (by rw [decide_eq_false (fun q => q z)]; decide)] at z1
          have e2 : nI (cntP (rch h none) h.te) ≤ nI (cntP (rch h (some g)) h.te) := nI_le (hk.mpr z) (by omega)
          have eo : (nI (bts (fun g => decide (std h (some g) ≠ std h none)) g) ||| (0 : Int32)) = _ := (bt_or _ l1 0 (by decide)).1
          simp (config := { decide := true }) only [↓reduceIte, Option.bind_some, Option.bind_none, lp_X12_keyed_21, m_hev H, e1, y1', e2, eo, nI_1, z1]
        · rw [if_pos (decide_eq_true z)] at z1
          have e2 : ¬ nI (cntP (rch h none) h.te) ≤ nI (cntP (rch h (some g)) h.te) := nI_ge (Nat.lt_of_not_le fun q => z (hk.mp q)) (by omega)
          simp (config := { decide := true }) only [↓reduceIte, Option.bind_some, Option.bind_none, lp_X12_keyed_21, m_hev H, e1, y1', e2, (bt_tab _ l1 g (by omega)).2.1, nI_1, z1]
  obtain ⟨μ1, y1, y2, y3⟩ := m_had (o := none) hm w h0 (fun x q => by cases q)
  have y1' : f_X12_hadWithout μ (a1 + 59) (-9) = some (nI (cntP (rch h none) h.te), μ1) := y1
  obtain ⟨μ2, z1, z2⟩ := hml BIG 0 μ1 (by omega) (by unfold BIG; omega) (hm.scr y2)
  have z1' : lp_X12_keyed_21 BIG (a1 + 59) (nI (cntP (rch h none) h.te)) 0 0 μ1 = _ := z1
  have s2 := y2.tr z2
  refine ⟨nI (kyd h), μ2, ?_, ?_, rfl, R, T, F, h, K, hw, hx.mv (fun b hb => s2.1 b ⟨by omega, by omega, by omega, by omega, by omega, by omega⟩) (by rw [s2.2.2.2.1]; exact Nat.le_refl _), hm.scr s2⟩
  · have H := hx
    have es : f_X3_stride μ (a1 + 3) (-1) = some (nI (std h none)) := x_stride H w h0 (o := none) (fun x q => by cases q)
    have el := hxl BIG 0 (by omega) (by unfold BIG; omega)
    have el' : lp_X11_keyed_26 BIG a1 (nI (std h none)) 0 0 μ = _ := el
    simp (config := { decide := true }) only [↓reduceIte, Option.bind_some, Option.bind_none, f_X11_keyed, H.1.t0, gP_of H.1.t0 H.1.p0_0, gP_of H.1.t0 H.1.p0_1, gP_of H.1.t0 H.1.p0_2, gP_of H.1.t0 H.1.p0_3, gP_of H.1.t0 H.1.p0_4, gP_of H.1.t0 H.1.p0_5, gP_of H.1.t0 H.1.p0_6, gP_of H.1.t0 H.1.p0_7, gP_of H.1.t0 H.1.p0_8, gP_of H.1.t0 H.1.p0_9, x_full H w h0, es, el']
  · simp (config := { decide := true }) only [↓reduceIte, Option.bind_some, Option.bind_none, f_X12_keyed, m_hev hm, hm.1.t0, hn0, y1', z1']
