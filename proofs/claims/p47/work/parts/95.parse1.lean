/-! ===== a text read as a hall: what is meant ===== -/
/-- guilds, teeth, rents, how many rents, kinds, feet -/
abbrev PS : Type := Nat × Nat × Int64 × Nat × (Nat → Nat) × (Nat → Nat)
abbrev PS.n (P : PS) : Nat := P.1
abbrev PS.te (P : PS) : Nat := P.2.1
abbrev PS.rs (P : PS) : Int64 := P.2.2.1
abbrev PS.rm (P : PS) : Nat := P.2.2.2.1
abbrev PS.kd (P : PS) : Nat → Nat := P.2.2.2.2.1
abbrev PS.ft (P : PS) : Nat → Nat := P.2.2.2.2.2
def P0 : PS := (0, 0, 0, 0, fun _ => 0, fun _ => 0)
def isf (x : Int32) : Bool := decide (¬ x < 48 ∧ x ≤ 57)
def fig (x : Int32) : Nat := (x - 48).toNatClampNeg
theorem isf_fig {x : Int32} (h : isf x = true) : fig x ≤ 9 ∧ x = nI (48 + fig x) ∧ x - 48 = nI (fig x) := by
  obtain ⟨h1, h2⟩ := of_decide_eq_true h
  have hx : ¬ x < 0 := fun q => h1 (Int32.lt_trans q (by decide))
  obtain ⟨j, hj, rfl⟩ := nI_of hx
  have a1 : 48 ≤ j := Nat.le_of_not_lt fun q => h1 (show nI j < nI 48 from nI_lt q (by decide))
  have a2 : j ≤ 57 := Nat.le_of_not_lt fun q => nI_ge q hj (show nI j ≤ nI 57 from h2)
  have e : nI j - 48 = nI (j - 48) := (show nI j - nI 48 = _ from pk_sub a1)
  have ef : fig (nI j) = j - 48 := by unfold fig; rw [e, nI_clamp (by omega)]
  rw [ef]
  exact ⟨by omega, congrArg nI (by omega), e⟩
/-- the blanks ahead are left out -/
def skp (g : Nat → Int32) : Nat → Nat → Nat
  | 0, i => i
  | d+1, i => if g i = 32 then skp g d (i + 1) else i
theorem skp_s (g : Nat → Int32) (d i : Nat) : skp g (d + 1) i = if g i = 32 then skp g d (i + 1) else i := rfl
theorem skp_le (g : Nat → Int32) : ∀ d i, i ≤ skp g d i ∧ skp g d i ≤ i + d := by
  intro d
  induction d with
  | zero => intro i; exact ⟨Nat.le_refl _, Nat.le_refl _⟩
  | succ d ih =>
    intro i
    rw [skp_s]
    by_cases z : g i = 32
    · rw [if_pos z]; have := ih (i + 1); omega
    · rw [if_neg z]; omega
/-- two figures between bounds, or the fault -/
def two (g : Nat → Int32) (m i lo hi : Nat) : Nat ⊕ Nat :=
  if i < m ∧ isf (g i) = true then
    if i + 1 < m ∧ isf (g (i + 1)) = true then
      if lo ≤ 10 * fig (g i) + fig (g (i + 1)) ∧ 10 * fig (g i) + fig (g (i + 1)) ≤ hi then .inr (10 * fig (g i) + fig (g (i + 1))) else .inl i
    else .inl (i + 1)
  else .inl i
def kof (x : Int32) : Option Nat := if x = 99 then some 2 else if x = 103 then some 0 else if x = 104 then some 1 else if x = 107 then some 3 else if x = 114 then some 4 else if x = 116 then some 5 else none
def orb (rs : Int64) (v : Nat) : Int64 := rs ||| ((1 : Int64) <<< ((nI v).toInt64 &&& 63))
/-- an item, or the fault -/
def itm (g : Nat → Int32) (m i : Nat) (P : PS) : Nat ⊕ (Nat × PS) :=
  if P.te = 0 then
    if g i = 100 then
      match two g m (i + 1) 12 60 with
      | .inl f => .inl f
      | .inr v => .inr (i + 3, (P.n, v, P.rs, P.rm, P.kd, P.ft))
    else .inl i
  else if g i = 101 then
    if P.n = 0 ∨ 6 ≤ P.rm then .inl i
    else match two g m (i + 2 - 1) 1 (P.te - 1) with
      | .inl f => .inl f
      | .inr v => if isr P.rs v = true then .inl (i + 1) else .inr (i + 3, (P.n, P.te, orb P.rs v, P.rm + 1, P.kd, P.ft))
  else match kof (g i) with
    | none => .inl i
    | some k =>
      if 6 ≤ P.n ∨ 0 < P.rm then .inl i
      else if i + 1 < m ∧ isf (g (i + 1)) = true ∧ fig (g (i + 1)) ≠ 0 then .inr (i + 2, (P.n + 1, P.te, P.rs, P.rm, u1 P.kd P.n k, u1 P.ft P.n (fig (g (i + 1))))) else .inl (i + 1)
def prs (g : Nat → Int32) (m : Nat) : Nat → Nat → PS → Nat ⊕ PS
  | 0, _, P => .inr P
  | d+1, i, P => if m ≤ skp g (m - i) i then .inr P else
    match itm g m (skp g (m - i) i) P with
    | .inl f => .inl f
    | .inr x => prs g m d x.1 x.2
/-- the whole text -/
def par (g : Nat → Int32) (m : Nat) : Nat ⊕ PS :=
  match prs g m 62 0 P0 with
  | .inl f => .inl f
  | .inr P => if P.n = 0 then .inl m else .inr P
/-- what holds of what is read so far -/
def PW' (P : PS) : Prop := P.n ≤ 6 ∧ P.rm ≤ 6 ∧ ((P.te = 0 ∧ P.n = 0 ∧ P.rm = 0 ∧ P.rs = 0) ∨ (12 ≤ P.te ∧ P.te ≤ 60)) ∧ (∀ t, isr P.rs t = true → 1 ≤ t ∧ t < P.te) ∧ ∀ x, x < P.n → P.kd x < 6 ∧ 1 ≤ P.ft x ∧ P.ft x ≤ 9
theorem P0_ok : PW' P0 := ⟨by decide, by decide, Or.inl ⟨rfl, rfl, rfl, rfl⟩, (fun t q => by
  have : isr 0 t = false := by
    unfold isr
    show (BitVec.ofNat 64 0).getLsbD t = false
    simp
  have q : isr 0 t = true := q
  rw [this] at q; cases q), fun x hx => absurd hx (Nat.not_lt_zero _)⟩
theorem two_in {g : Nat → Int32} {m i lo hi v : Nat} (h : two g m i lo hi = .inr v) : lo ≤ v ∧ v ≤ hi ∧ i + 1 < m := by
  unfold two at h
  by_cases a : i < m ∧ isf (g i) = true
  · rw [if_pos a] at h
    by_cases b : i + 1 < m ∧ isf (g (i + 1)) = true
    · rw [if_pos b] at h
      by_cases c : lo ≤ 10 * fig (g i) + fig (g (i + 1)) ∧ 10 * fig (g i) + fig (g (i + 1)) ≤ hi
      · rw [if_pos c] at h
        cases h
        exact ⟨c.1, c.2, b.1⟩
      · rw [if_neg c] at h; cases h
    · rw [if_neg b] at h; cases h
  · rw [if_neg a] at h; cases h
theorem two_f {g : Nat → Int32} {m i lo hi f : Nat} (hi' : i ≤ m) (h : two g m i lo hi = .inl f) : f ≤ m := by
  unfold two at h
  by_cases a : i < m ∧ isf (g i) = true
  · rw [if_pos a] at h
    by_cases b : i + 1 < m ∧ isf (g (i + 1)) = true
    · rw [if_pos b] at h
      by_cases c : lo ≤ 10 * fig (g i) + fig (g (i + 1)) ∧ 10 * fig (g i) + fig (g (i + 1)) ≤ hi
      · rw [if_pos c] at h; cases h
      · rw [if_neg c] at h; cases h; exact hi'
    · rw [if_neg b] at h; cases h; omega
  · rw [if_neg a] at h; cases h; exact hi'
theorem kof_lt {x : Int32} {k : Nat} (h : kof x = some k) : k < 6 := by
  unfold kof at h
  repeat (first | (cases h; decide) | (split at h))
  all_goals first | (cases h; decide) | (cases h)
theorem itm_ok {g : Nat → Int32} {m i : Nat} {P : PS} (hP : PW' P) (hi : i < m) : (∀ f, itm g m i P = .inl f → f ≤ m) ∧ ∀ x, itm g m i P = .inr x → PW' x.2 ∧ i + 2 ≤ x.1 ∧ x.1 ≤ m ∧ 12 ≤ x.2.te := by
  obtain ⟨p1, p2, p3, p4, p5⟩ := hP
  unfold itm
  by_cases z : P.te = 0
  · have hn : P.n = 0 ∧ P.rm = 0 ∧ P.rs = 0 := by
      rcases p3 with ⟨_, q⟩ | q
      · exact q
      · omega
    rw [if_pos z]
    by_cases a : g i = 100
    · rw [if_pos a]
      cases h2 : two g m (i + 1) 12 60 with
      | inl f => exact ⟨fun f' q => by cases q; exact two_f (by omega) h2, fun x q => by cases q⟩
      | inr v =>
        obtain ⟨v1, v2, v3⟩ := two_in h2
        refine ⟨fun f' q => (by cases q), fun x q => ?_⟩
        cases q
        refine ⟨⟨p1, p2, Or.inr ⟨v1, v2⟩, fun t q => ?_, p5⟩, by omega, by omega, v1⟩
        have := (p4 t q).2
        omega
    · rw [if_neg a]
      exact ⟨fun f' q => by cases q; omega, fun x q => by cases q⟩
  · rw [if_neg z]
    have ht : 12 ≤ P.te ∧ P.te ≤ 60 := by
      rcases p3 with ⟨q, _⟩ | q
      · exact absurd q z
      · exact q
    by_cases a : g i = 101
    · rw [if_pos a]
      by_cases b : P.n = 0 ∨ 6 ≤ P.rm
      · rw [if_pos b]
        exact ⟨fun f' q => by cases q; omega, fun x q => by cases q⟩
      · rw [if_neg b]
        cases h2 : two g m (i + 2 - 1) 1 (P.te - 1) with
        | inl f => exact ⟨fun f' q => by cases q; exact two_f (by omega) h2, fun x q => by cases q⟩
        | inr v =>
          obtain ⟨v1, v2, v3⟩ := two_in h2
          by_cases c : isr P.rs v = true
          · show (∀ f, (if isr P.rs v = true then _ else _) = _ → _) ∧ ∀ x, (if isr P.rs v = true then _ else _) = _ → _
            rw [if_pos c]
            exact ⟨fun f' q => by cases q; omega, fun x q => by cases q⟩
          · show (∀ f, (if isr P.rs v = true then _ else _) = _ → _) ∧ ∀ x, (if isr P.rs v = true then _ else _) = _ → _
            rw [if_neg c]
            refine ⟨fun f' q => (by cases q), fun x q => ?_⟩
            cases q
            refine ⟨⟨p1, by show P.rm + 1 ≤ 6; omega, Or.inr ht, fun t q => ?_, p5⟩, by omega, by omega, ht.1⟩
            have q : isr (orb P.rs v) t = true := q
            unfold orb at q
            rw [isr_or P.rs (show v < 64 by omega), Bool.or_eq_true] at q
            rcases q with q | q
            · exact p4 t q
            · have := of_decide_eq_true q
              show 1 ≤ t ∧ t < P.te
              omega
    · rw [if_neg a]
      cases hk : kof (g i) with
      | none => exact ⟨fun f' q => by cases q; omega, fun x q => by cases q⟩
      | some k =>
        have hk6 := kof_lt hk
        by_cases b : 6 ≤ P.n ∨ 0 < P.rm
        · show (∀ f, (if 6 ≤ P.n ∨ 0 < P.rm then _ else _) = _ → _) ∧ ∀ x, (if 6 ≤ P.n ∨ 0 < P.rm then _ else _) = _ → _
          rw [if_pos b]
          exact ⟨fun f' q => by cases q; omega, fun x q => by cases q⟩
        · show (∀ f, (if 6 ≤ P.n ∨ 0 < P.rm then _ else _) = _ → _) ∧ ∀ x, (if 6 ≤ P.n ∨ 0 < P.rm then _ else _) = _ → _
          rw [if_neg b]
          by_cases d : i + 1 < m ∧ isf (g (i + 1)) = true ∧ fig (g (i + 1)) ≠ 0
          · rw [if_pos d]
            refine ⟨fun f' q => (by cases q), fun x q => ?_⟩
            cases q
            have hf := (isf_fig d.2.1).1
            refine ⟨⟨by show P.n + 1 ≤ 6; omega, p2, Or.inr ht, p4, fun x hx => ?_⟩, by omega, by omega, ht.1⟩
            have hx : x < P.n + 1 := hx
            show u1 P.kd P.n k x < 6 ∧ 1 ≤ u1 P.ft P.n (fig (g (i + 1))) x ∧ u1 P.ft P.n (fig (g (i + 1))) x ≤ 9
            by_cases y : x = P.n
            · rw [y, u1_eq, u1_eq]
              exact ⟨hk6, by have := d.2.2; omega, hf⟩
            · rw [u1_ne y, u1_ne y]
              exact p5 x (by omega)
          · rw [if_neg d]
            exact ⟨fun f' q => by cases q; omega, fun x q => by cases q⟩
theorem prs_s (g : Nat → Int32) (m d i : Nat) (P : PS) : prs g m (d + 1) i P = if m ≤ skp g (m - i) i then .inr P else match itm g m (skp g (m - i) i) P with | .inl f => .inl f | .inr x => prs g m d x.1 x.2 := rfl
theorem prs_ok {g : Nat → Int32} {m : Nat} : ∀ d i P, PW' P → (∀ f, prs g m d i P = .inl f → f ≤ m) ∧ ∀ Q, prs g m d i P = .inr Q → PW' Q := by
  intro d
  induction d with
  | zero => intro i P hP; exact ⟨fun f q => (by cases q), fun Q q => by cases q; exact hP⟩
  | succ d ih =>
    intro i P hP
    rw [prs_s]
    by_cases z : m ≤ skp g (m - i) i
    · rw [if_pos z]
      exact ⟨fun f q => (by cases q), fun Q q => by cases q; exact hP⟩
    · rw [if_neg z]
      obtain ⟨h1, h2⟩ := itm_ok (g := g) hP (show skp g (m - i) i < m by omega)
      cases hI : itm g m (skp g (m - i) i) P with
      | inl f => exact ⟨fun f' q => by cases q; exact h1 f hI, fun Q q => by cases q⟩
      | inr x =>
        obtain ⟨x1, -⟩ := h2 x hI
        exact ih x.1 x.2 x1
theorem par_ok (g : Nat → Int32) (m : Nat) : (∀ f, par g m = .inl f → f ≤ m) ∧ ∀ P, par g m = .inr P → PW' P ∧ 1 ≤ P.n ∧ 12 ≤ P.te := by
  obtain ⟨h1, h2⟩ := prs_ok (g := g) (m := m) 62 0 P0 P0_ok
  unfold par
  cases hp : prs g m 62 0 P0 with
  | inl f => exact ⟨fun f' q => by cases q; exact h1 f hp, fun P q => by cases q⟩
  | inr P =>
    have hP := h2 P hp
    show (∀ f, (if P.n = 0 then Sum.inl m else Sum.inr P) = Sum.inl f → f ≤ m) ∧ ∀ Q, (if P.n = 0 then Sum.inl m else Sum.inr P) = Sum.inr Q → PW' Q ∧ 1 ≤ Q.n ∧ 12 ≤ Q.te
    by_cases z : P.n = 0
    · rw [if_pos z]
      exact ⟨fun f' q => by cases q; exact Nat.le_refl _, fun Q q => by cases q⟩
    · rw [if_neg z]
      refine ⟨fun f' q => (by cases q), fun Q q => ?_⟩
      cases q
      refine ⟨hP, by omega, ?_⟩
      rcases hP.2.2.1 with ⟨_, q, _⟩ | q
      · exact absurd q z
      · exact q.1
theorem skp_step {g : Nat → Int32} {m i : Nat} (hi : i < m) (hg : g i = 32) : skp g (m - i) i = skp g (m - (i + 1)) (i + 1) := by
  rw [show m - i = (m - (i + 1)) + 1 by omega, skp_s, if_pos hg]
theorem skp_stay {g : Nat → Int32} {m i : Nat} (hi : i < m) (hg : ¬ g i = 32) : skp g (m - i) i = i := by
  rw [show m - i = (m - (i + 1)) + 1 by omega, skp_s, if_neg hg]
theorem skp_end {g : Nat → Int32} {m i : Nat} (hi : m ≤ i) : skp g (m - i) i = i := by
  rw [show m - i = 0 by omega]; rfl
theorem n9 {f : Nat} (h : f < 2 ^ 31) : ¬ nI f = -9 := fun q => by
  have := nI_pos h
  rw [q] at this
  exact this (by decide)
