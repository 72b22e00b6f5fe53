/-! ===== the fewest walks, the fewest feet: what is meant ===== -/
def FARn : Nat := 1000000
/-- costs by how far: 0 for nowhere; every finite one stands on another one; no walk makes one less -/
def Sup (te n : Nat) (t w : Nat → Nat) (C : Nat → Nat) : Prop := C 0 = 0 ∧ (∀ i, i < te → C i ≤ FARn) ∧ ∀ i, i < te → i ≠ 0 → C i < FARn → ∃ j g, j < te ∧ g < n ∧ (j + t g) % te = i ∧ C j + w g ≤ C i
def Fix (te n : Nat) (t w : Nat → Nat) (C : Nat → Nat) : Prop := ∀ j g, j < te → g < n → C ((j + t g) % te) ≤ C j + w g
theorem dst_ex {te n : Nat} {t w : Nat → Nat} (hte : 0 < te) (hw : ∀ g, g < n → 1 ≤ w g) : ∃ D, Sup te n t w D ∧ Fix te n t w D := by
  obtain ⟨s, ⟨D, hD, hs⟩, hmin⟩ := pk_least (fun s => ∃ C, Sup te n t w C ∧ sumN C te = s) ⟨_, fun i => if i = 0 then 0 else FARn, ⟨rfl, fun i _ => by
    by_cases z : i = 0
    · show (if i = 0 then 0 else FARn) ≤ _; rw [if_pos z]; exact Nat.zero_le _
    · show (if i = 0 then 0 else FARn) ≤ _; rw [if_neg z]; exact Nat.le_refl _, fun i _ z q => by
    have q : (if i = 0 then 0 else FARn) < FARn := q
    rw [if_neg z] at q; exact absurd q (Nat.lt_irrefl _)⟩, rfl⟩
  refine ⟨D, hD, fun j g hj hg => ?_⟩
  refine Nat.le_of_not_lt fun q => ?_
  obtain ⟨d1, d2, d3⟩ := hD
  have hk : (j + t g) % te < te := Nat.mod_lt _ hte
  have hk0 : (j + t g) % te ≠ 0 := fun z => by rw [z, d1] at q; exact absurd q (Nat.not_lt_zero _)
  have hjk : j ≠ (j + t g) % te := fun z => by
    have : D ((j + t g) % te) = D j := congrArg D z.symm
    have := hw g hg
    omega
  have hC : Sup te n t w (u1 D ((j + t g) % te) (D j + w g)) := by
    refine ⟨by rw [u1_ne (Ne.symm hk0)]; exact d1, fun i hi => ?_, fun i hi hi0 hf => ?_⟩
    · by_cases z : i = (j + t g) % te
      · rw [z, u1_eq]; have := d2 _ hk; omega
      · rw [u1_ne z]; exact d2 i hi
    · by_cases z : i = (j + t g) % te
      · refine ⟨j, g, hj, hg, z.symm, ?_⟩
        rw [u1_ne hjk, z, u1_eq]; exact Nat.le_refl _
      · rw [u1_ne z] at hf
        obtain ⟨j', g', z1, z2, z3, z4⟩ := d3 i hi hi0 hf
        refine ⟨j', g', z1, z2, z3, ?_⟩
        rw [u1_ne z]
        by_cases y : j' = (j + t g) % te
        · rw [y, u1_eq]; rw [y] at z4; omega
        · rw [u1_ne y]; exact z4
  have hb := sumN_bump (f := u1 D ((j + t g) % te) (D j + w g)) (f' := D) (g := (j + t g) % te) (v := D ((j + t g) % te) - (D j + w g)) te hk (fun i _ z => (u1_ne z).symm) (by rw [u1_eq]; omega)
  exact hmin (sumN (u1 D ((j + t g) % te) (D j + w g)) te) (by omega) ⟨_, hC, rfl⟩
section RX
variable {te n : Nat} {t w D : Nat → Nat}
/-- costs on the way to the least ones -/
def Inv (te : Nat) (D C : Nat → Nat) : Prop := C 0 = 0 ∧ ∀ i, i < te → D i ≤ C i ∧ C i ≤ FARn
theorem fix_eq {C : Nat → Nat} (hw : ∀ g, g < n → 1 ≤ w g) (hD : Sup te n t w D) (hC : Inv te D C) (hF : Fix te n t w C) : ∀ i, i < te → C i = D i := by
  have hle : ∀ v i, D i = v → i < te → C i ≤ D i := by
    intro v
    induction v using Nat.strongRecOn with
    | ind v ih =>
      intro i hv hi
      by_cases z0 : i = 0
      · rw [z0, hC.1]; exact Nat.zero_le _
      · by_cases zf : D i < FARn
        · obtain ⟨j, g, j1, g1, e1, e2⟩ := hD.2.2 i hi z0 zf
          have := hw g g1
          have h1 := ih (D j) (by omega) j rfl j1
          have h2 := hF j g j1 g1
          rw [e1] at h2
          omega
        · have := (hC.2 i hi).2; omega
  intro i hi
  have := hle (D i) i rfl hi
  have := (hC.2 i hi).1
  omega
/-- a sweep, under way -/
def Rx (te n : Nat) (t w D C0 C : Nat → Nat) (m : Bool) (don : Nat → Nat → Prop) : Prop := Inv te D C ∧ (∀ i, i < te → C i ≤ C0 i) ∧ (∀ j g, j < te → g < n → don j g → C ((j + t g) % te) ≤ C0 j + w g) ∧ (m = false → ∀ i, i < te → C i = C0 i) ∧ (m = true → ∃ i, i < te ∧ C i < C0 i)
theorem Rx.weak {C0 C : Nat → Nat} {m : Bool} {don don' : Nat → Nat → Prop} (h : Rx te n t w D C0 C m don) (hd : ∀ j g, j < te → g < n → don' j g → don j g) : Rx te n t w D C0 C m don' := ⟨h.1, h.2.1, fun j g hj hg hd' => h.2.2.1 j g hj hg (hd j g hj hg hd'), h.2.2.2⟩
theorem Rx.start {C0 : Nat → Nat} (h : Inv te D C0) {don : Nat → Nat → Prop} (hd : ∀ j g, j < te → g < n → ¬ don j g) : Rx te n t w D C0 C0 false don := ⟨h, fun _ _ => Nat.le_refl _, fun j g hj hg q => absurd q (hd j g hj hg), fun _ _ _ => rfl, fun z => by cases z⟩
theorem Rx.less {C0 C : Nat → Nat} {m : Bool} {don don' : Nat → Nat → Prop} (hF : Fix te n t w D) (h : Rx te n t w D C0 C m don) {j g : Nat} (hj : j < te) (hg : g < n) (hl : C j + w g < C ((j + t g) % te)) (hd : ∀ j' g', j' < te → g' < n → don' j' g' → don j' g' ∨ (j' = j ∧ g' = g)) : Rx te n t w D C0 (u1 C ((j + t g) % te) (C j + w g)) true don' := by
  obtain ⟨⟨i1, i2⟩, r1, r2, r3, r4⟩ := h
  have hk : (j + t g) % te < te := Nat.mod_lt _ (by omega)
  have hk0 : (j + t g) % te ≠ 0 := fun z => by rw [z, i1] at hl; exact absurd hl (Nat.not_lt_zero _)
  have hle : ∀ i, u1 C ((j + t g) % te) (C j + w g) i ≤ C i := fun i => by
    by_cases z : i = (j + t g) % te
    · rw [z, u1_eq]; omega
    · rw [u1_ne z]; exact Nat.le_refl _
  refine ⟨⟨by rw [u1_ne (Ne.symm hk0)]; exact i1, fun i hi => ?_⟩, fun i hi => Nat.le_trans (hle i) (r1 i hi), fun j' g' hj' hg' hd' => ?_, (fun z => by cases z), fun _ => ⟨(j + t g) % te, hk, by rw [u1_eq]; have := r1 _ hk; omega⟩⟩
  · by_cases z : i = (j + t g) % te
    · rw [z, u1_eq]
      have := hF j g hj hg
      have := (i2 j hj).1
      have := (i2 _ hk).2
      omega
    · rw [u1_ne z]; exact i2 i hi
  · rcases hd j' g' hj' hg' hd' with q | ⟨q1, q2⟩
    · exact Nat.le_trans (hle _) (r2 j' g' hj' hg' q)
    · rw [q1, q2, u1_eq]; have := r1 j hj; omega
theorem Rx.same {C0 C : Nat → Nat} {m : Bool} {don don' : Nat → Nat → Prop} (h : Rx te n t w D C0 C m don) {j g : Nat} (hj : j < te) (hl : ¬ C j + w g < C ((j + t g) % te)) (hd : ∀ j' g', j' < te → g' < n → don' j' g' → don j' g' ∨ (j' = j ∧ g' = g)) : Rx te n t w D C0 C m don' := by
  obtain ⟨i1, r1, r2, r3, r4⟩ := h
  refine ⟨i1, r1, fun j' g' hj' hg' hd' => ?_, r3, r4⟩
  rcases hd j' g' hj' hg' hd' with q | ⟨q1, q2⟩
  · exact r2 j' g' hj' hg' q
  · rw [q1, q2]; have := r1 j hj; omega
/-- how many are least already -/
def fin (te : Nat) (D C : Nat → Nat) : Nat := cntP (fun i => decide (C i = D i)) te
theorem sweep {C0 C : Nat → Nat} {m : Bool} (hw : ∀ g, g < n → 1 ≤ w g) (hD : Sup te n t w D) (hF : Fix te n t w D) (h0 : Inv te D C0) (h : Rx te n t w D C0 C m (fun _ _ => True)) : (m = false → ∀ i, i < te → C i = D i) ∧ (fin te D C0 < te → fin te D C0 < fin te D C) ∧ (fin te D C0 = te → m = false) ∧ fin te D C0 ≤ fin te D C := by
  obtain ⟨i1, r1, r2, r3, r4⟩ := h
  have hsub := cntP_sub (P := fun i => decide (C0 i = D i)) (Q := fun i => decide (C i = D i)) te (fun i hi q => by
    have q := of_decide_eq_true q
    have := r1 i hi
    have := (i1.2 i hi).1
    exact decide_eq_true (by omega))
  have hall : fin te D C0 = te → ∀ i, i < te → C0 i = D i := fun q i hi => by
    have hs := (cntP_sub (P := fun i => decide (C0 i = D i)) (Q := fun _ => true) te (fun _ _ _ => rfl)).2
    have hc : cntP (fun _ => true) te = te := by
      clear hs hsub q i hi r1 r2 r3 r4 i1 h0 hD hF
      induction te with
      | zero => rfl
      | succ k ih => rw [cntP_s, ih]; rfl
    rw [hc] at hs
    exact of_decide_eq_true (hs.mp q i hi rfl)
  refine ⟨fun hm => ?_, fun hl => ?_, fun hl => ?_, hsub.1⟩
  · have e := r3 hm
    refine fix_eq hw hD i1 (fun j g hj hg => ?_)
    have := r2 j g hj hg trivial
    rw [e j hj]; exact this
  · refine Nat.lt_of_le_of_ne hsub.1 fun q => ?_
    have hs := hsub.2.mp q
    -- the least one that is not yet least
    have hex : ∃ v, ∃ i, i < te ∧ C0 i ≠ D i ∧ D i = v := by
      refine Classical.byContradiction fun hn => ?_
      have ha : ∀ i, i < te → C0 i = D i := fun i hi => Classical.byContradiction fun z => hn ⟨_, i, hi, z, rfl⟩
      have : fin te D C0 = te := by
        unfold fin
        rw [cntP_cong (Q := fun _ => true) te fun i hi => decide_eq_true (ha i hi)]
        clear hs hsub hn ha q hl hall r1 r2 r3 r4 i1 h0 hD hF
        induction te with
        | zero => rfl
        | succ k ih => rw [cntP_s, ih]; rfl
      omega
    obtain ⟨v, ⟨i, hi, hne, hv⟩, hmin⟩ := pk_least _ hex
    have hi0 : i ≠ 0 := fun z => hne (by rw [z, h0.1, hD.1])
    have hif : D i < FARn := by
      have := h0.2 i hi
      refine Nat.lt_of_not_le fun z => hne ?_
      omega
    obtain ⟨j, g, j1, g1, e1, e2⟩ := hD.2.2 i hi hi0 hif
    have hw1 := hw g g1
    have hj : C0 j = D j := Classical.byContradiction fun z => hmin (D j) (by omega) ⟨j, j1, z, rfl⟩
    have h2 := r2 j g j1 g1 trivial
    rw [e1] at h2
    have h3 := (i1.2 i hi).1
    have := of_decide_eq_true (hs i hi (decide_eq_true (by omega)))
    exact hne this
  · cases hm : m with
    | false => rfl
    | true =>
      obtain ⟨i, hi, hlt⟩ := r4 hm
      have e := hall hl i hi
      have := (i1.2 i hi).1
      omega
end RX
