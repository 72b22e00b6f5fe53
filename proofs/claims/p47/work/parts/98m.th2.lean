/-! ===== THEORY: costs ===== -/
section TH2
variable {te n : Nat} {t w D : Nat → Nat}
theorem fix_1 (hD : Sup te n t w D) (hF : Fix te n t w D) {i : Nat} (hi : i < te) (h0 : i ≠ 0) (hf : D i < FARn) (hw : ∀ g, g < n → 1 ≤ w g) : ∃ j g, j < te ∧ g < n ∧ (j + t g) % te = i ∧ D j + w g = D i := by
  obtain ⟨j, g, j1, g1, e1, e2⟩ := hD.2.2 i hi h0 hf
  have := hF j g j1 g1
  rw [e1] at this
  exact ⟨j, g, j1, g1, e1, by omega⟩
/-- a finite cost is below the teeth, where each walk costs one -/
theorem cost_small (hD : Sup te n t (fun _ => 1) D) (hF : Fix te n t (fun _ => 1) D) (hte : 0 < te) : ∀ v i, i < te → D i = v → v < FARn → v + 1 ≤ cntP (fun x => decide (D x ≤ v)) te := by
  intro v
  induction v with
  | zero =>
    intro i hi hv _
    refine Nat.pos_of_ne_zero fun z => ?_
    have := (cntP_zero te).mp z 0 hte
    rw [decide_eq_true (by rw [hD.1]; exact Nat.le_refl _)] at this; cases this
  | succ v ih =>
    intro i hi hv hf
    have h0 : i ≠ 0 := fun z => by rw [z, hD.1] at hv; cases hv
    obtain ⟨j, g, j1, g1, e1, e2⟩ := fix_1 hD hF hi h0 (by omega) (fun _ _ => Nat.le_refl 1)
    have h1 := ih j j1 (by omega) (by omega)
    have h2 := cntP_sub (P := fun x => decide (D x ≤ v)) (Q := fun x => decide (D x ≤ v + 1)) te (fun x _ q => decide_eq_true (by have := of_decide_eq_true q; omega))
    have h3 : cntP (fun x => decide (D x ≤ v)) te ≠ cntP (fun x => decide (D x ≤ v + 1)) te := fun z => by
      have := h2.2.mp z i hi (decide_eq_true (by omega))
      have := of_decide_eq_true this
      omega
    have := h2.1
    omega
theorem cost_lt (hD : Sup te n t (fun _ => 1) D) (hF : Fix te n t (fun _ => 1) D) (hte : 0 < te) {i : Nat} (hi : i < te) (hf : D i < FARn) : D i < te := by
  have h1 := cost_small hD hF hte (D i) i hi rfl hf
  have h2 := cntP_le (fun x => decide (D x ≤ D i)) te
  omega
/-- walks and feet -/
theorem cost_le {E : Nat → Nat} (hD : Sup te n t (fun _ => 1) D) (hF : Fix te n t (fun _ => 1) D) (hE : Sup te n t w E) (hw : ∀ g, g < n → 1 ≤ w g) : ∀ v i, i < te → E i = v → D i ≤ E i := by
  intro v
  induction v using Nat.strongRecOn with
  | ind v ih =>
    intro i hi hv
    by_cases z0 : i = 0
    · rw [z0, hD.1]; exact Nat.zero_le _
    · by_cases zf : E i < FARn
      · obtain ⟨j, g, j1, g1, e1, e2⟩ := hE.2.2 i hi z0 zf
        have h1 := hw g g1
        have h2 := ih (E j) (by omega) j j1 rfl
        have h3 := hF j g j1 g1
        rw [e1] at h3
        have h3 : D i ≤ D j + 1 := h3
        omega
      · have := hD.2.1 i hi; omega
theorem cost_ge {E : Nat → Nat} {B : Nat} (hD : Sup te n t (fun _ => 1) D) (hF : Fix te n t (fun _ => 1) D) (hE : Sup te n t w E) (hG : Fix te n t w E) (hw : ∀ g, g < n → w g ≤ B) : ∀ v i, i < te → D i = v → v < FARn → E i ≤ B * v := by
  intro v
  induction v with
  | zero =>
    intro i hi hv _
    by_cases z0 : i = 0
    · rw [z0, hE.1]; exact Nat.zero_le _
    · obtain ⟨j, g, j1, g1, e1, e2⟩ := fix_1 hD hF hi z0 (by omega) (fun _ _ => Nat.le_refl 1)
      have e2 : D j + 1 = D i := e2
      omega
  | succ v ih =>
    intro i hi hv hf
    have h0 : i ≠ 0 := fun z => by rw [z, hD.1] at hv; cases hv
    obtain ⟨j, g, j1, g1, e1, e2⟩ := fix_1 hD hF hi h0 (by omega) (fun _ _ => Nat.le_refl 1)
    have e2 : D j + 1 = D i := e2
    have h1 := ih j j1 (by omega) (by omega)
    have h2 := hG j g j1 g1
    rw [e1] at h2
    have h3 := hw g g1
    rw [Nat.mul_succ]
    omega
/-- rows of walks that go so far: no fewer than the fewest -/
theorem Wo_cost (hF : Fix te n t (fun _ => 1) D) (hD : Sup te n t (fun _ => 1) D) (hte : 0 < te) (ht : ∀ g, g < n → t g ≤ 81 * te) : ∀ m i, i < te → 0 < Wo te n t m i → D i ≤ m := by
  intro m
  induction m with
  | zero =>
    intro i hi hp
    by_cases z : i = 0
    · rw [z, hD.1]; exact Nat.le_refl _
    · have hp : 0 < (if i = 0 then 1 else 0) := hp
      rw [if_neg z] at hp; exact absurd hp (Nat.lt_irrefl _)
  | succ m ih =>
    intro i hi hp
    have hp : 0 < sumN (fun g => Wo te n t m (wy te i (t g))) n := hp
    rw [sumN_pos] at hp
    obtain ⟨g, hg, q⟩ := hp
    have h1 := ih (wy te i (t g)) (wy_lt hte) q
    have h2 := hF (wy te i (t g)) g (wy_lt hte) hg
    rw [wy_add (ht g hg), Nat.mod_eq_of_lt hi] at h2
    have h2 : D i ≤ D (wy te i (t g)) + 1 := h2
    omega
-- sums over the dial
theorem sumN_front (f : Nat → Nat) : ∀ u, sumN f (u + 1) = f 0 + sumN (fun j => f (j + 1)) u := by
  intro u
  induction u with
  | zero => show 0 + f 0 = f 0 + 0; omega
  | succ u ih => rw [sumN_s, ih, sumN_s]; omega
theorem sumN_rot1 (f : Nat → Nat) (hte : 0 < te) : sumN (fun j => f ((j + 1) % te)) te = sumN f te := by
  obtain ⟨u, rfl⟩ : ∃ u, te = u + 1 := ⟨te - 1, by omega⟩
  rw [sumN_front f u, sumN_s, Nat.mod_self, sumN_cong (g := fun j => f (j + 1)) u (fun i hi => by rw [Nat.mod_eq_of_lt (by omega)])]
  omega
theorem sumN_rot (f : Nat → Nat) (hte : 0 < te) : ∀ c, sumN (fun j => f ((j + c) % te)) te = sumN f te := by
  intro c
  induction c with
  | zero => exact sumN_cong te fun i hi => by rw [Nat.add_zero, Nat.mod_eq_of_lt hi]
  | succ c ih =>
    rw [← ih, ← sumN_rot1 (fun j => f ((j + c) % te)) hte]
    exact sumN_cong te fun i hi => by
      show f ((i + (c + 1)) % te) = f (((i + 1) % te + c) % te)
      rw [Nat.mod_add_mod, Nat.add_assoc, Nat.add_comm c 1]
theorem sumN_wy (f : Nat → Nat) (hte : 0 < te) {s : Nat} (hs : s ≤ 81 * te) : sumN (fun j => f (wy te j s)) te = sumN f te := by
  rw [← sumN_rot f hte (81 * te - s)]
  exact sumN_cong te fun i _ => by
    show f ((i + 81 * te - s) % te) = _
    rw [Nat.add_sub_assoc hs]
theorem sumN_const (c : Nat) : ∀ n, sumN (fun _ => c) n = n * c := by
  intro n
  induction n with
  | zero => rw [Nat.zero_mul]; rfl
  | succ n ih => rw [sumN_s, ih, Nat.succ_mul]
/-- parts of all teeth are one together -/
theorem Wo_sum (hte : 0 < te) (ht : ∀ g, g < n → t g ≤ 81 * te) : ∀ m, sumN (fun i => Wo te n t m i) te = n ^ m := by
  intro m
  induction m with
  | zero =>
    have e : sumN (fun i => Wo te n t 0 i) te = sumN (fun i => if i = 0 then 1 else 0) te := rfl
    rw [e, sumN_one, if_pos hte]; rfl
  | succ m ih =>
    have e : sumN (fun i => Wo te n t (m + 1) i) te = sumN (fun i => sumN (fun g => Wo te n t m (wy te i (t g))) n) te := rfl
    rw [e, sumN_swap, sumN_cong (g := fun _ => n ^ m) n (fun g hg => by rw [sumN_wy (fun i => Wo te n t m i) hte (ht g hg), ih]), sumN_const, Nat.pow_succ, Nat.mul_comm]
end TH2
/-- teeth that the walks don't reach are those that can't be had -/
theorem far_rch {h : GH} (w : WH h) (h0 : ¬ h.n = 0) {D : Nat → Nat} (hD : Sup h.te h.n h.tr (fun _ => 1) D) (hF : Fix h.te h.n h.tr (fun _ => 1) D) {p : Nat} (hp : p < h.te) (hr : rch h none p = true) : D (wy h.te p h.q.1) < FARn := by
  have t1 := w.te_ge h0
  have t2 := w.te_lt
  have tn := w.now_lt h0
  have hte : 0 < h.te := by omega
  have e0 : wy h.te h.q.1 h.q.1 = 0 := ((wy_iff hte (show h.q.1 < h.te from tn) (show h.q.1 ≤ 81 * h.te by omega)).mp (by rw [Nat.zero_add, Nat.mod_eq_of_lt tn])).symm
  have := rch_all (h := h) (o := none) (A := fun x => decide (D (wy h.te x h.q.1) < FARn)) (x := p) hte tn (decide_eq_true (by rw [e0, hD.1]; decide)) (fun g hg _ x hx hA => by
    have hA := of_decide_eq_true hA
    have hl := wy_lt (te := h.te) (p := x) (q := h.q.1) hte
    have h1 := hF (wy h.te x h.q.1) g hl hg
    have h2 := cost_lt hD hF hte hl hA
    have htr := w.tr_le hg
    have e : wy h.te ((x + h.tr g) % h.te) h.q.1 = (wy h.te x h.q.1 + h.tr g) % h.te := by
      refine mod_inj (s := h.q.1) (wy_lt hte) (Nat.mod_lt _ hte) ?_
      have e1 : (wy h.te x h.q.1 + h.q.1) % h.te = x % h.te := wy_add (by omega)
      rw [wy_add (by omega), Nat.mod_mod, Nat.mod_add_mod, Nat.add_right_comm (wy h.te x h.q.1), ← Nat.mod_add_mod (wy h.te x h.q.1 + h.q.1) h.te (h.tr g), e1, Nat.mod_add_mod]
    refine decide_eq_true ?_
    show D (wy h.te ((x + h.tr g) % h.te) h.q.1) < FARn
    rw [e]
    have h1 : D ((wy h.te x h.q.1 + h.tr g) % h.te) ≤ D (wy h.te x h.q.1) + 1 := h1
    have : FARn = 1000000 := rfl
    omega) hp hr
  exact of_decide_eq_true this
/-- who walks first: some one, and one fewer is left -/
theorem fw_ex {h : GH} (w : WH h) (h0 : ¬ h.n = 0) {D : Nat → Nat} (hD : Sup h.te h.n h.tr (fun _ => 1) D) (hF : Fix h.te h.n h.tr (fun _ => 1) D) {p v : Nat} (hp : p < h.te) (hv : D (wy h.te p h.q.1) = v + 1) (hf : v + 1 < FARn) : ∃ g, g < h.n ∧ fst (fwk h D p) h.n 0 = some g ∧ D (wy h.te p (h.tr g + h.q.1)) = v := by
  have t1 := w.te_ge h0
  have t2 := w.te_lt
  have tn := w.now_lt h0
  have hte : 0 < h.te := by omega
  have hl := wy_lt (te := h.te) (p := p) (q := h.q.1) hte
  have hne : wy h.te p h.q.1 ≠ 0 := fun z => by rw [z, hD.1] at hv; cases hv
  obtain ⟨j, g, j1, g1, e1, e2⟩ := fix_1 hD hF hl hne (by omega) (fun _ _ => Nat.le_refl 1)
  have e2 : D j + 1 = D (wy h.te p h.q.1) := e2
  have htr := w.tr_le g1
  have ej : j = wy h.te p (h.tr g + h.q.1) := by
    have := (wy_iff (te := h.te) (x := j) (j := wy h.te p h.q.1) (t := h.tr g) j1 hl (by omega)).mp e1
    rw [this, wy_wy hte (by omega) (by omega) (by omega)]
  have hP : fwk h D p g = true := by
    unfold fwk
    exact decide_eq_true ⟨by omega, by rw [← ej]; exact e2⟩
  rcases fst_cases (fwk h D p) h.n 0 with ⟨i, i1, i2, i3, i4⟩ | q
  · refine ⟨i, by omega, fst_some _ _ _ i i1 i2 i3 i4, ?_⟩
    unfold fwk at i3
    have := (of_decide_eq_true i3).2
    omega
  · have := q g (Nat.zero_le _) (by omega)
    rw [hP] at this; cases this
theorem fw_none {h : GH} {D : Nat → Nat} {p : Nat} (hv : D (wy h.te p h.q.1) = 0) : fst (fwk h D p) h.n 0 = none := fst_none _ _ _ fun i _ _ => by
  unfold fwk
  exact decide_eq_false fun q => by omega
/-- no way left: at the tooth -/
theorem cost_0 {h : GH} (w : WH h) (h0 : ¬ h.n = 0) {D : Nat → Nat} (hD : Sup h.te h.n h.tr (fun _ => 1) D) (hF : Fix h.te h.n h.tr (fun _ => 1) D) {p : Nat} (hp : p < h.te) (hv : D (wy h.te p h.q.1) = 0) : wy h.te p h.q.1 = 0 ∧ h.q.1 = p := by
  have t1 := w.te_ge h0
  have tn := w.now_lt h0
  have hte : 0 < h.te := by omega
  have hl := wy_lt (te := h.te) (p := p) (q := h.q.1) hte
  have hz : wy h.te p h.q.1 = 0 := by
    refine Classical.byContradiction fun z => ?_
    obtain ⟨j, g, j1, g1, e1, e2⟩ := fix_1 hD hF hl z (by rw [hv]; decide) (fun _ _ => Nat.le_refl 1)
    have e2 : D j + 1 = D (wy h.te p h.q.1) := e2
    omega
  refine ⟨hz, ?_⟩
  have := wy_add (te := h.te) (p := p) (q := h.q.1) (by omega)
  rw [hz, Nat.zero_add, Nat.mod_eq_of_lt tn, Nat.mod_eq_of_lt hp] at this
  exact this
/-! ===== THEORY: sets that fit ===== -/
theorem bts_sub {P : Nat → Bool} {n s : Nat} (hs : ∀ j, j < n → P j = true → s.testBit j = true) : ∀ j, (bts P n).testBit j = true → s.testBit j = true := fun j q => by
  rw [bts_b, Bool.and_eq_true] at q
  exact hs j (of_decide_eq_true q.1) q.2
/-- who is sure is in each set that fits -/
theorem sur_in {h : GH} {t s : Nat} (hs : s < 2 ^ h.n) (hf : fit h t s = true) : ∀ j, (sur h t).testBit j = true → s.testBit j = true := by
  refine bts_sub fun j hj q => ?_
  have q := of_decide_eq_true q
  have := (cntP_sub (P := fitg h t j) (Q := fit h t) (2 ^ h.n) (fun i _ y => fitg_sub y)).2.mp q s hs hf
  unfold fitg at this
  rw [hf, Bool.true_and] at this
  exact this
theorem nwh_in {h : GH} {t s : Nat} (hs : s < 2 ^ h.n) (hf : fit h t s = true) (j : Nat) (q : (nwh h t).testBit j = true) : s.testBit j = false := by
  unfold nwh at q
  rw [bts_b, Bool.and_eq_true] at q
  have z := of_decide_eq_true q.2
  have := (cntP_zero _).mp z s hs
  unfold fitg at this
  rw [hf, Bool.true_and] at this
  exact this
theorem sur_lt (h : GH) (t : Nat) : sur h t < 2 ^ h.n := bts_lt _ _
theorem nwh_lt (h : GH) (t : Nat) : nwh h t < 2 ^ h.n := bts_lt _ _
theorem nft_pos {h : GH} {t : Nat} : nft h t ≠ 0 ↔ ∃ s, s < 2 ^ h.n ∧ fst (fit h t) (2 ^ h.n) 0 = some s ∧ fit h t s = true := by
  constructor
  · intro q
    rcases fst_cases (fit h t) (2 ^ h.n) 0 with ⟨j, j1, j2, j3, j4⟩ | y
    · exact ⟨j, by omega, fst_some _ _ _ j j1 j2 j3 j4, j3⟩
    · exact absurd ((cntP_zero _).mpr fun i hi => y i (Nat.zero_le _) (by omega)) q
  · rintro ⟨s, s1, -, s3⟩ q
    have := (cntP_zero _).mp q s s1
    rw [s3] at this; cases this
theorem grt_ge (h : GH) (t g : Nat) : nft h t ≤ 2 * grt h t g := by
  have := nfg_le h t g
  unfold grt
  by_cases z : nfg h t g < nft h t - nfg h t g
  · rw [if_pos z]; omega
  · rw [if_neg z]; omega
theorem lst_att {f : Nat → Nat} {z : Nat} : ∀ n, (lst f z n).1 = z ∨ ∃ g, g < n ∧ (lst f z n).1 = f g := by
  intro n
  induction n with
  | zero => exact Or.inl rfl
  | succ n ih =>
    rw [lst_s]
    by_cases q : f n < (lst f z n).1
    · rw [if_pos q]; exact Or.inr ⟨n, Nat.lt_succ_self n, rfl⟩
    · rw [if_neg q]
      rcases ih with y | ⟨g, g1, g2⟩
      · exact Or.inl y
      · exact Or.inr ⟨g, by omega, g2⟩
theorem lst_min {f : Nat → Nat} {z : Nat} : ∀ n g, g < n → (lst f z n).1 ≤ f g := by
  intro n
  induction n with
  | zero => intro g hg; exact absurd hg (Nat.not_lt_zero _)
  | succ n ih =>
    intro g hg
    rw [lst_s]
    by_cases q : f n < (lst f z n).1
    · rw [if_pos q]
      show f n ≤ f g
      by_cases e : g = n
      · rw [e]; exact Nat.le_refl _
      · have := ih g (by omega); omega
    · rw [if_neg q]
      by_cases e : g = n
      · rw [e]; omega
      · exact ih g (by omega)
/-- what ask tells -/
theorem ask_ok {h : GH} {t : Nat} (h0 : ¬ h.n = 0) : (lst (grt h t) (nft h t + 1) h.n).2 < h.n ∧ nft h t ≤ 2 * (lst (grt h t) (nft h t + 1) h.n).1 ∧ (lst (grt h t) (nft h t + 1) h.n).1 ≤ nft h t := by
  have h1 := lst_min (f := grt h t) (z := nft h t + 1) h.n 0 (by omega)
  have h2 := grt_le h t 0
  have h3 := (lst_lt (f := grt h t) (z := nft h t + 1) (B := nft h t + 2) (by omega) h.n (fun g _ => by have := grt_le h t g; omega)).2.2 (by omega)
  rcases lst_att (f := grt h t) (z := nft h t + 1) h.n with e | ⟨g, g1, e⟩
  · omega
  · have := grt_ge h t g
    exact ⟨h3, by omega, by omega⟩
