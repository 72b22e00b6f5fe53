/-! ===== THEORY: quiet orders and the least wrongs ===== -/
theorem or_xor_self {s g : Nat} (hb : s.testBit g = false) : (s ||| 2 ^ g) ^^^ 2 ^ g = s := by
  apply Nat.eq_of_testBit_eq
  intro j
  rw [bt_xb, bt_ob]
  by_cases z : g = j
  · rw [decide_eq_true z, Bool.or_true, ← z, hb]; rfl
  · rw [decide_eq_false z, Bool.or_false, Bool.bne_false]
theorem or_ne0 {s g : Nat} : s ||| 2 ^ g ≠ 0 := fun q => by
  have : (s ||| 2 ^ g).testBit g = true := by rw [bt_ob, decide_eq_true rfl, Bool.or_true]
  rw [q, Nat.zero_testBit] at this; cases this
/-- one more quiet walk -/
theorem BW_up {h : GH} {s g : Nat} (hs : s < 2 ^ h.n) (hg : g < h.n) (hb : s.testBit g = false) (hd : due h (s ||| 2 ^ g) = false) (hB : 0 < BW h s) : 0 < BW h (s ||| 2 ^ g) := by
  rw [BW_s (bt_ltn hs hg) or_ne0, if_neg (by rw [hd]; decide), sumN_pos]
  refine ⟨g, hg, ?_⟩
  rw [if_pos (by rw [bt_ob, decide_eq_true rfl, Bool.or_true]), or_xor_self hb]
  exact hB
theorem b1_0 {b : Bool} : b1 b = 0 ↔ b = false := by cases b <;> decide
/-- the next of the told order, where no wrong is left -/
theorem SG_quiet {h : GH} {o : Option Nat} {tt m s : Nat} (hn6 : h.n ≤ 6) (hp : pc h.n s + (m + 1) = h.n) (hz : SV h o tt (m + 1) s = 0) : SV h o tt m (s ||| 2 ^ SG h o tt m s) = 0 ∧ due h (s ||| 2 ^ SG h o tt m s) = false ∧ (selo o (SG h o tt m s) = false → spt h (s ||| 2 ^ SG h o tt m s) = tt) := by
  obtain ⟨i1, i2, i3, -, -⟩ := SG_spec (o := o) (tt := tt) hn6 hp
  rw [hz] at i3
  unfold nF wr at i3
  have e1 := b1_0.mp (show b1 (due h (s ||| 2 ^ SG h o tt m s)) = 0 by omega)
  have e2 := b1_0.mp (show b1 (!selo o (SG h o tt m s) && decide (spt h (s ||| 2 ^ SG h o tt m s) ≠ tt)) = 0 by omega)
  refine ⟨by omega, e1, fun q => ?_⟩
  rw [q] at e2
  have e3 : decide (spt h (s ||| 2 ^ SG h o tt m s) ≠ tt) = false := e2
  exact Classical.byContradiction fun z => by rw [decide_eq_true z] at e3; cases e3
theorem BW_of_SV {h : GH} {o : Option Nat} {tt : Nat} (hn6 : h.n ≤ 6) : ∀ m s, s < 2 ^ h.n → pc h.n s + m = h.n → SV h o tt m s = 0 → 0 < BW h s → 0 < BW h (2 ^ h.n - 1) := by
  intro m
  induction m with
  | zero =>
    intro s hs hp _ hB
    rw [← pc_max hs (by omega)]
    exact hB
  | succ m ih =>
    intro s hs hp hz hB
    obtain ⟨i1, i2, -⟩ := SG_spec (o := o) (tt := tt) hn6 hp
    obtain ⟨j1, j2, -⟩ := SG_quiet hn6 hp hz
    exact ih _ (bt_ltn hs i1) (by rw [pc_add i1 i2]; omega) j1 (BW_up hs i1 i2 j2 hB)
theorem SV_of_PW {h : GH} {t : Nat} : ∀ m s, 0 < PW h m s t → SV h none 0 m s = 0 := by
  intro m
  induction m with
  | zero => intro s _; rfl
  | succ m ih =>
    intro s hP
    rw [PW_s, sumN_pos] at hP
    obtain ⟨g, hg, q⟩ := hP
    by_cases z : t.testBit g = true ∧ s.testBit g = false ∧ due h (s ||| 2 ^ g) = false
    · rw [if_pos z] at q
      have h1 := ih _ q
      have h2 := fmn_min (nF h none 0 m s) (nS s) h.n g hg (by unfold nS; rw [z.2.1]; rfl)
      have h3 : nF h none 0 m s g = 0 := by
        unfold nF wr
        rw [h1, z.2.2]
        have : selo none g = true := by unfold selo; exact decide_eq_true (fun q => by cases q)
        rw [this]; rfl
      rw [SV_s]
      omega
    · rw [if_neg z] at q; exact absurd q (Nat.lt_irrefl _)
theorem quiet_iff {h : GH} (hn6 : h.n ≤ 6) : 0 < BW h (2 ^ h.n - 1) ↔ SV h none 0 h.n 0 = 0 := by
  constructor
  · intro q
    rw [BW_full] at q
    exact SV_of_PW _ _ q
  · intro q
    exact BW_of_SV hn6 h.n 0 (Nat.two_pow_pos _) (by rw [pc_0]; omega) q (by rw [BW_0]; exact Nat.one_pos)
/-- who can be last: some one, where a quiet order is -/
theorem lsq_pos {h : GH} (h0 : ¬ h.n = 0) : 0 < lsq h ↔ 0 < BW h (2 ^ h.n - 1) := by
  have hbit : ∀ g, g < h.n → (2 ^ h.n - 1).testBit g = true := fun g hg => by rw [Nat.testBit_two_pow_sub_one]; exact decide_eq_true hg
  have hp0 := Nat.two_pow_pos h.n
  have hne : 2 ^ h.n - 1 ≠ 0 := fun q => by have := hbit 0 (by omega); rw [q, Nat.zero_testBit] at this; cases this
  constructor
  · intro q
    refine Classical.byContradiction fun z => ?_
    have : lsq h = 0 := by
      apply Nat.eq_of_testBit_eq
      intro j
      unfold lsq
      rw [bts_b, show decide (0 < BW h (2 ^ h.n - 1) ∧ 0 < BW h ((2 ^ h.n - 1) ^^^ 2 ^ j)) = false from decide_eq_false (fun y => z y.1), Bool.and_false, Nat.zero_testBit]
    omega
  · intro q
    have e := q
    rw [BW_s (by omega) hne] at e
    by_cases hd : due h (2 ^ h.n - 1) = true
    · rw [if_pos hd] at e; exact absurd e (Nat.lt_irrefl _)
    · rw [if_neg hd, sumN_pos] at e
      obtain ⟨g, hg, y⟩ := e
      rw [if_pos (hbit g hg)] at y
      have hb : (lsq h).testBit g = true := by
        unfold lsq
        rw [bts_b, decide_eq_true hg, Bool.true_and]
        exact decide_eq_true ⟨q, y⟩
      refine Nat.pos_of_ne_zero fun z => ?_
      rw [z, Nat.zero_testBit] at hb; cases hb
theorem lsq_lt (h : GH) : lsq h < 2 ^ h.n := bts_lt _ _
/-- the last of a quiet order can be last -/
theorem lsq_last {h : GH} {s g : Nat} (hs : s < 2 ^ h.n) (hg : g < h.n) (hb : s.testBit g = false) (hp : pc h.n s + 1 = h.n) (hB : 0 < BW h s) (hF : 0 < BW h (2 ^ h.n - 1)) : (lsq h).testBit g = true := by
  have e : s ||| 2 ^ g = 2 ^ h.n - 1 := pc_max (bt_ltn hs hg) (by rw [pc_add hg hb]; omega)
  unfold lsq
  rw [bts_b, decide_eq_true hg, Bool.true_and]
  refine decide_eq_true ⟨hF, ?_⟩
  rw [← e, or_xor_self hb]
  exact hB
/-! ===== THEORY: what walks do to the dial ===== -/
theorem wsp_q (h : GH) (g : Nat) : (h.wsp (h.sp ++ [g])).q = stp h.te h.rs h.kd h.ft h.q g := run_snoc h.te h.rs h.kd h.ft h.sp g
/-- a hall further on: the same house, the same floor -/
def Fur (h h' : GH) : Prop := ∃ sp, h' = h.wsp sp ∧ h'.q.2.2.1 = h.q.2.2.1
theorem Fur.rf (h : GH) : Fur h h := ⟨h.sp, by cases h; rfl, rfl⟩
theorem Fur.n {h h' : GH} (f : Fur h h') : h'.n = h.n := by obtain ⟨sp, rfl, -⟩ := f; rfl
theorem Fur.te {h h' : GH} (f : Fur h h') : h'.te = h.te := by obtain ⟨sp, rfl, -⟩ := f; rfl
theorem Fur.rs {h h' : GH} (f : Fur h h') : h'.rs = h.rs := by obtain ⟨sp, rfl, -⟩ := f; rfl
theorem Fur.kd {h h' : GH} (f : Fur h h') : h'.kd = h.kd := by obtain ⟨sp, rfl, -⟩ := f; rfl
theorem Fur.ft {h h' : GH} (f : Fur h h') : h'.ft = h.ft := by obtain ⟨sp, rfl, -⟩ := f; rfl
theorem Fur.rm {h h' : GH} (f : Fur h h') : h'.rm = h.rm := by obtain ⟨sp, rfl, -⟩ := f; rfl
theorem Fur.tr {h h' : GH} (f : Fur h h') : h'.tr = h.tr := by
  funext g
  have e := f.kd
  have e2 := f.ft
  obtain ⟨sp, e0, e1⟩ := f
  unfold GH.tr
  rw [e, e2, e1]
/-- one more walk -/
theorem Fur.walk {h h' : GH} (f : Fur h h') {g : Nat} (hg : g < 6) : Fur h (h'.wsp (h'.sp ++ [g])) ∧ (h'.wsp (h'.sp ++ [g])).q.1 = (h'.q.1 + h.tr g) % h.te ∧ (h'.wsp (h'.sp ++ [g])).q.2.2.2.1 = h'.q.2.2.2.1 + b1 (isr h.rs ((h'.q.1 + h.tr g) % h.te)) ∧ (h'.wsp (h'.sp ++ [g])).sp = h'.sp ++ [g] := by
  have e := wsp_q h' g
  unfold stp at e
  rw [if_pos hg] at e
  have et : trd h'.kd h'.ft h'.q.2.2.1 g = h.tr g := congrFun f.tr g
  rw [et, f.te, f.rs] at e
  obtain ⟨sp, e0, e1⟩ := f
  refine ⟨⟨h'.sp ++ [g], by rw [e0]; rfl, by rw [e]; exact e1⟩, by rw [e], by rw [e], rfl⟩
theorem Fur.undo {h h' : GH} (f : Fur h h') {l : List Nat} (hs : h'.sp = h.sp ++ l) : h'.wsp (h'.sp.take h.sp.length) = h := by
  obtain ⟨sp, rfl, -⟩ := f
  have hs : sp = h.sp ++ l := hs
  show (h.wsp sp).wsp (sp.take h.sp.length) = h
  rw [hs, List.take_left]
  cases h; rfl
