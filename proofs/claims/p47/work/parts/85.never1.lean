/-! ===== never, keyed: the stride; the class's side ===== -/
/-- out: one guild, or none -/
def selo (o : Option Nat) (g : Nat) : Bool := decide (o ≠ some g)
def gcdN (te : Nat) (t : Nat → Nat) (o : Option Nat) : Nat → Nat
  | 0 => te
  | g+1 => if selo o g then Nat.gcd (gcdN te t o g) (t g) else gcdN te t o g
def std (h : GH) (o : Option Nat) : Nat := gcdN h.te h.tr o h.n
theorem gcdN_dvd {te : Nat} {t : Nat → Nat} {o : Option Nat} (e : Nat) : ∀ n, e ∣ gcdN te t o n ↔ e ∣ te ∧ ∀ g, g < n → selo o g = true → e ∣ t g := by
  intro n
  induction n with
  | zero => exact ⟨fun q => ⟨q, fun g hg => absurd hg (Nat.not_lt_zero g)⟩, fun q => q.1⟩
  | succ n ih =>
    unfold gcdN
    by_cases s : selo o n = true
    · rw [if_pos s, Nat.dvd_gcd_iff, ih]
      constructor
      · rintro ⟨⟨q1, q2⟩, q3⟩
        refine ⟨q1, fun g hg hs => ?_⟩
        by_cases z : g = n
        · rw [z]; exact q3
        · exact q2 g (by omega) hs
      · rintro ⟨q1, q2⟩
        exact ⟨⟨q1, fun g hg => q2 g (by omega)⟩, q2 n (by omega) s⟩
    · rw [if_neg s, ih]
      constructor
      · rintro ⟨q1, q2⟩
        refine ⟨q1, fun g hg hs => ?_⟩
        by_cases z : g = n
        · rw [z] at hs; exact absurd hs s
        · exact q2 g (by omega) hs
      · rintro ⟨q1, q2⟩
        exact ⟨q1, fun g hg => q2 g (by omega)⟩
theorem gcdN_le {te : Nat} {t : Nat → Nat} {o : Option Nat} (h : 0 < te) (n : Nat) : 0 < gcdN te t o n ∧ gcdN te t o n ≤ te := by
  have hd := ((gcdN_dvd (t := t) (o := o) (te := te) (gcdN te t o n) n).mp (Nat.dvd_refl _)).1
  exact ⟨Nat.pos_of_dvd_of_pos hd h, Nat.le_of_dvd h hd⟩
/-- the teeth that can be had -/
def rch (h : GH) (o : Option Nat) (x : Nat) : Bool := decide (x % std h o = h.q.1 % std h o)
theorem wy0 {d x q : Nat} (hd : 0 < d) (hq : q ≤ 81 * d) : wy d x q = 0 ↔ x % d = q % d := by
  have e := wy_add (p := x) hq
  constructor
  · intro z; rw [z, Nat.zero_add] at e; exact e.symm
  · intro z
    refine mod_inj (s := q) (wy_lt hd) hd ?_
    rw [e, Nat.zero_add, z]
/-- counted from a place on -/
def cup (P : Nat → Bool) : Nat → Nat → Nat
  | 0, _ => 0
  | m+1, k => b1 (P k) + cup P m (k + 1)
theorem cup_s (P : Nat → Bool) (m k : Nat) : cup P (m + 1) k = b1 (P k) + cup P m (k + 1) := rfl
theorem fst_s (P : Nat → Bool) (m k : Nat) : fst P (m + 1) k = if P k then some k else fst P m (k + 1) := rfl
theorem cup_cnt (P : Nat → Bool) : ∀ m k, cntP P k + cup P m k = cntP P (k + m) := by
  intro m
  induction m with
  | zero => intro k; rfl
  | succ m ih =>
    intro k
    have := ih (k + 1)
    rw [cntP_s] at this
    show cntP P k + (b1 (P k) + cup P m (k + 1)) = _
    rw [show k + (m + 1) = k + 1 + m by omega]; omega
theorem cup_0 (P : Nat → Bool) (m : Nat) : cup P m 0 = cntP P m := by
  have := cup_cnt P m 0
  rw [Nat.zero_add, show cntP P 0 = 0 from rfl, Nat.zero_add] at this
  exact this
theorem cup_le (P : Nat → Bool) : ∀ m k, cup P m k ≤ m := by
  intro m
  induction m with
  | zero => intro k; exact Nat.le_refl _
  | succ m ih =>
    intro k
    have := ih (k + 1)
    have := b1_le (P k)
    show b1 (P k) + cup P m (k + 1) ≤ m + 1
    omega
theorem cntP_not (P : Nat → Bool) : ∀ n, cntP (fun i => !P i) n + cntP P n = n := by
  intro n
  induction n with
  | zero => rfl
  | succ n ih =>
    rw [cntP_s, cntP_s]
    cases hp : P n with
    | true => rw [show b1 (!true) = 0 from rfl, show b1 true = 1 from rfl]; omega
    | false => rw [show b1 (!false) = 1 from rfl, show b1 false = 0 from rfl]; omega
/-- one below -/
def dn : Nat → Int32
  | 0 => -1
  | k+1 => nI k
theorem dn_s (k : Nat) : nI k + (-1) = dn k := by
  cases k with
  | zero => decide
  | succ k => exact pk_m1 k
theorem sI_sI (μ : Mm) (a k : Nat) (v w : Int32) : sI (sI μ a k v) a k w = sI μ a k w := by
  refine mm_ext (fun _ => rfl) (fun _ => rfl) (fun b j => ?_) (fun _ _ => rfl) (fun _ _ => rfl) rfl
  rw [mI_sI, mI_sI, mI_sI]
  by_cases q : b = a ∧ j = k
  · rw [if_pos q, if_pos q]
  · rw [if_neg q, if_neg q, if_neg q]
def ncode (o : Option Nat) : Int32 := match o with | none => -1 | some g => nI g
def mcode (o : Option Nat) : Int32 := match o with | none => -9 | some g => nI g
theorem ncode_eq {o : Option Nat} {g : Nat} (hg : g < 6) (ho : ∀ x, o = some x → x < 6) : (nI g = ncode o) ↔ selo o g = false := by
  unfold selo
  cases o with
  | none =>
    rw [decide_eq_true (show (none : Option Nat) ≠ some g from fun q => by cases q)]
    refine ⟨fun q => absurd q ?_, fun q => by cases q⟩
    intro q
    have := nI_pos (n := g) (by omega)
    rw [q] at this
    exact this (by decide)
  | some x =>
    have hx := ho x rfl
    show (nI g = nI x) ↔ _
    rw [nI_eq (by omega) (by omega), decide_eq_false_iff_not]
    constructor
    · intro q z; exact z (by rw [q])
    · intro q
      by_cases z : g = x
      · exact z
      · exact absurd (fun y => z (Option.some.inj y).symm) q
theorem mcode_eq {o : Option Nat} {g : Nat} (hg : g < 6) (ho : ∀ x, o = some x → x < 6) : (nI g = mcode o) ↔ selo o g = false := by
  unfold selo
  cases o with
  | none =>
    rw [decide_eq_true (show (none : Option Nat) ≠ some g from fun q => by cases q)]
    refine ⟨fun q => absurd q ?_, fun q => by cases q⟩
    intro q
    have := nI_pos (n := g) (by omega)
    rw [q] at this
    exact this (by decide)
  | some x =>
    have hx := ho x rfl
    show (nI g = nI x) ↔ _
    rw [nI_eq (by omega) (by omega), decide_eq_false_iff_not]
    constructor
    · intro q z; exact z (by rw [q])
    · intro q
      by_cases z : g = x
      · exact z
      · exact absurd (fun y => z (Option.some.inj y).symm) q
section NX
variable {R T : GR} {F : GF} {h : GH} {K : GK} {a : Nat}
theorem x_stride {μ : Mm} (H : XI R T F h K μ a) (w : WH h) (h0 : ¬ h.n = 0) {o : Option Nat} (ho : ∀ x, o = some x → x < 6) : f_X3_stride μ (a + 3) (ncode o) = some (nI (std h o)) := by
  have hn6 := w.1
  have t1 := w.te_ge h0
  have t2 := w.te_lt
  have hl : ∀ (f g : Nat), g ≤ h.n → h.n < g + f → lp_X3_stride_9 f (a + 3) (ncode o) (lN (gcdN h.te h.tr o g)) (nI g) μ = some (lN (std h o)) := by
    intro f
    induction f with
    | zero => intro g q1 q2; omega
    | succ f ih =>
      intro g q1 q2
      by_cases e : g = h.n
      · have e1 : nI h.n ≤ nI g := by rw [e]; exact Int32.le_refl _
        simp (config := { decide := true }) only [↓reduceIte, Option.bind_some, Option.bind_none, lp_X3_stride_9, x_hev H, e1]
        rw [e]
        rfl
      · have e1 : ¬ nI h.n ≤ nI g := nI_ge (by omega) (by omega)
        have hg : g < h.n := by omega
        have hI := ih (g + 1) (by omega) (by omega)
        have hce := ncode_eq (o := o) (g := g) (by omega) ho
        have hgl := gcdN_le (te := h.te) (t := h.tr) (o := o) (by omega) g
        have htr := w.tr_le hg
        unfold gcdN at hI
        by_cases s : selo o g = true
        · rw [if_pos s] at hI
          have e2 : ¬ nI g = ncode o := fun q => by have := hce.mp q; rw [s] at this; cases this
          have l1 : (nI (h.tr g)).toInt64 = lN (h.tr g) := nI_l (by omega)
          simp (config := { decide := true }) only [↓reduceIte, Option.bind_some, Option.bind_none, lp_X3_stride_9, x_hev H, e1, e2, x_tread H w hg, l1, x_gcd μ (show gcdN h.te h.tr o g < 2 ^ 40 by omega) (show h.tr g < 2 ^ 40 by omega), nI_1]
          exact hI
        · rw [if_neg s] at hI
          have e2 : nI g = ncode o := hce.mpr (by cases hs : selo o g with
            | true => exact absurd hs s
            | false => rfl)
          have e2' : ∀ (X Y : Option Int64), (if nI g = ncode o then X else Y) = X := fun X Y => if_pos e2
          simp (config := { decide := true }) only [↓reduceIte, Option.bind_some, Option.bind_none, lp_X3_stride_9, x_hev H, e1, e2', nI_1]
          exact hI
  have e := hl BIG 0 (by omega) (by unfold BIG; omega)
  have e' : lp_X3_stride_9 BIG (a + 3) (ncode o) (lN h.te) 0 μ = _ := e
  have l1 : (nI h.te).toInt64 = lN h.te := nI_l (by omega)
  simp (config := { decide := true }) only [↓reduceIte, Option.bind_some, Option.bind_none, f_X3_stride, H.1.t3, x_hev H, l1, e', lN_i]
theorem x_nev_l {μ : Mm} (H : XI R T F h K μ a) (w : WH h) (h0 : ¬ h.n = 0) : ∀ (k f : Nat), k ≤ h.te → k < f → lp_X11_never_40 f a (nI (std h none)) (nI (cup (fun x => !rch h none x) (h.te - k) k)) (dn k) (sI μ a 11 (ofn (fst (fun x => !rch h none x) (h.te - k) k))) = some (nI (cntP (fun x => !rch h none x) h.te), sI μ a 11 (ofn (fst (fun x => !rch h none x) h.te 0))) := by
  have t1 := w.te_ge h0
  have t2 := w.te_lt
  have tn := w.now_lt h0
  have hgl := gcdN_le (te := h.te) (t := h.tr) (o := none) (by omega) h.n
  intro k
  induction k with
  | zero =>
    intro f q1 q2
    obtain ⟨f, rfl⟩ : ∃ g, f = g + 1 := ⟨f - 1, by omega⟩
    have e1 : dn 0 < 0 := by decide
    rw [Nat.sub_zero, cup_0]
    simp (config := { decide := true }) only [↓reduceIte, Option.bind_some, Option.bind_none, lp_X11_never_40, e1]
  | succ k ih =>
    intro f q1 q2
    obtain ⟨f, rfl⟩ : ∃ g, f = g + 1 := ⟨f - 1, by omega⟩
    have hI := ih f (by omega) (by omega)
    rw [show h.te - k = (h.te - (k + 1)) + 1 by omega] at hI
    rw [cup_s, fst_s] at hI
    have Ht : XI R T (tel F (ofn (fst (fun x => !rch h none x) (h.te - (k + 1)) (k + 1)))) h K (sI μ a 11 (ofn (fst (fun x => !rch h none x) (h.te - (k + 1)) (k + 1)))) a := H.tell
    have e1 : ¬ nI k < 0 := nI_pos (by omega)
    have er := rem_way (μ := sI μ a 11 (ofn (fst (fun x => !rch h none x) (h.te - (k + 1)) (k + 1)))) (p := k) (q := h.q.1) (t := std h none) (by omega) (by omega) hgl.1 (by unfold std; omega)
    have hw0 := wy0 (d := std h none) (x := k) (q := h.q.1) hgl.1 (by have : 1 ≤ std h none := hgl.1; omega)
    have hwl : wy (std h none) k h.q.1 < std h none := wy_lt hgl.1
    have hle : std h none ≤ 60 := by unfold std; omega
    show lp_X11_never_40 (f + 1) a (nI (std h none)) _ (nI k) _ = _
    by_cases z : k % std h none = h.q.1 % std h none
    · rw [hw0.mpr z] at er
      have er' : f_X11_remainder (sI μ a 11 (ofn (fst (fun x => !rch h none x) (h.te - (k + 1)) (k + 1)))) (nI k - nI h.q.1) (nI (std h none)) = some 0 := er
      have hr : rch h none k = true := decide_eq_true z
      rw [hr] at hI
      rw [show b1 (!true) = 0 from rfl, Nat.zero_add, if_neg (by decide)] at hI
      simp (config := { decide := true }) only [↓reduceIte, Option.bind_some, Option.bind_none, lp_X11_never_40, e1, gP_of Ht.1.t0 Ht.1.p0_2, x_hev Ht, er', dn_s]
      exact hI
    · have e2 : ¬ nI (wy (std h none) k h.q.1) = 0 := nI_ne0 (Nat.pos_of_ne_zero fun q => z (hw0.mp q)) (by omega)
      have hr : rch h none k = false := decide_eq_false z
      rw [hr] at hI
      rw [show b1 (!false) = 1 from rfl, Nat.add_comm 1, if_pos (by decide)] at hI
      simp (config := { decide := true }) only [↓reduceIte, Option.bind_some, Option.bind_none, lp_X11_never_40, e1, gP_of Ht.1.t0 Ht.1.p0_2, x_hev Ht, er, e2, pI_of Ht.1.t0, sI_sI, dn_s, nI_1]
      exact hI
end NX
