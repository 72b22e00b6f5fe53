/-! ===== orders: what is meant ===== -/
def pc (n s : Nat) : Nat := cntP (fun g => s.testBit g) n
theorem pc_add {n s g : Nat} (hg : g < n) (hs : s.testBit g = false) : pc n (s ||| 2 ^ g) = pc n s + 1 := by
  unfold pc
  have e := cntP_setb (A := fun g => s.testBit g) (j := g) hs n
  rw [if_pos hg] at e
  rw [← e]
  refine cntP_cong n fun i _ => ?_
  show (s ||| 2 ^ g).testBit i = setb (fun g => s.testBit g) g i
  unfold setb
  rw [bt_ob]
  by_cases z : i = g
  · rw [if_pos z, z, decide_eq_true rfl, Bool.or_true]
  · rw [if_neg z, decide_eq_false (fun q => z q.symm), Bool.or_false]
theorem pc_0 (n : Nat) : pc n 0 = 0 := (cntP_zero n).mpr fun i _ => Nat.zero_testBit i
theorem cntP_all (n : Nat) : cntP (fun _ => true) n = n := by
  induction n with
  | zero => rfl
  | succ k ih => rw [cntP_s, ih]; rfl
theorem pc_full {n s : Nat} (h : pc n s = n) : ∀ g, g < n → s.testBit g = true := by
  have hs := (cntP_sub (P := fun g => s.testBit g) (Q := fun _ => true) n (fun _ _ _ => rfl)).2
  rw [cntP_all] at hs
  exact fun g hg => hs.mp h g hg rfl
theorem pc_lt {n s : Nat} (h : pc n s ≠ n) : ∃ g, g < n ∧ s.testBit g = false := by
  refine Classical.byContradiction fun q => h ?_
  have hs := (cntP_sub (P := fun g => s.testBit g) (Q := fun _ => true) n (fun _ _ _ => rfl)).2
  rw [cntP_all] at hs
  refine hs.mpr fun g hg _ => ?_
  cases hb : s.testBit g with
  | true => rfl
  | false => exact absurd ⟨g, hg, hb⟩ q
theorem pc_max {n s : Nat} (hs : s < 2 ^ n) (h : pc n s = n) : s = 2 ^ n - 1 := by
  apply Nat.eq_of_testBit_eq
  intro j
  rw [Nat.testBit_two_pow_sub_one]
  by_cases z : j < n
  · rw [pc_full h j z, decide_eq_true z]
  · rw [bt_hi hs (by omega), decide_eq_false z]
theorem pc_all (n : Nat) : pc n (2 ^ n - 1) = n := by
  unfold pc
  rw [cntP_cong (Q := fun _ => true) n (fun i hi => by rw [Nat.testBit_two_pow_sub_one]; exact decide_eq_true hi), cntP_all]
theorem pc_le (n s : Nat) : pc n s ≤ n := cntP_le _ n
def due (h : GH) (s : Nat) : Bool := isr h.rs (spt h s)
/-- wrongs by one more walk -/
def wr (h : GH) (o : Option Nat) (tt s g : Nat) : Nat := b1 (due h (s ||| 2 ^ g)) + b1 (!selo o g && decide (spt h (s ||| 2 ^ g) ≠ tt))
theorem wr_le (h : GH) (o : Option Nat) (tt s g : Nat) : wr h o tt s g ≤ 2 := by
  unfold wr
  have := b1_le (due h (s ||| 2 ^ g))
  have := b1_le (!selo o g && decide (spt h (s ||| 2 ^ g) ≠ tt))
  omega
def fmn (f : Nat → Nat) (sel : Nat → Bool) : Nat → Nat × Nat
  | 0 => (64, 0)
  | g+1 => if sel g = true ∧ f g < (fmn f sel g).1 then (f g, g) else fmn f sel g
theorem fmn_s (f : Nat → Nat) (sel : Nat → Bool) (g : Nat) : fmn f sel (g + 1) = if sel g = true ∧ f g < (fmn f sel g).1 then (f g, g) else fmn f sel g := rfl
theorem fmn_le (f : Nat → Nat) (sel : Nat → Bool) : ∀ n, (fmn f sel n).1 ≤ 64 := by
  intro n
  induction n with
  | zero => exact Nat.le_refl _
  | succ n ih =>
    rw [fmn_s]
    by_cases e : sel n = true ∧ f n < (fmn f sel n).1
    · rw [if_pos e]; have := e.2; show f n ≤ 64; omega
    · rw [if_neg e]; exact ih
theorem fmn_min (f : Nat → Nat) (sel : Nat → Bool) : ∀ n g, g < n → sel g = true → (fmn f sel n).1 ≤ f g := by
  intro n
  induction n with
  | zero => intro g hg; exact absurd hg (Nat.not_lt_zero _)
  | succ n ih =>
    intro g hg hs
    rw [fmn_s]
    by_cases e : sel n = true ∧ f n < (fmn f sel n).1
    · rw [if_pos e]
      show f n ≤ f g
      by_cases z : g = n
      · rw [z]; exact Nat.le_refl _
      · have := ih g (by omega) hs; have := e.2; omega
    · rw [if_neg e]
      by_cases z : g = n
      · rw [z] at hs ⊢
        exact Nat.le_of_not_lt fun q => e ⟨hs, q⟩
      · exact ih g (by omega) hs
theorem fmn_att (f : Nat → Nat) (sel : Nat → Bool) : ∀ n, (fmn f sel n).1 < 64 → (fmn f sel n).2 < n ∧ sel (fmn f sel n).2 = true ∧ f (fmn f sel n).2 = (fmn f sel n).1 ∧ ∀ g, g < (fmn f sel n).2 → sel g = true → (fmn f sel n).1 < f g := by
  intro n
  induction n with
  | zero => intro q; exact absurd q (Nat.lt_irrefl _)
  | succ n ih =>
    rw [fmn_s]
    by_cases e : sel n = true ∧ f n < (fmn f sel n).1
    · rw [if_pos e]
      intro _
      refine ⟨Nat.lt_succ_self n, e.1, rfl, fun g hg hs => ?_⟩
      have := fmn_min f sel n g hg hs
      have := e.2
      show f n < f g
      omega
    · rw [if_neg e]
      intro q
      obtain ⟨i1, i2, i3, i4⟩ := ih q
      exact ⟨by omega, i2, i3, i4⟩
/-- the least wrongs behind a set, with m guilds to come -/
def SV (h : GH) (o : Option Nat) (tt : Nat) : Nat → Nat → Nat
  | 0, _ => 0
  | m+1, s => (fmn (fun g => wr h o tt s g + SV h o tt m (s ||| 2 ^ g)) (fun g => !s.testBit g) h.n).1
def nF (h : GH) (o : Option Nat) (tt m s : Nat) : Nat → Nat := fun g => wr h o tt s g + SV h o tt m (s ||| 2 ^ g)
def nS (s : Nat) : Nat → Bool := fun g => !s.testBit g
theorem SV_s (h : GH) (o : Option Nat) (tt m s : Nat) : SV h o tt (m + 1) s = (fmn (nF h o tt m s) (nS s) h.n).1 := rfl
def SG (h : GH) (o : Option Nat) (tt m s : Nat) : Nat := (fmn (nF h o tt m s) (nS s) h.n).2
def bst (h : GH) (o : Option Nat) (tt : Nat) : Nat → Nat → List Nat
  | 0, _ => []
  | m+1, s => SG h o tt m s :: bst h o tt m (s ||| 2 ^ SG h o tt m s)
theorem SV_le {h : GH} {o : Option Nat} {tt : Nat} : ∀ m s, pc h.n s + m = h.n → SV h o tt m s ≤ 2 * m := by
  intro m
  induction m with
  | zero => intro s _; exact Nat.le_refl _
  | succ m ih =>
    intro s hp
    obtain ⟨g, hg, hb⟩ := pc_lt (n := h.n) (s := s) (by omega)
    have h1 := fmn_min (nF h o tt m s) (nS s) h.n g hg (by unfold nS; rw [hb]; rfl)
    have h2 := wr_le h o tt s g
    have h3 := ih (s ||| 2 ^ g) (by rw [pc_add hg hb]; omega)
    rw [SV_s]
    unfold nF at h1 ⊢
    omega
theorem nF_lt {h : GH} {o : Option Nat} {tt m s g : Nat} (hn6 : h.n ≤ 6) (hp : pc h.n s + (m + 1) = h.n) (hg : g < h.n) (hb : s.testBit g = false) : nF h o tt m s g < 64 := by
  unfold nF
  have h2 := wr_le h o tt s g
  have h3 := SV_le (o := o) (tt := tt) m (s ||| 2 ^ g) (by rw [pc_add hg hb]; omega)
  omega
theorem SG_spec {h : GH} {o : Option Nat} {tt m s : Nat} (hn6 : h.n ≤ 6) (hp : pc h.n s + (m + 1) = h.n) : SG h o tt m s < h.n ∧ s.testBit (SG h o tt m s) = false ∧ nF h o tt m s (SG h o tt m s) = SV h o tt (m + 1) s ∧ (∀ g, g < SG h o tt m s → s.testBit g = false → SV h o tt (m + 1) s < nF h o tt m s g) ∧ SV h o tt (m + 1) s < 64 := by
  have hl : SV h o tt (m + 1) s < 64 := by have := SV_le (o := o) (tt := tt) (m + 1) s hp; omega
  rw [SV_s] at hl ⊢
  obtain ⟨i1, i2, i3, i4⟩ := fmn_att (nF h o tt m s) (nS s) h.n hl
  refine ⟨i1, ?_, i3, fun g hg hb => i4 g hg (by unfold nS; rw [hb]; rfl), hl⟩
  unfold nS at i2
  cases hb : s.testBit (SG h o tt m s) with
  | false => rfl
  | true =>
    have : s.testBit (fmn (nF h o tt m s) (fun g => !s.testBit g) h.n).2 = true := hb
    rw [this] at i2
    cases i2
theorem bst_len (h : GH) (o : Option Nat) (tt : Nat) : ∀ m s, (bst h o tt m s).length = m := by
  intro m
  induction m with
  | zero => intro s; rfl
  | succ m ih => intro s; unfold bst; rw [List.length_cons, ih]
theorem bst_lt {h : GH} {o : Option Nat} {tt : Nat} (hn6 : h.n ≤ 6) : ∀ m s, pc h.n s + m = h.n → ∀ x ∈ bst h o tt m s, x < h.n := by
  intro m
  induction m with
  | zero => intro s _ x hx; cases hx
  | succ m ih =>
    intro s hp x hx
    obtain ⟨i1, i2, -⟩ := SG_spec (o := o) (tt := tt) hn6 hp
    unfold bst at hx
    rcases List.mem_cons.mp hx with q | q
    · rw [q]; exact i1
    · exact ih _ (by rw [pc_add i1 i2]; omega) x q
theorem bst_has {h : GH} {o : Option Nat} {tt g : Nat} (hn6 : h.n ≤ 6) (hg : g < h.n) : ∀ m s, pc h.n s + m = h.n → s.testBit g = false → ∃ i, i < m ∧ (bst h o tt m s).getD i 0 = g := by
  intro m
  induction m with
  | zero =>
    intro s hp hb
    have := pc_full (n := h.n) (s := s) (by omega) g hg
    rw [hb] at this; cases this
  | succ m ih =>
    intro s hp hb
    obtain ⟨i1, i2, -⟩ := SG_spec (o := o) (tt := tt) hn6 hp
    by_cases z : SG h o tt m s = g
    · exact ⟨0, by omega, z⟩
    · obtain ⟨i, hi, e⟩ := ih (s ||| 2 ^ SG h o tt m s) (by rw [pc_add i1 i2]; omega) (by rw [bt_ob, hb, decide_eq_false z]; rfl)
      exact ⟨i + 1, by omega, e⟩
/-- the better one of two, the first if alike -/
def U (acc x : Nat × List Nat) : Nat × List Nat := if x.1 < acc.1 then x else acc
def nA2 (h : GH) (o : Option Nat) (tt m s p : Nat) (l : List Nat) (acc : Nat × List Nat) (r : Nat × Nat) : Nat × List Nat := if r.1 < 64 then U acc (p + r.1, l ++ r.2 :: bst h o tt m (s ||| 2 ^ r.2)) else acc
def nAcc (h : GH) (o : Option Nat) (tt m s p : Nat) (l : List Nat) (acc : Nat × List Nat) (g : Nat) : Nat × List Nat := nA2 h o tt m s p l acc (fmn (nF h o tt m s) (nS s) g)
theorem nAcc_skip {h : GH} {o : Option Nat} {tt m s p g : Nat} {l : List Nat} {acc : Nat × List Nat} (hb : s.testBit g = true) : nAcc h o tt m s p l acc (g + 1) = nAcc h o tt m s p l acc g := by
  unfold nAcc
  rw [fmn_s]
  refine congrArg _ (if_neg fun q => ?_)
  have := q.1
  unfold nS at this
  rw [hb] at this
  cases this
theorem U_lt {acc x : Nat × List Nat} (h : x.1 < acc.1) : U acc x = x := if_pos h
theorem U_ge {acc x : Nat × List Nat} (h : ¬ x.1 < acc.1) : U acc x = acc := if_neg h
theorem nAcc_step {h : GH} {o : Option Nat} {tt m s p g : Nat} {l : List Nat} {acc : Nat × List Nat} (hn6 : h.n ≤ 6) (hp : pc h.n s + (m + 1) = h.n) (hg : g < h.n) (hb : s.testBit g = false) : nAcc h o tt m s p l acc (g + 1) = U (nAcc h o tt m s p l acc g) (p + wr h o tt s g + SV h o tt m (s ||| 2 ^ g), (l ++ [g]) ++ bst h o tt m (s ||| 2 ^ g)) := by
  have hlt := nF_lt (o := o) (tt := tt) hn6 hp hg hb
  have hs : nS s g = true := by unfold nS; rw [hb]; rfl
  have ev : p + wr h o tt s g + SV h o tt m (s ||| 2 ^ g) = p + nF h o tt m s g := by unfold nF; omega
  have el : (l ++ [g]) ++ bst h o tt m (s ||| 2 ^ g) = l ++ g :: bst h o tt m (s ||| 2 ^ g) := by rw [List.append_assoc]; rfl
  rw [ev, el]
  unfold nAcc
  generalize hr : fmn (nF h o tt m s) (nS s) g = r
  by_cases z : nF h o tt m s g < r.1
  · have e : fmn (nF h o tt m s) (nS s) (g + 1) = (nF h o tt m s g, g) := by rw [fmn_s, hr]; exact if_pos ⟨hs, z⟩
    rw [e]
    have e1 : nA2 h o tt m s p l acc (nF h o tt m s g, g) = U acc (p + nF h o tt m s g, l ++ g :: bst h o tt m (s ||| 2 ^ g)) := if_pos hlt
    rw [e1]
    by_cases y : r.1 < 64
    · have e2 : nA2 h o tt m s p l acc r = U acc (p + r.1, l ++ r.2 :: bst h o tt m (s ||| 2 ^ r.2)) := if_pos y
      rw [e2]
      by_cases x : p + r.1 < acc.1
      · rw [U_lt (x := (p + r.1, _)) x, U_lt (acc := acc) (x := (p + nF h o tt m s g, _)) (show p + nF h o tt m s g < acc.1 by omega), U_lt (acc := (p + r.1, _)) (x := (p + nF h o tt m s g, _)) (show p + nF h o tt m s g < p + r.1 by omega)]
      · rw [U_ge (x := (p + r.1, _)) x]
    · have e2 : nA2 h o tt m s p l acc r = acc := if_neg y
      rw [e2]
  · have e : fmn (nF h o tt m s) (nS s) (g + 1) = r := by rw [fmn_s, hr]; exact if_neg (fun q => z q.2)
    rw [e]
    have e2 : nA2 h o tt m s p l acc r = U acc (p + r.1, l ++ r.2 :: bst h o tt m (s ||| 2 ^ r.2)) := if_pos (by omega)
    rw [e2]
    by_cases x : p + r.1 < acc.1
    · rw [U_lt (x := (p + r.1, _)) x, U_ge (acc := (p + r.1, _)) (x := (p + nF h o tt m s g, _)) (show ¬ p + nF h o tt m s g < p + r.1 by omega)]
    · rw [U_ge (x := (p + r.1, _)) x, U_ge (acc := acc) (x := (p + nF h o tt m s g, _)) (show ¬ p + nF h o tt m s g < acc.1 by omega)]
theorem nAcc_end {h : GH} {o : Option Nat} {tt m s p : Nat} {l : List Nat} {acc : Nat × List Nat} (hn6 : h.n ≤ 6) (hp : pc h.n s + (m + 1) = h.n) : nAcc h o tt m s p l acc h.n = U acc (p + SV h o tt (m + 1) s, l ++ bst h o tt (m + 1) s) := by
  obtain ⟨i1, i2, i3, i4, i5⟩ := SG_spec (o := o) (tt := tt) hn6 hp
  exact if_pos i5
theorem nAcc_0 (h : GH) (o : Option Nat) (tt m s p : Nat) (l : List Nat) (acc : Nat × List Nat) : nAcc h o tt m s p l acc 0 = acc := by
  unfold nAcc nA2
  exact if_neg (show ¬ (fmn (nF h o tt m s) (nS s) 0).1 < 64 from Nat.lt_irrefl 64)
/-- quiet ways from a set to another one -/
def PW (h : GH) : Nat → Nat → Nat → Nat
  | 0, _, _ => 1
  | m+1, s, t => sumN (fun g => if t.testBit g = true ∧ s.testBit g = false ∧ due h (s ||| 2 ^ g) = false then PW h m (s ||| 2 ^ g) t else 0) h.n
theorem PW_s (h : GH) (m s t : Nat) : PW h (m + 1) s t = sumN (fun g => if t.testBit g = true ∧ s.testBit g = false ∧ due h (s ||| 2 ^ g) = false then PW h m (s ||| 2 ^ g) t else 0) h.n := rfl
theorem PW_le (h : GH) : ∀ m s t, PW h m s t ≤ h.n ^ m := by
  intro m
  induction m with
  | zero => intro s t; exact Nat.le_refl _
  | succ m ih =>
    intro s t
    rw [PW_s, Nat.pow_succ, Nat.mul_comm]
    refine sumN_le h.n fun g _ => ?_
    by_cases z : t.testBit g = true ∧ s.testBit g = false ∧ due h (s ||| 2 ^ g) = false
    · rw [if_pos z]; exact ih _ _
    · rw [if_neg z]; exact Nat.zero_le _
theorem sumN_pos {f : Nat → Nat} : ∀ n, 0 < sumN f n ↔ ∃ g, g < n ∧ 0 < f g := by
  intro n
  induction n with
  | zero => exact ⟨fun q => absurd q (Nat.lt_irrefl _), fun ⟨g, hg, _⟩ => absurd hg (Nat.not_lt_zero g)⟩
  | succ n ih =>
    rw [sumN_s]
    constructor
    · intro q
      by_cases z : 0 < f n
      · exact ⟨n, Nat.lt_succ_self n, z⟩
      · obtain ⟨g, hg, e⟩ := ih.mp (by omega)
        exact ⟨g, by omega, e⟩
    · rintro ⟨g, hg, e⟩
      by_cases z : g = n
      · rw [z] at e; omega
      · have := ih.mpr ⟨g, by omega, e⟩; omega
theorem sumN_swap (f : Nat → Nat → Nat) (n : Nat) : ∀ m, sumN (fun i => sumN (fun j => f i j) n) m = sumN (fun j => sumN (fun i => f i j) m) n := by
  intro m
  induction m with
  | zero =>
    show 0 = sumN (fun _ => 0) n
    rw [sumN_0]
  | succ m ih =>
    rw [sumN_s, ih, ← sumN_add]
    rfl
theorem sumN_if {f : Nat → Nat} {c : Prop} [Decidable c] (n : Nat) : (if c then sumN f n else 0) = sumN (fun i => if c then f i else 0) n := by
  by_cases h : c
  · rw [if_pos h]
    exact sumN_cong n fun i _ => (if_pos h).symm
  · rw [if_neg h, sumN_cong (g := fun _ => 0) n (fun i _ => if_neg h), sumN_0]
/-- the last one taken apart -/
theorem PW_back {h : GH} : ∀ m s t, s < 2 ^ h.n → t < 2 ^ h.n → (∀ g, s.testBit g = true → t.testBit g = true) → pc h.n s + (m + 1) = pc h.n t → PW h (m + 1) s t = if due h t = true then 0 else sumN (fun g => if t.testBit g = true ∧ s.testBit g = false then PW h m s (t ^^^ 2 ^ g) else 0) h.n := by
  intro m
  induction m with
  | zero =>
    intro s t hs ht hst hp
    rw [PW_s]
    have hone : ∀ g, g < h.n → t.testBit g = true → s.testBit g = false → s ||| 2 ^ g = t := by
      intro g hg h1 h2
      have e1 : pc h.n (s ||| 2 ^ g) = pc h.n t := by rw [pc_add hg h2]; omega
      have hsub := cntP_sub (P := fun i => (s ||| 2 ^ g).testBit i) (Q := fun i => t.testBit i) h.n (fun i _ q => by
        have q : (s ||| 2 ^ g).testBit i = true := q
        rw [bt_ob, Bool.or_eq_true] at q
        rcases q with q | q
        · exact hst i q
        · have := of_decide_eq_true q; rw [← this]; exact h1)
      have := hsub.2.mp e1
      apply Nat.eq_of_testBit_eq
      intro j
      by_cases hj : j < h.n
      · cases hb : t.testBit j with
        | true => exact this j hj hb
        | false =>
          cases hb2 : (s ||| 2 ^ g).testBit j with
          | false => rfl
          | true =>
            rw [bt_ob, Bool.or_eq_true] at hb2
            rcases hb2 with q | q
            · rw [hst j q] at hb; cases hb
            · have := of_decide_eq_true q; rw [← this, h1] at hb; cases hb
      · rw [bt_hi ht (by omega), bt_hi (bt_ltn hs hg) (by omega)]
    by_cases hd : due h t = true
    · rw [if_pos hd, sumN_cong (g := fun _ => 0) h.n (fun g hg => if_neg (fun q => by rw [hone g hg q.1 q.2.1, hd] at q; cases q.2.2)), sumN_0]
    · rw [if_neg hd]
      refine sumN_cong h.n fun g hg => ?_
      by_cases z : t.testBit g = true ∧ s.testBit g = false
      · have hd' : due h t = false := by
          cases hq : due h t with
          | true => exact absurd hq hd
          | false => rfl
        rw [if_pos z, if_pos ⟨z.1, z.2, by rw [hone g hg z.1 z.2]; exact hd'⟩]
        rfl
      · rw [if_neg z, if_neg (fun q => z ⟨q.1, q.2.1⟩)]
  | succ m ih =>
    intro s t hs ht hst hp
    have hI : ∀ g, g < h.n → t.testBit g = true → s.testBit g = false → PW h (m + 1) (s ||| 2 ^ g) t = if due h t = true then 0 else sumN (fun e => if t.testBit e = true ∧ (s ||| 2 ^ g).testBit e = false then PW h m (s ||| 2 ^ g) (t ^^^ 2 ^ e) else 0) h.n := by
      intro g hg h1 h2
      refine ih (s ||| 2 ^ g) t (bt_ltn hs hg) ht (fun i q => ?_) (by rw [pc_add hg h2]; omega)
      rw [bt_ob, Bool.or_eq_true] at q
      rcases q with q | q
      · exact hst i q
      · have := of_decide_eq_true q; rw [← this]; exact h1
    rw [PW_s]
    by_cases hd : due h t = true
    · rw [if_pos hd]
      rw [sumN_cong (g := fun _ => 0) h.n, sumN_0]
      intro g hg
      by_cases z : t.testBit g = true ∧ s.testBit g = false ∧ due h (s ||| 2 ^ g) = false
      · rw [if_pos z, hI g hg z.1 z.2.1, if_pos hd]
      · rw [if_neg z]
    · rw [if_neg hd]
      have e1 : ∀ g, g < h.n → (if t.testBit g = true ∧ s.testBit g = false ∧ due h (s ||| 2 ^ g) = false then PW h (m + 1) (s ||| 2 ^ g) t else 0) = sumN (fun e => if (t.testBit g = true ∧ s.testBit g = false ∧ due h (s ||| 2 ^ g) = false) ∧ (t.testBit e = true ∧ s.testBit e = false ∧ e ≠ g) then PW h m (s ||| 2 ^ g) (t ^^^ 2 ^ e) else 0) h.n := by
        intro g hg
        by_cases z : t.testBit g = true ∧ s.testBit g = false ∧ due h (s ||| 2 ^ g) = false
        · rw [if_pos z, hI g hg z.1 z.2.1, if_neg hd]
          refine sumN_cong h.n fun e _ => ?_
          by_cases y : t.testBit e = true ∧ s.testBit e = false ∧ e ≠ g
          · rw [if_pos ⟨y.1, by rw [bt_ob, y.2.1, decide_eq_false (fun q => y.2.2 q.symm)]; rfl⟩, if_pos ⟨z, y⟩]
          · have y' : ¬ (t.testBit e = true ∧ (s ||| 2 ^ g).testBit e = false) := fun q => y (by
              obtain ⟨q1, q2⟩ := q
              rw [bt_ob] at q2
              have q3 := (Bool.or_eq_false_iff.mp q2)
              exact ⟨q1, q3.1, fun x => (of_decide_eq_false q3.2) x.symm⟩)
            rw [if_neg y', if_neg (fun q => y q.2)]
        · rw [if_neg z, sumN_cong (g := fun _ => 0) h.n (fun e _ => if_neg (fun q => z q.1)), sumN_0]
      rw [sumN_cong h.n e1, sumN_swap]
      refine sumN_cong h.n fun e he => ?_
      by_cases y : t.testBit e = true ∧ s.testBit e = false
      · rw [if_pos y, PW_s]
        refine sumN_cong h.n fun g hg => ?_
        by_cases x : t.testBit g = true ∧ s.testBit g = false ∧ due h (s ||| 2 ^ g) = false ∧ e ≠ g
        · rw [if_pos ⟨⟨x.1, x.2.1, x.2.2.1⟩, y.1, y.2, x.2.2.2⟩, if_pos ⟨by rw [bt_xb, x.1, decide_eq_false x.2.2.2]; rfl, x.2.1, x.2.2.1⟩]
        · have x' : ¬ ((t ^^^ 2 ^ e).testBit g = true ∧ s.testBit g = false ∧ due h (s ||| 2 ^ g) = false) := fun q => x (by
            obtain ⟨q1, q2, q3⟩ := q
            rw [bt_xb] at q1
            by_cases z : e = g
            · rw [z, decide_eq_true rfl] at q1
              rw [z] at y
              rw [y.1] at q1; cases q1
            · rw [decide_eq_false z, Bool.bne_false] at q1
              exact ⟨q1, q2, q3, z⟩)
          rw [if_neg (fun q => x ⟨q.1.1, q.1.2.1, q.1.2.2, q.2.2.2⟩), if_neg x']
      · rw [if_neg y, sumN_cong (g := fun _ => 0) h.n (fun g _ => if_neg (fun q => y ⟨q.2.1, q.2.2.1⟩)), sumN_0]
/-- quiet ways to a set -/
def BW (h : GH) (t : Nat) : Nat := PW h (pc h.n t) 0 t
theorem BW_0 (h : GH) : BW h 0 = 1 := by unfold BW; rw [pc_0]; rfl
theorem pc_xor {n t g : Nat} (hg : g < n) (hb : t.testBit g = true) : pc n (t ^^^ 2 ^ g) + 1 = pc n t := by
  have h1 : (t ^^^ 2 ^ g).testBit g = false := by rw [bt_xb, hb, decide_eq_true rfl]; rfl
  rw [← pc_add hg h1]
  refine cntP_cong n fun i _ => ?_
  show ((t ^^^ 2 ^ g) ||| 2 ^ g).testBit i = t.testBit i
  rw [bt_ob, bt_xb]
  by_cases z : g = i
  · rw [decide_eq_true z, Bool.or_true, ← z, hb]
  · rw [decide_eq_false z, Bool.or_false, Bool.bne_false]
theorem BW_s {h : GH} {t : Nat} (ht : t < 2 ^ h.n) (h0 : t ≠ 0) : BW h t = if due h t = true then 0 else sumN (fun g => if t.testBit g = true then BW h (t ^^^ 2 ^ g) else 0) h.n := by
  have hp : pc h.n t ≠ 0 := fun q => h0 (by
    have hz := (cntP_zero _).mp q
    apply Nat.eq_of_testBit_eq
    intro j
    rw [Nat.zero_testBit]
    by_cases z : j < h.n
    · exact hz j z
    · exact bt_hi ht (by omega))
  obtain ⟨m, hm⟩ : ∃ m, pc h.n t = m + 1 := ⟨pc h.n t - 1, by omega⟩
  have e := PW_back m 0 t (Nat.two_pow_pos _) ht (fun g q => by rw [Nat.zero_testBit] at q; cases q) (by rw [pc_0]; omega)
  unfold BW
  rw [hm, e]
  by_cases hd : due h t = true
  · rw [if_pos hd, if_pos hd]
  · rw [if_neg hd, if_neg hd]
    refine sumN_cong h.n fun g hg => ?_
    by_cases z : t.testBit g = true
    · have := pc_xor hg z
      rw [if_pos z, if_pos ⟨z, Nat.zero_testBit g⟩, show pc h.n (t ^^^ 2 ^ g) = m by omega]
    · rw [if_neg z, if_neg (fun q => z q.1)]
/-- who can be the last one -/
def orf (F : Nat → Nat) : Nat → Nat
  | 0 => 0
  | g+1 => orf F g ||| F g
theorem orf_s (F : Nat → Nat) (g : Nat) : orf F (g + 1) = orf F g ||| F g := rfl
theorem orf_b (F : Nat → Nat) (j : Nat) : ∀ n, (orf F n).testBit j = true ↔ ∃ g, g < n ∧ (F g).testBit j = true := by
  intro n
  induction n with
  | zero =>
    rw [show orf F 0 = 0 from rfl, Nat.zero_testBit]
    exact ⟨(fun q => by cases q), fun ⟨g, hg, _⟩ => absurd hg (Nat.not_lt_zero g)⟩
  | succ n ih =>
    rw [orf_s, Nat.testBit_or, Bool.or_eq_true, ih]
    constructor
    · rintro (⟨g, hg, e⟩ | e)
      · exact ⟨g, by omega, e⟩
      · exact ⟨n, Nat.lt_succ_self n, e⟩
    · rintro ⟨g, hg, e⟩
      by_cases z : g = n
      · rw [z] at e; exact Or.inr e
      · exact Or.inl ⟨g, by omega, e⟩
theorem orf_lt {F : Nat → Nat} {B : Nat} : ∀ n, (∀ g, g < n → F g < 2 ^ B) → orf F n < 2 ^ B := by
  intro n
  induction n with
  | zero => intro _; exact Nat.two_pow_pos _
  | succ n ih =>
    intro h
    rw [orf_s]
    exact Nat.or_lt_two_pow (ih fun g hg => h g (by omega)) (h n (by omega))
def lq (h : GH) : Nat → Nat → Nat → Nat
  | 0, _, e => 2 ^ e
  | m+1, s, _ => orf (fun g => if s.testBit g = false ∧ due h (s ||| 2 ^ g) = false then lq h m (s ||| 2 ^ g) g else 0) h.n
theorem lq_s (h : GH) (m s e : Nat) : lq h (m + 1) s e = orf (fun g => if s.testBit g = false ∧ due h (s ||| 2 ^ g) = false then lq h m (s ||| 2 ^ g) g else 0) h.n := rfl
theorem lq_lt (h : GH) : ∀ m s e, e < h.n → lq h m s e < 2 ^ h.n := by
  intro m
  induction m with
  | zero => intro s e he; exact Nat.pow_lt_pow_of_lt (by decide) he
  | succ m ih =>
    intro s e he
    rw [lq_s]
    refine orf_lt h.n fun g hg => ?_
    by_cases z : s.testBit g = false ∧ due h (s ||| 2 ^ g) = false
    · rw [if_pos z]; exact ih _ _ hg
    · rw [if_neg z]; exact Nat.two_pow_pos _
theorem lq_b {h : GH} {j : Nat} (hj : j < h.n) : ∀ m s e, s < 2 ^ h.n → pc h.n s + (m + 1) = h.n → ((lq h (m + 1) s e).testBit j = true ↔ s.testBit j = false ∧ due h (2 ^ h.n - 1) = false ∧ 0 < PW h m s ((2 ^ h.n - 1) ^^^ 2 ^ j)) := by
  intro m
  induction m with
  | zero =>
    intro s e hs hp
    rw [lq_s, orf_b]
    constructor
    · rintro ⟨g, hg, q⟩
      by_cases z : s.testBit g = false ∧ due h (s ||| 2 ^ g) = false
      · rw [if_pos z] at q
        have q : (2 ^ g).testBit j = true := q
        rw [Nat.testBit_two_pow] at q
        have := of_decide_eq_true q
        subst this
        have hm := pc_max (bt_ltn hs hg) (by rw [pc_add hg z.1]; omega)
        exact ⟨z.1, by rw [← hm]; exact z.2, Nat.one_pos⟩
      · rw [if_neg z, Nat.zero_testBit] at q; cases q
    · rintro ⟨q1, q2, -⟩
      refine ⟨j, hj, ?_⟩
      have hm := pc_max (bt_ltn hs hj) (by rw [pc_add hj q1]; omega)
      rw [if_pos ⟨q1, by rw [hm]; exact q2⟩]
      show (2 ^ j).testBit j = true
      rw [Nat.testBit_two_pow]; exact decide_eq_true rfl
  | succ m ih =>
    intro s e hs hp
    rw [lq_s, orf_b, PW_s, sumN_pos]
    constructor
    · rintro ⟨g, hg, q⟩
      by_cases z : s.testBit g = false ∧ due h (s ||| 2 ^ g) = false
      · rw [if_pos z] at q
        obtain ⟨i1, i2, i3⟩ := (ih (s ||| 2 ^ g) g (bt_ltn hs hg) (by rw [pc_add hg z.1]; omega)).mp q
        rw [bt_ob] at i1
        have i4 := Bool.or_eq_false_iff.mp i1
        have hne := of_decide_eq_false i4.2
        refine ⟨i4.1, i2, g, hg, ?_⟩
        rw [if_pos ⟨by rw [bt_xb, Nat.testBit_two_pow_sub_one, decide_eq_true hg, decide_eq_false (fun x => hne x.symm)]; rfl, z.1, z.2⟩]
        exact i3
      · rw [if_neg z, Nat.zero_testBit] at q; cases q
    · rintro ⟨q1, q2, g, hg, q3⟩
      refine ⟨g, hg, ?_⟩
      by_cases z : ((2 ^ h.n - 1) ^^^ 2 ^ j).testBit g = true ∧ s.testBit g = false ∧ due h (s ||| 2 ^ g) = false
      · rw [if_pos z] at q3
        rw [if_pos z.2]
        have hne : ¬ j = g := fun x => by
          have := z.1
          rw [bt_xb, Nat.testBit_two_pow_sub_one, decide_eq_true hg, decide_eq_true x] at this; cases this
        exact (ih (s ||| 2 ^ g) g (bt_ltn hs hg) (by rw [pc_add hg z.2.1]; omega)).mpr ⟨by rw [bt_ob, q1, decide_eq_false (fun x => hne x.symm)]; rfl, q2, q3⟩
      · rw [if_neg z] at q3; exact absurd q3 (Nat.lt_irrefl _)
/-- the class's last ones -/
def lsq (h : GH) : Nat := bts (fun g => decide (0 < BW h (2 ^ h.n - 1) ∧ 0 < BW h ((2 ^ h.n - 1) ^^^ 2 ^ g))) h.n
theorem lsq_lq {h : GH} (h0 : ¬ h.n = 0) : lsq h = lq h h.n 0 0 := by
  obtain ⟨m, hm⟩ : ∃ m, h.n = m + 1 := ⟨h.n - 1, by omega⟩
  have hp0 := Nat.two_pow_pos h.n
  apply Nat.eq_of_testBit_eq
  intro j
  rw [Bool.eq_iff_iff]
  unfold lsq
  rw [bts_b, Bool.and_eq_true, decide_eq_true_iff, decide_eq_true_iff]
  by_cases hj : j < h.n
  · have hbit : (2 ^ h.n - 1).testBit j = true := by rw [Nat.testBit_two_pow_sub_one]; exact decide_eq_true hj
    have hpx := pc_xor hj hbit
    rw [pc_all] at hpx
    have e := lq_b hj m 0 0 hp0 (by rw [pc_0]; omega)
    rw [← hm] at e
    rw [e]
    have eB : BW h ((2 ^ h.n - 1) ^^^ 2 ^ j) = PW h m 0 ((2 ^ h.n - 1) ^^^ 2 ^ j) := by unfold BW; rw [show pc h.n ((2 ^ h.n - 1) ^^^ 2 ^ j) = m by omega]
    have hne : 2 ^ h.n - 1 ≠ 0 := fun q => by rw [q, Nat.zero_testBit] at hbit; cases hbit
    have hs := BW_s (h := h) (t := 2 ^ h.n - 1) (by omega) hne
    constructor
    · rintro ⟨_, q1, q2⟩
      refine ⟨Nat.zero_testBit j, ?_, by rw [← eB]; exact q2⟩
      cases hd : due h (2 ^ h.n - 1) with
      | false => rfl
      | true => rw [hs, if_pos hd] at q1; exact absurd q1 (Nat.lt_irrefl _)
    · rintro ⟨_, q1, q2⟩
      rw [← eB] at q2
      refine ⟨hj, ?_, q2⟩
      rw [hs, if_neg (by rw [q1]; decide), sumN_pos]
      exact ⟨j, hj, by rw [if_pos hbit]; exact q2⟩
  · constructor
    · intro q; exact absurd q.1 hj
    · intro q
      rw [bt_hi (lq_lt h h.n 0 0 (by omega)) (by omega)] at q; cases q
