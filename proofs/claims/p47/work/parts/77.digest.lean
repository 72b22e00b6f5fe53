/-! ===== digest ===== -/
def itr (G : Nat → Int64 → Int64) : Nat → Int64 → Int64
  | 0, h => h
  | k+1, h => G k (itr G k h)
theorem itr_0 (G : Nat → Int64 → Int64) (h : Int64) : itr G 0 h = h := rfl
theorem itr_s (G : Nat → Int64 → Int64) (k : Nat) (h : Int64) : itr G (k + 1) h = G k (itr G k h) := rfl
def mx (f : Nat → Int32) (k : Nat) (h : Int64) : Int64 := (31 : Int64) * h + (f k).toInt64
def osz (o : Option Nat) : Nat := o.getD 0
def mxr (o : Option Nat) (g : Nat → Int32) (h : Int64) : Int64 := itr (mx g) (osz o) ((31 : Int64) * h + (en o).toInt64)
theorem s_mix {μ : Mm} {s c : Nat} {o : Option Nat} {g : Nat → Int32} {h : Int64} (ht : tg μ s = 9) (hp : mP μ s 0 = some c) (hc : tg μ c = 21) (hs : mI μ s 1 = en o) (hg : ∀ n, o = some n → n ≤ 60 ∧ n ≤ ln μ c ∧ ∀ i, i < n → mI μ c i = g i) : f_X8_mixInto μ s h = some (mxr o g h) := by
  cases ho : o with
  | none =>
    rw [ho] at hs
    have e1 : en none ≤ 0 := by decide
    have e2 : ∀ (f : Nat) (x : Int64), lp_X8_mixInto_15 (f + 1) s x 0 μ = some x := fun f x => by simp (config := { decide := true }) only [↓reduceIte, Option.bind_some, Option.bind_none, lp_X8_mixInto_15, gI_e ht hs, e1]
    have e3 : ∀ x : Int64, lp_X8_mixInto_15 BIG s x 0 μ = some x := e2 99999
    simp (config := { decide := true }) only [↓reduceIte, Option.bind_some, Option.bind_none, f_X8_mixInto, ht, gI_e ht hs, e3]
    rfl
  | some n =>
    rw [ho] at hs
    have hs' : mI μ s 1 = nI n := hs
    obtain ⟨n6, n7, hg⟩ := hg n ho
    have hl : ∀ (h0 : Int64) (f k : Nat), k ≤ n → n < k + f → lp_X8_mixInto_15 f s (itr (mx g) k h0) (nI k) μ = some (itr (mx g) n h0) := by
      intro h0 f
      induction f with
      | zero => intro k q1 q2; omega
      | succ f ih =>
        intro k q1 q2
        by_cases e : k = n
        · have e1 : nI n ≤ nI k := by rw [e]; exact Int32.le_refl _
          simp (config := { decide := true }) only [↓reduceIte, Option.bind_some, Option.bind_none, lp_X8_mixInto_15, gI_e ht hs', e1]
          rw [e]
        · have e1 : ¬ nI n ≤ nI k := nI_ge (by omega) (by omega)
          have hI := ih (k + 1) (by omega) (by omega)
          have ea : aI μ c 21 (nI k) = some (g k) := by rw [aI_of hc (by omega) (by omega), hg k (by omega)]
          rw [itr_s] at hI
          unfold mx at hI
          simp (config := { decide := true }) only [↓reduceIte, Option.bind_some, Option.bind_none, lp_X8_mixInto_15, gI_e ht hs', e1, gP_of ht hp, ea, nI_1]
          exact hI
    have e := hl ((31 : Int64) * h + (nI n).toInt64) BIG 0 (by omega) (by unfold BIG; omega)
    have e' : lp_X8_mixInto_15 BIG s ((31 : Int64) * h + (nI n).toInt64) 0 μ = _ := e
    simp (config := { decide := true }) only [↓reduceIte, Option.bind_some, Option.bind_none, f_X8_mixInto, ht, gI_e ht hs', e']
    rfl
/-- the digest -/
def dgc (R T : GR) (h : GH) (K : GK) (j : Nat) : Int32 := nI (cv R T h K j)
def dgg (h : GH) (g : Nat) (x : Int64) : Int64 := itr (mx fun k => nI (det h g k)) 5 x
def dgk (K : GK) (k : Nat) : Int32 := en ((K k).map fun v => v.2.length)
def dgr (R : GR) (r : Nat) (x : Int64) : Int64 := mxr (R.1 r) (R.2 r) x
def dg0 (R T : GR) (h : GH) (K : GK) : Int64 := itr (mx (dgc R T h K)) 11 17
def dg1 (R T : GR) (h : GH) (K : GK) : Int64 := (31 : Int64) * dg0 R T h K + (nI h.q.2.2.2.1).toInt64
def dg2 (R T : GR) (h : GH) (K : GK) : Int64 := itr (dgg h) h.n (dg1 R T h K)
def dg3 (R T : GR) (h : GH) (K : GK) : Int64 := itr (mx (dgk K)) 3 (dg2 R T h K)
def dg4 (R T : GR) (h : GH) (K : GK) : Int64 := itr (dgr R) 6 (dg3 R T h K)
def dg5 (R T : GR) (h : GH) (K : GK) : Int64 := itr (dgr T) 4 (dg4 R T h K)
theorem dg0_e (R T : GR) (h : GH) (K : GK) : itr (mx (dgc R T h K)) 11 17 = dg0 R T h K := rfl
theorem dg1_e (R T : GR) (h : GH) (K : GK) : (31 : Int64) * dg0 R T h K + (nI h.q.2.2.2.1).toInt64 = dg1 R T h K := rfl
theorem dg2_e (R T : GR) (h : GH) (K : GK) : itr (dgg h) h.n (dg1 R T h K) = dg2 R T h K := rfl
theorem dg3_e (R T : GR) (h : GH) (K : GK) : itr (mx (dgk K)) 3 (dg2 R T h K) = dg3 R T h K := rfl
theorem dg4_e (R T : GR) (h : GH) (K : GK) : itr (dgr R) 6 (dg3 R T h K) = dg4 R T h K := rfl
theorem dg5_e (R T : GR) (h : GH) (K : GK) : itr (dgr T) 4 (dg4 R T h K) = dg5 R T h K := rfl
section DX
variable {R T : GR} {F : GF} {h : GH} {K : GK} {μ : Mm} {a : Nat}
theorem x_dg6 (H : XI R T F h K μ a) (hw : WF R T h K) (h0 : Int64) : ∀ (f k : Nat), k ≤ 11 → 11 < k + f → lp_X11_digest_6 f a (itr (mx (dgc R T h K)) k h0) (nI k) μ = some (itr (mx (dgc R T h K)) 11 h0) := by
  intro f
  induction f with
  | zero => intro k q1 q2; omega
  | succ f ih =>
    intro k q1 q2
    by_cases e : k = 11
    · subst e
      have e1 : (10 : Int32) < nI 11 := by decide
      simp (config := { decide := true }) only [↓reduceIte, Option.bind_some, Option.bind_none, lp_X11_digest_6, e1]
    · have e1 : ¬ (10 : Int32) < nI k := (show ¬ nI 10 < nI k from nI_nlt (by omega) (by decide))
      have hI := ih (k + 1) (by omega) (by omega)
      simp (config := { decide := true }) only [↓reduceIte, Option.bind_some, Option.bind_none, lp_X11_digest_6, e1, x_count H hw (show k ≤ 10 by omega), nI_1]
      exact hI
theorem x_dg62 (H : XI R T F h K μ a) (w : WH h) {g : Nat} (hg : g < h.n) (h0 : Int64) : ∀ (f k : Nat), k ≤ 5 → 5 < k + f → lp_X11_digest_62 f a (itr (mx fun k => nI (det h g k)) k h0) (nI g) (nI k) μ = some (itr (mx fun k => nI (det h g k)) 5 h0) := by
  intro f
  induction f with
  | zero => intro k q1 q2; omega
  | succ f ih =>
    intro k q1 q2
    by_cases e : k = 5
    · subst e
      have e1 : (4 : Int32) < nI 5 := by decide
      simp (config := { decide := true }) only [↓reduceIte, Option.bind_some, Option.bind_none, lp_X11_digest_62, e1]
    · have e1 : ¬ (4 : Int32) < nI k := (show ¬ nI 4 < nI k from nI_nlt (by omega) (by decide))
      have hI := ih (k + 1) (by omega) (by omega)
      simp (config := { decide := true }) only [↓reduceIte, Option.bind_some, Option.bind_none, lp_X11_digest_62, H.1.t0, gP_of H.1.t0 H.1.p0_0, gP_of H.1.t0 H.1.p0_1, gP_of H.1.t0 H.1.p0_2, gP_of H.1.t0 H.1.p0_3, gP_of H.1.t0 H.1.p0_4, gP_of H.1.t0 H.1.p0_5, gP_of H.1.t0 H.1.p0_6, gP_of H.1.t0 H.1.p0_7, gP_of H.1.t0 H.1.p0_8, gP_of H.1.t0 H.1.p0_9, e1, x_detail H w hg (show k ≤ 4 by omega), nI_1]
      exact hI
theorem x_dg48 (H : XI R T F h K μ a) (w : WH h) (h0 : Int64) : ∀ (f k : Nat), k ≤ h.n → h.n < k + f → lp_X11_digest_48 f a (itr (dgg h) k h0) (nI k) μ = some (itr (dgg h) h.n h0) := by
  have hn6 := w.1
  intro f
  induction f with
  | zero => intro k q1 q2; omega
  | succ f ih =>
    intro k q1 q2
    by_cases e : k = h.n
    · have e1 : nI h.n ≤ nI k := by rw [e]; exact Int32.le_refl _
      simp (config := { decide := true }) only [↓reduceIte, Option.bind_some, Option.bind_none, lp_X11_digest_48, H.1.t0, gP_of H.1.t0 H.1.p0_0, gP_of H.1.t0 H.1.p0_1, gP_of H.1.t0 H.1.p0_2, gP_of H.1.t0 H.1.p0_3, gP_of H.1.t0 H.1.p0_4, gP_of H.1.t0 H.1.p0_5, gP_of H.1.t0 H.1.p0_6, gP_of H.1.t0 H.1.p0_7, gP_of H.1.t0 H.1.p0_8, gP_of H.1.t0 H.1.p0_9, x_hev H, e1]
      rw [e]
    · have e1 : ¬ nI h.n ≤ nI k := nI_ge (by omega) (by omega)
      have hI := ih (k + 1) (by omega) (by omega)
      have e2 := x_dg62 H w (show k < h.n by omega) (itr (dgg h) k h0) BIG 0 (by omega) (by unfold BIG; omega)
      have e2' : lp_X11_digest_62 BIG a (itr (dgg h) k h0) (nI k) 0 μ = _ := e2
      simp (config := { decide := true }) only [↓reduceIte, Option.bind_some, Option.bind_none, lp_X11_digest_48, H.1.t0, gP_of H.1.t0 H.1.p0_0, gP_of H.1.t0 H.1.p0_1, gP_of H.1.t0 H.1.p0_2, gP_of H.1.t0 H.1.p0_3, gP_of H.1.t0 H.1.p0_4, gP_of H.1.t0 H.1.p0_5, gP_of H.1.t0 H.1.p0_6, gP_of H.1.t0 H.1.p0_7, gP_of H.1.t0 H.1.p0_8, gP_of H.1.t0 H.1.p0_9, x_hev H, e1, e2', nI_1]
      exact hI
theorem x_dg100 (H : XI R T F h K μ a) (h0 : Int64) : ∀ (f k : Nat), k ≤ 3 → 3 < k + f → lp_X11_digest_100 f a (itr (mx (dgk K)) k h0) (nI k) μ = some (itr (mx (dgk K)) 3 h0) := by
  intro f
  induction f with
  | zero => intro k q1 q2; omega
  | succ f ih =>
    intro k q1 q2
    by_cases e : k = 3
    · subst e
      have e1 : (3 : Int32) ≤ nI 3 := by decide
      simp (config := { decide := true }) only [↓reduceIte, Option.bind_some, Option.bind_none, lp_X11_digest_100, e1]
    · have e1 : ¬ (3 : Int32) ≤ nI k := (show ¬ nI 3 ≤ nI k from nI_ge (by omega) (by decide))
      have hI := ih (k + 1) (by omega) (by omega)
      have hk := (H.1.kept (show k < 3 by omega)).2.1
      have es : mI μ (a + 53 + 2 * k) 1 = dgk K k := (H.2.2.2.2.2.1 k (by omega)).1
      simp (config := { decide := true }) only [↓reduceIte, Option.bind_some, Option.bind_none, lp_X11_digest_100, H.1.t0, gP_of H.1.t0 H.1.p0_0, gP_of H.1.t0 H.1.p0_1, gP_of H.1.t0 H.1.p0_2, gP_of H.1.t0 H.1.p0_3, gP_of H.1.t0 H.1.p0_4, gP_of H.1.t0 H.1.p0_5, gP_of H.1.t0 H.1.p0_6, gP_of H.1.t0 H.1.p0_7, gP_of H.1.t0 H.1.p0_8, gP_of H.1.t0 H.1.p0_9, e1, H.1.fk.get (show k < 3 by omega), gI_e hk es, nI_1]
      exact hI
theorem x_dg130 (H : XI R T F h K μ a) (hw : WF R T h K) (h0 : Int64) : ∀ (f k : Nat), k ≤ 6 → 6 < k + f → lp_X11_digest_130 f a (itr (dgr R) k h0) (nI k) μ = some (itr (dgr R) 6 h0) := by
  intro f
  induction f with
  | zero => intro k q1 q2; omega
  | succ f ih =>
    intro k q1 q2
    by_cases e : k = 6
    · subst e
      have e1 : (6 : Int32) ≤ nI 6 := by decide
      simp (config := { decide := true }) only [↓reduceIte, Option.bind_some, Option.bind_none, lp_X11_digest_130, e1]
    · have e1 : ¬ (6 : Int32) ≤ nI k := (show ¬ nI 6 ≤ nI k from nI_ge (by omega) (by decide))
      have hI := ih (k + 1) (by omega) (by omega)
      obtain ⟨k1, k2, k3, k4, k5⟩ := H.1.row (show k < 6 by omega)
      have em := s_mix (h := itr (dgr R) k h0) (g := R.2 k) k2 k3 k4 (H.2.1 k (by omega)).1 (fun n hn => ⟨Nat.le_trans (hw.1 k (by omega) n hn) (by decide), by rw [k5]; exact hw.1 k (by omega) n hn, fun i hi => (H.2.1 k (by omega)).2 n hn i hi⟩)
      simp (config := { decide := true }) only [↓reduceIte, Option.bind_some, Option.bind_none, lp_X11_digest_130, H.1.t0, gP_of H.1.t0 H.1.p0_0, gP_of H.1.t0 H.1.p0_1, gP_of H.1.t0 H.1.p0_2, gP_of H.1.t0 H.1.p0_3, gP_of H.1.t0 H.1.p0_4, gP_of H.1.t0 H.1.p0_5, gP_of H.1.t0 H.1.p0_6, gP_of H.1.t0 H.1.p0_7, gP_of H.1.t0 H.1.p0_8, gP_of H.1.t0 H.1.p0_9, e1, H.1.fr.get (show k < 6 by omega), em, nI_1]
      exact hI
theorem x_dg155 (H : XI R T F h K μ a) (hw : WF R T h K) (h0 : Int64) : ∀ (f k : Nat), k ≤ 4 → 4 < k + f → lp_X11_digest_155 f a (itr (dgr T) k h0) (nI k) μ = some (itr (dgr T) 4 h0) := by
  intro f
  induction f with
  | zero => intro k q1 q2; omega
  | succ f ih =>
    intro k q1 q2
    by_cases e : k = 4
    · subst e
      have e1 : (4 : Int32) ≤ nI 4 := by decide
      simp (config := { decide := true }) only [↓reduceIte, Option.bind_some, Option.bind_none, lp_X11_digest_155, e1]
    · have e1 : ¬ (4 : Int32) ≤ nI k := (show ¬ nI 4 ≤ nI k from nI_ge (by omega) (by decide))
      have hI := ih (k + 1) (by omega) (by omega)
      obtain ⟨k1, k2, k3, k4, k5⟩ := H.1.text (show k < 4 by omega)
      have em := s_mix (h := itr (dgr T) k h0) (g := T.2 k) k2 k3 k4 (H.2.2.1 k (by omega)).1 (fun n hn => ⟨hw.2.1 k (by omega) n hn, by rw [k5]; exact hw.2.1 k (by omega) n hn, fun i hi => (H.2.2.1 k (by omega)).2 n hn i hi⟩)
      simp (config := { decide := true }) only [↓reduceIte, Option.bind_some, Option.bind_none, lp_X11_digest_155, H.1.t0, gP_of H.1.t0 H.1.p0_0, gP_of H.1.t0 H.1.p0_1, gP_of H.1.t0 H.1.p0_2, gP_of H.1.t0 H.1.p0_3, gP_of H.1.t0 H.1.p0_4, gP_of H.1.t0 H.1.p0_5, gP_of H.1.t0 H.1.p0_6, gP_of H.1.t0 H.1.p0_7, gP_of H.1.t0 H.1.p0_8, gP_of H.1.t0 H.1.p0_9, e1, H.1.ft.get (show k < 4 by omega), em, nI_1]
      exact hI
theorem x_digest (H : XI R T F h K μ a) (hw : WF R T h K) : f_X11_digest μ a = some (dg5 R T h K) := by
  have w := hw.2.2.1
  have hn6 := w.1
  have e1 := x_dg6 H hw 17 BIG 0 (by omega) (by unfold BIG; omega)
  rw [itr_0, nI_0, dg0_e] at e1
  have e2 := x_dg48 H w (dg1 R T h K) BIG 0 (by omega) (by unfold BIG; omega)
  rw [itr_0, nI_0, dg2_e] at e2
  have e3 := x_dg100 H (dg2 R T h K) BIG 0 (by omega) (by unfold BIG; omega)
  rw [itr_0, nI_0, dg3_e] at e3
  have e4 := x_dg130 H hw (dg3 R T h K) BIG 0 (by omega) (by unfold BIG; omega)
  rw [itr_0, nI_0, dg4_e] at e4
  have e5 := x_dg155 H hw (dg4 R T h K) BIG 0 (by omega) (by unfold BIG; omega)
  rw [itr_0, nI_0, dg5_e] at e5
  simp (config := { decide := true }) only [↓reduceIte, Option.bind_some, Option.bind_none, f_X11_digest, H.1.t0, gP_of H.1.t0 H.1.p0_0, gP_of H.1.t0 H.1.p0_1, gP_of H.1.t0 H.1.p0_2, gP_of H.1.t0 H.1.p0_3, gP_of H.1.t0 H.1.p0_4, gP_of H.1.t0 H.1.p0_5, gP_of H.1.t0 H.1.p0_6, gP_of H.1.t0 H.1.p0_7, gP_of H.1.t0 H.1.p0_8, gP_of H.1.t0 H.1.p0_9, e1, x_hev H, dg1_e, e2, e3, e4, e5]
end DX
theorem sL_sL (μ : Mm) (a k : Nat) (v w : Int64) : sL (sL μ a k v) a k w = sL μ a k w := by
  refine mm_ext (fun _ => rfl) (fun _ => rfl) (fun _ _ => rfl) (fun b j => ?_) (fun _ _ => rfl) rfl
  rw [mL_sL, mL_sL, mL_sL]
  by_cases q : b = a ∧ j = k
  · rw [if_pos q, if_pos q]
  · rw [if_neg q, if_neg q, if_neg q]
section DM
variable {R T : GR} {F : GF} {h : GH} {K : GK} {μ : Mm} {c : Nat}
theorem osz_le {o : Option Nat} {N : Nat} (h : ∀ n, o = some n → n ≤ N) : osz o ≤ N := by
  cases ho : o with
  | none => exact Nat.zero_le _
  | some n => exact h n ho
end DM