/-! ===== rows and texts: the model's side; both ===== -/
def setr (R : GR) (r : Nat) (o : Option Nat) (g : Nat → Int32) : GR := (u1 R.1 r o, u1 R.2 r g)
theorem setr_1 (R : GR) (r : Nat) (o : Option Nat) (g : Nat → Int32) : (setr R r o g).1 r = o := if_pos rfl
theorem setr_2 (R : GR) (r : Nat) (o : Option Nat) (g : Nat → Int32) : (setr R r o g).2 r = g := if_pos rfl
theorem setr_n1 (R : GR) {r s : Nat} (o : Option Nat) (g : Nat → Int32) (h : s ≠ r) : (setr R r o g).1 s = R.1 s := if_neg h
theorem setr_n2 (R : GR) {r s : Nat} (o : Option Nat) (g : Nat → Int32) (h : s ≠ r) : (setr R r o g).2 s = R.2 s := if_neg h
theorem WR.set {R : GR} (h : WR R) {r : Nat} {o : Option Nat} {g : Nat → Int32} (ho : ∀ n, o = some n → n ≤ 40) : WR (setr R r o g) := fun s hs n hn => by
  by_cases e : s = r
  · subst e; rw [setr_1] at hn; exact ho n hn
  · rw [setr_n1 _ _ _ e] at hn; exact h s hs n hn
theorem WT.set {R : GR} (h : WT R) {r : Nat} {o : Option Nat} {g : Nat → Int32} (ho : ∀ n, o = some n → n ≤ 60) : WT (setr R r o g) := fun s hs n hn => by
  by_cases e : s = r
  · subst e; rw [setr_1] at hn; exact ho n hn
  · rw [setr_n1 _ _ _ e] at hn; exact h s hs n hn
theorem XI.rset {R T : GR} {F : GF} {h : GH} {K : GK} {μ μ' : Mm} {a r : Nat} {o : Option Nat} {g : Nat → Int32} (H : XI R T F h K μ a) (hr : r < 6) (hs : ∀ b, b ≠ a + 33 + 2 * r → b ≠ a + 34 + 2 * r → (b < a + 19 ∨ a + 32 ≤ b) → Sm μ μ' b) (hL : LX μ' a) (h1 : mI μ' (a + 33 + 2 * r) 1 = en o) (h2 : ∀ n, o = some n → ∀ i, i < n → mI μ' (a + 34 + 2 * r) i = g i) (hz' : hz μ ≤ hz μ') : XI (setr R r o g) T F h K μ' a := by
  obtain ⟨g1, g2, g3, g4, g5, g6, g7⟩ := H
  refine ⟨hL, fun s hs6 => ?_, g3.mv (fun b _ _ => hs b (by omega) (by omega) (by omega)), g4.mv (hs _ (by omega) (by omega) (by omega)) (hs _ (by omega) (by omega) (by omega)), g5.mv (fun b _ _ => hs b (by omega) (by omega) (by omega)) (fun b _ _ => hs b (by omega) (by omega) (by omega)) hz', g6.mv (fun b _ _ => hs b (by omega) (by omega) (by omega)) (fun b _ _ => hs b (by omega) (by omega) (by omega)), Nat.le_trans g7 hz'⟩
  by_cases e : s = r
  · subst e
    rw [setr_1, setr_2]
    exact ⟨h1, h2⟩
  · rw [setr_n1 _ _ _ e, setr_n2 _ _ _ e]
    obtain ⟨k1, k2⟩ := g2 s hs6
    exact ⟨by rw [(hs _ (by omega) (by omega) (by omega)).2.2.1]; exact k1, fun n hn i hi => by rw [(hs _ (by omega) (by omega) (by omega)).2.2.1]; exact k2 n hn i hi⟩
theorem XI.tset {R T : GR} {F : GF} {h : GH} {K : GK} {μ μ' : Mm} {a r : Nat} {o : Option Nat} {g : Nat → Int32} (H : XI R T F h K μ a) (hr : r < 4) (hs : ∀ b, b ≠ a + 45 + 2 * r → b ≠ a + 46 + 2 * r → (b < a + 19 ∨ a + 32 ≤ b) → Sm μ μ' b) (hL : LX μ' a) (h1 : mI μ' (a + 45 + 2 * r) 1 = en o) (h2 : ∀ n, o = some n → ∀ i, i < n → mI μ' (a + 46 + 2 * r) i = g i) (hz' : hz μ ≤ hz μ') : XI R (setr T r o g) F h K μ' a := by
  obtain ⟨g1, g2, g3, g4, g5, g6, g7⟩ := H
  refine ⟨hL, g2.mv (fun b _ _ => hs b (by omega) (by omega) (by omega)), fun s hs6 => ?_, g4.mv (hs _ (by omega) (by omega) (by omega)) (hs _ (by omega) (by omega) (by omega)), g5.mv (fun b _ _ => hs b (by omega) (by omega) (by omega)) (fun b _ _ => hs b (by omega) (by omega) (by omega)) hz', g6.mv (fun b _ _ => hs b (by omega) (by omega) (by omega)) (fun b _ _ => hs b (by omega) (by omega) (by omega)), Nat.le_trans g7 hz'⟩
  by_cases e : s = r
  · subst e
    rw [setr_1, setr_2]
    exact ⟨h1, h2⟩
  · rw [setr_n1 _ _ _ e, setr_n2 _ _ _ e]
    obtain ⟨k1, k2⟩ := g3 s hs6
    exact ⟨by rw [(hs _ (by omega) (by omega) (by omega)).2.2.1]; exact k1, fun n hn i hi => by rw [(hs _ (by omega) (by omega) (by omega)).2.2.1]; exact k2 n hn i hi⟩
/-- a stretch of a row -/
def filr (g : Nat → Int32) (o n : Nat) (v : Int32) : Nat → Int32 := fun j => if o ≤ j ∧ j < o + n then v else g j
theorem filr_0 (g : Nat → Int32) (o : Nat) (v : Int32) : filr g o 0 v = g := funext fun j => if_neg (by omega)
theorem filr_s (g : Nat → Int32) (o k : Nat) (v : Int32) : upd (filr g o k v) (o + k) v = filr g o (k + 1) v := by
  funext j
  unfold filr
  by_cases hj : j = o + k
  · subst hj; rw [pk_us, if_pos (by omega)]
  · rw [pk_un hj]
    by_cases h2 : o ≤ j ∧ j < o + k
    · rw [if_pos h2, if_pos (by omega)]
    · rw [if_neg h2, if_neg (by omega)]
theorem ix40 (r k : Nat) : ((40 : Int32) * nI r) + nI k = nI (40 * r + k) := by
  show nI 40 * nI r + nI k = _
  rw [pk_mul, nI_add]
theorem ix60 (r k : Nat) : ((60 : Int32) * nI r) + nI k = nI (60 * r + k) := by
  show nI 60 * nI r + nI k = _
  rw [pk_mul, nI_add]