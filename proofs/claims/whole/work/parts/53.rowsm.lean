/-! ===== rows and texts: the model's side; both ===== -/
def setr (R : GR) (r : Nat) (o : Option Nat) (g : Nat → Int32) : GR := (u1 R.1 r o, u1 R.2 r g)
theorem setr_1 (R : GR) (r : Nat) (o : Option Nat) (g : Nat → Int32) : (setr R r o g).1 r = o := if_pos rfl
theorem setr_2 (R : GR) (r : Nat) (o : Option Nat) (g : Nat → Int32) : (setr R r o g).2 r = g := if_pos rfl
theorem setr_n1 (R : GR) {r s : Nat} (o : Option Nat) (g : Nat → Int32) (h : s ≠ r) : (setr R r o g).1 s = R.1 s := if_neg h
theorem setr_n2 (R : GR) {r s : Nat} (o : Option Nat) (g : Nat → Int32) (h : s ≠ r) : (setr R r o g).2 s = R.2 s := if_neg h
theorem WR.set {R : GR} (h : WR R) {r : Nat} {o : Option Nat} {g : Nat → Int32} (ho : ∀ n, o = some n → n ≤ 40) : WR (setr R r o g) := fun s hs n hn => by
  by_cases e : s = r
  · subst e; rw [setr_1] at hn; exact ho n hn
  · rw [setr_n1 _ _ _ e] at hn; exact h s hs n hn
theorem WT.set {R : GR} (h : WT R) {r : Nat} {o : Option Nat} {g : Nat → Int32} (ho : ∀ n, o = some n → n ≤ 60) : WT (setr R r o g) := fun s hs n hn => by
  by_cases e : s = r
  · subst e; rw [setr_1] at hn; exact ho n hn
  · rw [setr_n1 _ _ _ e] at hn; exact h s hs n hn
theorem XI.rset {R T : GR} {F : GF} {h : GH} {K : GK} {μ μ' : Mm} {a r : Nat} {o : Option Nat} {g : Nat → Int32} (H : XI R T F h K μ a) (hr : r < 6) (hs : ∀ b, b ≠ a + 33 + 2 * r → b ≠ a + 34 + 2 * r → (b < a + 19 ∨ a + 32 ≤ b) → Sm μ μ' b) (hL : LX μ' a) (h1 : mI μ' (a + 33 + 2 * r) 1 = en o) (h2 : ∀ n, o = some n → ∀ i, i < n → mI μ' (a + 34 + 2 * r) i = g i) (hz' : hz μ ≤ hz μ') : XI (setr R r o g) T F h K μ' a := by
  obtain ⟨g1, g2, g3, g4, g5, g6, g7⟩ := H
  refine ⟨hL, fun s hs6 => ?_, g3.mv (fun b _ _ => hs b (by omega) (by omega) (by omega)), g4.mv (hs _ (by omega) (by omega) (by omega)) (hs _ (by omega) (by omega) (by omega)), g5.mv (fun b _ _ => hs b (by omega) (by omega) (by omega)) (fun b _ _ => hs b (by omega) (by omega) (by omega)) hz', g6.mv (fun b _ _ => hs b (by omega) (by omega) (by omega)) (fun b _ _ => hs b (by omega) (by omega) (by omega)), Nat.le_trans g7 hz'⟩
  by_cases e : s = r
  · subst e
    rw [setr_1, setr_2]
    exact ⟨h1, h2⟩
  · rw [setr_n1 _ _ _ e, setr_n2 _ _ _ e]
    obtain ⟨k1, k2⟩ := g2 s hs6
    exact ⟨by rw [(hs _ (by omega) (by omega) (by omega)).2.2.1]; exact k1, fun n hn i hi => by rw [(hs _ (by omega) (by omega) (by omega)).2.2.1]; exact k2 n hn i hi⟩
theorem XI.tset {R T : GR} {F : GF} {h : GH} {K : GK} {μ μ' : Mm} {a r : Nat} {o : Option Nat} {g : Nat → Int32} (H : XI R T F h K μ a) (hr : r < 4) (hs : ∀ b, b ≠ a + 45 + 2 * r → b ≠ a + 46 + 2 * r → (b < a + 19 ∨ a + 32 ≤ b) → Sm μ μ' b) (hL : LX μ' a) (h1 : mI μ' (a + 45 + 2 * r) 1 = en o) (h2 : ∀ n, o = some n → ∀ i, i < n → mI μ' (a + 46 + 2 * r) i = g i) (hz' : hz μ ≤ hz μ') : XI R (setr T r o g) F h K μ' a := by
  obtain ⟨g1, g2, g3, g4, g5, g6, g7⟩ := H
  refine ⟨hL, g2.mv (fun b _ _ => hs b (by omega) (by omega) (by omega)), fun s hs6 => ?_, g4.mv (hs _ (by omega) (by omega) (by omega)) (hs _ (by omega) (by omega) (by omega)), g5.mv (fun b _ _ => hs b (by omega) (by omega) (by omega)) (fun b _ _ => hs b (by omega) (by omega) (by omega)) hz', g6.mv (fun b _ _ => hs b (by omega) (by omega) (by omega)) (fun b _ _ => hs b (by omega) (by omega) (by omega)), Nat.le_trans g7 hz'⟩
  by_cases e : s = r
  · subst e
    rw [setr_1, setr_2]
    exact ⟨h1, h2⟩
  · rw [setr_n1 _ _ _ e, setr_n2 _ _ _ e]
    obtain ⟨k1, k2⟩ := g3 s hs6
    exact ⟨by rw [(hs _ (by omega) (by omega) (by omega)).2.2.1]; exact k1, fun n hn i hi => by rw [(hs _ (by omega) (by omega) (by omega)).2.2.1]; exact k2 n hn i hi⟩
theorem MI.rset {R T : GR} {F : GF} {h : GH} {K : GK} {μ μ' : Mm} {c r : Nat} {o : Option Nat} {g : Nat → Int32} (H : MI R T F h K μ c) (hw : WR R) (hr : r < 6) (hs : ∀ b, b ≠ c + 2 → b ≠ c + 3 → b ≠ c + 4 → Sm μ μ' b ∨ (c + 19 ≤ b ∧ b < c + 26)) (hL : LM μ' c) (h1 : mI μ' (c + 2) r = en o) (h1' : ∀ s, s ≠ r → mI μ' (c + 2) s = mI μ (c + 2) s) (h2 : ∀ n, o = some n → ∀ i, i < n → mI μ' (c + 3) (40 * r + i) = g i) (h2' : ∀ s i, s ≠ r → i < 40 → mI μ' (c + 3) (40 * s + i) = mI μ (c + 3) (40 * s + i)) : MI (setr R r o g) T F h K μ' c := by
  obtain ⟨g1, g2, g3, g4, g5, g6⟩ := H
  have e : ∀ b, b ≠ c + 2 → b ≠ c + 3 → b ≠ c + 4 → b < c + 19 → Sm μ μ' b := fun b q1 q2 q3 q4 => (hs b q1 q2 q3).resolve_right (fun z => by omega)
  refine ⟨hL, fun s hs6 => ?_, g3.mv (e _ (by omega) (by omega) (by omega) (by omega)) (e _ (by omega) (by omega) (by omega) (by omega)), g4.mv (e _ (by omega) (by omega) (by omega) (by omega)) (e _ (by omega) (by omega) (by omega) (by omega)), g5.mv (e _ (by omega) (by omega) (by omega) (by omega)).Fh (e _ (by omega) (by omega) (by omega) (by omega)) (e _ (by omega) (by omega) (by omega) (by omega)) (e _ (by omega) (by omega) (by omega) (by omega)) (e _ (by omega) (by omega) (by omega) (by omega)), g6.mv (fun b _ _ => e b (by omega) (by omega) (by omega) (by omega))⟩
  by_cases q : s = r
  · subst q
    rw [setr_1, setr_2]
    exact ⟨h1, h2⟩
  · rw [setr_n1 _ _ _ q, setr_n2 _ _ _ q]
    obtain ⟨k1, k2⟩ := g2 s hs6
    exact ⟨by rw [h1' s q]; exact k1, fun n hn i hi => by rw [h2' s i q (by have := hw s hs6 n hn; omega)]; exact k2 n hn i hi⟩
theorem MI.tset {R T : GR} {F : GF} {h : GH} {K : GK} {μ μ' : Mm} {c r : Nat} {o : Option Nat} {g : Nat → Int32} (H : MI R T F h K μ c) (hw : WT T) (hr : r < 4) (hs : ∀ b, b ≠ c + 5 → b ≠ c + 6 → Sm μ μ' b) (hL : LM μ' c) (h1 : mI μ' (c + 5) r = en o) (h1' : ∀ s, s ≠ r → mI μ' (c + 5) s = mI μ (c + 5) s) (h2 : ∀ n, o = some n → ∀ i, i < n → mI μ' (c + 6) (60 * r + i) = g i) (h2' : ∀ s i, s ≠ r → i < 60 → mI μ' (c + 6) (60 * s + i) = mI μ (c + 6) (60 * s + i)) : MI R (setr T r o g) F h K μ' c := by
  obtain ⟨g1, g2, g3, g4, g5, g6⟩ := H
  refine ⟨hL, g2.mv (hs _ (by omega) (by omega)) (hs _ (by omega) (by omega)), fun s hs6 => ?_, g4.mv (hs _ (by omega) (by omega)) (hs _ (by omega) (by omega)), g5.mv (hs _ (by omega) (by omega)).Fh (hs _ (by omega) (by omega)) (hs _ (by omega) (by omega)) (hs _ (by omega) (by omega)) (hs _ (by omega) (by omega)), g6.mv (fun b _ _ => hs b (by omega) (by omega))⟩
  by_cases q : s = r
  · subst q
    rw [setr_1, setr_2]
    exact ⟨h1, h2⟩
  · rw [setr_n1 _ _ _ q, setr_n2 _ _ _ q]
    obtain ⟨k1, k2⟩ := g3 s hs6
    exact ⟨by rw [h1' s q]; exact k1, fun n hn i hi => by rw [h2' s i q (by have := hw s hs6 n hn; omega)]; exact k2 n hn i hi⟩
theorem m_in_bad {μ : Mm} {p : Int32} {N : Nat} (hp : Out p N) (hN : 0 < N) (hN2 : N < 2 ^ 31) : f_X12_in μ p 0 (nI (N - 1)) = some 0 := by
  unfold f_X12_in
  rcases hp with hp | ⟨hp, hq⟩
  · rw [if_pos hp]
  · rw [if_neg hp, if_pos (i_big' hq (by omega) hN2)]
theorem m_in_ok {μ : Mm} {r N : Nat} (hr : r < N) (hN2 : N < 2 ^ 31) : f_X12_in μ (nI r) 0 (nI (N - 1)) = some 1 := by
  unfold f_X12_in
  rw [if_neg (nlt0 (by omega)), if_neg (nI_nlt (by omega) (by omega))]
theorem isRow_bad {μ : Mm} {p : Int32} (hp : Out p 6) : f_X12_isRow μ p = some 0 := by
  unfold f_X12_isRow
  show (f_X12_in μ p 0 (nI (6 - 1))).bind _ = _
  rw [m_in_bad hp (by decide) (by decide)]
  rfl
theorem isRow_ok {μ : Mm} {r : Nat} (hr : r < 6) : f_X12_isRow μ (nI r) = some 1 := by
  unfold f_X12_isRow
  show (f_X12_in μ _ 0 (nI (6 - 1))).bind _ = _
  rw [m_in_ok hr (by decide)]
  rfl
theorem isText_bad {μ : Mm} {p : Int32} (hp : Out p 4) : f_X12_isText μ p = some 0 := by
  unfold f_X12_isText
  show (f_X12_in μ p 0 (nI (4 - 1))).bind _ = _
  rw [m_in_bad hp (by decide) (by decide)]
  rfl
theorem isText_ok {μ : Mm} {r : Nat} (hr : r < 4) : f_X12_isText μ (nI r) = some 1 := by
  unfold f_X12_isText
  show (f_X12_in μ _ 0 (nI (4 - 1))).bind _ = _
  rw [m_in_ok hr (by decide)]
  rfl
/-- a stretch of a row -/
def filr (g : Nat → Int32) (o n : Nat) (v : Int32) : Nat → Int32 := fun j => if o ≤ j ∧ j < o + n then v else g j
theorem filr_0 (g : Nat → Int32) (o : Nat) (v : Int32) : filr g o 0 v = g := funext fun j => if_neg (by omega)
theorem filr_s (g : Nat → Int32) (o k : Nat) (v : Int32) : upd (filr g o k v) (o + k) v = filr g o (k + 1) v := by
  funext j
  unfold filr
  by_cases hj : j = o + k
  · subst hj; rw [pk_us, if_pos (by omega)]
  · rw [pk_un hj]
    by_cases h2 : o ≤ j ∧ j < o + k
    · rw [if_pos h2, if_pos (by omega)]
    · rw [if_neg h2, if_neg (by omega)]
theorem ix40 (r k : Nat) : ((40 : Int32) * nI r) + nI k = nI (40 * r + k) := by
  show nI 40 * nI r + nI k = _
  rw [pk_mul, nI_add]
theorem ix60 (r k : Nat) : ((60 : Int32) * nI r) + nI k = nI (60 * r + k) := by
  show nI 60 * nI r + nI k = _
  rw [pk_mul, nI_add]
theorem m_row_l {μ : Mm} {c r : Nat} {q : Int32} {g : Nat → Int32} (hL : LM μ c) (hr : r < 6) : ∀ (f k : Nat), k ≤ 40 → 40 < k + f → lp_X12_row_34 f c (nI r) q (nI k) (sR μ (c + 3) (filr g (40 * r) k 0)) = some (sR μ (c + 3) (filr g (40 * r) 40 0)) := by
  intro f
  induction f with
  | zero => intro k h1 h2; omega
  | succ f ih =>
    intro k h1 h2
    have hL' : LM (sR μ (c + 3) (filr g (40 * r) k 0)) c := hL
    rw [lp_X12_row_34]
    by_cases hk : k = 40
    · subst hk
      rw [if_pos (show (40 : Int32) ≤ nI 40 from Int32.le_refl _)]
    · rw [if_neg (show ¬ (40 : Int32) ≤ nI k from (show ¬ nI 40 ≤ nI k from nI_ge (by omega) (by decide))), gP_of hL'.t0 hL'.p0_6, Option.bind_some, ix40, qI_of hL'.t3 (show 40 * r + k < ln μ (c + 3) by rw [hL.n3]; omega) (show 40 * r + k < 2 ^ 31 by omega), Option.bind_some, sI_sRg, filr_s, nI_1]
      exact ih (k + 1) (by omega) (by omega)
theorem PSI_row : PS_row INV := by
  intro μ a1 a2 q1 q2 hI
  refine both_of (fx := fun μ a => f_X11_row μ a q1 q2) (fm := fun μ c => f_X12_row μ c q1 q2) ?_ μ a1 a2 hI
  intro R T F h K hw
  have hx0 : ∀ μ a, LX μ a → f_X11_row μ a q1 q2 = f_X11_open μ a (a + 1) q1 q2 0 := fun μ a hL => by
    unfold f_X11_row
    rw [if_pos hL.t0, gP_of hL.t0 hL.p0_0, Option.bind_some]
    cases f_X11_open μ a (a + 1) q1 q2 0 <;> rfl
  rcases ix2 q1 6 (by decide) with h1 | ⟨r, hr, rfl⟩
  · refine ⟨-1, R, T, F, h, K, hw, fun μ a H => XO.same H ?_, fun μ c H => MO.same H ?_⟩
    · show f_X11_row μ a q1 q2 = _
      rw [hx0 μ a H.1, H.1.fr.open_bad H.1 h1]
    · show f_X12_row μ c q1 q2 = _
      unfold f_X12_row
      rw [if_pos H.1.t0, isRow_bad h1, Option.bind_some, if_pos rfl]
  · rcases ix3 q2 41 (by decide) with h2 | ⟨h2, h3⟩ | ⟨n, hn, rfl⟩
    · refine ⟨-3, R, T, fnd F 5, h, K, hw, fun μ a H => XO.find H (by decide) ?_, fun μ c H => MO.find H (by decide) ?_⟩
      · show f_X11_row μ a (nI r) q2 = _
        rw [hx0 μ a H.1, H.1.fr.open_neg H.1 hr h2]
      · show f_X12_row μ c (nI r) q2 = _
        unfold f_X12_row
        rw [if_pos H.1.t0, isRow_ok hr, Option.bind_some, if_neg (by decide), if_pos (show q2 ≤ (40 : Int32) from i_neg_le h2 (by decide)), if_neg (i_neg h2)]
        show (f_X12_meets μ c (nI 5)).bind _ = _
        rw [m_find H.1 (by decide)]
        rfl
    · refine ⟨-1, R, T, F, h, K, hw, fun μ a H => XO.same H ?_, fun μ c H => MO.same H ?_⟩
      · show f_X11_row μ a (nI r) q2 = _
        rw [hx0 μ a H.1, H.1.fr.open_big H.1 hr h3]
      · show f_X12_row μ c (nI r) q2 = _
        unfold f_X12_row
        rw [if_pos H.1.t0, isRow_ok hr, Option.bind_some, if_neg (by decide), if_neg (show ¬ q2 ≤ (40 : Int32) from i_big h3 (by decide) (by decide))]
    · refine ⟨nI n, setr R r (some n) (fun _ => 0), T, F, h, K, ⟨hw.1.set (fun m hm => by cases hm; omega), hw.2⟩, fun μ a H => ⟨_, by
        show f_X11_row μ a (nI r) (nI n) = _
        rw [hx0 μ a H.1, H.1.fr.open_ok H.1 hr (show n ≤ 40 by omega)], H.rset hr (fun b h1 h2 _ => ((Sm.rf μ b).sI h1).sR h2) H.1 ?_ ?_ (Nat.le_refl _), fun b _ _ => ((Sm.rf μ b).sI (by omega)).sR (by omega), Nat.le_refl _⟩, fun μ c H => ⟨sR (sI μ (c + 2) r (nI n)) (c + 3) (filr (mI μ (c + 3)) (40 * r) 40 0), ?_, H.rset hw.1 hr (fun b h1 h2 _ => Or.inl (((Sm.rf μ b).sI h1).sR h2)) H.1 ?_ ?_ ?_ ?_, fun b _ => ((Sm.rf μ b).sI (by omega)).sR (by omega), Nat.le_refl _⟩⟩
      · rw [mR_ne (by omega), mI_eq, en_some]
      · intro m hm i hi
        cases hm
        rw [mR_eq]
        exact if_pos hi
      · show f_X12_row μ c (nI r) (nI n) = _
        unfold f_X12_row
        rw [if_pos H.1.t0, isRow_ok hr, Option.bind_some, if_neg (by decide), if_pos (show nI n ≤ (40 : Int32) from (show nI n ≤ nI 40 from nI_le (by omega) (by decide))), if_pos (i_pos (show n < 2 ^ 31 by omega)), gP_of H.1.t0 H.1.p0_5, Option.bind_some, qI_of H.1.t2 (show r < ln μ (c + 2) by rw [H.1.n2]; exact hr) (show r < 2 ^ 31 by omega), Option.bind_some]
        have hL' : LM (sI μ (c + 2) r (nI n)) c := H.1
        have e := m_row_l (q := nI n) (g := mI μ (c + 3)) hL' hr BIG 0 (by decide) (by unfold BIG; omega)
        rw [filr_0] at e
        have e0 : sR (sI μ (c + 2) r (nI n)) (c + 3) (mI μ (c + 3)) = sI μ (c + 2) r (nI n) := by
          have : mI μ (c + 3) = mI (sI μ (c + 2) r (nI n)) (c + 3) := funext fun j => (mI_ne (by omega)).symm
          rw [this, sR_self]
        rw [e0] at e
        show (lp_X12_row_34 BIG c (nI r) (nI n) (nI 0) _).bind _ = _
        rw [e]
        rfl
      · rw [mR_ne (by omega), mI_eq, en_some]
      · intro s hs
        rw [mR_ne (by omega), mI_nk hs]
      · intro m hm i hi
        cases hm
        rw [mR_eq]
        exact if_pos (by omega)
      · intro s i hs hi
        rw [mR_eq]
        exact if_neg (by omega)
