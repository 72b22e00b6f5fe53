/-! ===== rows and texts: the class's side ===== -/
theorem i_neg_le {x : Int32} {n : Nat} (h : x < 0) (hn : n < 2 ^ 31) : x ≤ nI n := by
  rw [Int32.lt_iff_toInt_lt] at h
  rw [Int32.le_iff_toInt_le, nI_toInt hn]
  have : (0 : Int32).toInt = 0 := rfl
  omega
theorem i_big {x : Int32} {n m : Nat} (h : nI n ≤ x) (hm : m < n) (hn : n < 2 ^ 31) : ¬ x ≤ nI m := by
  rw [Int32.le_iff_toInt_le, nI_toInt hn] at h
  rw [Int32.le_iff_toInt_le, nI_toInt (by omega)]
  omega
theorem i_big' {x : Int32} {n m : Nat} (h : nI n ≤ x) (hm : m < n) (hn : n < 2 ^ 31) : nI m < x := by
  rw [Int32.le_iff_toInt_le, nI_toInt hn] at h
  rw [Int32.lt_iff_toInt_lt, nI_toInt (by omega)]
  omega
theorem i_pos {n : Nat} (hn : n < 2 ^ 31) : 0 ≤ nI n := nI_pos' hn
theorem i_neg {x : Int32} (h : x < 0) : ¬ 0 ≤ x := by
  rw [Int32.lt_iff_toInt_lt] at h
  rw [Int32.le_iff_toInt_le]
  omega
theorem i_nn {x : Int32} (h : ¬ x < 0) : 0 ≤ x := by
  rw [Int32.lt_iff_toInt_lt] at h
  rw [Int32.le_iff_toInt_le]
  omega
theorem en_no : en none = -1 := rfl
theorem en_some (n : Nat) : en (some n) = nI n := rfl
/-- out of 0 .. N - 1 -/
def Out (x : Int32) (N : Nat) : Prop := x < 0 ∨ (¬ x < 0 ∧ nI N ≤ x)
theorem ix2 (x : Int32) (n : Nat) (hn : n < 2 ^ 31) : Out x n ∨ ∃ j : Nat, j < n ∧ x = nI j := by
  rcases ix3 x n hn with h | h | h
  · exact Or.inl (Or.inl h)
  · exact Or.inl (Or.inr h)
  · exact Or.inr h
/-- a family of strips -/
def Fam (μ : Mm) (arr N cap : Nat) (sa ca : Nat → Nat) : Prop := tg μ arr = 25 ∧ ln μ arr = N ∧ N ≤ 6 ∧ cap ≤ 60 ∧ ∀ r, r < N → mP μ arr r = some (sa r) ∧ tg μ (sa r) = 9 ∧ mP μ (sa r) 0 = some (ca r) ∧ tg μ (ca r) = 21 ∧ ln μ (ca r) = cap ∧ sa r ≠ ca r
theorem LX.fr {μ : Mm} {a : Nat} (h : LX μ a) : Fam μ (a + 1) 6 40 (fun r => a + 33 + 2 * r) (fun r => a + 34 + 2 * r) := ⟨h.t1, h.n1, by decide, by decide, fun r hr => by
  obtain ⟨h1, h2, h3, h4, h5⟩ := h.row hr
  exact ⟨h1, h2, h3, h4, h5, by show a + 33 + 2 * r ≠ a + 34 + 2 * r; omega⟩⟩
theorem LX.ft {μ : Mm} {a : Nat} (h : LX μ a) : Fam μ (a + 2) 4 60 (fun r => a + 45 + 2 * r) (fun r => a + 46 + 2 * r) := ⟨h.t2, h.n2, by decide, by decide, fun r hr => by
  obtain ⟨h1, h2, h3, h4, h5⟩ := h.text hr
  exact ⟨h1, h2, h3, h4, h5, by show a + 45 + 2 * r ≠ a + 46 + 2 * r; omega⟩⟩
theorem LX.fk {μ : Mm} {a : Nat} (h : LX μ a) : Fam μ (a + 13) 3 60 (fun r => a + 53 + 2 * r) (fun r => a + 54 + 2 * r) := ⟨h.t13, h.n13, by decide, by decide, fun r hr => by
  obtain ⟨h1, h2, h3, h4, h5, -⟩ := h.kept hr
  exact ⟨h1, h2, h3, h4, h5, by show a + 53 + 2 * r ≠ a + 54 + 2 * r; omega⟩⟩
section FAM
variable {μ : Mm} {a arr N cap : Nat} {sa ca : Nat → Nat}
theorem Fam.has_bad (h : Fam μ arr N cap sa ca) {p : Int32} (hp : Out p N) : f_X11_has μ arr p = some 0 := by
  unfold f_X11_has
  rcases hp with hp | ⟨hp, hq⟩
  · rw [if_pos hp]
  · rw [if_neg hp, if_pos h.1, zI_of (by rw [h.1]; decide), Option.bind_some, h.2.1, if_pos hq]
theorem Fam.has_ok (h : Fam μ arr N cap sa ca) {r : Nat} (hr : r < N) : f_X11_has μ arr (nI r) = some 1 := by
  unfold f_X11_has
  have := h.2.2.1
  rw [if_neg (nlt0 (by omega)), if_pos h.1, zI_of (by rw [h.1]; decide), Option.bind_some, h.2.1, if_neg (nI_ge hr (by omega))]
theorem Fam.get (h : Fam μ arr N cap sa ca) {r : Nat} (hr : r < N) : aP μ arr 25 (nI r) = some (sa r) := by
  have := h.2.2.1
  exact aP_of h.1 (by rw [h.2.1]; exact hr) (by omega) (h.2.2.2.2 r hr).1
theorem there_no {s : Nat} (ht : tg μ s = 9) (hs : mI μ s 1 = -1) : f_X8_isThere μ s = some 0 := by
  unfold f_X8_isThere
  rw [if_pos ht, gI_of ht, Option.bind_some, hs, if_pos (by decide)]
theorem there_ok {s n : Nat} (ht : tg μ s = 9) (hs : mI μ s 1 = nI n) (hn : n < 2 ^ 31) : f_X8_isThere μ s = some 1 := by
  unfold f_X8_isThere
  rw [if_pos ht, gI_of ht, Option.bind_some, hs, if_neg (nlt0 hn)]
theorem Fam.refuse_bad (hL : LX μ a) (h : Fam μ arr N cap sa ca) {p : Int32} (hp : Out p N) : f_X11_refuse μ a arr p = some (-1, μ) := by
  unfold f_X11_refuse
  rw [if_pos hL.t0, h.has_bad hp, Option.bind_some, if_pos rfl]
theorem Fam.refuse_no (hL : LX μ a) (h : Fam μ arr N cap sa ca) {r : Nat} (hr : r < N) (hs : mI μ (sa r) 1 = -1) : f_X11_refuse μ a arr (nI r) = some (-3, xfind μ a 1) := by
  unfold f_X11_refuse
  rw [if_pos hL.t0, h.has_ok hr, Option.bind_some, if_neg (by decide), h.get hr, Option.bind_some, there_no (h.2.2.2.2 r hr).2.1 hs, Option.bind_some, if_pos rfl]
  show (f_X11_find μ a (nI 1)).bind _ = _
  rw [x_find hL (by decide)]
  rfl
theorem Fam.refuse_ok (hL : LX μ a) (h : Fam μ arr N cap sa ca) {r n : Nat} (hr : r < N) (hs : mI μ (sa r) 1 = nI n) (hn : n < 2 ^ 31) : f_X11_refuse μ a arr (nI r) = some (0, μ) := by
  unfold f_X11_refuse
  rw [if_pos hL.t0, h.has_ok hr, Option.bind_some, if_neg (by decide), h.get hr, Option.bind_some, there_ok (h.2.2.2.2 r hr).2.1 hs hn, Option.bind_some, if_neg (by decide)]
theorem s_has_bad {s n : Nat} (ht : tg μ s = 9) (hs : mI μ s 1 = nI n) {p : Int32} (hp : Out p n) : f_X8_has μ s p = some 0 := by
  unfold f_X8_has
  rw [if_pos ht]
  rcases hp with hp | ⟨hp, hq⟩
  · rw [if_pos hp]
  · rw [if_neg hp, gI_of ht, Option.bind_some, hs, if_pos hq]
theorem s_has_ok {s n : Nat} (ht : tg μ s = 9) (hs : mI μ s 1 = nI n) (hn : n < 2 ^ 31) {i : Nat} (hi : i < n) : f_X8_has μ s (nI i) = some 1 := by
  unfold f_X8_has
  rw [if_pos ht, if_neg (nlt0 (by omega)), gI_of ht, Option.bind_some, hs, if_neg (nI_ge hi hn)]
theorem Fam.place_bad (hL : LX μ a) (h : Fam μ arr N cap sa ca) {p i : Int32} (hp : Out p N) : f_X11_refusePlace μ a arr p i = some (-1, μ) := by
  unfold f_X11_refusePlace
  rw [if_pos hL.t0, h.refuse_bad hL hp, Option.bind_some, if_neg (show ¬ (-1 : Int32) = 0 by decide)]
theorem Fam.place_no (hL : LX μ a) (h : Fam μ arr N cap sa ca) {r : Nat} {i : Int32} (hr : r < N) (hs : mI μ (sa r) 1 = -1) : f_X11_refusePlace μ a arr (nI r) i = some (-3, xfind μ a 1) := by
  unfold f_X11_refusePlace
  rw [if_pos hL.t0, h.refuse_no hL hr hs, Option.bind_some, if_neg (show ¬ (-3 : Int32) = 0 by decide)]
theorem Fam.place_out (hL : LX μ a) (h : Fam μ arr N cap sa ca) {r n : Nat} {i : Int32} (hr : r < N) (hs : mI μ (sa r) 1 = nI n) (hn : n < 2 ^ 31) (hi : Out i n) : f_X11_refusePlace μ a arr (nI r) i = some (-3, xfind μ a 2) := by
  unfold f_X11_refusePlace
  rw [if_pos hL.t0, h.refuse_ok hL hr hs hn, Option.bind_some, if_pos rfl, h.get hr, Option.bind_some, s_has_bad (h.2.2.2.2 r hr).2.1 hs hi, Option.bind_some, if_pos rfl]
  show (f_X11_find μ a (nI 2)).bind _ = _
  rw [x_find hL (by decide)]
  rfl
theorem Fam.place_ok (hL : LX μ a) (h : Fam μ arr N cap sa ca) {r n i : Nat} (hr : r < N) (hs : mI μ (sa r) 1 = nI n) (hn : n < 2 ^ 31) (hi : i < n) : f_X11_refusePlace μ a arr (nI r) (nI i) = some (0, μ) := by
  unfold f_X11_refusePlace
  rw [if_pos hL.t0, h.refuse_ok hL hr hs hn, Option.bind_some, if_pos rfl, h.get hr, Option.bind_some, s_has_ok (h.2.2.2.2 r hr).2.1 hs hn hi, Option.bind_some, if_neg (by decide)]
/-- filling a strip -/
def fil (g : Nat → Int32) (n : Nat) (v : Int32) : Nat → Int32 := fun j => if j < n then v else g j
theorem fil_s (g : Nat → Int32) (k : Nat) (v : Int32) : upd (fil g k v) k v = fil g (k + 1) v := by
  funext j
  unfold fil
  by_cases hj : j = k
  · subst hj; rw [pk_us, if_pos (by omega)]
  · rw [pk_un hj]
    by_cases h2 : j < k
    · rw [if_pos h2, if_pos (by omega)]
    · rw [if_neg h2, if_neg (by omega)]
theorem s_open_l {s c n : Nat} {v : Int32} {g : Nat → Int32} (ht : tg μ s = 9) (hp : mP μ s 0 = some c) (hc : tg μ c = 21) (hn : n ≤ ln μ c) (hs : mI μ s 1 = nI n) (hsc : s ≠ c) (hn2 : n < 2 ^ 31) : ∀ (f k : Nat), k ≤ n → n < k + f → lp_X8_open_19 f s v (nI k) (sR μ c (fil g k v)) = some (sR μ c (fil g n v)) := by
  intro f
  induction f with
  | zero => intro k h1 h2; omega
  | succ f ih =>
    intro k h1 h2
    rw [lp_X8_open_19, gI_of (μ := sR μ c (fil g k v)) ht, Option.bind_some, mR_ne hsc, hs]
    by_cases hk : k = n
    · subst hk
      rw [if_pos (nI_le (Nat.le_refl _) hn2)]
    · rw [if_neg (nI_ge (by omega) hn2), gP_of (μ := sR μ c (fil g k v)) ht hp, Option.bind_some, qI_of (μ := sR μ c (fil g k v)) hc (show k < ln μ c by omega) (by omega), Option.bind_some, sI_sRg, fil_s, nI_1]
      exact ih (k + 1) (by omega) (by omega)
theorem s_open {s c cap n : Nat} {v : Int32} (ht : tg μ s = 9) (hp : mP μ s 0 = some c) (hc : tg μ c = 21) (hcap : ln μ c = cap) (hc6 : cap ≤ 60) (hsc : s ≠ c) (hn : n ≤ cap) : f_X8_open μ s (nI n) v = some (sR (sI μ s 1 (nI n)) c (fil (mI μ c) n v)) := by
  unfold f_X8_open
  rw [if_pos ht, gP_of ht hp, Option.bind_some, if_pos hc, zI_of (by rw [hc]; decide), Option.bind_some, hcap]
  have e1 : (if nI cap < nI n then nI cap else nI n) = nI n := if_neg (nI_nlt hn (by omega))
  have e2 : (if (0 : Int32) < nI n then nI n else 0) = nI n := by
    by_cases h0 : n = 0
    · subst h0; rfl
    · exact if_pos (nI_lt (a := 0) (by omega) (by omega))
  rw [e1, e2, pI_of ht, Option.bind_some]
  have hg : sI μ s 1 (nI n) = sR (sI μ s 1 (nI n)) c (fil (mI μ c) 0 v) := by
    have : fil (mI μ c) 0 v = mI (sI μ s 1 (nI n)) c := by
      funext j
      rw [mI_ne hsc.symm]
      rfl
    rw [this, sR_self]
  rw [hg]
  have := s_open_l (μ := sI μ s 1 (nI n)) (s := s) (c := c) (n := n) (v := v) (g := mI μ c) ht hp hc (by show n ≤ ln μ c; omega) mI_eq hsc (by omega) BIG 0 (by omega) (by unfold BIG; omega)
  show (lp_X8_open_19 BIG s v (nI 0) _).bind _ = _
  rw [this, ← hg]
  rfl
theorem Fam.open_bad (hL : LX μ a) (h : Fam μ arr N cap sa ca) {p q v : Int32} (hp : Out p N) : f_X11_open μ a arr p q v = some (-1, μ) := by
  unfold f_X11_open
  rw [if_pos hL.t0, h.has_bad hp, Option.bind_some, if_pos rfl]
theorem Fam.open_big (hL : LX μ a) (h : Fam μ arr N cap sa ca) {r : Nat} {q v : Int32} (hr : r < N) (hq : nI (cap + 1) ≤ q) : f_X11_open μ a arr (nI r) q v = some (-1, μ) := by
  unfold f_X11_open
  obtain ⟨h1, h2, h3, h4, h5, h6⟩ := h.2.2.2.2 r hr
  have := h.2.2.2.1
  rw [if_pos hL.t0, h.has_ok hr, Option.bind_some, if_neg (by decide), h.get hr, Option.bind_some, gP_of h2 h3, Option.bind_some, if_pos h4, zI_of (by rw [h4]; decide), Option.bind_some, h5, if_neg (i_big hq (by omega) (by omega))]
theorem Fam.open_neg (hL : LX μ a) (h : Fam μ arr N cap sa ca) {r : Nat} {q v : Int32} (hr : r < N) (hq : q < 0) : f_X11_open μ a arr (nI r) q v = some (-3, xfind μ a 5) := by
  unfold f_X11_open
  obtain ⟨h1, h2, h3, h4, h5, h6⟩ := h.2.2.2.2 r hr
  have := h.2.2.2.1
  rw [if_pos hL.t0, h.has_ok hr, Option.bind_some, if_neg (by decide), h.get hr, Option.bind_some, gP_of h2 h3, Option.bind_some, if_pos h4, zI_of (by rw [h4]; decide), Option.bind_some, h5, if_pos (i_neg_le hq (by omega)), if_neg (i_neg hq)]
  show (f_X11_find μ a (nI 5)).bind _ = _
  rw [x_find hL (by decide)]
  rfl
theorem Fam.open_ok (hL : LX μ a) (h : Fam μ arr N cap sa ca) {r n : Nat} {v : Int32} (hr : r < N) (hn : n ≤ cap) : f_X11_open μ a arr (nI r) (nI n) v = some (nI n, sR (sI μ (sa r) 1 (nI n)) (ca r) (fil (mI μ (ca r)) n v)) := by
  unfold f_X11_open
  obtain ⟨h1, h2, h3, h4, h5, h6⟩ := h.2.2.2.2 r hr
  have := h.2.2.2.1
  rw [if_pos hL.t0, h.has_ok hr, Option.bind_some, if_neg (by decide), h.get hr, Option.bind_some, gP_of h2 h3, Option.bind_some, if_pos h4, zI_of (by rw [h4]; decide), Option.bind_some, h5, if_pos (nI_le hn (by omega)), if_pos (i_pos (by omega)), Option.bind_some, s_open h2 h3 h4 h5 this h6 hn]
  rfl
end FAM
