/-! ===== lay ===== -/
theorem xf1 {μ : Mm} {a : Nat} (hL : LX μ a) : f_X11_find μ a 1 = some (-3, xfind μ a 1) := x_find hL (by decide)
theorem xf2 {μ : Mm} {a : Nat} (hL : LX μ a) : f_X11_find μ a 2 = some (-3, xfind μ a 2) := x_find hL (by decide)
theorem xf3 {μ : Mm} {a : Nat} (hL : LX μ a) : f_X11_find μ a 3 = some (-3, xfind μ a 3) := x_find hL (by decide)
theorem xf4 {μ : Mm} {a : Nat} (hL : LX μ a) : f_X11_find μ a 4 = some (-3, xfind μ a 4) := x_find hL (by decide)
theorem xf5 {μ : Mm} {a : Nat} (hL : LX μ a) : f_X11_find μ a 5 = some (-3, xfind μ a 5) := x_find hL (by decide)
theorem pred1 {n : Nat} (h : 0 < n) : nI n - 1 = nI (n - 1) := by
  obtain ⟨m, rfl⟩ : ∃ m, n = m + 1 := ⟨n - 1, by omega⟩
  exact nI_pred m
/-! ===== lay, at, tear, mean ===== -/
theorem s_replace_ok {μ : Mm} {s c n i : Nat} {v : Int32} (ht : tg μ s = 9) (hp : mP μ s 0 = some c) (hc : tg μ c = 21) (hs : mI μ s 1 = nI n) (hn : n ≤ ln μ c) (hn2 : n < 2 ^ 31) (hi : i < n) : f_X8_replace μ s (nI i) v = some (mI μ c i, sI μ c i v) := by
  unfold f_X8_replace
  rw [if_pos ht, s_has_ok ht hs hn2 hi, Option.bind_some, if_neg (by decide), gP_of ht hp, Option.bind_some, aI_of hc (by omega) (by omega), Option.bind_some, Option.bind_some, qI_of hc (by omega) (by omega)]
  rfl
theorem rset_one {R T : GR} {F : GF} {h : GH} {K : GK} {μ : Mm} {a r n i : Nat} {v : Int32} (H : XI R T F h K μ a) (hr : r < 6) (hn : R.1 r = some n) : XI (setr R r (some n) (upd (R.2 r) i v)) T F h K (sI μ (a + 34 + 2 * r) i v) a := by
  refine H.rset hr (fun b h1 h2 _ => (Sm.rf μ b).sI h2) H.1 ?_ ?_ (Nat.le_refl _)
  · rw [mI_ne (by omega), (H.2.1 r hr).1, hn]
  · intro m hm j hj
    cases hm
    by_cases e : j = i
    · subst e; rw [mI_eq, pk_us]
    · rw [mI_nk e, pk_un e]; exact (H.2.1 r hr).2 n hn j hj