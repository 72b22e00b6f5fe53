/-! ===== shoe, keep, on ===== -/
theorem XS.ftset {n te rm gb wk a g f : Nat} {rs : Int64} {kd ft : Nat → Nat} {q : Rst} {μ : Mm} (hS : XS n te rs rm kd ft gb q wk μ a) (hg : g < n) : XS n te rs rm kd (fun x => if x = g then f else ft x) gb q wk (sI μ (gb + g) 0 (nI f)) a := by
  obtain ⟨g1, g2, g3, g4, g5, g6, g7, g8, g9, g10, k1, k2, k3⟩ := hS
  have r : ∀ j, mI (sI μ (gb + g) 0 (nI f)) (a + 3) j = mI μ (a + 3) j := fun j => mI_ne (by omega)
  refine ⟨(r _).trans g1, (r _).trans g2, (r _).trans g3, g4, (r _).trans g5, (r _).trans g6, (r _).trans g7, (r _).trans g8, (r _).trans g9, (r _).trans g10, k1, k2, fun x hx => ?_⟩
  obtain ⟨u1', u2', u3, u4⟩ := k3 x hx
  refine ⟨u1', u2', ?_, (mI_nk (by decide)).trans u4⟩
  show _ = nI (if x = g then f else ft x)
  by_cases e : x = g
  · subst e; rw [if_pos rfl, mI_eq]
  · rw [if_neg e, mI_ne (by omega)]; exact u3
theorem WH.wft {h : GH} (w : WH h) (h0 : ¬ h.n = 0) {ft : Nat → Nat} {sp : List Nat} (hs : spok h.n sp) (hf : ∀ g, g < h.n → 1 ≤ ft g ∧ ft g ≤ 9) : WH (h.wft ft sp) := by
  obtain ⟨w1, w2, w3, w4⟩ := w
  refine ⟨w1, ?_, fun g hg => ⟨(w3 g hg).1, hf g hg⟩, hs⟩
  rcases w2 with ⟨n0, -⟩ | w2
  · exact absurd n0 h0
  · exact Or.inr w2
theorem u1_eq {α : Type} {f : Nat → α} {k : Nat} {v : α} : u1 f k v k = v := if_pos rfl
theorem u1_ne {α : Type} {f : Nat → α} {k j : Nat} {v : α} (h : j ≠ k) : u1 f k v j = f j := if_neg h
/-- a strip laid over another -/
theorem s_takeFrom_l {μ : Mm} {s p cs cp n : Nat} {g : Nat → Int32} (h1 : tg μ s = 9) (h2 : mP μ s 0 = some cs) (h3 : tg μ cs = 21) (h4 : n ≤ ln μ cs) (h5 : tg μ p = 9) (h6 : mP μ p 0 = some cp) (h7 : tg μ cp = 21) (h8 : n ≤ ln μ cp) (hn : n ≤ 60) (hs : mI μ s 1 = nI n) (hsc : s ≠ cs) (hcc : cp ≠ cs) : ∀ (f k : Nat), k ≤ n → n < k + f → lp_X8_takeFrom_18 f s p (nI k) (sR μ cs (filf g k (mI μ cp))) = some (sR μ cs (filf g n (mI μ cp))) := by
  intro f
  induction f with
  | zero => intro k q1 q2; omega
  | succ f ih =>
    intro k q1 q2
    have es : gI (sR μ cs (filf g k (mI μ cp))) s 9 1 = some (nI n) := gI_e h1 (by rw [mR_ne hsc]; exact hs)
    by_cases hk : k = n
    · have e : nI n ≤ nI k := by rw [hk]; exact Int32.le_refl _
      simp (config := { decide := true }) only [↓reduceIte, Option.bind_some, Option.bind_none, lp_X8_takeFrom_18, es, e]
      rw [hk]
    · have e : ¬ nI n ≤ nI k := nI_ge (by omega) (by omega)
      have ea : aI (sR μ cs (filf g k (mI μ cp))) cp 21 (nI k) = some (mI μ cp k) := by
        rw [aI_of (μ := sR μ cs (filf g k (mI μ cp))) h7 (show k < ln μ cp by omega) (by omega), mR_ne hcc]
      simp (config := { decide := true }) only [↓reduceIte, Option.bind_some, Option.bind_none, lp_X8_takeFrom_18, es, e, gP_of (μ := sR μ cs (filf g k (mI μ cp))) h1 h2, gP_of (μ := sR μ cs (filf g k (mI μ cp))) h5 h6, ea, qI_of (μ := sR μ cs (filf g k (mI μ cp))) (i := k) h3 (show k < ln μ cs by omega) (show k < 2 ^ 31 by omega)]
      rw [sI_sRg, filf_s, nI_1]
      exact ih (k + 1) (by omega) (by omega)
theorem s_takeFrom {μ : Mm} {s p cs cp n : Nat} (h1 : tg μ s = 9) (h2 : mP μ s 0 = some cs) (h3 : tg μ cs = 21) (h4 : ln μ cs = 60) (h5 : tg μ p = 9) (h6 : mP μ p 0 = some cp) (h7 : tg μ cp = 21) (h8 : ln μ cp = 60) (hn : n ≤ 60) (hp : mI μ p 1 = nI n) (hsc : s ≠ cs) (hcc : cp ≠ cs) (hcs : cp ≠ s) : f_X8_takeFrom μ s p = some (sR (sI μ s 1 (nI n)) cs (filf (mI μ cs) n (mI μ cp))) := by
  have e := s_takeFrom_l (μ := sI μ s 1 (nI n)) (g := mI μ cs) h1 h2 h3 (by show n ≤ ln μ cs; omega) h5 h6 h7 (by show n ≤ ln μ cp; omega) hn mI_eq hsc hcc BIG 0 (by omega) (by unfold BIG; omega)
  have e1 : mI (sI μ s 1 (nI n)) cp = mI μ cp := funext fun j => mI_ne hcs
  have e2 : mI (sI μ s 1 (nI n)) cs = mI μ cs := funext fun j => mI_ne hsc.symm
  rw [e1, filf_0, ← e2, sR_self, e2] at e
  have e' : lp_X8_takeFrom_18 BIG s p 0 (sI μ s 1 (nI n)) = _ := e
  have ez : zI μ cs = some (nI 60) := by rw [zI_of (by rw [h3]; decide), h4]
  have em : (if nI 60 < nI n then nI 60 else nI n) = nI n := if_neg (nI_nlt hn (by decide))
  simp (config := { decide := true }) only [↓reduceIte, Option.bind_some, Option.bind_none, f_X8_takeFrom, h1, gI_e h5 hp, gP_of h1 h2, h3, ez, em, pI_of h1, e']
theorem x_tell_l {n te rm gb wk a b : Nat} {rs : Int64} {kd ft : Nat → Nat} {q : Rst} {μ : Mm} {g0 : Nat → Int32} (hL : LX μ a) (hS : XS n te rs rm kd ft gb q wk μ a) (n6 : n ≤ 6) (hkd : ∀ g, g < n → kd g < 6) (hb1 : tg μ b = 21) (hb2 : ln μ b = 6) (hba : b < a + 59) (hba3 : b ≠ a + 3) : ∀ (f k : Nat), k ≤ n → n < k + f → lp_X3_tellFeet_2 f (a + 3) b (nI k) (sR μ b (filf g0 k (fun x => nI (ft x)))) = some (sR μ b (filf g0 n (fun x => nI (ft x)))) := by
  obtain ⟨g1, g2, g3, g4, g5, g6, g7, g8, g9, g10, k1, k2, k3⟩ := hS
  intro f
  induction f with
  | zero => intro k q1 q2; omega
  | succ f ih =>
    intro k q1 q2
    have hL' : LX (sR μ b (filf g0 k (fun x => nI (ft x)))) a := hL
    have es : gI (sR μ b (filf g0 k (fun x => nI (ft x)))) (a + 3) 4 2 = some (nI n) := gI_e hL'.t3 (by rw [mR_ne (fun z => hba3 z.symm)]; exact g1)
    by_cases hk : k = n
    · have e : nI n ≤ nI k := by rw [hk]; exact Int32.le_refl _
      simp (config := { decide := true }) only [↓reduceIte, Option.bind_some, Option.bind_none, lp_X3_tellFeet_2, es, e]
      rw [hk]
    · have e : ¬ nI n ≤ nI k := nI_ge (by omega) (by omega)
      obtain ⟨p1, p2, p3, p4⟩ := k3 k (by omega)
      have hgt := ktg_gt (hkd k (by omega))
      rw [← p2] at hgt
      have ez : zI (sR μ b (filf g0 k (fun x => nI (ft x)))) b = some (nI 6) := by
        rw [zI_of (by show 20 ≤ tg μ b; rw [hb1]; decide)]
        show some (nI (ln μ b)) = _
        rw [hb2]
      have e6 : ¬ nI 6 ≤ nI k := nI_ge (by omega) (by decide)
      have eP : aP (sR μ b (filf g0 k (fun x => nI (ft x)))) (a + 4) 24 (nI k) = some (gb + k) := aP_of hL'.t4 (by rw [hL'.n4]; omega) (by omega) p1
      have eG : gG (sR μ b (filf g0 k (fun x => nI (ft x)))) (gb + k) 0 = some (nI (ft k)) := (if_pos hgt).trans (congrArg some ((mR_ne (by omega)).trans p3))
      have eb : tg (sR μ b (filf g0 k (fun x => nI (ft x)))) b = 21 := hb1
      simp (config := { decide := true }) only [↓reduceIte, Option.bind_some, Option.bind_none, lp_X3_tellFeet_2, es, e, eb, ez, e6, gP_of hL'.t3 hL'.p3_0, eP, eG, qI_of (i := k) eb (show k < ln μ b by omega) (show k < 2 ^ 31 by omega)]
      rw [sI_sRg, filf_s g0 k (fun x => nI (ft x)), nI_1]
      exact ih (k + 1) (by omega) (by omega)
