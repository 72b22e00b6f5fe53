/-! ===== steps: the class's side ===== -/
theorem gP_sI (μ : Mm) (b k : Nat) (v : Int32) (a t j : Nat) : gP (sI μ b k v) a t j = gP μ a t j := rfl
theorem aP_sI (μ : Mm) (b k : Nat) (v : Int32) (a t : Nat) (i : Int32) : aP (sI μ b k v) a t i = aP μ a t i := rfl
theorem gL_sI (μ : Mm) (b k : Nat) (v : Int32) (a t j : Nat) : gL (sI μ b k v) a t j = gL μ a t j := rfl
theorem gI_e {μ : Mm} {a t k : Nat} {v : Int32} (h : tg μ a = t) (hv : mI μ a k = v) : gI μ a t k = some v := (if_pos h).trans (congrArg some hv)
/-- what a hall is made of, and its numbers: guilds, teeth, rents, how many, kinds, feet; where the guilds lie; the numbers; the walks -/
def XS (n te : Nat) (rs : Int64) (rm : Nat) (kd ft : Nat → Nat) (gb : Nat) (q : Rst) (wk : Nat) (μ : Mm) (a : Nat) : Prop := mI μ (a + 3) 2 = nI n ∧ mI μ (a + 3) 3 = nI te ∧ mI μ (a + 3) 4 = nI rm ∧ mL μ (a + 3) 11 = rs ∧ mI μ (a + 3) 5 = nI q.1 ∧ mI μ (a + 3) 6 = nI q.2.1 ∧ mI μ (a + 3) 7 = nI q.2.2.1 ∧ mI μ (a + 3) 8 = nI q.2.2.2.1 ∧ mI μ (a + 3) 9 = nI wk ∧ mI μ (a + 3) 10 = nI q.2.2.2.2.1 ∧ a + 61 ≤ gb ∧ gb + n ≤ hz μ ∧ ∀ g, g < n → mP μ (a + 4) g = some (gb + g) ∧ tg μ (gb + g) = ktg (kd g) ∧ mI μ (gb + g) 0 = nI (ft g) ∧ mI μ (gb + g) 1 = nI (q.2.2.2.2.2 g)
/-- the steps taken -/
def XP (sp : List Nat) (μ : Mm) (a : Nat) : Prop := mI μ (a + 5) 1 = nI sp.length ∧ ∀ i, i < sp.length → mI μ (a + 6) i = nI (sp.getD i 0)
theorem XH_iff (h : GH) (μ : Mm) (a : Nat) : XH h μ a ↔ ∃ gb, XS h.n h.te h.rs h.rm h.kd h.ft gb h.q (wks h.sp) μ a ∧ XP h.sp μ a := by
  constructor
  · rintro ⟨g1, g2, g3, g4, g5, g6, g7, g8, g9, g10, g11, g12, gb, k1, k2, k3⟩
    exact ⟨gb, ⟨g1, g2, g3, g10, g4, g5, g6, g7, g8, g9, k1, k2, k3⟩, g11, g12⟩
  · rintro ⟨gb, ⟨g1, g2, g3, g10, g4, g5, g6, g7, g8, g9, k1, k2, k3⟩, g11, g12⟩
    exact ⟨g1, g2, g3, g4, g5, g6, g7, g8, g9, g10, g11, g12, gb, k1, k2, k3⟩
theorem l_wrap {μ : Mm} {s te x : Nat} (ht : tg μ s = 4) (hte : mI μ s 3 = nI te) (t1 : 12 ≤ te) (t2 : te ≤ 60) (hx : x < 2 ^ 31) : f_X3_wrap μ s (nI x) = some (nI (x % te)) := by
  simp (config := { decide := true }) only [↓reduceIte, Option.bind_some, Option.bind_none, f_X3_wrap, ht, gI_e ht hte, rem_te hx t1 t2]
theorem l_byTeeth {μ : Mm} {s te x : Nat} (ht : tg μ s = 4) (hte : mI μ s 3 = nI te) (t1 : 12 ≤ te) (t2 : te ≤ 60) (hx : x < 2 ^ 31) : f_X3_byTeeth μ s (nI x) = some (nI (x / te)) := by
  have e1 : (1 : Int32) ≤ nI te := (show nI 1 ≤ nI te from nI_le (by omega) (by omega))
  have e2 : ¬ nI te = 0 := nI_ne0 (by omega) (by omega)
  simp (config := { decide := true }) only [↓reduceIte, Option.bind_some, Option.bind_none, f_X3_byTeeth, ht, gI_e ht hte, e1, e2, pk_div hx (show 0 < te by omega) (show te < 2 ^ 31 by omega)]
theorem l_rentAt {μ : Mm} {s te t : Nat} {rs : Int64} (ht : tg μ s = 4) (hte : mI μ s 3 = nI te) (hrs : mL μ s 11 = rs) (t2 : te ≤ 60) (hx : t < te) : f_X3_hasRentAt μ s (nI t) = some (nI (b1 (isr rs t))) := by
  have e := rentU (rs := rs) (show t < 64 by omega)
  have e1 : ¬ nI t < 0 := nI_pos (by omega)
  have e2 : ¬ nI te ≤ nI t := nI_ge hx (by omega)
  have eT : f_X3_hasTooth μ s (nI t) = some 1 := by simp (config := { decide := true }) only [↓reduceIte, Option.bind_some, Option.bind_none, f_X3_hasTooth, ht, gI_e ht hte, e1, e2]
  have eL : gL μ s 4 11 = some rs := by rw [← hrs]; exact gL_of ht
  cases hb : isr rs t with
  | true =>
    have e' : ¬ lg_cmp ((rs.toUInt64 >>> ((nI t).toInt64.toUInt64 &&& Int64.toUInt64 63)).toInt64 &&& (1 : Int64)) (0 : Int64) = 0 := fun q => by rw [e, hb] at q; cases q
    simp (config := { decide := true }) only [↓reduceIte, Option.bind_some, Option.bind_none, f_X3_hasRentAt, ht, eT, eL, e'] <;> rfl
  | false =>
    have e' := e.mpr hb
    simp (config := { decide := true }) only [↓reduceIte, Option.bind_some, Option.bind_none, f_X3_hasRentAt, ht, eT, eL, e'] <;> rfl
/-- what a step needs -/
def Wst (n te : Nat) (kd ft : Nat → Nat) : Prop := n ≤ 6 ∧ 12 ≤ te ∧ te ≤ 60 ∧ ∀ g, g < n → kd g < 6 ∧ 1 ≤ ft g ∧ ft g ≤ 9
/-- the numbers stay small -/
def Sml (te : Nat) (q : Rst) : Prop := q.1 < te ∧ q.2.1 < 2 ^ 20 ∧ q.2.2.1 ≤ 2 ∧ q.2.2.2.1 < 2 ^ 20 ∧ q.2.2.2.2.1 < 2 ^ 20 ∧ ∀ g, q.2.2.2.2.2 g < 2 ^ 20
theorem x_step {n te rm gb wk s a : Nat} {rs : Int64} {kd ft : Nat → Nat} {q : Rst} {μ : Mm} (hL : LX μ a) (hS : XS n te rs rm kd ft gb q wk μ a) (hw : Wst n te kd ft) (hq : Sml te q) (hs : s < 9) (hsn : s < 6 → s < n) : ∃ μ', f_X3_takeStep μ (a + 3) (nI s) = some μ' ∧ LX μ' a ∧ XS n te rs rm kd ft gb (stp te rs kd ft q s) (wk + (if s < 6 then 1 else 0)) μ' a ∧ (∀ b, b ≠ a + 3 → (b < gb ∨ gb + n ≤ b) → Sm μ μ' b) ∧ hz μ' = hz μ ∧ (∀ b, tg μ' b = tg μ b) := by
  obtain ⟨g1, g2, g3, g4, g5, g6, g7, g8, g9, g10, k1, k2, k3⟩ := hS
  obtain ⟨n6, t1, t2, hkf⟩ := hw
  obtain ⟨b1', b2, b3, b4, b5, b6⟩ := hq
  have ht := hL.t3
  by_cases h6 : s < 6
  · obtain ⟨p1, p2, p3, p4⟩ := k3 s (hsn h6)
    obtain ⟨w3, w4, w5⟩ := hkf s (hsn h6)
    have e6 : nI s < 6 := (show nI s < nI 6 from nI_lt h6 (by decide))
    have hgt := ktg_gt w3
    rw [← p2] at hgt
    have e1 : ¬ nI s < 0 := nI_pos (by omega)
    have e2 : ¬ nI n ≤ nI s := nI_ge (hsn h6) (by omega)
    have eG : f_X3_hasGuild μ (a + 3) (nI s) = some 1 := by simp (config := { decide := true }) only [↓reduceIte, Option.bind_some, Option.bind_none, f_X3_hasGuild, ht, gI_e ht g1, e1, e2]
    have eP : aP μ (a + 4) 24 (nI s) = some (gb + s) := aP_of hL.t4 (by rw [hL.n4]; omega) (by omega) p1
    have htr := trd_le (kd := kd) (fl := q.2.2.1) w5
    generalize htd : trd kd ft q.2.2.1 s = tr at *
    have eT : f_X2_treadOn μ (gb + s) (nI q.2.2.1) = some (nI tr) := by
      rw [g_treadOn p2 w3 p3 w4 w5 b3, ← htd]; rfl
    have hmod := Nat.mod_lt (q.1 + tr) (show 0 < te by omega)
    have hdv : (q.1 + tr) / te ≤ q.1 + tr := Nat.div_le_self _ _
    have eBT := l_byTeeth ht g2 t1 t2 (show q.1 + tr < 2 ^ 31 by omega)
    have eW := l_wrap (μ := sI μ (a + 3) 6 (nI (q.2.1 + (q.1 + tr) / te))) (s := a + 3) (te := te) ht (by rw [mI_nk (by decide)]; exact g2) t1 t2 (show q.1 + tr < 2 ^ 31 by omega)
    have eR := l_rentAt (μ := sI (sI μ (a + 3) 6 (nI (q.2.1 + (q.1 + tr) / te))) (a + 3) 5 (nI ((q.1 + tr) % te))) (s := a + 3) (te := te) (rs := rs) ht (by rw [mI_nk (by decide), mI_nk (by decide)]; exact g2) g4 t2 hmod
    refine ⟨sI (sI (sI (sI (sI (sI μ (a + 3) 6 (nI (q.2.1 + (q.1 + tr) / te))) (a + 3) 5 (nI ((q.1 + tr) % te))) (a + 3) 8 (nI (q.2.2.2.1 + b1 (isr rs ((q.1 + tr) % te))))) (a + 3) 9 (nI (wk + 1))) (a + 3) 10 (nI (q.2.2.2.2.1 + tr))) (gb + s) 1 (nI (q.2.2.2.2.2 s + 1)), ?_, hL, ?_, ?_, rfl, fun b => rfl⟩
    · have hne : ¬ gb + s = a + 3 := by omega
      cases hb : isr rs ((q.1 + tr) % te) with
      | true =>
        rw [hb] at eR
        have eR' : f_X3_hasRentAt _ (a + 3) (nI ((q.1 + tr) % te)) = some 1 := eR
        simp (config := { decide := true }) only [↓reduceIte, Option.bind_some, Option.bind_none, f_X3_takeStep, ht, e6, eG, f_X3_takeWalk, gP_of ht hL.p3_0, eP, gI_e ht g7, eT, gI_e ht g5, gI_e ht g6, nI_add, eBT, pI_of ht, eW, gI, pI, gG, pG, tg_sI, mI_sI, gP_sI, aP_sI, eR', g5, g6, g7, g8, g9, g10, p4, hgt, hne, and_true, and_false, true_and, false_and, and_self, nI_1] <;> rfl
      | false =>
        rw [hb] at eR
        have eR' : f_X3_hasRentAt _ (a + 3) (nI ((q.1 + tr) % te)) = some 0 := eR
        simp (config := { decide := true }) only [↓reduceIte, Option.bind_some, Option.bind_none, f_X3_takeStep, ht, e6, eG, f_X3_takeWalk, gP_of ht hL.p3_0, eP, gI_e ht g7, eT, gI_e ht g5, gI_e ht g6, nI_add, eBT, pI_of ht, eW, gI, pI, gG, pG, tg_sI, mI_sI, gP_sI, aP_sI, eR', g5, g6, g7, g8, g9, g10, p4, hgt, hne, and_true, and_false, true_and, false_and, and_self, nI_1, nI_z] <;> rfl
    · unfold stp
      rw [if_pos h6, if_pos h6, htd]
      have r : ∀ k, k ≠ 5 → k ≠ 6 → k ≠ 8 → k ≠ 9 → k ≠ 10 → mI (sI (sI (sI (sI (sI (sI μ (a + 3) 6 (nI (q.2.1 + (q.1 + tr) / te))) (a + 3) 5 (nI ((q.1 + tr) % te))) (a + 3) 8 (nI (q.2.2.2.1 + b1 (isr rs ((q.1 + tr) % te))))) (a + 3) 9 (nI (wk + 1))) (a + 3) 10 (nI (q.2.2.2.2.1 + tr))) (gb + s) 1 (nI (q.2.2.2.2.2 s + 1))) (a + 3) k = mI μ (a + 3) k := fun k z1 z2 z3 z4 z5 => by
        rw [mI_ne (by omega), mI_nk z5, mI_nk z4, mI_nk z3, mI_nk z1, mI_nk z2]
      refine ⟨(r 2 (by decide) (by decide) (by decide) (by decide) (by decide)).trans g1, (r 3 (by decide) (by decide) (by decide) (by decide) (by decide)).trans g2, (r 4 (by decide) (by decide) (by decide) (by decide) (by decide)).trans g3, g4, ?_, ?_, (r 7 (by decide) (by decide) (by decide) (by decide) (by decide)).trans g7, ?_, ?_, ?_, k1, k2, fun g hg => ?_⟩
      · rw [mI_ne (by omega), mI_nk (by decide), mI_nk (by decide), mI_nk (by decide), mI_eq]
      · rw [mI_ne (by omega), mI_nk (by decide), mI_nk (by decide), mI_nk (by decide), mI_nk (by decide), mI_eq]
      · rw [mI_ne (by omega), mI_nk (by decide), mI_nk (by decide), mI_eq]
      · rw [mI_ne (by omega), mI_nk (by decide), mI_eq]
      · rw [mI_ne (by omega), mI_eq]
      · obtain ⟨u1', u2', u3, u4⟩ := k3 g hg
        refine ⟨u1', u2', ?_, ?_⟩
        · rw [mI_nk (by decide), mI_ne (by omega), mI_ne (by omega), mI_ne (by omega), mI_ne (by omega), mI_ne (by omega)]; exact u3
        · show _ = nI (u1 q.2.2.2.2.2 s (q.2.2.2.2.2 s + 1) g)
          unfold u1
          by_cases e : g = s
          · subst e; rw [if_pos rfl, mI_eq]
          · rw [if_neg e, mI_ne (by omega), mI_ne (by omega), mI_ne (by omega), mI_ne (by omega), mI_ne (by omega), mI_ne (by omega)]; exact u4
    · intro b hb hb2
      exact ((((((Sm.rf μ b).sI hb).sI hb).sI hb).sI hb).sI hb).sI (by have := hsn h6; omega)
  · have e6 : ¬ nI s < 6 := (show ¬ nI s < nI 6 from nI_nlt (by omega) (by omega))
    have es : nI s - 6 = nI (s - 6) := pk_sub (b := 6) (by omega)
    refine ⟨sI μ (a + 3) 7 (nI (s - 6)), ?_, hL, ?_, fun b hb _ => (Sm.rf μ b).sI hb, rfl, fun b => rfl⟩
    · simp (config := { decide := true }) only [↓reduceIte, Option.bind_some, Option.bind_none, f_X3_takeStep, ht, e6, pI_of ht, es]
    · unfold stp
      rw [if_neg h6, if_neg h6]
      refine ⟨(mI_nk (by decide)).trans g1, (mI_nk (by decide)).trans g2, (mI_nk (by decide)).trans g3, g4, (mI_nk (by decide)).trans g5, (mI_nk (by decide)).trans g6, mI_eq, (mI_nk (by decide)).trans g8, (mI_nk (by decide)).trans g9, (mI_nk (by decide)).trans g10, k1, k2, fun g hg => ?_⟩
      obtain ⟨u1', u2', u3, u4⟩ := k3 g hg
      exact ⟨u1', u2', (mI_ne (by omega)).trans u3, (mI_ne (by omega)).trans u4⟩
