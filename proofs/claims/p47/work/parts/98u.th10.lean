/-- the law's body, step by step -/
theorem law_eval {sc : SC} {μ0 μ1 μ1a μ2 μ3 μ4 μ5 μ6 μ7 μ8 μ9 μ10 μ11 μ12 μ13 μ14 : Mm} {b bs u v : Nat} {N S ans : Int32} {dg : Int64} (hz0 : hz μ0 = bs) (i1 : f_X11_init (nw μ0 12 0) bs = some μ1) (a1 : nA μ1 21 24 24 = some (u, μ1a)) (a2 : nA μ1a 21 12 12 = some (v, μ2)) (y3 : f_L_numbers sc μ2 b 10 5 30 u = some μ3) (y4 : f_L_hall μ3 bs u = some (1, μ4)) (y5 : f_X11_keep μ4 bs 0 = some (0, μ5)) (y6 : f_X11_digest μ5 bs = some dg) (e0 : aI μ5 u 21 0 = some N) (y7 : lp_L_law_63 sc BIG b bs u v dg N 0 0 μ5 = some (1, S, μ6)) (x1 : f_L_ordered sc μ6 bs b N S = some (1, μ7)) (x2 : f_L_cheapest μ7 bs N S = some (1, μ8)) (x3 : f_L_fewest sc μ8 bs b N S = some (1, μ9)) (x4 : f_L_fitted sc μ9 bs b N S = some (1, μ10)) (x5 : f_L_again sc μ10 bs b N S = some (1, μ11)) (x6 : f_L_chances sc μ11 bs b = some (1, μ12)) (x7 : f_X11_tear μ12 bs 1 = some (ans, μ13)) (hne : ¬ ans = -1) (x8 : f_X11_undo μ13 bs 0 = some (S, μ14)) (x9 : f_X11_digest μ14 bs = some dg) : f_L_law sc μ0 b = some (1, μ14) := by
  have c1 : lg_cmp dg dg = 0 := (lg_cmp_eq _ _).mpr rfl
  subst hz0
  have n1 : ¬ (1 : Int32) = 0 := by decide
  have m1 : ¬ (1 : Nat) = 0 := by decide
  have p0 : (0 : Int32) = 0 := rfl
  have pS : S = S := rfl
  unfold f_L_law
  rw [i1]
  rw [Option.bind_some]
  rw [a1]
  rw [Option.bind_some]
  rw [a2]
  rw [Option.bind_some]
  rw [y3]
  rw [Option.bind_some]
  rw [y4]
  rw [Option.bind_some]
  rw [if_neg n1]
  rw [y5]
  rw [Option.bind_some]
  rw [if_pos p0]
  rw [y6]
  rw [Option.bind_some]
  rw [e0]
  rw [Option.bind_some]
  rw [y7]
  rw [Option.bind_some]
  rw [if_neg m1]
  rw [x1]
  rw [Option.bind_some]
  rw [if_neg n1]
  rw [x2]
  rw [Option.bind_some]
  rw [if_neg n1]
  rw [x3]
  rw [Option.bind_some]
  rw [if_neg n1]
  rw [x4]
  rw [Option.bind_some]
  rw [if_neg n1]
  rw [x5]
  rw [Option.bind_some]
  rw [if_neg n1]
  rw [x6]
  rw [Option.bind_some]
  rw [if_neg n1]
  rw [x7]
  rw [Option.bind_some]
  rw [if_neg hne]
  rw [x8]
  rw [Option.bind_some]
  rw [if_pos pS]
  rw [x9]
  rw [Option.bind_some]
  rw [if_pos c1]
theorem LAW_holds : LAW := by
  intro b L bs xs hL hb
  obtain ⟨μ1, i1, i2, H0⟩ := INIT_X bs
  have hz0 : hz (mt bs) = bs := rfl
  have a1 : nA μ1 21 24 24 = some (bs + 59, nw μ1 21 24) := by
    rw [← i2]
    exact if_pos ⟨by decide, by decide⟩
  have a2 : nA (nw μ1 21 24) 21 12 12 = some (bs + 60, nw (nw μ1 21 24) 21 12) := by
    have : hz (nw μ1 21 24) = bs + 60 := by rw [hz_nw, i2]
    rw [← this]
    exact if_pos ⟨by decide, by decide⟩
  have g1 : tg (nw (nw μ1 21 24) 21 12) (bs + 59) = 21 := by
    rw [tg_nw, tg_nw, hz_nw, i2, if_neg (by omega), if_pos rfl]
  have g2 : ln (nw (nw μ1 21 24) 21 12) (bs + 59) = 24 := by
    rw [ln_nw, ln_nw, hz_nw, i2, if_neg (by omega), if_pos rfl]
  have w1 : AW 0 0 (nw (nw μ1 21 24) 21 12) bs := by
    refine ⟨?_, ?_, ?_, ?_⟩
    · rw [tg_nw, hz_nw, i2, if_pos rfl]
    · rw [ln_nw, hz_nw, i2, if_pos rfl]
    · rw [mI_nw, hz_nw, i2, if_pos rfl]; rfl
    · rw [mI_nw, hz_nw, i2, if_pos rfl]; rfl
  generalize nw (nw μ1 21 24) 21 12 = μ2 at H0 a2 g1 g2 w1
  obtain ⟨μ3, n, te, rn, kd, ft, ρ, y3, hG3, hD, o3⟩ := L_numbers (b := b) (xs := xs) hL g1 g2
  have H3 : XI R0' R0' F0' H0' (fun _ => none) μ3 bs := H0.mv (fun x hx => o3.1 x (by omega)) (by rw [o3.2]; exact Nat.le_refl _)
  have w3 := w1.mv (o3.1 (bs + 60) (by omega))
  obtain ⟨μ4, T, P, y4, H4, hw4, p1, p2, p3, hG4, s4⟩ := L_hall hD hG3 H3 WF_0
  have w4 := w3.mv (s4 _ (by omega) (by omega))
  obtain ⟨d1, d2, d3, d4, d5, d6, d7, d8⟩ := hD
  have hn0 : ¬ (PS.h P).n = 0 := by
    show ¬ P.n = 0
    omega
  obtain ⟨hw5, μ5, y5, H5, s5, -⟩ := P_keep hw4 (k := 0) (by decide) hn0 H4
  have y5 : f_X11_keep μ4 bs 0 = some (0, μ5) := y5
  generalize hK : u1 (fun _ => none) 0 (some ((PS.h P).ft, (PS.h P).sp)) = K at hw5 H5
  have y6 := P_digest H5 hw5
  have hG5 := hG4.mv (s5 _ (by omega) (by omega))
  have w5 := w4.mv (s5 _ (by omega) (by omega))
  have e0 : aI μ5 (bs + 59) 21 0 = some (nI n) := (g_rd hG5.1 hG5.2.1 (k := 0) (by decide)).trans (congrArg some hG5.2.2.1)
  obtain ⟨μ6, h, F6, y7, hh, hs8, H6, hw6⟩ := lw_63 (b := b) (xs := xs) (a := bs) (T := T) (K := K) hL (n := n) (te := te) (rn := rn) (kd := kd) (ft := ft) (rh := fun k => nI (ρ k)) (p4 := dg5 R0' T (PS.h P) K) (by omega) hn0 p1 p2 p3 BIG 0 μ5 (PS.h P) _ (by decide) (by unfold BIG; omega) rfl (Nat.le_refl _) H5 hw5 hG5 w5
  have y7 : lp_L_law_63 (b, L, xs) BIG b bs (bs + 59) (bs + 60) (dg5 R0' T (PS.h P) K) (nI n) 0 0 μ5 = some (1, nI h.sp.length, μ6) := y7
  have hn : h.n = n := by rw [hh]; exact p1
  have h0 : ¬ h.n = 0 := by omega
  have J6 : JJ h T K bs μ6 := ⟨R0', F6, H6, hw6, fun _ _ _ => rfl⟩
  obtain ⟨μ7, x1, J7⟩ := L_ordered (b := b) (xs := xs) hL h0 (by omega) J6
  obtain ⟨μ8, x2, J8⟩ := L_cheapest h0 (by omega) J7
  obtain ⟨μ9, x3, J9⟩ := L_fewest (b := b) (xs := xs) hL h0 (by omega) J8
  obtain ⟨μ10, x4, J10⟩ := L_fitted (b := b) (xs := xs) hL h0 (by omega) J9
  obtain ⟨μ11, x5, J11⟩ := L_again (b := b) (xs := xs) hL h0 (by omega) J10
  obtain ⟨μ12, x6, J12⟩ := L_chances (b := b) (xs := xs) hL h0 J11
  rw [hn] at x1 x2 x3 x4 x5
  -- the second row torn
  obtain ⟨ans, μ13, R, F, x7, hne, H13, hw13, hR⟩ : ∃ ans μ13 R F, f_X11_tear μ12 bs 1 = some (ans, μ13) ∧ ¬ ans = -1 ∧ XI R T F h K μ13 bs ∧ WF R T h K ∧ ∀ r, r < 6 → R.1 r = none := by
    obtain ⟨R, F, H, hw, hR⟩ := J12
    cases hr : R.1 1 with
    | none =>
      obtain ⟨μ13, t1, t2, -, -⟩ := P_tear_no (r := 1) (by decide) hr H
      exact ⟨-3, μ13, R, _, t1, by decide, t2, hw, fun r q => by
        by_cases z : r = 1
        · rw [z]; exact hr
        · exact hR r q z⟩
    | some m =>
      obtain ⟨t0, μ13, t1, t2, -, -⟩ := P_tear hw (r := 1) (by decide) hr H
      exact ⟨1, μ13, _, _, t1, by decide, t2, t0, fun r q => by
        by_cases z : r = 1
        · rw [z]; exact setr_1 _ _ _ _
        · rw [setr_n1 _ _ _ z]; exact hR r q z⟩
  obtain ⟨hw14, μ14, x8, H14, -, -⟩ := P_undo hw13 (k := 0) (Nat.zero_le _) H13
  have x8 : f_X11_undo μ13 bs 0 = some (nI h.sp.length, μ14) := x8
  have ew : h.wsp (h.sp.take 0) = PS.h P := by
    rw [hh]
    rfl
  rw [ew] at hw14 H14
  have x9 := P_digest H14 hw14
  rw [dg_same (R' := R0') hR (fun _ _ => rfl)] at x9
  exact ⟨μ14, law_eval hz0 i1 a1 a2 y3 y4 y5 y6 e0 y7 x1 x2 x3 x4 x5 x6 x7 hne x8 x9⟩
