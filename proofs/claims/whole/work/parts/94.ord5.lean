/-! ===== quiet, cheap, order ===== -/
section OA
variable {R T : GR} {F : GF} {h : GH} {K : GK} {c a : Nat} {o : Option Nat} {tt : Nat}
theorem spt_0 {h : GH} (w : WH h) (h0 : ¬ h.n = 0) : spt h 0 = h.q.1 := by unfold spt; rw [smt_0, Nat.add_zero, Nat.mod_eq_of_lt (w.now_lt h0)]
theorem m_all {μ : Mm} {p2 : Int32} (H : MI R T F h K μ c) (w : WH h) (h0 : ¬ h.n = 0) (ho : ∀ x, o = some x → x < h.n) (htt : tt < 2 ^ 31) (hp2 : o ≠ none → p2 = nI tt) : ∃ μ', f_X12_allOrders μ c (mcode o) p2 = some μ' ∧ SM μ μ' c ∧ OS h o tt (PW h h.n 0 (2 ^ h.n - 1)) (lq h h.n 0 0) (SV h o tt h.n 0, bst h o tt h.n 0) μ' c := by
  have hn6 := w.1
  have s1 : SM μ (sI μ c 34 0) c := (SM.rf μ c).sF (by omega)
  have s2 : SM μ (sI (sI μ c 34 0) c 35 (mcode o)) c := s1.sF (by omega)
  have s3 : SM μ (sI (sI (sI μ c 34 0) c 35 (mcode o)) c 36 p2) c := s2.sF (by omega)
  have s4 : SM μ (sL (sI (sI (sI μ c 34 0) c 35 (mcode o)) c 36 p2) c 37 0) c := s3.sG (by omega)
  have s5 : SM μ (sI (sL (sI (sI (sI μ c 34 0) c 35 (mcode o)) c 36 p2) c 37 0) c 38 0) c := s4.sF (by omega)
  have s6 : SM μ (sI (sI (sL (sI (sI (sI μ c 34 0) c 35 (mcode o)) c 36 p2) c 37 0) c 38 0) c 39 1000000) c := s5.sF (by omega)
  have H6 := H.scr s6
  generalize hμ6 : sI (sI (sL (sI (sI (sI μ c 34 0) c 35 (mcode o)) c 36 p2) c 37 0) c 38 0) c 39 1000000 = μ6 at s6 H6
  have hS : OS h o tt 0 0 (FARn, []) μ6 c := by
    rw [← hμ6]
    refine ⟨?_, ?_, ?_, fun q => ⟨mI_eq, fun z => absurd z (Nat.lt_irrefl _)⟩, fun q => ⟨?_, ?_, fun z => by cases z⟩⟩
    · rw [mI_nk (by decide), mI_nk (by decide)]
      show mI (sI (sI (sI μ c 34 0) c 35 (mcode o)) c 36 p2) c 35 = _
      rw [mI_nk (by decide), mI_eq]
    · show mL (sL (sI (sI (sI μ c 34 0) c 35 (mcode o)) c 36 p2) c 37 0) c 37 = _
      rw [mL_eq]; rfl
    · rw [mI_nk (by decide), mI_eq]; rfl
    · rw [mI_nk (by decide), mI_nk (by decide)]
      show mI (sI (sI (sI μ c 34 0) c 35 (mcode o)) c 36 p2) c 36 = _
      rw [mI_eq]; exact hp2 q
    · rw [mI_nk (by decide), mI_nk (by decide)]
      show mI (sI (sI (sI μ c 34 0) c 35 (mcode o)) c 36 p2) c 34 = _
      rw [mI_nk (by decide), mI_nk (by decide), mI_eq]; rfl
  obtain ⟨μ', y1, y2, y3, y4⟩ := m_tree (F := F) (K := K) (R := R) (T := T) (c := c) (o := o) (tt := tt) w h0 ho htt h.n 7 0 [] 0 false 0 0 (FARn, []) μ6 (by omega) (Nat.two_pow_pos _) (by rw [pc_0]; omega) (Nat.zero_add _) (fun x hx => by cases hx) (fun z => by cases z) (Nat.le_refl _) (Nat.two_pow_pos _) (Nat.le_refl _) H6 (fun i hi => absurd hi (Nat.not_lt_zero _)) hS
  rw [spt_0 w h0] at y1
  have y1' : f_X12_layOrders 7 μ6 c 0 0 (nI h.q.1) 0 0 = some μ' := y1
  refine ⟨μ', ?_, s6.tr y2, ?_⟩
  · unfold f_X12_allOrders
    rw [if_pos H.1.t0, pZ_of H.1.t0 (Or.inl rfl), Option.bind_some, pI_of (show tg (sI μ c 34 0) c = 13 from H.1.t0), Option.bind_some, pI_of (show tg (sI (sI μ c 34 0) c 35 (mcode o)) c = 13 from H.1.t0), Option.bind_some, pL_of (show tg (sI (sI (sI μ c 34 0) c 35 (mcode o)) c 36 p2) c = 13 from H.1.t0), Option.bind_some, pI_of (show tg (sL (sI (sI (sI μ c 34 0) c 35 (mcode o)) c 36 p2) c 37 0) c = 13 from H.1.t0), Option.bind_some, pI_of (show tg (sI (sL (sI (sI (sI μ c 34 0) c 35 (mcode o)) c 36 p2) c 37 0) c 38 0) c = 13 from H.1.t0), Option.bind_some, hμ6]
    simp (config := { decide := true }) only [↓reduceIte, Option.bind_some, Option.bind_none, gP_of H6.1.t0 H6.1.p0_23, m_hev H6, y1']
  · rw [if_pos rfl, if_pos rfl, Nat.zero_add, Nat.zero_or, List.nil_append] at y4
    have etp : tp o 0 false = 0 := by
      unfold tp inS
      cases o with
      | none => rfl
      | some g0 => show b1 (Nat.testBit 0 g0 && !false) = 0; rw [Nat.zero_testBit]; rfl
    have hsv := SV_le (h := h) (o := o) (tt := tt) h.n 0 (by rw [pc_0]; omega)
    rw [etp, show 0 + 0 + SV h o tt h.n 0 = SV h o tt h.n 0 by omega, U_lt (show (SV h o tt h.n 0, bst h o tt h.n 0).1 < (FARn, ([] : List Nat)).1 by show SV h o tt h.n 0 < 1000000; omega)] at y4
    exact y4
theorem BW_full (h : GH) : BW h (2 ^ h.n - 1) = PW h h.n 0 (2 ^ h.n - 1) := by unfold BW; rw [pc_all]
end OA
theorem PSI_quiet : PS_quiet INV := by
  intro μ a1 a2 hI
  refine both_of (fx := f_X11_quiet) (fm := f_X12_quiet) ?_ μ a1 a2 hI
  intro R T F h K hw
  have w := hw.2.2.1
  have hn6 := w.1
  by_cases h0 : h.n = 0
  · refine ⟨-4, R, T, F, h, K, hw, fun μ a H => XO.same H ?_, fun μ c H => MO.same H ?_⟩
    · simp (config := { decide := true }) only [↓reduceIte, Option.bind_some, Option.bind_none, f_X11_quiet, H.1.t0, gP_of H.1.t0 H.1.p0_0, gP_of H.1.t0 H.1.p0_1, gP_of H.1.t0 H.1.p0_2, gP_of H.1.t0 H.1.p0_3, gP_of H.1.t0 H.1.p0_4, gP_of H.1.t0 H.1.p0_5, gP_of H.1.t0 H.1.p0_6, gP_of H.1.t0 H.1.p0_7, gP_of H.1.t0 H.1.p0_8, gP_of H.1.t0 H.1.p0_9, x_empty H h0]
    · simp (config := { decide := true }) only [↓reduceIte, Option.bind_some, Option.bind_none, f_X12_quiet, m_hev H, H.1.t0, h0, show nI 0 = 0 from rfl]
  have hn0 : ¬ nI h.n = 0 := nI_ne0 (by omega) (by omega)
  have hN := BW_lt hn6 (2 ^ h.n - 1)
  have l1 : (nI (BW h (2 ^ h.n - 1))).toInt64 = lN (BW h (2 ^ h.n - 1)) := nI_l (by omega)
  refine ⟨1, R, T, rat (tel F (nI (lsq h))) (lN (BW h (2 ^ h.n - 1) / Nat.gcd (BW h (2 ^ h.n - 1)) 1)) (lN (1 / Nat.gcd (BW h (2 ^ h.n - 1)) 1)), h, K, hw, fun μ a H => ?_, fun μ c H => ?_⟩
  · obtain ⟨μ1, y1, y2, y3⟩ := x_look H w h0
    have H1 := H.scr y2
    obtain ⟨μ2, z1, z2, z3, z4⟩ := x_cq H1 w h0 y3
    have H2 := H1.scr z2
    have Ht : XI R T (tel F (nI (lsq h))) h K (sI μ2 a 11 (nI (lsq h))) a := H2.tell
    have er : f_X11_tellRatio (sI μ2 a 11 (nI (lsq h))) a (lN (BW h (2 ^ h.n - 1))) 1 = some (1, xrat (sI μ2 a 11 (nI (lsq h))) a (BW h (2 ^ h.n - 1)) 1) := x_rat Ht.1 (show BW h (2 ^ h.n - 1) < 2 ^ 40 by omega) (show 1 < 2 ^ 40 by decide) (by decide)
    refine XO.scr (y2.tr z2) ⟨xrat (sI μ2 a 11 (nI (lsq h))) a (BW h (2 ^ h.n - 1)) 1, ?_, Ht.rat, fun b _ _ => (((Sm.rf μ2 b).sI (by omega)).sL (by omega)).sL (by omega), Nat.le_refl _⟩
    simp (config := { decide := true }) only [↓reduceIte, Option.bind_some, Option.bind_none, f_X11_quiet, H.1.t0, gP_of H.1.t0 H.1.p0_0, gP_of H.1.t0 H.1.p0_1, gP_of H.1.t0 H.1.p0_2, gP_of H.1.t0 H.1.p0_3, gP_of H.1.t0 H.1.p0_4, gP_of H.1.t0 H.1.p0_5, gP_of H.1.t0 H.1.p0_6, gP_of H.1.t0 H.1.p0_7, gP_of H.1.t0 H.1.p0_8, gP_of H.1.t0 H.1.p0_9, x_full H w h0, y1, p1x H1, z1, p1x H2, x_lq H2 w z3 z4, pI_of H2.1.t0, l1, er]
  · obtain ⟨μ1, y1, y2, y3⟩ := m_all (o := none) (tt := 0) (p2 := -9) H w h0 (fun x q => by cases q) (by decide) (fun z => absurd rfl z)
    have y1' : f_X12_allOrders μ c (-9) (-9) = some μ1 := y1
    have H1 := H.scr y2
    obtain ⟨-, f2, f3, -, -⟩ := y3
    rw [← BW_full] at f2
    rw [← lsq_lq h0] at f3
    have er : f_X12_fraction μ1 c (lN (BW h (2 ^ h.n - 1))) 1 = some (1, mrat μ1 c (BW h (2 ^ h.n - 1)) 1) := m_rat H1.1 (show BW h (2 ^ h.n - 1) < 2 ^ 40 by omega) (show 1 < 2 ^ 40 by decide) (by decide)
    have Hr : MI R T _ h K (mrat μ1 c (BW h (2 ^ h.n - 1)) 1) c := H1.rat
    have g37 : gL μ1 c 13 37 = some (lN (BW h (2 ^ h.n - 1))) := (gL_of H1.1.t0).trans (congrArg some f2)
    have g38 : gI (mrat μ1 c (BW h (2 ^ h.n - 1)) 1) c 13 38 = some (nI (lsq h)) := gI_e Hr.1.t0 f3
    refine MO.scr y2 ⟨sI (mrat μ1 c (BW h (2 ^ h.n - 1)) 1) c 2 (nI (lsq h)), ?_, Hr.tell, fun b _ => (((Sm.rf μ1 b).sL (by omega)).sL (by omega)).sI (by omega), Nat.le_refl _⟩
    simp (config := { decide := true }) only [↓reduceIte, Option.bind_some, Option.bind_none, f_X12_quiet, H.1.t0, m_hev H, hn0, y1', g37, er, g38, m_tell Hr.1]
/-- an order's number -/
def cod (l : List Nat) : Nat → Nat
  | 0 => 0
  | i+1 => 6 * cod l i + l.getD i 0
theorem cod_s (l : List Nat) (i : Nat) : cod l (i + 1) = 6 * cod l i + l.getD i 0 := rfl
theorem cod_e (x y : Nat) : (6 : Int32) * nI x + nI y = nI (6 * x + y) := by rw [show (6 : Int32) = nI 6 from rfl, pk_mul, nI_add]
theorem PSI_cheap : PS_cheap INV := by
  intro μ a1 a2 hI
  refine both_of (fx := f_X11_cheap) (fm := f_X12_cheap) ?_ μ a1 a2 hI
  intro R T F h K hw
  have w := hw.2.2.1
  have hn6 := w.1
  by_cases h0 : h.n = 0
  · refine ⟨-4, R, T, F, h, K, hw, fun μ a H => XO.same H ?_, fun μ c H => MO.same H ?_⟩
    · simp (config := { decide := true }) only [↓reduceIte, Option.bind_some, Option.bind_none, f_X11_cheap, H.1.t0, gP_of H.1.t0 H.1.p0_0, gP_of H.1.t0 H.1.p0_1, gP_of H.1.t0 H.1.p0_2, gP_of H.1.t0 H.1.p0_3, gP_of H.1.t0 H.1.p0_4, gP_of H.1.t0 H.1.p0_5, gP_of H.1.t0 H.1.p0_6, gP_of H.1.t0 H.1.p0_7, gP_of H.1.t0 H.1.p0_8, gP_of H.1.t0 H.1.p0_9, x_empty H h0]
    · simp (config := { decide := true }) only [↓reduceIte, Option.bind_some, Option.bind_none, f_X12_cheap, m_hev H, H.1.t0, h0, show nI 0 = 0 from rfl]
  have hn0 : ¬ nI h.n = 0 := nI_ne0 (by omega) (by omega)
  have hn31 : h.n < 2 ^ 31 := by omega
  refine ⟨nI (SV h none 0 h.n 0), R, T, tel F (nI (cod (bst h none 0 h.n 0) h.n)), h, K, hw, fun μ a H => ?_, fun μ c H => ?_⟩
  · obtain ⟨μ1, y1, y2, y3⟩ := x_look H w h0
    have H1 := H.scr y2
    obtain ⟨μ2, z1, z2, z3, z4⟩ := x_weigh (o := none) (tt := 0) H1 w h0 y3 (fun x q => by cases q) (by decide)
    have z1' : f_X7_weigh μ1 (a + 21) (-1) 0 = some μ2 := z1
    have s2 := y2.tr z2
    have H2 := H.scr s2
    obtain ⟨μ3, x1, x2, x3, x4, x5, x6, x7, x8⟩ := x_tellF (F := F) (K := K) (R := R) (T := T) (a := a) (o := none) (tt := 0) (s0 := a + 26) (c0 := a + 27) (cap := 6) (J := fun μ' => SX μ2 μ' a) w h0 (fun x q => by cases q) (by decide) (by omega) (by omega) (by omega) (fun μ' hJ => ⟨R, H2.scr hJ⟩) (fun μ' i v hJ _ => hJ.sI (by omega) (by omega)) H2 z3 z4 H2.1.t26 H2.1.p26_0 H2.1.t27 H2.1.n27 (by decide) hn6 (((SX.rf μ2 a).sI (by omega) (by omega)).sR (by omega) (by omega))
    have s3 := s2.tr x2
    have H3 := H.scr s3
    have hl : ∀ (f i : Nat), i ≤ h.n → h.n < i + f → lp_X11_cheap_51 f a (nI i) (sI μ3 a 11 (nI (cod (bst h none 0 h.n 0) i))) = some (sI μ3 a 11 (nI (cod (bst h none 0 h.n 0) h.n))) := by
      intro f
      induction f with
      | zero => intro i q1 q2; omega
      | succ f ih =>
        intro i q1 q2
        have Ht : XI R T (tel F (nI (cod (bst h none 0 h.n 0) i))) h K (sI μ3 a 11 (nI (cod (bst h none 0 h.n 0) i))) a := H3.tell
        have es : gI (sI μ3 a 11 (nI (cod (bst h none 0 h.n 0) i))) (a + 26) 9 1 = some (nI h.n) := gI_e Ht.1.t26 (by rw [mI_ne (by omega)]; exact x5.2.2.2.2)
        by_cases e : i = h.n
        · have e1 : nI h.n ≤ nI i := by rw [e]; exact Int32.le_refl _
          simp (config := { decide := true }) only [↓reduceIte, Option.bind_some, Option.bind_none, lp_X11_cheap_51, gP_of Ht.1.t0 Ht.1.p0_7, es, e1]
          rw [e]
        · have e1 : ¬ nI h.n ≤ nI i := nI_ge (by omega) (by omega)
          have ea : aI (sI μ3 a 11 (nI (cod (bst h none 0 h.n 0) i))) (a + 27) 21 (nI i) = some (nI ((bst h none 0 h.n 0).getD i 0)) := by rw [aI_of Ht.1.t27 (by rw [Ht.1.n27]; omega) (by omega), mI_ne (by omega), x8 i (by omega)]
          have et : gI (sI μ3 a 11 (nI (cod (bst h none 0 h.n 0) i))) a 12 11 = some (nI (cod (bst h none 0 h.n 0) i)) := gI_e Ht.1.t0 mI_eq
          have hI := ih (i + 1) (by omega) (by omega)
          rw [cod_s] at hI
          simp (config := { decide := true }) only [↓reduceIte, Option.bind_some, Option.bind_none, lp_X11_cheap_51, gP_of Ht.1.t0 Ht.1.p0_7, gP_of Ht.1.t26 Ht.1.p26_0, es, e1, et, ea, cod_e, pI_of Ht.1.t0, sI_sI, nI_1]
          exact hI
    have el := hl BIG 0 (by omega) (by unfold BIG; omega)
    have el' : lp_X11_cheap_51 BIG a 0 (sI μ3 a 11 0) = some (sI μ3 a 11 (nI (cod (bst h none 0 h.n 0) h.n))) := el
    have Hf : XI R T (tel F (nI (cod (bst h none 0 h.n 0) h.n))) h K (sI μ3 a 11 (nI (cod (bst h none 0 h.n 0) h.n))) a := H3.tell
    have efw := x_fewW Hf (o := none) (tt := 0) (x4.mv (fun j => mI_ne (by omega)))
    refine XO.scr s3 (XO.tell H3 ?_)
    simp (config := { decide := true }) only [↓reduceIte, Option.bind_some, Option.bind_none, f_X11_cheap, H.1.t0, gP_of H.1.t0 H.1.p0_0, gP_of H.1.t0 H.1.p0_1, gP_of H.1.t0 H.1.p0_2, gP_of H.1.t0 H.1.p0_3, gP_of H.1.t0 H.1.p0_4, gP_of H.1.t0 H.1.p0_5, gP_of H.1.t0 H.1.p0_6, gP_of H.1.t0 H.1.p0_7, gP_of H.1.t0 H.1.p0_8, gP_of H.1.t0 H.1.p0_9, x_full H w h0, y1, p1x H1, z1', p1x H2, gP_of H2.1.t0 H2.1.p0_7, x1, pI_of H3.1.t0, el', gP_of Hf.1.t0 Hf.1.p0_6, efw]
  · obtain ⟨μ1, y1, y2, y3⟩ := m_all (o := none) (tt := 0) (p2 := -9) H w h0 (fun x q => by cases q) (by decide) (fun z => absurd rfl z)
    have y1' : f_X12_allOrders μ c (-9) (-9) = some μ1 := y1
    have H1 := H.scr y2
    obtain ⟨-, -, -, f4, -⟩ := y3
    obtain ⟨k1, k2⟩ := f4 rfl
    have hsv := SV_le (h := h) (o := none) (tt := 0) h.n 0 (by rw [pc_0]; omega)
    have k2 := k2 (show SV h none 0 h.n 0 < 1000000 by omega)
    have hl : ∀ (f i : Nat), i ≤ h.n → h.n < i + f → lp_X12_cheap_22 f c (nI (cod (bst h none 0 h.n 0) i)) (nI i) μ1 = some (nI (cod (bst h none 0 h.n 0) h.n)) := by
      intro f
      induction f with
      | zero => intro i q1 q2; omega
      | succ f ih =>
        intro i q1 q2
        by_cases e : i = h.n
        · have e1 : nI h.n ≤ nI i := by rw [e]; exact Int32.le_refl _
          simp (config := { decide := true }) only [↓reduceIte, Option.bind_some, Option.bind_none, lp_X12_cheap_22, m_hev H1, e1]
          rw [e]
        · have e1 : ¬ nI h.n ≤ nI i := nI_ge (by omega) (by omega)
          have ea : aI μ1 (c + 20) 21 (nI i) = some (nI ((bst h none 0 h.n 0).getD i 0)) := by rw [aI_of H1.1.t20 (by rw [H1.1.n20]; omega) (by omega), k2 i (by omega)]
          have hI := ih (i + 1) (by omega) (by omega)
          rw [cod_s] at hI
          simp (config := { decide := true }) only [↓reduceIte, Option.bind_some, Option.bind_none, lp_X12_cheap_22, m_hev H1, e1, gP_of H1.1.t0 H1.1.p0_33, ea, cod_e, nI_1]
          exact hI
    have el := hl BIG 0 (by omega) (by unfold BIG; omega)
    have el' : lp_X12_cheap_22 BIG c 0 0 μ1 = _ := el
    have g39 : gI μ1 c 13 39 = some (nI (SV h none 0 h.n 0)) := gI_e H1.1.t0 k1
    refine MO.scr y2 (MO.tell H1 ?_)
    simp (config := { decide := true }) only [↓reduceIte, Option.bind_some, Option.bind_none, f_X12_cheap, H.1.t0, m_hev H, hn0, y1', el', g39, m_tell H1.1]
theorem setr_setr (R : GR) (r : Nat) (o o' : Option Nat) (g g' : Nat → Int32) : setr (setr R r o g) r o' g' = setr R r o' g' := by
  unfold setr
  refine Prod.ext ?_ ?_
  · funext s
    show u1 (u1 R.1 r o) r o' s = u1 R.1 r o' s
    by_cases z : s = r
    · subst z; rw [u1_eq, u1_eq]
    · rw [u1_ne z, u1_ne z, u1_ne z]
  · funext s
    show u1 (u1 R.2 r g) r g' s = u1 R.2 r g' s
    by_cases z : s = r
    · subst z; rw [u1_eq, u1_eq]
    · rw [u1_ne z, u1_ne z, u1_ne z]
theorem x_place {μ : Mm} {s0 c0 n g : Nat} {l : List Nat} (hS : Sto μ s0 c0 n) (hn : n ≤ 60) (hl : ∀ j, j < n → mI μ c0 j = nI (l.getD j 0)) (hl6 : ∀ j, j < n → l.getD j 0 < 6) (hg : g < 6) : f_X8_placeOf μ s0 (nI g) = some (ofn (fst (fun i => decide (l.getD i 0 = g)) n 0)) := by
  have hloop : ∀ (m f i : Nat), i + m = n → m < f → lp_X8_placeOf_2 f s0 (nI g) (nI i) μ = some (match fst (fun i => decide (l.getD i 0 = g)) m i with | some j => (0, nI j) | none => (1, 0)) := by
    intro m
    induction m with
    | zero =>
      intro f i q1 q2
      obtain ⟨f, rfl⟩ : ∃ e, f = e + 1 := ⟨f - 1, by omega⟩
      have e1 : nI n ≤ nI i := nI_le (by omega) (by omega)
      simp (config := { decide := true }) only [↓reduceIte, Option.bind_some, Option.bind_none, lp_X8_placeOf_2, gI_e hS.1 hS.2.2.2.2, e1]
      rfl
    | succ m ih =>
      intro f i q1 q2
      obtain ⟨f, rfl⟩ : ∃ e, f = e + 1 := ⟨f - 1, by omega⟩
      have e1 : ¬ nI n ≤ nI i := nI_ge (by omega) (by omega)
      have h1 := hS.2.2.2.1
      have ea : aI μ c0 21 (nI i) = some (nI (l.getD i 0)) := by rw [aI_of hS.2.2.1 (by omega) (by omega), hl i (by omega)]
      have h6 := hl6 i (by omega)
      rw [fst_s]
      by_cases z : l.getD i 0 = g
      · rw [if_pos (decide_eq_true z)]
        rw [z] at ea
        simp (config := { decide := true }) only [↓reduceIte, Option.bind_some, Option.bind_none, lp_X8_placeOf_2, gI_e hS.1 hS.2.2.2.2, e1, gP_of hS.1 hS.2.1, ea]
      · rw [if_neg (by rw [decide_eq_false z]; decide)]
        have e2 : ¬ nI (l.getD i 0) = nI g := fun q => z ((nI_eq (by omega) (by omega)).mp q)
        simp (config := { decide := true }) only [↓reduceIte, Option.bind_some, Option.bind_none, lp_X8_placeOf_2, gI_e hS.1 hS.2.2.2.2, e1, gP_of hS.1 hS.2.1, ea, e2, nI_1]
        exact ih f (i + 1) (by omega) (by omega)
  have e := hloop n BIG 0 (by omega) (by unfold BIG; omega)
  have e' : lp_X8_placeOf_2 BIG s0 (nI g) 0 μ = _ := e
  cases hf : fst (fun i => decide (l.getD i 0 = g)) n 0 with
  | none =>
    rw [hf] at e'
    simp (config := { decide := true }) only [↓reduceIte, Option.bind_some, Option.bind_none, f_X8_placeOf, hS.1, e'] <;> rfl
  | some j =>
    rw [hf] at e'
    simp (config := { decide := true }) only [↓reduceIte, Option.bind_some, Option.bind_none, f_X8_placeOf, hS.1, e'] <;> rfl
theorem m_lay10 {μ : Mm} {c r n : Nat} {f0 : Nat → Int32} {g : Nat → Int32} (hL : LM μ c) (hr : r < 6) (hn6 : n ≤ 6) (hb : ∀ i, i < n → mI μ (c + 20) i = f0 i) (hb0 : ∀ i, n ≤ i → f0 i = 0) : ∀ (f k : Nat), k ≤ 40 → 40 < k + f → lp_X12_layRow_10 f c (nI r) (c + 20) (nI n) (nI k) (sR μ (c + 3) (filo g (40 * r) k f0)) = some (sR μ (c + 3) (filo g (40 * r) 40 f0)) := by
  intro f
  induction f with
  | zero => intro k q1 q2; omega
  | succ f ih =>
    intro k q1 q2
    have hL' : LM (sR μ (c + 3) (filo g (40 * r) k f0)) c := hL
    by_cases hk : k = 40
    · subst hk
      have e : (40 : Int32) ≤ nI 40 := Int32.le_refl _
      simp (config := { decide := true }) only [↓reduceIte, Option.bind_some, Option.bind_none, lp_X12_layRow_10, e]
    · have e : ¬ (40 : Int32) ≤ nI k := (show ¬ nI 40 ≤ nI k from nI_ge (by omega) (by decide))
      have hI := ih (k + 1) (by omega) (by omega)
      rw [← filo_s] at hI
      by_cases z : n ≤ k
      · have e1 : nI n ≤ nI k := nI_le z (by omega)
        rw [hb0 k z] at hI
        simp (config := { decide := true }) only [↓reduceIte, Option.bind_some, Option.bind_none, lp_X12_layRow_10, e, gP_of hL'.t0 hL'.p0_6, e1, ix40, qI_of (i := 40 * r + k) hL'.t3 (show 40 * r + k < ln μ (c + 3) by rw [hL.n3]; omega) (show 40 * r + k < 2 ^ 31 by omega), sI_sRg, nI_1]
        exact hI
      · have e1 : ¬ nI n ≤ nI k := nI_ge (by omega) (by omega)
        have ea : aI (sR μ (c + 3) (filo g (40 * r) k f0)) (c + 20) 21 (nI k) = some (f0 k) := by rw [aI_of hL'.t20 (by rw [hL'.n20]; omega) (by omega), mR_ne (by omega), hb k (by omega)]
        simp (config := { decide := true }) only [↓reduceIte, Option.bind_some, Option.bind_none, lp_X12_layRow_10, e, gP_of hL'.t0 hL'.p0_6, e1, ea, ix40, qI_of (i := 40 * r + k) hL'.t3 (show 40 * r + k < ln μ (c + 3) by rw [hL.n3]; omega) (show 40 * r + k < 2 ^ 31 by omega), sI_sRg, nI_1]
        exact hI
theorem PSI_order : PS_order INV := by
  intro μ a1 a2 q1 q2 q3 hI
  refine both_of (fx := fun μ a => f_X11_order μ a q1 q2 q3) (fm := fun μ c => f_X12_order μ c q1 q2 q3) ?_ μ a1 a2 hI
  intro R T F h K hw
  have w := hw.2.2.1
  have hn6 := w.1
  have t2 := w.te_lt
  rcases ix2 q1 h.n (by omega) with h1 | ⟨g, hg, rfl⟩
  · refine ⟨-1, R, T, F, h, K, hw, fun μ a H => XO.same H ?_, fun μ c H => MO.same H ?_⟩
    · simp (config := { decide := true }) only [↓reduceIte, Option.bind_some, Option.bind_none, f_X11_order, H.1.t0, gP_of H.1.t0 H.1.p0_0, gP_of H.1.t0 H.1.p0_1, gP_of H.1.t0 H.1.p0_2, gP_of H.1.t0 H.1.p0_3, gP_of H.1.t0 H.1.p0_4, gP_of H.1.t0 H.1.p0_5, gP_of H.1.t0 H.1.p0_6, gP_of H.1.t0 H.1.p0_7, gP_of H.1.t0 H.1.p0_8, gP_of H.1.t0 H.1.p0_9, x_hasG_bad H h1]
    · simp (config := { decide := true }) only [↓reduceIte, Option.bind_some, Option.bind_none, f_X12_order, H.1.t0, m_isG_bad H w h1]
  rcases ix2 q2 h.te (by omega) with h1 | ⟨t, ht, rfl⟩
  · refine ⟨-1, R, T, F, h, K, hw, fun μ a H => XO.same H ?_, fun μ c H => MO.same H ?_⟩
    · simp (config := { decide := true }) only [↓reduceIte, Option.bind_some, Option.bind_none, f_X11_order, H.1.t0, gP_of H.1.t0 H.1.p0_0, gP_of H.1.t0 H.1.p0_1, gP_of H.1.t0 H.1.p0_2, gP_of H.1.t0 H.1.p0_3, gP_of H.1.t0 H.1.p0_4, gP_of H.1.t0 H.1.p0_5, gP_of H.1.t0 H.1.p0_6, gP_of H.1.t0 H.1.p0_7, gP_of H.1.t0 H.1.p0_8, gP_of H.1.t0 H.1.p0_9, x_hasG_ok H w hg, x_hasT_bad H h1]
    · simp (config := { decide := true }) only [↓reduceIte, Option.bind_some, Option.bind_none, f_X12_order, H.1.t0, m_isG_ok H w hg, m_isT_bad H w h1]
  rcases ix2 q3 6 (by decide) with h1 | ⟨r, hr, rfl⟩
  · refine ⟨-1, R, T, F, h, K, hw, fun μ a H => XO.same H ?_, fun μ c H => MO.same H ?_⟩
    · simp (config := { decide := true }) only [↓reduceIte, Option.bind_some, Option.bind_none, f_X11_order, H.1.t0, gP_of H.1.t0 H.1.p0_0, gP_of H.1.t0 H.1.p0_1, gP_of H.1.t0 H.1.p0_2, gP_of H.1.t0 H.1.p0_3, gP_of H.1.t0 H.1.p0_4, gP_of H.1.t0 H.1.p0_5, gP_of H.1.t0 H.1.p0_6, gP_of H.1.t0 H.1.p0_7, gP_of H.1.t0 H.1.p0_8, gP_of H.1.t0 H.1.p0_9, x_hasG_ok H w hg, x_hasT_ok H w ht, H.1.fr.has_bad h1]
    · simp (config := { decide := true }) only [↓reduceIte, Option.bind_some, Option.bind_none, f_X12_order, H.1.t0, m_isG_ok H w hg, m_isT_ok H w ht, isRow_bad h1]
  have h0 := te_pos w ht
  have hsv := SV_le (h := h) (o := some g) (tt := t) h.n 0 (by rw [pc_0]; omega)
  have ho6 : ∀ x, some g = some x → x < 6 := fun x q => by cases q; omega
  have hon : ∀ x, some g = some x → x < h.n := fun x q => by cases q; exact hg
  have hlen := bst_len h (some g) t h.n 0
  have hbl : ∀ j, j < h.n → (bst h (some g) t h.n 0).getD j 0 < h.n := fun j hj => by
    rw [List.getD_eq_getElem?_getD, List.getElem?_eq_getElem (by omega)]
    exact bst_lt hn6 h.n 0 (by rw [pc_0]; omega) _ (List.getElem_mem _)
  have hxw : ∀ μ a, XI R T F h K μ a → ∃ μ2, (∃ μ1, f_X7_look μ (a + 21) (a + 3) = some μ1 ∧ XI R T F h K μ1 a ∧ f_X7_weigh μ1 (a + 21) (nI g) (nI t) = some μ2) ∧ SX μ μ2 a ∧ Wg h (some g) t μ2 a ∧ Sc h (some g) t 0 μ2 a := fun μ a H => by
    obtain ⟨μ1, y1, y2, y3⟩ := x_look H w h0
    obtain ⟨μ2, z1, z2, z3, z4⟩ := x_weigh (o := some g) (tt := t) (H.scr y2) w h0 y3 ho6 (by omega)
    exact ⟨μ2, ⟨μ1, y1, H.scr y2, z1⟩, y2.tr z2, z3, z4⟩
  by_cases hz : SV h (some g) t h.n 0 = 0
  · have hfst : ∃ j, j < h.n ∧ fst (fun i => decide ((bst h (some g) t h.n 0).getD i 0 = g)) h.n 0 = some j ∧ (bst h (some g) t h.n 0).getD j 0 = g ∧ ∀ i, i < j → ¬ (bst h (some g) t h.n 0).getD i 0 = g := by
      rcases fst_cases (fun i => decide ((bst h (some g) t h.n 0).getD i 0 = g)) h.n 0 with ⟨j, j1, j2, j3, j4⟩ | q
      · exact ⟨j, by omega, fst_some _ _ _ j j1 j2 j3 j4, of_decide_eq_true j3, fun i hi => of_decide_eq_false (j4 i (Nat.zero_le _) hi)⟩
      · obtain ⟨i, hi, e⟩ := bst_has (o := some g) (tt := t) hn6 hg h.n 0 (by rw [pc_0]; omega) (Nat.zero_testBit g)
        have := q i (Nat.zero_le _) (by omega)
        rw [decide_eq_true e] at this; cases this
    obtain ⟨j, hj, hjf, hjg, hjn⟩ := hfst
    refine ⟨nI j, setr R r (some h.n) (fun i => nI ((bst h (some g) t h.n 0).getD i 0)), T, F, h, K, ⟨hw.1.set (fun n q => by cases q; omega), hw.2.1, hw.2.2⟩, fun μ a H => ?_, fun μ c H => ?_⟩
    · obtain ⟨μ2, ⟨μ1, y1, H1, z1⟩, s2, z3, z4⟩ := hxw μ a H
      have H2 := H.scr s2
      obtain ⟨k1, k2, k3, k4, k5⟩ := H2.1.row hr
      have hJ0 : ∃ g', XI (setr R r (some h.n) g') T F h K (sR (sI μ2 (a + 33 + 2 * r) 1 (nI h.n)) (a + 34 + 2 * r) (fil (mI μ2 (a + 34 + 2 * r)) h.n 0)) a := ⟨_, H2.rset hr (fun b b1 b2 _ => ((Sm.rf μ2 b).sI b1).sR b2) H2.1 (by rw [mR_ne (by omega), mI_eq]; rfl) (fun n _ i _ => rfl) (Nat.le_refl _)⟩
      obtain ⟨μ3, x1, ⟨g', x2⟩, x3, x4, x5, x6, x7, x8⟩ := x_tellF (F := F) (K := K) (R := R) (T := T) (a := a) (o := some g) (tt := t) (s0 := a + 33 + 2 * r) (c0 := a + 34 + 2 * r) (cap := 40) (J := fun μ' => ∃ g', XI (setr R r (some h.n) g') T F h K μ' a) w h0 ho6 (by omega) (by omega) (by omega) (by omega) (fun μ' hJ => ⟨_, hJ.choose_spec⟩) (fun μ' i v hJ _ => by
        obtain ⟨g', hJ⟩ := hJ
        have := rset_one (i := i) (v := v) hJ hr (setr_1 R r (some h.n) g')
        rw [setr_setr] at this
        exact ⟨_, this⟩) H2 z3 z4 k2 k3 k4 k5 (by decide) (by omega) hJ0
      have H3 : XI (setr R r (some h.n) (fun i => nI ((bst h (some g) t h.n 0).getD i 0))) T F h K μ3 a := by
        have := x2.rset (o := some h.n) (g := fun i => nI ((bst h (some g) t h.n 0).getD i 0)) hr (fun b _ _ _ => Sm.rf μ3 b) x2.1 x5.2.2.2.2 (fun n q i hi => by cases q; exact x8 i hi) (Nat.le_refl _)
        rw [setr_setr] at this
        exact this
      have efw := x_fewW H2 z4
      rw [hz] at efw
      have efw' : f_X7_fewestWrongs μ2 (a + 21) = some 0 := efw
      have ep := x_place (g := g) x5 (by omega) x8 (fun i hi => by have := hbl i hi; omega) (by omega)
      rw [hjf] at ep
      have ep' : f_X8_placeOf μ3 (a + 33 + 2 * r) (nI g) = some (nI j) := ep
      refine XO.scr s2 ⟨μ3, ?_, H3, fun b b1 b2 => x6 b (by omega) (by omega), by rw [x7]; exact Nat.le_refl _⟩
      show f_X11_order μ a (nI g) (nI t) (nI r) = _
      simp (config := { decide := true }) only [↓reduceIte, Option.bind_some, Option.bind_none, f_X11_order, H.1.t0, gP_of H.1.t0 H.1.p0_0, gP_of H.1.t0 H.1.p0_1, gP_of H.1.t0 H.1.p0_2, gP_of H.1.t0 H.1.p0_3, gP_of H.1.t0 H.1.p0_4, gP_of H.1.t0 H.1.p0_5, gP_of H.1.t0 H.1.p0_6, gP_of H.1.t0 H.1.p0_7, gP_of H.1.t0 H.1.p0_8, gP_of H.1.t0 H.1.p0_9, x_hasG_ok H w hg, x_hasT_ok H w ht, H.1.fr.has_ok hr, y1, p1x H1, z1, p1x H2, efw', gP_of H2.1.t0 H2.1.p0_0, H2.1.fr.get hr, x1, gP_of H3.1.t0 H3.1.p0_0, H3.1.fr.get hr, ep']
    · obtain ⟨μ1, y1, y2, y3⟩ := m_all (o := some g) (tt := t) (p2 := nI t) H w h0 hon (by omega) (fun _ => rfl)
      have y1' : f_X12_allOrders μ c (nI g) (nI t) = some μ1 := y1
      have H1 := H.scr y2
      obtain ⟨-, -, -, -, f5⟩ := y3
      obtain ⟨-, k1, k2⟩ := f5 (fun z => by cases z)
      have k2 := k2 hz
      have k1' : mI μ1 c 34 = 1 := by rw [k1]; show nI (b1 (decide (SV h (some g) t h.n 0 = 0))) = 1; rw [decide_eq_true hz]; rfl
      have e34 : gI μ1 c 13 34 = some 1 := gI_e H1.1.t0 k1'
      have qa := qI_of (v := nI h.n) H1.1.t2 (show r < ln μ1 (c + 2) by rw [H1.1.n2]; exact hr) (by omega)
      have hLs : LM (sI μ1 (c + 2) r (nI h.n)) c := H1.1
      have el := m_lay10 (μ := sI μ1 (c + 2) r (nI h.n)) (n := h.n) (f0 := fun i => if i < h.n then nI ((bst h (some g) t h.n 0).getD i 0) else 0) (g := mI (sI μ1 (c + 2) r (nI h.n)) (c + 3)) hLs hr hn6 (fun i hi => by rw [mI_ne (by omega), k2 i hi]; exact (if_pos hi).symm) (fun i hi => if_neg (by omega)) BIG 0 (by omega) (by unfold BIG; omega)
      rw [filo_0, sR_self] at el
      have el' : lp_X12_layRow_10 BIG c (nI r) (c + 20) (nI h.n) 0 (sI μ1 (c + 2) r (nI h.n)) = _ := el
      generalize hμ2 : sR (sI μ1 (c + 2) r (nI h.n)) (c + 3) (filo (mI (sI μ1 (c + 2) r (nI h.n)) (c + 3)) (40 * r) 40 (fun i => if i < h.n then nI ((bst h (some g) t h.n 0).getD i 0) else 0)) = μ2 at el'
      have hsm : ∀ b, b ≠ c + 2 → b ≠ c + 3 → Sm μ1 μ2 b := fun b b1 b2 => by rw [← hμ2]; exact ((Sm.rf μ1 b).sI b1).sR b2
      have hL2 : LM μ2 c := by rw [← hμ2]; exact H1.1
      have H2 : MI (setr R r (some h.n) (fun i => nI ((bst h (some g) t h.n 0).getD i 0))) T F h K μ2 c := by
        refine H1.rset hw.1 hr (fun b b1 b2 _ => Or.inl (hsm b b1 b2)) hL2 ?_ (fun s hs => ?_) (fun n q i hi => ?_) (fun s i hs hi => ?_)
        · rw [← hμ2, mR_ne (by omega), mI_eq]; rfl
        · rw [← hμ2, mR_ne (by omega), mI_nk hs]
        · cases q
          rw [← hμ2, mR_eq, filo_in (by omega) (by omega), show 40 * r + i - 40 * r = i by omega, if_pos hi]
        · rw [← hμ2, mR_eq, filo_out (by omega), mI_ne (by omega)]
      have hb2 : ∀ i, i < h.n → mI μ2 (c + 20) i = nI ((bst h (some g) t h.n 0).getD i 0) := fun i hi => by rw [(hsm (c + 20) (by omega) (by omega)).2.2.1]; exact k2 i hi
      have hloop : ∀ (d f i : Nat), i + d = j → d < f → lp_X12_order_57 f c (nI g) (nI i) μ2 = some (nI j) := by
        intro d
        induction d with
        | zero =>
          intro f i q1 q2
          obtain ⟨f, rfl⟩ : ∃ e, f = e + 1 := ⟨f - 1, by omega⟩
          have hij : i = j := by omega
          subst hij
          have ea : aI μ2 (c + 20) 21 (nI i) = some (nI g) := by rw [aI_of hL2.t20 (by rw [hL2.n20]; omega) (by omega), hb2 i hj, hjg]
          simp (config := { decide := true }) only [↓reduceIte, Option.bind_some, Option.bind_none, lp_X12_order_57, gP_of hL2.t0 hL2.p0_33, ea]
        | succ d ih =>
          intro f i q1 q2
          obtain ⟨f, rfl⟩ : ∃ e, f = e + 1 := ⟨f - 1, by omega⟩
          have ea : aI μ2 (c + 20) 21 (nI i) = some (nI ((bst h (some g) t h.n 0).getD i 0)) := by rw [aI_of hL2.t20 (by rw [hL2.n20]; omega) (by omega), hb2 i (by omega)]
          have hlt := hbl i (by omega)
          have e2 : ¬ nI ((bst h (some g) t h.n 0).getD i 0) = nI g := fun q => hjn i (by omega) ((nI_eq (by omega) (by omega)).mp q)
          simp (config := { decide := true }) only [↓reduceIte, Option.bind_some, Option.bind_none, lp_X12_order_57, gP_of hL2.t0 hL2.p0_33, ea, e2, nI_1]
          exact ih f (i + 1) (by omega) (by omega)
      have eo := hloop j BIG 0 (by omega) (by unfold BIG; omega)
      have eo' : lp_X12_order_57 BIG c (nI g) 0 μ2 = some (nI j) := eo
      refine MO.scr y2 ⟨μ2, ?_, H2, fun b q => hsm b (by omega) (by omega), by rw [← hμ2]; exact Nat.le_refl _⟩
      show f_X12_order μ c (nI g) (nI t) (nI r) = _
      simp (config := { decide := true }) only [↓reduceIte, Option.bind_some, Option.bind_none, f_X12_order, H.1.t0, m_isG_ok H w hg, m_isT_ok H w ht, isRow_ok hr, y1', e34, gP_of H1.1.t0 H1.1.p0_33, m_hev H1, f_X12_layRow, H1.1.t0, gP_of H1.1.t0 H1.1.p0_5, qa, el', eo']
  · refine ⟨-9, R, T, F, h, K, hw, fun μ a H => ?_, fun μ c H => ?_⟩
    · obtain ⟨μ2, ⟨μ1, y1, H1, z1⟩, s2, z3, z4⟩ := hxw μ a H
      have H2 := H.scr s2
      have e1 : ¬ nI (SV h (some g) t h.n 0) ≤ 0 := nI_nle (by omega) (by omega)
      refine XO.scr s2 (XO.same H2 ?_)
      simp (config := { decide := true }) only [↓reduceIte, Option.bind_some, Option.bind_none, f_X11_order, H.1.t0, gP_of H.1.t0 H.1.p0_0, gP_of H.1.t0 H.1.p0_1, gP_of H.1.t0 H.1.p0_2, gP_of H.1.t0 H.1.p0_3, gP_of H.1.t0 H.1.p0_4, gP_of H.1.t0 H.1.p0_5, gP_of H.1.t0 H.1.p0_6, gP_of H.1.t0 H.1.p0_7, gP_of H.1.t0 H.1.p0_8, gP_of H.1.t0 H.1.p0_9, x_hasG_ok H w hg, x_hasT_ok H w ht, H.1.fr.has_ok hr, y1, p1x H1, z1, p1x H2, x_fewW H2 z4, e1]
    · obtain ⟨μ1, y1, y2, y3⟩ := m_all (o := some g) (tt := t) (p2 := nI t) H w h0 hon (by omega) (fun _ => rfl)
      have y1' : f_X12_allOrders μ c (nI g) (nI t) = some μ1 := y1
      have H1 := H.scr y2
      obtain ⟨-, -, -, -, f5⟩ := y3
      obtain ⟨-, k1, -⟩ := f5 (fun z => by cases z)
      have k1' : mI μ1 c 34 = 0 := by rw [k1]; show nI (b1 (decide (SV h (some g) t h.n 0 = 0))) = 0; rw [decide_eq_false hz]; rfl
      have e34 : gI μ1 c 13 34 = some 0 := gI_e H1.1.t0 k1'
      refine MO.scr y2 (MO.same H1 ?_)
      simp (config := { decide := true }) only [↓reduceIte, Option.bind_some, Option.bind_none, f_X12_order, H.1.t0, m_isG_ok H w hg, m_isT_ok H w ht, isRow_ok hr, y1', e34]
