/-! ===== the class's whole reading; the model's reader ===== -/
theorem rx_sI2 {P : PS} {i v : Nat} {wv : Int32} {μ : Mm} {a : Nat} (hr : RX P i wv μ a) : RX (P.n, v, P.rs, P.rm, P.kd, P.ft) i wv (sI μ (a + 18) 3 (nI v)) a := by
  obtain ⟨h1, h2, h3, h4, h5, h6, h7⟩ := hr
  exact ⟨by rw [mI_nk (by decide)]; exact h1, mI_eq, by rw [mI_nk (by decide)]; exact h3, by rw [mI_nk (by decide)]; exact h4, by rw [mI_nk (by decide)]; exact h5, h6, fun x hx => by rw [mI_ne (by omega), mI_ne (by omega)]; exact h7 x hx⟩
section PX2
variable {R T : GR} {F : GF} {h : GH} {K : GK} {a t m : Nat}
theorem x_dial (ht : t < 4) (hm : T.1 t = some m) (hm6 : m ≤ 60) {μ : Mm} (H : XI R T F h K μ a) (hr : RX P0 0 (-9) μ a) : ∃ μ', f_X5_readDial μ (a + 18) (a + 45 + 2 * t) = some μ' ∧ SX μ μ' a ∧ (m ≤ skp (T.2 t) m 0 → mI μ' (a + 18) 7 = nI m) ∧ (skp (T.2 t) m 0 < m → (∀ f, itm (T.2 t) m (skp (T.2 t) m 0) P0 = .inl f → mI μ' (a + 18) 7 = nI f) ∧ ∀ x, itm (T.2 t) m (skp (T.2 t) m 0) P0 = .inr x → RX x.2 x.1 (-9) μ' a) := by
  obtain ⟨μ1, y1, y2, y3⟩ := x_reach ht hm hm6 (Nat.zero_le m) H hr
  have H1 := H.scr y2
  rw [Nat.sub_zero] at y1 y3
  obtain ⟨e2, e3, e5, e6, e7, e4⟩ := rx_ev H1 y3
  by_cases z : skp (T.2 t) m 0 < m
  · rw [decide_eq_true z] at y1
    have y1' : f_X5_reachesItem μ (a + 18) (a + 45 + 2 * t) = some (1, μ1) := y1
    have ecl := x_cl H1 ht hm hm6 z
    have hte : P0.te = 0 := rfl
    unfold itm
    rw [if_pos hte]
    by_cases g1 : T.2 t (skp (T.2 t) m 0) = 100
    · rw [if_pos g1]
      rw [g1] at ecl
      have s1 : SX μ1 (sI μ1 (a + 18) 6 (nI (skp (T.2 t) m 0 + 1))) a := (SX.rf μ1 a).sI (by omega) (by omega)
      have H2 := H1.scr s1
      have hr2 : RX P0 (skp (T.2 t) m 0 + 1) (-9) (sI μ1 (a + 18) 6 (nI (skp (T.2 t) m 0 + 1))) a := y3.at6
      have h2 := x_two (lo := 12) (hi := 60) H2 ht hm hm6 (show skp (T.2 t) m 0 + 1 ≤ m by omega) (by decide) (by decide) hr2
      cases ht2 : two (T.2 t) m (skp (T.2 t) m 0 + 1) 12 60 with
      | inl f0 =>
        obtain ⟨x, μ', j, x1, x2, x3⟩ := h2.2 f0 ht2
        have H3 := H2.scr x2
        have x1' : f_X5_readTwoFigures (sI μ1 (a + 18) 6 (nI (skp (T.2 t) m 0 + 1))) (a + 18) (a + 45 + 2 * t) 12 60 = some (x, μ') := x1
        refine ⟨sI μ' (a + 18) 3 x, ?_, ((y2.tr s1).tr x2).sI (by omega) (by omega), fun q => absurd z (by omega), fun _ => ⟨fun f q => ?_, fun x q => by cases q⟩⟩
        · simp (config := { decide := true }) only [↓reduceIte, Option.bind_some, Option.bind_none, f_X5_readDial, H.1.t18, y1', x_cp H1 ht, e6, ecl, pI_of H1.1.t18, nI_1, x1', pI_of H3.1.t18]
        · cases q
          rw [mI_nk (by decide)]
          exact x3.2.2.2.2.1
      | inr v =>
        obtain ⟨μ', x1, x2, x3⟩ := h2.1 v ht2
        have H3 := H2.scr x2
        have x1' : f_X5_readTwoFigures (sI μ1 (a + 18) 6 (nI (skp (T.2 t) m 0 + 1))) (a + 18) (a + 45 + 2 * t) 12 60 = some (nI v, μ') := x1
        refine ⟨sI μ' (a + 18) 3 (nI v), ?_, ((y2.tr s1).tr x2).sI (by omega) (by omega), fun q => absurd z (by omega), fun _ => ⟨fun f q => (by cases q), fun x q => ?_⟩⟩
        · simp (config := { decide := true }) only [↓reduceIte, Option.bind_some, Option.bind_none, f_X5_readDial, H.1.t18, y1', x_cp H1 ht, e6, ecl, pI_of H1.1.t18, nI_1, x1', pI_of H3.1.t18]
        · cases q
          exact rx_sI2 x3
    · rw [if_neg g1]
      refine ⟨sI μ1 (a + 18) 7 (nI (skp (T.2 t) m 0)), ?_, y2.sI (by omega) (by omega), fun q => absurd z (by omega), fun _ => ⟨fun f q => ?_, fun x q => by cases q⟩⟩
      · simp (config := { decide := true }) only [↓reduceIte, Option.bind_some, Option.bind_none, f_X5_readDial, H.1.t18, y1', x_cp H1 ht, e6, ecl, g1, pI_of H1.1.t18]
      · cases q; exact mI_eq
  · rw [decide_eq_false z] at y1
    have y1' : f_X5_reachesItem μ (a + 18) (a + 45 + 2 * t) = some (0, μ1) := y1
    refine ⟨sI μ1 (a + 18) 7 (nI m), ?_, y2.sI (by omega) (by omega), fun _ => mI_eq, fun q => absurd q z⟩
    simp (config := { decide := true }) only [↓reduceIte, Option.bind_some, Option.bind_none, f_X5_readDial, H.1.t18, y1', x_sz H1 ht hm, pI_of H1.1.t18]
theorem rd_stop {v0 v1 : Nat} {μ : Mm} {f0 : Nat} (ht : tg μ v0 = 6) (h7 : mI μ v0 7 = nI f0) (hf : f0 < 2 ^ 31) : lp_X5_read_38 BIG v0 v1 0 μ = some μ := by
  have g7 : gI μ v0 6 7 = some (nI f0) := gI_e ht h7
  have hne := n9 hf
  have e : ∀ f, lp_X5_read_38 (f + 1) v0 v1 0 μ = some μ := fun f => by simp (config := { decide := true }) only [↓reduceIte, Option.bind_some, Option.bind_none, lp_X5_read_38, g7, hne]
  exact e 99999
theorem x_read (ht : t < 4) (hm : T.1 t = some m) (hm6 : m ≤ 60) {μ : Mm} (H : XI R T F h K μ a) : (∀ f, par (T.2 t) m = .inl f → ∃ μ', f_X5_read μ (a + 18) (a + 45 + 2 * t) = some (nI f, μ') ∧ SX μ μ' a) ∧ ∀ P, par (T.2 t) m = .inr P → ∃ μ' j, f_X5_read μ (a + 18) (a + 45 + 2 * t) = some (-9, μ') ∧ SX μ μ' a ∧ RX P j (-9) μ' a := by
  have s0 : SX μ (sI (sI (sI (sL (sI (sI μ (a + 18) 2 0) (a + 18) 3 0) (a + 18) 4 0) (a + 18) 5 0) (a + 18) 6 0) (a + 18) 7 (-9)) a := ((((((SX.rf μ a).sI (by omega) (by omega)).sI (by omega) (by omega)).sL (by omega) (by omega)).sI (by omega) (by omega)).sI (by omega) (by omega)).sI (by omega) (by omega)
  have hr0 : RX P0 0 (-9) (sI (sI (sI (sL (sI (sI μ (a + 18) 2 0) (a + 18) 3 0) (a + 18) 4 0) (a + 18) 5 0) (a + 18) 6 0) (a + 18) 7 (-9)) a := by
    refine ⟨?_, ?_, ?_, ?_, mI_eq, ?_, fun x hx => absurd hx (Nat.not_lt_zero _)⟩
    · rw [mI_nk (by decide), mI_nk (by decide), mI_nk (by decide)]
      show mI (sI (sI μ (a + 18) 2 0) (a + 18) 3 0) (a + 18) 2 = _
      rw [mI_nk (by decide), mI_eq]; rfl
    · rw [mI_nk (by decide), mI_nk (by decide), mI_nk (by decide)]
      show mI (sI (sI μ (a + 18) 2 0) (a + 18) 3 0) (a + 18) 3 = _
      rw [mI_eq]; rfl
    · rw [mI_nk (by decide), mI_nk (by decide), mI_eq]; rfl
    · rw [mI_nk (by decide), mI_eq]; rfl
    · show mL (sL (sI (sI μ (a + 18) 2 0) (a + 18) 3 0) (a + 18) 4 0) (a + 18) 4 = _
      rw [mL_eq]; rfl
  have hstart : ∀ g : Mm → Option (Int32 × Mm), (pI μ (a + 18) 6 2 (0 : Int32)).bind (fun x1 => (pI x1 (a + 18) 6 3 (0 : Int32)).bind fun x2 => (pL x2 (a + 18) 6 4 (0 : Int64)).bind fun x3 => (pI x3 (a + 18) 6 5 (0 : Int32)).bind fun x4 => (pI x4 (a + 18) 6 6 (0 : Int32)).bind fun x5 => (pI x5 (a + 18) 6 7 (-9 : Int32)).bind g) = g (sI (sI (sI (sL (sI (sI μ (a + 18) 2 0) (a + 18) 3 0) (a + 18) 4 0) (a + 18) 5 0) (a + 18) 6 0) (a + 18) 7 (-9)) := fun g => by
    rw [pI_of H.1.t18, Option.bind_some, pI_of (show tg (sI μ (a + 18) 2 0) (a + 18) = 6 from H.1.t18), Option.bind_some, pL_of (show tg (sI (sI μ (a + 18) 2 0) (a + 18) 3 0) (a + 18) = 6 from H.1.t18), Option.bind_some, pI_of (show tg (sL (sI (sI μ (a + 18) 2 0) (a + 18) 3 0) (a + 18) 4 0) (a + 18) = 6 from H.1.t18), Option.bind_some, pI_of (show tg (sI (sL (sI (sI μ (a + 18) 2 0) (a + 18) 3 0) (a + 18) 4 0) (a + 18) 5 0) (a + 18) = 6 from H.1.t18), Option.bind_some, pI_of (show tg (sI (sI (sL (sI (sI μ (a + 18) 2 0) (a + 18) 3 0) (a + 18) 4 0) (a + 18) 5 0) (a + 18) 6 0) (a + 18) = 6 from H.1.t18), Option.bind_some]
  generalize hμ0 : sI (sI (sI (sL (sI (sI μ (a + 18) 2 0) (a + 18) 3 0) (a + 18) 4 0) (a + 18) 5 0) (a + 18) 6 0) (a + 18) 7 (-9) = μ0 at s0 hr0 hstart
  have H0 := H.scr s0
  obtain ⟨μ1, y1, y2, y3, y4⟩ := x_dial ht hm hm6 H0 hr0
  have H1 := H0.scr y2
  have hfault : ∀ f0 : Nat, f0 < 2 ^ 31 → mI μ1 (a + 18) 7 = nI f0 → f_X5_read μ (a + 18) (a + 45 + 2 * t) = some (nI f0, μ1) := fun f0 hf h7 => by
    have g7 : gI μ1 (a + 18) 6 7 = some (nI f0) := gI_e H1.1.t18 h7
    have hne := n9 hf
    unfold f_X5_read
    rw [if_pos H.1.t18, hstart, y1, Option.bind_some, rd_stop H1.1.t18 h7 hf, Option.bind_some, g7, Option.bind_some, if_neg hne]
    rfl
  unfold par
  rw [show (62 : Nat) = 61 + 1 from rfl, prs_s, Nat.sub_zero]
  by_cases z : m ≤ skp (T.2 t) m 0
  · rw [if_pos z]
    refine ⟨fun f q => ?_, fun P q => ?_⟩
    · have q : (if P0.n = 0 then Sum.inl m else Sum.inr P0) = Sum.inl f := q
      rw [if_pos (show P0.n = 0 from rfl)] at q
      cases q
      exact ⟨μ1, hfault m (by omega) (y3 z), s0.tr y2⟩
    · have q : (if P0.n = 0 then Sum.inl m else Sum.inr P0) = Sum.inr P := q
      rw [if_pos (show P0.n = 0 from rfl)] at q
      cases q
  · rw [if_neg z]
    have hj : skp (T.2 t) m 0 < m := by omega
    obtain ⟨k1, k2⟩ := y4 hj
    obtain ⟨ok1, ok2⟩ := itm_ok (g := T.2 t) P0_ok hj
    cases hI : itm (T.2 t) m (skp (T.2 t) m 0) P0 with
    | inl f0 =>
      have hf0 := ok1 f0 hI
      refine ⟨fun f q => ?_, fun P q => by cases q⟩
      cases q
      exact ⟨μ1, hfault f0 (by omega) (k1 f0 hI), s0.tr y2⟩
    | inr x =>
      obtain ⟨o1, o2, o3, o4⟩ := ok2 x hI
      have hr1 := k2 x hI
      obtain ⟨l1, l2⟩ := x_rd38 (F := F) (h := h) (K := K) (R := R) (a := a) ht hm hm6 61 BIG 0 x.1 x.2 μ1 (by omega) (by unfold BIG; omega) (by omega) o3 o1 o4 H1 hr1
      show (∀ f, (match prs (T.2 t) m 61 x.1 x.2 with | .inl f => Sum.inl f | .inr P => if P.n = 0 then Sum.inl m else Sum.inr P) = Sum.inl f → _) ∧ ∀ P, (match prs (T.2 t) m 61 x.1 x.2 with | .inl f => Sum.inl f | .inr P => if P.n = 0 then Sum.inl m else Sum.inr P) = Sum.inr P → _
      have pok := prs_ok (g := T.2 t) (m := m) 61 x.1 x.2 o1
      cases hp : prs (T.2 t) m 61 x.1 x.2 with
      | inl f0 =>
        obtain ⟨μ2, z1, z2, z3⟩ := l2 f0 hp
        have H2 := H1.scr z2
        have hf0 := pok.1 f0 hp
        have z1' : lp_X5_read_38 BIG (a + 18) (a + 45 + 2 * t) 0 μ1 = some μ2 := z1
        have g7 : gI μ2 (a + 18) 6 7 = some (nI f0) := gI_e H2.1.t18 z3
        have hne := n9 (f := f0) (by omega)
        refine ⟨fun f q => ?_, fun P q => by cases q⟩
        cases q
        refine ⟨μ2, ?_, (s0.tr y2).tr z2⟩
        unfold f_X5_read
        rw [if_pos H.1.t18, hstart, y1, Option.bind_some, z1', Option.bind_some, g7, Option.bind_some, if_neg hne]
        rfl
      | inr Q =>
        obtain ⟨μ2, j, z1, z2, z3⟩ := l1 Q hp
        have H2 := H1.scr z2
        have z1' : lp_X5_read_38 BIG (a + 18) (a + 45 + 2 * t) 0 μ1 = some μ2 := z1
        obtain ⟨e2, e3, e5, e6, e7, e4⟩ := rx_ev H2 z3
        have hQ := pok.2 Q hp
        have hbase : f_X5_read μ (a + 18) (a + 45 + 2 * t) = (gI μ2 (a + 18) 6 2).bind fun x18 => if x18 = 0 then (gI μ2 (a + 45 + 2 * t) 9 1).bind fun x21 => (pI μ2 (a + 18) 6 7 x21).bind fun x22 => (gI x22 (a + 18) 6 7).bind fun x23 => some (x23, x22) else (gI μ2 (a + 18) 6 7).bind fun x20 => some (x20, μ2) := by
          unfold f_X5_read
          rw [if_pos H.1.t18, hstart, y1, Option.bind_some, z1', Option.bind_some, e7, Option.bind_some, if_pos rfl]
        show (∀ f, (if Q.n = 0 then Sum.inl m else Sum.inr Q) = Sum.inl f → _) ∧ ∀ P, (if Q.n = 0 then Sum.inl m else Sum.inr Q) = Sum.inr P → _
        by_cases y : Q.n = 0
        · rw [if_pos y]
          refine ⟨fun f q => ?_, fun P q => by cases q⟩
          cases q
          have e0 : nI Q.n = 0 := congrArg nI y
          have s3 : SX μ2 (sI μ2 (a + 18) 7 (nI m)) a := (SX.rf μ2 a).sI (by omega) (by omega)
          have H3 := H2.scr s3
          have g7 : gI (sI μ2 (a + 18) 7 (nI m)) (a + 18) 6 7 = some (nI m) := gI_e H3.1.t18 mI_eq
          refine ⟨sI μ2 (a + 18) 7 (nI m), ?_, ((s0.tr y2).tr z2).tr s3⟩
          rw [hbase]
          simp (config := { decide := true }) only [↓reduceIte, Option.bind_some, Option.bind_none, e2, e0, x_sz H2 ht hm, pI_of H2.1.t18, g7]
        · rw [if_neg y]
          refine ⟨fun f q => (by cases q), fun P q => ?_⟩
          cases q
          have e0 : ¬ nI Q.n = 0 := nI_ne0 (by omega) (by have := hQ.1; omega)
          refine ⟨μ2, j, ?_, (s0.tr y2).tr z2, z3⟩
          rw [hbase]
          simp (config := { decide := true }) only [↓reduceIte, Option.bind_some, Option.bind_none, e2, e0, e7]
end PX2
/-- the model's numbers -/
def RM (P : PS) (i : Nat) (μ : Mm) (c : Nat) : Prop := mI μ c 16 = nI i ∧ mI μ c 17 = nI P.n ∧ mI μ c 18 = nI P.te ∧ mI μ c 19 = nI P.rm ∧ mL μ c 20 = P.rs ∧ ∀ x, x < P.n → mI μ (c + 9) x = nI (P.kd x) ∧ mI μ (c + 10) x = nI (P.ft x)
theorem RM.at16 {P : PS} {i j : Nat} {μ : Mm} {c : Nat} (h : RM P i μ c) : RM P j (sI μ c 16 (nI j)) c := by
  obtain ⟨h1, h2, h3, h4, h5, h6⟩ := h
  exact ⟨mI_eq, by rw [mI_nk (by decide)]; exact h2, by rw [mI_nk (by decide)]; exact h3, by rw [mI_nk (by decide)]; exact h4, h5, fun x hx => by rw [mI_ne (by omega), mI_ne (by omega)]; exact h6 x hx⟩
section PM
variable {R T : GR} {F : GF} {h : GH} {K : GK} {c t m : Nat}
/-- a byte of the text, or 0 -/
def byt (g : Nat → Int32) (m i : Nat) : Int32 := if i < m then g i else 0
theorem byt_f (g : Nat → Int32) (m i : Nat) : isf (byt g m i) = true ↔ i < m ∧ isf (g i) = true := by
  unfold byt
  by_cases z : i < m
  · rw [if_pos z]; exact ⟨fun q => ⟨z, q⟩, fun q => q.2⟩
  · rw [if_neg z]
    exact ⟨fun q => absurd q (by decide), fun q => absurd q.1 z⟩
end PM
