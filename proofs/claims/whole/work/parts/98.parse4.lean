/-! ===== the model's reader, on; fault ===== -/
theorem m_kof (μ : Mm) (x : Int32) : f_X12_kindOf μ x = some (match kof x with | some k => nI k | none => -9) := x_kof μ x
section PM2
variable {R T : GR} {F : GF} {h : GH} {K : GK} {c t m : Nat}
theorem m_item {P : PS} {i : Nat} {μ : Mm} (H : MI R T F h K μ c) (ht : t < 4) (hm : T.1 t = some m) (hm6 : m ≤ 60) (hi : i < m) (hP : PW' P) (hr : RM P i μ c) : (∀ x, itm (T.2 t) m i P = .inr x → ∃ μ', f_X12_readsItem μ c (nI t) = some (1, μ') ∧ SM μ μ' c ∧ RM x.2 x.1 μ' c) ∧ (∀ f, itm (T.2 t) m i P = .inl f → ∃ μ', f_X12_readsItem μ c (nI t) = some (0, μ') ∧ SM μ μ' c ∧ mI μ' c 16 = nI f) := by
  obtain ⟨p1, p2, p3, p4, p5⟩ := hP
  obtain ⟨e16, e17, e18, e19, e20⟩ := rm_ev H hr
  have ebt := m_byteAt H ht hm hi hm6
  have s1 : SM μ (sI μ c 16 (nI (i + 1))) c := (SM.rf μ c).sF (by omega)
  have H1 := H.scr s1
  have hr1 : RM P (i + 1) (sI μ c 16 (nI (i + 1))) c := hr.at16
  obtain ⟨d16, d17, d18, d19, d20⟩ := rm_ev H1 hr1
  have z0 : zb 0 = some 0 := by decide
  have z1 : zb 1 = some 1 := by decide
  have ei3 : nI (i + 1) + 2 = nI (i + 3) := nI_add (i + 1) 2
  have ei2 : nI (i + 1) + 1 = nI (i + 2) := nI_add (i + 1) 1
  unfold itm
  by_cases hte : P.te = 0
  · rw [if_pos hte]
    have t0 : nI P.te = 0 := congrArg nI hte
    have hitem : ∀ x μ', zb x = some x → f_X12_readsDial μ c (nI t) = some (x, μ') → f_X12_readsItem μ c (nI t) = some (x, μ') := fun x μ' q0 q => by
      simp (config := { decide := true }) only [↓reduceIte, Option.bind_some, Option.bind_none, f_X12_readsItem, H.1.t0, e18, t0, q, q0]
    by_cases g1 : T.2 t i = 100
    · rw [if_pos g1]
      rw [g1] at ebt
      obtain ⟨w1, w2⟩ := m_two (lo := 12) (hi := 60) H1 ht hm hm6 (show i + 1 ≤ m by omega) (by decide) (by decide) hr1
      cases ht2 : two (T.2 t) m (i + 1) 12 60 with
      | inl f0 =>
        obtain ⟨μ', x1, x2, x3⟩ := w2 f0 ht2
        have x1' : f_X12_readsTwo (sI μ c 16 (nI (i + 1))) c (nI t) 12 60 = some (-9, μ') := x1
        refine ⟨fun x q => (by cases q), fun f q => ?_⟩
        cases q
        refine ⟨μ', hitem 0 μ' z0 ?_, s1.tr x2, x3⟩
        simp (config := { decide := true }) only [↓reduceIte, Option.bind_some, Option.bind_none, f_X12_readsDial, H.1.t0, e16, ebt, pI_of H.1.t0, nI_1, x1']
      | inr v =>
        obtain ⟨v9, x1⟩ := w1 v ht2
        have x1' : f_X12_readsTwo (sI μ c 16 (nI (i + 1))) c (nI t) 12 60 = some (nI v, sI μ c 16 (nI (i + 1))) := x1
        have hne := n9 (f := v) (by omega)
        refine ⟨fun x q => ?_, fun f q => by cases q⟩
        cases q
        have T1 : tg (sI (sI μ c 16 (nI (i + 1))) c 18 (nI v)) c = 13 := H1.1.t0
        have g16 : gI (sI (sI μ c 16 (nI (i + 1))) c 18 (nI v)) c 13 16 = some (nI (i + 1)) := gI_e T1 (by rw [mI_nk (by decide), mI_eq])
        refine ⟨sI (sI (sI μ c 16 (nI (i + 1))) c 18 (nI v)) c 16 (nI (i + 3)), hitem 1 _ z1 ?_, (s1.sF (by omega)).sF (by omega), ?_⟩
        · simp (config := { decide := true }) only [↓reduceIte, Option.bind_some, Option.bind_none, f_X12_readsDial, H.1.t0, e16, ebt, pI_of H.1.t0, nI_1, x1', hne, pI_of H1.1.t0, g16, ei3, pI_of T1]
        · obtain ⟨r1, r2, r3, r4, r5, r6⟩ := hr1
          exact ⟨mI_eq, by rw [mI_nk (by decide), mI_nk (by decide)]; exact r2, by rw [mI_nk (by decide), mI_eq], by rw [mI_nk (by decide), mI_nk (by decide)]; exact r4, r5, fun x hx => ⟨((mI_ne (by omega)).trans (mI_ne (by omega))).trans (r6 x hx).1, ((mI_ne (by omega)).trans (mI_ne (by omega))).trans (r6 x hx).2⟩⟩
    · rw [if_neg g1]
      refine ⟨fun x q => (by cases q), fun f q => ?_⟩
      cases q
      refine ⟨μ, hitem 0 μ z0 ?_, SM.rf μ c, hr.1⟩
      simp (config := { decide := true }) only [↓reduceIte, Option.bind_some, Option.bind_none, f_X12_readsDial, H.1.t0, e16, ebt, g1]
  · rw [if_neg hte]
    have hte2 : 12 ≤ P.te ∧ P.te ≤ 60 := by
      rcases p3 with ⟨q, _⟩ | q
      · exact absurd q hte
      · exact q
    have t0 : ¬ nI P.te = 0 := nI_ne0 (by omega) (by omega)
    by_cases g1 : T.2 t i = 101
    · rw [if_pos g1]
      rw [g1] at ebt
      have hitem : ∀ x μ', zb x = some x → f_X12_readsRent μ c (nI t) = some (x, μ') → f_X12_readsItem μ c (nI t) = some (x, μ') := fun x μ' q0 q => by
        simp (config := { decide := true }) only [↓reduceIte, Option.bind_some, Option.bind_none, f_X12_readsItem, H.1.t0, e18, t0, e16, ebt, q, q0]
      by_cases b : P.n = 0 ∨ 6 ≤ P.rm
      · rw [if_pos b]
        refine ⟨fun x q => (by cases q), fun f q => ?_⟩
        cases q
        refine ⟨μ, hitem 0 μ z0 ?_, SM.rf μ c, hr.1⟩
        by_cases b1' : P.n = 0
        · have n0 : nI P.n = 0 := congrArg nI b1'
          simp (config := { decide := true }) only [↓reduceIte, Option.bind_some, Option.bind_none, f_X12_readsRent, H.1.t0, e17, n0]
        · have n0 : ¬ nI P.n = 0 := nI_ne0 (by omega) (by omega)
          have n6 : nI P.rm = 6 := (show nI P.rm = nI 6 from congrArg nI (by omega))
          simp (config := { decide := true }) only [↓reduceIte, Option.bind_some, Option.bind_none, f_X12_readsRent, H.1.t0, e17, n0, e19, n6]
      · rw [if_neg b]
        have n0 : ¬ nI P.n = 0 := nI_ne0 (by omega) (by omega)
        have n6 : ¬ nI P.rm = 6 := fun q => by
          have := (nI_eq (b := 6) (by omega) (by decide)).mp q
          omega
        have ep : nI P.te - 1 = nI (P.te - 1) := pred1 (by omega)
        obtain ⟨w1, w2⟩ := m_two (lo := 1) (hi := P.te - 1) H1 ht hm hm6 (show i + 1 ≤ m by omega) (by decide) (by omega) hr1
        show (∀ x, (match two (T.2 t) m (i + 1) 1 (P.te - 1) with | .inl f => .inl f | .inr v => if isr P.rs v = true then .inl (i + 1) else .inr (i + 3, (P.n, P.te, orb P.rs v, P.rm + 1, P.kd, P.ft))) = Sum.inr x → _) ∧ ∀ f, (match two (T.2 t) m (i + 1) 1 (P.te - 1) with | .inl f => .inl f | .inr v => if isr P.rs v = true then .inl (i + 1) else .inr (i + 3, (P.n, P.te, orb P.rs v, P.rm + 1, P.kd, P.ft))) = Sum.inl f → _
        cases ht2 : two (T.2 t) m (i + 1) 1 (P.te - 1) with
        | inl f0 =>
          obtain ⟨μ', x1, x2, x3⟩ := w2 f0 ht2
          have x1' : f_X12_readsTwo (sI μ c 16 (nI (i + 1))) c (nI t) 1 (nI (P.te - 1)) = some (-9, μ') := x1
          refine ⟨fun x q => (by cases q), fun f q => ?_⟩
          cases q
          refine ⟨μ', hitem 0 μ' z0 ?_, s1.tr x2, x3⟩
          simp (config := { decide := true }) only [↓reduceIte, Option.bind_some, Option.bind_none, f_X12_readsRent, H.1.t0, e17, n0, e19, n6, e16, pI_of H.1.t0, nI_1, d18, ep, x1']
        | inr v =>
          obtain ⟨v1, v2, v3⟩ := two_in ht2
          obtain ⟨v9, x1⟩ := w1 v ht2
          have x1' : f_X12_readsTwo (sI μ c 16 (nI (i + 1))) c (nI t) 1 (nI (P.te - 1)) = some (nI v, sI μ c 16 (nI (i + 1))) := x1
          have hne := n9 (f := v) (by omega)
          have hrs := rentS (rs := P.rs) (show v < 64 by omega)
          by_cases cc : isr P.rs v = true
          · have hc := hrs.mpr cc
            show (∀ x, (if isr P.rs v = true then _ else _) = Sum.inr x → _) ∧ ∀ f, (if isr P.rs v = true then _ else _) = Sum.inl f → _
            rw [if_pos cc]
            refine ⟨fun x q => (by cases q), fun f q => ?_⟩
            cases q
            refine ⟨sI μ c 16 (nI (i + 1)), hitem 0 _ z0 ?_, s1, mI_eq⟩
            simp (config := { decide := true }) only [↓reduceIte, Option.bind_some, Option.bind_none, f_X12_readsRent, H.1.t0, e17, n0, e19, n6, e16, pI_of H.1.t0, nI_1, d18, ep, x1', hne, d20, hc]
          · have hc : ¬ (lg_cmp ((P.rs >>> ((nI v).toInt64 &&& 63)) &&& (1 : Int64)) (1 : Int64) = 0) := fun q => cc (hrs.mp q)
            show (∀ x, (if isr P.rs v = true then _ else _) = Sum.inr x → _) ∧ ∀ f, (if isr P.rs v = true then _ else _) = Sum.inl f → _
            rw [if_neg cc]
            refine ⟨fun x q => ?_, fun f q => by cases q⟩
            cases q
            have qL : pL (sI μ c 16 (nI (i + 1))) c 13 20 (P.rs ||| ((1 : Int64) <<< ((nI v).toInt64 &&& 63))) = some (sL (sI μ c 16 (nI (i + 1))) c 20 (orb P.rs v)) := pL_of H1.1.t0
            have T1 : tg (sL (sI μ c 16 (nI (i + 1))) c 20 (orb P.rs v)) c = 13 := H1.1.t0
            have g19 : gI (sL (sI μ c 16 (nI (i + 1))) c 20 (orb P.rs v)) c 13 19 = some (nI P.rm) := d19
            have T2 : tg (sI (sL (sI μ c 16 (nI (i + 1))) c 20 (orb P.rs v)) c 19 (nI (P.rm + 1))) c = 13 := H1.1.t0
            have g16 : gI (sI (sL (sI μ c 16 (nI (i + 1))) c 20 (orb P.rs v)) c 19 (nI (P.rm + 1))) c 13 16 = some (nI (i + 1)) := gI_e T2 (by
              rw [mI_nk (by decide)]
              show mI (sI μ c 16 (nI (i + 1))) c 16 = _
              rw [mI_eq])
            refine ⟨sI (sI (sL (sI μ c 16 (nI (i + 1))) c 20 (orb P.rs v)) c 19 (nI (P.rm + 1))) c 16 (nI (i + 3)), hitem 1 _ z1 ?_, ((s1.sG (by omega)).sF (by omega)).sF (by omega), ?_⟩
            · simp (config := { decide := true }) only [↓reduceIte, Option.bind_some, Option.bind_none, f_X12_readsRent, H.1.t0, e17, n0, e19, n6, e16, pI_of H.1.t0, nI_1, d18, ep, x1', hne, d20, hc, qL, g19, pI_of T1, g16, ei3, pI_of T2]
            · obtain ⟨r1, r2, r3, r4, r5, r6⟩ := hr1
              refine ⟨mI_eq, by rw [mI_nk (by decide), mI_nk (by decide)]; exact r2, by rw [mI_nk (by decide), mI_nk (by decide)]; exact r3, by rw [mI_nk (by decide), mI_eq], ?_, fun x hx => by rw [mI_ne (by omega), mI_ne (by omega), mI_ne (by omega), mI_ne (by omega)]; exact r6 x hx⟩
              show mL (sL (sI μ c 16 (nI (i + 1))) c 20 (orb P.rs v)) c 20 = _
              rw [mL_eq]
    · rw [if_neg g1]
      have hitem : ∀ x μ', zb x = some x → f_X12_readsGuild μ c (nI t) = some (x, μ') → f_X12_readsItem μ c (nI t) = some (x, μ') := fun x μ' q0 q => by
        simp (config := { decide := true }) only [↓reduceIte, Option.bind_some, Option.bind_none, f_X12_readsItem, H.1.t0, e18, t0, e16, ebt, g1, q, q0]
      have ek := m_kof μ (T.2 t i)
      cases hk : kof (T.2 t i) with
      | none =>
        rw [hk] at ek
        have ek' : f_X12_kindOf μ (T.2 t i) = some (-9) := ek
        refine ⟨fun x q => (by cases q), fun f q => ?_⟩
        cases q
        refine ⟨μ, hitem 0 μ z0 ?_, SM.rf μ c, hr.1⟩
        simp (config := { decide := true }) only [↓reduceIte, Option.bind_some, Option.bind_none, f_X12_readsGuild, H.1.t0, e16, ebt, ek']
      | some k =>
        have hk6 := kof_lt hk
        rw [hk] at ek
        have ek' : f_X12_kindOf μ (T.2 t i) = some (nI k) := ek
        have hk9 := n9 (f := k) (by omega)
        show (∀ x, (if 6 ≤ P.n ∨ 0 < P.rm then _ else _) = Sum.inr x → _) ∧ ∀ f, (if 6 ≤ P.n ∨ 0 < P.rm then _ else _) = Sum.inl f → _
        by_cases b : 6 ≤ P.n ∨ 0 < P.rm
        · rw [if_pos b]
          refine ⟨fun x q => (by cases q), fun f q => ?_⟩
          cases q
          refine ⟨μ, hitem 0 μ z0 ?_, SM.rf μ c, hr.1⟩
          by_cases b6 : 0 < P.rm
          · have r0 : 0 < nI P.rm := (show nI 0 < nI P.rm from nI_lt b6 (by omega))
            simp (config := { decide := true }) only [↓reduceIte, Option.bind_some, Option.bind_none, f_X12_readsGuild, H.1.t0, e16, ebt, ek', hk9, e19, r0]
          · have r0 : ¬ 0 < nI P.rm := by rw [show P.rm = 0 by omega]; decide
            have n6 : nI P.n = 6 := (show nI P.n = nI 6 from congrArg nI (by omega))
            simp (config := { decide := true }) only [↓reduceIte, Option.bind_some, Option.bind_none, f_X12_readsGuild, H.1.t0, e16, ebt, ek', hk9, e19, r0, e17, n6]
        · rw [if_neg b]
          have r0 : ¬ 0 < nI P.rm := by rw [show P.rm = 0 by omega]; decide
          have n6 : ¬ nI P.n = 6 := fun q => by
            have := (nI_eq (b := 6) (by omega) (by decide)).mp q
            omega
          have eb2 := m_byt H1 ht hm hm6 (show i + 1 < 2 ^ 31 by omega)
          have ein := in_19 (sI μ c 16 (nI (i + 1))) (byt (T.2 t) m (i + 1))
          have hbf := byt_f (T.2 t) m (i + 1)
          by_cases d : i + 1 < m ∧ isf (T.2 t (i + 1)) = true ∧ fig (T.2 t (i + 1)) ≠ 0
          · rw [if_pos d]
            have hby : byt (T.2 t) m (i + 1) = T.2 t (i + 1) := if_pos d.1
            rw [hby] at eb2 ein
            obtain ⟨f1, f2, f3⟩ := isf_fig d.2.1
            rw [d.2.1, decide_eq_true d.2.2, f3] at ein
            have ein' : f_X12_in (sI μ c 16 (nI (i + 1))) (nI (fig (T.2 t (i + 1)))) 1 9 = some 1 := ein
            refine ⟨fun x q => ?_, fun f q => by cases q⟩
            cases q
            have qa := qI_of (v := nI k) H1.1.t9 (show P.n < ln (sI μ c 16 (nI (i + 1))) (c + 9) by rw [H1.1.n9]; omega) (by omega)
            have sA : SM μ (sI (sI μ c 16 (nI (i + 1))) (c + 9) P.n (nI k)) c := s1.sI (by unfold asd; omega)
            have H2 := H.scr sA
            have g17 : gI (sI (sI μ c 16 (nI (i + 1))) (c + 9) P.n (nI k)) c 13 17 = some (nI P.n) := gI_e H2.1.t0 (by rw [mI_ne (by omega)]; exact hr1.2.1)
            have qb := qI_of (v := nI (fig (T.2 t (i + 1)))) H2.1.t10 (show P.n < ln (sI (sI μ c 16 (nI (i + 1))) (c + 9) P.n (nI k)) (c + 10) by rw [H2.1.n10]; omega) (by omega)
            have sB : SM μ (sI (sI (sI μ c 16 (nI (i + 1))) (c + 9) P.n (nI k)) (c + 10) P.n (nI (fig (T.2 t (i + 1))))) c := sA.sI (by unfold asd; omega)
            have H3 := H.scr sB
            have g17b : gI (sI (sI (sI μ c 16 (nI (i + 1))) (c + 9) P.n (nI k)) (c + 10) P.n (nI (fig (T.2 t (i + 1))))) c 13 17 = some (nI P.n) := gI_e H3.1.t0 (by rw [mI_ne (by omega), mI_ne (by omega)]; exact hr1.2.1)
            have T4 : tg (sI (sI (sI (sI μ c 16 (nI (i + 1))) (c + 9) P.n (nI k)) (c + 10) P.n (nI (fig (T.2 t (i + 1))))) c 17 (nI (P.n + 1))) c = 13 := H3.1.t0
            have g16 : gI (sI (sI (sI (sI μ c 16 (nI (i + 1))) (c + 9) P.n (nI k)) (c + 10) P.n (nI (fig (T.2 t (i + 1))))) c 17 (nI (P.n + 1))) c 13 16 = some (nI (i + 1)) := gI_e T4 (by rw [mI_nk (by decide), mI_ne (by omega), mI_ne (by omega)]; exact hr1.1)
            refine ⟨sI (sI (sI (sI (sI μ c 16 (nI (i + 1))) (c + 9) P.n (nI k)) (c + 10) P.n (nI (fig (T.2 t (i + 1))))) c 17 (nI (P.n + 1))) c 16 (nI (i + 2)), hitem 1 _ z1 ?_, (sB.sF (by omega)).sF (by omega), ?_⟩
            · have e11 : nI P.n + 1 = nI (P.n + 1) := nI_1 _
              have e12 : nI i + 1 = nI (i + 1) := nI_1 _
              simp (config := { decide := true }) only [↓reduceIte, Option.bind_some, Option.bind_none, f_X12_readsGuild, H.1.t0, e16, ebt, ek', hk9, e19, r0, e17, n6, pI_of H.1.t0, e12, d16, eb2, f3, ein', gP_of H1.1.t0 H1.1.p0_21, d17, qa, gP_of H2.1.t0 H2.1.p0_22, g17, qb, g17b, e11, pI_of H3.1.t0, g16, ei2, pI_of T4]
            · obtain ⟨r1, r2, r3, r4, r5, r6⟩ := hr1
              refine ⟨mI_eq, by rw [mI_nk (by decide), mI_eq], ?_, ?_, r5, fun x hx => ?_⟩
              · rw [mI_nk (by decide), mI_nk (by decide), mI_ne (by omega), mI_ne (by omega)]; exact r3
              · rw [mI_nk (by decide), mI_nk (by decide), mI_ne (by omega), mI_ne (by omega)]; exact r4
              · have hx : x < P.n + 1 := hx
                show _ = nI (u1 P.kd P.n k x) ∧ _ = nI (u1 P.ft P.n (fig (T.2 t (i + 1))) x)
                by_cases y : x = P.n
                · subst y
                  refine ⟨?_, ?_⟩
                  · rw [mI_ne (by omega), mI_ne (by omega), mI_ne (by omega), mI_eq, u1_eq]
                  · rw [mI_ne (by omega), mI_ne (by omega), mI_eq, u1_eq]
                · obtain ⟨r8, r9⟩ := r6 x (by omega)
                  refine ⟨?_, ?_⟩
                  · rw [mI_ne (by omega), mI_ne (by omega), mI_ne (by omega), mI_nk y, u1_ne y]; exact r8
                  · rw [mI_ne (by omega), mI_ne (by omega), mI_nk y, mI_ne (by omega), u1_ne y]; exact r9
          · rw [if_neg d]
            refine ⟨fun x q => (by cases q), fun f q => ?_⟩
            cases q
            have hz : (isf (byt (T.2 t) m (i + 1)) && decide (fig (byt (T.2 t) m (i + 1)) ≠ 0)) = false := by
              cases hq : isf (byt (T.2 t) m (i + 1)) with
              | false => rfl
              | true =>
                obtain ⟨l1, l2⟩ := hbf.mp hq
                have hby : byt (T.2 t) m (i + 1) = T.2 t (i + 1) := if_pos l1
                rw [hby, decide_eq_false (fun q => d ⟨l1, l2, q⟩)]; rfl
            rw [hz] at ein
            have ein' : f_X12_in (sI μ c 16 (nI (i + 1))) (byt (T.2 t) m (i + 1) - 48) 1 9 = some 0 := ein
            refine ⟨sI μ c 16 (nI (i + 1)), hitem 0 _ z0 ?_, s1, mI_eq⟩
            simp (config := { decide := true }) only [↓reduceIte, Option.bind_some, Option.bind_none, f_X12_readsGuild, H.1.t0, e16, ebt, ek', hk9, e19, r0, e17, n6, pI_of H.1.t0, nI_1, d16, eb2, ein']
theorem m_fl (ht : t < 4) (hm : T.1 t = some m) (hm6 : m ≤ 60) : ∀ (k f d i : Nat) (P : PS) (μ : Mm), m - i ≤ k → k < f → m < i + d → i ≤ m → PW' P → MI R T F h K μ c → RM P i μ c → (∀ Q, prs (T.2 t) m d i P = .inr Q → ∃ μ' j, lp_X12_faultOf_25 f c (nI t) μ = some (1, μ') ∧ SM μ μ' c ∧ RM Q j μ' c) ∧ (∀ fo, prs (T.2 t) m d i P = .inl fo → ∃ μ', lp_X12_faultOf_25 f c (nI t) μ = some (0, μ') ∧ SM μ μ' c ∧ mI μ' c 16 = nI fo) := by
  intro k
  induction k with
  | zero =>
    intro f d i P μ q1 q2 q3 q4 hP H hr
    obtain ⟨f, rfl⟩ : ∃ g, f = g + 1 := ⟨f - 1, by omega⟩
    obtain ⟨d, rfl⟩ : ∃ g, d = g + 1 := ⟨d - 1, by omega⟩
    obtain ⟨e16, e17, e18, e19, e20⟩ := rm_ev H hr
    have el := m_tl H ht
    rw [hm, en_some] at el
    have e1 : nI m ≤ nI i := nI_le (by omega) (by omega)
    rw [prs_s, skp_end (by omega), if_pos (show m ≤ i by omega)]
    refine ⟨fun Q q => ?_, fun fo q => by cases q⟩
    cases q
    refine ⟨μ, i, ?_, SM.rf μ c, hr⟩
    simp (config := { decide := true }) only [↓reduceIte, Option.bind_some, Option.bind_none, lp_X12_faultOf_25, e16, H.1.t0, gP_of H.1.t0 H.1.p0_1, gP_of H.1.t0 H.1.p0_5, gP_of H.1.t0 H.1.p0_6, gP_of H.1.t0 H.1.p0_7, gP_of H.1.t0 H.1.p0_8, gP_of H.1.t0 H.1.p0_9, gP_of H.1.t0 H.1.p0_14, gP_of H.1.t0 H.1.p0_15, gP_of H.1.t0 H.1.p0_21, gP_of H.1.t0 H.1.p0_22, gP_of H.1.t0 H.1.p0_23, gP_of H.1.t0 H.1.p0_24, gP_of H.1.t0 H.1.p0_26, gP_of H.1.t0 H.1.p0_27, gP_of H.1.t0 H.1.p0_28, gP_of H.1.t0 H.1.p0_29, gP_of H.1.t0 H.1.p0_30, gP_of H.1.t0 H.1.p0_31, gP_of H.1.t0 H.1.p0_32, gP_of H.1.t0 H.1.p0_33, gP_of H.1.t0 H.1.p0_40, gP_of H.1.t0 H.1.p0_41, gP_of H.1.t0 H.1.p0_46, gP_of H.1.t0 H.1.p0_47, gP_of H.1.t0 H.1.p0_48, el, e1]
  | succ k ih =>
    intro f d i P μ q1 q2 q3 q4 hP H hr
    obtain ⟨f, rfl⟩ : ∃ g, f = g + 1 := ⟨f - 1, by omega⟩
    obtain ⟨d, rfl⟩ : ∃ g, d = g + 1 := ⟨d - 1, by omega⟩
    obtain ⟨e16, e17, e18, e19, e20⟩ := rm_ev H hr
    have el := m_tl H ht
    rw [hm, en_some] at el
    by_cases hi : m ≤ i
    · have e1 : nI m ≤ nI i := nI_le hi (by omega)
      rw [prs_s, skp_end hi, if_pos hi]
      refine ⟨fun Q q => ?_, fun fo q => by cases q⟩
      cases q
      refine ⟨μ, i, ?_, SM.rf μ c, hr⟩
      simp (config := { decide := true }) only [↓reduceIte, Option.bind_some, Option.bind_none, lp_X12_faultOf_25, e16, H.1.t0, gP_of H.1.t0 H.1.p0_1, gP_of H.1.t0 H.1.p0_5, gP_of H.1.t0 H.1.p0_6, gP_of H.1.t0 H.1.p0_7, gP_of H.1.t0 H.1.p0_8, gP_of H.1.t0 H.1.p0_9, gP_of H.1.t0 H.1.p0_14, gP_of H.1.t0 H.1.p0_15, gP_of H.1.t0 H.1.p0_21, gP_of H.1.t0 H.1.p0_22, gP_of H.1.t0 H.1.p0_23, gP_of H.1.t0 H.1.p0_24, gP_of H.1.t0 H.1.p0_26, gP_of H.1.t0 H.1.p0_27, gP_of H.1.t0 H.1.p0_28, gP_of H.1.t0 H.1.p0_29, gP_of H.1.t0 H.1.p0_30, gP_of H.1.t0 H.1.p0_31, gP_of H.1.t0 H.1.p0_32, gP_of H.1.t0 H.1.p0_33, gP_of H.1.t0 H.1.p0_40, gP_of H.1.t0 H.1.p0_41, gP_of H.1.t0 H.1.p0_46, gP_of H.1.t0 H.1.p0_47, gP_of H.1.t0 H.1.p0_48, el, e1]
    · have hi : i < m := by omega
      have e1 : ¬ nI m ≤ nI i := nI_ge hi (by omega)
      have ebt := m_byteAt H ht hm hi hm6
      by_cases g : T.2 t i = 32
      · have es : prs (T.2 t) m (d + 1) i P = prs (T.2 t) m (d + 1) (i + 1) P := by rw [prs_s, prs_s, skp_step hi g]
        rw [es]
        have s1 : SM μ (sI μ c 16 (nI (i + 1))) c := (SM.rf μ c).sF (by omega)
        obtain ⟨l1, l2⟩ := ih f (d + 1) (i + 1) P _ (by omega) (by omega) (by omega) (by omega) hP (H.scr s1) hr.at16
        rw [g] at ebt
        refine ⟨fun Q q => ?_, fun fo q => ?_⟩
        · obtain ⟨μ', j, y1, y2, y3⟩ := l1 Q q
          refine ⟨μ', j, ?_, s1.tr y2, y3⟩
          simp (config := { decide := true }) only [↓reduceIte, Option.bind_some, Option.bind_none, lp_X12_faultOf_25, e16, H.1.t0, gP_of H.1.t0 H.1.p0_1, gP_of H.1.t0 H.1.p0_5, gP_of H.1.t0 H.1.p0_6, gP_of H.1.t0 H.1.p0_7, gP_of H.1.t0 H.1.p0_8, gP_of H.1.t0 H.1.p0_9, gP_of H.1.t0 H.1.p0_14, gP_of H.1.t0 H.1.p0_15, gP_of H.1.t0 H.1.p0_21, gP_of H.1.t0 H.1.p0_22, gP_of H.1.t0 H.1.p0_23, gP_of H.1.t0 H.1.p0_24, gP_of H.1.t0 H.1.p0_26, gP_of H.1.t0 H.1.p0_27, gP_of H.1.t0 H.1.p0_28, gP_of H.1.t0 H.1.p0_29, gP_of H.1.t0 H.1.p0_30, gP_of H.1.t0 H.1.p0_31, gP_of H.1.t0 H.1.p0_32, gP_of H.1.t0 H.1.p0_33, gP_of H.1.t0 H.1.p0_40, gP_of H.1.t0 H.1.p0_41, gP_of H.1.t0 H.1.p0_46, gP_of H.1.t0 H.1.p0_47, gP_of H.1.t0 H.1.p0_48, el, e1, ebt, pI_of H.1.t0, nI_1, y1]
        · obtain ⟨μ', y1, y2, y3⟩ := l2 fo q
          refine ⟨μ', ?_, s1.tr y2, y3⟩
          simp (config := { decide := true }) only [↓reduceIte, Option.bind_some, Option.bind_none, lp_X12_faultOf_25, e16, H.1.t0, gP_of H.1.t0 H.1.p0_1, gP_of H.1.t0 H.1.p0_5, gP_of H.1.t0 H.1.p0_6, gP_of H.1.t0 H.1.p0_7, gP_of H.1.t0 H.1.p0_8, gP_of H.1.t0 H.1.p0_9, gP_of H.1.t0 H.1.p0_14, gP_of H.1.t0 H.1.p0_15, gP_of H.1.t0 H.1.p0_21, gP_of H.1.t0 H.1.p0_22, gP_of H.1.t0 H.1.p0_23, gP_of H.1.t0 H.1.p0_24, gP_of H.1.t0 H.1.p0_26, gP_of H.1.t0 H.1.p0_27, gP_of H.1.t0 H.1.p0_28, gP_of H.1.t0 H.1.p0_29, gP_of H.1.t0 H.1.p0_30, gP_of H.1.t0 H.1.p0_31, gP_of H.1.t0 H.1.p0_32, gP_of H.1.t0 H.1.p0_33, gP_of H.1.t0 H.1.p0_40, gP_of H.1.t0 H.1.p0_41, gP_of H.1.t0 H.1.p0_46, gP_of H.1.t0 H.1.p0_47, gP_of H.1.t0 H.1.p0_48, el, e1, ebt, pI_of H.1.t0, nI_1, y1]
      · rw [prs_s, skp_stay hi g, if_neg (show ¬ m ≤ i by omega)]
        obtain ⟨hx1, hx2⟩ := m_item H ht hm hm6 hi hP hr
        obtain ⟨ok1, ok2⟩ := itm_ok (g := T.2 t) hP hi
        cases hI : itm (T.2 t) m i P with
        | inl f0 =>
          obtain ⟨μ', y1, y2, y3⟩ := hx2 f0 hI
          refine ⟨fun Q q => (by cases q), fun fo q => ?_⟩
          cases q
          refine ⟨μ', ?_, y2, y3⟩
          simp (config := { decide := true }) only [↓reduceIte, Option.bind_some, Option.bind_none, lp_X12_faultOf_25, e16, H.1.t0, gP_of H.1.t0 H.1.p0_1, gP_of H.1.t0 H.1.p0_5, gP_of H.1.t0 H.1.p0_6, gP_of H.1.t0 H.1.p0_7, gP_of H.1.t0 H.1.p0_8, gP_of H.1.t0 H.1.p0_9, gP_of H.1.t0 H.1.p0_14, gP_of H.1.t0 H.1.p0_15, gP_of H.1.t0 H.1.p0_21, gP_of H.1.t0 H.1.p0_22, gP_of H.1.t0 H.1.p0_23, gP_of H.1.t0 H.1.p0_24, gP_of H.1.t0 H.1.p0_26, gP_of H.1.t0 H.1.p0_27, gP_of H.1.t0 H.1.p0_28, gP_of H.1.t0 H.1.p0_29, gP_of H.1.t0 H.1.p0_30, gP_of H.1.t0 H.1.p0_31, gP_of H.1.t0 H.1.p0_32, gP_of H.1.t0 H.1.p0_33, gP_of H.1.t0 H.1.p0_40, gP_of H.1.t0 H.1.p0_41, gP_of H.1.t0 H.1.p0_46, gP_of H.1.t0 H.1.p0_47, gP_of H.1.t0 H.1.p0_48, el, e1, ebt, g, y1]
        | inr x =>
          obtain ⟨μ', y1, y2, y3⟩ := hx1 x hI
          obtain ⟨o1, o2, o3, o4⟩ := ok2 x hI
          obtain ⟨l1, l2⟩ := ih f d x.1 x.2 μ' (by omega) (by omega) (by omega) o3 o1 (H.scr y2) y3
          refine ⟨fun Q q => ?_, fun fo q => ?_⟩
          · obtain ⟨μ2, j, x1, x2, x3⟩ := l1 Q q
            refine ⟨μ2, j, ?_, y2.tr x2, x3⟩
            simp (config := { decide := true }) only [↓reduceIte, Option.bind_some, Option.bind_none, lp_X12_faultOf_25, e16, H.1.t0, gP_of H.1.t0 H.1.p0_1, gP_of H.1.t0 H.1.p0_5, gP_of H.1.t0 H.1.p0_6, gP_of H.1.t0 H.1.p0_7, gP_of H.1.t0 H.1.p0_8, gP_of H.1.t0 H.1.p0_9, gP_of H.1.t0 H.1.p0_14, gP_of H.1.t0 H.1.p0_15, gP_of H.1.t0 H.1.p0_21, gP_of H.1.t0 H.1.p0_22, gP_of H.1.t0 H.1.p0_23, gP_of H.1.t0 H.1.p0_24, gP_of H.1.t0 H.1.p0_26, gP_of H.1.t0 H.1.p0_27, gP_of H.1.t0 H.1.p0_28, gP_of H.1.t0 H.1.p0_29, gP_of H.1.t0 H.1.p0_30, gP_of H.1.t0 H.1.p0_31, gP_of H.1.t0 H.1.p0_32, gP_of H.1.t0 H.1.p0_33, gP_of H.1.t0 H.1.p0_40, gP_of H.1.t0 H.1.p0_41, gP_of H.1.t0 H.1.p0_46, gP_of H.1.t0 H.1.p0_47, gP_of H.1.t0 H.1.p0_48, el, e1, ebt, g, y1, x1]
          · obtain ⟨μ2, x1, x2, x3⟩ := l2 fo q
            refine ⟨μ2, ?_, y2.tr x2, x3⟩
            simp (config := { decide := true }) only [↓reduceIte, Option.bind_some, Option.bind_none, lp_X12_faultOf_25, e16, H.1.t0, gP_of H.1.t0 H.1.p0_1, gP_of H.1.t0 H.1.p0_5, gP_of H.1.t0 H.1.p0_6, gP_of H.1.t0 H.1.p0_7, gP_of H.1.t0 H.1.p0_8, gP_of H.1.t0 H.1.p0_9, gP_of H.1.t0 H.1.p0_14, gP_of H.1.t0 H.1.p0_15, gP_of H.1.t0 H.1.p0_21, gP_of H.1.t0 H.1.p0_22, gP_of H.1.t0 H.1.p0_23, gP_of H.1.t0 H.1.p0_24, gP_of H.1.t0 H.1.p0_26, gP_of H.1.t0 H.1.p0_27, gP_of H.1.t0 H.1.p0_28, gP_of H.1.t0 H.1.p0_29, gP_of H.1.t0 H.1.p0_30, gP_of H.1.t0 H.1.p0_31, gP_of H.1.t0 H.1.p0_32, gP_of H.1.t0 H.1.p0_33, gP_of H.1.t0 H.1.p0_40, gP_of H.1.t0 H.1.p0_41, gP_of H.1.t0 H.1.p0_46, gP_of H.1.t0 H.1.p0_47, gP_of H.1.t0 H.1.p0_48, el, e1, ebt, g, y1, x1]
theorem m_read (ht : t < 4) (hm : T.1 t = some m) (hm6 : m ≤ 60) {μ : Mm} (H : MI R T F h K μ c) : (∀ f, par (T.2 t) m = .inl f → ∃ μ', f_X12_faultOf μ c (nI t) = some (nI f, μ') ∧ SM μ μ' c) ∧ ∀ P, par (T.2 t) m = .inr P → ∃ μ' j, f_X12_faultOf μ c (nI t) = some (-9, μ') ∧ SM μ μ' c ∧ RM P j μ' c := by
  have s0 : SM μ (sL (sI (sI (sI (sI μ c 16 0) c 17 0) c 18 0) c 19 0) c 20 0) c := (((((SM.rf μ c).sF (by omega)).sF (by omega)).sF (by omega)).sF (by omega)).sG (by omega)
  have hr0 : RM P0 0 (sL (sI (sI (sI (sI μ c 16 0) c 17 0) c 18 0) c 19 0) c 20 0) c := by
    refine ⟨?_, ?_, ?_, ?_, ?_, fun x hx => absurd hx (Nat.not_lt_zero _)⟩
    · show mI (sI (sI (sI (sI μ c 16 0) c 17 0) c 18 0) c 19 0) c 16 = _
      rw [mI_nk (by decide), mI_nk (by decide), mI_nk (by decide), mI_eq]; rfl
    · show mI (sI (sI (sI (sI μ c 16 0) c 17 0) c 18 0) c 19 0) c 17 = _
      rw [mI_nk (by decide), mI_nk (by decide), mI_eq]; rfl
    · show mI (sI (sI (sI (sI μ c 16 0) c 17 0) c 18 0) c 19 0) c 18 = _
      rw [mI_nk (by decide), mI_eq]; rfl
    · show mI (sI (sI (sI (sI μ c 16 0) c 17 0) c 18 0) c 19 0) c 19 = _
      rw [mI_eq]; rfl
    · rw [mL_eq]; rfl
  have hstart : ∀ g : Mm → Option (Int32 × Mm), (pI μ c 13 16 (0 : Int32)).bind (fun x1 => (pI x1 c 13 17 (0 : Int32)).bind fun x2 => (pI x2 c 13 18 (0 : Int32)).bind fun x3 => (pI x3 c 13 19 (0 : Int32)).bind fun x4 => (pL x4 c 13 20 (0 : Int64)).bind g) = g (sL (sI (sI (sI (sI μ c 16 0) c 17 0) c 18 0) c 19 0) c 20 0) := fun g => by
    rw [pI_of H.1.t0, Option.bind_some, pI_of (show tg (sI μ c 16 0) c = 13 from H.1.t0), Option.bind_some, pI_of (show tg (sI (sI μ c 16 0) c 17 0) c = 13 from H.1.t0), Option.bind_some, pI_of (show tg (sI (sI (sI μ c 16 0) c 17 0) c 18 0) c = 13 from H.1.t0), Option.bind_some, pL_of (show tg (sI (sI (sI (sI μ c 16 0) c 17 0) c 18 0) c 19 0) c = 13 from H.1.t0), Option.bind_some]
  generalize hμ0 : sL (sI (sI (sI (sI μ c 16 0) c 17 0) c 18 0) c 19 0) c 20 0 = μ0 at s0 hr0 hstart
  have H0 := H.scr s0
  obtain ⟨l1, l2⟩ := m_fl (F := F) (h := h) (K := K) (R := R) (c := c) ht hm hm6 m BIG 62 0 P0 μ0 (by omega) (by unfold BIG; omega) (by omega) (Nat.zero_le _) P0_ok H0 hr0
  have pok := prs_ok (g := T.2 t) (m := m) 62 0 P0 P0_ok
  unfold par
  cases hp : prs (T.2 t) m 62 0 P0 with
  | inl f0 =>
    obtain ⟨μ2, z1, z2, z3⟩ := l2 f0 hp
    have H2 := H0.scr z2
    have g16 : gI μ2 c 13 16 = some (nI f0) := gI_e H2.1.t0 z3
    refine ⟨fun f q => ?_, fun P q => by cases q⟩
    cases q
    refine ⟨μ2, ?_, s0.tr z2⟩
    unfold f_X12_faultOf
    rw [if_pos H.1.t0, hstart, z1]
    simp (config := { decide := true }) only [↓reduceIte, Option.bind_some, Option.bind_none, g16]
  | inr Q =>
    obtain ⟨μ2, j, z1, z2, z3⟩ := l1 Q hp
    have H2 := H0.scr z2
    obtain ⟨e16, e17, e18, e19, e20⟩ := rm_ev H2 z3
    have hQ := pok.2 Q hp
    have el := m_tl H2 ht
    rw [hm, en_some] at el
    show (∀ f, (if Q.n = 0 then Sum.inl m else Sum.inr Q) = Sum.inl f → _) ∧ ∀ P, (if Q.n = 0 then Sum.inl m else Sum.inr Q) = Sum.inr P → _
    by_cases y : Q.n = 0
    · rw [if_pos y]
      refine ⟨fun f q => ?_, fun P q => by cases q⟩
      cases q
      have e0 : nI Q.n = 0 := congrArg nI y
      refine ⟨μ2, ?_, s0.tr z2⟩
      unfold f_X12_faultOf
      rw [if_pos H.1.t0, hstart, z1]
      simp (config := { decide := true }) only [↓reduceIte, Option.bind_some, Option.bind_none, e17, e0, gP_of H2.1.t0 H2.1.p0_8, el]
    · rw [if_neg y]
      refine ⟨fun f q => (by cases q), fun P q => ?_⟩
      cases q
      have e0 : ¬ nI Q.n = 0 := nI_ne0 (by omega) (by have := hQ.1; omega)
      refine ⟨μ2, j, ?_, s0.tr z2, z3⟩
      unfold f_X12_faultOf
      rw [if_pos H.1.t0, hstart, z1]
      simp (config := { decide := true }) only [↓reduceIte, Option.bind_some, Option.bind_none, e17, e0]
end PM2
theorem PSI_fault : PS_fault INV := by
  intro μ a1 a2 q1 hI
  refine both_of (fx := fun μ a => f_X11_fault μ a q1) (fm := fun μ c => f_X12_fault μ c q1) ?_ μ a1 a2 hI
  intro R T F h K hw
  rcases ix2 q1 4 (by decide) with h1 | ⟨t, ht, rfl⟩
  · refine ⟨-1, R, T, F, h, K, hw, fun μ a H => XO.same H ?_, fun μ c H => MO.same H ?_⟩
    · have e := Fam.refuse_bad H.1 H.1.ft h1
      simp (config := { decide := true }) only [↓reduceIte, Option.bind_some, Option.bind_none, f_X11_fault, H.1.t0, gP_of H.1.t0 H.1.p0_0, gP_of H.1.t0 H.1.p0_1, gP_of H.1.t0 H.1.p0_2, gP_of H.1.t0 H.1.p0_3, gP_of H.1.t0 H.1.p0_4, gP_of H.1.t0 H.1.p0_5, gP_of H.1.t0 H.1.p0_6, gP_of H.1.t0 H.1.p0_7, gP_of H.1.t0 H.1.p0_8, gP_of H.1.t0 H.1.p0_9, e]
    · simp (config := { decide := true }) only [↓reduceIte, Option.bind_some, Option.bind_none, f_X12_fault, H.1.t0, isText_bad h1]
  cases hm : T.1 t with
  | none =>
    refine ⟨-3, R, T, fnd F 1, h, K, hw, fun μ a H => XO.find H (by decide) ?_, fun μ c H => MO.find H (by decide) ?_⟩
    · have e := Fam.refuse_no H.1 H.1.ft ht ((H.2.2.1 t ht).1.trans (by rw [hm]; rfl))
      simp (config := { decide := true }) only [↓reduceIte, Option.bind_some, Option.bind_none, f_X11_fault, H.1.t0, gP_of H.1.t0 H.1.p0_0, gP_of H.1.t0 H.1.p0_1, gP_of H.1.t0 H.1.p0_2, gP_of H.1.t0 H.1.p0_3, gP_of H.1.t0 H.1.p0_4, gP_of H.1.t0 H.1.p0_5, gP_of H.1.t0 H.1.p0_6, gP_of H.1.t0 H.1.p0_7, gP_of H.1.t0 H.1.p0_8, gP_of H.1.t0 H.1.p0_9, e]
    · have el := m_tl H ht
      rw [hm] at el
      simp (config := { decide := true }) only [↓reduceIte, Option.bind_some, Option.bind_none, f_X12_fault, H.1.t0, gP_of H.1.t0 H.1.p0_1, gP_of H.1.t0 H.1.p0_5, gP_of H.1.t0 H.1.p0_6, gP_of H.1.t0 H.1.p0_7, gP_of H.1.t0 H.1.p0_8, gP_of H.1.t0 H.1.p0_9, gP_of H.1.t0 H.1.p0_14, gP_of H.1.t0 H.1.p0_15, gP_of H.1.t0 H.1.p0_21, gP_of H.1.t0 H.1.p0_22, gP_of H.1.t0 H.1.p0_23, gP_of H.1.t0 H.1.p0_24, gP_of H.1.t0 H.1.p0_26, gP_of H.1.t0 H.1.p0_27, gP_of H.1.t0 H.1.p0_28, gP_of H.1.t0 H.1.p0_29, gP_of H.1.t0 H.1.p0_30, gP_of H.1.t0 H.1.p0_31, gP_of H.1.t0 H.1.p0_32, gP_of H.1.t0 H.1.p0_33, gP_of H.1.t0 H.1.p0_40, gP_of H.1.t0 H.1.p0_41, gP_of H.1.t0 H.1.p0_46, gP_of H.1.t0 H.1.p0_47, gP_of H.1.t0 H.1.p0_48, isText_ok ht, el, en_no, mf1 H.1]
  | some m =>
    have hm6 : m ≤ 60 := hw.2.1 t ht m hm
    have hm0 : 0 ≤ nI m := i_pos (by omega)
    have hxr : ∀ μ a, XI R T F h K μ a → f_X11_refuse μ a (a + 2) (nI t) = some (0, μ) := fun μ a H => Fam.refuse_ok H.1 H.1.ft ht ((H.2.2.1 t ht).1.trans (by rw [hm]; rfl)) (show m < 2 ^ 31 by omega)
    cases hp : par (T.2 t) m with
    | inl f =>
      refine ⟨nI f, R, T, F, h, K, hw, fun μ a H => ?_, fun μ c H => ?_⟩
      · obtain ⟨μ', y1, y2⟩ := (x_read ht hm hm6 H).1 f hp
        refine XO.scr y2 (XO.same (H.scr y2) ?_)
        simp (config := { decide := true }) only [↓reduceIte, Option.bind_some, Option.bind_none, f_X11_fault, H.1.t0, gP_of H.1.t0 H.1.p0_0, gP_of H.1.t0 H.1.p0_1, gP_of H.1.t0 H.1.p0_2, gP_of H.1.t0 H.1.p0_3, gP_of H.1.t0 H.1.p0_4, gP_of H.1.t0 H.1.p0_5, gP_of H.1.t0 H.1.p0_6, gP_of H.1.t0 H.1.p0_7, gP_of H.1.t0 H.1.p0_8, gP_of H.1.t0 H.1.p0_9, hxr μ a H, H.1.ft.get ht, y1]
      · obtain ⟨μ', y1, y2⟩ := (m_read ht hm hm6 H).1 f hp
        have el := m_tl H ht
        rw [hm, en_some] at el
        refine MO.scr y2 (MO.same (H.scr y2) ?_)
        simp (config := { decide := true }) only [↓reduceIte, Option.bind_some, Option.bind_none, f_X12_fault, H.1.t0, gP_of H.1.t0 H.1.p0_1, gP_of H.1.t0 H.1.p0_5, gP_of H.1.t0 H.1.p0_6, gP_of H.1.t0 H.1.p0_7, gP_of H.1.t0 H.1.p0_8, gP_of H.1.t0 H.1.p0_9, gP_of H.1.t0 H.1.p0_14, gP_of H.1.t0 H.1.p0_15, gP_of H.1.t0 H.1.p0_21, gP_of H.1.t0 H.1.p0_22, gP_of H.1.t0 H.1.p0_23, gP_of H.1.t0 H.1.p0_24, gP_of H.1.t0 H.1.p0_26, gP_of H.1.t0 H.1.p0_27, gP_of H.1.t0 H.1.p0_28, gP_of H.1.t0 H.1.p0_29, gP_of H.1.t0 H.1.p0_30, gP_of H.1.t0 H.1.p0_31, gP_of H.1.t0 H.1.p0_32, gP_of H.1.t0 H.1.p0_33, gP_of H.1.t0 H.1.p0_40, gP_of H.1.t0 H.1.p0_41, gP_of H.1.t0 H.1.p0_46, gP_of H.1.t0 H.1.p0_47, gP_of H.1.t0 H.1.p0_48, isText_ok ht, el, hm0, y1]
    | inr P =>
      refine ⟨-9, R, T, F, h, K, hw, fun μ a H => ?_, fun μ c H => ?_⟩
      · obtain ⟨μ', j, y1, y2, -⟩ := (x_read ht hm hm6 H).2 P hp
        refine XO.scr y2 (XO.same (H.scr y2) ?_)
        simp (config := { decide := true }) only [↓reduceIte, Option.bind_some, Option.bind_none, f_X11_fault, H.1.t0, gP_of H.1.t0 H.1.p0_0, gP_of H.1.t0 H.1.p0_1, gP_of H.1.t0 H.1.p0_2, gP_of H.1.t0 H.1.p0_3, gP_of H.1.t0 H.1.p0_4, gP_of H.1.t0 H.1.p0_5, gP_of H.1.t0 H.1.p0_6, gP_of H.1.t0 H.1.p0_7, gP_of H.1.t0 H.1.p0_8, gP_of H.1.t0 H.1.p0_9, hxr μ a H, H.1.ft.get ht, y1]
      · obtain ⟨μ', j, y1, y2, -⟩ := (m_read ht hm hm6 H).2 P hp
        have el := m_tl H ht
        rw [hm, en_some] at el
        refine MO.scr y2 (MO.same (H.scr y2) ?_)
        simp (config := { decide := true }) only [↓reduceIte, Option.bind_some, Option.bind_none, f_X12_fault, H.1.t0, gP_of H.1.t0 H.1.p0_1, gP_of H.1.t0 H.1.p0_5, gP_of H.1.t0 H.1.p0_6, gP_of H.1.t0 H.1.p0_7, gP_of H.1.t0 H.1.p0_8, gP_of H.1.t0 H.1.p0_9, gP_of H.1.t0 H.1.p0_14, gP_of H.1.t0 H.1.p0_15, gP_of H.1.t0 H.1.p0_21, gP_of H.1.t0 H.1.p0_22, gP_of H.1.t0 H.1.p0_23, gP_of H.1.t0 H.1.p0_24, gP_of H.1.t0 H.1.p0_26, gP_of H.1.t0 H.1.p0_27, gP_of H.1.t0 H.1.p0_28, gP_of H.1.t0 H.1.p0_29, gP_of H.1.t0 H.1.p0_30, gP_of H.1.t0 H.1.p0_31, gP_of H.1.t0 H.1.p0_32, gP_of H.1.t0 H.1.p0_33, gP_of H.1.t0 H.1.p0_40, gP_of H.1.t0 H.1.p0_41, gP_of H.1.t0 H.1.p0_46, gP_of H.1.t0 H.1.p0_47, gP_of H.1.t0 H.1.p0_48, isText_ok ht, el, hm0, y1]
