/-! ===== sets that fit ===== -/
set_option maxRecDepth 100000 in
theorem bt_sub0 : ∀ x, x < 64 → ∀ s, s < 64 → x &&& s = x → (nI x &&& (nI s ^^^ (-1 : Int32))) = 0 := by decide +kernel
section FI
variable {b L : Nat} {xs : Nat → Int32} {T : GR} {h : GH} {K : GK} {a : Nat}
/-- what a set treads, as far as a guild -/
def smk (h : GH) (s k : Nat) : Nat := sumN (fun g => if s.testBit g then h.tr g else 0) k
theorem fi_188 (sc : SC) (w : WH h) (h0 : ¬ h.n = 0) (hs : h.sp.length ≤ 20) {s : Nat} (hs6 : s < 64) {p3 p4 p5 p13 : Int32} : ∀ (f k : Nat) (μ : Mm) (h' : GH) (l : List Nat), k ≤ h.n → h.n < k + f → Fur h h' → h'.sp = h.sp ++ l → l.length ≤ k → h'.q.1 = (h.q.1 + smk h s k) % h.te → JJ h' T K a μ → ∃ μ' h'' l', lp_L_fitted_188 sc f a (nI h.n) p3 p4 p5 (nI s) p13 (nI l.length) (nI k) μ = some (1, nI l'.length, μ') ∧ Fur h h'' ∧ h''.sp = h.sp ++ l' ∧ h''.q.1 = (h.q.1 + smt h.tr h.n s) % h.te ∧ JJ h'' T K a μ' := by
  have hn6 := w.1
  have t1 := w.te_ge h0
  have t2 := w.te_lt
  intro f
  induction f with
  | zero => intro k μ h' l q1 q2; omega
  | succ f ih =>
    intro k μ h' l q1 q2 hf hsp hl hq hJ
    by_cases e : k = h.n
    · have e1 : nI h.n ≤ nI k := by rw [e]; exact Int32.le_refl _
      refine ⟨μ, h', l, ?_, hf, hsp, ?_, hJ⟩
      · simp (config := { decide := true }) only [↓reduceIte, Option.bind_some, Option.bind_none, lp_L_fitted_188, e1]
      · rw [hq, e]; rfl
    · have e1 : ¬ nI h.n ≤ nI k := nI_ge (by omega) (by omega)
      have hk : k < h.n := by omega
      have eb := (bt_tab s hs6 k (by omega)).1
      by_cases z : s.testBit k = true
      · rw [if_pos z] at eb
        obtain ⟨μ1, y1, J1⟩ := J_walk hf hk hn6 (by rw [hsp, List.length_append]; omega) hJ
        obtain ⟨f1, f2, f3, f4⟩ := hf.walk (show k < 6 by omega)
        have hX : (h'.q.1 + h.tr k) % h.te < h.te := Nat.mod_lt _ (by omega)
        have e2 : 0 ≤ nI ((h'.q.1 + h.tr k) % h.te) := nI_pos' (by omega)
        obtain ⟨μ', h'', l', z1, z2⟩ := ih (k + 1) μ1 (h'.wsp (h'.sp ++ [k])) (l ++ [k]) (by omega) (by omega) f1 (by rw [f4, hsp, List.append_assoc]) (by rw [List.length_append]; show l.length + 1 ≤ k + 1; omega) (by
          rw [f2, hq, Nat.mod_add_mod]
          unfold smk
          rw [sumN_s, if_pos z, Nat.add_assoc]) J1
        have el : nI l.length + 1 = nI (l ++ [k]).length := by rw [nI_1, List.length_append]; rfl
        refine ⟨μ', h'', l', ?_, z2⟩
        simp (config := { decide := true }) only [↓reduceIte, Option.bind_some, Option.bind_none, lp_L_fitted_188, e1, eb, y1, e2, el, nI_1, z1]
      · rw [if_neg z] at eb
        obtain ⟨μ', h'', l', z1, z2⟩ := ih (k + 1) μ h' l (by omega) (by omega) hf hsp (by omega) (by
          rw [hq]
          unfold smk
          rw [sumN_s, if_neg z, Nat.add_zero]) hJ
        refine ⟨μ', h'', l', ?_, z2⟩
        simp (config := { decide := true }) only [↓reduceIte, Option.bind_some, Option.bind_none, lp_L_fitted_188, e1, eb, nI_1, z1]
theorem L_fitted (hL : L ≤ 260) (h0 : ¬ h.n = 0) (hs : h.sp.length ≤ 20) {μ : Mm} (hJ : JJ h T K a μ) : ∃ μ', f_L_fitted (b, L, xs) μ a b (nI h.n) (nI h.sp.length) = some (1, μ') ∧ JJ h T K a μ' := by
  have w := hJ.w
  have hn6 := w.1
  have t1 := w.te_ge h0
  have t2 := w.te_lt
  have tn := w.now_lt h0
  have hp6 := bt_p6 hn6
  have hp0 := Nat.two_pow_pos h.n
  obtain ⟨c, hc, ec⟩ := L_cell (b := b) (xs := xs) hL (show 43 ≤ 60 by decide)
  have e28 : (2 : Nat) ^ 28 = 268435456 := by decide
  have ec' : f_L_cell (b, L, xs) μ b 43 = some (nI c) := ec μ
  have ht : c % h.te < h.te := Nat.mod_lt _ (by omega)
  have em : nI c - nI c / nI h.te * nI h.te = nI (c % h.te) := pk_rem (by omega) (by omega) (by omega)
  have ht0 : ¬ nI h.te = 0 := nI_ne0 (by omega) (by omega)
  generalize c % h.te = t at ht em
  obtain ⟨R, F, H, hw, hR⟩ := hJ
  have e1 : f_X11_count μ a 1 = some (nI h.te) := P_count H hw (j := 1) (by decide)
  have hN := nft_le h t
  obtain ⟨μ1, y1, H1, -, -⟩ := P_fits w ht H
  rw [rat_1] at H1
  have y2 : f_L_gave μ1 a 1 = some (ofn (fst (fit h t) (2 ^ h.n) 0)) := L_gave (P_asked H1)
  have y3 : f_X11_upper μ1 a = some (lN (nft h t)) := P_upper H1
  by_cases z : nft h t = 0
  · have hz : fst (fit h t) (2 ^ h.n) 0 = none := by
      refine fst_none _ _ _ fun i _ hi => ?_
      exact (cntP_zero _).mp z i (by omega)
    rw [hz] at y2
    have y2 : f_L_gave μ1 a 1 = some (-9) := y2
    obtain ⟨μ2, y4, H2, -, -⟩ := P_sure_no w ht z H1
    have y5 := P_asked H2
    have y6 : f_X11_finding μ2 a = some 4 := P_finding H2
    have c1 : lg_cmp (lN (nft h t)) 0 = 0 := (lcmp_eq0 (by omega)).mpr z
    refine ⟨μ2, ?_, R, _, H2, hw, hR⟩
    simp (config := { decide := true }) only [↓reduceIte, Option.bind_some, Option.bind_none, f_L_fitted, e1, ec', ht0, em, y1, y2, y3, y4, y5, y6, c1]
  · obtain ⟨s, s1, s2, s3⟩ := nft_pos.mp z
    rw [s2] at y2
    have y2 : f_L_gave μ1 a 1 = some (nI s) := y2
    obtain ⟨μ2, y4, H2, -, -⟩ := P_sure w ht z H1
    have y5 : f_X11_asked μ2 a = some (nI (nwh h t)) := P_asked H2
    obtain ⟨μ3, y6, H3, -, -⟩ := P_ask w ht z H2
    obtain ⟨k1, k2, k3⟩ := ask_ok (h := h) (t := t) h0
    generalize (lst (grt h t) (nft h t + 1) h.n).2 = i2 at y6 k1
    have y7 : f_X11_asked μ3 a = some (nI (lst (grt h t) (nft h t + 1) h.n).1) := P_asked H3
    generalize (lst (grt h t) (nft h t + 1) h.n).1 = mo at y7 k2 k3
    have hsu := sur_lt h t
    have hnw := nwh_lt h t
    have c1 : ¬ lg_cmp (lN (nft h t)) 0 = 0 := fun q => z ((lcmp_eq0 (by omega)).mp q)
    have c2 : ¬ nI s < 0 := nI_pos (by omega)
    have c3 : ¬ ((1 : Int32) <<< (nI h.n &&& 31)) ≤ nI s := by rw [bt_one h.n (by omega)]; exact nI_ge s1 (by omega)
    have hsub := sur_in s1 s3
    have c4 : (nI (sur h t) &&& (nI s ^^^ (-1 : Int32))) = 0 := bt_sub0 _ (by omega) _ (by omega) (by
      apply Nat.eq_of_testBit_eq
      intro j
      rw [Nat.testBit_and]
      cases q : (sur h t).testBit j with
      | false => rfl
      | true => rw [hsub j q]; rfl)
    have c5 : (nI (nwh h t) &&& nI s) = 0 := by
      rw [(bt_or _ (by omega) _ (by omega)).2]
      have : nwh h t &&& s = 0 := by
        apply Nat.eq_of_testBit_eq
        intro j
        rw [Nat.testBit_and, Nat.zero_testBit]
        cases q : (nwh h t).testBit j with
        | false => rfl
        | true => rw [nwh_in s1 s3 j q]; rfl
      rw [this]; rfl
    have c6 : (nI (sur h t) &&& nI (nwh h t)) = 0 := by
      rw [(bt_or _ (by omega) _ (by omega)).2]
      have : sur h t &&& nwh h t = 0 := by
        apply Nat.eq_of_testBit_eq
        intro j
        rw [Nat.testBit_and, Nat.zero_testBit]
        cases q : (nwh h t).testBit j with
        | false => rw [Bool.and_false]
        | true =>
          have q2 := nwh_in s1 s3 j q
          cases q3 : (sur h t).testBit j with
          | false => rfl
          | true => rw [hsub j q3] at q2; cases q2
      rw [this]; rfl
    have c7 : ¬ nI i2 < 0 := nI_pos (by omega)
    have c8 : ¬ nI h.n ≤ nI i2 := nI_ge k1 (by omega)
    have l1 : (nI mo).toInt64 = lN mo := nI_l (by omega)
    have l2 : lN (nft h t) + 1 = lN (nft h t + 1) := lN_1 _
    have l3 : lN (nft h t + 1) / 2 = lN ((nft h t + 1) / 2) := pk_lDiv (b := 2) (by omega) (by decide) (by decide)
    have c9 : ¬ lg_cmp (lN mo) (lN ((nft h t + 1) / 2)) < 0 := fun q => by
      have := (lg_cmp_lt _ _).mp q
      have := (pk_lLT (by omega) (by omega)).mp this
      omega
    have c10 : lg_cmp (lN mo) (lN (nft h t)) ≤ 0 := (lg_cmp_le _ _).mpr ((pk_lLE (by omega) (by omega)).mpr k3)
    have e2 : f_X11_count μ3 a 2 = some (nI h.q.1) := P_count H3 hw (j := 2) (by decide)
    obtain ⟨μ4, h'', l', x1, x2, x3, x4, x5⟩ := fi_188 (K := K) (T := T) (a := a) (b, L, xs) w h0 hs (s := s) (by omega) (p3 := nI h.sp.length) (p4 := nI h.te) (p5 := nI t) (p13 := nI h.q.1) BIG 0 μ3 h [] (Nat.zero_le _) (by unfold BIG; omega) (Fur.rf h) (List.append_nil _).symm (Nat.le_refl _) (by show _ = (h.q.1 + 0) % h.te; rw [Nat.add_zero, Nat.mod_eq_of_lt tn]) ⟨R, _, H3, hw, hR⟩
    have x1 : lp_L_fitted_188 (b, L, xs) BIG a (nI h.n) (nI h.sp.length) (nI h.te) (nI t) (nI s) (nI h.q.1) 0 0 μ3 = some (1, nI l'.length, μ4) := x1
    have e3 : f_X11_count μ4 a 2 = some (nI h''.q.1) := by
      obtain ⟨R2, F2, H4, hw4, -⟩ := x5
      exact P_count H4 hw4 (j := 2) (by decide)
    have eq : nI h.q.1 + nI t = nI (h.q.1 + t) := nI_add _ _
    have er : nI (h.q.1 + t) - nI (h.q.1 + t) / nI h.te * nI h.te = nI ((h.q.1 + t) % h.te) := pk_rem (by omega) (by omega) (by omega)
    have ef : h''.q.1 = (h.q.1 + t) % h.te := by
      have := of_decide_eq_true s3
      have this : smt h.tr h.n s % h.te = t := this
      rw [x4, ← Nat.add_mod_mod, this]
    rw [ef] at e3
    obtain ⟨μ5, y8, J5⟩ := J_undo x2 x3 x5
    refine ⟨μ5, ?_, J5⟩
    simp (config := { decide := true }) only [↓reduceIte, Option.bind_some, Option.bind_none, f_L_fitted, e1, ec', ht0, em, y1, y2, y3, y4, y5, y6, y7, c1, c2, c3, c4, c5, c6, c7, c8, l1, l2, l3, c9, c10, e2, x1, e3, eq, er, y8]
end FI
/-! ===== the fewest walks ===== -/
theorem wy_mod {te p x : Nat} (hte : 0 < te) (hx : x ≤ 81 * te) : wy te p (x % te) = wy te p x := by
  refine mod_inj (s := x) (wy_lt hte) (wy_lt hte) ?_
  rw [wy_add hx, ← Nat.add_mod_mod]
  exact wy_add (by have := Nat.mod_lt x hte; omega)
section FE
variable {b L : Nat} {xs : Nat → Int32} {T : GR} {h : GH} {K : GK} {a : Nat} {D : Nat → Nat}
theorem fe_130 (sc : SC) (w : WH h) (h0 : ¬ h.n = 0) (hs : h.sp.length ≤ 20) (hD : Sup h.te h.n h.tr (fun _ => 1) D) (hF : Fix h.te h.n h.tr (fun _ => 1) D) {p : Nat} (hp : p < h.te) {p3 p5 : Int32} : ∀ (k f : Nat) (μ : Mm) (h' : GH) (l : List Nat), k < f → l.length + k ≤ 40 → Fur h h' → h'.sp = h.sp ++ l → D (wy h.te p h'.q.1) = k → JJ h' T K a μ → ∃ μ' h'' l', lp_L_fewest_130 sc f a (nI h.n) p3 (nI p) p5 (nI k) μ = some (1, μ') ∧ Fur h h'' ∧ h''.sp = h.sp ++ l' ∧ l'.length = l.length + k ∧ D (wy h.te p h''.q.1) = 0 ∧ JJ h'' T K a μ' := by
  have hn6 := w.1
  have t1 := w.te_ge h0
  have t2 := w.te_lt
  have hte : 0 < h.te := by omega
  intro k
  induction k with
  | zero =>
    intro f μ h' l q1 q2 hf hsp hd hJ
    obtain ⟨f, rfl⟩ : ∃ e, f = e + 1 := ⟨f - 1, by omega⟩
    refine ⟨μ, h', l, ?_, hf, hsp, rfl, hd, hJ⟩
    simp (config := { decide := true }) only [↓reduceIte, Option.bind_some, Option.bind_none, lp_L_fewest_130, show nI 0 = 0 from rfl]
  | succ k ih =>
    intro f μ h' l q1 q2 hf hsp hd hJ
    obtain ⟨f, rfl⟩ : ∃ e, f = e + 1 := ⟨f - 1, by omega⟩
    have w' := hJ.w
    have h0' : ¬ h'.n = 0 := by rw [hf.n]; exact h0
    have hFA : FARn = 1000000 := rfl
    have hD' : Sup h'.te h'.n h'.tr (fun _ => 1) D := by rw [hf.te, hf.n, hf.tr]; exact hD
    have hF' : Fix h'.te h'.n h'.tr (fun _ => 1) D := by rw [hf.te, hf.n, hf.tr]; exact hF
    have hp' : p < h'.te := by rw [hf.te]; exact hp
    have hd' : D (wy h'.te p h'.q.1) = k + 1 := by rw [hf.te]; exact hd
    obtain ⟨g, g1, g2, g3⟩ := fw_ex w' h0' hD' hF' hp' hd' (by omega)
    rw [hf.n] at g1
    have hJ0 := hJ
    obtain ⟨R, F, H, hw, hR⟩ := hJ
    obtain ⟨μ1, y1, H1, -, -⟩ := P_fewest w' hp' (D := D) hD' hF' (by omega) H
    rw [hd'] at y1
    rw [g2] at H1
    have y2 : f_X11_asked μ1 a = some (nI g) := P_asked H1
    obtain ⟨μ2, y3, J2⟩ := J_walk hf g1 hn6 (by rw [hsp, List.length_append]; omega) ⟨R, _, H1, hw, hR⟩
    obtain ⟨f1, f2, f3, f4⟩ := hf.walk (show g < 6 by omega)
    have tn := w'.now_lt h0'
    rw [hf.te] at tn
    have htr := w.tr_le g1
    have hX : (h'.q.1 + h.tr g) % h.te < h.te := Nat.mod_lt _ hte
    obtain ⟨μ', h'', l', z1, z2, z3, z4, z5⟩ := ih f μ2 (h'.wsp (h'.sp ++ [g])) (l ++ [g]) (by omega) (by rw [List.length_append]; show l.length + 1 + k ≤ 40; omega) f1 (by rw [f4, hsp, List.append_assoc]) (by
      rw [f2, wy_mod hte (by omega)]
      rw [hf.te, hf.tr, Nat.add_comm] at g3
      exact g3) J2
    have c1 : ¬ nI (k + 1) ≤ 0 := nI_nle (by omega) (by omega)
    have c2 : ¬ nI g < 0 := nI_pos (by omega)
    have c3 : ¬ nI h.n ≤ nI g := nI_ge g1 (by omega)
    have c4 : 0 ≤ nI ((h'.q.1 + h.tr g) % h.te) := nI_pos' (by omega)
    refine ⟨μ', h'', l', ?_, z2, z3, ?_, z5⟩
    · simp (config := { decide := true }) only [↓reduceIte, Option.bind_some, Option.bind_none, lp_L_fewest_130, c1, y1, y2, c2, c3, y3, c4, pk_m1, z1]
    · rw [z4, List.length_append]
      show l.length + 1 + k = _
      omega
theorem L_fewest (hL : L ≤ 260) (h0 : ¬ h.n = 0) (hs : h.sp.length ≤ 20) {μ : Mm} (hJ : JJ h T K a μ) : ∃ μ', f_L_fewest (b, L, xs) μ a b (nI h.n) (nI h.sp.length) = some (1, μ') ∧ JJ h T K a μ' := by
  have w := hJ.w
  have hn6 := w.1
  have t1 := w.te_ge h0
  have t2 := w.te_lt
  have tn := w.now_lt h0
  have hte : 0 < h.te := by omega
  have hFA : FARn = 1000000 := rfl
  obtain ⟨c, hc, ec⟩ := L_cell (b := b) (xs := xs) hL (show 42 ≤ 60 by decide)
  have e28 : (2 : Nat) ^ 28 = 268435456 := by decide
  have ec' : f_L_cell (b, L, xs) μ b 42 = some (nI c) := ec μ
  have ht : c % h.te < h.te := Nat.mod_lt _ (by omega)
  have em : nI c - nI c / nI h.te * nI h.te = nI (c % h.te) := pk_rem (by omega) (by omega) (by omega)
  have ht0 : ¬ nI h.te = 0 := nI_ne0 (by omega) (by omega)
  generalize c % h.te = p at ht em
  obtain ⟨R, F, H, hw, hR⟩ := hJ
  have e1 : f_X11_count μ a 1 = some (nI h.te) := P_count H hw (j := 1) (by decide)
  obtain ⟨D, hD, hF⟩ := dst_ex (te := h.te) (n := h.n) (t := h.tr) (w := wgt h false) hte (fun g hg => (wgt_ok w false hg).1)
  obtain ⟨E, hE, hG⟩ := dst_ex (te := h.te) (n := h.n) (t := h.tr) (w := wgt h true) hte (fun g hg => (wgt_ok w true hg).1)
  have hD' : Sup h.te h.n h.tr (fun _ => 1) D := hD
  have hF' : Fix h.te h.n h.tr (fun _ => 1) D := hF
  have hl : wy h.te p h.q.1 < h.te := wy_lt hte
  have hDE := cost_le hD' hF' hE (fun g hg => (wgt_ok w true hg).1) (E (wy h.te p h.q.1)) _ hl rfl
  by_cases z : D (wy h.te p h.q.1) < FARn
  · have hlt := cost_lt hD' hF' hte hl z
    have hE9 := cost_ge hD' hF' hE hG (fun g hg => (wgt_ok w true hg).2) (D (wy h.te p h.q.1)) _ hl rfl z
    obtain ⟨μ1, y1, H1, -, -⟩ := P_fewest w ht hD hF z H
    obtain ⟨μ2, y2, H2, -, -⟩ := P_feet w ht hE hG H1
    unfold cto at y2
    rw [if_pos (by omega)] at y2
    generalize hd : D (wy h.te p h.q.1) = d at *
    generalize E (wy h.te p h.q.1) = g at *
    have c1 : 0 ≤ nI d := nI_pos' (by omega)
    have c2 : ¬ nI g < nI d := nI_nlt (by omega) (by omega)
    have c3 : (9 : Int32) * nI d = nI (9 * d) := pk_mul 9 d
    have c4 : ¬ nI (9 * d) < nI g := nI_nlt (by omega) (by omega)
    by_cases y : d ≤ 40
    · have c5 : nI d ≤ 40 := (show nI d ≤ nI 40 from nI_le y (by decide))
      obtain ⟨μ3, h'', l', x1, x2, x3, x4, x5, x6⟩ := fe_130 (K := K) (T := T) (a := a) (b, L, xs) w h0 hs hD' hF' ht (p3 := nI h.sp.length) (p5 := nI d) d BIG μ2 h [] (by unfold BIG; omega) (by show 0 + d ≤ 40; omega) (Fur.rf h) (List.append_nil _).symm hd ⟨R, _, H2, hw, hR⟩
      have w2 := x6.w
      have h02 : ¬ h''.n = 0 := by rw [x2.n]; exact h0
      have hD2 : Sup h''.te h''.n h''.tr (fun _ => 1) D := by rw [x2.te, x2.n, x2.tr]; exact hD'
      have hF2 : Fix h''.te h''.n h''.tr (fun _ => 1) D := by rw [x2.te, x2.n, x2.tr]; exact hF'
      have hE2 : Sup h''.te h''.n h''.tr (wgt h'' true) E := by
        have : wgt h'' true = wgt h true := by funext g; unfold wgt; rw [x2.ft]
        rw [x2.te, x2.n, x2.tr, this]; exact hE
      have hG2 : Fix h''.te h''.n h''.tr (wgt h'' true) E := by
        have : wgt h'' true = wgt h true := by funext g; unfold wgt; rw [x2.ft]
        rw [x2.te, x2.n, x2.tr, this]; exact hG
      have hp2 : p < h''.te := by rw [x2.te]; exact ht
      have hd2 : D (wy h''.te p h''.q.1) = 0 := by rw [x2.te]; exact x5
      obtain ⟨k1, k2⟩ := cost_0 w2 h02 hD2 hF2 hp2 hd2
      obtain ⟨R3, F3, H3, hw3, hR3⟩ := x6
      have e2 : f_X11_count μ3 a 2 = some (nI p) := by
        have : f_X11_count μ3 a 2 = some (nI h''.q.1) := P_count H3 hw3 (j := 2) (by decide)
        rw [k2] at this; exact this
      obtain ⟨μ4, y4, H4, -, -⟩ := P_fewest w2 hp2 (D := D) hD2 hF2 (by rw [hd2]; decide) H3
      rw [hd2] at y4
      have y4 : f_X11_fewest μ3 a (nI p) = some (0, μ4) := y4
      rw [fw_none hd2] at H4
      have y5 : f_X11_asked μ4 a = some (-9) := P_asked H4
      have y6 : f_L_says μ4 a 0 0 (-9) = some 1 := by simp (config := { decide := true }) only [↓reduceIte, Option.bind_some, Option.bind_none, f_L_says, y5]
      obtain ⟨μ5, y7, H5, -, -⟩ := P_feet w2 hp2 hE2 hG2 H4
      rw [k1, hE2.1] at y7
      have y7 : f_X11_feet μ4 a (nI p) = some (0, μ5) := y7
      obtain ⟨μ6, y8, J6⟩ := J_undo x2 x3 ⟨R3, _, H5, hw3, hR3⟩
      have e3 : l'.length = d := by rw [x4]; exact Nat.zero_add _
      rw [e3] at y8
      refine ⟨μ6, ?_, J6⟩
      simp (config := { decide := true }) only [↓reduceIte, Option.bind_some, Option.bind_none, f_L_fewest, e1, ec', ht0, em, y1, y2, c1, c2, c3, c4, c5, x1, e2, y4, y6, y7, y8]
    · have c5 : ¬ nI d ≤ 40 := (show ¬ nI d ≤ nI 40 from nI_ge (by omega) (by omega))
      refine ⟨μ2, ?_, R, _, H2, hw, hR⟩
      simp (config := { decide := true }) only [↓reduceIte, Option.bind_some, Option.bind_none, f_L_fewest, e1, ec', ht0, em, y1, y2, c1, c2, c3, c4, c5]
  · obtain ⟨μ1, y1, H1, -, -⟩ := P_fewest_no w ht hD hF z H
    obtain ⟨μ2, y2, H2, -, -⟩ := P_feet w ht hE hG H1
    unfold cto at y2
    rw [if_neg (by omega)] at y2
    obtain ⟨μ3, y3, H3, -, -⟩ := P_never w h0 H2
    have hr : rch h none p = false := by
      cases q : rch h none p with
      | false => rfl
      | true => exact absurd (far_rch w h0 hD' hF' ht q) z
    have hcn : cntP (fun x => !rch h none x) h.te ≠ 0 := fun q => by
      have := (cntP_zero _).mp q p ht
      rw [hr] at this; cases this
    have hcl := cntP_le (fun x => !rch h none x) h.te
    obtain ⟨x, hx, hxp⟩ : ∃ x, fst (fun x => !rch h none x) h.te 0 = some x ∧ x ≤ p := by
      rcases fst_cases (fun x => !rch h none x) h.te 0 with ⟨j, j1, j2, j3, j4⟩ | q
      · refine ⟨j, fst_some _ _ _ j j1 j2 j3 j4, Nat.le_of_not_lt fun y => ?_⟩
        have := j4 p (Nat.zero_le _) y
        rw [hr] at this; cases this
      · have := q p (Nat.zero_le _) (by omega)
        rw [hr] at this; cases this
    rw [hx] at H3
    have y4 : f_X11_asked μ3 a = some (nI x) := P_asked H3
    have c1 : ¬ nI (cntP (fun x => !rch h none x) h.te) ≤ 0 := nI_nle (by omega) (by omega)
    have c2 : ¬ nI x < 0 := nI_pos (by omega)
    have c3 : ¬ nI p < nI x := nI_nlt hxp (by omega)
    refine ⟨μ3, ?_, R, _, H3, hw, hR⟩
    simp (config := { decide := true }) only [↓reduceIte, Option.bind_some, Option.bind_none, f_L_fewest, e1, ec', ht0, em, y1, y2, y3, c1, y4, c2, c3]
end FE
