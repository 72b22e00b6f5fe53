/-! ===== orders: the model's tree ===== -/
section OT
variable {R T : GR} {F : GF} {h : GH} {K : GK} {c : Nat} {o : Option Nat} {tt : Nat}
/-- the model's numbers -/
def OS (h : GH) (o : Option Nat) (tt Q Ls : Nat) (acc : Nat × List Nat) (μ : Mm) (c : Nat) : Prop := mI μ c 35 = mcode o ∧ mL μ c 37 = lN Q ∧ mI μ c 38 = nI Ls ∧ (o = none → mI μ c 39 = nI acc.1 ∧ (acc.1 < FARn → ∀ i, i < h.n → mI μ (c + 20) i = nI (acc.2.getD i 0))) ∧ (o ≠ none → mI μ c 36 = nI tt ∧ mI μ c 34 = nI (b1 (decide (acc.1 = 0))) ∧ (acc.1 = 0 → ∀ i, i < h.n → mI μ (c + 20) i = nI (acc.2.getD i 0)))
def Ln (μ : Mm) (c : Nat) (l : List Nat) : Prop := ∀ i, i < l.length → mI μ (c + 19) i = nI (l.getD i 0)
theorem OS.mv {Q Ls : Nat} {acc : Nat × List Nat} {μ μ' : Mm} (hs : OS h o tt Q Ls acc μ c) (h1 : ∀ j, mI μ' c j = mI μ c j) (h2 : mL μ' c 37 = mL μ c 37) (h3 : ∀ j, mI μ' (c + 20) j = mI μ (c + 20) j) : OS h o tt Q Ls acc μ' c := by
  obtain ⟨a1, a2, a3, a4, a5⟩ := hs
  refine ⟨by rw [h1]; exact a1, by rw [h2]; exact a2, by rw [h1]; exact a3, fun q => ?_, fun q => ?_⟩
  · obtain ⟨z1, z2⟩ := a4 q
    exact ⟨by rw [h1]; exact z1, fun y i hi => by rw [h3]; exact z2 y i hi⟩
  · obtain ⟨z1, z2, z3⟩ := a5 q
    exact ⟨by rw [h1]; exact z1, by rw [h1]; exact z2, fun y i hi => by rw [h3]; exact z3 y i hi⟩
theorem m_e114 (w : WH h) {l : List Nat} (hl : l.length = h.n) : ∀ (f i : Nat) (μ : Mm), i ≤ h.n → h.n < i + f → MI R T F h K μ c → Ln μ c l → (∀ j, j < i → mI μ (c + 20) j = nI (l.getD j 0)) → ∃ μ', lp_X12_ends_114 f c (nI i) μ = some μ' ∧ SM μ μ' c ∧ (∀ j, j < h.n → mI μ' (c + 20) j = nI (l.getD j 0)) ∧ (∀ b j, b ≠ c + 20 → mI μ' b j = mI μ b j) ∧ (∀ b j, mL μ' b j = mL μ b j) := by
  have hn6 := w.1
  intro f
  induction f with
  | zero => intro i μ q1 q2; omega
  | succ f ih =>
    intro i μ q1 q2 H hL hB
    by_cases e : i = h.n
    · have e1 : nI h.n ≤ nI i := by rw [e]; exact Int32.le_refl _
      refine ⟨μ, ?_, SM.rf μ c, by rw [← e]; exact hB, fun _ _ _ => rfl, fun _ _ => rfl⟩
      simp (config := { decide := true }) only [↓reduceIte, Option.bind_some, Option.bind_none, lp_X12_ends_114, m_hev H, e1]
    · have e1 : ¬ nI h.n ≤ nI i := nI_ge (by omega) (by omega)
      have ea : aI μ (c + 19) 21 (nI i) = some (nI (l.getD i 0)) := by rw [aI_of H.1.t19 (by rw [H.1.n19]; omega) (by omega), hL i (by omega)]
      have qa := qI_of (v := nI (l.getD i 0)) H.1.t20 (show i < ln μ (c + 20) by rw [H.1.n20]; omega) (by omega)
      have s1 : SM μ (sI μ (c + 20) i (nI (l.getD i 0))) c := (SM.rf μ c).sI (by unfold asd; omega)
      obtain ⟨μ', y1, y2, y3, y4, y5⟩ := ih (i + 1) _ (by omega) (by omega) (H.scr s1) (fun j hj => by rw [mI_ne (by omega)]; exact hL j hj) (fun j hj => by
        by_cases z : j = i
        · subst z; rw [mI_eq]
        · rw [mI_nk z]; exact hB j (by omega))
      refine ⟨μ', ?_, s1.tr y2, y3, fun b j hb => (y4 b j hb).trans (mI_ne hb), fun b j => y5 b j⟩
      simp (config := { decide := true }) only [↓reduceIte, Option.bind_some, Option.bind_none, lp_X12_ends_114, m_hev H, e1, H.1.t0, gP_of H.1.t0 H.1.p0_1, gP_of H.1.t0 H.1.p0_5, gP_of H.1.t0 H.1.p0_6, gP_of H.1.t0 H.1.p0_7, gP_of H.1.t0 H.1.p0_8, gP_of H.1.t0 H.1.p0_9, gP_of H.1.t0 H.1.p0_14, gP_of H.1.t0 H.1.p0_15, gP_of H.1.t0 H.1.p0_21, gP_of H.1.t0 H.1.p0_22, gP_of H.1.t0 H.1.p0_23, gP_of H.1.t0 H.1.p0_24, gP_of H.1.t0 H.1.p0_26, gP_of H.1.t0 H.1.p0_27, gP_of H.1.t0 H.1.p0_28, gP_of H.1.t0 H.1.p0_29, gP_of H.1.t0 H.1.p0_30, gP_of H.1.t0 H.1.p0_31, gP_of H.1.t0 H.1.p0_32, gP_of H.1.t0 H.1.p0_33, gP_of H.1.t0 H.1.p0_40, gP_of H.1.t0 H.1.p0_41, gP_of H.1.t0 H.1.p0_46, gP_of H.1.t0 H.1.p0_47, gP_of H.1.t0 H.1.p0_48, ea, qa, nI_1, y1]
theorem m_ends (w : WH h) (h0 : ¬ h.n = 0) (ho6 : ∀ x, o = some x → x < 6) {l : List Nat} (hl : l.length = h.n) (hl6 : ∀ i, i < h.n → l.getD i 0 < h.n) {pd p : Nat} {at' : Bool} {Q Ls : Nat} {acc : Nat × List Nat} {μ : Mm} (hpd : pd ≤ 6) (hp : p = pd + b1 (o.isSome && !at')) (hLs : Ls < 64) (hacc : acc.1 ≤ FARn) (H : MI R T F h K μ c) (hL : Ln μ c l) (hS : OS h o tt Q Ls acc μ c) : ∃ μ', f_X12_ends μ c (nI pd) (nI (b1 at')) = some μ' ∧ SM μ μ' c ∧ (∀ j, mI μ' (c + 19) j = mI μ (c + 19) j) ∧ OS h o tt (Q + if pd = 0 then 1 else 0) (Ls ||| if pd = 0 then 2 ^ l.getD (h.n - 1) 0 else 0) (U acc (p, l)) μ' c := by
  have hn6 := w.1
  have hFA : FARn = 1000000 := rfl
  obtain ⟨a1, a2, a3, a4, a5⟩ := hS
  have hlast := hl6 (h.n - 1) (by omega)
  -- the first stage: a quiet one is counted
  have hst1 : ∃ μ1, ((if nI pd = 0 then (gL μ c 13 37).bind fun x3 => (pL μ c 13 37 (x3 + (1 : Int64))).bind fun x4 => (gI x4 c 13 38).bind fun x5 => (gP x4 c 13 32).bind fun x6 => (gI x4 c 13 10).bind fun x7 => (aI x4 x6 21 (x7 - (1 : Int32))).bind fun x8 => (pI x4 c 13 38 (x5 ||| ((1 : Int32) <<< (x8 &&& 31)))).bind fun x9 => some x9 else some μ : Option Mm)) = some μ1 ∧ SM μ μ1 c ∧ mI μ1 c 35 = mcode o ∧ mL μ1 c 37 = lN (Q + if pd = 0 then 1 else 0) ∧ mI μ1 c 38 = nI (Ls ||| if pd = 0 then 2 ^ l.getD (h.n - 1) 0 else 0) ∧ (∀ j, j ≠ 38 → mI μ1 c j = mI μ c j) ∧ (∀ b j, b ≠ c → mI μ1 b j = mI μ b j) := by
    by_cases z : pd = 0
    · have s1 : SM μ (sL μ c 37 (lN (Q + 1))) c := (SM.rf μ c).sG (by omega)
      have H1 := H.scr s1
      have s2 : SM μ (sI (sL μ c 37 (lN (Q + 1))) c 38 (nI (Ls ||| 2 ^ l.getD (h.n - 1) 0))) c := s1.sF (by omega)
      refine ⟨_, ?_, s2, by rw [mI_nk (by decide)]; exact a1, ?_, by rw [mI_eq, if_pos z], fun j hj => by rw [mI_nk hj]; rfl, fun b j hb => by rw [mI_ne hb]; rfl⟩
      · have e37 : gL μ c 13 37 = some (lN Q) := (gL_of H.1.t0).trans (congrArg some a2)
        have e38 : gI (sL μ c 37 (lN (Q + 1))) c 13 38 = some (nI Ls) := gI_e H1.1.t0 a3
        have ea : aI (sL μ c 37 (lN (Q + 1))) (c + 19) 21 (nI (h.n - 1)) = some (nI (l.getD (h.n - 1) 0)) := by rw [aI_of H1.1.t19 (by rw [H1.1.n19]; omega) (by omega)]; exact congrArg some (hL _ (by omega))
        have ebt := (bt_tab Ls hLs _ (show l.getD (h.n - 1) 0 < 6 by omega)).2.1
        rw [z]
        simp (config := { decide := true }) only [↓reduceIte, Option.bind_some, Option.bind_none, show nI 0 = 0 from rfl, e37, lN_1, pL_of H.1.t0, e38, gP_of H1.1.t0 H1.1.p0_32, m_hev H1, pred1 (show 0 < h.n by omega), ea, ebt, pI_of H1.1.t0]
      · rw [if_pos z]
        show mL (sL μ c 37 (lN (Q + 1))) c 37 = _
        rw [mL_eq]
    · have e0 : ¬ nI pd = 0 := nI_ne0 (by omega) (by omega)
      refine ⟨μ, if_neg e0, SM.rf μ c, a1, by rw [if_neg z]; exact a2, by rw [if_neg z, Nat.or_zero]; exact a3, fun _ _ => rfl, fun _ _ _ => rfl⟩
  obtain ⟨μ1, x1, x2, x3, x4, x5, x6, x7⟩ := hst1
  have H1 := H.scr x2
  -- the second stage: is it better
  obtain ⟨bb, x39, e11, e20, hb1, hb2⟩ : ∃ (bb : Bool) (x39 : Int32), ((if mcode o = (-9 : Int32) then (gI μ1 c 13 39).bind fun x17 => if x17 ≤ nI pd then some (0 : Int32) else some (1 : Int32) else (gI μ1 c 13 34).bind fun x13 => if x13 = 0 then if nI pd = 0 then if nI (b1 at') = 0 then some (0 : Int32) else some (1 : Int32) else some (0 : Int32) else some (0 : Int32) : Option Int32)) = some (nI (b1 bb)) ∧ ((if mI μ1 c 39 ≤ nI pd then (some (mI μ1 c 39)).bind fun x22 => some x22 else some (nI pd) : Option Int32)) = some x39 ∧ (o = none → x39 = nI (U acc (p, l)).1 ∧ (bb = true ↔ p < acc.1)) ∧ (o ≠ none → (bb = true ↔ (acc.1 ≠ 0 ∧ p = 0))) := by
    cases ho : o with
    | none =>
      subst ho
      obtain ⟨z1, -⟩ := a4 rfl
      have hp' : p = pd := by rw [hp]; rfl
      subst hp'
      have e39' : mI μ1 c 39 = nI acc.1 := (x6 39 (by decide)).trans z1
      have e39 : gI μ1 c 13 39 = some (nI acc.1) := gI_e H1.1.t0 e39'
      rw [e39']
      by_cases q : p < acc.1
      · have e1 : ¬ nI acc.1 ≤ nI p := nI_ge q (by omega)
        refine ⟨true, nI p, ?_, if_neg e1, fun _ => ⟨by unfold U; rw [if_pos q], fun _ => q, fun _ => rfl⟩, fun z => absurd rfl z⟩
        show (if (-9 : Int32) = -9 then _ else _) = _
        simp (config := { decide := true }) only [↓reduceIte, Option.bind_some, Option.bind_none, e39, e1] <;> rfl
      · have e1 : nI acc.1 ≤ nI p := nI_le (by omega) (by omega)
        refine ⟨false, nI acc.1, ?_, if_pos e1, fun _ => ⟨by unfold U; rw [if_neg q], (fun z => by cases z), fun z => absurd z q⟩, fun z => absurd rfl z⟩
        show (if (-9 : Int32) = -9 then _ else _) = _
        simp (config := { decide := true }) only [↓reduceIte, Option.bind_some, Option.bind_none, e39, e1] <;> rfl
    | some g0 =>
      have hg6 := ho6 g0 ho
      subst ho
      obtain ⟨z0, z1, -⟩ := a5 (fun z => by cases z)
      have hp' : p = pd + b1 (!at') := by rw [hp]; rfl
      have e34 : gI μ1 c 13 34 = some (nI (b1 (decide (acc.1 = 0)))) := gI_e H1.1.t0 ((x6 34 (by decide)).trans z1)
      have eng : ¬ mcode (some g0) = -9 := fun q => by
        have hx : nI g0 = -9 := q
        have := nI_pos (n := g0) (by omega)
        rw [hx] at this
        exact this (by decide)
      refine ⟨decide (acc.1 ≠ 0 ∧ p = 0), if mI μ1 c 39 ≤ nI pd then mI μ1 c 39 else nI pd, ?_, ?_, (fun z => by cases z), fun _ => decide_eq_true_iff⟩
      · by_cases q1 : acc.1 = 0
        · rw [decide_eq_false (fun q => q.1 q1)]
          rw [decide_eq_true q1] at e34
          have e34' : gI μ1 c 13 34 = some 1 := e34
          simp (config := { decide := true }) only [↓reduceIte, Option.bind_some, Option.bind_none, eng, e34'] <;> rfl
        · rw [decide_eq_false q1] at e34
          have e34' : gI μ1 c 13 34 = some 0 := e34
          by_cases q2 : pd = 0
          · have e0 : ∀ (X Y : Option Int32), (if nI pd = 0 then X else Y) = X := fun X Y => if_pos (congrArg nI q2)
            cases at' with
            | true =>
              have hz : p = 0 := by rw [hp', q2]; rfl
              rw [decide_eq_true (show acc.1 ≠ 0 ∧ p = 0 from ⟨q1, hz⟩)]
              have e3 : ¬ nI (b1 true) = 0 := by decide
              simp (config := { decide := true }) only [↓reduceIte, Option.bind_some, Option.bind_none, eng, e34', e0, e3] <;> rfl
            | false =>
              have hz : ¬ p = 0 := by rw [hp', q2]; exact (by decide : ¬ 0 + b1 (!false) = 0)
              rw [decide_eq_false (show ¬ (acc.1 ≠ 0 ∧ p = 0) from fun q => hz q.2)]
              have e3 : nI (b1 false) = 0 := by decide
              simp (config := { decide := true }) only [↓reduceIte, Option.bind_some, Option.bind_none, eng, e34', e0, e3] <;> rfl
          · have e0 : ¬ nI pd = 0 := nI_ne0 (by omega) (by omega)
            have hz : ¬ p = 0 := by rw [hp']; omega
            rw [decide_eq_false (show ¬ (acc.1 ≠ 0 ∧ p = 0) from fun q => hz q.2)]
            simp (config := { decide := true }) only [↓reduceIte, Option.bind_some, Option.bind_none, eng, e34', e0] <;> rfl
      · by_cases q : mI μ1 c 39 ≤ nI pd
        · rw [if_pos q, if_pos q]; rfl
        · rw [if_neg q, if_neg q]
  have e35 : gI μ1 c 13 35 = some (mcode o) := gI_e H1.1.t0 x3
  have e39 : gI μ1 c 13 39 = some (mI μ1 c 39) := gI_of H1.1.t0
  have s3 : SM μ (sI μ1 c 39 x39) c := x2.sF (by omega)
  have H3 := H.scr s3
  have hstart : f_X12_ends μ c (nI pd) (nI (b1 at')) = (if nI (b1 bb) = 0 then some (sI μ1 c 39 x39) else (pZ (sI μ1 c 39 x39) c 13 34 (1 : Int32)).bind fun x25 => (lp_X12_ends_114 BIG c (0 : Int32) x25).bind fun x32 => some x32) := by
    unfold f_X12_ends
    rw [if_pos H.1.t0, x1, Option.bind_some, e35, Option.bind_some, e11, Option.bind_some, e39, Option.bind_some, e20, Option.bind_some, pI_of H1.1.t0, Option.bind_some]
  have h20 : ∀ j, mI (sI μ1 c 39 x39) (c + 20) j = mI μ (c + 20) j := fun j => by rw [mI_ne (by omega), x7 _ _ (by omega)]
  cases hbb : bb with
  | false =>
    refine ⟨sI μ1 c 39 x39, ?_, s3, fun j => by rw [mI_ne (by omega), x7 _ _ (by omega)], ?_, x4, ?_, fun q => ?_, fun q => ?_⟩
    · rw [hstart, hbb]; rfl
    · rw [mI_nk (by decide)]; exact x3
    · rw [mI_nk (by decide)]; exact x5
    · obtain ⟨k1, k2⟩ := hb1 q
      have hnl : ¬ p < acc.1 := fun z => by have := k2.mpr z; rw [hbb] at this; cases this
      refine ⟨by rw [mI_eq]; exact k1, fun z i hi => ?_⟩
      rw [h20]
      rw [U_ge (x := (p, l)) hnl] at z ⊢
      exact (a4 q).2 z i hi
    · have k2 := hb2 q
      have hnl : ¬ (acc.1 ≠ 0 ∧ p = 0) := fun z => by have := k2.mpr z; rw [hbb] at this; cases this
      obtain ⟨z0, z1, z2⟩ := a5 q
      refine ⟨by rw [mI_nk (by decide), x6 36 (by decide)]; exact z0, ?_, fun z i hi => ?_⟩
      · rw [mI_nk (by decide), x6 34 (by decide), z1]
        refine congrArg (fun x => nI (b1 x)) ?_
        by_cases y : p < acc.1
        · rw [U_lt (x := (p, l)) y, decide_eq_false (show ¬ acc.1 = 0 by omega), decide_eq_false (show ¬ (p, l).1 = 0 from fun x => hnl ⟨by omega, x⟩)]
        · rw [U_ge (x := (p, l)) y]
      · rw [h20]
        by_cases y : p < acc.1
        · rw [U_lt (x := (p, l)) y] at z
          exact absurd ⟨by omega, z⟩ hnl
        · rw [U_ge (x := (p, l)) y] at z ⊢
          exact z2 z i hi
  | true =>
    have s4 : SM μ (sI (sI μ1 c 39 x39) c 34 1) c := s3.sF (by omega)
    have H4 := H.scr s4
    obtain ⟨μ4, y1, y2, y3, y4, y5⟩ := m_e114 (F := F) (K := K) (R := R) (T := T) (c := c) w hl BIG 0 _ (by omega) (by unfold BIG; omega) H4 (fun j hj => by rw [mI_ne (by omega), mI_ne (by omega), x7 _ _ (by omega)]; exact hL j hj) (fun j hj => absurd hj (Nat.not_lt_zero _))
    have y1' : lp_X12_ends_114 BIG c 0 (sI (sI μ1 c 39 x39) c 34 1) = some μ4 := y1
    refine ⟨μ4, ?_, s4.tr y2, fun j => by rw [y4 _ _ (by omega), mI_ne (by omega), mI_ne (by omega), x7 _ _ (by omega)], ?_, (y5 c 37).trans x4, ?_, fun q => ?_, fun q => ?_⟩
    · rw [hstart, hbb, if_neg (by decide : ¬ nI (b1 true) = 0), pZ_of H3.1.t0 (Or.inr rfl), Option.bind_some, y1', Option.bind_some]
    · rw [y4 _ _ (by omega), mI_nk (by decide), mI_nk (by decide)]; exact x3
    · rw [y4 _ _ (by omega), mI_nk (by decide), mI_nk (by decide)]; exact x5
    · obtain ⟨k1, k2⟩ := hb1 q
      have hlt := k2.mp hbb
      refine ⟨by rw [y4 _ _ (by omega), mI_nk (by decide), mI_eq]; exact k1, fun z i hi => ?_⟩
      rw [U_lt (x := (p, l)) hlt]
      exact y3 i hi
    · have k2 := (hb2 q).mp hbb
      have hlt : p < acc.1 := by omega
      obtain ⟨z0, z1, z2⟩ := a5 q
      rw [U_lt (x := (p, l)) hlt]
      refine ⟨by rw [y4 _ _ (by omega), mI_nk (by decide), mI_nk (by decide), x6 36 (by decide)]; exact z0, ?_, fun _ i hi => y3 i hi⟩
      rw [y4 _ _ (by omega), mI_eq, decide_eq_true (show (p, l).1 = 0 from k2.2)]; rfl
end OT
