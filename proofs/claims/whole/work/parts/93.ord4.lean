/-! ===== orders: the model's tree, walked ===== -/
def inS (o : Option Nat) (s : Nat) : Bool := match o with
  | none => false
  | some g0 => s.testBit g0
def tp (o : Option Nat) (s : Nat) (at' : Bool) : Nat := b1 (inS o s && !at')
theorem tp_step {h : GH} {o : Option Nat} {tt s g : Nat} {at' : Bool} (hat : at' = true → inS o s = true) (hb : s.testBit g = false) : tp o (s ||| 2 ^ g) (at' || (!selo o g && decide (spt h (s ||| 2 ^ g) = tt))) = tp o s at' + b1 (!selo o g && decide (spt h (s ||| 2 ^ g) ≠ tt)) := by
  cases o with
  | none =>
    have e : selo none g = true := decide_eq_true (fun q => by cases q)
    rw [e]
    rfl
  | some g0 =>
    by_cases z : g0 = g
    · subst z
      have e : selo (some g0) g0 = false := decide_eq_false (fun q => q rfl)
      have hat' : at' = false := by
        cases at' with
        | false => rfl
        | true =>
          have h1 : s.testBit g0 = true := hat rfl
          rw [hb] at h1; cases h1
      have e1 : inS (some g0) (s ||| 2 ^ g0) = true := by
        show (s ||| 2 ^ g0).testBit g0 = true
        rw [bt_ob, decide_eq_true rfl, Bool.or_true]
      have e2 : inS (some g0) s = false := hb
      unfold tp
      rw [e, hat', e1, e2]
      by_cases y : spt h (s ||| 2 ^ g0) = tt
      · rw [decide_eq_true y, decide_eq_false (fun q : spt h (s ||| 2 ^ g0) ≠ tt => q y)]; rfl
      · rw [decide_eq_false y, decide_eq_true (show spt h (s ||| 2 ^ g0) ≠ tt from y)]; rfl
    · have e : selo (some g0) g = true := decide_eq_true (fun q => z (Option.some.inj q))
      have e1 : inS (some g0) (s ||| 2 ^ g) = inS (some g0) s := by
        show (s ||| 2 ^ g).testBit g0 = s.testBit g0
        rw [bt_ob, decide_eq_false (fun q => z q.symm), Bool.or_false]
      unfold tp
      rw [e, e1, show (!true && decide (spt h (s ||| 2 ^ g) = tt)) = false from rfl, Bool.or_false]
      rfl
theorem inS_step {h : GH} {o : Option Nat} {tt s g : Nat} {at' : Bool} (hat : at' = true → inS o s = true) : (at' || (!selo o g && decide (spt h (s ||| 2 ^ g) = tt))) = true → inS o (s ||| 2 ^ g) = true := by
  intro q
  cases o with
  | none =>
    have e : selo none g = true := decide_eq_true (fun q => by cases q)
    rw [e, show (!true && decide (spt h (s ||| 2 ^ g) = tt)) = false from rfl, Bool.or_false] at q
    have := hat q
    cases this
  | some g0 =>
    show (s ||| 2 ^ g).testBit g0 = true
    rw [bt_ob]
    rcases (Bool.or_eq_true _ _ ▸ q : at' = true ∨ (!selo (some g0) g && decide (spt h (s ||| 2 ^ g) = tt)) = true) with q | q
    · have h1 : s.testBit g0 = true := hat q
      rw [h1]; rfl
    · have q := (Bool.and_eq_true _ _ ▸ q : (!selo (some g0) g) = true ∧ _).1
      by_cases z : g = g0
      · rw [decide_eq_true z, Bool.or_true]
      · have e : selo (some g0) g = true := decide_eq_true (fun q => z (Option.some.inj q).symm)
        rw [e] at q; cases q
theorem U_le (acc x : Nat × List Nat) : (U acc x).1 ≤ acc.1 := by
  by_cases z : x.1 < acc.1
  · rw [U_lt z]; omega
  · rw [U_ge z]; exact Nat.le_refl _
theorem nAcc_le (h : GH) (o : Option Nat) (tt m s p : Nat) (l : List Nat) (acc : Nat × List Nat) (g : Nat) : (nAcc h o tt m s p l acc g).1 ≤ acc.1 := by
  unfold nAcc nA2
  by_cases z : (fmn (nF h o tt m s) (nS s) g).1 < 64
  · rw [if_pos z]; exact U_le _ _
  · rw [if_neg z]; exact Nat.le_refl _
theorem getD_last {l : List Nat} {g : Nat} : (l ++ [g]).getD ((l ++ [g]).length - 1) 0 = g := by
  rw [List.length_append]
  show (l ++ [g]).getD (l.length + 1 - 1) 0 = g
  rw [Nat.add_sub_cancel]
  exact getD_e (suf := [])
section OT2
variable {R T : GR} {F : GF} {h : GH} {K : GK} {c : Nat} {o : Option Nat} {tt : Nat}
def Fq' (h : GH) (m s g : Nat) : Nat := if (2 ^ h.n - 1).testBit g = true ∧ s.testBit g = false ∧ due h (s ||| 2 ^ g) = false then PW h m (s ||| 2 ^ g) (2 ^ h.n - 1) else 0
def Fl' (h : GH) (m s g : Nat) : Nat := if s.testBit g = false ∧ due h (s ||| 2 ^ g) = false then lq h m (s ||| 2 ^ g) g else 0
theorem m_tree (w : WH h) (h0 : ¬ h.n = 0) (ho : ∀ x, o = some x → x < h.n) (htt : tt < 2 ^ 31) : ∀ (m d s : Nat) (l : List Nat) (pd : Nat) (at' : Bool) (Q Ls : Nat) (acc : Nat × List Nat) (μ : Mm), m < d → s < 2 ^ h.n → pc h.n s + m = h.n → l.length + m = h.n → (∀ x ∈ l, x < h.n) → (at' = true → inS o s = true) → pd ≤ l.length → Ls < 2 ^ h.n → acc.1 ≤ FARn → MI R T F h K μ c → Ln μ c l → OS h o tt Q Ls acc μ c → ∃ μ', f_X12_layOrders d μ c (nI l.length) (nI s) (nI (spt h s)) (nI pd) (nI (b1 at')) = some μ' ∧ SM μ μ' c ∧ Ln μ' c l ∧ OS h o tt (Q + if pd = 0 then PW h m s (2 ^ h.n - 1) else 0) (Ls ||| if pd = 0 then lq h m s (l.getD (l.length - 1) 0) else 0) (U acc (pd + tp o s at' + SV h o tt m s, l ++ bst h o tt m s)) μ' c := by
  have hn6 := w.1
  have hp6 := bt_p6 hn6
  have t1 := w.te_ge h0
  have t2 := w.te_lt
  have ht0 : ¬ nI h.te = 0 := nI_ne0 (by omega) (by omega)
  intro m
  induction m with
  | zero =>
    intro d s l pd at' Q Ls acc μ q1 q2 q3 q4 q5 q6 q7 q8 q9 H hL hS
    obtain ⟨d, rfl⟩ : ∃ e, d = e + 1 := ⟨d - 1, by omega⟩
    have hl : l.length = h.n := by omega
    have hin : inS o s = o.isSome := by
      cases ho' : o with
      | none => rfl
      | some g0 => exact pc_full (n := h.n) (s := s) (by omega) g0 (ho g0 ho')
    have hl6 : ∀ i, i < h.n → l.getD i 0 < h.n := fun i hi => by
      rw [List.getD_eq_getElem?_getD, List.getElem?_eq_getElem (by omega)]
      exact q5 _ (List.getElem_mem _)
    obtain ⟨μ', y1, y2, y3, y4⟩ := m_ends (o := o) (tt := tt) (p := pd + tp o s at') (at' := at') w h0 (fun x hx => by have := ho x hx; omega) hl hl6 (show pd ≤ 6 by omega) (by unfold tp; rw [hin]) (show Ls < 64 by omega) q9 H hL hS
    refine ⟨μ', ?_, y2, fun i hi => (y3 i).trans (hL i hi), ?_⟩
    · have e1 : ∀ (X Y : Option Mm), (if nI l.length = nI h.n then X else Y) = X := fun X Y => if_pos (congrArg nI hl)
      simp (config := { decide := true }) only [↓reduceIte, Option.bind_some, Option.bind_none, f_X12_layOrders, H.1.t0, m_hev H, e1, y1]
    · rw [hl, show bst h o tt 0 s = [] from rfl, List.append_nil]
      exact y4
  | succ m ih =>
    intro d s l pd at' Q Ls acc μ q1 q2 q3 q4 q5 q6 q7 q8 q9 H hL hS
    obtain ⟨d, rfl⟩ : ∃ e, d = e + 1 := ⟨d - 1, by omega⟩
    have hne : ¬ nI l.length = nI h.n := fun z => by
      have := (nI_eq (by omega) (by omega)).mp z
      omega
    have hloop : ∀ (f g : Nat) (μ : Mm), g ≤ h.n → h.n < g + f → MI R T F h K μ c → Ln μ c l → OS h o tt (Q + if pd = 0 then sumN (Fq' h m s) g else 0) (Ls ||| if pd = 0 then orf (Fl' h m s) g else 0) (nAcc h o tt m s (pd + tp o s at') l acc g) μ c → ∃ μ', lp_X12_layOrders_20 (f_X12_layOrders d) f c (nI l.length) (nI s) (nI (spt h s)) (nI pd) (nI (b1 at')) (nI g) μ = some μ' ∧ SM μ μ' c ∧ Ln μ' c l ∧ OS h o tt (Q + if pd = 0 then sumN (Fq' h m s) h.n else 0) (Ls ||| if pd = 0 then orf (Fl' h m s) h.n else 0) (nAcc h o tt m s (pd + tp o s at') l acc h.n) μ' c := by
      intro f
      induction f with
      | zero => intro g μ q1 q2; omega
      | succ f ihf =>
        intro g μ r1 r2 H hL hS
        by_cases e : g = h.n
        · have e1 : nI h.n ≤ nI g := by rw [e]; exact Int32.le_refl _
          refine ⟨μ, ?_, SM.rf μ c, hL, by rw [e] at hS; exact hS⟩
          simp (config := { decide := true }) only [↓reduceIte, Option.bind_some, Option.bind_none, lp_X12_layOrders_20, m_hev H, e1]
        · have e1 : ¬ nI h.n ≤ nI g := nI_ge (by omega) (by omega)
          have hg : g < h.n := by omega
          have eh := m_has μ (show s < 64 by omega) (show g < 6 by omega)
          cases hb : s.testBit g with
          | true =>
            rw [hb] at eh
            have eh' : f_X12_has μ (nI s) (nI g) = some 1 := eh
            have z1 : Fq' h m s g = 0 := if_neg (fun q => by rw [hb] at q; cases q.2.1)
            have z2 : Fl' h m s g = 0 := if_neg (fun q => by rw [hb] at q; cases q.1)
            obtain ⟨μ', y1, y2, y3, y4⟩ := ihf (g + 1) μ (by omega) (by omega) H hL (by
              rw [sumN_s, orf_s, z1, z2, Nat.or_zero, nAcc_skip hb]
              exact hS)
            refine ⟨μ', ?_, y2, y3, y4⟩
            simp (config := { decide := true }) only [↓reduceIte, Option.bind_some, Option.bind_none, lp_X12_layOrders_20, m_hev H, e1, eh', nI_1, y1]
          | false =>
            rw [hb] at eh
            have eh' : f_X12_has μ (nI s) (nI g) = some 0 := eh
            have hsg := bt_ltn q2 hg
            have htr := w.tr_le hg
            have hsp : spt h s < h.te := Nat.mod_lt _ (by omega)
            have hsp2 : spt h (s ||| 2 ^ g) < h.te := Nat.mod_lt _ (by omega)
            have e2 := pk_rem (a := spt h s + h.tr g) (d := h.te) (by omega) (by omega) (by omega)
            rw [spt_add hg hb] at e2
            have s1 : SM μ (sI μ (c + 19) l.length (nI g)) c := (SM.rf μ c).sI (by unfold asd; omega)
            have H1 := H.scr s1
            have qa := qI_of (v := nI g) H.1.t19 (show l.length < ln μ (c + 19) by rw [H.1.n19]; omega) (by omega)
            have er : f_X12_isRent (sI μ (c + 19) l.length (nI g)) c (nI (spt h (s ||| 2 ^ g))) = some (nI (b1 (due h (s ||| 2 ^ g)))) := m_rent H1 (by omega)
            have e13 : (if nI (b1 (due h (s ||| 2 ^ g))) = 0 then some (0 : Int32) else some (1 : Int32)) = some (nI (b1 (due h (s ||| 2 ^ g)))) := by cases due h (s ||| 2 ^ g) <;> rfl
            have hL1 : Ln (sI μ (c + 19) l.length (nI g)) c (l ++ [g]) := fun i hi => by
              rw [List.length_append] at hi
              have hi : i < l.length + 1 := hi
              by_cases z : i = l.length
              · subst z
                rw [mI_eq, getD_e (suf := [])]
              · rw [mI_nk z, getD_l (by omega)]
                exact hL i (by omega)
            have hS1 := hS.mv (μ' := sI μ (c + 19) l.length (nI g)) (fun j => mI_ne (by omega)) rfl (fun j => mI_ne (by omega))
            have hlen : (l ++ [g]).length = l.length + 1 := by rw [List.length_append]; rfl
            have hb1 := b1_le (due h (s ||| 2 ^ g))
            have hLs2 : (Ls ||| if pd = 0 then orf (Fl' h m s) g else 0) < 2 ^ h.n := by
              refine Nat.or_lt_two_pow q8 ?_
              by_cases z : pd = 0
              · rw [if_pos z]
                refine orf_lt g fun x hx => ?_
                unfold Fl'
                by_cases y : s.testBit x = false ∧ due h (s ||| 2 ^ x) = false
                · rw [if_pos y]; exact lq_lt h _ _ _ (by omega)
                · rw [if_neg y]; exact Nat.two_pow_pos _
              · rw [if_neg z]; exact Nat.two_pow_pos _
            have hac := nAcc_le h o tt m s (pd + tp o s at') l acc g
            obtain ⟨μ1, y1, y2, y3, y4⟩ := ih d (s ||| 2 ^ g) (l ++ [g]) (pd + b1 (due h (s ||| 2 ^ g))) (at' || (!selo o g && decide (spt h (s ||| 2 ^ g) = tt))) _ _ _ (sI μ (c + 19) l.length (nI g)) (by omega) hsg (by rw [pc_add hg hb]; omega) (by rw [hlen]; omega) (fun x hx => by
              rcases List.mem_append.mp hx with z | z
              · exact q5 x z
              · rw [List.mem_singleton.mp z]; exact hg) (inS_step q6) (by rw [hlen]; omega) hLs2 (by omega) H1 hL1 hS1
            rw [hlen] at y1
            rw [getD_last] at y4
            have hfull : (2 ^ h.n - 1).testBit g = true := by rw [Nat.testBit_two_pow_sub_one]; exact decide_eq_true hg
            have hS2 : OS h o tt (Q + if pd = 0 then sumN (Fq' h m s) (g + 1) else 0) (Ls ||| if pd = 0 then orf (Fl' h m s) (g + 1) else 0) (nAcc h o tt m s (pd + tp o s at') l acc (g + 1)) μ1 c := by
              have eacc : U (nAcc h o tt m s (pd + tp o s at') l acc g) (pd + b1 (due h (s ||| 2 ^ g)) + tp o (s ||| 2 ^ g) (at' || (!selo o g && decide (spt h (s ||| 2 ^ g) = tt))) + SV h o tt m (s ||| 2 ^ g), l ++ [g] ++ bst h o tt m (s ||| 2 ^ g)) = nAcc h o tt m s (pd + tp o s at') l acc (g + 1) := by
                rw [nAcc_step hn6 (by omega) hg hb, tp_step q6 hb]
                refine congrArg (fun x => U _ (x, _)) ?_
                unfold wr
                omega
              have eQ : (Q + if pd = 0 then sumN (Fq' h m s) g else 0) + (if pd + b1 (due h (s ||| 2 ^ g)) = 0 then PW h m (s ||| 2 ^ g) (2 ^ h.n - 1) else 0) = Q + if pd = 0 then sumN (Fq' h m s) (g + 1) else 0 := by
                by_cases z : pd = 0
                · rw [if_pos z, if_pos z, sumN_s, z]
                  cases hd : due h (s ||| 2 ^ g) with
                  | true =>
                    rw [if_neg (by decide : ¬ 0 + b1 true = 0), show Fq' h m s g = 0 from if_neg (fun q => by rw [hd] at q; cases q.2.2)]; omega
                  | false =>
                    rw [if_pos (by decide : 0 + b1 false = 0), show Fq' h m s g = PW h m (s ||| 2 ^ g) (2 ^ h.n - 1) from if_pos ⟨hfull, hb, hd⟩]; omega
                · rw [if_neg z, if_neg z, if_neg (by omega)]
              have eL : ((Ls ||| if pd = 0 then orf (Fl' h m s) g else 0) ||| (if pd + b1 (due h (s ||| 2 ^ g)) = 0 then lq h m (s ||| 2 ^ g) g else 0)) = Ls ||| if pd = 0 then orf (Fl' h m s) (g + 1) else 0 := by
                by_cases z : pd = 0
                · rw [if_pos z, if_pos z, orf_s, z, Nat.or_assoc]
                  cases hd : due h (s ||| 2 ^ g) with
                  | true =>
                    rw [if_neg (by decide : ¬ 0 + b1 true = 0), show Fl' h m s g = 0 from if_neg (fun q => by rw [hd] at q; cases q.2)]
                  | false =>
                    rw [if_pos (by decide : 0 + b1 false = 0), show Fl' h m s g = lq h m (s ||| 2 ^ g) g from if_pos ⟨hb, hd⟩]
                · rw [if_neg z, if_neg z, if_neg (by omega), Nat.or_assoc, Nat.or_zero]
              rw [eacc, eQ, eL] at y4
              exact y4
            have hL2 : Ln μ1 c l := fun i hi => by
              have := y3 i (by rw [hlen]; omega)
              rw [getD_l hi] at this
              exact this
            obtain ⟨μ2, x1, x2, x3, x4⟩ := ihf (g + 1) μ1 (by omega) (by omega) (H1.scr y2) hL2 hS2
            refine ⟨μ2, ?_, (s1.tr y2).tr x2, x3, x4⟩
            have ebt := (bt_tab s (by omega) g (by omega)).2.1
            have hce := mcode_eq (o := o) (g := g) (by omega) (fun x hx => by have := ho x hx; omega)
            have e35 : gI (sI μ (c + 19) l.length (nI g)) c 13 35 = some (mcode o) := gI_e H1.1.t0 hS1.1
            cases hat : at' with
            | true =>
              have e5 : ¬ nI (b1 true) = 0 := by decide
              rw [hat, Bool.true_or] at y1
              have y1' : f_X12_layOrders d (sI μ (c + 19) l.length (nI g)) c (nI (l.length + 1)) (nI (s ||| 2 ^ g)) (nI (spt h (s ||| 2 ^ g))) (nI (pd + b1 (due h (s ||| 2 ^ g)))) 1 = some μ1 := y1
              rw [hat] at x1
              simp (config := { decide := true }) only [↓reduceIte, Option.bind_some, Option.bind_none, lp_X12_layOrders_20, m_hev H, e1, eh', m_tread H w hg, ht0, gP_of H.1.t0 H.1.p0_32, qa, nI_add, e2, er, e13, e5, ebt, nI_1, y1', x1]
            | false =>
              have e5 : nI (b1 false) = 0 := rfl
              rw [hat, Bool.false_or] at y1
              rw [hat] at x1
              have x1' : lp_X12_layOrders_20 (f_X12_layOrders d) f c (nI l.length) (nI s) (nI (spt h s)) (nI pd) 0 (nI (g + 1)) μ1 = some μ2 := x1
              by_cases q : selo o g = true
              · have e6 : ¬ nI g = mcode o := fun z => by have := hce.mp z; rw [q] at this; cases this
                rw [q] at y1
                have y1' : f_X12_layOrders d (sI μ (c + 19) l.length (nI g)) c (nI (l.length + 1)) (nI (s ||| 2 ^ g)) (nI (spt h (s ||| 2 ^ g))) (nI (pd + b1 (due h (s ||| 2 ^ g)))) 0 = some μ1 := y1
                simp (config := { decide := true }) only [↓reduceIte, Option.bind_some, Option.bind_none, lp_X12_layOrders_20, m_hev H, e1, eh', m_tread H w hg, ht0, gP_of H.1.t0 H.1.p0_32, qa, nI_add, e2, er, e13, e5, e35, e6, ebt, nI_1, y1', x1']
              · have q' : selo o g = false := by
                  cases hq : selo o g with
                  | true => exact absurd hq q
                  | false => rfl
                have e6 : ∀ (X Y : Option Mm), (if nI g = mcode o then X else Y) = X := fun X Y => if_pos (hce.mpr q')
                have hon : o ≠ none := fun z => by rw [z] at q'; cases q'
                have e36 : gI (sI μ (c + 19) l.length (nI g)) c 13 36 = some (nI tt) := gI_e H1.1.t0 (hS1.2.2.2.2 hon).1
                rw [q'] at y1
                by_cases z : spt h (s ||| 2 ^ g) = tt
                · have e7 : ∀ (X Y : Option Mm), (if nI (spt h (s ||| 2 ^ g)) = nI tt then X else Y) = X := fun X Y => if_pos (congrArg nI z)
                  rw [decide_eq_true z] at y1
                  have y1' : f_X12_layOrders d (sI μ (c + 19) l.length (nI g)) c (nI (l.length + 1)) (nI (s ||| 2 ^ g)) (nI (spt h (s ||| 2 ^ g))) (nI (pd + b1 (due h (s ||| 2 ^ g)))) 1 = some μ1 := y1
                  simp (config := { decide := true }) only [↓reduceIte, Option.bind_some, Option.bind_none, lp_X12_layOrders_20, m_hev H, e1, eh', m_tread H w hg, ht0, gP_of H.1.t0 H.1.p0_32, qa, nI_add, e2, er, e13, e5, e35, e6, e36, e7, ebt, nI_1, y1', x1']
                · have e7 : ¬ nI (spt h (s ||| 2 ^ g)) = nI tt := fun y => z ((nI_eq (by omega) htt).mp y)
                  rw [decide_eq_false z] at y1
                  have y1' : f_X12_layOrders d (sI μ (c + 19) l.length (nI g)) c (nI (l.length + 1)) (nI (s ||| 2 ^ g)) (nI (spt h (s ||| 2 ^ g))) (nI (pd + b1 (due h (s ||| 2 ^ g)))) 0 = some μ1 := y1
                  simp (config := { decide := true }) only [↓reduceIte, Option.bind_some, Option.bind_none, lp_X12_layOrders_20, m_hev H, e1, eh', m_tread H w hg, ht0, gP_of H.1.t0 H.1.p0_32, qa, nI_add, e2, er, e13, e5, e35, e6, e36, e7, ebt, nI_1, y1', x1']
    obtain ⟨μ', y1, y2, y3, y4⟩ := hloop BIG 0 μ (by omega) (by unfold BIG; omega) H hL (by
      have e0 : (if pd = 0 then sumN (Fq' h m s) 0 else 0) = 0 := by by_cases z : pd = 0 <;> simp [z, sumN]
      have e0' : (if pd = 0 then orf (Fl' h m s) 0 else 0) = 0 := by by_cases z : pd = 0 <;> simp [z, orf]
      rw [e0, e0', Nat.or_zero, nAcc_0]
      exact hS)
    have y1' : lp_X12_layOrders_20 (f_X12_layOrders d) BIG c (nI l.length) (nI s) (nI (spt h s)) (nI pd) (nI (b1 at')) 0 μ = some μ' := y1
    refine ⟨μ', ?_, y2, y3, ?_⟩
    · simp (config := { decide := true }) only [↓reduceIte, Option.bind_some, Option.bind_none, f_X12_layOrders, H.1.t0, m_hev H, hne, y1']
    · rw [nAcc_end hn6 (by omega)] at y4
      exact y4
end OT2
