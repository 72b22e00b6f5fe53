/-! ===== the model's fits ===== -/
section FM
variable {R T : GR} {F : GF} {h : GH} {K : GK} {μ : Mm} {c : Nat}
theorem m_has (μ : Mm) {s g : Nat} (hs : s < 64) (hg : g < 6) : f_X12_has μ (nI s) (nI g) = some (nI (b1 (s.testBit g))) := by
  have e := (bt_tab s hs g hg).1
  cases hb : s.testBit g with
  | true =>
    rw [hb] at e
    have e' : ((nI s >>> (nI g &&& 31)) &&& (1 : Int32)) = 1 := e
    simp (config := { decide := true }) only [↓reduceIte, Option.bind_some, Option.bind_none, f_X12_has, e'] <;> rfl
  | false =>
    rw [hb] at e
    have e' : ((nI s >>> (nI g &&& 31)) &&& (1 : Int32)) = 0 := e
    simp (config := { decide := true }) only [↓reduceIte, Option.bind_some, Option.bind_none, f_X12_has, e'] <;> rfl
theorem m_gone (H : MI R T F h K μ c) (w : WH h) (h0 : ¬ h.n = 0) {s : Nat} (hs : s < 64) : f_X12_goneBy μ c (nI s) = some (nI (sft h s)) := by
  have hn6 := w.1
  have t1 := w.te_ge h0
  have t2 := w.te_lt
  have hl : ∀ (f g : Nat), g ≤ h.n → h.n < g + f → lp_X12_goneBy_4 f c (nI s) (nI (smt h.tr g s)) (nI g) μ = some (nI (smt h.tr h.n s)) := by
    intro f
    induction f with
    | zero => intro g q1 q2; omega
    | succ f ih =>
      intro g q1 q2
      by_cases e : g = h.n
      · have e1 : nI h.n ≤ nI g := by rw [e]; exact Int32.le_refl _
        simp (config := { decide := true }) only [↓reduceIte, Option.bind_some, Option.bind_none, lp_X12_goneBy_4, m_hev H, e1]
        rw [e]
      · have e1 : ¬ nI h.n ≤ nI g := nI_ge (by omega) (by omega)
        have hI := ih (g + 1) (by omega) (by omega)
        have eh := m_has μ hs (show g < 6 by omega)
        unfold smt at hI ⊢
        rw [sumN_s] at hI
        cases hb : s.testBit g with
        | true =>
          rw [hb] at eh hI
          have eh' : f_X12_has μ (nI s) (nI g) = some 1 := eh
          rw [if_pos rfl] at hI
          simp (config := { decide := true }) only [↓reduceIte, Option.bind_some, Option.bind_none, lp_X12_goneBy_4, m_hev H, e1, eh', m_tread H w (show g < h.n by omega), nI_add, nI_1]
          exact hI
        | false =>
          rw [hb] at eh hI
          have eh' : f_X12_has μ (nI s) (nI g) = some 0 := eh
          rw [if_neg (by decide), Nat.add_zero] at hI
          simp (config := { decide := true }) only [↓reduceIte, Option.bind_some, Option.bind_none, lp_X12_goneBy_4, m_hev H, e1, eh', nI_z, nI_1]
          exact hI
  have e := hl BIG 0 (by omega) (by unfold BIG; omega)
  have e' : lp_X12_goneBy_4 BIG c (nI s) 0 0 μ = _ := e
  have hsm := w.smt_le s
  have ht0 : ¬ nI h.te = 0 := nI_ne0 (by omega) (by omega)
  simp (config := { decide := true }) only [↓reduceIte, Option.bind_some, Option.bind_none, f_X12_goneBy, H.1.t0, e', m_hev H, ht0, pk_rem (show smt h.tr h.n s < 2 ^ 31 by omega) (show 0 < h.te by omega) (show h.te < 2 ^ 31 by omega)]
  rfl
/-- all, some -/
def andN (h : GH) (t : Nat) : Nat → Nat
  | 0 => 2 ^ h.n - 1
  | s+1 => if fit h t s then andN h t s &&& s else andN h t s
def orN (h : GH) (t : Nat) : Nat → Nat
  | 0 => 0
  | s+1 => if fit h t s then orN h t s ||| s else orN h t s
def ffN (h : GH) (t : Nat) : Nat → Option Nat
  | 0 => none
  | s+1 => if fit h t s ∧ cntP (fit h t) s = 0 then some s else ffN h t s
theorem andN_s (h : GH) (t s : Nat) : andN h t (s + 1) = if fit h t s then andN h t s &&& s else andN h t s := rfl
theorem orN_s (h : GH) (t s : Nat) : orN h t (s + 1) = if fit h t s then orN h t s ||| s else orN h t s := rfl
theorem ffN_s (h : GH) (t s : Nat) : ffN h t (s + 1) = if fit h t s ∧ cntP (fit h t) s = 0 then some s else ffN h t s := rfl
/-- the model's numbers behind s sets -/
def Fq (h : GH) (t s : Nat) (μ : Mm) (c : Nat) : Prop := mI μ c 42 = nI (cntP (fit h t) s) ∧ mI μ c 43 = ofn (ffN h t s) ∧ mI μ c 44 = nI (andN h t s) ∧ mI μ c 45 = nI (orN h t s) ∧ ∀ g, g < h.n → mI μ (c + 23) g = nI (cntP (fitg h t g) s)
theorem andN_lt (h : GH) (t : Nat) : ∀ s, andN h t s < 2 ^ h.n := by
  intro s
  induction s with
  | zero => exact Nat.sub_lt (Nat.two_pow_pos _) (by decide)
  | succ s ih =>
    rw [andN_s]
    by_cases e : fit h t s = true
    · rw [if_pos e]; exact Nat.lt_of_le_of_lt (Nat.and_le_left) ih
    · rw [if_neg e]; exact ih
theorem orN_lt (h : GH) (t : Nat) : ∀ s, s ≤ 2 ^ h.n → orN h t s < 2 ^ h.n := by
  intro s
  induction s with
  | zero => intro _; exact Nat.two_pow_pos _
  | succ s ih =>
    intro hs
    rw [orN_s]
    by_cases e : fit h t s = true
    · rw [if_pos e]; exact Nat.or_lt_two_pow (ih (by omega)) (by omega)
    · rw [if_neg e]; exact ih (by omega)
theorem m_lf30 (w : WH h) {t : Nat} : ∀ (f g : Nat) (μ : Mm), g ≤ h.n → h.n < g + f → MI R T F h K μ c → (∀ x, x < g → mI μ (c + 23) x = 0) → ∃ μ', lp_X12_layFits_30 f c (nI t) (nI g) μ = some μ' ∧ SM μ μ' c ∧ (∀ x, x < h.n → mI μ' (c + 23) x = 0) ∧ ∀ j, mI μ' c j = mI μ c j := by
  have hn6 := w.1
  intro f
  induction f with
  | zero => intro g μ q1 q2; omega
  | succ f ih =>
    intro g μ q1 q2 H hz
    by_cases e : g = h.n
    · have e1 : nI h.n ≤ nI g := by rw [e]; exact Int32.le_refl _
      refine ⟨μ, ?_, SM.rf μ c, by rw [← e]; exact hz, fun _ => rfl⟩
      simp (config := { decide := true }) only [↓reduceIte, Option.bind_some, Option.bind_none, lp_X12_layFits_30, m_hev H, e1]
    · have e1 : ¬ nI h.n ≤ nI g := nI_ge (by omega) (by omega)
      have s1 : SM μ (sI μ (c + 23) g 0) c := (SM.rf μ c).sI (by unfold asd; omega)
      have qq := qI_of (v := 0) H.1.t23 (show g < ln μ (c + 23) by rw [H.1.n23]; omega) (by omega)
      obtain ⟨μ', y1, y2, y3, y4⟩ := ih (g + 1) _ (by omega) (by omega) (H.scr s1) (fun x hx => by
        by_cases z : x = g
        · rw [z, mI_eq]
        · rw [mI_nk z]; exact hz x (by omega))
      refine ⟨μ', ?_, s1.tr y2, y3, fun j => (y4 j).trans (mI_ne (by omega))⟩
      simp (config := { decide := true }) only [↓reduceIte, Option.bind_some, Option.bind_none, lp_X12_layFits_30, m_hev H, e1, H.1.t0, gP_of H.1.t0 H.1.p0_1, gP_of H.1.t0 H.1.p0_5, gP_of H.1.t0 H.1.p0_6, gP_of H.1.t0 H.1.p0_7, gP_of H.1.t0 H.1.p0_8, gP_of H.1.t0 H.1.p0_9, gP_of H.1.t0 H.1.p0_14, gP_of H.1.t0 H.1.p0_15, gP_of H.1.t0 H.1.p0_21, gP_of H.1.t0 H.1.p0_22, gP_of H.1.t0 H.1.p0_23, gP_of H.1.t0 H.1.p0_24, gP_of H.1.t0 H.1.p0_26, gP_of H.1.t0 H.1.p0_27, gP_of H.1.t0 H.1.p0_28, gP_of H.1.t0 H.1.p0_29, gP_of H.1.t0 H.1.p0_30, gP_of H.1.t0 H.1.p0_31, gP_of H.1.t0 H.1.p0_32, gP_of H.1.t0 H.1.p0_33, gP_of H.1.t0 H.1.p0_40, gP_of H.1.t0 H.1.p0_41, gP_of H.1.t0 H.1.p0_46, gP_of H.1.t0 H.1.p0_47, gP_of H.1.t0 H.1.p0_48, qq, nI_1, y1]
theorem m_lf123 (w : WH h) {t s : Nat} (hs : s < 64) {v : Nat → Nat} : ∀ (f g : Nat) (μ : Mm), g ≤ h.n → h.n < g + f → MI R T F h K μ c → (∀ x, x < h.n → mI μ (c + 23) x = nI (v x + if x < g then b1 (s.testBit x) else 0)) → ∃ μ', lp_X12_layFits_123 f c (nI t) (nI s) (nI g) μ = some μ' ∧ SM μ μ' c ∧ (∀ x, x < h.n → mI μ' (c + 23) x = nI (v x + b1 (s.testBit x))) ∧ ∀ j, mI μ' c j = mI μ c j := by
  have hn6 := w.1
  intro f
  induction f with
  | zero => intro g μ q1 q2; omega
  | succ f ih =>
    intro g μ q1 q2 H hz
    by_cases e : g = h.n
    · have e1 : nI h.n ≤ nI g := by rw [e]; exact Int32.le_refl _
      refine ⟨μ, ?_, SM.rf μ c, fun x hx => ?_, fun _ => rfl⟩
      · simp (config := { decide := true }) only [↓reduceIte, Option.bind_some, Option.bind_none, lp_X12_layFits_123, m_hev H, e1]
      · rw [hz x hx, if_pos (by omega)]
    · have e1 : ¬ nI h.n ≤ nI g := nI_ge (by omega) (by omega)
      have ea : aI μ (c + 23) 21 (nI g) = some (nI (v g)) := by rw [aI_of H.1.t23 (by rw [H.1.n23]; omega) (by omega), hz g (by omega), if_neg (Nat.lt_irrefl _), Nat.add_zero]
      have eh := m_has μ hs (show g < 6 by omega)
      have s1 : SM μ (sI μ (c + 23) g (nI (v g + b1 (s.testBit g)))) c := (SM.rf μ c).sI (by unfold asd; omega)
      have qq := qI_of (v := nI (v g + b1 (s.testBit g))) H.1.t23 (show g < ln μ (c + 23) by rw [H.1.n23]; omega) (by omega)
      obtain ⟨μ', y1, y2, y3, y4⟩ := ih (g + 1) _ (by omega) (by omega) (H.scr s1) (fun x hx => by
        by_cases z : x = g
        · subst z; rw [mI_eq, if_pos (by omega)]
        · rw [mI_nk z, hz x hx]
          by_cases z2 : x < g
          · rw [if_pos z2, if_pos (by omega)]
          · rw [if_neg z2, if_neg (by omega)])
      refine ⟨μ', ?_, s1.tr y2, y3, fun j => (y4 j).trans (mI_ne (by omega))⟩
      cases hb : s.testBit g with
      | true =>
        rw [hb] at eh qq y1
        have eh' : f_X12_has μ (nI s) (nI g) = some 1 := eh
        have qq' : qI μ (c + 23) 21 (nI g) (nI (v g + 1)) = some (sI μ (c + 23) g (nI (v g + 1))) := qq
        have y1' : lp_X12_layFits_123 f c (nI t) (nI s) (nI (g + 1)) (sI μ (c + 23) g (nI (v g + 1))) = some μ' := y1
        simp (config := { decide := true }) only [↓reduceIte, Option.bind_some, Option.bind_none, lp_X12_layFits_123, m_hev H, e1, H.1.t0, gP_of H.1.t0 H.1.p0_1, gP_of H.1.t0 H.1.p0_5, gP_of H.1.t0 H.1.p0_6, gP_of H.1.t0 H.1.p0_7, gP_of H.1.t0 H.1.p0_8, gP_of H.1.t0 H.1.p0_9, gP_of H.1.t0 H.1.p0_14, gP_of H.1.t0 H.1.p0_15, gP_of H.1.t0 H.1.p0_21, gP_of H.1.t0 H.1.p0_22, gP_of H.1.t0 H.1.p0_23, gP_of H.1.t0 H.1.p0_24, gP_of H.1.t0 H.1.p0_26, gP_of H.1.t0 H.1.p0_27, gP_of H.1.t0 H.1.p0_28, gP_of H.1.t0 H.1.p0_29, gP_of H.1.t0 H.1.p0_30, gP_of H.1.t0 H.1.p0_31, gP_of H.1.t0 H.1.p0_32, gP_of H.1.t0 H.1.p0_33, gP_of H.1.t0 H.1.p0_40, gP_of H.1.t0 H.1.p0_41, gP_of H.1.t0 H.1.p0_46, gP_of H.1.t0 H.1.p0_47, gP_of H.1.t0 H.1.p0_48, ea, eh', nI_1, qq', y1']
      | false =>
        rw [hb] at eh qq y1
        have eh' : f_X12_has μ (nI s) (nI g) = some 0 := eh
        have qq' : qI μ (c + 23) 21 (nI g) (nI (v g)) = some (sI μ (c + 23) g (nI (v g))) := qq
        have y1' : lp_X12_layFits_123 f c (nI t) (nI s) (nI (g + 1)) (sI μ (c + 23) g (nI (v g))) = some μ' := y1
        simp (config := { decide := true }) only [↓reduceIte, Option.bind_some, Option.bind_none, lp_X12_layFits_123, m_hev H, e1, H.1.t0, gP_of H.1.t0 H.1.p0_1, gP_of H.1.t0 H.1.p0_5, gP_of H.1.t0 H.1.p0_6, gP_of H.1.t0 H.1.p0_7, gP_of H.1.t0 H.1.p0_8, gP_of H.1.t0 H.1.p0_9, gP_of H.1.t0 H.1.p0_14, gP_of H.1.t0 H.1.p0_15, gP_of H.1.t0 H.1.p0_21, gP_of H.1.t0 H.1.p0_22, gP_of H.1.t0 H.1.p0_23, gP_of H.1.t0 H.1.p0_24, gP_of H.1.t0 H.1.p0_26, gP_of H.1.t0 H.1.p0_27, gP_of H.1.t0 H.1.p0_28, gP_of H.1.t0 H.1.p0_29, gP_of H.1.t0 H.1.p0_30, gP_of H.1.t0 H.1.p0_31, gP_of H.1.t0 H.1.p0_32, gP_of H.1.t0 H.1.p0_33, gP_of H.1.t0 H.1.p0_40, gP_of H.1.t0 H.1.p0_41, gP_of H.1.t0 H.1.p0_46, gP_of H.1.t0 H.1.p0_47, gP_of H.1.t0 H.1.p0_48, ea, eh', nI_z, nI_1, qq', y1']
def mlf (h : GH) (t s : Nat) (μ : Mm) (c : Nat) : Mm := sI (sI (sI (sI μ c 43 (if cntP (fit h t) s = 0 then nI s else ofn (ffN h t s))) c 42 (nI (cntP (fit h t) s + 1))) c 44 (nI (andN h t s &&& s))) c 45 (nI (orN h t s ||| s))
theorem m_lf53 (w : WH h) (h0 : ¬ h.n = 0) {t : Nat} (ht : t < h.te) : ∀ (f s : Nat) (μ : Mm), s ≤ 2 ^ h.n → 2 ^ h.n < s + f → MI R T F h K μ c → Fq h t s μ c → ∃ μ', lp_X12_layFits_53 f c (nI t) (nI s) μ = some μ' ∧ SM μ μ' c ∧ Fq h t (2 ^ h.n) μ' c := by
  have hn6 := w.1
  have hp := bt_p6 hn6
  have hp0 := Nat.two_pow_pos h.n
  have t1 := w.te_ge h0
  have t2 := w.te_lt
  intro f
  induction f with
  | zero => intro s μ q1 q2; omega
  | succ f ih =>
    intro s μ q1 q2 H hF
    have ebn := bt_one h.n (by omega)
    by_cases e : s = 2 ^ h.n
    · have e1 : nI (2 ^ h.n) ≤ nI s := by rw [e]; exact Int32.le_refl _
      refine ⟨μ, ?_, SM.rf μ c, by rw [← e]; exact hF⟩
      simp (config := { decide := true }) only [↓reduceIte, Option.bind_some, Option.bind_none, lp_X12_layFits_53, m_hev H, ebn, e1]
    · have e1 : ¬ nI (2 ^ h.n) ≤ nI s := nI_ge (by omega) (by omega)
      have eg := m_gone H w h0 (show s < 64 by omega)
      have hlt : sft h s < h.te := Nat.mod_lt _ (by omega)
      obtain ⟨f1, f2, f3, f4, f5⟩ := hF
      by_cases e2 : sft h s = t
      · have e3 : fit h t s = true := decide_eq_true e2
        rw [e2] at eg
        have hc := cntP_le (fit h t) s
        have la := Nat.lt_of_lt_of_le (andN_lt h t s) hp
        have lo := Nat.lt_of_lt_of_le (orN_lt h t s (by omega)) hp
        have ea := (bt_or _ la s (by omega)).2
        have eo := (bt_or _ lo s (by omega)).1
        have g42 : gI μ c 13 42 = some (nI (cntP (fit h t) s)) := gI_e H.1.t0 f1
        have g43 : gI μ c 13 43 = some (ofn (ffN h t s)) := gI_e H.1.t0 f2
        have s4 : SM μ (mlf h t s μ c) c := ((((SM.rf μ c).sF (by omega)).sF (by omega)).sF (by omega)).sF (by omega)
        have H4 := H.scr s4
        obtain ⟨μ1, y1, y2, y3, y4⟩ := m_lf123 (F := F) (K := K) (R := R) (T := T) (c := c) w (t := t) (s := s) (v := fun g => cntP (fitg h t g) s) (by omega) BIG 0 (mlf h t s μ c) (by omega) (by unfold BIG; omega) H4 (fun x hx => by
          rw [if_neg (Nat.not_lt_zero _), Nat.add_zero]
          unfold mlf
          rw [mI_ne (by omega), mI_ne (by omega), mI_ne (by omega), mI_ne (by omega)]
          exact f5 x hx)
        have y1' : lp_X12_layFits_123 BIG c (nI t) (nI s) 0 (mlf h t s μ c) = some μ1 := y1
        have hF1 : Fq h t (s + 1) μ1 c := by
          refine ⟨?_, ?_, ?_, ?_, fun g hg => ?_⟩
          · rw [y4, cntP_s, e3]; unfold mlf; rw [mI_nk (by decide), mI_nk (by decide), mI_eq]; rfl
          · rw [y4]; unfold mlf; rw [mI_nk (by decide), mI_nk (by decide), mI_nk (by decide), mI_eq]
            rw [ffN_s]
            by_cases z : cntP (fit h t) s = 0
            · rw [if_pos z, if_pos ⟨e3, z⟩]; rfl
            · rw [if_neg z, if_neg (fun q => z q.2)]
          · rw [y4]; unfold mlf; rw [mI_nk (by decide), mI_eq]; rw [andN_s, if_pos e3]
          · rw [y4]; unfold mlf; rw [mI_eq]; rw [orN_s, if_pos e3]
          · rw [y3 g hg, cntP_s, show fitg h t g s = s.testBit g from by unfold fitg; rw [e3, Bool.true_and]]
        obtain ⟨μ2, z1, z2, z3⟩ := ih (s + 1) μ1 (by omega) (by omega) (H.scr (s4.tr y2)) hF1
        refine ⟨μ2, ?_, (s4.tr y2).tr z2, z3⟩
        have tI : ∀ (b k : Nat) (v : Int32), tg (sI μ b k v) c = 13 := fun _ _ _ => H.1.t0
        have e43 : ((if nI (cntP (fit h t) s) = 0 then some (nI s) else some (ofn (ffN h t s)) : Option Int32)) = some (if cntP (fit h t) s = 0 then nI s else ofn (ffN h t s)) := by
          by_cases z : cntP (fit h t) s = 0
          · rw [if_pos (show nI (cntP (fit h t) s) = 0 from congrArg nI z), if_pos z]
          · rw [if_neg (nI_ne0 (by omega) (by omega)), if_neg z]
        have T1 : ∀ v, tg (sI μ c 43 v) c = 13 := fun _ => H.1.t0
        have T2 : ∀ v v2, tg (sI (sI μ c 43 v) c 42 v2) c = 13 := fun _ _ => H.1.t0
        have T3 : ∀ v v2 v3, tg (sI (sI (sI μ c 43 v) c 42 v2) c 44 v3) c = 13 := fun _ _ _ => H.1.t0
        have r42 : ∀ v, gI (sI μ c 43 v) c 13 42 = some (nI (cntP (fit h t) s)) := fun v => gI_e (T1 v) (by rw [mI_nk (by decide)]; exact f1)
        have r44 : ∀ v v2, gI (sI (sI μ c 43 v) c 42 v2) c 13 44 = some (nI (andN h t s)) := fun v v2 => gI_e (T2 v v2) (by rw [mI_nk (by decide), mI_nk (by decide)]; exact f3)
        have r45 : ∀ v v2 v3, gI (sI (sI (sI μ c 43 v) c 42 v2) c 44 v3) c 13 45 = some (nI (orN h t s)) := fun v v2 v3 => gI_e (T3 v v2 v3) (by rw [mI_nk (by decide), mI_nk (by decide), mI_nk (by decide)]; exact f4)
        have y1'' : lp_X12_layFits_123 BIG c (nI t) (nI s) 0 (sI (sI (sI (sI μ c 43 (if cntP (fit h t) s = 0 then nI s else ofn (ffN h t s))) c 42 (nI (cntP (fit h t) s + 1))) c 44 (nI (andN h t s &&& s))) c 45 (nI (orN h t s ||| s))) = some μ1 := y1'
        simp (config := { decide := true }) only [↓reduceIte, Option.bind_some, Option.bind_none, lp_X12_layFits_53, m_hev H, ebn, e1, eg, g42, g43, e43, pI_of H.1.t0, r42, pI_of (T1 _), nI_1, r44, ea, pI_of (T2 _ _), r45, eo, pI_of (T3 _ _ _), y1'', z1]
      · have e3 : fit h t s = false := decide_eq_false e2
        have e4 : ¬ nI (sft h s) = nI t := fun q => e2 ((nI_eq (by omega) (by omega)).mp q)
        have hF1 : Fq h t (s + 1) μ c := by
          refine ⟨?_, ?_, ?_, ?_, fun g hg => ?_⟩
          · rw [f1, cntP_s, e3]; rfl
          · rw [f2, ffN_s, if_neg (fun q => by rw [e3] at q; cases q.1)]
          · rw [f3]; show _ = nI (if fit h t s = true then _ else _); rw [if_neg (by rw [e3]; decide)]
          · rw [f4]; show _ = nI (if fit h t s = true then _ else _); rw [if_neg (by rw [e3]; decide)]
          · rw [f5 g hg, cntP_s, show fitg h t g s = false from by unfold fitg; rw [e3, Bool.false_and]]; rfl
        obtain ⟨μ2, z1, z2, z3⟩ := ih (s + 1) μ (by omega) (by omega) H hF1
        refine ⟨μ2, ?_, z2, z3⟩
        simp (config := { decide := true }) only [↓reduceIte, Option.bind_some, Option.bind_none, lp_X12_layFits_53, m_hev H, ebn, e1, eg, e4, nI_1, z1]
theorem m_lay (H : MI R T F h K μ c) (w : WH h) (h0 : ¬ h.n = 0) {t : Nat} (ht : t < h.te) : ∃ μ', f_X12_layFits μ c (nI t) = some μ' ∧ SM μ μ' c ∧ Fq h t (2 ^ h.n) μ' c := by
  have hn6 := w.1
  have hp := bt_p6 hn6
  have hp0 := Nat.two_pow_pos h.n
  have s4 : SM μ (sI (sI (sI (sI μ c 42 0) c 43 (-9)) c 44 (nI (2 ^ h.n - 1))) c 45 0) c := ((((SM.rf μ c).sF (by omega)).sF (by omega)).sF (by omega)).sF (by omega)
  have s2 : SM μ (sI (sI μ c 42 0) c 43 (-9)) c := ((SM.rf μ c).sF (by omega)).sF (by omega)
  have H2 := H.scr s2
  have H4 := H.scr s4
  obtain ⟨μ1, y1, y2, y3, y4⟩ := m_lf30 (F := F) (K := K) (R := R) (T := T) (c := c) w (t := t) BIG 0 _ (by omega) (by unfold BIG; omega) H4 (fun x hx => absurd hx (Nat.not_lt_zero _))
  have y1' : lp_X12_layFits_30 BIG c (nI t) 0 (sI (sI (sI (sI μ c 42 0) c 43 (-9)) c 44 (nI (2 ^ h.n - 1))) c 45 0) = some μ1 := y1
  have hF : Fq h t 0 μ1 c := by
    refine ⟨?_, ?_, ?_, ?_, fun g hg => y3 g hg⟩
    · rw [y4, mI_nk (by decide), mI_nk (by decide), mI_nk (by decide), mI_eq]; rfl
    · rw [y4, mI_nk (by decide), mI_nk (by decide), mI_eq]; rfl
    · rw [y4, mI_nk (by decide), mI_eq]; rfl
    · rw [y4, mI_eq]; rfl
  obtain ⟨μ2, z1, z2, z3⟩ := m_lf53 (F := F) (K := K) (R := R) (T := T) (c := c) w h0 ht BIG 0 μ1 (by omega) (by unfold BIG; omega) (H.scr (s4.tr y2)) hF
  have z1' : lp_X12_layFits_53 BIG c (nI t) 0 μ1 = some μ2 := z1
  refine ⟨μ2, ?_, (s4.tr y2).tr z2, z3⟩
  have T1 : tg (sI μ c 42 0) c = 13 := H.1.t0
  simp (config := { decide := true }) only [↓reduceIte, Option.bind_some, Option.bind_none, f_X12_layFits, H.1.t0, pI_of H.1.t0, pI_of T1, m_hev H2, pI_of H2.1.t0, bt_one h.n (by omega), bt_all h.n (by omega), pI_of (show tg (sI (sI (sI μ c 42 0) c 43 (-9)) c 44 (nI (2 ^ h.n - 1))) c = 13 from H.1.t0), y1', z1']
end FM
