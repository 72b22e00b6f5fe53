/-! ===== walk, floor, undo, shoe ===== -/
theorem XI.hupd {R T : GR} {F : GF} {h h' : GH} {K : GK} {μ μ' : Mm} {a : Nat} (H : XI R T F h K μ a) (hn : h'.n = h.n) (hs : ∀ b, b ≠ a + 3 → b ≠ a + 5 → b ≠ a + 6 → (b < a + 19 ∨ (a + 32 ≤ b ∧ b < a + 59)) → Sm μ μ' b) (hL : LX μ' a) (hH : XH h' μ' a) (hz' : hz μ ≤ hz μ') : XI R T F h' K μ' a := by
  obtain ⟨g1, g2, g3, g4, g5, g6, g7⟩ := H
  exact ⟨hL, g2.mv (fun b _ _ => hs b (by omega) (by omega) (by omega) (by omega)), g3.mv (fun b _ _ => hs b (by omega) (by omega) (by omega) (by omega)), g4.mv (hs _ (by omega) (by omega) (by omega) (by omega)) (hs _ (by omega) (by omega) (by omega) (by omega)), hH, by rw [hn]; exact g6.mv (fun b _ _ => hs b (by omega) (by omega) (by omega) (by omega)) (fun b _ _ => hs b (by omega) (by omega) (by omega) (by omega)), Nat.le_trans g7 hz'⟩
def GH.wsp (h : GH) (sp : List Nat) : GH := (h.1, h.2.1, h.2.2.1, h.2.2.2.1, h.2.2.2.2.1, h.2.2.2.2.2.1, sp)
def GH.wft (h : GH) (ft : Nat → Nat) (sp : List Nat) : GH := (h.1, h.2.1, h.2.2.1, h.2.2.2.1, h.2.2.2.2.1, ft, sp)
theorem WH.wst {h : GH} (w : WH h) (h0 : ¬ h.n = 0) : Wst h.n h.te h.kd h.ft := ⟨w.1, w.te_ge h0, w.te_lt, w.2.2.1⟩
theorem WH.sml {h : GH} (w : WH h) (h0 : ¬ h.n = 0) : Sml h.te h.q := run_sml (w.wst h0) w.2.2.2
theorem WH.wsp {h : GH} (w : WH h) (h0 : ¬ h.n = 0) {sp : List Nat} (hs : spok h.n sp) : WH (h.wsp sp) := by
  obtain ⟨w1, w2, w3, w4⟩ := w
  refine ⟨w1, ?_, w3, hs⟩
  rcases w2 with ⟨n0, -⟩ | w2
  · exact absurd n0 h0
  · exact Or.inr w2
theorem spok_snoc {n s : Nat} {sp : List Nat} (h : spok n sp) (hl : sp.length < 60) (hs : s < 9) (hsn : s < 6 → s < n) : spok n (sp ++ [s]) := by
  refine ⟨by rw [List.length_append, List.length_singleton]; omega, fun x hx => ?_⟩
  rcases List.mem_append.mp hx with hx | hx
  · exact h.2 x hx
  · rw [List.mem_singleton.mp hx]; exact ⟨hs, hsn⟩
/-- a step added, the class's side -/
theorem x_add {R T : GR} {F : GF} {h : GH} {K : GK} {μ : Mm} {a s : Nat} (H : XI R T F h K μ a) (w : WH h) (h0 : ¬ h.n = 0) (hl : h.sp.length < 60) (hs : s < 9) (hsn : s < 6 → s < h.n) : ∃ μ', f_X3_addStep μ (a + 3) (nI s) = some μ' ∧ XI R T F (h.wsp (h.sp ++ [s])) K μ' a ∧ (∀ b, a + 59 ≤ b → b < a + 61 → Sm μ μ' b) ∧ hz μ ≤ hz μ' := by
  obtain ⟨gb, hS, hP⟩ := (XH_iff h μ a).mp H.2.2.2.2.1
  have kgb := hS.2.2.2.2.2.2.2.2.2.2.1
  obtain ⟨μ', e1, e2, e3, e4, e5, e6⟩ := x_addStep H.1 hS hP hl (w.wst h0) (w.sml h0) hs hsn
  refine ⟨μ', e1, H.hupd (h' := h.wsp (h.sp ++ [s])) rfl (fun b z1 z2 z3 z4 => e5 b z1 z2 z3 (by omega)) e2 ((XH_iff _ _ _).mpr ⟨gb, ?_, e4⟩) (by omega), fun b z1 z2 => e5 b (by omega) (by omega) (by omega) (by omega), by omega⟩
  have : (h.wsp (h.sp ++ [s])).q = stp h.te h.rs h.kd h.ft h.q s := run_snoc h.te h.rs h.kd h.ft h.sp s
  rw [this, show wks (h.wsp (h.sp ++ [s])).sp = _ from wks_snoc h.sp s]
  exact e3
theorem take_l {sp : List Nat} {s i : Nat} (h : i ≤ sp.length) : (sp ++ [s]).take i = sp.take i := List.take_append_of_le_length h
theorem x_room1 {R T : GR} {F : GF} {h : GH} {K : GK} {μ : Mm} {a m : Nat} (H : XI R T F h K μ a) (hl : h.sp.length ≤ 60) (hm : m ≤ 30) : f_X3_hasRoomFor μ (a + 3) (nI m) = some (if 60 < h.sp.length + m then 0 else 1) := by
  by_cases e : 60 < h.sp.length + m
  · have e' : (60 : Int32) < nI (h.sp.length + m) := (show nI 60 < nI (h.sp.length + m) from nI_lt e (by omega))
    simp (config := { decide := true }) only [↓reduceIte, Option.bind_some, Option.bind_none, f_X3_hasRoomFor, x_hev H, nI_add, e, e']
  · have e' : ¬ (60 : Int32) < nI (h.sp.length + m) := (show ¬ nI 60 < nI (h.sp.length + m) from nI_nlt (by omega) (by omega))
    simp (config := { decide := true }) only [↓reduceIte, Option.bind_some, Option.bind_none, f_X3_hasRoomFor, x_hev H, nI_add, e, e']