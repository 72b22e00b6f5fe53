/-! ===== WHAT A STATE IS: rows, texts; what is told; the hall; the kept ones ===== -/
abbrev GR : Type := (Nat → Option Nat) × (Nat → Nat → Int32)
/-- latest finding, how often each, told, upper, lower -/
abbrev GF : Type := Int32 × (Nat → Int32) × Int32 × Int64 × Int64
/-- guilds, teeth, rents, how many rents, kinds, feet, steps -/
abbrev GH : Type := Nat × Nat × Int64 × Nat × (Nat → Nat) × (Nat → Nat) × List Nat
/-- kept: feet, steps -/
abbrev GK : Type := Nat → Option ((Nat → Nat) × List Nat)
def en : Option Nat → Int32
  | none => -1
  | some n => nI n
/-- tooth, rounds, floor, due, went, walked -/
abbrev Rst : Type := Nat × Nat × Nat × Nat × Nat × (Nat → Nat)
def bar (k f : Nat) : Nat := if k = 1 then 2 * f else if k = 4 then 2 * f - f / 2 else if k = 2 then f - 1 else if k = 5 then (f - 1) / 2 else if k = 3 then 0 else f
def trd (kd ft : Nat → Nat) (fl g : Nat) : Nat := if fl = 0 then bar (kd g) (ft g) else if fl = 1 then bar (kd g) (ft g) / 2 else 0
def isr (rs : Int64) (t : Nat) : Bool := rs.toBitVec.getLsbD t
def b1 (b : Bool) : Nat := if b then 1 else 0
def stp (te : Nat) (rs : Int64) (kd ft : Nat → Nat) (q : Rst) (s : Nat) : Rst :=
  if s < 6 then ((q.1 + trd kd ft q.2.2.1 s) % te, q.2.1 + (q.1 + trd kd ft q.2.2.1 s) / te, q.2.2.1, q.2.2.2.1 + b1 (isr rs ((q.1 + trd kd ft q.2.2.1 s) % te)), q.2.2.2.2.1 + trd kd ft q.2.2.1 s, u1 q.2.2.2.2.2 s (q.2.2.2.2.2 s + 1))
  else (q.1, q.2.1, s - 6, q.2.2.2.1, q.2.2.2.2.1, q.2.2.2.2.2)
def r0 : Rst := (0, 0, 0, 0, 0, fun _ => 0)
def run (te : Nat) (rs : Int64) (kd ft : Nat → Nat) (sp : List Nat) : Rst := sp.foldl (stp te rs kd ft) r0
def wks (sp : List Nat) : Nat := (sp.filter (fun s => decide (s < 6))).length
abbrev GH.n (h : GH) : Nat := h.1
abbrev GH.te (h : GH) : Nat := h.2.1
abbrev GH.rs (h : GH) : Int64 := h.2.2.1
abbrev GH.rm (h : GH) : Nat := h.2.2.2.1
abbrev GH.kd (h : GH) : Nat → Nat := h.2.2.2.2.1
abbrev GH.ft (h : GH) : Nat → Nat := h.2.2.2.2.2.1
abbrev GH.sp (h : GH) : List Nat := h.2.2.2.2.2.2
def GH.q (h : GH) : Rst := run h.te h.rs h.kd h.ft h.sp
def GH.tr (h : GH) (g : Nat) : Nat := trd h.kd h.ft h.q.2.2.1 g
def ktg (k : Nat) : Nat := if k = 0 then 3 else if k = 1 then 5 else if k = 2 then 2 else if k = 3 then 1 else if k = 4 then 7 else 10
def spok (n : Nat) (sp : List Nat) : Prop := sp.length ≤ 60 ∧ ∀ s ∈ sp, s < 9 ∧ (s < 6 → s < n)
def WR (R : GR) : Prop := ∀ r, r < 6 → ∀ n, R.1 r = some n → n ≤ 40
def WT (T : GR) : Prop := ∀ t, t < 4 → ∀ n, T.1 t = some n → n ≤ 60
def WH (h : GH) : Prop := h.n ≤ 6 ∧ ((h.n = 0 ∧ h.te = 0 ∧ h.rs = 0 ∧ h.rm = 0 ∧ h.sp = []) ∨ (1 ≤ h.n ∧ 12 ≤ h.te ∧ h.te ≤ 60 ∧ h.rm ≤ 6 ∧ ∀ t, isr h.rs t = true → 1 ≤ t ∧ t < h.te)) ∧ (∀ g, g < h.n → h.kd g < 6 ∧ 1 ≤ h.ft g ∧ h.ft g ≤ 9) ∧ spok h.n h.sp
def WK (h : GH) (K : GK) : Prop := ∀ k, k < 3 → ∀ v, K k = some v → 1 ≤ h.n ∧ spok h.n v.2 ∧ ∀ g, g < h.n → 1 ≤ v.1 g ∧ v.1 g ≤ 9
-- the class's side
def XR (R : GR) (μ : Mm) (a : Nat) : Prop := ∀ r, r < 6 → mI μ (a + 33 + 2 * r) 1 = en (R.1 r) ∧ ∀ n, R.1 r = some n → ∀ i, i < n → mI μ (a + 34 + 2 * r) i = R.2 r i
def XT (T : GR) (μ : Mm) (a : Nat) : Prop := ∀ r, r < 4 → mI μ (a + 45 + 2 * r) 1 = en (T.1 r) ∧ ∀ n, T.1 r = some n → ∀ i, i < n → mI μ (a + 46 + 2 * r) i = T.2 r i
def XF (F : GF) (μ : Mm) (a : Nat) : Prop := mI μ a 10 = F.1 ∧ (∀ j, j < 6 → mI μ (a + 32) j = F.2.1 j) ∧ mI μ a 11 = F.2.2.1 ∧ mL μ a 12 = F.2.2.2.1 ∧ mL μ a 13 = F.2.2.2.2
def XH (h : GH) (μ : Mm) (a : Nat) : Prop := mI μ (a + 3) 2 = nI h.n ∧ mI μ (a + 3) 3 = nI h.te ∧ mI μ (a + 3) 4 = nI h.rm ∧ mI μ (a + 3) 5 = nI h.q.1 ∧ mI μ (a + 3) 6 = nI h.q.2.1 ∧ mI μ (a + 3) 7 = nI h.q.2.2.1 ∧ mI μ (a + 3) 8 = nI h.q.2.2.2.1 ∧ mI μ (a + 3) 9 = nI (wks h.sp) ∧ mI μ (a + 3) 10 = nI h.q.2.2.2.2.1 ∧ mL μ (a + 3) 11 = h.rs ∧ mI μ (a + 5) 1 = nI h.sp.length ∧ (∀ i, i < h.sp.length → mI μ (a + 6) i = nI (h.sp.getD i 0)) ∧ ∃ gb, a + 61 ≤ gb ∧ gb + h.n ≤ hz μ ∧ ∀ g, g < h.n → mP μ (a + 4) g = some (gb + g) ∧ tg μ (gb + g) = ktg (h.kd g) ∧ mI μ (gb + g) 0 = nI (h.ft g) ∧ mI μ (gb + g) 1 = nI (h.q.2.2.2.2.2 g)
def XK (n : Nat) (K : GK) (μ : Mm) (a : Nat) : Prop := ∀ k, k < 3 → mI μ (a + 53 + 2 * k) 1 = en ((K k).map fun v => v.2.length) ∧ ∀ v, K k = some v → (∀ i, i < v.2.length → mI μ (a + 54 + 2 * k) i = nI (v.2.getD i 0)) ∧ ∀ g, g < n → mI μ (a + 15 + k) g = nI (v.1 g)
def XI (R T : GR) (F : GF) (h : GH) (K : GK) (μ : Mm) (a : Nat) : Prop := LX μ a ∧ XR R μ a ∧ XT T μ a ∧ XF F μ a ∧ XH h μ a ∧ XK h.n K μ a ∧ a + 61 ≤ hz μ
-- the model's side
def WF (R T : GR) (h : GH) (K : GK) : Prop := WR R ∧ WT T ∧ WH h ∧ WK h K
-- what does not matter to them
theorem XR.mv {R : GR} {μ μ' : Mm} {a : Nat} (h : XR R μ a) (hs : ∀ b, a + 33 ≤ b → b < a + 45 → Sm μ μ' b) : XR R μ' a := fun r hr => by
  obtain ⟨h1, h2⟩ := h r hr
  refine ⟨by rw [(hs _ (by omega) (by omega)).2.2.1]; exact h1, fun n hn i hi => by rw [(hs _ (by omega) (by omega)).2.2.1]; exact h2 n hn i hi⟩
theorem XT.mv {R : GR} {μ μ' : Mm} {a : Nat} (h : XT R μ a) (hs : ∀ b, a + 45 ≤ b → b < a + 53 → Sm μ μ' b) : XT R μ' a := fun r hr => by
  obtain ⟨h1, h2⟩ := h r hr
  refine ⟨by rw [(hs _ (by omega) (by omega)).2.2.1]; exact h1, fun n hn i hi => by rw [(hs _ (by omega) (by omega)).2.2.1]; exact h2 n hn i hi⟩
theorem XF.mv {F : GF} {μ μ' : Mm} {a : Nat} (h : XF F μ a) (h0 : Sm μ μ' a) (h31 : Sm μ μ' (a + 32)) : XF F μ' a := by
  obtain ⟨g1, g2, g3, g4, g5⟩ := h
  exact ⟨by rw [h0.2.2.1]; exact g1, fun j hj => by rw [h31.2.2.1]; exact g2 j hj, by rw [h0.2.2.1]; exact g3, by rw [h0.2.2.2.1]; exact g4, by rw [h0.2.2.2.1]; exact g5⟩
theorem XH.mv {h : GH} {μ μ' : Mm} {a : Nat} (H : XH h μ a) (hs : ∀ b, a + 3 ≤ b → b < a + 7 → Sm μ μ' b) (hg : ∀ b, a + 61 ≤ b → b < hz μ → Sm μ μ' b) (hz' : hz μ ≤ hz μ') : XH h μ' a := by
  obtain ⟨g1, g2, g3, g4, g5, g6, g7, g8, g9, g10, g11, g12, gb, k1, k2, k3⟩ := H
  have e3 := hs (a + 3) (by omega) (by omega)
  have e5 := hs (a + 5) (by omega) (by omega)
  have e6 := hs (a + 6) (by omega) (by omega)
  have e4 := hs (a + 4) (by omega) (by omega)
  refine ⟨by rw [e3.2.2.1]; exact g1, by rw [e3.2.2.1]; exact g2, by rw [e3.2.2.1]; exact g3, by rw [e3.2.2.1]; exact g4, by rw [e3.2.2.1]; exact g5, by rw [e3.2.2.1]; exact g6, by rw [e3.2.2.1]; exact g7, by rw [e3.2.2.1]; exact g8, by rw [e3.2.2.1]; exact g9, by rw [e3.2.2.2.1]; exact g10, by rw [e5.2.2.1]; exact g11, fun i hi => by rw [e6.2.2.1]; exact g12 i hi, gb, k1, Nat.le_trans k2 hz', fun g hgn => ?_⟩
  obtain ⟨p1, p2, p3, p4⟩ := k3 g hgn
  have e := hg (gb + g) (by omega) (by omega)
  exact ⟨by rw [e4.2.2.2.2]; exact p1, by rw [e.1]; exact p2, by rw [e.2.2.1]; exact p3, by rw [e.2.2.1]; exact p4⟩
theorem XK.mv {n : Nat} {K : GK} {μ μ' : Mm} {a : Nat} (h : XK n K μ a) (hs : ∀ b, a + 53 ≤ b → b < a + 59 → Sm μ μ' b) (hs2 : ∀ b, a + 15 ≤ b → b < a + 18 → Sm μ μ' b) : XK n K μ' a := fun k hk => by
  obtain ⟨h1, h2⟩ := h k hk
  refine ⟨by rw [(hs _ (by omega) (by omega)).2.2.1]; exact h1, fun v hv => ?_⟩
  obtain ⟨h3, h4⟩ := h2 v hv
  exact ⟨fun i hi => by rw [(hs _ (by omega) (by omega)).2.2.1]; exact h3 i hi, fun g hg => by rw [(hs2 _ (by omega) (by omega)).2.2.1]; exact h4 g hg⟩
theorem XI.mv {R T : GR} {F : GF} {h : GH} {K : GK} {μ μ' : Mm} {a : Nat} (H : XI R T F h K μ a) (hs : ∀ b, (b < a + 59 ∨ a + 61 ≤ b) → Sm μ μ' b) (hz' : hz μ ≤ hz μ') : XI R T F h K μ' a := by
  obtain ⟨g1, g2, g3, g4, g5, g6, g7⟩ := H
  exact ⟨g1.mv (fun b _ h2 => hs b (Or.inl h2)), g2.mv (fun b _ h2 => hs b (Or.inl (by omega))), g3.mv (fun b _ h2 => hs b (Or.inl (by omega))), g4.mv (hs _ (Or.inl (by omega))) (hs _ (Or.inl (by omega))), g5.mv (fun b _ h2 => hs b (Or.inl (by omega))) (fun b h1 _ => hs b (Or.inr h1)) hz', g6.mv (fun b _ h2 => hs b (Or.inl (by omega))) (fun b _ h2 => hs b (Or.inl (by omega))), Nat.le_trans g7 hz'⟩
-- what a call leaves
def XO (R T : GR) (F : GF) (h : GH) (K : GK) (μ : Mm) (a : Nat) (ans : Int32) (o : Option (Int32 × Mm)) : Prop := ∃ μ', o = some (ans, μ') ∧ XI R T F h K μ' a ∧ (∀ b, a + 59 ≤ b → b < a + 61 → Sm μ μ' b) ∧ hz μ ≤ hz μ'
-- what changes of what is told alone
theorem XI.fupd {R T : GR} {F F' : GF} {h : GH} {K : GK} {μ μ' : Mm} {a : Nat} (H : XI R T F h K μ a) (hs : ∀ b, b ≠ a → b ≠ a + 32 → (b < a + 19 ∨ a + 32 ≤ b) → Sm μ μ' b) (hL : LX μ' a) (hF : XF F' μ' a) (hz' : hz μ ≤ hz μ') : XI R T F' h K μ' a := by
  obtain ⟨g1, g2, g3, g4, g5, g6, g7⟩ := H
  exact ⟨hL, g2.mv (fun b _ h2 => hs b (by omega) (by omega) (by omega)), g3.mv (fun b _ h2 => hs b (by omega) (by omega) (by omega)), hF, g5.mv (fun b _ h2 => hs b (by omega) (by omega) (by omega)) (fun b h1 _ => hs b (by omega) (by omega) (by omega)) hz', g6.mv (fun b _ h2 => hs b (by omega) (by omega) (by omega)) (fun b _ h2 => hs b (by omega) (by omega) (by omega)), Nat.le_trans g7 hz'⟩
def fnd (F : GF) (f : Nat) : GF := (nI f, upd F.2.1 f (F.2.1 f + 1), F.2.2)
def tel (F : GF) (v : Int32) : GF := (F.1, F.2.1, v, F.2.2.2)
def rat (F : GF) (u l : Int64) : GF := (F.1, F.2.1, F.2.2.1, u, l)
def xfind (μ : Mm) (a f : Nat) : Mm := sI (sI μ a 10 (nI f)) (a + 32) f (mI μ (a + 32) f + 1)
theorem x_find {μ : Mm} {a f : Nat} (hL : LX μ a) (hf : f < 6) : f_X11_find μ a (nI f) = some (-3, xfind μ a f) := by
  unfold f_X11_find
  rw [if_pos hL.t0, pI_of hL.t0]
  have hL1 : LX (sI μ a 10 (nI f)) a := hL
  show (gP _ _ _ _).bind _ = _
  rw [gP_of hL1.t0 hL1.p0_9]
  show (aI _ _ _ _).bind _ = _
  rw [aI_of hL1.t32 (by rw [hL1.n32]; exact hf) (by omega)]
  show (qI _ _ _ _ _).bind _ = _
  rw [qI_of hL1.t32 (by rw [hL1.n32]; exact hf) (by omega), mI_ne (by omega)]
  rfl
theorem XI.find {R T : GR} {F : GF} {h : GH} {K : GK} {μ : Mm} {a f : Nat} (H : XI R T F h K μ a) (hf : f < 6) : XI R T (fnd F f) h K (xfind μ a f) a := by
  refine H.fupd (fun b h1 h2 _ => ((Sm.rf μ b).sI h1).sI h2) H.1 ?_ (Nat.le_refl _)
  obtain ⟨g1, g2, g3, g4, g5⟩ := H.2.2.2.1
  refine ⟨by unfold xfind; rw [mI_ne (by omega), mI_eq]; rfl, fun j hj => ?_, by unfold xfind; rw [mI_ne (by omega), mI_nk (by decide)]; exact g3, g4, g5⟩
  unfold xfind
  show _ = upd F.2.1 f _ j
  by_cases hjf : j = f
  · subst hjf; rw [mI_eq, pk_us, g2 j hj]
  · rw [mI_nk hjf, pk_un hjf, mI_ne (by omega), g2 j hj]
theorem x_tell {μ : Mm} {a : Nat} {v : Int32} (hL : LX μ a) : f_X11_tell μ a v = some (1, sI μ a 11 v) := by
  unfold f_X11_tell
  rw [if_pos hL.t0, pI_of hL.t0]
  rfl
theorem XI.tell {R T : GR} {F : GF} {h : GH} {K : GK} {μ : Mm} {a : Nat} {v : Int32} (H : XI R T F h K μ a) : XI R T (tel F v) h K (sI μ a 11 v) a := by
  refine H.fupd (fun b h1 h2 _ => (Sm.rf μ b).sI h1) H.1 ?_ (Nat.le_refl _)
  obtain ⟨g1, g2, g3, g4, g5⟩ := H.2.2.2.1
  exact ⟨by rw [mI_nk (by decide)]; exact g1, fun j hj => by rw [mI_ne (by omega)]; exact g2 j hj, mI_eq, g4, g5⟩
-- ends of a call, ready made
theorem XO.same {R T : GR} {F : GF} {h : GH} {K : GK} {μ : Mm} {a : Nat} {ans : Int32} {o : Option (Int32 × Mm)} (H : XI R T F h K μ a) (e : o = some (ans, μ)) : XO R T F h K μ a ans o := ⟨μ, e, H, fun b _ _ => Sm.rf μ b, Nat.le_refl _⟩
theorem XO.find {R T : GR} {F : GF} {h : GH} {K : GK} {μ : Mm} {a f : Nat} {o : Option (Int32 × Mm)} (H : XI R T F h K μ a) (hf : f < 6) (e : o = some (-3, xfind μ a f)) : XO R T (fnd F f) h K μ a (-3) o := ⟨_, e, H.find hf, fun b _ _ => ((Sm.rf μ b).sI (by omega)).sI (by omega), Nat.le_refl _⟩
theorem XO.tell {R T : GR} {F : GF} {h : GH} {K : GK} {μ : Mm} {a : Nat} {v ans : Int32} {o : Option (Int32 × Mm)} (H : XI R T F h K μ a) (e : o = some (ans, sI μ a 11 v)) : XO R T (tel F v) h K μ a ans o := ⟨_, e, H.tell, fun b _ _ => (Sm.rf μ b).sI (by omega), Nat.le_refl _⟩