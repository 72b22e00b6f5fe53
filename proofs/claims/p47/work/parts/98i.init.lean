/-! ===== the start: a heap moved as a whole ===== -/
def Sh (b : Nat) (μ ν : Mm) : Prop := (∀ a, tg ν (a + b) = tg μ a) ∧ (∀ a, ln ν (a + b) = ln μ a) ∧ (∀ a j, mI ν (a + b) j = mI μ a j) ∧ (∀ a j, mL ν (a + b) j = mL μ a j) ∧ (∀ a j, mP ν (a + b) j = (mP μ a j).map (fun x => x + b)) ∧ hz ν = hz μ + b
section SH
variable {b : Nat} {μ ν : Mm}
theorem Sh.nw (h : Sh b μ ν) (t n : Nat) : Sh b (nw μ t n) (nw ν t n) := by
  obtain ⟨h1, h2, h3, h4, h5, h6⟩ := h
  have e : ∀ a, (a + b = hz ν) ↔ (a = hz μ) := fun a => by omega
  refine ⟨fun a => ?_, fun a => ?_, fun a j => ?_, fun a j => ?_, fun a j => ?_, ?_⟩
  · rw [tg_nw, tg_nw]
    by_cases z : a = hz μ
    · rw [if_pos ((e a).mpr z), if_pos z]
    · rw [if_neg (fun q => z ((e a).mp q)), if_neg z, h1]
  · rw [ln_nw, ln_nw]
    by_cases z : a = hz μ
    · rw [if_pos ((e a).mpr z), if_pos z]
    · rw [if_neg (fun q => z ((e a).mp q)), if_neg z, h2]
  · rw [mI_nw, mI_nw]
    by_cases z : a = hz μ
    · rw [if_pos ((e a).mpr z), if_pos z]
    · rw [if_neg (fun q => z ((e a).mp q)), if_neg z, h3]
  · rw [mL_nw, mL_nw]
    by_cases z : a = hz μ
    · rw [if_pos ((e a).mpr z), if_pos z]
    · rw [if_neg (fun q => z ((e a).mp q)), if_neg z, h4]
  · rw [mP_nw, mP_nw]
    by_cases z : a = hz μ
    · rw [if_pos ((e a).mpr z), if_pos z]; rfl
    · rw [if_neg (fun q => z ((e a).mp q)), if_neg z, h5]
  · rw [hz_nw, hz_nw]; omega
theorem Sh.sI (h : Sh b μ ν) (a k : Nat) (v : Int32) : Sh b (sI μ a k v) (sI ν (a + b) k v) := by
  obtain ⟨h1, h2, h3, h4, h5, h6⟩ := h
  refine ⟨h1, h2, fun x j => ?_, h4, h5, h6⟩
  rw [mI_sI, mI_sI]
  by_cases z : x = a ∧ j = k
  · rw [if_pos ⟨by omega, z.2⟩, if_pos z]
  · rw [if_neg (fun q => z ⟨by omega, q.2⟩), if_neg z, h3]
theorem Sh.sL (h : Sh b μ ν) (a k : Nat) (v : Int64) : Sh b (sL μ a k v) (sL ν (a + b) k v) := by
  obtain ⟨h1, h2, h3, h4, h5, h6⟩ := h
  refine ⟨h1, h2, h3, fun x j => ?_, h5, h6⟩
  rw [mL_sL, mL_sL]
  by_cases z : x = a ∧ j = k
  · rw [if_pos ⟨by omega, z.2⟩, if_pos z]
  · rw [if_neg (fun q => z ⟨by omega, q.2⟩), if_neg z, h4]
theorem Sh.sP (h : Sh b μ ν) (a k v : Nat) : Sh b (sP μ a k (some v)) (sP ν (a + b) k (some (v + b))) := by
  obtain ⟨h1, h2, h3, h4, h5, h6⟩ := h
  refine ⟨h1, h2, h3, h4, fun x j => ?_, h6⟩
  rw [mP_sP, mP_sP]
  by_cases z : x = a ∧ j = k
  · rw [if_pos ⟨by omega, z.2⟩, if_pos z]; rfl
  · rw [if_neg (fun q => z ⟨by omega, q.2⟩), if_neg z, h5]
def Sim (b : Nat) (o o' : Option Mm) : Prop := ∀ μ', o = some μ' → ∃ ν', o' = some ν' ∧ Sh b μ' ν'
def SimA (b : Nat) (o o' : Option (Nat × Mm)) : Prop := ∀ x, o = some x → ∃ y, o' = some y ∧ y.1 = x.1 + b ∧ Sh b x.2 y.2
theorem s_some (h : Sh b μ ν) : Sim b (some μ) (some ν) := fun μ' e => by cases e; exact ⟨ν, rfl, h⟩
theorem s_bind {o o' : Option Mm} {f g : Mm → Option Mm} (h : Sim b o o') (hf : ∀ μ' ν', Sh b μ' ν' → Sim b (f μ') (g ν')) : Sim b (o.bind f) (o'.bind g) := fun μ' e => by
  obtain ⟨x, e1, e2⟩ := bnd e
  obtain ⟨y, e3, e4⟩ := h x e1
  obtain ⟨z, e5, e6⟩ := hf x y e4 μ' e2
  exact ⟨z, by rw [e3]; exact e5, e6⟩
theorem s_bindA {o o' : Option (Nat × Mm)} {f g : Nat × Mm → Option Mm} (h : SimA b o o') (hf : ∀ p μ' ν', Sh b μ' ν' → Sim b (f (p, μ')) (g (p + b, ν'))) : Sim b (o.bind f) (o'.bind g) := fun μ' e => by
  obtain ⟨x, e1, e2⟩ := bnd e
  obtain ⟨y, e3, e4, e5⟩ := h x e1
  obtain ⟨y1, y2⟩ := y
  obtain ⟨x1, x2⟩ := x
  have e4 : y1 = x1 + b := e4
  subst e4
  obtain ⟨z, e6, e7⟩ := hf x1 x2 y2 e5 μ' e2
  exact ⟨z, by rw [e3]; exact e6, e7⟩
theorem s_tg (h : Sh b μ ν) {a t : Nat} {o o' : Option Mm} (hf : Sim b o o') : Sim b (if tg μ a = t then o else none) (if tg ν (a + b) = t then o' else none) := fun μ' e => by
  rw [h.1]
  by_cases z : tg μ a = t
  · rw [if_pos z] at e ⊢; exact hf μ' e
  · rw [if_neg z] at e; cases e
theorem s_gt (h : Sh b μ ν) {a : Nat} {o o' : Option Mm} (hf : Sim b o o') : Sim b (if gt (tg μ a) then o else none) (if gt (tg ν (a + b)) then o' else none) := fun μ' e => by
  rw [h.1]
  by_cases z : gt (tg μ a)
  · rw [if_pos z] at e ⊢; exact hf μ' e
  · rw [if_neg z] at e; cases e
theorem s_pI (h : Sh b μ ν) {a t k : Nat} {v : Int32} : Sim b (pI μ a t k v) (pI ν (a + b) t k v) := s_tg h (s_some (h.sI a k v))
theorem s_pL (h : Sh b μ ν) {a t k : Nat} {v : Int64} : Sim b (pL μ a t k v) (pL ν (a + b) t k v) := s_tg h (s_some (h.sL a k v))
theorem s_pP (h : Sh b μ ν) {a t k v : Nat} : Sim b (pP μ a t k v) (pP ν (a + b) t k (v + b)) := s_tg h (s_some (h.sP a k v))
theorem s_pG (h : Sh b μ ν) {a k : Nat} {v : Int32} : Sim b (pG μ a k v) (pG ν (a + b) k v) := s_gt h (s_some (h.sI a k v))
theorem s_nA (h : Sh b μ ν) {t N : Nat} {n : Int32} : SimA b (nA μ t N n) (nA ν t N n) := fun x e => by
  unfold nA at e ⊢
  by_cases z : ¬ n < 0 ∧ n.toNatClampNeg ≤ N
  · rw [if_pos z] at e ⊢
    cases e
    exact ⟨_, rfl, h.2.2.2.2.2, h.nw _ _⟩
  · rw [if_neg z] at e; cases e
theorem s_nM (h : Sh b μ ν) {n k : Int32} : SimA b (nM μ n k) (nM ν n k) := fun x e => by
  unfold nM at e ⊢
  by_cases z : n = 3 ∧ k = 6
  · rw [if_pos z] at e ⊢
    cases e
    refine ⟨_, rfl, h.2.2.2.2.2, ?_⟩
    have hz' := h.2.2.2.2.2
    have h1 := (h.nw 26 3).sP (hz μ) 0 (hz μ + 1)
    have h2 := h1.sP (hz μ) 1 (hz μ + 2)
    have h3 := h2.sP (hz μ) 2 (hz μ + 3)
    rw [Nat.add_right_comm (hz μ) 1 b, Nat.add_right_comm (hz μ) 2 b, Nat.add_right_comm (hz μ) 3 b, ← hz'] at h3
    exact ((h3.nw 21 6).nw 21 6).nw 21 6
  · rw [if_neg z] at e; cases e
theorem s_gP (h : Sh b μ ν) {a t k : Nat} {f g : Nat → Option Mm} (hf : ∀ v, Sim b (f v) (g (v + b))) : Sim b ((gP μ a t k).bind f) ((gP ν (a + b) t k).bind g) := fun μ' e => by
  obtain ⟨v, e1, e2⟩ := bnd e
  obtain ⟨e3, e4⟩ := gsn e1
  obtain ⟨z, e5, e6⟩ := hf v μ' e2
  refine ⟨z, ?_, e6⟩
  have : gP ν (a + b) t k = some (v + b) := by
    unfold gP
    rw [if_pos ((h.1 a).trans e3), h.2.2.2.2.1, e4]; rfl
  rw [this]; exact e5
theorem s_gI (h : Sh b μ ν) {a t k : Nat} {f g : Int32 → Option Mm} (hf : ∀ v, Sim b (f v) (g v)) : Sim b ((gI μ a t k).bind f) ((gI ν (a + b) t k).bind g) := fun μ' e => by
  obtain ⟨v, e1, e2⟩ := bnd e
  obtain ⟨z, e5, e6⟩ := hf v μ' e2
  refine ⟨z, ?_, e6⟩
  have : gI ν (a + b) t k = some v := by
    rw [← e1]
    unfold gI
    rw [h.1, h.2.2.1]
  rw [this]; exact e5
theorem s_zI (h : Sh b μ ν) {a : Nat} {f g : Int32 → Option Mm} (hf : ∀ v, Sim b (f v) (g v)) : Sim b ((zI μ a).bind f) ((zI ν (a + b)).bind g) := fun μ' e => by
  obtain ⟨v, e1, e2⟩ := bnd e
  obtain ⟨z, e5, e6⟩ := hf v μ' e2
  refine ⟨z, ?_, e6⟩
  have : zI ν (a + b) = some v := by
    rw [← e1]
    unfold zI
    rw [h.1, h.2.1]
  rw [this]; exact e5
theorem s_qI (h : Sh b μ ν) {a t : Nat} {i v : Int32} : Sim b (qI μ a t i v) (qI ν (a + b) t i v) := fun μ' e => by
  obtain ⟨e1, e2⟩ := gsn e
  obtain ⟨e3, e4⟩ := gsf e2
  cases e4
  refine ⟨sI ν (a + b) i.toNatClampNeg v, ?_, h.sI _ _ _⟩
  unfold qI
  rw [if_pos ((h.1 a).trans e1), if_neg (by unfold ofr; rw [h.2.1]; exact e3)]
theorem s_qP (h : Sh b μ ν) {a t tv v : Nat} {i : Int32} : Sim b (qP μ a t i tv v) (qP ν (a + b) t i tv (v + b)) := fun μ' e => by
  obtain ⟨e1, e2⟩ := gsn e
  obtain ⟨e3, e4⟩ := gsf e2
  cases e4
  refine ⟨sP ν (a + b) i.toNatClampNeg (some (v + b)), ?_, h.sP _ _ _⟩
  unfold qP
  rw [if_pos ⟨(h.1 a).trans e1.1, (h.1 v).trans e1.2⟩, if_neg (by unfold ofr; rw [h.2.1]; exact e3)]
theorem s_qG (h : Sh b μ ν) {a v : Nat} {i : Int32} : Sim b (qG μ a i v) (qG ν (a + b) i (v + b)) := fun μ' e => by
  obtain ⟨e1, e2⟩ := gsn e
  obtain ⟨e3, e4⟩ := gsf e2
  cases e4
  refine ⟨sP ν (a + b) i.toNatClampNeg (some (v + b)), ?_, h.sP _ _ _⟩
  unfold qG
  rw [if_pos ⟨(h.1 a).trans e1.1, by rw [h.1]; exact e1.2⟩, if_neg (by unfold ofr; rw [h.2.1]; exact e3)]
theorem s_ite {c : Prop} [Decidable c] {o1 o2 p1 p2 : Option Mm} (h1 : c → Sim b o1 p1) (h2 : ¬ c → Sim b o2 p2) : Sim b (if c then o1 else o2) (if c then p1 else p2) := by
  by_cases z : c
  · rw [if_pos z, if_pos z]; exact h1 z
  · rw [if_neg z, if_neg z]; exact h2 z
theorem s_X2 (h : Sh b μ ν) {a : Nat} {v : Int32} : Sim b (f_X2_init μ a v) (f_X2_init ν (a + b) v) := by
  unfold f_X2_init
  refine s_gt h (s_bind (s_pG h) fun μ1 ν1 h1 => s_bind (s_pG h1) fun μ2 ν2 h2 => s_some h2)
theorem s_X8 (h : Sh b μ ν) {a : Nat} {v : Int32} : Sim b (f_X8_init μ a v) (f_X8_init ν (a + b) v) := by
  unfold f_X8_init
  refine s_tg h (s_bind (s_pI h) fun μ1 ν1 h1 => s_bindA (s_nA h1) fun p μ2 ν2 h2 => s_bind (s_pP h2) fun μ3 ν3 h3 => s_some h3)
theorem s_lp19 (v : Int32) {a : Nat} : ∀ (f : Nat) (i : Int32) (μ ν : Mm), Sh b μ ν → Sim b (lp_X8_open_19 f a v i μ) (lp_X8_open_19 f (a + b) v i ν) := by
  intro f
  induction f with
  | zero => intro i μ ν h μ' e; cases e
  | succ f ih =>
    intro i μ ν h
    unfold lp_X8_open_19
    refine s_gI h fun n => s_ite (fun _ => s_some h) fun _ => s_gP h fun c => s_bind (s_qI h) fun μ1 ν1 h1 => ih _ _ _ h1
theorem s_X8open (h : Sh b μ ν) {a : Nat} {n v : Int32} : Sim b (f_X8_open μ a n v) (f_X8_open ν (a + b) n v) := by
  unfold f_X8_open
  refine s_tg h (s_gP h fun c => s_tg h (s_zI h fun z => s_bind (s_pI h) fun μ1 ν1 h1 => s_bind (s_lp19 _ _ _ _ _ h1) fun μ2 ν2 h2 => s_some h2))
theorem s_lp78 {a : Nat} : ∀ (f : Nat) (i : Int32) (μ ν : Mm), Sh b μ ν → Sim b (lp_X3_init_78 f a i μ) (lp_X3_init_78 f (a + b) i ν) := by
  intro f
  induction f with
  | zero => intro i μ ν h μ' e; cases e
  | succ f ih =>
    intro i μ ν h
    unfold lp_X3_init_78
    refine s_ite (fun _ => s_some h) fun _ => s_gP h fun c => ?_
    rw [h.2.2.2.2.2]
    exact s_bind (s_X2 (h.nw 3 0)) fun μ1 ν1 h1 => s_bind (s_qG h1) fun μ2 ν2 h2 => ih _ _ _ h2
theorem s_X3 (h : Sh b μ ν) {a : Nat} : Sim b (f_X3_init μ a) (f_X3_init ν (a + b)) := by
  unfold f_X3_init
  refine s_tg h (s_bindA (s_nA h) fun p μ1 ν1 h1 => s_bind (s_pP h1) fun μ2 ν2 h2 => ?_)
  rw [h2.2.2.2.2.2]
  refine s_bind (s_X8 (h2.nw 9 0)) fun μ3 ν3 h3 => s_bind (s_pP h3) fun μ4 ν4 h4 => s_bind (s_pI h4) fun _ _ h => s_bind (s_pI h) fun _ _ h => s_bind (s_pI h) fun _ _ h => s_bind (s_pI h) fun _ _ h => s_bind (s_pI h) fun _ _ h => s_bind (s_pI h) fun _ _ h => s_bind (s_pI h) fun _ _ h => s_bind (s_pI h) fun _ _ h => s_bind (s_pI h) fun _ _ h => s_bind (s_pL h) fun _ _ h => s_bind (s_lp78 _ _ _ _ h) fun _ _ h => s_gP h fun c => s_bind (s_X8open h) fun _ _ h => s_some h
theorem s_X5 (h : Sh b μ ν) {a : Nat} : Sim b (f_X5_init μ a) (f_X5_init ν (a + b)) := by
  unfold f_X5_init
  refine s_tg h (s_bindA (s_nA h) fun p _ _ h => s_bind (s_pP h) fun _ _ h => s_bindA (s_nA h) fun p _ _ h => s_bind (s_pP h) fun _ _ h => s_some h)
theorem s_X7 (h : Sh b μ ν) {a : Nat} : Sim b (f_X7_init μ a) (f_X7_init ν (a + b)) := by
  unfold f_X7_init
  refine s_tg h (s_bindA (s_nA h) fun p _ _ h => s_bind (s_pP h) fun _ _ h => s_bindA (s_nA h) fun p _ _ h => s_bind (s_pP h) fun _ _ h => s_bindA (s_nA h) fun p _ _ h => s_bind (s_pP h) fun _ _ h => s_bindA (s_nA h) fun p _ _ h => s_bind (s_pP h) fun _ _ h => s_bind (s_pI h) fun _ _ h => s_bind (s_pI h) fun _ _ h => s_bind (s_pI h) fun _ _ h => s_bind (s_pI h) fun _ _ h => s_some h)
theorem s_X10 (h : Sh b μ ν) {a : Nat} : Sim b (f_X10_init μ a) (f_X10_init ν (a + b)) := by
  unfold f_X10_init
  refine s_tg h (s_bindA (s_nA h) fun p _ _ h => s_bind (s_pP h) fun _ _ h => s_bindA (s_nA h) fun p _ _ h => s_bind (s_pP h) fun _ _ h => s_bindA (s_nA h) fun p _ _ h => s_bind (s_pP h) fun _ _ h => s_some h)
theorem s_lp127 {a : Nat} : ∀ (f : Nat) (i : Int32) (μ ν : Mm), Sh b μ ν → Sim b (lp_X11_init_127 f a i μ) (lp_X11_init_127 f (a + b) i ν) := by
  intro f
  induction f with
  | zero => intro i μ ν h μ' e; cases e
  | succ f ih =>
    intro i μ ν h
    unfold lp_X11_init_127
    refine s_ite (fun _ => s_some h) fun _ => s_gP h fun c => ?_
    rw [h.2.2.2.2.2]
    exact s_bind (s_X8 (h.nw 9 0)) fun μ1 ν1 h1 => s_bind (s_qP h1) fun μ2 ν2 h2 => ih _ _ _ h2
theorem s_lp156 {a : Nat} : ∀ (f : Nat) (i : Int32) (μ ν : Mm), Sh b μ ν → Sim b (lp_X11_init_156 f a i μ) (lp_X11_init_156 f (a + b) i ν) := by
  intro f
  induction f with
  | zero => intro i μ ν h μ' e; cases e
  | succ f ih =>
    intro i μ ν h
    unfold lp_X11_init_156
    refine s_ite (fun _ => s_some h) fun _ => s_gP h fun c => ?_
    rw [h.2.2.2.2.2]
    exact s_bind (s_X8 (h.nw 9 0)) fun μ1 ν1 h1 => s_bind (s_qP h1) fun μ2 ν2 h2 => ih _ _ _ h2
theorem s_lp184 {a : Nat} : ∀ (f : Nat) (i : Int32) (μ ν : Mm), Sh b μ ν → Sim b (lp_X11_init_184 f a i μ) (lp_X11_init_184 f (a + b) i ν) := by
  intro f
  induction f with
  | zero => intro i μ ν h μ' e; cases e
  | succ f ih =>
    intro i μ ν h
    unfold lp_X11_init_184
    refine s_ite (fun _ => s_some h) fun _ => s_gP h fun c => ?_
    rw [h.2.2.2.2.2]
    exact s_bind (s_X8 (h.nw 9 0)) fun μ1 ν1 h1 => s_bind (s_qP h1) fun μ2 ν2 h2 => ih _ _ _ h2
theorem s_X11 (h : Sh b μ ν) {a : Nat} : Sim b (f_X11_init μ a) (f_X11_init ν (a + b)) := by
  unfold f_X11_init
  refine s_tg h (s_bindA (s_nA h) fun p _ _ h => s_bind (s_pP h) fun _ _ h => s_bindA (s_nA h) fun p _ _ h => s_bind (s_pP h) fun _ _ h => ?_)
  rw [h.2.2.2.2.2]
  refine s_bind (s_X3 (h.nw 4 0)) fun _ _ h => s_bind (s_pP h) fun _ _ h => s_bindA (s_nA h) fun p _ _ h => s_bind (s_pP h) fun _ _ h => s_bindA (s_nM h) fun p _ _ h => s_bind (s_pP h) fun _ _ h => ?_
  rw [h.2.2.2.2.2]
  refine s_bind (s_X5 (h.nw 6 0)) fun _ _ h => s_bind (s_pP h) fun _ _ h => ?_
  rw [h.2.2.2.2.2]
  refine s_bind (s_X7 (h.nw 8 0)) fun _ _ h => s_bind (s_pP h) fun _ _ h => ?_
  rw [h.2.2.2.2.2]
  refine s_bind (s_X8 (h.nw 9 0)) fun _ _ h => s_bind (s_pP h) fun _ _ h => ?_
  rw [h.2.2.2.2.2]
  refine s_bind (s_X10 (h.nw 11 0)) fun _ _ h => s_bind (s_pP h) fun _ _ h => s_bindA (s_nA h) fun p _ _ h => s_bind (s_pP h) fun _ _ h => s_bind (s_pI h) fun _ _ h => s_bind (s_pI h) fun _ _ h => s_bind (s_pL h) fun _ _ h => s_bind (s_pL h) fun _ _ h => s_bind (s_lp127 _ _ _ _ h) fun _ _ h => s_bind (s_lp156 _ _ _ _ h) fun _ _ h => s_bind (s_lp184 _ _ _ _ h) fun _ _ h => s_some h
end SH
/-- the class's object and the law's two rows, at the address 0 -/
def ini : Option Mm := (f_X11_init (nw (mt 0) 12 0) 0).bind fun μ1 => some (nw (nw μ1 21 24) 21 12)
def Chk (x : Mm) : Prop := hz x = 61 ∧ (∀ q ∈ tgX, tg x q.1 = q.2) ∧ (∀ q ∈ lnX, ln x q.1 = q.2) ∧ (∀ q ∈ ptX, mP x q.1 q.2.1 = some q.2.2) ∧ (∀ r ∈ List.range 6, mI x (33 + 2 * r) 1 = -1 ∧ mI x 32 r = 0) ∧ (∀ r ∈ List.range 4, mI x (45 + 2 * r) 1 = -1) ∧ (∀ r ∈ List.range 3, mI x (53 + 2 * r) 1 = -1) ∧ (∀ j ∈ List.range 11, mI x 3 j = 0) ∧ (mI x 5 1 = 0 ∧ mL x 3 11 = 0 ∧ mI x 0 10 = 0 ∧ mI x 0 11 = 0 ∧ mL x 0 12 = 0 ∧ mL x 0 13 = 1)
def ck0 (x : Mm) : Bool := decide (hz x = 61)
def ck1 (x : Mm) : Bool := decide (∀ q ∈ tgX, tg x q.1 = q.2)
def ck2 (x : Mm) : Bool := decide (∀ q ∈ lnX, ln x q.1 = q.2)
def ck3 (x : Mm) : Bool := decide (∀ q ∈ ptX, mP x q.1 q.2.1 = some q.2.2)
def ck4 (x : Mm) : Bool := decide (∀ r ∈ List.range 6, mI x (33 + 2 * r) 1 = -1 ∧ mI x 32 r = 0)
def ck5 (x : Mm) : Bool := decide (∀ r ∈ List.range 4, mI x (45 + 2 * r) 1 = -1)
def ck6 (x : Mm) : Bool := decide (∀ r ∈ List.range 3, mI x (53 + 2 * r) 1 = -1)
def ck7 (x : Mm) : Bool := decide (∀ j ∈ List.range 11, mI x 3 j = 0)
def ck8 (x : Mm) : Bool := decide (mI x 5 1 = 0 ∧ mL x 3 11 = 0 ∧ mI x 0 10 = 0 ∧ mI x 0 11 = 0 ∧ mL x 0 12 = 0 ∧ mL x 0 13 = 1)
def chkb (o : Option Mm) : Bool := match o with
  | none => false
  | some x => ck0 x && (ck1 x && (ck2 x && (ck3 x && (ck4 x && (ck5 x && (ck6 x && (ck7 x && ck8 x)))))))
set_option maxRecDepth 1000000 in
theorem chk_ini : chkb ini = true := by decide +kernel
theorem ini_ok : ∃ μ1 : Mm, f_X11_init (nw (mt 0) 12 0) 0 = some μ1 ∧ Chk (nw (nw μ1 21 24) 21 12) := by
  have h := chk_ini
  cases hi : ini with
  | none => rw [hi] at h; cases h
  | some x =>
    rw [hi] at h
    have h : (ck0 x && (ck1 x && (ck2 x && (ck3 x && (ck4 x && (ck5 x && (ck6 x && (ck7 x && ck8 x)))))))) = true := h
    obtain ⟨h0, h⟩ := Bool.and_eq_true_iff.mp h
    obtain ⟨h1, h⟩ := Bool.and_eq_true_iff.mp h
    obtain ⟨h2, h⟩ := Bool.and_eq_true_iff.mp h
    obtain ⟨h3, h⟩ := Bool.and_eq_true_iff.mp h
    obtain ⟨h4, h⟩ := Bool.and_eq_true_iff.mp h
    obtain ⟨h5, h⟩ := Bool.and_eq_true_iff.mp h
    obtain ⟨h6, h⟩ := Bool.and_eq_true_iff.mp h
    obtain ⟨h7, h⟩ := Bool.and_eq_true_iff.mp h
    have hC : Chk x := ⟨of_decide_eq_true h0, of_decide_eq_true h1, of_decide_eq_true h2, of_decide_eq_true h3, of_decide_eq_true h4, of_decide_eq_true h5, of_decide_eq_true h6, of_decide_eq_true h7, of_decide_eq_true h⟩
    obtain ⟨μ1, e1, e2⟩ := bnd hi
    cases e2
    exact ⟨μ1, e1, hC⟩
theorem Sh.mt (b : Nat) : Sh b (mt 0) (mt b) := ⟨fun _ => rfl, fun _ => rfl, fun _ _ => rfl, fun _ _ => rfl, fun _ _ => rfl, (Nat.zero_add b).symm⟩
def R0' : GR := ⟨fun _ => none, fun _ _ => 0⟩
def F0' : GF := (0, fun _ => 0, 0, 0, 1)
def H0' : GH := (0, 0, 0, 0, fun _ => 0, fun _ => 0, [])
theorem WF_0 : WF R0' R0' H0' (fun _ => none) := ⟨fun r _ n hn => (by cases hn), fun r _ n hn => (by cases hn), ⟨by decide, Or.inl ⟨rfl, rfl, rfl, rfl, rfl⟩, fun g hg => absurd hg (Nat.not_lt_zero _), by show (0 : Nat) ≤ 60; decide, fun s hs => by cases hs⟩, fun k _ v hv => by cases hv⟩
/-- THE START: the object made, the law's two rows behind it -/
theorem INIT_X (bs : Nat) : ∃ μ1 : Mm, f_X11_init (nw (mt bs) 12 0) bs = some μ1 ∧ hz μ1 = bs + 59 ∧ XI R0' R0' F0' H0' (fun _ => none) (nw (nw μ1 21 24) 21 12) bs := by
  obtain ⟨μ1, e1, c2, cX1, cX2, cX3, cr, ct, ck, c3, cf⟩ := ini_ok
  obtain ⟨ν1, f1, s1⟩ := s_X11 ((Sh.mt bs).nw 12 0) (a := 0) μ1 e1
  rw [Nat.zero_add] at f1
  have hz1 : hz ν1 = hz μ1 + bs := s1.2.2.2.2.2
  have s2 := (s1.nw 21 24).nw 21 12
  have c2 : hz μ1 + 1 + 1 = 61 := c2
  refine ⟨ν1, f1, by omega, ?_⟩
  generalize nw (nw μ1 21 24) 21 12 = μ2 at cX1 cX2 cX3 cr ct ck c3 cf s2
  have hz2 : hz (nw (nw ν1 21 24) 21 12) = bs + 61 := by
    show hz ν1 + 1 + 1 = _
    omega
  generalize nw (nw ν1 21 24) 21 12 = ν2 at s2 hz2
  have cr := fun r (hr : r < 6) => cr r (List.mem_range.mpr hr)
  have ct := fun r (hr : r < 4) => ct r (List.mem_range.mpr hr)
  have ck := fun r (hr : r < 3) => ck r (List.mem_range.mpr hr)
  have c3 := fun r (hr : r < 11) => c3 r (List.mem_range.mpr hr)
  obtain ⟨t1, t2, t3, t4, t5, -⟩ := s2
  have tI : ∀ x j, mI ν2 (bs + x) j = mI μ2 x j := fun x j => by rw [Nat.add_comm]; exact t3 x j
  have tL : ∀ x j, mL ν2 (bs + x) j = mL μ2 x j := fun x j => by rw [Nat.add_comm]; exact t4 x j
  have tI0 : ∀ j, mI ν2 bs j = mI μ2 0 j := fun j => tI 0 j
  have tL0 : ∀ j, mL ν2 bs j = mL μ2 0 j := fun j => tL 0 j
  refine ⟨⟨fun q hq => ?_, fun q hq => ?_, fun q hq => ?_⟩, fun r hr => ⟨?_, fun n hn => by cases hn⟩, fun r hr => ⟨?_, fun n hn => by cases hn⟩, ?_, ?_, fun k hk => ⟨?_, fun v hv => by cases hv⟩, by omega⟩
  · rw [Nat.add_comm, t1]; exact cX1 q hq
  · rw [Nat.add_comm, t2]; exact cX2 q hq
  · rw [Nat.add_comm, t5, cX3 q hq]
    show some (q.2.2 + bs) = _
    rw [Nat.add_comm]
  · rw [show bs + 33 + 2 * r = bs + (33 + 2 * r) by omega, tI]; exact (cr r hr).1
  · rw [show bs + 45 + 2 * r = bs + (45 + 2 * r) by omega, tI]; exact ct r hr
  · refine ⟨(tI0 10).trans cf.2.2.1, fun j hj => (tI 32 j).trans (cr j hj).2, (tI0 11).trans cf.2.2.2.1, (tL0 12).trans cf.2.2.2.2.1, (tL0 13).trans cf.2.2.2.2.2⟩
  · have r3 : ∀ j, j < 11 → mI ν2 (bs + 3) j = 0 := fun j hj => (tI 3 j).trans (c3 j hj)
    refine ⟨r3 2 (by decide), r3 3 (by decide), r3 4 (by decide), r3 5 (by decide), r3 6 (by decide), r3 7 (by decide), r3 8 (by decide), r3 9 (by decide), r3 10 (by decide), (tL 3 11).trans cf.2.1, (tI 5 1).trans cf.1, fun i hi => absurd hi (Nat.not_lt_zero _), bs + 61, Nat.le_refl _, by rw [hz2]; exact Nat.le_refl _, fun g hg => absurd hg (Nat.not_lt_zero _)⟩
  · rw [show bs + 53 + 2 * k = bs + (53 + 2 * k) by omega, tI]; exact ck k hk
