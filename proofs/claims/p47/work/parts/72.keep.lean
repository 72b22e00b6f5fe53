/-! ===== keep, on ===== -/
theorem sR_id {μ : Mm} {a : Nat} {g : Nat → Int32} (h : g = mI μ a) : sR μ a g = μ := by rw [h, sR_self]
/-- the model's heap with a state kept -/
def mk1 (μ : Mm) (c k len : Nat) : Mm := sI (sI μ (c + 14) k 1) (c + 15) k (nI len)
def mk2 (μ : Mm) (c k len : Nat) : Mm := sR (mk1 μ c k len) (c + 16) (filo (mI μ (c + 16)) (6 * k) 6 (mI μ (c + 8)))
def mk3 (μ : Mm) (c k len : Nat) : Mm := sR (mk2 μ c k len) (c + 17) (filo (mI μ (c + 17)) (11 * k) 11 (mI μ (c + 11)))
def mk4 (μ : Mm) (c k len : Nat) : Mm := sR (mk3 μ c k len) (c + 18) (filo (mI μ (c + 18)) (660 * k) (11 * len) (mI μ (c + 13)))
theorem mk1_ne {μ : Mm} {c k len b : Nat} (h1 : b ≠ c + 14) (h2 : b ≠ c + 15) : mI (mk1 μ c k len) b = mI μ b := funext fun j => by unfold mk1; rw [mI_ne h2, mI_ne h1]
theorem mk2_ne {μ : Mm} {c k len b : Nat} (h1 : b ≠ c + 14) (h2 : b ≠ c + 15) (h3 : b ≠ c + 16) : mI (mk2 μ c k len) b = mI μ b := funext fun j => by unfold mk2; rw [mR_ne h3, mk1_ne h1 h2]
theorem mk3_ne {μ : Mm} {c k len b : Nat} (h1 : b ≠ c + 14) (h2 : b ≠ c + 15) (h3 : b ≠ c + 16) (h4 : b ≠ c + 17) : mI (mk3 μ c k len) b = mI μ b := funext fun j => by unfold mk3; rw [mR_ne h4, mk2_ne h1 h2 h3]
theorem mk4_sm {μ : Mm} {c k len b : Nat} (h : b < c + 14 ∨ c + 19 ≤ b) : Sm μ (mk4 μ c k len) b := by
  unfold mk4 mk3 mk2 mk1
  exact (((((Sm.rf μ b).sI (by omega)).sI (by omega)).sR (by omega)).sR (by omega)).sR (by omega)
theorem mk4_14 {μ : Mm} {c k len j : Nat} : mI (mk4 μ c k len) (c + 14) j = if j = k then 1 else mI μ (c + 14) j := by
  unfold mk4 mk3 mk2 mk1
  rw [mR_ne (by omega), mR_ne (by omega), mR_ne (by omega), mI_ne (by omega)]
  by_cases e : j = k
  · subst e; rw [mI_eq, if_pos rfl]
  · rw [mI_nk e, if_neg e]
theorem mk4_15 {μ : Mm} {c k len j : Nat} : mI (mk4 μ c k len) (c + 15) j = if j = k then nI len else mI μ (c + 15) j := by
  unfold mk4 mk3 mk2 mk1
  rw [mR_ne (by omega), mR_ne (by omega), mR_ne (by omega)]
  by_cases e : j = k
  · subst e; rw [mI_eq, if_pos rfl]
  · rw [mI_nk e, if_neg e, mI_ne (by omega)]
theorem mk4_16 {μ : Mm} {c k len j : Nat} : mI (mk4 μ c k len) (c + 16) j = filo (mI μ (c + 16)) (6 * k) 6 (mI μ (c + 8)) j := by
  unfold mk4 mk3 mk2
  rw [mR_ne (by omega), mR_ne (by omega), mR_eq]
theorem mk4_17 {μ : Mm} {c k len j : Nat} : mI (mk4 μ c k len) (c + 17) j = filo (mI μ (c + 17)) (11 * k) 11 (mI μ (c + 11)) j := by
  unfold mk4 mk3
  rw [mR_ne (by omega), mR_eq]
theorem mk4_18 {μ : Mm} {c k len j : Nat} : mI (mk4 μ c k len) (c + 18) j = filo (mI μ (c + 18)) (660 * k) (11 * len) (mI μ (c + 13)) j := by
  unfold mk4
  rw [mR_eq]
theorem XI.kset {R T : GR} {F : GF} {h : GH} {K : GK} {μ μ' : Mm} {a k : Nat} {v : (Nat → Nat) × List Nat} (H : XI R T F h K μ a) (hk : k < 3) (hs : ∀ b, b ≠ a + 15 + k → b ≠ a + 53 + 2 * k → b ≠ a + 54 + 2 * k → Sm μ μ' b) (hL : LX μ' a) (h1 : mI μ' (a + 53 + 2 * k) 1 = nI v.2.length) (h2 : ∀ i, i < v.2.length → mI μ' (a + 54 + 2 * k) i = nI (v.2.getD i 0)) (h3 : ∀ g, g < h.n → mI μ' (a + 15 + k) g = nI (v.1 g)) (hz' : hz μ ≤ hz μ') : XI R T F h (u1 K k (some v)) μ' a := by
  obtain ⟨g1, g2, g3, g4, g5, g6, g7⟩ := H
  refine ⟨hL, g2.mv (fun b _ _ => hs b (by omega) (by omega) (by omega)), g3.mv (fun b _ _ => hs b (by omega) (by omega) (by omega)), g4.mv (hs _ (by omega) (by omega) (by omega)) (hs _ (by omega) (by omega) (by omega)), g5.mv (fun b _ _ => hs b (by omega) (by omega) (by omega)) (fun b _ _ => hs b (by omega) (by omega) (by omega)) hz', fun j hj => ?_, Nat.le_trans g7 hz'⟩
  by_cases e : j = k
  · subst e
    rw [u1_eq]
    exact ⟨h1, fun w hw => by cases hw; exact ⟨h2, h3⟩⟩
  · rw [u1_ne e]
    obtain ⟨y1, y2⟩ := g6 j hj
    refine ⟨by rw [(hs _ (by omega) (by omega) (by omega)).2.2.1]; exact y1, fun w hw => ?_⟩
    obtain ⟨y3, y4⟩ := y2 w hw
    exact ⟨fun i hi => by rw [(hs _ (by omega) (by omega) (by omega)).2.2.1]; exact y3 i hi, fun g hg => by rw [(hs _ (by omega) (by omega) (by omega)).2.2.1]; exact y4 g hg⟩
theorem XS.mv {n te rm gb wk a : Nat} {rs : Int64} {kd ft : Nat → Nat} {q : Rst} {μ μ' : Mm} (hS : XS n te rs rm kd ft gb q wk μ a) (h3 : Sm μ μ' (a + 3)) (h4 : Sm μ μ' (a + 4)) (hg : ∀ b, gb ≤ b → b < gb + n → Sm μ μ' b) (hz' : hz μ ≤ hz μ') : XS n te rs rm kd ft gb q wk μ' a := by
  obtain ⟨g1, g2, g3, g4, g5, g6, g7, g8, g9, g10, k1, k2, k3⟩ := hS
  have r := h3.2.2.1
  refine ⟨(r _).trans g1, (r _).trans g2, (r _).trans g3, (h3.2.2.2.1 _).trans g4, (r _).trans g5, (r _).trans g6, (r _).trans g7, (r _).trans g8, (r _).trans g9, (r _).trans g10, k1, by omega, fun g hgn => ?_⟩
  obtain ⟨u1', u2', u3, u4⟩ := k3 g hgn
  have e := hg (gb + g) (by omega) (by omega)
  exact ⟨(h4.2.2.2.2 _).trans u1', e.1.trans u2', (e.2.2.1 _).trans u3, (e.2.2.1 _).trans u4⟩