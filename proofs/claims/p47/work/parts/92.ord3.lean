/-! ===== orders: the model's tree ===== -/
section OT
variable {R T : GR} {F : GF} {h : GH} {K : GK} {c : Nat} {o : Option Nat} {tt : Nat}
/-- the model's numbers -/
def OS (h : GH) (o : Option Nat) (tt Q Ls : Nat) (acc : Nat × List Nat) (μ : Mm) (c : Nat) : Prop := mI μ c 35 = mcode o ∧ mL μ c 37 = lN Q ∧ mI μ c 38 = nI Ls ∧ (o = none → mI μ c 39 = nI acc.1 ∧ (acc.1 < FARn → ∀ i, i < h.n → mI μ (c + 20) i = nI (acc.2.getD i 0))) ∧ (o ≠ none → mI μ c 36 = nI tt ∧ mI μ c 34 = nI (b1 (decide (acc.1 = 0))) ∧ (acc.1 = 0 → ∀ i, i < h.n → mI μ (c + 20) i = nI (acc.2.getD i 0)))
def Ln (μ : Mm) (c : Nat) (l : List Nat) : Prop := ∀ i, i < l.length → mI μ (c + 19) i = nI (l.getD i 0)
theorem OS.mv {Q Ls : Nat} {acc : Nat × List Nat} {μ μ' : Mm} (hs : OS h o tt Q Ls acc μ c) (h1 : ∀ j, mI μ' c j = mI μ c j) (h2 : mL μ' c 37 = mL μ c 37) (h3 : ∀ j, mI μ' (c + 20) j = mI μ (c + 20) j) : OS h o tt Q Ls acc μ' c := by
  obtain ⟨a1, a2, a3, a4, a5⟩ := hs
  refine ⟨by rw [h1]; exact a1, by rw [h2]; exact a2, by rw [h1]; exact a3, fun q => ?_, fun q => ?_⟩
  · obtain ⟨z1, z2⟩ := a4 q
    exact ⟨by rw [h1]; exact z1, fun y i hi => by rw [h3]; exact z2 y i hi⟩
  · obtain ⟨z1, z2, z3⟩ := a5 q
    exact ⟨by rw [h1]; exact z1, by rw [h1]; exact z2, fun y i hi => by rw [h3]; exact z3 y i hi⟩
end OT
