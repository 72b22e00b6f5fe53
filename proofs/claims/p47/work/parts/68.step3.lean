/-! ===== steps: the model's side ===== -/
/-- the heap with the numbers of now laid into the log -/
def mrem (μ : Mm) (c len : Nat) : Mm := sI (sR μ (c + 13) (filo (mI μ (c + 13)) (11 * len) 11 (mI μ (c + 11)))) c 25 (nI (len + 1))
theorem mrem_old {μ : Mm} {c len j : Nat} (hj : j < 11 * len) : mI (mrem μ c len) (c + 13) j = mI μ (c + 13) j := by
  unfold mrem
  rw [mI_ne (by omega), mR_eq, filo_out (Or.inl hj)]
theorem mrem_sm {μ : Mm} {c len b : Nat} (h0 : b ≠ c) (h13 : b ≠ c + 13) : Sm μ (mrem μ c len) b := ((Sm.rf μ b).sR h13).sI h0
theorem mrem_25 {μ : Mm} {c len : Nat} : mI (mrem μ c len) c 25 = nI (len + 1) := mI_eq
theorem mrem_c {μ : Mm} {c len j : Nat} (hj : j ≠ 25) : mI (mrem μ c len) c j = mI μ c j := by
  unfold mrem
  rw [mI_nk hj, mR_ne (by omega)]
/-- a walk of t teeth -/
def wlk (te : Nat) (rs : Int64) (t g : Nat) (q : Rst) : Rst := ((q.1 + t) % te, q.2.1 + (q.1 + t) / te, q.2.2.1, q.2.2.2.1 + b1 (isr rs ((q.1 + t) % te)), q.2.2.2.2.1 + t, u1 q.2.2.2.2.2 g (q.2.2.2.2.2 g + 1))
theorem stp_wlk {te s : Nat} {rs : Int64} {kd ft : Nat → Nat} {q : Rst} (h : s < 6) : stp te rs kd ft q s = wlk te rs (trd kd ft q.2.2.1 s) s q := if_pos h
theorem aI_l {s : Mm} {b : Nat} (i : Nat) {x : Int32} (hx : x = nI i) (h1 : tg s b = 21) (h2 : ln s b = 11) (hi : i < 11) : aI s b 21 x = some (mI s b i) := by
  rw [hx]; exact aI_of h1 (by omega) (by omega)
theorem qI_l {s : Mm} {b : Nat} (i : Nat) {x v : Int32} (hx : x = nI i) (h1 : tg s b = 21) (h2 : ln s b = 11) (hi : i < 11) : qI s b 21 x v = some (sI s b i v) := by
  rw [hx]; exact qI_of h1 (by omega) (by omega)