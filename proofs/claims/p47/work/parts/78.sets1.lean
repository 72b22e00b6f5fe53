/-! ===== sets of guilds, by bits; what may change aside ===== -/
set_option maxRecDepth 100000 in
theorem bt_tab : ∀ s, s < 64 → ∀ g, g < 6 → (((nI s >>> (nI g &&& 31)) &&& (1 : Int32)) = if s.testBit g then 1 else 0) ∧ (nI s ||| ((1 : Int32) <<< (nI g &&& 31))) = nI (s ||| 2 ^ g) ∧ (nI s ^^^ ((1 : Int32) <<< (nI g &&& 31))) = nI (s ^^^ 2 ^ g) ∧ ((nI s &&& nI (2 ^ g)) = nI (2 ^ g) ↔ s.testBit g = true) := by decide +kernel
theorem bt_one : ∀ g, g < 7 → ((1 : Int32) <<< (nI g &&& 31)) = nI (2 ^ g) := by decide +kernel
set_option maxRecDepth 100000 in
theorem bt_or : ∀ s, s < 64 → ∀ t, t < 64 → (nI s ||| nI t) = nI (s ||| t) ∧ (nI s &&& nI t) = nI (s &&& t) := by decide +kernel
set_option maxRecDepth 100000 in
theorem bt_not : ∀ n, n < 7 → ∀ s, s < 64 → ((nI (2 ^ n) - 1) &&& (nI s ^^^ (-1 : Int32))) = nI ((2 ^ n - 1) &&& (63 ^^^ s)) := by decide +kernel
theorem bt_all : ∀ n, n < 7 → nI (2 ^ n) - 1 = nI (2 ^ n - 1) := by decide +kernel
theorem bt_lt {s g : Nat} (hs : s < 64) (hg : g < 6) : s ||| 2 ^ g < 64 := Nat.or_lt_two_pow (n := 6) hs (Nat.pow_lt_pow_of_lt (by decide) hg)
theorem bt_ltn {s g n : Nat} (hs : s < 2 ^ n) (hg : g < n) : s ||| 2 ^ g < 2 ^ n := Nat.or_lt_two_pow hs (Nat.pow_lt_pow_of_lt (by decide) hg)
theorem bt_xlt {s g n : Nat} (hs : s < 2 ^ n) (hg : g < n) : s ^^^ 2 ^ g < 2 ^ n := Nat.xor_lt_two_pow hs (Nat.pow_lt_pow_of_lt (by decide) hg)
theorem bt_ob (s g j : Nat) : (s ||| 2 ^ g).testBit j = (s.testBit j || decide (g = j)) := by rw [Nat.testBit_or, Nat.testBit_two_pow]
theorem bt_xb (s g j : Nat) : (s ^^^ 2 ^ g).testBit j = (s.testBit j != decide (g = j)) := by rw [Nat.testBit_xor, Nat.testBit_two_pow]
theorem bt_p6 {n : Nat} (h : n ≤ 6) : 2 ^ n ≤ 64 := by
  have := Nat.pow_le_pow_right (show 0 < 2 by decide) h
  exact this
theorem bt_hi {s n j : Nat} (hs : s < 2 ^ n) (hj : n ≤ j) : s.testBit j = false := Nat.testBit_lt_two_pow (Nat.lt_of_lt_of_le hs (Nat.pow_le_pow_right (by decide) hj))
/-- sums over guilds -/
theorem sumN_cong {f g : Nat → Nat} : ∀ n, (∀ i, i < n → f i = g i) → sumN f n = sumN g n := by
  intro n
  induction n with
  | zero => intro _; rfl
  | succ n ih => intro h; rw [sumN_s, sumN_s, ih fun i hi => h i (by omega), h n (by omega)]
theorem sumN_le {f : Nat → Nat} {B : Nat} : ∀ n, (∀ i, i < n → f i ≤ B) → sumN f n ≤ n * B := by
  intro n
  induction n with
  | zero => intro _; exact Nat.zero_le _
  | succ n ih =>
    intro h
    have h1 := ih fun i hi => h i (by omega)
    have h2 := h n (by omega)
    rw [sumN_s, Nat.succ_mul]; omega
theorem sumN_add (f g : Nat → Nat) : ∀ n, sumN (fun i => f i + g i) n = sumN f n + sumN g n := by
  intro n
  induction n with
  | zero => rfl
  | succ n ih => rw [sumN_s, sumN_s, sumN_s, ih]; omega
theorem sumN_one (v g : Nat) : ∀ n, sumN (fun i => if i = g then v else 0) n = if g < n then v else 0 := by
  intro n
  induction n with
  | zero => rfl
  | succ n ih =>
    rw [sumN_s, ih]
    by_cases h : n = g
    · subst h; rw [if_neg (Nat.lt_irrefl _), if_pos rfl, if_pos (Nat.lt_succ_self _)]; omega
    · rw [if_neg h]
      by_cases h2 : g < n
      · rw [if_pos h2, if_pos (by omega)]; omega
      · rw [if_neg h2, if_neg (by omega)]
/-- all that a set treads -/
def smt (t : Nat → Nat) (n s : Nat) : Nat := sumN (fun g => if s.testBit g then t g else 0) n
theorem smt_add {t : Nat → Nat} {n s g : Nat} (hg : g < n) (hs : s.testBit g = false) : smt t n (s ||| 2 ^ g) = smt t n s + t g := by
  unfold smt
  have e : ∀ i, i < n → (if (s ||| 2 ^ g).testBit i then t i else 0) = (if s.testBit i then t i else 0) + (if i = g then t g else 0) := by
    intro i _
    rw [bt_ob]
    by_cases h : i = g
    · subst h
      rw [hs, if_pos rfl]
      simp
    · have h' : decide (g = i) = false := decide_eq_false fun q => h q.symm
      rw [h', Bool.or_false, if_neg h]; omega
  rw [sumN_cong n e, sumN_add, sumN_one, if_pos hg]
theorem smt_0 (t : Nat → Nat) : ∀ n, smt t n 0 = 0 := by
  intro n
  unfold smt
  induction n with
  | zero => rfl
  | succ n ih => rw [sumN_s, ih, Nat.zero_testBit]; rfl
theorem smt_bd {t : Nat → Nat} {n s : Nat} (h : ∀ g, g < n → t g ≤ 18) : smt t n s ≤ n * 18 := sumN_le n fun i hi => by
  have := h i hi
  by_cases q : s.testBit i = true
  · rw [if_pos q]; exact this
  · rw [if_neg q]; omega
/-- class's side: what is aside -/
def SX (μ μ' : Mm) (a : Nat) : Prop := (∀ b, b ≠ a + 18 → (b < a + 19 ∨ a + 32 ≤ b) → Sm μ μ' b) ∧ hz μ' = hz μ ∧ (LX μ a → LX μ' a)
theorem SX.rf (μ : Mm) (a : Nat) : SX μ μ a := ⟨fun b _ _ => Sm.rf μ b, rfl, fun h => h⟩
theorem SX.tr {μ μ1 μ2 : Mm} {a : Nat} (h : SX μ μ1 a) (h2 : SX μ1 μ2 a) : SX μ μ2 a := ⟨fun b q q2 => (h.1 b q q2).tr (h2.1 b q q2), h2.2.1.trans h.2.1, fun q => h2.2.2 (h.2.2 q)⟩
theorem SX.sI {μ μ1 : Mm} {a b k : Nat} {v : Int32} (h : SX μ μ1 a) (hb : a + 18 ≤ b) (hb2 : b < a + 32) : SX μ (sI μ1 b k v) a := h.tr ⟨fun x q1 q2 => (Sm.rf μ1 x).sI (by omega), rfl, fun q => q⟩
theorem SX.sL {μ μ1 : Mm} {a b k : Nat} {v : Int64} (h : SX μ μ1 a) (hb : a + 18 ≤ b) (hb2 : b < a + 32) : SX μ (sL μ1 b k v) a := h.tr ⟨fun x q1 q2 => (Sm.rf μ1 x).sL (by omega), rfl, fun q => q⟩
theorem SX.sR {μ μ1 : Mm} {a b : Nat} {g : Nat → Int32} (h : SX μ μ1 a) (hb : a + 18 ≤ b) (hb2 : b < a + 32) : SX μ (sR μ1 b g) a := h.tr ⟨fun x q1 q2 => (Sm.rf μ1 x).sR (by omega), rfl, fun q => q⟩
theorem XI.scr {R T : GR} {F : GF} {h : GH} {K : GK} {μ μ' : Mm} {a : Nat} (H : XI R T F h K μ a) (hs : SX μ μ' a) : XI R T F h K μ' a := by
  obtain ⟨g1, g2, g3, g4, g5, g6, g7⟩ := H
  have hz' := hs.2.1
  have hs1 := hs.1
  exact ⟨hs.2.2 g1, g2.mv (fun b h1 h2 => hs1 b (by omega) (by omega)), g3.mv (fun b h1 h2 => hs1 b (by omega) (by omega)), g4.mv (hs1 _ (by omega) (by omega)) (hs1 _ (by omega) (by omega)), g5.mv (fun b h1 h2 => hs1 b (by omega) (by omega)) (fun b h1 _ => hs1 b (by omega) (by omega)) (by omega), g6.mv (fun b h1 h2 => hs1 b (by omega) (by omega)) (fun b h1 h2 => hs1 b (by omega) (by omega)), by omega⟩
theorem XO.scr {R T : GR} {F : GF} {h : GH} {K : GK} {μ μ' : Mm} {a : Nat} {ans : Int32} {o : Option (Int32 × Mm)} (hs : SX μ μ' a) (H : XO R T F h K μ' a ans o) : XO R T F h K μ a ans o := by
  obtain ⟨μ2, e, x, s, z⟩ := H
  exact ⟨μ2, e, x, fun b q1 q2 => (hs.1 b (by omega) (by omega)).tr (s b q1 q2), by have := hs.2.1; omega⟩
/-- the model's side: what is aside -/
def frb (c b : Nat) : Prop := b ≠ c ∧ b ≠ c + 4 ∧ b ≠ c + 9 ∧ b ≠ c + 10 ∧ b ≠ c + 12 ∧ (b < c + 19 ∨ c + 26 ≤ b)
/-- rows aside -/
def asd (c b : Nat) : Prop := b = c + 4 ∨ b = c + 9 ∨ b = c + 10 ∨ b = c + 12 ∨ (c + 19 ≤ b ∧ b < c + 26)
/-- the class's look at all sets -/
def sft (h : GH) (s : Nat) : Nat := smt h.tr h.n s % h.te
def spt (h : GH) (s : Nat) : Nat := (h.q.1 + smt h.tr h.n s) % h.te
def Lk (h : GH) (m : Nat) (μ : Mm) (a : Nat) : Prop := ∀ s, s < m → mI μ (a + 22) s = nI (sft h s)
theorem WH.smt_le {h : GH} (w : WH h) (s : Nat) : smt h.tr h.n s ≤ 108 := by
  have := smt_bd (t := h.tr) (n := h.n) (s := s) (fun g hg => w.tr_le hg)
  have := w.1
  omega
