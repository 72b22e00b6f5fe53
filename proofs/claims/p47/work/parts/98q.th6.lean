/-! ===== the cheapest order ===== -/
/-- what is left of a told order -/
theorem bst_drop {h : GH} {o : Option Nat} {tt k m s : Nat} {l : List Nat} (e : l.drop k = bst h o tt (m + 1) s) : l.getD k 0 = SG h o tt m s ∧ l.drop (k + 1) = bst h o tt m (s ||| 2 ^ SG h o tt m s) := by
  have e : l.drop k = SG h o tt m s :: bst h o tt m (s ||| 2 ^ SG h o tt m s) := e
  constructor
  · have : (l.drop k)[0]? = some (SG h o tt m s) := by rw [e]; rfl
    rw [List.getElem?_drop, Nat.add_zero] at this
    rw [List.getD_eq_getElem?_getD, this]; rfl
  · rw [← List.drop_drop, e]; rfl
theorem cod_dig (l : List Nat) : ∀ n, (∀ i, i < n → l.getD i 0 < 6) → ∀ k j, k + 1 + j = n → cod l n / 6 ^ j % 6 = l.getD k 0 := by
  intro n
  induction n with
  | zero => intro _ k j q; omega
  | succ n ih =>
    intro hl k j q
    have hn := hl n (Nat.lt_succ_self n)
    rw [cod_s]
    cases j with
    | zero =>
      have : k = n := by omega
      subst this
      rw [Nat.pow_zero, Nat.div_one]
      omega
    | succ j =>
      rw [Nat.pow_succ, Nat.mul_comm (6 ^ j) 6, ← Nat.div_div_eq_div_mul, show (6 * cod l n + l.getD n 0) / 6 = cod l n by omega]
      exact ih (fun i hi => hl i (by omega)) k j (by omega)
theorem cod_lt (l : List Nat) : ∀ n, (∀ i, i < n → l.getD i 0 < 6) → cod l n < 6 ^ n := by
  intro n
  induction n with
  | zero => intro _; exact Nat.one_pos
  | succ n ih =>
    intro hl
    have h1 := ih fun i hi => hl i (by omega)
    have h2 := hl n (Nat.lt_succ_self n)
    rw [cod_s, Nat.pow_succ]
    omega
theorem pow6 {n : Nat} (h : n ≤ 6) : 6 ^ n ≤ 46656 := Nat.le_trans (Nat.pow_le_pow_right (by decide) h) (by decide)
section CC
variable {b L : Nat} {xs : Nat → Int32} {T : GR} {h : GH} {K : GK} {a : Nat}
theorem cc_23 {μ : Mm} {n : Nat} (hn : n ≤ 6) {q2 q3 q4 q5 : Int32} : ∀ (f k : Nat), k + 1 ≤ n → n < k + 1 + f → lp_L_cheapest_23 f a (nI n) q2 q3 q4 q5 (nI (6 ^ k)) (nI (k + 1)) μ = some (nI (6 ^ (n - 1))) := by
  intro f
  induction f with
  | zero => intro k q1 q2; omega
  | succ f ih =>
    intro k q1 q2
    by_cases e : k + 1 = n
    · have e1 : nI n ≤ nI (k + 1) := by rw [e]; exact Int32.le_refl _
      simp (config := { decide := true }) only [↓reduceIte, Option.bind_some, Option.bind_none, lp_L_cheapest_23, e1]
      rw [show n - 1 = k by omega]
    · have e1 : ¬ nI n ≤ nI (k + 1) := nI_ge (by omega) (by omega)
      have e2 : nI (6 ^ k) * 6 = nI (6 ^ (k + 1)) := by rw [Nat.pow_succ]; exact pk_mul _ 6
      simp (config := { decide := true }) only [↓reduceIte, Option.bind_some, Option.bind_none, lp_L_cheapest_23, e1, e2, nI_1]
      exact ih (k + 1) (by omega) (by omega)
theorem selo_none (g : Nat) : selo none g = true := decide_eq_true (fun q => by cases q)
theorem cc_48 (w : WH h) (h0 : ¬ h.n = 0) (hs : h.sp.length ≤ 20) {v2 v3 v5 : Int32} : ∀ (m f k s : Nat) (μ : Mm) (h' : GH), k + m = h.n → m < f → s < 2 ^ h.n → pc h.n s + m = h.n → (bst h none 0 h.n 0).drop k = bst h none 0 m s → Fur h h' → h'.sp = h.sp ++ (bst h none 0 h.n 0).take k → h'.q.1 = spt h s → h'.q.2.2.2.1 + SV h none 0 m s = h.q.2.2.2.1 + SV h none 0 h.n 0 → JJ h' T K a μ → ∃ μ' h'', lp_L_cheapest_48 f a (nI h.n) v2 v3 (nI (cod (bst h none 0 h.n 0) h.n)) v5 (nI (if m = 0 then 1 else 6 ^ (m - 1))) (nI s) (nI k) μ = some (1, μ') ∧ Fur h h'' ∧ h''.sp = h.sp ++ bst h none 0 h.n 0 ∧ h''.q.2.2.2.1 = h.q.2.2.2.1 + SV h none 0 h.n 0 ∧ JJ h'' T K a μ' := by
  have hn6 := w.1
  have t1 := w.te_ge h0
  have t2 := w.te_lt
  have hp6 := bt_p6 hn6
  have hlen := bst_len h none 0 h.n 0
  have hbl : ∀ j, j < h.n → (bst h none 0 h.n 0).getD j 0 < 6 := fun j hj => by
    rw [List.getD_eq_getElem?_getD, List.getElem?_eq_getElem (by omega)]
    have := bst_lt hn6 h.n 0 (by rw [pc_0]; omega) _ (List.getElem_mem (l := bst h none 0 h.n 0) (n := j) (by omega))
    show (bst h none 0 h.n 0)[j] < 6
    omega
  have hcl := cod_lt (bst h none 0 h.n 0) h.n hbl
  have h6 := pow6 hn6
  intro m
  induction m with
  | zero =>
    intro f k s μ h' q1 q2 hss hp hdr hf hsp hq hd hJ
    obtain ⟨f, rfl⟩ : ∃ e, f = e + 1 := ⟨f - 1, by omega⟩
    have e1 : nI h.n ≤ nI k := by rw [show k = h.n by omega]; exact Int32.le_refl _
    refine ⟨μ, h', ?_, hf, ?_, hd, hJ⟩
    · simp (config := { decide := true }) only [↓reduceIte, Option.bind_some, Option.bind_none, lp_L_cheapest_48, e1]
    · rw [hsp, List.take_of_length_le (by omega)]
  | succ m ih =>
    intro f k s μ h' q1 q2 hss hp hdr hf hsp hq hd hJ
    obtain ⟨f, rfl⟩ : ∃ e, f = e + 1 := ⟨f - 1, by omega⟩
    obtain ⟨d1, d2⟩ := bst_drop hdr
    obtain ⟨i1, i2, i3, -, -⟩ := SG_spec (o := none) (tt := 0) hn6 hp
    have hdig := cod_dig (bst h none 0 h.n 0) h.n hbl k m (by omega)
    rw [d1] at hdig
    generalize hg : SG h none 0 m s = g at *
    have hpm := pow6 (show m ≤ 6 by omega)
    have hpp : 0 < 6 ^ m := Nat.pow_pos (by decide)
    rw [if_neg (Nat.succ_ne_zero m), Nat.add_sub_cancel]
    have e1 : ¬ nI h.n ≤ nI k := nI_ge (by omega) (by omega)
    have e2 : ¬ nI (6 ^ m) = 0 := nI_ne0 hpp (by omega)
    have e3 : nI (cod (bst h none 0 h.n 0) h.n) / nI (6 ^ m) = nI (cod (bst h none 0 h.n 0) h.n / 6 ^ m) := pk_div (by omega) hpp (by omega)
    have hdl : cod (bst h none 0 h.n 0) h.n / 6 ^ m ≤ cod (bst h none 0 h.n 0) h.n := Nat.div_le_self _ _
    have e4 : nI (cod (bst h none 0 h.n 0) h.n / 6 ^ m) - nI (cod (bst h none 0 h.n 0) h.n / 6 ^ m) / 6 * 6 = nI g := by
      have := pk_rem (a := cod (bst h none 0 h.n 0) h.n / 6 ^ m) (d := 6) (by omega) (by decide) (by decide)
      rw [hdig] at this
      exact this
    have e5 : ¬ nI h.n ≤ nI g := nI_ge i1 (by omega)
    obtain ⟨bt1, bt2, -, -⟩ := bt_tab s (by omega) g (by omega)
    rw [i2] at bt1
    have bt1 : ((nI s >>> (nI g &&& 31)) &&& (1 : Int32)) = 0 := bt1
    obtain ⟨μ1, y1, J1⟩ := J_walk hf i1 hn6 (by rw [hsp, List.length_append, List.length_take]; omega) hJ
    obtain ⟨f1, f2, f3, f4⟩ := hf.walk (show g < 6 by omega)
    have hX : (h'.q.1 + h.tr g) % h.te < h.te := Nat.mod_lt _ (by omega)
    have e6 : 0 ≤ nI ((h'.q.1 + h.tr g) % h.te) := nI_pos' (by omega)
    have espt : (h'.q.1 + h.tr g) % h.te = spt h (s ||| 2 ^ g) := by rw [hq, spt_add i1 i2]
    obtain ⟨μ', h'', z1, z2⟩ := ih f (k + 1) (s ||| 2 ^ g) μ1 (h'.wsp (h'.sp ++ [g])) (by omega) (by omega) (bt_ltn hss i1) (by rw [pc_add i1 i2]; omega) d2 f1 (by
      rw [f4, hsp, List.append_assoc]
      refine congrArg (fun x => h.sp ++ x) ?_
      have hk : k < (bst h none 0 h.n 0).length := by omega
      rw [List.take_succ_eq_append_getElem hk]
      refine congrArg (fun x => List.take k (bst h none 0 h.n 0) ++ [x]) ?_
      rw [← d1, List.getD_eq_getElem?_getD, List.getElem?_eq_getElem hk]; rfl) (by rw [f2, espt]) (by
      rw [f3, espt]
      unfold nF wr at i3
      rw [selo_none] at i3
      have i3 : b1 (due h (s ||| 2 ^ g)) + 0 + SV h none 0 m (s ||| 2 ^ g) = SV h none 0 (m + 1) s := i3
      have e : b1 (isr h.rs (spt h (s ||| 2 ^ g))) = b1 (due h (s ||| 2 ^ g)) := rfl
      rw [e]
      omega) J1
    refine ⟨μ', h'', ?_, z2⟩
    by_cases zm : m = 0
    · subst zm
      rw [if_pos rfl] at z1
      have e7 : nI (6 ^ 0) ≤ 1 := by decide
      have z1 : lp_L_cheapest_48 f a (nI h.n) v2 v3 (nI (cod (bst h none 0 h.n 0) h.n)) v5 1 (nI (s ||| 2 ^ g)) (nI (k + 1)) μ1 = some (1, μ') := z1
      simp (config := { decide := true }) only [↓reduceIte, Option.bind_some, Option.bind_none, lp_L_cheapest_48, e1, e2, e7, e3, e4, e5, bt1, y1, e6, bt2, nI_1, z1]
    · rw [if_neg zm] at z1
      have e7 : ¬ nI (6 ^ m) ≤ 1 := by
        obtain ⟨j, rfl⟩ : ∃ j, m = j + 1 := ⟨m - 1, by omega⟩
        have : 0 < 6 ^ j := Nat.pow_pos (by decide)
        rw [Nat.pow_succ] at hpm ⊢
        exact (show ¬ nI (6 ^ j * 6) ≤ nI 1 from nI_ge (by omega) (by omega))
      have e8 : nI (6 ^ m) / 6 = nI (6 ^ (m - 1)) := by
        have : nI (6 ^ m) / nI 6 = nI (6 ^ m / 6) := pk_div (by omega) (by decide) (by decide)
        rw [show 6 ^ m / 6 = 6 ^ (m - 1) from by
          obtain ⟨j, rfl⟩ : ∃ j, m = j + 1 := ⟨m - 1, by omega⟩
          rw [Nat.pow_succ, Nat.mul_div_cancel _ (by decide)]; rfl] at this
        exact this
      simp (config := { decide := true }) only [↓reduceIte, Option.bind_some, Option.bind_none, lp_L_cheapest_48, e1, e2, e7, e8, e3, e4, e5, bt1, y1, e6, bt2, nI_1, z1]
theorem L_cheapest (h0 : ¬ h.n = 0) (hs : h.sp.length ≤ 20) {μ : Mm} (hJ : JJ h T K a μ) : ∃ μ', f_L_cheapest μ a (nI h.n) (nI h.sp.length) = some (1, μ') ∧ JJ h T K a μ' := by
  have w := hJ.w
  have hn6 := w.1
  have tn := w.now_lt h0
  have hdu := w.bq.2.2.2.1
  obtain ⟨R, F, H, hw, hR⟩ := hJ
  obtain ⟨μ1, y1, H1, -, -⟩ := P_cheap w h0 H
  have y2 : f_X11_asked μ1 a = some (nI (cod (bst h none 0 h.n 0) h.n)) := P_asked H1
  obtain ⟨μ2, y3, H2, -, -⟩ := P_due w H1
  have e1 := cc_23 (a := a) (μ := μ2) hn6 (q2 := nI h.sp.length) (q3 := nI (SV h none 0 h.n 0)) (q4 := nI (cod (bst h none 0 h.n 0) h.n)) (q5 := nI h.q.2.2.2.1) BIG 0 (by omega) (by unfold BIG; omega)
  have e1 : lp_L_cheapest_23 BIG a (nI h.n) (nI h.sp.length) (nI (SV h none 0 h.n 0)) (nI (cod (bst h none 0 h.n 0) h.n)) (nI h.q.2.2.2.1) 1 1 μ2 = some (nI (6 ^ (h.n - 1))) := e1
  obtain ⟨μ3, h'', z1, z2, z3, z4, z5⟩ := cc_48 (K := K) (T := T) (a := a) w h0 hs (v2 := nI h.sp.length) (v3 := nI (SV h none 0 h.n 0)) (v5 := nI h.q.2.2.2.1) h.n BIG 0 0 μ2 h (Nat.zero_add _) (by unfold BIG; omega) (Nat.two_pow_pos _) (by rw [pc_0]; omega) rfl (Fur.rf h) (List.append_nil _).symm (spt_0 w h0).symm rfl ⟨R, _, H2, hw, hR⟩
  rw [if_neg h0] at z1
  have z1 : lp_L_cheapest_48 BIG a (nI h.n) (nI h.sp.length) (nI (SV h none 0 h.n 0)) (nI (cod (bst h none 0 h.n 0) h.n)) (nI h.q.2.2.2.1) (nI (6 ^ (h.n - 1))) 0 0 μ2 = some (1, μ3) := z1
  obtain ⟨μ4, y4, J4⟩ := J_due z5
  rw [z4, ← nI_add] at y4
  obtain ⟨μ5, y5, J5⟩ := J_undo z2 z3 J4
  rw [bst_len] at y5
  obtain ⟨R5, F5, H5, hw5, hR5⟩ := J5
  obtain ⟨μ6, y6, H6, -, -⟩ := P_quiet w h0 H5
  rw [rat_1] at H6
  have y7 : f_X11_upper μ6 a = some (lN (BW h (2 ^ h.n - 1))) := P_upper H6
  have hN := BW_lt hn6 (2 ^ h.n - 1)
  have hsv := SV_le (h := h) (o := none) (tt := 0) h.n 0 (by rw [pc_0]; omega)
  refine ⟨μ6, ?_, R5, _, H6, hw5, hR5⟩
  by_cases z : SV h none 0 h.n 0 = 0
  · have hq := (quiet_iff hn6).mpr z
    have c1 : ¬ lg_cmp (lN (BW h (2 ^ h.n - 1))) 0 ≤ 0 := fun q => by
      have := (lcmp_le0 (by omega)).mp q
      omega
    have c2 : nI (SV h none 0 h.n 0) = 0 := by rw [z]; rfl
    rw [c2] at y1 e1 z1 y4
    simp (config := { decide := true }) only [↓reduceIte, Option.bind_some, Option.bind_none, f_L_cheapest, y1, y2, y3, e1, z1, y4, y5, y6, y7, c1]
  · have hq : BW h (2 ^ h.n - 1) = 0 := Nat.eq_zero_of_not_pos fun q => z ((quiet_iff hn6).mp q)
    have c1 : lg_cmp (lN (BW h (2 ^ h.n - 1))) 0 ≤ 0 := (lcmp_le0 (by omega)).mpr hq
    have c2 : ¬ nI (SV h none 0 h.n 0) = 0 := nI_ne0 (by omega) (by omega)
    simp (config := { decide := true }) only [↓reduceIte, Option.bind_some, Option.bind_none, f_L_cheapest, y1, y2, y3, e1, z1, y4, y5, y6, y7, c1, c2]
end CC
/-! ===== an order told, walked ===== -/
section OO
variable {b L : Nat} {xs : Nat → Int32} {T : GR} {h : GH} {K : GK} {a : Nat}
/-- the second row holds the order -/
def Ro (R : GR) (l : List Nat) (n : Nat) : Prop := R.1 1 = some n ∧ ∀ i, i < n → R.2 1 i = nI (l.getD i 0)
theorem oo_123 (sc : SC) (w : WH h) (h0 : ¬ h.n = 0) (hs : h.sp.length ≤ 20) {R : GR} {own t j : Nat} (ho : own < h.n) (ht : t < h.te) (hR : Ro R (bst h (some own) t h.n 0) h.n) (hj : j < h.n) (hjg : (bst h (some own) t h.n 0).getD j 0 = own) (hjn : ∀ i, i < h.n → i ≠ j → ¬ (bst h (some own) t h.n 0).getD i 0 = own) (hF : 0 < BW h (2 ^ h.n - 1)) {p3 : Int32} {p8 : Int64} : ∀ (m f k s : Nat) (μ : Mm) (h' : GH), k + m = h.n → m < f → s < 2 ^ h.n → pc h.n s + m = h.n → (bst h (some own) t h.n 0).drop k = bst h (some own) t m s → SV h (some own) t m s = 0 → 0 < BW h s → Fur h h' → h'.sp = h.sp ++ (bst h (some own) t h.n 0).take k → h'.q.1 = spt h s → h'.q.2.2.2.1 = h.q.2.2.2.1 → JR R h' T K a μ → ∃ μ' h'', lp_L_ordered_123 sc f a (nI h.n) p3 (nI own) (nI t) (nI j) p8 (nI (lsq h)) (nI h.q.2.2.2.1) (nI s) (nI k) μ = some (2, μ') ∧ Fur h h'' ∧ h''.sp = h.sp ++ bst h (some own) t h.n 0 ∧ JR R h'' T K a μ' := by
  have hn6 := w.1
  have t1 := w.te_ge h0
  have t2 := w.te_lt
  have hp6 := bt_p6 hn6
  have hlen := bst_len h (some own) t h.n 0
  have hls := lsq_lt h
  intro m
  induction m with
  | zero =>
    intro f k s μ h' q1 q2 hss hp hdr hz hB hf hsp hq hd hJ
    obtain ⟨f, rfl⟩ : ∃ e, f = e + 1 := ⟨f - 1, by omega⟩
    have e1 : nI h.n ≤ nI k := by rw [show k = h.n by omega]; exact Int32.le_refl _
    refine ⟨μ, h', ?_, hf, ?_, hJ⟩
    · simp (config := { decide := true }) only [↓reduceIte, Option.bind_some, Option.bind_none, lp_L_ordered_123, e1]
    · rw [hsp, List.take_of_length_le (by omega)]
  | succ m ih =>
    intro f k s μ h' q1 q2 hss hp hdr hz hB hf hsp hq hd hJ
    obtain ⟨f, rfl⟩ : ∃ e, f = e + 1 := ⟨f - 1, by omega⟩
    obtain ⟨d1, d2⟩ := bst_drop hdr
    obtain ⟨i1, i2, -, -, -⟩ := SG_spec (o := some own) (tt := t) hn6 hp
    obtain ⟨s1, s2, s3⟩ := SG_quiet hn6 hp hz
    generalize hg : SG h (some own) t m s = g at *
    have e1 : ¬ nI h.n ≤ nI k := nI_ge (by omega) (by omega)
    obtain ⟨F, H, hw⟩ := hJ
    obtain ⟨μ1, y1, H1, -, -⟩ := P_at hw (r := 1) (n := h.n) (i := k) (by decide) hR.1 (by omega) H
    have y1 : f_X11_at μ a 1 (nI k) = some (1, μ1) := y1
    rw [hR.2 k (by omega), d1] at H1
    have y2 : f_L_gave μ1 a 1 = some (nI g) := L_gave (P_asked H1)
    have c1 : ¬ nI g < 0 := nI_pos (by omega)
    have c2 : ¬ nI h.n ≤ nI g := nI_ge i1 (by omega)
    obtain ⟨bt1, bt2, -, -⟩ := bt_tab s (by omega) g (by omega)
    rw [i2] at bt1
    have bt1 : ((nI s >>> (nI g &&& 31)) &&& (1 : Int32)) = 0 := bt1
    obtain ⟨μ2, y3, J2⟩ := JR_walk hf i1 hn6 (by rw [hsp, List.length_append, List.length_take]; omega) ⟨_, H1, hw⟩
    obtain ⟨f1, f2, f3, f4⟩ := hf.walk (show g < 6 by omega)
    have espt : (h'.q.1 + h.tr g) % h.te = spt h (s ||| 2 ^ g) := by rw [hq, spt_add i1 i2]
    rw [espt] at y3 f2 f3
    have hdu0 : b1 (isr h.rs (spt h (s ||| 2 ^ g))) = 0 := b1_0.mpr s2
    rw [hdu0, Nat.add_zero, hd] at f3
    obtain ⟨μ3, y4, J3⟩ := JR_due J2
    rw [f3] at y4
    have hX : spt h (s ||| 2 ^ g) < h.te := Nat.mod_lt _ (by omega)
    have c3 : ¬ nI (spt h (s ||| 2 ^ g)) < 0 := nI_pos (by omega)
    obtain ⟨μ', h'', z1, z2⟩ := ih f (k + 1) (s ||| 2 ^ g) μ3 (h'.wsp (h'.sp ++ [g])) (by omega) (by omega) (bt_ltn hss i1) (by rw [pc_add i1 i2]; omega) d2 s1 (BW_up hss i1 i2 s2 hB) f1 (by
      rw [f4, hsp, List.append_assoc]
      refine congrArg (fun x => h.sp ++ x) ?_
      have hk : k < (bst h (some own) t h.n 0).length := by omega
      rw [List.take_succ_eq_append_getElem hk]
      refine congrArg (fun x => List.take k (bst h (some own) t h.n 0) ++ [x]) ?_
      rw [← d1, List.getD_eq_getElem?_getD, List.getElem?_eq_getElem hk]; rfl) f2 f3 J3
    refine ⟨μ', h'', ?_, z2⟩
    have eN : nI h.n - 1 = nI (h.n - 1) := pk_sub (b := 1) (by omega)
    -- the last one
    have hla : nI k = nI (h.n - 1) → ¬ ((nI (lsq h) >>> (nI g &&& 31)) &&& (1 : Int32)) = 0 := fun q => by
      have hk := (nI_eq (by omega) (by omega)).mp q
      have hb := lsq_last hss i1 i2 (by omega) hB hF
      have := (bt_tab (lsq h) (by omega) g (by omega)).1
      rw [hb] at this
      rw [this]; decide
    by_cases zj : k = j
    · have c4 : nI k = nI j := by rw [zj]
      have c5 : nI g = nI own := by rw [← d1, zj, hjg]
      have hgo : g = own := by rw [← d1, zj, hjg]
      have c6 : nI (spt h (s ||| 2 ^ g)) = nI t := congrArg nI (s3 (by rw [hgo]; unfold selo; exact decide_eq_false (fun q => q rfl)))
      by_cases zl : nI k = nI (h.n - 1)
      · have c7 := hla zl
        simp (config := { decide := true }) only [↓reduceIte, Option.bind_some, Option.bind_none, lp_L_ordered_123, e1, y1, y2, c1, c2, bt1, eq_true c5, eq_true c4, y3, c3, eq_true c6, y4, eN, eq_true zl, c7, bt2, nI_1, z1]
      · simp (config := { decide := true }) only [↓reduceIte, Option.bind_some, Option.bind_none, lp_L_ordered_123, e1, y1, y2, c1, c2, bt1, eq_true c5, eq_true c4, y3, c3, eq_true c6, y4, eN, zl, bt2, nI_1, z1]
    · have c4 : ¬ nI k = nI j := fun q => zj ((nI_eq (by omega) (by omega)).mp q)
      have hgo : ¬ g = own := by rw [← d1]; exact hjn k (by omega) zj
      have c5 : ¬ nI g = nI own := fun q => hgo ((nI_eq (by omega) (by omega)).mp q)
      by_cases zl : nI k = nI (h.n - 1)
      · have c7 := hla zl
        simp (config := { decide := true }) only [↓reduceIte, Option.bind_some, Option.bind_none, lp_L_ordered_123, e1, y1, y2, c1, c2, bt1, c5, c4, y3, c3, y4, eN, eq_true zl, c7, bt2, nI_1, z1]
      · simp (config := { decide := true }) only [↓reduceIte, Option.bind_some, Option.bind_none, lp_L_ordered_123, e1, y1, y2, c1, c2, bt1, c5, c4, y3, c3, y4, eN, zl, bt2, nI_1, z1]
/-- in a told order each one stands once -/
theorem bst_once {h : GH} {o : Option Nat} {tt : Nat} (hn6 : h.n ≤ 6) : ∀ m s, pc h.n s + m = h.n → (∀ i, i < m → s.testBit ((bst h o tt m s).getD i 0) = false) ∧ ∀ i j, i < m → j < m → (bst h o tt m s).getD i 0 = (bst h o tt m s).getD j 0 → i = j := by
  intro m
  induction m with
  | zero => intro s _; exact ⟨fun i hi => absurd hi (Nat.not_lt_zero _), fun i j hi => absurd hi (Nat.not_lt_zero _)⟩
  | succ m ih =>
    intro s hp
    obtain ⟨i1, i2, -⟩ := SG_spec (o := o) (tt := tt) hn6 hp
    obtain ⟨j1, j2⟩ := ih (s ||| 2 ^ SG h o tt m s) (by rw [pc_add i1 i2]; omega)
    have e0 : (bst h o tt (m + 1) s).getD 0 0 = SG h o tt m s := rfl
    have es : ∀ i, (bst h o tt (m + 1) s).getD (i + 1) 0 = (bst h o tt m (s ||| 2 ^ SG h o tt m s)).getD i 0 := fun i => rfl
    have hne : ∀ i, i < m → (bst h o tt m (s ||| 2 ^ SG h o tt m s)).getD i 0 ≠ SG h o tt m s := fun i hi q => by
      have := j1 i hi
      rw [q, bt_ob, decide_eq_true rfl, Bool.or_true] at this; cases this
    constructor
    · intro i hi
      cases i with
      | zero => rw [e0]; exact i2
      | succ i =>
        rw [es]
        have := j1 i (by omega)
        rw [bt_ob] at this
        exact (Bool.or_eq_false_iff.mp this).1
    · intro i j hi hj q
      cases i with
      | zero =>
        cases j with
        | zero => rfl
        | succ j => rw [e0, es] at q; exact absurd q.symm (hne j (by omega))
      | succ i =>
        cases j with
        | zero => rw [e0, es] at q; exact absurd q (hne i (by omega))
        | succ j => rw [es, es] at q; rw [j2 i j (by omega) (by omega) q]
theorem L_ordered (hL : L ≤ 260) (h0 : ¬ h.n = 0) (hs : h.sp.length ≤ 20) {μ : Mm} (hJ : JJ h T K a μ) : ∃ μ', f_L_ordered (b, L, xs) μ a b (nI h.n) (nI h.sp.length) = some (1, μ') ∧ JJ h T K a μ' := by
  have w := hJ.w
  have hn6 := w.1
  have t1 := w.te_ge h0
  have t2 := w.te_lt
  have hp6 := bt_p6 hn6
  obtain ⟨c, hc, ec⟩ := L_cell (b := b) (xs := xs) hL (show 40 ≤ 60 by decide)
  obtain ⟨d, hd, ed⟩ := L_cell (b := b) (xs := xs) hL (show 41 ≤ 60 by decide)
  have e28 : (2 : Nat) ^ 28 = 268435456 := by decide
  have ec' : f_L_cell (b, L, xs) μ b 40 = some (nI c) := ec μ
  have ed' : f_L_cell (b, L, xs) μ b 41 = some (nI d) := ed μ
  have ho : c % h.n < h.n := Nat.mod_lt _ (by omega)
  have em : nI c - nI c / nI h.n * nI h.n = nI (c % h.n) := pk_rem (by omega) (by omega) (by omega)
  have hn0 : ¬ nI h.n = 0 := nI_ne0 (by omega) (by omega)
  have ht : d % h.te < h.te := Nat.mod_lt _ (by omega)
  have en : nI d - nI d / nI h.te * nI h.te = nI (d % h.te) := pk_rem (by omega) (by omega) (by omega)
  have ht0 : ¬ nI h.te = 0 := nI_ne0 (by omega) (by omega)
  generalize c % h.n = own at ho em
  generalize d % h.te = t at ht en
  obtain ⟨R, F, H, hw, hR⟩ := hJ
  have e1 : f_X11_count μ a 1 = some (nI h.te) := P_count H hw (j := 1) (by decide)
  have hN := BW_lt hn6 (2 ^ h.n - 1)
  have hls := lsq_lt h
  have hlp := lsq_pos (h := h) h0
  have c1 : ¬ lg_cmp (lN (BW h (2 ^ h.n - 1))) 0 < 0 := lcmp_lt0 (by omega)
  -- quiet, behind any order
  have hquiet : ∀ R1 F1 μ1, XI R1 T F1 h K μ1 a → ∃ μ2, f_X11_quiet μ1 a = some (1, μ2) ∧ f_X11_upper μ2 a = some (lN (BW h (2 ^ h.n - 1))) ∧ f_X11_asked μ2 a = some (nI (lsq h)) ∧ ∃ F2, XI R1 T F2 h K μ2 a := fun R1 F1 μ1 H1 => by
    obtain ⟨μ2, y1, H2, -, -⟩ := P_quiet w h0 H1
    rw [rat_1] at H2
    exact ⟨μ2, y1, P_upper H2, P_asked H2, _, H2⟩
  by_cases z : SV h (some own) t h.n 0 = 0
  · have hF : 0 < BW h (2 ^ h.n - 1) := BW_of_SV hn6 h.n 0 (Nat.two_pow_pos _) (by rw [pc_0]; omega) z (by rw [BW_0]; exact Nat.one_pos)
    obtain ⟨j, j1, j2, j3, hw1, μ1, y1, H1, -, -⟩ := P_order hw ho ht (r := 1) (by decide) z H
    have y1 : f_X11_order μ a (nI own) (nI t) 1 = some (nI j, μ1) := y1
    generalize hRR : setr R 1 (some h.n) (fun i => nI ((bst h (some own) t h.n 0).getD i 0)) = R1 at hw1 H1
    have hRo : Ro R1 (bst h (some own) t h.n 0) h.n := by
      rw [← hRR]
      exact ⟨setr_1 _ _ _ _, fun i _ => by rw [setr_2]⟩
    have hR1 : ∀ r, r < 6 → r ≠ 1 → R1.1 r = none := fun r r1 r2 => by rw [← hRR, setr_n1 _ _ _ r2]; exact hR r r1 r2
    obtain ⟨μ2, y2, y3, y4, F2, H2⟩ := hquiet _ _ _ H1
    have hl0 := hlp.mpr hF
    have c2 : ¬ lg_cmp (lN (BW h (2 ^ h.n - 1))) 0 ≤ 0 := fun q => by
      have := (lcmp_le0 (by omega)).mp q
      omega
    have c3 : ¬ nI (lsq h) ≤ 0 := nI_nle hl0 (by omega)
    have c4 : 0 ≤ nI j := nI_pos' (by omega)
    obtain ⟨μ3, y5, J3⟩ := JR_due (K := K) (T := T) (a := a) ⟨F2, H2, hw1⟩
    have honce := (bst_once (h := h) (o := some own) (tt := t) hn6 h.n 0 (by rw [pc_0]; omega)).2
    obtain ⟨μ4, h'', z1, z2, z3, z4⟩ := oo_123 (K := K) (T := T) (a := a) (b, L, xs) w h0 hs ho ht hRo j1 j2 (fun i hi hne q => hne (honce i j hi j1 (q.trans j2.symm))) hF (p3 := nI h.sp.length) (p8 := lN (BW h (2 ^ h.n - 1))) h.n BIG 0 0 μ3 h (Nat.zero_add _) (by unfold BIG; omega) (Nat.two_pow_pos _) (by rw [pc_0]; omega) rfl z (by rw [BW_0]; exact Nat.one_pos) (Fur.rf h) (List.append_nil _).symm (spt_0 w h0).symm rfl J3
    have z1 : lp_L_ordered_123 (b, L, xs) BIG a (nI h.n) (nI h.sp.length) (nI own) (nI t) (nI j) (lN (BW h (2 ^ h.n - 1))) (nI (lsq h)) (nI h.q.2.2.2.1) 0 0 μ3 = some (2, μ4) := z1
    obtain ⟨F4, H4, hw4⟩ := z4
    obtain ⟨μ5, y6, H5, -, -⟩ := P_at_out hw4 (r := 1) (n := h.n) (by decide) hRo.1 H4
    have y6 : f_X11_at μ4 a 1 (nI h.n) = some (-3, μ5) := y6
    obtain ⟨μ6, y7, J6⟩ := JR_undo z2 z3 ⟨_, H5, hw4⟩
    rw [bst_len] at y7
    refine ⟨μ6, ?_, J6.jj hR1⟩
    simp (config := { decide := true }) only [↓reduceIte, Option.bind_some, Option.bind_none, f_L_ordered, ec', hn0, ed', e1, ht0, em, en, y1, y2, y3, y4, c1, c2, c3, c4, y5, z1, y6, y7]
  · obtain ⟨μ1, y1, H1, -, -⟩ := P_order_no hw ho ht (r := 1) (by decide) z H
    have y1 : f_X11_order μ a (nI own) (nI t) 1 = some (-9, μ1) := y1
    obtain ⟨μ2, y2, y3, y4, F2, H2⟩ := hquiet _ _ _ H1
    refine ⟨μ2, ?_, R, F2, H2, hw, hR⟩
    by_cases zB : BW h (2 ^ h.n - 1) = 0
    · have c2 : lg_cmp (lN (BW h (2 ^ h.n - 1))) 0 ≤ 0 := (lcmp_le0 (by omega)).mpr zB
      have hl0 : lsq h = 0 := Nat.eq_zero_of_not_pos fun q => by have := hlp.mp q; omega
      have c3 : nI (lsq h) ≤ 0 := by rw [hl0]; decide
      simp (config := { decide := true }) only [↓reduceIte, Option.bind_some, Option.bind_none, f_L_ordered, ec', hn0, ed', e1, ht0, em, en, y1, y2, y3, y4, c1, c2, c3]
    · have c2 : ¬ lg_cmp (lN (BW h (2 ^ h.n - 1))) 0 ≤ 0 := fun q => zB ((lcmp_le0 (by omega)).mp q)
      have hl0 := hlp.mpr (Nat.pos_of_ne_zero zB)
      have c3 : ¬ nI (lsq h) ≤ 0 := nI_nle hl0 (by omega)
      simp (config := { decide := true }) only [↓reduceIte, Option.bind_some, Option.bind_none, f_L_ordered, ec', hn0, ed', e1, ht0, em, en, y1, y2, y3, y4, c1, c2, c3]
end OO
