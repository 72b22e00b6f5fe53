theorem t_X8_isThere {μ : Mm} {a0 : Nat} {x : Int32} (h : f_X8_isThere μ a0 = some x) : tg μ a0 = 9 := by
  unfold f_X8_isThere at h
  exact (gsn h).1
set_option maxHeartbeats 4000000 in
set_option maxRecDepth 100000 in
theorem c_X8_isThere (l : Launch) (G : CG) (μ : Mm) (a0 : Nat) (x : Int32) (h : f_X8_isThere μ a0 = some x) : Met l yX8_isThere (.code yX8_isThere cX8_isThere 1 (some .boolean) :: UW) (rmk 1 0 0) (PC G [.ref a0] μ) (QI G x μ) 0 0 (fA G) := by
  refine Met.ofW (cc := cX8_isThere) (maxL := 1) (ret := (some .boolean)) (by decide) rfl ?_
  intro p e s m args below meth c s₁ B hml hv
  obtain ⟨X, hH, hr, rfl, hnm⟩ := cx_in B hml hv
  have X : Cx p s m _ meth c cX8_isThere 1 RX8 G := X
  have hx := X.1
  have hb := X.2.1
  have hown := X.2.2.2.1
  have hts := X.2.2.2.2.1
  have hRL : RmL (rmk 1 0 0) 1 := ⟨Nat.le_refl _, Nat.le_refl _⟩
  have hcs : 0 ≤ (rmk 0 0 0).cells ∧ 0 ≤ (rmk 0 0 0).slots := ⟨Nat.zero_le _, Nat.zero_le _⟩
  refine ls_in (Nat.le_of_ble_eq_true rfl) (fun ls hl => ?_)
  have hl : lv_has ls 1 [(0, .ref a0)] := hl
  unfold f_X8_isThere at h
  obtain ⟨htg, h⟩ := gsn h
  refine lv_aload_n hx hb dX8_isThere_0 rfl (lv_at hl 0 rfl) ?_
  obtain ⟨x1, hx1, h⟩ := bnd h
  refine gf_X8_9 X hH hx1 dX8_isThere_1 ?_
  refine lv_if_lt (tgt := 11) hx hb dX8_isThere_4 (by decide) (fun hc2 => ?_) (fun hc2 => ?_)
  · replace h := ift h hc2
    refine lv_iconst (v := 0) hx hb dX8_isThere_11 (by decide) ?_
    exact eZp X hH (by decide) h hr dX8_isThere_12
  · replace h := iff' h hc2
    refine lv_iconst (v := 1) hx hb dX8_isThere_7 (by decide) ?_
    refine lv_goto (tgt := 12) hx hb dX8_isThere_8 (by decide) ?_
    exact eZp X hH (by decide) h hr dX8_isThere_12
theorem t_X8_hasRange {μ : Mm} {a0 : Nat} {p1 : Int32} {p2 : Int32} {x : Int32} (h : f_X8_hasRange μ a0 p1 p2 = some x) : tg μ a0 = 9 := by
  unfold f_X8_hasRange at h
  exact (gsn h).1
set_option maxHeartbeats 4000000 in
set_option maxRecDepth 100000 in
theorem c_X8_hasRange (l : Launch) (G : CG) (μ : Mm) (a0 : Nat) (p1 : Int32) (p2 : Int32) (x : Int32) (h : f_X8_hasRange μ a0 p1 p2 = some x) : Met l yX8_hasRange (.code yX8_hasRange cX8_hasRange 3 (some .boolean) :: UW) (rmk 1 0 0) (PC G [.ref a0, .int p1, .int p2] μ) (QI G x μ) 0 0 (fA G) := by
  refine Met.ofW (cc := cX8_hasRange) (maxL := 3) (ret := (some .boolean)) (by decide) rfl ?_
  intro p e s m args below meth c s₁ B hml hv
  obtain ⟨X, hH, hr, rfl, hnm⟩ := cx_in B hml hv
  have X : Cx p s m _ meth c cX8_hasRange 3 RX8 G := X
  have hx := X.1
  have hb := X.2.1
  have hown := X.2.2.2.1
  have hts := X.2.2.2.2.1
  have hRL : RmL (rmk 1 0 0) 1 := ⟨Nat.le_refl _, Nat.le_refl _⟩
  have hcs : 0 ≤ (rmk 0 0 0).cells ∧ 0 ≤ (rmk 0 0 0).slots := ⟨Nat.zero_le _, Nat.zero_le _⟩
  refine ls_in (Nat.le_of_ble_eq_true rfl) (fun ls hl => ?_)
  have hl : lv_has ls 3 [(0, .ref a0), (1, .int p1), (2, .int p2)] := hl
  unfold f_X8_hasRange at h
  obtain ⟨htg, h⟩ := gsn h
  refine lv_iload_n hx hb dX8_hasRange_0 rfl (lv_at hl 1 rfl) ?_
  refine lv_if_lt (tgt := 22) hx hb dX8_hasRange_1 (by decide) (fun hc1 => ?_) (fun hc1 => ?_)
  · replace h := ift h hc1
    refine lv_iconst (v := 0) hx hb dX8_hasRange_22 (by decide) ?_
    exact eZp X hH (by decide) h hr dX8_hasRange_23
  · replace h := iff' h hc1
    refine lv_iload_n hx hb dX8_hasRange_4 rfl (lv_at hl 2 rfl) ?_
    refine lv_if_lt (tgt := 22) hx hb dX8_hasRange_5 (by decide) (fun hc2 => ?_) (fun hc2 => ?_)
    · replace h := ift h hc2
      refine lv_iconst (v := 0) hx hb dX8_hasRange_22 (by decide) ?_
      exact eZp X hH (by decide) h hr dX8_hasRange_23
    · replace h := iff' h hc2
      refine lv_iload_n hx hb dX8_hasRange_8 rfl (lv_at hl 1 rfl) ?_
      refine lv_aload_n hx hb dX8_hasRange_9 rfl (lv_at hl 0 rfl) ?_
      obtain ⟨x3, hx3, h⟩ := bnd h
      refine gf_X8_9 X hH hx3 dX8_hasRange_10 ?_
      refine lv_iload_n hx hb dX8_hasRange_13 rfl (lv_at hl 2 rfl) ?_
      refine lv_isub hx hb dX8_hasRange_14 ?_
      refine lv_icmp_gt (tgt := 22) hx hb dX8_hasRange_15 (by decide) (fun hc4 => ?_) (fun hc4 => ?_)
      · replace h := ift h hc4
        refine lv_iconst (v := 0) hx hb dX8_hasRange_22 (by decide) ?_
        exact eZp X hH (by decide) h hr dX8_hasRange_23
      · replace h := iff' h hc4
        refine lv_iconst (v := 1) hx hb dX8_hasRange_18 (by decide) ?_
        refine lv_goto (tgt := 23) hx hb dX8_hasRange_19 (by decide) ?_
        exact eZp X hH (by decide) h hr dX8_hasRange_23
theorem t_X8_close {μ : Mm} {a0 : Nat} {x : Mm} (h : f_X8_close μ a0 = some x) : tg μ a0 = 9 := by
  unfold f_X8_close at h
  exact (gsn h).1
set_option maxHeartbeats 4000000 in
set_option maxRecDepth 100000 in
theorem c_X8_close (l : Launch) (G : CG) (μ : Mm) (a0 : Nat) (x : Mm) (h : f_X8_close μ a0 = some x) : Met l yX8_close (.code yX8_close cX8_close 1 none :: UW) (rmk 1 0 0) (PC G [.ref a0] μ) (QV G x) 0 0 (fA G) := by
  refine Met.ofW (cc := cX8_close) (maxL := 1) (ret := none) (by decide) rfl ?_
  intro p e s m args below meth c s₁ B hml hv
  obtain ⟨X, hH, hr, rfl, hnm⟩ := cx_in B hml hv
  have X : Cx p s m _ meth c cX8_close 1 RX8 G := X
  have hx := X.1
  have hb := X.2.1
  have hown := X.2.2.2.1
  have hts := X.2.2.2.2.1
  have hRL : RmL (rmk 1 0 0) 1 := ⟨Nat.le_refl _, Nat.le_refl _⟩
  have hcs : 0 ≤ (rmk 0 0 0).cells ∧ 0 ≤ (rmk 0 0 0).slots := ⟨Nat.zero_le _, Nat.zero_le _⟩
  refine ls_in (Nat.le_of_ble_eq_true rfl) (fun ls hl => ?_)
  have hl : lv_has ls 1 [(0, .ref a0)] := hl
  unfold f_X8_close at h
  obtain ⟨htg, h⟩ := gsn h
  refine lv_aload_n hx hb dX8_close_0 rfl (lv_at hl 0 rfl) ?_
  refine lv_iconst (v := -1) hx hb dX8_close_1 (by decide) ?_
  obtain ⟨x1, hx1, h⟩ := bnd h
  refine pf_X8_9 X hH hx1 dX8_close_2 (fun H locs hH => ?_)
  exact eV X hH h hr dX8_close_5 (Nat.le_of_ble_eq_true rfl) (Nat.le_of_ble_eq_true rfl)
set_option maxHeartbeats 4000000 in
set_option maxRecDepth 100000 in
theorem w_X8_takeFrom_18 {p : Program} {e : Env} {R : Room} {s : State} {m : MethodId} {args : Array Value} {below : List Frame} {meth : Method} {c : Code} {cells slots : Nat} {Q : State → Prop} {G : CG} (l : Launch) (X : Cx p s m args meth c cX8_takeFrom 3 RX8 G) (hRL : RmL R 1) (hcs : cells ≤ R.cells ∧ slots ≤ R.slots) : ∀ (n : Nat) (v0 : Nat) (v1 : Nat) (v2 : Int32) (μ : Mm) (x : Mm), lp_X8_takeFrom_18 n v0 v1 v2 μ = some x → (∀ (H : Heap) (locs : List Loc) (ls : Array Slot), HS G s x H locs → lv_has ls 3 [] → W p l e R s m args below meth c H locs cells slots Q (F0 m 44 ls [])) → ∀ (H : Heap) (locs : List Loc) (ls : Array Slot), HS G s μ H locs → lv_has ls 3 [(0, .ref v0), (1, .ref v1), (2, .int v2)] → W p l e R s m args below meth c H locs cells slots Q (F0 m 18 ls []) := by
  have hx := X.1
  have hb := X.2.1
  have hown := X.2.2.2.1
  have hts := X.2.2.2.2.1
  intro n
  induction n with
  | zero =>
    intro v0 v1 v2 μ x h
    rw [lp_X8_takeFrom_18] at h
    cases h
  | succ n ih =>
    intro v0 v1 v2 μ x h k0 H locs ls hH hl
    rw [lp_X8_takeFrom_18] at h
    refine lv_iload_n hx hb dX8_takeFrom_18 rfl (lv_at hl 2 rfl) ?_
    refine lv_aload_n hx hb dX8_takeFrom_19 rfl (lv_at hl 0 rfl) ?_
    obtain ⟨x5, hx5, h⟩ := bnd h
    refine gf_X8_9 X hH hx5 dX8_takeFrom_20 ?_
    refine lv_icmp_ge (tgt := 44) hx hb dX8_takeFrom_23 (by decide) (fun hc6 => ?_) (fun hc6 => ?_)
    · replace h := ift h hc6
      cases h
      exact k0 _ _ _ hH (lv_sub hl [] rfl)
    · replace h := iff' h hc6
      refine lv_aload_n hx hb dX8_takeFrom_26 rfl (lv_at hl 0 rfl) ?_
      obtain ⟨x7, hx7, h⟩ := bnd h
      refine gf_X8_21 X hH hx7 dX8_takeFrom_27 ?_
      refine lv_iload_n hx hb dX8_takeFrom_30 rfl (lv_at hl 2 rfl) ?_
      refine lv_aload_n hx hb dX8_takeFrom_31 rfl (lv_at hl 1 rfl) ?_
      obtain ⟨x8, hx8, h⟩ := bnd h
      refine gf_X8_21 X hH hx8 dX8_takeFrom_32 ?_
      refine lv_iload_n hx hb dX8_takeFrom_35 rfl (lv_at hl 2 rfl) ?_
      obtain ⟨x9, hx9, h⟩ := bnd h
      refine w_aI X hH hx9 dX8_takeFrom_36 ?_
      obtain ⟨x10, hx10, h⟩ := bnd h
      refine w_qI X hH hx10 dX8_takeFrom_37 (fun H locs hH => ?_)
      refine lv_iinc (v := (v2 + 1)) (lv' := [(2, .int (v2 + 1)), (0, .ref v0), (1, .ref v1)]) hx hb dX8_takeFrom_38 hl (k := 2) rfl rfl (by decide) rfl (fun ls hl => ?_)
      refine lv_goto (tgt := 18) hx hb dX8_takeFrom_41 (by decide) ?_
      exact ih _ _ _ _ _ h k0 _ _ _ hH (lv_sub hl [1, 2, 0] rfl)
theorem t_X8_takeFrom {μ : Mm} {a0 : Nat} {p1 : Nat} {x : Mm} (h : f_X8_takeFrom μ a0 p1 = some x) : tg μ a0 = 9 := by
  unfold f_X8_takeFrom at h
  exact (gsn h).1
set_option maxHeartbeats 4000000 in
set_option maxRecDepth 100000 in
theorem c_X8_takeFrom (l : Launch) (G : CG) (μ : Mm) (a0 : Nat) (p1 : Nat) (x : Mm) (h : f_X8_takeFrom μ a0 p1 = some x) : Met l yX8_takeFrom (.code yX8_takeFrom cX8_takeFrom 3 none :: UW) (rmk 1 0 0) (PC G [.ref a0, .ref p1] μ) (QV G x) 0 0 (fA G) := by
  refine Met.ofW (cc := cX8_takeFrom) (maxL := 3) (ret := none) (by decide) rfl ?_
  intro p e s m args below meth c s₁ B hml hv
  obtain ⟨X, hH, hr, rfl, hnm⟩ := cx_in B hml hv
  have X : Cx p s m _ meth c cX8_takeFrom 3 RX8 G := X
  have hx := X.1
  have hb := X.2.1
  have hown := X.2.2.2.1
  have hts := X.2.2.2.2.1
  have hRL : RmL (rmk 1 0 0) 1 := ⟨Nat.le_refl _, Nat.le_refl _⟩
  have hcs : 0 ≤ (rmk 0 0 0).cells ∧ 0 ≤ (rmk 0 0 0).slots := ⟨Nat.zero_le _, Nat.zero_le _⟩
  refine ls_in (Nat.le_of_ble_eq_true rfl) (fun ls hl => ?_)
  have hl : lv_has ls 3 [(0, .ref a0), (1, .ref p1)] := hl
  unfold f_X8_takeFrom at h
  obtain ⟨htg, h⟩ := gsn h
  refine lv_aload_n hx hb dX8_takeFrom_0 rfl (lv_at hl 0 rfl) ?_
  refine lv_aload_n hx hb dX8_takeFrom_1 rfl (lv_at hl 1 rfl) ?_
  obtain ⟨x1, hx1, h⟩ := bnd h
  refine gf_X8_9 X hH hx1 dX8_takeFrom_2 ?_
  refine lv_aload_n hx hb dX8_takeFrom_5 rfl (lv_at hl 0 rfl) ?_
  obtain ⟨x2, hx2, h⟩ := bnd h
  refine gf_X8_21 X hH hx2 dX8_takeFrom_6 ?_
  obtain ⟨htx3, h⟩ := gsn h
  obtain ⟨x3, hx3, h⟩ := bnd h
  refine w_len X hH hx3 htx3 (k := 1) rfl dX8_takeFrom_9 ?_
  refine w_min X hRL (by decide) hl.1 u_143 u_144 u_64 u_145 hcs dX8_takeFrom_10 (Nat.le_of_ble_eq_true rfl) ?_
  obtain ⟨x4, hx4, h⟩ := bnd h
  refine pf_X8_9 X hH hx4 dX8_takeFrom_13 (fun H locs hH => ?_)
  refine lv_iconst (v := 0) hx hb dX8_takeFrom_16 (by decide) ?_
  refine lv_istore_n (lv' := [(2, .int (0 : Int32)), (0, .ref a0), (1, .ref p1)]) hx hb dX8_takeFrom_17 rfl hl (by decide) rfl (fun ls hl => ?_)
  obtain ⟨x11, hx11, hhx11⟩ := bnd h
  clear h
  refine w_X8_takeFrom_18 l X hRL hcs BIG a0 p1 (0 : Int32) x4 x11 hx11 (fun H locs ls hH hl => ?_) _ _ _ hH (lv_sub hl [1, 2, 0] rfl)
  · have h := hhx11
    clear hhx11
    exact eV X hH h hr dX8_takeFrom_44 (Nat.le_of_ble_eq_true rfl) (Nat.le_of_ble_eq_true rfl)
set_option maxHeartbeats 4000000 in
set_option maxRecDepth 100000 in
theorem w_X8_placeOf_2 {p : Program} {e : Env} {R : Room} {s : State} {m : MethodId} {args : Array Value} {below : List Frame} {meth : Method} {c : Code} {cells slots : Nat} {Q : State → Prop} {G : CG} (l : Launch) (X : Cx p s m args meth c cX8_placeOf 3 RX8 G) (hRL : RmL R 1) (hcs : cells ≤ R.cells ∧ slots ≤ R.slots) : ∀ (n : Nat) (v0 : Nat) (v1 : Int32) (v2 : Int32) (μ : Mm) (x : Nat × Int32), lp_X8_placeOf_2 n v0 v1 v2 μ = some x → (∀ (H : Heap) (locs : List Loc) (ls : Array Slot), x.1 = 0 → HS G s μ H locs → lv_has ls 3 [(2, .int x.2)] → W p l e R s m args below meth c H locs cells slots Q (F0 m 20 ls [])) → (∀ (H : Heap) (locs : List Loc) (ls : Array Slot), x.1 = 1 → HS G s μ H locs → lv_has ls 3 [] → W p l e R s m args below meth c H locs cells slots Q (F0 m 28 ls [])) → ∀ (H : Heap) (locs : List Loc) (ls : Array Slot), HS G s μ H locs → lv_has ls 3 [(0, .ref v0), (1, .int v1), (2, .int v2)] → W p l e R s m args below meth c H locs cells slots Q (F0 m 2 ls []) := by
  have hx := X.1
  have hb := X.2.1
  have hown := X.2.2.2.1
  have hts := X.2.2.2.2.1
  intro n
  induction n with
  | zero =>
    intro v0 v1 v2 μ x h
    rw [lp_X8_placeOf_2] at h
    cases h
  | succ n ih =>
    intro v0 v1 v2 μ x h k0 k1 H locs ls hH hl
    rw [lp_X8_placeOf_2] at h
    refine lv_iload_n hx hb dX8_placeOf_2 rfl (lv_at hl 2 rfl) ?_
    refine lv_aload_n hx hb dX8_placeOf_3 rfl (lv_at hl 0 rfl) ?_
    obtain ⟨x1, hx1, h⟩ := bnd h
    refine gf_X8_9 X hH hx1 dX8_placeOf_4 ?_
    refine lv_icmp_ge (tgt := 28) hx hb dX8_placeOf_7 (by decide) (fun hc2 => ?_) (fun hc2 => ?_)
    · replace h := ift h hc2
      cases h
      exact k1 _ _ _ rfl hH (lv_sub hl [] rfl)
    · replace h := iff' h hc2
      refine lv_aload_n hx hb dX8_placeOf_10 rfl (lv_at hl 0 rfl) ?_
      obtain ⟨x3, hx3, h⟩ := bnd h
      refine gf_X8_21 X hH hx3 dX8_placeOf_11 ?_
      refine lv_iload_n hx hb dX8_placeOf_14 rfl (lv_at hl 2 rfl) ?_
      obtain ⟨x4, hx4, h⟩ := bnd h
      refine w_aI X hH hx4 dX8_placeOf_15 ?_
      refine lv_iload_n hx hb dX8_placeOf_16 rfl (lv_at hl 1 rfl) ?_
      refine lv_icmp_ne (tgt := 22) hx hb dX8_placeOf_17 (by decide) (fun hc5 => ?_) (fun hc5 => ?_)
      · replace h := iff' h hc5
        refine lv_iinc (v := (v2 + 1)) (lv' := [(2, .int (v2 + 1)), (0, .ref v0), (1, .int v1)]) hx hb dX8_placeOf_22 hl (k := 2) rfl rfl (by decide) rfl (fun ls hl => ?_)
        refine lv_goto (tgt := 2) hx hb dX8_placeOf_25 (by decide) ?_
        exact ih _ _ _ _ _ h k0 k1 _ _ _ hH (lv_sub hl [1, 2, 0] rfl)
      · replace h := ift h hc5
        cases h
        exact k0 _ _ _ rfl hH (lv_sub hl [2] rfl)
theorem t_X8_placeOf {μ : Mm} {a0 : Nat} {p1 : Int32} {x : Int32} (h : f_X8_placeOf μ a0 p1 = some x) : tg μ a0 = 9 := by
  unfold f_X8_placeOf at h
  exact (gsn h).1
set_option maxHeartbeats 4000000 in
set_option maxRecDepth 100000 in
theorem c_X8_placeOf (l : Launch) (G : CG) (μ : Mm) (a0 : Nat) (p1 : Int32) (x : Int32) (h : f_X8_placeOf μ a0 p1 = some x) : Met l yX8_placeOf (.code yX8_placeOf cX8_placeOf 3 (some .int) :: UW) (rmk 1 0 0) (PC G [.ref a0, .int p1] μ) (QI G x μ) 0 0 (fA G) := by
  refine Met.ofW (cc := cX8_placeOf) (maxL := 3) (ret := (some .int)) (by decide) rfl ?_
  intro p e s m args below meth c s₁ B hml hv
  obtain ⟨X, hH, hr, rfl, hnm⟩ := cx_in B hml hv
  have X : Cx p s m _ meth c cX8_placeOf 3 RX8 G := X
  have hx := X.1
  have hb := X.2.1
  have hown := X.2.2.2.1
  have hts := X.2.2.2.2.1
  have hRL : RmL (rmk 1 0 0) 1 := ⟨Nat.le_refl _, Nat.le_refl _⟩
  have hcs : 0 ≤ (rmk 0 0 0).cells ∧ 0 ≤ (rmk 0 0 0).slots := ⟨Nat.zero_le _, Nat.zero_le _⟩
  refine ls_in (Nat.le_of_ble_eq_true rfl) (fun ls hl => ?_)
  have hl : lv_has ls 3 [(0, .ref a0), (1, .int p1)] := hl
  unfold f_X8_placeOf at h
  obtain ⟨htg, h⟩ := gsn h
  refine lv_iconst (v := 0) hx hb dX8_placeOf_0 (by decide) ?_
  refine lv_istore_n (lv' := [(2, .int (0 : Int32)), (0, .ref a0), (1, .int p1)]) hx hb dX8_placeOf_1 rfl hl (by decide) rfl (fun ls hl => ?_)
  obtain ⟨x6, hx6, hhx6⟩ := bnd h
  clear h
  refine w_X8_placeOf_2 l X hRL hcs BIG a0 p1 (0 : Int32) μ x6 hx6 (fun H locs ls hj hH hl => ?_) (fun H locs ls hj hH hl => ?_) _ _ _ hH (lv_sub hl [1, 2, 0] rfl)
  · have h := hhx6
    clear hhx6
    replace h := ift h hj
    refine lv_iload_n hx hb dX8_placeOf_20 rfl (lv_at hl 0 rfl) ?_
    exact eIp X hH h hr dX8_placeOf_21
  · have h := hhx6
    clear hhx6
    replace h := iff' h (by rw [hj]; decide)
    refine lv_bipush (v := -9) hx hb dX8_placeOf_28 (by decide) ?_
    exact eIp X hH h hr dX8_placeOf_30
set_option maxHeartbeats 4000000 in
set_option maxRecDepth 100000 in
theorem w_X8_total_4 {p : Program} {e : Env} {R : Room} {s : State} {m : MethodId} {args : Array Value} {below : List Frame} {meth : Method} {c : Code} {cells slots : Nat} {Q : State → Prop} {G : CG} (l : Launch) (X : Cx p s m args meth c cX8_total 4 RX8 G) (hRL : RmL R 1) (hcs : cells ≤ R.cells ∧ slots ≤ R.slots) : ∀ (n : Nat) (v0 : Nat) (v1 : Int64) (v3 : Int32) (μ : Mm) (x : Int64), lp_X8_total_4 n v0 v1 v3 μ = some x → (∀ (H : Heap) (locs : List Loc) (ls : Array Slot), HS G s μ H locs → lv_has ls 4 [(1, .long x)] → W p l e R s m args below meth c H locs cells slots Q (F0 m 28 ls [])) → ∀ (H : Heap) (locs : List Loc) (ls : Array Slot), HS G s μ H locs → lv_has ls 4 [(0, .ref v0), (1, .long v1), (3, .int v3)] → W p l e R s m args below meth c H locs cells slots Q (F0 m 4 ls []) := by
  have hx := X.1
  have hb := X.2.1
  have hown := X.2.2.2.1
  have hts := X.2.2.2.2.1
  intro n
  induction n with
  | zero =>
    intro v0 v1 v3 μ x h
    rw [lp_X8_total_4] at h
    cases h
  | succ n ih =>
    intro v0 v1 v3 μ x h k0 H locs ls hH hl
    rw [lp_X8_total_4] at h
    refine lv_iload_n hx hb dX8_total_4 rfl (lv_at hl 2 rfl) ?_
    refine lv_aload_n hx hb dX8_total_5 rfl (lv_at hl 0 rfl) ?_
    obtain ⟨x1, hx1, h⟩ := bnd h
    refine gf_X8_9 X hH hx1 dX8_total_6 ?_
    refine lv_icmp_ge (tgt := 28) hx hb dX8_total_9 (by decide) (fun hc2 => ?_) (fun hc2 => ?_)
    · replace h := ift h hc2
      cases h
      exact k0 _ _ _ hH (lv_sub hl [1] rfl)
    · replace h := iff' h hc2
      refine lv_lload_n hx hb dX8_total_12 rfl (lv_at hl 1 rfl) ?_
      refine lv_aload_n hx hb dX8_total_13 rfl (lv_at hl 0 rfl) ?_
      obtain ⟨x3, hx3, h⟩ := bnd h
      refine gf_X8_21 X hH hx3 dX8_total_14 ?_
      refine lv_iload_n hx hb dX8_total_17 rfl (lv_at hl 2 rfl) ?_
      obtain ⟨x4, hx4, h⟩ := bnd h
      refine w_aI X hH hx4 dX8_total_18 ?_
      refine lv_i2l hx hb dX8_total_19 rfl ?_
      refine lv_ladd hx hb dX8_total_20 ?_
      refine lv_lstore_n (lv' := [(1, .long (v1 + x4.toInt64)), (0, .ref v0), (3, .int v3)]) hx hb dX8_total_21 rfl hl (by decide) rfl (fun ls hl => ?_)
      refine lv_iinc (v := (v3 + 1)) (lv' := [(3, .int (v3 + 1)), (1, .long (v1 + x4.toInt64)), (0, .ref v0)]) hx hb dX8_total_22 hl (k := 2) rfl rfl (by decide) rfl (fun ls hl => ?_)
      refine lv_goto (tgt := 4) hx hb dX8_total_25 (by decide) ?_
      exact ih _ _ _ _ _ h k0 _ _ _ hH (lv_sub hl [2, 1, 0] rfl)
theorem t_X8_total {μ : Mm} {a0 : Nat} {x : Int64} (h : f_X8_total μ a0 = some x) : tg μ a0 = 9 := by
  unfold f_X8_total at h
  exact (gsn h).1
set_option maxHeartbeats 4000000 in
set_option maxRecDepth 100000 in
theorem c_X8_total (l : Launch) (G : CG) (μ : Mm) (a0 : Nat) (x : Int64) (h : f_X8_total μ a0 = some x) : Met l yX8_total (.code yX8_total cX8_total 4 (some .long) :: UW) (rmk 1 0 0) (PC G [.ref a0] μ) (QL G x μ) 0 0 (fA G) := by
  refine Met.ofW (cc := cX8_total) (maxL := 4) (ret := (some .long)) (by decide) rfl ?_
  intro p e s m args below meth c s₁ B hml hv
  obtain ⟨X, hH, hr, rfl, hnm⟩ := cx_in B hml hv
  have X : Cx p s m _ meth c cX8_total 4 RX8 G := X
  have hx := X.1
  have hb := X.2.1
  have hown := X.2.2.2.1
  have hts := X.2.2.2.2.1
  have hRL : RmL (rmk 1 0 0) 1 := ⟨Nat.le_refl _, Nat.le_refl _⟩
  have hcs : 0 ≤ (rmk 0 0 0).cells ∧ 0 ≤ (rmk 0 0 0).slots := ⟨Nat.zero_le _, Nat.zero_le _⟩
  refine ls_in (Nat.le_of_ble_eq_true rfl) (fun ls hl => ?_)
  have hl : lv_has ls 4 [(0, .ref a0)] := hl
  unfold f_X8_total at h
  obtain ⟨htg, h⟩ := gsn h
  refine lv_lconst (v := 0) hx hb dX8_total_0 (by decide) ?_
  refine lv_lstore_n (lv' := [(1, .long (0 : Int64)), (0, .ref a0)]) hx hb dX8_total_1 rfl hl (by decide) rfl (fun ls hl => ?_)
  refine lv_iconst (v := 0) hx hb dX8_total_2 (by decide) ?_
  refine lv_istore_n (lv' := [(3, .int (0 : Int32)), (1, .long (0 : Int64)), (0, .ref a0)]) hx hb dX8_total_3 rfl hl (by decide) rfl (fun ls hl => ?_)
  obtain ⟨x5, hx5, hhx5⟩ := bnd h
  clear h
  refine w_X8_total_4 l X hRL hcs BIG a0 (0 : Int64) (0 : Int32) μ x5 hx5 (fun H locs ls hH hl => ?_) _ _ _ hH (lv_sub hl [2, 1, 0] rfl)
  · have h := hhx5
    clear hhx5
    refine lv_lload_n hx hb dX8_total_28 rfl (lv_at hl 0 rfl) ?_
    exact eLp X hH h hr dX8_total_29
set_option maxHeartbeats 4000000 in
set_option maxRecDepth 100000 in
theorem w_X8_mixInto_15 {p : Program} {e : Env} {R : Room} {s : State} {m : MethodId} {args : Array Value} {below : List Frame} {meth : Method} {c : Code} {cells slots : Nat} {Q : State → Prop} {G : CG} (l : Launch) (X : Cx p s m args meth c cX8_mixInto 6 RX8 G) (hRL : RmL R 1) (hcs : cells ≤ R.cells ∧ slots ≤ R.slots) : ∀ (n : Nat) (v0 : Nat) (v3 : Int64) (v5 : Int32) (μ : Mm) (x : Int64), lp_X8_mixInto_15 n v0 v3 v5 μ = some x → (∀ (H : Heap) (locs : List Loc) (ls : Array Slot), HS G s μ H locs → lv_has ls 6 [(3, .long x)] → W p l e R s m args below meth c H locs cells slots Q (F0 m 45 ls [])) → ∀ (H : Heap) (locs : List Loc) (ls : Array Slot), HS G s μ H locs → lv_has ls 6 [(0, .ref v0), (3, .long v3), (5, .int v5)] → W p l e R s m args below meth c H locs cells slots Q (F0 m 15 ls []) := by
  have hx := X.1
  have hb := X.2.1
  have hown := X.2.2.2.1
  have hts := X.2.2.2.2.1
  intro n
  induction n with
  | zero =>
    intro v0 v3 v5 μ x h
    rw [lp_X8_mixInto_15] at h
    cases h
  | succ n ih =>
    intro v0 v3 v5 μ x h k0 H locs ls hH hl
    rw [lp_X8_mixInto_15] at h
    refine lv_iload hx hb dX8_mixInto_15 (lv_at hl 2 rfl) ?_
    refine lv_aload_n hx hb dX8_mixInto_17 rfl (lv_at hl 0 rfl) ?_
    obtain ⟨x2, hx2, h⟩ := bnd h
    refine gf_X8_9 X hH hx2 dX8_mixInto_18 ?_
    refine lv_icmp_ge (tgt := 45) hx hb dX8_mixInto_21 (by decide) (fun hc3 => ?_) (fun hc3 => ?_)
    · replace h := ift h hc3
      cases h
      exact k0 _ _ _ hH (lv_sub hl [1] rfl)
    · replace h := iff' h hc3
      refine lv_ldc2 (v := 31) hx hb hown (hts _ u_946) dX8_mixInto_24 ?_
      refine lv_lload_n hx hb dX8_mixInto_27 rfl (lv_at hl 1 rfl) ?_
      refine lv_lmul hx hb dX8_mixInto_28 ?_
      refine lv_aload_n hx hb dX8_mixInto_29 rfl (lv_at hl 0 rfl) ?_
      obtain ⟨x4, hx4, h⟩ := bnd h
      refine gf_X8_21 X hH hx4 dX8_mixInto_30 ?_
      refine lv_iload hx hb dX8_mixInto_33 (lv_at hl 2 rfl) ?_
      obtain ⟨x5, hx5, h⟩ := bnd h
      refine w_aI X hH hx5 dX8_mixInto_35 ?_
      refine lv_i2l hx hb dX8_mixInto_36 rfl ?_
      refine lv_ladd hx hb dX8_mixInto_37 ?_
      refine lv_lstore_n (lv' := [(3, .long (((31 : Int64) * v3) + x5.toInt64)), (0, .ref v0), (5, .int v5)]) hx hb dX8_mixInto_38 rfl hl (by decide) rfl (fun ls hl => ?_)
      refine lv_iinc (v := (v5 + 1)) (lv' := [(5, .int (v5 + 1)), (3, .long (((31 : Int64) * v3) + x5.toInt64)), (0, .ref v0)]) hx hb dX8_mixInto_39 hl (k := 2) rfl rfl (by decide) rfl (fun ls hl => ?_)
      refine lv_goto (tgt := 15) hx hb dX8_mixInto_42 (by decide) ?_
      exact ih _ _ _ _ _ h k0 _ _ _ hH (lv_sub hl [2, 1, 0] rfl)
theorem t_X8_mixInto {μ : Mm} {a0 : Nat} {p1 : Int64} {x : Int64} (h : f_X8_mixInto μ a0 p1 = some x) : tg μ a0 = 9 := by
  unfold f_X8_mixInto at h
  exact (gsn h).1
set_option maxHeartbeats 4000000 in
set_option maxRecDepth 100000 in
theorem c_X8_mixInto (l : Launch) (G : CG) (μ : Mm) (a0 : Nat) (p1 : Int64) (x : Int64) (h : f_X8_mixInto μ a0 p1 = some x) : Met l yX8_mixInto (.code yX8_mixInto cX8_mixInto 6 (some .long) :: UW) (rmk 1 0 0) (PC G [.ref a0, .long p1] μ) (QL G x μ) 0 0 (fA G) := by
  refine Met.ofW (cc := cX8_mixInto) (maxL := 6) (ret := (some .long)) (by decide) rfl ?_
  intro p e s m args below meth c s₁ B hml hv
  obtain ⟨X, hH, hr, rfl, hnm⟩ := cx_in B hml hv
  have X : Cx p s m _ meth c cX8_mixInto 6 RX8 G := X
  have hx := X.1
  have hb := X.2.1
  have hown := X.2.2.2.1
  have hts := X.2.2.2.2.1
  have hRL : RmL (rmk 1 0 0) 1 := ⟨Nat.le_refl _, Nat.le_refl _⟩
  have hcs : 0 ≤ (rmk 0 0 0).cells ∧ 0 ≤ (rmk 0 0 0).slots := ⟨Nat.zero_le _, Nat.zero_le _⟩
  refine ls_in (Nat.le_of_ble_eq_true rfl) (fun ls hl => ?_)
  have hl : lv_has ls 6 [(0, .ref a0), (1, .long p1)] := hl
  unfold f_X8_mixInto at h
  obtain ⟨htg, h⟩ := gsn h
  refine lv_ldc2 (v := 31) hx hb hown (hts _ u_946) dX8_mixInto_0 ?_
  refine lv_lload_n hx hb dX8_mixInto_3 rfl (lv_at hl 1 rfl) ?_
  refine lv_lmul hx hb dX8_mixInto_4 ?_
  refine lv_aload_n hx hb dX8_mixInto_5 rfl (lv_at hl 0 rfl) ?_
  obtain ⟨x1, hx1, h⟩ := bnd h
  refine gf_X8_9 X hH hx1 dX8_mixInto_6 ?_
  refine lv_i2l hx hb dX8_mixInto_9 rfl ?_
  refine lv_ladd hx hb dX8_mixInto_10 ?_
  refine lv_lstore_n (lv' := [(3, .long (((31 : Int64) * p1) + x1.toInt64)), (0, .ref a0), (1, .long p1)]) hx hb dX8_mixInto_11 rfl hl (by decide) rfl (fun ls hl => ?_)
  refine lv_iconst (v := 0) hx hb dX8_mixInto_12 (by decide) ?_
  refine lv_istore (lv' := [(5, .int (0 : Int32)), (3, .long (((31 : Int64) * p1) + x1.toInt64)), (0, .ref a0), (1, .long p1)]) hx hb dX8_mixInto_13 hl (by decide) rfl (fun ls hl => ?_)
  obtain ⟨x6, hx6, hhx6⟩ := bnd h
  clear h
  refine w_X8_mixInto_15 l X hRL hcs BIG a0 (((31 : Int64) * p1) + x1.toInt64) (0 : Int32) μ x6 hx6 (fun H locs ls hH hl => ?_) _ _ _ hH (lv_sub hl [2, 1, 0] rfl)
  · have h := hhx6
    clear hhx6
    refine lv_lload_n hx hb dX8_mixInto_45 rfl (lv_at hl 0 rfl) ?_
    exact eLp X hH h hr dX8_mixInto_46
set_option maxHeartbeats 1000000 in
theorem iv_X9_13 {p : Program} {e : Env} {R : Room} {s : State} {m : MethodId} {args : Array Value} {below : List Frame} {meth : Method} {c : Code} {H : Heap} {locs : List Loc} {cells slots : Nat} {Q : State → Prop} {cc : ByteArray} {pc : Nat} {ls : Array Slot} {rest : List Value} {nL : Nat} {G : CG} {μ : Mm} {a : Nat}  {x : Int32} {k : Nat} (l : Launch) (X : Cx p s m args meth c cc nL RX9 G) (hH : HS G s μ H locs) (hRL : RmL R k) (hk : 2 + 1 ≤ k) (h : f_X9_bareTread μ a = some x) (hls : ls.size = nL) (hroom : (rest.map fun v => v.category).sum ≤ 8) (hdg : decode cc pc = .ok (.invokevirtual 13, 3)) (hcs : cells + 0 ≤ R.cells ∧ slots + 0 ≤ R.slots) (kk : ∀ (H1 : Heap) (locs1 : List Loc), HS G s μ H1 locs1 → W p l e R s m args below meth c H1 locs1 cells slots Q (F0 m (pc + 3) ls (.int x :: rest))) : W p l e R s m args below meth c H locs cells slots Q (F0 m pc ls (.ref a :: rest)) := by
  refine kI hH (rV (As := []) (rest := rest) X hH (t_X9_bareTread h) vc_9 (c_X9_bareTread l G μ a x h) (List.forall_mem_cons.mpr ⟨u_648, (List.forall_mem_cons.mpr ⟨u_559, (List.forall_mem_cons.mpr ⟨u_1457, (List.forall_mem_cons.mpr ⟨u_75, (fun _ h9 => absurd h9 List.not_mem_nil)⟩)⟩)⟩)⟩) u_560 (rmo hRL (Nat.le_trans (by decide) hk) (by decide)) ddV_X9_bareTread rfl hls rfl hroom hdg hcs) kk
theorem t_X9_walksForRound {μ : Mm} {a0 : Nat} {p1 : Int32} {x : Int32} (h : f_X9_walksForRound μ a0 p1 = some x) : tg μ a0 = 10 := by
  unfold f_X9_walksForRound at h
  exact (gsn h).1
set_option maxHeartbeats 4000000 in
set_option maxRecDepth 100000 in
theorem c_X9_walksForRound (l : Launch) (G : CG) (μ : Mm) (a0 : Nat) (p1 : Int32) (x : Int32) (h : f_X9_walksForRound μ a0 p1 = some x) : Met l yX9_walksForRound (.code yX9_walksForRound cX9_walksForRound 3 (some .int) :: UW) (rmk 3 0 0) (PC G [.ref a0, .int p1] μ) (QI G x μ) 0 0 (fA G) := by
  refine Met.ofW (cc := cX9_walksForRound) (maxL := 3) (ret := (some .int)) (by decide) rfl ?_
  intro p e s m args below meth c s₁ B hml hv
  obtain ⟨X, hH, hr, rfl, hnm⟩ := cx_in B hml hv
  have X : Cx p s m _ meth c cX9_walksForRound 3 RX9 G := X
  have hx := X.1
  have hb := X.2.1
  have hown := X.2.2.2.1
  have hts := X.2.2.2.2.1
  have hRL : RmL (rmk 3 0 0) 3 := ⟨Nat.le_refl _, Nat.le_refl _⟩
  have hcs : 0 ≤ (rmk 0 0 0).cells ∧ 0 ≤ (rmk 0 0 0).slots := ⟨Nat.zero_le _, Nat.zero_le _⟩
  refine ls_in (Nat.le_of_ble_eq_true rfl) (fun ls hl => ?_)
  have hl : lv_has ls 3 [(0, .ref a0), (1, .int p1)] := hl
  unfold f_X9_walksForRound at h
  obtain ⟨htg, h⟩ := gsn h
  refine lv_aload_n hx hb dX9_walksForRound_0 rfl (lv_at hl 0 rfl) ?_
  obtain ⟨x1, hx1, h⟩ := bnd h
  refine iv_X9_13 l X hH hRL (by decide) hx1 hl.1 (Nat.le_of_ble_eq_true rfl) dX9_walksForRound_1 hcs (fun H locs hH => ?_)
  refine lv_istore_n (lv' := [(2, .int x1), (0, .ref a0), (1, .int p1)]) hx hb dX9_walksForRound_4 rfl hl (by decide) rfl (fun ls hl => ?_)
  refine lv_iload_n hx hb dX9_walksForRound_5 rfl (lv_at hl 0 rfl) ?_
  refine lv_iconst (v := 1) hx hb dX9_walksForRound_6 (by decide) ?_
  refine lv_icmp_ge (tgt := 15) hx hb dX9_walksForRound_7 (by decide) (fun hc2 => ?_) (fun hc2 => ?_)
  · replace h := ift h hc2
    refine lv_iload_n hx hb dX9_walksForRound_15 rfl (lv_at hl 2 rfl) ?_
    refine lv_iload_n hx hb dX9_walksForRound_16 rfl (lv_at hl 0 rfl) ?_
    refine lv_iadd hx hb dX9_walksForRound_17 ?_
    refine lv_iconst (v := 1) hx hb dX9_walksForRound_18 (by decide) ?_
    refine lv_isub hx hb dX9_walksForRound_19 ?_
    refine lv_iload_n hx hb dX9_walksForRound_20 rfl (lv_at hl 0 rfl) ?_
    obtain ⟨hd3, h⟩ := gsf h
    refine lv_idiv hx hb dX9_walksForRound_21 hd3 ?_
    exact eIp X hH h hr dX9_walksForRound_22
  · replace h := iff' h hc2
    refine lv_bipush (v := -9) hx hb dX9_walksForRound_10 (by decide) ?_
    refine lv_goto (tgt := 22) hx hb dX9_walksForRound_12 (by decide) ?_
    exact eIp X hH h hr dX9_walksForRound_22
theorem t_X10_init {μ : Mm} {a0 : Nat} {p1 : Nat} {x : Mm} (h : f_X10_init μ a0 p1 = some x) : tg μ a0 = 11 := by
  unfold f_X10_init at h
  exact (gsn h).1
set_option maxHeartbeats 4000000 in
set_option maxRecDepth 100000 in
theorem c_X10_init (l : Launch) (G : CG) (μ : Mm) (a0 : Nat) (p1 : Nat) (x : Mm) (h : f_X10_init μ a0 p1 = some x) : Met l yX10_init (.code yX10_init cX10_init 2 none :: UW) (rmk 1 3 180) (PC G [.ref a0, .ref p1] μ) (QV G x) 3 180 (fA G) := by
  refine Met.ofW (cc := cX10_init) (maxL := 2) (ret := none) (by decide) rfl ?_
  intro p e s m args below meth c s₁ B hml hv
  obtain ⟨X, hH, hr, rfl, hnm⟩ := cx_in B hml hv
  have X : Cx p s m _ meth c cX10_init 2 RX10 G := X
  have hx := X.1
  have hb := X.2.1
  have hown := X.2.2.2.1
  have hts := X.2.2.2.2.1
  have hnm : meth.name = "<init>" := hnm
  have hRL : RmL (rmk 1 3 180) 1 := ⟨Nat.le_refl _, Nat.le_refl _⟩
  refine ls_in (Nat.le_of_ble_eq_true rfl) (fun ls hl => ?_)
  have hl : lv_has ls 2 [(0, .ref a0), (1, .ref p1)] := hl
  unfold f_X10_init at h
  obtain ⟨htg, h⟩ := gsn h
  refine lv_aload_n hx hb dX10_init_0 rfl (lv_at hl 0 rfl) ?_
  refine w_oi X hRL (by decide) hl.1 u_273 u_82 u_83 (Nat.le_of_ble_eq_true rfl) dX10_init_1 ?_
  refine lv_aload_n hx hb dX10_init_4 rfl (lv_at hl 0 rfl) ?_
  refine lv_bipush (v := 60) hx hb dX10_init_5 (by decide) ?_
  obtain ⟨x1, hx1, h⟩ := bnd h
  refine w_na X hH (atype := .int) (k := 1) hx1 u_116 (by decide) rfl (fun n' h9 => Nat.le_trans (Nat.mul_le_mul_right _ h9) (by decide)) (ce_I _) (Nat.le_of_ble_eq_true rfl) (Nat.le_of_ble_eq_true rfl) dX10_init_7 (fun H hH => ?_)
  obtain ⟨x2, hx2, h⟩ := bnd h
  refine pf_X10_9 X hnm hH hx2 dX10_init_9 (fun H locs hH => ?_)
  refine lv_aload_n hx hb dX10_init_12 rfl (lv_at hl 0 rfl) ?_
  refine lv_bipush (v := 60) hx hb dX10_init_13 (by decide) ?_
  obtain ⟨x3, hx3, h⟩ := bnd h
  refine w_na X hH (atype := .long) (k := 2) hx3 u_287 (by decide) rfl (fun n' h9 => Nat.le_trans (Nat.mul_le_mul_right _ h9) (by decide)) (ce_J _) (Nat.le_of_ble_eq_true rfl) (Nat.le_of_ble_eq_true rfl) dX10_init_15 (fun H hH => ?_)
  obtain ⟨x4, hx4, h⟩ := bnd h
  refine pf_X10_15 X hnm hH hx4 dX10_init_17 (fun H locs hH => ?_)
  refine lv_aload_n hx hb dX10_init_20 rfl (lv_at hl 0 rfl) ?_
  refine lv_bipush (v := 60) hx hb dX10_init_21 (by decide) ?_
  obtain ⟨x5, hx5, h⟩ := bnd h
  refine w_na X hH (atype := .long) (k := 2) hx5 u_287 (by decide) rfl (fun n' h9 => Nat.le_trans (Nat.mul_le_mul_right _ h9) (by decide)) (ce_J _) (Nat.le_of_ble_eq_true rfl) (Nat.le_of_ble_eq_true rfl) dX10_init_23 (fun H hH => ?_)
  obtain ⟨x6, hx6, h⟩ := bnd h
  refine pf_X10_19 X hnm hH hx6 dX10_init_25 (fun H locs hH => ?_)
  refine lv_aload_n hx hb dX10_init_28 rfl (lv_at hl 0 rfl) ?_
  refine lv_aload_n hx hb dX10_init_29 rfl (lv_at hl 1 rfl) ?_
  obtain ⟨x7, hx7, h⟩ := bnd h
  refine pf_X10_22 X hnm hH hx7 dX10_init_30 (fun H locs hH => ?_)
  exact eV X hH h hr dX10_init_33 (Nat.le_of_ble_eq_true rfl) (Nat.le_of_ble_eq_true rfl)
set_option maxHeartbeats 1000000 in
theorem iv_X10_32 {p : Program} {e : Env} {R : Room} {s : State} {m : MethodId} {args : Array Value} {below : List Frame} {meth : Method} {c : Code} {H : Heap} {locs : List Loc} {cells slots : Nat} {Q : State → Prop} {cc : ByteArray} {pc : Nat} {ls : Array Slot} {rest : List Value} {nL : Nat} {G : CG} {μ : Mm} {a : Nat} {q0 : Int32} {x : Int32} {k : Nat} (l : Launch) (X : Cx p s m args meth c cc nL RX10 G) (hH : HS G s μ H locs) (hRL : RmL R k) (hk : 3 + 1 ≤ k) (h : f_X3_wrap μ a q0 = some x) (hls : ls.size = nL) (hroom : (rest.map fun v => v.category).sum ≤ 8) (hdg : decode cc pc = .ok (.invokevirtual 32, 3)) (hcs : cells + 0 ≤ R.cells ∧ slots + 0 ≤ R.slots) (kk : ∀ (H1 : Heap) (locs1 : List Loc), HS G s μ H1 locs1 → W p l e R s m args below meth c H1 locs1 cells slots Q (F0 m (pc + 3) ls (.int x :: rest))) : W p l e R s m args below meth c H locs cells slots Q (F0 m pc ls (.int q0 :: .ref a :: rest)) := by
  refine kI hH (rV (As := [.int q0]) (rest := rest) X hH (t_X3_wrap h) vc_3 (c_X3_wrap l G μ a q0 x h) (List.forall_mem_cons.mpr ⟨u_805, (List.forall_mem_cons.mpr ⟨u_568, (List.forall_mem_cons.mpr ⟨u_569, (List.forall_mem_cons.mpr ⟨u_62, (fun _ h9 => absurd h9 List.not_mem_nil)⟩)⟩)⟩)⟩) u_570 (rmo hRL (Nat.le_trans (by decide) hk) (by decide)) ddV_X3_wrap rfl hls rfl hroom hdg hcs) kk
theorem t_X10_wayTo {μ : Mm} {a0 : Nat} {p1 : Int32} {x : Int32} (h : f_X10_wayTo μ a0 p1 = some x) : tg μ a0 = 11 := by
  unfold f_X10_wayTo at h
  exact (gsn h).1
set_option maxHeartbeats 4000000 in
set_option maxRecDepth 100000 in
theorem c_X10_wayTo (l : Launch) (G : CG) (μ : Mm) (a0 : Nat) (p1 : Int32) (x : Int32) (h : f_X10_wayTo μ a0 p1 = some x) : Met l yX10_wayTo (.code yX10_wayTo cX10_wayTo 2 (some .int) :: UW) (rmk 4 0 0) (PC G [.ref a0, .int p1] μ) (QI G x μ) 0 0 (fA G) := by
  refine Met.ofW (cc := cX10_wayTo) (maxL := 2) (ret := (some .int)) (by decide) rfl ?_
  intro p e s m args below meth c s₁ B hml hv
  obtain ⟨X, hH, hr, rfl, hnm⟩ := cx_in B hml hv
  have X : Cx p s m _ meth c cX10_wayTo 2 RX10 G := X
  have hx := X.1
  have hb := X.2.1
  have hown := X.2.2.2.1
  have hts := X.2.2.2.2.1
  have hRL : RmL (rmk 4 0 0) 4 := ⟨Nat.le_refl _, Nat.le_refl _⟩
  have hcs : 0 ≤ (rmk 0 0 0).cells ∧ 0 ≤ (rmk 0 0 0).slots := ⟨Nat.zero_le _, Nat.zero_le _⟩
  refine ls_in (Nat.le_of_ble_eq_true rfl) (fun ls hl => ?_)
  have hl : lv_has ls 2 [(0, .ref a0), (1, .int p1)] := hl
  unfold f_X10_wayTo at h
  obtain ⟨htg, h⟩ := gsn h
  refine lv_aload_n hx hb dX10_wayTo_0 rfl (lv_at hl 0 rfl) ?_
  obtain ⟨x1, hx1, h⟩ := bnd h
  refine gf_X10_22 X hH hx1 dX10_wayTo_1 ?_
  refine lv_iload_n hx hb dX10_wayTo_4 rfl (lv_at hl 1 rfl) ?_
  refine lv_aload_n hx hb dX10_wayTo_5 rfl (lv_at hl 0 rfl) ?_
  obtain ⟨x2, hx2, h⟩ := bnd h
  refine gf_X10_22 X hH hx2 dX10_wayTo_6 ?_
  obtain ⟨x3, hx3, h⟩ := bnd h
  refine gf_X10_26 X hH hx3 dX10_wayTo_9 ?_
  refine lv_isub hx hb dX10_wayTo_12 ?_
  obtain ⟨x4, hx4, h⟩ := bnd h
  refine iv_X10_32 l X hH hRL (by decide) hx4 hl.1 (Nat.le_of_ble_eq_true rfl) dX10_wayTo_13 hcs (fun H locs hH => ?_)
  exact eIp X hH h hr dX10_wayTo_16
set_option maxHeartbeats 4000000 in
set_option maxRecDepth 100000 in
theorem w_X10_spread_5 {p : Program} {e : Env} {R : Room} {s : State} {m : MethodId} {args : Array Value} {below : List Frame} {meth : Method} {c : Code} {cells slots : Nat} {Q : State → Prop} {G : CG} (l : Launch) (X : Cx p s m args meth c cX10_spread 6 RX10 G) (hRL : RmL R 4) (hcs : cells ≤ R.cells ∧ slots ≤ R.slots) : ∀ (n : Nat) (v0 : Nat) (v1 : Int32) (v2 : Int32) (v3 : Int32) (v4 : Int32) (μ : Mm) (x : Int32 × Mm), lp_X10_spread_5 n v0 v1 v2 v3 v4 μ = some x → (∀ (H : Heap) (locs : List Loc) (ls : Array Slot), HS G s x.2 H locs → lv_has ls 6 [(3, .int x.1)] → W p l e R s m args below meth c H locs cells slots Q (F0 m 73 ls [])) → ∀ (H : Heap) (locs : List Loc) (ls : Array Slot), HS G s μ H locs → lv_has ls 6 [(0, .ref v0), (1, .int v1), (2, .int v2), (3, .int v3), (4, .int v4)] → W p l e R s m args below meth c H locs cells slots Q (F0 m 5 ls []) := by
  have hx := X.1
  have hb := X.2.1
  have hown := X.2.2.2.1
  have hts := X.2.2.2.2.1
  intro n
  induction n with
  | zero =>
    intro v0 v1 v2 v3 v4 μ x h
    rw [lp_X10_spread_5] at h
    cases h
  | succ n ih =>
    intro v0 v1 v2 v3 v4 μ x h k0 H locs ls hH hl
    rw [lp_X10_spread_5] at h
    refine lv_iload hx hb dX10_spread_5 (lv_at hl 4 rfl) ?_
    refine lv_aload_n hx hb dX10_spread_7 rfl (lv_at hl 0 rfl) ?_
    obtain ⟨x1, hx1, h⟩ := bnd h
    refine gf_X10_22 X hH hx1 dX10_spread_8 ?_
    obtain ⟨x2, hx2, h⟩ := bnd h
    refine gf_X10_56 X hH hx2 dX10_spread_11 ?_
    refine lv_icmp_ge (tgt := 73) hx hb dX10_spread_14 (by decide) (fun hc3 => ?_) (fun hc3 => ?_)
    · replace h := ift h hc3
      cases h
      exact k0 _ _ _ hH (lv_sub hl [3] rfl)
    · replace h := iff' h hc3
      refine lv_aload_n hx hb dX10_spread_17 rfl (lv_at hl 0 rfl) ?_
      obtain ⟨x4, hx4, h⟩ := bnd h
      refine gf_X10_22 X hH hx4 dX10_spread_18 ?_
      refine lv_iload hx hb dX10_spread_21 (lv_at hl 4 rfl) ?_
      refine lv_iload_n hx hb dX10_spread_23 rfl (lv_at hl 1 rfl) ?_
      refine lv_iadd hx hb dX10_spread_24 ?_
      obtain ⟨x5, hx5, h⟩ := bnd h
      refine iv_X10_32 l X hH hRL (by decide) hx5 hl.1 (Nat.le_of_ble_eq_true rfl) dX10_spread_25 hcs (fun H locs hH => ?_)
      refine lv_istore (lv' := [(5, .int x5), (0, .ref v0), (1, .int v1), (2, .int v2), (3, .int v3), (4, .int v4)]) hx hb dX10_spread_28 hl (by decide) rfl (fun ls hl => ?_)
      refine lv_aload_n hx hb dX10_spread_30 rfl (lv_at hl 1 rfl) ?_
      obtain ⟨x6, hx6, h⟩ := bnd h
      refine gf_X10_9 X hH hx6 dX10_spread_31 ?_
      refine lv_iload hx hb dX10_spread_34 (lv_at hl 5 rfl) ?_
      obtain ⟨x7, hx7, h⟩ := bnd h
      refine w_aI X hH hx7 dX10_spread_36 ?_
      refine lv_iload_n hx hb dX10_spread_37 rfl (lv_at hl 3 rfl) ?_
      refine lv_iadd hx hb dX10_spread_38 ?_
      refine lv_aload_n hx hb dX10_spread_39 rfl (lv_at hl 1 rfl) ?_
      obtain ⟨x8, hx8, h⟩ := bnd h
      refine gf_X10_9 X hH hx8 dX10_spread_40 ?_
      refine lv_iload hx hb dX10_spread_43 (lv_at hl 0 rfl) ?_
      obtain ⟨x9, hx9, h⟩ := bnd h
      refine w_aI X hH hx9 dX10_spread_45 ?_
      refine lv_icmp_ge (tgt := 67) hx hb dX10_spread_46 (by decide) (fun hc10 => ?_) (fun hc10 => ?_)
      · replace h := ift h hc10
        refine lv_iinc (v := (v4 + 1)) (lv' := [(4, .int (v4 + 1)), (5, .int x5), (0, .ref v0), (1, .int v1), (2, .int v2), (3, .int v3)]) hx hb dX10_spread_67 hl (k := 5) rfl rfl (by decide) rfl (fun ls hl => ?_)
        refine lv_goto (tgt := 5) hx hb dX10_spread_70 (by decide) ?_
        exact ih _ _ _ _ _ _ _ h k0 _ _ _ hH (lv_sub hl [2, 3, 4, 5, 0] rfl)
      · replace h := iff' h hc10
        refine lv_aload_n hx hb dX10_spread_49 rfl (lv_at hl 1 rfl) ?_
        obtain ⟨x11, hx11, h⟩ := bnd h
        refine gf_X10_9 X hH hx11 dX10_spread_50 ?_
        refine lv_iload hx hb dX10_spread_53 (lv_at hl 0 rfl) ?_
        refine lv_aload_n hx hb dX10_spread_55 rfl (lv_at hl 1 rfl) ?_
        obtain ⟨x12, hx12, h⟩ := bnd h
        refine gf_X10_9 X hH hx12 dX10_spread_56 ?_
        refine lv_iload hx hb dX10_spread_59 (lv_at hl 5 rfl) ?_
        obtain ⟨x13, hx13, h⟩ := bnd h
        refine w_aI X hH hx13 dX10_spread_61 ?_
        refine lv_iload_n hx hb dX10_spread_62 rfl (lv_at hl 3 rfl) ?_
        refine lv_iadd hx hb dX10_spread_63 ?_
        obtain ⟨x14, hx14, h⟩ := bnd h
        refine w_qI X hH hx14 dX10_spread_64 (fun H locs hH => ?_)
        refine lv_iconst (v := 1) hx hb dX10_spread_65 (by decide) ?_
        refine lv_istore_n (lv' := [(3, .int (1 : Int32)), (5, .int x5), (0, .ref v0), (1, .int v1), (2, .int v2), (4, .int v4)]) hx hb dX10_spread_66 rfl hl (by decide) rfl (fun ls hl => ?_)
        refine lv_iinc (v := (v4 + 1)) (lv' := [(4, .int (v4 + 1)), (3, .int (1 : Int32)), (5, .int x5), (0, .ref v0), (1, .int v1), (2, .int v2)]) hx hb dX10_spread_67 hl (k := 5) rfl rfl (by decide) rfl (fun ls hl => ?_)
        refine lv_goto (tgt := 5) hx hb dX10_spread_70 (by decide) ?_
        exact ih _ _ _ _ _ _ _ h k0 _ _ _ hH (lv_sub hl [3, 4, 5, 1, 0] rfl)
theorem t_X10_spread {μ : Mm} {a0 : Nat} {p1 : Int32} {p2 : Int32} {x : Int32 × Mm} (h : f_X10_spread μ a0 p1 p2 = some x) : tg μ a0 = 11 := by
  unfold f_X10_spread at h
  exact (gsn h).1
set_option maxHeartbeats 4000000 in
set_option maxRecDepth 100000 in
theorem c_X10_spread (l : Launch) (G : CG) (μ : Mm) (a0 : Nat) (p1 : Int32) (p2 : Int32) (x : Int32 × Mm) (h : f_X10_spread μ a0 p1 p2 = some x) : Met l yX10_spread (.code yX10_spread cX10_spread 6 (some .boolean) :: UW) (rmk 4 0 0) (PC G [.ref a0, .int p1, .int p2] μ) (QI G x.1 x.2) 0 0 (fA G) := by
  refine Met.ofW (cc := cX10_spread) (maxL := 6) (ret := (some .boolean)) (by decide) rfl ?_
  intro p e s m args below meth c s₁ B hml hv
  obtain ⟨X, hH, hr, rfl, hnm⟩ := cx_in B hml hv
  have X : Cx p s m _ meth c cX10_spread 6 RX10 G := X
  have hx := X.1
  have hb := X.2.1
  have hown := X.2.2.2.1
  have hts := X.2.2.2.2.1
  have hRL : RmL (rmk 4 0 0) 4 := ⟨Nat.le_refl _, Nat.le_refl _⟩
  have hcs : 0 ≤ (rmk 0 0 0).cells ∧ 0 ≤ (rmk 0 0 0).slots := ⟨Nat.zero_le _, Nat.zero_le _⟩
  refine ls_in (Nat.le_of_ble_eq_true rfl) (fun ls hl => ?_)
  have hl : lv_has ls 6 [(0, .ref a0), (1, .int p1), (2, .int p2)] := hl
  unfold f_X10_spread at h
  obtain ⟨htg, h⟩ := gsn h
  refine lv_iconst (v := 0) hx hb dX10_spread_0 (by decide) ?_
  refine lv_istore_n (lv' := [(3, .int (0 : Int32)), (0, .ref a0), (1, .int p1), (2, .int p2)]) hx hb dX10_spread_1 rfl hl (by decide) rfl (fun ls hl => ?_)
  refine lv_iconst (v := 0) hx hb dX10_spread_2 (by decide) ?_
  refine lv_istore (lv' := [(4, .int (0 : Int32)), (3, .int (0 : Int32)), (0, .ref a0), (1, .int p1), (2, .int p2)]) hx hb dX10_spread_3 hl (by decide) rfl (fun ls hl => ?_)
  obtain ⟨x15, hx15, hhx15⟩ := bnd h
  clear h
  refine w_X10_spread_5 l X hRL hcs BIG a0 p1 p2 (0 : Int32) (0 : Int32) μ x15 hx15 (fun H locs ls hH hl => ?_) _ _ _ hH (lv_sub hl [2, 3, 4, 1, 0] rfl)
  · have h := hhx15
    clear hhx15
    refine lv_iload_n hx hb dX10_spread_73 rfl (lv_at hl 0 rfl) ?_
    obtain ⟨_, hzb, h⟩ := bnd h
    exact eZ X hH (gsm hzb).1 h hr dX10_spread_74 (Nat.le_of_ble_eq_true rfl) (Nat.le_of_ble_eq_true rfl)
set_option maxHeartbeats 1000000 in
theorem iv_X10_49 {p : Program} {e : Env} {R : Room} {s : State} {m : MethodId} {args : Array Value} {below : List Frame} {meth : Method} {c : Code} {H : Heap} {locs : List Loc} {cells slots : Nat} {Q : State → Prop} {cc : ByteArray} {pc : Nat} {ls : Array Slot} {rest : List Value} {nL : Nat} {G : CG} {μ : Mm} {a : Nat} {q0 : Int32} {x : Int32} {k : Nat} (l : Launch) (X : Cx p s m args meth c cc nL RX10 G) (hH : HS G s μ H locs) (hRL : RmL R k) (hk : 4 + 1 ≤ k) (h : f_X3_treadNow μ a q0 = some x) (hls : ls.size = nL) (hroom : (rest.map fun v => v.category).sum ≤ 8) (hdg : decode cc pc = .ok (.invokevirtual 49, 3)) (hcs : cells + 0 ≤ R.cells ∧ slots + 0 ≤ R.slots) (kk : ∀ (H1 : Heap) (locs1 : List Loc), HS G s μ H1 locs1 → W p l e R s m args below meth c H1 locs1 cells slots Q (F0 m (pc + 3) ls (.int x :: rest))) : W p l e R s m args below meth c H locs cells slots Q (F0 m pc ls (.int q0 :: .ref a :: rest)) := by
  refine kI hH (rV (As := [.int q0]) (rest := rest) X hH (t_X3_treadNow h) vc_3 (c_X3_treadNow l G μ a q0 x h) (List.forall_mem_cons.mpr ⟨u_800, (List.forall_mem_cons.mpr ⟨u_615, (List.forall_mem_cons.mpr ⟨u_616, (List.forall_mem_cons.mpr ⟨u_62, (fun _ h9 => absurd h9 List.not_mem_nil)⟩)⟩)⟩)⟩) u_617 (rmo hRL (Nat.le_trans (by decide) hk) (by decide)) ddV_X3_treadNow rfl hls rfl hroom hdg hcs) kk
set_option maxHeartbeats 1000000 in
theorem iv_X10_52 {p : Program} {e : Env} {R : Room} {s : State} {m : MethodId} {args : Array Value} {below : List Frame} {meth : Method} {c : Code} {H : Heap} {locs : List Loc} {cells slots : Nat} {Q : State → Prop} {cc : ByteArray} {pc : Nat} {ls : Array Slot} {rest : List Value} {nL : Nat} {G : CG} {μ : Mm} {a : Nat} {q0 : Int32} {q1 : Int32} {x : Int32 × Mm} {k : Nat} (l : Launch) (X : Cx p s m args meth c cc nL RX10 G) (hH : HS G s μ H locs) (hRL : RmL R k) (hk : 4 + 1 ≤ k) (h : f_X10_spread μ a q0 q1 = some x) (hls : ls.size = nL) (hroom : (rest.map fun v => v.category).sum ≤ 8) (hdg : decode cc pc = .ok (.invokevirtual 52, 3)) (hcs : cells + 0 ≤ R.cells ∧ slots + 0 ≤ R.slots) (kk : ∀ (H1 : Heap) (locs1 : List Loc), HS G s x.2 H1 locs1 → W p l e R s m args below meth c H1 locs1 cells slots Q (F0 m (pc + 3) ls (.int x.1 :: rest))) : W p l e R s m args below meth c H locs cells slots Q (F0 m pc ls (.int q1 :: .int q0 :: .ref a :: rest)) := by
  refine kI hH (rV (As := [.int q0, .int q1]) (rest := rest) X hH (t_X10_spread h) vc_10 (c_X10_spread l G μ a q0 q1 x h) (List.forall_mem_cons.mpr ⟨u_801, (List.forall_mem_cons.mpr ⟨u_803, (List.forall_mem_cons.mpr ⟨u_19, (List.forall_mem_cons.mpr ⟨u_68, (fun _ h9 => absurd h9 List.not_mem_nil)⟩)⟩)⟩)⟩) u_804 (rmo hRL (Nat.le_trans (by decide) hk) (by decide)) ddV_X10_spread rfl hls rfl hroom hdg hcs) kk
set_option maxHeartbeats 4000000 in
set_option maxRecDepth 100000 in
theorem w_X10_findCosts_2 {p : Program} {e : Env} {R : Room} {s : State} {m : MethodId} {args : Array Value} {below : List Frame} {meth : Method} {c : Code} {cells slots : Nat} {Q : State → Prop} {G : CG} (l : Launch) (X : Cx p s m args meth c cX10_findCosts 6 RX10 G) (hRL : RmL R 5) (hcs : cells ≤ R.cells ∧ slots ≤ R.slots) : ∀ (n : Nat) (v0 : Nat) (v1 : Int32) (v2 : Int32) (μ : Mm) (x : Mm), lp_X10_findCosts_2 n v0 v1 v2 μ = some x → (∀ (H : Heap) (locs : List Loc) (ls : Array Slot), HS G s x H locs → lv_has ls 6 [(0, .ref v0), (1, .int v1)] → W p l e R s m args below meth c H locs cells slots Q (F0 m 30 ls [])) → ∀ (H : Heap) (locs : List Loc) (ls : Array Slot), HS G s μ H locs → lv_has ls 6 [(0, .ref v0), (1, .int v1), (2, .int v2)] → W p l e R s m args below meth c H locs cells slots Q (F0 m 2 ls []) := by
  have hx := X.1
  have hb := X.2.1
  have hown := X.2.2.2.1
  have hts := X.2.2.2.2.1
  intro n
  induction n with
  | zero =>
    intro v0 v1 v2 μ x h
    rw [lp_X10_findCosts_2] at h
    cases h
  | succ n ih =>
    intro v0 v1 v2 μ x h k0 H locs ls hH hl
    rw [lp_X10_findCosts_2] at h
    refine lv_iload_n hx hb dX10_findCosts_2 rfl (lv_at hl 2 rfl) ?_
    refine lv_bipush (v := 60) hx hb dX10_findCosts_3 (by decide) ?_
    refine lv_icmp_ge (tgt := 30) hx hb dX10_findCosts_5 (by decide) (fun hc1 => ?_) (fun hc1 => ?_)
    · replace h := ift h hc1
      cases h
      exact k0 _ _ _ hH (lv_sub hl [0, 1] rfl)
    · replace h := iff' h hc1
      refine lv_aload_n hx hb dX10_findCosts_8 rfl (lv_at hl 0 rfl) ?_
      obtain ⟨x2, hx2, h⟩ := bnd h
      refine gf_X10_9 X hH hx2 dX10_findCosts_9 ?_
      refine lv_iload_n hx hb dX10_findCosts_12 rfl (lv_at hl 2 rfl) ?_
      refine lv_iload_n hx hb dX10_findCosts_13 rfl (lv_at hl 2 rfl) ?_
      refine lv_if_ne (tgt := 21) hx hb dX10_findCosts_14 (by decide) (fun hc3 => ?_) (fun hc3 => ?_)
      · replace h := iff' h hc3
        refine lv_ldc (v := 1000000) hx hb hown (hts _ u_799) dX10_findCosts_21 ?_
        obtain ⟨x4, hx4, h⟩ := bnd h
        refine w_qI X hH hx4 dX10_findCosts_23 (fun H locs hH => ?_)
        refine lv_iinc (v := (v2 + 1)) (lv' := [(2, .int (v2 + 1)), (0, .ref v0), (1, .int v1)]) hx hb dX10_findCosts_24 hl (k := 2) rfl rfl (by decide) rfl (fun ls hl => ?_)
        refine lv_goto (tgt := 2) hx hb dX10_findCosts_27 (by decide) ?_
        exact ih _ _ _ _ _ h k0 _ _ _ hH (lv_sub hl [1, 2, 0] rfl)
      · replace h := ift h hc3
        refine lv_iconst (v := 0) hx hb dX10_findCosts_17 (by decide) ?_
        refine lv_goto (tgt := 23) hx hb dX10_findCosts_18 (by decide) ?_
        obtain ⟨x5, hx5, h⟩ := bnd h
        refine w_qI X hH hx5 dX10_findCosts_23 (fun H locs hH => ?_)
        refine lv_iinc (v := (v2 + 1)) (lv' := [(2, .int (v2 + 1)), (0, .ref v0), (1, .int v1)]) hx hb dX10_findCosts_24 hl (k := 2) rfl rfl (by decide) rfl (fun ls hl => ?_)
        refine lv_goto (tgt := 2) hx hb dX10_findCosts_27 (by decide) ?_
        exact ih _ _ _ _ _ h k0 _ _ _ hH (lv_sub hl [1, 2, 0] rfl)
set_option maxHeartbeats 4000000 in
set_option maxRecDepth 100000 in
theorem w_X10_findCosts_49 {p : Program} {e : Env} {R : Room} {s : State} {m : MethodId} {args : Array Value} {below : List Frame} {meth : Method} {c : Code} {cells slots : Nat} {Q : State → Prop} {G : CG} (l : Launch) (X : Cx p s m args meth c cX10_findCosts 6 RX10 G) (hRL : RmL R 5) (hcs : cells ≤ R.cells ∧ slots ≤ R.slots) : ∀ (n : Nat) (v0 : Nat) (v1 : Int32) (v2 : Int32) (v3 : Int32) (v4 : Int32) (μ : Mm) (x : Int32 × Mm), lp_X10_findCosts_49 n v0 v1 v2 v3 v4 μ = some x → (∀ (H : Heap) (locs : List Loc) (ls : Array Slot), HS G s x.2 H locs → lv_has ls 6 [(0, .ref v0), (1, .int v1), (2, .int x.1), (3, .int v3)] → W p l e R s m args below meth c H locs cells slots Q (F0 m 108 ls [])) → ∀ (H : Heap) (locs : List Loc) (ls : Array Slot), HS G s μ H locs → lv_has ls 6 [(0, .ref v0), (1, .int v1), (2, .int v2), (3, .int v3), (4, .int v4)] → W p l e R s m args below meth c H locs cells slots Q (F0 m 49 ls []) := by
  have hx := X.1
  have hb := X.2.1
  have hown := X.2.2.2.1
  have hts := X.2.2.2.2.1
  intro n
  induction n with
  | zero =>
    intro v0 v1 v2 v3 v4 μ x h
    rw [lp_X10_findCosts_49] at h
    cases h
  | succ n ih =>
    intro v0 v1 v2 v3 v4 μ x h k0 H locs ls hH hl
    rw [lp_X10_findCosts_49] at h
    refine lv_iload hx hb dX10_findCosts_49 (lv_at hl 4 rfl) ?_
    refine lv_aload_n hx hb dX10_findCosts_51 rfl (lv_at hl 0 rfl) ?_
    obtain ⟨x9, hx9, h⟩ := bnd h
    refine gf_X10_22 X hH hx9 dX10_findCosts_52 ?_
    obtain ⟨x10, hx10, h⟩ := bnd h
    refine gf_X10_37 X hH hx10 dX10_findCosts_55 ?_
    refine lv_icmp_ge (tgt := 108) hx hb dX10_findCosts_58 (by decide) (fun hc11 => ?_) (fun hc11 => ?_)
    · replace h := ift h hc11
      cases h
      exact k0 _ _ _ hH (lv_sub hl [0, 1, 2, 3] rfl)
    · replace h := iff' h hc11
      refine lv_iload_n hx hb dX10_findCosts_61 rfl (lv_at hl 1 rfl) ?_
      obtain ⟨x12, hbx12, hx12⟩ := bnd h
      clear h
      refine jn_lem (G := G) (x := x12) (M := 82) (nL := 6) (fun x12 => μ) (fun x12 => [(0, .ref v0), (1, .int v1), (2, .int v2), (3, .int v3), (4, .int v4)]) (fun x12 => [.int x12]) (fun H locs ls hH hl => ?_) (fun jnx12 => ?_)
      · have h := hx12
        clear hx12 hbx12
        refine lv_istore (lv' := [(5, .int x12), (0, .ref v0), (1, .int v1), (2, .int v2), (3, .int v3), (4, .int v4)]) hx hb dX10_findCosts_82 hl (by decide) rfl (fun ls hl => ?_)
        refine lv_iload_n hx hb dX10_findCosts_84 rfl (lv_at hl 3 rfl) ?_
        refine lv_aload_n hx hb dX10_findCosts_85 rfl (lv_at hl 1 rfl) ?_
        refine lv_aload_n hx hb dX10_findCosts_86 rfl (lv_at hl 1 rfl) ?_
        obtain ⟨x18, hx18, h⟩ := bnd h
        refine gf_X10_22 X hH hx18 dX10_findCosts_87 ?_
        refine lv_iload hx hb dX10_findCosts_90 (lv_at hl 5 rfl) ?_
        obtain ⟨x19, hx19, h⟩ := bnd h
        refine iv_X10_49 l X hH hRL (by decide) hx19 hl.1 (Nat.le_of_ble_eq_true rfl) dX10_findCosts_92 hcs (fun H locs hH => ?_)
        refine lv_iload hx hb dX10_findCosts_95 (lv_at hl 0 rfl) ?_
        obtain ⟨x20, hx20, h⟩ := bnd h
        refine iv_X10_52 l X hH hRL (by decide) hx20 hl.1 (Nat.le_of_ble_eq_true rfl) dX10_findCosts_97 hcs (fun H locs hH => ?_)
        refine lv_ior hx hb dX10_findCosts_100 ?_
        refine lv_istore_n (lv' := [(2, .int (v2 ||| x20.1)), (5, .int x12), (0, .ref v0), (1, .int v1), (3, .int v3), (4, .int v4)]) hx hb dX10_findCosts_101 rfl hl (by decide) rfl (fun ls hl => ?_)
        refine lv_iinc (v := (v4 + 1)) (lv' := [(4, .int (v4 + 1)), (2, .int (v2 ||| x20.1)), (5, .int x12), (0, .ref v0), (1, .int v1), (3, .int v3)]) hx hb dX10_findCosts_102 hl (k := 5) rfl rfl (by decide) rfl (fun ls hl => ?_)
        refine lv_goto (tgt := 49) hx hb dX10_findCosts_105 (by decide) ?_
        exact ih _ _ _ _ _ _ _ h k0 _ _ _ hH (lv_sub hl [3, 4, 1, 5, 0] rfl)
      · have h := hbx12
        clear hx12 hbx12
        refine lv_if_eq (tgt := 81) hx hb dX10_findCosts_62 (by decide) (fun hc13 => ?_) (fun hc13 => ?_)
        · replace h := ift h hc13
          refine lv_iconst (v := 1) hx hb dX10_findCosts_81 (by decide) ?_
          cases h
          exact jnx12 _ _ _ hH (lv_sub hl [0, 1, 2, 3, 4] rfl)
        · replace h := iff' h hc13
          refine lv_aload_n hx hb dX10_findCosts_65 rfl (lv_at hl 0 rfl) ?_
          obtain ⟨x14, hx14, h⟩ := bnd h
          refine gf_X10_22 X hH hx14 dX10_findCosts_66 ?_
          obtain ⟨x15, hx15, h⟩ := bnd h
          refine gf_X10_40 X hH hx15 dX10_findCosts_69 ?_
          refine lv_iload hx hb dX10_findCosts_72 (lv_at hl 4 rfl) ?_
          obtain ⟨x16, hx16, h⟩ := bnd h
          refine w_aP X hH hx16 (by decide) (k := 4) rfl dX10_findCosts_74 ?_
          obtain ⟨x17, hx17, h⟩ := bnd h
          refine gf_X10_44 X hH hx17 dX10_findCosts_75 ?_
          refine lv_goto (tgt := 82) hx hb dX10_findCosts_78 (by decide) ?_
          cases h
          exact jnx12 _ _ _ hH (lv_sub hl [0, 1, 2, 3, 4] rfl)
set_option maxHeartbeats 4000000 in
set_option maxRecDepth 100000 in
theorem w_X10_findCosts_34 {p : Program} {e : Env} {R : Room} {s : State} {m : MethodId} {args : Array Value} {below : List Frame} {meth : Method} {c : Code} {cells slots : Nat} {Q : State → Prop} {G : CG} (l : Launch) (X : Cx p s m args meth c cX10_findCosts 6 RX10 G) (hRL : RmL R 5) (hcs : cells ≤ R.cells ∧ slots ≤ R.slots) : ∀ (n : Nat) (v0 : Nat) (v1 : Int32) (v2 : Int32) (v3 : Int32) (μ : Mm) (x : Mm), lp_X10_findCosts_34 n v0 v1 v2 v3 μ = some x → (∀ (H : Heap) (locs : List Loc) (ls : Array Slot), HS G s x H locs → lv_has ls 6 [] → W p l e R s m args below meth c H locs cells slots Q (F0 m 114 ls [])) → ∀ (H : Heap) (locs : List Loc) (ls : Array Slot), HS G s μ H locs → lv_has ls 6 [(0, .ref v0), (1, .int v1), (2, .int v2), (3, .int v3)] → W p l e R s m args below meth c H locs cells slots Q (F0 m 34 ls []) := by
  have hx := X.1
  have hb := X.2.1
  have hown := X.2.2.2.1
  have hts := X.2.2.2.2.1
  intro n
  induction n with
  | zero =>
    intro v0 v1 v2 v3 μ x h
    rw [lp_X10_findCosts_34] at h
    cases h
  | succ n ih =>
    intro v0 v1 v2 v3 μ x h k0 H locs ls hH hl
    rw [lp_X10_findCosts_34] at h
    refine lv_iload_n hx hb dX10_findCosts_34 rfl (lv_at hl 3 rfl) ?_
    refine lv_bipush (v := 60) hx hb dX10_findCosts_35 (by decide) ?_
    refine lv_icmp_ge (tgt := 114) hx hb dX10_findCosts_37 (by decide) (fun hc7 => ?_) (fun hc7 => ?_)
    · replace h := ift h hc7
      cases h
      exact k0 _ _ _ hH (lv_sub hl [] rfl)
    · replace h := iff' h hc7
      refine lv_iload_n hx hb dX10_findCosts_40 rfl (lv_at hl 2 rfl) ?_
      refine lv_if_eq (tgt := 114) hx hb dX10_findCosts_41 (by decide) (fun hc8 => ?_) (fun hc8 => ?_)
      · replace h := ift h hc8
        cases h
        exact k0 _ _ _ hH (lv_sub hl [] rfl)
      · replace h := iff' h hc8
        refine lv_iconst (v := 0) hx hb dX10_findCosts_44 (by decide) ?_
        refine lv_istore_n (lv' := [(2, .int (0 : Int32)), (0, .ref v0), (1, .int v1), (3, .int v3)]) hx hb dX10_findCosts_45 rfl hl (by decide) rfl (fun ls hl => ?_)
        refine lv_iconst (v := 0) hx hb dX10_findCosts_46 (by decide) ?_
        refine lv_istore (lv' := [(4, .int (0 : Int32)), (2, .int (0 : Int32)), (0, .ref v0), (1, .int v1), (3, .int v3)]) hx hb dX10_findCosts_47 hl (by decide) rfl (fun ls hl => ?_)
        obtain ⟨x21, hx21, hhx21⟩ := bnd h
        clear h
        refine w_X10_findCosts_49 l X hRL hcs BIG v0 v1 (0 : Int32) v3 (0 : Int32) μ x21 hx21 (fun H locs ls hH hl => ?_) _ _ _ hH (lv_sub hl [2, 3, 1, 4, 0] rfl)
        · have h := hhx21
          clear hhx21
          refine lv_iinc (v := (v3 + 1)) (lv' := [(3, .int (v3 + 1)), (0, .ref v0), (1, .int v1), (2, .int x21.1)]) hx hb dX10_findCosts_108 hl (k := 3) rfl rfl (by decide) rfl (fun ls hl => ?_)
          refine lv_goto (tgt := 34) hx hb dX10_findCosts_111 (by decide) ?_
          exact ih _ _ _ _ _ _ h k0 _ _ _ hH (lv_sub hl [1, 2, 3, 0] rfl)
theorem t_X10_findCosts {μ : Mm} {a0 : Nat} {p1 : Int32} {x : Mm} (h : f_X10_findCosts μ a0 p1 = some x) : tg μ a0 = 11 := by
  unfold f_X10_findCosts at h
  exact (gsn h).1
set_option maxHeartbeats 4000000 in
set_option maxRecDepth 100000 in
theorem c_X10_findCosts (l : Launch) (G : CG) (μ : Mm) (a0 : Nat) (p1 : Int32) (x : Mm) (h : f_X10_findCosts μ a0 p1 = some x) : Met l yX10_findCosts (.code yX10_findCosts cX10_findCosts 6 none :: UW) (rmk 5 0 0) (PC G [.ref a0, .int p1] μ) (QV G x) 0 0 (fA G) := by
  refine Met.ofW (cc := cX10_findCosts) (maxL := 6) (ret := none) (by decide) rfl ?_
  intro p e s m args below meth c s₁ B hml hv
  obtain ⟨X, hH, hr, rfl, hnm⟩ := cx_in B hml hv
  have X : Cx p s m _ meth c cX10_findCosts 6 RX10 G := X
  have hx := X.1
  have hb := X.2.1
  have hown := X.2.2.2.1
  have hts := X.2.2.2.2.1
  have hRL : RmL (rmk 5 0 0) 5 := ⟨Nat.le_refl _, Nat.le_refl _⟩
  have hcs : 0 ≤ (rmk 0 0 0).cells ∧ 0 ≤ (rmk 0 0 0).slots := ⟨Nat.zero_le _, Nat.zero_le _⟩
  refine ls_in (Nat.le_of_ble_eq_true rfl) (fun ls hl => ?_)
  have hl : lv_has ls 6 [(0, .ref a0), (1, .int p1)] := hl
  unfold f_X10_findCosts at h
  obtain ⟨htg, h⟩ := gsn h
  refine lv_iconst (v := 0) hx hb dX10_findCosts_0 (by decide) ?_
  refine lv_istore_n (lv' := [(2, .int (0 : Int32)), (0, .ref a0), (1, .int p1)]) hx hb dX10_findCosts_1 rfl hl (by decide) rfl (fun ls hl => ?_)
  obtain ⟨x6, hx6, hhx6⟩ := bnd h
  clear h
  refine w_X10_findCosts_2 l X hRL hcs BIG a0 p1 (0 : Int32) μ x6 hx6 (fun H locs ls hH hl => ?_) _ _ _ hH (lv_sub hl [1, 2, 0] rfl)
  · have h := hhx6
    clear hhx6
    refine lv_iconst (v := 1) hx hb dX10_findCosts_30 (by decide) ?_
    refine lv_istore_n (lv' := [(2, .int (1 : Int32)), (0, .ref a0), (1, .int p1)]) hx hb dX10_findCosts_31 rfl hl (by decide) rfl (fun ls hl => ?_)
    refine lv_iconst (v := 0) hx hb dX10_findCosts_32 (by decide) ?_
    refine lv_istore_n (lv' := [(3, .int (0 : Int32)), (2, .int (1 : Int32)), (0, .ref a0), (1, .int p1)]) hx hb dX10_findCosts_33 rfl hl (by decide) rfl (fun ls hl => ?_)
    obtain ⟨x22, hx22, hhx22⟩ := bnd h
    clear h
    refine w_X10_findCosts_34 l X hRL hcs BIG a0 p1 (1 : Int32) (0 : Int32) x6 x22 hx22 (fun H locs ls hH hl => ?_) _ _ _ hH (lv_sub hl [2, 3, 1, 0] rfl)
    · have h := hhx22
      clear hhx22
      exact eV X hH h hr dX10_findCosts_114 (Nat.le_of_ble_eq_true rfl) (Nat.le_of_ble_eq_true rfl)
set_option maxHeartbeats 1000000 in
theorem iv_X10_59 {p : Program} {e : Env} {R : Room} {s : State} {m : MethodId} {args : Array Value} {below : List Frame} {meth : Method} {c : Code} {H : Heap} {locs : List Loc} {cells slots : Nat} {Q : State → Prop} {cc : ByteArray} {pc : Nat} {ls : Array Slot} {rest : List Value} {nL : Nat} {G : CG} {μ : Mm} {a : Nat} {q0 : Int32} {x : Int32} {k : Nat} (l : Launch) (X : Cx p s m args meth c cc nL RX10 G) (hH : HS G s μ H locs) (hRL : RmL R k) (hk : 4 + 1 ≤ k) (h : f_X10_wayTo μ a q0 = some x) (hls : ls.size = nL) (hroom : (rest.map fun v => v.category).sum ≤ 8) (hdg : decode cc pc = .ok (.invokevirtual 59, 3)) (hcs : cells + 0 ≤ R.cells ∧ slots + 0 ≤ R.slots) (kk : ∀ (H1 : Heap) (locs1 : List Loc), HS G s μ H1 locs1 → W p l e R s m args below meth c H1 locs1 cells slots Q (F0 m (pc + 3) ls (.int x :: rest))) : W p l e R s m args below meth c H locs cells slots Q (F0 m pc ls (.int q0 :: .ref a :: rest)) := by
  refine kI hH (rV (As := [.int q0]) (rest := rest) X hH (t_X10_wayTo h) vc_10 (c_X10_wayTo l G μ a q0 x h) (List.forall_mem_cons.mpr ⟨u_810, (List.forall_mem_cons.mpr ⟨u_812, (List.forall_mem_cons.mpr ⟨u_20, (List.forall_mem_cons.mpr ⟨u_68, (fun _ h9 => absurd h9 List.not_mem_nil)⟩)⟩)⟩)⟩) u_813 (rmo hRL (Nat.le_trans (by decide) hk) (by decide)) ddV_X10_wayTo rfl hls rfl hroom hdg hcs) kk
theorem t_X10_costTo {μ : Mm} {a0 : Nat} {p1 : Int32} {x : Int32} (h : f_X10_costTo μ a0 p1 = some x) : tg μ a0 = 11 := by
  unfold f_X10_costTo at h
  exact (gsn h).1
set_option maxHeartbeats 4000000 in
set_option maxRecDepth 100000 in
theorem c_X10_costTo (l : Launch) (G : CG) (μ : Mm) (a0 : Nat) (p1 : Int32) (x : Int32) (h : f_X10_costTo μ a0 p1 = some x) : Met l yX10_costTo (.code yX10_costTo cX10_costTo 3 (some .int) :: UW) (rmk 5 0 0) (PC G [.ref a0, .int p1] μ) (QI G x μ) 0 0 (fA G) := by
  refine Met.ofW (cc := cX10_costTo) (maxL := 3) (ret := (some .int)) (by decide) rfl ?_
  intro p e s m args below meth c s₁ B hml hv
  obtain ⟨X, hH, hr, rfl, hnm⟩ := cx_in B hml hv
  have X : Cx p s m _ meth c cX10_costTo 3 RX10 G := X
  have hx := X.1
  have hb := X.2.1
  have hown := X.2.2.2.1
  have hts := X.2.2.2.2.1
  have hRL : RmL (rmk 5 0 0) 5 := ⟨Nat.le_refl _, Nat.le_refl _⟩
  have hcs : 0 ≤ (rmk 0 0 0).cells ∧ 0 ≤ (rmk 0 0 0).slots := ⟨Nat.zero_le _, Nat.zero_le _⟩
  refine ls_in (Nat.le_of_ble_eq_true rfl) (fun ls hl => ?_)
  have hl : lv_has ls 3 [(0, .ref a0), (1, .int p1)] := hl
  unfold f_X10_costTo at h
  obtain ⟨htg, h⟩ := gsn h
  refine lv_aload_n hx hb dX10_costTo_0 rfl (lv_at hl 0 rfl) ?_
  obtain ⟨x1, hx1, h⟩ := bnd h
  refine gf_X10_9 X hH hx1 dX10_costTo_1 ?_
  refine lv_aload_n hx hb dX10_costTo_4 rfl (lv_at hl 0 rfl) ?_
  refine lv_iload_n hx hb dX10_costTo_5 rfl (lv_at hl 1 rfl) ?_
  obtain ⟨x2, hx2, h⟩ := bnd h
  refine iv_X10_59 l X hH hRL (by decide) hx2 hl.1 (Nat.le_of_ble_eq_true rfl) dX10_costTo_6 hcs (fun H locs hH => ?_)
  obtain ⟨x3, hx3, h⟩ := bnd h
  refine w_aI X hH hx3 dX10_costTo_9 ?_
  refine lv_istore_n (lv' := [(2, .int x3), (0, .ref a0), (1, .int p1)]) hx hb dX10_costTo_10 rfl hl (by decide) rfl (fun ls hl => ?_)
  refine lv_iload_n hx hb dX10_costTo_11 rfl (lv_at hl 0 rfl) ?_
  refine lv_ldc (v := 1000000) hx hb hown (hts _ u_799) dX10_costTo_12 ?_
  refine lv_icmp_lt (tgt := 22) hx hb dX10_costTo_14 (by decide) (fun hc4 => ?_) (fun hc4 => ?_)
  · replace h := ift h hc4
    refine lv_iload_n hx hb dX10_costTo_22 rfl (lv_at hl 0 rfl) ?_
    exact eIp X hH h hr dX10_costTo_23
  · replace h := iff' h hc4
    refine lv_bipush (v := -9) hx hb dX10_costTo_17 (by decide) ?_
    refine lv_goto (tgt := 23) hx hb dX10_costTo_19 (by decide) ?_
    exact eIp X hH h hr dX10_costTo_23
set_option maxHeartbeats 4000000 in
set_option maxRecDepth 100000 in
theorem w_X10_firstWalker_13 {p : Program} {e : Env} {R : Room} {s : State} {m : MethodId} {args : Array Value} {below : List Frame} {meth : Method} {c : Code} {cells slots : Nat} {Q : State → Prop} {G : CG} (l : Launch) (X : Cx p s m args meth c cX10_firstWalker 4 RX10 G) (hRL : RmL R 5) (hcs : cells ≤ R.cells ∧ slots ≤ R.slots) : ∀ (n : Nat) (v0 : Nat) (v1 : Int32) (v2 : Int32) (v3 : Int32) (μ : Mm) (x : Nat × Int32), lp_X10_firstWalker_13 n v0 v1 v2 v3 μ = some x → (∀ (H : Heap) (locs : List Loc) (ls : Array Slot), x.1 = 0 → HS G s μ H locs → lv_has ls 4 [(3, .int x.2)] → W p l e R s m args below meth c H locs cells slots Q (F0 m 49 ls [])) → (∀ (H : Heap) (locs : List Loc) (ls : Array Slot), x.1 = 1 → HS G s μ H locs → lv_has ls 4 [] → W p l e R s m args below meth c H locs cells slots Q (F0 m 57 ls [])) → ∀ (H : Heap) (locs : List Loc) (ls : Array Slot), HS G s μ H locs → lv_has ls 4 [(0, .ref v0), (1, .int v1), (2, .int v2), (3, .int v3)] → W p l e R s m args below meth c H locs cells slots Q (F0 m 13 ls []) := by
  have hx := X.1
  have hb := X.2.1
  have hown := X.2.2.2.1
  have hts := X.2.2.2.2.1
  intro n
  induction n with
  | zero =>
    intro v0 v1 v2 v3 μ x h
    rw [lp_X10_firstWalker_13] at h
    cases h
  | succ n ih =>
    intro v0 v1 v2 v3 μ x h k0 k1 H locs ls hH hl
    rw [lp_X10_firstWalker_13] at h
    refine lv_iload_n hx hb dX10_firstWalker_13 rfl (lv_at hl 3 rfl) ?_
    refine lv_aload_n hx hb dX10_firstWalker_14 rfl (lv_at hl 0 rfl) ?_
    obtain ⟨x4, hx4, h⟩ := bnd h
    refine gf_X10_22 X hH hx4 dX10_firstWalker_15 ?_
    obtain ⟨x5, hx5, h⟩ := bnd h
    refine gf_X10_37 X hH hx5 dX10_firstWalker_18 ?_
    refine lv_icmp_ge (tgt := 57) hx hb dX10_firstWalker_21 (by decide) (fun hc6 => ?_) (fun hc6 => ?_)
    · replace h := ift h hc6
      cases h
      exact k1 _ _ _ rfl hH (lv_sub hl [] rfl)
    · replace h := iff' h hc6
      refine lv_aload_n hx hb dX10_firstWalker_24 rfl (lv_at hl 0 rfl) ?_
      obtain ⟨x7, hx7, h⟩ := bnd h
      refine gf_X10_9 X hH hx7 dX10_firstWalker_25 ?_
      refine lv_aload_n hx hb dX10_firstWalker_28 rfl (lv_at hl 0 rfl) ?_
      refine lv_iload_n hx hb dX10_firstWalker_29 rfl (lv_at hl 1 rfl) ?_
      refine lv_aload_n hx hb dX10_firstWalker_30 rfl (lv_at hl 0 rfl) ?_
      obtain ⟨x8, hx8, h⟩ := bnd h
      refine gf_X10_22 X hH hx8 dX10_firstWalker_31 ?_
      refine lv_iload_n hx hb dX10_firstWalker_34 rfl (lv_at hl 3 rfl) ?_
      obtain ⟨x9, hx9, h⟩ := bnd h
      refine iv_X10_49 l X hH hRL (by decide) hx9 hl.1 (Nat.le_of_ble_eq_true rfl) dX10_firstWalker_35 hcs (fun H locs hH => ?_)
      refine lv_isub hx hb dX10_firstWalker_38 ?_
      obtain ⟨x10, hx10, h⟩ := bnd h
      refine iv_X10_59 l X hH hRL (by decide) hx10 hl.1 (Nat.le_of_ble_eq_true rfl) dX10_firstWalker_39 hcs (fun H locs hH => ?_)
      obtain ⟨x11, hx11, h⟩ := bnd h
      refine w_aI X hH hx11 dX10_firstWalker_42 ?_
      refine lv_iload_n hx hb dX10_firstWalker_43 rfl (lv_at hl 2 rfl) ?_
      refine lv_iconst (v := 1) hx hb dX10_firstWalker_44 (by decide) ?_
      refine lv_isub hx hb dX10_firstWalker_45 ?_
      refine lv_icmp_ne (tgt := 51) hx hb dX10_firstWalker_46 (by decide) (fun hc12 => ?_) (fun hc12 => ?_)
      · replace h := iff' h hc12
        refine lv_iinc (v := (v3 + 1)) (lv' := [(3, .int (v3 + 1)), (0, .ref v0), (1, .int v1), (2, .int v2)]) hx hb dX10_firstWalker_51 hl (k := 3) rfl rfl (by decide) rfl (fun ls hl => ?_)
        refine lv_goto (tgt := 13) hx hb dX10_firstWalker_54 (by decide) ?_
        exact ih _ _ _ _ _ _ h k0 k1 _ _ _ hH (lv_sub hl [1, 2, 3, 0] rfl)
      · replace h := ift h hc12
        cases h
        exact k0 _ _ _ rfl hH (lv_sub hl [3] rfl)
theorem t_X10_firstWalker {μ : Mm} {a0 : Nat} {p1 : Int32} {x : Int32} (h : f_X10_firstWalker μ a0 p1 = some x) : tg μ a0 = 11 := by
  unfold f_X10_firstWalker at h
  exact (gsn h).1
set_option maxHeartbeats 4000000 in
set_option maxRecDepth 100000 in
theorem c_X10_firstWalker (l : Launch) (G : CG) (μ : Mm) (a0 : Nat) (p1 : Int32) (x : Int32) (h : f_X10_firstWalker μ a0 p1 = some x) : Met l yX10_firstWalker (.code yX10_firstWalker cX10_firstWalker 4 (some .int) :: UW) (rmk 5 0 0) (PC G [.ref a0, .int p1] μ) (QI G x μ) 0 0 (fA G) := by
  refine Met.ofW (cc := cX10_firstWalker) (maxL := 4) (ret := (some .int)) (by decide) rfl ?_
  intro p e s m args below meth c s₁ B hml hv
  obtain ⟨X, hH, hr, rfl, hnm⟩ := cx_in B hml hv
  have X : Cx p s m _ meth c cX10_firstWalker 4 RX10 G := X
  have hx := X.1
  have hb := X.2.1
  have hown := X.2.2.2.1
  have hts := X.2.2.2.2.1
  have hRL : RmL (rmk 5 0 0) 5 := ⟨Nat.le_refl _, Nat.le_refl _⟩
  have hcs : 0 ≤ (rmk 0 0 0).cells ∧ 0 ≤ (rmk 0 0 0).slots := ⟨Nat.zero_le _, Nat.zero_le _⟩
  refine ls_in (Nat.le_of_ble_eq_true rfl) (fun ls hl => ?_)
  have hl : lv_has ls 4 [(0, .ref a0), (1, .int p1)] := hl
  unfold f_X10_firstWalker at h
  obtain ⟨htg, h⟩ := gsn h
  refine lv_aload_n hx hb dX10_firstWalker_0 rfl (lv_at hl 0 rfl) ?_
  obtain ⟨x1, hx1, h⟩ := bnd h
  refine gf_X10_9 X hH hx1 dX10_firstWalker_1 ?_
  refine lv_aload_n hx hb dX10_firstWalker_4 rfl (lv_at hl 0 rfl) ?_
  refine lv_iload_n hx hb dX10_firstWalker_5 rfl (lv_at hl 1 rfl) ?_
  obtain ⟨x2, hx2, h⟩ := bnd h
  refine iv_X10_59 l X hH hRL (by decide) hx2 hl.1 (Nat.le_of_ble_eq_true rfl) dX10_firstWalker_6 hcs (fun H locs hH => ?_)
  obtain ⟨x3, hx3, h⟩ := bnd h
  refine w_aI X hH hx3 dX10_firstWalker_9 ?_
  refine lv_istore_n (lv' := [(2, .int x3), (0, .ref a0), (1, .int p1)]) hx hb dX10_firstWalker_10 rfl hl (by decide) rfl (fun ls hl => ?_)
  refine lv_iconst (v := 0) hx hb dX10_firstWalker_11 (by decide) ?_
  refine lv_istore_n (lv' := [(3, .int (0 : Int32)), (2, .int x3), (0, .ref a0), (1, .int p1)]) hx hb dX10_firstWalker_12 rfl hl (by decide) rfl (fun ls hl => ?_)
  obtain ⟨x13, hx13, hhx13⟩ := bnd h
  clear h
  refine w_X10_firstWalker_13 l X hRL hcs BIG a0 p1 x3 (0 : Int32) μ x13 hx13 (fun H locs ls hj hH hl => ?_) (fun H locs ls hj hH hl => ?_) _ _ _ hH (lv_sub hl [2, 3, 1, 0] rfl)
  · have h := hhx13
    clear hhx13
    replace h := ift h hj
    refine lv_iload_n hx hb dX10_firstWalker_49 rfl (lv_at hl 0 rfl) ?_
    exact eIp X hH h hr dX10_firstWalker_50
  · have h := hhx13
    clear hhx13
    replace h := iff' h (by rw [hj]; decide)
    refine lv_bipush (v := -9) hx hb dX10_firstWalker_57 (by decide) ?_
    exact eIp X hH h hr dX10_firstWalker_59
set_option maxHeartbeats 4000000 in
set_option maxRecDepth 100000 in
theorem w_X10_countOneMore_2 {p : Program} {e : Env} {R : Room} {s : State} {m : MethodId} {args : Array Value} {below : List Frame} {meth : Method} {c : Code} {cells slots : Nat} {Q : State → Prop} {G : CG} (l : Launch) (X : Cx p s m args meth c cX10_countOneMore 4 RX10 G) (hRL : RmL R 5) (hcs : cells ≤ R.cells ∧ slots ≤ R.slots) : ∀ (n : Nat) (v0 : Nat) (v1 : Int32) (μ : Mm) (x : Mm), lp_X10_countOneMore_2 n v0 v1 μ = some x → (∀ (H : Heap) (locs : List Loc) (ls : Array Slot), HS G s x H locs → lv_has ls 4 [(0, .ref v0)] → W p l e R s m args below meth c H locs cells slots Q (F0 m 33 ls [])) → ∀ (H : Heap) (locs : List Loc) (ls : Array Slot), HS G s μ H locs → lv_has ls 4 [(0, .ref v0), (1, .int v1)] → W p l e R s m args below meth c H locs cells slots Q (F0 m 2 ls []) := by
  have hx := X.1
  have hb := X.2.1
  have hown := X.2.2.2.1
  have hts := X.2.2.2.2.1
  intro n
  induction n with
  | zero =>
    intro v0 v1 μ x h
    rw [lp_X10_countOneMore_2] at h
    cases h
  | succ n ih =>
    intro v0 v1 μ x h k0 H locs ls hH hl
    rw [lp_X10_countOneMore_2] at h
    refine lv_iload_n hx hb dX10_countOneMore_2 rfl (lv_at hl 1 rfl) ?_
    refine lv_bipush (v := 60) hx hb dX10_countOneMore_3 (by decide) ?_
    refine lv_icmp_ge (tgt := 33) hx hb dX10_countOneMore_5 (by decide) (fun hc1 => ?_) (fun hc1 => ?_)
    · replace h := ift h hc1
      cases h
      exact k0 _ _ _ hH (lv_sub hl [0] rfl)
    · replace h := iff' h hc1
      refine lv_aload_n hx hb dX10_countOneMore_8 rfl (lv_at hl 0 rfl) ?_
      obtain ⟨x2, hx2, h⟩ := bnd h
      refine gf_X10_19 X hH hx2 dX10_countOneMore_9 ?_
      refine lv_iload_n hx hb dX10_countOneMore_12 rfl (lv_at hl 1 rfl) ?_
      refine lv_aload_n hx hb dX10_countOneMore_13 rfl (lv_at hl 0 rfl) ?_
      obtain ⟨x3, hx3, h⟩ := bnd h
      refine gf_X10_15 X hH hx3 dX10_countOneMore_14 ?_
      refine lv_iload_n hx hb dX10_countOneMore_17 rfl (lv_at hl 1 rfl) ?_
      obtain ⟨x4, hx4, h⟩ := bnd h
      refine w_aL X hH hx4 dX10_countOneMore_18 ?_
      obtain ⟨x5, hx5, h⟩ := bnd h
      refine w_qL X hH hx5 dX10_countOneMore_19 (fun H locs hH => ?_)
      refine lv_aload_n hx hb dX10_countOneMore_20 rfl (lv_at hl 0 rfl) ?_
      obtain ⟨x6, hx6, h⟩ := bnd h
      refine gf_X10_15 X hH hx6 dX10_countOneMore_21 ?_
      refine lv_iload_n hx hb dX10_countOneMore_24 rfl (lv_at hl 1 rfl) ?_
      refine lv_lconst (v := 0) hx hb dX10_countOneMore_25 (by decide) ?_
      obtain ⟨x7, hx7, h⟩ := bnd h
      refine w_qL X hH hx7 dX10_countOneMore_26 (fun H locs hH => ?_)
      refine lv_iinc (v := (v1 + 1)) (lv' := [(1, .int (v1 + 1)), (0, .ref v0)]) hx hb dX10_countOneMore_27 hl (k := 1) rfl rfl (by decide) rfl (fun ls hl => ?_)
      refine lv_goto (tgt := 2) hx hb dX10_countOneMore_30 (by decide) ?_
      exact ih _ _ _ _ h k0 _ _ _ hH (lv_sub hl [1, 0] rfl)
set_option maxHeartbeats 4000000 in
set_option maxRecDepth 100000 in
theorem w_X10_countOneMore_57 {p : Program} {e : Env} {R : Room} {s : State} {m : MethodId} {args : Array Value} {below : List Frame} {meth : Method} {c : Code} {cells slots : Nat} {Q : State → Prop} {G : CG} (l : Launch) (X : Cx p s m args meth c cX10_countOneMore 4 RX10 G) (hRL : RmL R 5) (hcs : cells ≤ R.cells ∧ slots ≤ R.slots) : ∀ (n : Nat) (v0 : Nat) (v1 : Int32) (v2 : Int32) (v3 : Int32) (μ : Mm) (x : Mm), lp_X10_countOneMore_57 n v0 v1 v2 v3 μ = some x → (∀ (H : Heap) (locs : List Loc) (ls : Array Slot), HS G s x H locs → lv_has ls 4 [(0, .ref v0), (1, .int v1)] → W p l e R s m args below meth c H locs cells slots Q (F0 m 98 ls [])) → ∀ (H : Heap) (locs : List Loc) (ls : Array Slot), HS G s μ H locs → lv_has ls 4 [(0, .ref v0), (1, .int v1), (2, .int v2), (3, .int v3)] → W p l e R s m args below meth c H locs cells slots Q (F0 m 57 ls []) := by
  have hx := X.1
  have hb := X.2.1
  have hown := X.2.2.2.1
  have hts := X.2.2.2.2.1
  intro n
  induction n with
  | zero =>
    intro v0 v1 v2 v3 μ x h
    rw [lp_X10_countOneMore_57] at h
    cases h
  | succ n ih =>
    intro v0 v1 v2 v3 μ x h k0 H locs ls hH hl
    rw [lp_X10_countOneMore_57] at h
    refine lv_iload_n hx hb dX10_countOneMore_57 rfl (lv_at hl 3 rfl) ?_
    refine lv_aload_n hx hb dX10_countOneMore_58 rfl (lv_at hl 0 rfl) ?_
    obtain ⟨x14, hx14, h⟩ := bnd h
    refine gf_X10_22 X hH hx14 dX10_countOneMore_59 ?_
    obtain ⟨x15, hx15, h⟩ := bnd h
    refine gf_X10_56 X hH hx15 dX10_countOneMore_62 ?_
    refine lv_icmp_ge (tgt := 98) hx hb dX10_countOneMore_65 (by decide) (fun hc16 => ?_) (fun hc16 => ?_)
    · replace h := ift h hc16
      cases h
      exact k0 _ _ _ hH (lv_sub hl [0, 1] rfl)
    · replace h := iff' h hc16
      refine lv_aload_n hx hb dX10_countOneMore_68 rfl (lv_at hl 0 rfl) ?_
      obtain ⟨x17, hx17, h⟩ := bnd h
      refine gf_X10_15 X hH hx17 dX10_countOneMore_69 ?_
      refine lv_aload_n hx hb dX10_countOneMore_72 rfl (lv_at hl 0 rfl) ?_
      obtain ⟨x18, hx18, h⟩ := bnd h
      refine gf_X10_22 X hH hx18 dX10_countOneMore_73 ?_
      refine lv_iload_n hx hb dX10_countOneMore_76 rfl (lv_at hl 3 rfl) ?_
      refine lv_iload_n hx hb dX10_countOneMore_77 rfl (lv_at hl 2 rfl) ?_
      refine lv_iadd hx hb dX10_countOneMore_78 ?_
      obtain ⟨x19, hx19, h⟩ := bnd h
      refine iv_X10_32 l X hH hRL (by decide) hx19 hl.1 (Nat.le_of_ble_eq_true rfl) dX10_countOneMore_79 hcs (fun H locs hH => ?_)
      refine lv_dup2_11 hx hb dX10_countOneMore_82 rfl rfl ?_
      obtain ⟨x20, hx20, h⟩ := bnd h
      refine w_aL X hH hx20 dX10_countOneMore_83 ?_
      refine lv_aload_n hx hb dX10_countOneMore_84 rfl (lv_at hl 0 rfl) ?_
      obtain ⟨x21, hx21, h⟩ := bnd h
      refine gf_X10_19 X hH hx21 dX10_countOneMore_85 ?_
      refine lv_iload_n hx hb dX10_countOneMore_88 rfl (lv_at hl 3 rfl) ?_
      obtain ⟨x22, hx22, h⟩ := bnd h
      refine w_aL X hH hx22 dX10_countOneMore_89 ?_
      refine lv_ladd hx hb dX10_countOneMore_90 ?_
      obtain ⟨x23, hx23, h⟩ := bnd h
      refine w_qL X hH hx23 dX10_countOneMore_91 (fun H locs hH => ?_)
      refine lv_iinc (v := (v3 + 1)) (lv' := [(3, .int (v3 + 1)), (0, .ref v0), (1, .int v1), (2, .int v2)]) hx hb dX10_countOneMore_92 hl (k := 3) rfl rfl (by decide) rfl (fun ls hl => ?_)
      refine lv_goto (tgt := 57) hx hb dX10_countOneMore_95 (by decide) ?_
      exact ih _ _ _ _ _ _ h k0 _ _ _ hH (lv_sub hl [1, 2, 3, 0] rfl)
set_option maxHeartbeats 4000000 in
set_option maxRecDepth 100000 in
theorem w_X10_countOneMore_35 {p : Program} {e : Env} {R : Room} {s : State} {m : MethodId} {args : Array Value} {below : List Frame} {meth : Method} {c : Code} {cells slots : Nat} {Q : State → Prop} {G : CG} (l : Launch) (X : Cx p s m args meth c cX10_countOneMore 4 RX10 G) (hRL : RmL R 5) (hcs : cells ≤ R.cells ∧ slots ≤ R.slots) : ∀ (n : Nat) (v0 : Nat) (v1 : Int32) (μ : Mm) (x : Mm), lp_X10_countOneMore_35 n v0 v1 μ = some x → (∀ (H : Heap) (locs : List Loc) (ls : Array Slot), HS G s x H locs → lv_has ls 4 [] → W p l e R s m args below meth c H locs cells slots Q (F0 m 104 ls [])) → ∀ (H : Heap) (locs : List Loc) (ls : Array Slot), HS G s μ H locs → lv_has ls 4 [(0, .ref v0), (1, .int v1)] → W p l e R s m args below meth c H locs cells slots Q (F0 m 35 ls []) := by
  have hx := X.1
  have hb := X.2.1
  have hown := X.2.2.2.1
  have hts := X.2.2.2.2.1
  intro n
  induction n with
  | zero =>
    intro v0 v1 μ x h
    rw [lp_X10_countOneMore_35] at h
    cases h
  | succ n ih =>
    intro v0 v1 μ x h k0 H locs ls hH hl
    rw [lp_X10_countOneMore_35] at h
    refine lv_iload_n hx hb dX10_countOneMore_35 rfl (lv_at hl 1 rfl) ?_
    refine lv_aload_n hx hb dX10_countOneMore_36 rfl (lv_at hl 0 rfl) ?_
    obtain ⟨x9, hx9, h⟩ := bnd h
    refine gf_X10_22 X hH hx9 dX10_countOneMore_37 ?_
    obtain ⟨x10, hx10, h⟩ := bnd h
    refine gf_X10_37 X hH hx10 dX10_countOneMore_40 ?_
    refine lv_icmp_ge (tgt := 104) hx hb dX10_countOneMore_43 (by decide) (fun hc11 => ?_) (fun hc11 => ?_)
    · replace h := ift h hc11
      cases h
      exact k0 _ _ _ hH (lv_sub hl [] rfl)
    · replace h := iff' h hc11
      refine lv_aload_n hx hb dX10_countOneMore_46 rfl (lv_at hl 0 rfl) ?_
      obtain ⟨x12, hx12, h⟩ := bnd h
      refine gf_X10_22 X hH hx12 dX10_countOneMore_47 ?_
      refine lv_iload_n hx hb dX10_countOneMore_50 rfl (lv_at hl 1 rfl) ?_
      obtain ⟨x13, hx13, h⟩ := bnd h
      refine iv_X10_49 l X hH hRL (by decide) hx13 hl.1 (Nat.le_of_ble_eq_true rfl) dX10_countOneMore_51 hcs (fun H locs hH => ?_)
      refine lv_istore_n (lv' := [(2, .int x13), (0, .ref v0), (1, .int v1)]) hx hb dX10_countOneMore_54 rfl hl (by decide) rfl (fun ls hl => ?_)
      refine lv_iconst (v := 0) hx hb dX10_countOneMore_55 (by decide) ?_
      refine lv_istore_n (lv' := [(3, .int (0 : Int32)), (2, .int x13), (0, .ref v0), (1, .int v1)]) hx hb dX10_countOneMore_56 rfl hl (by decide) rfl (fun ls hl => ?_)
      obtain ⟨x24, hx24, hhx24⟩ := bnd h
      clear h
      refine w_X10_countOneMore_57 l X hRL hcs BIG v0 v1 x13 (0 : Int32) μ x24 hx24 (fun H locs ls hH hl => ?_) _ _ _ hH (lv_sub hl [2, 3, 1, 0] rfl)
      · have h := hhx24
        clear hhx24
        refine lv_iinc (v := (v1 + 1)) (lv' := [(1, .int (v1 + 1)), (0, .ref v0)]) hx hb dX10_countOneMore_98 hl (k := 1) rfl rfl (by decide) rfl (fun ls hl => ?_)
        refine lv_goto (tgt := 35) hx hb dX10_countOneMore_101 (by decide) ?_
        exact ih _ _ _ _ h k0 _ _ _ hH (lv_sub hl [1, 0] rfl)
theorem t_X10_countOneMore {μ : Mm} {a0 : Nat} {x : Mm} (h : f_X10_countOneMore μ a0 = some x) : tg μ a0 = 11 := by
  unfold f_X10_countOneMore at h
  exact (gsn h).1
set_option maxHeartbeats 4000000 in
set_option maxRecDepth 100000 in
theorem c_X10_countOneMore (l : Launch) (G : CG) (μ : Mm) (a0 : Nat) (x : Mm) (h : f_X10_countOneMore μ a0 = some x) : Met l yX10_countOneMore (.code yX10_countOneMore cX10_countOneMore 4 none :: UW) (rmk 5 0 0) (PC G [.ref a0] μ) (QV G x) 0 0 (fA G) := by
  refine Met.ofW (cc := cX10_countOneMore) (maxL := 4) (ret := none) (by decide) rfl ?_
  intro p e s m args below meth c s₁ B hml hv
  obtain ⟨X, hH, hr, rfl, hnm⟩ := cx_in B hml hv
  have X : Cx p s m _ meth c cX10_countOneMore 4 RX10 G := X
  have hx := X.1
  have hb := X.2.1
  have hown := X.2.2.2.1
  have hts := X.2.2.2.2.1
  have hRL : RmL (rmk 5 0 0) 5 := ⟨Nat.le_refl _, Nat.le_refl _⟩
  have hcs : 0 ≤ (rmk 0 0 0).cells ∧ 0 ≤ (rmk 0 0 0).slots := ⟨Nat.zero_le _, Nat.zero_le _⟩
  refine ls_in (Nat.le_of_ble_eq_true rfl) (fun ls hl => ?_)
  have hl : lv_has ls 4 [(0, .ref a0)] := hl
  unfold f_X10_countOneMore at h
  obtain ⟨htg, h⟩ := gsn h
  refine lv_iconst (v := 0) hx hb dX10_countOneMore_0 (by decide) ?_
  refine lv_istore_n (lv' := [(1, .int (0 : Int32)), (0, .ref a0)]) hx hb dX10_countOneMore_1 rfl hl (by decide) rfl (fun ls hl => ?_)
  obtain ⟨x8, hx8, hhx8⟩ := bnd h
  clear h
  refine w_X10_countOneMore_2 l X hRL hcs BIG a0 (0 : Int32) μ x8 hx8 (fun H locs ls hH hl => ?_) _ _ _ hH (lv_sub hl [1, 0] rfl)
  · have h := hhx8
    clear hhx8
    refine lv_iconst (v := 0) hx hb dX10_countOneMore_33 (by decide) ?_
    refine lv_istore_n (lv' := [(1, .int (0 : Int32)), (0, .ref a0)]) hx hb dX10_countOneMore_34 rfl hl (by decide) rfl (fun ls hl => ?_)
    obtain ⟨x25, hx25, hhx25⟩ := bnd h
    clear h
    refine w_X10_countOneMore_35 l X hRL hcs BIG a0 (0 : Int32) x8 x25 hx25 (fun H locs ls hH hl => ?_) _ _ _ hH (lv_sub hl [1, 0] rfl)
    · have h := hhx25
      clear hhx25
      exact eV X hH h hr dX10_countOneMore_104 (Nat.le_of_ble_eq_true rfl) (Nat.le_of_ble_eq_true rfl)
set_option maxHeartbeats 1000000 in
theorem iv_X10_62 {p : Program} {e : Env} {R : Room} {s : State} {m : MethodId} {args : Array Value} {below : List Frame} {meth : Method} {c : Code} {H : Heap} {locs : List Loc} {cells slots : Nat} {Q : State → Prop} {cc : ByteArray} {pc : Nat} {ls : Array Slot} {rest : List Value} {nL : Nat} {G : CG} {μ : Mm} {a : Nat}  {x : Mm} {k : Nat} (l : Launch) (X : Cx p s m args meth c cc nL RX10 G) (hH : HS G s μ H locs) (hRL : RmL R k) (hk : 5 + 1 ≤ k) (h : f_X10_countOneMore μ a = some x) (hls : ls.size = nL) (hroom : (rest.map fun v => v.category).sum ≤ 8) (hdg : decode cc pc = .ok (.invokevirtual 62, 3)) (hcs : cells + 0 ≤ R.cells ∧ slots + 0 ≤ R.slots) (kk : ∀ (H1 : Heap) (locs1 : List Loc), HS G s x H1 locs1 → W p l e R s m args below meth c H1 locs1 cells slots Q (F0 m (pc + 3) ls rest)) : W p l e R s m args below meth c H locs cells slots Q (F0 m pc ls (.ref a :: rest)) := by
  refine kV0 hH (rV (As := []) (rest := rest) X hH (t_X10_countOneMore h) vc_10 (c_X10_countOneMore l G μ a x h) (List.forall_mem_cons.mpr ⟨u_886, (List.forall_mem_cons.mpr ⟨u_888, (List.forall_mem_cons.mpr ⟨u_21, (List.forall_mem_cons.mpr ⟨u_68, (fun _ h9 => absurd h9 List.not_mem_nil)⟩)⟩)⟩)⟩) u_889 (rmo hRL (Nat.le_trans (by decide) hk) (by decide)) ddV_X10_countOneMore rfl hls rfl hroom hdg hcs) kk
set_option maxHeartbeats 4000000 in
set_option maxRecDepth 100000 in
theorem w_X10_countRows_2 {p : Program} {e : Env} {R : Room} {s : State} {m : MethodId} {args : Array Value} {below : List Frame} {meth : Method} {c : Code} {cells slots : Nat} {Q : State → Prop} {G : CG} (l : Launch) (X : Cx p s m args meth c cX10_countRows 3 RX10 G) (hRL : RmL R 6) (hcs : cells ≤ R.cells ∧ slots ≤ R.slots) : ∀ (n : Nat) (v0 : Nat) (v1 : Int32) (v2 : Int32) (μ : Mm) (x : Mm), lp_X10_countRows_2 n v0 v1 v2 μ = some x → (∀ (H : Heap) (locs : List Loc) (ls : Array Slot), HS G s x H locs → lv_has ls 3 [(0, .ref v0), (1, .int v1)] → W p l e R s m args below meth c H locs cells slots Q (F0 m 29 ls [])) → ∀ (H : Heap) (locs : List Loc) (ls : Array Slot), HS G s μ H locs → lv_has ls 3 [(0, .ref v0), (1, .int v1), (2, .int v2)] → W p l e R s m args below meth c H locs cells slots Q (F0 m 2 ls []) := by
  have hx := X.1
  have hb := X.2.1
  have hown := X.2.2.2.1
  have hts := X.2.2.2.2.1
  intro n
  induction n with
  | zero =>
    intro v0 v1 v2 μ x h
    rw [lp_X10_countRows_2] at h
    cases h
  | succ n ih =>
    intro v0 v1 v2 μ x h k0 H locs ls hH hl
    rw [lp_X10_countRows_2] at h
    refine lv_iload_n hx hb dX10_countRows_2 rfl (lv_at hl 2 rfl) ?_
    refine lv_bipush (v := 60) hx hb dX10_countRows_3 (by decide) ?_
    refine lv_icmp_ge (tgt := 29) hx hb dX10_countRows_5 (by decide) (fun hc1 => ?_) (fun hc1 => ?_)
    · replace h := ift h hc1
      cases h
      exact k0 _ _ _ hH (lv_sub hl [0, 1] rfl)
    · replace h := iff' h hc1
      refine lv_aload_n hx hb dX10_countRows_8 rfl (lv_at hl 0 rfl) ?_
      obtain ⟨x2, hx2, h⟩ := bnd h
      refine gf_X10_15 X hH hx2 dX10_countRows_9 ?_
      refine lv_iload_n hx hb dX10_countRows_12 rfl (lv_at hl 2 rfl) ?_
      refine lv_iload_n hx hb dX10_countRows_13 rfl (lv_at hl 2 rfl) ?_
      refine lv_if_ne (tgt := 21) hx hb dX10_countRows_14 (by decide) (fun hc3 => ?_) (fun hc3 => ?_)
      · replace h := iff' h hc3
        refine lv_lconst (v := 0) hx hb dX10_countRows_21 (by decide) ?_
        obtain ⟨x4, hx4, h⟩ := bnd h
        refine w_qL X hH hx4 dX10_countRows_22 (fun H locs hH => ?_)
        refine lv_iinc (v := (v2 + 1)) (lv' := [(2, .int (v2 + 1)), (0, .ref v0), (1, .int v1)]) hx hb dX10_countRows_23 hl (k := 2) rfl rfl (by decide) rfl (fun ls hl => ?_)
        refine lv_goto (tgt := 2) hx hb dX10_countRows_26 (by decide) ?_
        exact ih _ _ _ _ _ h k0 _ _ _ hH (lv_sub hl [1, 2, 0] rfl)
      · replace h := ift h hc3
        refine lv_lconst (v := 1) hx hb dX10_countRows_17 (by decide) ?_
        refine lv_goto (tgt := 22) hx hb dX10_countRows_18 (by decide) ?_
        obtain ⟨x5, hx5, h⟩ := bnd h
        refine w_qL X hH hx5 dX10_countRows_22 (fun H locs hH => ?_)
        refine lv_iinc (v := (v2 + 1)) (lv' := [(2, .int (v2 + 1)), (0, .ref v0), (1, .int v1)]) hx hb dX10_countRows_23 hl (k := 2) rfl rfl (by decide) rfl (fun ls hl => ?_)
        refine lv_goto (tgt := 2) hx hb dX10_countRows_26 (by decide) ?_
        exact ih _ _ _ _ _ h k0 _ _ _ hH (lv_sub hl [1, 2, 0] rfl)
set_option maxHeartbeats 4000000 in
set_option maxRecDepth 100000 in
theorem w_X10_countRows_31 {p : Program} {e : Env} {R : Room} {s : State} {m : MethodId} {args : Array Value} {below : List Frame} {meth : Method} {c : Code} {cells slots : Nat} {Q : State → Prop} {G : CG} (l : Launch) (X : Cx p s m args meth c cX10_countRows 3 RX10 G) (hRL : RmL R 6) (hcs : cells ≤ R.cells ∧ slots ≤ R.slots) : ∀ (n : Nat) (v0 : Nat) (v1 : Int32) (v2 : Int32) (μ : Mm) (x : Mm), lp_X10_countRows_31 n v0 v1 v2 μ = some x → (∀ (H : Heap) (locs : List Loc) (ls : Array Slot), HS G s x H locs → lv_has ls 3 [] → W p l e R s m args below meth c H locs cells slots Q (F0 m 46 ls [])) → ∀ (H : Heap) (locs : List Loc) (ls : Array Slot), HS G s μ H locs → lv_has ls 3 [(0, .ref v0), (1, .int v1), (2, .int v2)] → W p l e R s m args below meth c H locs cells slots Q (F0 m 31 ls []) := by
  have hx := X.1
  have hb := X.2.1
  have hown := X.2.2.2.1
  have hts := X.2.2.2.2.1
  intro n
  induction n with
  | zero =>
    intro v0 v1 v2 μ x h
    rw [lp_X10_countRows_31] at h
    cases h
  | succ n ih =>
    intro v0 v1 v2 μ x h k0 H locs ls hH hl
    rw [lp_X10_countRows_31] at h
    refine lv_iload_n hx hb dX10_countRows_31 rfl (lv_at hl 2 rfl) ?_
    refine lv_iload_n hx hb dX10_countRows_32 rfl (lv_at hl 1 rfl) ?_
    refine lv_icmp_ge (tgt := 46) hx hb dX10_countRows_33 (by decide) (fun hc7 => ?_) (fun hc7 => ?_)
    · replace h := ift h hc7
      cases h
      exact k0 _ _ _ hH (lv_sub hl [] rfl)
    · replace h := iff' h hc7
      refine lv_aload_n hx hb dX10_countRows_36 rfl (lv_at hl 0 rfl) ?_
      obtain ⟨x8, hx8, h⟩ := bnd h
      refine iv_X10_62 l X hH hRL (by decide) hx8 hl.1 (Nat.le_of_ble_eq_true rfl) dX10_countRows_37 hcs (fun H locs hH => ?_)
      refine lv_iinc (v := (v2 + 1)) (lv' := [(2, .int (v2 + 1)), (0, .ref v0), (1, .int v1)]) hx hb dX10_countRows_40 hl (k := 2) rfl rfl (by decide) rfl (fun ls hl => ?_)
      refine lv_goto (tgt := 31) hx hb dX10_countRows_43 (by decide) ?_
      exact ih _ _ _ _ _ h k0 _ _ _ hH (lv_sub hl [1, 2, 0] rfl)
theorem t_X10_countRows {μ : Mm} {a0 : Nat} {p1 : Int32} {x : Mm} (h : f_X10_countRows μ a0 p1 = some x) : tg μ a0 = 11 := by
  unfold f_X10_countRows at h
  exact (gsn h).1
set_option maxHeartbeats 4000000 in
set_option maxRecDepth 100000 in
theorem c_X10_countRows (l : Launch) (G : CG) (μ : Mm) (a0 : Nat) (p1 : Int32) (x : Mm) (h : f_X10_countRows μ a0 p1 = some x) : Met l yX10_countRows (.code yX10_countRows cX10_countRows 3 none :: UW) (rmk 6 0 0) (PC G [.ref a0, .int p1] μ) (QV G x) 0 0 (fA G) := by
  refine Met.ofW (cc := cX10_countRows) (maxL := 3) (ret := none) (by decide) rfl ?_
  intro p e s m args below meth c s₁ B hml hv
  obtain ⟨X, hH, hr, rfl, hnm⟩ := cx_in B hml hv
  have X : Cx p s m _ meth c cX10_countRows 3 RX10 G := X
  have hx := X.1
  have hb := X.2.1
  have hown := X.2.2.2.1
  have hts := X.2.2.2.2.1
  have hRL : RmL (rmk 6 0 0) 6 := ⟨Nat.le_refl _, Nat.le_refl _⟩
  have hcs : 0 ≤ (rmk 0 0 0).cells ∧ 0 ≤ (rmk 0 0 0).slots := ⟨Nat.zero_le _, Nat.zero_le _⟩
  refine ls_in (Nat.le_of_ble_eq_true rfl) (fun ls hl => ?_)
  have hl : lv_has ls 3 [(0, .ref a0), (1, .int p1)] := hl
  unfold f_X10_countRows at h
  obtain ⟨htg, h⟩ := gsn h
  refine lv_iconst (v := 0) hx hb dX10_countRows_0 (by decide) ?_
  refine lv_istore_n (lv' := [(2, .int (0 : Int32)), (0, .ref a0), (1, .int p1)]) hx hb dX10_countRows_1 rfl hl (by decide) rfl (fun ls hl => ?_)
  obtain ⟨x6, hx6, hhx6⟩ := bnd h
  clear h
  refine w_X10_countRows_2 l X hRL hcs BIG a0 p1 (0 : Int32) μ x6 hx6 (fun H locs ls hH hl => ?_) _ _ _ hH (lv_sub hl [1, 2, 0] rfl)
  · have h := hhx6
    clear hhx6
    refine lv_iconst (v := 0) hx hb dX10_countRows_29 (by decide) ?_
    refine lv_istore_n (lv' := [(2, .int (0 : Int32)), (0, .ref a0), (1, .int p1)]) hx hb dX10_countRows_30 rfl hl (by decide) rfl (fun ls hl => ?_)
    obtain ⟨x9, hx9, hhx9⟩ := bnd h
    clear h
    refine w_X10_countRows_31 l X hRL hcs BIG a0 p1 (0 : Int32) x6 x9 hx9 (fun H locs ls hH hl => ?_) _ _ _ hH (lv_sub hl [1, 2, 0] rfl)
    · have h := hhx9
      clear hhx9
      exact eV X hH h hr dX10_countRows_46 (Nat.le_of_ble_eq_true rfl) (Nat.le_of_ble_eq_true rfl)
theorem t_X10_rowsTo {μ : Mm} {a0 : Nat} {p1 : Int32} {x : Int64} (h : f_X10_rowsTo μ a0 p1 = some x) : tg μ a0 = 11 := by
  unfold f_X10_rowsTo at h
  exact (gsn h).1
set_option maxHeartbeats 4000000 in
set_option maxRecDepth 100000 in
theorem c_X10_rowsTo (l : Launch) (G : CG) (μ : Mm) (a0 : Nat) (p1 : Int32) (x : Int64) (h : f_X10_rowsTo μ a0 p1 = some x) : Met l yX10_rowsTo (.code yX10_rowsTo cX10_rowsTo 2 (some .long) :: UW) (rmk 5 0 0) (PC G [.ref a0, .int p1] μ) (QL G x μ) 0 0 (fA G) := by
  refine Met.ofW (cc := cX10_rowsTo) (maxL := 2) (ret := (some .long)) (by decide) rfl ?_
  intro p e s m args below meth c s₁ B hml hv
  obtain ⟨X, hH, hr, rfl, hnm⟩ := cx_in B hml hv
  have X : Cx p s m _ meth c cX10_rowsTo 2 RX10 G := X
  have hx := X.1
  have hb := X.2.1
  have hown := X.2.2.2.1
  have hts := X.2.2.2.2.1
  have hRL : RmL (rmk 5 0 0) 5 := ⟨Nat.le_refl _, Nat.le_refl _⟩
  have hcs : 0 ≤ (rmk 0 0 0).cells ∧ 0 ≤ (rmk 0 0 0).slots := ⟨Nat.zero_le _, Nat.zero_le _⟩
  refine ls_in (Nat.le_of_ble_eq_true rfl) (fun ls hl => ?_)
  have hl : lv_has ls 2 [(0, .ref a0), (1, .int p1)] := hl
  unfold f_X10_rowsTo at h
  obtain ⟨htg, h⟩ := gsn h
  refine lv_aload_n hx hb dX10_rowsTo_0 rfl (lv_at hl 0 rfl) ?_
  obtain ⟨x1, hx1, h⟩ := bnd h
  refine gf_X10_15 X hH hx1 dX10_rowsTo_1 ?_
  refine lv_aload_n hx hb dX10_rowsTo_4 rfl (lv_at hl 0 rfl) ?_
  refine lv_iload_n hx hb dX10_rowsTo_5 rfl (lv_at hl 1 rfl) ?_
  obtain ⟨x2, hx2, h⟩ := bnd h
  refine iv_X10_59 l X hH hRL (by decide) hx2 hl.1 (Nat.le_of_ble_eq_true rfl) dX10_rowsTo_6 hcs (fun H locs hH => ?_)
  obtain ⟨x3, hx3, h⟩ := bnd h
  refine w_aL X hH hx3 dX10_rowsTo_9 ?_
  exact eLp X hH h hr dX10_rowsTo_10
set_option maxHeartbeats 1000000 in
theorem iv_X11_20 {p : Program} {e : Env} {R : Room} {s : State} {m : MethodId} {args : Array Value} {below : List Frame} {meth : Method} {c : Code} {H : Heap} {locs : List Loc} {cells slots : Nat} {Q : State → Prop} {cc : ByteArray} {pc : Nat} {ls : Array Slot} {rest : List Value} {nL : Nat} {G : CG} {μ : Mm} {a : Nat}  {x : Mm} {k : Nat} (l : Launch) (X : Cx p s m args meth c cc nL RX11 G) (hH : HS G s μ H locs) (hRL : RmL R k) (hk : 2 + 1 ≤ k) (h : f_X3_init μ a = some x) (hls : ls.size = nL) (hroom : (rest.map fun v => v.category).sum ≤ 8) (hdg : decode cc pc = .ok (.invokespecial 20, 3)) (hcs : cells + 10 ≤ R.cells ∧ slots + 82 ≤ R.slots) (kk : ∀ (H1 : Heap) (locs1 : List Loc), HS G s x H1 locs1 → W p l e R s m args below meth c H1 locs1 (cells + 10) (slots + 82) Q (F0 m (pc + 3) ls rest)) : W p l e R s m args below meth c H locs cells slots Q (F0 m pc ls (.ref a :: rest)) := by
  refine kV hH (rI (As := []) (rest := rest) X hH (c_X3_init l G μ a x h) (List.forall_mem_cons.mpr ⟨u_88, (List.forall_mem_cons.mpr ⟨u_89, (List.forall_mem_cons.mpr ⟨u_62, (fun _ h9 => absurd h9 List.not_mem_nil)⟩)⟩)⟩) u_90 (rmo hRL (Nat.le_trans (by decide) hk) (by decide)) rfl ddS_X3_init rfl hls rfl hroom hdg hcs) kk
set_option maxHeartbeats 1000000 in
theorem iv_X11_35 {p : Program} {e : Env} {R : Room} {s : State} {m : MethodId} {args : Array Value} {below : List Frame} {meth : Method} {c : Code} {H : Heap} {locs : List Loc} {cells slots : Nat} {Q : State → Prop} {cc : ByteArray} {pc : Nat} {ls : Array Slot} {rest : List Value} {nL : Nat} {G : CG} {μ : Mm} {a : Nat}  {x : Mm} {k : Nat} (l : Launch) (X : Cx p s m args meth c cc nL RX11 G) (hH : HS G s μ H locs) (hRL : RmL R k) (hk : 1 + 1 ≤ k) (h : f_X5_init μ a = some x) (hls : ls.size = nL) (hroom : (rest.map fun v => v.category).sum ≤ 8) (hdg : decode cc pc = .ok (.invokespecial 35, 3)) (hcs : cells + 2 ≤ R.cells ∧ slots + 12 ≤ R.slots) (kk : ∀ (H1 : Heap) (locs1 : List Loc), HS G s x H1 locs1 → W p l e R s m args below meth c H1 locs1 (cells + 2) (slots + 12) Q (F0 m (pc + 3) ls rest)) : W p l e R s m args below meth c H locs cells slots Q (F0 m pc ls (.ref a :: rest)) := by
  refine kV hH (rIN (As := []) (rest := rest) X hH (c_X5_init l G μ a x h) X.2.2.2.2.2.1.2.1.1 (List.forall_mem_cons.mpr ⟨u_205, (List.forall_mem_cons.mpr ⟨u_66, (fun _ h9 => absurd h9 List.not_mem_nil)⟩)⟩) u_206 (rmo hRL (Nat.le_trans (by decide) hk) (by decide)) rfl ddS_X5_init rfl hls rfl hroom hdg hcs) kk
set_option maxHeartbeats 1000000 in
theorem iv_X11_42 {p : Program} {e : Env} {R : Room} {s : State} {m : MethodId} {args : Array Value} {below : List Frame} {meth : Method} {c : Code} {H : Heap} {locs : List Loc} {cells slots : Nat} {Q : State → Prop} {cc : ByteArray} {pc : Nat} {ls : Array Slot} {rest : List Value} {nL : Nat} {G : CG} {μ : Mm} {a : Nat} {q0 : Nat} {x : Mm} {k : Nat} (l : Launch) (X : Cx p s m args meth c cc nL RX11 G) (hH : HS G s μ H locs) (hRL : RmL R k) (hk : 1 + 1 ≤ k) (h : f_X7_init μ a q0 = some x) (hls : ls.size = nL) (hroom : (rest.map fun v => v.category).sum ≤ 8) (hdg : decode cc pc = .ok (.invokespecial 42, 3)) (hcs : cells + 3 ≤ R.cells ∧ slots + 192 ≤ R.slots) (kk : ∀ (H1 : Heap) (locs1 : List Loc), HS G s x H1 locs1 → W p l e R s m args below meth c H1 locs1 (cells + 3) (slots + 192) Q (F0 m (pc + 3) ls rest)) : W p l e R s m args below meth c H locs cells slots Q (F0 m pc ls (.ref q0 :: .ref a :: rest)) := by
  refine kV hH (rI (As := [.ref q0]) (rest := rest) X hH (c_X7_init l G μ a q0 x h) (List.forall_mem_cons.mpr ⟨u_241, (List.forall_mem_cons.mpr ⟨u_242, (List.forall_mem_cons.mpr ⟨u_67, (fun _ h9 => absurd h9 List.not_mem_nil)⟩)⟩)⟩) u_243 (rmo hRL (Nat.le_trans (by decide) hk) (by decide)) rfl ddS_X7_init rfl hls rfl hroom hdg hcs) kk
set_option maxHeartbeats 1000000 in
theorem iv_X11_49 {p : Program} {e : Env} {R : Room} {s : State} {m : MethodId} {args : Array Value} {below : List Frame} {meth : Method} {c : Code} {H : Heap} {locs : List Loc} {cells slots : Nat} {Q : State → Prop} {cc : ByteArray} {pc : Nat} {ls : Array Slot} {rest : List Value} {nL : Nat} {G : CG} {μ : Mm} {a : Nat} {q0 : Int32} {x : Mm} {k : Nat} (l : Launch) (X : Cx p s m args meth c cc nL RX11 G) (hH : HS G s μ H locs) (hRL : RmL R k) (hk : 1 + 1 ≤ k) (h : f_X8_init μ a q0 = some x) (hls : ls.size = nL) (hroom : (rest.map fun v => v.category).sum ≤ 8) (hdg : decode cc pc = .ok (.invokespecial 49, 3)) (hcs : cells + 1 ≤ R.cells ∧ slots + 60 ≤ R.slots) (kk : ∀ (H1 : Heap) (locs1 : List Loc), HS G s x H1 locs1 → W p l e R s m args below meth c H1 locs1 (cells + 1) (slots + 60) Q (F0 m (pc + 3) ls rest)) : W p l e R s m args below meth c H locs cells slots Q (F0 m pc ls (.int q0 :: .ref a :: rest)) := by
  refine kV hH (rI (As := [.int q0]) (rest := rest) X hH (c_X8_init l G μ a q0 x h) (List.forall_mem_cons.mpr ⟨u_267, (List.forall_mem_cons.mpr ⟨u_97, (List.forall_mem_cons.mpr ⟨u_63, (fun _ h9 => absurd h9 List.not_mem_nil)⟩)⟩)⟩) u_98 (rmo hRL (Nat.le_trans (by decide) hk) (by decide)) rfl ddS_X8_init rfl hls rfl hroom hdg hcs) kk
set_option maxHeartbeats 1000000 in
theorem iv_X11_58 {p : Program} {e : Env} {R : Room} {s : State} {m : MethodId} {args : Array Value} {below : List Frame} {meth : Method} {c : Code} {H : Heap} {locs : List Loc} {cells slots : Nat} {Q : State → Prop} {cc : ByteArray} {pc : Nat} {ls : Array Slot} {rest : List Value} {nL : Nat} {G : CG} {μ : Mm} {a : Nat} {q0 : Nat} {x : Mm} {k : Nat} (l : Launch) (X : Cx p s m args meth c cc nL RX11 G) (hH : HS G s μ H locs) (hRL : RmL R k) (hk : 1 + 1 ≤ k) (h : f_X10_init μ a q0 = some x) (hls : ls.size = nL) (hroom : (rest.map fun v => v.category).sum ≤ 8) (hdg : decode cc pc = .ok (.invokespecial 58, 3)) (hcs : cells + 3 ≤ R.cells ∧ slots + 180 ≤ R.slots) (kk : ∀ (H1 : Heap) (locs1 : List Loc), HS G s x H1 locs1 → W p l e R s m args below meth c H1 locs1 (cells + 3) (slots + 180) Q (F0 m (pc + 3) ls rest)) : W p l e R s m args below meth c H locs cells slots Q (F0 m pc ls (.ref q0 :: .ref a :: rest)) := by
  refine kV hH (rI (As := [.ref q0]) (rest := rest) X hH (c_X10_init l G μ a q0 x h) (List.forall_mem_cons.mpr ⟨u_270, (List.forall_mem_cons.mpr ⟨u_271, (List.forall_mem_cons.mpr ⟨u_68, (fun _ h9 => absurd h9 List.not_mem_nil)⟩)⟩)⟩) u_272 (rmo hRL (Nat.le_trans (by decide) hk) (by decide)) rfl ddS_X10_init rfl hls rfl hroom hdg hcs) kk
set_option maxHeartbeats 4000000 in
set_option maxRecDepth 100000 in
theorem w_X11_init_135 {p : Program} {e : Env} {R : Room} {s : State} {m : MethodId} {args : Array Value} {below : List Frame} {meth : Method} {c : Code} {Q : State → Prop} {G : CG} (l : Launch) (X : Cx p s m args meth c cX11_init 2 RX11 G) (hRL : RmL R 3) {C S : Nat} (hCS : C ≤ R.cells ∧ S ≤ R.slots) : ∀ (n : Nat) (v0 : Nat) (v1 : Int32) (μ : Mm) (x : Mm), lp_X11_init_135 n v0 v1 μ = some x → (∀ (H : Heap) (locs : List Loc) (ls : Array Slot), HS G s x H locs → lv_has ls 2 [(0, .ref v0)] → W p l e R s m args below meth c H locs C S Q (F0 m 162 ls [])) → ∀ (cells slots : Nat), cells + n * 2 ≤ C → slots + n * 62 ≤ S → ∀ (H : Heap) (locs : List Loc) (ls : Array Slot), HS G s μ H locs → lv_has ls 2 [(0, .ref v0), (1, .int v1)] → W p l e R s m args below meth c H locs cells slots Q (F0 m 135 ls []) := by
  have hx := X.1
  have hb := X.2.1
  have hown := X.2.2.2.1
  have hts := X.2.2.2.2.1
  intro n
  induction n with
  | zero =>
    intro v0 v1 μ x h
    rw [lp_X11_init_135] at h
    cases h
  | succ n ih =>
    intro v0 v1 μ x h k0 cells slots hc1 hc2 H locs ls hH hl
    rw [lp_X11_init_135] at h
    rw [Nat.succ_mul] at hc1 hc2
    refine lv_iload_n hx hb dX11_init_135 rfl (lv_at hl 1 rfl) ?_
    refine lv_bipush (v := 6) hx hb dX11_init_136 (by decide) ?_
    refine lv_icmp_ge (tgt := 162) hx hb dX11_init_138 (by decide) (fun hc32 => ?_) (fun hc32 => ?_)
    · replace h := ift h hc32
      cases h
      refine W.widen (k := C) (n := S) (by omega) (by omega) ?_
      exact k0 _ _ _ hH (lv_sub hl [0] rfl)
    · replace h := iff' h hc32
      refine lv_aload_n hx hb dX11_init_141 rfl (lv_at hl 0 rfl) ?_
      obtain ⟨x33, hx33, h⟩ := bnd h
      refine gf_X11_11 X hH hx33 dX11_init_142 ?_
      refine lv_iload_n hx hb dX11_init_145 rfl (lv_at hl 1 rfl) ?_
      refine w_new X hH vc_8 inU_X8 tyX8 tyX8_ok u_84 u_95 u_63 (df_8 _) (by omega) (by omega) dX11_init_146 (fun H hH => ?_)
      refine lv_dup hx hb dX11_init_149 rfl ?_
      refine lv_bipush (v := 40) hx hb dX11_init_150 (by decide) ?_
      obtain ⟨x35, hx35, h⟩ := bnd h
      refine iv_X11_49 l X hH hRL (by decide) hx35 hl.1 (Nat.le_of_ble_eq_true rfl) dX11_init_152 ⟨by omega, by omega⟩ (fun H locs hH => ?_)
      obtain ⟨x36, hx36, h⟩ := bnd h
      refine w_qP X hH hx36 (by decide) (k := 5) rfl rfl rfl dX11_init_155 (fun H locs hH => ?_)
      refine lv_iinc (v := (v1 + 1)) (lv' := [(1, .int (v1 + 1)), (0, .ref v0)]) hx hb dX11_init_156 hl (k := 1) rfl rfl (by decide) rfl (fun ls hl => ?_)
      refine lv_goto (tgt := 135) hx hb dX11_init_159 (by decide) ?_
      exact ih _ _ _ _ h k0 _ _ (by omega) (by omega) _ _ _ hH (lv_sub hl [1, 0] rfl)
set_option maxHeartbeats 4000000 in
set_option maxRecDepth 100000 in
theorem w_X11_init_164 {p : Program} {e : Env} {R : Room} {s : State} {m : MethodId} {args : Array Value} {below : List Frame} {meth : Method} {c : Code} {Q : State → Prop} {G : CG} (l : Launch) (X : Cx p s m args meth c cX11_init 2 RX11 G) (hRL : RmL R 3) {C S : Nat} (hCS : C ≤ R.cells ∧ S ≤ R.slots) : ∀ (n : Nat) (v0 : Nat) (v1 : Int32) (μ : Mm) (x : Mm), lp_X11_init_164 n v0 v1 μ = some x → (∀ (H : Heap) (locs : List Loc) (ls : Array Slot), HS G s x H locs → lv_has ls 2 [(0, .ref v0)] → W p l e R s m args below meth c H locs C S Q (F0 m 190 ls [])) → ∀ (cells slots : Nat), cells + n * 2 ≤ C → slots + n * 62 ≤ S → ∀ (H : Heap) (locs : List Loc) (ls : Array Slot), HS G s μ H locs → lv_has ls 2 [(0, .ref v0), (1, .int v1)] → W p l e R s m args below meth c H locs cells slots Q (F0 m 164 ls []) := by
  have hx := X.1
  have hb := X.2.1
  have hown := X.2.2.2.1
  have hts := X.2.2.2.2.1
  intro n
  induction n with
  | zero =>
    intro v0 v1 μ x h
    rw [lp_X11_init_164] at h
    cases h
  | succ n ih =>
    intro v0 v1 μ x h k0 cells slots hc1 hc2 H locs ls hH hl
    rw [lp_X11_init_164] at h
    rw [Nat.succ_mul] at hc1 hc2
    refine lv_iload_n hx hb dX11_init_164 rfl (lv_at hl 1 rfl) ?_
    refine lv_iconst (v := 4) hx hb dX11_init_165 (by decide) ?_
    refine lv_icmp_ge (tgt := 190) hx hb dX11_init_166 (by decide) (fun hc38 => ?_) (fun hc38 => ?_)
    · replace h := ift h hc38
      cases h
      refine W.widen (k := C) (n := S) (by omega) (by omega) ?_
      exact k0 _ _ _ hH (lv_sub hl [0] rfl)
    · replace h := iff' h hc38
      refine lv_aload_n hx hb dX11_init_169 rfl (lv_at hl 0 rfl) ?_
      obtain ⟨x39, hx39, h⟩ := bnd h
      refine gf_X11_15 X hH hx39 dX11_init_170 ?_
      refine lv_iload_n hx hb dX11_init_173 rfl (lv_at hl 1 rfl) ?_
      refine w_new X hH vc_8 inU_X8 tyX8 tyX8_ok u_84 u_95 u_63 (df_8 _) (by omega) (by omega) dX11_init_174 (fun H hH => ?_)
      refine lv_dup hx hb dX11_init_177 rfl ?_
      refine lv_bipush (v := 60) hx hb dX11_init_178 (by decide) ?_
      obtain ⟨x41, hx41, h⟩ := bnd h
      refine iv_X11_49 l X hH hRL (by decide) hx41 hl.1 (Nat.le_of_ble_eq_true rfl) dX11_init_180 ⟨by omega, by omega⟩ (fun H locs hH => ?_)
      obtain ⟨x42, hx42, h⟩ := bnd h
      refine w_qP X hH hx42 (by decide) (k := 5) rfl rfl rfl dX11_init_183 (fun H locs hH => ?_)
      refine lv_iinc (v := (v1 + 1)) (lv' := [(1, .int (v1 + 1)), (0, .ref v0)]) hx hb dX11_init_184 hl (k := 1) rfl rfl (by decide) rfl (fun ls hl => ?_)
      refine lv_goto (tgt := 164) hx hb dX11_init_187 (by decide) ?_
      exact ih _ _ _ _ h k0 _ _ (by omega) (by omega) _ _ _ hH (lv_sub hl [1, 0] rfl)
set_option maxHeartbeats 4000000 in
set_option maxRecDepth 100000 in
theorem w_X11_init_192 {p : Program} {e : Env} {R : Room} {s : State} {m : MethodId} {args : Array Value} {below : List Frame} {meth : Method} {c : Code} {Q : State → Prop} {G : CG} (l : Launch) (X : Cx p s m args meth c cX11_init 2 RX11 G) (hRL : RmL R 3) {C S : Nat} (hCS : C ≤ R.cells ∧ S ≤ R.slots) : ∀ (n : Nat) (v0 : Nat) (v1 : Int32) (μ : Mm) (x : Mm), lp_X11_init_192 n v0 v1 μ = some x → (∀ (H : Heap) (locs : List Loc) (ls : Array Slot), HS G s x H locs → lv_has ls 2 [] → W p l e R s m args below meth c H locs C S Q (F0 m 218 ls [])) → ∀ (cells slots : Nat), cells + n * 2 ≤ C → slots + n * 62 ≤ S → ∀ (H : Heap) (locs : List Loc) (ls : Array Slot), HS G s μ H locs → lv_has ls 2 [(0, .ref v0), (1, .int v1)] → W p l e R s m args below meth c H locs cells slots Q (F0 m 192 ls []) := by
  have hx := X.1
  have hb := X.2.1
  have hown := X.2.2.2.1
  have hts := X.2.2.2.2.1
  intro n
  induction n with
  | zero =>
    intro v0 v1 μ x h
    rw [lp_X11_init_192] at h
    cases h
  | succ n ih =>
    intro v0 v1 μ x h k0 cells slots hc1 hc2 H locs ls hH hl
    rw [lp_X11_init_192] at h
    rw [Nat.succ_mul] at hc1 hc2
    refine lv_iload_n hx hb dX11_init_192 rfl (lv_at hl 1 rfl) ?_
    refine lv_iconst (v := 3) hx hb dX11_init_193 (by decide) ?_
    refine lv_icmp_ge (tgt := 218) hx hb dX11_init_194 (by decide) (fun hc44 => ?_) (fun hc44 => ?_)
    · replace h := ift h hc44
      cases h
      refine W.widen (k := C) (n := S) (by omega) (by omega) ?_
      exact k0 _ _ _ hH (lv_sub hl [] rfl)
    · replace h := iff' h hc44
      refine lv_aload_n hx hb dX11_init_197 rfl (lv_at hl 0 rfl) ?_
      obtain ⟨x45, hx45, h⟩ := bnd h
      refine gf_X11_25 X hH hx45 dX11_init_198 ?_
      refine lv_iload_n hx hb dX11_init_201 rfl (lv_at hl 1 rfl) ?_
      refine w_new X hH vc_8 inU_X8 tyX8 tyX8_ok u_84 u_95 u_63 (df_8 _) (by omega) (by omega) dX11_init_202 (fun H hH => ?_)
      refine lv_dup hx hb dX11_init_205 rfl ?_
      refine lv_bipush (v := 60) hx hb dX11_init_206 (by decide) ?_
      obtain ⟨x47, hx47, h⟩ := bnd h
      refine iv_X11_49 l X hH hRL (by decide) hx47 hl.1 (Nat.le_of_ble_eq_true rfl) dX11_init_208 ⟨by omega, by omega⟩ (fun H locs hH => ?_)
      obtain ⟨x48, hx48, h⟩ := bnd h
      refine w_qP X hH hx48 (by decide) (k := 5) rfl rfl rfl dX11_init_211 (fun H locs hH => ?_)
      refine lv_iinc (v := (v1 + 1)) (lv' := [(1, .int (v1 + 1)), (0, .ref v0)]) hx hb dX11_init_212 hl (k := 1) rfl rfl (by decide) rfl (fun ls hl => ?_)
      refine lv_goto (tgt := 192) hx hb dX11_init_215 (by decide) ?_
      exact ih _ _ _ _ h k0 _ _ (by omega) (by omega) _ _ _ hH (lv_sub hl [1, 0] rfl)
theorem t_X11_init {μ : Mm} {a0 : Nat} {x : Mm} (h : f_X11_init μ a0 = some x) : tg μ a0 = 12 := by
  unfold f_X11_init at h
  exact (gsn h).1
set_option maxHeartbeats 4000000 in
set_option maxRecDepth 100000 in
theorem c_X11_init (l : Launch) (G : CG) (μ : Mm) (a0 : Nat) (x : Mm) (h : f_X11_init μ a0 = some x) : Met l yX11_init (.code yX11_init cX11_init 2 none :: UW) (rmk 3 74 1901) (PC G [.ref a0] μ) (QV G x) 74 1901 (fA G) := by
  refine Met.ofW (cc := cX11_init) (maxL := 2) (ret := none) (by decide) rfl ?_
  intro p e s m args below meth c s₁ B hml hv
  obtain ⟨X, hH, hr, rfl, hnm⟩ := cx_in B hml hv
  have X : Cx p s m _ meth c cX11_init 2 RX11 G := X
  have hx := X.1
  have hb := X.2.1
  have hown := X.2.2.2.1
  have hts := X.2.2.2.2.1
  have hnm : meth.name = "<init>" := hnm
  have hRL : RmL (rmk 3 74 1901) 3 := ⟨Nat.le_refl _, Nat.le_refl _⟩
  refine ls_in (Nat.le_of_ble_eq_true rfl) (fun ls hl => ?_)
  have hl : lv_has ls 2 [(0, .ref a0)] := hl
  unfold f_X11_init at h
  obtain ⟨htg, h⟩ := gsn h
  refine lv_aload_n hx hb dX11_init_0 rfl (lv_at hl 0 rfl) ?_
  refine w_oi X hRL (by decide) hl.1 u_81 u_82 u_83 (Nat.le_of_ble_eq_true rfl) dX11_init_1 ?_
  refine lv_aload_n hx hb dX11_init_4 rfl (lv_at hl 0 rfl) ?_
  refine lv_bipush (v := 6) hx hb dX11_init_5 (by decide) ?_
  obtain ⟨x1, hx1, h⟩ := bnd h
  refine w_nr X hH (k := 5) hx1 X.2.2.2.2.2.1.2.2.2.2.2.1 u_84 (by decide) rfl (by decide) (Nat.le_of_ble_eq_true rfl) (Nat.le_of_ble_eq_true rfl) dX11_init_7 (fun H hH => ?_)
  obtain ⟨x2, hx2, h⟩ := bnd h
  refine pf_X11_11 X hnm hH hx2 dX11_init_10 (fun H locs hH => ?_)
  refine lv_aload_n hx hb dX11_init_13 rfl (lv_at hl 0 rfl) ?_
  refine lv_iconst (v := 4) hx hb dX11_init_14 (by decide) ?_
  obtain ⟨x3, hx3, h⟩ := bnd h
  refine w_nr X hH (k := 5) hx3 X.2.2.2.2.2.1.2.2.2.2.2.1 u_84 (by decide) rfl (by decide) (Nat.le_of_ble_eq_true rfl) (Nat.le_of_ble_eq_true rfl) dX11_init_15 (fun H hH => ?_)
  obtain ⟨x4, hx4, h⟩ := bnd h
  refine pf_X11_15 X hnm hH hx4 dX11_init_18 (fun H locs hH => ?_)
  refine lv_aload_n hx hb dX11_init_21 rfl (lv_at hl 0 rfl) ?_
  refine w_new X hH vc_3 inU_X3 tyX3 tyX3_ok u_86 u_87 u_62 (df_3 _) (Nat.le_of_ble_eq_true rfl) (Nat.le_of_ble_eq_true rfl) dX11_init_22 (fun H hH => ?_)
  refine lv_dup hx hb dX11_init_25 rfl ?_
  obtain ⟨x6, hx6, h⟩ := bnd h
  refine iv_X11_20 l X hH hRL (by decide) hx6 hl.1 (Nat.le_of_ble_eq_true rfl) dX11_init_26 ⟨Nat.le_of_ble_eq_true rfl, Nat.le_of_ble_eq_true rfl⟩ (fun H locs hH => ?_)
  obtain ⟨x7, hx7, h⟩ := bnd h
  refine pf_X11_21 X hnm hH hx7 dX11_init_29 (fun H locs hH => ?_)
  refine lv_aload_n hx hb dX11_init_32 rfl (lv_at hl 0 rfl) ?_
  refine lv_iconst (v := 3) hx hb dX11_init_33 (by decide) ?_
  obtain ⟨x8, hx8, h⟩ := bnd h
  refine w_nr X hH (k := 5) hx8 X.2.2.2.2.2.1.2.2.2.2.2.1 u_84 (by decide) rfl (by decide) (Nat.le_of_ble_eq_true rfl) (Nat.le_of_ble_eq_true rfl) dX11_init_34 (fun H hH => ?_)
  obtain ⟨x9, hx9, h⟩ := bnd h
  refine pf_X11_25 X hnm hH hx9 dX11_init_37 (fun H locs hH => ?_)
  refine lv_aload_n hx hb dX11_init_40 rfl (lv_at hl 0 rfl) ?_
  refine lv_iconst (v := 3) hx hb dX11_init_41 (by decide) ?_
  refine lv_bipush (v := 6) hx hb dX11_init_42 (by decide) ?_
  obtain ⟨x10, hx10, h⟩ := bnd h
  refine w_mn X hH hx10 u_200 u_116 (Nat.le_of_ble_eq_true rfl) (Nat.le_of_ble_eq_true rfl) dX11_init_44 (fun H hH => ?_)
  obtain ⟨x11, hx11, h⟩ := bnd h
  refine pf_X11_30 X hnm hH hx11 dX11_init_48 (fun H locs hH => ?_)
  refine lv_aload_n hx hb dX11_init_51 rfl (lv_at hl 0 rfl) ?_
  refine w_new X hH vc_5 inU_X5 tyX5 tyX5_ok u_202 u_203 u_66 (df_5 _) (Nat.le_of_ble_eq_true rfl) (Nat.le_of_ble_eq_true rfl) dX11_init_52 (fun H hH => ?_)
  refine lv_dup hx hb dX11_init_55 rfl ?_
  obtain ⟨x13, hx13, h⟩ := bnd h
  refine iv_X11_35 l X hH hRL (by decide) hx13 hl.1 (Nat.le_of_ble_eq_true rfl) dX11_init_56 ⟨Nat.le_of_ble_eq_true rfl, Nat.le_of_ble_eq_true rfl⟩ (fun H locs hH => ?_)
  obtain ⟨x14, hx14, h⟩ := bnd h
  refine pf_X11_36 X hnm hH hx14 dX11_init_59 (fun H locs hH => ?_)
  refine lv_aload_n hx hb dX11_init_62 rfl (lv_at hl 0 rfl) ?_
  refine w_new X hH vc_7 inU_X7 tyX7 tyX7_ok u_239 u_240 u_67 (df_7 _) (Nat.le_of_ble_eq_true rfl) (Nat.le_of_ble_eq_true rfl) dX11_init_63 (fun H hH => ?_)
  refine lv_dup hx hb dX11_init_66 rfl ?_
  refine lv_aload_n hx hb dX11_init_67 rfl (lv_at hl 0 rfl) ?_
  obtain ⟨x16, hx16, h⟩ := bnd h
  refine gf_X11_21 X hH hx16 dX11_init_68 ?_
  obtain ⟨x17, hx17, h⟩ := bnd h
  refine iv_X11_42 l X hH hRL (by decide) hx17 hl.1 (Nat.le_of_ble_eq_true rfl) dX11_init_71 ⟨Nat.le_of_ble_eq_true rfl, Nat.le_of_ble_eq_true rfl⟩ (fun H locs hH => ?_)
  obtain ⟨x18, hx18, h⟩ := bnd h
  refine pf_X11_45 X hnm hH hx18 dX11_init_74 (fun H locs hH => ?_)
  refine lv_aload_n hx hb dX11_init_77 rfl (lv_at hl 0 rfl) ?_
  refine w_new X hH vc_8 inU_X8 tyX8 tyX8_ok u_84 u_95 u_63 (df_8 _) (Nat.le_of_ble_eq_true rfl) (Nat.le_of_ble_eq_true rfl) dX11_init_78 (fun H hH => ?_)
  refine lv_dup hx hb dX11_init_81 rfl ?_
  refine lv_bipush (v := 6) hx hb dX11_init_82 (by decide) ?_
  obtain ⟨x20, hx20, h⟩ := bnd h
  refine iv_X11_49 l X hH hRL (by decide) hx20 hl.1 (Nat.le_of_ble_eq_true rfl) dX11_init_84 ⟨Nat.le_of_ble_eq_true rfl, Nat.le_of_ble_eq_true rfl⟩ (fun H locs hH => ?_)
  obtain ⟨x21, hx21, h⟩ := bnd h
  refine pf_X11_52 X hnm hH hx21 dX11_init_87 (fun H locs hH => ?_)
  refine lv_aload_n hx hb dX11_init_90 rfl (lv_at hl 0 rfl) ?_
  refine w_new X hH vc_10 inU_X10 tyX10 tyX10_ok u_268 u_269 u_68 (df_10 _) (Nat.le_of_ble_eq_true rfl) (Nat.le_of_ble_eq_true rfl) dX11_init_91 (fun H hH => ?_)
  refine lv_dup hx hb dX11_init_94 rfl ?_
  refine lv_aload_n hx hb dX11_init_95 rfl (lv_at hl 0 rfl) ?_
  obtain ⟨x23, hx23, h⟩ := bnd h
  refine gf_X11_21 X hH hx23 dX11_init_96 ?_
  obtain ⟨x24, hx24, h⟩ := bnd h
  refine iv_X11_58 l X hH hRL (by decide) hx24 hl.1 (Nat.le_of_ble_eq_true rfl) dX11_init_99 ⟨Nat.le_of_ble_eq_true rfl, Nat.le_of_ble_eq_true rfl⟩ (fun H locs hH => ?_)
  obtain ⟨x25, hx25, h⟩ := bnd h
  refine pf_X11_59 X hnm hH hx25 dX11_init_102 (fun H locs hH => ?_)
  refine lv_aload_n hx hb dX11_init_105 rfl (lv_at hl 0 rfl) ?_
  refine lv_bipush (v := 6) hx hb dX11_init_106 (by decide) ?_
  obtain ⟨x26, hx26, h⟩ := bnd h
  refine w_na X hH (atype := .int) (k := 1) hx26 u_116 (by decide) rfl (fun n' h9 => Nat.le_trans (Nat.mul_le_mul_right _ h9) (by decide)) (ce_I _) (Nat.le_of_ble_eq_true rfl) (Nat.le_of_ble_eq_true rfl) dX11_init_108 (fun H hH => ?_)
  obtain ⟨x27, hx27, h⟩ := bnd h
  refine pf_X11_63 X hnm hH hx27 dX11_init_110 (fun H locs hH => ?_)
  refine lv_aload_n hx hb dX11_init_113 rfl (lv_at hl 0 rfl) ?_
  refine lv_iconst (v := 0) hx hb dX11_init_114 (by decide) ?_
  obtain ⟨x28, hx28, h⟩ := bnd h
  refine pf_X11_67 X hH hx28 dX11_init_115 (fun H locs hH => ?_)
  refine lv_aload_n hx hb dX11_init_118 rfl (lv_at hl 0 rfl) ?_
  refine lv_iconst (v := 0) hx hb dX11_init_119 (by decide) ?_
  obtain ⟨x29, hx29, h⟩ := bnd h
  refine pf_X11_71 X hH hx29 dX11_init_120 (fun H locs hH => ?_)
  refine lv_aload_n hx hb dX11_init_123 rfl (lv_at hl 0 rfl) ?_
  refine lv_lconst (v := 0) hx hb dX11_init_124 (by decide) ?_
  obtain ⟨x30, hx30, h⟩ := bnd h
  refine pf_X11_74 X hH hx30 dX11_init_125 (fun H locs hH => ?_)
  refine lv_aload_n hx hb dX11_init_128 rfl (lv_at hl 0 rfl) ?_
  refine lv_lconst (v := 1) hx hb dX11_init_129 (by decide) ?_
  obtain ⟨x31, hx31, h⟩ := bnd h
  refine pf_X11_78 X hH hx31 dX11_init_130 (fun H locs hH => ?_)
  refine lv_iconst (v := 0) hx hb dX11_init_133 (by decide) ?_
  refine lv_istore_n (lv' := [(1, .int (0 : Int32)), (0, .ref a0)]) hx hb dX11_init_134 rfl hl (by decide) rfl (fun ls hl => ?_)
  obtain ⟨x37, hx37, hhx37⟩ := bnd h
  clear h
  refine w_X11_init_135 l X hRL (C := 46) (S := 1033) ⟨Nat.le_of_ble_eq_true rfl, Nat.le_of_ble_eq_true rfl⟩ 7 a0 (0 : Int32) x31 x37 hx37 (fun H locs ls hH hl => ?_) 32 599 (by decide) (by decide) _ _ _ hH (lv_sub hl [1, 0] rfl)
  · have h := hhx37
    clear hhx37
    refine lv_iconst (v := 0) hx hb dX11_init_162 (by decide) ?_
    refine lv_istore_n (lv' := [(1, .int (0 : Int32)), (0, .ref a0)]) hx hb dX11_init_163 rfl hl (by decide) rfl (fun ls hl => ?_)
    obtain ⟨x43, hx43, hhx43⟩ := bnd h
    clear h
    refine w_X11_init_164 l X hRL (C := 60) (S := 1467) ⟨Nat.le_of_ble_eq_true rfl, Nat.le_of_ble_eq_true rfl⟩ 7 a0 (0 : Int32) x37 x43 hx43 (fun H locs ls hH hl => ?_) 46 1033 (by decide) (by decide) _ _ _ hH (lv_sub hl [1, 0] rfl)
    · have h := hhx43
      clear hhx43
      refine lv_iconst (v := 0) hx hb dX11_init_190 (by decide) ?_
      refine lv_istore_n (lv' := [(1, .int (0 : Int32)), (0, .ref a0)]) hx hb dX11_init_191 rfl hl (by decide) rfl (fun ls hl => ?_)
      obtain ⟨x49, hx49, hhx49⟩ := bnd h
      clear h
      refine w_X11_init_192 l X hRL (C := 74) (S := 1901) ⟨Nat.le_of_ble_eq_true rfl, Nat.le_of_ble_eq_true rfl⟩ 7 a0 (0 : Int32) x43 x49 hx49 (fun H locs ls hH hl => ?_) 60 1467 (by decide) (by decide) _ _ _ hH (lv_sub hl [1, 0] rfl)
      · have h := hhx49
        clear hhx49
        exact eV X hH h hr dX11_init_218 (Nat.le_of_ble_eq_true rfl) (Nat.le_of_ble_eq_true rfl)
theorem t_X11_find {μ : Mm} {a0 : Nat} {p1 : Int32} {x : Int32 × Mm} (h : f_X11_find μ a0 p1 = some x) : tg μ a0 = 12 := by
  unfold f_X11_find at h
  exact (gsn h).1
set_option maxHeartbeats 4000000 in
set_option maxRecDepth 100000 in
theorem c_X11_find (l : Launch) (G : CG) (μ : Mm) (a0 : Nat) (p1 : Int32) (x : Int32 × Mm) (h : f_X11_find μ a0 p1 = some x) : Met l yX11_find (.code yX11_find cX11_find 2 (some .int) :: UW) (rmk 1 0 0) (PC G [.ref a0, .int p1] μ) (QI G x.1 x.2) 0 0 (fA G) := by
  refine Met.ofW (cc := cX11_find) (maxL := 2) (ret := (some .int)) (by decide) rfl ?_
  intro p e s m args below meth c s₁ B hml hv
  obtain ⟨X, hH, hr, rfl, hnm⟩ := cx_in B hml hv
  have X : Cx p s m _ meth c cX11_find 2 RX11 G := X
  have hx := X.1
  have hb := X.2.1
  have hown := X.2.2.2.1
  have hts := X.2.2.2.2.1
  have hRL : RmL (rmk 1 0 0) 1 := ⟨Nat.le_refl _, Nat.le_refl _⟩
  have hcs : 0 ≤ (rmk 0 0 0).cells ∧ 0 ≤ (rmk 0 0 0).slots := ⟨Nat.zero_le _, Nat.zero_le _⟩
  refine ls_in (Nat.le_of_ble_eq_true rfl) (fun ls hl => ?_)
  have hl : lv_has ls 2 [(0, .ref a0), (1, .int p1)] := hl
  unfold f_X11_find at h
  obtain ⟨htg, h⟩ := gsn h
  refine lv_aload_n hx hb dX11_find_0 rfl (lv_at hl 0 rfl) ?_
  refine lv_iload_n hx hb dX11_find_1 rfl (lv_at hl 1 rfl) ?_
  obtain ⟨x1, hx1, h⟩ := bnd h
  refine pf_X11_67 X hH hx1 dX11_find_2 (fun H locs hH => ?_)
  refine lv_aload_n hx hb dX11_find_5 rfl (lv_at hl 0 rfl) ?_
  obtain ⟨x2, hx2, h⟩ := bnd h
  refine gf_X11_63 X hH hx2 dX11_find_6 ?_
  refine lv_iload_n hx hb dX11_find_9 rfl (lv_at hl 1 rfl) ?_
  refine lv_dup2_11 hx hb dX11_find_10 rfl rfl ?_
  obtain ⟨x3, hx3, h⟩ := bnd h
  refine w_aI X hH hx3 dX11_find_11 ?_
  refine lv_iconst (v := 1) hx hb dX11_find_12 (by decide) ?_
  refine lv_iadd hx hb dX11_find_13 ?_
  obtain ⟨x4, hx4, h⟩ := bnd h
  refine w_qI X hH hx4 dX11_find_14 (fun H locs hH => ?_)
  refine lv_bipush (v := -3) hx hb dX11_find_15 (by decide) ?_
  exact eI X hH h hr dX11_find_17 (Nat.le_of_ble_eq_true rfl) (Nat.le_of_ble_eq_true rfl)
set_option maxHeartbeats 4000000 in
set_option maxRecDepth 100000 in
theorem c_X11_has (l : Launch) (G : CG) (μ : Mm) (p0 : Nat) (p1 : Int32) (x : Int32) (h : f_X11_has μ p0 p1 = some x) : Met l yX11_has (.code yX11_has cX11_has 2 (some .boolean) :: UW) (rmk 1 0 0) (PC G [.ref p0, .int p1] μ) (QI G x μ) 0 0 (fA G) := by
  refine Met.ofW (cc := cX11_has) (maxL := 2) (ret := (some .boolean)) (by decide) rfl ?_
  intro p e s m args below meth c s₁ B hml hv
  obtain ⟨X, hH, hr, rfl, hnm⟩ := cx_in B hml hv
  have X : Cx p s m _ meth c cX11_has 2 RX11 G := X
  have hx := X.1
  have hb := X.2.1
  have hown := X.2.2.2.1
  have hts := X.2.2.2.2.1
  have hRL : RmL (rmk 1 0 0) 1 := ⟨Nat.le_refl _, Nat.le_refl _⟩
  have hcs : 0 ≤ (rmk 0 0 0).cells ∧ 0 ≤ (rmk 0 0 0).slots := ⟨Nat.zero_le _, Nat.zero_le _⟩
  refine ls_in (Nat.le_of_ble_eq_true rfl) (fun ls hl => ?_)
  have hl : lv_has ls 2 [(0, .ref p0), (1, .int p1)] := hl
  unfold f_X11_has at h
  refine lv_iload_n hx hb dX11_has_0 rfl (lv_at hl 1 rfl) ?_
  refine lv_if_lt (tgt := 14) hx hb dX11_has_1 (by decide) (fun hc1 => ?_) (fun hc1 => ?_)
  · replace h := ift h hc1
    refine lv_iconst (v := 0) hx hb dX11_has_14 (by decide) ?_
    exact eZp X hH (by decide) h hr dX11_has_15
  · replace h := iff' h hc1
    refine lv_iload_n hx hb dX11_has_4 rfl (lv_at hl 1 rfl) ?_
    refine lv_aload_n hx hb dX11_has_5 rfl (lv_at hl 0 rfl) ?_
    obtain ⟨htx2, h⟩ := gsn h
    obtain ⟨x2, hx2, h⟩ := bnd h
    refine w_len X hH hx2 htx2 (k := 5) rfl dX11_has_6 ?_
    refine lv_icmp_ge (tgt := 14) hx hb dX11_has_7 (by decide) (fun hc3 => ?_) (fun hc3 => ?_)
    · replace h := ift h hc3
      refine lv_iconst (v := 0) hx hb dX11_has_14 (by decide) ?_
      exact eZp X hH (by decide) h hr dX11_has_15
    · replace h := iff' h hc3
      refine lv_iconst (v := 1) hx hb dX11_has_10 (by decide) ?_
      refine lv_goto (tgt := 15) hx hb dX11_has_11 (by decide) ?_
      exact eZp X hH (by decide) h hr dX11_has_15
set_option maxHeartbeats 1000000 in
theorem iv_X11_107 {p : Program} {e : Env} {R : Room} {s : State} {m : MethodId} {args : Array Value} {below : List Frame} {meth : Method} {c : Code} {H : Heap} {locs : List Loc} {cells slots : Nat} {Q : State → Prop} {cc : ByteArray} {pc : Nat} {ls : Array Slot} {rest : List Value} {nL : Nat} {G : CG} {μ : Mm} {q0 : Nat} {q1 : Int32} {x : Int32} {k : Nat} (l : Launch) (X : Cx p s m args meth c cc nL RX11 G) (hH : HS G s μ H locs) (hRL : RmL R k) (hk : 1 + 1 ≤ k) (h : f_X11_has μ q0 q1 = some x) (hls : ls.size = nL) (hroom : (rest.map fun v => v.category).sum ≤ 8) (hdg : decode cc pc = .ok (.invokestatic 107, 3)) (hcs : cells + 0 ≤ R.cells ∧ slots + 0 ≤ R.slots) (kk : ∀ (H1 : Heap) (locs1 : List Loc), HS G s μ H1 locs1 → W p l e R s m args below meth c H1 locs1 cells slots Q (F0 m (pc + 3) ls (.int x :: rest))) : W p l e R s m args below meth c H locs cells slots Q (F0 m pc ls (.int q1 :: .ref q0 :: rest)) := by
  refine kI hH (rS (As := [.ref q0, .int q1]) (rest := rest) X hH (c_X11_has l G μ q0 q1 x h) (List.forall_mem_cons.mpr ⟨u_339, (List.forall_mem_cons.mpr ⟨u_340, (List.forall_mem_cons.mpr ⟨u_61, (fun _ h9 => absurd h9 List.not_mem_nil)⟩)⟩)⟩) u_341 (rmo hRL (Nat.le_trans (by decide) hk) (by decide)) ddS_X11_has rfl hls rfl hroom hdg hcs) kk
set_option maxHeartbeats 1000000 in
theorem iv_X11_111 {p : Program} {e : Env} {R : Room} {s : State} {m : MethodId} {args : Array Value} {below : List Frame} {meth : Method} {c : Code} {H : Heap} {locs : List Loc} {cells slots : Nat} {Q : State → Prop} {cc : ByteArray} {pc : Nat} {ls : Array Slot} {rest : List Value} {nL : Nat} {G : CG} {μ : Mm} {a : Nat} {q0 : Int32} {x : Int32 × Mm} {k : Nat} (l : Launch) (X : Cx p s m args meth c cc nL RX11 G) (hH : HS G s μ H locs) (hRL : RmL R k) (hk : 1 + 1 ≤ k) (h : f_X11_find μ a q0 = some x) (hls : ls.size = nL) (hroom : (rest.map fun v => v.category).sum ≤ 8) (hdg : decode cc pc = .ok (.invokevirtual 111, 3)) (hcs : cells + 0 ≤ R.cells ∧ slots + 0 ≤ R.slots) (kk : ∀ (H1 : Heap) (locs1 : List Loc), HS G s x.2 H1 locs1 → W p l e R s m args below meth c H1 locs1 cells slots Q (F0 m (pc + 3) ls (.int x.1 :: rest))) : W p l e R s m args below meth c H locs cells slots Q (F0 m pc ls (.int q0 :: .ref a :: rest)) := by
  refine kI hH (rV (As := [.int q0]) (rest := rest) X hH (t_X11_find h) vc_11 (c_X11_find l G μ a q0 x h) (List.forall_mem_cons.mpr ⟨u_342, (List.forall_mem_cons.mpr ⟨u_344, (List.forall_mem_cons.mpr ⟨u_1, (List.forall_mem_cons.mpr ⟨u_61, (fun _ h9 => absurd h9 List.not_mem_nil)⟩)⟩)⟩)⟩) u_345 (rmo hRL (Nat.le_trans (by decide) hk) (by decide)) ddV_X11_find rfl hls rfl hroom hdg hcs) kk
set_option maxHeartbeats 1000000 in
theorem iv_X11_350 {p : Program} {e : Env} {R : Room} {s : State} {m : MethodId} {args : Array Value} {below : List Frame} {meth : Method} {c : Code} {H : Heap} {locs : List Loc} {cells slots : Nat} {Q : State → Prop} {cc : ByteArray} {pc : Nat} {ls : Array Slot} {rest : List Value} {nL : Nat} {G : CG} {μ : Mm} {a : Nat} {q0 : Int32} {q1 : Int32} {x : Mm} {k : Nat} (l : Launch) (X : Cx p s m args meth c cc nL RX11 G) (hH : HS G s μ H locs) (hRL : RmL R k) (hk : 1 + 1 ≤ k) (h : f_X8_open μ a q0 q1 = some x) (hls : ls.size = nL) (hroom : (rest.map fun v => v.category).sum ≤ 8) (hdg : decode cc pc = .ok (.invokevirtual 350, 3)) (hcs : cells + 0 ≤ R.cells ∧ slots + 0 ≤ R.slots) (kk : ∀ (H1 : Heap) (locs1 : List Loc), HS G s x H1 locs1 → W p l e R s m args below meth c H1 locs1 cells slots Q (F0 m (pc + 3) ls rest)) : W p l e R s m args below meth c H locs cells slots Q (F0 m pc ls (.int q1 :: .int q0 :: .ref a :: rest)) := by
  refine kV0 hH (rV (As := [.int q0, .int q1]) (rest := rest) X hH (t_X8_open h) vc_8 (c_X8_open l G μ a q0 q1 x h) (List.forall_mem_cons.mpr ⟨u_346, (List.forall_mem_cons.mpr ⟨u_140, (List.forall_mem_cons.mpr ⟨u_141, (List.forall_mem_cons.mpr ⟨u_63, (fun _ h9 => absurd h9 List.not_mem_nil)⟩)⟩)⟩)⟩) u_142 (rmo hRL (Nat.le_trans (by decide) hk) (by decide)) ddV_X8_open rfl hls rfl hroom hdg hcs) kk
theorem t_X11_open {μ : Mm} {a0 : Nat} {p1 : Nat} {p2 : Int32} {p3 : Int32} {p4 : Int32} {x : Int32 × Mm} (h : f_X11_open μ a0 p1 p2 p3 p4 = some x) : tg μ a0 = 12 := by
  unfold f_X11_open at h
  exact (gsn h).1
set_option maxHeartbeats 4000000 in
set_option maxRecDepth 100000 in
theorem c_X11_open (l : Launch) (G : CG) (μ : Mm) (a0 : Nat) (p1 : Nat) (p2 : Int32) (p3 : Int32) (p4 : Int32) (x : Int32 × Mm) (h : f_X11_open μ a0 p1 p2 p3 p4 = some x) : Met l yX11_open (.code yX11_open cX11_open 5 (some .int) :: UW) (rmk 2 0 0) (PC G [.ref a0, .ref p1, .int p2, .int p3, .int p4] μ) (QI G x.1 x.2) 0 0 (fA G) := by
  refine Met.ofW (cc := cX11_open) (maxL := 5) (ret := (some .int)) (by decide) rfl ?_
  intro p e s m args below meth c s₁ B hml hv
  obtain ⟨X, hH, hr, rfl, hnm⟩ := cx_in B hml hv
  have X : Cx p s m _ meth c cX11_open 5 RX11 G := X
  have hx := X.1
  have hb := X.2.1
  have hown := X.2.2.2.1
  have hts := X.2.2.2.2.1
  have hRL : RmL (rmk 2 0 0) 2 := ⟨Nat.le_refl _, Nat.le_refl _⟩
  have hcs : 0 ≤ (rmk 0 0 0).cells ∧ 0 ≤ (rmk 0 0 0).slots := ⟨Nat.zero_le _, Nat.zero_le _⟩
  refine ls_in (Nat.le_of_ble_eq_true rfl) (fun ls hl => ?_)
  have hl : lv_has ls 5 [(0, .ref a0), (1, .ref p1), (2, .int p2), (3, .int p3), (4, .int p4)] := hl
  unfold f_X11_open at h
  obtain ⟨htg, h⟩ := gsn h
  refine lv_aload_n hx hb dX11_open_0 rfl (lv_at hl 1 rfl) ?_
  refine lv_iload_n hx hb dX11_open_1 rfl (lv_at hl 2 rfl) ?_
  obtain ⟨x1, hx1, h⟩ := bnd h
  refine iv_X11_107 l X hH hRL (by decide) hx1 hl.1 (Nat.le_of_ble_eq_true rfl) dX11_open_2 hcs (fun H locs hH => ?_)
  refine lv_if_eq (tgt := 19) hx hb dX11_open_5 (by decide) (fun hc2 => ?_) (fun hc2 => ?_)
  · replace h := ift h hc2
    refine lv_iconst (v := -1) hx hb dX11_open_19 (by decide) ?_
    exact eI X hH h hr dX11_open_20 (Nat.le_of_ble_eq_true rfl) (Nat.le_of_ble_eq_true rfl)
  · replace h := iff' h hc2
    refine lv_iload_n hx hb dX11_open_8 rfl (lv_at hl 3 rfl) ?_
    refine lv_aload_n hx hb dX11_open_9 rfl (lv_at hl 1 rfl) ?_
    refine lv_iload_n hx hb dX11_open_10 rfl (lv_at hl 2 rfl) ?_
    obtain ⟨x3, hx3, h⟩ := bnd h
    refine w_aP X hH hx3 (by decide) (k := 5) rfl dX11_open_11 ?_
    obtain ⟨x4, hx4, h⟩ := bnd h
    refine gf_X11_97 X hH hx4 dX11_open_12 ?_
    obtain ⟨htx5, h⟩ := gsn h
    obtain ⟨x5, hx5, h⟩ := bnd h
    refine w_len X hH hx5 htx5 (k := 1) rfl dX11_open_15 ?_
    refine lv_icmp_le (tgt := 21) hx hb dX11_open_16 (by decide) (fun hc6 => ?_) (fun hc6 => ?_)
    · replace h := ift h hc6
      refine lv_iload_n hx hb dX11_open_21 rfl (lv_at hl 3 rfl) ?_
      refine lv_if_ge (tgt := 31) hx hb dX11_open_22 (by decide) (fun hc7 => ?_) (fun hc7 => ?_)
      · replace h := ift h hc7
        refine lv_aload_n hx hb dX11_open_31 rfl (lv_at hl 1 rfl) ?_
        refine lv_iload_n hx hb dX11_open_32 rfl (lv_at hl 2 rfl) ?_
        obtain ⟨x8, hx8, h⟩ := bnd h
        refine w_aP X hH hx8 (by decide) (k := 5) rfl dX11_open_33 ?_
        refine lv_iload_n hx hb dX11_open_34 rfl (lv_at hl 3 rfl) ?_
        refine lv_iload hx hb dX11_open_35 (lv_at hl 4 rfl) ?_
        obtain ⟨x9, hx9, h⟩ := bnd h
        refine iv_X11_350 l X hH hRL (by decide) hx9 hl.1 (Nat.le_of_ble_eq_true rfl) dX11_open_37 hcs (fun H locs hH => ?_)
        refine lv_iload_n hx hb dX11_open_40 rfl (lv_at hl 3 rfl) ?_
        exact eI X hH h hr dX11_open_41 (Nat.le_of_ble_eq_true rfl) (Nat.le_of_ble_eq_true rfl)
      · replace h := iff' h hc7
        refine lv_aload_n hx hb dX11_open_25 rfl (lv_at hl 0 rfl) ?_
        refine lv_iconst (v := 5) hx hb dX11_open_26 (by decide) ?_
        obtain ⟨x10, hx10, h⟩ := bnd h
        refine iv_X11_111 l X hH hRL (by decide) hx10 hl.1 (Nat.le_of_ble_eq_true rfl) dX11_open_27 hcs (fun H locs hH => ?_)
        exact eI X hH h hr dX11_open_30 (Nat.le_of_ble_eq_true rfl) (Nat.le_of_ble_eq_true rfl)
    · replace h := iff' h hc6
      refine lv_iconst (v := -1) hx hb dX11_open_19 (by decide) ?_
      exact eI X hH h hr dX11_open_20 (Nat.le_of_ble_eq_true rfl) (Nat.le_of_ble_eq_true rfl)
