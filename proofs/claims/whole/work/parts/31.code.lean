set_option maxHeartbeats 4000000 in
set_option maxRecDepth 100000 in
theorem w_X12_noon_19 {p : Program} {e : Env} {R : Room} {s : State} {m : MethodId} {args : Array Value} {below : List Frame} {meth : Method} {c : Code} {cells slots : Nat} {Q : State → Prop} {G : CG} (l : Launch) (X : Cx p s m args meth c cX12_noon 4 RX12 G) (hRL : RmL R 3) (hcs : cells ≤ R.cells ∧ slots ≤ R.slots) : ∀ (n : Nat) (v0 : Nat) (v1 : Int32) (v2 : Int32) (v3 : Int32) (μ : Mm) (x : Nat × Int32), lp_X12_noon_19 n v0 v1 v2 v3 μ = some x → (∀ (H : Heap) (locs : List Loc) (ls : Array Slot), x.1 = 0 → HS G s μ H locs → lv_has ls 4 [(3, .int x.2)] → W p l e R s m args below meth c H locs cells slots Q (F0 m 42 ls [])) → (∀ (H : Heap) (locs : List Loc) (ls : Array Slot), x.1 = 1 → HS G s μ H locs → lv_has ls 4 [] → W p l e R s m args below meth c H locs cells slots Q (F0 m 50 ls [])) → ∀ (H : Heap) (locs : List Loc) (ls : Array Slot), HS G s μ H locs → lv_has ls 4 [(0, .ref v0), (1, .int v1), (2, .int v2), (3, .int v3)] → W p l e R s m args below meth c H locs cells slots Q (F0 m 19 ls []) := by
  have hx := X.1
  have hb := X.2.1
  have hown := X.2.2.2.1
  have hts := X.2.2.2.2.1
  intro n
  induction n with
  | zero =>
    intro v0 v1 v2 v3 μ x h
    rw [lp_X12_noon_19] at h
    cases h
  | succ n ih =>
    intro v0 v1 v2 v3 μ x h k0 k1 H locs ls hH hl
    rw [lp_X12_noon_19] at h
    refine lv_iload_n hx hb dX12_noon_19 rfl (lv_at hl 3 rfl) ?_
    refine lv_bipush (v := 60) hx hb dX12_noon_20 (by decide) ?_
    refine lv_icmp_gt (tgt := 50) hx hb dX12_noon_22 (by decide) (fun hc5 => ?_) (fun hc5 => ?_)
    · replace h := ift h hc5
      cases h
      exact k1 _ _ _ rfl hH (lv_sub hl [] rfl)
    · replace h := iff' h hc5
      refine lv_iload_n hx hb dX12_noon_25 rfl (lv_at hl 2 rfl) ?_
      refine lv_aload_n hx hb dX12_noon_26 rfl (lv_at hl 0 rfl) ?_
      refine lv_iload_n hx hb dX12_noon_27 rfl (lv_at hl 1 rfl) ?_
      obtain ⟨x6, hx6, h⟩ := bnd h
      refine iv_X12_186 l X hH hRL (by decide) hx6 hl.1 (Nat.le_of_ble_eq_true rfl) dX12_noon_28 hcs (fun H locs hH => ?_)
      refine lv_iadd hx hb dX12_noon_31 ?_
      refine lv_aload_n hx hb dX12_noon_32 rfl (lv_at hl 0 rfl) ?_
      obtain ⟨x7, hx7, h⟩ := bnd h
      refine gf_X12_171 X hH hx7 dX12_noon_33 ?_
      obtain ⟨hd8, h⟩ := gsf h
      refine lv_irem hx hb dX12_noon_36 hd8 ?_
      refine lv_istore_n (lv' := [(2, .int ((v2 + x6) - (v2 + x6) / x7 * x7)), (0, .ref v0), (1, .int v1), (3, .int v3)]) hx hb dX12_noon_37 rfl hl (by decide) rfl (fun ls hl => ?_)
      refine lv_iload_n hx hb dX12_noon_38 rfl (lv_at hl 0 rfl) ?_
      refine lv_if_ne (tgt := 44) hx hb dX12_noon_39 (by decide) (fun hc9 => ?_) (fun hc9 => ?_)
      · replace h := iff' h hc9
        refine lv_iinc (v := (v3 + 1)) (lv' := [(3, .int (v3 + 1)), (2, .int ((v2 + x6) - (v2 + x6) / x7 * x7)), (0, .ref v0), (1, .int v1)]) hx hb dX12_noon_44 hl (k := 3) rfl rfl (by decide) rfl (fun ls hl => ?_)
        refine lv_goto (tgt := 19) hx hb dX12_noon_47 (by decide) ?_
        exact ih _ _ _ _ _ _ h k0 k1 _ _ _ hH (lv_sub hl [2, 3, 1, 0] rfl)
      · replace h := ift h hc9
        cases h
        exact k0 _ _ _ rfl hH (lv_sub hl [3] rfl)
theorem t_X12_noon {μ : Mm} {a0 : Nat} {p1 : Int32} {x : Int32} (h : f_X12_noon μ a0 p1 = some x) : tg μ a0 = 13 := by
  unfold f_X12_noon at h
  exact (gsn h).1
set_option maxHeartbeats 4000000 in
set_option maxRecDepth 100000 in
theorem c_X12_noon (l : Launch) (G : CG) (μ : Mm) (a0 : Nat) (p1 : Int32) (x : Int32) (h : f_X12_noon μ a0 p1 = some x) : Met l yX12_noon (.code yX12_noon cX12_noon 4 (some .int) :: UW) (rmk 3 0 0) (PC G [.ref a0, .int p1] μ) (QI G x μ) 0 0 (fA G) := by
  refine Met.ofW (cc := cX12_noon) (maxL := 4) (ret := (some .int)) (by decide) rfl ?_
  intro p e s m args below meth c s₁ B hml hv
  obtain ⟨X, hH, hr, rfl, hnm⟩ := cx_in B hml hv
  have X : Cx p s m _ meth c cX12_noon 4 RX12 G := X
  have hx := X.1
  have hb := X.2.1
  have hown := X.2.2.2.1
  have hts := X.2.2.2.2.1
  have hRL : RmL (rmk 3 0 0) 3 := ⟨Nat.le_refl _, Nat.le_refl _⟩
  have hcs : 0 ≤ (rmk 0 0 0).cells ∧ 0 ≤ (rmk 0 0 0).slots := ⟨Nat.zero_le _, Nat.zero_le _⟩
  refine ls_in (Nat.le_of_ble_eq_true rfl) (fun ls hl => ?_)
  have hl : lv_has ls 4 [(0, .ref a0), (1, .int p1)] := hl
  unfold f_X12_noon at h
  obtain ⟨htg, h⟩ := gsn h
  refine lv_aload_n hx hb dX12_noon_0 rfl (lv_at hl 0 rfl) ?_
  refine lv_iload_n hx hb dX12_noon_1 rfl (lv_at hl 1 rfl) ?_
  obtain ⟨x1, hx1, h⟩ := bnd h
  refine iv_X12_189 l X hH hRL (by decide) hx1 hl.1 (Nat.le_of_ble_eq_true rfl) dX12_noon_2 hcs (fun H locs hH => ?_)
  refine lv_if_ne (tgt := 10) hx hb dX12_noon_5 (by decide) (fun hc2 => ?_) (fun hc2 => ?_)
  · replace h := iff' h hc2
    refine lv_aload_n hx hb dX12_noon_10 rfl (lv_at hl 0 rfl) ?_
    obtain ⟨x3, hx3, h⟩ := bnd h
    refine gf_X12_45 X hH hx3 dX12_noon_11 ?_
    refine lv_iconst (v := 0) hx hb dX12_noon_14 (by decide) ?_
    obtain ⟨x4, hx4, h⟩ := bnd h
    refine w_aI X hH hx4 dX12_noon_15 ?_
    refine lv_istore_n (lv' := [(2, .int x4), (0, .ref a0), (1, .int p1)]) hx hb dX12_noon_16 rfl hl (by decide) rfl (fun ls hl => ?_)
    refine lv_iconst (v := 1) hx hb dX12_noon_17 (by decide) ?_
    refine lv_istore_n (lv' := [(3, .int (1 : Int32)), (2, .int x4), (0, .ref a0), (1, .int p1)]) hx hb dX12_noon_18 rfl hl (by decide) rfl (fun ls hl => ?_)
    obtain ⟨x10, hx10, hhx10⟩ := bnd h
    clear h
    refine w_X12_noon_19 l X hRL hcs BIG a0 p1 x4 (1 : Int32) μ x10 hx10 (fun H locs ls hj hH hl => ?_) (fun H locs ls hj hH hl => ?_) _ _ _ hH (lv_sub hl [2, 3, 1, 0] rfl)
    · have h := hhx10
      clear hhx10
      replace h := ift h hj
      refine lv_iload_n hx hb dX12_noon_42 rfl (lv_at hl 0 rfl) ?_
      exact eIp X hH h hr dX12_noon_43
    · have h := hhx10
      clear hhx10
      replace h := iff' h (by rw [hj]; decide)
      refine lv_bipush (v := -9) hx hb dX12_noon_50 (by decide) ?_
      exact eIp X hH h hr dX12_noon_52
  · replace h := ift h hc2
    refine lv_iconst (v := -1) hx hb dX12_noon_8 (by decide) ?_
    exact eIp X hH h hr dX12_noon_9
set_option maxHeartbeats 4000000 in
set_option maxRecDepth 100000 in
theorem w_X12_both_56 {p : Program} {e : Env} {R : Room} {s : State} {m : MethodId} {args : Array Value} {below : List Frame} {meth : Method} {c : Code} {cells slots : Nat} {Q : State → Prop} {G : CG} (l : Launch) (X : Cx p s m args meth c cX12_both 9 RX12 G) (hRL : RmL R 3) (hcs : cells ≤ R.cells ∧ slots ≤ R.slots) : ∀ (n : Nat) (v0 : Nat) (v2 : Int32) (v4 : Int32) (v5 : Int32) (v6 : Int32) (v7 : Int32) (v8 : Int32) (μ : Mm) (x : Nat × Int32 × Int32), lp_X12_both_56 n v0 v2 v4 v5 v6 v7 v8 μ = some x → (∀ (H : Heap) (locs : List Loc) (ls : Array Slot), x.1 = 0 → HS G s μ H locs → lv_has ls 9 [(0, .ref v0), (7, .int x.2.1), (8, .int x.2.2)] → W p l e R s m args below meth c H locs cells slots Q (F0 m 110 ls [])) → (∀ (H : Heap) (locs : List Loc) (ls : Array Slot), x.1 = 1 → HS G s μ H locs → lv_has ls 9 [] → W p l e R s m args below meth c H locs cells slots Q (F0 m 125 ls [])) → ∀ (H : Heap) (locs : List Loc) (ls : Array Slot), HS G s μ H locs → lv_has ls 9 [(0, .ref v0), (2, .int v2), (4, .int v4), (5, .int v5), (6, .int v6), (7, .int v7), (8, .int v8)] → W p l e R s m args below meth c H locs cells slots Q (F0 m 56 ls []) := by
  have hx := X.1
  have hb := X.2.1
  have hown := X.2.2.2.1
  have hts := X.2.2.2.2.1
  intro n
  induction n with
  | zero =>
    intro v0 v2 v4 v5 v6 v7 v8 μ x h
    rw [lp_X12_both_56] at h
    cases h
  | succ n ih =>
    intro v0 v2 v4 v5 v6 v7 v8 μ x h k0 k1 H locs ls hH hl
    rw [lp_X12_both_56] at h
    refine lv_iload hx hb dX12_both_56 (lv_at hl 6 rfl) ?_
    refine lv_sipush (v := 3600) hx hb dX12_both_58 (by decide) ?_
    refine lv_icmp_gt (tgt := 125) hx hb dX12_both_61 (by decide) (fun hc10 => ?_) (fun hc10 => ?_)
    · replace h := ift h hc10
      cases h
      exact k1 _ _ _ rfl hH (lv_sub hl [] rfl)
    · replace h := iff' h hc10
      refine lv_iload hx hb dX12_both_64 (lv_at hl 5 rfl) ?_
      refine lv_iload hx hb dX12_both_66 (lv_at hl 3 rfl) ?_
      refine lv_iload hx hb dX12_both_68 (lv_at hl 2 rfl) ?_
      refine lv_iadd hx hb dX12_both_70 ?_
      refine lv_aload_n hx hb dX12_both_71 rfl (lv_at hl 0 rfl) ?_
      obtain ⟨x11, hx11, h⟩ := bnd h
      refine gf_X12_171 X hH hx11 dX12_both_72 ?_
      obtain ⟨hd12, h⟩ := gsf h
      refine lv_idiv hx hb dX12_both_75 hd12 ?_
      refine lv_iadd hx hb dX12_both_76 ?_
      refine lv_istore (lv' := [(7, .int (v7 + ((v5 + v4) / x11))), (0, .ref v0), (2, .int v2), (4, .int v4), (5, .int v5), (6, .int v6), (8, .int v8)]) hx hb dX12_both_77 hl (by decide) rfl (fun ls hl => ?_)
      refine lv_iload hx hb dX12_both_79 (lv_at hl 4 rfl) ?_
      refine lv_iload hx hb dX12_both_81 (lv_at hl 3 rfl) ?_
      refine lv_iadd hx hb dX12_both_83 ?_
      refine lv_aload_n hx hb dX12_both_84 rfl (lv_at hl 1 rfl) ?_
      obtain ⟨x13, hx13, h⟩ := bnd h
      refine gf_X12_171 X hH hx13 dX12_both_85 ?_
      obtain ⟨hd14, h⟩ := gsf h
      refine lv_irem hx hb dX12_both_88 hd14 ?_
      refine lv_istore (lv' := [(5, .int ((v5 + v4) - (v5 + v4) / x13 * x13)), (7, .int (v7 + ((v5 + v4) / x11))), (0, .ref v0), (2, .int v2), (4, .int v4), (6, .int v6), (8, .int v8)]) hx hb dX12_both_89 hl (by decide) rfl (fun ls hl => ?_)
      refine lv_iload hx hb dX12_both_91 (lv_at hl 5 rfl) ?_
      refine lv_iload hx hb dX12_both_93 (lv_at hl 4 rfl) ?_
      refine lv_iadd hx hb dX12_both_95 ?_
      refine lv_iload_n hx hb dX12_both_96 rfl (lv_at hl 3 rfl) ?_
      obtain ⟨hd15, h⟩ := gsf h
      refine lv_irem hx hb dX12_both_97 hd15 ?_
      refine lv_istore (lv' := [(6, .int ((v6 + v4) - (v6 + v4) / v2 * v2)), (5, .int ((v5 + v4) - (v5 + v4) / x13 * x13)), (7, .int (v7 + ((v5 + v4) / x11))), (0, .ref v0), (2, .int v2), (4, .int v4), (8, .int v8)]) hx hb dX12_both_98 hl (by decide) rfl (fun ls hl => ?_)
      refine lv_iload hx hb dX12_both_100 (lv_at hl 1 rfl) ?_
      refine lv_if_ne (tgt := 119) hx hb dX12_both_102 (by decide) (fun hc16 => ?_) (fun hc16 => ?_)
      · replace h := iff' h hc16
        refine lv_iinc (v := (v8 + 1)) (lv' := [(8, .int (v8 + 1)), (6, .int ((v6 + v4) - (v6 + v4) / v2 * v2)), (5, .int ((v5 + v4) - (v5 + v4) / x13 * x13)), (7, .int (v7 + ((v5 + v4) / x11))), (0, .ref v0), (2, .int v2), (4, .int v4)]) hx hb dX12_both_119 hl (k := 6) rfl rfl (by decide) rfl (fun ls hl => ?_)
        refine lv_goto (tgt := 56) hx hb dX12_both_122 (by decide) ?_
        exact ih _ _ _ _ _ _ _ _ _ h k0 k1 _ _ _ hH (lv_sub hl [4, 5, 6, 2, 1, 3, 0] rfl)
      · replace h := ift h hc16
        refine lv_iload hx hb dX12_both_105 (lv_at hl 0 rfl) ?_
        refine lv_if_ne (tgt := 119) hx hb dX12_both_107 (by decide) (fun hc17 => ?_) (fun hc17 => ?_)
        · replace h := iff' h hc17
          refine lv_iinc (v := (v8 + 1)) (lv' := [(8, .int (v8 + 1)), (6, .int ((v6 + v4) - (v6 + v4) / v2 * v2)), (5, .int ((v5 + v4) - (v5 + v4) / x13 * x13)), (7, .int (v7 + ((v5 + v4) / x11))), (0, .ref v0), (2, .int v2), (4, .int v4)]) hx hb dX12_both_119 hl (k := 6) rfl rfl (by decide) rfl (fun ls hl => ?_)
          refine lv_goto (tgt := 56) hx hb dX12_both_122 (by decide) ?_
          exact ih _ _ _ _ _ _ _ _ _ h k0 k1 _ _ _ hH (lv_sub hl [4, 5, 6, 2, 1, 3, 0] rfl)
        · replace h := ift h hc17
          cases h
          exact k0 _ _ _ rfl hH (lv_sub hl [3, 2, 6] rfl)
theorem t_X12_both {μ : Mm} {a0 : Nat} {p1 : Int32} {p2 : Int32} {p3 : Int32} {x : Int32 × Mm} (h : f_X12_both μ a0 p1 p2 p3 = some x) : tg μ a0 = 13 := by
  unfold f_X12_both at h
  exact (gsn h).1
set_option maxHeartbeats 4000000 in
set_option maxRecDepth 100000 in
theorem c_X12_both (l : Launch) (G : CG) (μ : Mm) (a0 : Nat) (p1 : Int32) (p2 : Int32) (p3 : Int32) (x : Int32 × Mm) (h : f_X12_both μ a0 p1 p2 p3 = some x) : Met l yX12_both (.code yX12_both cX12_both 9 (some .int) :: UW) (rmk 3 0 0) (PC G [.ref a0, .int p1, .int p2, .int p3] μ) (QI G x.1 x.2) 0 0 (fA G) := by
  refine Met.ofW (cc := cX12_both) (maxL := 9) (ret := (some .int)) (by decide) rfl ?_
  intro p e s m args below meth c s₁ B hml hv
  obtain ⟨X, hH, hr, rfl, hnm⟩ := cx_in B hml hv
  have X : Cx p s m _ meth c cX12_both 9 RX12 G := X
  have hx := X.1
  have hb := X.2.1
  have hown := X.2.2.2.1
  have hts := X.2.2.2.2.1
  have hRL : RmL (rmk 3 0 0) 3 := ⟨Nat.le_refl _, Nat.le_refl _⟩
  have hcs : 0 ≤ (rmk 0 0 0).cells ∧ 0 ≤ (rmk 0 0 0).slots := ⟨Nat.zero_le _, Nat.zero_le _⟩
  refine ls_in (Nat.le_of_ble_eq_true rfl) (fun ls hl => ?_)
  have hl : lv_has ls 9 [(0, .ref a0), (1, .int p1), (2, .int p2), (3, .int p3)] := hl
  unfold f_X12_both at h
  obtain ⟨htg, h⟩ := gsn h
  refine lv_aload_n hx hb dX12_both_0 rfl (lv_at hl 0 rfl) ?_
  refine lv_iload_n hx hb dX12_both_1 rfl (lv_at hl 1 rfl) ?_
  obtain ⟨x1, hx1, h⟩ := bnd h
  refine iv_X12_189 l X hH hRL (by decide) hx1 hl.1 (Nat.le_of_ble_eq_true rfl) dX12_both_2 hcs (fun H locs hH => ?_)
  refine lv_if_eq (tgt := 30) hx hb dX12_both_5 (by decide) (fun hc2 => ?_) (fun hc2 => ?_)
  · replace h := ift h hc2
    refine lv_iconst (v := -1) hx hb dX12_both_30 (by decide) ?_
    exact eI X hH h hr dX12_both_31 (Nat.le_of_ble_eq_true rfl) (Nat.le_of_ble_eq_true rfl)
  · replace h := iff' h hc2
    refine lv_iload_n hx hb dX12_both_8 rfl (lv_at hl 2 rfl) ?_
    refine lv_bipush (v := 12) hx hb dX12_both_9 (by decide) ?_
    refine lv_bipush (v := 60) hx hb dX12_both_11 (by decide) ?_
    obtain ⟨x3, hx3, h⟩ := bnd h
    refine iv_X12_96 l X hH hRL (by decide) hx3 hl.1 (Nat.le_of_ble_eq_true rfl) dX12_both_13 hcs (fun H locs hH => ?_)
    refine lv_if_eq (tgt := 30) hx hb dX12_both_16 (by decide) (fun hc4 => ?_) (fun hc4 => ?_)
    · replace h := ift h hc4
      refine lv_iconst (v := -1) hx hb dX12_both_30 (by decide) ?_
      exact eI X hH h hr dX12_both_31 (Nat.le_of_ble_eq_true rfl) (Nat.le_of_ble_eq_true rfl)
    · replace h := iff' h hc4
      refine lv_iload_n hx hb dX12_both_19 rfl (lv_at hl 3 rfl) ?_
      refine lv_iconst (v := 0) hx hb dX12_both_20 (by decide) ?_
      refine lv_iload_n hx hb dX12_both_21 rfl (lv_at hl 2 rfl) ?_
      refine lv_iconst (v := 1) hx hb dX12_both_22 (by decide) ?_
      refine lv_isub hx hb dX12_both_23 ?_
      obtain ⟨x5, hx5, h⟩ := bnd h
      refine iv_X12_96 l X hH hRL (by decide) hx5 hl.1 (Nat.le_of_ble_eq_true rfl) dX12_both_24 hcs (fun H locs hH => ?_)
      refine lv_if_ne (tgt := 32) hx hb dX12_both_27 (by decide) (fun hc6 => ?_) (fun hc6 => ?_)
      · replace h := iff' h hc6
        refine lv_aload_n hx hb dX12_both_32 rfl (lv_at hl 0 rfl) ?_
        refine lv_iload_n hx hb dX12_both_33 rfl (lv_at hl 1 rfl) ?_
        obtain ⟨x7, hx7, h⟩ := bnd h
        refine iv_X12_186 l X hH hRL (by decide) hx7 hl.1 (Nat.le_of_ble_eq_true rfl) dX12_both_34 hcs (fun H locs hH => ?_)
        refine lv_istore (lv' := [(4, .int x7), (0, .ref a0), (1, .int p1), (2, .int p2), (3, .int p3)]) hx hb dX12_both_37 hl (by decide) rfl (fun ls hl => ?_)
        refine lv_aload_n hx hb dX12_both_39 rfl (lv_at hl 1 rfl) ?_
        obtain ⟨x8, hx8, h⟩ := bnd h
        refine gf_X12_45 X hH hx8 dX12_both_40 ?_
        refine lv_iconst (v := 0) hx hb dX12_both_43 (by decide) ?_
        obtain ⟨x9, hx9, h⟩ := bnd h
        refine w_aI X hH hx9 dX12_both_44 ?_
        refine lv_istore (lv' := [(5, .int x9), (4, .int x7), (0, .ref a0), (1, .int p1), (2, .int p2), (3, .int p3)]) hx hb dX12_both_45 hl (by decide) rfl (fun ls hl => ?_)
        refine lv_iload_n hx hb dX12_both_47 rfl (lv_at hl 5 rfl) ?_
        refine lv_istore (lv' := [(6, .int p3), (5, .int x9), (4, .int x7), (0, .ref a0), (1, .int p1), (2, .int p2), (3, .int p3)]) hx hb dX12_both_48 hl (by decide) rfl (fun ls hl => ?_)
        refine lv_iconst (v := 0) hx hb dX12_both_50 (by decide) ?_
        refine lv_istore (lv' := [(7, .int (0 : Int32)), (6, .int p3), (5, .int x9), (4, .int x7), (0, .ref a0), (1, .int p1), (2, .int p2), (3, .int p3)]) hx hb dX12_both_51 hl (by decide) rfl (fun ls hl => ?_)
        refine lv_iconst (v := 1) hx hb dX12_both_53 (by decide) ?_
        refine lv_istore (lv' := [(8, .int (1 : Int32)), (7, .int (0 : Int32)), (6, .int p3), (5, .int x9), (4, .int x7), (0, .ref a0), (1, .int p1), (2, .int p2), (3, .int p3)]) hx hb dX12_both_54 hl (by decide) rfl (fun ls hl => ?_)
        obtain ⟨x18, hx18, hhx18⟩ := bnd h
        clear h
        refine w_X12_both_56 l X hRL hcs BIG a0 p2 x7 x9 p3 (0 : Int32) (1 : Int32) μ x18 hx18 (fun H locs ls hj hH hl => ?_) (fun H locs ls hj hH hl => ?_) _ _ _ hH (lv_sub hl [5, 7, 4, 3, 2, 1, 0] rfl)
        · have h := hhx18
          clear hhx18
          replace h := ift h hj
          refine lv_aload_n hx hb dX12_both_110 rfl (lv_at hl 0 rfl) ?_
          refine lv_iload hx hb dX12_both_111 (lv_at hl 1 rfl) ?_
          refine lv_iload hx hb dX12_both_113 (lv_at hl 2 rfl) ?_
          obtain ⟨x19, hx19, h⟩ := bnd h
          refine iv_X12_118 l X hH hRL (by decide) hx19 hl.1 (Nat.le_of_ble_eq_true rfl) dX12_both_115 hcs (fun H locs hH => ?_)
          exact eI X hH h hr dX12_both_118 (Nat.le_of_ble_eq_true rfl) (Nat.le_of_ble_eq_true rfl)
        · have h := hhx18
          clear hhx18
          replace h := iff' h (by rw [hj]; decide)
          refine lv_bipush (v := -9) hx hb dX12_both_125 (by decide) ?_
          exact eI X hH h hr dX12_both_127 (Nat.le_of_ble_eq_true rfl) (Nat.le_of_ble_eq_true rfl)
      · replace h := ift h hc6
        refine lv_iconst (v := -1) hx hb dX12_both_30 (by decide) ?_
        exact eI X hH h hr dX12_both_31 (Nat.le_of_ble_eq_true rfl) (Nat.le_of_ble_eq_true rfl)
set_option maxHeartbeats 4000000 in
set_option maxRecDepth 100000 in
theorem w_X12_rent_26 {p : Program} {e : Env} {R : Room} {s : State} {m : MethodId} {args : Array Value} {below : List Frame} {meth : Method} {c : Code} {cells slots : Nat} {Q : State → Prop} {G : CG} (l : Launch) (X : Cx p s m args meth c cX12_rent 5 RX12 G) (hRL : RmL R 3) (hcs : cells ≤ R.cells ∧ slots ≤ R.slots) : ∀ (n : Nat) (v0 : Nat) (v2 : Int32) (v3 : Int32) (v4 : Int32) (μ : Mm) (x : Nat × Int32), lp_X12_rent_26 n v0 v2 v3 v4 μ = some x → (∀ (H : Heap) (locs : List Loc) (ls : Array Slot), x.1 = 0 → HS G s μ H locs → lv_has ls 5 [(0, .ref v0), (2, .int v2), (4, .int x.2)] → W p l e R s m args below meth c H locs cells slots Q (F0 m 50 ls [])) → (∀ (H : Heap) (locs : List Loc) (ls : Array Slot), x.1 = 1 → HS G s μ H locs → lv_has ls 5 [] → W p l e R s m args below meth c H locs cells slots Q (F0 m 67 ls [])) → ∀ (H : Heap) (locs : List Loc) (ls : Array Slot), HS G s μ H locs → lv_has ls 5 [(0, .ref v0), (2, .int v2), (3, .int v3), (4, .int v4)] → W p l e R s m args below meth c H locs cells slots Q (F0 m 26 ls []) := by
  have hx := X.1
  have hb := X.2.1
  have hown := X.2.2.2.1
  have hts := X.2.2.2.2.1
  intro n
  induction n with
  | zero =>
    intro v0 v2 v3 v4 μ x h
    rw [lp_X12_rent_26] at h
    cases h
  | succ n ih =>
    intro v0 v2 v3 v4 μ x h k0 k1 H locs ls hH hl
    rw [lp_X12_rent_26] at h
    refine lv_iload hx hb dX12_rent_26 (lv_at hl 3 rfl) ?_
    refine lv_bipush (v := 60) hx hb dX12_rent_28 (by decide) ?_
    refine lv_icmp_gt (tgt := 67) hx hb dX12_rent_30 (by decide) (fun hc6 => ?_) (fun hc6 => ?_)
    · replace h := ift h hc6
      cases h
      exact k1 _ _ _ rfl hH (lv_sub hl [] rfl)
    · replace h := iff' h hc6
      refine lv_iload_n hx hb dX12_rent_33 rfl (lv_at hl 2 rfl) ?_
      refine lv_iload_n hx hb dX12_rent_34 rfl (lv_at hl 1 rfl) ?_
      refine lv_iadd hx hb dX12_rent_35 ?_
      refine lv_aload_n hx hb dX12_rent_36 rfl (lv_at hl 0 rfl) ?_
      obtain ⟨x7, hx7, h⟩ := bnd h
      refine gf_X12_171 X hH hx7 dX12_rent_37 ?_
      obtain ⟨hd8, h⟩ := gsf h
      refine lv_irem hx hb dX12_rent_40 hd8 ?_
      refine lv_istore_n (lv' := [(3, .int ((v3 + v2) - (v3 + v2) / x7 * x7)), (0, .ref v0), (2, .int v2), (4, .int v4)]) hx hb dX12_rent_41 rfl hl (by decide) rfl (fun ls hl => ?_)
      refine lv_aload_n hx hb dX12_rent_42 rfl (lv_at hl 1 rfl) ?_
      refine lv_iload_n hx hb dX12_rent_43 rfl (lv_at hl 0 rfl) ?_
      obtain ⟨x9, hx9, h⟩ := bnd h
      refine iv_X12_208 l X hH hRL (by decide) hx9 hl.1 (Nat.le_of_ble_eq_true rfl) dX12_rent_44 hcs (fun H locs hH => ?_)
      refine lv_if_eq (tgt := 61) hx hb dX12_rent_47 (by decide) (fun hc10 => ?_) (fun hc10 => ?_)
      · replace h := ift h hc10
        refine lv_iinc (v := (v4 + 1)) (lv' := [(4, .int (v4 + 1)), (3, .int ((v3 + v2) - (v3 + v2) / x7 * x7)), (0, .ref v0), (2, .int v2)]) hx hb dX12_rent_61 hl (k := 3) rfl rfl (by decide) rfl (fun ls hl => ?_)
        refine lv_goto (tgt := 26) hx hb dX12_rent_64 (by decide) ?_
        exact ih _ _ _ _ _ _ h k0 k1 _ _ _ hH (lv_sub hl [2, 3, 1, 0] rfl)
      · replace h := iff' h hc10
        cases h
        exact k0 _ _ _ rfl hH (lv_sub hl [1, 2, 3] rfl)
theorem t_X12_rent {μ : Mm} {a0 : Nat} {p1 : Int32} {x : Int32 × Mm} (h : f_X12_rent μ a0 p1 = some x) : tg μ a0 = 13 := by
  unfold f_X12_rent at h
  exact (gsn h).1
set_option maxHeartbeats 4000000 in
set_option maxRecDepth 100000 in
theorem c_X12_rent (l : Launch) (G : CG) (μ : Mm) (a0 : Nat) (p1 : Int32) (x : Int32 × Mm) (h : f_X12_rent μ a0 p1 = some x) : Met l yX12_rent (.code yX12_rent cX12_rent 5 (some .int) :: UW) (rmk 3 0 0) (PC G [.ref a0, .int p1] μ) (QI G x.1 x.2) 0 0 (fA G) := by
  refine Met.ofW (cc := cX12_rent) (maxL := 5) (ret := (some .int)) (by decide) rfl ?_
  intro p e s m args below meth c s₁ B hml hv
  obtain ⟨X, hH, hr, rfl, hnm⟩ := cx_in B hml hv
  have X : Cx p s m _ meth c cX12_rent 5 RX12 G := X
  have hx := X.1
  have hb := X.2.1
  have hown := X.2.2.2.1
  have hts := X.2.2.2.2.1
  have hRL : RmL (rmk 3 0 0) 3 := ⟨Nat.le_refl _, Nat.le_refl _⟩
  have hcs : 0 ≤ (rmk 0 0 0).cells ∧ 0 ≤ (rmk 0 0 0).slots := ⟨Nat.zero_le _, Nat.zero_le _⟩
  refine ls_in (Nat.le_of_ble_eq_true rfl) (fun ls hl => ?_)
  have hl : lv_has ls 5 [(0, .ref a0), (1, .int p1)] := hl
  unfold f_X12_rent at h
  obtain ⟨htg, h⟩ := gsn h
  refine lv_aload_n hx hb dX12_rent_0 rfl (lv_at hl 0 rfl) ?_
  refine lv_iload_n hx hb dX12_rent_1 rfl (lv_at hl 1 rfl) ?_
  obtain ⟨x1, hx1, h⟩ := bnd h
  refine iv_X12_189 l X hH hRL (by decide) hx1 hl.1 (Nat.le_of_ble_eq_true rfl) dX12_rent_2 hcs (fun H locs hH => ?_)
  refine lv_if_ne (tgt := 10) hx hb dX12_rent_5 (by decide) (fun hc2 => ?_) (fun hc2 => ?_)
  · replace h := iff' h hc2
    refine lv_aload_n hx hb dX12_rent_10 rfl (lv_at hl 0 rfl) ?_
    refine lv_iload_n hx hb dX12_rent_11 rfl (lv_at hl 1 rfl) ?_
    obtain ⟨x3, hx3, h⟩ := bnd h
    refine iv_X12_186 l X hH hRL (by decide) hx3 hl.1 (Nat.le_of_ble_eq_true rfl) dX12_rent_12 hcs (fun H locs hH => ?_)
    refine lv_istore_n (lv' := [(2, .int x3), (0, .ref a0), (1, .int p1)]) hx hb dX12_rent_15 rfl hl (by decide) rfl (fun ls hl => ?_)
    refine lv_aload_n hx hb dX12_rent_16 rfl (lv_at hl 1 rfl) ?_
    obtain ⟨x4, hx4, h⟩ := bnd h
    refine gf_X12_45 X hH hx4 dX12_rent_17 ?_
    refine lv_iconst (v := 0) hx hb dX12_rent_20 (by decide) ?_
    obtain ⟨x5, hx5, h⟩ := bnd h
    refine w_aI X hH hx5 dX12_rent_21 ?_
    refine lv_istore_n (lv' := [(3, .int x5), (2, .int x3), (0, .ref a0), (1, .int p1)]) hx hb dX12_rent_22 rfl hl (by decide) rfl (fun ls hl => ?_)
    refine lv_iconst (v := 1) hx hb dX12_rent_23 (by decide) ?_
    refine lv_istore (lv' := [(4, .int (1 : Int32)), (3, .int x5), (2, .int x3), (0, .ref a0), (1, .int p1)]) hx hb dX12_rent_24 hl (by decide) rfl (fun ls hl => ?_)
    obtain ⟨x11, hx11, hhx11⟩ := bnd h
    clear h
    refine w_X12_rent_26 l X hRL hcs BIG a0 x3 x5 (1 : Int32) μ x11 hx11 (fun H locs ls hj hH hl => ?_) (fun H locs ls hj hH hl => ?_) _ _ _ hH (lv_sub hl [3, 2, 1, 0] rfl)
    · have h := hhx11
      clear hhx11
      replace h := ift h hj
      refine lv_aload_n hx hb dX12_rent_50 rfl (lv_at hl 0 rfl) ?_
      refine lv_iload_n hx hb dX12_rent_51 rfl (lv_at hl 1 rfl) ?_
      refine lv_iload hx hb dX12_rent_52 (lv_at hl 2 rfl) ?_
      refine lv_imul hx hb dX12_rent_54 ?_
      refine lv_iload hx hb dX12_rent_55 (lv_at hl 2 rfl) ?_
      obtain ⟨x12, hx12, h⟩ := bnd h
      refine iv_X12_118 l X hH hRL (by decide) hx12 hl.1 (Nat.le_of_ble_eq_true rfl) dX12_rent_57 hcs (fun H locs hH => ?_)
      exact eI X hH h hr dX12_rent_60 (Nat.le_of_ble_eq_true rfl) (Nat.le_of_ble_eq_true rfl)
    · have h := hhx11
      clear hhx11
      replace h := iff' h (by rw [hj]; decide)
      refine lv_bipush (v := -9) hx hb dX12_rent_67 (by decide) ?_
      exact eI X hH h hr dX12_rent_69 (Nat.le_of_ble_eq_true rfl) (Nat.le_of_ble_eq_true rfl)
  · replace h := ift h hc2
    refine lv_iconst (v := -1) hx hb dX12_rent_8 (by decide) ?_
    exact eI X hH h hr dX12_rent_9 (Nat.le_of_ble_eq_true rfl) (Nat.le_of_ble_eq_true rfl)
set_option maxHeartbeats 4000000 in
set_option maxRecDepth 100000 in
theorem w_X12_odds_25 {p : Program} {e : Env} {R : Room} {s : State} {m : MethodId} {args : Array Value} {below : List Frame} {meth : Method} {c : Code} {cells slots : Nat} {Q : State → Prop} {G : CG} (l : Launch) (X : Cx p s m args meth c cX12_odds 8 RX12 G) (hRL : RmL R 3) (hcs : cells ≤ R.cells ∧ slots ≤ R.slots) : ∀ (n : Nat) (v0 : Nat) (v1 : Int32) (v2 : Int32) (v3 : Int64) (v5 : Int32) (μ : Mm) (x : Mm), lp_X12_odds_25 n v0 v1 v2 v3 v5 μ = some x → (∀ (H : Heap) (locs : List Loc) (ls : Array Slot), HS G s x H locs → lv_has ls 8 [(0, .ref v0), (1, .int v1), (2, .int v2), (3, .long v3)] → W p l e R s m args below meth c H locs cells slots Q (F0 m 63 ls [])) → ∀ (H : Heap) (locs : List Loc) (ls : Array Slot), HS G s μ H locs → lv_has ls 8 [(0, .ref v0), (1, .int v1), (2, .int v2), (3, .long v3), (5, .int v5)] → W p l e R s m args below meth c H locs cells slots Q (F0 m 25 ls []) := by
  have hx := X.1
  have hb := X.2.1
  have hown := X.2.2.2.1
  have hts := X.2.2.2.2.1
  intro n
  induction n with
  | zero =>
    intro v0 v1 v2 v3 v5 μ x h
    rw [lp_X12_odds_25] at h
    cases h
  | succ n ih =>
    intro v0 v1 v2 v3 v5 μ x h k0 H locs ls hH hl
    rw [lp_X12_odds_25] at h
    refine lv_iload hx hb dX12_odds_25 (lv_at hl 4 rfl) ?_
    refine lv_aload_n hx hb dX12_odds_27 rfl (lv_at hl 0 rfl) ?_
    obtain ⟨x5, hx5, h⟩ := bnd h
    refine gf_X12_171 X hH hx5 dX12_odds_28 ?_
    refine lv_icmp_ge (tgt := 63) hx hb dX12_odds_31 (by decide) (fun hc6 => ?_) (fun hc6 => ?_)
    · replace h := ift h hc6
      cases h
      exact k0 _ _ _ hH (lv_sub hl [0, 1, 2, 3] rfl)
    · replace h := iff' h hc6
      refine lv_aload_n hx hb dX12_odds_34 rfl (lv_at hl 0 rfl) ?_
      obtain ⟨x7, hx7, h⟩ := bnd h
      refine gf_X12_85 X hH hx7 dX12_odds_35 ?_
      refine lv_iload hx hb dX12_odds_38 (lv_at hl 4 rfl) ?_
      refine lv_iload hx hb dX12_odds_40 (lv_at hl 4 rfl) ?_
      refine lv_aload_n hx hb dX12_odds_42 rfl (lv_at hl 0 rfl) ?_
      obtain ⟨x8, hx8, h⟩ := bnd h
      refine gf_X12_45 X hH hx8 dX12_odds_43 ?_
      refine lv_iconst (v := 0) hx hb dX12_odds_46 (by decide) ?_
      obtain ⟨x9, hx9, h⟩ := bnd h
      refine w_aI X hH hx9 dX12_odds_47 ?_
      refine lv_icmp_ne (tgt := 55) hx hb dX12_odds_48 (by decide) (fun hc10 => ?_) (fun hc10 => ?_)
      · replace h := iff' h hc10
        refine lv_lconst (v := 0) hx hb dX12_odds_55 (by decide) ?_
        obtain ⟨x11, hx11, h⟩ := bnd h
        refine w_qL X hH hx11 dX12_odds_56 (fun H locs hH => ?_)
        refine lv_iinc (v := (v5 + 1)) (lv' := [(5, .int (v5 + 1)), (0, .ref v0), (1, .int v1), (2, .int v2), (3, .long v3)]) hx hb dX12_odds_57 hl (k := 4) rfl rfl (by decide) rfl (fun ls hl => ?_)
        refine lv_goto (tgt := 25) hx hb dX12_odds_60 (by decide) ?_
        exact ih _ _ _ _ _ _ _ h k0 _ _ _ hH (lv_sub hl [1, 2, 3, 4, 0] rfl)
      · replace h := ift h hc10
        refine lv_lconst (v := 1) hx hb dX12_odds_51 (by decide) ?_
        refine lv_goto (tgt := 56) hx hb dX12_odds_52 (by decide) ?_
        obtain ⟨x12, hx12, h⟩ := bnd h
        refine w_qL X hH hx12 dX12_odds_56 (fun H locs hH => ?_)
        refine lv_iinc (v := (v5 + 1)) (lv' := [(5, .int (v5 + 1)), (0, .ref v0), (1, .int v1), (2, .int v2), (3, .long v3)]) hx hb dX12_odds_57 hl (k := 4) rfl rfl (by decide) rfl (fun ls hl => ?_)
        refine lv_goto (tgt := 25) hx hb dX12_odds_60 (by decide) ?_
        exact ih _ _ _ _ _ _ _ h k0 _ _ _ hH (lv_sub hl [1, 2, 3, 4, 0] rfl)
set_option maxHeartbeats 4000000 in
set_option maxRecDepth 100000 in
theorem w_X12_odds_75 {p : Program} {e : Env} {R : Room} {s : State} {m : MethodId} {args : Array Value} {below : List Frame} {meth : Method} {c : Code} {cells slots : Nat} {Q : State → Prop} {G : CG} (l : Launch) (X : Cx p s m args meth c cX12_odds 8 RX12 G) (hRL : RmL R 3) (hcs : cells ≤ R.cells ∧ slots ≤ R.slots) : ∀ (n : Nat) (v0 : Nat) (v1 : Int32) (v2 : Int32) (v3 : Int64) (v5 : Int32) (v6 : Int32) (μ : Mm) (x : Mm), lp_X12_odds_75 n v0 v1 v2 v3 v5 v6 μ = some x → (∀ (H : Heap) (locs : List Loc) (ls : Array Slot), HS G s x H locs → lv_has ls 8 [(0, .ref v0), (1, .int v1), (2, .int v2), (3, .long v3), (5, .int v5)] → W p l e R s m args below meth c H locs cells slots Q (F0 m 98 ls [])) → ∀ (H : Heap) (locs : List Loc) (ls : Array Slot), HS G s μ H locs → lv_has ls 8 [(0, .ref v0), (1, .int v1), (2, .int v2), (3, .long v3), (5, .int v5), (6, .int v6)] → W p l e R s m args below meth c H locs cells slots Q (F0 m 75 ls []) := by
  have hx := X.1
  have hb := X.2.1
  have hown := X.2.2.2.1
  have hts := X.2.2.2.2.1
  intro n
  induction n with
  | zero =>
    intro v0 v1 v2 v3 v5 v6 μ x h
    rw [lp_X12_odds_75] at h
    cases h
  | succ n ih =>
    intro v0 v1 v2 v3 v5 v6 μ x h k0 H locs ls hH hl
    rw [lp_X12_odds_75] at h
    refine lv_iload hx hb dX12_odds_75 (lv_at hl 5 rfl) ?_
    refine lv_aload_n hx hb dX12_odds_77 rfl (lv_at hl 0 rfl) ?_
    obtain ⟨x15, hx15, h⟩ := bnd h
    refine gf_X12_171 X hH hx15 dX12_odds_78 ?_
    refine lv_icmp_ge (tgt := 98) hx hb dX12_odds_81 (by decide) (fun hc16 => ?_) (fun hc16 => ?_)
    · replace h := ift h hc16
      cases h
      exact k0 _ _ _ hH (lv_sub hl [0, 1, 2, 3, 4] rfl)
    · replace h := iff' h hc16
      refine lv_aload_n hx hb dX12_odds_84 rfl (lv_at hl 0 rfl) ?_
      obtain ⟨x17, hx17, h⟩ := bnd h
      refine gf_X12_89 X hH hx17 dX12_odds_85 ?_
      refine lv_iload hx hb dX12_odds_88 (lv_at hl 5 rfl) ?_
      refine lv_lconst (v := 0) hx hb dX12_odds_90 (by decide) ?_
      obtain ⟨x18, hx18, h⟩ := bnd h
      refine w_qL X hH hx18 dX12_odds_91 (fun H locs hH => ?_)
      refine lv_iinc (v := (v6 + 1)) (lv' := [(6, .int (v6 + 1)), (0, .ref v0), (1, .int v1), (2, .int v2), (3, .long v3), (5, .int v5)]) hx hb dX12_odds_92 hl (k := 5) rfl rfl (by decide) rfl (fun ls hl => ?_)
      refine lv_goto (tgt := 75) hx hb dX12_odds_95 (by decide) ?_
      exact ih _ _ _ _ _ _ _ _ h k0 _ _ _ hH (lv_sub hl [1, 2, 3, 4, 5, 0] rfl)
set_option maxHeartbeats 4000000 in
set_option maxRecDepth 100000 in
theorem w_X12_odds_113 {p : Program} {e : Env} {R : Room} {s : State} {m : MethodId} {args : Array Value} {below : List Frame} {meth : Method} {c : Code} {cells slots : Nat} {Q : State → Prop} {G : CG} (l : Launch) (X : Cx p s m args meth c cX12_odds 8 RX12 G) (hRL : RmL R 3) (hcs : cells ≤ R.cells ∧ slots ≤ R.slots) : ∀ (n : Nat) (v0 : Nat) (v1 : Int32) (v2 : Int32) (v3 : Int64) (v5 : Int32) (v6 : Int32) (v7 : Int32) (μ : Mm) (x : Mm), lp_X12_odds_113 n v0 v1 v2 v3 v5 v6 v7 μ = some x → (∀ (H : Heap) (locs : List Loc) (ls : Array Slot), HS G s x H locs → lv_has ls 8 [(0, .ref v0), (1, .int v1), (2, .int v2), (3, .long v3), (5, .int v5), (6, .int v6)] → W p l e R s m args below meth c H locs cells slots Q (F0 m 157 ls [])) → ∀ (H : Heap) (locs : List Loc) (ls : Array Slot), HS G s μ H locs → lv_has ls 8 [(0, .ref v0), (1, .int v1), (2, .int v2), (3, .long v3), (5, .int v5), (6, .int v6), (7, .int v7)] → W p l e R s m args below meth c H locs cells slots Q (F0 m 113 ls []) := by
  have hx := X.1
  have hb := X.2.1
  have hown := X.2.2.2.1
  have hts := X.2.2.2.2.1
  intro n
  induction n with
  | zero =>
    intro v0 v1 v2 v3 v5 v6 v7 μ x h
    rw [lp_X12_odds_113] at h
    cases h
  | succ n ih =>
    intro v0 v1 v2 v3 v5 v6 v7 μ x h k0 H locs ls hH hl
    rw [lp_X12_odds_113] at h
    refine lv_iload hx hb dX12_odds_113 (lv_at hl 6 rfl) ?_
    refine lv_aload_n hx hb dX12_odds_115 rfl (lv_at hl 0 rfl) ?_
    obtain ⟨x22, hx22, h⟩ := bnd h
    refine gf_X12_168 X hH hx22 dX12_odds_116 ?_
    refine lv_icmp_ge (tgt := 157) hx hb dX12_odds_119 (by decide) (fun hc23 => ?_) (fun hc23 => ?_)
    · replace h := ift h hc23
      cases h
      exact k0 _ _ _ hH (lv_sub hl [0, 1, 2, 3, 4, 5] rfl)
    · replace h := iff' h hc23
      refine lv_aload_n hx hb dX12_odds_122 rfl (lv_at hl 0 rfl) ?_
      obtain ⟨x24, hx24, h⟩ := bnd h
      refine gf_X12_89 X hH hx24 dX12_odds_123 ?_
      refine lv_iload hx hb dX12_odds_126 (lv_at hl 5 rfl) ?_
      refine lv_aload_n hx hb dX12_odds_128 rfl (lv_at hl 0 rfl) ?_
      refine lv_iload hx hb dX12_odds_129 (lv_at hl 6 rfl) ?_
      obtain ⟨x25, hx25, h⟩ := bnd h
      refine iv_X12_186 l X hH hRL (by decide) hx25 hl.1 (Nat.le_of_ble_eq_true rfl) dX12_odds_131 hcs (fun H locs hH => ?_)
      refine lv_iadd hx hb dX12_odds_134 ?_
      refine lv_aload_n hx hb dX12_odds_135 rfl (lv_at hl 0 rfl) ?_
      obtain ⟨x26, hx26, h⟩ := bnd h
      refine gf_X12_171 X hH hx26 dX12_odds_136 ?_
      obtain ⟨hd27, h⟩ := gsf h
      refine lv_irem hx hb dX12_odds_139 hd27 ?_
      refine lv_dup2_11 hx hb dX12_odds_140 rfl rfl ?_
      obtain ⟨x28, hx28, h⟩ := bnd h
      refine w_aL X hH hx28 dX12_odds_141 ?_
      refine lv_aload_n hx hb dX12_odds_142 rfl (lv_at hl 0 rfl) ?_
      obtain ⟨x29, hx29, h⟩ := bnd h
      refine gf_X12_85 X hH hx29 dX12_odds_143 ?_
      refine lv_iload hx hb dX12_odds_146 (lv_at hl 5 rfl) ?_
      obtain ⟨x30, hx30, h⟩ := bnd h
      refine w_aL X hH hx30 dX12_odds_148 ?_
      refine lv_ladd hx hb dX12_odds_149 ?_
      obtain ⟨x31, hx31, h⟩ := bnd h
      refine w_qL X hH hx31 dX12_odds_150 (fun H locs hH => ?_)
      refine lv_iinc (v := (v7 + 1)) (lv' := [(7, .int (v7 + 1)), (0, .ref v0), (1, .int v1), (2, .int v2), (3, .long v3), (5, .int v5), (6, .int v6)]) hx hb dX12_odds_151 hl (k := 6) rfl rfl (by decide) rfl (fun ls hl => ?_)
      refine lv_goto (tgt := 113) hx hb dX12_odds_154 (by decide) ?_
      exact ih _ _ _ _ _ _ _ _ _ h k0 _ _ _ hH (lv_sub hl [1, 2, 3, 4, 5, 6, 0] rfl)
set_option maxHeartbeats 4000000 in
set_option maxRecDepth 100000 in
theorem w_X12_odds_101 {p : Program} {e : Env} {R : Room} {s : State} {m : MethodId} {args : Array Value} {below : List Frame} {meth : Method} {c : Code} {cells slots : Nat} {Q : State → Prop} {G : CG} (l : Launch) (X : Cx p s m args meth c cX12_odds 8 RX12 G) (hRL : RmL R 3) (hcs : cells ≤ R.cells ∧ slots ≤ R.slots) : ∀ (n : Nat) (v0 : Nat) (v1 : Int32) (v2 : Int32) (v3 : Int64) (v5 : Int32) (v6 : Int32) (μ : Mm) (x : Mm), lp_X12_odds_101 n v0 v1 v2 v3 v5 v6 μ = some x → (∀ (H : Heap) (locs : List Loc) (ls : Array Slot), HS G s x H locs → lv_has ls 8 [(0, .ref v0), (1, .int v1), (2, .int v2), (3, .long v3), (5, .int v5)] → W p l e R s m args below meth c H locs cells slots Q (F0 m 163 ls [])) → ∀ (H : Heap) (locs : List Loc) (ls : Array Slot), HS G s μ H locs → lv_has ls 8 [(0, .ref v0), (1, .int v1), (2, .int v2), (3, .long v3), (5, .int v5), (6, .int v6)] → W p l e R s m args below meth c H locs cells slots Q (F0 m 101 ls []) := by
  have hx := X.1
  have hb := X.2.1
  have hown := X.2.2.2.1
  have hts := X.2.2.2.2.1
  intro n
  induction n with
  | zero =>
    intro v0 v1 v2 v3 v5 v6 μ x h
    rw [lp_X12_odds_101] at h
    cases h
  | succ n ih =>
    intro v0 v1 v2 v3 v5 v6 μ x h k0 H locs ls hH hl
    rw [lp_X12_odds_101] at h
    refine lv_iload hx hb dX12_odds_101 (lv_at hl 5 rfl) ?_
    refine lv_aload_n hx hb dX12_odds_103 rfl (lv_at hl 0 rfl) ?_
    obtain ⟨x20, hx20, h⟩ := bnd h
    refine gf_X12_171 X hH hx20 dX12_odds_104 ?_
    refine lv_icmp_ge (tgt := 163) hx hb dX12_odds_107 (by decide) (fun hc21 => ?_) (fun hc21 => ?_)
    · replace h := ift h hc21
      cases h
      exact k0 _ _ _ hH (lv_sub hl [0, 1, 2, 3, 4] rfl)
    · replace h := iff' h hc21
      refine lv_iconst (v := 0) hx hb dX12_odds_110 (by decide) ?_
      refine lv_istore (lv' := [(7, .int (0 : Int32)), (0, .ref v0), (1, .int v1), (2, .int v2), (3, .long v3), (5, .int v5), (6, .int v6)]) hx hb dX12_odds_111 hl (by decide) rfl (fun ls hl => ?_)
      obtain ⟨x32, hx32, hhx32⟩ := bnd h
      clear h
      refine w_X12_odds_113 l X hRL hcs BIG v0 v1 v2 v3 v5 v6 (0 : Int32) μ x32 hx32 (fun H locs ls hH hl => ?_) _ _ _ hH (lv_sub hl [1, 2, 3, 4, 5, 6, 0] rfl)
      · have h := hhx32
        clear hhx32
        refine lv_iinc (v := (v6 + 1)) (lv' := [(6, .int (v6 + 1)), (0, .ref v0), (1, .int v1), (2, .int v2), (3, .long v3), (5, .int v5)]) hx hb dX12_odds_157 hl (k := 5) rfl rfl (by decide) rfl (fun ls hl => ?_)
        refine lv_goto (tgt := 101) hx hb dX12_odds_160 (by decide) ?_
        exact ih _ _ _ _ _ _ _ _ h k0 _ _ _ hH (lv_sub hl [1, 2, 3, 4, 5, 0] rfl)
set_option maxHeartbeats 4000000 in
set_option maxRecDepth 100000 in
theorem w_X12_odds_166 {p : Program} {e : Env} {R : Room} {s : State} {m : MethodId} {args : Array Value} {below : List Frame} {meth : Method} {c : Code} {cells slots : Nat} {Q : State → Prop} {G : CG} (l : Launch) (X : Cx p s m args meth c cX12_odds 8 RX12 G) (hRL : RmL R 3) (hcs : cells ≤ R.cells ∧ slots ≤ R.slots) : ∀ (n : Nat) (v0 : Nat) (v1 : Int32) (v2 : Int32) (v3 : Int64) (v5 : Int32) (v6 : Int32) (μ : Mm) (x : Mm), lp_X12_odds_166 n v0 v1 v2 v3 v5 v6 μ = some x → (∀ (H : Heap) (locs : List Loc) (ls : Array Slot), HS G s x H locs → lv_has ls 8 [(0, .ref v0), (1, .int v1), (2, .int v2), (3, .long v3), (5, .int v5)] → W p l e R s m args below meth c H locs cells slots Q (F0 m 195 ls [])) → ∀ (H : Heap) (locs : List Loc) (ls : Array Slot), HS G s μ H locs → lv_has ls 8 [(0, .ref v0), (1, .int v1), (2, .int v2), (3, .long v3), (5, .int v5), (6, .int v6)] → W p l e R s m args below meth c H locs cells slots Q (F0 m 166 ls []) := by
  have hx := X.1
  have hb := X.2.1
  have hown := X.2.2.2.1
  have hts := X.2.2.2.2.1
  intro n
  induction n with
  | zero =>
    intro v0 v1 v2 v3 v5 v6 μ x h
    rw [lp_X12_odds_166] at h
    cases h
  | succ n ih =>
    intro v0 v1 v2 v3 v5 v6 μ x h k0 H locs ls hH hl
    rw [lp_X12_odds_166] at h
    refine lv_iload hx hb dX12_odds_166 (lv_at hl 5 rfl) ?_
    refine lv_aload_n hx hb dX12_odds_168 rfl (lv_at hl 0 rfl) ?_
    obtain ⟨x34, hx34, h⟩ := bnd h
    refine gf_X12_171 X hH hx34 dX12_odds_169 ?_
    refine lv_icmp_ge (tgt := 195) hx hb dX12_odds_172 (by decide) (fun hc35 => ?_) (fun hc35 => ?_)
    · replace h := ift h hc35
      cases h
      exact k0 _ _ _ hH (lv_sub hl [0, 1, 2, 3, 4] rfl)
    · replace h := iff' h hc35
      refine lv_aload_n hx hb dX12_odds_175 rfl (lv_at hl 0 rfl) ?_
      obtain ⟨x36, hx36, h⟩ := bnd h
      refine gf_X12_85 X hH hx36 dX12_odds_176 ?_
      refine lv_iload hx hb dX12_odds_179 (lv_at hl 5 rfl) ?_
      refine lv_aload_n hx hb dX12_odds_181 rfl (lv_at hl 0 rfl) ?_
      obtain ⟨x37, hx37, h⟩ := bnd h
      refine gf_X12_89 X hH hx37 dX12_odds_182 ?_
      refine lv_iload hx hb dX12_odds_185 (lv_at hl 5 rfl) ?_
      obtain ⟨x38, hx38, h⟩ := bnd h
      refine w_aL X hH hx38 dX12_odds_187 ?_
      obtain ⟨x39, hx39, h⟩ := bnd h
      refine w_qL X hH hx39 dX12_odds_188 (fun H locs hH => ?_)
      refine lv_iinc (v := (v6 + 1)) (lv' := [(6, .int (v6 + 1)), (0, .ref v0), (1, .int v1), (2, .int v2), (3, .long v3), (5, .int v5)]) hx hb dX12_odds_189 hl (k := 5) rfl rfl (by decide) rfl (fun ls hl => ?_)
      refine lv_goto (tgt := 166) hx hb dX12_odds_192 (by decide) ?_
      exact ih _ _ _ _ _ _ _ _ h k0 _ _ _ hH (lv_sub hl [1, 2, 3, 4, 5, 0] rfl)
set_option maxHeartbeats 4000000 in
set_option maxRecDepth 100000 in
theorem w_X12_odds_66 {p : Program} {e : Env} {R : Room} {s : State} {m : MethodId} {args : Array Value} {below : List Frame} {meth : Method} {c : Code} {cells slots : Nat} {Q : State → Prop} {G : CG} (l : Launch) (X : Cx p s m args meth c cX12_odds 8 RX12 G) (hRL : RmL R 3) (hcs : cells ≤ R.cells ∧ slots ≤ R.slots) : ∀ (n : Nat) (v0 : Nat) (v1 : Int32) (v2 : Int32) (v3 : Int64) (v5 : Int32) (μ : Mm) (x : Int64 × Mm), lp_X12_odds_66 n v0 v1 v2 v3 v5 μ = some x → (∀ (H : Heap) (locs : List Loc) (ls : Array Slot), HS G s x.2 H locs → lv_has ls 8 [(0, .ref v0), (1, .int v1), (3, .long x.1)] → W p l e R s m args below meth c H locs cells slots Q (F0 m 209 ls [])) → ∀ (H : Heap) (locs : List Loc) (ls : Array Slot), HS G s μ H locs → lv_has ls 8 [(0, .ref v0), (1, .int v1), (2, .int v2), (3, .long v3), (5, .int v5)] → W p l e R s m args below meth c H locs cells slots Q (F0 m 66 ls []) := by
  have hx := X.1
  have hb := X.2.1
  have hown := X.2.2.2.1
  have hts := X.2.2.2.2.1
  intro n
  induction n with
  | zero =>
    intro v0 v1 v2 v3 v5 μ x h
    rw [lp_X12_odds_66] at h
    cases h
  | succ n ih =>
    intro v0 v1 v2 v3 v5 μ x h k0 H locs ls hH hl
    rw [lp_X12_odds_66] at h
    refine lv_iload hx hb dX12_odds_66 (lv_at hl 4 rfl) ?_
    refine lv_iload_n hx hb dX12_odds_68 rfl (lv_at hl 2 rfl) ?_
    refine lv_icmp_ge (tgt := 209) hx hb dX12_odds_69 (by decide) (fun hc14 => ?_) (fun hc14 => ?_)
    · replace h := ift h hc14
      cases h
      exact k0 _ _ _ hH (lv_sub hl [0, 1, 3] rfl)
    · replace h := iff' h hc14
      refine lv_iconst (v := 0) hx hb dX12_odds_72 (by decide) ?_
      refine lv_istore (lv' := [(6, .int (0 : Int32)), (0, .ref v0), (1, .int v1), (2, .int v2), (3, .long v3), (5, .int v5)]) hx hb dX12_odds_73 hl (by decide) rfl (fun ls hl => ?_)
      obtain ⟨x19, hx19, hhx19⟩ := bnd h
      clear h
      refine w_X12_odds_75 l X hRL hcs BIG v0 v1 v2 v3 v5 (0 : Int32) μ x19 hx19 (fun H locs ls hH hl => ?_) _ _ _ hH (lv_sub hl [1, 2, 3, 4, 5, 0] rfl)
      · have h := hhx19
        clear hhx19
        refine lv_iconst (v := 0) hx hb dX12_odds_98 (by decide) ?_
        refine lv_istore (lv' := [(6, .int (0 : Int32)), (0, .ref v0), (1, .int v1), (2, .int v2), (3, .long v3), (5, .int v5)]) hx hb dX12_odds_99 hl (by decide) rfl (fun ls hl => ?_)
        obtain ⟨x33, hx33, hhx33⟩ := bnd h
        clear h
        refine w_X12_odds_101 l X hRL hcs BIG v0 v1 v2 v3 v5 (0 : Int32) x19 x33 hx33 (fun H locs ls hH hl => ?_) _ _ _ hH (lv_sub hl [1, 2, 3, 4, 5, 0] rfl)
        · have h := hhx33
          clear hhx33
          refine lv_iconst (v := 0) hx hb dX12_odds_163 (by decide) ?_
          refine lv_istore (lv' := [(6, .int (0 : Int32)), (0, .ref v0), (1, .int v1), (2, .int v2), (3, .long v3), (5, .int v5)]) hx hb dX12_odds_164 hl (by decide) rfl (fun ls hl => ?_)
          obtain ⟨x40, hx40, hhx40⟩ := bnd h
          clear h
          refine w_X12_odds_166 l X hRL hcs BIG v0 v1 v2 v3 v5 (0 : Int32) x33 x40 hx40 (fun H locs ls hH hl => ?_) _ _ _ hH (lv_sub hl [1, 2, 3, 4, 5, 0] rfl)
          · have h := hhx40
            clear hhx40
            refine lv_lload_n hx hb dX12_odds_195 rfl (lv_at hl 3 rfl) ?_
            refine lv_aload_n hx hb dX12_odds_196 rfl (lv_at hl 0 rfl) ?_
            obtain ⟨x41, hx41, h⟩ := bnd h
            refine gf_X12_168 X hH hx41 dX12_odds_197 ?_
            refine lv_i2l hx hb dX12_odds_200 rfl ?_
            refine lv_lmul hx hb dX12_odds_201 ?_
            refine lv_lstore_n (lv' := [(3, .long (v3 * x41.toInt64)), (0, .ref v0), (1, .int v1), (2, .int v2), (5, .int v5)]) hx hb dX12_odds_202 rfl hl (by decide) rfl (fun ls hl => ?_)
            refine lv_iinc (v := (v5 + 1)) (lv' := [(5, .int (v5 + 1)), (3, .long (v3 * x41.toInt64)), (0, .ref v0), (1, .int v1), (2, .int v2)]) hx hb dX12_odds_203 hl (k := 4) rfl rfl (by decide) rfl (fun ls hl => ?_)
            refine lv_goto (tgt := 66) hx hb dX12_odds_206 (by decide) ?_
            exact ih _ _ _ _ _ _ _ h k0 _ _ _ hH (lv_sub hl [2, 3, 4, 1, 0] rfl)
theorem t_X12_odds {μ : Mm} {a0 : Nat} {p1 : Int32} {p2 : Int32} {x : Int32 × Mm} (h : f_X12_odds μ a0 p1 p2 = some x) : tg μ a0 = 13 := by
  unfold f_X12_odds at h
  exact (gsn h).1
set_option maxHeartbeats 4000000 in
set_option maxRecDepth 100000 in
theorem c_X12_odds (l : Launch) (G : CG) (μ : Mm) (a0 : Nat) (p1 : Int32) (p2 : Int32) (x : Int32 × Mm) (h : f_X12_odds μ a0 p1 p2 = some x) : Met l yX12_odds (.code yX12_odds cX12_odds 8 (some .int) :: UW) (rmk 3 0 0) (PC G [.ref a0, .int p1, .int p2] μ) (QI G x.1 x.2) 0 0 (fA G) := by
  refine Met.ofW (cc := cX12_odds) (maxL := 8) (ret := (some .int)) (by decide) rfl ?_
  intro p e s m args below meth c s₁ B hml hv
  obtain ⟨X, hH, hr, rfl, hnm⟩ := cx_in B hml hv
  have X : Cx p s m _ meth c cX12_odds 8 RX12 G := X
  have hx := X.1
  have hb := X.2.1
  have hown := X.2.2.2.1
  have hts := X.2.2.2.2.1
  have hRL : RmL (rmk 3 0 0) 3 := ⟨Nat.le_refl _, Nat.le_refl _⟩
  have hcs : 0 ≤ (rmk 0 0 0).cells ∧ 0 ≤ (rmk 0 0 0).slots := ⟨Nat.zero_le _, Nat.zero_le _⟩
  refine ls_in (Nat.le_of_ble_eq_true rfl) (fun ls hl => ?_)
  have hl : lv_has ls 8 [(0, .ref a0), (1, .int p1), (2, .int p2)] := hl
  unfold f_X12_odds at h
  obtain ⟨htg, h⟩ := gsn h
  refine lv_aload_n hx hb dX12_odds_0 rfl (lv_at hl 0 rfl) ?_
  refine lv_iload_n hx hb dX12_odds_1 rfl (lv_at hl 1 rfl) ?_
  obtain ⟨x1, hx1, h⟩ := bnd h
  refine iv_X12_256 l X hH hRL (by decide) hx1 hl.1 (Nat.le_of_ble_eq_true rfl) dX12_odds_2 hcs (fun H locs hH => ?_)
  refine lv_if_eq (tgt := 18) hx hb dX12_odds_5 (by decide) (fun hc2 => ?_) (fun hc2 => ?_)
  · replace h := ift h hc2
    refine lv_iconst (v := -1) hx hb dX12_odds_18 (by decide) ?_
    exact eI X hH h hr dX12_odds_19 (Nat.le_of_ble_eq_true rfl) (Nat.le_of_ble_eq_true rfl)
  · replace h := iff' h hc2
    refine lv_iload_n hx hb dX12_odds_8 rfl (lv_at hl 2 rfl) ?_
    refine lv_iconst (v := 0) hx hb dX12_odds_9 (by decide) ?_
    refine lv_bipush (v := 10) hx hb dX12_odds_10 (by decide) ?_
    obtain ⟨x3, hx3, h⟩ := bnd h
    refine iv_X12_96 l X hH hRL (by decide) hx3 hl.1 (Nat.le_of_ble_eq_true rfl) dX12_odds_12 hcs (fun H locs hH => ?_)
    refine lv_if_ne (tgt := 20) hx hb dX12_odds_15 (by decide) (fun hc4 => ?_) (fun hc4 => ?_)
    · replace h := iff' h hc4
      refine lv_lconst (v := 1) hx hb dX12_odds_20 (by decide) ?_
      refine lv_lstore_n (lv' := [(3, .long (1 : Int64)), (0, .ref a0), (1, .int p1), (2, .int p2)]) hx hb dX12_odds_21 rfl hl (by decide) rfl (fun ls hl => ?_)
      refine lv_iconst (v := 0) hx hb dX12_odds_22 (by decide) ?_
      refine lv_istore (lv' := [(5, .int (0 : Int32)), (3, .long (1 : Int64)), (0, .ref a0), (1, .int p1), (2, .int p2)]) hx hb dX12_odds_23 hl (by decide) rfl (fun ls hl => ?_)
      obtain ⟨x13, hx13, hhx13⟩ := bnd h
      clear h
      refine w_X12_odds_25 l X hRL hcs BIG a0 p1 p2 (1 : Int64) (0 : Int32) μ x13 hx13 (fun H locs ls hH hl => ?_) _ _ _ hH (lv_sub hl [2, 3, 4, 1, 0] rfl)
      · have h := hhx13
        clear hhx13
        refine lv_iconst (v := 0) hx hb dX12_odds_63 (by decide) ?_
        refine lv_istore (lv' := [(5, .int (0 : Int32)), (0, .ref a0), (1, .int p1), (2, .int p2), (3, .long (1 : Int64))]) hx hb dX12_odds_64 hl (by decide) rfl (fun ls hl => ?_)
        obtain ⟨x42, hx42, hhx42⟩ := bnd h
        clear h
        refine w_X12_odds_66 l X hRL hcs BIG a0 p1 p2 (1 : Int64) (0 : Int32) x13 x42 hx42 (fun H locs ls hH hl => ?_) _ _ _ hH (lv_sub hl [1, 2, 3, 4, 0] rfl)
        · have h := hhx42
          clear hhx42
          refine lv_aload_n hx hb dX12_odds_209 rfl (lv_at hl 0 rfl) ?_
          refine lv_aload_n hx hb dX12_odds_210 rfl (lv_at hl 0 rfl) ?_
          obtain ⟨x43, hx43, h⟩ := bnd h
          refine gf_X12_85 X hH hx43 dX12_odds_211 ?_
          refine lv_iload_n hx hb dX12_odds_214 rfl (lv_at hl 1 rfl) ?_
          obtain ⟨x44, hx44, h⟩ := bnd h
          refine w_aL X hH hx44 dX12_odds_215 ?_
          refine lv_lload_n hx hb dX12_odds_216 rfl (lv_at hl 2 rfl) ?_
          obtain ⟨x45, hx45, h⟩ := bnd h
          refine iv_X12_221 l X hH hRL (by decide) hx45 hl.1 (Nat.le_of_ble_eq_true rfl) dX12_odds_217 hcs (fun H locs hH => ?_)
          exact eI X hH h hr dX12_odds_220 (Nat.le_of_ble_eq_true rfl) (Nat.le_of_ble_eq_true rfl)
    · replace h := ift h hc4
      refine lv_iconst (v := -1) hx hb dX12_odds_18 (by decide) ?_
      exact eI X hH h hr dX12_odds_19 (Nat.le_of_ble_eq_true rfl) (Nat.le_of_ble_eq_true rfl)
set_option maxHeartbeats 4000000 in
set_option maxRecDepth 100000 in
theorem w_X12_lots_53 {p : Program} {e : Env} {R : Room} {s : State} {m : MethodId} {args : Array Value} {below : List Frame} {meth : Method} {c : Code} {cells slots : Nat} {Q : State → Prop} {G : CG} (l : Launch) (X : Cx p s m args meth c cX12_lots 6 RX12 G) (hRL : RmL R 4) (hcs : cells ≤ R.cells ∧ slots ≤ R.slots) : ∀ (n : Nat) (v0 : Nat) (v1 : Int32) (v3 : Int64) (v5 : Int32) (μ : Mm) (x : Mm), lp_X12_lots_53 n v0 v1 v3 v5 μ = some x → (∀ (H : Heap) (locs : List Loc) (ls : Array Slot), HS G s x H locs → lv_has ls 6 [(0, .ref v0)] → W p l e R s m args below meth c H locs cells slots Q (F0 m 128 ls [])) → ∀ (H : Heap) (locs : List Loc) (ls : Array Slot), HS G s μ H locs → lv_has ls 6 [(0, .ref v0), (1, .int v1), (3, .long v3), (5, .int v5)] → W p l e R s m args below meth c H locs cells slots Q (F0 m 53 ls []) := by
  have hx := X.1
  have hb := X.2.1
  have hown := X.2.2.2.1
  have hts := X.2.2.2.2.1
  intro n
  induction n with
  | zero =>
    intro v0 v1 v3 v5 μ x h
    rw [lp_X12_lots_53] at h
    cases h
  | succ n ih =>
    intro v0 v1 v3 v5 μ x h k0 H locs ls hH hl
    rw [lp_X12_lots_53] at h
    refine lv_iload hx hb dX12_lots_53 (lv_at hl 3 rfl) ?_
    refine lv_iload_n hx hb dX12_lots_55 rfl (lv_at hl 1 rfl) ?_
    refine lv_icmp_ge (tgt := 128) hx hb dX12_lots_56 (by decide) (fun hc9 => ?_) (fun hc9 => ?_)
    · replace h := ift h hc9
      cases h
      exact k0 _ _ _ hH (lv_sub hl [0] rfl)
    · replace h := iff' h hc9
      refine lv_ldc2 (v := 48271) hx hb hown (hts _ u_1424) dX12_lots_59 ?_
      refine lv_lload_n hx hb dX12_lots_62 rfl (lv_at hl 2 rfl) ?_
      refine lv_lmul hx hb dX12_lots_63 ?_
      refine lv_ldc2 (v := 2147483647) hx hb hown (hts _ u_1425) dX12_lots_64 ?_
      refine lv_lrem hx hb dX12_lots_67 (by decide) ?_
      refine lv_lstore_n (lv' := [(3, .long (((48271 : Int64) * v3) - ((48271 : Int64) * v3) / (2147483647 : Int64) * (2147483647 : Int64))), (0, .ref v0), (1, .int v1), (5, .int v5)]) hx hb dX12_lots_68 rfl hl (by decide) rfl (fun ls hl => ?_)
      refine lv_aload_n hx hb dX12_lots_69 rfl (lv_at hl 1 rfl) ?_
      obtain ⟨x10, hx10, h⟩ := bnd h
      refine iv_X12_211 l X hH hRL (by decide) hx10 hl.1 (Nat.le_of_ble_eq_true rfl) dX12_lots_70 hcs (fun H locs hH => ?_)
      refine lv_lload_n hx hb dX12_lots_73 rfl (lv_at hl 0 rfl) ?_
      refine lv_ldc2 (v := 16) hx hb hown (hts _ u_1426) dX12_lots_74 ?_
      refine lv_lrem hx hb dX12_lots_77 (by decide) ?_
      refine lv_lconst (v := 0) hx hb dX12_lots_78 (by decide) ?_
      refine W.lcmp hx hb dX12_lots_79 ?_
      refine lv_if_ne (tgt := 102) hx hb dX12_lots_80 (by decide) (fun hc11 => ?_) (fun hc11 => ?_)
      · replace h := iff' h hc11
        refine lv_aload_n hx hb dX12_lots_102 rfl (lv_at hl 1 rfl) ?_
        refine lv_aload_n hx hb dX12_lots_103 rfl (lv_at hl 1 rfl) ?_
        obtain ⟨x12, hx12, h⟩ := bnd h
        refine gf_X12_45 X hH hx12 dX12_lots_104 ?_
        refine lv_lload_n hx hb dX12_lots_107 rfl (lv_at hl 0 rfl) ?_
        refine lv_ldc2 (v := 16) hx hb hown (hts _ u_1426) dX12_lots_108 ?_
        refine lv_ldiv hx hb dX12_lots_111 (by decide) ?_
        refine lv_aload_n hx hb dX12_lots_112 rfl (lv_at hl 1 rfl) ?_
        obtain ⟨x13, hx13, h⟩ := bnd h
        refine gf_X12_168 X hH hx13 dX12_lots_113 ?_
        refine lv_i2l hx hb dX12_lots_116 rfl ?_
        obtain ⟨hd14, h⟩ := gsf h
        refine lv_lrem hx hb dX12_lots_117 hd14 ?_
        refine lv_l2i hx hb dX12_lots_118 rfl ?_
        obtain ⟨x15, hx15, h⟩ := bnd h
        refine iv_X12_214 l X hH hRL (by decide) hx15 hl.1 (Nat.le_of_ble_eq_true rfl) dX12_lots_119 hcs (fun H locs hH => ?_)
        refine lv_iinc (v := (v5 + 1)) (lv' := [(5, .int (v5 + 1)), (3, .long (((48271 : Int64) * v3) - ((48271 : Int64) * v3) / (2147483647 : Int64) * (2147483647 : Int64))), (0, .ref v0), (1, .int v1)]) hx hb dX12_lots_122 hl (k := 3) rfl rfl (by decide) rfl (fun ls hl => ?_)
        refine lv_goto (tgt := 53) hx hb dX12_lots_125 (by decide) ?_
        exact ih _ _ _ _ _ _ h k0 _ _ _ hH (lv_sub hl [2, 3, 1, 0] rfl)
      · replace h := ift h hc11
        refine lv_aload_n hx hb dX12_lots_83 rfl (lv_at hl 1 rfl) ?_
        obtain ⟨x16, hx16, h⟩ := bnd h
        refine gf_X12_45 X hH hx16 dX12_lots_84 ?_
        refine lv_iconst (v := 2) hx hb dX12_lots_87 (by decide) ?_
        refine lv_aload_n hx hb dX12_lots_88 rfl (lv_at hl 1 rfl) ?_
        obtain ⟨x17, hx17, h⟩ := bnd h
        refine gf_X12_45 X hH hx17 dX12_lots_89 ?_
        refine lv_iconst (v := 2) hx hb dX12_lots_92 (by decide) ?_
        obtain ⟨x18, hx18, h⟩ := bnd h
        refine w_aI X hH hx18 dX12_lots_93 ?_
        refine lv_iconst (v := 1) hx hb dX12_lots_94 (by decide) ?_
        refine lv_iadd hx hb dX12_lots_95 ?_
        refine lv_iconst (v := 3) hx hb dX12_lots_96 (by decide) ?_
        refine lv_irem hx hb dX12_lots_97 (by decide) ?_
        obtain ⟨x19, hx19, h⟩ := bnd h
        refine w_qI X hH hx19 dX12_lots_98 (fun H locs hH => ?_)
        refine lv_goto (tgt := 122) hx hb dX12_lots_99 (by decide) ?_
        refine lv_iinc (v := (v5 + 1)) (lv' := [(5, .int (v5 + 1)), (3, .long (((48271 : Int64) * v3) - ((48271 : Int64) * v3) / (2147483647 : Int64) * (2147483647 : Int64))), (0, .ref v0), (1, .int v1)]) hx hb dX12_lots_122 hl (k := 3) rfl rfl (by decide) rfl (fun ls hl => ?_)
        refine lv_goto (tgt := 53) hx hb dX12_lots_125 (by decide) ?_
        exact ih _ _ _ _ _ _ h k0 _ _ _ hH (lv_sub hl [2, 3, 1, 0] rfl)
theorem t_X12_lots {μ : Mm} {a0 : Nat} {p1 : Int32} {p2 : Int32} {x : Int32 × Mm} (h : f_X12_lots μ a0 p1 p2 = some x) : tg μ a0 = 13 := by
  unfold f_X12_lots at h
  exact (gsn h).1
set_option maxHeartbeats 4000000 in
set_option maxRecDepth 100000 in
theorem c_X12_lots (l : Launch) (G : CG) (μ : Mm) (a0 : Nat) (p1 : Int32) (p2 : Int32) (x : Int32 × Mm) (h : f_X12_lots μ a0 p1 p2 = some x) : Met l yX12_lots (.code yX12_lots cX12_lots 6 (some .int) :: UW) (rmk 4 0 0) (PC G [.ref a0, .int p1, .int p2] μ) (QI G x.1 x.2) 0 0 (fA G) := by
  refine Met.ofW (cc := cX12_lots) (maxL := 6) (ret := (some .int)) (by decide) rfl ?_
  intro p e s m args below meth c s₁ B hml hv
  obtain ⟨X, hH, hr, rfl, hnm⟩ := cx_in B hml hv
  have X : Cx p s m _ meth c cX12_lots 6 RX12 G := X
  have hx := X.1
  have hb := X.2.1
  have hown := X.2.2.2.1
  have hts := X.2.2.2.2.1
  have hRL : RmL (rmk 4 0 0) 4 := ⟨Nat.le_refl _, Nat.le_refl _⟩
  have hcs : 0 ≤ (rmk 0 0 0).cells ∧ 0 ≤ (rmk 0 0 0).slots := ⟨Nat.zero_le _, Nat.zero_le _⟩
  refine ls_in (Nat.le_of_ble_eq_true rfl) (fun ls hl => ?_)
  have hl : lv_has ls 6 [(0, .ref a0), (1, .int p1), (2, .int p2)] := hl
  unfold f_X12_lots at h
  obtain ⟨htg, h⟩ := gsn h
  refine lv_iload_n hx hb dX12_lots_0 rfl (lv_at hl 1 rfl) ?_
  refine lv_iconst (v := 1) hx hb dX12_lots_1 (by decide) ?_
  refine lv_bipush (v := 30) hx hb dX12_lots_2 (by decide) ?_
  obtain ⟨x1, hx1, h⟩ := bnd h
  refine iv_X12_96 l X hH hRL (by decide) hx1 hl.1 (Nat.le_of_ble_eq_true rfl) dX12_lots_4 hcs (fun H locs hH => ?_)
  refine lv_if_eq (tgt := 21) hx hb dX12_lots_7 (by decide) (fun hc2 => ?_) (fun hc2 => ?_)
  · replace h := ift h hc2
    refine lv_iconst (v := -1) hx hb dX12_lots_21 (by decide) ?_
    exact eI X hH h hr dX12_lots_22 (Nat.le_of_ble_eq_true rfl) (Nat.le_of_ble_eq_true rfl)
  · replace h := iff' h hc2
    refine lv_iload_n hx hb dX12_lots_10 rfl (lv_at hl 2 rfl) ?_
    refine lv_iconst (v := 1) hx hb dX12_lots_11 (by decide) ?_
    refine lv_ldcw (v := 2147483646) hx hb hown (hts _ u_1423) dX12_lots_12 ?_
    obtain ⟨x3, hx3, h⟩ := bnd h
    refine iv_X12_96 l X hH hRL (by decide) hx3 hl.1 (Nat.le_of_ble_eq_true rfl) dX12_lots_15 hcs (fun H locs hH => ?_)
    refine lv_if_ne (tgt := 23) hx hb dX12_lots_18 (by decide) (fun hc4 => ?_) (fun hc4 => ?_)
    · replace h := iff' h hc4
      refine lv_aload_n hx hb dX12_lots_23 rfl (lv_at hl 0 rfl) ?_
      obtain ⟨x5, hx5, h⟩ := bnd h
      refine gf_X12_168 X hH hx5 dX12_lots_24 ?_
      refine lv_if_ne (tgt := 33) hx hb dX12_lots_27 (by decide) (fun hc6 => ?_) (fun hc6 => ?_)
      · replace h := iff' h hc6
        refine lv_aload_n hx hb dX12_lots_33 rfl (lv_at hl 0 rfl) ?_
        obtain ⟨x7, hx7, h⟩ := bnd h
        refine gf_X12_180 X hH hx7 dX12_lots_34 ?_
        refine lv_iload_n hx hb dX12_lots_37 rfl (lv_at hl 1 rfl) ?_
        refine lv_iadd hx hb dX12_lots_38 ?_
        refine lv_bipush (v := 60) hx hb dX12_lots_39 (by decide) ?_
        refine lv_icmp_le (tgt := 47) hx hb dX12_lots_41 (by decide) (fun hc8 => ?_) (fun hc8 => ?_)
        · replace h := ift h hc8
          refine lv_iload_n hx hb dX12_lots_47 rfl (lv_at hl 2 rfl) ?_
          refine lv_i2l hx hb dX12_lots_48 rfl ?_
          refine lv_lstore_n (lv' := [(3, .long p2.toInt64), (0, .ref a0), (1, .int p1), (2, .int p2)]) hx hb dX12_lots_49 rfl hl (by decide) rfl (fun ls hl => ?_)
          refine lv_iconst (v := 0) hx hb dX12_lots_50 (by decide) ?_
          refine lv_istore (lv' := [(5, .int (0 : Int32)), (3, .long p2.toInt64), (0, .ref a0), (1, .int p1), (2, .int p2)]) hx hb dX12_lots_51 hl (by decide) rfl (fun ls hl => ?_)
          obtain ⟨x20, hx20, hhx20⟩ := bnd h
          clear h
          refine w_X12_lots_53 l X hRL hcs BIG a0 p1 p2.toInt64 (0 : Int32) μ x20 hx20 (fun H locs ls hH hl => ?_) _ _ _ hH (lv_sub hl [2, 3, 1, 0] rfl)
          · have h := hhx20
            clear hhx20
            refine lv_aload_n hx hb dX12_lots_128 rfl (lv_at hl 0 rfl) ?_
            obtain ⟨x21, hx21, h⟩ := bnd h
            refine gf_X12_45 X hH hx21 dX12_lots_129 ?_
            refine lv_iconst (v := 0) hx hb dX12_lots_132 (by decide) ?_
            obtain ⟨x22, hx22, h⟩ := bnd h
            refine w_aI X hH hx22 dX12_lots_133 ?_
            exact eI X hH h hr dX12_lots_134 (Nat.le_of_ble_eq_true rfl) (Nat.le_of_ble_eq_true rfl)
        · replace h := iff' h hc8
          refine lv_bipush (v := -2) hx hb dX12_lots_44 (by decide) ?_
          exact eI X hH h hr dX12_lots_46 (Nat.le_of_ble_eq_true rfl) (Nat.le_of_ble_eq_true rfl)
      · replace h := ift h hc6
        refine lv_bipush (v := -4) hx hb dX12_lots_30 (by decide) ?_
        exact eI X hH h hr dX12_lots_32 (Nat.le_of_ble_eq_true rfl) (Nat.le_of_ble_eq_true rfl)
    · replace h := ift h hc4
      refine lv_iconst (v := -1) hx hb dX12_lots_21 (by decide) ?_
      exact eI X hH h hr dX12_lots_22 (Nat.le_of_ble_eq_true rfl) (Nat.le_of_ble_eq_true rfl)
set_option maxHeartbeats 1000000 in
theorem iv_X12_299 {p : Program} {e : Env} {R : Room} {s : State} {m : MethodId} {args : Array Value} {below : List Frame} {meth : Method} {c : Code} {H : Heap} {locs : List Loc} {cells slots : Nat} {Q : State → Prop} {cc : ByteArray} {pc : Nat} {ls : Array Slot} {rest : List Value} {nL : Nat} {G : CG} {μ : Mm} {a : Nat} {q0 : Int32} {x : Int32} {k : Nat} (l : Launch) (X : Cx p s m args meth c cc nL RX12 G) (hH : HS G s μ H locs) (hRL : RmL R k) (hk : 1 + 1 ≤ k) (h : f_X12_isHeavy μ a q0 = some x) (hls : ls.size = nL) (hroom : (rest.map fun v => v.category).sum ≤ 8) (hdg : decode cc pc = .ok (.invokevirtual 299, 3)) (hcs : cells + 0 ≤ R.cells ∧ slots + 0 ≤ R.slots) (kk : ∀ (H1 : Heap) (locs1 : List Loc), HS G s μ H1 locs1 → W p l e R s m args below meth c H1 locs1 cells slots Q (F0 m (pc + 3) ls (.int x :: rest))) : W p l e R s m args below meth c H locs cells slots Q (F0 m pc ls (.int q0 :: .ref a :: rest)) := by
  refine kI hH (rV (As := [.int q0]) (rest := rest) X hH (t_X12_isHeavy h) vc_12 (c_X12_isHeavy l G μ a q0 x h) (List.forall_mem_cons.mpr ⟨u_1435, (List.forall_mem_cons.mpr ⟨u_1437, (List.forall_mem_cons.mpr ⟨u_56, (List.forall_mem_cons.mpr ⟨u_68, (fun _ h9 => absurd h9 List.not_mem_nil)⟩)⟩)⟩)⟩) u_1438 (rmo hRL (Nat.le_trans (by decide) hk) (by decide)) ddV_X12_isHeavy rfl hls rfl hroom hdg hcs) kk
set_option maxHeartbeats 4000000 in
set_option maxRecDepth 100000 in
theorem w_X12_counted_4 {p : Program} {e : Env} {R : Room} {s : State} {m : MethodId} {args : Array Value} {below : List Frame} {meth : Method} {c : Code} {cells slots : Nat} {Q : State → Prop} {G : CG} (l : Launch) (X : Cx p s m args meth c cX12_counted 4 RX12 G) (hRL : RmL R 2) (hcs : cells ≤ R.cells ∧ slots ≤ R.slots) : ∀ (n : Nat) (v0 : Nat) (v1 : Int32) (v2 : Int32) (v3 : Int32) (μ : Mm) (x : Int32), lp_X12_counted_4 n v0 v1 v2 v3 μ = some x → (∀ (H : Heap) (locs : List Loc) (ls : Array Slot), HS G s μ H locs → lv_has ls 4 [(0, .ref v0), (1, .int v1), (2, .int x)] → W p l e R s m args below meth c H locs cells slots Q (F0 m 40 ls [])) → ∀ (H : Heap) (locs : List Loc) (ls : Array Slot), HS G s μ H locs → lv_has ls 4 [(0, .ref v0), (1, .int v1), (2, .int v2), (3, .int v3)] → W p l e R s m args below meth c H locs cells slots Q (F0 m 4 ls []) := by
  have hx := X.1
  have hb := X.2.1
  have hown := X.2.2.2.1
  have hts := X.2.2.2.2.1
  intro n
  induction n with
  | zero =>
    intro v0 v1 v2 v3 μ x h
    rw [lp_X12_counted_4] at h
    cases h
  | succ n ih =>
    intro v0 v1 v2 v3 μ x h k0 H locs ls hH hl
    rw [lp_X12_counted_4] at h
    refine lv_iload_n hx hb dX12_counted_4 rfl (lv_at hl 3 rfl) ?_
    refine lv_aload_n hx hb dX12_counted_5 rfl (lv_at hl 0 rfl) ?_
    obtain ⟨x1, hx1, h⟩ := bnd h
    refine gf_X12_168 X hH hx1 dX12_counted_6 ?_
    refine lv_icmp_ge (tgt := 40) hx hb dX12_counted_9 (by decide) (fun hc2 => ?_) (fun hc2 => ?_)
    · replace h := ift h hc2
      cases h
      exact k0 _ _ _ hH (lv_sub hl [0, 1, 2] rfl)
    · replace h := iff' h hc2
      refine lv_iload_n hx hb dX12_counted_12 rfl (lv_at hl 2 rfl) ?_
      refine lv_iload_n hx hb dX12_counted_13 rfl (lv_at hl 1 rfl) ?_
      refine lv_bipush (v := 7) hx hb dX12_counted_14 (by decide) ?_
      refine lv_icmp_ne (tgt := 31) hx hb dX12_counted_16 (by decide) (fun hc3 => ?_) (fun hc3 => ?_)
      · replace h := iff' h hc3
        refine lv_iconst (v := 0) hx hb dX12_counted_31 (by decide) ?_
        refine lv_iadd hx hb dX12_counted_32 ?_
        refine lv_istore_n (lv' := [(2, .int (v2 + (0 : Int32))), (0, .ref v0), (1, .int v1), (3, .int v3)]) hx hb dX12_counted_33 rfl hl (by decide) rfl (fun ls hl => ?_)
        refine lv_iinc (v := (v3 + 1)) (lv' := [(3, .int (v3 + 1)), (2, .int (v2 + (0 : Int32))), (0, .ref v0), (1, .int v1)]) hx hb dX12_counted_34 hl (k := 3) rfl rfl (by decide) rfl (fun ls hl => ?_)
        refine lv_goto (tgt := 4) hx hb dX12_counted_37 (by decide) ?_
        exact ih _ _ _ _ _ _ h k0 _ _ _ hH (lv_sub hl [2, 3, 1, 0] rfl)
      · replace h := ift h hc3
        refine lv_aload_n hx hb dX12_counted_19 rfl (lv_at hl 0 rfl) ?_
        refine lv_iload_n hx hb dX12_counted_20 rfl (lv_at hl 3 rfl) ?_
        obtain ⟨x4, hx4, h⟩ := bnd h
        refine iv_X12_299 l X hH hRL (by decide) hx4 hl.1 (Nat.le_of_ble_eq_true rfl) dX12_counted_21 hcs (fun H locs hH => ?_)
        refine lv_if_eq (tgt := 31) hx hb dX12_counted_24 (by decide) (fun hc5 => ?_) (fun hc5 => ?_)
        · replace h := ift h hc5
          refine lv_iconst (v := 0) hx hb dX12_counted_31 (by decide) ?_
          refine lv_iadd hx hb dX12_counted_32 ?_
          refine lv_istore_n (lv' := [(2, .int (v2 + (0 : Int32))), (0, .ref v0), (1, .int v1), (3, .int v3)]) hx hb dX12_counted_33 rfl hl (by decide) rfl (fun ls hl => ?_)
          refine lv_iinc (v := (v3 + 1)) (lv' := [(3, .int (v3 + 1)), (2, .int (v2 + (0 : Int32))), (0, .ref v0), (1, .int v1)]) hx hb dX12_counted_34 hl (k := 3) rfl rfl (by decide) rfl (fun ls hl => ?_)
          refine lv_goto (tgt := 4) hx hb dX12_counted_37 (by decide) ?_
          exact ih _ _ _ _ _ _ h k0 _ _ _ hH (lv_sub hl [2, 3, 1, 0] rfl)
        · replace h := iff' h hc5
          refine lv_iconst (v := 1) hx hb dX12_counted_27 (by decide) ?_
          refine lv_goto (tgt := 32) hx hb dX12_counted_28 (by decide) ?_
          refine lv_iadd hx hb dX12_counted_32 ?_
          refine lv_istore_n (lv' := [(2, .int (v2 + (1 : Int32))), (0, .ref v0), (1, .int v1), (3, .int v3)]) hx hb dX12_counted_33 rfl hl (by decide) rfl (fun ls hl => ?_)
          refine lv_iinc (v := (v3 + 1)) (lv' := [(3, .int (v3 + 1)), (2, .int (v2 + (1 : Int32))), (0, .ref v0), (1, .int v1)]) hx hb dX12_counted_34 hl (k := 3) rfl rfl (by decide) rfl (fun ls hl => ?_)
          refine lv_goto (tgt := 4) hx hb dX12_counted_37 (by decide) ?_
          exact ih _ _ _ _ _ _ h k0 _ _ _ hH (lv_sub hl [2, 3, 1, 0] rfl)
set_option maxHeartbeats 4000000 in
set_option maxRecDepth 100000 in
theorem w_X12_counted_42 {p : Program} {e : Env} {R : Room} {s : State} {m : MethodId} {args : Array Value} {below : List Frame} {meth : Method} {c : Code} {cells slots : Nat} {Q : State → Prop} {G : CG} (l : Launch) (X : Cx p s m args meth c cX12_counted 4 RX12 G) (hRL : RmL R 2) (hcs : cells ≤ R.cells ∧ slots ≤ R.slots) : ∀ (n : Nat) (v0 : Nat) (v1 : Int32) (v2 : Int32) (v3 : Int32) (μ : Mm) (x : Int32), lp_X12_counted_42 n v0 v1 v2 v3 μ = some x → (∀ (H : Heap) (locs : List Loc) (ls : Array Slot), HS G s μ H locs → lv_has ls 4 [(0, .ref v0), (1, .int v1), (2, .int x)] → W p l e R s m args below meth c H locs cells slots Q (F0 m 77 ls [])) → ∀ (H : Heap) (locs : List Loc) (ls : Array Slot), HS G s μ H locs → lv_has ls 4 [(0, .ref v0), (1, .int v1), (2, .int v2), (3, .int v3)] → W p l e R s m args below meth c H locs cells slots Q (F0 m 42 ls []) := by
  have hx := X.1
  have hb := X.2.1
  have hown := X.2.2.2.1
  have hts := X.2.2.2.2.1
  intro n
  induction n with
  | zero =>
    intro v0 v1 v2 v3 μ x h
    rw [lp_X12_counted_42] at h
    cases h
  | succ n ih =>
    intro v0 v1 v2 v3 μ x h k0 H locs ls hH hl
    rw [lp_X12_counted_42] at h
    refine lv_iload_n hx hb dX12_counted_42 rfl (lv_at hl 3 rfl) ?_
    refine lv_bipush (v := 6) hx hb dX12_counted_43 (by decide) ?_
    refine lv_icmp_ge (tgt := 77) hx hb dX12_counted_45 (by decide) (fun hc7 => ?_) (fun hc7 => ?_)
    · replace h := ift h hc7
      cases h
      exact k0 _ _ _ hH (lv_sub hl [0, 1, 2] rfl)
    · replace h := iff' h hc7
      refine lv_iload_n hx hb dX12_counted_48 rfl (lv_at hl 2 rfl) ?_
      refine lv_iload_n hx hb dX12_counted_49 rfl (lv_at hl 1 rfl) ?_
      refine lv_bipush (v := 8) hx hb dX12_counted_50 (by decide) ?_
      refine lv_icmp_ne (tgt := 68) hx hb dX12_counted_52 (by decide) (fun hc8 => ?_) (fun hc8 => ?_)
      · replace h := iff' h hc8
        refine lv_iconst (v := 0) hx hb dX12_counted_68 (by decide) ?_
        refine lv_iadd hx hb dX12_counted_69 ?_
        refine lv_istore_n (lv' := [(2, .int (v2 + (0 : Int32))), (0, .ref v0), (1, .int v1), (3, .int v3)]) hx hb dX12_counted_70 rfl hl (by decide) rfl (fun ls hl => ?_)
        refine lv_iinc (v := (v3 + 1)) (lv' := [(3, .int (v3 + 1)), (2, .int (v2 + (0 : Int32))), (0, .ref v0), (1, .int v1)]) hx hb dX12_counted_71 hl (k := 3) rfl rfl (by decide) rfl (fun ls hl => ?_)
        refine lv_goto (tgt := 42) hx hb dX12_counted_74 (by decide) ?_
        exact ih _ _ _ _ _ _ h k0 _ _ _ hH (lv_sub hl [2, 3, 1, 0] rfl)
      · replace h := ift h hc8
        refine lv_aload_n hx hb dX12_counted_55 rfl (lv_at hl 0 rfl) ?_
        obtain ⟨x9, hx9, h⟩ := bnd h
        refine gf_X12_17 X hH hx9 dX12_counted_56 ?_
        refine lv_iload_n hx hb dX12_counted_59 rfl (lv_at hl 3 rfl) ?_
        obtain ⟨x10, hx10, h⟩ := bnd h
        refine w_aI X hH hx10 dX12_counted_60 ?_
        refine lv_if_lt (tgt := 68) hx hb dX12_counted_61 (by decide) (fun hc11 => ?_) (fun hc11 => ?_)
        · replace h := ift h hc11
          refine lv_iconst (v := 0) hx hb dX12_counted_68 (by decide) ?_
          refine lv_iadd hx hb dX12_counted_69 ?_
          refine lv_istore_n (lv' := [(2, .int (v2 + (0 : Int32))), (0, .ref v0), (1, .int v1), (3, .int v3)]) hx hb dX12_counted_70 rfl hl (by decide) rfl (fun ls hl => ?_)
          refine lv_iinc (v := (v3 + 1)) (lv' := [(3, .int (v3 + 1)), (2, .int (v2 + (0 : Int32))), (0, .ref v0), (1, .int v1)]) hx hb dX12_counted_71 hl (k := 3) rfl rfl (by decide) rfl (fun ls hl => ?_)
          refine lv_goto (tgt := 42) hx hb dX12_counted_74 (by decide) ?_
          exact ih _ _ _ _ _ _ h k0 _ _ _ hH (lv_sub hl [2, 3, 1, 0] rfl)
        · replace h := iff' h hc11
          refine lv_iconst (v := 1) hx hb dX12_counted_64 (by decide) ?_
          refine lv_goto (tgt := 69) hx hb dX12_counted_65 (by decide) ?_
          refine lv_iadd hx hb dX12_counted_69 ?_
          refine lv_istore_n (lv' := [(2, .int (v2 + (1 : Int32))), (0, .ref v0), (1, .int v1), (3, .int v3)]) hx hb dX12_counted_70 rfl hl (by decide) rfl (fun ls hl => ?_)
          refine lv_iinc (v := (v3 + 1)) (lv' := [(3, .int (v3 + 1)), (2, .int (v2 + (1 : Int32))), (0, .ref v0), (1, .int v1)]) hx hb dX12_counted_71 hl (k := 3) rfl rfl (by decide) rfl (fun ls hl => ?_)
          refine lv_goto (tgt := 42) hx hb dX12_counted_74 (by decide) ?_
          exact ih _ _ _ _ _ _ h k0 _ _ _ hH (lv_sub hl [2, 3, 1, 0] rfl)
set_option maxHeartbeats 4000000 in
set_option maxRecDepth 100000 in
theorem w_X12_counted_79 {p : Program} {e : Env} {R : Room} {s : State} {m : MethodId} {args : Array Value} {below : List Frame} {meth : Method} {c : Code} {cells slots : Nat} {Q : State → Prop} {G : CG} (l : Launch) (X : Cx p s m args meth c cX12_counted 4 RX12 G) (hRL : RmL R 2) (hcs : cells ≤ R.cells ∧ slots ≤ R.slots) : ∀ (n : Nat) (v0 : Nat) (v1 : Int32) (v2 : Int32) (v3 : Int32) (μ : Mm) (x : Int32), lp_X12_counted_79 n v0 v1 v2 v3 μ = some x → (∀ (H : Heap) (locs : List Loc) (ls : Array Slot), HS G s μ H locs → lv_has ls 4 [(0, .ref v0), (1, .int v1), (2, .int x)] → W p l e R s m args below meth c H locs cells slots Q (F0 m 113 ls [])) → ∀ (H : Heap) (locs : List Loc) (ls : Array Slot), HS G s μ H locs → lv_has ls 4 [(0, .ref v0), (1, .int v1), (2, .int v2), (3, .int v3)] → W p l e R s m args below meth c H locs cells slots Q (F0 m 79 ls []) := by
  have hx := X.1
  have hb := X.2.1
  have hown := X.2.2.2.1
  have hts := X.2.2.2.2.1
  intro n
  induction n with
  | zero =>
    intro v0 v1 v2 v3 μ x h
    rw [lp_X12_counted_79] at h
    cases h
  | succ n ih =>
    intro v0 v1 v2 v3 μ x h k0 H locs ls hH hl
    rw [lp_X12_counted_79] at h
    refine lv_iload_n hx hb dX12_counted_79 rfl (lv_at hl 3 rfl) ?_
    refine lv_iconst (v := 4) hx hb dX12_counted_80 (by decide) ?_
    refine lv_icmp_ge (tgt := 113) hx hb dX12_counted_81 (by decide) (fun hc13 => ?_) (fun hc13 => ?_)
    · replace h := ift h hc13
      cases h
      exact k0 _ _ _ hH (lv_sub hl [0, 1, 2] rfl)
    · replace h := iff' h hc13
      refine lv_iload_n hx hb dX12_counted_84 rfl (lv_at hl 2 rfl) ?_
      refine lv_iload_n hx hb dX12_counted_85 rfl (lv_at hl 1 rfl) ?_
      refine lv_bipush (v := 9) hx hb dX12_counted_86 (by decide) ?_
      refine lv_icmp_ne (tgt := 104) hx hb dX12_counted_88 (by decide) (fun hc14 => ?_) (fun hc14 => ?_)
      · replace h := iff' h hc14
        refine lv_iconst (v := 0) hx hb dX12_counted_104 (by decide) ?_
        refine lv_iadd hx hb dX12_counted_105 ?_
        refine lv_istore_n (lv' := [(2, .int (v2 + (0 : Int32))), (0, .ref v0), (1, .int v1), (3, .int v3)]) hx hb dX12_counted_106 rfl hl (by decide) rfl (fun ls hl => ?_)
        refine lv_iinc (v := (v3 + 1)) (lv' := [(3, .int (v3 + 1)), (2, .int (v2 + (0 : Int32))), (0, .ref v0), (1, .int v1)]) hx hb dX12_counted_107 hl (k := 3) rfl rfl (by decide) rfl (fun ls hl => ?_)
        refine lv_goto (tgt := 79) hx hb dX12_counted_110 (by decide) ?_
        exact ih _ _ _ _ _ _ h k0 _ _ _ hH (lv_sub hl [2, 3, 1, 0] rfl)
      · replace h := ift h hc14
        refine lv_aload_n hx hb dX12_counted_91 rfl (lv_at hl 0 rfl) ?_
        obtain ⟨x15, hx15, h⟩ := bnd h
        refine gf_X12_26 X hH hx15 dX12_counted_92 ?_
        refine lv_iload_n hx hb dX12_counted_95 rfl (lv_at hl 3 rfl) ?_
        obtain ⟨x16, hx16, h⟩ := bnd h
        refine w_aI X hH hx16 dX12_counted_96 ?_
        refine lv_if_lt (tgt := 104) hx hb dX12_counted_97 (by decide) (fun hc17 => ?_) (fun hc17 => ?_)
        · replace h := ift h hc17
          refine lv_iconst (v := 0) hx hb dX12_counted_104 (by decide) ?_
          refine lv_iadd hx hb dX12_counted_105 ?_
          refine lv_istore_n (lv' := [(2, .int (v2 + (0 : Int32))), (0, .ref v0), (1, .int v1), (3, .int v3)]) hx hb dX12_counted_106 rfl hl (by decide) rfl (fun ls hl => ?_)
          refine lv_iinc (v := (v3 + 1)) (lv' := [(3, .int (v3 + 1)), (2, .int (v2 + (0 : Int32))), (0, .ref v0), (1, .int v1)]) hx hb dX12_counted_107 hl (k := 3) rfl rfl (by decide) rfl (fun ls hl => ?_)
          refine lv_goto (tgt := 79) hx hb dX12_counted_110 (by decide) ?_
          exact ih _ _ _ _ _ _ h k0 _ _ _ hH (lv_sub hl [2, 3, 1, 0] rfl)
        · replace h := iff' h hc17
          refine lv_iconst (v := 1) hx hb dX12_counted_100 (by decide) ?_
          refine lv_goto (tgt := 105) hx hb dX12_counted_101 (by decide) ?_
          refine lv_iadd hx hb dX12_counted_105 ?_
          refine lv_istore_n (lv' := [(2, .int (v2 + (1 : Int32))), (0, .ref v0), (1, .int v1), (3, .int v3)]) hx hb dX12_counted_106 rfl hl (by decide) rfl (fun ls hl => ?_)
          refine lv_iinc (v := (v3 + 1)) (lv' := [(3, .int (v3 + 1)), (2, .int (v2 + (1 : Int32))), (0, .ref v0), (1, .int v1)]) hx hb dX12_counted_107 hl (k := 3) rfl rfl (by decide) rfl (fun ls hl => ?_)
          refine lv_goto (tgt := 79) hx hb dX12_counted_110 (by decide) ?_
          exact ih _ _ _ _ _ _ h k0 _ _ _ hH (lv_sub hl [2, 3, 1, 0] rfl)
set_option maxHeartbeats 4000000 in
set_option maxRecDepth 100000 in
theorem w_X12_counted_115 {p : Program} {e : Env} {R : Room} {s : State} {m : MethodId} {args : Array Value} {below : List Frame} {meth : Method} {c : Code} {cells slots : Nat} {Q : State → Prop} {G : CG} (l : Launch) (X : Cx p s m args meth c cX12_counted 4 RX12 G) (hRL : RmL R 2) (hcs : cells ≤ R.cells ∧ slots ≤ R.slots) : ∀ (n : Nat) (v0 : Nat) (v1 : Int32) (v2 : Int32) (v3 : Int32) (μ : Mm) (x : Int32), lp_X12_counted_115 n v0 v1 v2 v3 μ = some x → (∀ (H : Heap) (locs : List Loc) (ls : Array Slot), HS G s μ H locs → lv_has ls 4 [(0, .ref v0), (1, .int v1), (2, .int x)] → W p l e R s m args below meth c H locs cells slots Q (F0 m 149 ls [])) → ∀ (H : Heap) (locs : List Loc) (ls : Array Slot), HS G s μ H locs → lv_has ls 4 [(0, .ref v0), (1, .int v1), (2, .int v2), (3, .int v3)] → W p l e R s m args below meth c H locs cells slots Q (F0 m 115 ls []) := by
  have hx := X.1
  have hb := X.2.1
  have hown := X.2.2.2.1
  have hts := X.2.2.2.2.1
  intro n
  induction n with
  | zero =>
    intro v0 v1 v2 v3 μ x h
    rw [lp_X12_counted_115] at h
    cases h
  | succ n ih =>
    intro v0 v1 v2 v3 μ x h k0 H locs ls hH hl
    rw [lp_X12_counted_115] at h
    refine lv_iload_n hx hb dX12_counted_115 rfl (lv_at hl 3 rfl) ?_
    refine lv_iconst (v := 3) hx hb dX12_counted_116 (by decide) ?_
    refine lv_icmp_ge (tgt := 149) hx hb dX12_counted_117 (by decide) (fun hc19 => ?_) (fun hc19 => ?_)
    · replace h := ift h hc19
      cases h
      exact k0 _ _ _ hH (lv_sub hl [0, 1, 2] rfl)
    · replace h := iff' h hc19
      refine lv_iload_n hx hb dX12_counted_120 rfl (lv_at hl 2 rfl) ?_
      refine lv_iload_n hx hb dX12_counted_121 rfl (lv_at hl 1 rfl) ?_
      refine lv_bipush (v := 10) hx hb dX12_counted_122 (by decide) ?_
      refine lv_icmp_ne (tgt := 140) hx hb dX12_counted_124 (by decide) (fun hc20 => ?_) (fun hc20 => ?_)
      · replace h := iff' h hc20
        refine lv_iconst (v := 0) hx hb dX12_counted_140 (by decide) ?_
        refine lv_iadd hx hb dX12_counted_141 ?_
        refine lv_istore_n (lv' := [(2, .int (v2 + (0 : Int32))), (0, .ref v0), (1, .int v1), (3, .int v3)]) hx hb dX12_counted_142 rfl hl (by decide) rfl (fun ls hl => ?_)
        refine lv_iinc (v := (v3 + 1)) (lv' := [(3, .int (v3 + 1)), (2, .int (v2 + (0 : Int32))), (0, .ref v0), (1, .int v1)]) hx hb dX12_counted_143 hl (k := 3) rfl rfl (by decide) rfl (fun ls hl => ?_)
        refine lv_goto (tgt := 115) hx hb dX12_counted_146 (by decide) ?_
        exact ih _ _ _ _ _ _ h k0 _ _ _ hH (lv_sub hl [2, 3, 1, 0] rfl)
      · replace h := ift h hc20
        refine lv_aload_n hx hb dX12_counted_127 rfl (lv_at hl 0 rfl) ?_
        obtain ⟨x21, hx21, h⟩ := bnd h
        refine gf_X12_54 X hH hx21 dX12_counted_128 ?_
        refine lv_iload_n hx hb dX12_counted_131 rfl (lv_at hl 3 rfl) ?_
        obtain ⟨x22, hx22, h⟩ := bnd h
        refine w_aZ X hH hx22 dX12_counted_132 ?_
        refine lv_if_eq (tgt := 140) hx hb dX12_counted_133 (by decide) (fun hc23 => ?_) (fun hc23 => ?_)
        · replace h := ift h hc23
          refine lv_iconst (v := 0) hx hb dX12_counted_140 (by decide) ?_
          refine lv_iadd hx hb dX12_counted_141 ?_
          refine lv_istore_n (lv' := [(2, .int (v2 + (0 : Int32))), (0, .ref v0), (1, .int v1), (3, .int v3)]) hx hb dX12_counted_142 rfl hl (by decide) rfl (fun ls hl => ?_)
          refine lv_iinc (v := (v3 + 1)) (lv' := [(3, .int (v3 + 1)), (2, .int (v2 + (0 : Int32))), (0, .ref v0), (1, .int v1)]) hx hb dX12_counted_143 hl (k := 3) rfl rfl (by decide) rfl (fun ls hl => ?_)
          refine lv_goto (tgt := 115) hx hb dX12_counted_146 (by decide) ?_
          exact ih _ _ _ _ _ _ h k0 _ _ _ hH (lv_sub hl [2, 3, 1, 0] rfl)
        · replace h := iff' h hc23
          refine lv_iconst (v := 1) hx hb dX12_counted_136 (by decide) ?_
          refine lv_goto (tgt := 141) hx hb dX12_counted_137 (by decide) ?_
          refine lv_iadd hx hb dX12_counted_141 ?_
          refine lv_istore_n (lv' := [(2, .int (v2 + (1 : Int32))), (0, .ref v0), (1, .int v1), (3, .int v3)]) hx hb dX12_counted_142 rfl hl (by decide) rfl (fun ls hl => ?_)
          refine lv_iinc (v := (v3 + 1)) (lv' := [(3, .int (v3 + 1)), (2, .int (v2 + (1 : Int32))), (0, .ref v0), (1, .int v1)]) hx hb dX12_counted_143 hl (k := 3) rfl rfl (by decide) rfl (fun ls hl => ?_)
          refine lv_goto (tgt := 115) hx hb dX12_counted_146 (by decide) ?_
          exact ih _ _ _ _ _ _ h k0 _ _ _ hH (lv_sub hl [2, 3, 1, 0] rfl)
theorem t_X12_counted {μ : Mm} {a0 : Nat} {p1 : Int32} {x : Int32} (h : f_X12_counted μ a0 p1 = some x) : tg μ a0 = 13 := by
  unfold f_X12_counted at h
  exact (gsn h).1
set_option maxHeartbeats 4000000 in
set_option maxRecDepth 100000 in
theorem c_X12_counted (l : Launch) (G : CG) (μ : Mm) (a0 : Nat) (p1 : Int32) (x : Int32) (h : f_X12_counted μ a0 p1 = some x) : Met l yX12_counted (.code yX12_counted cX12_counted 4 (some .int) :: UW) (rmk 2 0 0) (PC G [.ref a0, .int p1] μ) (QI G x μ) 0 0 (fA G) := by
  refine Met.ofW (cc := cX12_counted) (maxL := 4) (ret := (some .int)) (by decide) rfl ?_
  intro p e s m args below meth c s₁ B hml hv
  obtain ⟨X, hH, hr, rfl, hnm⟩ := cx_in B hml hv
  have X : Cx p s m _ meth c cX12_counted 4 RX12 G := X
  have hx := X.1
  have hb := X.2.1
  have hown := X.2.2.2.1
  have hts := X.2.2.2.2.1
  have hRL : RmL (rmk 2 0 0) 2 := ⟨Nat.le_refl _, Nat.le_refl _⟩
  have hcs : 0 ≤ (rmk 0 0 0).cells ∧ 0 ≤ (rmk 0 0 0).slots := ⟨Nat.zero_le _, Nat.zero_le _⟩
  refine ls_in (Nat.le_of_ble_eq_true rfl) (fun ls hl => ?_)
  have hl : lv_has ls 4 [(0, .ref a0), (1, .int p1)] := hl
  unfold f_X12_counted at h
  obtain ⟨htg, h⟩ := gsn h
  refine lv_iconst (v := 0) hx hb dX12_counted_0 (by decide) ?_
  refine lv_istore_n (lv' := [(2, .int (0 : Int32)), (0, .ref a0), (1, .int p1)]) hx hb dX12_counted_1 rfl hl (by decide) rfl (fun ls hl => ?_)
  refine lv_iconst (v := 0) hx hb dX12_counted_2 (by decide) ?_
  refine lv_istore_n (lv' := [(3, .int (0 : Int32)), (2, .int (0 : Int32)), (0, .ref a0), (1, .int p1)]) hx hb dX12_counted_3 rfl hl (by decide) rfl (fun ls hl => ?_)
  obtain ⟨x6, hx6, hhx6⟩ := bnd h
  clear h
  refine w_X12_counted_4 l X hRL hcs BIG a0 p1 (0 : Int32) (0 : Int32) μ x6 hx6 (fun H locs ls hH hl => ?_) _ _ _ hH (lv_sub hl [2, 3, 1, 0] rfl)
  · have h := hhx6
    clear hhx6
    refine lv_iconst (v := 0) hx hb dX12_counted_40 (by decide) ?_
    refine lv_istore_n (lv' := [(3, .int (0 : Int32)), (0, .ref a0), (1, .int p1), (2, .int x6)]) hx hb dX12_counted_41 rfl hl (by decide) rfl (fun ls hl => ?_)
    obtain ⟨x12, hx12, hhx12⟩ := bnd h
    clear h
    refine w_X12_counted_42 l X hRL hcs BIG a0 p1 x6 (0 : Int32) μ x12 hx12 (fun H locs ls hH hl => ?_) _ _ _ hH (lv_sub hl [1, 2, 3, 0] rfl)
    · have h := hhx12
      clear hhx12
      refine lv_iconst (v := 0) hx hb dX12_counted_77 (by decide) ?_
      refine lv_istore_n (lv' := [(3, .int (0 : Int32)), (0, .ref a0), (1, .int p1), (2, .int x12)]) hx hb dX12_counted_78 rfl hl (by decide) rfl (fun ls hl => ?_)
      obtain ⟨x18, hx18, hhx18⟩ := bnd h
      clear h
      refine w_X12_counted_79 l X hRL hcs BIG a0 p1 x12 (0 : Int32) μ x18 hx18 (fun H locs ls hH hl => ?_) _ _ _ hH (lv_sub hl [1, 2, 3, 0] rfl)
      · have h := hhx18
        clear hhx18
        refine lv_iconst (v := 0) hx hb dX12_counted_113 (by decide) ?_
        refine lv_istore_n (lv' := [(3, .int (0 : Int32)), (0, .ref a0), (1, .int p1), (2, .int x18)]) hx hb dX12_counted_114 rfl hl (by decide) rfl (fun ls hl => ?_)
        obtain ⟨x24, hx24, hhx24⟩ := bnd h
        clear h
        refine w_X12_counted_115 l X hRL hcs BIG a0 p1 x18 (0 : Int32) μ x24 hx24 (fun H locs ls hH hl => ?_) _ _ _ hH (lv_sub hl [1, 2, 3, 0] rfl)
        · have h := hhx24
          clear hhx24
          refine lv_iload_n hx hb dX12_counted_149 rfl (lv_at hl 1 rfl) ?_
          by_cases hc25 : p1 = (0 : Int32)
          · replace h := ift h hc25
            refine lv_tableIn (tgt := 192) (off := 42) hx hb dX12_counted_150 (by rw [hc25]; decide) (by rw [hc25]; decide) (by rw [hc25]; rfl) (by decide) ?_
            refine lv_aload_n hx hb dX12_counted_192 rfl (lv_at hl 0 rfl) ?_
            obtain ⟨x26, hx26, h⟩ := bnd h
            refine gf_X12_168 X hH hx26 dX12_counted_193 ?_
            exact eIp X hH h hr dX12_counted_196
          · replace h := iff' h hc25
            by_cases hc27 : p1 = (1 : Int32)
            · replace h := ift h hc27
              refine lv_tableIn (tgt := 197) (off := 47) hx hb dX12_counted_150 (by rw [hc27]; decide) (by rw [hc27]; decide) (by rw [hc27]; rfl) (by decide) ?_
              refine lv_aload_n hx hb dX12_counted_197 rfl (lv_at hl 0 rfl) ?_
              obtain ⟨x28, hx28, h⟩ := bnd h
              refine gf_X12_171 X hH hx28 dX12_counted_198 ?_
              exact eIp X hH h hr dX12_counted_201
            · replace h := iff' h hc27
              by_cases hc29 : p1 = (2 : Int32)
              · replace h := ift h hc29
                refine lv_tableIn (tgt := 202) (off := 52) hx hb dX12_counted_150 (by rw [hc29]; decide) (by rw [hc29]; decide) (by rw [hc29]; rfl) (by decide) ?_
                refine lv_aload_n hx hb dX12_counted_202 rfl (lv_at hl 0 rfl) ?_
                obtain ⟨x30, hx30, h⟩ := bnd h
                refine gf_X12_45 X hH hx30 dX12_counted_203 ?_
                refine lv_iconst (v := 0) hx hb dX12_counted_206 (by decide) ?_
                obtain ⟨x31, hx31, h⟩ := bnd h
                refine w_aI X hH hx31 dX12_counted_207 ?_
                exact eIp X hH h hr dX12_counted_208
              · replace h := iff' h hc29
                by_cases hc32 : p1 = (3 : Int32)
                · replace h := ift h hc32
                  refine lv_tableIn (tgt := 209) (off := 59) hx hb dX12_counted_150 (by rw [hc32]; decide) (by rw [hc32]; decide) (by rw [hc32]; rfl) (by decide) ?_
                  refine lv_aload_n hx hb dX12_counted_209 rfl (lv_at hl 0 rfl) ?_
                  obtain ⟨x33, hx33, h⟩ := bnd h
                  refine gf_X12_45 X hH hx33 dX12_counted_210 ?_
                  refine lv_iconst (v := 1) hx hb dX12_counted_213 (by decide) ?_
                  obtain ⟨x34, hx34, h⟩ := bnd h
                  refine w_aI X hH hx34 dX12_counted_214 ?_
                  exact eIp X hH h hr dX12_counted_215
                · replace h := iff' h hc32
                  by_cases hc35 : p1 = (4 : Int32)
                  · replace h := ift h hc35
                    refine lv_tableIn (tgt := 216) (off := 66) hx hb dX12_counted_150 (by rw [hc35]; decide) (by rw [hc35]; decide) (by rw [hc35]; rfl) (by decide) ?_
                    refine lv_aload_n hx hb dX12_counted_216 rfl (lv_at hl 0 rfl) ?_
                    obtain ⟨x36, hx36, h⟩ := bnd h
                    refine gf_X12_180 X hH hx36 dX12_counted_217 ?_
                    exact eIp X hH h hr dX12_counted_220
                  · replace h := iff' h hc35
                    by_cases hc37 : p1 = (5 : Int32)
                    · replace h := ift h hc37
                      refine lv_tableIn (tgt := 221) (off := 71) hx hb dX12_counted_150 (by rw [hc37]; decide) (by rw [hc37]; decide) (by rw [hc37]; rfl) (by decide) ?_
                      refine lv_aload_n hx hb dX12_counted_221 rfl (lv_at hl 0 rfl) ?_
                      obtain ⟨x38, hx38, h⟩ := bnd h
                      refine gf_X12_45 X hH hx38 dX12_counted_222 ?_
                      refine lv_iconst (v := 2) hx hb dX12_counted_225 (by decide) ?_
                      obtain ⟨x39, hx39, h⟩ := bnd h
                      refine w_aI X hH hx39 dX12_counted_226 ?_
                      exact eIp X hH h hr dX12_counted_227
                    · replace h := iff' h hc37
                      by_cases hc40 : p1 = (6 : Int32)
                      · replace h := ift h hc40
                        refine lv_tableIn (tgt := 228) (off := 78) hx hb dX12_counted_150 (by rw [hc40]; decide) (by rw [hc40]; decide) (by rw [hc40]; rfl) (by decide) ?_
                        refine lv_aload_n hx hb dX12_counted_228 rfl (lv_at hl 0 rfl) ?_
                        obtain ⟨x41, hx41, h⟩ := bnd h
                        refine gf_X12_174 X hH hx41 dX12_counted_229 ?_
                        exact eIp X hH h hr dX12_counted_232
                      · replace h := iff' h hc40
                        have e0 : p1.toInt ≠ 0 := lv_neT hc25 (by decide)
                        have e1 : p1.toInt ≠ 1 := lv_neT hc27 (by decide)
                        have e2 : p1.toInt ≠ 2 := lv_neT hc29 (by decide)
                        have e3 : p1.toInt ≠ 3 := lv_neT hc32 (by decide)
                        have e4 : p1.toInt ≠ 4 := lv_neT hc35 (by decide)
                        have e5 : p1.toInt ≠ 5 := lv_neT hc37 (by decide)
                        have e6 : p1.toInt ≠ 6 := lv_neT hc40 (by decide)
                        refine lv_tableOut (tgt := 233) hx hb dX12_counted_150 (by omega) (by decide) ?_
                        refine lv_iload_n hx hb dX12_counted_233 rfl (lv_at hl 2 rfl) ?_
                        exact eIp X hH h hr dX12_counted_234
set_option maxHeartbeats 1000000 in
theorem iv_X12_302 {p : Program} {e : Env} {R : Room} {s : State} {m : MethodId} {args : Array Value} {below : List Frame} {meth : Method} {c : Code} {H : Heap} {locs : List Loc} {cells slots : Nat} {Q : State → Prop} {cc : ByteArray} {pc : Nat} {ls : Array Slot} {rest : List Value} {nL : Nat} {G : CG} {μ : Mm} {a : Nat} {q0 : Int32} {x : Int32} {k : Nat} (l : Launch) (X : Cx p s m args meth c cc nL RX12 G) (hH : HS G s μ H locs) (hRL : RmL R k) (hk : 2 + 1 ≤ k) (h : f_X12_counted μ a q0 = some x) (hls : ls.size = nL) (hroom : (rest.map fun v => v.category).sum ≤ 8) (hdg : decode cc pc = .ok (.invokevirtual 302, 3)) (hcs : cells + 0 ≤ R.cells ∧ slots + 0 ≤ R.slots) (kk : ∀ (H1 : Heap) (locs1 : List Loc), HS G s μ H1 locs1 → W p l e R s m args below meth c H1 locs1 cells slots Q (F0 m (pc + 3) ls (.int x :: rest))) : W p l e R s m args below meth c H locs cells slots Q (F0 m pc ls (.int q0 :: .ref a :: rest)) := by
  refine kI hH (rV (As := [.int q0]) (rest := rest) X hH (t_X12_counted h) vc_12 (c_X12_counted l G μ a q0 x h) (List.forall_mem_cons.mpr ⟨u_1431, (List.forall_mem_cons.mpr ⟨u_1433, (List.forall_mem_cons.mpr ⟨u_55, (List.forall_mem_cons.mpr ⟨u_68, (fun _ h9 => absurd h9 List.not_mem_nil)⟩)⟩)⟩)⟩) u_1434 (rmo hRL (Nat.le_trans (by decide) hk) (by decide)) ddV_X12_counted rfl hls rfl hroom hdg hcs) kk
theorem t_X12_count {μ : Mm} {a0 : Nat} {p1 : Int32} {x : Int32} (h : f_X12_count μ a0 p1 = some x) : tg μ a0 = 13 := by
  unfold f_X12_count at h
  exact (gsn h).1
set_option maxHeartbeats 4000000 in
set_option maxRecDepth 100000 in
theorem c_X12_count (l : Launch) (G : CG) (μ : Mm) (a0 : Nat) (p1 : Int32) (x : Int32) (h : f_X12_count μ a0 p1 = some x) : Met l yX12_count (.code yX12_count cX12_count 2 (some .int) :: UW) (rmk 3 0 0) (PC G [.ref a0, .int p1] μ) (QI G x μ) 0 0 (fA G) := by
  refine Met.ofW (cc := cX12_count) (maxL := 2) (ret := (some .int)) (by decide) rfl ?_
  intro p e s m args below meth c s₁ B hml hv
  obtain ⟨X, hH, hr, rfl, hnm⟩ := cx_in B hml hv
  have X : Cx p s m _ meth c cX12_count 2 RX12 G := X
  have hx := X.1
  have hb := X.2.1
  have hown := X.2.2.2.1
  have hts := X.2.2.2.2.1
  have hRL : RmL (rmk 3 0 0) 3 := ⟨Nat.le_refl _, Nat.le_refl _⟩
  have hcs : 0 ≤ (rmk 0 0 0).cells ∧ 0 ≤ (rmk 0 0 0).slots := ⟨Nat.zero_le _, Nat.zero_le _⟩
  refine ls_in (Nat.le_of_ble_eq_true rfl) (fun ls hl => ?_)
  have hl : lv_has ls 2 [(0, .ref a0), (1, .int p1)] := hl
  unfold f_X12_count at h
  obtain ⟨htg, h⟩ := gsn h
  refine lv_iload_n hx hb dX12_count_0 rfl (lv_at hl 1 rfl) ?_
  refine lv_iconst (v := 0) hx hb dX12_count_1 (by decide) ?_
  refine lv_bipush (v := 10) hx hb dX12_count_2 (by decide) ?_
  obtain ⟨x1, hx1, h⟩ := bnd h
  refine iv_X12_96 l X hH hRL (by decide) hx1 hl.1 (Nat.le_of_ble_eq_true rfl) dX12_count_4 hcs (fun H locs hH => ?_)
  refine lv_if_eq (tgt := 18) hx hb dX12_count_7 (by decide) (fun hc2 => ?_) (fun hc2 => ?_)
  · replace h := ift h hc2
    refine lv_iconst (v := -1) hx hb dX12_count_18 (by decide) ?_
    exact eIp X hH h hr dX12_count_19
  · replace h := iff' h hc2
    refine lv_aload_n hx hb dX12_count_10 rfl (lv_at hl 0 rfl) ?_
    refine lv_iload_n hx hb dX12_count_11 rfl (lv_at hl 1 rfl) ?_
    obtain ⟨x3, hx3, h⟩ := bnd h
    refine iv_X12_302 l X hH hRL (by decide) hx3 hl.1 (Nat.le_of_ble_eq_true rfl) dX12_count_12 hcs (fun H locs hH => ?_)
    refine lv_goto (tgt := 19) hx hb dX12_count_15 (by decide) ?_
    exact eIp X hH h hr dX12_count_19
theorem t_X12_mix {μ : Mm} {a0 : Nat} {p1 : Int64} {x : Mm} (h : f_X12_mix μ a0 p1 = some x) : tg μ a0 = 13 := by
  unfold f_X12_mix at h
  exact (gsn h).1
set_option maxHeartbeats 4000000 in
set_option maxRecDepth 100000 in
theorem c_X12_mix (l : Launch) (G : CG) (μ : Mm) (a0 : Nat) (p1 : Int64) (x : Mm) (h : f_X12_mix μ a0 p1 = some x) : Met l yX12_mix (.code yX12_mix cX12_mix 3 none :: UW) (rmk 1 0 0) (PC G [.ref a0, .long p1] μ) (QV G x) 0 0 (fA G) := by
  refine Met.ofW (cc := cX12_mix) (maxL := 3) (ret := none) (by decide) rfl ?_
  intro p e s m args below meth c s₁ B hml hv
  obtain ⟨X, hH, hr, rfl, hnm⟩ := cx_in B hml hv
  have X : Cx p s m _ meth c cX12_mix 3 RX12 G := X
  have hx := X.1
  have hb := X.2.1
  have hown := X.2.2.2.1
  have hts := X.2.2.2.2.1
  have hRL : RmL (rmk 1 0 0) 1 := ⟨Nat.le_refl _, Nat.le_refl _⟩
  have hcs : 0 ≤ (rmk 0 0 0).cells ∧ 0 ≤ (rmk 0 0 0).slots := ⟨Nat.zero_le _, Nat.zero_le _⟩
  refine ls_in (Nat.le_of_ble_eq_true rfl) (fun ls hl => ?_)
  have hl : lv_has ls 3 [(0, .ref a0), (1, .long p1)] := hl
  unfold f_X12_mix at h
  obtain ⟨htg, h⟩ := gsn h
  refine lv_aload_n hx hb dX12_mix_0 rfl (lv_at hl 0 rfl) ?_
  refine lv_ldc2 (v := 31) hx hb hown (hts _ u_1448) dX12_mix_1 ?_
  refine lv_aload_n hx hb dX12_mix_4 rfl (lv_at hl 0 rfl) ?_
  obtain ⟨x1, hx1, h⟩ := bnd h
  refine gf_X12_307 X hH hx1 dX12_mix_5 ?_
  refine lv_lmul hx hb dX12_mix_8 ?_
  refine lv_lload_n hx hb dX12_mix_9 rfl (lv_at hl 1 rfl) ?_
  refine lv_ladd hx hb dX12_mix_10 ?_
  obtain ⟨x2, hx2, h⟩ := bnd h
  refine pf_X12_307 X hH hx2 dX12_mix_11 (fun H locs hH => ?_)
  exact eV X hH h hr dX12_mix_14 (Nat.le_of_ble_eq_true rfl) (Nat.le_of_ble_eq_true rfl)
set_option maxHeartbeats 1000000 in
theorem iv_X12_310 {p : Program} {e : Env} {R : Room} {s : State} {m : MethodId} {args : Array Value} {below : List Frame} {meth : Method} {c : Code} {H : Heap} {locs : List Loc} {cells slots : Nat} {Q : State → Prop} {cc : ByteArray} {pc : Nat} {ls : Array Slot} {rest : List Value} {nL : Nat} {G : CG} {μ : Mm} {a : Nat} {q0 : Int64} {x : Mm} {k : Nat} (l : Launch) (X : Cx p s m args meth c cc nL RX12 G) (hH : HS G s μ H locs) (hRL : RmL R k) (hk : 1 + 1 ≤ k) (h : f_X12_mix μ a q0 = some x) (hls : ls.size = nL) (hroom : (rest.map fun v => v.category).sum ≤ 8) (hdg : decode cc pc = .ok (.invokevirtual 310, 3)) (hcs : cells + 0 ≤ R.cells ∧ slots + 0 ≤ R.slots) (kk : ∀ (H1 : Heap) (locs1 : List Loc), HS G s x H1 locs1 → W p l e R s m args below meth c H1 locs1 cells slots Q (F0 m (pc + 3) ls rest)) : W p l e R s m args below meth c H locs cells slots Q (F0 m pc ls (.long q0 :: .ref a :: rest)) := by
  refine kV0 hH (rV (As := [.long q0]) (rest := rest) X hH (t_X12_mix h) vc_12 (c_X12_mix l G μ a q0 x h) (List.forall_mem_cons.mpr ⟨u_1444, (List.forall_mem_cons.mpr ⟨u_1446, (List.forall_mem_cons.mpr ⟨u_57, (List.forall_mem_cons.mpr ⟨u_68, (fun _ h9 => absurd h9 List.not_mem_nil)⟩)⟩)⟩)⟩) u_1447 (rmo hRL (Nat.le_trans (by decide) hk) (by decide)) ddV_X12_mix rfl hls rfl hroom hdg hcs) kk
set_option maxHeartbeats 4000000 in
set_option maxRecDepth 100000 in
theorem w_X12_mixHall_23 {p : Program} {e : Env} {R : Room} {s : State} {m : MethodId} {args : Array Value} {below : List Frame} {meth : Method} {c : Code} {cells slots : Nat} {Q : State → Prop} {G : CG} (l : Launch) (X : Cx p s m args meth c cX12_mixHall 3 RX12 G) (hRL : RmL R 4) (hcs : cells ≤ R.cells ∧ slots ≤ R.slots) : ∀ (n : Nat) (v0 : Nat) (v1 : Int32) (v2 : Int32) (μ : Mm) (x : Mm), lp_X12_mixHall_23 n v0 v1 v2 μ = some x → (∀ (H : Heap) (locs : List Loc) (ls : Array Slot), HS G s x H locs → lv_has ls 3 [(0, .ref v0), (1, .int v1)] → W p l e R s m args below meth c H locs cells slots Q (F0 m 45 ls [])) → ∀ (H : Heap) (locs : List Loc) (ls : Array Slot), HS G s μ H locs → lv_has ls 3 [(0, .ref v0), (1, .int v1), (2, .int v2)] → W p l e R s m args below meth c H locs cells slots Q (F0 m 23 ls []) := by
  have hx := X.1
  have hb := X.2.1
  have hown := X.2.2.2.1
  have hts := X.2.2.2.2.1
  intro n
  induction n with
  | zero =>
    intro v0 v1 v2 μ x h
    rw [lp_X12_mixHall_23] at h
    cases h
  | succ n ih =>
    intro v0 v1 v2 μ x h k0 H locs ls hH hl
    rw [lp_X12_mixHall_23] at h
    refine lv_iload_n hx hb dX12_mixHall_23 rfl (lv_at hl 2 rfl) ?_
    refine lv_iconst (v := 5) hx hb dX12_mixHall_24 (by decide) ?_
    refine lv_icmp_ge (tgt := 45) hx hb dX12_mixHall_25 (by decide) (fun hc6 => ?_) (fun hc6 => ?_)
    · replace h := ift h hc6
      cases h
      exact k0 _ _ _ hH (lv_sub hl [0, 1] rfl)
    · replace h := iff' h hc6
      refine lv_aload_n hx hb dX12_mixHall_28 rfl (lv_at hl 0 rfl) ?_
      refine lv_aload_n hx hb dX12_mixHall_29 rfl (lv_at hl 0 rfl) ?_
      refine lv_iload_n hx hb dX12_mixHall_30 rfl (lv_at hl 1 rfl) ?_
      refine lv_iload_n hx hb dX12_mixHall_31 rfl (lv_at hl 2 rfl) ?_
      obtain ⟨x7, hx7, h⟩ := bnd h
      refine iv_X12_192 l X hH hRL (by decide) hx7 hl.1 (Nat.le_of_ble_eq_true rfl) dX12_mixHall_32 hcs (fun H locs hH => ?_)
      refine lv_i2l hx hb dX12_mixHall_35 rfl ?_
      obtain ⟨x8, hx8, h⟩ := bnd h
      refine iv_X12_310 l X hH hRL (by decide) hx8 hl.1 (Nat.le_of_ble_eq_true rfl) dX12_mixHall_36 hcs (fun H locs hH => ?_)
      refine lv_iinc (v := (v2 + 1)) (lv' := [(2, .int (v2 + 1)), (0, .ref v0), (1, .int v1)]) hx hb dX12_mixHall_39 hl (k := 2) rfl rfl (by decide) rfl (fun ls hl => ?_)
      refine lv_goto (tgt := 23) hx hb dX12_mixHall_42 (by decide) ?_
      exact ih _ _ _ _ _ h k0 _ _ _ hH (lv_sub hl [1, 2, 0] rfl)
set_option maxHeartbeats 4000000 in
set_option maxRecDepth 100000 in
theorem w_X12_mixHall_13 {p : Program} {e : Env} {R : Room} {s : State} {m : MethodId} {args : Array Value} {below : List Frame} {meth : Method} {c : Code} {cells slots : Nat} {Q : State → Prop} {G : CG} (l : Launch) (X : Cx p s m args meth c cX12_mixHall 3 RX12 G) (hRL : RmL R 4) (hcs : cells ≤ R.cells ∧ slots ≤ R.slots) : ∀ (n : Nat) (v0 : Nat) (v1 : Int32) (μ : Mm) (x : Mm), lp_X12_mixHall_13 n v0 v1 μ = some x → (∀ (H : Heap) (locs : List Loc) (ls : Array Slot), HS G s x H locs → lv_has ls 3 [(0, .ref v0)] → W p l e R s m args below meth c H locs cells slots Q (F0 m 51 ls [])) → ∀ (H : Heap) (locs : List Loc) (ls : Array Slot), HS G s μ H locs → lv_has ls 3 [(0, .ref v0), (1, .int v1)] → W p l e R s m args below meth c H locs cells slots Q (F0 m 13 ls []) := by
  have hx := X.1
  have hb := X.2.1
  have hown := X.2.2.2.1
  have hts := X.2.2.2.2.1
  intro n
  induction n with
  | zero =>
    intro v0 v1 μ x h
    rw [lp_X12_mixHall_13] at h
    cases h
  | succ n ih =>
    intro v0 v1 μ x h k0 H locs ls hH hl
    rw [lp_X12_mixHall_13] at h
    refine lv_iload_n hx hb dX12_mixHall_13 rfl (lv_at hl 1 rfl) ?_
    refine lv_aload_n hx hb dX12_mixHall_14 rfl (lv_at hl 0 rfl) ?_
    obtain ⟨x4, hx4, h⟩ := bnd h
    refine gf_X12_168 X hH hx4 dX12_mixHall_15 ?_
    refine lv_icmp_ge (tgt := 51) hx hb dX12_mixHall_18 (by decide) (fun hc5 => ?_) (fun hc5 => ?_)
    · replace h := ift h hc5
      cases h
      exact k0 _ _ _ hH (lv_sub hl [0] rfl)
    · replace h := iff' h hc5
      refine lv_iconst (v := 0) hx hb dX12_mixHall_21 (by decide) ?_
      refine lv_istore_n (lv' := [(2, .int (0 : Int32)), (0, .ref v0), (1, .int v1)]) hx hb dX12_mixHall_22 rfl hl (by decide) rfl (fun ls hl => ?_)
      obtain ⟨x9, hx9, hhx9⟩ := bnd h
      clear h
      refine w_X12_mixHall_23 l X hRL hcs BIG v0 v1 (0 : Int32) μ x9 hx9 (fun H locs ls hH hl => ?_) _ _ _ hH (lv_sub hl [1, 2, 0] rfl)
      · have h := hhx9
        clear hhx9
        refine lv_iinc (v := (v1 + 1)) (lv' := [(1, .int (v1 + 1)), (0, .ref v0)]) hx hb dX12_mixHall_45 hl (k := 1) rfl rfl (by decide) rfl (fun ls hl => ?_)
        refine lv_goto (tgt := 13) hx hb dX12_mixHall_48 (by decide) ?_
        exact ih _ _ _ _ h k0 _ _ _ hH (lv_sub hl [1, 0] rfl)
set_option maxHeartbeats 4000000 in
set_option maxRecDepth 100000 in
theorem w_X12_mixHall_53 {p : Program} {e : Env} {R : Room} {s : State} {m : MethodId} {args : Array Value} {below : List Frame} {meth : Method} {c : Code} {cells slots : Nat} {Q : State → Prop} {G : CG} (l : Launch) (X : Cx p s m args meth c cX12_mixHall 3 RX12 G) (hRL : RmL R 4) (hcs : cells ≤ R.cells ∧ slots ≤ R.slots) : ∀ (n : Nat) (v0 : Nat) (v1 : Int32) (μ : Mm) (x : Mm), lp_X12_mixHall_53 n v0 v1 μ = some x → (∀ (H : Heap) (locs : List Loc) (ls : Array Slot), HS G s x H locs → lv_has ls 3 [] → W p l e R s m args below meth c H locs cells slots Q (F0 m 90 ls [])) → ∀ (H : Heap) (locs : List Loc) (ls : Array Slot), HS G s μ H locs → lv_has ls 3 [(0, .ref v0), (1, .int v1)] → W p l e R s m args below meth c H locs cells slots Q (F0 m 53 ls []) := by
  have hx := X.1
  have hb := X.2.1
  have hown := X.2.2.2.1
  have hts := X.2.2.2.2.1
  intro n
  induction n with
  | zero =>
    intro v0 v1 μ x h
    rw [lp_X12_mixHall_53] at h
    cases h
  | succ n ih =>
    intro v0 v1 μ x h k0 H locs ls hH hl
    rw [lp_X12_mixHall_53] at h
    refine lv_iload_n hx hb dX12_mixHall_53 rfl (lv_at hl 1 rfl) ?_
    refine lv_iconst (v := 3) hx hb dX12_mixHall_54 (by decide) ?_
    refine lv_icmp_ge (tgt := 90) hx hb dX12_mixHall_55 (by decide) (fun hc11 => ?_) (fun hc11 => ?_)
    · replace h := ift h hc11
      cases h
      exact k0 _ _ _ hH (lv_sub hl [] rfl)
    · replace h := iff' h hc11
      refine lv_aload_n hx hb dX12_mixHall_58 rfl (lv_at hl 0 rfl) ?_
      refine lv_aload_n hx hb dX12_mixHall_59 rfl (lv_at hl 0 rfl) ?_
      obtain ⟨x12, hx12, h⟩ := bnd h
      refine gf_X12_54 X hH hx12 dX12_mixHall_60 ?_
      refine lv_iload_n hx hb dX12_mixHall_63 rfl (lv_at hl 1 rfl) ?_
      obtain ⟨x13, hx13, h⟩ := bnd h
      refine w_aZ X hH hx13 dX12_mixHall_64 ?_
      refine lv_if_eq (tgt := 78) hx hb dX12_mixHall_65 (by decide) (fun hc14 => ?_) (fun hc14 => ?_)
      · replace h := ift h hc14
        refine lv_ldc2 (v := (-1)) hx hb hown (hts _ u_1453) dX12_mixHall_78 ?_
        obtain ⟨x15, hx15, h⟩ := bnd h
        refine iv_X12_310 l X hH hRL (by decide) hx15 hl.1 (Nat.le_of_ble_eq_true rfl) dX12_mixHall_81 hcs (fun H locs hH => ?_)
        refine lv_iinc (v := (v1 + 1)) (lv' := [(1, .int (v1 + 1)), (0, .ref v0)]) hx hb dX12_mixHall_84 hl (k := 1) rfl rfl (by decide) rfl (fun ls hl => ?_)
        refine lv_goto (tgt := 53) hx hb dX12_mixHall_87 (by decide) ?_
        exact ih _ _ _ _ h k0 _ _ _ hH (lv_sub hl [1, 0] rfl)
      · replace h := iff' h hc14
        refine lv_aload_n hx hb dX12_mixHall_68 rfl (lv_at hl 0 rfl) ?_
        obtain ⟨x16, hx16, h⟩ := bnd h
        refine gf_X12_58 X hH hx16 dX12_mixHall_69 ?_
        refine lv_iload_n hx hb dX12_mixHall_72 rfl (lv_at hl 1 rfl) ?_
        obtain ⟨x17, hx17, h⟩ := bnd h
        refine w_aI X hH hx17 dX12_mixHall_73 ?_
        refine lv_i2l hx hb dX12_mixHall_74 rfl ?_
        refine lv_goto (tgt := 81) hx hb dX12_mixHall_75 (by decide) ?_
        obtain ⟨x18, hx18, h⟩ := bnd h
        refine iv_X12_310 l X hH hRL (by decide) hx18 hl.1 (Nat.le_of_ble_eq_true rfl) dX12_mixHall_81 hcs (fun H locs hH => ?_)
        refine lv_iinc (v := (v1 + 1)) (lv' := [(1, .int (v1 + 1)), (0, .ref v0)]) hx hb dX12_mixHall_84 hl (k := 1) rfl rfl (by decide) rfl (fun ls hl => ?_)
        refine lv_goto (tgt := 53) hx hb dX12_mixHall_87 (by decide) ?_
        exact ih _ _ _ _ h k0 _ _ _ hH (lv_sub hl [1, 0] rfl)
theorem t_X12_mixHall {μ : Mm} {a0 : Nat} {x : Mm} (h : f_X12_mixHall μ a0 = some x) : tg μ a0 = 13 := by
  unfold f_X12_mixHall at h
  exact (gsn h).1
set_option maxHeartbeats 4000000 in
set_option maxRecDepth 100000 in
theorem c_X12_mixHall (l : Launch) (G : CG) (μ : Mm) (a0 : Nat) (x : Mm) (h : f_X12_mixHall μ a0 = some x) : Met l yX12_mixHall (.code yX12_mixHall cX12_mixHall 3 none :: UW) (rmk 4 0 0) (PC G [.ref a0] μ) (QV G x) 0 0 (fA G) := by
  refine Met.ofW (cc := cX12_mixHall) (maxL := 3) (ret := none) (by decide) rfl ?_
  intro p e s m args below meth c s₁ B hml hv
  obtain ⟨X, hH, hr, rfl, hnm⟩ := cx_in B hml hv
  have X : Cx p s m _ meth c cX12_mixHall 3 RX12 G := X
  have hx := X.1
  have hb := X.2.1
  have hown := X.2.2.2.1
  have hts := X.2.2.2.2.1
  have hRL : RmL (rmk 4 0 0) 4 := ⟨Nat.le_refl _, Nat.le_refl _⟩
  have hcs : 0 ≤ (rmk 0 0 0).cells ∧ 0 ≤ (rmk 0 0 0).slots := ⟨Nat.zero_le _, Nat.zero_le _⟩
  refine ls_in (Nat.le_of_ble_eq_true rfl) (fun ls hl => ?_)
  have hl : lv_has ls 3 [(0, .ref a0)] := hl
  unfold f_X12_mixHall at h
  obtain ⟨htg, h⟩ := gsn h
  refine lv_aload_n hx hb dX12_mixHall_0 rfl (lv_at hl 0 rfl) ?_
  refine lv_aload_n hx hb dX12_mixHall_1 rfl (lv_at hl 0 rfl) ?_
  obtain ⟨x1, hx1, h⟩ := bnd h
  refine gf_X12_45 X hH hx1 dX12_mixHall_2 ?_
  refine lv_iconst (v := 3) hx hb dX12_mixHall_5 (by decide) ?_
  obtain ⟨x2, hx2, h⟩ := bnd h
  refine w_aI X hH hx2 dX12_mixHall_6 ?_
  refine lv_i2l hx hb dX12_mixHall_7 rfl ?_
  obtain ⟨x3, hx3, h⟩ := bnd h
  refine iv_X12_310 l X hH hRL (by decide) hx3 hl.1 (Nat.le_of_ble_eq_true rfl) dX12_mixHall_8 hcs (fun H locs hH => ?_)
  refine lv_iconst (v := 0) hx hb dX12_mixHall_11 (by decide) ?_
  refine lv_istore_n (lv' := [(1, .int (0 : Int32)), (0, .ref a0)]) hx hb dX12_mixHall_12 rfl hl (by decide) rfl (fun ls hl => ?_)
  obtain ⟨x10, hx10, hhx10⟩ := bnd h
  clear h
  refine w_X12_mixHall_13 l X hRL hcs BIG a0 (0 : Int32) x3 x10 hx10 (fun H locs ls hH hl => ?_) _ _ _ hH (lv_sub hl [1, 0] rfl)
  · have h := hhx10
    clear hhx10
    refine lv_iconst (v := 0) hx hb dX12_mixHall_51 (by decide) ?_
    refine lv_istore_n (lv' := [(1, .int (0 : Int32)), (0, .ref a0)]) hx hb dX12_mixHall_52 rfl hl (by decide) rfl (fun ls hl => ?_)
    obtain ⟨x19, hx19, hhx19⟩ := bnd h
    clear h
    refine w_X12_mixHall_53 l X hRL hcs BIG a0 (0 : Int32) x10 x19 hx19 (fun H locs ls hH hl => ?_) _ _ _ hH (lv_sub hl [1, 0] rfl)
    · have h := hhx19
      clear hhx19
      exact eV X hH h hr dX12_mixHall_90 (Nat.le_of_ble_eq_true rfl) (Nat.le_of_ble_eq_true rfl)
set_option maxHeartbeats 1000000 in
theorem iv_X12_318 {p : Program} {e : Env} {R : Room} {s : State} {m : MethodId} {args : Array Value} {below : List Frame} {meth : Method} {c : Code} {H : Heap} {locs : List Loc} {cells slots : Nat} {Q : State → Prop} {cc : ByteArray} {pc : Nat} {ls : Array Slot} {rest : List Value} {nL : Nat} {G : CG} {μ : Mm} {a : Nat}  {x : Mm} {k : Nat} (l : Launch) (X : Cx p s m args meth c cc nL RX12 G) (hH : HS G s μ H locs) (hRL : RmL R k) (hk : 4 + 1 ≤ k) (h : f_X12_mixHall μ a = some x) (hls : ls.size = nL) (hroom : (rest.map fun v => v.category).sum ≤ 8) (hdg : decode cc pc = .ok (.invokevirtual 318, 3)) (hcs : cells + 0 ≤ R.cells ∧ slots + 0 ≤ R.slots) (kk : ∀ (H1 : Heap) (locs1 : List Loc), HS G s x H1 locs1 → W p l e R s m args below meth c H1 locs1 cells slots Q (F0 m (pc + 3) ls rest)) : W p l e R s m args below meth c H locs cells slots Q (F0 m pc ls (.ref a :: rest)) := by
  refine kV0 hH (rV (As := []) (rest := rest) X hH (t_X12_mixHall h) vc_12 (c_X12_mixHall l G μ a x h) (List.forall_mem_cons.mpr ⟨u_1449, (List.forall_mem_cons.mpr ⟨u_1451, (List.forall_mem_cons.mpr ⟨u_58, (List.forall_mem_cons.mpr ⟨u_68, (fun _ h9 => absurd h9 List.not_mem_nil)⟩)⟩)⟩)⟩) u_1452 (rmo hRL (Nat.le_trans (by decide) hk) (by decide)) ddV_X12_mixHall rfl hls rfl hroom hdg hcs) kk
set_option maxHeartbeats 4000000 in
set_option maxRecDepth 100000 in
theorem w_X12_digest_9 {p : Program} {e : Env} {R : Room} {s : State} {m : MethodId} {args : Array Value} {below : List Frame} {meth : Method} {c : Code} {cells slots : Nat} {Q : State → Prop} {G : CG} (l : Launch) (X : Cx p s m args meth c cX12_digest 3 RX12 G) (hRL : RmL R 5) (hcs : cells ≤ R.cells ∧ slots ≤ R.slots) : ∀ (n : Nat) (v0 : Nat) (v1 : Int32) (μ : Mm) (x : Mm), lp_X12_digest_9 n v0 v1 μ = some x → (∀ (H : Heap) (locs : List Loc) (ls : Array Slot), HS G s x H locs → lv_has ls 3 [(0, .ref v0)] → W p l e R s m args below meth c H locs cells slots Q (F0 m 31 ls [])) → ∀ (H : Heap) (locs : List Loc) (ls : Array Slot), HS G s μ H locs → lv_has ls 3 [(0, .ref v0), (1, .int v1)] → W p l e R s m args below meth c H locs cells slots Q (F0 m 9 ls []) := by
  have hx := X.1
  have hb := X.2.1
  have hown := X.2.2.2.1
  have hts := X.2.2.2.2.1
  intro n
  induction n with
  | zero =>
    intro v0 v1 μ x h
    rw [lp_X12_digest_9] at h
    cases h
  | succ n ih =>
    intro v0 v1 μ x h k0 H locs ls hH hl
    rw [lp_X12_digest_9] at h
    refine lv_iload_n hx hb dX12_digest_9 rfl (lv_at hl 1 rfl) ?_
    refine lv_bipush (v := 11) hx hb dX12_digest_10 (by decide) ?_
    refine lv_icmp_ge (tgt := 31) hx hb dX12_digest_12 (by decide) (fun hc2 => ?_) (fun hc2 => ?_)
    · replace h := ift h hc2
      cases h
      exact k0 _ _ _ hH (lv_sub hl [0] rfl)
    · replace h := iff' h hc2
      refine lv_aload_n hx hb dX12_digest_15 rfl (lv_at hl 0 rfl) ?_
      refine lv_aload_n hx hb dX12_digest_16 rfl (lv_at hl 0 rfl) ?_
      refine lv_iload_n hx hb dX12_digest_17 rfl (lv_at hl 1 rfl) ?_
      obtain ⟨x3, hx3, h⟩ := bnd h
      refine iv_X12_302 l X hH hRL (by decide) hx3 hl.1 (Nat.le_of_ble_eq_true rfl) dX12_digest_18 hcs (fun H locs hH => ?_)
      refine lv_i2l hx hb dX12_digest_21 rfl ?_
      obtain ⟨x4, hx4, h⟩ := bnd h
      refine iv_X12_310 l X hH hRL (by decide) hx4 hl.1 (Nat.le_of_ble_eq_true rfl) dX12_digest_22 hcs (fun H locs hH => ?_)
      refine lv_iinc (v := (v1 + 1)) (lv' := [(1, .int (v1 + 1)), (0, .ref v0)]) hx hb dX12_digest_25 hl (k := 1) rfl rfl (by decide) rfl (fun ls hl => ?_)
      refine lv_goto (tgt := 9) hx hb dX12_digest_28 (by decide) ?_
      exact ih _ _ _ _ h k0 _ _ _ hH (lv_sub hl [1, 0] rfl)
set_option maxHeartbeats 4000000 in
set_option maxRecDepth 100000 in
theorem w_X12_digest_56 {p : Program} {e : Env} {R : Room} {s : State} {m : MethodId} {args : Array Value} {below : List Frame} {meth : Method} {c : Code} {cells slots : Nat} {Q : State → Prop} {G : CG} (l : Launch) (X : Cx p s m args meth c cX12_digest 3 RX12 G) (hRL : RmL R 5) (hcs : cells ≤ R.cells ∧ slots ≤ R.slots) : ∀ (n : Nat) (v0 : Nat) (v1 : Int32) (v2 : Int32) (μ : Mm) (x : Mm), lp_X12_digest_56 n v0 v1 v2 μ = some x → (∀ (H : Heap) (locs : List Loc) (ls : Array Slot), HS G s x H locs → lv_has ls 3 [(0, .ref v0), (1, .int v1)] → W p l e R s m args below meth c H locs cells slots Q (F0 m 83 ls [])) → ∀ (H : Heap) (locs : List Loc) (ls : Array Slot), HS G s μ H locs → lv_has ls 3 [(0, .ref v0), (1, .int v1), (2, .int v2)] → W p l e R s m args below meth c H locs cells slots Q (F0 m 56 ls []) := by
  have hx := X.1
  have hb := X.2.1
  have hown := X.2.2.2.1
  have hts := X.2.2.2.2.1
  intro n
  induction n with
  | zero =>
    intro v0 v1 v2 μ x h
    rw [lp_X12_digest_56] at h
    cases h
  | succ n ih =>
    intro v0 v1 v2 μ x h k0 H locs ls hH hl
    rw [lp_X12_digest_56] at h
    refine lv_iload_n hx hb dX12_digest_56 rfl (lv_at hl 2 rfl) ?_
    refine lv_aload_n hx hb dX12_digest_57 rfl (lv_at hl 0 rfl) ?_
    obtain ⟨x11, hx11, h⟩ := bnd h
    refine gf_X12_17 X hH hx11 dX12_digest_58 ?_
    refine lv_iload_n hx hb dX12_digest_61 rfl (lv_at hl 1 rfl) ?_
    obtain ⟨x12, hx12, h⟩ := bnd h
    refine w_aI X hH hx12 dX12_digest_62 ?_
    refine lv_icmp_ge (tgt := 83) hx hb dX12_digest_63 (by decide) (fun hc13 => ?_) (fun hc13 => ?_)
    · replace h := ift h hc13
      cases h
      exact k0 _ _ _ hH (lv_sub hl [0, 1] rfl)
    · replace h := iff' h hc13
      refine lv_aload_n hx hb dX12_digest_66 rfl (lv_at hl 0 rfl) ?_
      refine lv_aload_n hx hb dX12_digest_67 rfl (lv_at hl 0 rfl) ?_
      refine lv_iload_n hx hb dX12_digest_68 rfl (lv_at hl 1 rfl) ?_
      refine lv_iload_n hx hb dX12_digest_69 rfl (lv_at hl 2 rfl) ?_
      obtain ⟨x14, hx14, h⟩ := bnd h
      refine iv_X12_114 l X hH hRL (by decide) hx14 hl.1 (Nat.le_of_ble_eq_true rfl) dX12_digest_70 hcs (fun H locs hH => ?_)
      refine lv_i2l hx hb dX12_digest_73 rfl ?_
      obtain ⟨x15, hx15, h⟩ := bnd h
      refine iv_X12_310 l X hH hRL (by decide) hx15 hl.1 (Nat.le_of_ble_eq_true rfl) dX12_digest_74 hcs (fun H locs hH => ?_)
      refine lv_iinc (v := (v2 + 1)) (lv' := [(2, .int (v2 + 1)), (0, .ref v0), (1, .int v1)]) hx hb dX12_digest_77 hl (k := 2) rfl rfl (by decide) rfl (fun ls hl => ?_)
      refine lv_goto (tgt := 56) hx hb dX12_digest_80 (by decide) ?_
      exact ih _ _ _ _ _ h k0 _ _ _ hH (lv_sub hl [1, 2, 0] rfl)
set_option maxHeartbeats 4000000 in
set_option maxRecDepth 100000 in
theorem w_X12_digest_37 {p : Program} {e : Env} {R : Room} {s : State} {m : MethodId} {args : Array Value} {below : List Frame} {meth : Method} {c : Code} {cells slots : Nat} {Q : State → Prop} {G : CG} (l : Launch) (X : Cx p s m args meth c cX12_digest 3 RX12 G) (hRL : RmL R 5) (hcs : cells ≤ R.cells ∧ slots ≤ R.slots) : ∀ (n : Nat) (v0 : Nat) (v1 : Int32) (μ : Mm) (x : Mm), lp_X12_digest_37 n v0 v1 μ = some x → (∀ (H : Heap) (locs : List Loc) (ls : Array Slot), HS G s x H locs → lv_has ls 3 [(0, .ref v0)] → W p l e R s m args below meth c H locs cells slots Q (F0 m 89 ls [])) → ∀ (H : Heap) (locs : List Loc) (ls : Array Slot), HS G s μ H locs → lv_has ls 3 [(0, .ref v0), (1, .int v1)] → W p l e R s m args below meth c H locs cells slots Q (F0 m 37 ls []) := by
  have hx := X.1
  have hb := X.2.1
  have hown := X.2.2.2.1
  have hts := X.2.2.2.2.1
  intro n
  induction n with
  | zero =>
    intro v0 v1 μ x h
    rw [lp_X12_digest_37] at h
    cases h
  | succ n ih =>
    intro v0 v1 μ x h k0 H locs ls hH hl
    rw [lp_X12_digest_37] at h
    refine lv_iload_n hx hb dX12_digest_37 rfl (lv_at hl 1 rfl) ?_
    refine lv_bipush (v := 6) hx hb dX12_digest_38 (by decide) ?_
    refine lv_icmp_ge (tgt := 89) hx hb dX12_digest_40 (by decide) (fun hc7 => ?_) (fun hc7 => ?_)
    · replace h := ift h hc7
      cases h
      exact k0 _ _ _ hH (lv_sub hl [0] rfl)
    · replace h := iff' h hc7
      refine lv_aload_n hx hb dX12_digest_43 rfl (lv_at hl 0 rfl) ?_
      refine lv_aload_n hx hb dX12_digest_44 rfl (lv_at hl 0 rfl) ?_
      obtain ⟨x8, hx8, h⟩ := bnd h
      refine gf_X12_17 X hH hx8 dX12_digest_45 ?_
      refine lv_iload_n hx hb dX12_digest_48 rfl (lv_at hl 1 rfl) ?_
      obtain ⟨x9, hx9, h⟩ := bnd h
      refine w_aI X hH hx9 dX12_digest_49 ?_
      refine lv_i2l hx hb dX12_digest_50 rfl ?_
      obtain ⟨x10, hx10, h⟩ := bnd h
      refine iv_X12_310 l X hH hRL (by decide) hx10 hl.1 (Nat.le_of_ble_eq_true rfl) dX12_digest_51 hcs (fun H locs hH => ?_)
      refine lv_iconst (v := 0) hx hb dX12_digest_54 (by decide) ?_
      refine lv_istore_n (lv' := [(2, .int (0 : Int32)), (0, .ref v0), (1, .int v1)]) hx hb dX12_digest_55 rfl hl (by decide) rfl (fun ls hl => ?_)
      obtain ⟨x16, hx16, hhx16⟩ := bnd h
      clear h
      refine w_X12_digest_56 l X hRL hcs BIG v0 v1 (0 : Int32) x10 x16 hx16 (fun H locs ls hH hl => ?_) _ _ _ hH (lv_sub hl [1, 2, 0] rfl)
      · have h := hhx16
        clear hhx16
        refine lv_iinc (v := (v1 + 1)) (lv' := [(1, .int (v1 + 1)), (0, .ref v0)]) hx hb dX12_digest_83 hl (k := 1) rfl rfl (by decide) rfl (fun ls hl => ?_)
        refine lv_goto (tgt := 37) hx hb dX12_digest_86 (by decide) ?_
        exact ih _ _ _ _ h k0 _ _ _ hH (lv_sub hl [1, 0] rfl)
set_option maxHeartbeats 4000000 in
set_option maxRecDepth 100000 in
theorem w_X12_digest_109 {p : Program} {e : Env} {R : Room} {s : State} {m : MethodId} {args : Array Value} {below : List Frame} {meth : Method} {c : Code} {cells slots : Nat} {Q : State → Prop} {G : CG} (l : Launch) (X : Cx p s m args meth c cX12_digest 3 RX12 G) (hRL : RmL R 5) (hcs : cells ≤ R.cells ∧ slots ≤ R.slots) : ∀ (n : Nat) (v0 : Nat) (v1 : Int32) (v2 : Int32) (μ : Mm) (x : Mm), lp_X12_digest_109 n v0 v1 v2 μ = some x → (∀ (H : Heap) (locs : List Loc) (ls : Array Slot), HS G s x H locs → lv_has ls 3 [(0, .ref v0), (1, .int v1)] → W p l e R s m args below meth c H locs cells slots Q (F0 m 136 ls [])) → ∀ (H : Heap) (locs : List Loc) (ls : Array Slot), HS G s μ H locs → lv_has ls 3 [(0, .ref v0), (1, .int v1), (2, .int v2)] → W p l e R s m args below meth c H locs cells slots Q (F0 m 109 ls []) := by
  have hx := X.1
  have hb := X.2.1
  have hown := X.2.2.2.1
  have hts := X.2.2.2.2.1
  intro n
  induction n with
  | zero =>
    intro v0 v1 v2 μ x h
    rw [lp_X12_digest_109] at h
    cases h
  | succ n ih =>
    intro v0 v1 v2 μ x h k0 H locs ls hH hl
    rw [lp_X12_digest_109] at h
    refine lv_iload_n hx hb dX12_digest_109 rfl (lv_at hl 2 rfl) ?_
    refine lv_aload_n hx hb dX12_digest_110 rfl (lv_at hl 0 rfl) ?_
    obtain ⟨x22, hx22, h⟩ := bnd h
    refine gf_X12_26 X hH hx22 dX12_digest_111 ?_
    refine lv_iload_n hx hb dX12_digest_114 rfl (lv_at hl 1 rfl) ?_
    obtain ⟨x23, hx23, h⟩ := bnd h
    refine w_aI X hH hx23 dX12_digest_115 ?_
    refine lv_icmp_ge (tgt := 136) hx hb dX12_digest_116 (by decide) (fun hc24 => ?_) (fun hc24 => ?_)
    · replace h := ift h hc24
      cases h
      exact k0 _ _ _ hH (lv_sub hl [0, 1] rfl)
    · replace h := iff' h hc24
      refine lv_aload_n hx hb dX12_digest_119 rfl (lv_at hl 0 rfl) ?_
      refine lv_aload_n hx hb dX12_digest_120 rfl (lv_at hl 0 rfl) ?_
      refine lv_iload_n hx hb dX12_digest_121 rfl (lv_at hl 1 rfl) ?_
      refine lv_iload_n hx hb dX12_digest_122 rfl (lv_at hl 2 rfl) ?_
      obtain ⟨x25, hx25, h⟩ := bnd h
      refine iv_X12_124 l X hH hRL (by decide) hx25 hl.1 (Nat.le_of_ble_eq_true rfl) dX12_digest_123 hcs (fun H locs hH => ?_)
      refine lv_i2l hx hb dX12_digest_126 rfl ?_
      obtain ⟨x26, hx26, h⟩ := bnd h
      refine iv_X12_310 l X hH hRL (by decide) hx26 hl.1 (Nat.le_of_ble_eq_true rfl) dX12_digest_127 hcs (fun H locs hH => ?_)
      refine lv_iinc (v := (v2 + 1)) (lv' := [(2, .int (v2 + 1)), (0, .ref v0), (1, .int v1)]) hx hb dX12_digest_130 hl (k := 2) rfl rfl (by decide) rfl (fun ls hl => ?_)
      refine lv_goto (tgt := 109) hx hb dX12_digest_133 (by decide) ?_
      exact ih _ _ _ _ _ h k0 _ _ _ hH (lv_sub hl [1, 2, 0] rfl)
set_option maxHeartbeats 4000000 in
set_option maxRecDepth 100000 in
theorem w_X12_digest_91 {p : Program} {e : Env} {R : Room} {s : State} {m : MethodId} {args : Array Value} {below : List Frame} {meth : Method} {c : Code} {cells slots : Nat} {Q : State → Prop} {G : CG} (l : Launch) (X : Cx p s m args meth c cX12_digest 3 RX12 G) (hRL : RmL R 5) (hcs : cells ≤ R.cells ∧ slots ≤ R.slots) : ∀ (n : Nat) (v0 : Nat) (v1 : Int32) (μ : Mm) (x : Mm), lp_X12_digest_91 n v0 v1 μ = some x → (∀ (H : Heap) (locs : List Loc) (ls : Array Slot), HS G s x H locs → lv_has ls 3 [(0, .ref v0)] → W p l e R s m args below meth c H locs cells slots Q (F0 m 142 ls [])) → ∀ (H : Heap) (locs : List Loc) (ls : Array Slot), HS G s μ H locs → lv_has ls 3 [(0, .ref v0), (1, .int v1)] → W p l e R s m args below meth c H locs cells slots Q (F0 m 91 ls []) := by
  have hx := X.1
  have hb := X.2.1
  have hown := X.2.2.2.1
  have hts := X.2.2.2.2.1
  intro n
  induction n with
  | zero =>
    intro v0 v1 μ x h
    rw [lp_X12_digest_91] at h
    cases h
  | succ n ih =>
    intro v0 v1 μ x h k0 H locs ls hH hl
    rw [lp_X12_digest_91] at h
    refine lv_iload_n hx hb dX12_digest_91 rfl (lv_at hl 1 rfl) ?_
    refine lv_iconst (v := 4) hx hb dX12_digest_92 (by decide) ?_
    refine lv_icmp_ge (tgt := 142) hx hb dX12_digest_93 (by decide) (fun hc18 => ?_) (fun hc18 => ?_)
    · replace h := ift h hc18
      cases h
      exact k0 _ _ _ hH (lv_sub hl [0] rfl)
    · replace h := iff' h hc18
      refine lv_aload_n hx hb dX12_digest_96 rfl (lv_at hl 0 rfl) ?_
      refine lv_aload_n hx hb dX12_digest_97 rfl (lv_at hl 0 rfl) ?_
      obtain ⟨x19, hx19, h⟩ := bnd h
      refine gf_X12_26 X hH hx19 dX12_digest_98 ?_
      refine lv_iload_n hx hb dX12_digest_101 rfl (lv_at hl 1 rfl) ?_
      obtain ⟨x20, hx20, h⟩ := bnd h
      refine w_aI X hH hx20 dX12_digest_102 ?_
      refine lv_i2l hx hb dX12_digest_103 rfl ?_
      obtain ⟨x21, hx21, h⟩ := bnd h
      refine iv_X12_310 l X hH hRL (by decide) hx21 hl.1 (Nat.le_of_ble_eq_true rfl) dX12_digest_104 hcs (fun H locs hH => ?_)
      refine lv_iconst (v := 0) hx hb dX12_digest_107 (by decide) ?_
      refine lv_istore_n (lv' := [(2, .int (0 : Int32)), (0, .ref v0), (1, .int v1)]) hx hb dX12_digest_108 rfl hl (by decide) rfl (fun ls hl => ?_)
      obtain ⟨x27, hx27, hhx27⟩ := bnd h
      clear h
      refine w_X12_digest_109 l X hRL hcs BIG v0 v1 (0 : Int32) x21 x27 hx27 (fun H locs ls hH hl => ?_) _ _ _ hH (lv_sub hl [1, 2, 0] rfl)
      · have h := hhx27
        clear hhx27
        refine lv_iinc (v := (v1 + 1)) (lv' := [(1, .int (v1 + 1)), (0, .ref v0)]) hx hb dX12_digest_136 hl (k := 1) rfl rfl (by decide) rfl (fun ls hl => ?_)
        refine lv_goto (tgt := 91) hx hb dX12_digest_139 (by decide) ?_
        exact ih _ _ _ _ h k0 _ _ _ hH (lv_sub hl [1, 0] rfl)
theorem t_X12_digest {μ : Mm} {a0 : Nat} {x : Int64 × Mm} (h : f_X12_digest μ a0 = some x) : tg μ a0 = 13 := by
  unfold f_X12_digest at h
  exact (gsn h).1
set_option maxHeartbeats 4000000 in
set_option maxRecDepth 100000 in
theorem c_X12_digest (l : Launch) (G : CG) (μ : Mm) (a0 : Nat) (x : Int64 × Mm) (h : f_X12_digest μ a0 = some x) : Met l yX12_digest (.code yX12_digest cX12_digest 3 (some .long) :: UW) (rmk 5 0 0) (PC G [.ref a0] μ) (QL G x.1 x.2) 0 0 (fA G) := by
  refine Met.ofW (cc := cX12_digest) (maxL := 3) (ret := (some .long)) (by decide) rfl ?_
  intro p e s m args below meth c s₁ B hml hv
  obtain ⟨X, hH, hr, rfl, hnm⟩ := cx_in B hml hv
  have X : Cx p s m _ meth c cX12_digest 3 RX12 G := X
  have hx := X.1
  have hb := X.2.1
  have hown := X.2.2.2.1
  have hts := X.2.2.2.2.1
  have hRL : RmL (rmk 5 0 0) 5 := ⟨Nat.le_refl _, Nat.le_refl _⟩
  have hcs : 0 ≤ (rmk 0 0 0).cells ∧ 0 ≤ (rmk 0 0 0).slots := ⟨Nat.zero_le _, Nat.zero_le _⟩
  refine ls_in (Nat.le_of_ble_eq_true rfl) (fun ls hl => ?_)
  have hl : lv_has ls 3 [(0, .ref a0)] := hl
  unfold f_X12_digest at h
  obtain ⟨htg, h⟩ := gsn h
  refine lv_aload_n hx hb dX12_digest_0 rfl (lv_at hl 0 rfl) ?_
  refine lv_ldc2 (v := 17) hx hb hown (hts _ u_1443) dX12_digest_1 ?_
  obtain ⟨x1, hx1, h⟩ := bnd h
  refine pf_X12_307 X hH hx1 dX12_digest_4 (fun H locs hH => ?_)
  refine lv_iconst (v := 0) hx hb dX12_digest_7 (by decide) ?_
  refine lv_istore_n (lv' := [(1, .int (0 : Int32)), (0, .ref a0)]) hx hb dX12_digest_8 rfl hl (by decide) rfl (fun ls hl => ?_)
  obtain ⟨x5, hx5, hhx5⟩ := bnd h
  clear h
  refine w_X12_digest_9 l X hRL hcs BIG a0 (0 : Int32) x1 x5 hx5 (fun H locs ls hH hl => ?_) _ _ _ hH (lv_sub hl [1, 0] rfl)
  · have h := hhx5
    clear hhx5
    refine lv_aload_n hx hb dX12_digest_31 rfl (lv_at hl 0 rfl) ?_
    obtain ⟨x6, hx6, h⟩ := bnd h
    refine iv_X12_318 l X hH hRL (by decide) hx6 hl.1 (Nat.le_of_ble_eq_true rfl) dX12_digest_32 hcs (fun H locs hH => ?_)
    refine lv_iconst (v := 0) hx hb dX12_digest_35 (by decide) ?_
    refine lv_istore_n (lv' := [(1, .int (0 : Int32)), (0, .ref a0)]) hx hb dX12_digest_36 rfl hl (by decide) rfl (fun ls hl => ?_)
    obtain ⟨x17, hx17, hhx17⟩ := bnd h
    clear h
    refine w_X12_digest_37 l X hRL hcs BIG a0 (0 : Int32) x6 x17 hx17 (fun H locs ls hH hl => ?_) _ _ _ hH (lv_sub hl [1, 0] rfl)
    · have h := hhx17
      clear hhx17
      refine lv_iconst (v := 0) hx hb dX12_digest_89 (by decide) ?_
      refine lv_istore_n (lv' := [(1, .int (0 : Int32)), (0, .ref a0)]) hx hb dX12_digest_90 rfl hl (by decide) rfl (fun ls hl => ?_)
      obtain ⟨x28, hx28, hhx28⟩ := bnd h
      clear h
      refine w_X12_digest_91 l X hRL hcs BIG a0 (0 : Int32) x17 x28 hx28 (fun H locs ls hH hl => ?_) _ _ _ hH (lv_sub hl [1, 0] rfl)
      · have h := hhx28
        clear hhx28
        refine lv_aload_n hx hb dX12_digest_142 rfl (lv_at hl 0 rfl) ?_
        obtain ⟨x29, hx29, h⟩ := bnd h
        refine gf_X12_307 X hH hx29 dX12_digest_143 ?_
        exact eL X hH h hr dX12_digest_146
