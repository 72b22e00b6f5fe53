theorem t_X12_shoe {μ : Mm} {a0 : Nat} {p1 : Int32} {p2 : Int32} {x : Int32 × Mm} (h : f_X12_shoe μ a0 p1 p2 = some x) : tg μ a0 = 13 := by
  unfold f_X12_shoe at h
  exact (gsn h).1
set_option maxHeartbeats 4000000 in
set_option maxRecDepth 100000 in
theorem c_X12_shoe (l : Launch) (G : CG) (μ : Mm) (a0 : Nat) (p1 : Int32) (p2 : Int32) (x : Int32 × Mm) (h : f_X12_shoe μ a0 p1 p2 = some x) : Met l yX12_shoe (.code yX12_shoe cX12_shoe 4 (some .int) :: UW) (rmk 3 0 0) (PC G [.ref a0, .int p1, .int p2] μ) (QI G x.1 x.2) 0 0 (fA G) := by
  refine Met.ofW (cc := cX12_shoe) (maxL := 4) (ret := (some .int)) (by decide) rfl ?_
  intro p e s m args below meth c s₁ B hml hv
  obtain ⟨X, hH, hr, rfl, hnm⟩ := cx_in B hml hv
  have X : Cx p s m _ meth c cX12_shoe 4 RX12 G := X
  have hx := X.1
  have hb := X.2.1
  have hown := X.2.2.2.1
  have hts := X.2.2.2.2.1
  have hRL : RmL (rmk 3 0 0) 3 := ⟨Nat.le_refl _, Nat.le_refl _⟩
  have hcs : 0 ≤ (rmk 0 0 0).cells ∧ 0 ≤ (rmk 0 0 0).slots := ⟨Nat.zero_le _, Nat.zero_le _⟩
  refine ls_in (Nat.le_of_ble_eq_true rfl) (fun ls hl => ?_)
  have hl : lv_has ls 4 [(0, .ref a0), (1, .int p1), (2, .int p2)] := hl
  unfold f_X12_shoe at h
  obtain ⟨htg, h⟩ := gsn h
  refine lv_aload_n hx hb dX12_shoe_0 rfl (lv_at hl 0 rfl) ?_
  refine lv_iload_n hx hb dX12_shoe_1 rfl (lv_at hl 1 rfl) ?_
  obtain ⟨x1, hx1, h⟩ := bnd h
  refine iv_X12_189 l X hH hRL (by decide) hx1 hl.1 (Nat.le_of_ble_eq_true rfl) dX12_shoe_2 hcs (fun H locs hH => ?_)
  refine lv_if_eq (tgt := 18) hx hb dX12_shoe_5 (by decide) (fun hc2 => ?_) (fun hc2 => ?_)
  · replace h := ift h hc2
    refine lv_iconst (v := -1) hx hb dX12_shoe_18 (by decide) ?_
    exact eI X hH h hr dX12_shoe_19 (Nat.le_of_ble_eq_true rfl) (Nat.le_of_ble_eq_true rfl)
  · replace h := iff' h hc2
    refine lv_iload_n hx hb dX12_shoe_8 rfl (lv_at hl 2 rfl) ?_
    refine lv_iconst (v := 1) hx hb dX12_shoe_9 (by decide) ?_
    refine lv_bipush (v := 9) hx hb dX12_shoe_10 (by decide) ?_
    obtain ⟨x3, hx3, h⟩ := bnd h
    refine iv_X12_96 l X hH hRL (by decide) hx3 hl.1 (Nat.le_of_ble_eq_true rfl) dX12_shoe_12 hcs (fun H locs hH => ?_)
    refine lv_if_ne (tgt := 20) hx hb dX12_shoe_15 (by decide) (fun hc4 => ?_) (fun hc4 => ?_)
    · replace h := iff' h hc4
      refine lv_aload_n hx hb dX12_shoe_20 rfl (lv_at hl 0 rfl) ?_
      obtain ⟨x5, hx5, h⟩ := bnd h
      refine gf_X12_180 X hH hx5 dX12_shoe_21 ?_
      refine lv_if_le (tgt := 30) hx hb dX12_shoe_24 (by decide) (fun hc6 => ?_) (fun hc6 => ?_)
      · replace h := ift h hc6
        refine lv_aload_n hx hb dX12_shoe_30 rfl (lv_at hl 0 rfl) ?_
        obtain ⟨x7, hx7, h⟩ := bnd h
        refine gf_X12_36 X hH hx7 dX12_shoe_31 ?_
        refine lv_iload_n hx hb dX12_shoe_34 rfl (lv_at hl 1 rfl) ?_
        obtain ⟨x8, hx8, h⟩ := bnd h
        refine w_aI X hH hx8 dX12_shoe_35 ?_
        refine lv_istore_n (lv' := [(3, .int x8), (0, .ref a0), (1, .int p1), (2, .int p2)]) hx hb dX12_shoe_36 rfl hl (by decide) rfl (fun ls hl => ?_)
        refine lv_aload_n hx hb dX12_shoe_37 rfl (lv_at hl 1 rfl) ?_
        obtain ⟨x9, hx9, h⟩ := bnd h
        refine gf_X12_36 X hH hx9 dX12_shoe_38 ?_
        refine lv_iload_n hx hb dX12_shoe_41 rfl (lv_at hl 2 rfl) ?_
        refine lv_iload_n hx hb dX12_shoe_42 rfl (lv_at hl 3 rfl) ?_
        obtain ⟨x10, hx10, h⟩ := bnd h
        refine w_qI X hH hx10 dX12_shoe_43 (fun H locs hH => ?_)
        refine lv_iload_n hx hb dX12_shoe_44 rfl (lv_at hl 0 rfl) ?_
        exact eI X hH h hr dX12_shoe_45 (Nat.le_of_ble_eq_true rfl) (Nat.le_of_ble_eq_true rfl)
      · replace h := iff' h hc6
        refine lv_bipush (v := -4) hx hb dX12_shoe_27 (by decide) ?_
        exact eI X hH h hr dX12_shoe_29 (Nat.le_of_ble_eq_true rfl) (Nat.le_of_ble_eq_true rfl)
    · replace h := ift h hc4
      refine lv_iconst (v := -1) hx hb dX12_shoe_18 (by decide) ?_
      exact eI X hH h hr dX12_shoe_19 (Nat.le_of_ble_eq_true rfl) (Nat.le_of_ble_eq_true rfl)
set_option maxHeartbeats 4000000 in
set_option maxRecDepth 100000 in
theorem w_X12_remember_2 {p : Program} {e : Env} {R : Room} {s : State} {m : MethodId} {args : Array Value} {below : List Frame} {meth : Method} {c : Code} {cells slots : Nat} {Q : State → Prop} {G : CG} (l : Launch) (X : Cx p s m args meth c cX12_remember 2 RX12 G) (hRL : RmL R 1) (hcs : cells ≤ R.cells ∧ slots ≤ R.slots) : ∀ (n : Nat) (v0 : Nat) (v1 : Int32) (μ : Mm) (x : Mm), lp_X12_remember_2 n v0 v1 μ = some x → (∀ (H : Heap) (locs : List Loc) (ls : Array Slot), HS G s x H locs → lv_has ls 2 [(0, .ref v0)] → W p l e R s m args below meth c H locs cells slots Q (F0 m 34 ls [])) → ∀ (H : Heap) (locs : List Loc) (ls : Array Slot), HS G s μ H locs → lv_has ls 2 [(0, .ref v0), (1, .int v1)] → W p l e R s m args below meth c H locs cells slots Q (F0 m 2 ls []) := by
  have hx := X.1
  have hb := X.2.1
  have hown := X.2.2.2.1
  have hts := X.2.2.2.2.1
  intro n
  induction n with
  | zero =>
    intro v0 v1 μ x h
    rw [lp_X12_remember_2] at h
    cases h
  | succ n ih =>
    intro v0 v1 μ x h k0 H locs ls hH hl
    rw [lp_X12_remember_2] at h
    refine lv_iload_n hx hb dX12_remember_2 rfl (lv_at hl 1 rfl) ?_
    refine lv_bipush (v := 11) hx hb dX12_remember_3 (by decide) ?_
    refine lv_icmp_ge (tgt := 34) hx hb dX12_remember_5 (by decide) (fun hc1 => ?_) (fun hc1 => ?_)
    · replace h := ift h hc1
      cases h
      exact k0 _ _ _ hH (lv_sub hl [0] rfl)
    · replace h := iff' h hc1
      refine lv_aload_n hx hb dX12_remember_8 rfl (lv_at hl 0 rfl) ?_
      obtain ⟨x2, hx2, h⟩ := bnd h
      refine gf_X12_51 X hH hx2 dX12_remember_9 ?_
      refine lv_bipush (v := 11) hx hb dX12_remember_12 (by decide) ?_
      refine lv_aload_n hx hb dX12_remember_14 rfl (lv_at hl 0 rfl) ?_
      obtain ⟨x3, hx3, h⟩ := bnd h
      refine gf_X12_180 X hH hx3 dX12_remember_15 ?_
      refine lv_imul hx hb dX12_remember_18 ?_
      refine lv_iload_n hx hb dX12_remember_19 rfl (lv_at hl 1 rfl) ?_
      refine lv_iadd hx hb dX12_remember_20 ?_
      refine lv_aload_n hx hb dX12_remember_21 rfl (lv_at hl 0 rfl) ?_
      obtain ⟨x4, hx4, h⟩ := bnd h
      refine gf_X12_45 X hH hx4 dX12_remember_22 ?_
      refine lv_iload_n hx hb dX12_remember_25 rfl (lv_at hl 1 rfl) ?_
      obtain ⟨x5, hx5, h⟩ := bnd h
      refine w_aI X hH hx5 dX12_remember_26 ?_
      obtain ⟨x6, hx6, h⟩ := bnd h
      refine w_qI X hH hx6 dX12_remember_27 (fun H locs hH => ?_)
      refine lv_iinc (v := (v1 + 1)) (lv' := [(1, .int (v1 + 1)), (0, .ref v0)]) hx hb dX12_remember_28 hl (k := 1) rfl rfl (by decide) rfl (fun ls hl => ?_)
      refine lv_goto (tgt := 2) hx hb dX12_remember_31 (by decide) ?_
      exact ih _ _ _ _ h k0 _ _ _ hH (lv_sub hl [1, 0] rfl)
theorem t_X12_remember {μ : Mm} {a0 : Nat} {x : Mm} (h : f_X12_remember μ a0 = some x) : tg μ a0 = 13 := by
  unfold f_X12_remember at h
  exact (gsn h).1
set_option maxHeartbeats 4000000 in
set_option maxRecDepth 100000 in
theorem c_X12_remember (l : Launch) (G : CG) (μ : Mm) (a0 : Nat) (x : Mm) (h : f_X12_remember μ a0 = some x) : Met l yX12_remember (.code yX12_remember cX12_remember 2 none :: UW) (rmk 1 0 0) (PC G [.ref a0] μ) (QV G x) 0 0 (fA G) := by
  refine Met.ofW (cc := cX12_remember) (maxL := 2) (ret := none) (by decide) rfl ?_
  intro p e s m args below meth c s₁ B hml hv
  obtain ⟨X, hH, hr, rfl, hnm⟩ := cx_in B hml hv
  have X : Cx p s m _ meth c cX12_remember 2 RX12 G := X
  have hx := X.1
  have hb := X.2.1
  have hown := X.2.2.2.1
  have hts := X.2.2.2.2.1
  have hRL : RmL (rmk 1 0 0) 1 := ⟨Nat.le_refl _, Nat.le_refl _⟩
  have hcs : 0 ≤ (rmk 0 0 0).cells ∧ 0 ≤ (rmk 0 0 0).slots := ⟨Nat.zero_le _, Nat.zero_le _⟩
  refine ls_in (Nat.le_of_ble_eq_true rfl) (fun ls hl => ?_)
  have hl : lv_has ls 2 [(0, .ref a0)] := hl
  unfold f_X12_remember at h
  obtain ⟨htg, h⟩ := gsn h
  refine lv_iconst (v := 0) hx hb dX12_remember_0 (by decide) ?_
  refine lv_istore_n (lv' := [(1, .int (0 : Int32)), (0, .ref a0)]) hx hb dX12_remember_1 rfl hl (by decide) rfl (fun ls hl => ?_)
  obtain ⟨x7, hx7, hhx7⟩ := bnd h
  clear h
  refine w_X12_remember_2 l X hRL hcs BIG a0 (0 : Int32) μ x7 hx7 (fun H locs ls hH hl => ?_) _ _ _ hH (lv_sub hl [1, 0] rfl)
  · have h := hhx7
    clear hhx7
    refine lv_aload_n hx hb dX12_remember_34 rfl (lv_at hl 0 rfl) ?_
    refine lv_dup hx hb dX12_remember_35 rfl ?_
    obtain ⟨x8, hx8, h⟩ := bnd h
    refine gf_X12_180 X hH hx8 dX12_remember_36 ?_
    refine lv_iconst (v := 1) hx hb dX12_remember_39 (by decide) ?_
    refine lv_iadd hx hb dX12_remember_40 ?_
    obtain ⟨x9, hx9, h⟩ := bnd h
    refine pf_X12_180 X hH hx9 dX12_remember_41 (fun H locs hH => ?_)
    exact eV X hH h hr dX12_remember_44 (Nat.le_of_ble_eq_true rfl) (Nat.le_of_ble_eq_true rfl)
set_option maxHeartbeats 1000000 in
theorem iv_X12_208 {p : Program} {e : Env} {R : Room} {s : State} {m : MethodId} {args : Array Value} {below : List Frame} {meth : Method} {c : Code} {H : Heap} {locs : List Loc} {cells slots : Nat} {Q : State → Prop} {cc : ByteArray} {pc : Nat} {ls : Array Slot} {rest : List Value} {nL : Nat} {G : CG} {μ : Mm} {a : Nat} {q0 : Int32} {x : Int32} {k : Nat} (l : Launch) (X : Cx p s m args meth c cc nL RX12 G) (hH : HS G s μ H locs) (hRL : RmL R k) (hk : 1 + 1 ≤ k) (h : f_X12_isRent μ a q0 = some x) (hls : ls.size = nL) (hroom : (rest.map fun v => v.category).sum ≤ 8) (hdg : decode cc pc = .ok (.invokevirtual 208, 3)) (hcs : cells + 0 ≤ R.cells ∧ slots + 0 ≤ R.slots) (kk : ∀ (H1 : Heap) (locs1 : List Loc), HS G s μ H1 locs1 → W p l e R s m args below meth c H1 locs1 cells slots Q (F0 m (pc + 3) ls (.int x :: rest))) : W p l e R s m args below meth c H locs cells slots Q (F0 m pc ls (.int q0 :: .ref a :: rest)) := by
  refine kI hH (rV (As := [.int q0]) (rest := rest) X hH (t_X12_isRent h) vc_12 (c_X12_isRent l G μ a q0 x h) (List.forall_mem_cons.mpr ⟨u_1279, (List.forall_mem_cons.mpr ⟨u_1281, (List.forall_mem_cons.mpr ⟨u_43, (List.forall_mem_cons.mpr ⟨u_68, (fun _ h9 => absurd h9 List.not_mem_nil)⟩)⟩)⟩)⟩) u_1282 (rmo hRL (Nat.le_trans (by decide) hk) (by decide)) ddV_X12_isRent rfl hls rfl hroom hdg hcs) kk
theorem t_X12_walks {μ : Mm} {a0 : Nat} {p1 : Nat} {p2 : Int32} {x : Mm} (h : f_X12_walks μ a0 p1 p2 = some x) : tg μ a0 = 13 := by
  unfold f_X12_walks at h
  exact (gsn h).1
set_option maxHeartbeats 4000000 in
set_option maxRecDepth 100000 in
theorem c_X12_walks (l : Launch) (G : CG) (μ : Mm) (a0 : Nat) (p1 : Nat) (p2 : Int32) (x : Mm) (h : f_X12_walks μ a0 p1 p2 = some x) : Met l yX12_walks (.code yX12_walks cX12_walks 5 none :: UW) (rmk 3 0 0) (PC G [.ref a0, .ref p1, .int p2] μ) (QV G x) 0 0 (fA G) := by
  refine Met.ofW (cc := cX12_walks) (maxL := 5) (ret := none) (by decide) rfl ?_
  intro p e s m args below meth c s₁ B hml hv
  obtain ⟨X, hH, hr, rfl, hnm⟩ := cx_in B hml hv
  have X : Cx p s m _ meth c cX12_walks 5 RX12 G := X
  have hx := X.1
  have hb := X.2.1
  have hown := X.2.2.2.1
  have hts := X.2.2.2.2.1
  have hRL : RmL (rmk 3 0 0) 3 := ⟨Nat.le_refl _, Nat.le_refl _⟩
  have hcs : 0 ≤ (rmk 0 0 0).cells ∧ 0 ≤ (rmk 0 0 0).slots := ⟨Nat.zero_le _, Nat.zero_le _⟩
  refine ls_in (Nat.le_of_ble_eq_true rfl) (fun ls hl => ?_)
  have hl : lv_has ls 5 [(0, .ref a0), (1, .ref p1), (2, .int p2)] := hl
  unfold f_X12_walks at h
  obtain ⟨htg, h⟩ := gsn h
  refine lv_aload_n hx hb dX12_walks_0 rfl (lv_at hl 0 rfl) ?_
  refine lv_iload_n hx hb dX12_walks_1 rfl (lv_at hl 2 rfl) ?_
  obtain ⟨x1, hx1, h⟩ := bnd h
  refine iv_X12_186 l X hH hRL (by decide) hx1 hl.1 (Nat.le_of_ble_eq_true rfl) dX12_walks_2 hcs (fun H locs hH => ?_)
  refine lv_istore_n (lv' := [(3, .int x1), (0, .ref a0), (1, .ref p1), (2, .int p2)]) hx hb dX12_walks_5 rfl hl (by decide) rfl (fun ls hl => ?_)
  refine lv_aload_n hx hb dX12_walks_6 rfl (lv_at hl 2 rfl) ?_
  refine lv_iconst (v := 0) hx hb dX12_walks_7 (by decide) ?_
  obtain ⟨x2, hx2, h⟩ := bnd h
  refine w_aI X hH hx2 dX12_walks_8 ?_
  refine lv_iload_n hx hb dX12_walks_9 rfl (lv_at hl 0 rfl) ?_
  refine lv_iadd hx hb dX12_walks_10 ?_
  refine lv_istore (lv' := [(4, .int (x2 + x1)), (3, .int x1), (0, .ref a0), (1, .ref p1), (2, .int p2)]) hx hb dX12_walks_11 hl (by decide) rfl (fun ls hl => ?_)
  refine lv_aload_n hx hb dX12_walks_13 rfl (lv_at hl 3 rfl) ?_
  refine lv_iconst (v := 1) hx hb dX12_walks_14 (by decide) ?_
  refine lv_dup2_11 hx hb dX12_walks_15 rfl rfl ?_
  obtain ⟨x3, hx3, h⟩ := bnd h
  refine w_aI X hH hx3 dX12_walks_16 ?_
  refine lv_iload hx hb dX12_walks_17 (lv_at hl 0 rfl) ?_
  refine lv_aload_n hx hb dX12_walks_19 rfl (lv_at hl 2 rfl) ?_
  obtain ⟨x4, hx4, h⟩ := bnd h
  refine gf_X12_171 X hH hx4 dX12_walks_20 ?_
  obtain ⟨hd5, h⟩ := gsf h
  refine lv_idiv hx hb dX12_walks_23 hd5 ?_
  refine lv_iadd hx hb dX12_walks_24 ?_
  obtain ⟨x6, hx6, h⟩ := bnd h
  refine w_qI X hH hx6 dX12_walks_25 (fun H locs hH => ?_)
  refine lv_aload_n hx hb dX12_walks_26 rfl (lv_at hl 3 rfl) ?_
  refine lv_iconst (v := 0) hx hb dX12_walks_27 (by decide) ?_
  refine lv_iload hx hb dX12_walks_28 (lv_at hl 0 rfl) ?_
  refine lv_aload_n hx hb dX12_walks_30 rfl (lv_at hl 2 rfl) ?_
  obtain ⟨x7, hx7, h⟩ := bnd h
  refine gf_X12_171 X hH hx7 dX12_walks_31 ?_
  obtain ⟨hd8, h⟩ := gsf h
  refine lv_irem hx hb dX12_walks_34 hd8 ?_
  obtain ⟨x9, hx9, h⟩ := bnd h
  refine w_qI X hH hx9 dX12_walks_35 (fun H locs hH => ?_)
  refine lv_aload_n hx hb dX12_walks_36 rfl (lv_at hl 3 rfl) ?_
  refine lv_iconst (v := 4) hx hb dX12_walks_37 (by decide) ?_
  refine lv_dup2_11 hx hb dX12_walks_38 rfl rfl ?_
  obtain ⟨x10, hx10, h⟩ := bnd h
  refine w_aI X hH hx10 dX12_walks_39 ?_
  refine lv_iload_n hx hb dX12_walks_40 rfl (lv_at hl 1 rfl) ?_
  refine lv_iadd hx hb dX12_walks_41 ?_
  obtain ⟨x11, hx11, h⟩ := bnd h
  refine w_qI X hH hx11 dX12_walks_42 (fun H locs hH => ?_)
  refine lv_aload_n hx hb dX12_walks_43 rfl (lv_at hl 3 rfl) ?_
  refine lv_iconst (v := 5) hx hb dX12_walks_44 (by decide) ?_
  refine lv_iload_n hx hb dX12_walks_45 rfl (lv_at hl 4 rfl) ?_
  refine lv_iadd hx hb dX12_walks_46 ?_
  refine lv_dup2_11 hx hb dX12_walks_47 rfl rfl ?_
  obtain ⟨x12, hx12, h⟩ := bnd h
  refine w_aI X hH hx12 dX12_walks_48 ?_
  refine lv_iconst (v := 1) hx hb dX12_walks_49 (by decide) ?_
  refine lv_iadd hx hb dX12_walks_50 ?_
  obtain ⟨x13, hx13, h⟩ := bnd h
  refine w_qI X hH hx13 dX12_walks_51 (fun H locs hH => ?_)
  refine lv_aload_n hx hb dX12_walks_52 rfl (lv_at hl 3 rfl) ?_
  refine lv_iconst (v := 3) hx hb dX12_walks_53 (by decide) ?_
  refine lv_dup2_11 hx hb dX12_walks_54 rfl rfl ?_
  obtain ⟨x14, hx14, h⟩ := bnd h
  refine w_aI X hH hx14 dX12_walks_55 ?_
  refine lv_aload_n hx hb dX12_walks_56 rfl (lv_at hl 2 rfl) ?_
  refine lv_aload_n hx hb dX12_walks_57 rfl (lv_at hl 3 rfl) ?_
  refine lv_iconst (v := 0) hx hb dX12_walks_58 (by decide) ?_
  obtain ⟨x15, hx15, h⟩ := bnd h
  refine w_aI X hH hx15 dX12_walks_59 ?_
  obtain ⟨x16, hx16, h⟩ := bnd h
  refine iv_X12_208 l X hH hRL (by decide) hx16 hl.1 (Nat.le_of_ble_eq_true rfl) dX12_walks_60 hcs (fun H locs hH => ?_)
  refine lv_if_eq (tgt := 70) hx hb dX12_walks_63 (by decide) (fun hc17 => ?_) (fun hc17 => ?_)
  · replace h := ift h hc17
    refine lv_iconst (v := 0) hx hb dX12_walks_70 (by decide) ?_
    refine lv_iadd hx hb dX12_walks_71 ?_
    obtain ⟨x18, hx18, h⟩ := bnd h
    refine w_qI X hH hx18 dX12_walks_72 (fun H locs hH => ?_)
    exact eV X hH h hr dX12_walks_73 (Nat.le_of_ble_eq_true rfl) (Nat.le_of_ble_eq_true rfl)
  · replace h := iff' h hc17
    refine lv_iconst (v := 1) hx hb dX12_walks_66 (by decide) ?_
    refine lv_goto (tgt := 71) hx hb dX12_walks_67 (by decide) ?_
    refine lv_iadd hx hb dX12_walks_71 ?_
    obtain ⟨x19, hx19, h⟩ := bnd h
    refine w_qI X hH hx19 dX12_walks_72 (fun H locs hH => ?_)
    exact eV X hH h hr dX12_walks_73 (Nat.le_of_ble_eq_true rfl) (Nat.le_of_ble_eq_true rfl)
set_option maxHeartbeats 1000000 in
theorem iv_X12_211 {p : Program} {e : Env} {R : Room} {s : State} {m : MethodId} {args : Array Value} {below : List Frame} {meth : Method} {c : Code} {H : Heap} {locs : List Loc} {cells slots : Nat} {Q : State → Prop} {cc : ByteArray} {pc : Nat} {ls : Array Slot} {rest : List Value} {nL : Nat} {G : CG} {μ : Mm} {a : Nat}  {x : Mm} {k : Nat} (l : Launch) (X : Cx p s m args meth c cc nL RX12 G) (hH : HS G s μ H locs) (hRL : RmL R k) (hk : 1 + 1 ≤ k) (h : f_X12_remember μ a = some x) (hls : ls.size = nL) (hroom : (rest.map fun v => v.category).sum ≤ 8) (hdg : decode cc pc = .ok (.invokevirtual 211, 3)) (hcs : cells + 0 ≤ R.cells ∧ slots + 0 ≤ R.slots) (kk : ∀ (H1 : Heap) (locs1 : List Loc), HS G s x H1 locs1 → W p l e R s m args below meth c H1 locs1 cells slots Q (F0 m (pc + 3) ls rest)) : W p l e R s m args below meth c H locs cells slots Q (F0 m pc ls (.ref a :: rest)) := by
  refine kV0 hH (rV (As := []) (rest := rest) X hH (t_X12_remember h) vc_12 (c_X12_remember l G μ a x h) (List.forall_mem_cons.mpr ⟨u_1271, (List.forall_mem_cons.mpr ⟨u_1273, (List.forall_mem_cons.mpr ⟨u_41, (List.forall_mem_cons.mpr ⟨u_68, (fun _ h9 => absurd h9 List.not_mem_nil)⟩)⟩)⟩)⟩) u_1274 (rmo hRL (Nat.le_trans (by decide) hk) (by decide)) ddV_X12_remember rfl hls rfl hroom hdg hcs) kk
set_option maxHeartbeats 1000000 in
theorem iv_X12_214 {p : Program} {e : Env} {R : Room} {s : State} {m : MethodId} {args : Array Value} {below : List Frame} {meth : Method} {c : Code} {H : Heap} {locs : List Loc} {cells slots : Nat} {Q : State → Prop} {cc : ByteArray} {pc : Nat} {ls : Array Slot} {rest : List Value} {nL : Nat} {G : CG} {μ : Mm} {a : Nat} {q0 : Nat} {q1 : Int32} {x : Mm} {k : Nat} (l : Launch) (X : Cx p s m args meth c cc nL RX12 G) (hH : HS G s μ H locs) (hRL : RmL R k) (hk : 3 + 1 ≤ k) (h : f_X12_walks μ a q0 q1 = some x) (hls : ls.size = nL) (hroom : (rest.map fun v => v.category).sum ≤ 8) (hdg : decode cc pc = .ok (.invokevirtual 214, 3)) (hcs : cells + 0 ≤ R.cells ∧ slots + 0 ≤ R.slots) (kk : ∀ (H1 : Heap) (locs1 : List Loc), HS G s x H1 locs1 → W p l e R s m args below meth c H1 locs1 cells slots Q (F0 m (pc + 3) ls rest)) : W p l e R s m args below meth c H locs cells slots Q (F0 m pc ls (.int q1 :: .ref q0 :: .ref a :: rest)) := by
  refine kV0 hH (rV (As := [.ref q0, .int q1]) (rest := rest) X hH (t_X12_walks h) vc_12 (c_X12_walks l G μ a q0 q1 x h) (List.forall_mem_cons.mpr ⟨u_1275, (List.forall_mem_cons.mpr ⟨u_1277, (List.forall_mem_cons.mpr ⟨u_42, (List.forall_mem_cons.mpr ⟨u_68, (fun _ h9 => absurd h9 List.not_mem_nil)⟩)⟩)⟩)⟩) u_1278 (rmo hRL (Nat.le_trans (by decide) hk) (by decide)) ddV_X12_walks rfl hls rfl hroom hdg hcs) kk
theorem t_X12_walk {μ : Mm} {a0 : Nat} {p1 : Int32} {x : Int32 × Mm} (h : f_X12_walk μ a0 p1 = some x) : tg μ a0 = 13 := by
  unfold f_X12_walk at h
  exact (gsn h).1
set_option maxHeartbeats 4000000 in
set_option maxRecDepth 100000 in
theorem c_X12_walk (l : Launch) (G : CG) (μ : Mm) (a0 : Nat) (p1 : Int32) (x : Int32 × Mm) (h : f_X12_walk μ a0 p1 = some x) : Met l yX12_walk (.code yX12_walk cX12_walk 2 (some .int) :: UW) (rmk 4 0 0) (PC G [.ref a0, .int p1] μ) (QI G x.1 x.2) 0 0 (fA G) := by
  refine Met.ofW (cc := cX12_walk) (maxL := 2) (ret := (some .int)) (by decide) rfl ?_
  intro p e s m args below meth c s₁ B hml hv
  obtain ⟨X, hH, hr, rfl, hnm⟩ := cx_in B hml hv
  have X : Cx p s m _ meth c cX12_walk 2 RX12 G := X
  have hx := X.1
  have hb := X.2.1
  have hown := X.2.2.2.1
  have hts := X.2.2.2.2.1
  have hRL : RmL (rmk 4 0 0) 4 := ⟨Nat.le_refl _, Nat.le_refl _⟩
  have hcs : 0 ≤ (rmk 0 0 0).cells ∧ 0 ≤ (rmk 0 0 0).slots := ⟨Nat.zero_le _, Nat.zero_le _⟩
  refine ls_in (Nat.le_of_ble_eq_true rfl) (fun ls hl => ?_)
  have hl : lv_has ls 2 [(0, .ref a0), (1, .int p1)] := hl
  unfold f_X12_walk at h
  obtain ⟨htg, h⟩ := gsn h
  refine lv_aload_n hx hb dX12_walk_0 rfl (lv_at hl 0 rfl) ?_
  refine lv_iload_n hx hb dX12_walk_1 rfl (lv_at hl 1 rfl) ?_
  obtain ⟨x1, hx1, h⟩ := bnd h
  refine iv_X12_189 l X hH hRL (by decide) hx1 hl.1 (Nat.le_of_ble_eq_true rfl) dX12_walk_2 hcs (fun H locs hH => ?_)
  refine lv_if_ne (tgt := 10) hx hb dX12_walk_5 (by decide) (fun hc2 => ?_) (fun hc2 => ?_)
  · replace h := iff' h hc2
    refine lv_aload_n hx hb dX12_walk_10 rfl (lv_at hl 0 rfl) ?_
    obtain ⟨x3, hx3, h⟩ := bnd h
    refine gf_X12_180 X hH hx3 dX12_walk_11 ?_
    refine lv_bipush (v := 60) hx hb dX12_walk_14 (by decide) ?_
    refine lv_icmp_ne (tgt := 22) hx hb dX12_walk_16 (by decide) (fun hc4 => ?_) (fun hc4 => ?_)
    · replace h := iff' h hc4
      refine lv_aload_n hx hb dX12_walk_22 rfl (lv_at hl 0 rfl) ?_
      obtain ⟨x5, hx5, h⟩ := bnd h
      refine iv_X12_211 l X hH hRL (by decide) hx5 hl.1 (Nat.le_of_ble_eq_true rfl) dX12_walk_23 hcs (fun H locs hH => ?_)
      refine lv_aload_n hx hb dX12_walk_26 rfl (lv_at hl 0 rfl) ?_
      refine lv_aload_n hx hb dX12_walk_27 rfl (lv_at hl 0 rfl) ?_
      obtain ⟨x6, hx6, h⟩ := bnd h
      refine gf_X12_45 X hH hx6 dX12_walk_28 ?_
      refine lv_iload_n hx hb dX12_walk_31 rfl (lv_at hl 1 rfl) ?_
      obtain ⟨x7, hx7, h⟩ := bnd h
      refine iv_X12_214 l X hH hRL (by decide) hx7 hl.1 (Nat.le_of_ble_eq_true rfl) dX12_walk_32 hcs (fun H locs hH => ?_)
      refine lv_aload_n hx hb dX12_walk_35 rfl (lv_at hl 0 rfl) ?_
      obtain ⟨x8, hx8, h⟩ := bnd h
      refine gf_X12_45 X hH hx8 dX12_walk_36 ?_
      refine lv_iconst (v := 0) hx hb dX12_walk_39 (by decide) ?_
      obtain ⟨x9, hx9, h⟩ := bnd h
      refine w_aI X hH hx9 dX12_walk_40 ?_
      exact eI X hH h hr dX12_walk_41 (Nat.le_of_ble_eq_true rfl) (Nat.le_of_ble_eq_true rfl)
    · replace h := ift h hc4
      refine lv_bipush (v := -2) hx hb dX12_walk_19 (by decide) ?_
      exact eI X hH h hr dX12_walk_21 (Nat.le_of_ble_eq_true rfl) (Nat.le_of_ble_eq_true rfl)
  · replace h := ift h hc2
    refine lv_iconst (v := -1) hx hb dX12_walk_8 (by decide) ?_
    exact eI X hH h hr dX12_walk_9 (Nat.le_of_ble_eq_true rfl) (Nat.le_of_ble_eq_true rfl)
theorem t_X12_floor {μ : Mm} {a0 : Nat} {p1 : Int32} {x : Int32 × Mm} (h : f_X12_floor μ a0 p1 = some x) : tg μ a0 = 13 := by
  unfold f_X12_floor at h
  exact (gsn h).1
set_option maxHeartbeats 4000000 in
set_option maxRecDepth 100000 in
theorem c_X12_floor (l : Launch) (G : CG) (μ : Mm) (a0 : Nat) (p1 : Int32) (x : Int32 × Mm) (h : f_X12_floor μ a0 p1 = some x) : Met l yX12_floor (.code yX12_floor cX12_floor 3 (some .int) :: UW) (rmk 2 0 0) (PC G [.ref a0, .int p1] μ) (QI G x.1 x.2) 0 0 (fA G) := by
  refine Met.ofW (cc := cX12_floor) (maxL := 3) (ret := (some .int)) (by decide) rfl ?_
  intro p e s m args below meth c s₁ B hml hv
  obtain ⟨X, hH, hr, rfl, hnm⟩ := cx_in B hml hv
  have X : Cx p s m _ meth c cX12_floor 3 RX12 G := X
  have hx := X.1
  have hb := X.2.1
  have hown := X.2.2.2.1
  have hts := X.2.2.2.2.1
  have hRL : RmL (rmk 2 0 0) 2 := ⟨Nat.le_refl _, Nat.le_refl _⟩
  have hcs : 0 ≤ (rmk 0 0 0).cells ∧ 0 ≤ (rmk 0 0 0).slots := ⟨Nat.zero_le _, Nat.zero_le _⟩
  refine ls_in (Nat.le_of_ble_eq_true rfl) (fun ls hl => ?_)
  have hl : lv_has ls 3 [(0, .ref a0), (1, .int p1)] := hl
  unfold f_X12_floor at h
  obtain ⟨htg, h⟩ := gsn h
  refine lv_iload_n hx hb dX12_floor_0 rfl (lv_at hl 1 rfl) ?_
  refine lv_iconst (v := 0) hx hb dX12_floor_1 (by decide) ?_
  refine lv_iconst (v := 2) hx hb dX12_floor_2 (by decide) ?_
  obtain ⟨x1, hx1, h⟩ := bnd h
  refine iv_X12_96 l X hH hRL (by decide) hx1 hl.1 (Nat.le_of_ble_eq_true rfl) dX12_floor_3 hcs (fun H locs hH => ?_)
  refine lv_if_ne (tgt := 11) hx hb dX12_floor_6 (by decide) (fun hc2 => ?_) (fun hc2 => ?_)
  · replace h := iff' h hc2
    refine lv_aload_n hx hb dX12_floor_11 rfl (lv_at hl 0 rfl) ?_
    obtain ⟨x3, hx3, h⟩ := bnd h
    refine gf_X12_168 X hH hx3 dX12_floor_12 ?_
    refine lv_if_eq (tgt := 28) hx hb dX12_floor_15 (by decide) (fun hc4 => ?_) (fun hc4 => ?_)
    · replace h := ift h hc4
      refine lv_bipush (v := -4) hx hb dX12_floor_28 (by decide) ?_
      exact eI X hH h hr dX12_floor_30 (Nat.le_of_ble_eq_true rfl) (Nat.le_of_ble_eq_true rfl)
    · replace h := iff' h hc4
      refine lv_aload_n hx hb dX12_floor_18 rfl (lv_at hl 0 rfl) ?_
      obtain ⟨x5, hx5, h⟩ := bnd h
      refine gf_X12_45 X hH hx5 dX12_floor_19 ?_
      refine lv_iconst (v := 2) hx hb dX12_floor_22 (by decide) ?_
      obtain ⟨x6, hx6, h⟩ := bnd h
      refine w_aI X hH hx6 dX12_floor_23 ?_
      refine lv_iload_n hx hb dX12_floor_24 rfl (lv_at hl 1 rfl) ?_
      refine lv_icmp_ne (tgt := 31) hx hb dX12_floor_25 (by decide) (fun hc7 => ?_) (fun hc7 => ?_)
      · replace h := iff' h hc7
        refine lv_aload_n hx hb dX12_floor_31 rfl (lv_at hl 0 rfl) ?_
        obtain ⟨x8, hx8, h⟩ := bnd h
        refine gf_X12_180 X hH hx8 dX12_floor_32 ?_
        refine lv_bipush (v := 60) hx hb dX12_floor_35 (by decide) ?_
        refine lv_icmp_ne (tgt := 43) hx hb dX12_floor_37 (by decide) (fun hc9 => ?_) (fun hc9 => ?_)
        · replace h := iff' h hc9
          refine lv_aload_n hx hb dX12_floor_43 rfl (lv_at hl 0 rfl) ?_
          obtain ⟨x10, hx10, h⟩ := bnd h
          refine iv_X12_211 l X hH hRL (by decide) hx10 hl.1 (Nat.le_of_ble_eq_true rfl) dX12_floor_44 hcs (fun H locs hH => ?_)
          refine lv_aload_n hx hb dX12_floor_47 rfl (lv_at hl 0 rfl) ?_
          obtain ⟨x11, hx11, h⟩ := bnd h
          refine gf_X12_45 X hH hx11 dX12_floor_48 ?_
          refine lv_iconst (v := 2) hx hb dX12_floor_51 (by decide) ?_
          obtain ⟨x12, hx12, h⟩ := bnd h
          refine w_aI X hH hx12 dX12_floor_52 ?_
          refine lv_istore_n (lv' := [(2, .int x12), (0, .ref a0), (1, .int p1)]) hx hb dX12_floor_53 rfl hl (by decide) rfl (fun ls hl => ?_)
          refine lv_aload_n hx hb dX12_floor_54 rfl (lv_at hl 1 rfl) ?_
          obtain ⟨x13, hx13, h⟩ := bnd h
          refine gf_X12_45 X hH hx13 dX12_floor_55 ?_
          refine lv_iconst (v := 2) hx hb dX12_floor_58 (by decide) ?_
          refine lv_iload_n hx hb dX12_floor_59 rfl (lv_at hl 2 rfl) ?_
          obtain ⟨x14, hx14, h⟩ := bnd h
          refine w_qI X hH hx14 dX12_floor_60 (fun H locs hH => ?_)
          refine lv_iload_n hx hb dX12_floor_61 rfl (lv_at hl 0 rfl) ?_
          exact eI X hH h hr dX12_floor_62 (Nat.le_of_ble_eq_true rfl) (Nat.le_of_ble_eq_true rfl)
        · replace h := ift h hc9
          refine lv_bipush (v := -2) hx hb dX12_floor_40 (by decide) ?_
          exact eI X hH h hr dX12_floor_42 (Nat.le_of_ble_eq_true rfl) (Nat.le_of_ble_eq_true rfl)
      · replace h := ift h hc7
        refine lv_bipush (v := -4) hx hb dX12_floor_28 (by decide) ?_
        exact eI X hH h hr dX12_floor_30 (Nat.le_of_ble_eq_true rfl) (Nat.le_of_ble_eq_true rfl)
  · replace h := ift h hc2
    refine lv_iconst (v := -1) hx hb dX12_floor_9 (by decide) ?_
    exact eI X hH h hr dX12_floor_10 (Nat.le_of_ble_eq_true rfl) (Nat.le_of_ble_eq_true rfl)
set_option maxHeartbeats 4000000 in
set_option maxRecDepth 100000 in
theorem w_X12_undo_23 {p : Program} {e : Env} {R : Room} {s : State} {m : MethodId} {args : Array Value} {below : List Frame} {meth : Method} {c : Code} {cells slots : Nat} {Q : State → Prop} {G : CG} (l : Launch) (X : Cx p s m args meth c cX12_undo 4 RX12 G) (hRL : RmL R 2) (hcs : cells ≤ R.cells ∧ slots ≤ R.slots) : ∀ (n : Nat) (v0 : Nat) (v1 : Int32) (v2 : Int32) (v3 : Int32) (μ : Mm) (x : Mm), lp_X12_undo_23 n v0 v1 v2 v3 μ = some x → (∀ (H : Heap) (locs : List Loc) (ls : Array Slot), HS G s x H locs → lv_has ls 4 [(0, .ref v0), (1, .int v1), (2, .int v2)] → W p l e R s m args below meth c H locs cells slots Q (F0 m 56 ls [])) → ∀ (H : Heap) (locs : List Loc) (ls : Array Slot), HS G s μ H locs → lv_has ls 4 [(0, .ref v0), (1, .int v1), (2, .int v2), (3, .int v3)] → W p l e R s m args below meth c H locs cells slots Q (F0 m 23 ls []) := by
  have hx := X.1
  have hb := X.2.1
  have hown := X.2.2.2.1
  have hts := X.2.2.2.2.1
  intro n
  induction n with
  | zero =>
    intro v0 v1 v2 v3 μ x h
    rw [lp_X12_undo_23] at h
    cases h
  | succ n ih =>
    intro v0 v1 v2 v3 μ x h k0 H locs ls hH hl
    rw [lp_X12_undo_23] at h
    refine lv_iload_n hx hb dX12_undo_23 rfl (lv_at hl 3 rfl) ?_
    refine lv_bipush (v := 11) hx hb dX12_undo_24 (by decide) ?_
    refine lv_icmp_ge (tgt := 56) hx hb dX12_undo_26 (by decide) (fun hc5 => ?_) (fun hc5 => ?_)
    · replace h := ift h hc5
      cases h
      exact k0 _ _ _ hH (lv_sub hl [0, 1, 2] rfl)
    · replace h := iff' h hc5
      refine lv_iload_n hx hb dX12_undo_29 rfl (lv_at hl 2 rfl) ?_
      refine lv_if_le (tgt := 56) hx hb dX12_undo_30 (by decide) (fun hc6 => ?_) (fun hc6 => ?_)
      · replace h := ift h hc6
        cases h
        exact k0 _ _ _ hH (lv_sub hl [0, 1, 2] rfl)
      · replace h := iff' h hc6
        refine lv_aload_n hx hb dX12_undo_33 rfl (lv_at hl 0 rfl) ?_
        obtain ⟨x7, hx7, h⟩ := bnd h
        refine gf_X12_45 X hH hx7 dX12_undo_34 ?_
        refine lv_iload_n hx hb dX12_undo_37 rfl (lv_at hl 3 rfl) ?_
        refine lv_aload_n hx hb dX12_undo_38 rfl (lv_at hl 0 rfl) ?_
        obtain ⟨x8, hx8, h⟩ := bnd h
        refine gf_X12_51 X hH hx8 dX12_undo_39 ?_
        refine lv_bipush (v := 11) hx hb dX12_undo_42 (by decide) ?_
        refine lv_iload_n hx hb dX12_undo_44 rfl (lv_at hl 1 rfl) ?_
        refine lv_imul hx hb dX12_undo_45 ?_
        refine lv_iload_n hx hb dX12_undo_46 rfl (lv_at hl 3 rfl) ?_
        refine lv_iadd hx hb dX12_undo_47 ?_
        obtain ⟨x9, hx9, h⟩ := bnd h
        refine w_aI X hH hx9 dX12_undo_48 ?_
        obtain ⟨x10, hx10, h⟩ := bnd h
        refine w_qI X hH hx10 dX12_undo_49 (fun H locs hH => ?_)
        refine lv_iinc (v := (v3 + 1)) (lv' := [(3, .int (v3 + 1)), (0, .ref v0), (1, .int v1), (2, .int v2)]) hx hb dX12_undo_50 hl (k := 3) rfl rfl (by decide) rfl (fun ls hl => ?_)
        refine lv_goto (tgt := 23) hx hb dX12_undo_53 (by decide) ?_
        exact ih _ _ _ _ _ _ h k0 _ _ _ hH (lv_sub hl [1, 2, 3, 0] rfl)
theorem t_X12_undo {μ : Mm} {a0 : Nat} {p1 : Int32} {x : Int32 × Mm} (h : f_X12_undo μ a0 p1 = some x) : tg μ a0 = 13 := by
  unfold f_X12_undo at h
  exact (gsn h).1
set_option maxHeartbeats 4000000 in
set_option maxRecDepth 100000 in
theorem c_X12_undo (l : Launch) (G : CG) (μ : Mm) (a0 : Nat) (p1 : Int32) (x : Int32 × Mm) (h : f_X12_undo μ a0 p1 = some x) : Met l yX12_undo (.code yX12_undo cX12_undo 4 (some .int) :: UW) (rmk 2 0 0) (PC G [.ref a0, .int p1] μ) (QI G x.1 x.2) 0 0 (fA G) := by
  refine Met.ofW (cc := cX12_undo) (maxL := 4) (ret := (some .int)) (by decide) rfl ?_
  intro p e s m args below meth c s₁ B hml hv
  obtain ⟨X, hH, hr, rfl, hnm⟩ := cx_in B hml hv
  have X : Cx p s m _ meth c cX12_undo 4 RX12 G := X
  have hx := X.1
  have hb := X.2.1
  have hown := X.2.2.2.1
  have hts := X.2.2.2.2.1
  have hRL : RmL (rmk 2 0 0) 2 := ⟨Nat.le_refl _, Nat.le_refl _⟩
  have hcs : 0 ≤ (rmk 0 0 0).cells ∧ 0 ≤ (rmk 0 0 0).slots := ⟨Nat.zero_le _, Nat.zero_le _⟩
  refine ls_in (Nat.le_of_ble_eq_true rfl) (fun ls hl => ?_)
  have hl : lv_has ls 4 [(0, .ref a0), (1, .int p1)] := hl
  unfold f_X12_undo at h
  obtain ⟨htg, h⟩ := gsn h
  refine lv_iload_n hx hb dX12_undo_0 rfl (lv_at hl 1 rfl) ?_
  refine lv_iconst (v := 0) hx hb dX12_undo_1 (by decide) ?_
  refine lv_aload_n hx hb dX12_undo_2 rfl (lv_at hl 0 rfl) ?_
  obtain ⟨x1, hx1, h⟩ := bnd h
  refine gf_X12_180 X hH hx1 dX12_undo_3 ?_
  obtain ⟨x2, hx2, h⟩ := bnd h
  refine iv_X12_96 l X hH hRL (by decide) hx2 hl.1 (Nat.le_of_ble_eq_true rfl) dX12_undo_6 hcs (fun H locs hH => ?_)
  refine lv_if_ne (tgt := 14) hx hb dX12_undo_9 (by decide) (fun hc3 => ?_) (fun hc3 => ?_)
  · replace h := iff' h hc3
    refine lv_aload_n hx hb dX12_undo_14 rfl (lv_at hl 0 rfl) ?_
    obtain ⟨x4, hx4, h⟩ := bnd h
    refine gf_X12_180 X hH hx4 dX12_undo_15 ?_
    refine lv_iload_n hx hb dX12_undo_18 rfl (lv_at hl 1 rfl) ?_
    refine lv_isub hx hb dX12_undo_19 ?_
    refine lv_istore_n (lv' := [(2, .int (x4 - p1)), (0, .ref a0), (1, .int p1)]) hx hb dX12_undo_20 rfl hl (by decide) rfl (fun ls hl => ?_)
    refine lv_iconst (v := 0) hx hb dX12_undo_21 (by decide) ?_
    refine lv_istore_n (lv' := [(3, .int (0 : Int32)), (2, .int (x4 - p1)), (0, .ref a0), (1, .int p1)]) hx hb dX12_undo_22 rfl hl (by decide) rfl (fun ls hl => ?_)
    obtain ⟨x11, hx11, hhx11⟩ := bnd h
    clear h
    refine w_X12_undo_23 l X hRL hcs BIG a0 p1 (x4 - p1) (0 : Int32) μ x11 hx11 (fun H locs ls hH hl => ?_) _ _ _ hH (lv_sub hl [2, 3, 1, 0] rfl)
    · have h := hhx11
      clear hhx11
      refine lv_aload_n hx hb dX12_undo_56 rfl (lv_at hl 0 rfl) ?_
      refine lv_iload_n hx hb dX12_undo_57 rfl (lv_at hl 1 rfl) ?_
      obtain ⟨x12, hx12, h⟩ := bnd h
      refine pf_X12_180 X hH hx12 dX12_undo_58 (fun H locs hH => ?_)
      refine lv_iload_n hx hb dX12_undo_61 rfl (lv_at hl 2 rfl) ?_
      exact eI X hH h hr dX12_undo_62 (Nat.le_of_ble_eq_true rfl) (Nat.le_of_ble_eq_true rfl)
  · replace h := ift h hc3
    refine lv_iconst (v := -1) hx hb dX12_undo_12 (by decide) ?_
    exact eI X hH h hr dX12_undo_13 (Nat.le_of_ble_eq_true rfl) (Nat.le_of_ble_eq_true rfl)
set_option maxHeartbeats 4000000 in
set_option maxRecDepth 100000 in
theorem w_X12_keep_40 {p : Program} {e : Env} {R : Room} {s : State} {m : MethodId} {args : Array Value} {below : List Frame} {meth : Method} {c : Code} {cells slots : Nat} {Q : State → Prop} {G : CG} (l : Launch) (X : Cx p s m args meth c cX12_keep 3 RX12 G) (hRL : RmL R 2) (hcs : cells ≤ R.cells ∧ slots ≤ R.slots) : ∀ (n : Nat) (v0 : Nat) (v1 : Int32) (v2 : Int32) (μ : Mm) (x : Mm), lp_X12_keep_40 n v0 v1 v2 μ = some x → (∀ (H : Heap) (locs : List Loc) (ls : Array Slot), HS G s x H locs → lv_has ls 3 [(0, .ref v0), (1, .int v1)] → W p l e R s m args below meth c H locs cells slots Q (F0 m 69 ls [])) → ∀ (H : Heap) (locs : List Loc) (ls : Array Slot), HS G s μ H locs → lv_has ls 3 [(0, .ref v0), (1, .int v1), (2, .int v2)] → W p l e R s m args below meth c H locs cells slots Q (F0 m 40 ls []) := by
  have hx := X.1
  have hb := X.2.1
  have hown := X.2.2.2.1
  have hts := X.2.2.2.2.1
  intro n
  induction n with
  | zero =>
    intro v0 v1 v2 μ x h
    rw [lp_X12_keep_40] at h
    cases h
  | succ n ih =>
    intro v0 v1 v2 μ x h k0 H locs ls hH hl
    rw [lp_X12_keep_40] at h
    refine lv_iload_n hx hb dX12_keep_40 rfl (lv_at hl 2 rfl) ?_
    refine lv_bipush (v := 6) hx hb dX12_keep_41 (by decide) ?_
    refine lv_icmp_ge (tgt := 69) hx hb dX12_keep_43 (by decide) (fun hc10 => ?_) (fun hc10 => ?_)
    · replace h := ift h hc10
      cases h
      exact k0 _ _ _ hH (lv_sub hl [0, 1] rfl)
    · replace h := iff' h hc10
      refine lv_aload_n hx hb dX12_keep_46 rfl (lv_at hl 0 rfl) ?_
      obtain ⟨x11, hx11, h⟩ := bnd h
      refine gf_X12_61 X hH hx11 dX12_keep_47 ?_
      refine lv_bipush (v := 6) hx hb dX12_keep_50 (by decide) ?_
      refine lv_iload_n hx hb dX12_keep_52 rfl (lv_at hl 1 rfl) ?_
      refine lv_imul hx hb dX12_keep_53 ?_
      refine lv_iload_n hx hb dX12_keep_54 rfl (lv_at hl 2 rfl) ?_
      refine lv_iadd hx hb dX12_keep_55 ?_
      refine lv_aload_n hx hb dX12_keep_56 rfl (lv_at hl 0 rfl) ?_
      obtain ⟨x12, hx12, h⟩ := bnd h
      refine gf_X12_36 X hH hx12 dX12_keep_57 ?_
      refine lv_iload_n hx hb dX12_keep_60 rfl (lv_at hl 2 rfl) ?_
      obtain ⟨x13, hx13, h⟩ := bnd h
      refine w_aI X hH hx13 dX12_keep_61 ?_
      obtain ⟨x14, hx14, h⟩ := bnd h
      refine w_qI X hH hx14 dX12_keep_62 (fun H locs hH => ?_)
      refine lv_iinc (v := (v2 + 1)) (lv' := [(2, .int (v2 + 1)), (0, .ref v0), (1, .int v1)]) hx hb dX12_keep_63 hl (k := 2) rfl rfl (by decide) rfl (fun ls hl => ?_)
      refine lv_goto (tgt := 40) hx hb dX12_keep_66 (by decide) ?_
      exact ih _ _ _ _ _ h k0 _ _ _ hH (lv_sub hl [1, 2, 0] rfl)
set_option maxHeartbeats 4000000 in
set_option maxRecDepth 100000 in
theorem w_X12_keep_71 {p : Program} {e : Env} {R : Room} {s : State} {m : MethodId} {args : Array Value} {below : List Frame} {meth : Method} {c : Code} {cells slots : Nat} {Q : State → Prop} {G : CG} (l : Launch) (X : Cx p s m args meth c cX12_keep 3 RX12 G) (hRL : RmL R 2) (hcs : cells ≤ R.cells ∧ slots ≤ R.slots) : ∀ (n : Nat) (v0 : Nat) (v1 : Int32) (v2 : Int32) (μ : Mm) (x : Mm), lp_X12_keep_71 n v0 v1 v2 μ = some x → (∀ (H : Heap) (locs : List Loc) (ls : Array Slot), HS G s x H locs → lv_has ls 3 [(0, .ref v0), (1, .int v1)] → W p l e R s m args below meth c H locs cells slots Q (F0 m 100 ls [])) → ∀ (H : Heap) (locs : List Loc) (ls : Array Slot), HS G s μ H locs → lv_has ls 3 [(0, .ref v0), (1, .int v1), (2, .int v2)] → W p l e R s m args below meth c H locs cells slots Q (F0 m 71 ls []) := by
  have hx := X.1
  have hb := X.2.1
  have hown := X.2.2.2.1
  have hts := X.2.2.2.2.1
  intro n
  induction n with
  | zero =>
    intro v0 v1 v2 μ x h
    rw [lp_X12_keep_71] at h
    cases h
  | succ n ih =>
    intro v0 v1 v2 μ x h k0 H locs ls hH hl
    rw [lp_X12_keep_71] at h
    refine lv_iload_n hx hb dX12_keep_71 rfl (lv_at hl 2 rfl) ?_
    refine lv_bipush (v := 11) hx hb dX12_keep_72 (by decide) ?_
    refine lv_icmp_ge (tgt := 100) hx hb dX12_keep_74 (by decide) (fun hc16 => ?_) (fun hc16 => ?_)
    · replace h := ift h hc16
      cases h
      exact k0 _ _ _ hH (lv_sub hl [0, 1] rfl)
    · replace h := iff' h hc16
      refine lv_aload_n hx hb dX12_keep_77 rfl (lv_at hl 0 rfl) ?_
      obtain ⟨x17, hx17, h⟩ := bnd h
      refine gf_X12_64 X hH hx17 dX12_keep_78 ?_
      refine lv_bipush (v := 11) hx hb dX12_keep_81 (by decide) ?_
      refine lv_iload_n hx hb dX12_keep_83 rfl (lv_at hl 1 rfl) ?_
      refine lv_imul hx hb dX12_keep_84 ?_
      refine lv_iload_n hx hb dX12_keep_85 rfl (lv_at hl 2 rfl) ?_
      refine lv_iadd hx hb dX12_keep_86 ?_
      refine lv_aload_n hx hb dX12_keep_87 rfl (lv_at hl 0 rfl) ?_
      obtain ⟨x18, hx18, h⟩ := bnd h
      refine gf_X12_45 X hH hx18 dX12_keep_88 ?_
      refine lv_iload_n hx hb dX12_keep_91 rfl (lv_at hl 2 rfl) ?_
      obtain ⟨x19, hx19, h⟩ := bnd h
      refine w_aI X hH hx19 dX12_keep_92 ?_
      obtain ⟨x20, hx20, h⟩ := bnd h
      refine w_qI X hH hx20 dX12_keep_93 (fun H locs hH => ?_)
      refine lv_iinc (v := (v2 + 1)) (lv' := [(2, .int (v2 + 1)), (0, .ref v0), (1, .int v1)]) hx hb dX12_keep_94 hl (k := 2) rfl rfl (by decide) rfl (fun ls hl => ?_)
      refine lv_goto (tgt := 71) hx hb dX12_keep_97 (by decide) ?_
      exact ih _ _ _ _ _ h k0 _ _ _ hH (lv_sub hl [1, 2, 0] rfl)
set_option maxHeartbeats 4000000 in
set_option maxRecDepth 100000 in
theorem w_X12_keep_102 {p : Program} {e : Env} {R : Room} {s : State} {m : MethodId} {args : Array Value} {below : List Frame} {meth : Method} {c : Code} {cells slots : Nat} {Q : State → Prop} {G : CG} (l : Launch) (X : Cx p s m args meth c cX12_keep 3 RX12 G) (hRL : RmL R 2) (hcs : cells ≤ R.cells ∧ slots ≤ R.slots) : ∀ (n : Nat) (v0 : Nat) (v1 : Int32) (v2 : Int32) (μ : Mm) (x : Mm), lp_X12_keep_102 n v0 v1 v2 μ = some x → (∀ (H : Heap) (locs : List Loc) (ls : Array Slot), HS G s x H locs → lv_has ls 3 [(0, .ref v0)] → W p l e R s m args below meth c H locs cells slots Q (F0 m 137 ls [])) → ∀ (H : Heap) (locs : List Loc) (ls : Array Slot), HS G s μ H locs → lv_has ls 3 [(0, .ref v0), (1, .int v1), (2, .int v2)] → W p l e R s m args below meth c H locs cells slots Q (F0 m 102 ls []) := by
  have hx := X.1
  have hb := X.2.1
  have hown := X.2.2.2.1
  have hts := X.2.2.2.2.1
  intro n
  induction n with
  | zero =>
    intro v0 v1 v2 μ x h
    rw [lp_X12_keep_102] at h
    cases h
  | succ n ih =>
    intro v0 v1 v2 μ x h k0 H locs ls hH hl
    rw [lp_X12_keep_102] at h
    refine lv_iload_n hx hb dX12_keep_102 rfl (lv_at hl 2 rfl) ?_
    refine lv_bipush (v := 11) hx hb dX12_keep_103 (by decide) ?_
    refine lv_aload_n hx hb dX12_keep_105 rfl (lv_at hl 0 rfl) ?_
    obtain ⟨x22, hx22, h⟩ := bnd h
    refine gf_X12_180 X hH hx22 dX12_keep_106 ?_
    refine lv_imul hx hb dX12_keep_109 ?_
    refine lv_icmp_ge (tgt := 137) hx hb dX12_keep_110 (by decide) (fun hc23 => ?_) (fun hc23 => ?_)
    · replace h := ift h hc23
      cases h
      exact k0 _ _ _ hH (lv_sub hl [0] rfl)
    · replace h := iff' h hc23
      refine lv_aload_n hx hb dX12_keep_113 rfl (lv_at hl 0 rfl) ?_
      obtain ⟨x24, hx24, h⟩ := bnd h
      refine gf_X12_67 X hH hx24 dX12_keep_114 ?_
      refine lv_sipush (v := 660) hx hb dX12_keep_117 (by decide) ?_
      refine lv_iload_n hx hb dX12_keep_120 rfl (lv_at hl 1 rfl) ?_
      refine lv_imul hx hb dX12_keep_121 ?_
      refine lv_iload_n hx hb dX12_keep_122 rfl (lv_at hl 2 rfl) ?_
      refine lv_iadd hx hb dX12_keep_123 ?_
      refine lv_aload_n hx hb dX12_keep_124 rfl (lv_at hl 0 rfl) ?_
      obtain ⟨x25, hx25, h⟩ := bnd h
      refine gf_X12_51 X hH hx25 dX12_keep_125 ?_
      refine lv_iload_n hx hb dX12_keep_128 rfl (lv_at hl 2 rfl) ?_
      obtain ⟨x26, hx26, h⟩ := bnd h
      refine w_aI X hH hx26 dX12_keep_129 ?_
      obtain ⟨x27, hx27, h⟩ := bnd h
      refine w_qI X hH hx27 dX12_keep_130 (fun H locs hH => ?_)
      refine lv_iinc (v := (v2 + 1)) (lv' := [(2, .int (v2 + 1)), (0, .ref v0), (1, .int v1)]) hx hb dX12_keep_131 hl (k := 2) rfl rfl (by decide) rfl (fun ls hl => ?_)
      refine lv_goto (tgt := 102) hx hb dX12_keep_134 (by decide) ?_
      exact ih _ _ _ _ _ h k0 _ _ _ hH (lv_sub hl [1, 2, 0] rfl)
theorem t_X12_keep {μ : Mm} {a0 : Nat} {p1 : Int32} {x : Int32 × Mm} (h : f_X12_keep μ a0 p1 = some x) : tg μ a0 = 13 := by
  unfold f_X12_keep at h
  exact (gsn h).1
set_option maxHeartbeats 4000000 in
set_option maxRecDepth 100000 in
theorem c_X12_keep (l : Launch) (G : CG) (μ : Mm) (a0 : Nat) (p1 : Int32) (x : Int32 × Mm) (h : f_X12_keep μ a0 p1 = some x) : Met l yX12_keep (.code yX12_keep cX12_keep 3 (some .int) :: UW) (rmk 2 0 0) (PC G [.ref a0, .int p1] μ) (QI G x.1 x.2) 0 0 (fA G) := by
  refine Met.ofW (cc := cX12_keep) (maxL := 3) (ret := (some .int)) (by decide) rfl ?_
  intro p e s m args below meth c s₁ B hml hv
  obtain ⟨X, hH, hr, rfl, hnm⟩ := cx_in B hml hv
  have X : Cx p s m _ meth c cX12_keep 3 RX12 G := X
  have hx := X.1
  have hb := X.2.1
  have hown := X.2.2.2.1
  have hts := X.2.2.2.2.1
  have hRL : RmL (rmk 2 0 0) 2 := ⟨Nat.le_refl _, Nat.le_refl _⟩
  have hcs : 0 ≤ (rmk 0 0 0).cells ∧ 0 ≤ (rmk 0 0 0).slots := ⟨Nat.zero_le _, Nat.zero_le _⟩
  refine ls_in (Nat.le_of_ble_eq_true rfl) (fun ls hl => ?_)
  have hl : lv_has ls 3 [(0, .ref a0), (1, .int p1)] := hl
  unfold f_X12_keep at h
  obtain ⟨htg, h⟩ := gsn h
  refine lv_iload_n hx hb dX12_keep_0 rfl (lv_at hl 1 rfl) ?_
  refine lv_iconst (v := 0) hx hb dX12_keep_1 (by decide) ?_
  refine lv_iconst (v := 2) hx hb dX12_keep_2 (by decide) ?_
  obtain ⟨x1, hx1, h⟩ := bnd h
  refine iv_X12_96 l X hH hRL (by decide) hx1 hl.1 (Nat.le_of_ble_eq_true rfl) dX12_keep_3 hcs (fun H locs hH => ?_)
  refine lv_if_ne (tgt := 11) hx hb dX12_keep_6 (by decide) (fun hc2 => ?_) (fun hc2 => ?_)
  · replace h := iff' h hc2
    refine lv_aload_n hx hb dX12_keep_11 rfl (lv_at hl 0 rfl) ?_
    obtain ⟨x3, hx3, h⟩ := bnd h
    refine gf_X12_168 X hH hx3 dX12_keep_12 ?_
    refine lv_if_ne (tgt := 21) hx hb dX12_keep_15 (by decide) (fun hc4 => ?_) (fun hc4 => ?_)
    · replace h := iff' h hc4
      refine lv_aload_n hx hb dX12_keep_21 rfl (lv_at hl 0 rfl) ?_
      obtain ⟨x5, hx5, h⟩ := bnd h
      refine gf_X12_54 X hH hx5 dX12_keep_22 ?_
      refine lv_iload_n hx hb dX12_keep_25 rfl (lv_at hl 1 rfl) ?_
      refine lv_iconst (v := 1) hx hb dX12_keep_26 (by decide) ?_
      obtain ⟨x6, hx6, h⟩ := bnd h
      refine w_qZ X hH hx6 dX12_keep_27 (fun H locs hH => ?_)
      refine lv_aload_n hx hb dX12_keep_28 rfl (lv_at hl 0 rfl) ?_
      obtain ⟨x7, hx7, h⟩ := bnd h
      refine gf_X12_58 X hH hx7 dX12_keep_29 ?_
      refine lv_iload_n hx hb dX12_keep_32 rfl (lv_at hl 1 rfl) ?_
      refine lv_aload_n hx hb dX12_keep_33 rfl (lv_at hl 0 rfl) ?_
      obtain ⟨x8, hx8, h⟩ := bnd h
      refine gf_X12_180 X hH hx8 dX12_keep_34 ?_
      obtain ⟨x9, hx9, h⟩ := bnd h
      refine w_qI X hH hx9 dX12_keep_37 (fun H locs hH => ?_)
      refine lv_iconst (v := 0) hx hb dX12_keep_38 (by decide) ?_
      refine lv_istore_n (lv' := [(2, .int (0 : Int32)), (0, .ref a0), (1, .int p1)]) hx hb dX12_keep_39 rfl hl (by decide) rfl (fun ls hl => ?_)
      obtain ⟨x15, hx15, hhx15⟩ := bnd h
      clear h
      refine w_X12_keep_40 l X hRL hcs BIG a0 p1 (0 : Int32) x9 x15 hx15 (fun H locs ls hH hl => ?_) _ _ _ hH (lv_sub hl [1, 2, 0] rfl)
      · have h := hhx15
        clear hhx15
        refine lv_iconst (v := 0) hx hb dX12_keep_69 (by decide) ?_
        refine lv_istore_n (lv' := [(2, .int (0 : Int32)), (0, .ref a0), (1, .int p1)]) hx hb dX12_keep_70 rfl hl (by decide) rfl (fun ls hl => ?_)
        obtain ⟨x21, hx21, hhx21⟩ := bnd h
        clear h
        refine w_X12_keep_71 l X hRL hcs BIG a0 p1 (0 : Int32) x15 x21 hx21 (fun H locs ls hH hl => ?_) _ _ _ hH (lv_sub hl [1, 2, 0] rfl)
        · have h := hhx21
          clear hhx21
          refine lv_iconst (v := 0) hx hb dX12_keep_100 (by decide) ?_
          refine lv_istore_n (lv' := [(2, .int (0 : Int32)), (0, .ref a0), (1, .int p1)]) hx hb dX12_keep_101 rfl hl (by decide) rfl (fun ls hl => ?_)
          obtain ⟨x28, hx28, hhx28⟩ := bnd h
          clear h
          refine w_X12_keep_102 l X hRL hcs BIG a0 p1 (0 : Int32) x21 x28 hx28 (fun H locs ls hH hl => ?_) _ _ _ hH (lv_sub hl [1, 2, 0] rfl)
          · have h := hhx28
            clear hhx28
            refine lv_aload_n hx hb dX12_keep_137 rfl (lv_at hl 0 rfl) ?_
            obtain ⟨x29, hx29, h⟩ := bnd h
            refine gf_X12_180 X hH hx29 dX12_keep_138 ?_
            exact eI X hH h hr dX12_keep_141 (Nat.le_of_ble_eq_true rfl) (Nat.le_of_ble_eq_true rfl)
    · replace h := ift h hc4
      refine lv_bipush (v := -4) hx hb dX12_keep_18 (by decide) ?_
      exact eI X hH h hr dX12_keep_20 (Nat.le_of_ble_eq_true rfl) (Nat.le_of_ble_eq_true rfl)
  · replace h := ift h hc2
    refine lv_iconst (v := -1) hx hb dX12_keep_9 (by decide) ?_
    exact eI X hH h hr dX12_keep_10 (Nat.le_of_ble_eq_true rfl) (Nat.le_of_ble_eq_true rfl)
set_option maxHeartbeats 4000000 in
set_option maxRecDepth 100000 in
theorem w_X12_on_38 {p : Program} {e : Env} {R : Room} {s : State} {m : MethodId} {args : Array Value} {below : List Frame} {meth : Method} {c : Code} {cells slots : Nat} {Q : State → Prop} {G : CG} (l : Launch) (X : Cx p s m args meth c cX12_on 3 RX12 G) (hRL : RmL R 2) (hcs : cells ≤ R.cells ∧ slots ≤ R.slots) : ∀ (n : Nat) (v0 : Nat) (v1 : Int32) (v2 : Int32) (μ : Mm) (x : Mm), lp_X12_on_38 n v0 v1 v2 μ = some x → (∀ (H : Heap) (locs : List Loc) (ls : Array Slot), HS G s x H locs → lv_has ls 3 [(0, .ref v0), (1, .int v1)] → W p l e R s m args below meth c H locs cells slots Q (F0 m 67 ls [])) → ∀ (H : Heap) (locs : List Loc) (ls : Array Slot), HS G s μ H locs → lv_has ls 3 [(0, .ref v0), (1, .int v1), (2, .int v2)] → W p l e R s m args below meth c H locs cells slots Q (F0 m 38 ls []) := by
  have hx := X.1
  have hb := X.2.1
  have hown := X.2.2.2.1
  have hts := X.2.2.2.2.1
  intro n
  induction n with
  | zero =>
    intro v0 v1 v2 μ x h
    rw [lp_X12_on_38] at h
    cases h
  | succ n ih =>
    intro v0 v1 v2 μ x h k0 H locs ls hH hl
    rw [lp_X12_on_38] at h
    refine lv_iload_n hx hb dX12_on_38 rfl (lv_at hl 2 rfl) ?_
    refine lv_bipush (v := 6) hx hb dX12_on_39 (by decide) ?_
    refine lv_icmp_ge (tgt := 67) hx hb dX12_on_41 (by decide) (fun hc9 => ?_) (fun hc9 => ?_)
    · replace h := ift h hc9
      cases h
      exact k0 _ _ _ hH (lv_sub hl [0, 1] rfl)
    · replace h := iff' h hc9
      refine lv_aload_n hx hb dX12_on_44 rfl (lv_at hl 0 rfl) ?_
      obtain ⟨x10, hx10, h⟩ := bnd h
      refine gf_X12_36 X hH hx10 dX12_on_45 ?_
      refine lv_iload_n hx hb dX12_on_48 rfl (lv_at hl 2 rfl) ?_
      refine lv_aload_n hx hb dX12_on_49 rfl (lv_at hl 0 rfl) ?_
      obtain ⟨x11, hx11, h⟩ := bnd h
      refine gf_X12_61 X hH hx11 dX12_on_50 ?_
      refine lv_bipush (v := 6) hx hb dX12_on_53 (by decide) ?_
      refine lv_iload_n hx hb dX12_on_55 rfl (lv_at hl 1 rfl) ?_
      refine lv_imul hx hb dX12_on_56 ?_
      refine lv_iload_n hx hb dX12_on_57 rfl (lv_at hl 2 rfl) ?_
      refine lv_iadd hx hb dX12_on_58 ?_
      obtain ⟨x12, hx12, h⟩ := bnd h
      refine w_aI X hH hx12 dX12_on_59 ?_
      obtain ⟨x13, hx13, h⟩ := bnd h
      refine w_qI X hH hx13 dX12_on_60 (fun H locs hH => ?_)
      refine lv_iinc (v := (v2 + 1)) (lv' := [(2, .int (v2 + 1)), (0, .ref v0), (1, .int v1)]) hx hb dX12_on_61 hl (k := 2) rfl rfl (by decide) rfl (fun ls hl => ?_)
      refine lv_goto (tgt := 38) hx hb dX12_on_64 (by decide) ?_
      exact ih _ _ _ _ _ h k0 _ _ _ hH (lv_sub hl [1, 2, 0] rfl)
set_option maxHeartbeats 4000000 in
set_option maxRecDepth 100000 in
theorem w_X12_on_69 {p : Program} {e : Env} {R : Room} {s : State} {m : MethodId} {args : Array Value} {below : List Frame} {meth : Method} {c : Code} {cells slots : Nat} {Q : State → Prop} {G : CG} (l : Launch) (X : Cx p s m args meth c cX12_on 3 RX12 G) (hRL : RmL R 2) (hcs : cells ≤ R.cells ∧ slots ≤ R.slots) : ∀ (n : Nat) (v0 : Nat) (v1 : Int32) (v2 : Int32) (μ : Mm) (x : Mm), lp_X12_on_69 n v0 v1 v2 μ = some x → (∀ (H : Heap) (locs : List Loc) (ls : Array Slot), HS G s x H locs → lv_has ls 3 [(0, .ref v0), (1, .int v1)] → W p l e R s m args below meth c H locs cells slots Q (F0 m 98 ls [])) → ∀ (H : Heap) (locs : List Loc) (ls : Array Slot), HS G s μ H locs → lv_has ls 3 [(0, .ref v0), (1, .int v1), (2, .int v2)] → W p l e R s m args below meth c H locs cells slots Q (F0 m 69 ls []) := by
  have hx := X.1
  have hb := X.2.1
  have hown := X.2.2.2.1
  have hts := X.2.2.2.2.1
  intro n
  induction n with
  | zero =>
    intro v0 v1 v2 μ x h
    rw [lp_X12_on_69] at h
    cases h
  | succ n ih =>
    intro v0 v1 v2 μ x h k0 H locs ls hH hl
    rw [lp_X12_on_69] at h
    refine lv_iload_n hx hb dX12_on_69 rfl (lv_at hl 2 rfl) ?_
    refine lv_bipush (v := 11) hx hb dX12_on_70 (by decide) ?_
    refine lv_icmp_ge (tgt := 98) hx hb dX12_on_72 (by decide) (fun hc15 => ?_) (fun hc15 => ?_)
    · replace h := ift h hc15
      cases h
      exact k0 _ _ _ hH (lv_sub hl [0, 1] rfl)
    · replace h := iff' h hc15
      refine lv_aload_n hx hb dX12_on_75 rfl (lv_at hl 0 rfl) ?_
      obtain ⟨x16, hx16, h⟩ := bnd h
      refine gf_X12_45 X hH hx16 dX12_on_76 ?_
      refine lv_iload_n hx hb dX12_on_79 rfl (lv_at hl 2 rfl) ?_
      refine lv_aload_n hx hb dX12_on_80 rfl (lv_at hl 0 rfl) ?_
      obtain ⟨x17, hx17, h⟩ := bnd h
      refine gf_X12_64 X hH hx17 dX12_on_81 ?_
      refine lv_bipush (v := 11) hx hb dX12_on_84 (by decide) ?_
      refine lv_iload_n hx hb dX12_on_86 rfl (lv_at hl 1 rfl) ?_
      refine lv_imul hx hb dX12_on_87 ?_
      refine lv_iload_n hx hb dX12_on_88 rfl (lv_at hl 2 rfl) ?_
      refine lv_iadd hx hb dX12_on_89 ?_
      obtain ⟨x18, hx18, h⟩ := bnd h
      refine w_aI X hH hx18 dX12_on_90 ?_
      obtain ⟨x19, hx19, h⟩ := bnd h
      refine w_qI X hH hx19 dX12_on_91 (fun H locs hH => ?_)
      refine lv_iinc (v := (v2 + 1)) (lv' := [(2, .int (v2 + 1)), (0, .ref v0), (1, .int v1)]) hx hb dX12_on_92 hl (k := 2) rfl rfl (by decide) rfl (fun ls hl => ?_)
      refine lv_goto (tgt := 69) hx hb dX12_on_95 (by decide) ?_
      exact ih _ _ _ _ _ h k0 _ _ _ hH (lv_sub hl [1, 2, 0] rfl)
set_option maxHeartbeats 4000000 in
set_option maxRecDepth 100000 in
theorem w_X12_on_100 {p : Program} {e : Env} {R : Room} {s : State} {m : MethodId} {args : Array Value} {below : List Frame} {meth : Method} {c : Code} {cells slots : Nat} {Q : State → Prop} {G : CG} (l : Launch) (X : Cx p s m args meth c cX12_on 3 RX12 G) (hRL : RmL R 2) (hcs : cells ≤ R.cells ∧ slots ≤ R.slots) : ∀ (n : Nat) (v0 : Nat) (v1 : Int32) (v2 : Int32) (μ : Mm) (x : Mm), lp_X12_on_100 n v0 v1 v2 μ = some x → (∀ (H : Heap) (locs : List Loc) (ls : Array Slot), HS G s x H locs → lv_has ls 3 [(0, .ref v0)] → W p l e R s m args below meth c H locs cells slots Q (F0 m 135 ls [])) → ∀ (H : Heap) (locs : List Loc) (ls : Array Slot), HS G s μ H locs → lv_has ls 3 [(0, .ref v0), (1, .int v1), (2, .int v2)] → W p l e R s m args below meth c H locs cells slots Q (F0 m 100 ls []) := by
  have hx := X.1
  have hb := X.2.1
  have hown := X.2.2.2.1
  have hts := X.2.2.2.2.1
  intro n
  induction n with
  | zero =>
    intro v0 v1 v2 μ x h
    rw [lp_X12_on_100] at h
    cases h
  | succ n ih =>
    intro v0 v1 v2 μ x h k0 H locs ls hH hl
    rw [lp_X12_on_100] at h
    refine lv_iload_n hx hb dX12_on_100 rfl (lv_at hl 2 rfl) ?_
    refine lv_bipush (v := 11) hx hb dX12_on_101 (by decide) ?_
    refine lv_aload_n hx hb dX12_on_103 rfl (lv_at hl 0 rfl) ?_
    obtain ⟨x21, hx21, h⟩ := bnd h
    refine gf_X12_180 X hH hx21 dX12_on_104 ?_
    refine lv_imul hx hb dX12_on_107 ?_
    refine lv_icmp_ge (tgt := 135) hx hb dX12_on_108 (by decide) (fun hc22 => ?_) (fun hc22 => ?_)
    · replace h := ift h hc22
      cases h
      exact k0 _ _ _ hH (lv_sub hl [0] rfl)
    · replace h := iff' h hc22
      refine lv_aload_n hx hb dX12_on_111 rfl (lv_at hl 0 rfl) ?_
      obtain ⟨x23, hx23, h⟩ := bnd h
      refine gf_X12_51 X hH hx23 dX12_on_112 ?_
      refine lv_iload_n hx hb dX12_on_115 rfl (lv_at hl 2 rfl) ?_
      refine lv_aload_n hx hb dX12_on_116 rfl (lv_at hl 0 rfl) ?_
      obtain ⟨x24, hx24, h⟩ := bnd h
      refine gf_X12_67 X hH hx24 dX12_on_117 ?_
      refine lv_sipush (v := 660) hx hb dX12_on_120 (by decide) ?_
      refine lv_iload_n hx hb dX12_on_123 rfl (lv_at hl 1 rfl) ?_
      refine lv_imul hx hb dX12_on_124 ?_
      refine lv_iload_n hx hb dX12_on_125 rfl (lv_at hl 2 rfl) ?_
      refine lv_iadd hx hb dX12_on_126 ?_
      obtain ⟨x25, hx25, h⟩ := bnd h
      refine w_aI X hH hx25 dX12_on_127 ?_
      obtain ⟨x26, hx26, h⟩ := bnd h
      refine w_qI X hH hx26 dX12_on_128 (fun H locs hH => ?_)
      refine lv_iinc (v := (v2 + 1)) (lv' := [(2, .int (v2 + 1)), (0, .ref v0), (1, .int v1)]) hx hb dX12_on_129 hl (k := 2) rfl rfl (by decide) rfl (fun ls hl => ?_)
      refine lv_goto (tgt := 100) hx hb dX12_on_132 (by decide) ?_
      exact ih _ _ _ _ _ h k0 _ _ _ hH (lv_sub hl [1, 2, 0] rfl)
theorem t_X12_on {μ : Mm} {a0 : Nat} {p1 : Int32} {x : Int32 × Mm} (h : f_X12_on μ a0 p1 = some x) : tg μ a0 = 13 := by
  unfold f_X12_on at h
  exact (gsn h).1
set_option maxHeartbeats 4000000 in
set_option maxRecDepth 100000 in
theorem c_X12_on (l : Launch) (G : CG) (μ : Mm) (a0 : Nat) (p1 : Int32) (x : Int32 × Mm) (h : f_X12_on μ a0 p1 = some x) : Met l yX12_on (.code yX12_on cX12_on 3 (some .int) :: UW) (rmk 2 0 0) (PC G [.ref a0, .int p1] μ) (QI G x.1 x.2) 0 0 (fA G) := by
  refine Met.ofW (cc := cX12_on) (maxL := 3) (ret := (some .int)) (by decide) rfl ?_
  intro p e s m args below meth c s₁ B hml hv
  obtain ⟨X, hH, hr, rfl, hnm⟩ := cx_in B hml hv
  have X : Cx p s m _ meth c cX12_on 3 RX12 G := X
  have hx := X.1
  have hb := X.2.1
  have hown := X.2.2.2.1
  have hts := X.2.2.2.2.1
  have hRL : RmL (rmk 2 0 0) 2 := ⟨Nat.le_refl _, Nat.le_refl _⟩
  have hcs : 0 ≤ (rmk 0 0 0).cells ∧ 0 ≤ (rmk 0 0 0).slots := ⟨Nat.zero_le _, Nat.zero_le _⟩
  refine ls_in (Nat.le_of_ble_eq_true rfl) (fun ls hl => ?_)
  have hl : lv_has ls 3 [(0, .ref a0), (1, .int p1)] := hl
  unfold f_X12_on at h
  obtain ⟨htg, h⟩ := gsn h
  refine lv_iload_n hx hb dX12_on_0 rfl (lv_at hl 1 rfl) ?_
  refine lv_iconst (v := 0) hx hb dX12_on_1 (by decide) ?_
  refine lv_iconst (v := 2) hx hb dX12_on_2 (by decide) ?_
  obtain ⟨x1, hx1, h⟩ := bnd h
  refine iv_X12_96 l X hH hRL (by decide) hx1 hl.1 (Nat.le_of_ble_eq_true rfl) dX12_on_3 hcs (fun H locs hH => ?_)
  refine lv_if_ne (tgt := 11) hx hb dX12_on_6 (by decide) (fun hc2 => ?_) (fun hc2 => ?_)
  · replace h := iff' h hc2
    refine lv_aload_n hx hb dX12_on_11 rfl (lv_at hl 0 rfl) ?_
    obtain ⟨x3, hx3, h⟩ := bnd h
    refine gf_X12_54 X hH hx3 dX12_on_12 ?_
    refine lv_iload_n hx hb dX12_on_15 rfl (lv_at hl 1 rfl) ?_
    obtain ⟨x4, hx4, h⟩ := bnd h
    refine w_aZ X hH hx4 dX12_on_16 ?_
    refine lv_if_ne (tgt := 26) hx hb dX12_on_17 (by decide) (fun hc5 => ?_) (fun hc5 => ?_)
    · replace h := iff' h hc5
      refine lv_aload_n hx hb dX12_on_26 rfl (lv_at hl 0 rfl) ?_
      refine lv_aload_n hx hb dX12_on_27 rfl (lv_at hl 0 rfl) ?_
      obtain ⟨x6, hx6, h⟩ := bnd h
      refine gf_X12_58 X hH hx6 dX12_on_28 ?_
      refine lv_iload_n hx hb dX12_on_31 rfl (lv_at hl 1 rfl) ?_
      obtain ⟨x7, hx7, h⟩ := bnd h
      refine w_aI X hH hx7 dX12_on_32 ?_
      obtain ⟨x8, hx8, h⟩ := bnd h
      refine pf_X12_180 X hH hx8 dX12_on_33 (fun H locs hH => ?_)
      refine lv_iconst (v := 0) hx hb dX12_on_36 (by decide) ?_
      refine lv_istore_n (lv' := [(2, .int (0 : Int32)), (0, .ref a0), (1, .int p1)]) hx hb dX12_on_37 rfl hl (by decide) rfl (fun ls hl => ?_)
      obtain ⟨x14, hx14, hhx14⟩ := bnd h
      clear h
      refine w_X12_on_38 l X hRL hcs BIG a0 p1 (0 : Int32) x8 x14 hx14 (fun H locs ls hH hl => ?_) _ _ _ hH (lv_sub hl [1, 2, 0] rfl)
      · have h := hhx14
        clear hhx14
        refine lv_iconst (v := 0) hx hb dX12_on_67 (by decide) ?_
        refine lv_istore_n (lv' := [(2, .int (0 : Int32)), (0, .ref a0), (1, .int p1)]) hx hb dX12_on_68 rfl hl (by decide) rfl (fun ls hl => ?_)
        obtain ⟨x20, hx20, hhx20⟩ := bnd h
        clear h
        refine w_X12_on_69 l X hRL hcs BIG a0 p1 (0 : Int32) x14 x20 hx20 (fun H locs ls hH hl => ?_) _ _ _ hH (lv_sub hl [1, 2, 0] rfl)
        · have h := hhx20
          clear hhx20
          refine lv_iconst (v := 0) hx hb dX12_on_98 (by decide) ?_
          refine lv_istore_n (lv' := [(2, .int (0 : Int32)), (0, .ref a0), (1, .int p1)]) hx hb dX12_on_99 rfl hl (by decide) rfl (fun ls hl => ?_)
          obtain ⟨x27, hx27, hhx27⟩ := bnd h
          clear h
          refine w_X12_on_100 l X hRL hcs BIG a0 p1 (0 : Int32) x20 x27 hx27 (fun H locs ls hH hl => ?_) _ _ _ hH (lv_sub hl [1, 2, 0] rfl)
          · have h := hhx27
            clear hhx27
            refine lv_aload_n hx hb dX12_on_135 rfl (lv_at hl 0 rfl) ?_
            obtain ⟨x28, hx28, h⟩ := bnd h
            refine gf_X12_180 X hH hx28 dX12_on_136 ?_
            exact eI X hH h hr dX12_on_139 (Nat.le_of_ble_eq_true rfl) (Nat.le_of_ble_eq_true rfl)
    · replace h := ift h hc5
      refine lv_aload_n hx hb dX12_on_20 rfl (lv_at hl 0 rfl) ?_
      refine lv_iconst (v := 1) hx hb dX12_on_21 (by decide) ?_
      obtain ⟨x29, hx29, h⟩ := bnd h
      refine iv_X12_110 l X hH hRL (by decide) hx29 hl.1 (Nat.le_of_ble_eq_true rfl) dX12_on_22 hcs (fun H locs hH => ?_)
      exact eI X hH h hr dX12_on_25 (Nat.le_of_ble_eq_true rfl) (Nat.le_of_ble_eq_true rfl)
  · replace h := ift h hc2
    refine lv_iconst (v := -1) hx hb dX12_on_9 (by decide) ?_
    exact eI X hH h hr dX12_on_10 (Nat.le_of_ble_eq_true rfl) (Nat.le_of_ble_eq_true rfl)
theorem t_X12_hour {μ : Mm} {a0 : Nat} {x : Int32 × Mm} (h : f_X12_hour μ a0 = some x) : tg μ a0 = 13 := by
  unfold f_X12_hour at h
  exact (gsn h).1
set_option maxHeartbeats 4000000 in
set_option maxRecDepth 100000 in
theorem c_X12_hour (l : Launch) (G : CG) (μ : Mm) (a0 : Nat) (x : Int32 × Mm) (h : f_X12_hour μ a0 = some x) : Met l yX12_hour (.code yX12_hour cX12_hour 1 (some .int) :: UW) (rmk 2 0 0) (PC G [.ref a0] μ) (QI G x.1 x.2) 0 0 (fA G) := by
  refine Met.ofW (cc := cX12_hour) (maxL := 1) (ret := (some .int)) (by decide) rfl ?_
  intro p e s m args below meth c s₁ B hml hv
  obtain ⟨X, hH, hr, rfl, hnm⟩ := cx_in B hml hv
  have X : Cx p s m _ meth c cX12_hour 1 RX12 G := X
  have hx := X.1
  have hb := X.2.1
  have hown := X.2.2.2.1
  have hts := X.2.2.2.2.1
  have hRL : RmL (rmk 2 0 0) 2 := ⟨Nat.le_refl _, Nat.le_refl _⟩
  have hcs : 0 ≤ (rmk 0 0 0).cells ∧ 0 ≤ (rmk 0 0 0).slots := ⟨Nat.zero_le _, Nat.zero_le _⟩
  refine ls_in (Nat.le_of_ble_eq_true rfl) (fun ls hl => ?_)
  have hl : lv_has ls 1 [(0, .ref a0)] := hl
  unfold f_X12_hour at h
  obtain ⟨htg, h⟩ := gsn h
  refine lv_aload_n hx hb dX12_hour_0 rfl (lv_at hl 0 rfl) ?_
  obtain ⟨x1, hx1, h⟩ := bnd h
  refine gf_X12_168 X hH hx1 dX12_hour_1 ?_
  refine lv_if_ne (tgt := 12) hx hb dX12_hour_4 (by decide) (fun hc2 => ?_) (fun hc2 => ?_)
  · replace h := iff' h hc2
    refine lv_aload_n hx hb dX12_hour_12 rfl (lv_at hl 0 rfl) ?_
    refine lv_aload_n hx hb dX12_hour_13 rfl (lv_at hl 0 rfl) ?_
    obtain ⟨x3, hx3, h⟩ := bnd h
    refine gf_X12_45 X hH hx3 dX12_hour_14 ?_
    refine lv_iconst (v := 1) hx hb dX12_hour_17 (by decide) ?_
    obtain ⟨x4, hx4, h⟩ := bnd h
    refine w_aI X hH hx4 dX12_hour_18 ?_
    refine lv_bipush (v := 12) hx hb dX12_hour_19 (by decide) ?_
    refine lv_aload_n hx hb dX12_hour_21 rfl (lv_at hl 0 rfl) ?_
    obtain ⟨x5, hx5, h⟩ := bnd h
    refine gf_X12_45 X hH hx5 dX12_hour_22 ?_
    refine lv_iconst (v := 0) hx hb dX12_hour_25 (by decide) ?_
    obtain ⟨x6, hx6, h⟩ := bnd h
    refine w_aI X hH hx6 dX12_hour_26 ?_
    refine lv_imul hx hb dX12_hour_27 ?_
    refine lv_aload_n hx hb dX12_hour_28 rfl (lv_at hl 0 rfl) ?_
    obtain ⟨x7, hx7, h⟩ := bnd h
    refine gf_X12_171 X hH hx7 dX12_hour_29 ?_
    obtain ⟨hd8, h⟩ := gsf h
    refine lv_idiv hx hb dX12_hour_32 hd8 ?_
    obtain ⟨x9, hx9, h⟩ := bnd h
    refine iv_X12_118 l X hH hRL (by decide) hx9 hl.1 (Nat.le_of_ble_eq_true rfl) dX12_hour_33 hcs (fun H locs hH => ?_)
    exact eI X hH h hr dX12_hour_36 (Nat.le_of_ble_eq_true rfl) (Nat.le_of_ble_eq_true rfl)
  · replace h := ift h hc2
    refine lv_bipush (v := -4) hx hb dX12_hour_7 (by decide) ?_
    refine lv_goto (tgt := 36) hx hb dX12_hour_9 (by decide) ?_
    exact eI X hH h hr dX12_hour_36 (Nat.le_of_ble_eq_true rfl) (Nat.le_of_ble_eq_true rfl)
theorem t_X12_due {μ : Mm} {a0 : Nat} {x : Int32 × Mm} (h : f_X12_due μ a0 = some x) : tg μ a0 = 13 := by
  unfold f_X12_due at h
  exact (gsn h).1
set_option maxHeartbeats 4000000 in
set_option maxRecDepth 100000 in
theorem c_X12_due (l : Launch) (G : CG) (μ : Mm) (a0 : Nat) (x : Int32 × Mm) (h : f_X12_due μ a0 = some x) : Met l yX12_due (.code yX12_due cX12_due 1 (some .int) :: UW) (rmk 2 0 0) (PC G [.ref a0] μ) (QI G x.1 x.2) 0 0 (fA G) := by
  refine Met.ofW (cc := cX12_due) (maxL := 1) (ret := (some .int)) (by decide) rfl ?_
  intro p e s m args below meth c s₁ B hml hv
  obtain ⟨X, hH, hr, rfl, hnm⟩ := cx_in B hml hv
  have X : Cx p s m _ meth c cX12_due 1 RX12 G := X
  have hx := X.1
  have hb := X.2.1
  have hown := X.2.2.2.1
  have hts := X.2.2.2.2.1
  have hRL : RmL (rmk 2 0 0) 2 := ⟨Nat.le_refl _, Nat.le_refl _⟩
  have hcs : 0 ≤ (rmk 0 0 0).cells ∧ 0 ≤ (rmk 0 0 0).slots := ⟨Nat.zero_le _, Nat.zero_le _⟩
  refine ls_in (Nat.le_of_ble_eq_true rfl) (fun ls hl => ?_)
  have hl : lv_has ls 1 [(0, .ref a0)] := hl
  unfold f_X12_due at h
  obtain ⟨htg, h⟩ := gsn h
  refine lv_aload_n hx hb dX12_due_0 rfl (lv_at hl 0 rfl) ?_
  refine lv_aload_n hx hb dX12_due_1 rfl (lv_at hl 0 rfl) ?_
  refine lv_aload_n hx hb dX12_due_2 rfl (lv_at hl 0 rfl) ?_
  obtain ⟨x1, hx1, h⟩ := bnd h
  refine gf_X12_45 X hH hx1 dX12_due_3 ?_
  refine lv_iconst (v := 0) hx hb dX12_due_6 (by decide) ?_
  obtain ⟨x2, hx2, h⟩ := bnd h
  refine w_aI X hH hx2 dX12_due_7 ?_
  obtain ⟨x3, hx3, h⟩ := bnd h
  refine iv_X12_208 l X hH hRL (by decide) hx3 hl.1 (Nat.le_of_ble_eq_true rfl) dX12_due_8 hcs (fun H locs hH => ?_)
  obtain ⟨x4, hbx4, hx4⟩ := bnd h
  clear h
  refine jn_lem (G := G) (x := x4) (M := 19) (nL := 1) (fun x4 => μ) (fun x4 => [(0, .ref a0)]) (fun x4 => [.int x4, .ref a0]) (fun H locs ls hH hl => ?_) (fun jnx4 => ?_)
  · have h := hx4
    clear hx4 hbx4
    refine lv_aload_n hx hb dX12_due_19 rfl (lv_at hl 0 rfl) ?_
    obtain ⟨x6, hx6, h⟩ := bnd h
    refine gf_X12_45 X hH hx6 dX12_due_20 ?_
    refine lv_iconst (v := 3) hx hb dX12_due_23 (by decide) ?_
    obtain ⟨x7, hx7, h⟩ := bnd h
    refine w_aI X hH hx7 dX12_due_24 ?_
    obtain ⟨x8, hx8, h⟩ := bnd h
    refine iv_X12_118 l X hH hRL (by decide) hx8 hl.1 (Nat.le_of_ble_eq_true rfl) dX12_due_25 hcs (fun H locs hH => ?_)
    exact eI X hH h hr dX12_due_28 (Nat.le_of_ble_eq_true rfl) (Nat.le_of_ble_eq_true rfl)
  · have h := hbx4
    clear hx4 hbx4
    refine lv_if_eq (tgt := 18) hx hb dX12_due_11 (by decide) (fun hc5 => ?_) (fun hc5 => ?_)
    · replace h := ift h hc5
      refine lv_iconst (v := 0) hx hb dX12_due_18 (by decide) ?_
      cases h
      exact jnx4 _ _ _ hH (lv_sub hl [0] rfl)
    · replace h := iff' h hc5
      refine lv_iconst (v := 1) hx hb dX12_due_14 (by decide) ?_
      refine lv_goto (tgt := 19) hx hb dX12_due_15 (by decide) ?_
      cases h
      exact jnx4 _ _ _ hH (lv_sub hl [0] rfl)
set_option maxHeartbeats 4000000 in
set_option maxRecDepth 100000 in
theorem w_X12_copyNow_2 {p : Program} {e : Env} {R : Room} {s : State} {m : MethodId} {args : Array Value} {below : List Frame} {meth : Method} {c : Code} {cells slots : Nat} {Q : State → Prop} {G : CG} (l : Launch) (X : Cx p s m args meth c cX12_copyNow 2 RX12 G) (hRL : RmL R 1) (hcs : cells ≤ R.cells ∧ slots ≤ R.slots) : ∀ (n : Nat) (v0 : Nat) (v1 : Int32) (μ : Mm) (x : Mm), lp_X12_copyNow_2 n v0 v1 μ = some x → (∀ (H : Heap) (locs : List Loc) (ls : Array Slot), HS G s x H locs → lv_has ls 2 [] → W p l e R s m args below meth c H locs cells slots Q (F0 m 26 ls [])) → ∀ (H : Heap) (locs : List Loc) (ls : Array Slot), HS G s μ H locs → lv_has ls 2 [(0, .ref v0), (1, .int v1)] → W p l e R s m args below meth c H locs cells slots Q (F0 m 2 ls []) := by
  have hx := X.1
  have hb := X.2.1
  have hown := X.2.2.2.1
  have hts := X.2.2.2.2.1
  intro n
  induction n with
  | zero =>
    intro v0 v1 μ x h
    rw [lp_X12_copyNow_2] at h
    cases h
  | succ n ih =>
    intro v0 v1 μ x h k0 H locs ls hH hl
    rw [lp_X12_copyNow_2] at h
    refine lv_iload_n hx hb dX12_copyNow_2 rfl (lv_at hl 1 rfl) ?_
    refine lv_bipush (v := 11) hx hb dX12_copyNow_3 (by decide) ?_
    refine lv_icmp_ge (tgt := 26) hx hb dX12_copyNow_5 (by decide) (fun hc1 => ?_) (fun hc1 => ?_)
    · replace h := ift h hc1
      cases h
      exact k0 _ _ _ hH (lv_sub hl [] rfl)
    · replace h := iff' h hc1
      refine lv_aload_n hx hb dX12_copyNow_8 rfl (lv_at hl 0 rfl) ?_
      obtain ⟨x2, hx2, h⟩ := bnd h
      refine gf_X12_48 X hH hx2 dX12_copyNow_9 ?_
      refine lv_iload_n hx hb dX12_copyNow_12 rfl (lv_at hl 1 rfl) ?_
      refine lv_aload_n hx hb dX12_copyNow_13 rfl (lv_at hl 0 rfl) ?_
      obtain ⟨x3, hx3, h⟩ := bnd h
      refine gf_X12_45 X hH hx3 dX12_copyNow_14 ?_
      refine lv_iload_n hx hb dX12_copyNow_17 rfl (lv_at hl 1 rfl) ?_
      obtain ⟨x4, hx4, h⟩ := bnd h
      refine w_aI X hH hx4 dX12_copyNow_18 ?_
      obtain ⟨x5, hx5, h⟩ := bnd h
      refine w_qI X hH hx5 dX12_copyNow_19 (fun H locs hH => ?_)
      refine lv_iinc (v := (v1 + 1)) (lv' := [(1, .int (v1 + 1)), (0, .ref v0)]) hx hb dX12_copyNow_20 hl (k := 1) rfl rfl (by decide) rfl (fun ls hl => ?_)
      refine lv_goto (tgt := 2) hx hb dX12_copyNow_23 (by decide) ?_
      exact ih _ _ _ _ h k0 _ _ _ hH (lv_sub hl [1, 0] rfl)
theorem t_X12_copyNow {μ : Mm} {a0 : Nat} {x : Mm} (h : f_X12_copyNow μ a0 = some x) : tg μ a0 = 13 := by
  unfold f_X12_copyNow at h
  exact (gsn h).1
set_option maxHeartbeats 4000000 in
set_option maxRecDepth 100000 in
theorem c_X12_copyNow (l : Launch) (G : CG) (μ : Mm) (a0 : Nat) (x : Mm) (h : f_X12_copyNow μ a0 = some x) : Met l yX12_copyNow (.code yX12_copyNow cX12_copyNow 2 none :: UW) (rmk 1 0 0) (PC G [.ref a0] μ) (QV G x) 0 0 (fA G) := by
  refine Met.ofW (cc := cX12_copyNow) (maxL := 2) (ret := none) (by decide) rfl ?_
  intro p e s m args below meth c s₁ B hml hv
  obtain ⟨X, hH, hr, rfl, hnm⟩ := cx_in B hml hv
  have X : Cx p s m _ meth c cX12_copyNow 2 RX12 G := X
  have hx := X.1
  have hb := X.2.1
  have hown := X.2.2.2.1
  have hts := X.2.2.2.2.1
  have hRL : RmL (rmk 1 0 0) 1 := ⟨Nat.le_refl _, Nat.le_refl _⟩
  have hcs : 0 ≤ (rmk 0 0 0).cells ∧ 0 ≤ (rmk 0 0 0).slots := ⟨Nat.zero_le _, Nat.zero_le _⟩
  refine ls_in (Nat.le_of_ble_eq_true rfl) (fun ls hl => ?_)
  have hl : lv_has ls 2 [(0, .ref a0)] := hl
  unfold f_X12_copyNow at h
  obtain ⟨htg, h⟩ := gsn h
  refine lv_iconst (v := 0) hx hb dX12_copyNow_0 (by decide) ?_
  refine lv_istore_n (lv' := [(1, .int (0 : Int32)), (0, .ref a0)]) hx hb dX12_copyNow_1 rfl hl (by decide) rfl (fun ls hl => ?_)
  obtain ⟨x6, hx6, hhx6⟩ := bnd h
  clear h
  refine w_X12_copyNow_2 l X hRL hcs BIG a0 (0 : Int32) μ x6 hx6 (fun H locs ls hH hl => ?_) _ _ _ hH (lv_sub hl [1, 0] rfl)
  · have h := hhx6
    clear hhx6
    exact eV X hH h hr dX12_copyNow_26 (Nat.le_of_ble_eq_true rfl) (Nat.le_of_ble_eq_true rfl)
set_option maxHeartbeats 1000000 in
theorem iv_X12_218 {p : Program} {e : Env} {R : Room} {s : State} {m : MethodId} {args : Array Value} {below : List Frame} {meth : Method} {c : Code} {H : Heap} {locs : List Loc} {cells slots : Nat} {Q : State → Prop} {cc : ByteArray} {pc : Nat} {ls : Array Slot} {rest : List Value} {nL : Nat} {G : CG} {μ : Mm} {a : Nat}  {x : Mm} {k : Nat} (l : Launch) (X : Cx p s m args meth c cc nL RX12 G) (hH : HS G s μ H locs) (hRL : RmL R k) (hk : 1 + 1 ≤ k) (h : f_X12_copyNow μ a = some x) (hls : ls.size = nL) (hroom : (rest.map fun v => v.category).sum ≤ 8) (hdg : decode cc pc = .ok (.invokevirtual 218, 3)) (hcs : cells + 0 ≤ R.cells ∧ slots + 0 ≤ R.slots) (kk : ∀ (H1 : Heap) (locs1 : List Loc), HS G s x H1 locs1 → W p l e R s m args below meth c H1 locs1 cells slots Q (F0 m (pc + 3) ls rest)) : W p l e R s m args below meth c H locs cells slots Q (F0 m pc ls (.ref a :: rest)) := by
  refine kV0 hH (rV (As := []) (rest := rest) X hH (t_X12_copyNow h) vc_12 (c_X12_copyNow l G μ a x h) (List.forall_mem_cons.mpr ⟨u_1311, (List.forall_mem_cons.mpr ⟨u_1313, (List.forall_mem_cons.mpr ⟨u_44, (List.forall_mem_cons.mpr ⟨u_68, (fun _ h9 => absurd h9 List.not_mem_nil)⟩)⟩)⟩)⟩) u_1314 (rmo hRL (Nat.le_trans (by decide) hk) (by decide)) ddV_X12_copyNow rfl hls rfl hroom hdg hcs) kk
set_option maxHeartbeats 4000000 in
set_option maxRecDepth 100000 in
theorem w_X12_after_38 {p : Program} {e : Env} {R : Room} {s : State} {m : MethodId} {args : Array Value} {below : List Frame} {meth : Method} {c : Code} {cells slots : Nat} {Q : State → Prop} {G : CG} (l : Launch) (X : Cx p s m args meth c cX12_after 4 RX12 G) (hRL : RmL R 4) (hcs : cells ≤ R.cells ∧ slots ≤ R.slots) : ∀ (n : Nat) (v0 : Nat) (v1 : Int32) (v2 : Int32) (v3 : Int32) (μ : Mm) (x : Int32), lp_X12_after_38 n v0 v1 v2 v3 μ = some x → (∀ (H : Heap) (locs : List Loc) (ls : Array Slot), HS G s μ H locs → lv_has ls 4 [(0, .ref v0), (1, .int v1), (2, .int x)] → W p l e R s m args below meth c H locs cells slots Q (F0 m 77 ls [])) → ∀ (H : Heap) (locs : List Loc) (ls : Array Slot), HS G s μ H locs → lv_has ls 4 [(0, .ref v0), (1, .int v1), (2, .int v2), (3, .int v3)] → W p l e R s m args below meth c H locs cells slots Q (F0 m 38 ls []) := by
  have hx := X.1
  have hb := X.2.1
  have hown := X.2.2.2.1
  have hts := X.2.2.2.2.1
  intro n
  induction n with
  | zero =>
    intro v0 v1 v2 v3 μ x h
    rw [lp_X12_after_38] at h
    cases h
  | succ n ih =>
    intro v0 v1 v2 v3 μ x h k0 H locs ls hH hl
    rw [lp_X12_after_38] at h
    refine lv_iload_n hx hb dX12_after_38 rfl (lv_at hl 3 rfl) ?_
    refine lv_aload_n hx hb dX12_after_39 rfl (lv_at hl 0 rfl) ?_
    obtain ⟨x8, hx8, h⟩ := bnd h
    refine gf_X12_17 X hH hx8 dX12_after_40 ?_
    refine lv_iload_n hx hb dX12_after_43 rfl (lv_at hl 1 rfl) ?_
    obtain ⟨x9, hx9, h⟩ := bnd h
    refine w_aI X hH hx9 dX12_after_44 ?_
    refine lv_icmp_ge (tgt := 77) hx hb dX12_after_45 (by decide) (fun hc10 => ?_) (fun hc10 => ?_)
    · replace h := ift h hc10
      cases h
      exact k0 _ _ _ hH (lv_sub hl [0, 1, 2] rfl)
    · replace h := iff' h hc10
      refine lv_iload_n hx hb dX12_after_48 rfl (lv_at hl 2 rfl) ?_
      refine lv_if_eq (tgt := 69) hx hb dX12_after_49 (by decide) (fun hc11 => ?_) (fun hc11 => ?_)
      · replace h := ift h hc11
        refine lv_iconst (v := 0) hx hb dX12_after_69 (by decide) ?_
        refine lv_istore_n (lv' := [(2, .int (0 : Int32)), (0, .ref v0), (1, .int v1), (3, .int v3)]) hx hb dX12_after_70 rfl hl (by decide) rfl (fun ls hl => ?_)
        refine lv_iinc (v := (v3 + 1)) (lv' := [(3, .int (v3 + 1)), (2, .int (0 : Int32)), (0, .ref v0), (1, .int v1)]) hx hb dX12_after_71 hl (k := 3) rfl rfl (by decide) rfl (fun ls hl => ?_)
        refine lv_goto (tgt := 38) hx hb dX12_after_74 (by decide) ?_
        exact ih _ _ _ _ _ _ h k0 _ _ _ hH (lv_sub hl [2, 3, 1, 0] rfl)
      · replace h := iff' h hc11
        refine lv_aload_n hx hb dX12_after_52 rfl (lv_at hl 0 rfl) ?_
        refine lv_aload_n hx hb dX12_after_53 rfl (lv_at hl 0 rfl) ?_
        refine lv_iload_n hx hb dX12_after_54 rfl (lv_at hl 1 rfl) ?_
        refine lv_iload_n hx hb dX12_after_55 rfl (lv_at hl 3 rfl) ?_
        obtain ⟨x12, hx12, h⟩ := bnd h
        refine iv_X12_114 l X hH hRL (by decide) hx12 hl.1 (Nat.le_of_ble_eq_true rfl) dX12_after_56 hcs (fun H locs hH => ?_)
        obtain ⟨x13, hx13, h⟩ := bnd h
        refine iv_X12_189 l X hH hRL (by decide) hx13 hl.1 (Nat.le_of_ble_eq_true rfl) dX12_after_59 hcs (fun H locs hH => ?_)
        refine lv_if_eq (tgt := 69) hx hb dX12_after_62 (by decide) (fun hc14 => ?_) (fun hc14 => ?_)
        · replace h := ift h hc14
          refine lv_iconst (v := 0) hx hb dX12_after_69 (by decide) ?_
          refine lv_istore_n (lv' := [(2, .int (0 : Int32)), (0, .ref v0), (1, .int v1), (3, .int v3)]) hx hb dX12_after_70 rfl hl (by decide) rfl (fun ls hl => ?_)
          refine lv_iinc (v := (v3 + 1)) (lv' := [(3, .int (v3 + 1)), (2, .int (0 : Int32)), (0, .ref v0), (1, .int v1)]) hx hb dX12_after_71 hl (k := 3) rfl rfl (by decide) rfl (fun ls hl => ?_)
          refine lv_goto (tgt := 38) hx hb dX12_after_74 (by decide) ?_
          exact ih _ _ _ _ _ _ h k0 _ _ _ hH (lv_sub hl [2, 3, 1, 0] rfl)
        · replace h := iff' h hc14
          refine lv_iconst (v := 1) hx hb dX12_after_65 (by decide) ?_
          refine lv_goto (tgt := 70) hx hb dX12_after_66 (by decide) ?_
          refine lv_istore_n (lv' := [(2, .int (1 : Int32)), (0, .ref v0), (1, .int v1), (3, .int v3)]) hx hb dX12_after_70 rfl hl (by decide) rfl (fun ls hl => ?_)
          refine lv_iinc (v := (v3 + 1)) (lv' := [(3, .int (v3 + 1)), (2, .int (1 : Int32)), (0, .ref v0), (1, .int v1)]) hx hb dX12_after_71 hl (k := 3) rfl rfl (by decide) rfl (fun ls hl => ?_)
          refine lv_goto (tgt := 38) hx hb dX12_after_74 (by decide) ?_
          exact ih _ _ _ _ _ _ h k0 _ _ _ hH (lv_sub hl [2, 3, 1, 0] rfl)
set_option maxHeartbeats 4000000 in
set_option maxRecDepth 100000 in
theorem w_X12_after_93 {p : Program} {e : Env} {R : Room} {s : State} {m : MethodId} {args : Array Value} {below : List Frame} {meth : Method} {c : Code} {cells slots : Nat} {Q : State → Prop} {G : CG} (l : Launch) (X : Cx p s m args meth c cX12_after 4 RX12 G) (hRL : RmL R 4) (hcs : cells ≤ R.cells ∧ slots ≤ R.slots) : ∀ (n : Nat) (v0 : Nat) (v1 : Int32) (v3 : Int32) (μ : Mm) (x : Mm), lp_X12_after_93 n v0 v1 v3 μ = some x → (∀ (H : Heap) (locs : List Loc) (ls : Array Slot), HS G s x H locs → lv_has ls 4 [(0, .ref v0)] → W p l e R s m args below meth c H locs cells slots Q (F0 m 123 ls [])) → ∀ (H : Heap) (locs : List Loc) (ls : Array Slot), HS G s μ H locs → lv_has ls 4 [(0, .ref v0), (1, .int v1), (3, .int v3)] → W p l e R s m args below meth c H locs cells slots Q (F0 m 93 ls []) := by
  have hx := X.1
  have hb := X.2.1
  have hown := X.2.2.2.1
  have hts := X.2.2.2.2.1
  intro n
  induction n with
  | zero =>
    intro v0 v1 v3 μ x h
    rw [lp_X12_after_93] at h
    cases h
  | succ n ih =>
    intro v0 v1 v3 μ x h k0 H locs ls hH hl
    rw [lp_X12_after_93] at h
    refine lv_iload_n hx hb dX12_after_93 rfl (lv_at hl 2 rfl) ?_
    refine lv_aload_n hx hb dX12_after_94 rfl (lv_at hl 0 rfl) ?_
    obtain ⟨x18, hx18, h⟩ := bnd h
    refine gf_X12_17 X hH hx18 dX12_after_95 ?_
    refine lv_iload_n hx hb dX12_after_98 rfl (lv_at hl 1 rfl) ?_
    obtain ⟨x19, hx19, h⟩ := bnd h
    refine w_aI X hH hx19 dX12_after_99 ?_
    refine lv_icmp_ge (tgt := 123) hx hb dX12_after_100 (by decide) (fun hc20 => ?_) (fun hc20 => ?_)
    · replace h := ift h hc20
      cases h
      exact k0 _ _ _ hH (lv_sub hl [0] rfl)
    · replace h := iff' h hc20
      refine lv_aload_n hx hb dX12_after_103 rfl (lv_at hl 0 rfl) ?_
      refine lv_aload_n hx hb dX12_after_104 rfl (lv_at hl 0 rfl) ?_
      obtain ⟨x21, hx21, h⟩ := bnd h
      refine gf_X12_48 X hH hx21 dX12_after_105 ?_
      refine lv_aload_n hx hb dX12_after_108 rfl (lv_at hl 0 rfl) ?_
      refine lv_iload_n hx hb dX12_after_109 rfl (lv_at hl 1 rfl) ?_
      refine lv_iload_n hx hb dX12_after_110 rfl (lv_at hl 2 rfl) ?_
      obtain ⟨x22, hx22, h⟩ := bnd h
      refine iv_X12_114 l X hH hRL (by decide) hx22 hl.1 (Nat.le_of_ble_eq_true rfl) dX12_after_111 hcs (fun H locs hH => ?_)
      obtain ⟨x23, hx23, h⟩ := bnd h
      refine iv_X12_214 l X hH hRL (by decide) hx23 hl.1 (Nat.le_of_ble_eq_true rfl) dX12_after_114 hcs (fun H locs hH => ?_)
      refine lv_iinc (v := (v3 + 1)) (lv' := [(3, .int (v3 + 1)), (0, .ref v0), (1, .int v1)]) hx hb dX12_after_117 hl (k := 2) rfl rfl (by decide) rfl (fun ls hl => ?_)
      refine lv_goto (tgt := 93) hx hb dX12_after_120 (by decide) ?_
      exact ih _ _ _ _ _ h k0 _ _ _ hH (lv_sub hl [1, 2, 0] rfl)
theorem t_X12_after {μ : Mm} {a0 : Nat} {p1 : Int32} {x : Int32 × Mm} (h : f_X12_after μ a0 p1 = some x) : tg μ a0 = 13 := by
  unfold f_X12_after at h
  exact (gsn h).1
set_option maxHeartbeats 4000000 in
set_option maxRecDepth 100000 in
theorem c_X12_after (l : Launch) (G : CG) (μ : Mm) (a0 : Nat) (p1 : Int32) (x : Int32 × Mm) (h : f_X12_after μ a0 p1 = some x) : Met l yX12_after (.code yX12_after cX12_after 4 (some .int) :: UW) (rmk 4 0 0) (PC G [.ref a0, .int p1] μ) (QI G x.1 x.2) 0 0 (fA G) := by
  refine Met.ofW (cc := cX12_after) (maxL := 4) (ret := (some .int)) (by decide) rfl ?_
  intro p e s m args below meth c s₁ B hml hv
  obtain ⟨X, hH, hr, rfl, hnm⟩ := cx_in B hml hv
  have X : Cx p s m _ meth c cX12_after 4 RX12 G := X
  have hx := X.1
  have hb := X.2.1
  have hown := X.2.2.2.1
  have hts := X.2.2.2.2.1
  have hRL : RmL (rmk 4 0 0) 4 := ⟨Nat.le_refl _, Nat.le_refl _⟩
  have hcs : 0 ≤ (rmk 0 0 0).cells ∧ 0 ≤ (rmk 0 0 0).slots := ⟨Nat.zero_le _, Nat.zero_le _⟩
  refine ls_in (Nat.le_of_ble_eq_true rfl) (fun ls hl => ?_)
  have hl : lv_has ls 4 [(0, .ref a0), (1, .int p1)] := hl
  unfold f_X12_after at h
  obtain ⟨htg, h⟩ := gsn h
  refine lv_iload_n hx hb dX12_after_0 rfl (lv_at hl 1 rfl) ?_
  obtain ⟨x1, hx1, h⟩ := bnd h
  refine iv_X12_106 l X hH hRL (by decide) hx1 hl.1 (Nat.le_of_ble_eq_true rfl) dX12_after_1 hcs (fun H locs hH => ?_)
  refine lv_if_ne (tgt := 9) hx hb dX12_after_4 (by decide) (fun hc2 => ?_) (fun hc2 => ?_)
  · replace h := iff' h hc2
    refine lv_aload_n hx hb dX12_after_9 rfl (lv_at hl 0 rfl) ?_
    obtain ⟨x3, hx3, h⟩ := bnd h
    refine gf_X12_168 X hH hx3 dX12_after_10 ?_
    refine lv_if_ne (tgt := 19) hx hb dX12_after_13 (by decide) (fun hc4 => ?_) (fun hc4 => ?_)
    · replace h := iff' h hc4
      refine lv_aload_n hx hb dX12_after_19 rfl (lv_at hl 0 rfl) ?_
      obtain ⟨x5, hx5, h⟩ := bnd h
      refine gf_X12_17 X hH hx5 dX12_after_20 ?_
      refine lv_iload_n hx hb dX12_after_23 rfl (lv_at hl 1 rfl) ?_
      obtain ⟨x6, hx6, h⟩ := bnd h
      refine w_aI X hH hx6 dX12_after_24 ?_
      refine lv_if_ge (tgt := 34) hx hb dX12_after_25 (by decide) (fun hc7 => ?_) (fun hc7 => ?_)
      · replace h := ift h hc7
        refine lv_iconst (v := 1) hx hb dX12_after_34 (by decide) ?_
        refine lv_istore_n (lv' := [(2, .int (1 : Int32)), (0, .ref a0), (1, .int p1)]) hx hb dX12_after_35 rfl hl (by decide) rfl (fun ls hl => ?_)
        refine lv_iconst (v := 0) hx hb dX12_after_36 (by decide) ?_
        refine lv_istore_n (lv' := [(3, .int (0 : Int32)), (2, .int (1 : Int32)), (0, .ref a0), (1, .int p1)]) hx hb dX12_after_37 rfl hl (by decide) rfl (fun ls hl => ?_)
        obtain ⟨x15, hx15, hhx15⟩ := bnd h
        clear h
        refine w_X12_after_38 l X hRL hcs BIG a0 p1 (1 : Int32) (0 : Int32) μ x15 hx15 (fun H locs ls hH hl => ?_) _ _ _ hH (lv_sub hl [2, 3, 1, 0] rfl)
        · have h := hhx15
          clear hhx15
          refine lv_iload_n hx hb dX12_after_77 rfl (lv_at hl 2 rfl) ?_
          refine lv_if_ne (tgt := 87) hx hb dX12_after_78 (by decide) (fun hc16 => ?_) (fun hc16 => ?_)
          · replace h := iff' h hc16
            refine lv_aload_n hx hb dX12_after_87 rfl (lv_at hl 0 rfl) ?_
            obtain ⟨x17, hx17, h⟩ := bnd h
            refine iv_X12_218 l X hH hRL (by decide) hx17 hl.1 (Nat.le_of_ble_eq_true rfl) dX12_after_88 hcs (fun H locs hH => ?_)
            refine lv_iconst (v := 0) hx hb dX12_after_91 (by decide) ?_
            refine lv_istore_n (lv' := [(3, .int (0 : Int32)), (0, .ref a0), (1, .int p1), (2, .int x15)]) hx hb dX12_after_92 rfl hl (by decide) rfl (fun ls hl => ?_)
            obtain ⟨x24, hx24, hhx24⟩ := bnd h
            clear h
            refine w_X12_after_93 l X hRL hcs BIG a0 p1 (0 : Int32) x17 x24 hx24 (fun H locs ls hH hl => ?_) _ _ _ hH (lv_sub hl [1, 2, 0] rfl)
            · have h := hhx24
              clear hhx24
              refine lv_aload_n hx hb dX12_after_123 rfl (lv_at hl 0 rfl) ?_
              refine lv_aload_n hx hb dX12_after_124 rfl (lv_at hl 0 rfl) ?_
              obtain ⟨x25, hx25, h⟩ := bnd h
              refine gf_X12_48 X hH hx25 dX12_after_125 ?_
              refine lv_iconst (v := 3) hx hb dX12_after_128 (by decide) ?_
              obtain ⟨x26, hx26, h⟩ := bnd h
              refine w_aI X hH hx26 dX12_after_129 ?_
              refine lv_aload_n hx hb dX12_after_130 rfl (lv_at hl 0 rfl) ?_
              obtain ⟨x27, hx27, h⟩ := bnd h
              refine gf_X12_45 X hH hx27 dX12_after_131 ?_
              refine lv_iconst (v := 3) hx hb dX12_after_134 (by decide) ?_
              obtain ⟨x28, hx28, h⟩ := bnd h
              refine w_aI X hH hx28 dX12_after_135 ?_
              refine lv_isub hx hb dX12_after_136 ?_
              refine lv_aload_n hx hb dX12_after_137 rfl (lv_at hl 0 rfl) ?_
              obtain ⟨x29, hx29, h⟩ := bnd h
              refine gf_X12_48 X hH hx29 dX12_after_138 ?_
              refine lv_iconst (v := 0) hx hb dX12_after_141 (by decide) ?_
              obtain ⟨x30, hx30, h⟩ := bnd h
              refine w_aI X hH hx30 dX12_after_142 ?_
              obtain ⟨x31, hx31, h⟩ := bnd h
              refine iv_X12_118 l X hH hRL (by decide) hx31 hl.1 (Nat.le_of_ble_eq_true rfl) dX12_after_143 hcs (fun H locs hH => ?_)
              exact eI X hH h hr dX12_after_146 (Nat.le_of_ble_eq_true rfl) (Nat.le_of_ble_eq_true rfl)
          · replace h := ift h hc16
            refine lv_aload_n hx hb dX12_after_81 rfl (lv_at hl 0 rfl) ?_
            refine lv_iconst (v := 3) hx hb dX12_after_82 (by decide) ?_
            obtain ⟨x32, hx32, h⟩ := bnd h
            refine iv_X12_110 l X hH hRL (by decide) hx32 hl.1 (Nat.le_of_ble_eq_true rfl) dX12_after_83 hcs (fun H locs hH => ?_)
            exact eI X hH h hr dX12_after_86 (Nat.le_of_ble_eq_true rfl) (Nat.le_of_ble_eq_true rfl)
      · replace h := iff' h hc7
        refine lv_aload_n hx hb dX12_after_28 rfl (lv_at hl 0 rfl) ?_
        refine lv_iconst (v := 1) hx hb dX12_after_29 (by decide) ?_
        obtain ⟨x33, hx33, h⟩ := bnd h
        refine iv_X12_110 l X hH hRL (by decide) hx33 hl.1 (Nat.le_of_ble_eq_true rfl) dX12_after_30 hcs (fun H locs hH => ?_)
        exact eI X hH h hr dX12_after_33 (Nat.le_of_ble_eq_true rfl) (Nat.le_of_ble_eq_true rfl)
    · replace h := ift h hc4
      refine lv_bipush (v := -4) hx hb dX12_after_16 (by decide) ?_
      exact eI X hH h hr dX12_after_18 (Nat.le_of_ble_eq_true rfl) (Nat.le_of_ble_eq_true rfl)
  · replace h := ift h hc2
    refine lv_iconst (v := -1) hx hb dX12_after_7 (by decide) ?_
    exact eI X hH h hr dX12_after_8 (Nat.le_of_ble_eq_true rfl) (Nat.le_of_ble_eq_true rfl)
set_option maxHeartbeats 1000000 in
theorem iv_X12_221 {p : Program} {e : Env} {R : Room} {s : State} {m : MethodId} {args : Array Value} {below : List Frame} {meth : Method} {c : Code} {H : Heap} {locs : List Loc} {cells slots : Nat} {Q : State → Prop} {cc : ByteArray} {pc : Nat} {ls : Array Slot} {rest : List Value} {nL : Nat} {G : CG} {μ : Mm} {a : Nat} {q0 : Int64} {q1 : Int64} {x : Int32 × Mm} {k : Nat} (l : Launch) (X : Cx p s m args meth c cc nL RX12 G) (hH : HS G s μ H locs) (hRL : RmL R k) (hk : 1 + 1 ≤ k) (h : f_X12_fraction μ a q0 q1 = some x) (hls : ls.size = nL) (hroom : (rest.map fun v => v.category).sum ≤ 8) (hdg : decode cc pc = .ok (.invokevirtual 221, 3)) (hcs : cells + 0 ≤ R.cells ∧ slots + 0 ≤ R.slots) (kk : ∀ (H1 : Heap) (locs1 : List Loc), HS G s x.2 H1 locs1 → W p l e R s m args below meth c H1 locs1 cells slots Q (F0 m (pc + 3) ls (.int x.1 :: rest))) : W p l e R s m args below meth c H locs cells slots Q (F0 m pc ls (.long q1 :: .long q0 :: .ref a :: rest)) := by
  refine kI hH (rV (As := [.long q0, .long q1]) (rest := rest) X hH (t_X12_fraction h) vc_12 (c_X12_fraction l G μ a q0 q1 x h) (List.forall_mem_cons.mpr ⟨u_1319, (List.forall_mem_cons.mpr ⟨u_1321, (List.forall_mem_cons.mpr ⟨u_45, (List.forall_mem_cons.mpr ⟨u_68, (fun _ h9 => absurd h9 List.not_mem_nil)⟩)⟩)⟩)⟩) u_1322 (rmo hRL (Nat.le_trans (by decide) hk) (by decide)) ddV_X12_fraction rfl hls rfl hroom hdg hcs) kk
set_option maxHeartbeats 4000000 in
set_option maxRecDepth 100000 in
theorem w_X12_pace_4 {p : Program} {e : Env} {R : Room} {s : State} {m : MethodId} {args : Array Value} {below : List Frame} {meth : Method} {c : Code} {cells slots : Nat} {Q : State → Prop} {G : CG} (l : Launch) (X : Cx p s m args meth c cX12_pace 3 RX12 G) (hRL : RmL R 2) (hcs : cells ≤ R.cells ∧ slots ≤ R.slots) : ∀ (n : Nat) (v0 : Nat) (v1 : Int32) (v2 : Int32) (μ : Mm) (x : Int32), lp_X12_pace_4 n v0 v1 v2 μ = some x → (∀ (H : Heap) (locs : List Loc) (ls : Array Slot), HS G s μ H locs → lv_has ls 3 [(0, .ref v0), (1, .int x)] → W p l e R s m args below meth c H locs cells slots Q (F0 m 29 ls [])) → ∀ (H : Heap) (locs : List Loc) (ls : Array Slot), HS G s μ H locs → lv_has ls 3 [(0, .ref v0), (1, .int v1), (2, .int v2)] → W p l e R s m args below meth c H locs cells slots Q (F0 m 4 ls []) := by
  have hx := X.1
  have hb := X.2.1
  have hown := X.2.2.2.1
  have hts := X.2.2.2.2.1
  intro n
  induction n with
  | zero =>
    intro v0 v1 v2 μ x h
    rw [lp_X12_pace_4] at h
    cases h
  | succ n ih =>
    intro v0 v1 v2 μ x h k0 H locs ls hH hl
    rw [lp_X12_pace_4] at h
    refine lv_iload_n hx hb dX12_pace_4 rfl (lv_at hl 2 rfl) ?_
    refine lv_aload_n hx hb dX12_pace_5 rfl (lv_at hl 0 rfl) ?_
    obtain ⟨x1, hx1, h⟩ := bnd h
    refine gf_X12_168 X hH hx1 dX12_pace_6 ?_
    refine lv_icmp_ge (tgt := 29) hx hb dX12_pace_9 (by decide) (fun hc2 => ?_) (fun hc2 => ?_)
    · replace h := ift h hc2
      cases h
      exact k0 _ _ _ hH (lv_sub hl [0, 1] rfl)
    · replace h := iff' h hc2
      refine lv_iload_n hx hb dX12_pace_12 rfl (lv_at hl 1 rfl) ?_
      refine lv_aload_n hx hb dX12_pace_13 rfl (lv_at hl 0 rfl) ?_
      obtain ⟨x3, hx3, h⟩ := bnd h
      refine gf_X12_45 X hH hx3 dX12_pace_14 ?_
      refine lv_iconst (v := 5) hx hb dX12_pace_17 (by decide) ?_
      refine lv_iload_n hx hb dX12_pace_18 rfl (lv_at hl 2 rfl) ?_
      refine lv_iadd hx hb dX12_pace_19 ?_
      obtain ⟨x4, hx4, h⟩ := bnd h
      refine w_aI X hH hx4 dX12_pace_20 ?_
      refine lv_iadd hx hb dX12_pace_21 ?_
      refine lv_istore_n (lv' := [(1, .int (v1 + x4)), (0, .ref v0), (2, .int v2)]) hx hb dX12_pace_22 rfl hl (by decide) rfl (fun ls hl => ?_)
      refine lv_iinc (v := (v2 + 1)) (lv' := [(2, .int (v2 + 1)), (1, .int (v1 + x4)), (0, .ref v0)]) hx hb dX12_pace_23 hl (k := 2) rfl rfl (by decide) rfl (fun ls hl => ?_)
      refine lv_goto (tgt := 4) hx hb dX12_pace_26 (by decide) ?_
      exact ih _ _ _ _ _ h k0 _ _ _ hH (lv_sub hl [2, 1, 0] rfl)
theorem t_X12_pace {μ : Mm} {a0 : Nat} {x : Int32 × Mm} (h : f_X12_pace μ a0 = some x) : tg μ a0 = 13 := by
  unfold f_X12_pace at h
  exact (gsn h).1
set_option maxHeartbeats 4000000 in
set_option maxRecDepth 100000 in
theorem c_X12_pace (l : Launch) (G : CG) (μ : Mm) (a0 : Nat) (x : Int32 × Mm) (h : f_X12_pace μ a0 = some x) : Met l yX12_pace (.code yX12_pace cX12_pace 3 (some .int) :: UW) (rmk 2 0 0) (PC G [.ref a0] μ) (QI G x.1 x.2) 0 0 (fA G) := by
  refine Met.ofW (cc := cX12_pace) (maxL := 3) (ret := (some .int)) (by decide) rfl ?_
  intro p e s m args below meth c s₁ B hml hv
  obtain ⟨X, hH, hr, rfl, hnm⟩ := cx_in B hml hv
  have X : Cx p s m _ meth c cX12_pace 3 RX12 G := X
  have hx := X.1
  have hb := X.2.1
  have hown := X.2.2.2.1
  have hts := X.2.2.2.2.1
  have hRL : RmL (rmk 2 0 0) 2 := ⟨Nat.le_refl _, Nat.le_refl _⟩
  have hcs : 0 ≤ (rmk 0 0 0).cells ∧ 0 ≤ (rmk 0 0 0).slots := ⟨Nat.zero_le _, Nat.zero_le _⟩
  refine ls_in (Nat.le_of_ble_eq_true rfl) (fun ls hl => ?_)
  have hl : lv_has ls 3 [(0, .ref a0)] := hl
  unfold f_X12_pace at h
  obtain ⟨htg, h⟩ := gsn h
  refine lv_iconst (v := 0) hx hb dX12_pace_0 (by decide) ?_
  refine lv_istore_n (lv' := [(1, .int (0 : Int32)), (0, .ref a0)]) hx hb dX12_pace_1 rfl hl (by decide) rfl (fun ls hl => ?_)
  refine lv_iconst (v := 0) hx hb dX12_pace_2 (by decide) ?_
  refine lv_istore_n (lv' := [(2, .int (0 : Int32)), (1, .int (0 : Int32)), (0, .ref a0)]) hx hb dX12_pace_3 rfl hl (by decide) rfl (fun ls hl => ?_)
  obtain ⟨x5, hx5, hhx5⟩ := bnd h
  clear h
  refine w_X12_pace_4 l X hRL hcs BIG a0 (0 : Int32) (0 : Int32) μ x5 hx5 (fun H locs ls hH hl => ?_) _ _ _ hH (lv_sub hl [2, 1, 0] rfl)
  · have h := hhx5
    clear hhx5
    refine lv_iload_n hx hb dX12_pace_29 rfl (lv_at hl 1 rfl) ?_
    refine lv_if_ne (tgt := 41) hx hb dX12_pace_30 (by decide) (fun hc6 => ?_) (fun hc6 => ?_)
    · replace h := iff' h hc6
      refine lv_aload_n hx hb dX12_pace_41 rfl (lv_at hl 0 rfl) ?_
      refine lv_aload_n hx hb dX12_pace_42 rfl (lv_at hl 0 rfl) ?_
      obtain ⟨x7, hx7, h⟩ := bnd h
      refine gf_X12_45 X hH hx7 dX12_pace_43 ?_
      refine lv_iconst (v := 4) hx hb dX12_pace_46 (by decide) ?_
      obtain ⟨x8, hx8, h⟩ := bnd h
      refine w_aI X hH hx8 dX12_pace_47 ?_
      refine lv_i2l hx hb dX12_pace_48 rfl ?_
      refine lv_iload_n hx hb dX12_pace_49 rfl (lv_at hl 1 rfl) ?_
      refine lv_i2l hx hb dX12_pace_50 rfl ?_
      obtain ⟨x9, hx9, h⟩ := bnd h
      refine iv_X12_221 l X hH hRL (by decide) hx9 hl.1 (Nat.le_of_ble_eq_true rfl) dX12_pace_51 hcs (fun H locs hH => ?_)
      exact eI X hH h hr dX12_pace_54 (Nat.le_of_ble_eq_true rfl) (Nat.le_of_ble_eq_true rfl)
    · replace h := ift h hc6
      refine lv_aload_n hx hb dX12_pace_33 rfl (lv_at hl 0 rfl) ?_
      refine lv_iconst (v := 4) hx hb dX12_pace_34 (by decide) ?_
      obtain ⟨x10, hx10, h⟩ := bnd h
      refine iv_X12_110 l X hH hRL (by decide) hx10 hl.1 (Nat.le_of_ble_eq_true rfl) dX12_pace_35 hcs (fun H locs hH => ?_)
      refine lv_goto (tgt := 54) hx hb dX12_pace_38 (by decide) ?_
      exact eI X hH h hr dX12_pace_54 (Nat.le_of_ble_eq_true rfl) (Nat.le_of_ble_eq_true rfl)
set_option maxHeartbeats 4000000 in
set_option maxRecDepth 100000 in
theorem w_X12_ends_114 {p : Program} {e : Env} {R : Room} {s : State} {m : MethodId} {args : Array Value} {below : List Frame} {meth : Method} {c : Code} {cells slots : Nat} {Q : State → Prop} {G : CG} (l : Launch) (X : Cx p s m args meth c cX12_ends 5 RX12 G) (hRL : RmL R 1) (hcs : cells ≤ R.cells ∧ slots ≤ R.slots) : ∀ (n : Nat) (v0 : Nat) (v4 : Int32) (μ : Mm) (x : Mm), lp_X12_ends_114 n v0 v4 μ = some x → (∀ (H : Heap) (locs : List Loc) (ls : Array Slot), HS G s x H locs → lv_has ls 5 [] → W p l e R s m args below meth c H locs cells slots Q (F0 m 143 ls [])) → ∀ (H : Heap) (locs : List Loc) (ls : Array Slot), HS G s μ H locs → lv_has ls 5 [(0, .ref v0), (4, .int v4)] → W p l e R s m args below meth c H locs cells slots Q (F0 m 114 ls []) := by
  have hx := X.1
  have hb := X.2.1
  have hown := X.2.2.2.1
  have hts := X.2.2.2.2.1
  intro n
  induction n with
  | zero =>
    intro v0 v4 μ x h
    rw [lp_X12_ends_114] at h
    cases h
  | succ n ih =>
    intro v0 v4 μ x h k0 H locs ls hH hl
    rw [lp_X12_ends_114] at h
    refine lv_iload hx hb dX12_ends_114 (lv_at hl 1 rfl) ?_
    refine lv_aload_n hx hb dX12_ends_116 rfl (lv_at hl 0 rfl) ?_
    obtain ⟨x26, hx26, h⟩ := bnd h
    refine gf_X12_168 X hH hx26 dX12_ends_117 ?_
    refine lv_icmp_ge (tgt := 143) hx hb dX12_ends_120 (by decide) (fun hc27 => ?_) (fun hc27 => ?_)
    · replace h := ift h hc27
      cases h
      exact k0 _ _ _ hH (lv_sub hl [] rfl)
    · replace h := iff' h hc27
      refine lv_aload_n hx hb dX12_ends_123 rfl (lv_at hl 0 rfl) ?_
      obtain ⟨x28, hx28, h⟩ := bnd h
      refine gf_X12_73 X hH hx28 dX12_ends_124 ?_
      refine lv_iload hx hb dX12_ends_127 (lv_at hl 1 rfl) ?_
      refine lv_aload_n hx hb dX12_ends_129 rfl (lv_at hl 0 rfl) ?_
      obtain ⟨x29, hx29, h⟩ := bnd h
      refine gf_X12_70 X hH hx29 dX12_ends_130 ?_
      refine lv_iload hx hb dX12_ends_133 (lv_at hl 1 rfl) ?_
      obtain ⟨x30, hx30, h⟩ := bnd h
      refine w_aI X hH hx30 dX12_ends_135 ?_
      obtain ⟨x31, hx31, h⟩ := bnd h
      refine w_qI X hH hx31 dX12_ends_136 (fun H locs hH => ?_)
      refine lv_iinc (v := (v4 + 1)) (lv' := [(4, .int (v4 + 1)), (0, .ref v0)]) hx hb dX12_ends_137 hl (k := 1) rfl rfl (by decide) rfl (fun ls hl => ?_)
      refine lv_goto (tgt := 114) hx hb dX12_ends_140 (by decide) ?_
      exact ih _ _ _ _ h k0 _ _ _ hH (lv_sub hl [1, 0] rfl)
theorem t_X12_ends {μ : Mm} {a0 : Nat} {p1 : Int32} {p2 : Int32} {x : Mm} (h : f_X12_ends μ a0 p1 p2 = some x) : tg μ a0 = 13 := by
  unfold f_X12_ends at h
  exact (gsn h).1
set_option maxHeartbeats 4000000 in
set_option maxRecDepth 100000 in
theorem c_X12_ends (l : Launch) (G : CG) (μ : Mm) (a0 : Nat) (p1 : Int32) (p2 : Int32) (x : Mm) (h : f_X12_ends μ a0 p1 p2 = some x) : Met l yX12_ends (.code yX12_ends cX12_ends 5 none :: UW) (rmk 1 0 0) (PC G [.ref a0, .int p1, .int p2] μ) (QV G x) 0 0 (fA G) := by
  refine Met.ofW (cc := cX12_ends) (maxL := 5) (ret := none) (by decide) rfl ?_
  intro p e s m args below meth c s₁ B hml hv
  obtain ⟨X, hH, hr, rfl, hnm⟩ := cx_in B hml hv
  have X : Cx p s m _ meth c cX12_ends 5 RX12 G := X
  have hx := X.1
  have hb := X.2.1
  have hown := X.2.2.2.1
  have hts := X.2.2.2.2.1
  have hRL : RmL (rmk 1 0 0) 1 := ⟨Nat.le_refl _, Nat.le_refl _⟩
  have hcs : 0 ≤ (rmk 0 0 0).cells ∧ 0 ≤ (rmk 0 0 0).slots := ⟨Nat.zero_le _, Nat.zero_le _⟩
  refine ls_in (Nat.le_of_ble_eq_true rfl) (fun ls hl => ?_)
  have hl : lv_has ls 5 [(0, .ref a0), (1, .int p1), (2, .int p2)] := hl
  unfold f_X12_ends at h
  obtain ⟨htg, h⟩ := gsn h
  refine lv_iload_n hx hb dX12_ends_0 rfl (lv_at hl 1 rfl) ?_
  obtain ⟨x1, hbx1, hx1⟩ := bnd h
  clear h
  refine jn_lem (G := G) (x := x1) (M := 36) (nL := 5) (fun x1 => x1) (fun x1 => [(0, .ref a0), (1, .int p1), (2, .int p2)]) (fun x1 => []) (fun H locs ls hH hl => ?_) (fun jnx1 => ?_)
  · have h := hx1
    clear hx1 hbx1
    refine lv_aload_n hx hb dX12_ends_36 rfl (lv_at hl 0 rfl) ?_
    obtain ⟨x10, hx10, h⟩ := bnd h
    refine gf_X12_231 X hH hx10 dX12_ends_37 ?_
    refine lv_bipush (v := -9) hx hb dX12_ends_40 (by decide) ?_
    obtain ⟨x11, hbx11, hx11⟩ := bnd h
    clear h
    refine jn_lem (G := G) (x := x11) (M := 81) (nL := 5) (fun x11 => x1) (fun x11 => [(0, .ref a0), (1, .int p1)]) (fun x11 => [.int x11]) (fun H locs ls hH hl => ?_) (fun jnx11 => ?_)
    · have h := hx11
      clear hx11 hbx11
      refine lv_istore_n (lv' := [(3, .int x11), (0, .ref a0), (1, .int p1)]) hx hb dX12_ends_81 rfl hl (by decide) rfl (fun ls hl => ?_)
      refine lv_aload_n hx hb dX12_ends_82 rfl (lv_at hl 1 rfl) ?_
      refine lv_iload_n hx hb dX12_ends_83 rfl (lv_at hl 2 rfl) ?_
      refine lv_aload_n hx hb dX12_ends_84 rfl (lv_at hl 1 rfl) ?_
      obtain ⟨x19, hx19, h⟩ := bnd h
      refine gf_X12_234 X hH hx19 dX12_ends_85 ?_
      obtain ⟨x20, hbx20, hx20⟩ := bnd h
      clear h
      refine jn_lem (G := G) (x := x20) (M := 99) (nL := 5) (fun x20 => x1) (fun x20 => [(0, .ref a0), (3, .int x11)]) (fun x20 => [.int x20, .ref a0]) (fun H locs ls hH hl => ?_) (fun jnx20 => ?_)
      · have h := hx20
        clear hx20 hbx20
        obtain ⟨x23, hx23, h⟩ := bnd h
        refine pf_X12_234 X hH hx23 dX12_ends_99 (fun H locs hH => ?_)
        refine lv_iload_n hx hb dX12_ends_102 rfl (lv_at hl 1 rfl) ?_
        refine lv_if_eq (tgt := 143) hx hb dX12_ends_103 (by decide) (fun hc24 => ?_) (fun hc24 => ?_)
        · replace h := ift h hc24
          exact eV X hH h hr dX12_ends_143 (Nat.le_of_ble_eq_true rfl) (Nat.le_of_ble_eq_true rfl)
        · replace h := iff' h hc24
          refine lv_aload_n hx hb dX12_ends_106 rfl (lv_at hl 0 rfl) ?_
          refine lv_iconst (v := 1) hx hb dX12_ends_107 (by decide) ?_
          obtain ⟨x25, hx25, h⟩ := bnd h
          refine pf_X12_237 X hH hx25 dX12_ends_108 (fun H locs hH => ?_)
          refine lv_iconst (v := 0) hx hb dX12_ends_111 (by decide) ?_
          refine lv_istore (lv' := [(4, .int (0 : Int32)), (0, .ref a0), (3, .int x11)]) hx hb dX12_ends_112 hl (by decide) rfl (fun ls hl => ?_)
          obtain ⟨x32, hx32, hhx32⟩ := bnd h
          clear h
          refine w_X12_ends_114 l X hRL hcs BIG a0 (0 : Int32) x25 x32 hx32 (fun H locs ls hH hl => ?_) _ _ _ hH (lv_sub hl [1, 0] rfl)
          · have h := hhx32
            clear hhx32
            exact eV X hH h hr dX12_ends_143 (Nat.le_of_ble_eq_true rfl) (Nat.le_of_ble_eq_true rfl)
      · have h := hbx20
        clear hx20 hbx20
        refine lv_icmp_ge (tgt := 95) hx hb dX12_ends_88 (by decide) (fun hc21 => ?_) (fun hc21 => ?_)
        · replace h := ift h hc21
          refine lv_aload_n hx hb dX12_ends_95 rfl (lv_at hl 1 rfl) ?_
          obtain ⟨x22, hx22, h⟩ := bnd h
          refine gf_X12_234 X hH hx22 dX12_ends_96 ?_
          cases h
          exact jnx20 _ _ _ hH (lv_sub hl [1, 0] rfl)
        · replace h := iff' h hc21
          refine lv_iload_n hx hb dX12_ends_91 rfl (lv_at hl 2 rfl) ?_
          refine lv_goto (tgt := 99) hx hb dX12_ends_92 (by decide) ?_
          cases h
          exact jnx20 _ _ _ hH (lv_sub hl [1, 0] rfl)
    · have h := hbx11
      clear hx11 hbx11
      refine lv_icmp_ne (tgt := 61) hx hb dX12_ends_42 (by decide) (fun hc12 => ?_) (fun hc12 => ?_)
      · replace h := iff' h hc12
        refine lv_aload_n hx hb dX12_ends_61 rfl (lv_at hl 0 rfl) ?_
        obtain ⟨x13, hx13, h⟩ := bnd h
        refine gf_X12_237 X hH hx13 dX12_ends_62 ?_
        refine lv_if_ne (tgt := 80) hx hb dX12_ends_65 (by decide) (fun hc14 => ?_) (fun hc14 => ?_)
        · replace h := iff' h hc14
          refine lv_iconst (v := 0) hx hb dX12_ends_80 (by decide) ?_
          cases h
          exact jnx11 _ _ _ hH (lv_sub hl [0, 1] rfl)
        · replace h := ift h hc14
          refine lv_iload_n hx hb dX12_ends_68 rfl (lv_at hl 1 rfl) ?_
          refine lv_if_ne (tgt := 80) hx hb dX12_ends_69 (by decide) (fun hc15 => ?_) (fun hc15 => ?_)
          · replace h := iff' h hc15
            refine lv_iconst (v := 0) hx hb dX12_ends_80 (by decide) ?_
            cases h
            exact jnx11 _ _ _ hH (lv_sub hl [0, 1] rfl)
          · replace h := ift h hc15
            refine lv_iload_n hx hb dX12_ends_72 rfl (lv_at hl 2 rfl) ?_
            refine lv_if_eq (tgt := 80) hx hb dX12_ends_73 (by decide) (fun hc16 => ?_) (fun hc16 => ?_)
            · replace h := ift h hc16
              refine lv_iconst (v := 0) hx hb dX12_ends_80 (by decide) ?_
              cases h
              exact jnx11 _ _ _ hH (lv_sub hl [0, 1] rfl)
            · replace h := iff' h hc16
              refine lv_iconst (v := 1) hx hb dX12_ends_76 (by decide) ?_
              refine lv_goto (tgt := 81) hx hb dX12_ends_77 (by decide) ?_
              cases h
              exact jnx11 _ _ _ hH (lv_sub hl [0, 1] rfl)
      · replace h := ift h hc12
        refine lv_iload_n hx hb dX12_ends_45 rfl (lv_at hl 1 rfl) ?_
        refine lv_aload_n hx hb dX12_ends_46 rfl (lv_at hl 0 rfl) ?_
        obtain ⟨x17, hx17, h⟩ := bnd h
        refine gf_X12_234 X hH hx17 dX12_ends_47 ?_
        refine lv_icmp_ge (tgt := 57) hx hb dX12_ends_50 (by decide) (fun hc18 => ?_) (fun hc18 => ?_)
        · replace h := ift h hc18
          refine lv_iconst (v := 0) hx hb dX12_ends_57 (by decide) ?_
          refine lv_goto (tgt := 81) hx hb dX12_ends_58 (by decide) ?_
          cases h
          exact jnx11 _ _ _ hH (lv_sub hl [0, 1] rfl)
        · replace h := iff' h hc18
          refine lv_iconst (v := 1) hx hb dX12_ends_53 (by decide) ?_
          refine lv_goto (tgt := 81) hx hb dX12_ends_54 (by decide) ?_
          cases h
          exact jnx11 _ _ _ hH (lv_sub hl [0, 1] rfl)
  · have h := hbx1
    clear hx1 hbx1
    refine lv_if_ne (tgt := 36) hx hb dX12_ends_1 (by decide) (fun hc2 => ?_) (fun hc2 => ?_)
    · replace h := iff' h hc2
      cases h
      exact jnx1 _ _ _ hH (lv_sub hl [0, 1, 2] rfl)
    · replace h := ift h hc2
      refine lv_aload_n hx hb dX12_ends_4 rfl (lv_at hl 0 rfl) ?_
      refine lv_dup hx hb dX12_ends_5 rfl ?_
      obtain ⟨x3, hx3, h⟩ := bnd h
      refine gf_X12_225 X hH hx3 dX12_ends_6 ?_
      refine lv_lconst (v := 1) hx hb dX12_ends_9 (by decide) ?_
      refine lv_ladd hx hb dX12_ends_10 ?_
      obtain ⟨x4, hx4, h⟩ := bnd h
      refine pf_X12_225 X hH hx4 dX12_ends_11 (fun H locs hH => ?_)
      refine lv_aload_n hx hb dX12_ends_14 rfl (lv_at hl 0 rfl) ?_
      refine lv_dup hx hb dX12_ends_15 rfl ?_
      obtain ⟨x5, hx5, h⟩ := bnd h
      refine gf_X12_228 X hH hx5 dX12_ends_16 ?_
      refine lv_iconst (v := 1) hx hb dX12_ends_19 (by decide) ?_
      refine lv_aload_n hx hb dX12_ends_20 rfl (lv_at hl 0 rfl) ?_
      obtain ⟨x6, hx6, h⟩ := bnd h
      refine gf_X12_70 X hH hx6 dX12_ends_21 ?_
      refine lv_aload_n hx hb dX12_ends_24 rfl (lv_at hl 0 rfl) ?_
      obtain ⟨x7, hx7, h⟩ := bnd h
      refine gf_X12_168 X hH hx7 dX12_ends_25 ?_
      refine lv_iconst (v := 1) hx hb dX12_ends_28 (by decide) ?_
      refine lv_isub hx hb dX12_ends_29 ?_
      obtain ⟨x8, hx8, h⟩ := bnd h
      refine w_aI X hH hx8 dX12_ends_30 ?_
      refine lv_ishl hx hb dX12_ends_31 ?_
      refine lv_ior hx hb dX12_ends_32 ?_
      obtain ⟨x9, hx9, h⟩ := bnd h
      refine pf_X12_228 X hH hx9 dX12_ends_33 (fun H locs hH => ?_)
      cases h
      exact jnx1 _ _ _ hH (lv_sub hl [0, 1, 2] rfl)
set_option maxHeartbeats 1000000 in
theorem iv_X12_241 {p : Program} {e : Env} {R : Room} {s : State} {m : MethodId} {args : Array Value} {below : List Frame} {meth : Method} {c : Code} {H : Heap} {locs : List Loc} {cells slots : Nat} {Q : State → Prop} {cc : ByteArray} {pc : Nat} {ls : Array Slot} {rest : List Value} {nL : Nat} {G : CG} {μ : Mm} {a : Nat} {q0 : Int32} {q1 : Int32} {x : Mm} {k : Nat} (l : Launch) (X : Cx p s m args meth c cc nL RX12 G) (hH : HS G s μ H locs) (hRL : RmL R k) (hk : 1 + 1 ≤ k) (h : f_X12_ends μ a q0 q1 = some x) (hls : ls.size = nL) (hroom : (rest.map fun v => v.category).sum ≤ 8) (hdg : decode cc pc = .ok (.invokevirtual 241, 3)) (hcs : cells + 0 ≤ R.cells ∧ slots + 0 ≤ R.slots) (kk : ∀ (H1 : Heap) (locs1 : List Loc), HS G s x H1 locs1 → W p l e R s m args below meth c H1 locs1 cells slots Q (F0 m (pc + 3) ls rest)) : W p l e R s m args below meth c H locs cells slots Q (F0 m pc ls (.int q1 :: .int q0 :: .ref a :: rest)) := by
  refine kV0 hH (rV (As := [.int q0, .int q1]) (rest := rest) X hH (t_X12_ends h) vc_12 (c_X12_ends l G μ a q0 q1 x h) (List.forall_mem_cons.mpr ⟨u_1340, (List.forall_mem_cons.mpr ⟨u_1342, (List.forall_mem_cons.mpr ⟨u_49, (List.forall_mem_cons.mpr ⟨u_68, (fun _ h9 => absurd h9 List.not_mem_nil)⟩)⟩)⟩)⟩) u_1343 (rmo hRL (Nat.le_trans (by decide) hk) (by decide)) ddV_X12_ends rfl hls rfl hroom hdg hcs) kk
set_option maxHeartbeats 1000000 in
theorem iv_X12_245 {p : Program} {e : Env} {R : Room} {s : State} {m : MethodId} {args : Array Value} {below : List Frame} {meth : Method} {c : Code} {H : Heap} {locs : List Loc} {cells slots : Nat} {Q : State → Prop} {cc : ByteArray} {pc : Nat} {ls : Array Slot} {rest : List Value} {nL : Nat} {G : CG} {μ : Mm} {q0 : Int32} {q1 : Int32} {x : Int32} {k : Nat} (l : Launch) (X : Cx p s m args meth c cc nL RX12 G) (hH : HS G s μ H locs) (hRL : RmL R k) (hk : 1 + 1 ≤ k) (h : f_X12_has μ q0 q1 = some x) (hls : ls.size = nL) (hroom : (rest.map fun v => v.category).sum ≤ 8) (hdg : decode cc pc = .ok (.invokestatic 245, 3)) (hcs : cells + 0 ≤ R.cells ∧ slots + 0 ≤ R.slots) (kk : ∀ (H1 : Heap) (locs1 : List Loc), HS G s μ H1 locs1 → W p l e R s m args below meth c H1 locs1 cells slots Q (F0 m (pc + 3) ls (.int x :: rest))) : W p l e R s m args below meth c H locs cells slots Q (F0 m pc ls (.int q1 :: .int q0 :: rest)) := by
  refine kI hH (rS (As := [.int q0, .int q1]) (rest := rest) X hH (c_X12_has l G μ q0 q1 x h) (List.forall_mem_cons.mpr ⟨u_1344, (List.forall_mem_cons.mpr ⟨u_1345, (List.forall_mem_cons.mpr ⟨u_68, (fun _ h9 => absurd h9 List.not_mem_nil)⟩)⟩)⟩) u_1346 (rmo hRL (Nat.le_trans (by decide) hk) (by decide)) ddS_X12_has rfl hls rfl hroom hdg hcs) kk
set_option maxHeartbeats 4000000 in
set_option maxRecDepth 100000 in
theorem w_X12_layOrders_20 {p : Program} {e : Env} {R : Room} {s : State} {m : MethodId} {args : Array Value} {below : List Frame} {meth : Method} {c : Code} {cells slots : Nat} {Q : State → Prop} {G : CG} (l : Launch) (X : Cx p s m args meth c cX12_layOrders 8 RX12 G) {rec : Mm → Nat → Int32 → Int32 → Int32 → Int32 → Int32 → Option Mm} {rmr : Room} (hrm : RmOk rmr R 0 0 8) (hrt : ∀ (μ : Mm) (a0 : Nat) (p1 : Int32) (p2 : Int32) (p3 : Int32) (p4 : Int32) (p5 : Int32) (x : Mm), rec μ a0 p1 p2 p3 p4 p5 = some x → tg μ a0 = 13) (hrec : ∀ (μ : Mm) (a0 : Nat) (p1 : Int32) (p2 : Int32) (p3 : Int32) (p4 : Int32) (p5 : Int32) (x : Mm), rec μ a0 p1 p2 p3 p4 p5 = some x → Met l yX12_layOrders (.code yX12_layOrders cX12_layOrders 8 none :: UW) rmr (PC G [.ref a0, .int p1, .int p2, .int p3, .int p4, .int p5] μ) (QV G x) 0 0 (fA G)) (hRL : RmL R 3) (hcs : cells ≤ R.cells ∧ slots ≤ R.slots) : ∀ (n : Nat) (v0 : Nat) (v1 : Int32) (v2 : Int32) (v3 : Int32) (v4 : Int32) (v5 : Int32) (v6 : Int32) (μ : Mm) (x : Mm), lp_X12_layOrders_20 rec n v0 v1 v2 v3 v4 v5 v6 μ = some x → (∀ (H : Heap) (locs : List Loc) (ls : Array Slot), HS G s x H locs → lv_has ls 8 [] → W p l e R s m args below meth c H locs cells slots Q (F0 m 127 ls [])) → ∀ (H : Heap) (locs : List Loc) (ls : Array Slot), HS G s μ H locs → lv_has ls 8 [(0, .ref v0), (1, .int v1), (2, .int v2), (3, .int v3), (4, .int v4), (5, .int v5), (6, .int v6)] → W p l e R s m args below meth c H locs cells slots Q (F0 m 20 ls []) := by
  have hx := X.1
  have hb := X.2.1
  have hown := X.2.2.2.1
  have hts := X.2.2.2.2.1
  intro n
  induction n with
  | zero =>
    intro v0 v1 v2 v3 v4 v5 v6 μ x h
    rw [lp_X12_layOrders_20] at h
    cases h
  | succ n ih =>
    intro v0 v1 v2 v3 v4 v5 v6 μ x h k0 H locs ls hH hl
    rw [lp_X12_layOrders_20] at h
    refine lv_iload hx hb dX12_layOrders_20 (lv_at hl 6 rfl) ?_
    refine lv_aload_n hx hb dX12_layOrders_22 rfl (lv_at hl 0 rfl) ?_
    obtain ⟨x3, hx3, h⟩ := bnd h
    refine gf_X12_168 X hH hx3 dX12_layOrders_23 ?_
    refine lv_icmp_ge (tgt := 127) hx hb dX12_layOrders_26 (by decide) (fun hc4 => ?_) (fun hc4 => ?_)
    · replace h := ift h hc4
      cases h
      exact k0 _ _ _ hH (lv_sub hl [] rfl)
    · replace h := iff' h hc4
      refine lv_iload_n hx hb dX12_layOrders_29 rfl (lv_at hl 2 rfl) ?_
      refine lv_iload hx hb dX12_layOrders_30 (lv_at hl 6 rfl) ?_
      obtain ⟨x5, hx5, h⟩ := bnd h
      refine iv_X12_245 l X hH hRL (by decide) hx5 hl.1 (Nat.le_of_ble_eq_true rfl) dX12_layOrders_32 hcs (fun H locs hH => ?_)
      refine lv_if_ne (tgt := 121) hx hb dX12_layOrders_35 (by decide) (fun hc6 => ?_) (fun hc6 => ?_)
      · replace h := iff' h hc6
        refine lv_iinc (v := (v6 + 1)) (lv' := [(6, .int (v6 + 1)), (0, .ref v0), (1, .int v1), (2, .int v2), (3, .int v3), (4, .int v4), (5, .int v5)]) hx hb dX12_layOrders_121 hl (k := 6) rfl rfl (by decide) rfl (fun ls hl => ?_)
        refine lv_goto (tgt := 20) hx hb dX12_layOrders_124 (by decide) ?_
        exact ih _ _ _ _ _ _ _ _ _ h k0 _ _ _ hH (lv_sub hl [1, 2, 3, 4, 5, 6, 0] rfl)
      · replace h := ift h hc6
        refine lv_iload_n hx hb dX12_layOrders_38 rfl (lv_at hl 3 rfl) ?_
        refine lv_aload_n hx hb dX12_layOrders_39 rfl (lv_at hl 0 rfl) ?_
        refine lv_iload hx hb dX12_layOrders_40 (lv_at hl 6 rfl) ?_
        obtain ⟨x7, hx7, h⟩ := bnd h
        refine iv_X12_186 l X hH hRL (by decide) hx7 hl.1 (Nat.le_of_ble_eq_true rfl) dX12_layOrders_42 hcs (fun H locs hH => ?_)
        refine lv_iadd hx hb dX12_layOrders_45 ?_
        refine lv_aload_n hx hb dX12_layOrders_46 rfl (lv_at hl 0 rfl) ?_
        obtain ⟨x8, hx8, h⟩ := bnd h
        refine gf_X12_171 X hH hx8 dX12_layOrders_47 ?_
        obtain ⟨hd9, h⟩ := gsf h
        refine lv_irem hx hb dX12_layOrders_50 hd9 ?_
        refine lv_istore (lv' := [(7, .int ((v3 + x7) - (v3 + x7) / x8 * x8)), (0, .ref v0), (1, .int v1), (2, .int v2), (3, .int v3), (4, .int v4), (5, .int v5), (6, .int v6)]) hx hb dX12_layOrders_51 hl (by decide) rfl (fun ls hl => ?_)
        refine lv_aload_n hx hb dX12_layOrders_53 rfl (lv_at hl 1 rfl) ?_
        obtain ⟨x10, hx10, h⟩ := bnd h
        refine gf_X12_70 X hH hx10 dX12_layOrders_54 ?_
        refine lv_iload_n hx hb dX12_layOrders_57 rfl (lv_at hl 2 rfl) ?_
        refine lv_iload hx hb dX12_layOrders_58 (lv_at hl 7 rfl) ?_
        obtain ⟨x11, hx11, h⟩ := bnd h
        refine w_qI X hH hx11 dX12_layOrders_60 (fun H locs hH => ?_)
        refine lv_aload_n hx hb dX12_layOrders_61 rfl (lv_at hl 1 rfl) ?_
        refine lv_iload_n hx hb dX12_layOrders_62 rfl (lv_at hl 2 rfl) ?_
        refine lv_iconst (v := 1) hx hb dX12_layOrders_63 (by decide) ?_
        refine lv_iadd hx hb dX12_layOrders_64 ?_
        refine lv_iload_n hx hb dX12_layOrders_65 rfl (lv_at hl 3 rfl) ?_
        refine lv_iconst (v := 1) hx hb dX12_layOrders_66 (by decide) ?_
        refine lv_iload hx hb dX12_layOrders_67 (lv_at hl 7 rfl) ?_
        refine lv_ishl hx hb dX12_layOrders_69 ?_
        refine lv_ior hx hb dX12_layOrders_70 ?_
        refine lv_iload hx hb dX12_layOrders_71 (lv_at hl 0 rfl) ?_
        refine lv_iload hx hb dX12_layOrders_73 (lv_at hl 5 rfl) ?_
        refine lv_aload_n hx hb dX12_layOrders_75 rfl (lv_at hl 1 rfl) ?_
        refine lv_iload hx hb dX12_layOrders_76 (lv_at hl 0 rfl) ?_
        obtain ⟨x12, hx12, h⟩ := bnd h
        refine iv_X12_208 l X hH hRL (by decide) hx12 hl.1 (Nat.le_of_ble_eq_true rfl) dX12_layOrders_78 hcs (fun H locs hH => ?_)
        obtain ⟨x13, hbx13, hx13⟩ := bnd h
        clear h
        refine jn_lem (G := G) (x := x13) (M := 89) (nL := 8) (fun x13 => x11) (fun x13 => [(0, .ref v0), (1, .int v1), (2, .int v2), (3, .int v3), (4, .int v4), (5, .int v5), (6, .int v6), (7, .int ((v3 + x7) - (v3 + x7) / x8 * x8))]) (fun x13 => [.int x13, .int v4, .int ((v3 + x7) - (v3 + x7) / x8 * x8), .int (v2 ||| ((1 : Int32) <<< (v6 &&& 31))), .int (v1 + (1 : Int32)), .ref v0]) (fun H locs ls hH hl => ?_) (fun jnx13 => ?_)
        · have h := hx13
          clear hx13 hbx13
          refine lv_iadd hx hb dX12_layOrders_89 ?_
          refine lv_iload hx hb dX12_layOrders_90 (lv_at hl 5 rfl) ?_
          refine lv_if_ne (tgt := 113) hx hb dX12_layOrders_92 (by decide) (fun hc15 => ?_) (fun hc15 => ?_)
          · replace h := iff' h hc15
            refine lv_iconst (v := 1) hx hb dX12_layOrders_113 (by decide) ?_
            refine lv_goto (tgt := 118) hx hb dX12_layOrders_114 (by decide) ?_
            obtain ⟨x16, hx16, h⟩ := bnd h
            refine kV0 hH (rV (As := [.int (v1 + (1 : Int32)), .int (v2 ||| ((1 : Int32) <<< (v6 &&& 31))), .int ((v3 + x7) - (v3 + x7) / x8 * x8), .int (v4 + x13), .int (1 : Int32)]) (rest := []) X hH (hrt _ _ _ _ _ _ _  _ hx16) (vc_12) (hrec _ _ _ _ _ _ _  _ hx16) (List.forall_mem_cons.mpr ⟨u_1336, (List.forall_mem_cons.mpr ⟨u_1338, (List.forall_mem_cons.mpr ⟨u_48, (List.forall_mem_cons.mpr ⟨u_68, (fun _ h9 => absurd h9 List.not_mem_nil)⟩)⟩)⟩)⟩) u_1339 hrm ddV_X12_layOrders rfl hl.1 rfl (Nat.le_of_ble_eq_true rfl) dX12_layOrders_118 ⟨hcs.1, hcs.2⟩) (fun H locs hH => ?_)
            refine lv_iinc (v := (v6 + 1)) (lv' := [(6, .int (v6 + 1)), (0, .ref v0), (1, .int v1), (2, .int v2), (3, .int v3), (4, .int v4), (5, .int v5), (7, .int ((v3 + x7) - (v3 + x7) / x8 * x8))]) hx hb dX12_layOrders_121 hl (k := 6) rfl rfl (by decide) rfl (fun ls hl => ?_)
            refine lv_goto (tgt := 20) hx hb dX12_layOrders_124 (by decide) ?_
            exact ih _ _ _ _ _ _ _ _ _ h k0 _ _ _ hH (lv_sub hl [1, 2, 3, 4, 5, 6, 0] rfl)
          · replace h := ift h hc15
            refine lv_iload hx hb dX12_layOrders_95 (lv_at hl 6 rfl) ?_
            refine lv_aload_n hx hb dX12_layOrders_97 rfl (lv_at hl 0 rfl) ?_
            obtain ⟨x17, hx17, h⟩ := bnd h
            refine gf_X12_231 X hH hx17 dX12_layOrders_98 ?_
            refine lv_icmp_ne (tgt := 117) hx hb dX12_layOrders_101 (by decide) (fun hc18 => ?_) (fun hc18 => ?_)
            · replace h := iff' h hc18
              refine lv_iconst (v := 0) hx hb dX12_layOrders_117 (by decide) ?_
              obtain ⟨x19, hx19, h⟩ := bnd h
              refine kV0 hH (rV (As := [.int (v1 + (1 : Int32)), .int (v2 ||| ((1 : Int32) <<< (v6 &&& 31))), .int ((v3 + x7) - (v3 + x7) / x8 * x8), .int (v4 + x13), .int (0 : Int32)]) (rest := []) X hH (hrt _ _ _ _ _ _ _  _ hx19) (vc_12) (hrec _ _ _ _ _ _ _  _ hx19) (List.forall_mem_cons.mpr ⟨u_1336, (List.forall_mem_cons.mpr ⟨u_1338, (List.forall_mem_cons.mpr ⟨u_48, (List.forall_mem_cons.mpr ⟨u_68, (fun _ h9 => absurd h9 List.not_mem_nil)⟩)⟩)⟩)⟩) u_1339 hrm ddV_X12_layOrders rfl hl.1 rfl (Nat.le_of_ble_eq_true rfl) dX12_layOrders_118 ⟨hcs.1, hcs.2⟩) (fun H locs hH => ?_)
              refine lv_iinc (v := (v6 + 1)) (lv' := [(6, .int (v6 + 1)), (0, .ref v0), (1, .int v1), (2, .int v2), (3, .int v3), (4, .int v4), (5, .int v5), (7, .int ((v3 + x7) - (v3 + x7) / x8 * x8))]) hx hb dX12_layOrders_121 hl (k := 6) rfl rfl (by decide) rfl (fun ls hl => ?_)
              refine lv_goto (tgt := 20) hx hb dX12_layOrders_124 (by decide) ?_
              exact ih _ _ _ _ _ _ _ _ _ h k0 _ _ _ hH (lv_sub hl [1, 2, 3, 4, 5, 6, 0] rfl)
            · replace h := ift h hc18
              refine lv_iload hx hb dX12_layOrders_104 (lv_at hl 7 rfl) ?_
              refine lv_aload_n hx hb dX12_layOrders_106 rfl (lv_at hl 0 rfl) ?_
              obtain ⟨x20, hx20, h⟩ := bnd h
              refine gf_X12_248 X hH hx20 dX12_layOrders_107 ?_
              refine lv_icmp_ne (tgt := 117) hx hb dX12_layOrders_110 (by decide) (fun hc21 => ?_) (fun hc21 => ?_)
              · replace h := iff' h hc21
                refine lv_iconst (v := 0) hx hb dX12_layOrders_117 (by decide) ?_
                obtain ⟨x22, hx22, h⟩ := bnd h
                refine kV0 hH (rV (As := [.int (v1 + (1 : Int32)), .int (v2 ||| ((1 : Int32) <<< (v6 &&& 31))), .int ((v3 + x7) - (v3 + x7) / x8 * x8), .int (v4 + x13), .int (0 : Int32)]) (rest := []) X hH (hrt _ _ _ _ _ _ _  _ hx22) (vc_12) (hrec _ _ _ _ _ _ _  _ hx22) (List.forall_mem_cons.mpr ⟨u_1336, (List.forall_mem_cons.mpr ⟨u_1338, (List.forall_mem_cons.mpr ⟨u_48, (List.forall_mem_cons.mpr ⟨u_68, (fun _ h9 => absurd h9 List.not_mem_nil)⟩)⟩)⟩)⟩) u_1339 hrm ddV_X12_layOrders rfl hl.1 rfl (Nat.le_of_ble_eq_true rfl) dX12_layOrders_118 ⟨hcs.1, hcs.2⟩) (fun H locs hH => ?_)
                refine lv_iinc (v := (v6 + 1)) (lv' := [(6, .int (v6 + 1)), (0, .ref v0), (1, .int v1), (2, .int v2), (3, .int v3), (4, .int v4), (5, .int v5), (7, .int ((v3 + x7) - (v3 + x7) / x8 * x8))]) hx hb dX12_layOrders_121 hl (k := 6) rfl rfl (by decide) rfl (fun ls hl => ?_)
                refine lv_goto (tgt := 20) hx hb dX12_layOrders_124 (by decide) ?_
                exact ih _ _ _ _ _ _ _ _ _ h k0 _ _ _ hH (lv_sub hl [1, 2, 3, 4, 5, 6, 0] rfl)
              · replace h := ift h hc21
                refine lv_iconst (v := 1) hx hb dX12_layOrders_113 (by decide) ?_
                refine lv_goto (tgt := 118) hx hb dX12_layOrders_114 (by decide) ?_
                obtain ⟨x23, hx23, h⟩ := bnd h
                refine kV0 hH (rV (As := [.int (v1 + (1 : Int32)), .int (v2 ||| ((1 : Int32) <<< (v6 &&& 31))), .int ((v3 + x7) - (v3 + x7) / x8 * x8), .int (v4 + x13), .int (1 : Int32)]) (rest := []) X hH (hrt _ _ _ _ _ _ _  _ hx23) (vc_12) (hrec _ _ _ _ _ _ _  _ hx23) (List.forall_mem_cons.mpr ⟨u_1336, (List.forall_mem_cons.mpr ⟨u_1338, (List.forall_mem_cons.mpr ⟨u_48, (List.forall_mem_cons.mpr ⟨u_68, (fun _ h9 => absurd h9 List.not_mem_nil)⟩)⟩)⟩)⟩) u_1339 hrm ddV_X12_layOrders rfl hl.1 rfl (Nat.le_of_ble_eq_true rfl) dX12_layOrders_118 ⟨hcs.1, hcs.2⟩) (fun H locs hH => ?_)
                refine lv_iinc (v := (v6 + 1)) (lv' := [(6, .int (v6 + 1)), (0, .ref v0), (1, .int v1), (2, .int v2), (3, .int v3), (4, .int v4), (5, .int v5), (7, .int ((v3 + x7) - (v3 + x7) / x8 * x8))]) hx hb dX12_layOrders_121 hl (k := 6) rfl rfl (by decide) rfl (fun ls hl => ?_)
                refine lv_goto (tgt := 20) hx hb dX12_layOrders_124 (by decide) ?_
                exact ih _ _ _ _ _ _ _ _ _ h k0 _ _ _ hH (lv_sub hl [1, 2, 3, 4, 5, 6, 0] rfl)
        · have h := hbx13
          clear hx13 hbx13
          refine lv_if_eq (tgt := 88) hx hb dX12_layOrders_81 (by decide) (fun hc14 => ?_) (fun hc14 => ?_)
          · replace h := ift h hc14
            refine lv_iconst (v := 0) hx hb dX12_layOrders_88 (by decide) ?_
            cases h
            exact jnx13 _ _ _ hH (lv_sub hl [1, 2, 3, 4, 5, 6, 7, 0] rfl)
          · replace h := iff' h hc14
            refine lv_iconst (v := 1) hx hb dX12_layOrders_84 (by decide) ?_
            refine lv_goto (tgt := 89) hx hb dX12_layOrders_85 (by decide) ?_
            cases h
            exact jnx13 _ _ _ hH (lv_sub hl [1, 2, 3, 4, 5, 6, 7, 0] rfl)
theorem t_X12_layOrders {d : Nat} {μ : Mm} {a0 : Nat} {p1 : Int32} {p2 : Int32} {p3 : Int32} {p4 : Int32} {p5 : Int32} {x : Mm} (h : f_X12_layOrders d μ a0 p1 p2 p3 p4 p5 = some x) : tg μ a0 = 13 := by
  cases d with
  | zero => rw [f_X12_layOrders] at h; cases h
  | succ d => rw [f_X12_layOrders] at h; exact (gsn h).1
set_option maxHeartbeats 4000000 in
set_option maxRecDepth 100000 in
theorem c_X12_layOrders (l : Launch) (G : CG) : ∀ (d : Nat) (μ : Mm) (a0 : Nat) (p1 : Int32) (p2 : Int32) (p3 : Int32) (p4 : Int32) (p5 : Int32) (x : Mm) (h : f_X12_layOrders d μ a0 p1 p2 p3 p4 p5 = some x), Met l yX12_layOrders (.code yX12_layOrders cX12_layOrders 8 none :: UW) (rmk (3 + d) 0 0) (PC G [.ref a0, .int p1, .int p2, .int p3, .int p4, .int p5] μ) (QV G x) 0 0 (fA G) := by
  intro d
  induction d with
  | zero =>
    intro μ a0 p1 p2 p3 p4 p5 x h
    rw [f_X12_layOrders] at h
    cases h
  | succ d hrec =>
    intro μ a0 p1 p2 p3 p4 p5 x h
    refine Met.ofW (cc := cX12_layOrders) (maxL := 8) (ret := none) (by decide) rfl ?_
    intro p e s m args below meth c s₁ B hml hv
    obtain ⟨X, hH, hr, rfl, hnm⟩ := cx_in B hml hv
    have X : Cx p s m _ meth c cX12_layOrders 8 RX12 G := X
    have hx := X.1
    have hb := X.2.1
    have hown := X.2.2.2.1
    have hts := X.2.2.2.2.1
    have hRL : RmL (rmk (3 + (d + 1)) 0 0) 3 := ⟨by show 3 ≤ 3 + (d + 1); omega, by show 64 * 3 ≤ 64 * (3 + (d + 1)); omega⟩
    have hrm : RmOk (rmk (3 + d) 0 0) (rmk (3 + (d + 1)) 0 0) 0 0 8 := rmo (k := 3 + (d + 1)) ⟨Nat.le_refl _, Nat.le_refl _⟩ (by omega) (by decide)
    have hrt : ∀ (μ : Mm) (a0 : Nat) (p1 : Int32) (p2 : Int32) (p3 : Int32) (p4 : Int32) (p5 : Int32) (x : Mm), f_X12_layOrders d μ a0 p1 p2 p3 p4 p5 = some x → tg μ a0 = 13 := fun μ a0 p1 p2 p3 p4 p5 x h => t_X12_layOrders h
    have hcs : 0 ≤ (rmk 0 0 0).cells ∧ 0 ≤ (rmk 0 0 0).slots := ⟨Nat.zero_le _, Nat.zero_le _⟩
    refine ls_in (Nat.le_of_ble_eq_true rfl) (fun ls hl => ?_)
    have hl : lv_has ls 8 [(0, .ref a0), (1, .int p1), (2, .int p2), (3, .int p3), (4, .int p4), (5, .int p5)] := hl
    rw [f_X12_layOrders] at h
    obtain ⟨htg, h⟩ := gsn h
    refine lv_iload_n hx hb dX12_layOrders_0 rfl (lv_at hl 1 rfl) ?_
    refine lv_aload_n hx hb dX12_layOrders_1 rfl (lv_at hl 0 rfl) ?_
    obtain ⟨x1, hx1, h⟩ := bnd h
    refine gf_X12_168 X hH hx1 dX12_layOrders_2 ?_
    refine lv_icmp_ne (tgt := 17) hx hb dX12_layOrders_5 (by decide) (fun hc2 => ?_) (fun hc2 => ?_)
    · replace h := iff' h hc2
      refine lv_iconst (v := 0) hx hb dX12_layOrders_17 (by decide) ?_
      refine lv_istore (lv' := [(6, .int (0 : Int32)), (0, .ref a0), (1, .int p1), (2, .int p2), (3, .int p3), (4, .int p4), (5, .int p5)]) hx hb dX12_layOrders_18 hl (by decide) rfl (fun ls hl => ?_)
      obtain ⟨x24, hx24, hhx24⟩ := bnd h
      clear h
      refine w_X12_layOrders_20 l X hrm hrt hrec hRL hcs BIG a0 p1 p2 p3 p4 p5 (0 : Int32) μ x24 hx24 (fun H locs ls hH hl => ?_) _ _ _ hH (lv_sub hl [1, 2, 3, 4, 5, 6, 0] rfl)
      · have h := hhx24
        clear hhx24
        exact eV X hH h hr dX12_layOrders_127 (Nat.le_of_ble_eq_true rfl) (Nat.le_of_ble_eq_true rfl)
    · replace h := ift h hc2
      refine lv_aload_n hx hb dX12_layOrders_8 rfl (lv_at hl 0 rfl) ?_
      refine lv_iload hx hb dX12_layOrders_9 (lv_at hl 4 rfl) ?_
      refine lv_iload hx hb dX12_layOrders_11 (lv_at hl 5 rfl) ?_
      obtain ⟨x25, hx25, h⟩ := bnd h
      refine iv_X12_241 l X hH hRL (by decide) hx25 hl.1 (Nat.le_of_ble_eq_true rfl) dX12_layOrders_13 hcs (fun H locs hH => ?_)
      exact eV X hH h hr dX12_layOrders_16 (Nat.le_of_ble_eq_true rfl) (Nat.le_of_ble_eq_true rfl)
