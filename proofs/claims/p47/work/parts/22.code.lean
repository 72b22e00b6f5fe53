set_option maxHeartbeats 1000000 in
theorem iv_X5_65 {p : Program} {e : Env} {R : Room} {s : State} {m : MethodId} {args : Array Value} {below : List Frame} {meth : Method} {c : Code} {H : Heap} {locs : List Loc} {cells slots : Nat} {Q : State → Prop} {cc : ByteArray} {pc : Nat} {ls : Array Slot} {rest : List Value} {nL : Nat} {G : CG} {μ : Mm} {a : Nat} {q0 : Nat} {x : Mm} {k k2 : Nat} (l : Launch) (X : Cx p s m args meth c cc nL RX5 G) (hH : HS G s μ H locs) (hRL : RmL R k k2) (hk : 4 + 1 ≤ k ∧ 93 ≤ k2) (h : f_X5_readRent μ a q0 = some x) (hls : ls.size = nL) (hroom : (rest.map fun v => v.category).sum ≤ 8) (hdg : decode cc pc = .ok (.invokevirtual 65, 3)) (hcs : cells + 0 ≤ R.cells ∧ slots + 0 ≤ R.slots) (kk : ∀ (H1 : Heap) (locs1 : List Loc), HS G s x H1 locs1 → W p l e R s m args below meth c H1 locs1 cells slots Q (F0 m (pc + 3) ls rest)) : W p l e R s m args below meth c H locs cells slots Q (F0 m pc ls (.ref q0 :: .ref a :: rest)) := by
  refine kV0 hH (rV (As := [.ref q0]) (rest := rest) X hH (t_X5_readRent h) vc_5 (c_X5_readRent l G μ a q0 x h) (List.forall_mem_cons.mpr ⟨u_530, (List.forall_mem_cons.mpr ⟨u_532, (List.forall_mem_cons.mpr ⟨u_11, (List.forall_mem_cons.mpr ⟨u_26, (fun _ h9 => absurd h9 List.not_mem_nil)⟩)⟩)⟩)⟩) u_533 (rmo hRL (Nat.le_trans (by decide) hk.1) (Nat.le_trans (by decide) hk.2)) ddV_X5_readRent rfl hls rfl hroom hdg hcs) kk
set_option maxHeartbeats 1000000 in
theorem iv_X5_68 {p : Program} {e : Env} {R : Room} {s : State} {m : MethodId} {args : Array Value} {below : List Frame} {meth : Method} {c : Code} {H : Heap} {locs : List Loc} {cells slots : Nat} {Q : State → Prop} {cc : ByteArray} {pc : Nat} {ls : Array Slot} {rest : List Value} {nL : Nat} {G : CG} {μ : Mm} {a : Nat} {q0 : Nat} {x : Mm} {k k2 : Nat} (l : Launch) (X : Cx p s m args meth c cc nL RX5 G) (hH : HS G s μ H locs) (hRL : RmL R k k2) (hk : 3 + 1 ≤ k ∧ 66 ≤ k2) (h : f_X5_readGuild μ a q0 = some x) (hls : ls.size = nL) (hroom : (rest.map fun v => v.category).sum ≤ 8) (hdg : decode cc pc = .ok (.invokevirtual 68, 3)) (hcs : cells + 0 ≤ R.cells ∧ slots + 0 ≤ R.slots) (kk : ∀ (H1 : Heap) (locs1 : List Loc), HS G s x H1 locs1 → W p l e R s m args below meth c H1 locs1 cells slots Q (F0 m (pc + 3) ls rest)) : W p l e R s m args below meth c H locs cells slots Q (F0 m pc ls (.ref q0 :: .ref a :: rest)) := by
  refine kV0 hH (rV (As := [.ref q0]) (rest := rest) X hH (t_X5_readGuild h) vc_5 (c_X5_readGuild l G μ a q0 x h) (List.forall_mem_cons.mpr ⟨u_534, (List.forall_mem_cons.mpr ⟨u_536, (List.forall_mem_cons.mpr ⟨u_12, (List.forall_mem_cons.mpr ⟨u_26, (fun _ h9 => absurd h9 List.not_mem_nil)⟩)⟩)⟩)⟩) u_537 (rmo hRL (Nat.le_trans (by decide) hk.1) (Nat.le_trans (by decide) hk.2)) ddV_X5_readGuild rfl hls rfl hroom hdg hcs) kk
theorem t_X5_readItem {μ : Mm} {a0 : Nat} {p1 : Nat} {x : Mm} (h : f_X5_readItem μ a0 p1 = some x) : tg μ a0 = 6 := by
  unfold f_X5_readItem at h
  exact (gsn h).1
set_option maxHeartbeats 4000000 in
set_option maxRecDepth 100000 in
theorem c_X5_readItem (l : Launch) (G : CG) (μ : Mm) (a0 : Nat) (p1 : Nat) (x : Mm) (h : f_X5_readItem μ a0 p1 = some x) : Met l yX5_readItem (.code yX5_readItem cX5_readItem 2 none :: UW) (rmk 5 93 0 0) (PC G [.ref a0, .ref p1] μ) (QV G x) 0 0 (fA G) := by
  refine Met.ofW (cc := cX5_readItem) (maxL := 2) (ret := none) (by decide) rfl ?_
  intro p e s m args below meth c s₁ B hml hv
  obtain ⟨X, hH, hr, rfl, hnm⟩ := cx_in B hml hv
  have X : Cx p s m _ meth c cX5_readItem 2 RX5 G := X
  have hx := X.1
  have hb := X.2.1
  have hown := X.2.2.2.1
  have hts := X.2.2.2.2.1
  have hRL : RmL (rmk 5 93 0 0) 5 93 := ⟨Nat.le_refl _, Nat.le_refl _⟩
  have hcs : 0 ≤ (rmk 0 0 0 0).cells ∧ 0 ≤ (rmk 0 0 0 0).slots := ⟨Nat.zero_le _, Nat.zero_le _⟩
  refine ls_in (Nat.le_of_ble_eq_true rfl) (fun ls hl => ?_)
  have hl : lv_has ls 2 [(0, .ref a0), (1, .ref p1)] := hl
  unfold f_X5_readItem at h
  obtain ⟨htg, h⟩ := gsn h
  refine lv_aload_n hx hb dX5_readItem_0 rfl (lv_at hl 1 rfl) ?_
  refine lv_aload_n hx hb dX5_readItem_1 rfl (lv_at hl 0 rfl) ?_
  obtain ⟨x1, hx1, h⟩ := bnd h
  refine gf_X5_32 X hH hx1 dX5_readItem_2 ?_
  obtain ⟨x2, hx2, h⟩ := bnd h
  refine iv_X5_54 l X hH hRL (by decide) hx2 hl.1 (Nat.le_of_ble_eq_true rfl) dX5_readItem_5 hcs (fun H locs hH => ?_)
  refine lv_if_ne (tgt := 22) hx hb dX5_readItem_8 (by decide) (fun hc3 => ?_) (fun hc3 => ?_)
  · replace h := iff' h hc3
    refine lv_aload_n hx hb dX5_readItem_22 rfl (lv_at hl 1 rfl) ?_
    obtain ⟨x4, hx4, h⟩ := bnd h
    refine gf_X5_58 X hH hx4 dX5_readItem_23 ?_
    refine lv_aload_n hx hb dX5_readItem_26 rfl (lv_at hl 0 rfl) ?_
    obtain ⟨x5, hx5, h⟩ := bnd h
    refine gf_X5_32 X hH hx5 dX5_readItem_27 ?_
    obtain ⟨x6, hx6, h⟩ := bnd h
    refine w_aI X hH hx6 dX5_readItem_30 ?_
    refine lv_bipush (v := 101) hx hb dX5_readItem_31 (by decide) ?_
    refine lv_icmp_ne (tgt := 44) hx hb dX5_readItem_33 (by decide) (fun hc7 => ?_) (fun hc7 => ?_)
    · replace h := iff' h hc7
      refine lv_aload_n hx hb dX5_readItem_44 rfl (lv_at hl 0 rfl) ?_
      refine lv_aload_n hx hb dX5_readItem_45 rfl (lv_at hl 1 rfl) ?_
      obtain ⟨x8, hx8, h⟩ := bnd h
      refine iv_X5_68 l X hH hRL (by decide) hx8 hl.1 (Nat.le_of_ble_eq_true rfl) dX5_readItem_46 hcs (fun H locs hH => ?_)
      exact eV X hH h hr dX5_readItem_49 (Nat.le_of_ble_eq_true rfl) (Nat.le_of_ble_eq_true rfl)
    · replace h := ift h hc7
      refine lv_aload_n hx hb dX5_readItem_36 rfl (lv_at hl 0 rfl) ?_
      refine lv_aload_n hx hb dX5_readItem_37 rfl (lv_at hl 1 rfl) ?_
      obtain ⟨x9, hx9, h⟩ := bnd h
      refine iv_X5_65 l X hH hRL (by decide) hx9 hl.1 (Nat.le_of_ble_eq_true rfl) dX5_readItem_38 hcs (fun H locs hH => ?_)
      refine lv_goto (tgt := 49) hx hb dX5_readItem_41 (by decide) ?_
      exact eV X hH h hr dX5_readItem_49 (Nat.le_of_ble_eq_true rfl) (Nat.le_of_ble_eq_true rfl)
  · replace h := ift h hc3
    refine lv_aload_n hx hb dX5_readItem_11 rfl (lv_at hl 0 rfl) ?_
    refine lv_aload_n hx hb dX5_readItem_12 rfl (lv_at hl 1 rfl) ?_
    obtain ⟨x10, hx10, h⟩ := bnd h
    refine gf_X5_49 X hH hx10 dX5_readItem_13 ?_
    obtain ⟨x11, hx11, h⟩ := bnd h
    refine pf_X5_35 X hH hx11 dX5_readItem_16 (fun H locs hH => ?_)
    refine lv_goto (tgt := 49) hx hb dX5_readItem_19 (by decide) ?_
    exact eV X hH h hr dX5_readItem_49 (Nat.le_of_ble_eq_true rfl) (Nat.le_of_ble_eq_true rfl)
set_option maxHeartbeats 1000000 in
theorem iv_X5_38 {p : Program} {e : Env} {R : Room} {s : State} {m : MethodId} {args : Array Value} {below : List Frame} {meth : Method} {c : Code} {H : Heap} {locs : List Loc} {cells slots : Nat} {Q : State → Prop} {cc : ByteArray} {pc : Nat} {ls : Array Slot} {rest : List Value} {nL : Nat} {G : CG} {μ : Mm} {a : Nat} {q0 : Nat} {x : Mm} {k k2 : Nat} (l : Launch) (X : Cx p s m args meth c cc nL RX5 G) (hH : HS G s μ H locs) (hRL : RmL R k k2) (hk : 4 + 1 ≤ k ∧ 91 ≤ k2) (h : f_X5_readDial μ a q0 = some x) (hls : ls.size = nL) (hroom : (rest.map fun v => v.category).sum ≤ 8) (hdg : decode cc pc = .ok (.invokevirtual 38, 3)) (hcs : cells + 0 ≤ R.cells ∧ slots + 0 ≤ R.slots) (kk : ∀ (H1 : Heap) (locs1 : List Loc), HS G s x H1 locs1 → W p l e R s m args below meth c H1 locs1 cells slots Q (F0 m (pc + 3) ls rest)) : W p l e R s m args below meth c H locs cells slots Q (F0 m pc ls (.ref q0 :: .ref a :: rest)) := by
  refine kV0 hH (rV (As := [.ref q0]) (rest := rest) X hH (t_X5_readDial h) vc_5 (c_X5_readDial l G μ a q0 x h) (List.forall_mem_cons.mpr ⟨u_509, (List.forall_mem_cons.mpr ⟨u_511, (List.forall_mem_cons.mpr ⟨u_6, (List.forall_mem_cons.mpr ⟨u_26, (fun _ h9 => absurd h9 List.not_mem_nil)⟩)⟩)⟩)⟩) u_512 (rmo hRL (Nat.le_trans (by decide) hk.1) (Nat.le_trans (by decide) hk.2)) ddV_X5_readDial rfl hls rfl hroom hdg hcs) kk
set_option maxHeartbeats 1000000 in
theorem iv_X5_46 {p : Program} {e : Env} {R : Room} {s : State} {m : MethodId} {args : Array Value} {below : List Frame} {meth : Method} {c : Code} {H : Heap} {locs : List Loc} {cells slots : Nat} {Q : State → Prop} {cc : ByteArray} {pc : Nat} {ls : Array Slot} {rest : List Value} {nL : Nat} {G : CG} {μ : Mm} {a : Nat} {q0 : Nat} {x : Mm} {k k2 : Nat} (l : Launch) (X : Cx p s m args meth c cc nL RX5 G) (hH : HS G s μ H locs) (hRL : RmL R k k2) (hk : 5 + 1 ≤ k ∧ 114 ≤ k2) (h : f_X5_readItem μ a q0 = some x) (hls : ls.size = nL) (hroom : (rest.map fun v => v.category).sum ≤ 8) (hdg : decode cc pc = .ok (.invokevirtual 46, 3)) (hcs : cells + 0 ≤ R.cells ∧ slots + 0 ≤ R.slots) (kk : ∀ (H1 : Heap) (locs1 : List Loc), HS G s x H1 locs1 → W p l e R s m args below meth c H1 locs1 cells slots Q (F0 m (pc + 3) ls rest)) : W p l e R s m args below meth c H locs cells slots Q (F0 m pc ls (.ref q0 :: .ref a :: rest)) := by
  refine kV0 hH (rV (As := [.ref q0]) (rest := rest) X hH (t_X5_readItem h) vc_5 (c_X5_readItem l G μ a q0 x h) (List.forall_mem_cons.mpr ⟨u_526, (List.forall_mem_cons.mpr ⟨u_528, (List.forall_mem_cons.mpr ⟨u_10, (List.forall_mem_cons.mpr ⟨u_26, (fun _ h9 => absurd h9 List.not_mem_nil)⟩)⟩)⟩)⟩) u_529 (rmo hRL (Nat.le_trans (by decide) hk.1) (Nat.le_trans (by decide) hk.2)) ddV_X5_readItem rfl hls rfl hroom hdg hcs) kk
set_option maxHeartbeats 4000000 in
set_option maxRecDepth 100000 in
theorem w_X5_read_38 {p : Program} {e : Env} {R : Room} {s : State} {m : MethodId} {args : Array Value} {below : List Frame} {meth : Method} {c : Code} {cells slots : Nat} {Q : State → Prop} {G : CG} (l : Launch) (X : Cx p s m args meth c cX5_read 3 RX5 G) (hRL : RmL R 6 114) (hcs : cells ≤ R.cells ∧ slots ≤ R.slots) : ∀ (n : Nat) (v0 : Nat) (v1 : Nat) (v2 : Int32) (μ : Mm) (x : Mm), lp_X5_read_38 n v0 v1 v2 μ = some x → (∀ (H : Heap) (locs : List Loc) (ls : Array Slot), HS G s x H locs → lv_has ls 3 [(0, .ref v0), (1, .ref v1)] → W p l e R s m args below meth c H locs cells slots Q (F0 m 72 ls [])) → ∀ (H : Heap) (locs : List Loc) (ls : Array Slot), HS G s μ H locs → lv_has ls 3 [(0, .ref v0), (1, .ref v1), (2, .int v2)] → W p l e R s m args below meth c H locs cells slots Q (F0 m 38 ls []) := by
  have hx := X.1
  have hb := X.2.1
  have hown := X.2.2.2.1
  have hts := X.2.2.2.2.1
  intro n
  induction n with
  | zero =>
    intro v0 v1 v2 μ x h
    rw [lp_X5_read_38] at h
    cases h
  | succ n ih =>
    intro v0 v1 v2 μ x h k0 H locs ls hH hl
    rw [lp_X5_read_38] at h
    refine lv_iload_n hx hb dX5_read_38 rfl (lv_at hl 2 rfl) ?_
    refine lv_bipush (v := 60) hx hb dX5_read_39 (by decide) ?_
    refine lv_icmp_ge (tgt := 72) hx hb dX5_read_41 (by decide) (fun hc8 => ?_) (fun hc8 => ?_)
    · replace h := ift h hc8
      cases h
      exact k0 _ _ _ hH (lv_sub hl [0, 1] rfl)
    · replace h := iff' h hc8
      refine lv_aload_n hx hb dX5_read_44 rfl (lv_at hl 0 rfl) ?_
      obtain ⟨x9, hx9, h⟩ := bnd h
      refine gf_X5_35 X hH hx9 dX5_read_45 ?_
      refine lv_bipush (v := -9) hx hb dX5_read_48 (by decide) ?_
      refine lv_icmp_ne (tgt := 72) hx hb dX5_read_50 (by decide) (fun hc10 => ?_) (fun hc10 => ?_)
      · replace h := iff' h hc10
        cases h
        exact k0 _ _ _ hH (lv_sub hl [0, 1] rfl)
      · replace h := ift h hc10
        refine lv_aload_n hx hb dX5_read_53 rfl (lv_at hl 0 rfl) ?_
        refine lv_aload_n hx hb dX5_read_54 rfl (lv_at hl 1 rfl) ?_
        obtain ⟨x11, hx11, h⟩ := bnd h
        refine iv_X5_42 l X hH hRL (by decide) hx11 hl.1 (Nat.le_of_ble_eq_true rfl) dX5_read_55 hcs (fun H locs hH => ?_)
        refine lv_if_eq (tgt := 72) hx hb dX5_read_58 (by decide) (fun hc12 => ?_) (fun hc12 => ?_)
        · replace h := ift h hc12
          cases h
          exact k0 _ _ _ hH (lv_sub hl [0, 1] rfl)
        · replace h := iff' h hc12
          refine lv_aload_n hx hb dX5_read_61 rfl (lv_at hl 0 rfl) ?_
          refine lv_aload_n hx hb dX5_read_62 rfl (lv_at hl 1 rfl) ?_
          obtain ⟨x13, hx13, h⟩ := bnd h
          refine iv_X5_46 l X hH hRL (by decide) hx13 hl.1 (Nat.le_of_ble_eq_true rfl) dX5_read_63 hcs (fun H locs hH => ?_)
          refine lv_iinc (v := (v2 + 1)) (lv' := [(2, .int (v2 + 1)), (0, .ref v0), (1, .ref v1)]) hx hb dX5_read_66 hl (k := 2) rfl rfl (by decide) rfl (fun ls hl => ?_)
          refine lv_goto (tgt := 38) hx hb dX5_read_69 (by decide) ?_
          exact ih _ _ _ _ _ h k0 _ _ _ hH (lv_sub hl [1, 2, 0] rfl)
theorem t_X5_read {μ : Mm} {a0 : Nat} {p1 : Nat} {x : Int32 × Mm} (h : f_X5_read μ a0 p1 = some x) : tg μ a0 = 6 := by
  unfold f_X5_read at h
  exact (gsn h).1
set_option maxHeartbeats 4000000 in
set_option maxRecDepth 100000 in
theorem c_X5_read (l : Launch) (G : CG) (μ : Mm) (a0 : Nat) (p1 : Nat) (x : Int32 × Mm) (h : f_X5_read μ a0 p1 = some x) : Met l yX5_read (.code yX5_read cX5_read 3 (some .int) :: UW) (rmk 6 114 0 0) (PC G [.ref a0, .ref p1] μ) (QI G x.1 x.2) 0 0 (fA G) := by
  refine Met.ofW (cc := cX5_read) (maxL := 3) (ret := (some .int)) (by decide) rfl ?_
  intro p e s m args below meth c s₁ B hml hv
  obtain ⟨X, hH, hr, rfl, hnm⟩ := cx_in B hml hv
  have X : Cx p s m _ meth c cX5_read 3 RX5 G := X
  have hx := X.1
  have hb := X.2.1
  have hown := X.2.2.2.1
  have hts := X.2.2.2.2.1
  have hRL : RmL (rmk 6 114 0 0) 6 114 := ⟨Nat.le_refl _, Nat.le_refl _⟩
  have hcs : 0 ≤ (rmk 0 0 0 0).cells ∧ 0 ≤ (rmk 0 0 0 0).slots := ⟨Nat.zero_le _, Nat.zero_le _⟩
  refine ls_in (Nat.le_of_ble_eq_true rfl) (fun ls hl => ?_)
  have hl : lv_has ls 3 [(0, .ref a0), (1, .ref p1)] := hl
  unfold f_X5_read at h
  obtain ⟨htg, h⟩ := gsn h
  refine lv_aload_n hx hb dX5_read_0 rfl (lv_at hl 0 rfl) ?_
  refine lv_iconst (v := 0) hx hb dX5_read_1 (by decide) ?_
  obtain ⟨x1, hx1, h⟩ := bnd h
  refine pf_X5_18 X hH hx1 dX5_read_2 (fun H locs hH => ?_)
  refine lv_aload_n hx hb dX5_read_5 rfl (lv_at hl 0 rfl) ?_
  refine lv_iconst (v := 0) hx hb dX5_read_6 (by decide) ?_
  obtain ⟨x2, hx2, h⟩ := bnd h
  refine pf_X5_22 X hH hx2 dX5_read_7 (fun H locs hH => ?_)
  refine lv_aload_n hx hb dX5_read_10 rfl (lv_at hl 0 rfl) ?_
  refine lv_lconst (v := 0) hx hb dX5_read_11 (by decide) ?_
  obtain ⟨x3, hx3, h⟩ := bnd h
  refine pf_X5_25 X hH hx3 dX5_read_12 (fun H locs hH => ?_)
  refine lv_aload_n hx hb dX5_read_15 rfl (lv_at hl 0 rfl) ?_
  refine lv_iconst (v := 0) hx hb dX5_read_16 (by decide) ?_
  obtain ⟨x4, hx4, h⟩ := bnd h
  refine pf_X5_29 X hH hx4 dX5_read_17 (fun H locs hH => ?_)
  refine lv_aload_n hx hb dX5_read_20 rfl (lv_at hl 0 rfl) ?_
  refine lv_iconst (v := 0) hx hb dX5_read_21 (by decide) ?_
  obtain ⟨x5, hx5, h⟩ := bnd h
  refine pf_X5_32 X hH hx5 dX5_read_22 (fun H locs hH => ?_)
  refine lv_aload_n hx hb dX5_read_25 rfl (lv_at hl 0 rfl) ?_
  refine lv_bipush (v := -9) hx hb dX5_read_26 (by decide) ?_
  obtain ⟨x6, hx6, h⟩ := bnd h
  refine pf_X5_35 X hH hx6 dX5_read_28 (fun H locs hH => ?_)
  refine lv_aload_n hx hb dX5_read_31 rfl (lv_at hl 0 rfl) ?_
  refine lv_aload_n hx hb dX5_read_32 rfl (lv_at hl 1 rfl) ?_
  obtain ⟨x7, hx7, h⟩ := bnd h
  refine iv_X5_38 l X hH hRL (by decide) hx7 hl.1 (Nat.le_of_ble_eq_true rfl) dX5_read_33 hcs (fun H locs hH => ?_)
  refine lv_iconst (v := 0) hx hb dX5_read_36 (by decide) ?_
  refine lv_istore_n (lv' := [(2, .int (0 : Int32)), (0, .ref a0), (1, .ref p1)]) hx hb dX5_read_37 rfl hl (by decide) rfl (fun ls hl => ?_)
  obtain ⟨x14, hx14, hhx14⟩ := bnd h
  clear h
  refine w_X5_read_38 l X hRL hcs BIG a0 p1 (0 : Int32) x7 x14 hx14 (fun H locs ls hH hl => ?_) _ _ _ hH (lv_sub hl [1, 2, 0] rfl)
  · have h := hhx14
    clear hhx14
    refine lv_aload_n hx hb dX5_read_72 rfl (lv_at hl 0 rfl) ?_
    obtain ⟨x15, hx15, h⟩ := bnd h
    refine gf_X5_35 X hH hx15 dX5_read_73 ?_
    refine lv_bipush (v := -9) hx hb dX5_read_76 (by decide) ?_
    refine lv_icmp_ne (tgt := 96) hx hb dX5_read_78 (by decide) (fun hc16 => ?_) (fun hc16 => ?_)
    · replace h := iff' h hc16
      refine lv_aload_n hx hb dX5_read_96 rfl (lv_at hl 0 rfl) ?_
      obtain ⟨x17, hx17, h⟩ := bnd h
      refine gf_X5_35 X hH hx17 dX5_read_97 ?_
      exact eI X hH h hr dX5_read_100 (Nat.le_of_ble_eq_true rfl) (Nat.le_of_ble_eq_true rfl)
    · replace h := ift h hc16
      refine lv_aload_n hx hb dX5_read_81 rfl (lv_at hl 0 rfl) ?_
      obtain ⟨x18, hx18, h⟩ := bnd h
      refine gf_X5_18 X hH hx18 dX5_read_82 ?_
      refine lv_if_ne (tgt := 96) hx hb dX5_read_85 (by decide) (fun hc19 => ?_) (fun hc19 => ?_)
      · replace h := iff' h hc19
        refine lv_aload_n hx hb dX5_read_96 rfl (lv_at hl 0 rfl) ?_
        obtain ⟨x20, hx20, h⟩ := bnd h
        refine gf_X5_35 X hH hx20 dX5_read_97 ?_
        exact eI X hH h hr dX5_read_100 (Nat.le_of_ble_eq_true rfl) (Nat.le_of_ble_eq_true rfl)
      · replace h := ift h hc19
        refine lv_aload_n hx hb dX5_read_88 rfl (lv_at hl 0 rfl) ?_
        refine lv_aload_n hx hb dX5_read_89 rfl (lv_at hl 1 rfl) ?_
        obtain ⟨x21, hx21, h⟩ := bnd h
        refine gf_X5_49 X hH hx21 dX5_read_90 ?_
        obtain ⟨x22, hx22, h⟩ := bnd h
        refine pf_X5_35 X hH hx22 dX5_read_93 (fun H locs hH => ?_)
        refine lv_aload_n hx hb dX5_read_96 rfl (lv_at hl 0 rfl) ?_
        obtain ⟨x23, hx23, h⟩ := bnd h
        refine gf_X5_35 X hH hx23 dX5_read_97 ?_
        exact eI X hH h hr dX5_read_100 (Nat.le_of_ble_eq_true rfl) (Nat.le_of_ble_eq_true rfl)
theorem t_X7_init {μ : Mm} {a0 : Nat} {x : Mm} (h : f_X7_init μ a0 = some x) : tg μ a0 = 8 := by
  unfold f_X7_init at h
  exact (gsn h).1
set_option maxHeartbeats 4000000 in
set_option maxRecDepth 100000 in
theorem c_X7_init (l : Launch) (G : CG) (μ : Mm) (a0 : Nat) (x : Mm) (h : f_X7_init μ a0 = some x) : Met l yX7_init (.code yX7_init cX7_init 1 none :: UW) (rmk 1 32 4 256) (PC G [.ref a0] μ) (QV G x) 4 256 (fA G) := by
  refine Met.ofW (cc := cX7_init) (maxL := 1) (ret := none) (by decide) rfl ?_
  intro p e s m args below meth c s₁ B hml hv
  obtain ⟨X, hH, hr, rfl, hnm⟩ := cx_in B hml hv
  have X : Cx p s m _ meth c cX7_init 1 RX7 G := X
  have hx := X.1
  have hb := X.2.1
  have hown := X.2.2.2.1
  have hts := X.2.2.2.2.1
  have hnm : meth.name = "<init>" := hnm
  have hRL : RmL (rmk 1 32 4 256) 1 32 := ⟨Nat.le_refl _, Nat.le_refl _⟩
  refine ls_in (Nat.le_of_ble_eq_true rfl) (fun ls hl => ?_)
  have hl : lv_has ls 1 [(0, .ref a0)] := hl
  unfold f_X7_init at h
  obtain ⟨htg, h⟩ := gsn h
  refine lv_aload_n hx hb dX7_init_0 rfl (lv_at hl 0 rfl) ?_
  refine w_oi X hRL (by decide) hl.1 u_199 u_40 u_41 (Nat.le_of_ble_eq_true rfl) dX7_init_1 ?_
  refine lv_aload_n hx hb dX7_init_4 rfl (lv_at hl 0 rfl) ?_
  refine lv_bipush (v := 64) hx hb dX7_init_5 (by decide) ?_
  obtain ⟨x1, hx1, h⟩ := bnd h
  refine w_na X hH (atype := .int) (k := 1) hx1 u_74 (by decide) rfl (fun n' h9 => Nat.le_trans (Nat.mul_le_mul_right _ h9) (by decide)) (ce_I _) (Nat.le_of_ble_eq_true rfl) (Nat.le_of_ble_eq_true rfl) dX7_init_7 (fun H hH => ?_)
  obtain ⟨x2, hx2, h⟩ := bnd h
  refine pf_X7_9 X hnm hH hx2 dX7_init_9 (fun H locs hH => ?_)
  refine lv_aload_n hx hb dX7_init_12 rfl (lv_at hl 0 rfl) ?_
  refine lv_bipush (v := 64) hx hb dX7_init_13 (by decide) ?_
  obtain ⟨x3, hx3, h⟩ := bnd h
  refine w_na X hH (atype := .int) (k := 1) hx3 u_74 (by decide) rfl (fun n' h9 => Nat.le_trans (Nat.mul_le_mul_right _ h9) (by decide)) (ce_I _) (Nat.le_of_ble_eq_true rfl) (Nat.le_of_ble_eq_true rfl) dX7_init_15 (fun H hH => ?_)
  obtain ⟨x4, hx4, h⟩ := bnd h
  refine pf_X7_15 X hnm hH hx4 dX7_init_17 (fun H locs hH => ?_)
  refine lv_aload_n hx hb dX7_init_20 rfl (lv_at hl 0 rfl) ?_
  refine lv_bipush (v := 64) hx hb dX7_init_21 (by decide) ?_
  obtain ⟨x5, hx5, h⟩ := bnd h
  refine w_na X hH (atype := .boolean) (k := 3) hx5 u_225 (by decide) rfl (fun n' h9 => Nat.le_trans (Nat.mul_le_mul_right _ h9) (by decide)) (ce_Z _) (Nat.le_of_ble_eq_true rfl) (Nat.le_of_ble_eq_true rfl) dX7_init_23 (fun H hH => ?_)
  obtain ⟨x6, hx6, h⟩ := bnd h
  refine pf_X7_18 X hnm hH hx6 dX7_init_25 (fun H locs hH => ?_)
  refine lv_aload_n hx hb dX7_init_28 rfl (lv_at hl 0 rfl) ?_
  refine lv_bipush (v := 64) hx hb dX7_init_29 (by decide) ?_
  obtain ⟨x7, hx7, h⟩ := bnd h
  refine w_na X hH (atype := .int) (k := 1) hx7 u_74 (by decide) rfl (fun n' h9 => Nat.le_trans (Nat.mul_le_mul_right _ h9) (by decide)) (ce_I _) (Nat.le_of_ble_eq_true rfl) (Nat.le_of_ble_eq_true rfl) dX7_init_31 (fun H hH => ?_)
  obtain ⟨x8, hx8, h⟩ := bnd h
  refine pf_X7_22 X hnm hH hx8 dX7_init_33 (fun H locs hH => ?_)
  refine lv_aload_n hx hb dX7_init_36 rfl (lv_at hl 0 rfl) ?_
  refine lv_iconst (v := 0) hx hb dX7_init_37 (by decide) ?_
  obtain ⟨x9, hx9, h⟩ := bnd h
  refine pf_X7_25 X hH hx9 dX7_init_38 (fun H locs hH => ?_)
  refine lv_aload_n hx hb dX7_init_41 rfl (lv_at hl 0 rfl) ?_
  refine lv_iconst (v := 0) hx hb dX7_init_42 (by decide) ?_
  obtain ⟨x10, hx10, h⟩ := bnd h
  refine pf_X7_29 X hH hx10 dX7_init_43 (fun H locs hH => ?_)
  refine lv_aload_n hx hb dX7_init_46 rfl (lv_at hl 0 rfl) ?_
  refine lv_iconst (v := -1) hx hb dX7_init_47 (by decide) ?_
  obtain ⟨x11, hx11, h⟩ := bnd h
  refine pf_X7_32 X hH hx11 dX7_init_48 (fun H locs hH => ?_)
  refine lv_aload_n hx hb dX7_init_51 rfl (lv_at hl 0 rfl) ?_
  refine lv_iconst (v := 0) hx hb dX7_init_52 (by decide) ?_
  obtain ⟨x12, hx12, h⟩ := bnd h
  refine pf_X7_35 X hH hx12 dX7_init_53 (fun H locs hH => ?_)
  exact eV X hH h hr dX7_init_56 (Nat.le_of_ble_eq_true rfl) (Nat.le_of_ble_eq_true rfl)
set_option maxHeartbeats 1000000 in
theorem iv_X7_47 {p : Program} {e : Env} {R : Room} {s : State} {m : MethodId} {args : Array Value} {below : List Frame} {meth : Method} {c : Code} {H : Heap} {locs : List Loc} {cells slots : Nat} {Q : State → Prop} {cc : ByteArray} {pc : Nat} {ls : Array Slot} {rest : List Value} {nL : Nat} {G : CG} {μ : Mm} {a : Nat} {q0 : Int32} {x : Int32} {k k2 : Nat} (l : Launch) (X : Cx p s m args meth c cc nL RX7 G) (hH : HS G s μ H locs) (hRL : RmL R k k2) (hk : 4 + 1 ≤ k ∧ 82 ≤ k2) (h : f_X3_treadNow μ a q0 = some x) (hls : ls.size = nL) (hroom : (rest.map fun v => v.category).sum ≤ 8) (hdg : decode cc pc = .ok (.invokevirtual 47, 3)) (hcs : cells + 0 ≤ R.cells ∧ slots + 0 ≤ R.slots) (kk : ∀ (H1 : Heap) (locs1 : List Loc), HS G s μ H1 locs1 → W p l e R s m args below meth c H1 locs1 cells slots Q (F0 m (pc + 3) ls (.int x :: rest))) : W p l e R s m args below meth c H locs cells slots Q (F0 m pc ls (.int q0 :: .ref a :: rest)) := by
  refine kI hH (rV (As := [.int q0]) (rest := rest) X hH (t_X3_treadNow h) vc_3 (c_X3_treadNow l G μ a q0 x h) (List.forall_mem_cons.mpr ⟨u_682, (List.forall_mem_cons.mpr ⟨u_450, (List.forall_mem_cons.mpr ⟨u_451, (List.forall_mem_cons.mpr ⟨u_22, (fun _ h9 => absurd h9 List.not_mem_nil)⟩)⟩)⟩)⟩) u_452 (rmo hRL (Nat.le_trans (by decide) hk.1) (Nat.le_trans (by decide) hk.2)) ddV_X3_treadNow rfl hls rfl hroom hdg hcs) kk
set_option maxHeartbeats 1000000 in
theorem iv_X7_51 {p : Program} {e : Env} {R : Room} {s : State} {m : MethodId} {args : Array Value} {below : List Frame} {meth : Method} {c : Code} {H : Heap} {locs : List Loc} {cells slots : Nat} {Q : State → Prop} {cc : ByteArray} {pc : Nat} {ls : Array Slot} {rest : List Value} {nL : Nat} {G : CG} {μ : Mm} {a : Nat} {q0 : Int32} {x : Int32} {k k2 : Nat} (l : Launch) (X : Cx p s m args meth c cc nL RX7 G) (hH : HS G s μ H locs) (hRL : RmL R k k2) (hk : 3 + 1 ≤ k ∧ 64 ≤ k2) (h : f_X3_wrap μ a q0 = some x) (hls : ls.size = nL) (hroom : (rest.map fun v => v.category).sum ≤ 8) (hdg : decode cc pc = .ok (.invokevirtual 51, 3)) (hcs : cells + 0 ≤ R.cells ∧ slots + 0 ≤ R.slots) (kk : ∀ (H1 : Heap) (locs1 : List Loc), HS G s μ H1 locs1 → W p l e R s m args below meth c H1 locs1 cells slots Q (F0 m (pc + 3) ls (.int x :: rest))) : W p l e R s m args below meth c H locs cells slots Q (F0 m pc ls (.int q0 :: .ref a :: rest)) := by
  refine kI hH (rV (As := [.int q0]) (rest := rest) X hH (t_X3_wrap h) vc_3 (c_X3_wrap l G μ a q0 x h) (List.forall_mem_cons.mpr ⟨u_683, (List.forall_mem_cons.mpr ⟨u_373, (List.forall_mem_cons.mpr ⟨u_374, (List.forall_mem_cons.mpr ⟨u_22, (fun _ h9 => absurd h9 List.not_mem_nil)⟩)⟩)⟩)⟩) u_375 (rmo hRL (Nat.le_trans (by decide) hk.1) (Nat.le_trans (by decide) hk.2)) ddV_X3_wrap rfl hls rfl hroom hdg hcs) kk
set_option maxHeartbeats 1000000 in
theorem iv_X7_57 {p : Program} {e : Env} {R : Room} {s : State} {m : MethodId} {args : Array Value} {below : List Frame} {meth : Method} {c : Code} {H : Heap} {locs : List Loc} {cells slots : Nat} {Q : State → Prop} {cc : ByteArray} {pc : Nat} {ls : Array Slot} {rest : List Value} {nL : Nat} {G : CG} {μ : Mm} {a : Nat} {q0 : Int32} {x : Int32} {k k2 : Nat} (l : Launch) (X : Cx p s m args meth c cc nL RX7 G) (hH : HS G s μ H locs) (hRL : RmL R k k2) (hk : 2 + 1 ≤ k ∧ 42 ≤ k2) (h : f_X3_hasRentAt μ a q0 = some x) (hls : ls.size = nL) (hroom : (rest.map fun v => v.category).sum ≤ 8) (hdg : decode cc pc = .ok (.invokevirtual 57, 3)) (hcs : cells + 0 ≤ R.cells ∧ slots + 0 ≤ R.slots) (kk : ∀ (H1 : Heap) (locs1 : List Loc), HS G s μ H1 locs1 → W p l e R s m args below meth c H1 locs1 cells slots Q (F0 m (pc + 3) ls (.int x :: rest))) : W p l e R s m args below meth c H locs cells slots Q (F0 m pc ls (.int q0 :: .ref a :: rest)) := by
  refine kI hH (rV (As := [.int q0]) (rest := rest) X hH (t_X3_hasRentAt h) vc_3 (c_X3_hasRentAt l G μ a q0 x h) (List.forall_mem_cons.mpr ⟨u_684, (List.forall_mem_cons.mpr ⟨u_383, (List.forall_mem_cons.mpr ⟨u_384, (List.forall_mem_cons.mpr ⟨u_22, (fun _ h9 => absurd h9 List.not_mem_nil)⟩)⟩)⟩)⟩) u_385 (rmo hRL (Nat.le_trans (by decide) hk.1) (Nat.le_trans (by decide) hk.2)) ddV_X3_hasRentAt rfl hls rfl hroom hdg hcs) kk
set_option maxHeartbeats 4000000 in
set_option maxRecDepth 100000 in
theorem w_X7_look_49 {p : Program} {e : Env} {R : Room} {s : State} {m : MethodId} {args : Array Value} {below : List Frame} {meth : Method} {c : Code} {cells slots : Nat} {Q : State → Prop} {G : CG} (l : Launch) (X : Cx p s m args meth c cX7_look 5 RX7 G) (hRL : RmL R 5 82) (hcs : cells ≤ R.cells ∧ slots ≤ R.slots) : ∀ (n : Nat) (v0 : Nat) (v1 : Nat) (v2 : Int32) (v3 : Int32) (v4 : Int32) (μ : Mm) (x : Mm), lp_X7_look_49 n v0 v1 v2 v3 v4 μ = some x → (∀ (H : Heap) (locs : List Loc) (ls : Array Slot), HS G s x H locs → lv_has ls 5 [(0, .ref v0), (1, .ref v1), (2, .int v2)] → W p l e R s m args below meth c H locs cells slots Q (F0 m 87 ls [])) → ∀ (H : Heap) (locs : List Loc) (ls : Array Slot), HS G s μ H locs → lv_has ls 5 [(0, .ref v0), (1, .ref v1), (2, .int v2), (3, .int v3), (4, .int v4)] → W p l e R s m args below meth c H locs cells slots Q (F0 m 49 ls []) := by
  have hx := X.1
  have hb := X.2.1
  have hown := X.2.2.2.1
  have hts := X.2.2.2.2.1
  intro n
  induction n with
  | zero =>
    intro v0 v1 v2 v3 v4 μ x h
    rw [lp_X7_look_49] at h
    cases h
  | succ n ih =>
    intro v0 v1 v2 v3 v4 μ x h k0 H locs ls hH hl
    rw [lp_X7_look_49] at h
    refine lv_iload hx hb dX7_look_49 (lv_at hl 4 rfl) ?_
    refine lv_iload_n hx hb dX7_look_51 rfl (lv_at hl 3 rfl) ?_
    refine lv_icmp_ge (tgt := 87) hx hb dX7_look_52 (by decide) (fun hc9 => ?_) (fun hc9 => ?_)
    · replace h := ift h hc9
      cases h
      exact k0 _ _ _ hH (lv_sub hl [0, 1, 2] rfl)
    · replace h := iff' h hc9
      refine lv_aload_n hx hb dX7_look_55 rfl (lv_at hl 0 rfl) ?_
      obtain ⟨x10, hx10, h⟩ := bnd h
      refine gf_X7_9 X hH hx10 dX7_look_56 ?_
      refine lv_iload hx hb dX7_look_59 (lv_at hl 4 rfl) ?_
      refine lv_iload_n hx hb dX7_look_61 rfl (lv_at hl 3 rfl) ?_
      refine lv_ior hx hb dX7_look_62 ?_
      refine lv_aload_n hx hb dX7_look_63 rfl (lv_at hl 1 rfl) ?_
      refine lv_aload_n hx hb dX7_look_64 rfl (lv_at hl 0 rfl) ?_
      obtain ⟨x11, hx11, h⟩ := bnd h
      refine gf_X7_9 X hH hx11 dX7_look_65 ?_
      refine lv_iload hx hb dX7_look_68 (lv_at hl 4 rfl) ?_
      obtain ⟨x12, hx12, h⟩ := bnd h
      refine w_aI X hH hx12 dX7_look_70 ?_
      refine lv_aload_n hx hb dX7_look_71 rfl (lv_at hl 1 rfl) ?_
      refine lv_iload_n hx hb dX7_look_72 rfl (lv_at hl 2 rfl) ?_
      obtain ⟨x13, hx13, h⟩ := bnd h
      refine iv_X7_47 l X hH hRL (by decide) hx13 hl.1 (Nat.le_of_ble_eq_true rfl) dX7_look_73 hcs (fun H locs hH => ?_)
      refine lv_iadd hx hb dX7_look_76 ?_
      obtain ⟨x14, hx14, h⟩ := bnd h
      refine iv_X7_51 l X hH hRL (by decide) hx14 hl.1 (Nat.le_of_ble_eq_true rfl) dX7_look_77 hcs (fun H locs hH => ?_)
      obtain ⟨x15, hx15, h⟩ := bnd h
      refine w_qI X hH hx15 dX7_look_80 (fun H locs hH => ?_)
      refine lv_iinc (v := (v4 + 1)) (lv' := [(4, .int (v4 + 1)), (0, .ref v0), (1, .ref v1), (2, .int v2), (3, .int v3)]) hx hb dX7_look_81 hl (k := 4) rfl rfl (by decide) rfl (fun ls hl => ?_)
      refine lv_goto (tgt := 49) hx hb dX7_look_84 (by decide) ?_
      exact ih _ _ _ _ _ _ _ h k0 _ _ _ hH (lv_sub hl [1, 2, 3, 4, 0] rfl)
set_option maxHeartbeats 4000000 in
set_option maxRecDepth 100000 in
theorem w_X7_look_34 {p : Program} {e : Env} {R : Room} {s : State} {m : MethodId} {args : Array Value} {below : List Frame} {meth : Method} {c : Code} {cells slots : Nat} {Q : State → Prop} {G : CG} (l : Launch) (X : Cx p s m args meth c cX7_look 5 RX7 G) (hRL : RmL R 5 82) (hcs : cells ≤ R.cells ∧ slots ≤ R.slots) : ∀ (n : Nat) (v0 : Nat) (v1 : Nat) (v2 : Int32) (μ : Mm) (x : Mm), lp_X7_look_34 n v0 v1 v2 μ = some x → (∀ (H : Heap) (locs : List Loc) (ls : Array Slot), HS G s x H locs → lv_has ls 5 [(0, .ref v0), (1, .ref v1)] → W p l e R s m args below meth c H locs cells slots Q (F0 m 93 ls [])) → ∀ (H : Heap) (locs : List Loc) (ls : Array Slot), HS G s μ H locs → lv_has ls 5 [(0, .ref v0), (1, .ref v1), (2, .int v2)] → W p l e R s m args below meth c H locs cells slots Q (F0 m 34 ls []) := by
  have hx := X.1
  have hb := X.2.1
  have hown := X.2.2.2.1
  have hts := X.2.2.2.2.1
  intro n
  induction n with
  | zero =>
    intro v0 v1 v2 μ x h
    rw [lp_X7_look_34] at h
    cases h
  | succ n ih =>
    intro v0 v1 v2 μ x h k0 H locs ls hH hl
    rw [lp_X7_look_34] at h
    refine lv_iload_n hx hb dX7_look_34 rfl (lv_at hl 2 rfl) ?_
    refine lv_aload_n hx hb dX7_look_35 rfl (lv_at hl 0 rfl) ?_
    obtain ⟨x7, hx7, h⟩ := bnd h
    refine gf_X7_25 X hH hx7 dX7_look_36 ?_
    refine lv_icmp_ge (tgt := 93) hx hb dX7_look_39 (by decide) (fun hc8 => ?_) (fun hc8 => ?_)
    · replace h := ift h hc8
      cases h
      exact k0 _ _ _ hH (lv_sub hl [0, 1] rfl)
    · replace h := iff' h hc8
      refine lv_iconst (v := 1) hx hb dX7_look_42 (by decide) ?_
      refine lv_iload_n hx hb dX7_look_43 rfl (lv_at hl 2 rfl) ?_
      refine lv_ishl hx hb dX7_look_44 ?_
      refine lv_istore_n (lv' := [(3, .int ((1 : Int32) <<< (v2 &&& 31))), (0, .ref v0), (1, .ref v1), (2, .int v2)]) hx hb dX7_look_45 rfl hl (by decide) rfl (fun ls hl => ?_)
      refine lv_iconst (v := 0) hx hb dX7_look_46 (by decide) ?_
      refine lv_istore (lv' := [(4, .int (0 : Int32)), (3, .int ((1 : Int32) <<< (v2 &&& 31))), (0, .ref v0), (1, .ref v1), (2, .int v2)]) hx hb dX7_look_47 hl (by decide) rfl (fun ls hl => ?_)
      obtain ⟨x16, hx16, hhx16⟩ := bnd h
      clear h
      refine w_X7_look_49 l X hRL hcs BIG v0 v1 v2 ((1 : Int32) <<< (v2 &&& 31)) (0 : Int32) μ x16 hx16 (fun H locs ls hH hl => ?_) _ _ _ hH (lv_sub hl [2, 3, 4, 1, 0] rfl)
      · have h := hhx16
        clear hhx16
        refine lv_iinc (v := (v2 + 1)) (lv' := [(2, .int (v2 + 1)), (0, .ref v0), (1, .ref v1)]) hx hb dX7_look_87 hl (k := 2) rfl rfl (by decide) rfl (fun ls hl => ?_)
        refine lv_goto (tgt := 34) hx hb dX7_look_90 (by decide) ?_
        exact ih _ _ _ _ _ h k0 _ _ _ hH (lv_sub hl [1, 2, 0] rfl)
set_option maxHeartbeats 4000000 in
set_option maxRecDepth 100000 in
theorem w_X7_look_95 {p : Program} {e : Env} {R : Room} {s : State} {m : MethodId} {args : Array Value} {below : List Frame} {meth : Method} {c : Code} {cells slots : Nat} {Q : State → Prop} {G : CG} (l : Launch) (X : Cx p s m args meth c cX7_look 5 RX7 G) (hRL : RmL R 5 82) (hcs : cells ≤ R.cells ∧ slots ≤ R.slots) : ∀ (n : Nat) (v0 : Nat) (v1 : Nat) (v2 : Int32) (μ : Mm) (x : Mm), lp_X7_look_95 n v0 v1 v2 μ = some x → (∀ (H : Heap) (locs : List Loc) (ls : Array Slot), HS G s x H locs → lv_has ls 5 [] → W p l e R s m args below meth c H locs cells slots Q (F0 m 146 ls [])) → ∀ (H : Heap) (locs : List Loc) (ls : Array Slot), HS G s μ H locs → lv_has ls 5 [(0, .ref v0), (1, .ref v1), (2, .int v2)] → W p l e R s m args below meth c H locs cells slots Q (F0 m 95 ls []) := by
  have hx := X.1
  have hb := X.2.1
  have hown := X.2.2.2.1
  have hts := X.2.2.2.2.1
  intro n
  induction n with
  | zero =>
    intro v0 v1 v2 μ x h
    rw [lp_X7_look_95] at h
    cases h
  | succ n ih =>
    intro v0 v1 v2 μ x h k0 H locs ls hH hl
    rw [lp_X7_look_95] at h
    refine lv_iload_n hx hb dX7_look_95 rfl (lv_at hl 2 rfl) ?_
    refine lv_aload_n hx hb dX7_look_96 rfl (lv_at hl 0 rfl) ?_
    obtain ⟨x18, hx18, h⟩ := bnd h
    refine gf_X7_29 X hH hx18 dX7_look_97 ?_
    refine lv_icmp_gt (tgt := 146) hx hb dX7_look_100 (by decide) (fun hc19 => ?_) (fun hc19 => ?_)
    · replace h := ift h hc19
      cases h
      exact k0 _ _ _ hH (lv_sub hl [] rfl)
    · replace h := iff' h hc19
      refine lv_aload_n hx hb dX7_look_103 rfl (lv_at hl 0 rfl) ?_
      obtain ⟨x20, hx20, h⟩ := bnd h
      refine gf_X7_15 X hH hx20 dX7_look_104 ?_
      refine lv_iload_n hx hb dX7_look_107 rfl (lv_at hl 2 rfl) ?_
      refine lv_aload_n hx hb dX7_look_108 rfl (lv_at hl 1 rfl) ?_
      refine lv_aload_n hx hb dX7_look_109 rfl (lv_at hl 1 rfl) ?_
      obtain ⟨x21, hx21, h⟩ := bnd h
      refine gf_X7_54 X hH hx21 dX7_look_110 ?_
      refine lv_aload_n hx hb dX7_look_113 rfl (lv_at hl 0 rfl) ?_
      obtain ⟨x22, hx22, h⟩ := bnd h
      refine gf_X7_9 X hH hx22 dX7_look_114 ?_
      refine lv_iload_n hx hb dX7_look_117 rfl (lv_at hl 2 rfl) ?_
      obtain ⟨x23, hx23, h⟩ := bnd h
      refine w_aI X hH hx23 dX7_look_118 ?_
      refine lv_iadd hx hb dX7_look_119 ?_
      obtain ⟨x24, hx24, h⟩ := bnd h
      refine iv_X7_51 l X hH hRL (by decide) hx24 hl.1 (Nat.le_of_ble_eq_true rfl) dX7_look_120 hcs (fun H locs hH => ?_)
      obtain ⟨x25, hx25, h⟩ := bnd h
      refine w_qI X hH hx25 dX7_look_123 (fun H locs hH => ?_)
      refine lv_aload_n hx hb dX7_look_124 rfl (lv_at hl 0 rfl) ?_
      obtain ⟨x26, hx26, h⟩ := bnd h
      refine gf_X7_18 X hH hx26 dX7_look_125 ?_
      refine lv_iload_n hx hb dX7_look_128 rfl (lv_at hl 2 rfl) ?_
      refine lv_aload_n hx hb dX7_look_129 rfl (lv_at hl 1 rfl) ?_
      refine lv_aload_n hx hb dX7_look_130 rfl (lv_at hl 0 rfl) ?_
      obtain ⟨x27, hx27, h⟩ := bnd h
      refine gf_X7_15 X hH hx27 dX7_look_131 ?_
      refine lv_iload_n hx hb dX7_look_134 rfl (lv_at hl 2 rfl) ?_
      obtain ⟨x28, hx28, h⟩ := bnd h
      refine w_aI X hH hx28 dX7_look_135 ?_
      obtain ⟨x29, hx29, h⟩ := bnd h
      refine iv_X7_57 l X hH hRL (by decide) hx29 hl.1 (Nat.le_of_ble_eq_true rfl) dX7_look_136 hcs (fun H locs hH => ?_)
      obtain ⟨x30, hx30, h⟩ := bnd h
      refine w_qZ X hH hx30 dX7_look_139 (fun H locs hH => ?_)
      refine lv_iinc (v := (v2 + 1)) (lv' := [(2, .int (v2 + 1)), (0, .ref v0), (1, .ref v1)]) hx hb dX7_look_140 hl (k := 2) rfl rfl (by decide) rfl (fun ls hl => ?_)
      refine lv_goto (tgt := 95) hx hb dX7_look_143 (by decide) ?_
      exact ih _ _ _ _ _ h k0 _ _ _ hH (lv_sub hl [1, 2, 0] rfl)
theorem t_X7_look {μ : Mm} {a0 : Nat} {p1 : Nat} {x : Mm} (h : f_X7_look μ a0 p1 = some x) : tg μ a0 = 8 := by
  unfold f_X7_look at h
  exact (gsn h).1
set_option maxHeartbeats 4000000 in
set_option maxRecDepth 100000 in
theorem c_X7_look (l : Launch) (G : CG) (μ : Mm) (a0 : Nat) (p1 : Nat) (x : Mm) (h : f_X7_look μ a0 p1 = some x) : Met l yX7_look (.code yX7_look cX7_look 5 none :: UW) (rmk 5 82 0 0) (PC G [.ref a0, .ref p1] μ) (QV G x) 0 0 (fA G) := by
  refine Met.ofW (cc := cX7_look) (maxL := 5) (ret := none) (by decide) rfl ?_
  intro p e s m args below meth c s₁ B hml hv
  obtain ⟨X, hH, hr, rfl, hnm⟩ := cx_in B hml hv
  have X : Cx p s m _ meth c cX7_look 5 RX7 G := X
  have hx := X.1
  have hb := X.2.1
  have hown := X.2.2.2.1
  have hts := X.2.2.2.2.1
  have hRL : RmL (rmk 5 82 0 0) 5 82 := ⟨Nat.le_refl _, Nat.le_refl _⟩
  have hcs : 0 ≤ (rmk 0 0 0 0).cells ∧ 0 ≤ (rmk 0 0 0 0).slots := ⟨Nat.zero_le _, Nat.zero_le _⟩
  refine ls_in (Nat.le_of_ble_eq_true rfl) (fun ls hl => ?_)
  have hl : lv_has ls 5 [(0, .ref a0), (1, .ref p1)] := hl
  unfold f_X7_look at h
  obtain ⟨htg, h⟩ := gsn h
  refine lv_aload_n hx hb dX7_look_0 rfl (lv_at hl 0 rfl) ?_
  refine lv_aload_n hx hb dX7_look_1 rfl (lv_at hl 1 rfl) ?_
  obtain ⟨x1, hx1, h⟩ := bnd h
  refine gf_X7_38 X hH hx1 dX7_look_2 ?_
  refine lv_bipush (v := 6) hx hb dX7_look_5 (by decide) ?_
  refine w_min X hRL (by decide) hl.1 u_681 u_101 u_24 u_102 hcs dX7_look_7 (Nat.le_of_ble_eq_true rfl) ?_
  obtain ⟨x2, hx2, h⟩ := bnd h
  refine pf_X7_25 X hH hx2 dX7_look_10 (fun H locs hH => ?_)
  refine lv_aload_n hx hb dX7_look_13 rfl (lv_at hl 0 rfl) ?_
  refine lv_iconst (v := 1) hx hb dX7_look_14 (by decide) ?_
  refine lv_aload_n hx hb dX7_look_15 rfl (lv_at hl 0 rfl) ?_
  obtain ⟨x3, hx3, h⟩ := bnd h
  refine gf_X7_25 X hH hx3 dX7_look_16 ?_
  refine lv_ishl hx hb dX7_look_19 ?_
  refine lv_iconst (v := 1) hx hb dX7_look_20 (by decide) ?_
  refine lv_isub hx hb dX7_look_21 ?_
  obtain ⟨x4, hx4, h⟩ := bnd h
  refine pf_X7_29 X hH hx4 dX7_look_22 (fun H locs hH => ?_)
  refine lv_aload_n hx hb dX7_look_25 rfl (lv_at hl 0 rfl) ?_
  obtain ⟨x5, hx5, h⟩ := bnd h
  refine gf_X7_9 X hH hx5 dX7_look_26 ?_
  refine lv_iconst (v := 0) hx hb dX7_look_29 (by decide) ?_
  refine lv_iconst (v := 0) hx hb dX7_look_30 (by decide) ?_
  obtain ⟨x6, hx6, h⟩ := bnd h
  refine w_qI X hH hx6 dX7_look_31 (fun H locs hH => ?_)
  refine lv_iconst (v := 0) hx hb dX7_look_32 (by decide) ?_
  refine lv_istore_n (lv' := [(2, .int (0 : Int32)), (0, .ref a0), (1, .ref p1)]) hx hb dX7_look_33 rfl hl (by decide) rfl (fun ls hl => ?_)
  obtain ⟨x17, hx17, hhx17⟩ := bnd h
  clear h
  refine w_X7_look_34 l X hRL hcs BIG a0 p1 (0 : Int32) x6 x17 hx17 (fun H locs ls hH hl => ?_) _ _ _ hH (lv_sub hl [1, 2, 0] rfl)
  · have h := hhx17
    clear hhx17
    refine lv_iconst (v := 0) hx hb dX7_look_93 (by decide) ?_
    refine lv_istore_n (lv' := [(2, .int (0 : Int32)), (0, .ref a0), (1, .ref p1)]) hx hb dX7_look_94 rfl hl (by decide) rfl (fun ls hl => ?_)
    obtain ⟨x31, hx31, hhx31⟩ := bnd h
    clear h
    refine w_X7_look_95 l X hRL hcs BIG a0 p1 (0 : Int32) x17 x31 hx31 (fun H locs ls hH hl => ?_) _ _ _ hH (lv_sub hl [1, 2, 0] rfl)
    · have h := hhx31
      clear hhx31
      exact eV X hH h hr dX7_look_146 (Nat.le_of_ble_eq_true rfl) (Nat.le_of_ble_eq_true rfl)
set_option maxHeartbeats 4000000 in
set_option maxRecDepth 100000 in
theorem c_X7_isIn (l : Launch) (G : CG) (μ : Mm) (p0 : Int32) (p1 : Int32) (x : Int32) (h : f_X7_isIn μ p0 p1 = some x) : Met l yX7_isIn (.code yX7_isIn cX7_isIn 2 (some .boolean) :: UW) (rmk 1 0 0 0) (PC G [.int p0, .int p1] μ) (QI G x μ) 0 0 (fA G) := by
  refine Met.ofW (cc := cX7_isIn) (maxL := 2) (ret := (some .boolean)) (by decide) rfl ?_
  intro p e s m args below meth c s₁ B hml hv
  obtain ⟨X, hH, hr, rfl, hnm⟩ := cx_in B hml hv
  have X : Cx p s m _ meth c cX7_isIn 2 RX7 G := X
  have hx := X.1
  have hb := X.2.1
  have hown := X.2.2.2.1
  have hts := X.2.2.2.2.1
  have hRL : RmL (rmk 1 0 0 0) 1 0 := ⟨Nat.le_refl _, Nat.le_refl _⟩
  have hcs : 0 ≤ (rmk 0 0 0 0).cells ∧ 0 ≤ (rmk 0 0 0 0).slots := ⟨Nat.zero_le _, Nat.zero_le _⟩
  refine ls_in (Nat.le_of_ble_eq_true rfl) (fun ls hl => ?_)
  have hl : lv_has ls 2 [(0, .int p0), (1, .int p1)] := hl
  unfold f_X7_isIn at h
  refine lv_iload_n hx hb dX7_isIn_0 rfl (lv_at hl 0 rfl) ?_
  refine lv_iload_n hx hb dX7_isIn_1 rfl (lv_at hl 1 rfl) ?_
  refine lv_ishr hx hb dX7_isIn_2 ?_
  refine lv_iconst (v := 1) hx hb dX7_isIn_3 (by decide) ?_
  refine lv_iand hx hb dX7_isIn_4 ?_
  refine lv_iconst (v := 1) hx hb dX7_isIn_5 (by decide) ?_
  refine lv_icmp_ne (tgt := 13) hx hb dX7_isIn_6 (by decide) (fun hc1 => ?_) (fun hc1 => ?_)
  · replace h := iff' h hc1
    refine lv_iconst (v := 0) hx hb dX7_isIn_13 (by decide) ?_
    exact eZp X hH (by decide) h hr dX7_isIn_14
  · replace h := ift h hc1
    refine lv_iconst (v := 1) hx hb dX7_isIn_9 (by decide) ?_
    refine lv_goto (tgt := 14) hx hb dX7_isIn_10 (by decide) ?_
    exact eZp X hH (by decide) h hr dX7_isIn_14
theorem t_X7_wrongsBy {μ : Mm} {a0 : Nat} {p1 : Int32} {p2 : Int32} {x : Int32} (h : f_X7_wrongsBy μ a0 p1 p2 = some x) : tg μ a0 = 8 := by
  unfold f_X7_wrongsBy at h
  exact (gsn h).1
set_option maxHeartbeats 4000000 in
set_option maxRecDepth 100000 in
theorem c_X7_wrongsBy (l : Launch) (G : CG) (μ : Mm) (a0 : Nat) (p1 : Int32) (p2 : Int32) (x : Int32) (h : f_X7_wrongsBy μ a0 p1 p2 = some x) : Met l yX7_wrongsBy (.code yX7_wrongsBy cX7_wrongsBy 5 (some .int) :: UW) (rmk 1 0 0 0) (PC G [.ref a0, .int p1, .int p2] μ) (QI G x μ) 0 0 (fA G) := by
  refine Met.ofW (cc := cX7_wrongsBy) (maxL := 5) (ret := (some .int)) (by decide) rfl ?_
  intro p e s m args below meth c s₁ B hml hv
  obtain ⟨X, hH, hr, rfl, hnm⟩ := cx_in B hml hv
  have X : Cx p s m _ meth c cX7_wrongsBy 5 RX7 G := X
  have hx := X.1
  have hb := X.2.1
  have hown := X.2.2.2.1
  have hts := X.2.2.2.2.1
  have hRL : RmL (rmk 1 0 0 0) 1 0 := ⟨Nat.le_refl _, Nat.le_refl _⟩
  have hcs : 0 ≤ (rmk 0 0 0 0).cells ∧ 0 ≤ (rmk 0 0 0 0).slots := ⟨Nat.zero_le _, Nat.zero_le _⟩
  refine ls_in (Nat.le_of_ble_eq_true rfl) (fun ls hl => ?_)
  have hl : lv_has ls 5 [(0, .ref a0), (1, .int p1), (2, .int p2)] := hl
  unfold f_X7_wrongsBy at h
  obtain ⟨htg, h⟩ := gsn h
  refine lv_iload_n hx hb dX7_wrongsBy_0 rfl (lv_at hl 1 rfl) ?_
  refine lv_iconst (v := 1) hx hb dX7_wrongsBy_1 (by decide) ?_
  refine lv_iload_n hx hb dX7_wrongsBy_2 rfl (lv_at hl 2 rfl) ?_
  refine lv_ishl hx hb dX7_wrongsBy_3 ?_
  refine lv_ior hx hb dX7_wrongsBy_4 ?_
  refine lv_istore_n (lv' := [(3, .int (p1 ||| ((1 : Int32) <<< (p2 &&& 31)))), (0, .ref a0), (1, .int p1), (2, .int p2)]) hx hb dX7_wrongsBy_5 rfl hl (by decide) rfl (fun ls hl => ?_)
  refine lv_aload_n hx hb dX7_wrongsBy_6 rfl (lv_at hl 1 rfl) ?_
  obtain ⟨x1, hx1, h⟩ := bnd h
  refine gf_X7_22 X hH hx1 dX7_wrongsBy_7 ?_
  refine lv_iload_n hx hb dX7_wrongsBy_10 rfl (lv_at hl 0 rfl) ?_
  obtain ⟨x2, hx2, h⟩ := bnd h
  refine w_aI X hH hx2 dX7_wrongsBy_11 ?_
  refine lv_istore (lv' := [(4, .int x2), (3, .int (p1 ||| ((1 : Int32) <<< (p2 &&& 31)))), (0, .ref a0), (1, .int p1), (2, .int p2)]) hx hb dX7_wrongsBy_12 hl (by decide) rfl (fun ls hl => ?_)
  refine lv_aload_n hx hb dX7_wrongsBy_14 rfl (lv_at hl 2 rfl) ?_
  obtain ⟨x3, hx3, h⟩ := bnd h
  refine gf_X7_18 X hH hx3 dX7_wrongsBy_15 ?_
  refine lv_iload_n hx hb dX7_wrongsBy_18 rfl (lv_at hl 1 rfl) ?_
  obtain ⟨x4, hx4, h⟩ := bnd h
  refine w_aZ X hH hx4 dX7_wrongsBy_19 ?_
  obtain ⟨x5, hbx5, hx5⟩ := bnd h
  clear h
  refine jn_lem (G := G) (x := x5) (M := 26) (nL := 5) (fun x5 => μ) (fun x5 => [(0, .ref a0), (2, .int p2), (3, .int (p1 ||| ((1 : Int32) <<< (p2 &&& 31)))), (4, .int x5)]) (fun x5 => []) (fun H locs ls hH hl => ?_) (fun jnx5 => ?_)
  · have h := hx5
    clear hx5 hbx5
    refine lv_iload_n hx hb dX7_wrongsBy_26 rfl (lv_at hl 1 rfl) ?_
    refine lv_aload_n hx hb dX7_wrongsBy_27 rfl (lv_at hl 0 rfl) ?_
    obtain ⟨x7, hx7, h⟩ := bnd h
    refine gf_X7_32 X hH hx7 dX7_wrongsBy_28 ?_
    refine lv_icmp_ne (tgt := 50) hx hb dX7_wrongsBy_31 (by decide) (fun hc8 => ?_) (fun hc8 => ?_)
    · replace h := iff' h hc8
      refine lv_iload hx hb dX7_wrongsBy_50 (lv_at hl 3 rfl) ?_
      exact eIp X hH h hr dX7_wrongsBy_52
    · replace h := ift h hc8
      refine lv_aload_n hx hb dX7_wrongsBy_34 rfl (lv_at hl 0 rfl) ?_
      obtain ⟨x9, hx9, h⟩ := bnd h
      refine gf_X7_15 X hH hx9 dX7_wrongsBy_35 ?_
      refine lv_iload_n hx hb dX7_wrongsBy_38 rfl (lv_at hl 2 rfl) ?_
      obtain ⟨x10, hx10, h⟩ := bnd h
      refine w_aI X hH hx10 dX7_wrongsBy_39 ?_
      refine lv_aload_n hx hb dX7_wrongsBy_40 rfl (lv_at hl 0 rfl) ?_
      obtain ⟨x11, hx11, h⟩ := bnd h
      refine gf_X7_35 X hH hx11 dX7_wrongsBy_41 ?_
      refine lv_icmp_eq (tgt := 50) hx hb dX7_wrongsBy_44 (by decide) (fun hc12 => ?_) (fun hc12 => ?_)
      · replace h := ift h hc12
        refine lv_iload hx hb dX7_wrongsBy_50 (lv_at hl 3 rfl) ?_
        exact eIp X hH h hr dX7_wrongsBy_52
      · replace h := iff' h hc12
        refine lv_iinc (v := (x5 + 1)) (lv' := [(4, .int (x5 + 1)), (0, .ref a0), (2, .int p2), (3, .int (p1 ||| ((1 : Int32) <<< (p2 &&& 31))))]) hx hb dX7_wrongsBy_47 hl (k := 3) rfl rfl (by decide) rfl (fun ls hl => ?_)
        refine lv_iload hx hb dX7_wrongsBy_50 (lv_at hl 0 rfl) ?_
        exact eIp X hH h hr dX7_wrongsBy_52
  · have h := hbx5
    clear hx5 hbx5
    refine lv_if_eq (tgt := 26) hx hb dX7_wrongsBy_20 (by decide) (fun hc6 => ?_) (fun hc6 => ?_)
    · replace h := ift h hc6
      cases h
      exact jnx5 _ _ _ hH (lv_sub hl [2, 4, 1, 0] rfl)
    · replace h := iff' h hc6
      refine lv_iinc (v := (x2 + 1)) (lv' := [(4, .int (x2 + 1)), (3, .int (p1 ||| ((1 : Int32) <<< (p2 &&& 31)))), (0, .ref a0), (1, .int p1), (2, .int p2)]) hx hb dX7_wrongsBy_23 hl (k := 0) rfl rfl (by decide) rfl (fun ls hl => ?_)
      cases h
      exact jnx5 _ _ _ hH (lv_sub hl [2, 4, 1, 0] rfl)
set_option maxHeartbeats 1000000 in
theorem iv_X7_61 {p : Program} {e : Env} {R : Room} {s : State} {m : MethodId} {args : Array Value} {below : List Frame} {meth : Method} {c : Code} {H : Heap} {locs : List Loc} {cells slots : Nat} {Q : State → Prop} {cc : ByteArray} {pc : Nat} {ls : Array Slot} {rest : List Value} {nL : Nat} {G : CG} {μ : Mm} {q0 : Int32} {q1 : Int32} {x : Int32} {k k2 : Nat} (l : Launch) (X : Cx p s m args meth c cc nL RX7 G) (hH : HS G s μ H locs) (hRL : RmL R k k2) (hk : 1 + 1 ≤ k ∧ 21 ≤ k2) (h : f_X7_isIn μ q0 q1 = some x) (hls : ls.size = nL) (hroom : (rest.map fun v => v.category).sum ≤ 8) (hdg : decode cc pc = .ok (.invokestatic 61, 3)) (hcs : cells + 0 ≤ R.cells ∧ slots + 0 ≤ R.slots) (kk : ∀ (H1 : Heap) (locs1 : List Loc), HS G s μ H1 locs1 → W p l e R s m args below meth c H1 locs1 cells slots Q (F0 m (pc + 3) ls (.int x :: rest))) : W p l e R s m args below meth c H locs cells slots Q (F0 m pc ls (.int q1 :: .int q0 :: rest)) := by
  refine kI hH (rS (As := [.int q0, .int q1]) (rest := rest) X hH (c_X7_isIn l G μ q0 q1 x h) (List.forall_mem_cons.mpr ⟨u_689, (List.forall_mem_cons.mpr ⟨u_690, (List.forall_mem_cons.mpr ⟨u_27, (fun _ h9 => absurd h9 List.not_mem_nil)⟩)⟩)⟩) u_691 (rmo hRL (Nat.le_trans (by decide) hk.1) (Nat.le_trans (by decide) hk.2)) ddS_X7_isIn rfl hls rfl hroom hdg hcs) kk
set_option maxHeartbeats 1000000 in
theorem iv_X7_65 {p : Program} {e : Env} {R : Room} {s : State} {m : MethodId} {args : Array Value} {below : List Frame} {meth : Method} {c : Code} {H : Heap} {locs : List Loc} {cells slots : Nat} {Q : State → Prop} {cc : ByteArray} {pc : Nat} {ls : Array Slot} {rest : List Value} {nL : Nat} {G : CG} {μ : Mm} {a : Nat} {q0 : Int32} {q1 : Int32} {x : Int32} {k k2 : Nat} (l : Launch) (X : Cx p s m args meth c cc nL RX7 G) (hH : HS G s μ H locs) (hRL : RmL R k k2) (hk : 1 + 1 ≤ k ∧ 24 ≤ k2) (h : f_X7_wrongsBy μ a q0 q1 = some x) (hls : ls.size = nL) (hroom : (rest.map fun v => v.category).sum ≤ 8) (hdg : decode cc pc = .ok (.invokevirtual 65, 3)) (hcs : cells + 0 ≤ R.cells ∧ slots + 0 ≤ R.slots) (kk : ∀ (H1 : Heap) (locs1 : List Loc), HS G s μ H1 locs1 → W p l e R s m args below meth c H1 locs1 cells slots Q (F0 m (pc + 3) ls (.int x :: rest))) : W p l e R s m args below meth c H locs cells slots Q (F0 m pc ls (.int q1 :: .int q0 :: .ref a :: rest)) := by
  refine kI hH (rV (As := [.int q0, .int q1]) (rest := rest) X hH (t_X7_wrongsBy h) vc_7 (c_X7_wrongsBy l G μ a q0 q1 x h) (List.forall_mem_cons.mpr ⟨u_692, (List.forall_mem_cons.mpr ⟨u_694, (List.forall_mem_cons.mpr ⟨u_15, (List.forall_mem_cons.mpr ⟨u_27, (fun _ h9 => absurd h9 List.not_mem_nil)⟩)⟩)⟩)⟩) u_695 (rmo hRL (Nat.le_trans (by decide) hk.1) (Nat.le_trans (by decide) hk.2)) ddV_X7_wrongsBy rfl hls rfl hroom hdg hcs) kk
set_option maxHeartbeats 4000000 in
set_option maxRecDepth 100000 in
theorem w_X7_weigh_38 {p : Program} {e : Env} {R : Room} {s : State} {m : MethodId} {args : Array Value} {below : List Frame} {meth : Method} {c : Code} {cells slots : Nat} {Q : State → Prop} {G : CG} (l : Launch) (X : Cx p s m args meth c cX7_weigh 6 RX7 G) (hRL : RmL R 2 32) (hcs : cells ≤ R.cells ∧ slots ≤ R.slots) : ∀ (n : Nat) (v0 : Nat) (v3 : Int32) (v4 : Int32) (v5 : Int32) (μ : Mm) (x : Int32), lp_X7_weigh_38 n v0 v3 v4 v5 μ = some x → (∀ (H : Heap) (locs : List Loc) (ls : Array Slot), HS G s μ H locs → lv_has ls 6 [(0, .ref v0), (3, .int v3), (4, .int x)] → W p l e R s m args below meth c H locs cells slots Q (F0 m 76 ls [])) → ∀ (H : Heap) (locs : List Loc) (ls : Array Slot), HS G s μ H locs → lv_has ls 6 [(0, .ref v0), (3, .int v3), (4, .int v4), (5, .int v5)] → W p l e R s m args below meth c H locs cells slots Q (F0 m 38 ls []) := by
  have hx := X.1
  have hb := X.2.1
  have hown := X.2.2.2.1
  have hts := X.2.2.2.2.1
  intro n
  induction n with
  | zero =>
    intro v0 v3 v4 v5 μ x h
    rw [lp_X7_weigh_38] at h
    cases h
  | succ n ih =>
    intro v0 v3 v4 v5 μ x h k0 H locs ls hH hl
    rw [lp_X7_weigh_38] at h
    refine lv_iload hx hb dX7_weigh_38 (lv_at hl 3 rfl) ?_
    refine lv_aload_n hx hb dX7_weigh_40 rfl (lv_at hl 0 rfl) ?_
    obtain ⟨x8, hx8, h⟩ := bnd h
    refine gf_X7_25 X hH hx8 dX7_weigh_41 ?_
    refine lv_icmp_ge (tgt := 76) hx hb dX7_weigh_44 (by decide) (fun hc9 => ?_) (fun hc9 => ?_)
    · replace h := ift h hc9
      cases h
      exact k0 _ _ _ hH (lv_sub hl [0, 1, 2] rfl)
    · replace h := iff' h hc9
      refine lv_iload_n hx hb dX7_weigh_47 rfl (lv_at hl 1 rfl) ?_
      refine lv_iload hx hb dX7_weigh_48 (lv_at hl 3 rfl) ?_
      obtain ⟨x10, hx10, h⟩ := bnd h
      refine iv_X7_61 l X hH hRL (by decide) hx10 hl.1 (Nat.le_of_ble_eq_true rfl) dX7_weigh_50 hcs (fun H locs hH => ?_)
      refine lv_if_ne (tgt := 70) hx hb dX7_weigh_53 (by decide) (fun hc11 => ?_) (fun hc11 => ?_)
      · replace h := iff' h hc11
        refine lv_iinc (v := (v5 + 1)) (lv' := [(5, .int (v5 + 1)), (0, .ref v0), (3, .int v3), (4, .int v4)]) hx hb dX7_weigh_70 hl (k := 3) rfl rfl (by decide) rfl (fun ls hl => ?_)
        refine lv_goto (tgt := 38) hx hb dX7_weigh_73 (by decide) ?_
        exact ih _ _ _ _ _ _ h k0 _ _ _ hH (lv_sub hl [1, 2, 3, 0] rfl)
      · replace h := ift h hc11
        refine lv_iload hx hb dX7_weigh_56 (lv_at hl 2 rfl) ?_
        refine lv_aload_n hx hb dX7_weigh_58 rfl (lv_at hl 0 rfl) ?_
        refine lv_iload_n hx hb dX7_weigh_59 rfl (lv_at hl 1 rfl) ?_
        refine lv_iload hx hb dX7_weigh_60 (lv_at hl 3 rfl) ?_
        obtain ⟨x12, hx12, h⟩ := bnd h
        refine iv_X7_65 l X hH hRL (by decide) hx12 hl.1 (Nat.le_of_ble_eq_true rfl) dX7_weigh_62 hcs (fun H locs hH => ?_)
        refine w_min X hRL (by decide) hl.1 u_681 u_101 u_24 u_102 hcs dX7_weigh_65 (Nat.le_of_ble_eq_true rfl) ?_
        refine lv_istore (lv' := [(4, .int (if x12 < v4 then x12 else v4)), (0, .ref v0), (3, .int v3), (5, .int v5)]) hx hb dX7_weigh_68 hl (by decide) rfl (fun ls hl => ?_)
        refine lv_iinc (v := (v5 + 1)) (lv' := [(5, .int (v5 + 1)), (4, .int (if x12 < v4 then x12 else v4)), (0, .ref v0), (3, .int v3)]) hx hb dX7_weigh_70 hl (k := 3) rfl rfl (by decide) rfl (fun ls hl => ?_)
        refine lv_goto (tgt := 38) hx hb dX7_weigh_73 (by decide) ?_
        exact ih _ _ _ _ _ _ h k0 _ _ _ hH (lv_sub hl [2, 3, 1, 0] rfl)
set_option maxHeartbeats 4000000 in
set_option maxRecDepth 100000 in
theorem w_X7_weigh_27 {p : Program} {e : Env} {R : Room} {s : State} {m : MethodId} {args : Array Value} {below : List Frame} {meth : Method} {c : Code} {cells slots : Nat} {Q : State → Prop} {G : CG} (l : Launch) (X : Cx p s m args meth c cX7_weigh 6 RX7 G) (hRL : RmL R 2 32) (hcs : cells ≤ R.cells ∧ slots ≤ R.slots) : ∀ (n : Nat) (v0 : Nat) (v3 : Int32) (μ : Mm) (x : Mm), lp_X7_weigh_27 n v0 v3 μ = some x → (∀ (H : Heap) (locs : List Loc) (ls : Array Slot), HS G s x H locs → lv_has ls 6 [] → W p l e R s m args below meth c H locs cells slots Q (F0 m 90 ls [])) → ∀ (H : Heap) (locs : List Loc) (ls : Array Slot), HS G s μ H locs → lv_has ls 6 [(0, .ref v0), (3, .int v3)] → W p l e R s m args below meth c H locs cells slots Q (F0 m 27 ls []) := by
  have hx := X.1
  have hb := X.2.1
  have hown := X.2.2.2.1
  have hts := X.2.2.2.2.1
  intro n
  induction n with
  | zero =>
    intro v0 v3 μ x h
    rw [lp_X7_weigh_27] at h
    cases h
  | succ n ih =>
    intro v0 v3 μ x h k0 H locs ls hH hl
    rw [lp_X7_weigh_27] at h
    refine lv_iload_n hx hb dX7_weigh_27 rfl (lv_at hl 1 rfl) ?_
    refine lv_if_lt (tgt := 90) hx hb dX7_weigh_28 (by decide) (fun hc7 => ?_) (fun hc7 => ?_)
    · replace h := ift h hc7
      cases h
      exact k0 _ _ _ hH (lv_sub hl [] rfl)
    · replace h := iff' h hc7
      refine lv_bipush (v := 64) hx hb dX7_weigh_31 (by decide) ?_
      refine lv_istore (lv' := [(4, .int (64 : Int32)), (0, .ref v0), (3, .int v3)]) hx hb dX7_weigh_33 hl (by decide) rfl (fun ls hl => ?_)
      refine lv_iconst (v := 0) hx hb dX7_weigh_35 (by decide) ?_
      refine lv_istore (lv' := [(5, .int (0 : Int32)), (4, .int (64 : Int32)), (0, .ref v0), (3, .int v3)]) hx hb dX7_weigh_36 hl (by decide) rfl (fun ls hl => ?_)
      obtain ⟨x13, hx13, hhx13⟩ := bnd h
      clear h
      refine w_X7_weigh_38 l X hRL hcs BIG v0 v3 (64 : Int32) (0 : Int32) μ x13 hx13 (fun H locs ls hH hl => ?_) _ _ _ hH (lv_sub hl [2, 3, 1, 0] rfl)
      · have h := hhx13
        clear hhx13
        refine lv_aload_n hx hb dX7_weigh_76 rfl (lv_at hl 0 rfl) ?_
        obtain ⟨x14, hx14, h⟩ := bnd h
        refine gf_X7_22 X hH hx14 dX7_weigh_77 ?_
        refine lv_iload_n hx hb dX7_weigh_80 rfl (lv_at hl 1 rfl) ?_
        refine lv_iload hx hb dX7_weigh_81 (lv_at hl 2 rfl) ?_
        obtain ⟨x15, hx15, h⟩ := bnd h
        refine w_qI X hH hx15 dX7_weigh_83 (fun H locs hH => ?_)
        refine lv_iinc (v := (v3 + (-1))) (lv' := [(3, .int (v3 + (-1))), (0, .ref v0), (4, .int x13)]) hx hb dX7_weigh_84 hl (k := 1) rfl rfl (by decide) rfl (fun ls hl => ?_)
        refine lv_goto (tgt := 27) hx hb dX7_weigh_87 (by decide) ?_
        exact ih _ _ _ _ h k0 _ _ _ hH (lv_sub hl [1, 0] rfl)
theorem t_X7_weigh {μ : Mm} {a0 : Nat} {p1 : Int32} {p2 : Int32} {x : Mm} (h : f_X7_weigh μ a0 p1 p2 = some x) : tg μ a0 = 8 := by
  unfold f_X7_weigh at h
  exact (gsn h).1
set_option maxHeartbeats 4000000 in
set_option maxRecDepth 100000 in
theorem c_X7_weigh (l : Launch) (G : CG) (μ : Mm) (a0 : Nat) (p1 : Int32) (p2 : Int32) (x : Mm) (h : f_X7_weigh μ a0 p1 p2 = some x) : Met l yX7_weigh (.code yX7_weigh cX7_weigh 6 none :: UW) (rmk 2 32 0 0) (PC G [.ref a0, .int p1, .int p2] μ) (QV G x) 0 0 (fA G) := by
  refine Met.ofW (cc := cX7_weigh) (maxL := 6) (ret := none) (by decide) rfl ?_
  intro p e s m args below meth c s₁ B hml hv
  obtain ⟨X, hH, hr, rfl, hnm⟩ := cx_in B hml hv
  have X : Cx p s m _ meth c cX7_weigh 6 RX7 G := X
  have hx := X.1
  have hb := X.2.1
  have hown := X.2.2.2.1
  have hts := X.2.2.2.2.1
  have hRL : RmL (rmk 2 32 0 0) 2 32 := ⟨Nat.le_refl _, Nat.le_refl _⟩
  have hcs : 0 ≤ (rmk 0 0 0 0).cells ∧ 0 ≤ (rmk 0 0 0 0).slots := ⟨Nat.zero_le _, Nat.zero_le _⟩
  refine ls_in (Nat.le_of_ble_eq_true rfl) (fun ls hl => ?_)
  have hl : lv_has ls 6 [(0, .ref a0), (1, .int p1), (2, .int p2)] := hl
  unfold f_X7_weigh at h
  obtain ⟨htg, h⟩ := gsn h
  refine lv_aload_n hx hb dX7_weigh_0 rfl (lv_at hl 0 rfl) ?_
  refine lv_iload_n hx hb dX7_weigh_1 rfl (lv_at hl 1 rfl) ?_
  obtain ⟨x1, hx1, h⟩ := bnd h
  refine pf_X7_32 X hH hx1 dX7_weigh_2 (fun H locs hH => ?_)
  refine lv_aload_n hx hb dX7_weigh_5 rfl (lv_at hl 0 rfl) ?_
  refine lv_iload_n hx hb dX7_weigh_6 rfl (lv_at hl 2 rfl) ?_
  obtain ⟨x2, hx2, h⟩ := bnd h
  refine pf_X7_35 X hH hx2 dX7_weigh_7 (fun H locs hH => ?_)
  refine lv_aload_n hx hb dX7_weigh_10 rfl (lv_at hl 0 rfl) ?_
  obtain ⟨x3, hx3, h⟩ := bnd h
  refine gf_X7_22 X hH hx3 dX7_weigh_11 ?_
  refine lv_aload_n hx hb dX7_weigh_14 rfl (lv_at hl 0 rfl) ?_
  obtain ⟨x4, hx4, h⟩ := bnd h
  refine gf_X7_29 X hH hx4 dX7_weigh_15 ?_
  refine lv_iconst (v := 0) hx hb dX7_weigh_18 (by decide) ?_
  obtain ⟨x5, hx5, h⟩ := bnd h
  refine w_qI X hH hx5 dX7_weigh_19 (fun H locs hH => ?_)
  refine lv_aload_n hx hb dX7_weigh_20 rfl (lv_at hl 0 rfl) ?_
  obtain ⟨x6, hx6, h⟩ := bnd h
  refine gf_X7_29 X hH hx6 dX7_weigh_21 ?_
  refine lv_iconst (v := 1) hx hb dX7_weigh_24 (by decide) ?_
  refine lv_isub hx hb dX7_weigh_25 ?_
  refine lv_istore_n (lv' := [(3, .int (x6 - (1 : Int32))), (0, .ref a0), (1, .int p1), (2, .int p2)]) hx hb dX7_weigh_26 rfl hl (by decide) rfl (fun ls hl => ?_)
  obtain ⟨x16, hx16, hhx16⟩ := bnd h
  clear h
  refine w_X7_weigh_27 l X hRL hcs BIG a0 (x6 - (1 : Int32)) x5 x16 hx16 (fun H locs ls hH hl => ?_) _ _ _ hH (lv_sub hl [1, 0] rfl)
  · have h := hhx16
    clear hhx16
    exact eV X hH h hr dX7_weigh_90 (Nat.le_of_ble_eq_true rfl) (Nat.le_of_ble_eq_true rfl)
theorem t_X7_fewestWrongs {μ : Mm} {a0 : Nat} {x : Int32} (h : f_X7_fewestWrongs μ a0 = some x) : tg μ a0 = 8 := by
  unfold f_X7_fewestWrongs at h
  exact (gsn h).1
set_option maxHeartbeats 4000000 in
set_option maxRecDepth 100000 in
theorem c_X7_fewestWrongs (l : Launch) (G : CG) (μ : Mm) (a0 : Nat) (x : Int32) (h : f_X7_fewestWrongs μ a0 = some x) : Met l yX7_fewestWrongs (.code yX7_fewestWrongs cX7_fewestWrongs 1 (some .int) :: UW) (rmk 1 0 0 0) (PC G [.ref a0] μ) (QI G x μ) 0 0 (fA G) := by
  refine Met.ofW (cc := cX7_fewestWrongs) (maxL := 1) (ret := (some .int)) (by decide) rfl ?_
  intro p e s m args below meth c s₁ B hml hv
  obtain ⟨X, hH, hr, rfl, hnm⟩ := cx_in B hml hv
  have X : Cx p s m _ meth c cX7_fewestWrongs 1 RX7 G := X
  have hx := X.1
  have hb := X.2.1
  have hown := X.2.2.2.1
  have hts := X.2.2.2.2.1
  have hRL : RmL (rmk 1 0 0 0) 1 0 := ⟨Nat.le_refl _, Nat.le_refl _⟩
  have hcs : 0 ≤ (rmk 0 0 0 0).cells ∧ 0 ≤ (rmk 0 0 0 0).slots := ⟨Nat.zero_le _, Nat.zero_le _⟩
  refine ls_in (Nat.le_of_ble_eq_true rfl) (fun ls hl => ?_)
  have hl : lv_has ls 1 [(0, .ref a0)] := hl
  unfold f_X7_fewestWrongs at h
  obtain ⟨htg, h⟩ := gsn h
  refine lv_aload_n hx hb dX7_fewestWrongs_0 rfl (lv_at hl 0 rfl) ?_
  obtain ⟨x1, hx1, h⟩ := bnd h
  refine gf_X7_22 X hH hx1 dX7_fewestWrongs_1 ?_
  refine lv_iconst (v := 0) hx hb dX7_fewestWrongs_4 (by decide) ?_
  obtain ⟨x2, hx2, h⟩ := bnd h
  refine w_aI X hH hx2 dX7_fewestWrongs_5 ?_
  exact eIp X hH h hr dX7_fewestWrongs_6
set_option maxHeartbeats 4000000 in
set_option maxRecDepth 100000 in
theorem w_X7_firstBehind_2 {p : Program} {e : Env} {R : Room} {s : State} {m : MethodId} {args : Array Value} {below : List Frame} {meth : Method} {c : Code} {cells slots : Nat} {Q : State → Prop} {G : CG} (l : Launch) (X : Cx p s m args meth c cX7_firstBehind 3 RX7 G) (hRL : RmL R 2 24) (hcs : cells ≤ R.cells ∧ slots ≤ R.slots) : ∀ (n : Nat) (v0 : Nat) (v1 : Int32) (v2 : Int32) (μ : Mm) (x : Nat × Int32), lp_X7_firstBehind_2 n v0 v1 v2 μ = some x → (∀ (H : Heap) (locs : List Loc) (ls : Array Slot), x.1 = 0 → HS G s μ H locs → lv_has ls 3 [(2, .int x.2)] → W p l e R s m args below meth c H locs cells slots Q (F0 m 33 ls [])) → (∀ (H : Heap) (locs : List Loc) (ls : Array Slot), x.1 = 1 → HS G s μ H locs → lv_has ls 3 [] → W p l e R s m args below meth c H locs cells slots Q (F0 m 41 ls [])) → ∀ (H : Heap) (locs : List Loc) (ls : Array Slot), HS G s μ H locs → lv_has ls 3 [(0, .ref v0), (1, .int v1), (2, .int v2)] → W p l e R s m args below meth c H locs cells slots Q (F0 m 2 ls []) := by
  have hx := X.1
  have hb := X.2.1
  have hown := X.2.2.2.1
  have hts := X.2.2.2.2.1
  intro n
  induction n with
  | zero =>
    intro v0 v1 v2 μ x h
    rw [lp_X7_firstBehind_2] at h
    cases h
  | succ n ih =>
    intro v0 v1 v2 μ x h k0 k1 H locs ls hH hl
    rw [lp_X7_firstBehind_2] at h
    refine lv_iload_n hx hb dX7_firstBehind_2 rfl (lv_at hl 2 rfl) ?_
    refine lv_aload_n hx hb dX7_firstBehind_3 rfl (lv_at hl 0 rfl) ?_
    obtain ⟨x1, hx1, h⟩ := bnd h
    refine gf_X7_25 X hH hx1 dX7_firstBehind_4 ?_
    refine lv_icmp_ge (tgt := 41) hx hb dX7_firstBehind_7 (by decide) (fun hc2 => ?_) (fun hc2 => ?_)
    · replace h := ift h hc2
      cases h
      exact k1 _ _ _ rfl hH (lv_sub hl [] rfl)
    · replace h := iff' h hc2
      refine lv_iload_n hx hb dX7_firstBehind_10 rfl (lv_at hl 1 rfl) ?_
      refine lv_iload_n hx hb dX7_firstBehind_11 rfl (lv_at hl 2 rfl) ?_
      obtain ⟨x3, hx3, h⟩ := bnd h
      refine iv_X7_61 l X hH hRL (by decide) hx3 hl.1 (Nat.le_of_ble_eq_true rfl) dX7_firstBehind_12 hcs (fun H locs hH => ?_)
      refine lv_if_ne (tgt := 35) hx hb dX7_firstBehind_15 (by decide) (fun hc4 => ?_) (fun hc4 => ?_)
      · replace h := iff' h hc4
        refine lv_iinc (v := (v2 + 1)) (lv' := [(2, .int (v2 + 1)), (0, .ref v0), (1, .int v1)]) hx hb dX7_firstBehind_35 hl (k := 2) rfl rfl (by decide) rfl (fun ls hl => ?_)
        refine lv_goto (tgt := 2) hx hb dX7_firstBehind_38 (by decide) ?_
        exact ih _ _ _ _ _ h k0 k1 _ _ _ hH (lv_sub hl [1, 2, 0] rfl)
      · replace h := ift h hc4
        refine lv_aload_n hx hb dX7_firstBehind_18 rfl (lv_at hl 0 rfl) ?_
        refine lv_iload_n hx hb dX7_firstBehind_19 rfl (lv_at hl 1 rfl) ?_
        refine lv_iload_n hx hb dX7_firstBehind_20 rfl (lv_at hl 2 rfl) ?_
        obtain ⟨x5, hx5, h⟩ := bnd h
        refine iv_X7_65 l X hH hRL (by decide) hx5 hl.1 (Nat.le_of_ble_eq_true rfl) dX7_firstBehind_21 hcs (fun H locs hH => ?_)
        refine lv_aload_n hx hb dX7_firstBehind_24 rfl (lv_at hl 0 rfl) ?_
        obtain ⟨x6, hx6, h⟩ := bnd h
        refine gf_X7_22 X hH hx6 dX7_firstBehind_25 ?_
        refine lv_iload_n hx hb dX7_firstBehind_28 rfl (lv_at hl 1 rfl) ?_
        obtain ⟨x7, hx7, h⟩ := bnd h
        refine w_aI X hH hx7 dX7_firstBehind_29 ?_
        refine lv_icmp_ne (tgt := 35) hx hb dX7_firstBehind_30 (by decide) (fun hc8 => ?_) (fun hc8 => ?_)
        · replace h := iff' h hc8
          refine lv_iinc (v := (v2 + 1)) (lv' := [(2, .int (v2 + 1)), (0, .ref v0), (1, .int v1)]) hx hb dX7_firstBehind_35 hl (k := 2) rfl rfl (by decide) rfl (fun ls hl => ?_)
          refine lv_goto (tgt := 2) hx hb dX7_firstBehind_38 (by decide) ?_
          exact ih _ _ _ _ _ h k0 k1 _ _ _ hH (lv_sub hl [1, 2, 0] rfl)
        · replace h := ift h hc8
          cases h
          exact k0 _ _ _ rfl hH (lv_sub hl [2] rfl)
theorem t_X7_firstBehind {μ : Mm} {a0 : Nat} {p1 : Int32} {x : Int32} (h : f_X7_firstBehind μ a0 p1 = some x) : tg μ a0 = 8 := by
  unfold f_X7_firstBehind at h
  exact (gsn h).1
set_option maxHeartbeats 4000000 in
set_option maxRecDepth 100000 in
theorem c_X7_firstBehind (l : Launch) (G : CG) (μ : Mm) (a0 : Nat) (p1 : Int32) (x : Int32) (h : f_X7_firstBehind μ a0 p1 = some x) : Met l yX7_firstBehind (.code yX7_firstBehind cX7_firstBehind 3 (some .int) :: UW) (rmk 2 24 0 0) (PC G [.ref a0, .int p1] μ) (QI G x μ) 0 0 (fA G) := by
  refine Met.ofW (cc := cX7_firstBehind) (maxL := 3) (ret := (some .int)) (by decide) rfl ?_
  intro p e s m args below meth c s₁ B hml hv
  obtain ⟨X, hH, hr, rfl, hnm⟩ := cx_in B hml hv
  have X : Cx p s m _ meth c cX7_firstBehind 3 RX7 G := X
  have hx := X.1
  have hb := X.2.1
  have hown := X.2.2.2.1
  have hts := X.2.2.2.2.1
  have hRL : RmL (rmk 2 24 0 0) 2 24 := ⟨Nat.le_refl _, Nat.le_refl _⟩
  have hcs : 0 ≤ (rmk 0 0 0 0).cells ∧ 0 ≤ (rmk 0 0 0 0).slots := ⟨Nat.zero_le _, Nat.zero_le _⟩
  refine ls_in (Nat.le_of_ble_eq_true rfl) (fun ls hl => ?_)
  have hl : lv_has ls 3 [(0, .ref a0), (1, .int p1)] := hl
  unfold f_X7_firstBehind at h
  obtain ⟨htg, h⟩ := gsn h
  refine lv_iconst (v := 0) hx hb dX7_firstBehind_0 (by decide) ?_
  refine lv_istore_n (lv' := [(2, .int (0 : Int32)), (0, .ref a0), (1, .int p1)]) hx hb dX7_firstBehind_1 rfl hl (by decide) rfl (fun ls hl => ?_)
  obtain ⟨x9, hx9, hhx9⟩ := bnd h
  clear h
  refine w_X7_firstBehind_2 l X hRL hcs BIG a0 p1 (0 : Int32) μ x9 hx9 (fun H locs ls hj hH hl => ?_) (fun H locs ls hj hH hl => ?_) _ _ _ hH (lv_sub hl [1, 2, 0] rfl)
  · have h := hhx9
    clear hhx9
    replace h := ift h hj
    refine lv_iload_n hx hb dX7_firstBehind_33 rfl (lv_at hl 0 rfl) ?_
    exact eIp X hH h hr dX7_firstBehind_34
  · have h := hhx9
    clear hhx9
    replace h := iff' h (by rw [hj]; decide)
    refine lv_iconst (v := 0) hx hb dX7_firstBehind_41 (by decide) ?_
    exact eIp X hH h hr dX7_firstBehind_42
set_option maxHeartbeats 1000000 in
theorem iv_X8_28 {p : Program} {e : Env} {R : Room} {s : State} {m : MethodId} {args : Array Value} {below : List Frame} {meth : Method} {c : Code} {H : Heap} {locs : List Loc} {cells slots : Nat} {Q : State → Prop} {cc : ByteArray} {pc : Nat} {ls : Array Slot} {rest : List Value} {nL : Nat} {G : CG} {μ : Mm} {a : Nat} {q0 : Int32} {x : Int32} {k k2 : Nat} (l : Launch) (X : Cx p s m args meth c cc nL RX8 G) (hH : HS G s μ H locs) (hRL : RmL R k k2) (hk : 1 + 1 ≤ k ∧ 21 ≤ k2) (h : f_X8_has μ a q0 = some x) (hls : ls.size = nL) (hroom : (rest.map fun v => v.category).sum ≤ 8) (hdg : decode cc pc = .ok (.invokevirtual 28, 3)) (hcs : cells + 0 ≤ R.cells ∧ slots + 0 ≤ R.slots) (kk : ∀ (H1 : Heap) (locs1 : List Loc), HS G s μ H1 locs1 → W p l e R s m args below meth c H1 locs1 cells slots Q (F0 m (pc + 3) ls (.int x :: rest))) : W p l e R s m args below meth c H locs cells slots Q (F0 m pc ls (.int q0 :: .ref a :: rest)) := by
  refine kI hH (rV (As := [.int q0]) (rest := rest) X hH (t_X8_has h) vc_8 (c_X8_has l G μ a q0 x h) (List.forall_mem_cons.mpr ⟨u_500, (List.forall_mem_cons.mpr ⟨u_493, (List.forall_mem_cons.mpr ⟨u_494, (List.forall_mem_cons.mpr ⟨u_23, (fun _ h9 => absurd h9 List.not_mem_nil)⟩)⟩)⟩)⟩) u_495 (rmo hRL (Nat.le_trans (by decide) hk.1) (Nat.le_trans (by decide) hk.2)) ddV_X8_has rfl hls rfl hroom hdg hcs) kk
theorem t_X8_replace {μ : Mm} {a0 : Nat} {p1 : Int32} {p2 : Int32} {x : Int32 × Mm} (h : f_X8_replace μ a0 p1 p2 = some x) : tg μ a0 = 9 := by
  unfold f_X8_replace at h
  exact (gsn h).1
set_option maxHeartbeats 4000000 in
set_option maxRecDepth 100000 in
theorem c_X8_replace (l : Launch) (G : CG) (μ : Mm) (a0 : Nat) (p1 : Int32) (p2 : Int32) (x : Int32 × Mm) (h : f_X8_replace μ a0 p1 p2 = some x) : Met l yX8_replace (.code yX8_replace cX8_replace 4 (some .int) :: UW) (rmk 2 21 0 0) (PC G [.ref a0, .int p1, .int p2] μ) (QI G x.1 x.2) 0 0 (fA G) := by
  refine Met.ofW (cc := cX8_replace) (maxL := 4) (ret := (some .int)) (by decide) rfl ?_
  intro p e s m args below meth c s₁ B hml hv
  obtain ⟨X, hH, hr, rfl, hnm⟩ := cx_in B hml hv
  have X : Cx p s m _ meth c cX8_replace 4 RX8 G := X
  have hx := X.1
  have hb := X.2.1
  have hown := X.2.2.2.1
  have hts := X.2.2.2.2.1
  have hRL : RmL (rmk 2 21 0 0) 2 21 := ⟨Nat.le_refl _, Nat.le_refl _⟩
  have hcs : 0 ≤ (rmk 0 0 0 0).cells ∧ 0 ≤ (rmk 0 0 0 0).slots := ⟨Nat.zero_le _, Nat.zero_le _⟩
  refine ls_in (Nat.le_of_ble_eq_true rfl) (fun ls hl => ?_)
  have hl : lv_has ls 4 [(0, .ref a0), (1, .int p1), (2, .int p2)] := hl
  unfold f_X8_replace at h
  obtain ⟨htg, h⟩ := gsn h
  refine lv_aload_n hx hb dX8_replace_0 rfl (lv_at hl 0 rfl) ?_
  refine lv_iload_n hx hb dX8_replace_1 rfl (lv_at hl 1 rfl) ?_
  obtain ⟨x1, hx1, h⟩ := bnd h
  refine iv_X8_28 l X hH hRL (by decide) hx1 hl.1 (Nat.le_of_ble_eq_true rfl) dX8_replace_2 hcs (fun H locs hH => ?_)
  refine lv_if_ne (tgt := 10) hx hb dX8_replace_5 (by decide) (fun hc2 => ?_) (fun hc2 => ?_)
  · replace h := iff' h hc2
    refine lv_aload_n hx hb dX8_replace_10 rfl (lv_at hl 0 rfl) ?_
    obtain ⟨x3, hx3, h⟩ := bnd h
    refine gf_X8_21 X hH hx3 dX8_replace_11 ?_
    refine lv_iload_n hx hb dX8_replace_14 rfl (lv_at hl 1 rfl) ?_
    obtain ⟨x4, hx4, h⟩ := bnd h
    refine w_aI X hH hx4 dX8_replace_15 ?_
    refine lv_istore_n (lv' := [(3, .int x4), (0, .ref a0), (1, .int p1), (2, .int p2)]) hx hb dX8_replace_16 rfl hl (by decide) rfl (fun ls hl => ?_)
    refine lv_aload_n hx hb dX8_replace_17 rfl (lv_at hl 1 rfl) ?_
    obtain ⟨x5, hx5, h⟩ := bnd h
    refine gf_X8_21 X hH hx5 dX8_replace_18 ?_
    refine lv_iload_n hx hb dX8_replace_21 rfl (lv_at hl 2 rfl) ?_
    refine lv_iload_n hx hb dX8_replace_22 rfl (lv_at hl 3 rfl) ?_
    obtain ⟨x6, hx6, h⟩ := bnd h
    refine w_qI X hH hx6 dX8_replace_23 (fun H locs hH => ?_)
    refine lv_iload_n hx hb dX8_replace_24 rfl (lv_at hl 0 rfl) ?_
    exact eI X hH h hr dX8_replace_25 (Nat.le_of_ble_eq_true rfl) (Nat.le_of_ble_eq_true rfl)
  · replace h := ift h hc2
    refine lv_iconst (v := 0) hx hb dX8_replace_8 (by decide) ?_
    exact eI X hH h hr dX8_replace_9 (Nat.le_of_ble_eq_true rfl) (Nat.le_of_ble_eq_true rfl)
set_option maxHeartbeats 1000000 in
theorem iv_X7_68 {p : Program} {e : Env} {R : Room} {s : State} {m : MethodId} {args : Array Value} {below : List Frame} {meth : Method} {c : Code} {H : Heap} {locs : List Loc} {cells slots : Nat} {Q : State → Prop} {cc : ByteArray} {pc : Nat} {ls : Array Slot} {rest : List Value} {nL : Nat} {G : CG} {μ : Mm} {a : Nat} {q0 : Int32} {q1 : Int32} {x : Mm} {k k2 : Nat} (l : Launch) (X : Cx p s m args meth c cc nL RX7 G) (hH : HS G s μ H locs) (hRL : RmL R k k2) (hk : 1 + 1 ≤ k ∧ 55 ≤ k2) (h : f_X8_open μ a q0 q1 = some x) (hls : ls.size = nL) (hroom : (rest.map fun v => v.category).sum ≤ 8) (hdg : decode cc pc = .ok (.invokevirtual 68, 3)) (hcs : cells + 0 ≤ R.cells ∧ slots + 0 ≤ R.slots) (kk : ∀ (H1 : Heap) (locs1 : List Loc), HS G s x H1 locs1 → W p l e R s m args below meth c H1 locs1 cells slots Q (F0 m (pc + 3) ls rest)) : W p l e R s m args below meth c H locs cells slots Q (F0 m pc ls (.int q1 :: .int q0 :: .ref a :: rest)) := by
  refine kV0 hH (rV (As := [.int q0, .int q1]) (rest := rest) X hH (t_X8_open h) vc_8 (c_X8_open l G μ a q0 q1 x h) (List.forall_mem_cons.mpr ⟨u_704, (List.forall_mem_cons.mpr ⟨u_97, (List.forall_mem_cons.mpr ⟨u_98, (List.forall_mem_cons.mpr ⟨u_23, (fun _ h9 => absurd h9 List.not_mem_nil)⟩)⟩)⟩)⟩) u_99 (rmo hRL (Nat.le_trans (by decide) hk.1) (Nat.le_trans (by decide) hk.2)) ddV_X8_open rfl hls rfl hroom hdg hcs) kk
set_option maxHeartbeats 1000000 in
theorem iv_X7_74 {p : Program} {e : Env} {R : Room} {s : State} {m : MethodId} {args : Array Value} {below : List Frame} {meth : Method} {c : Code} {H : Heap} {locs : List Loc} {cells slots : Nat} {Q : State → Prop} {cc : ByteArray} {pc : Nat} {ls : Array Slot} {rest : List Value} {nL : Nat} {G : CG} {μ : Mm} {a : Nat} {q0 : Int32} {x : Int32} {k k2 : Nat} (l : Launch) (X : Cx p s m args meth c cc nL RX7 G) (hH : HS G s μ H locs) (hRL : RmL R k k2) (hk : 2 + 1 ≤ k ∧ 46 ≤ k2) (h : f_X7_firstBehind μ a q0 = some x) (hls : ls.size = nL) (hroom : (rest.map fun v => v.category).sum ≤ 8) (hdg : decode cc pc = .ok (.invokevirtual 74, 3)) (hcs : cells + 0 ≤ R.cells ∧ slots + 0 ≤ R.slots) (kk : ∀ (H1 : Heap) (locs1 : List Loc), HS G s μ H1 locs1 → W p l e R s m args below meth c H1 locs1 cells slots Q (F0 m (pc + 3) ls (.int x :: rest))) : W p l e R s m args below meth c H locs cells slots Q (F0 m pc ls (.int q0 :: .ref a :: rest)) := by
  refine kI hH (rV (As := [.int q0]) (rest := rest) X hH (t_X7_firstBehind h) vc_7 (c_X7_firstBehind l G μ a q0 x h) (List.forall_mem_cons.mpr ⟨u_705, (List.forall_mem_cons.mpr ⟨u_707, (List.forall_mem_cons.mpr ⟨u_16, (List.forall_mem_cons.mpr ⟨u_27, (fun _ h9 => absurd h9 List.not_mem_nil)⟩)⟩)⟩)⟩) u_708 (rmo hRL (Nat.le_trans (by decide) hk.1) (Nat.le_trans (by decide) hk.2)) ddV_X7_firstBehind rfl hls rfl hroom hdg hcs) kk
set_option maxHeartbeats 1000000 in
theorem iv_X7_77 {p : Program} {e : Env} {R : Room} {s : State} {m : MethodId} {args : Array Value} {below : List Frame} {meth : Method} {c : Code} {H : Heap} {locs : List Loc} {cells slots : Nat} {Q : State → Prop} {cc : ByteArray} {pc : Nat} {ls : Array Slot} {rest : List Value} {nL : Nat} {G : CG} {μ : Mm} {a : Nat} {q0 : Int32} {q1 : Int32} {x : Int32 × Mm} {k k2 : Nat} (l : Launch) (X : Cx p s m args meth c cc nL RX7 G) (hH : HS G s μ H locs) (hRL : RmL R k k2) (hk : 2 + 1 ≤ k ∧ 44 ≤ k2) (h : f_X8_replace μ a q0 q1 = some x) (hls : ls.size = nL) (hroom : (rest.map fun v => v.category).sum ≤ 8) (hdg : decode cc pc = .ok (.invokevirtual 77, 3)) (hcs : cells + 0 ≤ R.cells ∧ slots + 0 ≤ R.slots) (kk : ∀ (H1 : Heap) (locs1 : List Loc), HS G s x.2 H1 locs1 → W p l e R s m args below meth c H1 locs1 cells slots Q (F0 m (pc + 3) ls (.int x.1 :: rest))) : W p l e R s m args below meth c H locs cells slots Q (F0 m pc ls (.int q1 :: .int q0 :: .ref a :: rest)) := by
  refine kI hH (rV (As := [.int q0, .int q1]) (rest := rest) X hH (t_X8_replace h) vc_8 (c_X8_replace l G μ a q0 q1 x h) (List.forall_mem_cons.mpr ⟨u_709, (List.forall_mem_cons.mpr ⟨u_497, (List.forall_mem_cons.mpr ⟨u_498, (List.forall_mem_cons.mpr ⟨u_23, (fun _ h9 => absurd h9 List.not_mem_nil)⟩)⟩)⟩)⟩) u_499 (rmo hRL (Nat.le_trans (by decide) hk.1) (Nat.le_trans (by decide) hk.2)) ddV_X8_replace rfl hls rfl hroom hdg hcs) kk
set_option maxHeartbeats 4000000 in
set_option maxRecDepth 100000 in
theorem w_X7_tellFirstOrder_13 {p : Program} {e : Env} {R : Room} {s : State} {m : MethodId} {args : Array Value} {below : List Frame} {meth : Method} {c : Code} {cells slots : Nat} {Q : State → Prop} {G : CG} (l : Launch) (X : Cx p s m args meth c cX7_tellFirstOrder 5 RX7 G) (hRL : RmL R 3 55) (hcs : cells ≤ R.cells ∧ slots ≤ R.slots) : ∀ (n : Nat) (v0 : Nat) (v1 : Nat) (v2 : Int32) (v3 : Int32) (μ : Mm) (x : Mm), lp_X7_tellFirstOrder_13 n v0 v1 v2 v3 μ = some x → (∀ (H : Heap) (locs : List Loc) (ls : Array Slot), HS G s x H locs → lv_has ls 5 [] → W p l e R s m args below meth c H locs cells slots Q (F0 m 49 ls [])) → ∀ (H : Heap) (locs : List Loc) (ls : Array Slot), HS G s μ H locs → lv_has ls 5 [(0, .ref v0), (1, .ref v1), (2, .int v2), (3, .int v3)] → W p l e R s m args below meth c H locs cells slots Q (F0 m 13 ls []) := by
  have hx := X.1
  have hb := X.2.1
  have hown := X.2.2.2.1
  have hts := X.2.2.2.2.1
  intro n
  induction n with
  | zero =>
    intro v0 v1 v2 v3 μ x h
    rw [lp_X7_tellFirstOrder_13] at h
    cases h
  | succ n ih =>
    intro v0 v1 v2 v3 μ x h k0 H locs ls hH hl
    rw [lp_X7_tellFirstOrder_13] at h
    refine lv_iload_n hx hb dX7_tellFirstOrder_13 rfl (lv_at hl 3 rfl) ?_
    refine lv_aload_n hx hb dX7_tellFirstOrder_14 rfl (lv_at hl 0 rfl) ?_
    obtain ⟨x3, hx3, h⟩ := bnd h
    refine gf_X7_25 X hH hx3 dX7_tellFirstOrder_15 ?_
    refine lv_icmp_ge (tgt := 49) hx hb dX7_tellFirstOrder_18 (by decide) (fun hc4 => ?_) (fun hc4 => ?_)
    · replace h := ift h hc4
      cases h
      exact k0 _ _ _ hH (lv_sub hl [] rfl)
    · replace h := iff' h hc4
      refine lv_aload_n hx hb dX7_tellFirstOrder_21 rfl (lv_at hl 0 rfl) ?_
      refine lv_iload_n hx hb dX7_tellFirstOrder_22 rfl (lv_at hl 2 rfl) ?_
      obtain ⟨x5, hx5, h⟩ := bnd h
      refine iv_X7_74 l X hH hRL (by decide) hx5 hl.1 (Nat.le_of_ble_eq_true rfl) dX7_tellFirstOrder_23 hcs (fun H locs hH => ?_)
      refine lv_istore (lv' := [(4, .int x5), (0, .ref v0), (1, .ref v1), (2, .int v2), (3, .int v3)]) hx hb dX7_tellFirstOrder_26 hl (by decide) rfl (fun ls hl => ?_)
      refine lv_aload_n hx hb dX7_tellFirstOrder_28 rfl (lv_at hl 2 rfl) ?_
      refine lv_iload_n hx hb dX7_tellFirstOrder_29 rfl (lv_at hl 4 rfl) ?_
      refine lv_iload hx hb dX7_tellFirstOrder_30 (lv_at hl 0 rfl) ?_
      obtain ⟨x6, hx6, h⟩ := bnd h
      refine iv_X7_77 l X hH hRL (by decide) hx6 hl.1 (Nat.le_of_ble_eq_true rfl) dX7_tellFirstOrder_32 hcs (fun H locs hH => ?_)
      refine lv_pop hx hb dX7_tellFirstOrder_35 rfl ?_
      refine lv_iload_n hx hb dX7_tellFirstOrder_36 rfl (lv_at hl 3 rfl) ?_
      refine lv_iconst (v := 1) hx hb dX7_tellFirstOrder_37 (by decide) ?_
      refine lv_iload hx hb dX7_tellFirstOrder_38 (lv_at hl 0 rfl) ?_
      refine lv_ishl hx hb dX7_tellFirstOrder_40 ?_
      refine lv_ior hx hb dX7_tellFirstOrder_41 ?_
      refine lv_istore_n (lv' := [(2, .int (v2 ||| ((1 : Int32) <<< (x5 &&& 31)))), (4, .int x5), (0, .ref v0), (1, .ref v1), (3, .int v3)]) hx hb dX7_tellFirstOrder_42 rfl hl (by decide) rfl (fun ls hl => ?_)
      refine lv_iinc (v := (v3 + 1)) (lv' := [(3, .int (v3 + 1)), (2, .int (v2 ||| ((1 : Int32) <<< (x5 &&& 31)))), (4, .int x5), (0, .ref v0), (1, .ref v1)]) hx hb dX7_tellFirstOrder_43 hl (k := 4) rfl rfl (by decide) rfl (fun ls hl => ?_)
      refine lv_goto (tgt := 13) hx hb dX7_tellFirstOrder_46 (by decide) ?_
      exact ih _ _ _ _ _ _ h k0 _ _ _ hH (lv_sub hl [3, 4, 1, 0] rfl)
theorem t_X7_tellFirstOrder {μ : Mm} {a0 : Nat} {p1 : Nat} {x : Mm} (h : f_X7_tellFirstOrder μ a0 p1 = some x) : tg μ a0 = 8 := by
  unfold f_X7_tellFirstOrder at h
  exact (gsn h).1
set_option maxHeartbeats 4000000 in
set_option maxRecDepth 100000 in
theorem c_X7_tellFirstOrder (l : Launch) (G : CG) (μ : Mm) (a0 : Nat) (p1 : Nat) (x : Mm) (h : f_X7_tellFirstOrder μ a0 p1 = some x) : Met l yX7_tellFirstOrder (.code yX7_tellFirstOrder cX7_tellFirstOrder 5 none :: UW) (rmk 3 55 0 0) (PC G [.ref a0, .ref p1] μ) (QV G x) 0 0 (fA G) := by
  refine Met.ofW (cc := cX7_tellFirstOrder) (maxL := 5) (ret := none) (by decide) rfl ?_
  intro p e s m args below meth c s₁ B hml hv
  obtain ⟨X, hH, hr, rfl, hnm⟩ := cx_in B hml hv
  have X : Cx p s m _ meth c cX7_tellFirstOrder 5 RX7 G := X
  have hx := X.1
  have hb := X.2.1
  have hown := X.2.2.2.1
  have hts := X.2.2.2.2.1
  have hRL : RmL (rmk 3 55 0 0) 3 55 := ⟨Nat.le_refl _, Nat.le_refl _⟩
  have hcs : 0 ≤ (rmk 0 0 0 0).cells ∧ 0 ≤ (rmk 0 0 0 0).slots := ⟨Nat.zero_le _, Nat.zero_le _⟩
  refine ls_in (Nat.le_of_ble_eq_true rfl) (fun ls hl => ?_)
  have hl : lv_has ls 5 [(0, .ref a0), (1, .ref p1)] := hl
  unfold f_X7_tellFirstOrder at h
  obtain ⟨htg, h⟩ := gsn h
  refine lv_aload_n hx hb dX7_tellFirstOrder_0 rfl (lv_at hl 1 rfl) ?_
  refine lv_aload_n hx hb dX7_tellFirstOrder_1 rfl (lv_at hl 0 rfl) ?_
  obtain ⟨x1, hx1, h⟩ := bnd h
  refine gf_X7_25 X hH hx1 dX7_tellFirstOrder_2 ?_
  refine lv_iconst (v := 0) hx hb dX7_tellFirstOrder_5 (by decide) ?_
  obtain ⟨x2, hx2, h⟩ := bnd h
  refine iv_X7_68 l X hH hRL (by decide) hx2 hl.1 (Nat.le_of_ble_eq_true rfl) dX7_tellFirstOrder_6 hcs (fun H locs hH => ?_)
  refine lv_iconst (v := 0) hx hb dX7_tellFirstOrder_9 (by decide) ?_
  refine lv_istore_n (lv' := [(2, .int (0 : Int32)), (0, .ref a0), (1, .ref p1)]) hx hb dX7_tellFirstOrder_10 rfl hl (by decide) rfl (fun ls hl => ?_)
  refine lv_iconst (v := 0) hx hb dX7_tellFirstOrder_11 (by decide) ?_
  refine lv_istore_n (lv' := [(3, .int (0 : Int32)), (2, .int (0 : Int32)), (0, .ref a0), (1, .ref p1)]) hx hb dX7_tellFirstOrder_12 rfl hl (by decide) rfl (fun ls hl => ?_)
  obtain ⟨x7, hx7, hhx7⟩ := bnd h
  clear h
  refine w_X7_tellFirstOrder_13 l X hRL hcs BIG a0 p1 (0 : Int32) (0 : Int32) x2 x7 hx7 (fun H locs ls hH hl => ?_) _ _ _ hH (lv_sub hl [2, 3, 1, 0] rfl)
  · have h := hhx7
    clear hhx7
    exact eV X hH h hr dX7_tellFirstOrder_49 (Nat.le_of_ble_eq_true rfl) (Nat.le_of_ble_eq_true rfl)
set_option maxHeartbeats 4000000 in
set_option maxRecDepth 100000 in
theorem w_X7_countQuiet_21 {p : Program} {e : Env} {R : Room} {s : State} {m : MethodId} {args : Array Value} {below : List Frame} {meth : Method} {c : Code} {cells slots : Nat} {Q : State → Prop} {G : CG} (l : Launch) (X : Cx p s m args meth c cX7_countQuiet 4 RX7 G) (hRL : RmL R 2 21) (hcs : cells ≤ R.cells ∧ slots ≤ R.slots) : ∀ (n : Nat) (v0 : Nat) (v1 : Int32) (v2 : Int32) (v3 : Int32) (μ : Mm) (x : Int32), lp_X7_countQuiet_21 n v0 v1 v2 v3 μ = some x → (∀ (H : Heap) (locs : List Loc) (ls : Array Slot), HS G s μ H locs → lv_has ls 4 [(0, .ref v0), (1, .int v1), (2, .int x)] → W p l e R s m args below meth c H locs cells slots Q (F0 m 56 ls [])) → ∀ (H : Heap) (locs : List Loc) (ls : Array Slot), HS G s μ H locs → lv_has ls 4 [(0, .ref v0), (1, .int v1), (2, .int v2), (3, .int v3)] → W p l e R s m args below meth c H locs cells slots Q (F0 m 21 ls []) := by
  have hx := X.1
  have hb := X.2.1
  have hown := X.2.2.2.1
  have hts := X.2.2.2.2.1
  intro n
  induction n with
  | zero =>
    intro v0 v1 v2 v3 μ x h
    rw [lp_X7_countQuiet_21] at h
    cases h
  | succ n ih =>
    intro v0 v1 v2 v3 μ x h k0 H locs ls hH hl
    rw [lp_X7_countQuiet_21] at h
    refine lv_iload_n hx hb dX7_countQuiet_21 rfl (lv_at hl 3 rfl) ?_
    refine lv_aload_n hx hb dX7_countQuiet_22 rfl (lv_at hl 0 rfl) ?_
    obtain ⟨x5, hx5, h⟩ := bnd h
    refine gf_X7_25 X hH hx5 dX7_countQuiet_23 ?_
    refine lv_icmp_ge (tgt := 56) hx hb dX7_countQuiet_26 (by decide) (fun hc6 => ?_) (fun hc6 => ?_)
    · replace h := ift h hc6
      cases h
      exact k0 _ _ _ hH (lv_sub hl [0, 1, 2] rfl)
    · replace h := iff' h hc6
      refine lv_iload_n hx hb dX7_countQuiet_29 rfl (lv_at hl 1 rfl) ?_
      refine lv_iload_n hx hb dX7_countQuiet_30 rfl (lv_at hl 3 rfl) ?_
      obtain ⟨x7, hx7, h⟩ := bnd h
      refine iv_X7_61 l X hH hRL (by decide) hx7 hl.1 (Nat.le_of_ble_eq_true rfl) dX7_countQuiet_31 hcs (fun H locs hH => ?_)
      refine lv_if_eq (tgt := 50) hx hb dX7_countQuiet_34 (by decide) (fun hc8 => ?_) (fun hc8 => ?_)
      · replace h := ift h hc8
        refine lv_iinc (v := (v3 + 1)) (lv' := [(3, .int (v3 + 1)), (0, .ref v0), (1, .int v1), (2, .int v2)]) hx hb dX7_countQuiet_50 hl (k := 3) rfl rfl (by decide) rfl (fun ls hl => ?_)
        refine lv_goto (tgt := 21) hx hb dX7_countQuiet_53 (by decide) ?_
        exact ih _ _ _ _ _ _ h k0 _ _ _ hH (lv_sub hl [1, 2, 3, 0] rfl)
      · replace h := iff' h hc8
        refine lv_iload_n hx hb dX7_countQuiet_37 rfl (lv_at hl 2 rfl) ?_
        refine lv_aload_n hx hb dX7_countQuiet_38 rfl (lv_at hl 0 rfl) ?_
        obtain ⟨x9, hx9, h⟩ := bnd h
        refine gf_X7_22 X hH hx9 dX7_countQuiet_39 ?_
        refine lv_iload_n hx hb dX7_countQuiet_42 rfl (lv_at hl 1 rfl) ?_
        refine lv_iconst (v := 1) hx hb dX7_countQuiet_43 (by decide) ?_
        refine lv_iload_n hx hb dX7_countQuiet_44 rfl (lv_at hl 3 rfl) ?_
        refine lv_ishl hx hb dX7_countQuiet_45 ?_
        refine lv_ixor hx hb dX7_countQuiet_46 ?_
        obtain ⟨x10, hx10, h⟩ := bnd h
        refine w_aI X hH hx10 dX7_countQuiet_47 ?_
        refine lv_iadd hx hb dX7_countQuiet_48 ?_
        refine lv_istore_n (lv' := [(2, .int (v2 + x10)), (0, .ref v0), (1, .int v1), (3, .int v3)]) hx hb dX7_countQuiet_49 rfl hl (by decide) rfl (fun ls hl => ?_)
        refine lv_iinc (v := (v3 + 1)) (lv' := [(3, .int (v3 + 1)), (2, .int (v2 + x10)), (0, .ref v0), (1, .int v1)]) hx hb dX7_countQuiet_50 hl (k := 3) rfl rfl (by decide) rfl (fun ls hl => ?_)
        refine lv_goto (tgt := 21) hx hb dX7_countQuiet_53 (by decide) ?_
        exact ih _ _ _ _ _ _ h k0 _ _ _ hH (lv_sub hl [2, 3, 1, 0] rfl)
set_option maxHeartbeats 4000000 in
set_option maxRecDepth 100000 in
theorem w_X7_countQuiet_9 {p : Program} {e : Env} {R : Room} {s : State} {m : MethodId} {args : Array Value} {below : List Frame} {meth : Method} {c : Code} {cells slots : Nat} {Q : State → Prop} {G : CG} (l : Launch) (X : Cx p s m args meth c cX7_countQuiet 4 RX7 G) (hRL : RmL R 2 21) (hcs : cells ≤ R.cells ∧ slots ≤ R.slots) : ∀ (n : Nat) (v0 : Nat) (v1 : Int32) (μ : Mm) (x : Mm), lp_X7_countQuiet_9 n v0 v1 μ = some x → (∀ (H : Heap) (locs : List Loc) (ls : Array Slot), HS G s x H locs → lv_has ls 4 [(0, .ref v0)] → W p l e R s m args below meth c H locs cells slots Q (F0 m 82 ls [])) → ∀ (H : Heap) (locs : List Loc) (ls : Array Slot), HS G s μ H locs → lv_has ls 4 [(0, .ref v0), (1, .int v1)] → W p l e R s m args below meth c H locs cells slots Q (F0 m 9 ls []) := by
  have hx := X.1
  have hb := X.2.1
  have hown := X.2.2.2.1
  have hts := X.2.2.2.2.1
  intro n
  induction n with
  | zero =>
    intro v0 v1 μ x h
    rw [lp_X7_countQuiet_9] at h
    cases h
  | succ n ih =>
    intro v0 v1 μ x h k0 H locs ls hH hl
    rw [lp_X7_countQuiet_9] at h
    refine lv_iload_n hx hb dX7_countQuiet_9 rfl (lv_at hl 1 rfl) ?_
    refine lv_aload_n hx hb dX7_countQuiet_10 rfl (lv_at hl 0 rfl) ?_
    obtain ⟨x3, hx3, h⟩ := bnd h
    refine gf_X7_29 X hH hx3 dX7_countQuiet_11 ?_
    refine lv_icmp_gt (tgt := 82) hx hb dX7_countQuiet_14 (by decide) (fun hc4 => ?_) (fun hc4 => ?_)
    · replace h := ift h hc4
      cases h
      exact k0 _ _ _ hH (lv_sub hl [0] rfl)
    · replace h := iff' h hc4
      refine lv_iconst (v := 0) hx hb dX7_countQuiet_17 (by decide) ?_
      refine lv_istore_n (lv' := [(2, .int (0 : Int32)), (0, .ref v0), (1, .int v1)]) hx hb dX7_countQuiet_18 rfl hl (by decide) rfl (fun ls hl => ?_)
      refine lv_iconst (v := 0) hx hb dX7_countQuiet_19 (by decide) ?_
      refine lv_istore_n (lv' := [(3, .int (0 : Int32)), (2, .int (0 : Int32)), (0, .ref v0), (1, .int v1)]) hx hb dX7_countQuiet_20 rfl hl (by decide) rfl (fun ls hl => ?_)
      obtain ⟨x11, hx11, hhx11⟩ := bnd h
      clear h
      refine w_X7_countQuiet_21 l X hRL hcs BIG v0 v1 (0 : Int32) (0 : Int32) μ x11 hx11 (fun H locs ls hH hl => ?_) _ _ _ hH (lv_sub hl [2, 3, 1, 0] rfl)
      · have h := hhx11
        clear hhx11
        refine lv_aload_n hx hb dX7_countQuiet_56 rfl (lv_at hl 0 rfl) ?_
        obtain ⟨x12, hx12, h⟩ := bnd h
        refine gf_X7_22 X hH hx12 dX7_countQuiet_57 ?_
        refine lv_iload_n hx hb dX7_countQuiet_60 rfl (lv_at hl 1 rfl) ?_
        refine lv_aload_n hx hb dX7_countQuiet_61 rfl (lv_at hl 0 rfl) ?_
        obtain ⟨x13, hx13, h⟩ := bnd h
        refine gf_X7_18 X hH hx13 dX7_countQuiet_62 ?_
        refine lv_iload_n hx hb dX7_countQuiet_65 rfl (lv_at hl 1 rfl) ?_
        obtain ⟨x14, hx14, h⟩ := bnd h
        refine w_aZ X hH hx14 dX7_countQuiet_66 ?_
        refine lv_if_eq (tgt := 74) hx hb dX7_countQuiet_67 (by decide) (fun hc15 => ?_) (fun hc15 => ?_)
        · replace h := ift h hc15
          refine lv_iload_n hx hb dX7_countQuiet_74 rfl (lv_at hl 2 rfl) ?_
          obtain ⟨x16, hx16, h⟩ := bnd h
          refine w_qI X hH hx16 dX7_countQuiet_75 (fun H locs hH => ?_)
          refine lv_iinc (v := (v1 + 1)) (lv' := [(1, .int (v1 + 1)), (0, .ref v0), (2, .int x11)]) hx hb dX7_countQuiet_76 hl (k := 1) rfl rfl (by decide) rfl (fun ls hl => ?_)
          refine lv_goto (tgt := 9) hx hb dX7_countQuiet_79 (by decide) ?_
          exact ih _ _ _ _ h k0 _ _ _ hH (lv_sub hl [1, 0] rfl)
        · replace h := iff' h hc15
          refine lv_iconst (v := 0) hx hb dX7_countQuiet_70 (by decide) ?_
          refine lv_goto (tgt := 75) hx hb dX7_countQuiet_71 (by decide) ?_
          obtain ⟨x17, hx17, h⟩ := bnd h
          refine w_qI X hH hx17 dX7_countQuiet_75 (fun H locs hH => ?_)
          refine lv_iinc (v := (v1 + 1)) (lv' := [(1, .int (v1 + 1)), (0, .ref v0), (2, .int x11)]) hx hb dX7_countQuiet_76 hl (k := 1) rfl rfl (by decide) rfl (fun ls hl => ?_)
          refine lv_goto (tgt := 9) hx hb dX7_countQuiet_79 (by decide) ?_
          exact ih _ _ _ _ h k0 _ _ _ hH (lv_sub hl [1, 0] rfl)
theorem t_X7_countQuiet {μ : Mm} {a0 : Nat} {x : Int32 × Mm} (h : f_X7_countQuiet μ a0 = some x) : tg μ a0 = 8 := by
  unfold f_X7_countQuiet at h
  exact (gsn h).1
set_option maxHeartbeats 4000000 in
set_option maxRecDepth 100000 in
theorem c_X7_countQuiet (l : Launch) (G : CG) (μ : Mm) (a0 : Nat) (x : Int32 × Mm) (h : f_X7_countQuiet μ a0 = some x) : Met l yX7_countQuiet (.code yX7_countQuiet cX7_countQuiet 4 (some .int) :: UW) (rmk 2 21 0 0) (PC G [.ref a0] μ) (QI G x.1 x.2) 0 0 (fA G) := by
  refine Met.ofW (cc := cX7_countQuiet) (maxL := 4) (ret := (some .int)) (by decide) rfl ?_
  intro p e s m args below meth c s₁ B hml hv
  obtain ⟨X, hH, hr, rfl, hnm⟩ := cx_in B hml hv
  have X : Cx p s m _ meth c cX7_countQuiet 4 RX7 G := X
  have hx := X.1
  have hb := X.2.1
  have hown := X.2.2.2.1
  have hts := X.2.2.2.2.1
  have hRL : RmL (rmk 2 21 0 0) 2 21 := ⟨Nat.le_refl _, Nat.le_refl _⟩
  have hcs : 0 ≤ (rmk 0 0 0 0).cells ∧ 0 ≤ (rmk 0 0 0 0).slots := ⟨Nat.zero_le _, Nat.zero_le _⟩
  refine ls_in (Nat.le_of_ble_eq_true rfl) (fun ls hl => ?_)
  have hl : lv_has ls 4 [(0, .ref a0)] := hl
  unfold f_X7_countQuiet at h
  obtain ⟨htg, h⟩ := gsn h
  refine lv_aload_n hx hb dX7_countQuiet_0 rfl (lv_at hl 0 rfl) ?_
  obtain ⟨x1, hx1, h⟩ := bnd h
  refine gf_X7_22 X hH hx1 dX7_countQuiet_1 ?_
  refine lv_iconst (v := 0) hx hb dX7_countQuiet_4 (by decide) ?_
  refine lv_iconst (v := 1) hx hb dX7_countQuiet_5 (by decide) ?_
  obtain ⟨x2, hx2, h⟩ := bnd h
  refine w_qI X hH hx2 dX7_countQuiet_6 (fun H locs hH => ?_)
  refine lv_iconst (v := 1) hx hb dX7_countQuiet_7 (by decide) ?_
  refine lv_istore_n (lv' := [(1, .int (1 : Int32)), (0, .ref a0)]) hx hb dX7_countQuiet_8 rfl hl (by decide) rfl (fun ls hl => ?_)
  obtain ⟨x18, hx18, hhx18⟩ := bnd h
  clear h
  refine w_X7_countQuiet_9 l X hRL hcs BIG a0 (1 : Int32) x2 x18 hx18 (fun H locs ls hH hl => ?_) _ _ _ hH (lv_sub hl [1, 0] rfl)
  · have h := hhx18
    clear hhx18
    refine lv_aload_n hx hb dX7_countQuiet_82 rfl (lv_at hl 0 rfl) ?_
    obtain ⟨x19, hx19, h⟩ := bnd h
    refine gf_X7_22 X hH hx19 dX7_countQuiet_83 ?_
    refine lv_aload_n hx hb dX7_countQuiet_86 rfl (lv_at hl 0 rfl) ?_
    obtain ⟨x20, hx20, h⟩ := bnd h
    refine gf_X7_29 X hH hx20 dX7_countQuiet_87 ?_
    obtain ⟨x21, hx21, h⟩ := bnd h
    refine w_aI X hH hx21 dX7_countQuiet_90 ?_
    exact eI X hH h hr dX7_countQuiet_91 (Nat.le_of_ble_eq_true rfl) (Nat.le_of_ble_eq_true rfl)
set_option maxHeartbeats 4000000 in
set_option maxRecDepth 100000 in
theorem w_X7_lastInQuiet_4 {p : Program} {e : Env} {R : Room} {s : State} {m : MethodId} {args : Array Value} {below : List Frame} {meth : Method} {c : Code} {cells slots : Nat} {Q : State → Prop} {G : CG} (l : Launch) (X : Cx p s m args meth c cX7_lastInQuiet 3 RX7 G) (hRL : RmL R 1 0) (hcs : cells ≤ R.cells ∧ slots ≤ R.slots) : ∀ (n : Nat) (v0 : Nat) (v1 : Int32) (v2 : Int32) (μ : Mm) (x : Int32), lp_X7_lastInQuiet_4 n v0 v1 v2 μ = some x → (∀ (H : Heap) (locs : List Loc) (ls : Array Slot), HS G s μ H locs → lv_has ls 3 [(1, .int x)] → W p l e R s m args below meth c H locs cells slots Q (F0 m 52 ls [])) → ∀ (H : Heap) (locs : List Loc) (ls : Array Slot), HS G s μ H locs → lv_has ls 3 [(0, .ref v0), (1, .int v1), (2, .int v2)] → W p l e R s m args below meth c H locs cells slots Q (F0 m 4 ls []) := by
  have hx := X.1
  have hb := X.2.1
  have hown := X.2.2.2.1
  have hts := X.2.2.2.2.1
  intro n
  induction n with
  | zero =>
    intro v0 v1 v2 μ x h
    rw [lp_X7_lastInQuiet_4] at h
    cases h
  | succ n ih =>
    intro v0 v1 v2 μ x h k0 H locs ls hH hl
    rw [lp_X7_lastInQuiet_4] at h
    refine lv_iload_n hx hb dX7_lastInQuiet_4 rfl (lv_at hl 2 rfl) ?_
    refine lv_aload_n hx hb dX7_lastInQuiet_5 rfl (lv_at hl 0 rfl) ?_
    obtain ⟨x1, hx1, h⟩ := bnd h
    refine gf_X7_25 X hH hx1 dX7_lastInQuiet_6 ?_
    refine lv_icmp_ge (tgt := 52) hx hb dX7_lastInQuiet_9 (by decide) (fun hc2 => ?_) (fun hc2 => ?_)
    · replace h := ift h hc2
      cases h
      exact k0 _ _ _ hH (lv_sub hl [1] rfl)
    · replace h := iff' h hc2
      refine lv_aload_n hx hb dX7_lastInQuiet_12 rfl (lv_at hl 0 rfl) ?_
      obtain ⟨x3, hx3, h⟩ := bnd h
      refine gf_X7_22 X hH hx3 dX7_lastInQuiet_13 ?_
      refine lv_aload_n hx hb dX7_lastInQuiet_16 rfl (lv_at hl 0 rfl) ?_
      obtain ⟨x4, hx4, h⟩ := bnd h
      refine gf_X7_29 X hH hx4 dX7_lastInQuiet_17 ?_
      obtain ⟨x5, hx5, h⟩ := bnd h
      refine w_aI X hH hx5 dX7_lastInQuiet_20 ?_
      refine lv_if_le (tgt := 46) hx hb dX7_lastInQuiet_21 (by decide) (fun hc6 => ?_) (fun hc6 => ?_)
      · replace h := ift h hc6
        refine lv_iinc (v := (v2 + 1)) (lv' := [(2, .int (v2 + 1)), (0, .ref v0), (1, .int v1)]) hx hb dX7_lastInQuiet_46 hl (k := 2) rfl rfl (by decide) rfl (fun ls hl => ?_)
        refine lv_goto (tgt := 4) hx hb dX7_lastInQuiet_49 (by decide) ?_
        exact ih _ _ _ _ _ h k0 _ _ _ hH (lv_sub hl [1, 2, 0] rfl)
      · replace h := iff' h hc6
        refine lv_aload_n hx hb dX7_lastInQuiet_24 rfl (lv_at hl 0 rfl) ?_
        obtain ⟨x7, hx7, h⟩ := bnd h
        refine gf_X7_22 X hH hx7 dX7_lastInQuiet_25 ?_
        refine lv_aload_n hx hb dX7_lastInQuiet_28 rfl (lv_at hl 0 rfl) ?_
        obtain ⟨x8, hx8, h⟩ := bnd h
        refine gf_X7_29 X hH hx8 dX7_lastInQuiet_29 ?_
        refine lv_iconst (v := 1) hx hb dX7_lastInQuiet_32 (by decide) ?_
        refine lv_iload_n hx hb dX7_lastInQuiet_33 rfl (lv_at hl 2 rfl) ?_
        refine lv_ishl hx hb dX7_lastInQuiet_34 ?_
        refine lv_ixor hx hb dX7_lastInQuiet_35 ?_
        obtain ⟨x9, hx9, h⟩ := bnd h
        refine w_aI X hH hx9 dX7_lastInQuiet_36 ?_
        refine lv_if_le (tgt := 46) hx hb dX7_lastInQuiet_37 (by decide) (fun hc10 => ?_) (fun hc10 => ?_)
        · replace h := ift h hc10
          refine lv_iinc (v := (v2 + 1)) (lv' := [(2, .int (v2 + 1)), (0, .ref v0), (1, .int v1)]) hx hb dX7_lastInQuiet_46 hl (k := 2) rfl rfl (by decide) rfl (fun ls hl => ?_)
          refine lv_goto (tgt := 4) hx hb dX7_lastInQuiet_49 (by decide) ?_
          exact ih _ _ _ _ _ h k0 _ _ _ hH (lv_sub hl [1, 2, 0] rfl)
        · replace h := iff' h hc10
          refine lv_iload_n hx hb dX7_lastInQuiet_40 rfl (lv_at hl 1 rfl) ?_
          refine lv_iconst (v := 1) hx hb dX7_lastInQuiet_41 (by decide) ?_
          refine lv_iload_n hx hb dX7_lastInQuiet_42 rfl (lv_at hl 2 rfl) ?_
          refine lv_ishl hx hb dX7_lastInQuiet_43 ?_
          refine lv_ior hx hb dX7_lastInQuiet_44 ?_
          refine lv_istore_n (lv' := [(1, .int (v1 ||| ((1 : Int32) <<< (v2 &&& 31)))), (0, .ref v0), (2, .int v2)]) hx hb dX7_lastInQuiet_45 rfl hl (by decide) rfl (fun ls hl => ?_)
          refine lv_iinc (v := (v2 + 1)) (lv' := [(2, .int (v2 + 1)), (1, .int (v1 ||| ((1 : Int32) <<< (v2 &&& 31)))), (0, .ref v0)]) hx hb dX7_lastInQuiet_46 hl (k := 2) rfl rfl (by decide) rfl (fun ls hl => ?_)
          refine lv_goto (tgt := 4) hx hb dX7_lastInQuiet_49 (by decide) ?_
          exact ih _ _ _ _ _ h k0 _ _ _ hH (lv_sub hl [2, 1, 0] rfl)
theorem t_X7_lastInQuiet {μ : Mm} {a0 : Nat} {x : Int32} (h : f_X7_lastInQuiet μ a0 = some x) : tg μ a0 = 8 := by
  unfold f_X7_lastInQuiet at h
  exact (gsn h).1
set_option maxHeartbeats 4000000 in
set_option maxRecDepth 100000 in
theorem c_X7_lastInQuiet (l : Launch) (G : CG) (μ : Mm) (a0 : Nat) (x : Int32) (h : f_X7_lastInQuiet μ a0 = some x) : Met l yX7_lastInQuiet (.code yX7_lastInQuiet cX7_lastInQuiet 3 (some .int) :: UW) (rmk 1 0 0 0) (PC G [.ref a0] μ) (QI G x μ) 0 0 (fA G) := by
  refine Met.ofW (cc := cX7_lastInQuiet) (maxL := 3) (ret := (some .int)) (by decide) rfl ?_
  intro p e s m args below meth c s₁ B hml hv
  obtain ⟨X, hH, hr, rfl, hnm⟩ := cx_in B hml hv
  have X : Cx p s m _ meth c cX7_lastInQuiet 3 RX7 G := X
  have hx := X.1
  have hb := X.2.1
  have hown := X.2.2.2.1
  have hts := X.2.2.2.2.1
  have hRL : RmL (rmk 1 0 0 0) 1 0 := ⟨Nat.le_refl _, Nat.le_refl _⟩
  have hcs : 0 ≤ (rmk 0 0 0 0).cells ∧ 0 ≤ (rmk 0 0 0 0).slots := ⟨Nat.zero_le _, Nat.zero_le _⟩
  refine ls_in (Nat.le_of_ble_eq_true rfl) (fun ls hl => ?_)
  have hl : lv_has ls 3 [(0, .ref a0)] := hl
  unfold f_X7_lastInQuiet at h
  obtain ⟨htg, h⟩ := gsn h
  refine lv_iconst (v := 0) hx hb dX7_lastInQuiet_0 (by decide) ?_
  refine lv_istore_n (lv' := [(1, .int (0 : Int32)), (0, .ref a0)]) hx hb dX7_lastInQuiet_1 rfl hl (by decide) rfl (fun ls hl => ?_)
  refine lv_iconst (v := 0) hx hb dX7_lastInQuiet_2 (by decide) ?_
  refine lv_istore_n (lv' := [(2, .int (0 : Int32)), (1, .int (0 : Int32)), (0, .ref a0)]) hx hb dX7_lastInQuiet_3 rfl hl (by decide) rfl (fun ls hl => ?_)
  obtain ⟨x11, hx11, hhx11⟩ := bnd h
  clear h
  refine w_X7_lastInQuiet_4 l X hRL hcs BIG a0 (0 : Int32) (0 : Int32) μ x11 hx11 (fun H locs ls hH hl => ?_) _ _ _ hH (lv_sub hl [2, 1, 0] rfl)
  · have h := hhx11
    clear hhx11
    refine lv_iload_n hx hb dX7_lastInQuiet_52 rfl (lv_at hl 0 rfl) ?_
    exact eIp X hH h hr dX7_lastInQuiet_53
set_option maxHeartbeats 4000000 in
set_option maxRecDepth 100000 in
theorem w_X7_firstFit_2 {p : Program} {e : Env} {R : Room} {s : State} {m : MethodId} {args : Array Value} {below : List Frame} {meth : Method} {c : Code} {cells slots : Nat} {Q : State → Prop} {G : CG} (l : Launch) (X : Cx p s m args meth c cX7_firstFit 3 RX7 G) (hRL : RmL R 1 0) (hcs : cells ≤ R.cells ∧ slots ≤ R.slots) : ∀ (n : Nat) (v0 : Nat) (v1 : Int32) (v2 : Int32) (μ : Mm) (x : Nat × Int32), lp_X7_firstFit_2 n v0 v1 v2 μ = some x → (∀ (H : Heap) (locs : List Loc) (ls : Array Slot), x.1 = 0 → HS G s μ H locs → lv_has ls 3 [(2, .int x.2)] → W p l e R s m args below meth c H locs cells slots Q (F0 m 20 ls [])) → (∀ (H : Heap) (locs : List Loc) (ls : Array Slot), x.1 = 1 → HS G s μ H locs → lv_has ls 3 [] → W p l e R s m args below meth c H locs cells slots Q (F0 m 28 ls [])) → ∀ (H : Heap) (locs : List Loc) (ls : Array Slot), HS G s μ H locs → lv_has ls 3 [(0, .ref v0), (1, .int v1), (2, .int v2)] → W p l e R s m args below meth c H locs cells slots Q (F0 m 2 ls []) := by
  have hx := X.1
  have hb := X.2.1
  have hown := X.2.2.2.1
  have hts := X.2.2.2.2.1
  intro n
  induction n with
  | zero =>
    intro v0 v1 v2 μ x h
    rw [lp_X7_firstFit_2] at h
    cases h
  | succ n ih =>
    intro v0 v1 v2 μ x h k0 k1 H locs ls hH hl
    rw [lp_X7_firstFit_2] at h
    refine lv_iload_n hx hb dX7_firstFit_2 rfl (lv_at hl 2 rfl) ?_
    refine lv_aload_n hx hb dX7_firstFit_3 rfl (lv_at hl 0 rfl) ?_
    obtain ⟨x1, hx1, h⟩ := bnd h
    refine gf_X7_29 X hH hx1 dX7_firstFit_4 ?_
    refine lv_icmp_gt (tgt := 28) hx hb dX7_firstFit_7 (by decide) (fun hc2 => ?_) (fun hc2 => ?_)
    · replace h := ift h hc2
      cases h
      exact k1 _ _ _ rfl hH (lv_sub hl [] rfl)
    · replace h := iff' h hc2
      refine lv_aload_n hx hb dX7_firstFit_10 rfl (lv_at hl 0 rfl) ?_
      obtain ⟨x3, hx3, h⟩ := bnd h
      refine gf_X7_9 X hH hx3 dX7_firstFit_11 ?_
      refine lv_iload_n hx hb dX7_firstFit_14 rfl (lv_at hl 2 rfl) ?_
      obtain ⟨x4, hx4, h⟩ := bnd h
      refine w_aI X hH hx4 dX7_firstFit_15 ?_
      refine lv_iload_n hx hb dX7_firstFit_16 rfl (lv_at hl 1 rfl) ?_
      refine lv_icmp_ne (tgt := 22) hx hb dX7_firstFit_17 (by decide) (fun hc5 => ?_) (fun hc5 => ?_)
      · replace h := iff' h hc5
        refine lv_iinc (v := (v2 + 1)) (lv' := [(2, .int (v2 + 1)), (0, .ref v0), (1, .int v1)]) hx hb dX7_firstFit_22 hl (k := 2) rfl rfl (by decide) rfl (fun ls hl => ?_)
        refine lv_goto (tgt := 2) hx hb dX7_firstFit_25 (by decide) ?_
        exact ih _ _ _ _ _ h k0 k1 _ _ _ hH (lv_sub hl [1, 2, 0] rfl)
      · replace h := ift h hc5
        cases h
        exact k0 _ _ _ rfl hH (lv_sub hl [2] rfl)
theorem t_X7_firstFit {μ : Mm} {a0 : Nat} {p1 : Int32} {x : Int32} (h : f_X7_firstFit μ a0 p1 = some x) : tg μ a0 = 8 := by
  unfold f_X7_firstFit at h
  exact (gsn h).1
set_option maxHeartbeats 4000000 in
set_option maxRecDepth 100000 in
theorem c_X7_firstFit (l : Launch) (G : CG) (μ : Mm) (a0 : Nat) (p1 : Int32) (x : Int32) (h : f_X7_firstFit μ a0 p1 = some x) : Met l yX7_firstFit (.code yX7_firstFit cX7_firstFit 3 (some .int) :: UW) (rmk 1 0 0 0) (PC G [.ref a0, .int p1] μ) (QI G x μ) 0 0 (fA G) := by
  refine Met.ofW (cc := cX7_firstFit) (maxL := 3) (ret := (some .int)) (by decide) rfl ?_
  intro p e s m args below meth c s₁ B hml hv
  obtain ⟨X, hH, hr, rfl, hnm⟩ := cx_in B hml hv
  have X : Cx p s m _ meth c cX7_firstFit 3 RX7 G := X
  have hx := X.1
  have hb := X.2.1
  have hown := X.2.2.2.1
  have hts := X.2.2.2.2.1
  have hRL : RmL (rmk 1 0 0 0) 1 0 := ⟨Nat.le_refl _, Nat.le_refl _⟩
  have hcs : 0 ≤ (rmk 0 0 0 0).cells ∧ 0 ≤ (rmk 0 0 0 0).slots := ⟨Nat.zero_le _, Nat.zero_le _⟩
  refine ls_in (Nat.le_of_ble_eq_true rfl) (fun ls hl => ?_)
  have hl : lv_has ls 3 [(0, .ref a0), (1, .int p1)] := hl
  unfold f_X7_firstFit at h
  obtain ⟨htg, h⟩ := gsn h
  refine lv_iconst (v := 0) hx hb dX7_firstFit_0 (by decide) ?_
  refine lv_istore_n (lv' := [(2, .int (0 : Int32)), (0, .ref a0), (1, .int p1)]) hx hb dX7_firstFit_1 rfl hl (by decide) rfl (fun ls hl => ?_)
  obtain ⟨x6, hx6, hhx6⟩ := bnd h
  clear h
  refine w_X7_firstFit_2 l X hRL hcs BIG a0 p1 (0 : Int32) μ x6 hx6 (fun H locs ls hj hH hl => ?_) (fun H locs ls hj hH hl => ?_) _ _ _ hH (lv_sub hl [1, 2, 0] rfl)
  · have h := hhx6
    clear hhx6
    replace h := ift h hj
    refine lv_iload_n hx hb dX7_firstFit_20 rfl (lv_at hl 0 rfl) ?_
    exact eIp X hH h hr dX7_firstFit_21
  · have h := hhx6
    clear hhx6
    replace h := iff' h (by rw [hj]; decide)
    refine lv_bipush (v := -9) hx hb dX7_firstFit_28 (by decide) ?_
    exact eIp X hH h hr dX7_firstFit_30
set_option maxHeartbeats 4000000 in
set_option maxRecDepth 100000 in
theorem w_X7_countFits_5 {p : Program} {e : Env} {R : Room} {s : State} {m : MethodId} {args : Array Value} {below : List Frame} {meth : Method} {c : Code} {cells slots : Nat} {Q : State → Prop} {G : CG} (l : Launch) (X : Cx p s m args meth c cX7_countFits 5 RX7 G) (hRL : RmL R 1 0) (hcs : cells ≤ R.cells ∧ slots ≤ R.slots) : ∀ (n : Nat) (v0 : Nat) (v1 : Int32) (v2 : Int32) (v3 : Int32) (v4 : Int32) (μ : Mm) (x : Int32), lp_X7_countFits_5 n v0 v1 v2 v3 v4 μ = some x → (∀ (H : Heap) (locs : List Loc) (ls : Array Slot), HS G s μ H locs → lv_has ls 5 [(3, .int x)] → W p l e R s m args below meth c H locs cells slots Q (F0 m 42 ls [])) → ∀ (H : Heap) (locs : List Loc) (ls : Array Slot), HS G s μ H locs → lv_has ls 5 [(0, .ref v0), (1, .int v1), (2, .int v2), (3, .int v3), (4, .int v4)] → W p l e R s m args below meth c H locs cells slots Q (F0 m 5 ls []) := by
  have hx := X.1
  have hb := X.2.1
  have hown := X.2.2.2.1
  have hts := X.2.2.2.2.1
  intro n
  induction n with
  | zero =>
    intro v0 v1 v2 v3 v4 μ x h
    rw [lp_X7_countFits_5] at h
    cases h
  | succ n ih =>
    intro v0 v1 v2 v3 v4 μ x h k0 H locs ls hH hl
    rw [lp_X7_countFits_5] at h
    refine lv_iload hx hb dX7_countFits_5 (lv_at hl 4 rfl) ?_
    refine lv_aload_n hx hb dX7_countFits_7 rfl (lv_at hl 0 rfl) ?_
    obtain ⟨x1, hx1, h⟩ := bnd h
    refine gf_X7_29 X hH hx1 dX7_countFits_8 ?_
    refine lv_icmp_gt (tgt := 42) hx hb dX7_countFits_11 (by decide) (fun hc2 => ?_) (fun hc2 => ?_)
    · replace h := ift h hc2
      cases h
      exact k0 _ _ _ hH (lv_sub hl [3] rfl)
    · replace h := iff' h hc2
      refine lv_aload_n hx hb dX7_countFits_14 rfl (lv_at hl 0 rfl) ?_
      obtain ⟨x3, hx3, h⟩ := bnd h
      refine gf_X7_9 X hH hx3 dX7_countFits_15 ?_
      refine lv_iload hx hb dX7_countFits_18 (lv_at hl 4 rfl) ?_
      obtain ⟨x4, hx4, h⟩ := bnd h
      refine w_aI X hH hx4 dX7_countFits_20 ?_
      refine lv_iload_n hx hb dX7_countFits_21 rfl (lv_at hl 1 rfl) ?_
      refine lv_icmp_ne (tgt := 36) hx hb dX7_countFits_22 (by decide) (fun hc5 => ?_) (fun hc5 => ?_)
      · replace h := iff' h hc5
        refine lv_iinc (v := (v4 + 1)) (lv' := [(4, .int (v4 + 1)), (0, .ref v0), (1, .int v1), (2, .int v2), (3, .int v3)]) hx hb dX7_countFits_36 hl (k := 4) rfl rfl (by decide) rfl (fun ls hl => ?_)
        refine lv_goto (tgt := 5) hx hb dX7_countFits_39 (by decide) ?_
        exact ih _ _ _ _ _ _ _ h k0 _ _ _ hH (lv_sub hl [1, 2, 3, 4, 0] rfl)
      · replace h := ift h hc5
        refine lv_iload hx hb dX7_countFits_25 (lv_at hl 4 rfl) ?_
        refine lv_iload_n hx hb dX7_countFits_27 rfl (lv_at hl 2 rfl) ?_
        refine lv_iand hx hb dX7_countFits_28 ?_
        refine lv_iload_n hx hb dX7_countFits_29 rfl (lv_at hl 2 rfl) ?_
        refine lv_icmp_ne (tgt := 36) hx hb dX7_countFits_30 (by decide) (fun hc6 => ?_) (fun hc6 => ?_)
        · replace h := iff' h hc6
          refine lv_iinc (v := (v4 + 1)) (lv' := [(4, .int (v4 + 1)), (0, .ref v0), (1, .int v1), (2, .int v2), (3, .int v3)]) hx hb dX7_countFits_36 hl (k := 4) rfl rfl (by decide) rfl (fun ls hl => ?_)
          refine lv_goto (tgt := 5) hx hb dX7_countFits_39 (by decide) ?_
          exact ih _ _ _ _ _ _ _ h k0 _ _ _ hH (lv_sub hl [1, 2, 3, 4, 0] rfl)
        · replace h := ift h hc6
          refine lv_iinc (v := (v3 + 1)) (lv' := [(3, .int (v3 + 1)), (0, .ref v0), (1, .int v1), (2, .int v2), (4, .int v4)]) hx hb dX7_countFits_33 hl (k := 3) rfl rfl (by decide) rfl (fun ls hl => ?_)
          refine lv_iinc (v := (v4 + 1)) (lv' := [(4, .int (v4 + 1)), (3, .int (v3 + 1)), (0, .ref v0), (1, .int v1), (2, .int v2)]) hx hb dX7_countFits_36 hl (k := 4) rfl rfl (by decide) rfl (fun ls hl => ?_)
          refine lv_goto (tgt := 5) hx hb dX7_countFits_39 (by decide) ?_
          exact ih _ _ _ _ _ _ _ h k0 _ _ _ hH (lv_sub hl [2, 3, 4, 1, 0] rfl)
theorem t_X7_countFits {μ : Mm} {a0 : Nat} {p1 : Int32} {p2 : Int32} {x : Int32} (h : f_X7_countFits μ a0 p1 p2 = some x) : tg μ a0 = 8 := by
  unfold f_X7_countFits at h
  exact (gsn h).1
set_option maxHeartbeats 4000000 in
set_option maxRecDepth 100000 in
theorem c_X7_countFits (l : Launch) (G : CG) (μ : Mm) (a0 : Nat) (p1 : Int32) (p2 : Int32) (x : Int32) (h : f_X7_countFits μ a0 p1 p2 = some x) : Met l yX7_countFits (.code yX7_countFits cX7_countFits 5 (some .int) :: UW) (rmk 1 0 0 0) (PC G [.ref a0, .int p1, .int p2] μ) (QI G x μ) 0 0 (fA G) := by
  refine Met.ofW (cc := cX7_countFits) (maxL := 5) (ret := (some .int)) (by decide) rfl ?_
  intro p e s m args below meth c s₁ B hml hv
  obtain ⟨X, hH, hr, rfl, hnm⟩ := cx_in B hml hv
  have X : Cx p s m _ meth c cX7_countFits 5 RX7 G := X
  have hx := X.1
  have hb := X.2.1
  have hown := X.2.2.2.1
  have hts := X.2.2.2.2.1
  have hRL : RmL (rmk 1 0 0 0) 1 0 := ⟨Nat.le_refl _, Nat.le_refl _⟩
  have hcs : 0 ≤ (rmk 0 0 0 0).cells ∧ 0 ≤ (rmk 0 0 0 0).slots := ⟨Nat.zero_le _, Nat.zero_le _⟩
  refine ls_in (Nat.le_of_ble_eq_true rfl) (fun ls hl => ?_)
  have hl : lv_has ls 5 [(0, .ref a0), (1, .int p1), (2, .int p2)] := hl
  unfold f_X7_countFits at h
  obtain ⟨htg, h⟩ := gsn h
  refine lv_iconst (v := 0) hx hb dX7_countFits_0 (by decide) ?_
  refine lv_istore_n (lv' := [(3, .int (0 : Int32)), (0, .ref a0), (1, .int p1), (2, .int p2)]) hx hb dX7_countFits_1 rfl hl (by decide) rfl (fun ls hl => ?_)
  refine lv_iconst (v := 0) hx hb dX7_countFits_2 (by decide) ?_
  refine lv_istore (lv' := [(4, .int (0 : Int32)), (3, .int (0 : Int32)), (0, .ref a0), (1, .int p1), (2, .int p2)]) hx hb dX7_countFits_3 hl (by decide) rfl (fun ls hl => ?_)
  obtain ⟨x7, hx7, hhx7⟩ := bnd h
  clear h
  refine w_X7_countFits_5 l X hRL hcs BIG a0 p1 p2 (0 : Int32) (0 : Int32) μ x7 hx7 (fun H locs ls hH hl => ?_) _ _ _ hH (lv_sub hl [2, 3, 4, 1, 0] rfl)
  · have h := hhx7
    clear hhx7
    refine lv_iload_n hx hb dX7_countFits_42 rfl (lv_at hl 0 rfl) ?_
    exact eIp X hH h hr dX7_countFits_43
theorem t_X8_isThere {μ : Mm} {a0 : Nat} {x : Int32} (h : f_X8_isThere μ a0 = some x) : tg μ a0 = 9 := by
  unfold f_X8_isThere at h
  exact (gsn h).1
set_option maxHeartbeats 4000000 in
set_option maxRecDepth 100000 in
theorem c_X8_isThere (l : Launch) (G : CG) (μ : Mm) (a0 : Nat) (x : Int32) (h : f_X8_isThere μ a0 = some x) : Met l yX8_isThere (.code yX8_isThere cX8_isThere 1 (some .boolean) :: UW) (rmk 1 0 0 0) (PC G [.ref a0] μ) (QI G x μ) 0 0 (fA G) := by
  refine Met.ofW (cc := cX8_isThere) (maxL := 1) (ret := (some .boolean)) (by decide) rfl ?_
  intro p e s m args below meth c s₁ B hml hv
  obtain ⟨X, hH, hr, rfl, hnm⟩ := cx_in B hml hv
  have X : Cx p s m _ meth c cX8_isThere 1 RX8 G := X
  have hx := X.1
  have hb := X.2.1
  have hown := X.2.2.2.1
  have hts := X.2.2.2.2.1
  have hRL : RmL (rmk 1 0 0 0) 1 0 := ⟨Nat.le_refl _, Nat.le_refl _⟩
  have hcs : 0 ≤ (rmk 0 0 0 0).cells ∧ 0 ≤ (rmk 0 0 0 0).slots := ⟨Nat.zero_le _, Nat.zero_le _⟩
  refine ls_in (Nat.le_of_ble_eq_true rfl) (fun ls hl => ?_)
  have hl : lv_has ls 1 [(0, .ref a0)] := hl
  unfold f_X8_isThere at h
  obtain ⟨htg, h⟩ := gsn h
  refine lv_aload_n hx hb dX8_isThere_0 rfl (lv_at hl 0 rfl) ?_
  obtain ⟨x1, hx1, h⟩ := bnd h
  refine gf_X8_9 X hH hx1 dX8_isThere_1 ?_
  refine lv_if_lt (tgt := 11) hx hb dX8_isThere_4 (by decide) (fun hc2 => ?_) (fun hc2 => ?_)
  · replace h := ift h hc2
    refine lv_iconst (v := 0) hx hb dX8_isThere_11 (by decide) ?_
    exact eZp X hH (by decide) h hr dX8_isThere_12
  · replace h := iff' h hc2
    refine lv_iconst (v := 1) hx hb dX8_isThere_7 (by decide) ?_
    refine lv_goto (tgt := 12) hx hb dX8_isThere_8 (by decide) ?_
    exact eZp X hH (by decide) h hr dX8_isThere_12
theorem t_X8_close {μ : Mm} {a0 : Nat} {x : Mm} (h : f_X8_close μ a0 = some x) : tg μ a0 = 9 := by
  unfold f_X8_close at h
  exact (gsn h).1
set_option maxHeartbeats 4000000 in
set_option maxRecDepth 100000 in
theorem c_X8_close (l : Launch) (G : CG) (μ : Mm) (a0 : Nat) (x : Mm) (h : f_X8_close μ a0 = some x) : Met l yX8_close (.code yX8_close cX8_close 1 none :: UW) (rmk 1 0 0 0) (PC G [.ref a0] μ) (QV G x) 0 0 (fA G) := by
  refine Met.ofW (cc := cX8_close) (maxL := 1) (ret := none) (by decide) rfl ?_
  intro p e s m args below meth c s₁ B hml hv
  obtain ⟨X, hH, hr, rfl, hnm⟩ := cx_in B hml hv
  have X : Cx p s m _ meth c cX8_close 1 RX8 G := X
  have hx := X.1
  have hb := X.2.1
  have hown := X.2.2.2.1
  have hts := X.2.2.2.2.1
  have hRL : RmL (rmk 1 0 0 0) 1 0 := ⟨Nat.le_refl _, Nat.le_refl _⟩
  have hcs : 0 ≤ (rmk 0 0 0 0).cells ∧ 0 ≤ (rmk 0 0 0 0).slots := ⟨Nat.zero_le _, Nat.zero_le _⟩
  refine ls_in (Nat.le_of_ble_eq_true rfl) (fun ls hl => ?_)
  have hl : lv_has ls 1 [(0, .ref a0)] := hl
  unfold f_X8_close at h
  obtain ⟨htg, h⟩ := gsn h
  refine lv_aload_n hx hb dX8_close_0 rfl (lv_at hl 0 rfl) ?_
  refine lv_iconst (v := -1) hx hb dX8_close_1 (by decide) ?_
  obtain ⟨x1, hx1, h⟩ := bnd h
  refine pf_X8_9 X hH hx1 dX8_close_2 (fun H locs hH => ?_)
  exact eV X hH h hr dX8_close_5 (Nat.le_of_ble_eq_true rfl) (Nat.le_of_ble_eq_true rfl)
set_option maxHeartbeats 4000000 in
set_option maxRecDepth 100000 in
theorem w_X8_takeFrom_18 {p : Program} {e : Env} {R : Room} {s : State} {m : MethodId} {args : Array Value} {below : List Frame} {meth : Method} {c : Code} {cells slots : Nat} {Q : State → Prop} {G : CG} (l : Launch) (X : Cx p s m args meth c cX8_takeFrom 3 RX8 G) (hRL : RmL R 1 32) (hcs : cells ≤ R.cells ∧ slots ≤ R.slots) : ∀ (n : Nat) (v0 : Nat) (v1 : Nat) (v2 : Int32) (μ : Mm) (x : Mm), lp_X8_takeFrom_18 n v0 v1 v2 μ = some x → (∀ (H : Heap) (locs : List Loc) (ls : Array Slot), HS G s x H locs → lv_has ls 3 [] → W p l e R s m args below meth c H locs cells slots Q (F0 m 44 ls [])) → ∀ (H : Heap) (locs : List Loc) (ls : Array Slot), HS G s μ H locs → lv_has ls 3 [(0, .ref v0), (1, .ref v1), (2, .int v2)] → W p l e R s m args below meth c H locs cells slots Q (F0 m 18 ls []) := by
  have hx := X.1
  have hb := X.2.1
  have hown := X.2.2.2.1
  have hts := X.2.2.2.2.1
  intro n
  induction n with
  | zero =>
    intro v0 v1 v2 μ x h
    rw [lp_X8_takeFrom_18] at h
    cases h
  | succ n ih =>
    intro v0 v1 v2 μ x h k0 H locs ls hH hl
    rw [lp_X8_takeFrom_18] at h
    refine lv_iload_n hx hb dX8_takeFrom_18 rfl (lv_at hl 2 rfl) ?_
    refine lv_aload_n hx hb dX8_takeFrom_19 rfl (lv_at hl 0 rfl) ?_
    obtain ⟨x5, hx5, h⟩ := bnd h
    refine gf_X8_9 X hH hx5 dX8_takeFrom_20 ?_
    refine lv_icmp_ge (tgt := 44) hx hb dX8_takeFrom_23 (by decide) (fun hc6 => ?_) (fun hc6 => ?_)
    · replace h := ift h hc6
      cases h
      exact k0 _ _ _ hH (lv_sub hl [] rfl)
    · replace h := iff' h hc6
      refine lv_aload_n hx hb dX8_takeFrom_26 rfl (lv_at hl 0 rfl) ?_
      obtain ⟨x7, hx7, h⟩ := bnd h
      refine gf_X8_21 X hH hx7 dX8_takeFrom_27 ?_
      refine lv_iload_n hx hb dX8_takeFrom_30 rfl (lv_at hl 2 rfl) ?_
      refine lv_aload_n hx hb dX8_takeFrom_31 rfl (lv_at hl 1 rfl) ?_
      obtain ⟨x8, hx8, h⟩ := bnd h
      refine gf_X8_21 X hH hx8 dX8_takeFrom_32 ?_
      refine lv_iload_n hx hb dX8_takeFrom_35 rfl (lv_at hl 2 rfl) ?_
      obtain ⟨x9, hx9, h⟩ := bnd h
      refine w_aI X hH hx9 dX8_takeFrom_36 ?_
      obtain ⟨x10, hx10, h⟩ := bnd h
      refine w_qI X hH hx10 dX8_takeFrom_37 (fun H locs hH => ?_)
      refine lv_iinc (v := (v2 + 1)) (lv' := [(2, .int (v2 + 1)), (0, .ref v0), (1, .ref v1)]) hx hb dX8_takeFrom_38 hl (k := 2) rfl rfl (by decide) rfl (fun ls hl => ?_)
      refine lv_goto (tgt := 18) hx hb dX8_takeFrom_41 (by decide) ?_
      exact ih _ _ _ _ _ h k0 _ _ _ hH (lv_sub hl [1, 2, 0] rfl)
theorem t_X8_takeFrom {μ : Mm} {a0 : Nat} {p1 : Nat} {x : Mm} (h : f_X8_takeFrom μ a0 p1 = some x) : tg μ a0 = 9 := by
  unfold f_X8_takeFrom at h
  exact (gsn h).1
set_option maxHeartbeats 4000000 in
set_option maxRecDepth 100000 in
theorem c_X8_takeFrom (l : Launch) (G : CG) (μ : Mm) (a0 : Nat) (p1 : Nat) (x : Mm) (h : f_X8_takeFrom μ a0 p1 = some x) : Met l yX8_takeFrom (.code yX8_takeFrom cX8_takeFrom 3 none :: UW) (rmk 1 32 0 0) (PC G [.ref a0, .ref p1] μ) (QV G x) 0 0 (fA G) := by
  refine Met.ofW (cc := cX8_takeFrom) (maxL := 3) (ret := none) (by decide) rfl ?_
  intro p e s m args below meth c s₁ B hml hv
  obtain ⟨X, hH, hr, rfl, hnm⟩ := cx_in B hml hv
  have X : Cx p s m _ meth c cX8_takeFrom 3 RX8 G := X
  have hx := X.1
  have hb := X.2.1
  have hown := X.2.2.2.1
  have hts := X.2.2.2.2.1
  have hRL : RmL (rmk 1 32 0 0) 1 32 := ⟨Nat.le_refl _, Nat.le_refl _⟩
  have hcs : 0 ≤ (rmk 0 0 0 0).cells ∧ 0 ≤ (rmk 0 0 0 0).slots := ⟨Nat.zero_le _, Nat.zero_le _⟩
  refine ls_in (Nat.le_of_ble_eq_true rfl) (fun ls hl => ?_)
  have hl : lv_has ls 3 [(0, .ref a0), (1, .ref p1)] := hl
  unfold f_X8_takeFrom at h
  obtain ⟨htg, h⟩ := gsn h
  refine lv_aload_n hx hb dX8_takeFrom_0 rfl (lv_at hl 0 rfl) ?_
  refine lv_aload_n hx hb dX8_takeFrom_1 rfl (lv_at hl 1 rfl) ?_
  obtain ⟨x1, hx1, h⟩ := bnd h
  refine gf_X8_9 X hH hx1 dX8_takeFrom_2 ?_
  refine lv_aload_n hx hb dX8_takeFrom_5 rfl (lv_at hl 0 rfl) ?_
  obtain ⟨x2, hx2, h⟩ := bnd h
  refine gf_X8_21 X hH hx2 dX8_takeFrom_6 ?_
  obtain ⟨htx3, h⟩ := gsn h
  obtain ⟨x3, hx3, h⟩ := bnd h
  refine w_len X hH hx3 htx3 (k := 1) rfl dX8_takeFrom_9 ?_
  refine w_min X hRL (by decide) hl.1 u_100 u_101 u_24 u_102 hcs dX8_takeFrom_10 (Nat.le_of_ble_eq_true rfl) ?_
  obtain ⟨x4, hx4, h⟩ := bnd h
  refine pf_X8_9 X hH hx4 dX8_takeFrom_13 (fun H locs hH => ?_)
  refine lv_iconst (v := 0) hx hb dX8_takeFrom_16 (by decide) ?_
  refine lv_istore_n (lv' := [(2, .int (0 : Int32)), (0, .ref a0), (1, .ref p1)]) hx hb dX8_takeFrom_17 rfl hl (by decide) rfl (fun ls hl => ?_)
  obtain ⟨x11, hx11, hhx11⟩ := bnd h
  clear h
  refine w_X8_takeFrom_18 l X hRL hcs BIG a0 p1 (0 : Int32) x4 x11 hx11 (fun H locs ls hH hl => ?_) _ _ _ hH (lv_sub hl [1, 2, 0] rfl)
  · have h := hhx11
    clear hhx11
    exact eV X hH h hr dX8_takeFrom_44 (Nat.le_of_ble_eq_true rfl) (Nat.le_of_ble_eq_true rfl)
set_option maxHeartbeats 4000000 in
set_option maxRecDepth 100000 in
theorem w_X8_placeOf_2 {p : Program} {e : Env} {R : Room} {s : State} {m : MethodId} {args : Array Value} {below : List Frame} {meth : Method} {c : Code} {cells slots : Nat} {Q : State → Prop} {G : CG} (l : Launch) (X : Cx p s m args meth c cX8_placeOf 3 RX8 G) (hRL : RmL R 1 0) (hcs : cells ≤ R.cells ∧ slots ≤ R.slots) : ∀ (n : Nat) (v0 : Nat) (v1 : Int32) (v2 : Int32) (μ : Mm) (x : Nat × Int32), lp_X8_placeOf_2 n v0 v1 v2 μ = some x → (∀ (H : Heap) (locs : List Loc) (ls : Array Slot), x.1 = 0 → HS G s μ H locs → lv_has ls 3 [(2, .int x.2)] → W p l e R s m args below meth c H locs cells slots Q (F0 m 20 ls [])) → (∀ (H : Heap) (locs : List Loc) (ls : Array Slot), x.1 = 1 → HS G s μ H locs → lv_has ls 3 [] → W p l e R s m args below meth c H locs cells slots Q (F0 m 28 ls [])) → ∀ (H : Heap) (locs : List Loc) (ls : Array Slot), HS G s μ H locs → lv_has ls 3 [(0, .ref v0), (1, .int v1), (2, .int v2)] → W p l e R s m args below meth c H locs cells slots Q (F0 m 2 ls []) := by
  have hx := X.1
  have hb := X.2.1
  have hown := X.2.2.2.1
  have hts := X.2.2.2.2.1
  intro n
  induction n with
  | zero =>
    intro v0 v1 v2 μ x h
    rw [lp_X8_placeOf_2] at h
    cases h
  | succ n ih =>
    intro v0 v1 v2 μ x h k0 k1 H locs ls hH hl
    rw [lp_X8_placeOf_2] at h
    refine lv_iload_n hx hb dX8_placeOf_2 rfl (lv_at hl 2 rfl) ?_
    refine lv_aload_n hx hb dX8_placeOf_3 rfl (lv_at hl 0 rfl) ?_
    obtain ⟨x1, hx1, h⟩ := bnd h
    refine gf_X8_9 X hH hx1 dX8_placeOf_4 ?_
    refine lv_icmp_ge (tgt := 28) hx hb dX8_placeOf_7 (by decide) (fun hc2 => ?_) (fun hc2 => ?_)
    · replace h := ift h hc2
      cases h
      exact k1 _ _ _ rfl hH (lv_sub hl [] rfl)
    · replace h := iff' h hc2
      refine lv_aload_n hx hb dX8_placeOf_10 rfl (lv_at hl 0 rfl) ?_
      obtain ⟨x3, hx3, h⟩ := bnd h
      refine gf_X8_21 X hH hx3 dX8_placeOf_11 ?_
      refine lv_iload_n hx hb dX8_placeOf_14 rfl (lv_at hl 2 rfl) ?_
      obtain ⟨x4, hx4, h⟩ := bnd h
      refine w_aI X hH hx4 dX8_placeOf_15 ?_
      refine lv_iload_n hx hb dX8_placeOf_16 rfl (lv_at hl 1 rfl) ?_
      refine lv_icmp_ne (tgt := 22) hx hb dX8_placeOf_17 (by decide) (fun hc5 => ?_) (fun hc5 => ?_)
      · replace h := iff' h hc5
        refine lv_iinc (v := (v2 + 1)) (lv' := [(2, .int (v2 + 1)), (0, .ref v0), (1, .int v1)]) hx hb dX8_placeOf_22 hl (k := 2) rfl rfl (by decide) rfl (fun ls hl => ?_)
        refine lv_goto (tgt := 2) hx hb dX8_placeOf_25 (by decide) ?_
        exact ih _ _ _ _ _ h k0 k1 _ _ _ hH (lv_sub hl [1, 2, 0] rfl)
      · replace h := ift h hc5
        cases h
        exact k0 _ _ _ rfl hH (lv_sub hl [2] rfl)
theorem t_X8_placeOf {μ : Mm} {a0 : Nat} {p1 : Int32} {x : Int32} (h : f_X8_placeOf μ a0 p1 = some x) : tg μ a0 = 9 := by
  unfold f_X8_placeOf at h
  exact (gsn h).1
set_option maxHeartbeats 4000000 in
set_option maxRecDepth 100000 in
theorem c_X8_placeOf (l : Launch) (G : CG) (μ : Mm) (a0 : Nat) (p1 : Int32) (x : Int32) (h : f_X8_placeOf μ a0 p1 = some x) : Met l yX8_placeOf (.code yX8_placeOf cX8_placeOf 3 (some .int) :: UW) (rmk 1 0 0 0) (PC G [.ref a0, .int p1] μ) (QI G x μ) 0 0 (fA G) := by
  refine Met.ofW (cc := cX8_placeOf) (maxL := 3) (ret := (some .int)) (by decide) rfl ?_
  intro p e s m args below meth c s₁ B hml hv
  obtain ⟨X, hH, hr, rfl, hnm⟩ := cx_in B hml hv
  have X : Cx p s m _ meth c cX8_placeOf 3 RX8 G := X
  have hx := X.1
  have hb := X.2.1
  have hown := X.2.2.2.1
  have hts := X.2.2.2.2.1
  have hRL : RmL (rmk 1 0 0 0) 1 0 := ⟨Nat.le_refl _, Nat.le_refl _⟩
  have hcs : 0 ≤ (rmk 0 0 0 0).cells ∧ 0 ≤ (rmk 0 0 0 0).slots := ⟨Nat.zero_le _, Nat.zero_le _⟩
  refine ls_in (Nat.le_of_ble_eq_true rfl) (fun ls hl => ?_)
  have hl : lv_has ls 3 [(0, .ref a0), (1, .int p1)] := hl
  unfold f_X8_placeOf at h
  obtain ⟨htg, h⟩ := gsn h
  refine lv_iconst (v := 0) hx hb dX8_placeOf_0 (by decide) ?_
  refine lv_istore_n (lv' := [(2, .int (0 : Int32)), (0, .ref a0), (1, .int p1)]) hx hb dX8_placeOf_1 rfl hl (by decide) rfl (fun ls hl => ?_)
  obtain ⟨x6, hx6, hhx6⟩ := bnd h
  clear h
  refine w_X8_placeOf_2 l X hRL hcs BIG a0 p1 (0 : Int32) μ x6 hx6 (fun H locs ls hj hH hl => ?_) (fun H locs ls hj hH hl => ?_) _ _ _ hH (lv_sub hl [1, 2, 0] rfl)
  · have h := hhx6
    clear hhx6
    replace h := ift h hj
    refine lv_iload_n hx hb dX8_placeOf_20 rfl (lv_at hl 0 rfl) ?_
    exact eIp X hH h hr dX8_placeOf_21
  · have h := hhx6
    clear hhx6
    replace h := iff' h (by rw [hj]; decide)
    refine lv_bipush (v := -9) hx hb dX8_placeOf_28 (by decide) ?_
    exact eIp X hH h hr dX8_placeOf_30
set_option maxHeartbeats 4000000 in
set_option maxRecDepth 100000 in
theorem w_X8_mixInto_15 {p : Program} {e : Env} {R : Room} {s : State} {m : MethodId} {args : Array Value} {below : List Frame} {meth : Method} {c : Code} {cells slots : Nat} {Q : State → Prop} {G : CG} (l : Launch) (X : Cx p s m args meth c cX8_mixInto 6 RX8 G) (hRL : RmL R 1 0) (hcs : cells ≤ R.cells ∧ slots ≤ R.slots) : ∀ (n : Nat) (v0 : Nat) (v3 : Int64) (v5 : Int32) (μ : Mm) (x : Int64), lp_X8_mixInto_15 n v0 v3 v5 μ = some x → (∀ (H : Heap) (locs : List Loc) (ls : Array Slot), HS G s μ H locs → lv_has ls 6 [(3, .long x)] → W p l e R s m args below meth c H locs cells slots Q (F0 m 45 ls [])) → ∀ (H : Heap) (locs : List Loc) (ls : Array Slot), HS G s μ H locs → lv_has ls 6 [(0, .ref v0), (3, .long v3), (5, .int v5)] → W p l e R s m args below meth c H locs cells slots Q (F0 m 15 ls []) := by
  have hx := X.1
  have hb := X.2.1
  have hown := X.2.2.2.1
  have hts := X.2.2.2.2.1
  intro n
  induction n with
  | zero =>
    intro v0 v3 v5 μ x h
    rw [lp_X8_mixInto_15] at h
    cases h
  | succ n ih =>
    intro v0 v3 v5 μ x h k0 H locs ls hH hl
    rw [lp_X8_mixInto_15] at h
    refine lv_iload hx hb dX8_mixInto_15 (lv_at hl 2 rfl) ?_
    refine lv_aload_n hx hb dX8_mixInto_17 rfl (lv_at hl 0 rfl) ?_
    obtain ⟨x2, hx2, h⟩ := bnd h
    refine gf_X8_9 X hH hx2 dX8_mixInto_18 ?_
    refine lv_icmp_ge (tgt := 45) hx hb dX8_mixInto_21 (by decide) (fun hc3 => ?_) (fun hc3 => ?_)
    · replace h := ift h hc3
      cases h
      exact k0 _ _ _ hH (lv_sub hl [1] rfl)
    · replace h := iff' h hc3
      refine lv_ldc2 (v := 31) hx hb hown (hts _ u_458) dX8_mixInto_24 ?_
      refine lv_lload_n hx hb dX8_mixInto_27 rfl (lv_at hl 1 rfl) ?_
      refine lv_lmul hx hb dX8_mixInto_28 ?_
      refine lv_aload_n hx hb dX8_mixInto_29 rfl (lv_at hl 0 rfl) ?_
      obtain ⟨x4, hx4, h⟩ := bnd h
      refine gf_X8_21 X hH hx4 dX8_mixInto_30 ?_
      refine lv_iload hx hb dX8_mixInto_33 (lv_at hl 2 rfl) ?_
      obtain ⟨x5, hx5, h⟩ := bnd h
      refine w_aI X hH hx5 dX8_mixInto_35 ?_
      refine lv_i2l hx hb dX8_mixInto_36 rfl ?_
      refine lv_ladd hx hb dX8_mixInto_37 ?_
      refine lv_lstore_n (lv' := [(3, .long (((31 : Int64) * v3) + x5.toInt64)), (0, .ref v0), (5, .int v5)]) hx hb dX8_mixInto_38 rfl hl (by decide) rfl (fun ls hl => ?_)
      refine lv_iinc (v := (v5 + 1)) (lv' := [(5, .int (v5 + 1)), (3, .long (((31 : Int64) * v3) + x5.toInt64)), (0, .ref v0)]) hx hb dX8_mixInto_39 hl (k := 2) rfl rfl (by decide) rfl (fun ls hl => ?_)
      refine lv_goto (tgt := 15) hx hb dX8_mixInto_42 (by decide) ?_
      exact ih _ _ _ _ _ h k0 _ _ _ hH (lv_sub hl [2, 1, 0] rfl)
theorem t_X8_mixInto {μ : Mm} {a0 : Nat} {p1 : Int64} {x : Int64} (h : f_X8_mixInto μ a0 p1 = some x) : tg μ a0 = 9 := by
  unfold f_X8_mixInto at h
  exact (gsn h).1
set_option maxHeartbeats 4000000 in
set_option maxRecDepth 100000 in
theorem c_X8_mixInto (l : Launch) (G : CG) (μ : Mm) (a0 : Nat) (p1 : Int64) (x : Int64) (h : f_X8_mixInto μ a0 p1 = some x) : Met l yX8_mixInto (.code yX8_mixInto cX8_mixInto 6 (some .long) :: UW) (rmk 1 0 0 0) (PC G [.ref a0, .long p1] μ) (QL G x μ) 0 0 (fA G) := by
  refine Met.ofW (cc := cX8_mixInto) (maxL := 6) (ret := (some .long)) (by decide) rfl ?_
  intro p e s m args below meth c s₁ B hml hv
  obtain ⟨X, hH, hr, rfl, hnm⟩ := cx_in B hml hv
  have X : Cx p s m _ meth c cX8_mixInto 6 RX8 G := X
  have hx := X.1
  have hb := X.2.1
  have hown := X.2.2.2.1
  have hts := X.2.2.2.2.1
  have hRL : RmL (rmk 1 0 0 0) 1 0 := ⟨Nat.le_refl _, Nat.le_refl _⟩
  have hcs : 0 ≤ (rmk 0 0 0 0).cells ∧ 0 ≤ (rmk 0 0 0 0).slots := ⟨Nat.zero_le _, Nat.zero_le _⟩
  refine ls_in (Nat.le_of_ble_eq_true rfl) (fun ls hl => ?_)
  have hl : lv_has ls 6 [(0, .ref a0), (1, .long p1)] := hl
  unfold f_X8_mixInto at h
  obtain ⟨htg, h⟩ := gsn h
  refine lv_ldc2 (v := 31) hx hb hown (hts _ u_458) dX8_mixInto_0 ?_
  refine lv_lload_n hx hb dX8_mixInto_3 rfl (lv_at hl 1 rfl) ?_
  refine lv_lmul hx hb dX8_mixInto_4 ?_
  refine lv_aload_n hx hb dX8_mixInto_5 rfl (lv_at hl 0 rfl) ?_
  obtain ⟨x1, hx1, h⟩ := bnd h
  refine gf_X8_9 X hH hx1 dX8_mixInto_6 ?_
  refine lv_i2l hx hb dX8_mixInto_9 rfl ?_
  refine lv_ladd hx hb dX8_mixInto_10 ?_
  refine lv_lstore_n (lv' := [(3, .long (((31 : Int64) * p1) + x1.toInt64)), (0, .ref a0), (1, .long p1)]) hx hb dX8_mixInto_11 rfl hl (by decide) rfl (fun ls hl => ?_)
  refine lv_iconst (v := 0) hx hb dX8_mixInto_12 (by decide) ?_
  refine lv_istore (lv' := [(5, .int (0 : Int32)), (3, .long (((31 : Int64) * p1) + x1.toInt64)), (0, .ref a0), (1, .long p1)]) hx hb dX8_mixInto_13 hl (by decide) rfl (fun ls hl => ?_)
  obtain ⟨x6, hx6, hhx6⟩ := bnd h
  clear h
  refine w_X8_mixInto_15 l X hRL hcs BIG a0 (((31 : Int64) * p1) + x1.toInt64) (0 : Int32) μ x6 hx6 (fun H locs ls hH hl => ?_) _ _ _ hH (lv_sub hl [2, 1, 0] rfl)
  · have h := hhx6
    clear hhx6
    refine lv_lload_n hx hb dX8_mixInto_45 rfl (lv_at hl 0 rfl) ?_
    exact eLp X hH h hr dX8_mixInto_46
