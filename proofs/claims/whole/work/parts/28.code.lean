set_option maxHeartbeats 1000000 in
theorem iv_X12_124 {p : Program} {e : Env} {R : Room} {s : State} {m : MethodId} {args : Array Value} {below : List Frame} {meth : Method} {c : Code} {H : Heap} {locs : List Loc} {cells slots : Nat} {Q : State → Prop} {cc : ByteArray} {pc : Nat} {ls : Array Slot} {rest : List Value} {nL : Nat} {G : CG} {μ : Mm} {a : Nat} {q0 : Int32} {q1 : Int32} {x : Int32} {k : Nat} (l : Launch) (X : Cx p s m args meth c cc nL RX12 G) (hH : HS G s μ H locs) (hRL : RmL R k) (hk : 1 + 1 ≤ k) (h : f_X12_byteAt μ a q0 q1 = some x) (hls : ls.size = nL) (hroom : (rest.map fun v => v.category).sum ≤ 8) (hdg : decode cc pc = .ok (.invokevirtual 124, 3)) (hcs : cells + 0 ≤ R.cells ∧ slots + 0 ≤ R.slots) (kk : ∀ (H1 : Heap) (locs1 : List Loc), HS G s μ H1 locs1 → W p l e R s m args below meth c H1 locs1 cells slots Q (F0 m (pc + 3) ls (.int x :: rest))) : W p l e R s m args below meth c H locs cells slots Q (F0 m pc ls (.int q1 :: .int q0 :: .ref a :: rest)) := by
  refine kI hH (rV (As := [.int q0, .int q1]) (rest := rest) X hH (t_X12_byteAt h) vc_12 (c_X12_byteAt l G μ a q0 q1 x h) (List.forall_mem_cons.mpr ⟨u_1188, (List.forall_mem_cons.mpr ⟨u_1190, (List.forall_mem_cons.mpr ⟨u_26, (List.forall_mem_cons.mpr ⟨u_68, (fun _ h9 => absurd h9 List.not_mem_nil)⟩)⟩)⟩)⟩) u_1191 (rmo hRL (Nat.le_trans (by decide) hk) (by decide)) ddV_X12_byteAt rfl hls rfl hroom hdg hcs) kk
theorem t_X12_isFigure {μ : Mm} {a0 : Nat} {p1 : Int32} {p2 : Int32} {x : Int32} (h : f_X12_isFigure μ a0 p1 p2 = some x) : tg μ a0 = 13 := by
  unfold f_X12_isFigure at h
  exact (gsn h).1
set_option maxHeartbeats 4000000 in
set_option maxRecDepth 100000 in
theorem c_X12_isFigure (l : Launch) (G : CG) (μ : Mm) (a0 : Nat) (p1 : Int32) (p2 : Int32) (x : Int32) (h : f_X12_isFigure μ a0 p1 p2 = some x) : Met l yX12_isFigure (.code yX12_isFigure cX12_isFigure 3 (some .boolean) :: UW) (rmk 2 0 0) (PC G [.ref a0, .int p1, .int p2] μ) (QI G x μ) 0 0 (fA G) := by
  refine Met.ofW (cc := cX12_isFigure) (maxL := 3) (ret := (some .boolean)) (by decide) rfl ?_
  intro p e s m args below meth c s₁ B hml hv
  obtain ⟨X, hH, hr, rfl, hnm⟩ := cx_in B hml hv
  have X : Cx p s m _ meth c cX12_isFigure 3 RX12 G := X
  have hx := X.1
  have hb := X.2.1
  have hown := X.2.2.2.1
  have hts := X.2.2.2.2.1
  have hRL : RmL (rmk 2 0 0) 2 := ⟨Nat.le_refl _, Nat.le_refl _⟩
  have hcs : 0 ≤ (rmk 0 0 0).cells ∧ 0 ≤ (rmk 0 0 0).slots := ⟨Nat.zero_le _, Nat.zero_le _⟩
  refine ls_in (Nat.le_of_ble_eq_true rfl) (fun ls hl => ?_)
  have hl : lv_has ls 3 [(0, .ref a0), (1, .int p1), (2, .int p2)] := hl
  unfold f_X12_isFigure at h
  obtain ⟨htg, h⟩ := gsn h
  refine lv_aload_n hx hb dX12_isFigure_0 rfl (lv_at hl 0 rfl) ?_
  refine lv_iload_n hx hb dX12_isFigure_1 rfl (lv_at hl 1 rfl) ?_
  refine lv_iload_n hx hb dX12_isFigure_2 rfl (lv_at hl 2 rfl) ?_
  obtain ⟨x1, hx1, h⟩ := bnd h
  refine iv_X12_124 l X hH hRL (by decide) hx1 hl.1 (Nat.le_of_ble_eq_true rfl) dX12_isFigure_3 hcs (fun H locs hH => ?_)
  refine lv_bipush (v := 48) hx hb dX12_isFigure_6 (by decide) ?_
  refine lv_bipush (v := 57) hx hb dX12_isFigure_8 (by decide) ?_
  obtain ⟨x2, hx2, h⟩ := bnd h
  refine iv_X12_96 l X hH hRL (by decide) hx2 hl.1 (Nat.le_of_ble_eq_true rfl) dX12_isFigure_10 hcs (fun H locs hH => ?_)
  obtain ⟨_, hzb, h⟩ := bnd h
  exact eZp X hH (gsm hzb).1 h hr dX12_isFigure_13
set_option maxHeartbeats 1000000 in
theorem iv_X12_130 {p : Program} {e : Env} {R : Room} {s : State} {m : MethodId} {args : Array Value} {below : List Frame} {meth : Method} {c : Code} {H : Heap} {locs : List Loc} {cells slots : Nat} {Q : State → Prop} {cc : ByteArray} {pc : Nat} {ls : Array Slot} {rest : List Value} {nL : Nat} {G : CG} {μ : Mm} {a : Nat} {q0 : Int32} {q1 : Int32} {x : Int32} {k : Nat} (l : Launch) (X : Cx p s m args meth c cc nL RX12 G) (hH : HS G s μ H locs) (hRL : RmL R k) (hk : 2 + 1 ≤ k) (h : f_X12_isFigure μ a q0 q1 = some x) (hls : ls.size = nL) (hroom : (rest.map fun v => v.category).sum ≤ 8) (hdg : decode cc pc = .ok (.invokevirtual 130, 3)) (hcs : cells + 0 ≤ R.cells ∧ slots + 0 ≤ R.slots) (kk : ∀ (H1 : Heap) (locs1 : List Loc), HS G s μ H1 locs1 → W p l e R s m args below meth c H1 locs1 cells slots Q (F0 m (pc + 3) ls (.int x :: rest))) : W p l e R s m args below meth c H locs cells slots Q (F0 m pc ls (.int q1 :: .int q0 :: .ref a :: rest)) := by
  refine kI hH (rV (As := [.int q0, .int q1]) (rest := rest) X hH (t_X12_isFigure h) vc_12 (c_X12_isFigure l G μ a q0 q1 x h) (List.forall_mem_cons.mpr ⟨u_1204, (List.forall_mem_cons.mpr ⟨u_1206, (List.forall_mem_cons.mpr ⟨u_30, (List.forall_mem_cons.mpr ⟨u_68, (fun _ h9 => absurd h9 List.not_mem_nil)⟩)⟩)⟩)⟩) u_1207 (rmo hRL (Nat.le_trans (by decide) hk) (by decide)) ddV_X12_isFigure rfl hls rfl hroom hdg hcs) kk
set_option maxHeartbeats 4000000 in
set_option maxRecDepth 100000 in
theorem w_X12_readsTwo_3 {p : Program} {e : Env} {R : Room} {s : State} {m : MethodId} {args : Array Value} {below : List Frame} {meth : Method} {c : Code} {cells slots : Nat} {Q : State → Prop} {G : CG} (l : Launch) (X : Cx p s m args meth c cX12_readsTwo 5 RX12 G) (hRL : RmL R 3) (hcs : cells ≤ R.cells ∧ slots ≤ R.slots) : ∀ (n : Nat) (v0 : Nat) (v1 : Int32) (v2 : Int32) (v3 : Int32) (v4 : Int32) (μ : Mm) (x : Nat × Int32), lp_X12_readsTwo_3 n v0 v1 v2 v3 v4 μ = some x → (∀ (H : Heap) (locs : List Loc) (ls : Array Slot), x.1 = 0 → HS G s μ H locs → lv_has ls 5 [(0, .ref v0), (4, .int x.2)] → W p l e R s m args below meth c H locs cells slots Q (F0 m 24 ls [])) → (∀ (H : Heap) (locs : List Loc) (ls : Array Slot), x.1 = 1 → HS G s μ H locs → lv_has ls 5 [(0, .ref v0), (1, .int v1), (2, .int v2), (3, .int v3)] → W p l e R s m args below meth c H locs cells slots Q (F0 m 44 ls [])) → ∀ (H : Heap) (locs : List Loc) (ls : Array Slot), HS G s μ H locs → lv_has ls 5 [(0, .ref v0), (1, .int v1), (2, .int v2), (3, .int v3), (4, .int v4)] → W p l e R s m args below meth c H locs cells slots Q (F0 m 3 ls []) := by
  have hx := X.1
  have hb := X.2.1
  have hown := X.2.2.2.1
  have hts := X.2.2.2.2.1
  intro n
  induction n with
  | zero =>
    intro v0 v1 v2 v3 v4 μ x h
    rw [lp_X12_readsTwo_3] at h
    cases h
  | succ n ih =>
    intro v0 v1 v2 v3 v4 μ x h k0 k1 H locs ls hH hl
    rw [lp_X12_readsTwo_3] at h
    refine lv_iload hx hb dX12_readsTwo_3 (lv_at hl 4 rfl) ?_
    refine lv_iconst (v := 2) hx hb dX12_readsTwo_5 (by decide) ?_
    refine lv_icmp_ge (tgt := 44) hx hb dX12_readsTwo_6 (by decide) (fun hc1 => ?_) (fun hc1 => ?_)
    · replace h := ift h hc1
      cases h
      exact k1 _ _ _ rfl hH (lv_sub hl [0, 1, 2, 3] rfl)
    · replace h := iff' h hc1
      refine lv_aload_n hx hb dX12_readsTwo_9 rfl (lv_at hl 0 rfl) ?_
      refine lv_iload_n hx hb dX12_readsTwo_10 rfl (lv_at hl 1 rfl) ?_
      refine lv_aload_n hx hb dX12_readsTwo_11 rfl (lv_at hl 0 rfl) ?_
      obtain ⟨x2, hx2, h⟩ := bnd h
      refine gf_X12_127 X hH hx2 dX12_readsTwo_12 ?_
      refine lv_iload hx hb dX12_readsTwo_15 (lv_at hl 4 rfl) ?_
      refine lv_iadd hx hb dX12_readsTwo_17 ?_
      obtain ⟨x3, hx3, h⟩ := bnd h
      refine iv_X12_130 l X hH hRL (by decide) hx3 hl.1 (Nat.le_of_ble_eq_true rfl) dX12_readsTwo_18 hcs (fun H locs hH => ?_)
      refine lv_if_ne (tgt := 38) hx hb dX12_readsTwo_21 (by decide) (fun hc4 => ?_) (fun hc4 => ?_)
      · replace h := iff' h hc4
        refine lv_iinc (v := (v4 + 1)) (lv' := [(4, .int (v4 + 1)), (0, .ref v0), (1, .int v1), (2, .int v2), (3, .int v3)]) hx hb dX12_readsTwo_38 hl (k := 4) rfl rfl (by decide) rfl (fun ls hl => ?_)
        refine lv_goto (tgt := 3) hx hb dX12_readsTwo_41 (by decide) ?_
        exact ih _ _ _ _ _ _ _ h k0 k1 _ _ _ hH (lv_sub hl [1, 2, 3, 4, 0] rfl)
      · replace h := ift h hc4
        cases h
        exact k0 _ _ _ rfl hH (lv_sub hl [0, 4] rfl)
theorem t_X12_readsTwo {μ : Mm} {a0 : Nat} {p1 : Int32} {p2 : Int32} {p3 : Int32} {x : Int32 × Mm} (h : f_X12_readsTwo μ a0 p1 p2 p3 = some x) : tg μ a0 = 13 := by
  unfold f_X12_readsTwo at h
  exact (gsn h).1
set_option maxHeartbeats 4000000 in
set_option maxRecDepth 100000 in
theorem c_X12_readsTwo (l : Launch) (G : CG) (μ : Mm) (a0 : Nat) (p1 : Int32) (p2 : Int32) (p3 : Int32) (x : Int32 × Mm) (h : f_X12_readsTwo μ a0 p1 p2 p3 = some x) : Met l yX12_readsTwo (.code yX12_readsTwo cX12_readsTwo 5 (some .int) :: UW) (rmk 3 0 0) (PC G [.ref a0, .int p1, .int p2, .int p3] μ) (QI G x.1 x.2) 0 0 (fA G) := by
  refine Met.ofW (cc := cX12_readsTwo) (maxL := 5) (ret := (some .int)) (by decide) rfl ?_
  intro p e s m args below meth c s₁ B hml hv
  obtain ⟨X, hH, hr, rfl, hnm⟩ := cx_in B hml hv
  have X : Cx p s m _ meth c cX12_readsTwo 5 RX12 G := X
  have hx := X.1
  have hb := X.2.1
  have hown := X.2.2.2.1
  have hts := X.2.2.2.2.1
  have hRL : RmL (rmk 3 0 0) 3 := ⟨Nat.le_refl _, Nat.le_refl _⟩
  have hcs : 0 ≤ (rmk 0 0 0).cells ∧ 0 ≤ (rmk 0 0 0).slots := ⟨Nat.zero_le _, Nat.zero_le _⟩
  refine ls_in (Nat.le_of_ble_eq_true rfl) (fun ls hl => ?_)
  have hl : lv_has ls 5 [(0, .ref a0), (1, .int p1), (2, .int p2), (3, .int p3)] := hl
  unfold f_X12_readsTwo at h
  obtain ⟨htg, h⟩ := gsn h
  refine lv_iconst (v := 0) hx hb dX12_readsTwo_0 (by decide) ?_
  refine lv_istore (lv' := [(4, .int (0 : Int32)), (0, .ref a0), (1, .int p1), (2, .int p2), (3, .int p3)]) hx hb dX12_readsTwo_1 hl (by decide) rfl (fun ls hl => ?_)
  obtain ⟨x5, hx5, hhx5⟩ := bnd h
  clear h
  refine w_X12_readsTwo_3 l X hRL hcs BIG a0 p1 p2 p3 (0 : Int32) μ x5 hx5 (fun H locs ls hj hH hl => ?_) (fun H locs ls hj hH hl => ?_) _ _ _ hH (lv_sub hl [1, 2, 3, 4, 0] rfl)
  · have h := hhx5
    clear hhx5
    replace h := ift h hj
    refine lv_aload_n hx hb dX12_readsTwo_24 rfl (lv_at hl 0 rfl) ?_
    refine lv_dup hx hb dX12_readsTwo_25 rfl ?_
    obtain ⟨x6, hx6, h⟩ := bnd h
    refine gf_X12_127 X hH hx6 dX12_readsTwo_26 ?_
    refine lv_iload hx hb dX12_readsTwo_29 (lv_at hl 1 rfl) ?_
    refine lv_iadd hx hb dX12_readsTwo_31 ?_
    obtain ⟨x7, hx7, h⟩ := bnd h
    refine pf_X12_127 X hH hx7 dX12_readsTwo_32 (fun H locs hH => ?_)
    refine lv_bipush (v := -9) hx hb dX12_readsTwo_35 (by decide) ?_
    exact eI X hH h hr dX12_readsTwo_37 (Nat.le_of_ble_eq_true rfl) (Nat.le_of_ble_eq_true rfl)
  · have h := hhx5
    clear hhx5
    replace h := iff' h (by rw [hj]; decide)
    refine lv_bipush (v := 10) hx hb dX12_readsTwo_44 (by decide) ?_
    refine lv_aload_n hx hb dX12_readsTwo_46 rfl (lv_at hl 0 rfl) ?_
    refine lv_iload_n hx hb dX12_readsTwo_47 rfl (lv_at hl 1 rfl) ?_
    refine lv_aload_n hx hb dX12_readsTwo_48 rfl (lv_at hl 0 rfl) ?_
    obtain ⟨x8, hx8, h⟩ := bnd h
    refine gf_X12_127 X hH hx8 dX12_readsTwo_49 ?_
    obtain ⟨x9, hx9, h⟩ := bnd h
    refine iv_X12_124 l X hH hRL (by decide) hx9 hl.1 (Nat.le_of_ble_eq_true rfl) dX12_readsTwo_52 hcs (fun H locs hH => ?_)
    refine lv_bipush (v := 48) hx hb dX12_readsTwo_55 (by decide) ?_
    refine lv_isub hx hb dX12_readsTwo_57 ?_
    refine lv_imul hx hb dX12_readsTwo_58 ?_
    refine lv_aload_n hx hb dX12_readsTwo_59 rfl (lv_at hl 0 rfl) ?_
    refine lv_iload_n hx hb dX12_readsTwo_60 rfl (lv_at hl 1 rfl) ?_
    refine lv_aload_n hx hb dX12_readsTwo_61 rfl (lv_at hl 0 rfl) ?_
    obtain ⟨x10, hx10, h⟩ := bnd h
    refine gf_X12_127 X hH hx10 dX12_readsTwo_62 ?_
    refine lv_iconst (v := 1) hx hb dX12_readsTwo_65 (by decide) ?_
    refine lv_iadd hx hb dX12_readsTwo_66 ?_
    obtain ⟨x11, hx11, h⟩ := bnd h
    refine iv_X12_124 l X hH hRL (by decide) hx11 hl.1 (Nat.le_of_ble_eq_true rfl) dX12_readsTwo_67 hcs (fun H locs hH => ?_)
    refine lv_iadd hx hb dX12_readsTwo_70 ?_
    refine lv_bipush (v := 48) hx hb dX12_readsTwo_71 (by decide) ?_
    refine lv_isub hx hb dX12_readsTwo_73 ?_
    refine lv_istore (lv' := [(4, .int ((((10 : Int32) * (x9 - (48 : Int32))) + x11) - (48 : Int32))), (0, .ref a0), (1, .int p1), (2, .int p2), (3, .int p3)]) hx hb dX12_readsTwo_74 hl (by decide) rfl (fun ls hl => ?_)
    refine lv_iload hx hb dX12_readsTwo_76 (lv_at hl 0 rfl) ?_
    refine lv_iload_n hx hb dX12_readsTwo_78 rfl (lv_at hl 3 rfl) ?_
    refine lv_iload_n hx hb dX12_readsTwo_79 rfl (lv_at hl 4 rfl) ?_
    obtain ⟨x12, hx12, h⟩ := bnd h
    refine iv_X12_96 l X hH hRL (by decide) hx12 hl.1 (Nat.le_of_ble_eq_true rfl) dX12_readsTwo_80 hcs (fun H locs hH => ?_)
    refine lv_if_eq (tgt := 91) hx hb dX12_readsTwo_83 (by decide) (fun hc13 => ?_) (fun hc13 => ?_)
    · replace h := ift h hc13
      refine lv_bipush (v := -9) hx hb dX12_readsTwo_91 (by decide) ?_
      exact eI X hH h hr dX12_readsTwo_93 (Nat.le_of_ble_eq_true rfl) (Nat.le_of_ble_eq_true rfl)
    · replace h := iff' h hc13
      refine lv_iload hx hb dX12_readsTwo_86 (lv_at hl 0 rfl) ?_
      refine lv_goto (tgt := 93) hx hb dX12_readsTwo_88 (by decide) ?_
      exact eI X hH h hr dX12_readsTwo_93 (Nat.le_of_ble_eq_true rfl) (Nat.le_of_ble_eq_true rfl)
set_option maxHeartbeats 1000000 in
theorem iv_X12_134 {p : Program} {e : Env} {R : Room} {s : State} {m : MethodId} {args : Array Value} {below : List Frame} {meth : Method} {c : Code} {H : Heap} {locs : List Loc} {cells slots : Nat} {Q : State → Prop} {cc : ByteArray} {pc : Nat} {ls : Array Slot} {rest : List Value} {nL : Nat} {G : CG} {μ : Mm} {a : Nat} {q0 : Int32} {q1 : Int32} {q2 : Int32} {x : Int32 × Mm} {k : Nat} (l : Launch) (X : Cx p s m args meth c cc nL RX12 G) (hH : HS G s μ H locs) (hRL : RmL R k) (hk : 3 + 1 ≤ k) (h : f_X12_readsTwo μ a q0 q1 q2 = some x) (hls : ls.size = nL) (hroom : (rest.map fun v => v.category).sum ≤ 8) (hdg : decode cc pc = .ok (.invokevirtual 134, 3)) (hcs : cells + 0 ≤ R.cells ∧ slots + 0 ≤ R.slots) (kk : ∀ (H1 : Heap) (locs1 : List Loc), HS G s x.2 H1 locs1 → W p l e R s m args below meth c H1 locs1 cells slots Q (F0 m (pc + 3) ls (.int x.1 :: rest))) : W p l e R s m args below meth c H locs cells slots Q (F0 m pc ls (.int q2 :: .int q1 :: .int q0 :: .ref a :: rest)) := by
  refine kI hH (rV (As := [.int q0, .int q1, .int q2]) (rest := rest) X hH (t_X12_readsTwo h) vc_12 (c_X12_readsTwo l G μ a q0 q1 q2 x h) (List.forall_mem_cons.mpr ⟨u_1200, (List.forall_mem_cons.mpr ⟨u_1202, (List.forall_mem_cons.mpr ⟨u_29, (List.forall_mem_cons.mpr ⟨u_68, (fun _ h9 => absurd h9 List.not_mem_nil)⟩)⟩)⟩)⟩) u_1203 (rmo hRL (Nat.le_trans (by decide) hk) (by decide)) ddV_X12_readsTwo rfl hls rfl hroom hdg hcs) kk
theorem t_X12_readsDial {μ : Mm} {a0 : Nat} {p1 : Int32} {x : Int32 × Mm} (h : f_X12_readsDial μ a0 p1 = some x) : tg μ a0 = 13 := by
  unfold f_X12_readsDial at h
  exact (gsn h).1
set_option maxHeartbeats 4000000 in
set_option maxRecDepth 100000 in
theorem c_X12_readsDial (l : Launch) (G : CG) (μ : Mm) (a0 : Nat) (p1 : Int32) (x : Int32 × Mm) (h : f_X12_readsDial μ a0 p1 = some x) : Met l yX12_readsDial (.code yX12_readsDial cX12_readsDial 3 (some .boolean) :: UW) (rmk 4 0 0) (PC G [.ref a0, .int p1] μ) (QI G x.1 x.2) 0 0 (fA G) := by
  refine Met.ofW (cc := cX12_readsDial) (maxL := 3) (ret := (some .boolean)) (by decide) rfl ?_
  intro p e s m args below meth c s₁ B hml hv
  obtain ⟨X, hH, hr, rfl, hnm⟩ := cx_in B hml hv
  have X : Cx p s m _ meth c cX12_readsDial 3 RX12 G := X
  have hx := X.1
  have hb := X.2.1
  have hown := X.2.2.2.1
  have hts := X.2.2.2.2.1
  have hRL : RmL (rmk 4 0 0) 4 := ⟨Nat.le_refl _, Nat.le_refl _⟩
  have hcs : 0 ≤ (rmk 0 0 0).cells ∧ 0 ≤ (rmk 0 0 0).slots := ⟨Nat.zero_le _, Nat.zero_le _⟩
  refine ls_in (Nat.le_of_ble_eq_true rfl) (fun ls hl => ?_)
  have hl : lv_has ls 3 [(0, .ref a0), (1, .int p1)] := hl
  unfold f_X12_readsDial at h
  obtain ⟨htg, h⟩ := gsn h
  refine lv_aload_n hx hb dX12_readsDial_0 rfl (lv_at hl 0 rfl) ?_
  refine lv_iload_n hx hb dX12_readsDial_1 rfl (lv_at hl 1 rfl) ?_
  refine lv_aload_n hx hb dX12_readsDial_2 rfl (lv_at hl 0 rfl) ?_
  obtain ⟨x1, hx1, h⟩ := bnd h
  refine gf_X12_127 X hH hx1 dX12_readsDial_3 ?_
  obtain ⟨x2, hx2, h⟩ := bnd h
  refine iv_X12_124 l X hH hRL (by decide) hx2 hl.1 (Nat.le_of_ble_eq_true rfl) dX12_readsDial_6 hcs (fun H locs hH => ?_)
  refine lv_bipush (v := 100) hx hb dX12_readsDial_9 (by decide) ?_
  refine lv_icmp_eq (tgt := 16) hx hb dX12_readsDial_11 (by decide) (fun hc3 => ?_) (fun hc3 => ?_)
  · replace h := ift h hc3
    refine lv_aload_n hx hb dX12_readsDial_16 rfl (lv_at hl 0 rfl) ?_
    refine lv_dup hx hb dX12_readsDial_17 rfl ?_
    obtain ⟨x4, hx4, h⟩ := bnd h
    refine gf_X12_127 X hH hx4 dX12_readsDial_18 ?_
    refine lv_iconst (v := 1) hx hb dX12_readsDial_21 (by decide) ?_
    refine lv_iadd hx hb dX12_readsDial_22 ?_
    obtain ⟨x5, hx5, h⟩ := bnd h
    refine pf_X12_127 X hH hx5 dX12_readsDial_23 (fun H locs hH => ?_)
    refine lv_aload_n hx hb dX12_readsDial_26 rfl (lv_at hl 0 rfl) ?_
    refine lv_iload_n hx hb dX12_readsDial_27 rfl (lv_at hl 1 rfl) ?_
    refine lv_bipush (v := 12) hx hb dX12_readsDial_28 (by decide) ?_
    refine lv_bipush (v := 60) hx hb dX12_readsDial_30 (by decide) ?_
    obtain ⟨x6, hx6, h⟩ := bnd h
    refine iv_X12_134 l X hH hRL (by decide) hx6 hl.1 (Nat.le_of_ble_eq_true rfl) dX12_readsDial_32 hcs (fun H locs hH => ?_)
    refine lv_istore_n (lv' := [(2, .int x6.1), (0, .ref a0), (1, .int p1)]) hx hb dX12_readsDial_35 rfl hl (by decide) rfl (fun ls hl => ?_)
    refine lv_iload_n hx hb dX12_readsDial_36 rfl (lv_at hl 0 rfl) ?_
    refine lv_bipush (v := -9) hx hb dX12_readsDial_37 (by decide) ?_
    refine lv_icmp_ne (tgt := 44) hx hb dX12_readsDial_39 (by decide) (fun hc7 => ?_) (fun hc7 => ?_)
    · replace h := iff' h hc7
      refine lv_aload_n hx hb dX12_readsDial_44 rfl (lv_at hl 1 rfl) ?_
      refine lv_iload_n hx hb dX12_readsDial_45 rfl (lv_at hl 0 rfl) ?_
      obtain ⟨x8, hx8, h⟩ := bnd h
      refine pf_X12_138 X hH hx8 dX12_readsDial_46 (fun H locs hH => ?_)
      refine lv_aload_n hx hb dX12_readsDial_49 rfl (lv_at hl 1 rfl) ?_
      refine lv_dup hx hb dX12_readsDial_50 rfl ?_
      obtain ⟨x9, hx9, h⟩ := bnd h
      refine gf_X12_127 X hH hx9 dX12_readsDial_51 ?_
      refine lv_iconst (v := 2) hx hb dX12_readsDial_54 (by decide) ?_
      refine lv_iadd hx hb dX12_readsDial_55 ?_
      obtain ⟨x10, hx10, h⟩ := bnd h
      refine pf_X12_127 X hH hx10 dX12_readsDial_56 (fun H locs hH => ?_)
      refine lv_iconst (v := 1) hx hb dX12_readsDial_59 (by decide) ?_
      exact eZ X hH (by decide) h hr dX12_readsDial_60 (Nat.le_of_ble_eq_true rfl) (Nat.le_of_ble_eq_true rfl)
    · replace h := ift h hc7
      refine lv_iconst (v := 0) hx hb dX12_readsDial_42 (by decide) ?_
      exact eZ X hH (by decide) h hr dX12_readsDial_43 (Nat.le_of_ble_eq_true rfl) (Nat.le_of_ble_eq_true rfl)
  · replace h := iff' h hc3
    refine lv_iconst (v := 0) hx hb dX12_readsDial_14 (by decide) ?_
    exact eZ X hH (by decide) h hr dX12_readsDial_15 (Nat.le_of_ble_eq_true rfl) (Nat.le_of_ble_eq_true rfl)
theorem t_X12_readsRent {μ : Mm} {a0 : Nat} {p1 : Int32} {x : Int32 × Mm} (h : f_X12_readsRent μ a0 p1 = some x) : tg μ a0 = 13 := by
  unfold f_X12_readsRent at h
  exact (gsn h).1
set_option maxHeartbeats 4000000 in
set_option maxRecDepth 100000 in
theorem c_X12_readsRent (l : Launch) (G : CG) (μ : Mm) (a0 : Nat) (p1 : Int32) (x : Int32 × Mm) (h : f_X12_readsRent μ a0 p1 = some x) : Met l yX12_readsRent (.code yX12_readsRent cX12_readsRent 3 (some .boolean) :: UW) (rmk 4 0 0) (PC G [.ref a0, .int p1] μ) (QI G x.1 x.2) 0 0 (fA G) := by
  refine Met.ofW (cc := cX12_readsRent) (maxL := 3) (ret := (some .boolean)) (by decide) rfl ?_
  intro p e s m args below meth c s₁ B hml hv
  obtain ⟨X, hH, hr, rfl, hnm⟩ := cx_in B hml hv
  have X : Cx p s m _ meth c cX12_readsRent 3 RX12 G := X
  have hx := X.1
  have hb := X.2.1
  have hown := X.2.2.2.1
  have hts := X.2.2.2.2.1
  have hRL : RmL (rmk 4 0 0) 4 := ⟨Nat.le_refl _, Nat.le_refl _⟩
  have hcs : 0 ≤ (rmk 0 0 0).cells ∧ 0 ≤ (rmk 0 0 0).slots := ⟨Nat.zero_le _, Nat.zero_le _⟩
  refine ls_in (Nat.le_of_ble_eq_true rfl) (fun ls hl => ?_)
  have hl : lv_has ls 3 [(0, .ref a0), (1, .int p1)] := hl
  unfold f_X12_readsRent at h
  obtain ⟨htg, h⟩ := gsn h
  refine lv_aload_n hx hb dX12_readsRent_0 rfl (lv_at hl 0 rfl) ?_
  obtain ⟨x1, hx1, h⟩ := bnd h
  refine gf_X12_141 X hH hx1 dX12_readsRent_1 ?_
  refine lv_if_eq (tgt := 16) hx hb dX12_readsRent_4 (by decide) (fun hc2 => ?_) (fun hc2 => ?_)
  · replace h := ift h hc2
    refine lv_iconst (v := 0) hx hb dX12_readsRent_16 (by decide) ?_
    exact eZ X hH (by decide) h hr dX12_readsRent_17 (Nat.le_of_ble_eq_true rfl) (Nat.le_of_ble_eq_true rfl)
  · replace h := iff' h hc2
    refine lv_aload_n hx hb dX12_readsRent_7 rfl (lv_at hl 0 rfl) ?_
    obtain ⟨x3, hx3, h⟩ := bnd h
    refine gf_X12_144 X hH hx3 dX12_readsRent_8 ?_
    refine lv_bipush (v := 6) hx hb dX12_readsRent_11 (by decide) ?_
    refine lv_icmp_ne (tgt := 18) hx hb dX12_readsRent_13 (by decide) (fun hc4 => ?_) (fun hc4 => ?_)
    · replace h := iff' h hc4
      refine lv_aload_n hx hb dX12_readsRent_18 rfl (lv_at hl 0 rfl) ?_
      refine lv_dup hx hb dX12_readsRent_19 rfl ?_
      obtain ⟨x5, hx5, h⟩ := bnd h
      refine gf_X12_127 X hH hx5 dX12_readsRent_20 ?_
      refine lv_iconst (v := 1) hx hb dX12_readsRent_23 (by decide) ?_
      refine lv_iadd hx hb dX12_readsRent_24 ?_
      obtain ⟨x6, hx6, h⟩ := bnd h
      refine pf_X12_127 X hH hx6 dX12_readsRent_25 (fun H locs hH => ?_)
      refine lv_aload_n hx hb dX12_readsRent_28 rfl (lv_at hl 0 rfl) ?_
      refine lv_iload_n hx hb dX12_readsRent_29 rfl (lv_at hl 1 rfl) ?_
      refine lv_iconst (v := 1) hx hb dX12_readsRent_30 (by decide) ?_
      refine lv_aload_n hx hb dX12_readsRent_31 rfl (lv_at hl 0 rfl) ?_
      obtain ⟨x7, hx7, h⟩ := bnd h
      refine gf_X12_138 X hH hx7 dX12_readsRent_32 ?_
      refine lv_iconst (v := 1) hx hb dX12_readsRent_35 (by decide) ?_
      refine lv_isub hx hb dX12_readsRent_36 ?_
      obtain ⟨x8, hx8, h⟩ := bnd h
      refine iv_X12_134 l X hH hRL (by decide) hx8 hl.1 (Nat.le_of_ble_eq_true rfl) dX12_readsRent_37 hcs (fun H locs hH => ?_)
      refine lv_istore_n (lv' := [(2, .int x8.1), (0, .ref a0), (1, .int p1)]) hx hb dX12_readsRent_40 rfl hl (by decide) rfl (fun ls hl => ?_)
      refine lv_iload_n hx hb dX12_readsRent_41 rfl (lv_at hl 0 rfl) ?_
      refine lv_bipush (v := -9) hx hb dX12_readsRent_42 (by decide) ?_
      refine lv_icmp_eq (tgt := 60) hx hb dX12_readsRent_44 (by decide) (fun hc9 => ?_) (fun hc9 => ?_)
      · replace h := ift h hc9
        refine lv_iconst (v := 0) hx hb dX12_readsRent_60 (by decide) ?_
        exact eZ X hH (by decide) h hr dX12_readsRent_61 (Nat.le_of_ble_eq_true rfl) (Nat.le_of_ble_eq_true rfl)
      · replace h := iff' h hc9
        refine lv_aload_n hx hb dX12_readsRent_47 rfl (lv_at hl 1 rfl) ?_
        obtain ⟨x10, hx10, h⟩ := bnd h
        refine gf_X12_147 X hH hx10 dX12_readsRent_48 ?_
        refine lv_iload_n hx hb dX12_readsRent_51 rfl (lv_at hl 0 rfl) ?_
        refine lv_lshr hx hb dX12_readsRent_52 rfl ?_
        refine lv_lconst (v := 1) hx hb dX12_readsRent_53 (by decide) ?_
        refine lv_land hx hb dX12_readsRent_54 ?_
        refine lv_lconst (v := 1) hx hb dX12_readsRent_55 (by decide) ?_
        refine W.lcmp hx hb dX12_readsRent_56 ?_
        refine lv_if_ne (tgt := 62) hx hb dX12_readsRent_57 (by decide) (fun hc11 => ?_) (fun hc11 => ?_)
        · replace h := iff' h hc11
          refine lv_aload_n hx hb dX12_readsRent_62 rfl (lv_at hl 1 rfl) ?_
          refine lv_dup hx hb dX12_readsRent_63 rfl ?_
          obtain ⟨x12, hx12, h⟩ := bnd h
          refine gf_X12_147 X hH hx12 dX12_readsRent_64 ?_
          refine lv_lconst (v := 1) hx hb dX12_readsRent_67 (by decide) ?_
          refine lv_iload_n hx hb dX12_readsRent_68 rfl (lv_at hl 0 rfl) ?_
          refine lv_lshl hx hb dX12_readsRent_69 rfl ?_
          refine lv_lor hx hb dX12_readsRent_70 ?_
          obtain ⟨x13, hx13, h⟩ := bnd h
          refine pf_X12_147 X hH hx13 dX12_readsRent_71 (fun H locs hH => ?_)
          refine lv_aload_n hx hb dX12_readsRent_74 rfl (lv_at hl 1 rfl) ?_
          refine lv_dup hx hb dX12_readsRent_75 rfl ?_
          obtain ⟨x14, hx14, h⟩ := bnd h
          refine gf_X12_144 X hH hx14 dX12_readsRent_76 ?_
          refine lv_iconst (v := 1) hx hb dX12_readsRent_79 (by decide) ?_
          refine lv_iadd hx hb dX12_readsRent_80 ?_
          obtain ⟨x15, hx15, h⟩ := bnd h
          refine pf_X12_144 X hH hx15 dX12_readsRent_81 (fun H locs hH => ?_)
          refine lv_aload_n hx hb dX12_readsRent_84 rfl (lv_at hl 1 rfl) ?_
          refine lv_dup hx hb dX12_readsRent_85 rfl ?_
          obtain ⟨x16, hx16, h⟩ := bnd h
          refine gf_X12_127 X hH hx16 dX12_readsRent_86 ?_
          refine lv_iconst (v := 2) hx hb dX12_readsRent_89 (by decide) ?_
          refine lv_iadd hx hb dX12_readsRent_90 ?_
          obtain ⟨x17, hx17, h⟩ := bnd h
          refine pf_X12_127 X hH hx17 dX12_readsRent_91 (fun H locs hH => ?_)
          refine lv_iconst (v := 1) hx hb dX12_readsRent_94 (by decide) ?_
          exact eZ X hH (by decide) h hr dX12_readsRent_95 (Nat.le_of_ble_eq_true rfl) (Nat.le_of_ble_eq_true rfl)
        · replace h := ift h hc11
          refine lv_iconst (v := 0) hx hb dX12_readsRent_60 (by decide) ?_
          exact eZ X hH (by decide) h hr dX12_readsRent_61 (Nat.le_of_ble_eq_true rfl) (Nat.le_of_ble_eq_true rfl)
    · replace h := ift h hc4
      refine lv_iconst (v := 0) hx hb dX12_readsRent_16 (by decide) ?_
      exact eZ X hH (by decide) h hr dX12_readsRent_17 (Nat.le_of_ble_eq_true rfl) (Nat.le_of_ble_eq_true rfl)
set_option maxHeartbeats 1000000 in
theorem iv_X12_150 {p : Program} {e : Env} {R : Room} {s : State} {m : MethodId} {args : Array Value} {below : List Frame} {meth : Method} {c : Code} {H : Heap} {locs : List Loc} {cells slots : Nat} {Q : State → Prop} {cc : ByteArray} {pc : Nat} {ls : Array Slot} {rest : List Value} {nL : Nat} {G : CG} {μ : Mm} {q0 : Int32} {x : Int32} {k : Nat} (l : Launch) (X : Cx p s m args meth c cc nL RX12 G) (hH : HS G s μ H locs) (hRL : RmL R k) (hk : 1 + 1 ≤ k) (h : f_X12_kindOf μ q0 = some x) (hls : ls.size = nL) (hroom : (rest.map fun v => v.category).sum ≤ 8) (hdg : decode cc pc = .ok (.invokestatic 150, 3)) (hcs : cells + 0 ≤ R.cells ∧ slots + 0 ≤ R.slots) (kk : ∀ (H1 : Heap) (locs1 : List Loc), HS G s μ H1 locs1 → W p l e R s m args below meth c H1 locs1 cells slots Q (F0 m (pc + 3) ls (.int x :: rest))) : W p l e R s m args below meth c H locs cells slots Q (F0 m pc ls (.int q0 :: rest)) := by
  refine kI hH (rS (As := [.int q0]) (rest := rest) X hH (c_X12_kindOf l G μ q0 x h) (List.forall_mem_cons.mpr ⟨u_1216, (List.forall_mem_cons.mpr ⟨u_1217, (List.forall_mem_cons.mpr ⟨u_68, (fun _ h9 => absurd h9 List.not_mem_nil)⟩)⟩)⟩) u_1218 (rmo hRL (Nat.le_trans (by decide) hk) (by decide)) ddS_X12_kindOf rfl hls rfl hroom hdg hcs) kk
theorem t_X12_readsGuild {μ : Mm} {a0 : Nat} {p1 : Int32} {x : Int32 × Mm} (h : f_X12_readsGuild μ a0 p1 = some x) : tg μ a0 = 13 := by
  unfold f_X12_readsGuild at h
  exact (gsn h).1
set_option maxHeartbeats 4000000 in
set_option maxRecDepth 100000 in
theorem c_X12_readsGuild (l : Launch) (G : CG) (μ : Mm) (a0 : Nat) (p1 : Int32) (x : Int32 × Mm) (h : f_X12_readsGuild μ a0 p1 = some x) : Met l yX12_readsGuild (.code yX12_readsGuild cX12_readsGuild 4 (some .boolean) :: UW) (rmk 2 0 0) (PC G [.ref a0, .int p1] μ) (QI G x.1 x.2) 0 0 (fA G) := by
  refine Met.ofW (cc := cX12_readsGuild) (maxL := 4) (ret := (some .boolean)) (by decide) rfl ?_
  intro p e s m args below meth c s₁ B hml hv
  obtain ⟨X, hH, hr, rfl, hnm⟩ := cx_in B hml hv
  have X : Cx p s m _ meth c cX12_readsGuild 4 RX12 G := X
  have hx := X.1
  have hb := X.2.1
  have hown := X.2.2.2.1
  have hts := X.2.2.2.2.1
  have hRL : RmL (rmk 2 0 0) 2 := ⟨Nat.le_refl _, Nat.le_refl _⟩
  have hcs : 0 ≤ (rmk 0 0 0).cells ∧ 0 ≤ (rmk 0 0 0).slots := ⟨Nat.zero_le _, Nat.zero_le _⟩
  refine ls_in (Nat.le_of_ble_eq_true rfl) (fun ls hl => ?_)
  have hl : lv_has ls 4 [(0, .ref a0), (1, .int p1)] := hl
  unfold f_X12_readsGuild at h
  obtain ⟨htg, h⟩ := gsn h
  refine lv_aload_n hx hb dX12_readsGuild_0 rfl (lv_at hl 0 rfl) ?_
  refine lv_iload_n hx hb dX12_readsGuild_1 rfl (lv_at hl 1 rfl) ?_
  refine lv_aload_n hx hb dX12_readsGuild_2 rfl (lv_at hl 0 rfl) ?_
  obtain ⟨x1, hx1, h⟩ := bnd h
  refine gf_X12_127 X hH hx1 dX12_readsGuild_3 ?_
  obtain ⟨x2, hx2, h⟩ := bnd h
  refine iv_X12_124 l X hH hRL (by decide) hx2 hl.1 (Nat.le_of_ble_eq_true rfl) dX12_readsGuild_6 hcs (fun H locs hH => ?_)
  obtain ⟨x3, hx3, h⟩ := bnd h
  refine iv_X12_150 l X hH hRL (by decide) hx3 hl.1 (Nat.le_of_ble_eq_true rfl) dX12_readsGuild_9 hcs (fun H locs hH => ?_)
  refine lv_istore_n (lv' := [(2, .int x3), (0, .ref a0), (1, .int p1)]) hx hb dX12_readsGuild_12 rfl hl (by decide) rfl (fun ls hl => ?_)
  refine lv_iload_n hx hb dX12_readsGuild_13 rfl (lv_at hl 0 rfl) ?_
  refine lv_bipush (v := -9) hx hb dX12_readsGuild_14 (by decide) ?_
  refine lv_icmp_eq (tgt := 35) hx hb dX12_readsGuild_16 (by decide) (fun hc4 => ?_) (fun hc4 => ?_)
  · replace h := ift h hc4
    refine lv_iconst (v := 0) hx hb dX12_readsGuild_35 (by decide) ?_
    exact eZ X hH (by decide) h hr dX12_readsGuild_36 (Nat.le_of_ble_eq_true rfl) (Nat.le_of_ble_eq_true rfl)
  · replace h := iff' h hc4
    refine lv_aload_n hx hb dX12_readsGuild_19 rfl (lv_at hl 1 rfl) ?_
    obtain ⟨x5, hx5, h⟩ := bnd h
    refine gf_X12_144 X hH hx5 dX12_readsGuild_20 ?_
    refine lv_if_gt (tgt := 35) hx hb dX12_readsGuild_23 (by decide) (fun hc6 => ?_) (fun hc6 => ?_)
    · replace h := ift h hc6
      refine lv_iconst (v := 0) hx hb dX12_readsGuild_35 (by decide) ?_
      exact eZ X hH (by decide) h hr dX12_readsGuild_36 (Nat.le_of_ble_eq_true rfl) (Nat.le_of_ble_eq_true rfl)
    · replace h := iff' h hc6
      refine lv_aload_n hx hb dX12_readsGuild_26 rfl (lv_at hl 1 rfl) ?_
      obtain ⟨x7, hx7, h⟩ := bnd h
      refine gf_X12_141 X hH hx7 dX12_readsGuild_27 ?_
      refine lv_bipush (v := 6) hx hb dX12_readsGuild_30 (by decide) ?_
      refine lv_icmp_ne (tgt := 37) hx hb dX12_readsGuild_32 (by decide) (fun hc8 => ?_) (fun hc8 => ?_)
      · replace h := iff' h hc8
        refine lv_aload_n hx hb dX12_readsGuild_37 rfl (lv_at hl 1 rfl) ?_
        refine lv_dup hx hb dX12_readsGuild_38 rfl ?_
        obtain ⟨x9, hx9, h⟩ := bnd h
        refine gf_X12_127 X hH hx9 dX12_readsGuild_39 ?_
        refine lv_iconst (v := 1) hx hb dX12_readsGuild_42 (by decide) ?_
        refine lv_iadd hx hb dX12_readsGuild_43 ?_
        obtain ⟨x10, hx10, h⟩ := bnd h
        refine pf_X12_127 X hH hx10 dX12_readsGuild_44 (fun H locs hH => ?_)
        refine lv_aload_n hx hb dX12_readsGuild_47 rfl (lv_at hl 1 rfl) ?_
        refine lv_iload_n hx hb dX12_readsGuild_48 rfl (lv_at hl 2 rfl) ?_
        refine lv_aload_n hx hb dX12_readsGuild_49 rfl (lv_at hl 1 rfl) ?_
        obtain ⟨x11, hx11, h⟩ := bnd h
        refine gf_X12_127 X hH hx11 dX12_readsGuild_50 ?_
        obtain ⟨x12, hx12, h⟩ := bnd h
        refine iv_X12_124 l X hH hRL (by decide) hx12 hl.1 (Nat.le_of_ble_eq_true rfl) dX12_readsGuild_53 hcs (fun H locs hH => ?_)
        refine lv_bipush (v := 48) hx hb dX12_readsGuild_56 (by decide) ?_
        refine lv_isub hx hb dX12_readsGuild_58 ?_
        refine lv_istore_n (lv' := [(3, .int (x12 - (48 : Int32))), (2, .int x3), (0, .ref a0), (1, .int p1)]) hx hb dX12_readsGuild_59 rfl hl (by decide) rfl (fun ls hl => ?_)
        refine lv_iload_n hx hb dX12_readsGuild_60 rfl (lv_at hl 0 rfl) ?_
        refine lv_iconst (v := 1) hx hb dX12_readsGuild_61 (by decide) ?_
        refine lv_bipush (v := 9) hx hb dX12_readsGuild_62 (by decide) ?_
        obtain ⟨x13, hx13, h⟩ := bnd h
        refine iv_X12_96 l X hH hRL (by decide) hx13 hl.1 (Nat.le_of_ble_eq_true rfl) dX12_readsGuild_64 hcs (fun H locs hH => ?_)
        refine lv_if_ne (tgt := 72) hx hb dX12_readsGuild_67 (by decide) (fun hc14 => ?_) (fun hc14 => ?_)
        · replace h := iff' h hc14
          refine lv_aload_n hx hb dX12_readsGuild_72 rfl (lv_at hl 2 rfl) ?_
          obtain ⟨x15, hx15, h⟩ := bnd h
          refine gf_X12_39 X hH hx15 dX12_readsGuild_73 ?_
          refine lv_aload_n hx hb dX12_readsGuild_76 rfl (lv_at hl 2 rfl) ?_
          obtain ⟨x16, hx16, h⟩ := bnd h
          refine gf_X12_141 X hH hx16 dX12_readsGuild_77 ?_
          refine lv_iload_n hx hb dX12_readsGuild_80 rfl (lv_at hl 1 rfl) ?_
          obtain ⟨x17, hx17, h⟩ := bnd h
          refine w_qI X hH hx17 dX12_readsGuild_81 (fun H locs hH => ?_)
          refine lv_aload_n hx hb dX12_readsGuild_82 rfl (lv_at hl 2 rfl) ?_
          obtain ⟨x18, hx18, h⟩ := bnd h
          refine gf_X12_42 X hH hx18 dX12_readsGuild_83 ?_
          refine lv_aload_n hx hb dX12_readsGuild_86 rfl (lv_at hl 2 rfl) ?_
          obtain ⟨x19, hx19, h⟩ := bnd h
          refine gf_X12_141 X hH hx19 dX12_readsGuild_87 ?_
          refine lv_iload_n hx hb dX12_readsGuild_90 rfl (lv_at hl 0 rfl) ?_
          obtain ⟨x20, hx20, h⟩ := bnd h
          refine w_qI X hH hx20 dX12_readsGuild_91 (fun H locs hH => ?_)
          refine lv_aload_n hx hb dX12_readsGuild_92 rfl (lv_at hl 2 rfl) ?_
          refine lv_dup hx hb dX12_readsGuild_93 rfl ?_
          obtain ⟨x21, hx21, h⟩ := bnd h
          refine gf_X12_141 X hH hx21 dX12_readsGuild_94 ?_
          refine lv_iconst (v := 1) hx hb dX12_readsGuild_97 (by decide) ?_
          refine lv_iadd hx hb dX12_readsGuild_98 ?_
          obtain ⟨x22, hx22, h⟩ := bnd h
          refine pf_X12_141 X hH hx22 dX12_readsGuild_99 (fun H locs hH => ?_)
          refine lv_aload_n hx hb dX12_readsGuild_102 rfl (lv_at hl 2 rfl) ?_
          refine lv_dup hx hb dX12_readsGuild_103 rfl ?_
          obtain ⟨x23, hx23, h⟩ := bnd h
          refine gf_X12_127 X hH hx23 dX12_readsGuild_104 ?_
          refine lv_iconst (v := 1) hx hb dX12_readsGuild_107 (by decide) ?_
          refine lv_iadd hx hb dX12_readsGuild_108 ?_
          obtain ⟨x24, hx24, h⟩ := bnd h
          refine pf_X12_127 X hH hx24 dX12_readsGuild_109 (fun H locs hH => ?_)
          refine lv_iconst (v := 1) hx hb dX12_readsGuild_112 (by decide) ?_
          exact eZ X hH (by decide) h hr dX12_readsGuild_113 (Nat.le_of_ble_eq_true rfl) (Nat.le_of_ble_eq_true rfl)
        · replace h := ift h hc14
          refine lv_iconst (v := 0) hx hb dX12_readsGuild_70 (by decide) ?_
          exact eZ X hH (by decide) h hr dX12_readsGuild_71 (Nat.le_of_ble_eq_true rfl) (Nat.le_of_ble_eq_true rfl)
      · replace h := ift h hc8
        refine lv_iconst (v := 0) hx hb dX12_readsGuild_35 (by decide) ?_
        exact eZ X hH (by decide) h hr dX12_readsGuild_36 (Nat.le_of_ble_eq_true rfl) (Nat.le_of_ble_eq_true rfl)
set_option maxHeartbeats 1000000 in
theorem iv_X12_153 {p : Program} {e : Env} {R : Room} {s : State} {m : MethodId} {args : Array Value} {below : List Frame} {meth : Method} {c : Code} {H : Heap} {locs : List Loc} {cells slots : Nat} {Q : State → Prop} {cc : ByteArray} {pc : Nat} {ls : Array Slot} {rest : List Value} {nL : Nat} {G : CG} {μ : Mm} {a : Nat} {q0 : Int32} {x : Int32 × Mm} {k : Nat} (l : Launch) (X : Cx p s m args meth c cc nL RX12 G) (hH : HS G s μ H locs) (hRL : RmL R k) (hk : 4 + 1 ≤ k) (h : f_X12_readsDial μ a q0 = some x) (hls : ls.size = nL) (hroom : (rest.map fun v => v.category).sum ≤ 8) (hdg : decode cc pc = .ok (.invokevirtual 153, 3)) (hcs : cells + 0 ≤ R.cells ∧ slots + 0 ≤ R.slots) (kk : ∀ (H1 : Heap) (locs1 : List Loc), HS G s x.2 H1 locs1 → W p l e R s m args below meth c H1 locs1 cells slots Q (F0 m (pc + 3) ls (.int x.1 :: rest))) : W p l e R s m args below meth c H locs cells slots Q (F0 m pc ls (.int q0 :: .ref a :: rest)) := by
  refine kI hH (rV (As := [.int q0]) (rest := rest) X hH (t_X12_readsDial h) vc_12 (c_X12_readsDial l G μ a q0 x h) (List.forall_mem_cons.mpr ⟨u_1196, (List.forall_mem_cons.mpr ⟨u_1198, (List.forall_mem_cons.mpr ⟨u_28, (List.forall_mem_cons.mpr ⟨u_68, (fun _ h9 => absurd h9 List.not_mem_nil)⟩)⟩)⟩)⟩) u_1199 (rmo hRL (Nat.le_trans (by decide) hk) (by decide)) ddV_X12_readsDial rfl hls rfl hroom hdg hcs) kk
set_option maxHeartbeats 1000000 in
theorem iv_X12_156 {p : Program} {e : Env} {R : Room} {s : State} {m : MethodId} {args : Array Value} {below : List Frame} {meth : Method} {c : Code} {H : Heap} {locs : List Loc} {cells slots : Nat} {Q : State → Prop} {cc : ByteArray} {pc : Nat} {ls : Array Slot} {rest : List Value} {nL : Nat} {G : CG} {μ : Mm} {a : Nat} {q0 : Int32} {x : Int32 × Mm} {k : Nat} (l : Launch) (X : Cx p s m args meth c cc nL RX12 G) (hH : HS G s μ H locs) (hRL : RmL R k) (hk : 4 + 1 ≤ k) (h : f_X12_readsRent μ a q0 = some x) (hls : ls.size = nL) (hroom : (rest.map fun v => v.category).sum ≤ 8) (hdg : decode cc pc = .ok (.invokevirtual 156, 3)) (hcs : cells + 0 ≤ R.cells ∧ slots + 0 ≤ R.slots) (kk : ∀ (H1 : Heap) (locs1 : List Loc), HS G s x.2 H1 locs1 → W p l e R s m args below meth c H1 locs1 cells slots Q (F0 m (pc + 3) ls (.int x.1 :: rest))) : W p l e R s m args below meth c H locs cells slots Q (F0 m pc ls (.int q0 :: .ref a :: rest)) := by
  refine kI hH (rV (As := [.int q0]) (rest := rest) X hH (t_X12_readsRent h) vc_12 (c_X12_readsRent l G μ a q0 x h) (List.forall_mem_cons.mpr ⟨u_1208, (List.forall_mem_cons.mpr ⟨u_1210, (List.forall_mem_cons.mpr ⟨u_31, (List.forall_mem_cons.mpr ⟨u_68, (fun _ h9 => absurd h9 List.not_mem_nil)⟩)⟩)⟩)⟩) u_1211 (rmo hRL (Nat.le_trans (by decide) hk) (by decide)) ddV_X12_readsRent rfl hls rfl hroom hdg hcs) kk
set_option maxHeartbeats 1000000 in
theorem iv_X12_159 {p : Program} {e : Env} {R : Room} {s : State} {m : MethodId} {args : Array Value} {below : List Frame} {meth : Method} {c : Code} {H : Heap} {locs : List Loc} {cells slots : Nat} {Q : State → Prop} {cc : ByteArray} {pc : Nat} {ls : Array Slot} {rest : List Value} {nL : Nat} {G : CG} {μ : Mm} {a : Nat} {q0 : Int32} {x : Int32 × Mm} {k : Nat} (l : Launch) (X : Cx p s m args meth c cc nL RX12 G) (hH : HS G s μ H locs) (hRL : RmL R k) (hk : 2 + 1 ≤ k) (h : f_X12_readsGuild μ a q0 = some x) (hls : ls.size = nL) (hroom : (rest.map fun v => v.category).sum ≤ 8) (hdg : decode cc pc = .ok (.invokevirtual 159, 3)) (hcs : cells + 0 ≤ R.cells ∧ slots + 0 ≤ R.slots) (kk : ∀ (H1 : Heap) (locs1 : List Loc), HS G s x.2 H1 locs1 → W p l e R s m args below meth c H1 locs1 cells slots Q (F0 m (pc + 3) ls (.int x.1 :: rest))) : W p l e R s m args below meth c H locs cells slots Q (F0 m pc ls (.int q0 :: .ref a :: rest)) := by
  refine kI hH (rV (As := [.int q0]) (rest := rest) X hH (t_X12_readsGuild h) vc_12 (c_X12_readsGuild l G μ a q0 x h) (List.forall_mem_cons.mpr ⟨u_1212, (List.forall_mem_cons.mpr ⟨u_1214, (List.forall_mem_cons.mpr ⟨u_32, (List.forall_mem_cons.mpr ⟨u_68, (fun _ h9 => absurd h9 List.not_mem_nil)⟩)⟩)⟩)⟩) u_1215 (rmo hRL (Nat.le_trans (by decide) hk) (by decide)) ddV_X12_readsGuild rfl hls rfl hroom hdg hcs) kk
theorem t_X12_readsItem {μ : Mm} {a0 : Nat} {p1 : Int32} {x : Int32 × Mm} (h : f_X12_readsItem μ a0 p1 = some x) : tg μ a0 = 13 := by
  unfold f_X12_readsItem at h
  exact (gsn h).1
set_option maxHeartbeats 4000000 in
set_option maxRecDepth 100000 in
theorem c_X12_readsItem (l : Launch) (G : CG) (μ : Mm) (a0 : Nat) (p1 : Int32) (x : Int32 × Mm) (h : f_X12_readsItem μ a0 p1 = some x) : Met l yX12_readsItem (.code yX12_readsItem cX12_readsItem 2 (some .boolean) :: UW) (rmk 5 0 0) (PC G [.ref a0, .int p1] μ) (QI G x.1 x.2) 0 0 (fA G) := by
  refine Met.ofW (cc := cX12_readsItem) (maxL := 2) (ret := (some .boolean)) (by decide) rfl ?_
  intro p e s m args below meth c s₁ B hml hv
  obtain ⟨X, hH, hr, rfl, hnm⟩ := cx_in B hml hv
  have X : Cx p s m _ meth c cX12_readsItem 2 RX12 G := X
  have hx := X.1
  have hb := X.2.1
  have hown := X.2.2.2.1
  have hts := X.2.2.2.2.1
  have hRL : RmL (rmk 5 0 0) 5 := ⟨Nat.le_refl _, Nat.le_refl _⟩
  have hcs : 0 ≤ (rmk 0 0 0).cells ∧ 0 ≤ (rmk 0 0 0).slots := ⟨Nat.zero_le _, Nat.zero_le _⟩
  refine ls_in (Nat.le_of_ble_eq_true rfl) (fun ls hl => ?_)
  have hl : lv_has ls 2 [(0, .ref a0), (1, .int p1)] := hl
  unfold f_X12_readsItem at h
  obtain ⟨htg, h⟩ := gsn h
  refine lv_aload_n hx hb dX12_readsItem_0 rfl (lv_at hl 0 rfl) ?_
  obtain ⟨x1, hx1, h⟩ := bnd h
  refine gf_X12_138 X hH hx1 dX12_readsItem_1 ?_
  refine lv_if_ne (tgt := 15) hx hb dX12_readsItem_4 (by decide) (fun hc2 => ?_) (fun hc2 => ?_)
  · replace h := iff' h hc2
    refine lv_aload_n hx hb dX12_readsItem_15 rfl (lv_at hl 0 rfl) ?_
    refine lv_iload_n hx hb dX12_readsItem_16 rfl (lv_at hl 1 rfl) ?_
    refine lv_aload_n hx hb dX12_readsItem_17 rfl (lv_at hl 0 rfl) ?_
    obtain ⟨x3, hx3, h⟩ := bnd h
    refine gf_X12_127 X hH hx3 dX12_readsItem_18 ?_
    obtain ⟨x4, hx4, h⟩ := bnd h
    refine iv_X12_124 l X hH hRL (by decide) hx4 hl.1 (Nat.le_of_ble_eq_true rfl) dX12_readsItem_21 hcs (fun H locs hH => ?_)
    refine lv_bipush (v := 101) hx hb dX12_readsItem_24 (by decide) ?_
    refine lv_icmp_ne (tgt := 37) hx hb dX12_readsItem_26 (by decide) (fun hc5 => ?_) (fun hc5 => ?_)
    · replace h := iff' h hc5
      refine lv_aload_n hx hb dX12_readsItem_37 rfl (lv_at hl 0 rfl) ?_
      refine lv_iload_n hx hb dX12_readsItem_38 rfl (lv_at hl 1 rfl) ?_
      obtain ⟨x6, hx6, h⟩ := bnd h
      refine iv_X12_159 l X hH hRL (by decide) hx6 hl.1 (Nat.le_of_ble_eq_true rfl) dX12_readsItem_39 hcs (fun H locs hH => ?_)
      obtain ⟨_, hzb, h⟩ := bnd h
      exact eZ X hH (gsm hzb).1 h hr dX12_readsItem_42 (Nat.le_of_ble_eq_true rfl) (Nat.le_of_ble_eq_true rfl)
    · replace h := ift h hc5
      refine lv_aload_n hx hb dX12_readsItem_29 rfl (lv_at hl 0 rfl) ?_
      refine lv_iload_n hx hb dX12_readsItem_30 rfl (lv_at hl 1 rfl) ?_
      obtain ⟨x7, hx7, h⟩ := bnd h
      refine iv_X12_156 l X hH hRL (by decide) hx7 hl.1 (Nat.le_of_ble_eq_true rfl) dX12_readsItem_31 hcs (fun H locs hH => ?_)
      refine lv_goto (tgt := 42) hx hb dX12_readsItem_34 (by decide) ?_
      obtain ⟨_, hzb, h⟩ := bnd h
      exact eZ X hH (gsm hzb).1 h hr dX12_readsItem_42 (Nat.le_of_ble_eq_true rfl) (Nat.le_of_ble_eq_true rfl)
  · replace h := ift h hc2
    refine lv_aload_n hx hb dX12_readsItem_7 rfl (lv_at hl 0 rfl) ?_
    refine lv_iload_n hx hb dX12_readsItem_8 rfl (lv_at hl 1 rfl) ?_
    obtain ⟨x8, hx8, h⟩ := bnd h
    refine iv_X12_153 l X hH hRL (by decide) hx8 hl.1 (Nat.le_of_ble_eq_true rfl) dX12_readsItem_9 hcs (fun H locs hH => ?_)
    refine lv_goto (tgt := 42) hx hb dX12_readsItem_12 (by decide) ?_
    obtain ⟨_, hzb, h⟩ := bnd h
    exact eZ X hH (gsm hzb).1 h hr dX12_readsItem_42 (Nat.le_of_ble_eq_true rfl) (Nat.le_of_ble_eq_true rfl)
set_option maxHeartbeats 1000000 in
theorem iv_X12_162 {p : Program} {e : Env} {R : Room} {s : State} {m : MethodId} {args : Array Value} {below : List Frame} {meth : Method} {c : Code} {H : Heap} {locs : List Loc} {cells slots : Nat} {Q : State → Prop} {cc : ByteArray} {pc : Nat} {ls : Array Slot} {rest : List Value} {nL : Nat} {G : CG} {μ : Mm} {a : Nat} {q0 : Int32} {x : Int32 × Mm} {k : Nat} (l : Launch) (X : Cx p s m args meth c cc nL RX12 G) (hH : HS G s μ H locs) (hRL : RmL R k) (hk : 5 + 1 ≤ k) (h : f_X12_readsItem μ a q0 = some x) (hls : ls.size = nL) (hroom : (rest.map fun v => v.category).sum ≤ 8) (hdg : decode cc pc = .ok (.invokevirtual 162, 3)) (hcs : cells + 0 ≤ R.cells ∧ slots + 0 ≤ R.slots) (kk : ∀ (H1 : Heap) (locs1 : List Loc), HS G s x.2 H1 locs1 → W p l e R s m args below meth c H1 locs1 cells slots Q (F0 m (pc + 3) ls (.int x.1 :: rest))) : W p l e R s m args below meth c H locs cells slots Q (F0 m pc ls (.int q0 :: .ref a :: rest)) := by
  refine kI hH (rV (As := [.int q0]) (rest := rest) X hH (t_X12_readsItem h) vc_12 (c_X12_readsItem l G μ a q0 x h) (List.forall_mem_cons.mpr ⟨u_1192, (List.forall_mem_cons.mpr ⟨u_1194, (List.forall_mem_cons.mpr ⟨u_27, (List.forall_mem_cons.mpr ⟨u_68, (fun _ h9 => absurd h9 List.not_mem_nil)⟩)⟩)⟩)⟩) u_1195 (rmo hRL (Nat.le_trans (by decide) hk) (by decide)) ddV_X12_readsItem rfl hls rfl hroom hdg hcs) kk
set_option maxHeartbeats 4000000 in
set_option maxRecDepth 100000 in
theorem w_X12_faultOf_25 {p : Program} {e : Env} {R : Room} {s : State} {m : MethodId} {args : Array Value} {below : List Frame} {meth : Method} {c : Code} {cells slots : Nat} {Q : State → Prop} {G : CG} (l : Launch) (X : Cx p s m args meth c cX12_faultOf 2 RX12 G) (hRL : RmL R 6) (hcs : cells ≤ R.cells ∧ slots ≤ R.slots) : ∀ (n : Nat) (v0 : Nat) (v1 : Int32) (μ : Mm) (x : Nat × Mm), lp_X12_faultOf_25 n v0 v1 μ = some x → (∀ (H : Heap) (locs : List Loc) (ls : Array Slot), x.1 = 0 → HS G s x.2 H locs → lv_has ls 2 [(0, .ref v0)] → W p l e R s m args below meth c H locs cells slots Q (F0 m 73 ls [])) → (∀ (H : Heap) (locs : List Loc) (ls : Array Slot), x.1 = 1 → HS G s x.2 H locs → lv_has ls 2 [(0, .ref v0), (1, .int v1)] → W p l e R s m args below meth c H locs cells slots Q (F0 m 78 ls [])) → ∀ (H : Heap) (locs : List Loc) (ls : Array Slot), HS G s μ H locs → lv_has ls 2 [(0, .ref v0), (1, .int v1)] → W p l e R s m args below meth c H locs cells slots Q (F0 m 25 ls []) := by
  have hx := X.1
  have hb := X.2.1
  have hown := X.2.2.2.1
  have hts := X.2.2.2.2.1
  intro n
  induction n with
  | zero =>
    intro v0 v1 μ x h
    rw [lp_X12_faultOf_25] at h
    cases h
  | succ n ih =>
    intro v0 v1 μ x h k0 k1 H locs ls hH hl
    rw [lp_X12_faultOf_25] at h
    refine lv_aload_n hx hb dX12_faultOf_25 rfl (lv_at hl 0 rfl) ?_
    obtain ⟨x6, hx6, h⟩ := bnd h
    refine gf_X12_127 X hH hx6 dX12_faultOf_26 ?_
    refine lv_aload_n hx hb dX12_faultOf_29 rfl (lv_at hl 0 rfl) ?_
    obtain ⟨x7, hx7, h⟩ := bnd h
    refine gf_X12_26 X hH hx7 dX12_faultOf_30 ?_
    refine lv_iload_n hx hb dX12_faultOf_33 rfl (lv_at hl 1 rfl) ?_
    obtain ⟨x8, hx8, h⟩ := bnd h
    refine w_aI X hH hx8 dX12_faultOf_34 ?_
    refine lv_icmp_ge (tgt := 78) hx hb dX12_faultOf_35 (by decide) (fun hc9 => ?_) (fun hc9 => ?_)
    · replace h := ift h hc9
      cases h
      exact k1 _ _ _ rfl hH (lv_sub hl [0, 1] rfl)
    · replace h := iff' h hc9
      refine lv_aload_n hx hb dX12_faultOf_38 rfl (lv_at hl 0 rfl) ?_
      refine lv_iload_n hx hb dX12_faultOf_39 rfl (lv_at hl 1 rfl) ?_
      refine lv_aload_n hx hb dX12_faultOf_40 rfl (lv_at hl 0 rfl) ?_
      obtain ⟨x10, hx10, h⟩ := bnd h
      refine gf_X12_127 X hH hx10 dX12_faultOf_41 ?_
      obtain ⟨x11, hx11, h⟩ := bnd h
      refine iv_X12_124 l X hH hRL (by decide) hx11 hl.1 (Nat.le_of_ble_eq_true rfl) dX12_faultOf_44 hcs (fun H locs hH => ?_)
      refine lv_bipush (v := 32) hx hb dX12_faultOf_47 (by decide) ?_
      refine lv_icmp_ne (tgt := 65) hx hb dX12_faultOf_49 (by decide) (fun hc12 => ?_) (fun hc12 => ?_)
      · replace h := iff' h hc12
        refine lv_aload_n hx hb dX12_faultOf_65 rfl (lv_at hl 0 rfl) ?_
        refine lv_iload_n hx hb dX12_faultOf_66 rfl (lv_at hl 1 rfl) ?_
        obtain ⟨x13, hx13, h⟩ := bnd h
        refine iv_X12_162 l X hH hRL (by decide) hx13 hl.1 (Nat.le_of_ble_eq_true rfl) dX12_faultOf_67 hcs (fun H locs hH => ?_)
        refine lv_if_ne (tgt := 25) hx hb dX12_faultOf_70 (by decide) (fun hc14 => ?_) (fun hc14 => ?_)
        · replace h := iff' h hc14
          exact ih _ _ _ _ h k0 k1 _ _ _ hH (lv_sub hl [0, 1] rfl)
        · replace h := ift h hc14
          cases h
          exact k0 _ _ _ rfl hH (lv_sub hl [0] rfl)
      · replace h := ift h hc12
        refine lv_aload_n hx hb dX12_faultOf_52 rfl (lv_at hl 0 rfl) ?_
        refine lv_dup hx hb dX12_faultOf_53 rfl ?_
        obtain ⟨x15, hx15, h⟩ := bnd h
        refine gf_X12_127 X hH hx15 dX12_faultOf_54 ?_
        refine lv_iconst (v := 1) hx hb dX12_faultOf_57 (by decide) ?_
        refine lv_iadd hx hb dX12_faultOf_58 ?_
        obtain ⟨x16, hx16, h⟩ := bnd h
        refine pf_X12_127 X hH hx16 dX12_faultOf_59 (fun H locs hH => ?_)
        refine lv_goto (tgt := 25) hx hb dX12_faultOf_62 (by decide) ?_
        exact ih _ _ _ _ h k0 k1 _ _ _ hH (lv_sub hl [0, 1] rfl)
theorem t_X12_faultOf {μ : Mm} {a0 : Nat} {p1 : Int32} {x : Int32 × Mm} (h : f_X12_faultOf μ a0 p1 = some x) : tg μ a0 = 13 := by
  unfold f_X12_faultOf at h
  exact (gsn h).1
set_option maxHeartbeats 4000000 in
set_option maxRecDepth 100000 in
theorem c_X12_faultOf (l : Launch) (G : CG) (μ : Mm) (a0 : Nat) (p1 : Int32) (x : Int32 × Mm) (h : f_X12_faultOf μ a0 p1 = some x) : Met l yX12_faultOf (.code yX12_faultOf cX12_faultOf 2 (some .int) :: UW) (rmk 6 0 0) (PC G [.ref a0, .int p1] μ) (QI G x.1 x.2) 0 0 (fA G) := by
  refine Met.ofW (cc := cX12_faultOf) (maxL := 2) (ret := (some .int)) (by decide) rfl ?_
  intro p e s m args below meth c s₁ B hml hv
  obtain ⟨X, hH, hr, rfl, hnm⟩ := cx_in B hml hv
  have X : Cx p s m _ meth c cX12_faultOf 2 RX12 G := X
  have hx := X.1
  have hb := X.2.1
  have hown := X.2.2.2.1
  have hts := X.2.2.2.2.1
  have hRL : RmL (rmk 6 0 0) 6 := ⟨Nat.le_refl _, Nat.le_refl _⟩
  have hcs : 0 ≤ (rmk 0 0 0).cells ∧ 0 ≤ (rmk 0 0 0).slots := ⟨Nat.zero_le _, Nat.zero_le _⟩
  refine ls_in (Nat.le_of_ble_eq_true rfl) (fun ls hl => ?_)
  have hl : lv_has ls 2 [(0, .ref a0), (1, .int p1)] := hl
  unfold f_X12_faultOf at h
  obtain ⟨htg, h⟩ := gsn h
  refine lv_aload_n hx hb dX12_faultOf_0 rfl (lv_at hl 0 rfl) ?_
  refine lv_iconst (v := 0) hx hb dX12_faultOf_1 (by decide) ?_
  obtain ⟨x1, hx1, h⟩ := bnd h
  refine pf_X12_127 X hH hx1 dX12_faultOf_2 (fun H locs hH => ?_)
  refine lv_aload_n hx hb dX12_faultOf_5 rfl (lv_at hl 0 rfl) ?_
  refine lv_iconst (v := 0) hx hb dX12_faultOf_6 (by decide) ?_
  obtain ⟨x2, hx2, h⟩ := bnd h
  refine pf_X12_141 X hH hx2 dX12_faultOf_7 (fun H locs hH => ?_)
  refine lv_aload_n hx hb dX12_faultOf_10 rfl (lv_at hl 0 rfl) ?_
  refine lv_iconst (v := 0) hx hb dX12_faultOf_11 (by decide) ?_
  obtain ⟨x3, hx3, h⟩ := bnd h
  refine pf_X12_138 X hH hx3 dX12_faultOf_12 (fun H locs hH => ?_)
  refine lv_aload_n hx hb dX12_faultOf_15 rfl (lv_at hl 0 rfl) ?_
  refine lv_iconst (v := 0) hx hb dX12_faultOf_16 (by decide) ?_
  obtain ⟨x4, hx4, h⟩ := bnd h
  refine pf_X12_144 X hH hx4 dX12_faultOf_17 (fun H locs hH => ?_)
  refine lv_aload_n hx hb dX12_faultOf_20 rfl (lv_at hl 0 rfl) ?_
  refine lv_lconst (v := 0) hx hb dX12_faultOf_21 (by decide) ?_
  obtain ⟨x5, hx5, h⟩ := bnd h
  refine pf_X12_147 X hH hx5 dX12_faultOf_22 (fun H locs hH => ?_)
  obtain ⟨x17, hx17, hhx17⟩ := bnd h
  clear h
  refine w_X12_faultOf_25 l X hRL hcs BIG a0 p1 x5 x17 hx17 (fun H locs ls hj hH hl => ?_) (fun H locs ls hj hH hl => ?_) _ _ _ hH (lv_sub hl [0, 1] rfl)
  · have h := hhx17
    clear hhx17
    replace h := ift h hj
    refine lv_aload_n hx hb dX12_faultOf_73 rfl (lv_at hl 0 rfl) ?_
    obtain ⟨x18, hx18, h⟩ := bnd h
    refine gf_X12_127 X hH hx18 dX12_faultOf_74 ?_
    exact eI X hH h hr dX12_faultOf_77 (Nat.le_of_ble_eq_true rfl) (Nat.le_of_ble_eq_true rfl)
  · have h := hhx17
    clear hhx17
    replace h := iff' h (by rw [hj]; decide)
    refine lv_aload_n hx hb dX12_faultOf_78 rfl (lv_at hl 0 rfl) ?_
    obtain ⟨x19, hx19, h⟩ := bnd h
    refine gf_X12_141 X hH hx19 dX12_faultOf_79 ?_
    refine lv_if_ne (tgt := 94) hx hb dX12_faultOf_82 (by decide) (fun hc20 => ?_) (fun hc20 => ?_)
    · replace h := iff' h hc20
      refine lv_bipush (v := -9) hx hb dX12_faultOf_94 (by decide) ?_
      exact eI X hH h hr dX12_faultOf_96 (Nat.le_of_ble_eq_true rfl) (Nat.le_of_ble_eq_true rfl)
    · replace h := ift h hc20
      refine lv_aload_n hx hb dX12_faultOf_85 rfl (lv_at hl 0 rfl) ?_
      obtain ⟨x21, hx21, h⟩ := bnd h
      refine gf_X12_26 X hH hx21 dX12_faultOf_86 ?_
      refine lv_iload_n hx hb dX12_faultOf_89 rfl (lv_at hl 1 rfl) ?_
      obtain ⟨x22, hx22, h⟩ := bnd h
      refine w_aI X hH hx22 dX12_faultOf_90 ?_
      refine lv_goto (tgt := 96) hx hb dX12_faultOf_91 (by decide) ?_
      exact eI X hH h hr dX12_faultOf_96 (Nat.le_of_ble_eq_true rfl) (Nat.le_of_ble_eq_true rfl)
set_option maxHeartbeats 1000000 in
theorem iv_X12_165 {p : Program} {e : Env} {R : Room} {s : State} {m : MethodId} {args : Array Value} {below : List Frame} {meth : Method} {c : Code} {H : Heap} {locs : List Loc} {cells slots : Nat} {Q : State → Prop} {cc : ByteArray} {pc : Nat} {ls : Array Slot} {rest : List Value} {nL : Nat} {G : CG} {μ : Mm} {a : Nat} {q0 : Int32} {x : Int32 × Mm} {k : Nat} (l : Launch) (X : Cx p s m args meth c cc nL RX12 G) (hH : HS G s μ H locs) (hRL : RmL R k) (hk : 6 + 1 ≤ k) (h : f_X12_faultOf μ a q0 = some x) (hls : ls.size = nL) (hroom : (rest.map fun v => v.category).sum ≤ 8) (hdg : decode cc pc = .ok (.invokevirtual 165, 3)) (hcs : cells + 0 ≤ R.cells ∧ slots + 0 ≤ R.slots) (kk : ∀ (H1 : Heap) (locs1 : List Loc), HS G s x.2 H1 locs1 → W p l e R s m args below meth c H1 locs1 cells slots Q (F0 m (pc + 3) ls (.int x.1 :: rest))) : W p l e R s m args below meth c H locs cells slots Q (F0 m pc ls (.int q0 :: .ref a :: rest)) := by
  refine kI hH (rV (As := [.int q0]) (rest := rest) X hH (t_X12_faultOf h) vc_12 (c_X12_faultOf l G μ a q0 x h) (List.forall_mem_cons.mpr ⟨u_1184, (List.forall_mem_cons.mpr ⟨u_1186, (List.forall_mem_cons.mpr ⟨u_25, (List.forall_mem_cons.mpr ⟨u_68, (fun _ h9 => absurd h9 List.not_mem_nil)⟩)⟩)⟩)⟩) u_1187 (rmo hRL (Nat.le_trans (by decide) hk) (by decide)) ddV_X12_faultOf rfl hls rfl hroom hdg hcs) kk
theorem t_X12_fault {μ : Mm} {a0 : Nat} {p1 : Int32} {x : Int32 × Mm} (h : f_X12_fault μ a0 p1 = some x) : tg μ a0 = 13 := by
  unfold f_X12_fault at h
  exact (gsn h).1
set_option maxHeartbeats 4000000 in
set_option maxRecDepth 100000 in
theorem c_X12_fault (l : Launch) (G : CG) (μ : Mm) (a0 : Nat) (p1 : Int32) (x : Int32 × Mm) (h : f_X12_fault μ a0 p1 = some x) : Met l yX12_fault (.code yX12_fault cX12_fault 2 (some .int) :: UW) (rmk 7 0 0) (PC G [.ref a0, .int p1] μ) (QI G x.1 x.2) 0 0 (fA G) := by
  refine Met.ofW (cc := cX12_fault) (maxL := 2) (ret := (some .int)) (by decide) rfl ?_
  intro p e s m args below meth c s₁ B hml hv
  obtain ⟨X, hH, hr, rfl, hnm⟩ := cx_in B hml hv
  have X : Cx p s m _ meth c cX12_fault 2 RX12 G := X
  have hx := X.1
  have hb := X.2.1
  have hown := X.2.2.2.1
  have hts := X.2.2.2.2.1
  have hRL : RmL (rmk 7 0 0) 7 := ⟨Nat.le_refl _, Nat.le_refl _⟩
  have hcs : 0 ≤ (rmk 0 0 0).cells ∧ 0 ≤ (rmk 0 0 0).slots := ⟨Nat.zero_le _, Nat.zero_le _⟩
  refine ls_in (Nat.le_of_ble_eq_true rfl) (fun ls hl => ?_)
  have hl : lv_has ls 2 [(0, .ref a0), (1, .int p1)] := hl
  unfold f_X12_fault at h
  obtain ⟨htg, h⟩ := gsn h
  refine lv_iload_n hx hb dX12_fault_0 rfl (lv_at hl 1 rfl) ?_
  obtain ⟨x1, hx1, h⟩ := bnd h
  refine iv_X12_121 l X hH hRL (by decide) hx1 hl.1 (Nat.le_of_ble_eq_true rfl) dX12_fault_1 hcs (fun H locs hH => ?_)
  refine lv_if_ne (tgt := 9) hx hb dX12_fault_4 (by decide) (fun hc2 => ?_) (fun hc2 => ?_)
  · replace h := iff' h hc2
    refine lv_aload_n hx hb dX12_fault_9 rfl (lv_at hl 0 rfl) ?_
    obtain ⟨x3, hx3, h⟩ := bnd h
    refine gf_X12_26 X hH hx3 dX12_fault_10 ?_
    refine lv_iload_n hx hb dX12_fault_13 rfl (lv_at hl 1 rfl) ?_
    obtain ⟨x4, hx4, h⟩ := bnd h
    refine w_aI X hH hx4 dX12_fault_14 ?_
    refine lv_if_ge (tgt := 26) hx hb dX12_fault_15 (by decide) (fun hc5 => ?_) (fun hc5 => ?_)
    · replace h := ift h hc5
      refine lv_aload_n hx hb dX12_fault_26 rfl (lv_at hl 0 rfl) ?_
      refine lv_iload_n hx hb dX12_fault_27 rfl (lv_at hl 1 rfl) ?_
      obtain ⟨x6, hx6, h⟩ := bnd h
      refine iv_X12_165 l X hH hRL (by decide) hx6 hl.1 (Nat.le_of_ble_eq_true rfl) dX12_fault_28 hcs (fun H locs hH => ?_)
      exact eI X hH h hr dX12_fault_31 (Nat.le_of_ble_eq_true rfl) (Nat.le_of_ble_eq_true rfl)
    · replace h := iff' h hc5
      refine lv_aload_n hx hb dX12_fault_18 rfl (lv_at hl 0 rfl) ?_
      refine lv_iconst (v := 1) hx hb dX12_fault_19 (by decide) ?_
      obtain ⟨x7, hx7, h⟩ := bnd h
      refine iv_X12_110 l X hH hRL (by decide) hx7 hl.1 (Nat.le_of_ble_eq_true rfl) dX12_fault_20 hcs (fun H locs hH => ?_)
      refine lv_goto (tgt := 31) hx hb dX12_fault_23 (by decide) ?_
      exact eI X hH h hr dX12_fault_31 (Nat.le_of_ble_eq_true rfl) (Nat.le_of_ble_eq_true rfl)
  · replace h := ift h hc2
    refine lv_iconst (v := -1) hx hb dX12_fault_7 (by decide) ?_
    exact eI X hH h hr dX12_fault_8 (Nat.le_of_ble_eq_true rfl) (Nat.le_of_ble_eq_true rfl)
set_option maxHeartbeats 4000000 in
set_option maxRecDepth 100000 in
theorem w_X12_hall_71 {p : Program} {e : Env} {R : Room} {s : State} {m : MethodId} {args : Array Value} {below : List Frame} {meth : Method} {c : Code} {cells slots : Nat} {Q : State → Prop} {G : CG} (l : Launch) (X : Cx p s m args meth c cX12_hall 3 RX12 G) (hRL : RmL R 7) (hcs : cells ≤ R.cells ∧ slots ≤ R.slots) : ∀ (n : Nat) (v0 : Nat) (v2 : Int32) (μ : Mm) (x : Mm), lp_X12_hall_71 n v0 v2 μ = some x → (∀ (H : Heap) (locs : List Loc) (ls : Array Slot), HS G s x H locs → lv_has ls 3 [(0, .ref v0)] → W p l e R s m args below meth c H locs cells slots Q (F0 m 109 ls [])) → ∀ (H : Heap) (locs : List Loc) (ls : Array Slot), HS G s μ H locs → lv_has ls 3 [(0, .ref v0), (2, .int v2)] → W p l e R s m args below meth c H locs cells slots Q (F0 m 71 ls []) := by
  have hx := X.1
  have hb := X.2.1
  have hown := X.2.2.2.1
  have hts := X.2.2.2.2.1
  intro n
  induction n with
  | zero =>
    intro v0 v2 μ x h
    rw [lp_X12_hall_71] at h
    cases h
  | succ n ih =>
    intro v0 v2 μ x h k0 H locs ls hH hl
    rw [lp_X12_hall_71] at h
    refine lv_iload_n hx hb dX12_hall_71 rfl (lv_at hl 1 rfl) ?_
    refine lv_aload_n hx hb dX12_hall_72 rfl (lv_at hl 0 rfl) ?_
    obtain ⟨x16, hx16, h⟩ := bnd h
    refine gf_X12_168 X hH hx16 dX12_hall_73 ?_
    refine lv_icmp_ge (tgt := 109) hx hb dX12_hall_76 (by decide) (fun hc17 => ?_) (fun hc17 => ?_)
    · replace h := ift h hc17
      cases h
      exact k0 _ _ _ hH (lv_sub hl [0] rfl)
    · replace h := iff' h hc17
      refine lv_aload_n hx hb dX12_hall_79 rfl (lv_at hl 0 rfl) ?_
      obtain ⟨x18, hx18, h⟩ := bnd h
      refine gf_X12_33 X hH hx18 dX12_hall_80 ?_
      refine lv_iload_n hx hb dX12_hall_83 rfl (lv_at hl 1 rfl) ?_
      refine lv_aload_n hx hb dX12_hall_84 rfl (lv_at hl 0 rfl) ?_
      obtain ⟨x19, hx19, h⟩ := bnd h
      refine gf_X12_39 X hH hx19 dX12_hall_85 ?_
      refine lv_iload_n hx hb dX12_hall_88 rfl (lv_at hl 1 rfl) ?_
      obtain ⟨x20, hx20, h⟩ := bnd h
      refine w_aI X hH hx20 dX12_hall_89 ?_
      obtain ⟨x21, hx21, h⟩ := bnd h
      refine w_qI X hH hx21 dX12_hall_90 (fun H locs hH => ?_)
      refine lv_aload_n hx hb dX12_hall_91 rfl (lv_at hl 0 rfl) ?_
      obtain ⟨x22, hx22, h⟩ := bnd h
      refine gf_X12_36 X hH hx22 dX12_hall_92 ?_
      refine lv_iload_n hx hb dX12_hall_95 rfl (lv_at hl 1 rfl) ?_
      refine lv_aload_n hx hb dX12_hall_96 rfl (lv_at hl 0 rfl) ?_
      obtain ⟨x23, hx23, h⟩ := bnd h
      refine gf_X12_42 X hH hx23 dX12_hall_97 ?_
      refine lv_iload_n hx hb dX12_hall_100 rfl (lv_at hl 1 rfl) ?_
      obtain ⟨x24, hx24, h⟩ := bnd h
      refine w_aI X hH hx24 dX12_hall_101 ?_
      obtain ⟨x25, hx25, h⟩ := bnd h
      refine w_qI X hH hx25 dX12_hall_102 (fun H locs hH => ?_)
      refine lv_iinc (v := (v2 + 1)) (lv' := [(2, .int (v2 + 1)), (0, .ref v0)]) hx hb dX12_hall_103 hl (k := 1) rfl rfl (by decide) rfl (fun ls hl => ?_)
      refine lv_goto (tgt := 71) hx hb dX12_hall_106 (by decide) ?_
      exact ih _ _ _ _ h k0 _ _ _ hH (lv_sub hl [1, 0] rfl)
set_option maxHeartbeats 4000000 in
set_option maxRecDepth 100000 in
theorem w_X12_hall_111 {p : Program} {e : Env} {R : Room} {s : State} {m : MethodId} {args : Array Value} {below : List Frame} {meth : Method} {c : Code} {cells slots : Nat} {Q : State → Prop} {G : CG} (l : Launch) (X : Cx p s m args meth c cX12_hall 3 RX12 G) (hRL : RmL R 7) (hcs : cells ≤ R.cells ∧ slots ≤ R.slots) : ∀ (n : Nat) (v0 : Nat) (v2 : Int32) (μ : Mm) (x : Mm), lp_X12_hall_111 n v0 v2 μ = some x → (∀ (H : Heap) (locs : List Loc) (ls : Array Slot), HS G s x H locs → lv_has ls 3 [(0, .ref v0)] → W p l e R s m args below meth c H locs cells slots Q (F0 m 130 ls [])) → ∀ (H : Heap) (locs : List Loc) (ls : Array Slot), HS G s μ H locs → lv_has ls 3 [(0, .ref v0), (2, .int v2)] → W p l e R s m args below meth c H locs cells slots Q (F0 m 111 ls []) := by
  have hx := X.1
  have hb := X.2.1
  have hown := X.2.2.2.1
  have hts := X.2.2.2.2.1
  intro n
  induction n with
  | zero =>
    intro v0 v2 μ x h
    rw [lp_X12_hall_111] at h
    cases h
  | succ n ih =>
    intro v0 v2 μ x h k0 H locs ls hH hl
    rw [lp_X12_hall_111] at h
    refine lv_iload_n hx hb dX12_hall_111 rfl (lv_at hl 1 rfl) ?_
    refine lv_bipush (v := 11) hx hb dX12_hall_112 (by decide) ?_
    refine lv_icmp_ge (tgt := 130) hx hb dX12_hall_114 (by decide) (fun hc27 => ?_) (fun hc27 => ?_)
    · replace h := ift h hc27
      cases h
      exact k0 _ _ _ hH (lv_sub hl [0] rfl)
    · replace h := iff' h hc27
      refine lv_aload_n hx hb dX12_hall_117 rfl (lv_at hl 0 rfl) ?_
      obtain ⟨x28, hx28, h⟩ := bnd h
      refine gf_X12_45 X hH hx28 dX12_hall_118 ?_
      refine lv_iload_n hx hb dX12_hall_121 rfl (lv_at hl 1 rfl) ?_
      refine lv_iconst (v := 0) hx hb dX12_hall_122 (by decide) ?_
      obtain ⟨x29, hx29, h⟩ := bnd h
      refine w_qI X hH hx29 dX12_hall_123 (fun H locs hH => ?_)
      refine lv_iinc (v := (v2 + 1)) (lv' := [(2, .int (v2 + 1)), (0, .ref v0)]) hx hb dX12_hall_124 hl (k := 1) rfl rfl (by decide) rfl (fun ls hl => ?_)
      refine lv_goto (tgt := 111) hx hb dX12_hall_127 (by decide) ?_
      exact ih _ _ _ _ h k0 _ _ _ hH (lv_sub hl [1, 0] rfl)
set_option maxHeartbeats 4000000 in
set_option maxRecDepth 100000 in
theorem w_X12_hall_137 {p : Program} {e : Env} {R : Room} {s : State} {m : MethodId} {args : Array Value} {below : List Frame} {meth : Method} {c : Code} {cells slots : Nat} {Q : State → Prop} {G : CG} (l : Launch) (X : Cx p s m args meth c cX12_hall 3 RX12 G) (hRL : RmL R 7) (hcs : cells ≤ R.cells ∧ slots ≤ R.slots) : ∀ (n : Nat) (v0 : Nat) (v2 : Int32) (μ : Mm) (x : Mm), lp_X12_hall_137 n v0 v2 μ = some x → (∀ (H : Heap) (locs : List Loc) (ls : Array Slot), HS G s x H locs → lv_has ls 3 [(0, .ref v0)] → W p l e R s m args below meth c H locs cells slots Q (F0 m 155 ls [])) → ∀ (H : Heap) (locs : List Loc) (ls : Array Slot), HS G s μ H locs → lv_has ls 3 [(0, .ref v0), (2, .int v2)] → W p l e R s m args below meth c H locs cells slots Q (F0 m 137 ls []) := by
  have hx := X.1
  have hb := X.2.1
  have hown := X.2.2.2.1
  have hts := X.2.2.2.2.1
  intro n
  induction n with
  | zero =>
    intro v0 v2 μ x h
    rw [lp_X12_hall_137] at h
    cases h
  | succ n ih =>
    intro v0 v2 μ x h k0 H locs ls hH hl
    rw [lp_X12_hall_137] at h
    refine lv_iload_n hx hb dX12_hall_137 rfl (lv_at hl 1 rfl) ?_
    refine lv_iconst (v := 3) hx hb dX12_hall_138 (by decide) ?_
    refine lv_icmp_ge (tgt := 155) hx hb dX12_hall_139 (by decide) (fun hc32 => ?_) (fun hc32 => ?_)
    · replace h := ift h hc32
      cases h
      exact k0 _ _ _ hH (lv_sub hl [0] rfl)
    · replace h := iff' h hc32
      refine lv_aload_n hx hb dX12_hall_142 rfl (lv_at hl 0 rfl) ?_
      obtain ⟨x33, hx33, h⟩ := bnd h
      refine gf_X12_54 X hH hx33 dX12_hall_143 ?_
      refine lv_iload_n hx hb dX12_hall_146 rfl (lv_at hl 1 rfl) ?_
      refine lv_iconst (v := 0) hx hb dX12_hall_147 (by decide) ?_
      obtain ⟨x34, hx34, h⟩ := bnd h
      refine w_qZ X hH hx34 dX12_hall_148 (fun H locs hH => ?_)
      refine lv_iinc (v := (v2 + 1)) (lv' := [(2, .int (v2 + 1)), (0, .ref v0)]) hx hb dX12_hall_149 hl (k := 1) rfl rfl (by decide) rfl (fun ls hl => ?_)
      refine lv_goto (tgt := 137) hx hb dX12_hall_152 (by decide) ?_
      exact ih _ _ _ _ h k0 _ _ _ hH (lv_sub hl [1, 0] rfl)
theorem t_X12_hall {μ : Mm} {a0 : Nat} {p1 : Int32} {x : Int32 × Mm} (h : f_X12_hall μ a0 p1 = some x) : tg μ a0 = 13 := by
  unfold f_X12_hall at h
  exact (gsn h).1
set_option maxHeartbeats 4000000 in
set_option maxRecDepth 100000 in
theorem c_X12_hall (l : Launch) (G : CG) (μ : Mm) (a0 : Nat) (p1 : Int32) (x : Int32 × Mm) (h : f_X12_hall μ a0 p1 = some x) : Met l yX12_hall (.code yX12_hall cX12_hall 3 (some .int) :: UW) (rmk 7 0 0) (PC G [.ref a0, .int p1] μ) (QI G x.1 x.2) 0 0 (fA G) := by
  refine Met.ofW (cc := cX12_hall) (maxL := 3) (ret := (some .int)) (by decide) rfl ?_
  intro p e s m args below meth c s₁ B hml hv
  obtain ⟨X, hH, hr, rfl, hnm⟩ := cx_in B hml hv
  have X : Cx p s m _ meth c cX12_hall 3 RX12 G := X
  have hx := X.1
  have hb := X.2.1
  have hown := X.2.2.2.1
  have hts := X.2.2.2.2.1
  have hRL : RmL (rmk 7 0 0) 7 := ⟨Nat.le_refl _, Nat.le_refl _⟩
  have hcs : 0 ≤ (rmk 0 0 0).cells ∧ 0 ≤ (rmk 0 0 0).slots := ⟨Nat.zero_le _, Nat.zero_le _⟩
  refine ls_in (Nat.le_of_ble_eq_true rfl) (fun ls hl => ?_)
  have hl : lv_has ls 3 [(0, .ref a0), (1, .int p1)] := hl
  unfold f_X12_hall at h
  obtain ⟨htg, h⟩ := gsn h
  refine lv_iload_n hx hb dX12_hall_0 rfl (lv_at hl 1 rfl) ?_
  obtain ⟨x1, hx1, h⟩ := bnd h
  refine iv_X12_121 l X hH hRL (by decide) hx1 hl.1 (Nat.le_of_ble_eq_true rfl) dX12_hall_1 hcs (fun H locs hH => ?_)
  refine lv_if_ne (tgt := 9) hx hb dX12_hall_4 (by decide) (fun hc2 => ?_) (fun hc2 => ?_)
  · replace h := iff' h hc2
    refine lv_aload_n hx hb dX12_hall_9 rfl (lv_at hl 0 rfl) ?_
    obtain ⟨x3, hx3, h⟩ := bnd h
    refine gf_X12_26 X hH hx3 dX12_hall_10 ?_
    refine lv_iload_n hx hb dX12_hall_13 rfl (lv_at hl 1 rfl) ?_
    obtain ⟨x4, hx4, h⟩ := bnd h
    refine w_aI X hH hx4 dX12_hall_14 ?_
    refine lv_if_ge (tgt := 24) hx hb dX12_hall_15 (by decide) (fun hc5 => ?_) (fun hc5 => ?_)
    · replace h := ift h hc5
      refine lv_aload_n hx hb dX12_hall_24 rfl (lv_at hl 0 rfl) ?_
      refine lv_iload_n hx hb dX12_hall_25 rfl (lv_at hl 1 rfl) ?_
      obtain ⟨x6, hx6, h⟩ := bnd h
      refine iv_X12_165 l X hH hRL (by decide) hx6 hl.1 (Nat.le_of_ble_eq_true rfl) dX12_hall_26 hcs (fun H locs hH => ?_)
      refine lv_bipush (v := -9) hx hb dX12_hall_29 (by decide) ?_
      refine lv_icmp_eq (tgt := 37) hx hb dX12_hall_31 (by decide) (fun hc7 => ?_) (fun hc7 => ?_)
      · replace h := ift h hc7
        refine lv_aload_n hx hb dX12_hall_37 rfl (lv_at hl 0 rfl) ?_
        refine lv_aload_n hx hb dX12_hall_38 rfl (lv_at hl 0 rfl) ?_
        obtain ⟨x8, hx8, h⟩ := bnd h
        refine gf_X12_141 X hH hx8 dX12_hall_39 ?_
        obtain ⟨x9, hx9, h⟩ := bnd h
        refine pf_X12_168 X hH hx9 dX12_hall_42 (fun H locs hH => ?_)
        refine lv_aload_n hx hb dX12_hall_45 rfl (lv_at hl 0 rfl) ?_
        refine lv_aload_n hx hb dX12_hall_46 rfl (lv_at hl 0 rfl) ?_
        obtain ⟨x10, hx10, h⟩ := bnd h
        refine gf_X12_138 X hH hx10 dX12_hall_47 ?_
        obtain ⟨x11, hx11, h⟩ := bnd h
        refine pf_X12_171 X hH hx11 dX12_hall_50 (fun H locs hH => ?_)
        refine lv_aload_n hx hb dX12_hall_53 rfl (lv_at hl 0 rfl) ?_
        refine lv_aload_n hx hb dX12_hall_54 rfl (lv_at hl 0 rfl) ?_
        obtain ⟨x12, hx12, h⟩ := bnd h
        refine gf_X12_144 X hH hx12 dX12_hall_55 ?_
        obtain ⟨x13, hx13, h⟩ := bnd h
        refine pf_X12_174 X hH hx13 dX12_hall_58 (fun H locs hH => ?_)
        refine lv_aload_n hx hb dX12_hall_61 rfl (lv_at hl 0 rfl) ?_
        refine lv_aload_n hx hb dX12_hall_62 rfl (lv_at hl 0 rfl) ?_
        obtain ⟨x14, hx14, h⟩ := bnd h
        refine gf_X12_147 X hH hx14 dX12_hall_63 ?_
        obtain ⟨x15, hx15, h⟩ := bnd h
        refine pf_X12_177 X hH hx15 dX12_hall_66 (fun H locs hH => ?_)
        refine lv_iconst (v := 0) hx hb dX12_hall_69 (by decide) ?_
        refine lv_istore_n (lv' := [(2, .int (0 : Int32)), (0, .ref a0), (1, .int p1)]) hx hb dX12_hall_70 rfl hl (by decide) rfl (fun ls hl => ?_)
        obtain ⟨x26, hx26, hhx26⟩ := bnd h
        clear h
        refine w_X12_hall_71 l X hRL hcs BIG a0 (0 : Int32) x15 x26 hx26 (fun H locs ls hH hl => ?_) _ _ _ hH (lv_sub hl [1, 0] rfl)
        · have h := hhx26
          clear hhx26
          refine lv_iconst (v := 0) hx hb dX12_hall_109 (by decide) ?_
          refine lv_istore_n (lv' := [(2, .int (0 : Int32)), (0, .ref a0)]) hx hb dX12_hall_110 rfl hl (by decide) rfl (fun ls hl => ?_)
          obtain ⟨x30, hx30, hhx30⟩ := bnd h
          clear h
          refine w_X12_hall_111 l X hRL hcs BIG a0 (0 : Int32) x26 x30 hx30 (fun H locs ls hH hl => ?_) _ _ _ hH (lv_sub hl [1, 0] rfl)
          · have h := hhx30
            clear hhx30
            refine lv_aload_n hx hb dX12_hall_130 rfl (lv_at hl 0 rfl) ?_
            refine lv_iconst (v := 0) hx hb dX12_hall_131 (by decide) ?_
            obtain ⟨x31, hx31, h⟩ := bnd h
            refine pf_X12_180 X hH hx31 dX12_hall_132 (fun H locs hH => ?_)
            refine lv_iconst (v := 0) hx hb dX12_hall_135 (by decide) ?_
            refine lv_istore_n (lv' := [(2, .int (0 : Int32)), (0, .ref a0)]) hx hb dX12_hall_136 rfl hl (by decide) rfl (fun ls hl => ?_)
            obtain ⟨x35, hx35, hhx35⟩ := bnd h
            clear h
            refine w_X12_hall_137 l X hRL hcs BIG a0 (0 : Int32) x31 x35 hx35 (fun H locs ls hH hl => ?_) _ _ _ hH (lv_sub hl [1, 0] rfl)
            · have h := hhx35
              clear hhx35
              refine lv_aload_n hx hb dX12_hall_155 rfl (lv_at hl 0 rfl) ?_
              obtain ⟨x36, hx36, h⟩ := bnd h
              refine gf_X12_168 X hH hx36 dX12_hall_156 ?_
              exact eI X hH h hr dX12_hall_159 (Nat.le_of_ble_eq_true rfl) (Nat.le_of_ble_eq_true rfl)
      · replace h := iff' h hc7
        refine lv_bipush (v := -4) hx hb dX12_hall_34 (by decide) ?_
        exact eI X hH h hr dX12_hall_36 (Nat.le_of_ble_eq_true rfl) (Nat.le_of_ble_eq_true rfl)
    · replace h := iff' h hc5
      refine lv_aload_n hx hb dX12_hall_18 rfl (lv_at hl 0 rfl) ?_
      refine lv_iconst (v := 1) hx hb dX12_hall_19 (by decide) ?_
      obtain ⟨x37, hx37, h⟩ := bnd h
      refine iv_X12_110 l X hH hRL (by decide) hx37 hl.1 (Nat.le_of_ble_eq_true rfl) dX12_hall_20 hcs (fun H locs hH => ?_)
      exact eI X hH h hr dX12_hall_23 (Nat.le_of_ble_eq_true rfl) (Nat.le_of_ble_eq_true rfl)
  · replace h := ift h hc2
    refine lv_iconst (v := -1) hx hb dX12_hall_7 (by decide) ?_
    exact eI X hH h hr dX12_hall_8 (Nat.le_of_ble_eq_true rfl) (Nat.le_of_ble_eq_true rfl)
theorem t_X12_isGuild {μ : Mm} {a0 : Nat} {p1 : Int32} {x : Int32} (h : f_X12_isGuild μ a0 p1 = some x) : tg μ a0 = 13 := by
  unfold f_X12_isGuild at h
  exact (gsn h).1
set_option maxHeartbeats 4000000 in
set_option maxRecDepth 100000 in
theorem c_X12_isGuild (l : Launch) (G : CG) (μ : Mm) (a0 : Nat) (p1 : Int32) (x : Int32) (h : f_X12_isGuild μ a0 p1 = some x) : Met l yX12_isGuild (.code yX12_isGuild cX12_isGuild 2 (some .boolean) :: UW) (rmk 2 0 0) (PC G [.ref a0, .int p1] μ) (QI G x μ) 0 0 (fA G) := by
  refine Met.ofW (cc := cX12_isGuild) (maxL := 2) (ret := (some .boolean)) (by decide) rfl ?_
  intro p e s m args below meth c s₁ B hml hv
  obtain ⟨X, hH, hr, rfl, hnm⟩ := cx_in B hml hv
  have X : Cx p s m _ meth c cX12_isGuild 2 RX12 G := X
  have hx := X.1
  have hb := X.2.1
  have hown := X.2.2.2.1
  have hts := X.2.2.2.2.1
  have hRL : RmL (rmk 2 0 0) 2 := ⟨Nat.le_refl _, Nat.le_refl _⟩
  have hcs : 0 ≤ (rmk 0 0 0).cells ∧ 0 ≤ (rmk 0 0 0).slots := ⟨Nat.zero_le _, Nat.zero_le _⟩
  refine ls_in (Nat.le_of_ble_eq_true rfl) (fun ls hl => ?_)
  have hl : lv_has ls 2 [(0, .ref a0), (1, .int p1)] := hl
  unfold f_X12_isGuild at h
  obtain ⟨htg, h⟩ := gsn h
  refine lv_iload_n hx hb dX12_isGuild_0 rfl (lv_at hl 1 rfl) ?_
  refine lv_iconst (v := 0) hx hb dX12_isGuild_1 (by decide) ?_
  refine lv_aload_n hx hb dX12_isGuild_2 rfl (lv_at hl 0 rfl) ?_
  obtain ⟨x1, hx1, h⟩ := bnd h
  refine gf_X12_168 X hH hx1 dX12_isGuild_3 ?_
  refine lv_iconst (v := 1) hx hb dX12_isGuild_6 (by decide) ?_
  refine lv_isub hx hb dX12_isGuild_7 ?_
  obtain ⟨x2, hx2, h⟩ := bnd h
  refine iv_X12_96 l X hH hRL (by decide) hx2 hl.1 (Nat.le_of_ble_eq_true rfl) dX12_isGuild_8 hcs (fun H locs hH => ?_)
  obtain ⟨_, hzb, h⟩ := bnd h
  exact eZp X hH (gsm hzb).1 h hr dX12_isGuild_11
theorem t_X12_isTooth {μ : Mm} {a0 : Nat} {p1 : Int32} {x : Int32} (h : f_X12_isTooth μ a0 p1 = some x) : tg μ a0 = 13 := by
  unfold f_X12_isTooth at h
  exact (gsn h).1
set_option maxHeartbeats 4000000 in
set_option maxRecDepth 100000 in
theorem c_X12_isTooth (l : Launch) (G : CG) (μ : Mm) (a0 : Nat) (p1 : Int32) (x : Int32) (h : f_X12_isTooth μ a0 p1 = some x) : Met l yX12_isTooth (.code yX12_isTooth cX12_isTooth 2 (some .boolean) :: UW) (rmk 2 0 0) (PC G [.ref a0, .int p1] μ) (QI G x μ) 0 0 (fA G) := by
  refine Met.ofW (cc := cX12_isTooth) (maxL := 2) (ret := (some .boolean)) (by decide) rfl ?_
  intro p e s m args below meth c s₁ B hml hv
  obtain ⟨X, hH, hr, rfl, hnm⟩ := cx_in B hml hv
  have X : Cx p s m _ meth c cX12_isTooth 2 RX12 G := X
  have hx := X.1
  have hb := X.2.1
  have hown := X.2.2.2.1
  have hts := X.2.2.2.2.1
  have hRL : RmL (rmk 2 0 0) 2 := ⟨Nat.le_refl _, Nat.le_refl _⟩
  have hcs : 0 ≤ (rmk 0 0 0).cells ∧ 0 ≤ (rmk 0 0 0).slots := ⟨Nat.zero_le _, Nat.zero_le _⟩
  refine ls_in (Nat.le_of_ble_eq_true rfl) (fun ls hl => ?_)
  have hl : lv_has ls 2 [(0, .ref a0), (1, .int p1)] := hl
  unfold f_X12_isTooth at h
  obtain ⟨htg, h⟩ := gsn h
  refine lv_iload_n hx hb dX12_isTooth_0 rfl (lv_at hl 1 rfl) ?_
  refine lv_iconst (v := 0) hx hb dX12_isTooth_1 (by decide) ?_
  refine lv_aload_n hx hb dX12_isTooth_2 rfl (lv_at hl 0 rfl) ?_
  obtain ⟨x1, hx1, h⟩ := bnd h
  refine gf_X12_171 X hH hx1 dX12_isTooth_3 ?_
  refine lv_iconst (v := 1) hx hb dX12_isTooth_6 (by decide) ?_
  refine lv_isub hx hb dX12_isTooth_7 ?_
  obtain ⟨x2, hx2, h⟩ := bnd h
  refine iv_X12_96 l X hH hRL (by decide) hx2 hl.1 (Nat.le_of_ble_eq_true rfl) dX12_isTooth_8 hcs (fun H locs hH => ?_)
  obtain ⟨_, hzb, h⟩ := bnd h
  exact eZp X hH (gsm hzb).1 h hr dX12_isTooth_11
theorem t_X12_isRent {μ : Mm} {a0 : Nat} {p1 : Int32} {x : Int32} (h : f_X12_isRent μ a0 p1 = some x) : tg μ a0 = 13 := by
  unfold f_X12_isRent at h
  exact (gsn h).1
set_option maxHeartbeats 4000000 in
set_option maxRecDepth 100000 in
theorem c_X12_isRent (l : Launch) (G : CG) (μ : Mm) (a0 : Nat) (p1 : Int32) (x : Int32) (h : f_X12_isRent μ a0 p1 = some x) : Met l yX12_isRent (.code yX12_isRent cX12_isRent 2 (some .boolean) :: UW) (rmk 1 0 0) (PC G [.ref a0, .int p1] μ) (QI G x μ) 0 0 (fA G) := by
  refine Met.ofW (cc := cX12_isRent) (maxL := 2) (ret := (some .boolean)) (by decide) rfl ?_
  intro p e s m args below meth c s₁ B hml hv
  obtain ⟨X, hH, hr, rfl, hnm⟩ := cx_in B hml hv
  have X : Cx p s m _ meth c cX12_isRent 2 RX12 G := X
  have hx := X.1
  have hb := X.2.1
  have hown := X.2.2.2.1
  have hts := X.2.2.2.2.1
  have hRL : RmL (rmk 1 0 0) 1 := ⟨Nat.le_refl _, Nat.le_refl _⟩
  have hcs : 0 ≤ (rmk 0 0 0).cells ∧ 0 ≤ (rmk 0 0 0).slots := ⟨Nat.zero_le _, Nat.zero_le _⟩
  refine ls_in (Nat.le_of_ble_eq_true rfl) (fun ls hl => ?_)
  have hl : lv_has ls 2 [(0, .ref a0), (1, .int p1)] := hl
  unfold f_X12_isRent at h
  obtain ⟨htg, h⟩ := gsn h
  refine lv_aload_n hx hb dX12_isRent_0 rfl (lv_at hl 0 rfl) ?_
  obtain ⟨x1, hx1, h⟩ := bnd h
  refine gf_X12_177 X hH hx1 dX12_isRent_1 ?_
  refine lv_iload_n hx hb dX12_isRent_4 rfl (lv_at hl 1 rfl) ?_
  refine lv_lshr hx hb dX12_isRent_5 rfl ?_
  refine lv_lconst (v := 1) hx hb dX12_isRent_6 (by decide) ?_
  refine lv_land hx hb dX12_isRent_7 ?_
  refine lv_lconst (v := 1) hx hb dX12_isRent_8 (by decide) ?_
  refine W.lcmp hx hb dX12_isRent_9 ?_
  refine lv_if_ne (tgt := 17) hx hb dX12_isRent_10 (by decide) (fun hc2 => ?_) (fun hc2 => ?_)
  · replace h := iff' h hc2
    refine lv_iconst (v := 0) hx hb dX12_isRent_17 (by decide) ?_
    exact eZp X hH (by decide) h hr dX12_isRent_18
  · replace h := ift h hc2
    refine lv_iconst (v := 1) hx hb dX12_isRent_13 (by decide) ?_
    refine lv_goto (tgt := 18) hx hb dX12_isRent_14 (by decide) ?_
    exact eZp X hH (by decide) h hr dX12_isRent_18
theorem t_X12_bareOf {μ : Mm} {a0 : Nat} {p1 : Int32} {x : Int32} (h : f_X12_bareOf μ a0 p1 = some x) : tg μ a0 = 13 := by
  unfold f_X12_bareOf at h
  exact (gsn h).1
set_option maxHeartbeats 4000000 in
set_option maxRecDepth 100000 in
theorem c_X12_bareOf (l : Launch) (G : CG) (μ : Mm) (a0 : Nat) (p1 : Int32) (x : Int32) (h : f_X12_bareOf μ a0 p1 = some x) : Met l yX12_bareOf (.code yX12_bareOf cX12_bareOf 3 (some .int) :: UW) (rmk 1 0 0) (PC G [.ref a0, .int p1] μ) (QI G x μ) 0 0 (fA G) := by
  refine Met.ofW (cc := cX12_bareOf) (maxL := 3) (ret := (some .int)) (by decide) rfl ?_
  intro p e s m args below meth c s₁ B hml hv
  obtain ⟨X, hH, hr, rfl, hnm⟩ := cx_in B hml hv
  have X : Cx p s m _ meth c cX12_bareOf 3 RX12 G := X
  have hx := X.1
  have hb := X.2.1
  have hown := X.2.2.2.1
  have hts := X.2.2.2.2.1
  have hRL : RmL (rmk 1 0 0) 1 := ⟨Nat.le_refl _, Nat.le_refl _⟩
  have hcs : 0 ≤ (rmk 0 0 0).cells ∧ 0 ≤ (rmk 0 0 0).slots := ⟨Nat.zero_le _, Nat.zero_le _⟩
  refine ls_in (Nat.le_of_ble_eq_true rfl) (fun ls hl => ?_)
  have hl : lv_has ls 3 [(0, .ref a0), (1, .int p1)] := hl
  unfold f_X12_bareOf at h
  obtain ⟨htg, h⟩ := gsn h
  refine lv_aload_n hx hb dX12_bareOf_0 rfl (lv_at hl 0 rfl) ?_
  obtain ⟨x1, hx1, h⟩ := bnd h
  refine gf_X12_36 X hH hx1 dX12_bareOf_1 ?_
  refine lv_iload_n hx hb dX12_bareOf_4 rfl (lv_at hl 1 rfl) ?_
  obtain ⟨x2, hx2, h⟩ := bnd h
  refine w_aI X hH hx2 dX12_bareOf_5 ?_
  refine lv_istore_n (lv' := [(2, .int x2), (0, .ref a0), (1, .int p1)]) hx hb dX12_bareOf_6 rfl hl (by decide) rfl (fun ls hl => ?_)
  refine lv_aload_n hx hb dX12_bareOf_7 rfl (lv_at hl 1 rfl) ?_
  obtain ⟨x3, hx3, h⟩ := bnd h
  refine gf_X12_33 X hH hx3 dX12_bareOf_8 ?_
  refine lv_iload_n hx hb dX12_bareOf_11 rfl (lv_at hl 2 rfl) ?_
  obtain ⟨x4, hx4, h⟩ := bnd h
  refine w_aI X hH hx4 dX12_bareOf_12 ?_
  by_cases hc5 : x4 = (1 : Int32)
  · replace h := ift h hc5
    refine lv_tableIn (tgt := 48) (off := 35) hx hb dX12_bareOf_13 (by rw [hc5]; decide) (by rw [hc5]; decide) (by rw [hc5]; rfl) (by decide) ?_
    refine lv_iconst (v := 2) hx hb dX12_bareOf_48 (by decide) ?_
    refine lv_iload_n hx hb dX12_bareOf_49 rfl (lv_at hl 0 rfl) ?_
    refine lv_imul hx hb dX12_bareOf_50 ?_
    exact eIp X hH h hr dX12_bareOf_51
  · replace h := iff' h hc5
    by_cases hc6 : x4 = (2 : Int32)
    · replace h := ift h hc6
      refine lv_tableIn (tgt := 60) (off := 47) hx hb dX12_bareOf_13 (by rw [hc6]; decide) (by rw [hc6]; decide) (by rw [hc6]; rfl) (by decide) ?_
      refine lv_iload_n hx hb dX12_bareOf_60 rfl (lv_at hl 0 rfl) ?_
      refine lv_iconst (v := 1) hx hb dX12_bareOf_61 (by decide) ?_
      refine lv_isub hx hb dX12_bareOf_62 ?_
      exact eIp X hH h hr dX12_bareOf_63
    · replace h := iff' h hc6
      by_cases hc7 : x4 = (3 : Int32)
      · replace h := ift h hc7
        refine lv_tableIn (tgt := 70) (off := 57) hx hb dX12_bareOf_13 (by rw [hc7]; decide) (by rw [hc7]; decide) (by rw [hc7]; rfl) (by decide) ?_
        refine lv_iconst (v := 0) hx hb dX12_bareOf_70 (by decide) ?_
        exact eIp X hH h hr dX12_bareOf_71
      · replace h := iff' h hc7
        by_cases hc8 : x4 = (4 : Int32)
        · replace h := ift h hc8
          refine lv_tableIn (tgt := 52) (off := 39) hx hb dX12_bareOf_13 (by rw [hc8]; decide) (by rw [hc8]; decide) (by rw [hc8]; rfl) (by decide) ?_
          refine lv_iconst (v := 2) hx hb dX12_bareOf_52 (by decide) ?_
          refine lv_iload_n hx hb dX12_bareOf_53 rfl (lv_at hl 0 rfl) ?_
          refine lv_imul hx hb dX12_bareOf_54 ?_
          refine lv_iload_n hx hb dX12_bareOf_55 rfl (lv_at hl 0 rfl) ?_
          refine lv_iconst (v := 2) hx hb dX12_bareOf_56 (by decide) ?_
          refine lv_idiv hx hb dX12_bareOf_57 (by decide) ?_
          refine lv_isub hx hb dX12_bareOf_58 ?_
          exact eIp X hH h hr dX12_bareOf_59
        · replace h := iff' h hc8
          by_cases hc9 : x4 = (5 : Int32)
          · replace h := ift h hc9
            refine lv_tableIn (tgt := 64) (off := 51) hx hb dX12_bareOf_13 (by rw [hc9]; decide) (by rw [hc9]; decide) (by rw [hc9]; rfl) (by decide) ?_
            refine lv_iload_n hx hb dX12_bareOf_64 rfl (lv_at hl 0 rfl) ?_
            refine lv_iconst (v := 1) hx hb dX12_bareOf_65 (by decide) ?_
            refine lv_isub hx hb dX12_bareOf_66 ?_
            refine lv_iconst (v := 2) hx hb dX12_bareOf_67 (by decide) ?_
            refine lv_idiv hx hb dX12_bareOf_68 (by decide) ?_
            exact eIp X hH h hr dX12_bareOf_69
          · replace h := iff' h hc9
            have e1 : x4.toInt ≠ 1 := lv_neT hc5 (by decide)
            have e2 : x4.toInt ≠ 2 := lv_neT hc6 (by decide)
            have e3 : x4.toInt ≠ 3 := lv_neT hc7 (by decide)
            have e4 : x4.toInt ≠ 4 := lv_neT hc8 (by decide)
            have e5 : x4.toInt ≠ 5 := lv_neT hc9 (by decide)
            refine lv_tableOut (tgt := 72) hx hb dX12_bareOf_13 (by omega) (by decide) ?_
            refine lv_iload_n hx hb dX12_bareOf_72 rfl (lv_at hl 0 rfl) ?_
            exact eIp X hH h hr dX12_bareOf_73
set_option maxHeartbeats 1000000 in
theorem iv_X12_183 {p : Program} {e : Env} {R : Room} {s : State} {m : MethodId} {args : Array Value} {below : List Frame} {meth : Method} {c : Code} {H : Heap} {locs : List Loc} {cells slots : Nat} {Q : State → Prop} {cc : ByteArray} {pc : Nat} {ls : Array Slot} {rest : List Value} {nL : Nat} {G : CG} {μ : Mm} {a : Nat} {q0 : Int32} {x : Int32} {k : Nat} (l : Launch) (X : Cx p s m args meth c cc nL RX12 G) (hH : HS G s μ H locs) (hRL : RmL R k) (hk : 1 + 1 ≤ k) (h : f_X12_bareOf μ a q0 = some x) (hls : ls.size = nL) (hroom : (rest.map fun v => v.category).sum ≤ 8) (hdg : decode cc pc = .ok (.invokevirtual 183, 3)) (hcs : cells + 0 ≤ R.cells ∧ slots + 0 ≤ R.slots) (kk : ∀ (H1 : Heap) (locs1 : List Loc), HS G s μ H1 locs1 → W p l e R s m args below meth c H1 locs1 cells slots Q (F0 m (pc + 3) ls (.int x :: rest))) : W p l e R s m args below meth c H locs cells slots Q (F0 m pc ls (.int q0 :: .ref a :: rest)) := by
  refine kI hH (rV (As := [.int q0]) (rest := rest) X hH (t_X12_bareOf h) vc_12 (c_X12_bareOf l G μ a q0 x h) (List.forall_mem_cons.mpr ⟨u_1239, (List.forall_mem_cons.mpr ⟨u_1241, (List.forall_mem_cons.mpr ⟨u_36, (List.forall_mem_cons.mpr ⟨u_68, (fun _ h9 => absurd h9 List.not_mem_nil)⟩)⟩)⟩)⟩) u_1242 (rmo hRL (Nat.le_trans (by decide) hk) (by decide)) ddV_X12_bareOf rfl hls rfl hroom hdg hcs) kk
theorem t_X12_treadOf {μ : Mm} {a0 : Nat} {p1 : Int32} {x : Int32} (h : f_X12_treadOf μ a0 p1 = some x) : tg μ a0 = 13 := by
  unfold f_X12_treadOf at h
  exact (gsn h).1
set_option maxHeartbeats 4000000 in
set_option maxRecDepth 100000 in
theorem c_X12_treadOf (l : Launch) (G : CG) (μ : Mm) (a0 : Nat) (p1 : Int32) (x : Int32) (h : f_X12_treadOf μ a0 p1 = some x) : Met l yX12_treadOf (.code yX12_treadOf cX12_treadOf 2 (some .int) :: UW) (rmk 2 0 0) (PC G [.ref a0, .int p1] μ) (QI G x μ) 0 0 (fA G) := by
  refine Met.ofW (cc := cX12_treadOf) (maxL := 2) (ret := (some .int)) (by decide) rfl ?_
  intro p e s m args below meth c s₁ B hml hv
  obtain ⟨X, hH, hr, rfl, hnm⟩ := cx_in B hml hv
  have X : Cx p s m _ meth c cX12_treadOf 2 RX12 G := X
  have hx := X.1
  have hb := X.2.1
  have hown := X.2.2.2.1
  have hts := X.2.2.2.2.1
  have hRL : RmL (rmk 2 0 0) 2 := ⟨Nat.le_refl _, Nat.le_refl _⟩
  have hcs : 0 ≤ (rmk 0 0 0).cells ∧ 0 ≤ (rmk 0 0 0).slots := ⟨Nat.zero_le _, Nat.zero_le _⟩
  refine ls_in (Nat.le_of_ble_eq_true rfl) (fun ls hl => ?_)
  have hl : lv_has ls 2 [(0, .ref a0), (1, .int p1)] := hl
  unfold f_X12_treadOf at h
  obtain ⟨htg, h⟩ := gsn h
  refine lv_aload_n hx hb dX12_treadOf_0 rfl (lv_at hl 0 rfl) ?_
  obtain ⟨x1, hx1, h⟩ := bnd h
  refine gf_X12_45 X hH hx1 dX12_treadOf_1 ?_
  refine lv_iconst (v := 2) hx hb dX12_treadOf_4 (by decide) ?_
  obtain ⟨x2, hx2, h⟩ := bnd h
  refine w_aI X hH hx2 dX12_treadOf_5 ?_
  refine lv_if_ne (tgt := 17) hx hb dX12_treadOf_6 (by decide) (fun hc3 => ?_) (fun hc3 => ?_)
  · replace h := iff' h hc3
    refine lv_aload_n hx hb dX12_treadOf_17 rfl (lv_at hl 0 rfl) ?_
    obtain ⟨x4, hx4, h⟩ := bnd h
    refine gf_X12_45 X hH hx4 dX12_treadOf_18 ?_
    refine lv_iconst (v := 2) hx hb dX12_treadOf_21 (by decide) ?_
    obtain ⟨x5, hx5, h⟩ := bnd h
    refine w_aI X hH hx5 dX12_treadOf_22 ?_
    refine lv_iconst (v := 1) hx hb dX12_treadOf_23 (by decide) ?_
    refine lv_icmp_ne (tgt := 37) hx hb dX12_treadOf_24 (by decide) (fun hc6 => ?_) (fun hc6 => ?_)
    · replace h := iff' h hc6
      refine lv_iconst (v := 0) hx hb dX12_treadOf_37 (by decide) ?_
      exact eIp X hH h hr dX12_treadOf_38
    · replace h := ift h hc6
      refine lv_aload_n hx hb dX12_treadOf_27 rfl (lv_at hl 0 rfl) ?_
      refine lv_iload_n hx hb dX12_treadOf_28 rfl (lv_at hl 1 rfl) ?_
      obtain ⟨x7, hx7, h⟩ := bnd h
      refine iv_X12_183 l X hH hRL (by decide) hx7 hl.1 (Nat.le_of_ble_eq_true rfl) dX12_treadOf_29 hcs (fun H locs hH => ?_)
      refine lv_iconst (v := 2) hx hb dX12_treadOf_32 (by decide) ?_
      refine lv_idiv hx hb dX12_treadOf_33 (by decide) ?_
      refine lv_goto (tgt := 38) hx hb dX12_treadOf_34 (by decide) ?_
      exact eIp X hH h hr dX12_treadOf_38
  · replace h := ift h hc3
    refine lv_aload_n hx hb dX12_treadOf_9 rfl (lv_at hl 0 rfl) ?_
    refine lv_iload_n hx hb dX12_treadOf_10 rfl (lv_at hl 1 rfl) ?_
    obtain ⟨x8, hx8, h⟩ := bnd h
    refine iv_X12_183 l X hH hRL (by decide) hx8 hl.1 (Nat.le_of_ble_eq_true rfl) dX12_treadOf_11 hcs (fun H locs hH => ?_)
    refine lv_goto (tgt := 38) hx hb dX12_treadOf_14 (by decide) ?_
    exact eIp X hH h hr dX12_treadOf_38
theorem t_X12_isHeavy {μ : Mm} {a0 : Nat} {p1 : Int32} {x : Int32} (h : f_X12_isHeavy μ a0 p1 = some x) : tg μ a0 = 13 := by
  unfold f_X12_isHeavy at h
  exact (gsn h).1
set_option maxHeartbeats 4000000 in
set_option maxRecDepth 100000 in
theorem c_X12_isHeavy (l : Launch) (G : CG) (μ : Mm) (a0 : Nat) (p1 : Int32) (x : Int32) (h : f_X12_isHeavy μ a0 p1 = some x) : Met l yX12_isHeavy (.code yX12_isHeavy cX12_isHeavy 2 (some .boolean) :: UW) (rmk 1 0 0) (PC G [.ref a0, .int p1] μ) (QI G x μ) 0 0 (fA G) := by
  refine Met.ofW (cc := cX12_isHeavy) (maxL := 2) (ret := (some .boolean)) (by decide) rfl ?_
  intro p e s m args below meth c s₁ B hml hv
  obtain ⟨X, hH, hr, rfl, hnm⟩ := cx_in B hml hv
  have X : Cx p s m _ meth c cX12_isHeavy 2 RX12 G := X
  have hx := X.1
  have hb := X.2.1
  have hown := X.2.2.2.1
  have hts := X.2.2.2.2.1
  have hRL : RmL (rmk 1 0 0) 1 := ⟨Nat.le_refl _, Nat.le_refl _⟩
  have hcs : 0 ≤ (rmk 0 0 0).cells ∧ 0 ≤ (rmk 0 0 0).slots := ⟨Nat.zero_le _, Nat.zero_le _⟩
  refine ls_in (Nat.le_of_ble_eq_true rfl) (fun ls hl => ?_)
  have hl : lv_has ls 2 [(0, .ref a0), (1, .int p1)] := hl
  unfold f_X12_isHeavy at h
  obtain ⟨htg, h⟩ := gsn h
  refine lv_aload_n hx hb dX12_isHeavy_0 rfl (lv_at hl 0 rfl) ?_
  obtain ⟨x1, hx1, h⟩ := bnd h
  refine gf_X12_33 X hH hx1 dX12_isHeavy_1 ?_
  refine lv_iload_n hx hb dX12_isHeavy_4 rfl (lv_at hl 1 rfl) ?_
  obtain ⟨x2, hx2, h⟩ := bnd h
  refine w_aI X hH hx2 dX12_isHeavy_5 ?_
  refine lv_iconst (v := 1) hx hb dX12_isHeavy_6 (by decide) ?_
  refine lv_icmp_eq (tgt := 20) hx hb dX12_isHeavy_7 (by decide) (fun hc3 => ?_) (fun hc3 => ?_)
  · replace h := ift h hc3
    refine lv_iconst (v := 1) hx hb dX12_isHeavy_20 (by decide) ?_
    refine lv_goto (tgt := 25) hx hb dX12_isHeavy_21 (by decide) ?_
    exact eZp X hH (by decide) h hr dX12_isHeavy_25
  · replace h := iff' h hc3
    refine lv_aload_n hx hb dX12_isHeavy_10 rfl (lv_at hl 0 rfl) ?_
    obtain ⟨x4, hx4, h⟩ := bnd h
    refine gf_X12_33 X hH hx4 dX12_isHeavy_11 ?_
    refine lv_iload_n hx hb dX12_isHeavy_14 rfl (lv_at hl 1 rfl) ?_
    obtain ⟨x5, hx5, h⟩ := bnd h
    refine w_aI X hH hx5 dX12_isHeavy_15 ?_
    refine lv_iconst (v := 4) hx hb dX12_isHeavy_16 (by decide) ?_
    refine lv_icmp_ne (tgt := 24) hx hb dX12_isHeavy_17 (by decide) (fun hc6 => ?_) (fun hc6 => ?_)
    · replace h := iff' h hc6
      refine lv_iconst (v := 0) hx hb dX12_isHeavy_24 (by decide) ?_
      exact eZp X hH (by decide) h hr dX12_isHeavy_25
    · replace h := ift h hc6
      refine lv_iconst (v := 1) hx hb dX12_isHeavy_20 (by decide) ?_
      refine lv_goto (tgt := 25) hx hb dX12_isHeavy_21 (by decide) ?_
      exact eZp X hH (by decide) h hr dX12_isHeavy_25
theorem t_X12_isChild {μ : Mm} {a0 : Nat} {p1 : Int32} {x : Int32} (h : f_X12_isChild μ a0 p1 = some x) : tg μ a0 = 13 := by
  unfold f_X12_isChild at h
  exact (gsn h).1
set_option maxHeartbeats 4000000 in
set_option maxRecDepth 100000 in
theorem c_X12_isChild (l : Launch) (G : CG) (μ : Mm) (a0 : Nat) (p1 : Int32) (x : Int32) (h : f_X12_isChild μ a0 p1 = some x) : Met l yX12_isChild (.code yX12_isChild cX12_isChild 2 (some .boolean) :: UW) (rmk 1 0 0) (PC G [.ref a0, .int p1] μ) (QI G x μ) 0 0 (fA G) := by
  refine Met.ofW (cc := cX12_isChild) (maxL := 2) (ret := (some .boolean)) (by decide) rfl ?_
  intro p e s m args below meth c s₁ B hml hv
  obtain ⟨X, hH, hr, rfl, hnm⟩ := cx_in B hml hv
  have X : Cx p s m _ meth c cX12_isChild 2 RX12 G := X
  have hx := X.1
  have hb := X.2.1
  have hown := X.2.2.2.1
  have hts := X.2.2.2.2.1
  have hRL : RmL (rmk 1 0 0) 1 := ⟨Nat.le_refl _, Nat.le_refl _⟩
  have hcs : 0 ≤ (rmk 0 0 0).cells ∧ 0 ≤ (rmk 0 0 0).slots := ⟨Nat.zero_le _, Nat.zero_le _⟩
  refine ls_in (Nat.le_of_ble_eq_true rfl) (fun ls hl => ?_)
  have hl : lv_has ls 2 [(0, .ref a0), (1, .int p1)] := hl
  unfold f_X12_isChild at h
  obtain ⟨htg, h⟩ := gsn h
  refine lv_aload_n hx hb dX12_isChild_0 rfl (lv_at hl 0 rfl) ?_
  obtain ⟨x1, hx1, h⟩ := bnd h
  refine gf_X12_33 X hH hx1 dX12_isChild_1 ?_
  refine lv_iload_n hx hb dX12_isChild_4 rfl (lv_at hl 1 rfl) ?_
  obtain ⟨x2, hx2, h⟩ := bnd h
  refine w_aI X hH hx2 dX12_isChild_5 ?_
  refine lv_iconst (v := 2) hx hb dX12_isChild_6 (by decide) ?_
  refine lv_icmp_eq (tgt := 20) hx hb dX12_isChild_7 (by decide) (fun hc3 => ?_) (fun hc3 => ?_)
  · replace h := ift h hc3
    refine lv_iconst (v := 1) hx hb dX12_isChild_20 (by decide) ?_
    refine lv_goto (tgt := 25) hx hb dX12_isChild_21 (by decide) ?_
    exact eZp X hH (by decide) h hr dX12_isChild_25
  · replace h := iff' h hc3
    refine lv_aload_n hx hb dX12_isChild_10 rfl (lv_at hl 0 rfl) ?_
    obtain ⟨x4, hx4, h⟩ := bnd h
    refine gf_X12_33 X hH hx4 dX12_isChild_11 ?_
    refine lv_iload_n hx hb dX12_isChild_14 rfl (lv_at hl 1 rfl) ?_
    obtain ⟨x5, hx5, h⟩ := bnd h
    refine w_aI X hH hx5 dX12_isChild_15 ?_
    refine lv_iconst (v := 5) hx hb dX12_isChild_16 (by decide) ?_
    refine lv_icmp_ne (tgt := 24) hx hb dX12_isChild_17 (by decide) (fun hc6 => ?_) (fun hc6 => ?_)
    · replace h := iff' h hc6
      refine lv_iconst (v := 0) hx hb dX12_isChild_24 (by decide) ?_
      exact eZp X hH (by decide) h hr dX12_isChild_25
    · replace h := ift h hc6
      refine lv_iconst (v := 1) hx hb dX12_isChild_20 (by decide) ?_
      refine lv_goto (tgt := 25) hx hb dX12_isChild_21 (by decide) ?_
      exact eZp X hH (by decide) h hr dX12_isChild_25
set_option maxHeartbeats 1000000 in
theorem iv_X12_186 {p : Program} {e : Env} {R : Room} {s : State} {m : MethodId} {args : Array Value} {below : List Frame} {meth : Method} {c : Code} {H : Heap} {locs : List Loc} {cells slots : Nat} {Q : State → Prop} {cc : ByteArray} {pc : Nat} {ls : Array Slot} {rest : List Value} {nL : Nat} {G : CG} {μ : Mm} {a : Nat} {q0 : Int32} {x : Int32} {k : Nat} (l : Launch) (X : Cx p s m args meth c cc nL RX12 G) (hH : HS G s μ H locs) (hRL : RmL R k) (hk : 2 + 1 ≤ k) (h : f_X12_treadOf μ a q0 = some x) (hls : ls.size = nL) (hroom : (rest.map fun v => v.category).sum ≤ 8) (hdg : decode cc pc = .ok (.invokevirtual 186, 3)) (hcs : cells + 0 ≤ R.cells ∧ slots + 0 ≤ R.slots) (kk : ∀ (H1 : Heap) (locs1 : List Loc), HS G s μ H1 locs1 → W p l e R s m args below meth c H1 locs1 cells slots Q (F0 m (pc + 3) ls (.int x :: rest))) : W p l e R s m args below meth c H locs cells slots Q (F0 m pc ls (.int q0 :: .ref a :: rest)) := by
  refine kI hH (rV (As := [.int q0]) (rest := rest) X hH (t_X12_treadOf h) vc_12 (c_X12_treadOf l G μ a q0 x h) (List.forall_mem_cons.mpr ⟨u_1235, (List.forall_mem_cons.mpr ⟨u_1237, (List.forall_mem_cons.mpr ⟨u_35, (List.forall_mem_cons.mpr ⟨u_68, (fun _ h9 => absurd h9 List.not_mem_nil)⟩)⟩)⟩)⟩) u_1238 (rmo hRL (Nat.le_trans (by decide) hk) (by decide)) ddV_X12_treadOf rfl hls rfl hroom hdg hcs) kk
theorem t_X12_guildTells {μ : Mm} {a0 : Nat} {p1 : Int32} {p2 : Int32} {x : Int32} (h : f_X12_guildTells μ a0 p1 p2 = some x) : tg μ a0 = 13 := by
  unfold f_X12_guildTells at h
  exact (gsn h).1
set_option maxHeartbeats 4000000 in
set_option maxRecDepth 100000 in
theorem c_X12_guildTells (l : Launch) (G : CG) (μ : Mm) (a0 : Nat) (p1 : Int32) (p2 : Int32) (x : Int32) (h : f_X12_guildTells μ a0 p1 p2 = some x) : Met l yX12_guildTells (.code yX12_guildTells cX12_guildTells 3 (some .int) :: UW) (rmk 3 0 0) (PC G [.ref a0, .int p1, .int p2] μ) (QI G x μ) 0 0 (fA G) := by
  refine Met.ofW (cc := cX12_guildTells) (maxL := 3) (ret := (some .int)) (by decide) rfl ?_
  intro p e s m args below meth c s₁ B hml hv
  obtain ⟨X, hH, hr, rfl, hnm⟩ := cx_in B hml hv
  have X : Cx p s m _ meth c cX12_guildTells 3 RX12 G := X
  have hx := X.1
  have hb := X.2.1
  have hown := X.2.2.2.1
  have hts := X.2.2.2.2.1
  have hRL : RmL (rmk 3 0 0) 3 := ⟨Nat.le_refl _, Nat.le_refl _⟩
  have hcs : 0 ≤ (rmk 0 0 0).cells ∧ 0 ≤ (rmk 0 0 0).slots := ⟨Nat.zero_le _, Nat.zero_le _⟩
  refine ls_in (Nat.le_of_ble_eq_true rfl) (fun ls hl => ?_)
  have hl : lv_has ls 3 [(0, .ref a0), (1, .int p1), (2, .int p2)] := hl
  unfold f_X12_guildTells at h
  obtain ⟨htg, h⟩ := gsn h
  refine lv_iload_n hx hb dX12_guildTells_0 rfl (lv_at hl 2 rfl) ?_
  by_cases hc1 : p2 = (0 : Int32)
  · replace h := ift h hc1
    refine lv_tableIn (tgt := 32) (off := 31) hx hb dX12_guildTells_1 (by rw [hc1]; decide) (by rw [hc1]; decide) (by rw [hc1]; rfl) (by decide) ?_
    refine lv_aload_n hx hb dX12_guildTells_32 rfl (lv_at hl 0 rfl) ?_
    obtain ⟨x2, hx2, h⟩ := bnd h
    refine gf_X12_33 X hH hx2 dX12_guildTells_33 ?_
    refine lv_iload_n hx hb dX12_guildTells_36 rfl (lv_at hl 1 rfl) ?_
    obtain ⟨x3, hx3, h⟩ := bnd h
    refine w_aI X hH hx3 dX12_guildTells_37 ?_
    exact eIp X hH h hr dX12_guildTells_38
  · replace h := iff' h hc1
    by_cases hc4 : p2 = (1 : Int32)
    · replace h := ift h hc4
      refine lv_tableIn (tgt := 39) (off := 38) hx hb dX12_guildTells_1 (by rw [hc4]; decide) (by rw [hc4]; decide) (by rw [hc4]; rfl) (by decide) ?_
      refine lv_aload_n hx hb dX12_guildTells_39 rfl (lv_at hl 0 rfl) ?_
      obtain ⟨x5, hx5, h⟩ := bnd h
      refine gf_X12_36 X hH hx5 dX12_guildTells_40 ?_
      refine lv_iload_n hx hb dX12_guildTells_43 rfl (lv_at hl 1 rfl) ?_
      obtain ⟨x6, hx6, h⟩ := bnd h
      refine w_aI X hH hx6 dX12_guildTells_44 ?_
      exact eIp X hH h hr dX12_guildTells_45
    · replace h := iff' h hc4
      by_cases hc7 : p2 = (2 : Int32)
      · replace h := ift h hc7
        refine lv_tableIn (tgt := 46) (off := 45) hx hb dX12_guildTells_1 (by rw [hc7]; decide) (by rw [hc7]; decide) (by rw [hc7]; rfl) (by decide) ?_
        refine lv_aload_n hx hb dX12_guildTells_46 rfl (lv_at hl 0 rfl) ?_
        refine lv_iload_n hx hb dX12_guildTells_47 rfl (lv_at hl 1 rfl) ?_
        obtain ⟨x8, hx8, h⟩ := bnd h
        refine iv_X12_186 l X hH hRL (by decide) hx8 hl.1 (Nat.le_of_ble_eq_true rfl) dX12_guildTells_48 hcs (fun H locs hH => ?_)
        exact eIp X hH h hr dX12_guildTells_51
      · replace h := iff' h hc7
        by_cases hc9 : p2 = (3 : Int32)
        · replace h := ift h hc9
          refine lv_tableIn (tgt := 52) (off := 51) hx hb dX12_guildTells_1 (by rw [hc9]; decide) (by rw [hc9]; decide) (by rw [hc9]; rfl) (by decide) ?_
          refine lv_aload_n hx hb dX12_guildTells_52 rfl (lv_at hl 0 rfl) ?_
          refine lv_iload_n hx hb dX12_guildTells_53 rfl (lv_at hl 1 rfl) ?_
          obtain ⟨x10, hx10, h⟩ := bnd h
          refine iv_X12_183 l X hH hRL (by decide) hx10 hl.1 (Nat.le_of_ble_eq_true rfl) dX12_guildTells_54 hcs (fun H locs hH => ?_)
          exact eIp X hH h hr dX12_guildTells_57
        · replace h := iff' h hc9
          have e0 : p2.toInt ≠ 0 := lv_neT hc1 (by decide)
          have e1 : p2.toInt ≠ 1 := lv_neT hc4 (by decide)
          have e2 : p2.toInt ≠ 2 := lv_neT hc7 (by decide)
          have e3 : p2.toInt ≠ 3 := lv_neT hc9 (by decide)
          refine lv_tableOut (tgt := 58) hx hb dX12_guildTells_1 (by omega) (by decide) ?_
          refine lv_aload_n hx hb dX12_guildTells_58 rfl (lv_at hl 0 rfl) ?_
          obtain ⟨x11, hx11, h⟩ := bnd h
          refine gf_X12_45 X hH hx11 dX12_guildTells_59 ?_
          refine lv_iconst (v := 5) hx hb dX12_guildTells_62 (by decide) ?_
          refine lv_iload_n hx hb dX12_guildTells_63 rfl (lv_at hl 1 rfl) ?_
          refine lv_iadd hx hb dX12_guildTells_64 ?_
          obtain ⟨x12, hx12, h⟩ := bnd h
          refine w_aI X hH hx12 dX12_guildTells_65 ?_
          exact eIp X hH h hr dX12_guildTells_66
set_option maxHeartbeats 1000000 in
theorem iv_X12_189 {p : Program} {e : Env} {R : Room} {s : State} {m : MethodId} {args : Array Value} {below : List Frame} {meth : Method} {c : Code} {H : Heap} {locs : List Loc} {cells slots : Nat} {Q : State → Prop} {cc : ByteArray} {pc : Nat} {ls : Array Slot} {rest : List Value} {nL : Nat} {G : CG} {μ : Mm} {a : Nat} {q0 : Int32} {x : Int32} {k : Nat} (l : Launch) (X : Cx p s m args meth c cc nL RX12 G) (hH : HS G s μ H locs) (hRL : RmL R k) (hk : 2 + 1 ≤ k) (h : f_X12_isGuild μ a q0 = some x) (hls : ls.size = nL) (hroom : (rest.map fun v => v.category).sum ≤ 8) (hdg : decode cc pc = .ok (.invokevirtual 189, 3)) (hcs : cells + 0 ≤ R.cells ∧ slots + 0 ≤ R.slots) (kk : ∀ (H1 : Heap) (locs1 : List Loc), HS G s μ H1 locs1 → W p l e R s m args below meth c H1 locs1 cells slots Q (F0 m (pc + 3) ls (.int x :: rest))) : W p l e R s m args below meth c H locs cells slots Q (F0 m pc ls (.int q0 :: .ref a :: rest)) := by
  refine kI hH (rV (As := [.int q0]) (rest := rest) X hH (t_X12_isGuild h) vc_12 (c_X12_isGuild l G μ a q0 x h) (List.forall_mem_cons.mpr ⟨u_1227, (List.forall_mem_cons.mpr ⟨u_1229, (List.forall_mem_cons.mpr ⟨u_33, (List.forall_mem_cons.mpr ⟨u_68, (fun _ h9 => absurd h9 List.not_mem_nil)⟩)⟩)⟩)⟩) u_1230 (rmo hRL (Nat.le_trans (by decide) hk) (by decide)) ddV_X12_isGuild rfl hls rfl hroom hdg hcs) kk
set_option maxHeartbeats 1000000 in
theorem iv_X12_192 {p : Program} {e : Env} {R : Room} {s : State} {m : MethodId} {args : Array Value} {below : List Frame} {meth : Method} {c : Code} {H : Heap} {locs : List Loc} {cells slots : Nat} {Q : State → Prop} {cc : ByteArray} {pc : Nat} {ls : Array Slot} {rest : List Value} {nL : Nat} {G : CG} {μ : Mm} {a : Nat} {q0 : Int32} {q1 : Int32} {x : Int32} {k : Nat} (l : Launch) (X : Cx p s m args meth c cc nL RX12 G) (hH : HS G s μ H locs) (hRL : RmL R k) (hk : 3 + 1 ≤ k) (h : f_X12_guildTells μ a q0 q1 = some x) (hls : ls.size = nL) (hroom : (rest.map fun v => v.category).sum ≤ 8) (hdg : decode cc pc = .ok (.invokevirtual 192, 3)) (hcs : cells + 0 ≤ R.cells ∧ slots + 0 ≤ R.slots) (kk : ∀ (H1 : Heap) (locs1 : List Loc), HS G s μ H1 locs1 → W p l e R s m args below meth c H1 locs1 cells slots Q (F0 m (pc + 3) ls (.int x :: rest))) : W p l e R s m args below meth c H locs cells slots Q (F0 m pc ls (.int q1 :: .int q0 :: .ref a :: rest)) := by
  refine kI hH (rV (As := [.int q0, .int q1]) (rest := rest) X hH (t_X12_guildTells h) vc_12 (c_X12_guildTells l G μ a q0 q1 x h) (List.forall_mem_cons.mpr ⟨u_1231, (List.forall_mem_cons.mpr ⟨u_1233, (List.forall_mem_cons.mpr ⟨u_34, (List.forall_mem_cons.mpr ⟨u_68, (fun _ h9 => absurd h9 List.not_mem_nil)⟩)⟩)⟩)⟩) u_1234 (rmo hRL (Nat.le_trans (by decide) hk) (by decide)) ddV_X12_guildTells rfl hls rfl hroom hdg hcs) kk
theorem t_X12_guild {μ : Mm} {a0 : Nat} {p1 : Int32} {p2 : Int32} {x : Int32 × Mm} (h : f_X12_guild μ a0 p1 p2 = some x) : tg μ a0 = 13 := by
  unfold f_X12_guild at h
  exact (gsn h).1
set_option maxHeartbeats 4000000 in
set_option maxRecDepth 100000 in
theorem c_X12_guild (l : Launch) (G : CG) (μ : Mm) (a0 : Nat) (p1 : Int32) (p2 : Int32) (x : Int32 × Mm) (h : f_X12_guild μ a0 p1 p2 = some x) : Met l yX12_guild (.code yX12_guild cX12_guild 3 (some .int) :: UW) (rmk 4 0 0) (PC G [.ref a0, .int p1, .int p2] μ) (QI G x.1 x.2) 0 0 (fA G) := by
  refine Met.ofW (cc := cX12_guild) (maxL := 3) (ret := (some .int)) (by decide) rfl ?_
  intro p e s m args below meth c s₁ B hml hv
  obtain ⟨X, hH, hr, rfl, hnm⟩ := cx_in B hml hv
  have X : Cx p s m _ meth c cX12_guild 3 RX12 G := X
  have hx := X.1
  have hb := X.2.1
  have hown := X.2.2.2.1
  have hts := X.2.2.2.2.1
  have hRL : RmL (rmk 4 0 0) 4 := ⟨Nat.le_refl _, Nat.le_refl _⟩
  have hcs : 0 ≤ (rmk 0 0 0).cells ∧ 0 ≤ (rmk 0 0 0).slots := ⟨Nat.zero_le _, Nat.zero_le _⟩
  refine ls_in (Nat.le_of_ble_eq_true rfl) (fun ls hl => ?_)
  have hl : lv_has ls 3 [(0, .ref a0), (1, .int p1), (2, .int p2)] := hl
  unfold f_X12_guild at h
  obtain ⟨htg, h⟩ := gsn h
  refine lv_aload_n hx hb dX12_guild_0 rfl (lv_at hl 0 rfl) ?_
  refine lv_iload_n hx hb dX12_guild_1 rfl (lv_at hl 1 rfl) ?_
  obtain ⟨x1, hx1, h⟩ := bnd h
  refine iv_X12_189 l X hH hRL (by decide) hx1 hl.1 (Nat.le_of_ble_eq_true rfl) dX12_guild_2 hcs (fun H locs hH => ?_)
  refine lv_if_eq (tgt := 31) hx hb dX12_guild_5 (by decide) (fun hc2 => ?_) (fun hc2 => ?_)
  · replace h := ift h hc2
    refine lv_iconst (v := -1) hx hb dX12_guild_31 (by decide) ?_
    exact eI X hH h hr dX12_guild_32 (Nat.le_of_ble_eq_true rfl) (Nat.le_of_ble_eq_true rfl)
  · replace h := iff' h hc2
    refine lv_iload_n hx hb dX12_guild_8 rfl (lv_at hl 2 rfl) ?_
    refine lv_iconst (v := 0) hx hb dX12_guild_9 (by decide) ?_
    refine lv_iconst (v := 4) hx hb dX12_guild_10 (by decide) ?_
    obtain ⟨x3, hx3, h⟩ := bnd h
    refine iv_X12_96 l X hH hRL (by decide) hx3 hl.1 (Nat.le_of_ble_eq_true rfl) dX12_guild_11 hcs (fun H locs hH => ?_)
    refine lv_if_eq (tgt := 31) hx hb dX12_guild_14 (by decide) (fun hc4 => ?_) (fun hc4 => ?_)
    · replace h := ift h hc4
      refine lv_iconst (v := -1) hx hb dX12_guild_31 (by decide) ?_
      exact eI X hH h hr dX12_guild_32 (Nat.le_of_ble_eq_true rfl) (Nat.le_of_ble_eq_true rfl)
    · replace h := iff' h hc4
      refine lv_aload_n hx hb dX12_guild_17 rfl (lv_at hl 0 rfl) ?_
      refine lv_aload_n hx hb dX12_guild_18 rfl (lv_at hl 0 rfl) ?_
      refine lv_iload_n hx hb dX12_guild_19 rfl (lv_at hl 1 rfl) ?_
      refine lv_iload_n hx hb dX12_guild_20 rfl (lv_at hl 2 rfl) ?_
      obtain ⟨x5, hx5, h⟩ := bnd h
      refine iv_X12_192 l X hH hRL (by decide) hx5 hl.1 (Nat.le_of_ble_eq_true rfl) dX12_guild_21 hcs (fun H locs hH => ?_)
      refine lv_iconst (v := 1) hx hb dX12_guild_24 (by decide) ?_
      obtain ⟨x6, hx6, h⟩ := bnd h
      refine iv_X12_118 l X hH hRL (by decide) hx6 hl.1 (Nat.le_of_ble_eq_true rfl) dX12_guild_25 hcs (fun H locs hH => ?_)
      refine lv_goto (tgt := 32) hx hb dX12_guild_28 (by decide) ?_
      exact eI X hH h hr dX12_guild_32 (Nat.le_of_ble_eq_true rfl) (Nat.le_of_ble_eq_true rfl)
set_option maxHeartbeats 4000000 in
set_option maxRecDepth 100000 in
theorem w_X12_idle_4 {p : Program} {e : Env} {R : Room} {s : State} {m : MethodId} {args : Array Value} {below : List Frame} {meth : Method} {c : Code} {cells slots : Nat} {Q : State → Prop} {G : CG} (l : Launch) (X : Cx p s m args meth c cX12_idle 3 RX12 G) (hRL : RmL R 3) (hcs : cells ≤ R.cells ∧ slots ≤ R.slots) : ∀ (n : Nat) (v0 : Nat) (v1 : Int32) (v2 : Int32) (μ : Mm) (x : Int32), lp_X12_idle_4 n v0 v1 v2 μ = some x → (∀ (H : Heap) (locs : List Loc) (ls : Array Slot), HS G s μ H locs → lv_has ls 3 [(1, .int x)] → W p l e R s m args below meth c H locs cells slots Q (F0 m 34 ls [])) → ∀ (H : Heap) (locs : List Loc) (ls : Array Slot), HS G s μ H locs → lv_has ls 3 [(0, .ref v0), (1, .int v1), (2, .int v2)] → W p l e R s m args below meth c H locs cells slots Q (F0 m 4 ls []) := by
  have hx := X.1
  have hb := X.2.1
  have hown := X.2.2.2.1
  have hts := X.2.2.2.2.1
  intro n
  induction n with
  | zero =>
    intro v0 v1 v2 μ x h
    rw [lp_X12_idle_4] at h
    cases h
  | succ n ih =>
    intro v0 v1 v2 μ x h k0 H locs ls hH hl
    rw [lp_X12_idle_4] at h
    refine lv_iload_n hx hb dX12_idle_4 rfl (lv_at hl 2 rfl) ?_
    refine lv_aload_n hx hb dX12_idle_5 rfl (lv_at hl 0 rfl) ?_
    obtain ⟨x1, hx1, h⟩ := bnd h
    refine gf_X12_168 X hH hx1 dX12_idle_6 ?_
    refine lv_icmp_ge (tgt := 34) hx hb dX12_idle_9 (by decide) (fun hc2 => ?_) (fun hc2 => ?_)
    · replace h := ift h hc2
      cases h
      exact k0 _ _ _ hH (lv_sub hl [1] rfl)
    · replace h := iff' h hc2
      refine lv_iload_n hx hb dX12_idle_12 rfl (lv_at hl 1 rfl) ?_
      refine lv_aload_n hx hb dX12_idle_13 rfl (lv_at hl 0 rfl) ?_
      refine lv_iload_n hx hb dX12_idle_14 rfl (lv_at hl 2 rfl) ?_
      obtain ⟨x3, hx3, h⟩ := bnd h
      refine iv_X12_186 l X hH hRL (by decide) hx3 hl.1 (Nat.le_of_ble_eq_true rfl) dX12_idle_15 hcs (fun H locs hH => ?_)
      refine lv_if_ne (tgt := 25) hx hb dX12_idle_18 (by decide) (fun hc4 => ?_) (fun hc4 => ?_)
      · replace h := iff' h hc4
        refine lv_iconst (v := 0) hx hb dX12_idle_25 (by decide) ?_
        refine lv_iadd hx hb dX12_idle_26 ?_
        refine lv_istore_n (lv' := [(1, .int (v1 + (0 : Int32))), (0, .ref v0), (2, .int v2)]) hx hb dX12_idle_27 rfl hl (by decide) rfl (fun ls hl => ?_)
        refine lv_iinc (v := (v2 + 1)) (lv' := [(2, .int (v2 + 1)), (1, .int (v1 + (0 : Int32))), (0, .ref v0)]) hx hb dX12_idle_28 hl (k := 2) rfl rfl (by decide) rfl (fun ls hl => ?_)
        refine lv_goto (tgt := 4) hx hb dX12_idle_31 (by decide) ?_
        exact ih _ _ _ _ _ h k0 _ _ _ hH (lv_sub hl [2, 1, 0] rfl)
      · replace h := ift h hc4
        refine lv_iconst (v := 1) hx hb dX12_idle_21 (by decide) ?_
        refine lv_goto (tgt := 26) hx hb dX12_idle_22 (by decide) ?_
        refine lv_iadd hx hb dX12_idle_26 ?_
        refine lv_istore_n (lv' := [(1, .int (v1 + (1 : Int32))), (0, .ref v0), (2, .int v2)]) hx hb dX12_idle_27 rfl hl (by decide) rfl (fun ls hl => ?_)
        refine lv_iinc (v := (v2 + 1)) (lv' := [(2, .int (v2 + 1)), (1, .int (v1 + (1 : Int32))), (0, .ref v0)]) hx hb dX12_idle_28 hl (k := 2) rfl rfl (by decide) rfl (fun ls hl => ?_)
        refine lv_goto (tgt := 4) hx hb dX12_idle_31 (by decide) ?_
        exact ih _ _ _ _ _ h k0 _ _ _ hH (lv_sub hl [2, 1, 0] rfl)
theorem t_X12_idle {μ : Mm} {a0 : Nat} {x : Int32} (h : f_X12_idle μ a0 = some x) : tg μ a0 = 13 := by
  unfold f_X12_idle at h
  exact (gsn h).1
set_option maxHeartbeats 4000000 in
set_option maxRecDepth 100000 in
theorem c_X12_idle (l : Launch) (G : CG) (μ : Mm) (a0 : Nat) (x : Int32) (h : f_X12_idle μ a0 = some x) : Met l yX12_idle (.code yX12_idle cX12_idle 3 (some .int) :: UW) (rmk 3 0 0) (PC G [.ref a0] μ) (QI G x μ) 0 0 (fA G) := by
  refine Met.ofW (cc := cX12_idle) (maxL := 3) (ret := (some .int)) (by decide) rfl ?_
  intro p e s m args below meth c s₁ B hml hv
  obtain ⟨X, hH, hr, rfl, hnm⟩ := cx_in B hml hv
  have X : Cx p s m _ meth c cX12_idle 3 RX12 G := X
  have hx := X.1
  have hb := X.2.1
  have hown := X.2.2.2.1
  have hts := X.2.2.2.2.1
  have hRL : RmL (rmk 3 0 0) 3 := ⟨Nat.le_refl _, Nat.le_refl _⟩
  have hcs : 0 ≤ (rmk 0 0 0).cells ∧ 0 ≤ (rmk 0 0 0).slots := ⟨Nat.zero_le _, Nat.zero_le _⟩
  refine ls_in (Nat.le_of_ble_eq_true rfl) (fun ls hl => ?_)
  have hl : lv_has ls 3 [(0, .ref a0)] := hl
  unfold f_X12_idle at h
  obtain ⟨htg, h⟩ := gsn h
  refine lv_iconst (v := 0) hx hb dX12_idle_0 (by decide) ?_
  refine lv_istore_n (lv' := [(1, .int (0 : Int32)), (0, .ref a0)]) hx hb dX12_idle_1 rfl hl (by decide) rfl (fun ls hl => ?_)
  refine lv_iconst (v := 0) hx hb dX12_idle_2 (by decide) ?_
  refine lv_istore_n (lv' := [(2, .int (0 : Int32)), (1, .int (0 : Int32)), (0, .ref a0)]) hx hb dX12_idle_3 rfl hl (by decide) rfl (fun ls hl => ?_)
  obtain ⟨x5, hx5, hhx5⟩ := bnd h
  clear h
  refine w_X12_idle_4 l X hRL hcs BIG a0 (0 : Int32) (0 : Int32) μ x5 hx5 (fun H locs ls hH hl => ?_) _ _ _ hH (lv_sub hl [2, 1, 0] rfl)
  · have h := hhx5
    clear hhx5
    refine lv_iload_n hx hb dX12_idle_34 rfl (lv_at hl 0 rfl) ?_
    exact eIp X hH h hr dX12_idle_35
set_option maxHeartbeats 1000000 in
theorem iv_X12_195 {p : Program} {e : Env} {R : Room} {s : State} {m : MethodId} {args : Array Value} {below : List Frame} {meth : Method} {c : Code} {H : Heap} {locs : List Loc} {cells slots : Nat} {Q : State → Prop} {cc : ByteArray} {pc : Nat} {ls : Array Slot} {rest : List Value} {nL : Nat} {G : CG} {μ : Mm} {a : Nat} {q0 : Int32} {x : Int32} {k : Nat} (l : Launch) (X : Cx p s m args meth c cc nL RX12 G) (hH : HS G s μ H locs) (hRL : RmL R k) (hk : 1 + 1 ≤ k) (h : f_X12_isChild μ a q0 = some x) (hls : ls.size = nL) (hroom : (rest.map fun v => v.category).sum ≤ 8) (hdg : decode cc pc = .ok (.invokevirtual 195, 3)) (hcs : cells + 0 ≤ R.cells ∧ slots + 0 ≤ R.slots) (kk : ∀ (H1 : Heap) (locs1 : List Loc), HS G s μ H1 locs1 → W p l e R s m args below meth c H1 locs1 cells slots Q (F0 m (pc + 3) ls (.int x :: rest))) : W p l e R s m args below meth c H locs cells slots Q (F0 m pc ls (.int q0 :: .ref a :: rest)) := by
  refine kI hH (rV (As := [.int q0]) (rest := rest) X hH (t_X12_isChild h) vc_12 (c_X12_isChild l G μ a q0 x h) (List.forall_mem_cons.mpr ⟨u_1251, (List.forall_mem_cons.mpr ⟨u_1253, (List.forall_mem_cons.mpr ⟨u_38, (List.forall_mem_cons.mpr ⟨u_68, (fun _ h9 => absurd h9 List.not_mem_nil)⟩)⟩)⟩)⟩) u_1254 (rmo hRL (Nat.le_trans (by decide) hk) (by decide)) ddV_X12_isChild rfl hls rfl hroom hdg hcs) kk
set_option maxHeartbeats 4000000 in
set_option maxRecDepth 100000 in
theorem w_X12_childMany_4 {p : Program} {e : Env} {R : Room} {s : State} {m : MethodId} {args : Array Value} {below : List Frame} {meth : Method} {c : Code} {cells slots : Nat} {Q : State → Prop} {G : CG} (l : Launch) (X : Cx p s m args meth c cX12_childMany 3 RX12 G) (hRL : RmL R 2) (hcs : cells ≤ R.cells ∧ slots ≤ R.slots) : ∀ (n : Nat) (v0 : Nat) (v1 : Int32) (v2 : Int32) (μ : Mm) (x : Int32), lp_X12_childMany_4 n v0 v1 v2 μ = some x → (∀ (H : Heap) (locs : List Loc) (ls : Array Slot), HS G s μ H locs → lv_has ls 3 [(1, .int x)] → W p l e R s m args below meth c H locs cells slots Q (F0 m 34 ls [])) → ∀ (H : Heap) (locs : List Loc) (ls : Array Slot), HS G s μ H locs → lv_has ls 3 [(0, .ref v0), (1, .int v1), (2, .int v2)] → W p l e R s m args below meth c H locs cells slots Q (F0 m 4 ls []) := by
  have hx := X.1
  have hb := X.2.1
  have hown := X.2.2.2.1
  have hts := X.2.2.2.2.1
  intro n
  induction n with
  | zero =>
    intro v0 v1 v2 μ x h
    rw [lp_X12_childMany_4] at h
    cases h
  | succ n ih =>
    intro v0 v1 v2 μ x h k0 H locs ls hH hl
    rw [lp_X12_childMany_4] at h
    refine lv_iload_n hx hb dX12_childMany_4 rfl (lv_at hl 2 rfl) ?_
    refine lv_aload_n hx hb dX12_childMany_5 rfl (lv_at hl 0 rfl) ?_
    obtain ⟨x1, hx1, h⟩ := bnd h
    refine gf_X12_168 X hH hx1 dX12_childMany_6 ?_
    refine lv_icmp_ge (tgt := 34) hx hb dX12_childMany_9 (by decide) (fun hc2 => ?_) (fun hc2 => ?_)
    · replace h := ift h hc2
      cases h
      exact k0 _ _ _ hH (lv_sub hl [1] rfl)
    · replace h := iff' h hc2
      refine lv_iload_n hx hb dX12_childMany_12 rfl (lv_at hl 1 rfl) ?_
      refine lv_aload_n hx hb dX12_childMany_13 rfl (lv_at hl 0 rfl) ?_
      refine lv_iload_n hx hb dX12_childMany_14 rfl (lv_at hl 2 rfl) ?_
      obtain ⟨x3, hx3, h⟩ := bnd h
      refine iv_X12_195 l X hH hRL (by decide) hx3 hl.1 (Nat.le_of_ble_eq_true rfl) dX12_childMany_15 hcs (fun H locs hH => ?_)
      refine lv_if_eq (tgt := 25) hx hb dX12_childMany_18 (by decide) (fun hc4 => ?_) (fun hc4 => ?_)
      · replace h := ift h hc4
        refine lv_iconst (v := 0) hx hb dX12_childMany_25 (by decide) ?_
        refine lv_iadd hx hb dX12_childMany_26 ?_
        refine lv_istore_n (lv' := [(1, .int (v1 + (0 : Int32))), (0, .ref v0), (2, .int v2)]) hx hb dX12_childMany_27 rfl hl (by decide) rfl (fun ls hl => ?_)
        refine lv_iinc (v := (v2 + 1)) (lv' := [(2, .int (v2 + 1)), (1, .int (v1 + (0 : Int32))), (0, .ref v0)]) hx hb dX12_childMany_28 hl (k := 2) rfl rfl (by decide) rfl (fun ls hl => ?_)
        refine lv_goto (tgt := 4) hx hb dX12_childMany_31 (by decide) ?_
        exact ih _ _ _ _ _ h k0 _ _ _ hH (lv_sub hl [2, 1, 0] rfl)
      · replace h := iff' h hc4
        refine lv_iconst (v := 1) hx hb dX12_childMany_21 (by decide) ?_
        refine lv_goto (tgt := 26) hx hb dX12_childMany_22 (by decide) ?_
        refine lv_iadd hx hb dX12_childMany_26 ?_
        refine lv_istore_n (lv' := [(1, .int (v1 + (1 : Int32))), (0, .ref v0), (2, .int v2)]) hx hb dX12_childMany_27 rfl hl (by decide) rfl (fun ls hl => ?_)
        refine lv_iinc (v := (v2 + 1)) (lv' := [(2, .int (v2 + 1)), (1, .int (v1 + (1 : Int32))), (0, .ref v0)]) hx hb dX12_childMany_28 hl (k := 2) rfl rfl (by decide) rfl (fun ls hl => ?_)
        refine lv_goto (tgt := 4) hx hb dX12_childMany_31 (by decide) ?_
        exact ih _ _ _ _ _ h k0 _ _ _ hH (lv_sub hl [2, 1, 0] rfl)
theorem t_X12_childMany {μ : Mm} {a0 : Nat} {x : Int32} (h : f_X12_childMany μ a0 = some x) : tg μ a0 = 13 := by
  unfold f_X12_childMany at h
  exact (gsn h).1
set_option maxHeartbeats 4000000 in
set_option maxRecDepth 100000 in
theorem c_X12_childMany (l : Launch) (G : CG) (μ : Mm) (a0 : Nat) (x : Int32) (h : f_X12_childMany μ a0 = some x) : Met l yX12_childMany (.code yX12_childMany cX12_childMany 3 (some .int) :: UW) (rmk 2 0 0) (PC G [.ref a0] μ) (QI G x μ) 0 0 (fA G) := by
  refine Met.ofW (cc := cX12_childMany) (maxL := 3) (ret := (some .int)) (by decide) rfl ?_
  intro p e s m args below meth c s₁ B hml hv
  obtain ⟨X, hH, hr, rfl, hnm⟩ := cx_in B hml hv
  have X : Cx p s m _ meth c cX12_childMany 3 RX12 G := X
  have hx := X.1
  have hb := X.2.1
  have hown := X.2.2.2.1
  have hts := X.2.2.2.2.1
  have hRL : RmL (rmk 2 0 0) 2 := ⟨Nat.le_refl _, Nat.le_refl _⟩
  have hcs : 0 ≤ (rmk 0 0 0).cells ∧ 0 ≤ (rmk 0 0 0).slots := ⟨Nat.zero_le _, Nat.zero_le _⟩
  refine ls_in (Nat.le_of_ble_eq_true rfl) (fun ls hl => ?_)
  have hl : lv_has ls 3 [(0, .ref a0)] := hl
  unfold f_X12_childMany at h
  obtain ⟨htg, h⟩ := gsn h
  refine lv_iconst (v := 0) hx hb dX12_childMany_0 (by decide) ?_
  refine lv_istore_n (lv' := [(1, .int (0 : Int32)), (0, .ref a0)]) hx hb dX12_childMany_1 rfl hl (by decide) rfl (fun ls hl => ?_)
  refine lv_iconst (v := 0) hx hb dX12_childMany_2 (by decide) ?_
  refine lv_istore_n (lv' := [(2, .int (0 : Int32)), (1, .int (0 : Int32)), (0, .ref a0)]) hx hb dX12_childMany_3 rfl hl (by decide) rfl (fun ls hl => ?_)
  obtain ⟨x5, hx5, hhx5⟩ := bnd h
  clear h
  refine w_X12_childMany_4 l X hRL hcs BIG a0 (0 : Int32) (0 : Int32) μ x5 hx5 (fun H locs ls hH hl => ?_) _ _ _ hH (lv_sub hl [2, 1, 0] rfl)
  · have h := hhx5
    clear hhx5
    refine lv_iload_n hx hb dX12_childMany_34 rfl (lv_at hl 0 rfl) ?_
    exact eIp X hH h hr dX12_childMany_35
theorem t_X12_roundBy {μ : Mm} {a0 : Nat} {p1 : Int32} {x : Int32} (h : f_X12_roundBy μ a0 p1 = some x) : tg μ a0 = 13 := by
  unfold f_X12_roundBy at h
  exact (gsn h).1
set_option maxHeartbeats 4000000 in
set_option maxRecDepth 100000 in
theorem c_X12_roundBy (l : Launch) (G : CG) (μ : Mm) (a0 : Nat) (p1 : Int32) (x : Int32) (h : f_X12_roundBy μ a0 p1 = some x) : Met l yX12_roundBy (.code yX12_roundBy cX12_roundBy 3 (some .int) :: UW) (rmk 2 0 0) (PC G [.ref a0, .int p1] μ) (QI G x μ) 0 0 (fA G) := by
  refine Met.ofW (cc := cX12_roundBy) (maxL := 3) (ret := (some .int)) (by decide) rfl ?_
  intro p e s m args below meth c s₁ B hml hv
  obtain ⟨X, hH, hr, rfl, hnm⟩ := cx_in B hml hv
  have X : Cx p s m _ meth c cX12_roundBy 3 RX12 G := X
  have hx := X.1
  have hb := X.2.1
  have hown := X.2.2.2.1
  have hts := X.2.2.2.2.1
  have hRL : RmL (rmk 2 0 0) 2 := ⟨Nat.le_refl _, Nat.le_refl _⟩
  have hcs : 0 ≤ (rmk 0 0 0).cells ∧ 0 ≤ (rmk 0 0 0).slots := ⟨Nat.zero_le _, Nat.zero_le _⟩
  refine ls_in (Nat.le_of_ble_eq_true rfl) (fun ls hl => ?_)
  have hl : lv_has ls 3 [(0, .ref a0), (1, .int p1)] := hl
  unfold f_X12_roundBy at h
  obtain ⟨htg, h⟩ := gsn h
  refine lv_aload_n hx hb dX12_roundBy_0 rfl (lv_at hl 0 rfl) ?_
  refine lv_iload_n hx hb dX12_roundBy_1 rfl (lv_at hl 1 rfl) ?_
  obtain ⟨x1, hx1, h⟩ := bnd h
  refine iv_X12_183 l X hH hRL (by decide) hx1 hl.1 (Nat.le_of_ble_eq_true rfl) dX12_roundBy_2 hcs (fun H locs hH => ?_)
  refine lv_istore_n (lv' := [(2, .int x1), (0, .ref a0), (1, .int p1)]) hx hb dX12_roundBy_5 rfl hl (by decide) rfl (fun ls hl => ?_)
  refine lv_iload_n hx hb dX12_roundBy_6 rfl (lv_at hl 0 rfl) ?_
  refine lv_if_ne (tgt := 15) hx hb dX12_roundBy_7 (by decide) (fun hc2 => ?_) (fun hc2 => ?_)
  · replace h := iff' h hc2
    refine lv_aload_n hx hb dX12_roundBy_15 rfl (lv_at hl 1 rfl) ?_
    obtain ⟨x3, hx3, h⟩ := bnd h
    refine gf_X12_171 X hH hx3 dX12_roundBy_16 ?_
    refine lv_iload_n hx hb dX12_roundBy_19 rfl (lv_at hl 0 rfl) ?_
    refine lv_iadd hx hb dX12_roundBy_20 ?_
    refine lv_iconst (v := 1) hx hb dX12_roundBy_21 (by decide) ?_
    refine lv_isub hx hb dX12_roundBy_22 ?_
    refine lv_iload_n hx hb dX12_roundBy_23 rfl (lv_at hl 0 rfl) ?_
    obtain ⟨hd4, h⟩ := gsf h
    refine lv_idiv hx hb dX12_roundBy_24 hd4 ?_
    exact eIp X hH h hr dX12_roundBy_25
  · replace h := ift h hc2
    refine lv_bipush (v := -9) hx hb dX12_roundBy_10 (by decide) ?_
    refine lv_goto (tgt := 25) hx hb dX12_roundBy_12 (by decide) ?_
    exact eIp X hH h hr dX12_roundBy_25
set_option maxHeartbeats 1000000 in
theorem iv_X12_198 {p : Program} {e : Env} {R : Room} {s : State} {m : MethodId} {args : Array Value} {below : List Frame} {meth : Method} {c : Code} {H : Heap} {locs : List Loc} {cells slots : Nat} {Q : State → Prop} {cc : ByteArray} {pc : Nat} {ls : Array Slot} {rest : List Value} {nL : Nat} {G : CG} {μ : Mm} {a : Nat}  {x : Int32} {k : Nat} (l : Launch) (X : Cx p s m args meth c cc nL RX12 G) (hH : HS G s μ H locs) (hRL : RmL R k) (hk : 2 + 1 ≤ k) (h : f_X12_childMany μ a = some x) (hls : ls.size = nL) (hroom : (rest.map fun v => v.category).sum ≤ 8) (hdg : decode cc pc = .ok (.invokevirtual 198, 3)) (hcs : cells + 0 ≤ R.cells ∧ slots + 0 ≤ R.slots) (kk : ∀ (H1 : Heap) (locs1 : List Loc), HS G s μ H1 locs1 → W p l e R s m args below meth c H1 locs1 cells slots Q (F0 m (pc + 3) ls (.int x :: rest))) : W p l e R s m args below meth c H locs cells slots Q (F0 m pc ls (.ref a :: rest)) := by
  refine kI hH (rV (As := []) (rest := rest) X hH (t_X12_childMany h) vc_12 (c_X12_childMany l G μ a x h) (List.forall_mem_cons.mpr ⟨u_1247, (List.forall_mem_cons.mpr ⟨u_1249, (List.forall_mem_cons.mpr ⟨u_37, (List.forall_mem_cons.mpr ⟨u_68, (fun _ h9 => absurd h9 List.not_mem_nil)⟩)⟩)⟩)⟩) u_1250 (rmo hRL (Nat.le_trans (by decide) hk) (by decide)) ddV_X12_childMany rfl hls rfl hroom hdg hcs) kk
set_option maxHeartbeats 1000000 in
theorem iv_X12_202 {p : Program} {e : Env} {R : Room} {s : State} {m : MethodId} {args : Array Value} {below : List Frame} {meth : Method} {c : Code} {H : Heap} {locs : List Loc} {cells slots : Nat} {Q : State → Prop} {cc : ByteArray} {pc : Nat} {ls : Array Slot} {rest : List Value} {nL : Nat} {G : CG} {μ : Mm} {a : Nat}  {x : Int32} {k : Nat} (l : Launch) (X : Cx p s m args meth c cc nL RX12 G) (hH : HS G s μ H locs) (hRL : RmL R k) (hk : 3 + 1 ≤ k) (h : f_X12_idle μ a = some x) (hls : ls.size = nL) (hroom : (rest.map fun v => v.category).sum ≤ 8) (hdg : decode cc pc = .ok (.invokevirtual 202, 3)) (hcs : cells + 0 ≤ R.cells ∧ slots + 0 ≤ R.slots) (kk : ∀ (H1 : Heap) (locs1 : List Loc), HS G s μ H1 locs1 → W p l e R s m args below meth c H1 locs1 cells slots Q (F0 m (pc + 3) ls (.int x :: rest))) : W p l e R s m args below meth c H locs cells slots Q (F0 m pc ls (.ref a :: rest)) := by
  refine kI hH (rV (As := []) (rest := rest) X hH (t_X12_idle h) vc_12 (c_X12_idle l G μ a x h) (List.forall_mem_cons.mpr ⟨u_1255, (List.forall_mem_cons.mpr ⟨u_1257, (List.forall_mem_cons.mpr ⟨u_39, (List.forall_mem_cons.mpr ⟨u_68, (fun _ h9 => absurd h9 List.not_mem_nil)⟩)⟩)⟩)⟩) u_1258 (rmo hRL (Nat.le_trans (by decide) hk) (by decide)) ddV_X12_idle rfl hls rfl hroom hdg hcs) kk
set_option maxHeartbeats 1000000 in
theorem iv_X12_205 {p : Program} {e : Env} {R : Room} {s : State} {m : MethodId} {args : Array Value} {below : List Frame} {meth : Method} {c : Code} {H : Heap} {locs : List Loc} {cells slots : Nat} {Q : State → Prop} {cc : ByteArray} {pc : Nat} {ls : Array Slot} {rest : List Value} {nL : Nat} {G : CG} {μ : Mm} {a : Nat} {q0 : Int32} {x : Int32} {k : Nat} (l : Launch) (X : Cx p s m args meth c cc nL RX12 G) (hH : HS G s μ H locs) (hRL : RmL R k) (hk : 2 + 1 ≤ k) (h : f_X12_roundBy μ a q0 = some x) (hls : ls.size = nL) (hroom : (rest.map fun v => v.category).sum ≤ 8) (hdg : decode cc pc = .ok (.invokevirtual 205, 3)) (hcs : cells + 0 ≤ R.cells ∧ slots + 0 ≤ R.slots) (kk : ∀ (H1 : Heap) (locs1 : List Loc), HS G s μ H1 locs1 → W p l e R s m args below meth c H1 locs1 cells slots Q (F0 m (pc + 3) ls (.int x :: rest))) : W p l e R s m args below meth c H locs cells slots Q (F0 m pc ls (.int q0 :: .ref a :: rest)) := by
  refine kI hH (rV (As := [.int q0]) (rest := rest) X hH (t_X12_roundBy h) vc_12 (c_X12_roundBy l G μ a q0 x h) (List.forall_mem_cons.mpr ⟨u_1259, (List.forall_mem_cons.mpr ⟨u_1261, (List.forall_mem_cons.mpr ⟨u_40, (List.forall_mem_cons.mpr ⟨u_68, (fun _ h9 => absurd h9 List.not_mem_nil)⟩)⟩)⟩)⟩) u_1262 (rmo hRL (Nat.le_trans (by decide) hk) (by decide)) ddV_X12_roundBy rfl hls rfl hroom hdg hcs) kk
theorem t_X12_mark {μ : Mm} {a0 : Nat} {p1 : Int32} {p2 : Int32} {x : Int32 × Mm} (h : f_X12_mark μ a0 p1 p2 = some x) : tg μ a0 = 13 := by
  unfold f_X12_mark at h
  exact (gsn h).1
set_option maxHeartbeats 4000000 in
set_option maxRecDepth 100000 in
theorem c_X12_mark (l : Launch) (G : CG) (μ : Mm) (a0 : Nat) (p1 : Int32) (p2 : Int32) (x : Int32 × Mm) (h : f_X12_mark μ a0 p1 p2 = some x) : Met l yX12_mark (.code yX12_mark cX12_mark 4 (some .int) :: UW) (rmk 4 0 0) (PC G [.ref a0, .int p1, .int p2] μ) (QI G x.1 x.2) 0 0 (fA G) := by
  refine Met.ofW (cc := cX12_mark) (maxL := 4) (ret := (some .int)) (by decide) rfl ?_
  intro p e s m args below meth c s₁ B hml hv
  obtain ⟨X, hH, hr, rfl, hnm⟩ := cx_in B hml hv
  have X : Cx p s m _ meth c cX12_mark 4 RX12 G := X
  have hx := X.1
  have hb := X.2.1
  have hown := X.2.2.2.1
  have hts := X.2.2.2.2.1
  have hRL : RmL (rmk 4 0 0) 4 := ⟨Nat.le_refl _, Nat.le_refl _⟩
  have hcs : 0 ≤ (rmk 0 0 0).cells ∧ 0 ≤ (rmk 0 0 0).slots := ⟨Nat.zero_le _, Nat.zero_le _⟩
  refine ls_in (Nat.le_of_ble_eq_true rfl) (fun ls hl => ?_)
  have hl : lv_has ls 4 [(0, .ref a0), (1, .int p1), (2, .int p2)] := hl
  unfold f_X12_mark at h
  obtain ⟨htg, h⟩ := gsn h
  refine lv_aload_n hx hb dX12_mark_0 rfl (lv_at hl 0 rfl) ?_
  refine lv_iload_n hx hb dX12_mark_1 rfl (lv_at hl 1 rfl) ?_
  obtain ⟨x1, hx1, h⟩ := bnd h
  refine iv_X12_189 l X hH hRL (by decide) hx1 hl.1 (Nat.le_of_ble_eq_true rfl) dX12_mark_2 hcs (fun H locs hH => ?_)
  refine lv_if_eq (tgt := 17) hx hb dX12_mark_5 (by decide) (fun hc2 => ?_) (fun hc2 => ?_)
  · replace h := ift h hc2
    refine lv_iconst (v := -1) hx hb dX12_mark_17 (by decide) ?_
    exact eI X hH h hr dX12_mark_18 (Nat.le_of_ble_eq_true rfl) (Nat.le_of_ble_eq_true rfl)
  · replace h := iff' h hc2
    refine lv_iload_n hx hb dX12_mark_8 rfl (lv_at hl 2 rfl) ?_
    refine lv_iconst (v := 1) hx hb dX12_mark_9 (by decide) ?_
    refine lv_iconst (v := 5) hx hb dX12_mark_10 (by decide) ?_
    obtain ⟨x3, hx3, h⟩ := bnd h
    refine iv_X12_96 l X hH hRL (by decide) hx3 hl.1 (Nat.le_of_ble_eq_true rfl) dX12_mark_11 hcs (fun H locs hH => ?_)
    refine lv_if_ne (tgt := 19) hx hb dX12_mark_14 (by decide) (fun hc4 => ?_) (fun hc4 => ?_)
    · replace h := iff' h hc4
      refine lv_aload_n hx hb dX12_mark_19 rfl (lv_at hl 0 rfl) ?_
      obtain ⟨x5, hx5, h⟩ := bnd h
      refine gf_X12_33 X hH hx5 dX12_mark_20 ?_
      refine lv_iload_n hx hb dX12_mark_23 rfl (lv_at hl 1 rfl) ?_
      obtain ⟨x6, hx6, h⟩ := bnd h
      refine w_aI X hH hx6 dX12_mark_24 ?_
      refine lv_istore_n (lv' := [(3, .int x6), (0, .ref a0), (1, .int p1), (2, .int p2)]) hx hb dX12_mark_25 rfl hl (by decide) rfl (fun ls hl => ?_)
      refine lv_iload_n hx hb dX12_mark_26 rfl (lv_at hl 0 rfl) ?_
      refine lv_iload_n hx hb dX12_mark_27 rfl (lv_at hl 3 rfl) ?_
      refine lv_icmp_eq (tgt := 57) hx hb dX12_mark_28 (by decide) (fun hc7 => ?_) (fun hc7 => ?_)
      · replace h := ift h hc7
        refine lv_iload_n hx hb dX12_mark_57 rfl (lv_at hl 3 rfl) ?_
        by_cases hc8 : p2 = (1 : Int32)
        · replace h := ift h hc8
          refine lv_tableIn (tgt := 88) (off := 30) hx hb dX12_mark_58 (by rw [hc8]; decide) (by rw [hc8]; decide) (by rw [hc8]; rfl) (by decide) ?_
          refine lv_aload_n hx hb dX12_mark_88 rfl (lv_at hl 1 rfl) ?_
          refine lv_iload_n hx hb dX12_mark_89 rfl (lv_at hl 2 rfl) ?_
          obtain ⟨x9, hx9, h⟩ := bnd h
          refine iv_X12_183 l X hH hRL (by decide) hx9 hl.1 (Nat.le_of_ble_eq_true rfl) dX12_mark_90 hcs (fun H locs hH => ?_)
          refine lv_aload_n hx hb dX12_mark_93 rfl (lv_at hl 1 rfl) ?_
          obtain ⟨x10, hx10, h⟩ := bnd h
          refine gf_X12_36 X hH hx10 dX12_mark_94 ?_
          refine lv_iload_n hx hb dX12_mark_97 rfl (lv_at hl 2 rfl) ?_
          obtain ⟨x11, hx11, h⟩ := bnd h
          refine w_aI X hH hx11 dX12_mark_98 ?_
          refine lv_isub hx hb dX12_mark_99 ?_
          exact eI X hH h hr dX12_mark_100 (Nat.le_of_ble_eq_true rfl) (Nat.le_of_ble_eq_true rfl)
        · replace h := iff' h hc8
          by_cases hc12 : p2 = (2 : Int32)
          · replace h := ift h hc12
            refine lv_tableIn (tgt := 101) (off := 43) hx hb dX12_mark_58 (by rw [hc12]; decide) (by rw [hc12]; decide) (by rw [hc12]; rfl) (by decide) ?_
            refine lv_aload_n hx hb dX12_mark_101 rfl (lv_at hl 1 rfl) ?_
            obtain ⟨x13, hx13, h⟩ := bnd h
            refine iv_X12_198 l X hH hRL (by decide) hx13 hl.1 (Nat.le_of_ble_eq_true rfl) dX12_mark_102 hcs (fun H locs hH => ?_)
            exact eI X hH h hr dX12_mark_105 (Nat.le_of_ble_eq_true rfl) (Nat.le_of_ble_eq_true rfl)
          · replace h := iff' h hc12
            by_cases hc14 : p2 = (3 : Int32)
            · replace h := ift h hc14
              refine lv_tableIn (tgt := 106) (off := 48) hx hb dX12_mark_58 (by rw [hc14]; decide) (by rw [hc14]; decide) (by rw [hc14]; rfl) (by decide) ?_
              refine lv_aload_n hx hb dX12_mark_106 rfl (lv_at hl 1 rfl) ?_
              obtain ⟨x15, hx15, h⟩ := bnd h
              refine iv_X12_202 l X hH hRL (by decide) hx15 hl.1 (Nat.le_of_ble_eq_true rfl) dX12_mark_107 hcs (fun H locs hH => ?_)
              exact eI X hH h hr dX12_mark_110 (Nat.le_of_ble_eq_true rfl) (Nat.le_of_ble_eq_true rfl)
            · replace h := iff' h hc14
              by_cases hc16 : p2 = (4 : Int32)
              · replace h := ift h hc16
                refine lv_tableIn (tgt := 111) (off := 53) hx hb dX12_mark_58 (by rw [hc16]; decide) (by rw [hc16]; decide) (by rw [hc16]; rfl) (by decide) ?_
                refine lv_aload_n hx hb dX12_mark_111 rfl (lv_at hl 1 rfl) ?_
                obtain ⟨x17, hx17, h⟩ := bnd h
                refine gf_X12_36 X hH hx17 dX12_mark_112 ?_
                refine lv_iload_n hx hb dX12_mark_115 rfl (lv_at hl 2 rfl) ?_
                obtain ⟨x18, hx18, h⟩ := bnd h
                refine w_aI X hH hx18 dX12_mark_116 ?_
                refine lv_iconst (v := 2) hx hb dX12_mark_117 (by decide) ?_
                refine lv_idiv hx hb dX12_mark_118 (by decide) ?_
                exact eI X hH h hr dX12_mark_119 (Nat.le_of_ble_eq_true rfl) (Nat.le_of_ble_eq_true rfl)
              · replace h := iff' h hc16
                have e1 : p2.toInt ≠ 1 := lv_neT hc8 (by decide)
                have e2 : p2.toInt ≠ 2 := lv_neT hc12 (by decide)
                have e3 : p2.toInt ≠ 3 := lv_neT hc14 (by decide)
                have e4 : p2.toInt ≠ 4 := lv_neT hc16 (by decide)
                refine lv_tableOut (tgt := 120) hx hb dX12_mark_58 (by omega) (by decide) ?_
                refine lv_aload_n hx hb dX12_mark_120 rfl (lv_at hl 1 rfl) ?_
                refine lv_iload_n hx hb dX12_mark_121 rfl (lv_at hl 2 rfl) ?_
                obtain ⟨x19, hx19, h⟩ := bnd h
                refine iv_X12_205 l X hH hRL (by decide) hx19 hl.1 (Nat.le_of_ble_eq_true rfl) dX12_mark_122 hcs (fun H locs hH => ?_)
                exact eI X hH h hr dX12_mark_125 (Nat.le_of_ble_eq_true rfl) (Nat.le_of_ble_eq_true rfl)
      · replace h := iff' h hc7
        refine lv_iload_n hx hb dX12_mark_31 rfl (lv_at hl 3 rfl) ?_
        refine lv_iconst (v := 1) hx hb dX12_mark_32 (by decide) ?_
        refine lv_icmp_ne (tgt := 41) hx hb dX12_mark_33 (by decide) (fun hc21 => ?_) (fun hc21 => ?_)
        · replace h := iff' h hc21
          refine lv_iload_n hx hb dX12_mark_41 rfl (lv_at hl 3 rfl) ?_
          refine lv_iconst (v := 2) hx hb dX12_mark_42 (by decide) ?_
          refine lv_icmp_ne (tgt := 51) hx hb dX12_mark_43 (by decide) (fun hc22 => ?_) (fun hc22 => ?_)
          · replace h := iff' h hc22
            refine lv_aload_n hx hb dX12_mark_51 rfl (lv_at hl 1 rfl) ?_
            refine lv_iconst (v := 3) hx hb dX12_mark_52 (by decide) ?_
            obtain ⟨x23, hx23, h⟩ := bnd h
            refine iv_X12_110 l X hH hRL (by decide) hx23 hl.1 (Nat.le_of_ble_eq_true rfl) dX12_mark_53 hcs (fun H locs hH => ?_)
            exact eI X hH h hr dX12_mark_56 (Nat.le_of_ble_eq_true rfl) (Nat.le_of_ble_eq_true rfl)
          · replace h := ift h hc22
            refine lv_iload_n hx hb dX12_mark_46 rfl (lv_at hl 0 rfl) ?_
            refine lv_iconst (v := 5) hx hb dX12_mark_47 (by decide) ?_
            refine lv_icmp_eq (tgt := 57) hx hb dX12_mark_48 (by decide) (fun hc24 => ?_) (fun hc24 => ?_)
            · replace h := ift h hc24
              refine lv_iload_n hx hb dX12_mark_57 rfl (lv_at hl 3 rfl) ?_
              by_cases hc25 : p2 = (1 : Int32)
              · replace h := ift h hc25
                refine lv_tableIn (tgt := 88) (off := 30) hx hb dX12_mark_58 (by rw [hc25]; decide) (by rw [hc25]; decide) (by rw [hc25]; rfl) (by decide) ?_
                refine lv_aload_n hx hb dX12_mark_88 rfl (lv_at hl 1 rfl) ?_
                refine lv_iload_n hx hb dX12_mark_89 rfl (lv_at hl 2 rfl) ?_
                obtain ⟨x26, hx26, h⟩ := bnd h
                refine iv_X12_183 l X hH hRL (by decide) hx26 hl.1 (Nat.le_of_ble_eq_true rfl) dX12_mark_90 hcs (fun H locs hH => ?_)
                refine lv_aload_n hx hb dX12_mark_93 rfl (lv_at hl 1 rfl) ?_
                obtain ⟨x27, hx27, h⟩ := bnd h
                refine gf_X12_36 X hH hx27 dX12_mark_94 ?_
                refine lv_iload_n hx hb dX12_mark_97 rfl (lv_at hl 2 rfl) ?_
                obtain ⟨x28, hx28, h⟩ := bnd h
                refine w_aI X hH hx28 dX12_mark_98 ?_
                refine lv_isub hx hb dX12_mark_99 ?_
                exact eI X hH h hr dX12_mark_100 (Nat.le_of_ble_eq_true rfl) (Nat.le_of_ble_eq_true rfl)
              · replace h := iff' h hc25
                by_cases hc29 : p2 = (2 : Int32)
                · replace h := ift h hc29
                  refine lv_tableIn (tgt := 101) (off := 43) hx hb dX12_mark_58 (by rw [hc29]; decide) (by rw [hc29]; decide) (by rw [hc29]; rfl) (by decide) ?_
                  refine lv_aload_n hx hb dX12_mark_101 rfl (lv_at hl 1 rfl) ?_
                  obtain ⟨x30, hx30, h⟩ := bnd h
                  refine iv_X12_198 l X hH hRL (by decide) hx30 hl.1 (Nat.le_of_ble_eq_true rfl) dX12_mark_102 hcs (fun H locs hH => ?_)
                  exact eI X hH h hr dX12_mark_105 (Nat.le_of_ble_eq_true rfl) (Nat.le_of_ble_eq_true rfl)
                · replace h := iff' h hc29
                  by_cases hc31 : p2 = (3 : Int32)
                  · replace h := ift h hc31
                    refine lv_tableIn (tgt := 106) (off := 48) hx hb dX12_mark_58 (by rw [hc31]; decide) (by rw [hc31]; decide) (by rw [hc31]; rfl) (by decide) ?_
                    refine lv_aload_n hx hb dX12_mark_106 rfl (lv_at hl 1 rfl) ?_
                    obtain ⟨x32, hx32, h⟩ := bnd h
                    refine iv_X12_202 l X hH hRL (by decide) hx32 hl.1 (Nat.le_of_ble_eq_true rfl) dX12_mark_107 hcs (fun H locs hH => ?_)
                    exact eI X hH h hr dX12_mark_110 (Nat.le_of_ble_eq_true rfl) (Nat.le_of_ble_eq_true rfl)
                  · replace h := iff' h hc31
                    by_cases hc33 : p2 = (4 : Int32)
                    · replace h := ift h hc33
                      refine lv_tableIn (tgt := 111) (off := 53) hx hb dX12_mark_58 (by rw [hc33]; decide) (by rw [hc33]; decide) (by rw [hc33]; rfl) (by decide) ?_
                      refine lv_aload_n hx hb dX12_mark_111 rfl (lv_at hl 1 rfl) ?_
                      obtain ⟨x34, hx34, h⟩ := bnd h
                      refine gf_X12_36 X hH hx34 dX12_mark_112 ?_
                      refine lv_iload_n hx hb dX12_mark_115 rfl (lv_at hl 2 rfl) ?_
                      obtain ⟨x35, hx35, h⟩ := bnd h
                      refine w_aI X hH hx35 dX12_mark_116 ?_
                      refine lv_iconst (v := 2) hx hb dX12_mark_117 (by decide) ?_
                      refine lv_idiv hx hb dX12_mark_118 (by decide) ?_
                      exact eI X hH h hr dX12_mark_119 (Nat.le_of_ble_eq_true rfl) (Nat.le_of_ble_eq_true rfl)
                    · replace h := iff' h hc33
                      have e1 : p2.toInt ≠ 1 := lv_neT hc25 (by decide)
                      have e2 : p2.toInt ≠ 2 := lv_neT hc29 (by decide)
                      have e3 : p2.toInt ≠ 3 := lv_neT hc31 (by decide)
                      have e4 : p2.toInt ≠ 4 := lv_neT hc33 (by decide)
                      refine lv_tableOut (tgt := 120) hx hb dX12_mark_58 (by omega) (by decide) ?_
                      refine lv_aload_n hx hb dX12_mark_120 rfl (lv_at hl 1 rfl) ?_
                      refine lv_iload_n hx hb dX12_mark_121 rfl (lv_at hl 2 rfl) ?_
                      obtain ⟨x36, hx36, h⟩ := bnd h
                      refine iv_X12_205 l X hH hRL (by decide) hx36 hl.1 (Nat.le_of_ble_eq_true rfl) dX12_mark_122 hcs (fun H locs hH => ?_)
                      exact eI X hH h hr dX12_mark_125 (Nat.le_of_ble_eq_true rfl) (Nat.le_of_ble_eq_true rfl)
            · replace h := iff' h hc24
              refine lv_aload_n hx hb dX12_mark_51 rfl (lv_at hl 1 rfl) ?_
              refine lv_iconst (v := 3) hx hb dX12_mark_52 (by decide) ?_
              obtain ⟨x38, hx38, h⟩ := bnd h
              refine iv_X12_110 l X hH hRL (by decide) hx38 hl.1 (Nat.le_of_ble_eq_true rfl) dX12_mark_53 hcs (fun H locs hH => ?_)
              exact eI X hH h hr dX12_mark_56 (Nat.le_of_ble_eq_true rfl) (Nat.le_of_ble_eq_true rfl)
        · replace h := ift h hc21
          refine lv_iload_n hx hb dX12_mark_36 rfl (lv_at hl 0 rfl) ?_
          refine lv_iconst (v := 4) hx hb dX12_mark_37 (by decide) ?_
          refine lv_icmp_eq (tgt := 57) hx hb dX12_mark_38 (by decide) (fun hc39 => ?_) (fun hc39 => ?_)
          · replace h := ift h hc39
            refine lv_iload_n hx hb dX12_mark_57 rfl (lv_at hl 3 rfl) ?_
            by_cases hc40 : p2 = (1 : Int32)
            · replace h := ift h hc40
              refine lv_tableIn (tgt := 88) (off := 30) hx hb dX12_mark_58 (by rw [hc40]; decide) (by rw [hc40]; decide) (by rw [hc40]; rfl) (by decide) ?_
              refine lv_aload_n hx hb dX12_mark_88 rfl (lv_at hl 1 rfl) ?_
              refine lv_iload_n hx hb dX12_mark_89 rfl (lv_at hl 2 rfl) ?_
              obtain ⟨x41, hx41, h⟩ := bnd h
              refine iv_X12_183 l X hH hRL (by decide) hx41 hl.1 (Nat.le_of_ble_eq_true rfl) dX12_mark_90 hcs (fun H locs hH => ?_)
              refine lv_aload_n hx hb dX12_mark_93 rfl (lv_at hl 1 rfl) ?_
              obtain ⟨x42, hx42, h⟩ := bnd h
              refine gf_X12_36 X hH hx42 dX12_mark_94 ?_
              refine lv_iload_n hx hb dX12_mark_97 rfl (lv_at hl 2 rfl) ?_
              obtain ⟨x43, hx43, h⟩ := bnd h
              refine w_aI X hH hx43 dX12_mark_98 ?_
              refine lv_isub hx hb dX12_mark_99 ?_
              exact eI X hH h hr dX12_mark_100 (Nat.le_of_ble_eq_true rfl) (Nat.le_of_ble_eq_true rfl)
            · replace h := iff' h hc40
              by_cases hc44 : p2 = (2 : Int32)
              · replace h := ift h hc44
                refine lv_tableIn (tgt := 101) (off := 43) hx hb dX12_mark_58 (by rw [hc44]; decide) (by rw [hc44]; decide) (by rw [hc44]; rfl) (by decide) ?_
                refine lv_aload_n hx hb dX12_mark_101 rfl (lv_at hl 1 rfl) ?_
                obtain ⟨x45, hx45, h⟩ := bnd h
                refine iv_X12_198 l X hH hRL (by decide) hx45 hl.1 (Nat.le_of_ble_eq_true rfl) dX12_mark_102 hcs (fun H locs hH => ?_)
                exact eI X hH h hr dX12_mark_105 (Nat.le_of_ble_eq_true rfl) (Nat.le_of_ble_eq_true rfl)
              · replace h := iff' h hc44
                by_cases hc46 : p2 = (3 : Int32)
                · replace h := ift h hc46
                  refine lv_tableIn (tgt := 106) (off := 48) hx hb dX12_mark_58 (by rw [hc46]; decide) (by rw [hc46]; decide) (by rw [hc46]; rfl) (by decide) ?_
                  refine lv_aload_n hx hb dX12_mark_106 rfl (lv_at hl 1 rfl) ?_
                  obtain ⟨x47, hx47, h⟩ := bnd h
                  refine iv_X12_202 l X hH hRL (by decide) hx47 hl.1 (Nat.le_of_ble_eq_true rfl) dX12_mark_107 hcs (fun H locs hH => ?_)
                  exact eI X hH h hr dX12_mark_110 (Nat.le_of_ble_eq_true rfl) (Nat.le_of_ble_eq_true rfl)
                · replace h := iff' h hc46
                  by_cases hc48 : p2 = (4 : Int32)
                  · replace h := ift h hc48
                    refine lv_tableIn (tgt := 111) (off := 53) hx hb dX12_mark_58 (by rw [hc48]; decide) (by rw [hc48]; decide) (by rw [hc48]; rfl) (by decide) ?_
                    refine lv_aload_n hx hb dX12_mark_111 rfl (lv_at hl 1 rfl) ?_
                    obtain ⟨x49, hx49, h⟩ := bnd h
                    refine gf_X12_36 X hH hx49 dX12_mark_112 ?_
                    refine lv_iload_n hx hb dX12_mark_115 rfl (lv_at hl 2 rfl) ?_
                    obtain ⟨x50, hx50, h⟩ := bnd h
                    refine w_aI X hH hx50 dX12_mark_116 ?_
                    refine lv_iconst (v := 2) hx hb dX12_mark_117 (by decide) ?_
                    refine lv_idiv hx hb dX12_mark_118 (by decide) ?_
                    exact eI X hH h hr dX12_mark_119 (Nat.le_of_ble_eq_true rfl) (Nat.le_of_ble_eq_true rfl)
                  · replace h := iff' h hc48
                    have e1 : p2.toInt ≠ 1 := lv_neT hc40 (by decide)
                    have e2 : p2.toInt ≠ 2 := lv_neT hc44 (by decide)
                    have e3 : p2.toInt ≠ 3 := lv_neT hc46 (by decide)
                    have e4 : p2.toInt ≠ 4 := lv_neT hc48 (by decide)
                    refine lv_tableOut (tgt := 120) hx hb dX12_mark_58 (by omega) (by decide) ?_
                    refine lv_aload_n hx hb dX12_mark_120 rfl (lv_at hl 1 rfl) ?_
                    refine lv_iload_n hx hb dX12_mark_121 rfl (lv_at hl 2 rfl) ?_
                    obtain ⟨x51, hx51, h⟩ := bnd h
                    refine iv_X12_205 l X hH hRL (by decide) hx51 hl.1 (Nat.le_of_ble_eq_true rfl) dX12_mark_122 hcs (fun H locs hH => ?_)
                    exact eI X hH h hr dX12_mark_125 (Nat.le_of_ble_eq_true rfl) (Nat.le_of_ble_eq_true rfl)
          · replace h := iff' h hc39
            refine lv_iload_n hx hb dX12_mark_41 rfl (lv_at hl 3 rfl) ?_
            refine lv_iconst (v := 2) hx hb dX12_mark_42 (by decide) ?_
            refine lv_icmp_ne (tgt := 51) hx hb dX12_mark_43 (by decide) (fun hc53 => ?_) (fun hc53 => ?_)
            · replace h := iff' h hc53
              refine lv_aload_n hx hb dX12_mark_51 rfl (lv_at hl 1 rfl) ?_
              refine lv_iconst (v := 3) hx hb dX12_mark_52 (by decide) ?_
              obtain ⟨x54, hx54, h⟩ := bnd h
              refine iv_X12_110 l X hH hRL (by decide) hx54 hl.1 (Nat.le_of_ble_eq_true rfl) dX12_mark_53 hcs (fun H locs hH => ?_)
              exact eI X hH h hr dX12_mark_56 (Nat.le_of_ble_eq_true rfl) (Nat.le_of_ble_eq_true rfl)
            · replace h := ift h hc53
              refine lv_iload_n hx hb dX12_mark_46 rfl (lv_at hl 0 rfl) ?_
              refine lv_iconst (v := 5) hx hb dX12_mark_47 (by decide) ?_
              refine lv_icmp_eq (tgt := 57) hx hb dX12_mark_48 (by decide) (fun hc55 => ?_) (fun hc55 => ?_)
              · replace h := ift h hc55
                refine lv_iload_n hx hb dX12_mark_57 rfl (lv_at hl 3 rfl) ?_
                by_cases hc56 : p2 = (1 : Int32)
                · replace h := ift h hc56
                  refine lv_tableIn (tgt := 88) (off := 30) hx hb dX12_mark_58 (by rw [hc56]; decide) (by rw [hc56]; decide) (by rw [hc56]; rfl) (by decide) ?_
                  refine lv_aload_n hx hb dX12_mark_88 rfl (lv_at hl 1 rfl) ?_
                  refine lv_iload_n hx hb dX12_mark_89 rfl (lv_at hl 2 rfl) ?_
                  obtain ⟨x57, hx57, h⟩ := bnd h
                  refine iv_X12_183 l X hH hRL (by decide) hx57 hl.1 (Nat.le_of_ble_eq_true rfl) dX12_mark_90 hcs (fun H locs hH => ?_)
                  refine lv_aload_n hx hb dX12_mark_93 rfl (lv_at hl 1 rfl) ?_
                  obtain ⟨x58, hx58, h⟩ := bnd h
                  refine gf_X12_36 X hH hx58 dX12_mark_94 ?_
                  refine lv_iload_n hx hb dX12_mark_97 rfl (lv_at hl 2 rfl) ?_
                  obtain ⟨x59, hx59, h⟩ := bnd h
                  refine w_aI X hH hx59 dX12_mark_98 ?_
                  refine lv_isub hx hb dX12_mark_99 ?_
                  exact eI X hH h hr dX12_mark_100 (Nat.le_of_ble_eq_true rfl) (Nat.le_of_ble_eq_true rfl)
                · replace h := iff' h hc56
                  by_cases hc60 : p2 = (2 : Int32)
                  · replace h := ift h hc60
                    refine lv_tableIn (tgt := 101) (off := 43) hx hb dX12_mark_58 (by rw [hc60]; decide) (by rw [hc60]; decide) (by rw [hc60]; rfl) (by decide) ?_
                    refine lv_aload_n hx hb dX12_mark_101 rfl (lv_at hl 1 rfl) ?_
                    obtain ⟨x61, hx61, h⟩ := bnd h
                    refine iv_X12_198 l X hH hRL (by decide) hx61 hl.1 (Nat.le_of_ble_eq_true rfl) dX12_mark_102 hcs (fun H locs hH => ?_)
                    exact eI X hH h hr dX12_mark_105 (Nat.le_of_ble_eq_true rfl) (Nat.le_of_ble_eq_true rfl)
                  · replace h := iff' h hc60
                    by_cases hc62 : p2 = (3 : Int32)
                    · replace h := ift h hc62
                      refine lv_tableIn (tgt := 106) (off := 48) hx hb dX12_mark_58 (by rw [hc62]; decide) (by rw [hc62]; decide) (by rw [hc62]; rfl) (by decide) ?_
                      refine lv_aload_n hx hb dX12_mark_106 rfl (lv_at hl 1 rfl) ?_
                      obtain ⟨x63, hx63, h⟩ := bnd h
                      refine iv_X12_202 l X hH hRL (by decide) hx63 hl.1 (Nat.le_of_ble_eq_true rfl) dX12_mark_107 hcs (fun H locs hH => ?_)
                      exact eI X hH h hr dX12_mark_110 (Nat.le_of_ble_eq_true rfl) (Nat.le_of_ble_eq_true rfl)
                    · replace h := iff' h hc62
                      by_cases hc64 : p2 = (4 : Int32)
                      · replace h := ift h hc64
                        refine lv_tableIn (tgt := 111) (off := 53) hx hb dX12_mark_58 (by rw [hc64]; decide) (by rw [hc64]; decide) (by rw [hc64]; rfl) (by decide) ?_
                        refine lv_aload_n hx hb dX12_mark_111 rfl (lv_at hl 1 rfl) ?_
                        obtain ⟨x65, hx65, h⟩ := bnd h
                        refine gf_X12_36 X hH hx65 dX12_mark_112 ?_
                        refine lv_iload_n hx hb dX12_mark_115 rfl (lv_at hl 2 rfl) ?_
                        obtain ⟨x66, hx66, h⟩ := bnd h
                        refine w_aI X hH hx66 dX12_mark_116 ?_
                        refine lv_iconst (v := 2) hx hb dX12_mark_117 (by decide) ?_
                        refine lv_idiv hx hb dX12_mark_118 (by decide) ?_
                        exact eI X hH h hr dX12_mark_119 (Nat.le_of_ble_eq_true rfl) (Nat.le_of_ble_eq_true rfl)
                      · replace h := iff' h hc64
                        have e1 : p2.toInt ≠ 1 := lv_neT hc56 (by decide)
                        have e2 : p2.toInt ≠ 2 := lv_neT hc60 (by decide)
                        have e3 : p2.toInt ≠ 3 := lv_neT hc62 (by decide)
                        have e4 : p2.toInt ≠ 4 := lv_neT hc64 (by decide)
                        refine lv_tableOut (tgt := 120) hx hb dX12_mark_58 (by omega) (by decide) ?_
                        refine lv_aload_n hx hb dX12_mark_120 rfl (lv_at hl 1 rfl) ?_
                        refine lv_iload_n hx hb dX12_mark_121 rfl (lv_at hl 2 rfl) ?_
                        obtain ⟨x67, hx67, h⟩ := bnd h
                        refine iv_X12_205 l X hH hRL (by decide) hx67 hl.1 (Nat.le_of_ble_eq_true rfl) dX12_mark_122 hcs (fun H locs hH => ?_)
                        exact eI X hH h hr dX12_mark_125 (Nat.le_of_ble_eq_true rfl) (Nat.le_of_ble_eq_true rfl)
              · replace h := iff' h hc55
                refine lv_aload_n hx hb dX12_mark_51 rfl (lv_at hl 1 rfl) ?_
                refine lv_iconst (v := 3) hx hb dX12_mark_52 (by decide) ?_
                obtain ⟨x69, hx69, h⟩ := bnd h
                refine iv_X12_110 l X hH hRL (by decide) hx69 hl.1 (Nat.le_of_ble_eq_true rfl) dX12_mark_53 hcs (fun H locs hH => ?_)
                exact eI X hH h hr dX12_mark_56 (Nat.le_of_ble_eq_true rfl) (Nat.le_of_ble_eq_true rfl)
    · replace h := ift h hc4
      refine lv_iconst (v := -1) hx hb dX12_mark_17 (by decide) ?_
      exact eI X hH h hr dX12_mark_18 (Nat.le_of_ble_eq_true rfl) (Nat.le_of_ble_eq_true rfl)
