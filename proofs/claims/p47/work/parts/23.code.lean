theorem t_X10_init {μ : Mm} {a0 : Nat} {x : Mm} (h : f_X10_init μ a0 = some x) : tg μ a0 = 11 := by
  unfold f_X10_init at h
  exact (gsn h).1
set_option maxHeartbeats 4000000 in
set_option maxRecDepth 100000 in
theorem c_X10_init (l : Launch) (G : CG) (μ : Mm) (a0 : Nat) (x : Mm) (h : f_X10_init μ a0 = some x) : Met l yX10_init (.code yX10_init cX10_init 1 none :: UW) (rmk 1 32 3 180) (PC G [.ref a0] μ) (QV G x) 3 180 (fA G) := by
  refine Met.ofW (cc := cX10_init) (maxL := 1) (ret := none) (by decide) rfl ?_
  intro p e s m args below meth c s₁ B hml hv
  obtain ⟨X, hH, hr, rfl, hnm⟩ := cx_in B hml hv
  have X : Cx p s m _ meth c cX10_init 1 RX10 G := X
  have hx := X.1
  have hb := X.2.1
  have hown := X.2.2.2.1
  have hts := X.2.2.2.2.1
  have hnm : meth.name = "<init>" := hnm
  have hRL : RmL (rmk 1 32 3 180) 1 32 := ⟨Nat.le_refl _, Nat.le_refl _⟩
  refine ls_in (Nat.le_of_ble_eq_true rfl) (fun ls hl => ?_)
  have hl : lv_has ls 1 [(0, .ref a0)] := hl
  unfold f_X10_init at h
  obtain ⟨htg, h⟩ := gsn h
  refine lv_aload_n hx hb dX10_init_0 rfl (lv_at hl 0 rfl) ?_
  refine w_oi X hRL (by decide) hl.1 u_232 u_40 u_41 (Nat.le_of_ble_eq_true rfl) dX10_init_1 ?_
  refine lv_aload_n hx hb dX10_init_4 rfl (lv_at hl 0 rfl) ?_
  refine lv_bipush (v := 60) hx hb dX10_init_5 (by decide) ?_
  obtain ⟨x1, hx1, h⟩ := bnd h
  refine w_na X hH (atype := .int) (k := 1) hx1 u_74 (by decide) rfl (fun n' h9 => Nat.le_trans (Nat.mul_le_mul_right _ h9) (by decide)) (ce_I _) (Nat.le_of_ble_eq_true rfl) (Nat.le_of_ble_eq_true rfl) dX10_init_7 (fun H hH => ?_)
  obtain ⟨x2, hx2, h⟩ := bnd h
  refine pf_X10_9 X hnm hH hx2 dX10_init_9 (fun H locs hH => ?_)
  refine lv_aload_n hx hb dX10_init_12 rfl (lv_at hl 0 rfl) ?_
  refine lv_bipush (v := 60) hx hb dX10_init_13 (by decide) ?_
  obtain ⟨x3, hx3, h⟩ := bnd h
  refine w_na X hH (atype := .long) (k := 2) hx3 u_243 (by decide) rfl (fun n' h9 => Nat.le_trans (Nat.mul_le_mul_right _ h9) (by decide)) (ce_J _) (Nat.le_of_ble_eq_true rfl) (Nat.le_of_ble_eq_true rfl) dX10_init_15 (fun H hH => ?_)
  obtain ⟨x4, hx4, h⟩ := bnd h
  refine pf_X10_15 X hnm hH hx4 dX10_init_17 (fun H locs hH => ?_)
  refine lv_aload_n hx hb dX10_init_20 rfl (lv_at hl 0 rfl) ?_
  refine lv_bipush (v := 60) hx hb dX10_init_21 (by decide) ?_
  obtain ⟨x5, hx5, h⟩ := bnd h
  refine w_na X hH (atype := .long) (k := 2) hx5 u_243 (by decide) rfl (fun n' h9 => Nat.le_trans (Nat.mul_le_mul_right _ h9) (by decide)) (ce_J _) (Nat.le_of_ble_eq_true rfl) (Nat.le_of_ble_eq_true rfl) dX10_init_23 (fun H hH => ?_)
  obtain ⟨x6, hx6, h⟩ := bnd h
  refine pf_X10_19 X hnm hH hx6 dX10_init_25 (fun H locs hH => ?_)
  exact eV X hH h hr dX10_init_28 (Nat.le_of_ble_eq_true rfl) (Nat.le_of_ble_eq_true rfl)
set_option maxHeartbeats 1000000 in
theorem iv_X10_49 {p : Program} {e : Env} {R : Room} {s : State} {m : MethodId} {args : Array Value} {below : List Frame} {meth : Method} {c : Code} {H : Heap} {locs : List Loc} {cells slots : Nat} {Q : State → Prop} {cc : ByteArray} {pc : Nat} {ls : Array Slot} {rest : List Value} {nL : Nat} {G : CG} {μ : Mm} {a : Nat} {q0 : Int32} {x : Int32} {k k2 : Nat} (l : Launch) (X : Cx p s m args meth c cc nL RX10 G) (hH : HS G s μ H locs) (hRL : RmL R k k2) (hk : 3 + 1 ≤ k ∧ 64 ≤ k2) (h : f_X3_wrap μ a q0 = some x) (hls : ls.size = nL) (hroom : (rest.map fun v => v.category).sum ≤ 8) (hdg : decode cc pc = .ok (.invokevirtual 49, 3)) (hcs : cells + 0 ≤ R.cells ∧ slots + 0 ≤ R.slots) (kk : ∀ (H1 : Heap) (locs1 : List Loc), HS G s μ H1 locs1 → W p l e R s m args below meth c H1 locs1 cells slots Q (F0 m (pc + 3) ls (.int x :: rest))) : W p l e R s m args below meth c H locs cells slots Q (F0 m pc ls (.int q0 :: .ref a :: rest)) := by
  refine kI hH (rV (As := [.int q0]) (rest := rest) X hH (t_X3_wrap h) vc_3 (c_X3_wrap l G μ a q0 x h) (List.forall_mem_cons.mpr ⟨u_763, (List.forall_mem_cons.mpr ⟨u_373, (List.forall_mem_cons.mpr ⟨u_374, (List.forall_mem_cons.mpr ⟨u_22, (fun _ h9 => absurd h9 List.not_mem_nil)⟩)⟩)⟩)⟩) u_375 (rmo hRL (Nat.le_trans (by decide) hk.1) (Nat.le_trans (by decide) hk.2)) ddV_X3_wrap rfl hls rfl hroom hdg hcs) kk
set_option maxHeartbeats 4000000 in
set_option maxRecDepth 100000 in
theorem w_X10_spread_6 {p : Program} {e : Env} {R : Room} {s : State} {m : MethodId} {args : Array Value} {below : List Frame} {meth : Method} {c : Code} {cells slots : Nat} {Q : State → Prop} {G : CG} (l : Launch) (X : Cx p s m args meth c cX10_spread 7 RX10 G) (hRL : RmL R 4 64) (hcs : cells ≤ R.cells ∧ slots ≤ R.slots) : ∀ (n : Nat) (v0 : Nat) (v1 : Nat) (v2 : Int32) (v3 : Int32) (v4 : Int32) (v5 : Int32) (μ : Mm) (x : Int32 × Mm), lp_X10_spread_6 n v0 v1 v2 v3 v4 v5 μ = some x → (∀ (H : Heap) (locs : List Loc) (ls : Array Slot), HS G s x.2 H locs → lv_has ls 7 [(4, .int x.1)] → W p l e R s m args below meth c H locs cells slots Q (F0 m 69 ls [])) → ∀ (H : Heap) (locs : List Loc) (ls : Array Slot), HS G s μ H locs → lv_has ls 7 [(0, .ref v0), (1, .ref v1), (2, .int v2), (3, .int v3), (4, .int v4), (5, .int v5)] → W p l e R s m args below meth c H locs cells slots Q (F0 m 6 ls []) := by
  have hx := X.1
  have hb := X.2.1
  have hown := X.2.2.2.1
  have hts := X.2.2.2.2.1
  intro n
  induction n with
  | zero =>
    intro v0 v1 v2 v3 v4 v5 μ x h
    rw [lp_X10_spread_6] at h
    cases h
  | succ n ih =>
    intro v0 v1 v2 v3 v4 v5 μ x h k0 H locs ls hH hl
    rw [lp_X10_spread_6] at h
    refine lv_iload hx hb dX10_spread_6 (lv_at hl 5 rfl) ?_
    refine lv_aload_n hx hb dX10_spread_8 rfl (lv_at hl 1 rfl) ?_
    obtain ⟨x1, hx1, h⟩ := bnd h
    refine gf_X10_46 X hH hx1 dX10_spread_9 ?_
    refine lv_icmp_ge (tgt := 69) hx hb dX10_spread_12 (by decide) (fun hc2 => ?_) (fun hc2 => ?_)
    · replace h := ift h hc2
      cases h
      exact k0 _ _ _ hH (lv_sub hl [4] rfl)
    · replace h := iff' h hc2
      refine lv_aload_n hx hb dX10_spread_15 rfl (lv_at hl 1 rfl) ?_
      refine lv_iload hx hb dX10_spread_16 (lv_at hl 5 rfl) ?_
      refine lv_iload_n hx hb dX10_spread_18 rfl (lv_at hl 2 rfl) ?_
      refine lv_iadd hx hb dX10_spread_19 ?_
      obtain ⟨x3, hx3, h⟩ := bnd h
      refine iv_X10_49 l X hH hRL (by decide) hx3 hl.1 (Nat.le_of_ble_eq_true rfl) dX10_spread_20 hcs (fun H locs hH => ?_)
      refine lv_istore (lv' := [(6, .int x3), (0, .ref v0), (1, .ref v1), (2, .int v2), (3, .int v3), (4, .int v4), (5, .int v5)]) hx hb dX10_spread_23 hl (by decide) rfl (fun ls hl => ?_)
      refine lv_aload_n hx hb dX10_spread_25 rfl (lv_at hl 1 rfl) ?_
      obtain ⟨x4, hx4, h⟩ := bnd h
      refine gf_X10_9 X hH hx4 dX10_spread_26 ?_
      refine lv_iload hx hb dX10_spread_29 (lv_at hl 6 rfl) ?_
      obtain ⟨x5, hx5, h⟩ := bnd h
      refine w_aI X hH hx5 dX10_spread_31 ?_
      refine lv_iload_n hx hb dX10_spread_32 rfl (lv_at hl 4 rfl) ?_
      refine lv_iadd hx hb dX10_spread_33 ?_
      refine lv_aload_n hx hb dX10_spread_34 rfl (lv_at hl 1 rfl) ?_
      obtain ⟨x6, hx6, h⟩ := bnd h
      refine gf_X10_9 X hH hx6 dX10_spread_35 ?_
      refine lv_iload hx hb dX10_spread_38 (lv_at hl 0 rfl) ?_
      obtain ⟨x7, hx7, h⟩ := bnd h
      refine w_aI X hH hx7 dX10_spread_40 ?_
      refine lv_icmp_ge (tgt := 63) hx hb dX10_spread_41 (by decide) (fun hc8 => ?_) (fun hc8 => ?_)
      · replace h := ift h hc8
        refine lv_iinc (v := (v5 + 1)) (lv' := [(5, .int (v5 + 1)), (6, .int x3), (0, .ref v0), (1, .ref v1), (2, .int v2), (3, .int v3), (4, .int v4)]) hx hb dX10_spread_63 hl (k := 6) rfl rfl (by decide) rfl (fun ls hl => ?_)
        refine lv_goto (tgt := 6) hx hb dX10_spread_66 (by decide) ?_
        exact ih _ _ _ _ _ _ _ _ h k0 _ _ _ hH (lv_sub hl [2, 3, 4, 5, 6, 0] rfl)
      · replace h := iff' h hc8
        refine lv_aload_n hx hb dX10_spread_44 rfl (lv_at hl 1 rfl) ?_
        obtain ⟨x9, hx9, h⟩ := bnd h
        refine gf_X10_9 X hH hx9 dX10_spread_45 ?_
        refine lv_iload hx hb dX10_spread_48 (lv_at hl 0 rfl) ?_
        refine lv_aload_n hx hb dX10_spread_50 rfl (lv_at hl 1 rfl) ?_
        obtain ⟨x10, hx10, h⟩ := bnd h
        refine gf_X10_9 X hH hx10 dX10_spread_51 ?_
        refine lv_iload hx hb dX10_spread_54 (lv_at hl 6 rfl) ?_
        obtain ⟨x11, hx11, h⟩ := bnd h
        refine w_aI X hH hx11 dX10_spread_56 ?_
        refine lv_iload_n hx hb dX10_spread_57 rfl (lv_at hl 4 rfl) ?_
        refine lv_iadd hx hb dX10_spread_58 ?_
        obtain ⟨x12, hx12, h⟩ := bnd h
        refine w_qI X hH hx12 dX10_spread_59 (fun H locs hH => ?_)
        refine lv_iconst (v := 1) hx hb dX10_spread_60 (by decide) ?_
        refine lv_istore (lv' := [(4, .int (1 : Int32)), (6, .int x3), (0, .ref v0), (1, .ref v1), (2, .int v2), (3, .int v3), (5, .int v5)]) hx hb dX10_spread_61 hl (by decide) rfl (fun ls hl => ?_)
        refine lv_iinc (v := (v5 + 1)) (lv' := [(5, .int (v5 + 1)), (4, .int (1 : Int32)), (6, .int x3), (0, .ref v0), (1, .ref v1), (2, .int v2), (3, .int v3)]) hx hb dX10_spread_63 hl (k := 6) rfl rfl (by decide) rfl (fun ls hl => ?_)
        refine lv_goto (tgt := 6) hx hb dX10_spread_66 (by decide) ?_
        exact ih _ _ _ _ _ _ _ _ h k0 _ _ _ hH (lv_sub hl [3, 4, 5, 6, 1, 0] rfl)
theorem t_X10_spread {μ : Mm} {a0 : Nat} {p1 : Nat} {p2 : Int32} {p3 : Int32} {x : Int32 × Mm} (h : f_X10_spread μ a0 p1 p2 p3 = some x) : tg μ a0 = 11 := by
  unfold f_X10_spread at h
  exact (gsn h).1
set_option maxHeartbeats 4000000 in
set_option maxRecDepth 100000 in
theorem c_X10_spread (l : Launch) (G : CG) (μ : Mm) (a0 : Nat) (p1 : Nat) (p2 : Int32) (p3 : Int32) (x : Int32 × Mm) (h : f_X10_spread μ a0 p1 p2 p3 = some x) : Met l yX10_spread (.code yX10_spread cX10_spread 7 (some .boolean) :: UW) (rmk 4 64 0 0) (PC G [.ref a0, .ref p1, .int p2, .int p3] μ) (QI G x.1 x.2) 0 0 (fA G) := by
  refine Met.ofW (cc := cX10_spread) (maxL := 7) (ret := (some .boolean)) (by decide) rfl ?_
  intro p e s m args below meth c s₁ B hml hv
  obtain ⟨X, hH, hr, rfl, hnm⟩ := cx_in B hml hv
  have X : Cx p s m _ meth c cX10_spread 7 RX10 G := X
  have hx := X.1
  have hb := X.2.1
  have hown := X.2.2.2.1
  have hts := X.2.2.2.2.1
  have hRL : RmL (rmk 4 64 0 0) 4 64 := ⟨Nat.le_refl _, Nat.le_refl _⟩
  have hcs : 0 ≤ (rmk 0 0 0 0).cells ∧ 0 ≤ (rmk 0 0 0 0).slots := ⟨Nat.zero_le _, Nat.zero_le _⟩
  refine ls_in (Nat.le_of_ble_eq_true rfl) (fun ls hl => ?_)
  have hl : lv_has ls 7 [(0, .ref a0), (1, .ref p1), (2, .int p2), (3, .int p3)] := hl
  unfold f_X10_spread at h
  obtain ⟨htg, h⟩ := gsn h
  refine lv_iconst (v := 0) hx hb dX10_spread_0 (by decide) ?_
  refine lv_istore (lv' := [(4, .int (0 : Int32)), (0, .ref a0), (1, .ref p1), (2, .int p2), (3, .int p3)]) hx hb dX10_spread_1 hl (by decide) rfl (fun ls hl => ?_)
  refine lv_iconst (v := 0) hx hb dX10_spread_3 (by decide) ?_
  refine lv_istore (lv' := [(5, .int (0 : Int32)), (4, .int (0 : Int32)), (0, .ref a0), (1, .ref p1), (2, .int p2), (3, .int p3)]) hx hb dX10_spread_4 hl (by decide) rfl (fun ls hl => ?_)
  obtain ⟨x13, hx13, hhx13⟩ := bnd h
  clear h
  refine w_X10_spread_6 l X hRL hcs BIG a0 p1 p2 p3 (0 : Int32) (0 : Int32) μ x13 hx13 (fun H locs ls hH hl => ?_) _ _ _ hH (lv_sub hl [2, 3, 4, 5, 1, 0] rfl)
  · have h := hhx13
    clear hhx13
    refine lv_iload hx hb dX10_spread_69 (lv_at hl 0 rfl) ?_
    obtain ⟨_, hzb, h⟩ := bnd h
    exact eZ X hH (gsm hzb).1 h hr dX10_spread_71 (Nat.le_of_ble_eq_true rfl) (Nat.le_of_ble_eq_true rfl)
set_option maxHeartbeats 1000000 in
theorem iv_X10_38 {p : Program} {e : Env} {R : Room} {s : State} {m : MethodId} {args : Array Value} {below : List Frame} {meth : Method} {c : Code} {H : Heap} {locs : List Loc} {cells slots : Nat} {Q : State → Prop} {cc : ByteArray} {pc : Nat} {ls : Array Slot} {rest : List Value} {nL : Nat} {G : CG} {μ : Mm} {a : Nat} {q0 : Int32} {x : Int32} {k k2 : Nat} (l : Launch) (X : Cx p s m args meth c cc nL RX10 G) (hH : HS G s μ H locs) (hRL : RmL R k k2) (hk : 4 + 1 ≤ k ∧ 82 ≤ k2) (h : f_X3_treadNow μ a q0 = some x) (hls : ls.size = nL) (hroom : (rest.map fun v => v.category).sum ≤ 8) (hdg : decode cc pc = .ok (.invokevirtual 38, 3)) (hcs : cells + 0 ≤ R.cells ∧ slots + 0 ≤ R.slots) (kk : ∀ (H1 : Heap) (locs1 : List Loc), HS G s μ H1 locs1 → W p l e R s m args below meth c H1 locs1 cells slots Q (F0 m (pc + 3) ls (.int x :: rest))) : W p l e R s m args below meth c H locs cells slots Q (F0 m pc ls (.int q0 :: .ref a :: rest)) := by
  refine kI hH (rV (As := [.int q0]) (rest := rest) X hH (t_X3_treadNow h) vc_3 (c_X3_treadNow l G μ a q0 x h) (List.forall_mem_cons.mpr ⟨u_758, (List.forall_mem_cons.mpr ⟨u_450, (List.forall_mem_cons.mpr ⟨u_451, (List.forall_mem_cons.mpr ⟨u_22, (fun _ h9 => absurd h9 List.not_mem_nil)⟩)⟩)⟩)⟩) u_452 (rmo hRL (Nat.le_trans (by decide) hk.1) (Nat.le_trans (by decide) hk.2)) ddV_X3_treadNow rfl hls rfl hroom hdg hcs) kk
set_option maxHeartbeats 1000000 in
theorem iv_X10_42 {p : Program} {e : Env} {R : Room} {s : State} {m : MethodId} {args : Array Value} {below : List Frame} {meth : Method} {c : Code} {H : Heap} {locs : List Loc} {cells slots : Nat} {Q : State → Prop} {cc : ByteArray} {pc : Nat} {ls : Array Slot} {rest : List Value} {nL : Nat} {G : CG} {μ : Mm} {a : Nat} {q0 : Nat} {q1 : Int32} {q2 : Int32} {x : Int32 × Mm} {k k2 : Nat} (l : Launch) (X : Cx p s m args meth c cc nL RX10 G) (hH : HS G s μ H locs) (hRL : RmL R k k2) (hk : 4 + 1 ≤ k ∧ 90 ≤ k2) (h : f_X10_spread μ a q0 q1 q2 = some x) (hls : ls.size = nL) (hroom : (rest.map fun v => v.category).sum ≤ 8) (hdg : decode cc pc = .ok (.invokevirtual 42, 3)) (hcs : cells + 0 ≤ R.cells ∧ slots + 0 ≤ R.slots) (kk : ∀ (H1 : Heap) (locs1 : List Loc), HS G s x.2 H1 locs1 → W p l e R s m args below meth c H1 locs1 cells slots Q (F0 m (pc + 3) ls (.int x.1 :: rest))) : W p l e R s m args below meth c H locs cells slots Q (F0 m pc ls (.int q2 :: .int q1 :: .ref q0 :: .ref a :: rest)) := by
  refine kI hH (rV (As := [.ref q0, .int q1, .int q2]) (rest := rest) X hH (t_X10_spread h) vc_10 (c_X10_spread l G μ a q0 q1 q2 x h) (List.forall_mem_cons.mpr ⟨u_759, (List.forall_mem_cons.mpr ⟨u_761, (List.forall_mem_cons.mpr ⟨u_17, (List.forall_mem_cons.mpr ⟨u_28, (fun _ h9 => absurd h9 List.not_mem_nil)⟩)⟩)⟩)⟩) u_762 (rmo hRL (Nat.le_trans (by decide) hk.1) (Nat.le_trans (by decide) hk.2)) ddV_X10_spread rfl hls rfl hroom hdg hcs) kk
set_option maxHeartbeats 4000000 in
set_option maxRecDepth 100000 in
theorem w_X10_findCosts_2 {p : Program} {e : Env} {R : Room} {s : State} {m : MethodId} {args : Array Value} {below : List Frame} {meth : Method} {c : Code} {cells slots : Nat} {Q : State → Prop} {G : CG} (l : Launch) (X : Cx p s m args meth c cX10_findCosts 7 RX10 G) (hRL : RmL R 5 90) (hcs : cells ≤ R.cells ∧ slots ≤ R.slots) : ∀ (n : Nat) (v0 : Nat) (v1 : Nat) (v2 : Int32) (v3 : Int32) (μ : Mm) (x : Mm), lp_X10_findCosts_2 n v0 v1 v2 v3 μ = some x → (∀ (H : Heap) (locs : List Loc) (ls : Array Slot), HS G s x H locs → lv_has ls 7 [(0, .ref v0), (1, .ref v1), (2, .int v2)] → W p l e R s m args below meth c H locs cells slots Q (F0 m 30 ls [])) → ∀ (H : Heap) (locs : List Loc) (ls : Array Slot), HS G s μ H locs → lv_has ls 7 [(0, .ref v0), (1, .ref v1), (2, .int v2), (3, .int v3)] → W p l e R s m args below meth c H locs cells slots Q (F0 m 2 ls []) := by
  have hx := X.1
  have hb := X.2.1
  have hown := X.2.2.2.1
  have hts := X.2.2.2.2.1
  intro n
  induction n with
  | zero =>
    intro v0 v1 v2 v3 μ x h
    rw [lp_X10_findCosts_2] at h
    cases h
  | succ n ih =>
    intro v0 v1 v2 v3 μ x h k0 H locs ls hH hl
    rw [lp_X10_findCosts_2] at h
    refine lv_iload_n hx hb dX10_findCosts_2 rfl (lv_at hl 3 rfl) ?_
    refine lv_bipush (v := 60) hx hb dX10_findCosts_3 (by decide) ?_
    refine lv_icmp_ge (tgt := 30) hx hb dX10_findCosts_5 (by decide) (fun hc1 => ?_) (fun hc1 => ?_)
    · replace h := ift h hc1
      cases h
      exact k0 _ _ _ hH (lv_sub hl [0, 1, 2] rfl)
    · replace h := iff' h hc1
      refine lv_aload_n hx hb dX10_findCosts_8 rfl (lv_at hl 0 rfl) ?_
      obtain ⟨x2, hx2, h⟩ := bnd h
      refine gf_X10_9 X hH hx2 dX10_findCosts_9 ?_
      refine lv_iload_n hx hb dX10_findCosts_12 rfl (lv_at hl 3 rfl) ?_
      refine lv_iload_n hx hb dX10_findCosts_13 rfl (lv_at hl 3 rfl) ?_
      refine lv_if_ne (tgt := 21) hx hb dX10_findCosts_14 (by decide) (fun hc3 => ?_) (fun hc3 => ?_)
      · replace h := iff' h hc3
        refine lv_ldc (v := 1000000) hx hb hown (hts _ u_757) dX10_findCosts_21 ?_
        obtain ⟨x4, hx4, h⟩ := bnd h
        refine w_qI X hH hx4 dX10_findCosts_23 (fun H locs hH => ?_)
        refine lv_iinc (v := (v3 + 1)) (lv' := [(3, .int (v3 + 1)), (0, .ref v0), (1, .ref v1), (2, .int v2)]) hx hb dX10_findCosts_24 hl (k := 3) rfl rfl (by decide) rfl (fun ls hl => ?_)
        refine lv_goto (tgt := 2) hx hb dX10_findCosts_27 (by decide) ?_
        exact ih _ _ _ _ _ _ h k0 _ _ _ hH (lv_sub hl [1, 2, 3, 0] rfl)
      · replace h := ift h hc3
        refine lv_iconst (v := 0) hx hb dX10_findCosts_17 (by decide) ?_
        refine lv_goto (tgt := 23) hx hb dX10_findCosts_18 (by decide) ?_
        obtain ⟨x5, hx5, h⟩ := bnd h
        refine w_qI X hH hx5 dX10_findCosts_23 (fun H locs hH => ?_)
        refine lv_iinc (v := (v3 + 1)) (lv' := [(3, .int (v3 + 1)), (0, .ref v0), (1, .ref v1), (2, .int v2)]) hx hb dX10_findCosts_24 hl (k := 3) rfl rfl (by decide) rfl (fun ls hl => ?_)
        refine lv_goto (tgt := 2) hx hb dX10_findCosts_27 (by decide) ?_
        exact ih _ _ _ _ _ _ h k0 _ _ _ hH (lv_sub hl [1, 2, 3, 0] rfl)
set_option maxHeartbeats 4000000 in
set_option maxRecDepth 100000 in
theorem w_X10_findCosts_51 {p : Program} {e : Env} {R : Room} {s : State} {m : MethodId} {args : Array Value} {below : List Frame} {meth : Method} {c : Code} {cells slots : Nat} {Q : State → Prop} {G : CG} (l : Launch) (X : Cx p s m args meth c cX10_findCosts 7 RX10 G) (hRL : RmL R 5 90) (hcs : cells ≤ R.cells ∧ slots ≤ R.slots) : ∀ (n : Nat) (v0 : Nat) (v1 : Nat) (v2 : Int32) (v3 : Int32) (v4 : Int32) (v5 : Int32) (μ : Mm) (x : Int32 × Mm), lp_X10_findCosts_51 n v0 v1 v2 v3 v4 v5 μ = some x → (∀ (H : Heap) (locs : List Loc) (ls : Array Slot), HS G s x.2 H locs → lv_has ls 7 [(0, .ref v0), (1, .ref v1), (2, .int v2), (3, .int x.1), (4, .int v4)] → W p l e R s m args below meth c H locs cells slots Q (F0 m 102 ls [])) → ∀ (H : Heap) (locs : List Loc) (ls : Array Slot), HS G s μ H locs → lv_has ls 7 [(0, .ref v0), (1, .ref v1), (2, .int v2), (3, .int v3), (4, .int v4), (5, .int v5)] → W p l e R s m args below meth c H locs cells slots Q (F0 m 51 ls []) := by
  have hx := X.1
  have hb := X.2.1
  have hown := X.2.2.2.1
  have hts := X.2.2.2.2.1
  intro n
  induction n with
  | zero =>
    intro v0 v1 v2 v3 v4 v5 μ x h
    rw [lp_X10_findCosts_51] at h
    cases h
  | succ n ih =>
    intro v0 v1 v2 v3 v4 v5 μ x h k0 H locs ls hH hl
    rw [lp_X10_findCosts_51] at h
    refine lv_iload hx hb dX10_findCosts_51 (lv_at hl 5 rfl) ?_
    refine lv_aload_n hx hb dX10_findCosts_53 rfl (lv_at hl 1 rfl) ?_
    obtain ⟨x9, hx9, h⟩ := bnd h
    refine gf_X10_23 X hH hx9 dX10_findCosts_54 ?_
    refine lv_icmp_ge (tgt := 102) hx hb dX10_findCosts_57 (by decide) (fun hc10 => ?_) (fun hc10 => ?_)
    · replace h := ift h hc10
      cases h
      exact k0 _ _ _ hH (lv_sub hl [0, 1, 2, 3, 4] rfl)
    · replace h := iff' h hc10
      refine lv_iload_n hx hb dX10_findCosts_60 rfl (lv_at hl 2 rfl) ?_
      obtain ⟨x11, hbx11, hx11⟩ := bnd h
      clear h
      refine jn_lem (G := G) (x := x11) (M := 78) (nL := 7) (fun x11 => μ) (fun x11 => [(0, .ref v0), (1, .ref v1), (2, .int v2), (3, .int v3), (4, .int v4), (5, .int v5)]) (fun x11 => [.int x11]) (fun H locs ls hH hl => ?_) (fun jnx11 => ?_)
      · have h := hx11
        clear hx11 hbx11
        refine lv_istore (lv' := [(6, .int x11), (0, .ref v0), (1, .ref v1), (2, .int v2), (3, .int v3), (4, .int v4), (5, .int v5)]) hx hb dX10_findCosts_78 hl (by decide) rfl (fun ls hl => ?_)
        refine lv_iload_n hx hb dX10_findCosts_80 rfl (lv_at hl 4 rfl) ?_
        refine lv_aload_n hx hb dX10_findCosts_81 rfl (lv_at hl 1 rfl) ?_
        refine lv_aload_n hx hb dX10_findCosts_82 rfl (lv_at hl 2 rfl) ?_
        refine lv_aload_n hx hb dX10_findCosts_83 rfl (lv_at hl 2 rfl) ?_
        refine lv_iload hx hb dX10_findCosts_84 (lv_at hl 6 rfl) ?_
        obtain ⟨x16, hx16, h⟩ := bnd h
        refine iv_X10_38 l X hH hRL (by decide) hx16 hl.1 (Nat.le_of_ble_eq_true rfl) dX10_findCosts_86 hcs (fun H locs hH => ?_)
        refine lv_iload hx hb dX10_findCosts_89 (lv_at hl 0 rfl) ?_
        obtain ⟨x17, hx17, h⟩ := bnd h
        refine iv_X10_42 l X hH hRL (by decide) hx17 hl.1 (Nat.le_of_ble_eq_true rfl) dX10_findCosts_91 hcs (fun H locs hH => ?_)
        refine lv_ior hx hb dX10_findCosts_94 ?_
        refine lv_istore_n (lv' := [(3, .int (v3 ||| x17.1)), (6, .int x11), (0, .ref v0), (1, .ref v1), (2, .int v2), (4, .int v4), (5, .int v5)]) hx hb dX10_findCosts_95 rfl hl (by decide) rfl (fun ls hl => ?_)
        refine lv_iinc (v := (v5 + 1)) (lv' := [(5, .int (v5 + 1)), (3, .int (v3 ||| x17.1)), (6, .int x11), (0, .ref v0), (1, .ref v1), (2, .int v2), (4, .int v4)]) hx hb dX10_findCosts_96 hl (k := 6) rfl rfl (by decide) rfl (fun ls hl => ?_)
        refine lv_goto (tgt := 51) hx hb dX10_findCosts_99 (by decide) ?_
        exact ih _ _ _ _ _ _ _ _ h k0 _ _ _ hH (lv_sub hl [3, 4, 5, 1, 6, 0] rfl)
      · have h := hbx11
        clear hx11 hbx11
        refine lv_if_eq (tgt := 77) hx hb dX10_findCosts_61 (by decide) (fun hc12 => ?_) (fun hc12 => ?_)
        · replace h := ift h hc12
          refine lv_iconst (v := 1) hx hb dX10_findCosts_77 (by decide) ?_
          cases h
          exact jnx11 _ _ _ hH (lv_sub hl [0, 1, 2, 3, 4, 5] rfl)
        · replace h := iff' h hc12
          refine lv_aload_n hx hb dX10_findCosts_64 rfl (lv_at hl 1 rfl) ?_
          obtain ⟨x13, hx13, h⟩ := bnd h
          refine gf_X10_29 X hH hx13 dX10_findCosts_65 ?_
          refine lv_iload hx hb dX10_findCosts_68 (lv_at hl 5 rfl) ?_
          obtain ⟨x14, hx14, h⟩ := bnd h
          refine w_aP X hH hx14 (by decide) (k := 4) rfl dX10_findCosts_70 ?_
          obtain ⟨x15, hx15, h⟩ := bnd h
          refine gf_X10_33 X hH hx15 dX10_findCosts_71 ?_
          refine lv_goto (tgt := 78) hx hb dX10_findCosts_74 (by decide) ?_
          cases h
          exact jnx11 _ _ _ hH (lv_sub hl [0, 1, 2, 3, 4, 5] rfl)
set_option maxHeartbeats 4000000 in
set_option maxRecDepth 100000 in
theorem w_X10_findCosts_35 {p : Program} {e : Env} {R : Room} {s : State} {m : MethodId} {args : Array Value} {below : List Frame} {meth : Method} {c : Code} {cells slots : Nat} {Q : State → Prop} {G : CG} (l : Launch) (X : Cx p s m args meth c cX10_findCosts 7 RX10 G) (hRL : RmL R 5 90) (hcs : cells ≤ R.cells ∧ slots ≤ R.slots) : ∀ (n : Nat) (v0 : Nat) (v1 : Nat) (v2 : Int32) (v3 : Int32) (v4 : Int32) (μ : Mm) (x : Mm), lp_X10_findCosts_35 n v0 v1 v2 v3 v4 μ = some x → (∀ (H : Heap) (locs : List Loc) (ls : Array Slot), HS G s x H locs → lv_has ls 7 [] → W p l e R s m args below meth c H locs cells slots Q (F0 m 108 ls [])) → ∀ (H : Heap) (locs : List Loc) (ls : Array Slot), HS G s μ H locs → lv_has ls 7 [(0, .ref v0), (1, .ref v1), (2, .int v2), (3, .int v3), (4, .int v4)] → W p l e R s m args below meth c H locs cells slots Q (F0 m 35 ls []) := by
  have hx := X.1
  have hb := X.2.1
  have hown := X.2.2.2.1
  have hts := X.2.2.2.2.1
  intro n
  induction n with
  | zero =>
    intro v0 v1 v2 v3 v4 μ x h
    rw [lp_X10_findCosts_35] at h
    cases h
  | succ n ih =>
    intro v0 v1 v2 v3 v4 μ x h k0 H locs ls hH hl
    rw [lp_X10_findCosts_35] at h
    refine lv_iload hx hb dX10_findCosts_35 (lv_at hl 4 rfl) ?_
    refine lv_bipush (v := 60) hx hb dX10_findCosts_37 (by decide) ?_
    refine lv_icmp_ge (tgt := 108) hx hb dX10_findCosts_39 (by decide) (fun hc7 => ?_) (fun hc7 => ?_)
    · replace h := ift h hc7
      cases h
      exact k0 _ _ _ hH (lv_sub hl [] rfl)
    · replace h := iff' h hc7
      refine lv_iload_n hx hb dX10_findCosts_42 rfl (lv_at hl 3 rfl) ?_
      refine lv_if_eq (tgt := 108) hx hb dX10_findCosts_43 (by decide) (fun hc8 => ?_) (fun hc8 => ?_)
      · replace h := ift h hc8
        cases h
        exact k0 _ _ _ hH (lv_sub hl [] rfl)
      · replace h := iff' h hc8
        refine lv_iconst (v := 0) hx hb dX10_findCosts_46 (by decide) ?_
        refine lv_istore_n (lv' := [(3, .int (0 : Int32)), (0, .ref v0), (1, .ref v1), (2, .int v2), (4, .int v4)]) hx hb dX10_findCosts_47 rfl hl (by decide) rfl (fun ls hl => ?_)
        refine lv_iconst (v := 0) hx hb dX10_findCosts_48 (by decide) ?_
        refine lv_istore (lv' := [(5, .int (0 : Int32)), (3, .int (0 : Int32)), (0, .ref v0), (1, .ref v1), (2, .int v2), (4, .int v4)]) hx hb dX10_findCosts_49 hl (by decide) rfl (fun ls hl => ?_)
        obtain ⟨x18, hx18, hhx18⟩ := bnd h
        clear h
        refine w_X10_findCosts_51 l X hRL hcs BIG v0 v1 v2 (0 : Int32) v4 (0 : Int32) μ x18 hx18 (fun H locs ls hH hl => ?_) _ _ _ hH (lv_sub hl [2, 3, 4, 1, 5, 0] rfl)
        · have h := hhx18
          clear hhx18
          refine lv_iinc (v := (v4 + 1)) (lv' := [(4, .int (v4 + 1)), (0, .ref v0), (1, .ref v1), (2, .int v2), (3, .int x18.1)]) hx hb dX10_findCosts_102 hl (k := 4) rfl rfl (by decide) rfl (fun ls hl => ?_)
          refine lv_goto (tgt := 35) hx hb dX10_findCosts_105 (by decide) ?_
          exact ih _ _ _ _ _ _ _ h k0 _ _ _ hH (lv_sub hl [1, 2, 3, 4, 0] rfl)
theorem t_X10_findCosts {μ : Mm} {a0 : Nat} {p1 : Nat} {p2 : Int32} {x : Mm} (h : f_X10_findCosts μ a0 p1 p2 = some x) : tg μ a0 = 11 := by
  unfold f_X10_findCosts at h
  exact (gsn h).1
set_option maxHeartbeats 4000000 in
set_option maxRecDepth 100000 in
theorem c_X10_findCosts (l : Launch) (G : CG) (μ : Mm) (a0 : Nat) (p1 : Nat) (p2 : Int32) (x : Mm) (h : f_X10_findCosts μ a0 p1 p2 = some x) : Met l yX10_findCosts (.code yX10_findCosts cX10_findCosts 7 none :: UW) (rmk 5 90 0 0) (PC G [.ref a0, .ref p1, .int p2] μ) (QV G x) 0 0 (fA G) := by
  refine Met.ofW (cc := cX10_findCosts) (maxL := 7) (ret := none) (by decide) rfl ?_
  intro p e s m args below meth c s₁ B hml hv
  obtain ⟨X, hH, hr, rfl, hnm⟩ := cx_in B hml hv
  have X : Cx p s m _ meth c cX10_findCosts 7 RX10 G := X
  have hx := X.1
  have hb := X.2.1
  have hown := X.2.2.2.1
  have hts := X.2.2.2.2.1
  have hRL : RmL (rmk 5 90 0 0) 5 90 := ⟨Nat.le_refl _, Nat.le_refl _⟩
  have hcs : 0 ≤ (rmk 0 0 0 0).cells ∧ 0 ≤ (rmk 0 0 0 0).slots := ⟨Nat.zero_le _, Nat.zero_le _⟩
  refine ls_in (Nat.le_of_ble_eq_true rfl) (fun ls hl => ?_)
  have hl : lv_has ls 7 [(0, .ref a0), (1, .ref p1), (2, .int p2)] := hl
  unfold f_X10_findCosts at h
  obtain ⟨htg, h⟩ := gsn h
  refine lv_iconst (v := 0) hx hb dX10_findCosts_0 (by decide) ?_
  refine lv_istore_n (lv' := [(3, .int (0 : Int32)), (0, .ref a0), (1, .ref p1), (2, .int p2)]) hx hb dX10_findCosts_1 rfl hl (by decide) rfl (fun ls hl => ?_)
  obtain ⟨x6, hx6, hhx6⟩ := bnd h
  clear h
  refine w_X10_findCosts_2 l X hRL hcs BIG a0 p1 p2 (0 : Int32) μ x6 hx6 (fun H locs ls hH hl => ?_) _ _ _ hH (lv_sub hl [1, 2, 3, 0] rfl)
  · have h := hhx6
    clear hhx6
    refine lv_iconst (v := 1) hx hb dX10_findCosts_30 (by decide) ?_
    refine lv_istore_n (lv' := [(3, .int (1 : Int32)), (0, .ref a0), (1, .ref p1), (2, .int p2)]) hx hb dX10_findCosts_31 rfl hl (by decide) rfl (fun ls hl => ?_)
    refine lv_iconst (v := 0) hx hb dX10_findCosts_32 (by decide) ?_
    refine lv_istore (lv' := [(4, .int (0 : Int32)), (3, .int (1 : Int32)), (0, .ref a0), (1, .ref p1), (2, .int p2)]) hx hb dX10_findCosts_33 hl (by decide) rfl (fun ls hl => ?_)
    obtain ⟨x19, hx19, hhx19⟩ := bnd h
    clear h
    refine w_X10_findCosts_35 l X hRL hcs BIG a0 p1 p2 (1 : Int32) (0 : Int32) x6 x19 hx19 (fun H locs ls hH hl => ?_) _ _ _ hH (lv_sub hl [2, 3, 4, 1, 0] rfl)
    · have h := hhx19
      clear hhx19
      exact eV X hH h hr dX10_findCosts_108 (Nat.le_of_ble_eq_true rfl) (Nat.le_of_ble_eq_true rfl)
theorem t_X10_costOf {μ : Mm} {a0 : Nat} {p1 : Int32} {x : Int32} (h : f_X10_costOf μ a0 p1 = some x) : tg μ a0 = 11 := by
  unfold f_X10_costOf at h
  exact (gsn h).1
set_option maxHeartbeats 4000000 in
set_option maxRecDepth 100000 in
theorem c_X10_costOf (l : Launch) (G : CG) (μ : Mm) (a0 : Nat) (p1 : Int32) (x : Int32) (h : f_X10_costOf μ a0 p1 = some x) : Met l yX10_costOf (.code yX10_costOf cX10_costOf 2 (some .int) :: UW) (rmk 1 0 0 0) (PC G [.ref a0, .int p1] μ) (QI G x μ) 0 0 (fA G) := by
  refine Met.ofW (cc := cX10_costOf) (maxL := 2) (ret := (some .int)) (by decide) rfl ?_
  intro p e s m args below meth c s₁ B hml hv
  obtain ⟨X, hH, hr, rfl, hnm⟩ := cx_in B hml hv
  have X : Cx p s m _ meth c cX10_costOf 2 RX10 G := X
  have hx := X.1
  have hb := X.2.1
  have hown := X.2.2.2.1
  have hts := X.2.2.2.2.1
  have hRL : RmL (rmk 1 0 0 0) 1 0 := ⟨Nat.le_refl _, Nat.le_refl _⟩
  have hcs : 0 ≤ (rmk 0 0 0 0).cells ∧ 0 ≤ (rmk 0 0 0 0).slots := ⟨Nat.zero_le _, Nat.zero_le _⟩
  refine ls_in (Nat.le_of_ble_eq_true rfl) (fun ls hl => ?_)
  have hl : lv_has ls 2 [(0, .ref a0), (1, .int p1)] := hl
  unfold f_X10_costOf at h
  obtain ⟨htg, h⟩ := gsn h
  refine lv_aload_n hx hb dX10_costOf_0 rfl (lv_at hl 0 rfl) ?_
  obtain ⟨x1, hx1, h⟩ := bnd h
  refine gf_X10_9 X hH hx1 dX10_costOf_1 ?_
  refine lv_iload_n hx hb dX10_costOf_4 rfl (lv_at hl 1 rfl) ?_
  obtain ⟨x2, hx2, h⟩ := bnd h
  refine w_aI X hH hx2 dX10_costOf_5 ?_
  refine lv_ldc (v := 1000000) hx hb hown (hts _ u_757) dX10_costOf_6 ?_
  refine lv_icmp_lt (tgt := 16) hx hb dX10_costOf_8 (by decide) (fun hc3 => ?_) (fun hc3 => ?_)
  · replace h := ift h hc3
    refine lv_aload_n hx hb dX10_costOf_16 rfl (lv_at hl 0 rfl) ?_
    obtain ⟨x4, hx4, h⟩ := bnd h
    refine gf_X10_9 X hH hx4 dX10_costOf_17 ?_
    refine lv_iload_n hx hb dX10_costOf_20 rfl (lv_at hl 1 rfl) ?_
    obtain ⟨x5, hx5, h⟩ := bnd h
    refine w_aI X hH hx5 dX10_costOf_21 ?_
    exact eIp X hH h hr dX10_costOf_22
  · replace h := iff' h hc3
    refine lv_bipush (v := -9) hx hb dX10_costOf_11 (by decide) ?_
    refine lv_goto (tgt := 22) hx hb dX10_costOf_13 (by decide) ?_
    exact eIp X hH h hr dX10_costOf_22
set_option maxHeartbeats 4000000 in
set_option maxRecDepth 100000 in
theorem w_X10_firstWalker_2 {p : Program} {e : Env} {R : Room} {s : State} {m : MethodId} {args : Array Value} {below : List Frame} {meth : Method} {c : Code} {cells slots : Nat} {Q : State → Prop} {G : CG} (l : Launch) (X : Cx p s m args meth c cX10_firstWalker 4 RX10 G) (hRL : RmL R 5 82) (hcs : cells ≤ R.cells ∧ slots ≤ R.slots) : ∀ (n : Nat) (v0 : Nat) (v1 : Nat) (v2 : Int32) (v3 : Int32) (μ : Mm) (x : Nat × Int32), lp_X10_firstWalker_2 n v0 v1 v2 v3 μ = some x → (∀ (H : Heap) (locs : List Loc) (ls : Array Slot), x.1 = 0 → HS G s μ H locs → lv_has ls 4 [(3, .int x.2)] → W p l e R s m args below meth c H locs cells slots Q (F0 m 37 ls [])) → (∀ (H : Heap) (locs : List Loc) (ls : Array Slot), x.1 = 1 → HS G s μ H locs → lv_has ls 4 [] → W p l e R s m args below meth c H locs cells slots Q (F0 m 45 ls [])) → ∀ (H : Heap) (locs : List Loc) (ls : Array Slot), HS G s μ H locs → lv_has ls 4 [(0, .ref v0), (1, .ref v1), (2, .int v2), (3, .int v3)] → W p l e R s m args below meth c H locs cells slots Q (F0 m 2 ls []) := by
  have hx := X.1
  have hb := X.2.1
  have hown := X.2.2.2.1
  have hts := X.2.2.2.2.1
  intro n
  induction n with
  | zero =>
    intro v0 v1 v2 v3 μ x h
    rw [lp_X10_firstWalker_2] at h
    cases h
  | succ n ih =>
    intro v0 v1 v2 v3 μ x h k0 k1 H locs ls hH hl
    rw [lp_X10_firstWalker_2] at h
    refine lv_iload_n hx hb dX10_firstWalker_2 rfl (lv_at hl 3 rfl) ?_
    refine lv_aload_n hx hb dX10_firstWalker_3 rfl (lv_at hl 1 rfl) ?_
    obtain ⟨x1, hx1, h⟩ := bnd h
    refine gf_X10_23 X hH hx1 dX10_firstWalker_4 ?_
    refine lv_icmp_ge (tgt := 45) hx hb dX10_firstWalker_7 (by decide) (fun hc2 => ?_) (fun hc2 => ?_)
    · replace h := ift h hc2
      cases h
      exact k1 _ _ _ rfl hH (lv_sub hl [] rfl)
    · replace h := iff' h hc2
      refine lv_aload_n hx hb dX10_firstWalker_10 rfl (lv_at hl 0 rfl) ?_
      obtain ⟨x3, hx3, h⟩ := bnd h
      refine gf_X10_9 X hH hx3 dX10_firstWalker_11 ?_
      refine lv_aload_n hx hb dX10_firstWalker_14 rfl (lv_at hl 1 rfl) ?_
      refine lv_iload_n hx hb dX10_firstWalker_15 rfl (lv_at hl 2 rfl) ?_
      refine lv_aload_n hx hb dX10_firstWalker_16 rfl (lv_at hl 1 rfl) ?_
      refine lv_iload_n hx hb dX10_firstWalker_17 rfl (lv_at hl 3 rfl) ?_
      obtain ⟨x4, hx4, h⟩ := bnd h
      refine iv_X10_38 l X hH hRL (by decide) hx4 hl.1 (Nat.le_of_ble_eq_true rfl) dX10_firstWalker_18 hcs (fun H locs hH => ?_)
      refine lv_isub hx hb dX10_firstWalker_21 ?_
      obtain ⟨x5, hx5, h⟩ := bnd h
      refine iv_X10_49 l X hH hRL (by decide) hx5 hl.1 (Nat.le_of_ble_eq_true rfl) dX10_firstWalker_22 hcs (fun H locs hH => ?_)
      obtain ⟨x6, hx6, h⟩ := bnd h
      refine w_aI X hH hx6 dX10_firstWalker_25 ?_
      refine lv_aload_n hx hb dX10_firstWalker_26 rfl (lv_at hl 0 rfl) ?_
      obtain ⟨x7, hx7, h⟩ := bnd h
      refine gf_X10_9 X hH hx7 dX10_firstWalker_27 ?_
      refine lv_iload_n hx hb dX10_firstWalker_30 rfl (lv_at hl 2 rfl) ?_
      obtain ⟨x8, hx8, h⟩ := bnd h
      refine w_aI X hH hx8 dX10_firstWalker_31 ?_
      refine lv_iconst (v := 1) hx hb dX10_firstWalker_32 (by decide) ?_
      refine lv_isub hx hb dX10_firstWalker_33 ?_
      refine lv_icmp_ne (tgt := 39) hx hb dX10_firstWalker_34 (by decide) (fun hc9 => ?_) (fun hc9 => ?_)
      · replace h := iff' h hc9
        refine lv_iinc (v := (v3 + 1)) (lv' := [(3, .int (v3 + 1)), (0, .ref v0), (1, .ref v1), (2, .int v2)]) hx hb dX10_firstWalker_39 hl (k := 3) rfl rfl (by decide) rfl (fun ls hl => ?_)
        refine lv_goto (tgt := 2) hx hb dX10_firstWalker_42 (by decide) ?_
        exact ih _ _ _ _ _ _ h k0 k1 _ _ _ hH (lv_sub hl [1, 2, 3, 0] rfl)
      · replace h := ift h hc9
        cases h
        exact k0 _ _ _ rfl hH (lv_sub hl [3] rfl)
theorem t_X10_firstWalker {μ : Mm} {a0 : Nat} {p1 : Nat} {p2 : Int32} {x : Int32} (h : f_X10_firstWalker μ a0 p1 p2 = some x) : tg μ a0 = 11 := by
  unfold f_X10_firstWalker at h
  exact (gsn h).1
set_option maxHeartbeats 4000000 in
set_option maxRecDepth 100000 in
theorem c_X10_firstWalker (l : Launch) (G : CG) (μ : Mm) (a0 : Nat) (p1 : Nat) (p2 : Int32) (x : Int32) (h : f_X10_firstWalker μ a0 p1 p2 = some x) : Met l yX10_firstWalker (.code yX10_firstWalker cX10_firstWalker 4 (some .int) :: UW) (rmk 5 82 0 0) (PC G [.ref a0, .ref p1, .int p2] μ) (QI G x μ) 0 0 (fA G) := by
  refine Met.ofW (cc := cX10_firstWalker) (maxL := 4) (ret := (some .int)) (by decide) rfl ?_
  intro p e s m args below meth c s₁ B hml hv
  obtain ⟨X, hH, hr, rfl, hnm⟩ := cx_in B hml hv
  have X : Cx p s m _ meth c cX10_firstWalker 4 RX10 G := X
  have hx := X.1
  have hb := X.2.1
  have hown := X.2.2.2.1
  have hts := X.2.2.2.2.1
  have hRL : RmL (rmk 5 82 0 0) 5 82 := ⟨Nat.le_refl _, Nat.le_refl _⟩
  have hcs : 0 ≤ (rmk 0 0 0 0).cells ∧ 0 ≤ (rmk 0 0 0 0).slots := ⟨Nat.zero_le _, Nat.zero_le _⟩
  refine ls_in (Nat.le_of_ble_eq_true rfl) (fun ls hl => ?_)
  have hl : lv_has ls 4 [(0, .ref a0), (1, .ref p1), (2, .int p2)] := hl
  unfold f_X10_firstWalker at h
  obtain ⟨htg, h⟩ := gsn h
  refine lv_iconst (v := 0) hx hb dX10_firstWalker_0 (by decide) ?_
  refine lv_istore_n (lv' := [(3, .int (0 : Int32)), (0, .ref a0), (1, .ref p1), (2, .int p2)]) hx hb dX10_firstWalker_1 rfl hl (by decide) rfl (fun ls hl => ?_)
  obtain ⟨x10, hx10, hhx10⟩ := bnd h
  clear h
  refine w_X10_firstWalker_2 l X hRL hcs BIG a0 p1 p2 (0 : Int32) μ x10 hx10 (fun H locs ls hj hH hl => ?_) (fun H locs ls hj hH hl => ?_) _ _ _ hH (lv_sub hl [1, 2, 3, 0] rfl)
  · have h := hhx10
    clear hhx10
    replace h := ift h hj
    refine lv_iload_n hx hb dX10_firstWalker_37 rfl (lv_at hl 0 rfl) ?_
    exact eIp X hH h hr dX10_firstWalker_38
  · have h := hhx10
    clear hhx10
    replace h := iff' h (by rw [hj]; decide)
    refine lv_bipush (v := -9) hx hb dX10_firstWalker_45 (by decide) ?_
    exact eIp X hH h hr dX10_firstWalker_47
set_option maxHeartbeats 4000000 in
set_option maxRecDepth 100000 in
theorem w_X10_countOneMore_2 {p : Program} {e : Env} {R : Room} {s : State} {m : MethodId} {args : Array Value} {below : List Frame} {meth : Method} {c : Code} {cells slots : Nat} {Q : State → Prop} {G : CG} (l : Launch) (X : Cx p s m args meth c cX10_countOneMore 5 RX10 G) (hRL : RmL R 5 82) (hcs : cells ≤ R.cells ∧ slots ≤ R.slots) : ∀ (n : Nat) (v0 : Nat) (v1 : Nat) (v2 : Int32) (μ : Mm) (x : Mm), lp_X10_countOneMore_2 n v0 v1 v2 μ = some x → (∀ (H : Heap) (locs : List Loc) (ls : Array Slot), HS G s x H locs → lv_has ls 5 [(0, .ref v0), (1, .ref v1)] → W p l e R s m args below meth c H locs cells slots Q (F0 m 33 ls [])) → ∀ (H : Heap) (locs : List Loc) (ls : Array Slot), HS G s μ H locs → lv_has ls 5 [(0, .ref v0), (1, .ref v1), (2, .int v2)] → W p l e R s m args below meth c H locs cells slots Q (F0 m 2 ls []) := by
  have hx := X.1
  have hb := X.2.1
  have hown := X.2.2.2.1
  have hts := X.2.2.2.2.1
  intro n
  induction n with
  | zero =>
    intro v0 v1 v2 μ x h
    rw [lp_X10_countOneMore_2] at h
    cases h
  | succ n ih =>
    intro v0 v1 v2 μ x h k0 H locs ls hH hl
    rw [lp_X10_countOneMore_2] at h
    refine lv_iload_n hx hb dX10_countOneMore_2 rfl (lv_at hl 2 rfl) ?_
    refine lv_bipush (v := 60) hx hb dX10_countOneMore_3 (by decide) ?_
    refine lv_icmp_ge (tgt := 33) hx hb dX10_countOneMore_5 (by decide) (fun hc1 => ?_) (fun hc1 => ?_)
    · replace h := ift h hc1
      cases h
      exact k0 _ _ _ hH (lv_sub hl [0, 1] rfl)
    · replace h := iff' h hc1
      refine lv_aload_n hx hb dX10_countOneMore_8 rfl (lv_at hl 0 rfl) ?_
      obtain ⟨x2, hx2, h⟩ := bnd h
      refine gf_X10_19 X hH hx2 dX10_countOneMore_9 ?_
      refine lv_iload_n hx hb dX10_countOneMore_12 rfl (lv_at hl 2 rfl) ?_
      refine lv_aload_n hx hb dX10_countOneMore_13 rfl (lv_at hl 0 rfl) ?_
      obtain ⟨x3, hx3, h⟩ := bnd h
      refine gf_X10_15 X hH hx3 dX10_countOneMore_14 ?_
      refine lv_iload_n hx hb dX10_countOneMore_17 rfl (lv_at hl 2 rfl) ?_
      obtain ⟨x4, hx4, h⟩ := bnd h
      refine w_aL X hH hx4 dX10_countOneMore_18 ?_
      obtain ⟨x5, hx5, h⟩ := bnd h
      refine w_qL X hH hx5 dX10_countOneMore_19 (fun H locs hH => ?_)
      refine lv_aload_n hx hb dX10_countOneMore_20 rfl (lv_at hl 0 rfl) ?_
      obtain ⟨x6, hx6, h⟩ := bnd h
      refine gf_X10_15 X hH hx6 dX10_countOneMore_21 ?_
      refine lv_iload_n hx hb dX10_countOneMore_24 rfl (lv_at hl 2 rfl) ?_
      refine lv_lconst (v := 0) hx hb dX10_countOneMore_25 (by decide) ?_
      obtain ⟨x7, hx7, h⟩ := bnd h
      refine w_qL X hH hx7 dX10_countOneMore_26 (fun H locs hH => ?_)
      refine lv_iinc (v := (v2 + 1)) (lv' := [(2, .int (v2 + 1)), (0, .ref v0), (1, .ref v1)]) hx hb dX10_countOneMore_27 hl (k := 2) rfl rfl (by decide) rfl (fun ls hl => ?_)
      refine lv_goto (tgt := 2) hx hb dX10_countOneMore_30 (by decide) ?_
      exact ih _ _ _ _ _ h k0 _ _ _ hH (lv_sub hl [1, 2, 0] rfl)
set_option maxHeartbeats 4000000 in
set_option maxRecDepth 100000 in
theorem w_X10_countOneMore_52 {p : Program} {e : Env} {R : Room} {s : State} {m : MethodId} {args : Array Value} {below : List Frame} {meth : Method} {c : Code} {cells slots : Nat} {Q : State → Prop} {G : CG} (l : Launch) (X : Cx p s m args meth c cX10_countOneMore 5 RX10 G) (hRL : RmL R 5 82) (hcs : cells ≤ R.cells ∧ slots ≤ R.slots) : ∀ (n : Nat) (v0 : Nat) (v1 : Nat) (v2 : Int32) (v3 : Int32) (v4 : Int32) (μ : Mm) (x : Mm), lp_X10_countOneMore_52 n v0 v1 v2 v3 v4 μ = some x → (∀ (H : Heap) (locs : List Loc) (ls : Array Slot), HS G s x H locs → lv_has ls 5 [(0, .ref v0), (1, .ref v1), (2, .int v2)] → W p l e R s m args below meth c H locs cells slots Q (F0 m 90 ls [])) → ∀ (H : Heap) (locs : List Loc) (ls : Array Slot), HS G s μ H locs → lv_has ls 5 [(0, .ref v0), (1, .ref v1), (2, .int v2), (3, .int v3), (4, .int v4)] → W p l e R s m args below meth c H locs cells slots Q (F0 m 52 ls []) := by
  have hx := X.1
  have hb := X.2.1
  have hown := X.2.2.2.1
  have hts := X.2.2.2.2.1
  intro n
  induction n with
  | zero =>
    intro v0 v1 v2 v3 v4 μ x h
    rw [lp_X10_countOneMore_52] at h
    cases h
  | succ n ih =>
    intro v0 v1 v2 v3 v4 μ x h k0 H locs ls hH hl
    rw [lp_X10_countOneMore_52] at h
    refine lv_iload hx hb dX10_countOneMore_52 (lv_at hl 4 rfl) ?_
    refine lv_aload_n hx hb dX10_countOneMore_54 rfl (lv_at hl 1 rfl) ?_
    obtain ⟨x12, hx12, h⟩ := bnd h
    refine gf_X10_46 X hH hx12 dX10_countOneMore_55 ?_
    refine lv_icmp_ge (tgt := 90) hx hb dX10_countOneMore_58 (by decide) (fun hc13 => ?_) (fun hc13 => ?_)
    · replace h := ift h hc13
      cases h
      exact k0 _ _ _ hH (lv_sub hl [0, 1, 2] rfl)
    · replace h := iff' h hc13
      refine lv_aload_n hx hb dX10_countOneMore_61 rfl (lv_at hl 0 rfl) ?_
      obtain ⟨x14, hx14, h⟩ := bnd h
      refine gf_X10_15 X hH hx14 dX10_countOneMore_62 ?_
      refine lv_aload_n hx hb dX10_countOneMore_65 rfl (lv_at hl 1 rfl) ?_
      refine lv_iload hx hb dX10_countOneMore_66 (lv_at hl 4 rfl) ?_
      refine lv_iload_n hx hb dX10_countOneMore_68 rfl (lv_at hl 3 rfl) ?_
      refine lv_iadd hx hb dX10_countOneMore_69 ?_
      obtain ⟨x15, hx15, h⟩ := bnd h
      refine iv_X10_49 l X hH hRL (by decide) hx15 hl.1 (Nat.le_of_ble_eq_true rfl) dX10_countOneMore_70 hcs (fun H locs hH => ?_)
      refine lv_dup2_11 hx hb dX10_countOneMore_73 rfl rfl ?_
      obtain ⟨x16, hx16, h⟩ := bnd h
      refine w_aL X hH hx16 dX10_countOneMore_74 ?_
      refine lv_aload_n hx hb dX10_countOneMore_75 rfl (lv_at hl 0 rfl) ?_
      obtain ⟨x17, hx17, h⟩ := bnd h
      refine gf_X10_19 X hH hx17 dX10_countOneMore_76 ?_
      refine lv_iload hx hb dX10_countOneMore_79 (lv_at hl 4 rfl) ?_
      obtain ⟨x18, hx18, h⟩ := bnd h
      refine w_aL X hH hx18 dX10_countOneMore_81 ?_
      refine lv_ladd hx hb dX10_countOneMore_82 ?_
      obtain ⟨x19, hx19, h⟩ := bnd h
      refine w_qL X hH hx19 dX10_countOneMore_83 (fun H locs hH => ?_)
      refine lv_iinc (v := (v4 + 1)) (lv' := [(4, .int (v4 + 1)), (0, .ref v0), (1, .ref v1), (2, .int v2), (3, .int v3)]) hx hb dX10_countOneMore_84 hl (k := 4) rfl rfl (by decide) rfl (fun ls hl => ?_)
      refine lv_goto (tgt := 52) hx hb dX10_countOneMore_87 (by decide) ?_
      exact ih _ _ _ _ _ _ _ h k0 _ _ _ hH (lv_sub hl [1, 2, 3, 4, 0] rfl)
set_option maxHeartbeats 4000000 in
set_option maxRecDepth 100000 in
theorem w_X10_countOneMore_35 {p : Program} {e : Env} {R : Room} {s : State} {m : MethodId} {args : Array Value} {below : List Frame} {meth : Method} {c : Code} {cells slots : Nat} {Q : State → Prop} {G : CG} (l : Launch) (X : Cx p s m args meth c cX10_countOneMore 5 RX10 G) (hRL : RmL R 5 82) (hcs : cells ≤ R.cells ∧ slots ≤ R.slots) : ∀ (n : Nat) (v0 : Nat) (v1 : Nat) (v2 : Int32) (μ : Mm) (x : Mm), lp_X10_countOneMore_35 n v0 v1 v2 μ = some x → (∀ (H : Heap) (locs : List Loc) (ls : Array Slot), HS G s x H locs → lv_has ls 5 [] → W p l e R s m args below meth c H locs cells slots Q (F0 m 96 ls [])) → ∀ (H : Heap) (locs : List Loc) (ls : Array Slot), HS G s μ H locs → lv_has ls 5 [(0, .ref v0), (1, .ref v1), (2, .int v2)] → W p l e R s m args below meth c H locs cells slots Q (F0 m 35 ls []) := by
  have hx := X.1
  have hb := X.2.1
  have hown := X.2.2.2.1
  have hts := X.2.2.2.2.1
  intro n
  induction n with
  | zero =>
    intro v0 v1 v2 μ x h
    rw [lp_X10_countOneMore_35] at h
    cases h
  | succ n ih =>
    intro v0 v1 v2 μ x h k0 H locs ls hH hl
    rw [lp_X10_countOneMore_35] at h
    refine lv_iload_n hx hb dX10_countOneMore_35 rfl (lv_at hl 2 rfl) ?_
    refine lv_aload_n hx hb dX10_countOneMore_36 rfl (lv_at hl 1 rfl) ?_
    obtain ⟨x9, hx9, h⟩ := bnd h
    refine gf_X10_23 X hH hx9 dX10_countOneMore_37 ?_
    refine lv_icmp_ge (tgt := 96) hx hb dX10_countOneMore_40 (by decide) (fun hc10 => ?_) (fun hc10 => ?_)
    · replace h := ift h hc10
      cases h
      exact k0 _ _ _ hH (lv_sub hl [] rfl)
    · replace h := iff' h hc10
      refine lv_aload_n hx hb dX10_countOneMore_43 rfl (lv_at hl 1 rfl) ?_
      refine lv_iload_n hx hb dX10_countOneMore_44 rfl (lv_at hl 2 rfl) ?_
      obtain ⟨x11, hx11, h⟩ := bnd h
      refine iv_X10_38 l X hH hRL (by decide) hx11 hl.1 (Nat.le_of_ble_eq_true rfl) dX10_countOneMore_45 hcs (fun H locs hH => ?_)
      refine lv_istore_n (lv' := [(3, .int x11), (0, .ref v0), (1, .ref v1), (2, .int v2)]) hx hb dX10_countOneMore_48 rfl hl (by decide) rfl (fun ls hl => ?_)
      refine lv_iconst (v := 0) hx hb dX10_countOneMore_49 (by decide) ?_
      refine lv_istore (lv' := [(4, .int (0 : Int32)), (3, .int x11), (0, .ref v0), (1, .ref v1), (2, .int v2)]) hx hb dX10_countOneMore_50 hl (by decide) rfl (fun ls hl => ?_)
      obtain ⟨x20, hx20, hhx20⟩ := bnd h
      clear h
      refine w_X10_countOneMore_52 l X hRL hcs BIG v0 v1 v2 x11 (0 : Int32) μ x20 hx20 (fun H locs ls hH hl => ?_) _ _ _ hH (lv_sub hl [2, 3, 4, 1, 0] rfl)
      · have h := hhx20
        clear hhx20
        refine lv_iinc (v := (v2 + 1)) (lv' := [(2, .int (v2 + 1)), (0, .ref v0), (1, .ref v1)]) hx hb dX10_countOneMore_90 hl (k := 2) rfl rfl (by decide) rfl (fun ls hl => ?_)
        refine lv_goto (tgt := 35) hx hb dX10_countOneMore_93 (by decide) ?_
        exact ih _ _ _ _ _ h k0 _ _ _ hH (lv_sub hl [1, 2, 0] rfl)
theorem t_X10_countOneMore {μ : Mm} {a0 : Nat} {p1 : Nat} {x : Mm} (h : f_X10_countOneMore μ a0 p1 = some x) : tg μ a0 = 11 := by
  unfold f_X10_countOneMore at h
  exact (gsn h).1
set_option maxHeartbeats 4000000 in
set_option maxRecDepth 100000 in
theorem c_X10_countOneMore (l : Launch) (G : CG) (μ : Mm) (a0 : Nat) (p1 : Nat) (x : Mm) (h : f_X10_countOneMore μ a0 p1 = some x) : Met l yX10_countOneMore (.code yX10_countOneMore cX10_countOneMore 5 none :: UW) (rmk 5 82 0 0) (PC G [.ref a0, .ref p1] μ) (QV G x) 0 0 (fA G) := by
  refine Met.ofW (cc := cX10_countOneMore) (maxL := 5) (ret := none) (by decide) rfl ?_
  intro p e s m args below meth c s₁ B hml hv
  obtain ⟨X, hH, hr, rfl, hnm⟩ := cx_in B hml hv
  have X : Cx p s m _ meth c cX10_countOneMore 5 RX10 G := X
  have hx := X.1
  have hb := X.2.1
  have hown := X.2.2.2.1
  have hts := X.2.2.2.2.1
  have hRL : RmL (rmk 5 82 0 0) 5 82 := ⟨Nat.le_refl _, Nat.le_refl _⟩
  have hcs : 0 ≤ (rmk 0 0 0 0).cells ∧ 0 ≤ (rmk 0 0 0 0).slots := ⟨Nat.zero_le _, Nat.zero_le _⟩
  refine ls_in (Nat.le_of_ble_eq_true rfl) (fun ls hl => ?_)
  have hl : lv_has ls 5 [(0, .ref a0), (1, .ref p1)] := hl
  unfold f_X10_countOneMore at h
  obtain ⟨htg, h⟩ := gsn h
  refine lv_iconst (v := 0) hx hb dX10_countOneMore_0 (by decide) ?_
  refine lv_istore_n (lv' := [(2, .int (0 : Int32)), (0, .ref a0), (1, .ref p1)]) hx hb dX10_countOneMore_1 rfl hl (by decide) rfl (fun ls hl => ?_)
  obtain ⟨x8, hx8, hhx8⟩ := bnd h
  clear h
  refine w_X10_countOneMore_2 l X hRL hcs BIG a0 p1 (0 : Int32) μ x8 hx8 (fun H locs ls hH hl => ?_) _ _ _ hH (lv_sub hl [1, 2, 0] rfl)
  · have h := hhx8
    clear hhx8
    refine lv_iconst (v := 0) hx hb dX10_countOneMore_33 (by decide) ?_
    refine lv_istore_n (lv' := [(2, .int (0 : Int32)), (0, .ref a0), (1, .ref p1)]) hx hb dX10_countOneMore_34 rfl hl (by decide) rfl (fun ls hl => ?_)
    obtain ⟨x21, hx21, hhx21⟩ := bnd h
    clear h
    refine w_X10_countOneMore_35 l X hRL hcs BIG a0 p1 (0 : Int32) x8 x21 hx21 (fun H locs ls hH hl => ?_) _ _ _ hH (lv_sub hl [1, 2, 0] rfl)
    · have h := hhx21
      clear hhx21
      exact eV X hH h hr dX10_countOneMore_96 (Nat.le_of_ble_eq_true rfl) (Nat.le_of_ble_eq_true rfl)
set_option maxHeartbeats 1000000 in
theorem iv_X10_52 {p : Program} {e : Env} {R : Room} {s : State} {m : MethodId} {args : Array Value} {below : List Frame} {meth : Method} {c : Code} {H : Heap} {locs : List Loc} {cells slots : Nat} {Q : State → Prop} {cc : ByteArray} {pc : Nat} {ls : Array Slot} {rest : List Value} {nL : Nat} {G : CG} {μ : Mm} {a : Nat} {q0 : Nat} {x : Mm} {k k2 : Nat} (l : Launch) (X : Cx p s m args meth c cc nL RX10 G) (hH : HS G s μ H locs) (hRL : RmL R k k2) (hk : 5 + 1 ≤ k ∧ 106 ≤ k2) (h : f_X10_countOneMore μ a q0 = some x) (hls : ls.size = nL) (hroom : (rest.map fun v => v.category).sum ≤ 8) (hdg : decode cc pc = .ok (.invokevirtual 52, 3)) (hcs : cells + 0 ≤ R.cells ∧ slots + 0 ≤ R.slots) (kk : ∀ (H1 : Heap) (locs1 : List Loc), HS G s x H1 locs1 → W p l e R s m args below meth c H1 locs1 cells slots Q (F0 m (pc + 3) ls rest)) : W p l e R s m args below meth c H locs cells slots Q (F0 m pc ls (.ref q0 :: .ref a :: rest)) := by
  refine kV0 hH (rV (As := [.ref q0]) (rest := rest) X hH (t_X10_countOneMore h) vc_10 (c_X10_countOneMore l G μ a q0 x h) (List.forall_mem_cons.mpr ⟨u_850, (List.forall_mem_cons.mpr ⟨u_852, (List.forall_mem_cons.mpr ⟨u_19, (List.forall_mem_cons.mpr ⟨u_28, (fun _ h9 => absurd h9 List.not_mem_nil)⟩)⟩)⟩)⟩) u_853 (rmo hRL (Nat.le_trans (by decide) hk.1) (Nat.le_trans (by decide) hk.2)) ddV_X10_countOneMore rfl hls rfl hroom hdg hcs) kk
set_option maxHeartbeats 4000000 in
set_option maxRecDepth 100000 in
theorem w_X10_countRows_2 {p : Program} {e : Env} {R : Room} {s : State} {m : MethodId} {args : Array Value} {below : List Frame} {meth : Method} {c : Code} {cells slots : Nat} {Q : State → Prop} {G : CG} (l : Launch) (X : Cx p s m args meth c cX10_countRows 4 RX10 G) (hRL : RmL R 6 106) (hcs : cells ≤ R.cells ∧ slots ≤ R.slots) : ∀ (n : Nat) (v0 : Nat) (v1 : Nat) (v2 : Int32) (v3 : Int32) (μ : Mm) (x : Mm), lp_X10_countRows_2 n v0 v1 v2 v3 μ = some x → (∀ (H : Heap) (locs : List Loc) (ls : Array Slot), HS G s x H locs → lv_has ls 4 [(0, .ref v0), (1, .ref v1), (2, .int v2)] → W p l e R s m args below meth c H locs cells slots Q (F0 m 29 ls [])) → ∀ (H : Heap) (locs : List Loc) (ls : Array Slot), HS G s μ H locs → lv_has ls 4 [(0, .ref v0), (1, .ref v1), (2, .int v2), (3, .int v3)] → W p l e R s m args below meth c H locs cells slots Q (F0 m 2 ls []) := by
  have hx := X.1
  have hb := X.2.1
  have hown := X.2.2.2.1
  have hts := X.2.2.2.2.1
  intro n
  induction n with
  | zero =>
    intro v0 v1 v2 v3 μ x h
    rw [lp_X10_countRows_2] at h
    cases h
  | succ n ih =>
    intro v0 v1 v2 v3 μ x h k0 H locs ls hH hl
    rw [lp_X10_countRows_2] at h
    refine lv_iload_n hx hb dX10_countRows_2 rfl (lv_at hl 3 rfl) ?_
    refine lv_bipush (v := 60) hx hb dX10_countRows_3 (by decide) ?_
    refine lv_icmp_ge (tgt := 29) hx hb dX10_countRows_5 (by decide) (fun hc1 => ?_) (fun hc1 => ?_)
    · replace h := ift h hc1
      cases h
      exact k0 _ _ _ hH (lv_sub hl [0, 1, 2] rfl)
    · replace h := iff' h hc1
      refine lv_aload_n hx hb dX10_countRows_8 rfl (lv_at hl 0 rfl) ?_
      obtain ⟨x2, hx2, h⟩ := bnd h
      refine gf_X10_15 X hH hx2 dX10_countRows_9 ?_
      refine lv_iload_n hx hb dX10_countRows_12 rfl (lv_at hl 3 rfl) ?_
      refine lv_iload_n hx hb dX10_countRows_13 rfl (lv_at hl 3 rfl) ?_
      refine lv_if_ne (tgt := 21) hx hb dX10_countRows_14 (by decide) (fun hc3 => ?_) (fun hc3 => ?_)
      · replace h := iff' h hc3
        refine lv_lconst (v := 0) hx hb dX10_countRows_21 (by decide) ?_
        obtain ⟨x4, hx4, h⟩ := bnd h
        refine w_qL X hH hx4 dX10_countRows_22 (fun H locs hH => ?_)
        refine lv_iinc (v := (v3 + 1)) (lv' := [(3, .int (v3 + 1)), (0, .ref v0), (1, .ref v1), (2, .int v2)]) hx hb dX10_countRows_23 hl (k := 3) rfl rfl (by decide) rfl (fun ls hl => ?_)
        refine lv_goto (tgt := 2) hx hb dX10_countRows_26 (by decide) ?_
        exact ih _ _ _ _ _ _ h k0 _ _ _ hH (lv_sub hl [1, 2, 3, 0] rfl)
      · replace h := ift h hc3
        refine lv_lconst (v := 1) hx hb dX10_countRows_17 (by decide) ?_
        refine lv_goto (tgt := 22) hx hb dX10_countRows_18 (by decide) ?_
        obtain ⟨x5, hx5, h⟩ := bnd h
        refine w_qL X hH hx5 dX10_countRows_22 (fun H locs hH => ?_)
        refine lv_iinc (v := (v3 + 1)) (lv' := [(3, .int (v3 + 1)), (0, .ref v0), (1, .ref v1), (2, .int v2)]) hx hb dX10_countRows_23 hl (k := 3) rfl rfl (by decide) rfl (fun ls hl => ?_)
        refine lv_goto (tgt := 2) hx hb dX10_countRows_26 (by decide) ?_
        exact ih _ _ _ _ _ _ h k0 _ _ _ hH (lv_sub hl [1, 2, 3, 0] rfl)
set_option maxHeartbeats 4000000 in
set_option maxRecDepth 100000 in
theorem w_X10_countRows_31 {p : Program} {e : Env} {R : Room} {s : State} {m : MethodId} {args : Array Value} {below : List Frame} {meth : Method} {c : Code} {cells slots : Nat} {Q : State → Prop} {G : CG} (l : Launch) (X : Cx p s m args meth c cX10_countRows 4 RX10 G) (hRL : RmL R 6 106) (hcs : cells ≤ R.cells ∧ slots ≤ R.slots) : ∀ (n : Nat) (v0 : Nat) (v1 : Nat) (v2 : Int32) (v3 : Int32) (μ : Mm) (x : Mm), lp_X10_countRows_31 n v0 v1 v2 v3 μ = some x → (∀ (H : Heap) (locs : List Loc) (ls : Array Slot), HS G s x H locs → lv_has ls 4 [] → W p l e R s m args below meth c H locs cells slots Q (F0 m 47 ls [])) → ∀ (H : Heap) (locs : List Loc) (ls : Array Slot), HS G s μ H locs → lv_has ls 4 [(0, .ref v0), (1, .ref v1), (2, .int v2), (3, .int v3)] → W p l e R s m args below meth c H locs cells slots Q (F0 m 31 ls []) := by
  have hx := X.1
  have hb := X.2.1
  have hown := X.2.2.2.1
  have hts := X.2.2.2.2.1
  intro n
  induction n with
  | zero =>
    intro v0 v1 v2 v3 μ x h
    rw [lp_X10_countRows_31] at h
    cases h
  | succ n ih =>
    intro v0 v1 v2 v3 μ x h k0 H locs ls hH hl
    rw [lp_X10_countRows_31] at h
    refine lv_iload_n hx hb dX10_countRows_31 rfl (lv_at hl 3 rfl) ?_
    refine lv_iload_n hx hb dX10_countRows_32 rfl (lv_at hl 2 rfl) ?_
    refine lv_icmp_ge (tgt := 47) hx hb dX10_countRows_33 (by decide) (fun hc7 => ?_) (fun hc7 => ?_)
    · replace h := ift h hc7
      cases h
      exact k0 _ _ _ hH (lv_sub hl [] rfl)
    · replace h := iff' h hc7
      refine lv_aload_n hx hb dX10_countRows_36 rfl (lv_at hl 0 rfl) ?_
      refine lv_aload_n hx hb dX10_countRows_37 rfl (lv_at hl 1 rfl) ?_
      obtain ⟨x8, hx8, h⟩ := bnd h
      refine iv_X10_52 l X hH hRL (by decide) hx8 hl.1 (Nat.le_of_ble_eq_true rfl) dX10_countRows_38 hcs (fun H locs hH => ?_)
      refine lv_iinc (v := (v3 + 1)) (lv' := [(3, .int (v3 + 1)), (0, .ref v0), (1, .ref v1), (2, .int v2)]) hx hb dX10_countRows_41 hl (k := 3) rfl rfl (by decide) rfl (fun ls hl => ?_)
      refine lv_goto (tgt := 31) hx hb dX10_countRows_44 (by decide) ?_
      exact ih _ _ _ _ _ _ h k0 _ _ _ hH (lv_sub hl [1, 2, 3, 0] rfl)
theorem t_X10_countRows {μ : Mm} {a0 : Nat} {p1 : Nat} {p2 : Int32} {x : Mm} (h : f_X10_countRows μ a0 p1 p2 = some x) : tg μ a0 = 11 := by
  unfold f_X10_countRows at h
  exact (gsn h).1
set_option maxHeartbeats 4000000 in
set_option maxRecDepth 100000 in
theorem c_X10_countRows (l : Launch) (G : CG) (μ : Mm) (a0 : Nat) (p1 : Nat) (p2 : Int32) (x : Mm) (h : f_X10_countRows μ a0 p1 p2 = some x) : Met l yX10_countRows (.code yX10_countRows cX10_countRows 4 none :: UW) (rmk 6 106 0 0) (PC G [.ref a0, .ref p1, .int p2] μ) (QV G x) 0 0 (fA G) := by
  refine Met.ofW (cc := cX10_countRows) (maxL := 4) (ret := none) (by decide) rfl ?_
  intro p e s m args below meth c s₁ B hml hv
  obtain ⟨X, hH, hr, rfl, hnm⟩ := cx_in B hml hv
  have X : Cx p s m _ meth c cX10_countRows 4 RX10 G := X
  have hx := X.1
  have hb := X.2.1
  have hown := X.2.2.2.1
  have hts := X.2.2.2.2.1
  have hRL : RmL (rmk 6 106 0 0) 6 106 := ⟨Nat.le_refl _, Nat.le_refl _⟩
  have hcs : 0 ≤ (rmk 0 0 0 0).cells ∧ 0 ≤ (rmk 0 0 0 0).slots := ⟨Nat.zero_le _, Nat.zero_le _⟩
  refine ls_in (Nat.le_of_ble_eq_true rfl) (fun ls hl => ?_)
  have hl : lv_has ls 4 [(0, .ref a0), (1, .ref p1), (2, .int p2)] := hl
  unfold f_X10_countRows at h
  obtain ⟨htg, h⟩ := gsn h
  refine lv_iconst (v := 0) hx hb dX10_countRows_0 (by decide) ?_
  refine lv_istore_n (lv' := [(3, .int (0 : Int32)), (0, .ref a0), (1, .ref p1), (2, .int p2)]) hx hb dX10_countRows_1 rfl hl (by decide) rfl (fun ls hl => ?_)
  obtain ⟨x6, hx6, hhx6⟩ := bnd h
  clear h
  refine w_X10_countRows_2 l X hRL hcs BIG a0 p1 p2 (0 : Int32) μ x6 hx6 (fun H locs ls hH hl => ?_) _ _ _ hH (lv_sub hl [1, 2, 3, 0] rfl)
  · have h := hhx6
    clear hhx6
    refine lv_iconst (v := 0) hx hb dX10_countRows_29 (by decide) ?_
    refine lv_istore_n (lv' := [(3, .int (0 : Int32)), (0, .ref a0), (1, .ref p1), (2, .int p2)]) hx hb dX10_countRows_30 rfl hl (by decide) rfl (fun ls hl => ?_)
    obtain ⟨x9, hx9, hhx9⟩ := bnd h
    clear h
    refine w_X10_countRows_31 l X hRL hcs BIG a0 p1 p2 (0 : Int32) x6 x9 hx9 (fun H locs ls hH hl => ?_) _ _ _ hH (lv_sub hl [1, 2, 3, 0] rfl)
    · have h := hhx9
      clear hhx9
      exact eV X hH h hr dX10_countRows_47 (Nat.le_of_ble_eq_true rfl) (Nat.le_of_ble_eq_true rfl)
theorem t_X10_rowsOf {μ : Mm} {a0 : Nat} {p1 : Int32} {x : Int64} (h : f_X10_rowsOf μ a0 p1 = some x) : tg μ a0 = 11 := by
  unfold f_X10_rowsOf at h
  exact (gsn h).1
set_option maxHeartbeats 4000000 in
set_option maxRecDepth 100000 in
theorem c_X10_rowsOf (l : Launch) (G : CG) (μ : Mm) (a0 : Nat) (p1 : Int32) (x : Int64) (h : f_X10_rowsOf μ a0 p1 = some x) : Met l yX10_rowsOf (.code yX10_rowsOf cX10_rowsOf 2 (some .long) :: UW) (rmk 1 0 0 0) (PC G [.ref a0, .int p1] μ) (QL G x μ) 0 0 (fA G) := by
  refine Met.ofW (cc := cX10_rowsOf) (maxL := 2) (ret := (some .long)) (by decide) rfl ?_
  intro p e s m args below meth c s₁ B hml hv
  obtain ⟨X, hH, hr, rfl, hnm⟩ := cx_in B hml hv
  have X : Cx p s m _ meth c cX10_rowsOf 2 RX10 G := X
  have hx := X.1
  have hb := X.2.1
  have hown := X.2.2.2.1
  have hts := X.2.2.2.2.1
  have hRL : RmL (rmk 1 0 0 0) 1 0 := ⟨Nat.le_refl _, Nat.le_refl _⟩
  have hcs : 0 ≤ (rmk 0 0 0 0).cells ∧ 0 ≤ (rmk 0 0 0 0).slots := ⟨Nat.zero_le _, Nat.zero_le _⟩
  refine ls_in (Nat.le_of_ble_eq_true rfl) (fun ls hl => ?_)
  have hl : lv_has ls 2 [(0, .ref a0), (1, .int p1)] := hl
  unfold f_X10_rowsOf at h
  obtain ⟨htg, h⟩ := gsn h
  refine lv_aload_n hx hb dX10_rowsOf_0 rfl (lv_at hl 0 rfl) ?_
  obtain ⟨x1, hx1, h⟩ := bnd h
  refine gf_X10_15 X hH hx1 dX10_rowsOf_1 ?_
  refine lv_iload_n hx hb dX10_rowsOf_4 rfl (lv_at hl 1 rfl) ?_
  obtain ⟨x2, hx2, h⟩ := bnd h
  refine w_aL X hH hx2 dX10_rowsOf_5 ?_
  exact eLp X hH h hr dX10_rowsOf_6
set_option maxHeartbeats 1000000 in
theorem iv_X11_20 {p : Program} {e : Env} {R : Room} {s : State} {m : MethodId} {args : Array Value} {below : List Frame} {meth : Method} {c : Code} {H : Heap} {locs : List Loc} {cells slots : Nat} {Q : State → Prop} {cc : ByteArray} {pc : Nat} {ls : Array Slot} {rest : List Value} {nL : Nat} {G : CG} {μ : Mm} {a : Nat}  {x : Mm} {k k2 : Nat} (l : Launch) (X : Cx p s m args meth c cc nL RX11 G) (hH : HS G s μ H locs) (hRL : RmL R k k2) (hk : 2 + 1 ≤ k ∧ 76 ≤ k2) (h : f_X3_init μ a = some x) (hls : ls.size = nL) (hroom : (rest.map fun v => v.category).sum ≤ 8) (hdg : decode cc pc = .ok (.invokespecial 20, 3)) (hcs : cells + 10 ≤ R.cells ∧ slots + 82 ≤ R.slots) (kk : ∀ (H1 : Heap) (locs1 : List Loc), HS G s x H1 locs1 → W p l e R s m args below meth c H1 locs1 (cells + 10) (slots + 82) Q (F0 m (pc + 3) ls rest)) : W p l e R s m args below meth c H locs cells slots Q (F0 m pc ls (.ref a :: rest)) := by
  refine kV hH (rI (As := []) (rest := rest) X hH (c_X3_init l G μ a x h) (List.forall_mem_cons.mpr ⟨u_46, (List.forall_mem_cons.mpr ⟨u_47, (List.forall_mem_cons.mpr ⟨u_22, (fun _ h9 => absurd h9 List.not_mem_nil)⟩)⟩)⟩) u_48 (rmo hRL (Nat.le_trans (by decide) hk.1) (Nat.le_trans (by decide) hk.2)) rfl ddS_X3_init rfl hls rfl hroom hdg hcs) kk
set_option maxHeartbeats 1000000 in
theorem iv_X11_35 {p : Program} {e : Env} {R : Room} {s : State} {m : MethodId} {args : Array Value} {below : List Frame} {meth : Method} {c : Code} {H : Heap} {locs : List Loc} {cells slots : Nat} {Q : State → Prop} {cc : ByteArray} {pc : Nat} {ls : Array Slot} {rest : List Value} {nL : Nat} {G : CG} {μ : Mm} {a : Nat}  {x : Mm} {k k2 : Nat} (l : Launch) (X : Cx p s m args meth c cc nL RX11 G) (hH : HS G s μ H locs) (hRL : RmL R k k2) (hk : 1 + 1 ≤ k ∧ 52 ≤ k2) (h : f_X5_init μ a = some x) (hls : ls.size = nL) (hroom : (rest.map fun v => v.category).sum ≤ 8) (hdg : decode cc pc = .ok (.invokespecial 35, 3)) (hcs : cells + 2 ≤ R.cells ∧ slots + 12 ≤ R.slots) (kk : ∀ (H1 : Heap) (locs1 : List Loc), HS G s x H1 locs1 → W p l e R s m args below meth c H1 locs1 (cells + 2) (slots + 12) Q (F0 m (pc + 3) ls rest)) : W p l e R s m args below meth c H locs cells slots Q (F0 m pc ls (.ref a :: rest)) := by
  refine kV hH (rIN (As := []) (rest := rest) X hH (c_X5_init l G μ a x h) (X.2.2.2.2.2.1.2.1 (RX11, 35, yX5_init) (List.mem_of_getElem? (i := 0) rfl)) (List.forall_mem_cons.mpr ⟨u_160, (List.forall_mem_cons.mpr ⟨u_26, (fun _ h9 => absurd h9 List.not_mem_nil)⟩)⟩) u_161 (rmo hRL (Nat.le_trans (by decide) hk.1) (Nat.le_trans (by decide) hk.2)) rfl ddS_X5_init rfl hls rfl hroom hdg hcs) kk
set_option maxHeartbeats 1000000 in
theorem iv_X11_42 {p : Program} {e : Env} {R : Room} {s : State} {m : MethodId} {args : Array Value} {below : List Frame} {meth : Method} {c : Code} {H : Heap} {locs : List Loc} {cells slots : Nat} {Q : State → Prop} {cc : ByteArray} {pc : Nat} {ls : Array Slot} {rest : List Value} {nL : Nat} {G : CG} {μ : Mm} {a : Nat}  {x : Mm} {k k2 : Nat} (l : Launch) (X : Cx p s m args meth c cc nL RX11 G) (hH : HS G s μ H locs) (hRL : RmL R k k2) (hk : 1 + 1 ≤ k ∧ 52 ≤ k2) (h : f_X7_init μ a = some x) (hls : ls.size = nL) (hroom : (rest.map fun v => v.category).sum ≤ 8) (hdg : decode cc pc = .ok (.invokespecial 42, 3)) (hcs : cells + 4 ≤ R.cells ∧ slots + 256 ≤ R.slots) (kk : ∀ (H1 : Heap) (locs1 : List Loc), HS G s x H1 locs1 → W p l e R s m args below meth c H1 locs1 (cells + 4) (slots + 256) Q (F0 m (pc + 3) ls rest)) : W p l e R s m args below meth c H locs cells slots Q (F0 m pc ls (.ref a :: rest)) := by
  refine kV hH (rIN (As := []) (rest := rest) X hH (c_X7_init l G μ a x h) (X.2.2.2.2.2.1.2.1 (RX11, 42, yX7_init) (List.mem_of_getElem? (i := 1) rfl)) (List.forall_mem_cons.mpr ⟨u_197, (List.forall_mem_cons.mpr ⟨u_27, (fun _ h9 => absurd h9 List.not_mem_nil)⟩)⟩) u_198 (rmo hRL (Nat.le_trans (by decide) hk.1) (Nat.le_trans (by decide) hk.2)) rfl ddS_X7_init rfl hls rfl hroom hdg hcs) kk
set_option maxHeartbeats 1000000 in
theorem iv_X11_47 {p : Program} {e : Env} {R : Room} {s : State} {m : MethodId} {args : Array Value} {below : List Frame} {meth : Method} {c : Code} {H : Heap} {locs : List Loc} {cells slots : Nat} {Q : State → Prop} {cc : ByteArray} {pc : Nat} {ls : Array Slot} {rest : List Value} {nL : Nat} {G : CG} {μ : Mm} {a : Nat} {q0 : Int32} {x : Mm} {k k2 : Nat} (l : Launch) (X : Cx p s m args meth c cc nL RX11 G) (hH : HS G s μ H locs) (hRL : RmL R k k2) (hk : 1 + 1 ≤ k ∧ 53 ≤ k2) (h : f_X8_init μ a q0 = some x) (hls : ls.size = nL) (hroom : (rest.map fun v => v.category).sum ≤ 8) (hdg : decode cc pc = .ok (.invokespecial 47, 3)) (hcs : cells + 1 ≤ R.cells ∧ slots + 60 ≤ R.slots) (kk : ∀ (H1 : Heap) (locs1 : List Loc), HS G s x H1 locs1 → W p l e R s m args below meth c H1 locs1 (cells + 1) (slots + 60) Q (F0 m (pc + 3) ls rest)) : W p l e R s m args below meth c H locs cells slots Q (F0 m pc ls (.int q0 :: .ref a :: rest)) := by
  refine kV hH (rI (As := [.int q0]) (rest := rest) X hH (c_X8_init l G μ a q0 x h) (List.forall_mem_cons.mpr ⟨u_226, (List.forall_mem_cons.mpr ⟨u_55, (List.forall_mem_cons.mpr ⟨u_23, (fun _ h9 => absurd h9 List.not_mem_nil)⟩)⟩)⟩) u_56 (rmo hRL (Nat.le_trans (by decide) hk.1) (Nat.le_trans (by decide) hk.2)) rfl ddS_X8_init rfl hls rfl hroom hdg hcs) kk
set_option maxHeartbeats 1000000 in
theorem iv_X11_56 {p : Program} {e : Env} {R : Room} {s : State} {m : MethodId} {args : Array Value} {below : List Frame} {meth : Method} {c : Code} {H : Heap} {locs : List Loc} {cells slots : Nat} {Q : State → Prop} {cc : ByteArray} {pc : Nat} {ls : Array Slot} {rest : List Value} {nL : Nat} {G : CG} {μ : Mm} {a : Nat}  {x : Mm} {k k2 : Nat} (l : Launch) (X : Cx p s m args meth c cc nL RX11 G) (hH : HS G s μ H locs) (hRL : RmL R k k2) (hk : 1 + 1 ≤ k ∧ 52 ≤ k2) (h : f_X10_init μ a = some x) (hls : ls.size = nL) (hroom : (rest.map fun v => v.category).sum ≤ 8) (hdg : decode cc pc = .ok (.invokespecial 56, 3)) (hcs : cells + 3 ≤ R.cells ∧ slots + 180 ≤ R.slots) (kk : ∀ (H1 : Heap) (locs1 : List Loc), HS G s x H1 locs1 → W p l e R s m args below meth c H1 locs1 (cells + 3) (slots + 180) Q (F0 m (pc + 3) ls rest)) : W p l e R s m args below meth c H locs cells slots Q (F0 m pc ls (.ref a :: rest)) := by
  refine kV hH (rIN (As := []) (rest := rest) X hH (c_X10_init l G μ a x h) (X.2.2.2.2.2.1.2.1 (RX11, 56, yX10_init) (List.mem_of_getElem? (i := 2) rfl)) (List.forall_mem_cons.mpr ⟨u_230, (List.forall_mem_cons.mpr ⟨u_28, (fun _ h9 => absurd h9 List.not_mem_nil)⟩)⟩) u_231 (rmo hRL (Nat.le_trans (by decide) hk.1) (Nat.le_trans (by decide) hk.2)) rfl ddS_X10_init rfl hls rfl hroom hdg hcs) kk
set_option maxHeartbeats 4000000 in
set_option maxRecDepth 100000 in
theorem w_X11_init_127 {p : Program} {e : Env} {R : Room} {s : State} {m : MethodId} {args : Array Value} {below : List Frame} {meth : Method} {c : Code} {Q : State → Prop} {G : CG} (l : Launch) (X : Cx p s m args meth c cX11_init 2 RX11 G) (hRL : RmL R 3 76) {C S : Nat} (hCS : C ≤ R.cells ∧ S ≤ R.slots) : ∀ (n : Nat) (v0 : Nat) (v1 : Int32) (μ : Mm) (x : Mm), lp_X11_init_127 n v0 v1 μ = some x → (∀ (H : Heap) (locs : List Loc) (ls : Array Slot), HS G s x H locs → lv_has ls 2 [(0, .ref v0)] → W p l e R s m args below meth c H locs C S Q (F0 m 154 ls [])) → ∀ (cells slots : Nat), cells + n * 2 ≤ C → slots + n * 62 ≤ S → ∀ (H : Heap) (locs : List Loc) (ls : Array Slot), HS G s μ H locs → lv_has ls 2 [(0, .ref v0), (1, .int v1)] → W p l e R s m args below meth c H locs cells slots Q (F0 m 127 ls []) := by
  have hx := X.1
  have hb := X.2.1
  have hown := X.2.2.2.1
  have hts := X.2.2.2.2.1
  intro n
  induction n with
  | zero =>
    intro v0 v1 μ x h
    rw [lp_X11_init_127] at h
    cases h
  | succ n ih =>
    intro v0 v1 μ x h k0 cells slots hc1 hc2 H locs ls hH hl
    rw [lp_X11_init_127] at h
    rw [Nat.succ_mul] at hc1 hc2
    refine lv_iload_n hx hb dX11_init_127 rfl (lv_at hl 1 rfl) ?_
    refine lv_bipush (v := 6) hx hb dX11_init_128 (by decide) ?_
    refine lv_icmp_ge (tgt := 154) hx hb dX11_init_130 (by decide) (fun hc30 => ?_) (fun hc30 => ?_)
    · replace h := ift h hc30
      cases h
      refine W.widen (k := C) (n := S) (by omega) (by omega) ?_
      exact k0 _ _ _ hH (lv_sub hl [0] rfl)
    · replace h := iff' h hc30
      refine lv_aload_n hx hb dX11_init_133 rfl (lv_at hl 0 rfl) ?_
      obtain ⟨x31, hx31, h⟩ := bnd h
      refine gf_X11_11 X hH hx31 dX11_init_134 ?_
      refine lv_iload_n hx hb dX11_init_137 rfl (lv_at hl 1 rfl) ?_
      refine w_new X hH vc_8 inU_X8 tyX8 tyX8_ok u_42 u_53 u_23 (df_8 _) (by omega) (by omega) dX11_init_138 (fun H hH => ?_)
      refine lv_dup hx hb dX11_init_141 rfl ?_
      refine lv_bipush (v := 40) hx hb dX11_init_142 (by decide) ?_
      obtain ⟨x33, hx33, h⟩ := bnd h
      refine iv_X11_47 l X hH hRL (by decide) hx33 hl.1 (Nat.le_of_ble_eq_true rfl) dX11_init_144 ⟨by omega, by omega⟩ (fun H locs hH => ?_)
      obtain ⟨x34, hx34, h⟩ := bnd h
      refine w_qP X hH hx34 (by decide) (k := 5) rfl rfl rfl dX11_init_147 (fun H locs hH => ?_)
      refine lv_iinc (v := (v1 + 1)) (lv' := [(1, .int (v1 + 1)), (0, .ref v0)]) hx hb dX11_init_148 hl (k := 1) rfl rfl (by decide) rfl (fun ls hl => ?_)
      refine lv_goto (tgt := 127) hx hb dX11_init_151 (by decide) ?_
      exact ih _ _ _ _ h k0 _ _ (by omega) (by omega) _ _ _ hH (lv_sub hl [1, 0] rfl)
set_option maxHeartbeats 4000000 in
set_option maxRecDepth 100000 in
theorem w_X11_init_156 {p : Program} {e : Env} {R : Room} {s : State} {m : MethodId} {args : Array Value} {below : List Frame} {meth : Method} {c : Code} {Q : State → Prop} {G : CG} (l : Launch) (X : Cx p s m args meth c cX11_init 2 RX11 G) (hRL : RmL R 3 76) {C S : Nat} (hCS : C ≤ R.cells ∧ S ≤ R.slots) : ∀ (n : Nat) (v0 : Nat) (v1 : Int32) (μ : Mm) (x : Mm), lp_X11_init_156 n v0 v1 μ = some x → (∀ (H : Heap) (locs : List Loc) (ls : Array Slot), HS G s x H locs → lv_has ls 2 [(0, .ref v0)] → W p l e R s m args below meth c H locs C S Q (F0 m 182 ls [])) → ∀ (cells slots : Nat), cells + n * 2 ≤ C → slots + n * 62 ≤ S → ∀ (H : Heap) (locs : List Loc) (ls : Array Slot), HS G s μ H locs → lv_has ls 2 [(0, .ref v0), (1, .int v1)] → W p l e R s m args below meth c H locs cells slots Q (F0 m 156 ls []) := by
  have hx := X.1
  have hb := X.2.1
  have hown := X.2.2.2.1
  have hts := X.2.2.2.2.1
  intro n
  induction n with
  | zero =>
    intro v0 v1 μ x h
    rw [lp_X11_init_156] at h
    cases h
  | succ n ih =>
    intro v0 v1 μ x h k0 cells slots hc1 hc2 H locs ls hH hl
    rw [lp_X11_init_156] at h
    rw [Nat.succ_mul] at hc1 hc2
    refine lv_iload_n hx hb dX11_init_156 rfl (lv_at hl 1 rfl) ?_
    refine lv_iconst (v := 4) hx hb dX11_init_157 (by decide) ?_
    refine lv_icmp_ge (tgt := 182) hx hb dX11_init_158 (by decide) (fun hc36 => ?_) (fun hc36 => ?_)
    · replace h := ift h hc36
      cases h
      refine W.widen (k := C) (n := S) (by omega) (by omega) ?_
      exact k0 _ _ _ hH (lv_sub hl [0] rfl)
    · replace h := iff' h hc36
      refine lv_aload_n hx hb dX11_init_161 rfl (lv_at hl 0 rfl) ?_
      obtain ⟨x37, hx37, h⟩ := bnd h
      refine gf_X11_15 X hH hx37 dX11_init_162 ?_
      refine lv_iload_n hx hb dX11_init_165 rfl (lv_at hl 1 rfl) ?_
      refine w_new X hH vc_8 inU_X8 tyX8 tyX8_ok u_42 u_53 u_23 (df_8 _) (by omega) (by omega) dX11_init_166 (fun H hH => ?_)
      refine lv_dup hx hb dX11_init_169 rfl ?_
      refine lv_bipush (v := 60) hx hb dX11_init_170 (by decide) ?_
      obtain ⟨x39, hx39, h⟩ := bnd h
      refine iv_X11_47 l X hH hRL (by decide) hx39 hl.1 (Nat.le_of_ble_eq_true rfl) dX11_init_172 ⟨by omega, by omega⟩ (fun H locs hH => ?_)
      obtain ⟨x40, hx40, h⟩ := bnd h
      refine w_qP X hH hx40 (by decide) (k := 5) rfl rfl rfl dX11_init_175 (fun H locs hH => ?_)
      refine lv_iinc (v := (v1 + 1)) (lv' := [(1, .int (v1 + 1)), (0, .ref v0)]) hx hb dX11_init_176 hl (k := 1) rfl rfl (by decide) rfl (fun ls hl => ?_)
      refine lv_goto (tgt := 156) hx hb dX11_init_179 (by decide) ?_
      exact ih _ _ _ _ h k0 _ _ (by omega) (by omega) _ _ _ hH (lv_sub hl [1, 0] rfl)
set_option maxHeartbeats 4000000 in
set_option maxRecDepth 100000 in
theorem w_X11_init_184 {p : Program} {e : Env} {R : Room} {s : State} {m : MethodId} {args : Array Value} {below : List Frame} {meth : Method} {c : Code} {Q : State → Prop} {G : CG} (l : Launch) (X : Cx p s m args meth c cX11_init 2 RX11 G) (hRL : RmL R 3 76) {C S : Nat} (hCS : C ≤ R.cells ∧ S ≤ R.slots) : ∀ (n : Nat) (v0 : Nat) (v1 : Int32) (μ : Mm) (x : Mm), lp_X11_init_184 n v0 v1 μ = some x → (∀ (H : Heap) (locs : List Loc) (ls : Array Slot), HS G s x H locs → lv_has ls 2 [] → W p l e R s m args below meth c H locs C S Q (F0 m 210 ls [])) → ∀ (cells slots : Nat), cells + n * 2 ≤ C → slots + n * 62 ≤ S → ∀ (H : Heap) (locs : List Loc) (ls : Array Slot), HS G s μ H locs → lv_has ls 2 [(0, .ref v0), (1, .int v1)] → W p l e R s m args below meth c H locs cells slots Q (F0 m 184 ls []) := by
  have hx := X.1
  have hb := X.2.1
  have hown := X.2.2.2.1
  have hts := X.2.2.2.2.1
  intro n
  induction n with
  | zero =>
    intro v0 v1 μ x h
    rw [lp_X11_init_184] at h
    cases h
  | succ n ih =>
    intro v0 v1 μ x h k0 cells slots hc1 hc2 H locs ls hH hl
    rw [lp_X11_init_184] at h
    rw [Nat.succ_mul] at hc1 hc2
    refine lv_iload_n hx hb dX11_init_184 rfl (lv_at hl 1 rfl) ?_
    refine lv_iconst (v := 3) hx hb dX11_init_185 (by decide) ?_
    refine lv_icmp_ge (tgt := 210) hx hb dX11_init_186 (by decide) (fun hc42 => ?_) (fun hc42 => ?_)
    · replace h := ift h hc42
      cases h
      refine W.widen (k := C) (n := S) (by omega) (by omega) ?_
      exact k0 _ _ _ hH (lv_sub hl [] rfl)
    · replace h := iff' h hc42
      refine lv_aload_n hx hb dX11_init_189 rfl (lv_at hl 0 rfl) ?_
      obtain ⟨x43, hx43, h⟩ := bnd h
      refine gf_X11_25 X hH hx43 dX11_init_190 ?_
      refine lv_iload_n hx hb dX11_init_193 rfl (lv_at hl 1 rfl) ?_
      refine w_new X hH vc_8 inU_X8 tyX8 tyX8_ok u_42 u_53 u_23 (df_8 _) (by omega) (by omega) dX11_init_194 (fun H hH => ?_)
      refine lv_dup hx hb dX11_init_197 rfl ?_
      refine lv_bipush (v := 60) hx hb dX11_init_198 (by decide) ?_
      obtain ⟨x45, hx45, h⟩ := bnd h
      refine iv_X11_47 l X hH hRL (by decide) hx45 hl.1 (Nat.le_of_ble_eq_true rfl) dX11_init_200 ⟨by omega, by omega⟩ (fun H locs hH => ?_)
      obtain ⟨x46, hx46, h⟩ := bnd h
      refine w_qP X hH hx46 (by decide) (k := 5) rfl rfl rfl dX11_init_203 (fun H locs hH => ?_)
      refine lv_iinc (v := (v1 + 1)) (lv' := [(1, .int (v1 + 1)), (0, .ref v0)]) hx hb dX11_init_204 hl (k := 1) rfl rfl (by decide) rfl (fun ls hl => ?_)
      refine lv_goto (tgt := 184) hx hb dX11_init_207 (by decide) ?_
      exact ih _ _ _ _ h k0 _ _ (by omega) (by omega) _ _ _ hH (lv_sub hl [1, 0] rfl)
theorem t_X11_init {μ : Mm} {a0 : Nat} {x : Mm} (h : f_X11_init μ a0 = some x) : tg μ a0 = 12 := by
  unfold f_X11_init at h
  exact (gsn h).1
set_option maxHeartbeats 4000000 in
set_option maxRecDepth 100000 in
theorem c_X11_init (l : Launch) (G : CG) (μ : Mm) (a0 : Nat) (x : Mm) (h : f_X11_init μ a0 = some x) : Met l yX11_init (.code yX11_init cX11_init 2 none :: UW) (rmk 3 76 75 1965) (PC G [.ref a0] μ) (QV G x) 75 1965 (fA G) := by
  refine Met.ofW (cc := cX11_init) (maxL := 2) (ret := none) (by decide) rfl ?_
  intro p e s m args below meth c s₁ B hml hv
  obtain ⟨X, hH, hr, rfl, hnm⟩ := cx_in B hml hv
  have X : Cx p s m _ meth c cX11_init 2 RX11 G := X
  have hx := X.1
  have hb := X.2.1
  have hown := X.2.2.2.1
  have hts := X.2.2.2.2.1
  have hnm : meth.name = "<init>" := hnm
  have hRL : RmL (rmk 3 76 75 1965) 3 76 := ⟨Nat.le_refl _, Nat.le_refl _⟩
  refine ls_in (Nat.le_of_ble_eq_true rfl) (fun ls hl => ?_)
  have hl : lv_has ls 2 [(0, .ref a0)] := hl
  unfold f_X11_init at h
  obtain ⟨htg, h⟩ := gsn h
  refine lv_aload_n hx hb dX11_init_0 rfl (lv_at hl 0 rfl) ?_
  refine w_oi X hRL (by decide) hl.1 u_39 u_40 u_41 (Nat.le_of_ble_eq_true rfl) dX11_init_1 ?_
  refine lv_aload_n hx hb dX11_init_4 rfl (lv_at hl 0 rfl) ?_
  refine lv_bipush (v := 6) hx hb dX11_init_5 (by decide) ?_
  obtain ⟨x1, hx1, h⟩ := bnd h
  refine w_nr X hH (k := 5) hx1 X.2.2.2.2.2.1.2.2.2.2.2.1 u_42 (by decide) rfl (by decide) (Nat.le_of_ble_eq_true rfl) (Nat.le_of_ble_eq_true rfl) dX11_init_7 (fun H hH => ?_)
  obtain ⟨x2, hx2, h⟩ := bnd h
  refine pf_X11_11 X hnm hH hx2 dX11_init_10 (fun H locs hH => ?_)
  refine lv_aload_n hx hb dX11_init_13 rfl (lv_at hl 0 rfl) ?_
  refine lv_iconst (v := 4) hx hb dX11_init_14 (by decide) ?_
  obtain ⟨x3, hx3, h⟩ := bnd h
  refine w_nr X hH (k := 5) hx3 X.2.2.2.2.2.1.2.2.2.2.2.1 u_42 (by decide) rfl (by decide) (Nat.le_of_ble_eq_true rfl) (Nat.le_of_ble_eq_true rfl) dX11_init_15 (fun H hH => ?_)
  obtain ⟨x4, hx4, h⟩ := bnd h
  refine pf_X11_15 X hnm hH hx4 dX11_init_18 (fun H locs hH => ?_)
  refine lv_aload_n hx hb dX11_init_21 rfl (lv_at hl 0 rfl) ?_
  refine w_new X hH vc_3 inU_X3 tyX3 tyX3_ok u_44 u_45 u_22 (df_3 _) (Nat.le_of_ble_eq_true rfl) (Nat.le_of_ble_eq_true rfl) dX11_init_22 (fun H hH => ?_)
  refine lv_dup hx hb dX11_init_25 rfl ?_
  obtain ⟨x6, hx6, h⟩ := bnd h
  refine iv_X11_20 l X hH hRL (by decide) hx6 hl.1 (Nat.le_of_ble_eq_true rfl) dX11_init_26 ⟨Nat.le_of_ble_eq_true rfl, Nat.le_of_ble_eq_true rfl⟩ (fun H locs hH => ?_)
  obtain ⟨x7, hx7, h⟩ := bnd h
  refine pf_X11_21 X hnm hH hx7 dX11_init_29 (fun H locs hH => ?_)
  refine lv_aload_n hx hb dX11_init_32 rfl (lv_at hl 0 rfl) ?_
  refine lv_iconst (v := 3) hx hb dX11_init_33 (by decide) ?_
  obtain ⟨x8, hx8, h⟩ := bnd h
  refine w_nr X hH (k := 5) hx8 X.2.2.2.2.2.1.2.2.2.2.2.1 u_42 (by decide) rfl (by decide) (Nat.le_of_ble_eq_true rfl) (Nat.le_of_ble_eq_true rfl) dX11_init_34 (fun H hH => ?_)
  obtain ⟨x9, hx9, h⟩ := bnd h
  refine pf_X11_25 X hnm hH hx9 dX11_init_37 (fun H locs hH => ?_)
  refine lv_aload_n hx hb dX11_init_40 rfl (lv_at hl 0 rfl) ?_
  refine lv_iconst (v := 3) hx hb dX11_init_41 (by decide) ?_
  refine lv_bipush (v := 6) hx hb dX11_init_42 (by decide) ?_
  obtain ⟨x10, hx10, h⟩ := bnd h
  refine w_mn X hH hx10 u_155 u_74 (Nat.le_of_ble_eq_true rfl) (Nat.le_of_ble_eq_true rfl) dX11_init_44 (fun H hH => ?_)
  obtain ⟨x11, hx11, h⟩ := bnd h
  refine pf_X11_30 X hnm hH hx11 dX11_init_48 (fun H locs hH => ?_)
  refine lv_aload_n hx hb dX11_init_51 rfl (lv_at hl 0 rfl) ?_
  refine w_new X hH vc_5 inU_X5 tyX5 tyX5_ok u_157 u_158 u_26 (df_5 _) (Nat.le_of_ble_eq_true rfl) (Nat.le_of_ble_eq_true rfl) dX11_init_52 (fun H hH => ?_)
  refine lv_dup hx hb dX11_init_55 rfl ?_
  obtain ⟨x13, hx13, h⟩ := bnd h
  refine iv_X11_35 l X hH hRL (by decide) hx13 hl.1 (Nat.le_of_ble_eq_true rfl) dX11_init_56 ⟨Nat.le_of_ble_eq_true rfl, Nat.le_of_ble_eq_true rfl⟩ (fun H locs hH => ?_)
  obtain ⟨x14, hx14, h⟩ := bnd h
  refine pf_X11_36 X hnm hH hx14 dX11_init_59 (fun H locs hH => ?_)
  refine lv_aload_n hx hb dX11_init_62 rfl (lv_at hl 0 rfl) ?_
  refine w_new X hH vc_7 inU_X7 tyX7 tyX7_ok u_194 u_195 u_27 (df_7 _) (Nat.le_of_ble_eq_true rfl) (Nat.le_of_ble_eq_true rfl) dX11_init_63 (fun H hH => ?_)
  refine lv_dup hx hb dX11_init_66 rfl ?_
  obtain ⟨x16, hx16, h⟩ := bnd h
  refine iv_X11_42 l X hH hRL (by decide) hx16 hl.1 (Nat.le_of_ble_eq_true rfl) dX11_init_67 ⟨Nat.le_of_ble_eq_true rfl, Nat.le_of_ble_eq_true rfl⟩ (fun H locs hH => ?_)
  obtain ⟨x17, hx17, h⟩ := bnd h
  refine pf_X11_43 X hnm hH hx17 dX11_init_70 (fun H locs hH => ?_)
  refine lv_aload_n hx hb dX11_init_73 rfl (lv_at hl 0 rfl) ?_
  refine w_new X hH vc_8 inU_X8 tyX8 tyX8_ok u_42 u_53 u_23 (df_8 _) (Nat.le_of_ble_eq_true rfl) (Nat.le_of_ble_eq_true rfl) dX11_init_74 (fun H hH => ?_)
  refine lv_dup hx hb dX11_init_77 rfl ?_
  refine lv_bipush (v := 6) hx hb dX11_init_78 (by decide) ?_
  obtain ⟨x19, hx19, h⟩ := bnd h
  refine iv_X11_47 l X hH hRL (by decide) hx19 hl.1 (Nat.le_of_ble_eq_true rfl) dX11_init_80 ⟨Nat.le_of_ble_eq_true rfl, Nat.le_of_ble_eq_true rfl⟩ (fun H locs hH => ?_)
  obtain ⟨x20, hx20, h⟩ := bnd h
  refine pf_X11_50 X hnm hH hx20 dX11_init_83 (fun H locs hH => ?_)
  refine lv_aload_n hx hb dX11_init_86 rfl (lv_at hl 0 rfl) ?_
  refine w_new X hH vc_10 inU_X10 tyX10 tyX10_ok u_227 u_228 u_28 (df_10 _) (Nat.le_of_ble_eq_true rfl) (Nat.le_of_ble_eq_true rfl) dX11_init_87 (fun H hH => ?_)
  refine lv_dup hx hb dX11_init_90 rfl ?_
  obtain ⟨x22, hx22, h⟩ := bnd h
  refine iv_X11_56 l X hH hRL (by decide) hx22 hl.1 (Nat.le_of_ble_eq_true rfl) dX11_init_91 ⟨Nat.le_of_ble_eq_true rfl, Nat.le_of_ble_eq_true rfl⟩ (fun H locs hH => ?_)
  obtain ⟨x23, hx23, h⟩ := bnd h
  refine pf_X11_57 X hnm hH hx23 dX11_init_94 (fun H locs hH => ?_)
  refine lv_aload_n hx hb dX11_init_97 rfl (lv_at hl 0 rfl) ?_
  refine lv_bipush (v := 6) hx hb dX11_init_98 (by decide) ?_
  obtain ⟨x24, hx24, h⟩ := bnd h
  refine w_na X hH (atype := .int) (k := 1) hx24 u_74 (by decide) rfl (fun n' h9 => Nat.le_trans (Nat.mul_le_mul_right _ h9) (by decide)) (ce_I _) (Nat.le_of_ble_eq_true rfl) (Nat.le_of_ble_eq_true rfl) dX11_init_100 (fun H hH => ?_)
  obtain ⟨x25, hx25, h⟩ := bnd h
  refine pf_X11_61 X hnm hH hx25 dX11_init_102 (fun H locs hH => ?_)
  refine lv_aload_n hx hb dX11_init_105 rfl (lv_at hl 0 rfl) ?_
  refine lv_iconst (v := 0) hx hb dX11_init_106 (by decide) ?_
  obtain ⟨x26, hx26, h⟩ := bnd h
  refine pf_X11_65 X hH hx26 dX11_init_107 (fun H locs hH => ?_)
  refine lv_aload_n hx hb dX11_init_110 rfl (lv_at hl 0 rfl) ?_
  refine lv_iconst (v := 0) hx hb dX11_init_111 (by decide) ?_
  obtain ⟨x27, hx27, h⟩ := bnd h
  refine pf_X11_69 X hH hx27 dX11_init_112 (fun H locs hH => ?_)
  refine lv_aload_n hx hb dX11_init_115 rfl (lv_at hl 0 rfl) ?_
  refine lv_lconst (v := 0) hx hb dX11_init_116 (by decide) ?_
  obtain ⟨x28, hx28, h⟩ := bnd h
  refine pf_X11_72 X hH hx28 dX11_init_117 (fun H locs hH => ?_)
  refine lv_aload_n hx hb dX11_init_120 rfl (lv_at hl 0 rfl) ?_
  refine lv_lconst (v := 1) hx hb dX11_init_121 (by decide) ?_
  obtain ⟨x29, hx29, h⟩ := bnd h
  refine pf_X11_76 X hH hx29 dX11_init_122 (fun H locs hH => ?_)
  refine lv_iconst (v := 0) hx hb dX11_init_125 (by decide) ?_
  refine lv_istore_n (lv' := [(1, .int (0 : Int32)), (0, .ref a0)]) hx hb dX11_init_126 rfl hl (by decide) rfl (fun ls hl => ?_)
  obtain ⟨x35, hx35, hhx35⟩ := bnd h
  clear h
  refine w_X11_init_127 l X hRL (C := 47) (S := 1097) ⟨Nat.le_of_ble_eq_true rfl, Nat.le_of_ble_eq_true rfl⟩ 7 a0 (0 : Int32) x29 x35 hx35 (fun H locs ls hH hl => ?_) 33 663 (by decide) (by decide) _ _ _ hH (lv_sub hl [1, 0] rfl)
  · have h := hhx35
    clear hhx35
    refine lv_iconst (v := 0) hx hb dX11_init_154 (by decide) ?_
    refine lv_istore_n (lv' := [(1, .int (0 : Int32)), (0, .ref a0)]) hx hb dX11_init_155 rfl hl (by decide) rfl (fun ls hl => ?_)
    obtain ⟨x41, hx41, hhx41⟩ := bnd h
    clear h
    refine w_X11_init_156 l X hRL (C := 61) (S := 1531) ⟨Nat.le_of_ble_eq_true rfl, Nat.le_of_ble_eq_true rfl⟩ 7 a0 (0 : Int32) x35 x41 hx41 (fun H locs ls hH hl => ?_) 47 1097 (by decide) (by decide) _ _ _ hH (lv_sub hl [1, 0] rfl)
    · have h := hhx41
      clear hhx41
      refine lv_iconst (v := 0) hx hb dX11_init_182 (by decide) ?_
      refine lv_istore_n (lv' := [(1, .int (0 : Int32)), (0, .ref a0)]) hx hb dX11_init_183 rfl hl (by decide) rfl (fun ls hl => ?_)
      obtain ⟨x47, hx47, hhx47⟩ := bnd h
      clear h
      refine w_X11_init_184 l X hRL (C := 75) (S := 1965) ⟨Nat.le_of_ble_eq_true rfl, Nat.le_of_ble_eq_true rfl⟩ 7 a0 (0 : Int32) x41 x47 hx47 (fun H locs ls hH hl => ?_) 61 1531 (by decide) (by decide) _ _ _ hH (lv_sub hl [1, 0] rfl)
      · have h := hhx47
        clear hhx47
        exact eV X hH h hr dX11_init_210 (Nat.le_of_ble_eq_true rfl) (Nat.le_of_ble_eq_true rfl)
theorem t_X11_find {μ : Mm} {a0 : Nat} {p1 : Int32} {x : Int32 × Mm} (h : f_X11_find μ a0 p1 = some x) : tg μ a0 = 12 := by
  unfold f_X11_find at h
  exact (gsn h).1
set_option maxHeartbeats 4000000 in
set_option maxRecDepth 100000 in
theorem c_X11_find (l : Launch) (G : CG) (μ : Mm) (a0 : Nat) (p1 : Int32) (x : Int32 × Mm) (h : f_X11_find μ a0 p1 = some x) : Met l yX11_find (.code yX11_find cX11_find 2 (some .int) :: UW) (rmk 1 0 0 0) (PC G [.ref a0, .int p1] μ) (QI G x.1 x.2) 0 0 (fA G) := by
  refine Met.ofW (cc := cX11_find) (maxL := 2) (ret := (some .int)) (by decide) rfl ?_
  intro p e s m args below meth c s₁ B hml hv
  obtain ⟨X, hH, hr, rfl, hnm⟩ := cx_in B hml hv
  have X : Cx p s m _ meth c cX11_find 2 RX11 G := X
  have hx := X.1
  have hb := X.2.1
  have hown := X.2.2.2.1
  have hts := X.2.2.2.2.1
  have hRL : RmL (rmk 1 0 0 0) 1 0 := ⟨Nat.le_refl _, Nat.le_refl _⟩
  have hcs : 0 ≤ (rmk 0 0 0 0).cells ∧ 0 ≤ (rmk 0 0 0 0).slots := ⟨Nat.zero_le _, Nat.zero_le _⟩
  refine ls_in (Nat.le_of_ble_eq_true rfl) (fun ls hl => ?_)
  have hl : lv_has ls 2 [(0, .ref a0), (1, .int p1)] := hl
  unfold f_X11_find at h
  obtain ⟨htg, h⟩ := gsn h
  refine lv_aload_n hx hb dX11_find_0 rfl (lv_at hl 0 rfl) ?_
  refine lv_iload_n hx hb dX11_find_1 rfl (lv_at hl 1 rfl) ?_
  obtain ⟨x1, hx1, h⟩ := bnd h
  refine pf_X11_65 X hH hx1 dX11_find_2 (fun H locs hH => ?_)
  refine lv_aload_n hx hb dX11_find_5 rfl (lv_at hl 0 rfl) ?_
  obtain ⟨x2, hx2, h⟩ := bnd h
  refine gf_X11_61 X hH hx2 dX11_find_6 ?_
  refine lv_iload_n hx hb dX11_find_9 rfl (lv_at hl 1 rfl) ?_
  refine lv_dup2_11 hx hb dX11_find_10 rfl rfl ?_
  obtain ⟨x3, hx3, h⟩ := bnd h
  refine w_aI X hH hx3 dX11_find_11 ?_
  refine lv_iconst (v := 1) hx hb dX11_find_12 (by decide) ?_
  refine lv_iadd hx hb dX11_find_13 ?_
  obtain ⟨x4, hx4, h⟩ := bnd h
  refine w_qI X hH hx4 dX11_find_14 (fun H locs hH => ?_)
  refine lv_bipush (v := -3) hx hb dX11_find_15 (by decide) ?_
  exact eI X hH h hr dX11_find_17 (Nat.le_of_ble_eq_true rfl) (Nat.le_of_ble_eq_true rfl)
set_option maxHeartbeats 4000000 in
set_option maxRecDepth 100000 in
theorem c_X11_has (l : Launch) (G : CG) (μ : Mm) (p0 : Nat) (p1 : Int32) (x : Int32) (h : f_X11_has μ p0 p1 = some x) : Met l yX11_has (.code yX11_has cX11_has 2 (some .boolean) :: UW) (rmk 1 0 0 0) (PC G [.ref p0, .int p1] μ) (QI G x μ) 0 0 (fA G) := by
  refine Met.ofW (cc := cX11_has) (maxL := 2) (ret := (some .boolean)) (by decide) rfl ?_
  intro p e s m args below meth c s₁ B hml hv
  obtain ⟨X, hH, hr, rfl, hnm⟩ := cx_in B hml hv
  have X : Cx p s m _ meth c cX11_has 2 RX11 G := X
  have hx := X.1
  have hb := X.2.1
  have hown := X.2.2.2.1
  have hts := X.2.2.2.2.1
  have hRL : RmL (rmk 1 0 0 0) 1 0 := ⟨Nat.le_refl _, Nat.le_refl _⟩
  have hcs : 0 ≤ (rmk 0 0 0 0).cells ∧ 0 ≤ (rmk 0 0 0 0).slots := ⟨Nat.zero_le _, Nat.zero_le _⟩
  refine ls_in (Nat.le_of_ble_eq_true rfl) (fun ls hl => ?_)
  have hl : lv_has ls 2 [(0, .ref p0), (1, .int p1)] := hl
  unfold f_X11_has at h
  refine lv_iload_n hx hb dX11_has_0 rfl (lv_at hl 1 rfl) ?_
  refine lv_if_lt (tgt := 14) hx hb dX11_has_1 (by decide) (fun hc1 => ?_) (fun hc1 => ?_)
  · replace h := ift h hc1
    refine lv_iconst (v := 0) hx hb dX11_has_14 (by decide) ?_
    exact eZp X hH (by decide) h hr dX11_has_15
  · replace h := iff' h hc1
    refine lv_iload_n hx hb dX11_has_4 rfl (lv_at hl 1 rfl) ?_
    refine lv_aload_n hx hb dX11_has_5 rfl (lv_at hl 0 rfl) ?_
    obtain ⟨htx2, h⟩ := gsn h
    obtain ⟨x2, hx2, h⟩ := bnd h
    refine w_len X hH hx2 htx2 (k := 5) rfl dX11_has_6 ?_
    refine lv_icmp_ge (tgt := 14) hx hb dX11_has_7 (by decide) (fun hc3 => ?_) (fun hc3 => ?_)
    · replace h := ift h hc3
      refine lv_iconst (v := 0) hx hb dX11_has_14 (by decide) ?_
      exact eZp X hH (by decide) h hr dX11_has_15
    · replace h := iff' h hc3
      refine lv_iconst (v := 1) hx hb dX11_has_10 (by decide) ?_
      refine lv_goto (tgt := 15) hx hb dX11_has_11 (by decide) ?_
      exact eZp X hH (by decide) h hr dX11_has_15
set_option maxHeartbeats 1000000 in
theorem iv_X11_105 {p : Program} {e : Env} {R : Room} {s : State} {m : MethodId} {args : Array Value} {below : List Frame} {meth : Method} {c : Code} {H : Heap} {locs : List Loc} {cells slots : Nat} {Q : State → Prop} {cc : ByteArray} {pc : Nat} {ls : Array Slot} {rest : List Value} {nL : Nat} {G : CG} {μ : Mm} {q0 : Nat} {q1 : Int32} {x : Int32} {k k2 : Nat} (l : Launch) (X : Cx p s m args meth c cc nL RX11 G) (hH : HS G s μ H locs) (hRL : RmL R k k2) (hk : 1 + 1 ≤ k ∧ 21 ≤ k2) (h : f_X11_has μ q0 q1 = some x) (hls : ls.size = nL) (hroom : (rest.map fun v => v.category).sum ≤ 8) (hdg : decode cc pc = .ok (.invokestatic 105, 3)) (hcs : cells + 0 ≤ R.cells ∧ slots + 0 ≤ R.slots) (kk : ∀ (H1 : Heap) (locs1 : List Loc), HS G s μ H1 locs1 → W p l e R s m args below meth c H1 locs1 cells slots Q (F0 m (pc + 3) ls (.int x :: rest))) : W p l e R s m args below meth c H locs cells slots Q (F0 m pc ls (.int q1 :: .ref q0 :: rest)) := by
  refine kI hH (rS (As := [.ref q0, .int q1]) (rest := rest) X hH (c_X11_has l G μ q0 q1 x h) (List.forall_mem_cons.mpr ⟨u_295, (List.forall_mem_cons.mpr ⟨u_296, (List.forall_mem_cons.mpr ⟨u_21, (fun _ h9 => absurd h9 List.not_mem_nil)⟩)⟩)⟩) u_297 (rmo hRL (Nat.le_trans (by decide) hk.1) (Nat.le_trans (by decide) hk.2)) ddS_X11_has rfl hls rfl hroom hdg hcs) kk
set_option maxHeartbeats 1000000 in
theorem iv_X11_112 {p : Program} {e : Env} {R : Room} {s : State} {m : MethodId} {args : Array Value} {below : List Frame} {meth : Method} {c : Code} {H : Heap} {locs : List Loc} {cells slots : Nat} {Q : State → Prop} {cc : ByteArray} {pc : Nat} {ls : Array Slot} {rest : List Value} {nL : Nat} {G : CG} {μ : Mm} {a : Nat}  {x : Int32} {k k2 : Nat} (l : Launch) (X : Cx p s m args meth c cc nL RX11 G) (hH : HS G s μ H locs) (hRL : RmL R k k2) (hk : 1 + 1 ≤ k ∧ 20 ≤ k2) (h : f_X8_isThere μ a = some x) (hls : ls.size = nL) (hroom : (rest.map fun v => v.category).sum ≤ 8) (hdg : decode cc pc = .ok (.invokevirtual 112, 3)) (hcs : cells + 0 ≤ R.cells ∧ slots + 0 ≤ R.slots) (kk : ∀ (H1 : Heap) (locs1 : List Loc), HS G s μ H1 locs1 → W p l e R s m args below meth c H1 locs1 cells slots Q (F0 m (pc + 3) ls (.int x :: rest))) : W p l e R s m args below meth c H locs cells slots Q (F0 m pc ls (.ref a :: rest)) := by
  refine kI hH (rV (As := []) (rest := rest) X hH (t_X8_isThere h) vc_8 (c_X8_isThere l G μ a x h) (List.forall_mem_cons.mpr ⟨u_298, (List.forall_mem_cons.mpr ⟨u_299, (List.forall_mem_cons.mpr ⟨u_300, (List.forall_mem_cons.mpr ⟨u_23, (fun _ h9 => absurd h9 List.not_mem_nil)⟩)⟩)⟩)⟩) u_301 (rmo hRL (Nat.le_trans (by decide) hk.1) (Nat.le_trans (by decide) hk.2)) ddV_X8_isThere rfl hls rfl hroom hdg hcs) kk
set_option maxHeartbeats 1000000 in
theorem iv_X11_109 {p : Program} {e : Env} {R : Room} {s : State} {m : MethodId} {args : Array Value} {below : List Frame} {meth : Method} {c : Code} {H : Heap} {locs : List Loc} {cells slots : Nat} {Q : State → Prop} {cc : ByteArray} {pc : Nat} {ls : Array Slot} {rest : List Value} {nL : Nat} {G : CG} {μ : Mm} {a : Nat} {q0 : Int32} {x : Int32 × Mm} {k k2 : Nat} (l : Launch) (X : Cx p s m args meth c cc nL RX11 G) (hH : HS G s μ H locs) (hRL : RmL R k k2) (hk : 1 + 1 ≤ k ∧ 21 ≤ k2) (h : f_X11_find μ a q0 = some x) (hls : ls.size = nL) (hroom : (rest.map fun v => v.category).sum ≤ 8) (hdg : decode cc pc = .ok (.invokevirtual 109, 3)) (hcs : cells + 0 ≤ R.cells ∧ slots + 0 ≤ R.slots) (kk : ∀ (H1 : Heap) (locs1 : List Loc), HS G s x.2 H1 locs1 → W p l e R s m args below meth c H1 locs1 cells slots Q (F0 m (pc + 3) ls (.int x.1 :: rest))) : W p l e R s m args below meth c H locs cells slots Q (F0 m pc ls (.int q0 :: .ref a :: rest)) := by
  refine kI hH (rV (As := [.int q0]) (rest := rest) X hH (t_X11_find h) vc_11 (c_X11_find l G μ a q0 x h) (List.forall_mem_cons.mpr ⟨u_302, (List.forall_mem_cons.mpr ⟨u_304, (List.forall_mem_cons.mpr ⟨u_1, (List.forall_mem_cons.mpr ⟨u_21, (fun _ h9 => absurd h9 List.not_mem_nil)⟩)⟩)⟩)⟩) u_305 (rmo hRL (Nat.le_trans (by decide) hk.1) (Nat.le_trans (by decide) hk.2)) ddV_X11_find rfl hls rfl hroom hdg hcs) kk
theorem t_X11_refuse {μ : Mm} {a0 : Nat} {p1 : Nat} {p2 : Int32} {x : Int32 × Mm} (h : f_X11_refuse μ a0 p1 p2 = some x) : tg μ a0 = 12 := by
  unfold f_X11_refuse at h
  exact (gsn h).1
set_option maxHeartbeats 4000000 in
set_option maxRecDepth 100000 in
theorem c_X11_refuse (l : Launch) (G : CG) (μ : Mm) (a0 : Nat) (p1 : Nat) (p2 : Int32) (x : Int32 × Mm) (h : f_X11_refuse μ a0 p1 p2 = some x) : Met l yX11_refuse (.code yX11_refuse cX11_refuse 3 (some .int) :: UW) (rmk 2 21 0 0) (PC G [.ref a0, .ref p1, .int p2] μ) (QI G x.1 x.2) 0 0 (fA G) := by
  refine Met.ofW (cc := cX11_refuse) (maxL := 3) (ret := (some .int)) (by decide) rfl ?_
  intro p e s m args below meth c s₁ B hml hv
  obtain ⟨X, hH, hr, rfl, hnm⟩ := cx_in B hml hv
  have X : Cx p s m _ meth c cX11_refuse 3 RX11 G := X
  have hx := X.1
  have hb := X.2.1
  have hown := X.2.2.2.1
  have hts := X.2.2.2.2.1
  have hRL : RmL (rmk 2 21 0 0) 2 21 := ⟨Nat.le_refl _, Nat.le_refl _⟩
  have hcs : 0 ≤ (rmk 0 0 0 0).cells ∧ 0 ≤ (rmk 0 0 0 0).slots := ⟨Nat.zero_le _, Nat.zero_le _⟩
  refine ls_in (Nat.le_of_ble_eq_true rfl) (fun ls hl => ?_)
  have hl : lv_has ls 3 [(0, .ref a0), (1, .ref p1), (2, .int p2)] := hl
  unfold f_X11_refuse at h
  obtain ⟨htg, h⟩ := gsn h
  refine lv_aload_n hx hb dX11_refuse_0 rfl (lv_at hl 1 rfl) ?_
  refine lv_iload_n hx hb dX11_refuse_1 rfl (lv_at hl 2 rfl) ?_
  obtain ⟨x1, hx1, h⟩ := bnd h
  refine iv_X11_105 l X hH hRL (by decide) hx1 hl.1 (Nat.le_of_ble_eq_true rfl) dX11_refuse_2 hcs (fun H locs hH => ?_)
  refine lv_if_ne (tgt := 10) hx hb dX11_refuse_5 (by decide) (fun hc2 => ?_) (fun hc2 => ?_)
  · replace h := iff' h hc2
    refine lv_aload_n hx hb dX11_refuse_10 rfl (lv_at hl 1 rfl) ?_
    refine lv_iload_n hx hb dX11_refuse_11 rfl (lv_at hl 2 rfl) ?_
    obtain ⟨x3, hx3, h⟩ := bnd h
    refine w_aP X hH hx3 (by decide) (k := 5) rfl dX11_refuse_12 ?_
    obtain ⟨x4, hx4, h⟩ := bnd h
    refine iv_X11_112 l X hH hRL (by decide) hx4 hl.1 (Nat.le_of_ble_eq_true rfl) dX11_refuse_13 hcs (fun H locs hH => ?_)
    refine lv_if_eq (tgt := 23) hx hb dX11_refuse_16 (by decide) (fun hc5 => ?_) (fun hc5 => ?_)
    · replace h := ift h hc5
      refine lv_aload_n hx hb dX11_refuse_23 rfl (lv_at hl 0 rfl) ?_
      refine lv_iconst (v := 1) hx hb dX11_refuse_24 (by decide) ?_
      obtain ⟨x6, hx6, h⟩ := bnd h
      refine iv_X11_109 l X hH hRL (by decide) hx6 hl.1 (Nat.le_of_ble_eq_true rfl) dX11_refuse_25 hcs (fun H locs hH => ?_)
      exact eI X hH h hr dX11_refuse_28 (Nat.le_of_ble_eq_true rfl) (Nat.le_of_ble_eq_true rfl)
    · replace h := iff' h hc5
      refine lv_iconst (v := 0) hx hb dX11_refuse_19 (by decide) ?_
      refine lv_goto (tgt := 28) hx hb dX11_refuse_20 (by decide) ?_
      exact eI X hH h hr dX11_refuse_28 (Nat.le_of_ble_eq_true rfl) (Nat.le_of_ble_eq_true rfl)
  · replace h := ift h hc2
    refine lv_iconst (v := -1) hx hb dX11_refuse_8 (by decide) ?_
    exact eI X hH h hr dX11_refuse_9 (Nat.le_of_ble_eq_true rfl) (Nat.le_of_ble_eq_true rfl)
set_option maxHeartbeats 1000000 in
theorem iv_X11_98 {p : Program} {e : Env} {R : Room} {s : State} {m : MethodId} {args : Array Value} {below : List Frame} {meth : Method} {c : Code} {H : Heap} {locs : List Loc} {cells slots : Nat} {Q : State → Prop} {cc : ByteArray} {pc : Nat} {ls : Array Slot} {rest : List Value} {nL : Nat} {G : CG} {μ : Mm} {a : Nat} {q0 : Nat} {q1 : Int32} {x : Int32 × Mm} {k k2 : Nat} (l : Launch) (X : Cx p s m args meth c cc nL RX11 G) (hH : HS G s μ H locs) (hRL : RmL R k k2) (hk : 2 + 1 ≤ k ∧ 43 ≤ k2) (h : f_X11_refuse μ a q0 q1 = some x) (hls : ls.size = nL) (hroom : (rest.map fun v => v.category).sum ≤ 8) (hdg : decode cc pc = .ok (.invokevirtual 98, 3)) (hcs : cells + 0 ≤ R.cells ∧ slots + 0 ≤ R.slots) (kk : ∀ (H1 : Heap) (locs1 : List Loc), HS G s x.2 H1 locs1 → W p l e R s m args below meth c H1 locs1 cells slots Q (F0 m (pc + 3) ls (.int x.1 :: rest))) : W p l e R s m args below meth c H locs cells slots Q (F0 m pc ls (.int q1 :: .ref q0 :: .ref a :: rest)) := by
  refine kI hH (rV (As := [.ref q0, .int q1]) (rest := rest) X hH (t_X11_refuse h) vc_11 (c_X11_refuse l G μ a q0 q1 x h) (List.forall_mem_cons.mpr ⟨u_291, (List.forall_mem_cons.mpr ⟨u_293, (List.forall_mem_cons.mpr ⟨u_0, (List.forall_mem_cons.mpr ⟨u_21, (fun _ h9 => absurd h9 List.not_mem_nil)⟩)⟩)⟩)⟩) u_294 (rmo hRL (Nat.le_trans (by decide) hk.1) (Nat.le_trans (by decide) hk.2)) ddV_X11_refuse rfl hls rfl hroom hdg hcs) kk
set_option maxHeartbeats 1000000 in
theorem iv_X11_355 {p : Program} {e : Env} {R : Room} {s : State} {m : MethodId} {args : Array Value} {below : List Frame} {meth : Method} {c : Code} {H : Heap} {locs : List Loc} {cells slots : Nat} {Q : State → Prop} {cc : ByteArray} {pc : Nat} {ls : Array Slot} {rest : List Value} {nL : Nat} {G : CG} {μ : Mm} {a : Nat} {q0 : Int32} {x : Int32} {k k2 : Nat} (l : Launch) (X : Cx p s m args meth c cc nL RX11 G) (hH : HS G s μ H locs) (hRL : RmL R k k2) (hk : 1 + 1 ≤ k ∧ 21 ≤ k2) (h : f_X8_has μ a q0 = some x) (hls : ls.size = nL) (hroom : (rest.map fun v => v.category).sum ≤ 8) (hdg : decode cc pc = .ok (.invokevirtual 355, 3)) (hcs : cells + 0 ≤ R.cells ∧ slots + 0 ≤ R.slots) (kk : ∀ (H1 : Heap) (locs1 : List Loc), HS G s μ H1 locs1 → W p l e R s m args below meth c H1 locs1 cells slots Q (F0 m (pc + 3) ls (.int x :: rest))) : W p l e R s m args below meth c H locs cells slots Q (F0 m pc ls (.int q0 :: .ref a :: rest)) := by
  refine kI hH (rV (As := [.int q0]) (rest := rest) X hH (t_X8_has h) vc_8 (c_X8_has l G μ a q0 x h) (List.forall_mem_cons.mpr ⟨u_492, (List.forall_mem_cons.mpr ⟨u_493, (List.forall_mem_cons.mpr ⟨u_494, (List.forall_mem_cons.mpr ⟨u_23, (fun _ h9 => absurd h9 List.not_mem_nil)⟩)⟩)⟩)⟩) u_495 (rmo hRL (Nat.le_trans (by decide) hk.1) (Nat.le_trans (by decide) hk.2)) ddV_X8_has rfl hls rfl hroom hdg hcs) kk
theorem t_X11_refusePlace {μ : Mm} {a0 : Nat} {p1 : Nat} {p2 : Int32} {p3 : Int32} {x : Int32 × Mm} (h : f_X11_refusePlace μ a0 p1 p2 p3 = some x) : tg μ a0 = 12 := by
  unfold f_X11_refusePlace at h
  exact (gsn h).1
set_option maxHeartbeats 4000000 in
set_option maxRecDepth 100000 in
theorem c_X11_refusePlace (l : Launch) (G : CG) (μ : Mm) (a0 : Nat) (p1 : Nat) (p2 : Int32) (p3 : Int32) (x : Int32 × Mm) (h : f_X11_refusePlace μ a0 p1 p2 p3 = some x) : Met l yX11_refusePlace (.code yX11_refusePlace cX11_refusePlace 5 (some .int) :: UW) (rmk 3 43 0 0) (PC G [.ref a0, .ref p1, .int p2, .int p3] μ) (QI G x.1 x.2) 0 0 (fA G) := by
  refine Met.ofW (cc := cX11_refusePlace) (maxL := 5) (ret := (some .int)) (by decide) rfl ?_
  intro p e s m args below meth c s₁ B hml hv
  obtain ⟨X, hH, hr, rfl, hnm⟩ := cx_in B hml hv
  have X : Cx p s m _ meth c cX11_refusePlace 5 RX11 G := X
  have hx := X.1
  have hb := X.2.1
  have hown := X.2.2.2.1
  have hts := X.2.2.2.2.1
  have hRL : RmL (rmk 3 43 0 0) 3 43 := ⟨Nat.le_refl _, Nat.le_refl _⟩
  have hcs : 0 ≤ (rmk 0 0 0 0).cells ∧ 0 ≤ (rmk 0 0 0 0).slots := ⟨Nat.zero_le _, Nat.zero_le _⟩
  refine ls_in (Nat.le_of_ble_eq_true rfl) (fun ls hl => ?_)
  have hl : lv_has ls 5 [(0, .ref a0), (1, .ref p1), (2, .int p2), (3, .int p3)] := hl
  unfold f_X11_refusePlace at h
  obtain ⟨htg, h⟩ := gsn h
  refine lv_aload_n hx hb dX11_refusePlace_0 rfl (lv_at hl 0 rfl) ?_
  refine lv_aload_n hx hb dX11_refusePlace_1 rfl (lv_at hl 1 rfl) ?_
  refine lv_iload_n hx hb dX11_refusePlace_2 rfl (lv_at hl 2 rfl) ?_
  obtain ⟨x1, hx1, h⟩ := bnd h
  refine iv_X11_98 l X hH hRL (by decide) hx1 hl.1 (Nat.le_of_ble_eq_true rfl) dX11_refusePlace_3 hcs (fun H locs hH => ?_)
  refine lv_istore (lv' := [(4, .int x1.1), (0, .ref a0), (1, .ref p1), (2, .int p2), (3, .int p3)]) hx hb dX11_refusePlace_6 hl (by decide) rfl (fun ls hl => ?_)
  refine lv_iload hx hb dX11_refusePlace_8 (lv_at hl 0 rfl) ?_
  refine lv_if_eq (tgt := 16) hx hb dX11_refusePlace_10 (by decide) (fun hc2 => ?_) (fun hc2 => ?_)
  · replace h := ift h hc2
    refine lv_aload_n hx hb dX11_refusePlace_16 rfl (lv_at hl 2 rfl) ?_
    refine lv_iload_n hx hb dX11_refusePlace_17 rfl (lv_at hl 3 rfl) ?_
    obtain ⟨x3, hx3, h⟩ := bnd h
    refine w_aP X hH hx3 (by decide) (k := 5) rfl dX11_refusePlace_18 ?_
    refine lv_iload_n hx hb dX11_refusePlace_19 rfl (lv_at hl 4 rfl) ?_
    obtain ⟨x4, hx4, h⟩ := bnd h
    refine iv_X11_355 l X hH hRL (by decide) hx4 hl.1 (Nat.le_of_ble_eq_true rfl) dX11_refusePlace_20 hcs (fun H locs hH => ?_)
    refine lv_if_eq (tgt := 30) hx hb dX11_refusePlace_23 (by decide) (fun hc5 => ?_) (fun hc5 => ?_)
    · replace h := ift h hc5
      refine lv_aload_n hx hb dX11_refusePlace_30 rfl (lv_at hl 1 rfl) ?_
      refine lv_iconst (v := 2) hx hb dX11_refusePlace_31 (by decide) ?_
      obtain ⟨x6, hx6, h⟩ := bnd h
      refine iv_X11_109 l X hH hRL (by decide) hx6 hl.1 (Nat.le_of_ble_eq_true rfl) dX11_refusePlace_32 hcs (fun H locs hH => ?_)
      exact eI X hH h hr dX11_refusePlace_35 (Nat.le_of_ble_eq_true rfl) (Nat.le_of_ble_eq_true rfl)
    · replace h := iff' h hc5
      refine lv_iconst (v := 0) hx hb dX11_refusePlace_26 (by decide) ?_
      refine lv_goto (tgt := 35) hx hb dX11_refusePlace_27 (by decide) ?_
      exact eI X hH h hr dX11_refusePlace_35 (Nat.le_of_ble_eq_true rfl) (Nat.le_of_ble_eq_true rfl)
  · replace h := iff' h hc2
    refine lv_iload hx hb dX11_refusePlace_13 (lv_at hl 0 rfl) ?_
    exact eI X hH h hr dX11_refusePlace_15 (Nat.le_of_ble_eq_true rfl) (Nat.le_of_ble_eq_true rfl)
theorem t_X11_tell {μ : Mm} {a0 : Nat} {p1 : Int32} {x : Int32 × Mm} (h : f_X11_tell μ a0 p1 = some x) : tg μ a0 = 12 := by
  unfold f_X11_tell at h
  exact (gsn h).1
set_option maxHeartbeats 4000000 in
set_option maxRecDepth 100000 in
theorem c_X11_tell (l : Launch) (G : CG) (μ : Mm) (a0 : Nat) (p1 : Int32) (x : Int32 × Mm) (h : f_X11_tell μ a0 p1 = some x) : Met l yX11_tell (.code yX11_tell cX11_tell 2 (some .int) :: UW) (rmk 1 0 0 0) (PC G [.ref a0, .int p1] μ) (QI G x.1 x.2) 0 0 (fA G) := by
  refine Met.ofW (cc := cX11_tell) (maxL := 2) (ret := (some .int)) (by decide) rfl ?_
  intro p e s m args below meth c s₁ B hml hv
  obtain ⟨X, hH, hr, rfl, hnm⟩ := cx_in B hml hv
  have X : Cx p s m _ meth c cX11_tell 2 RX11 G := X
  have hx := X.1
  have hb := X.2.1
  have hown := X.2.2.2.1
  have hts := X.2.2.2.2.1
  have hRL : RmL (rmk 1 0 0 0) 1 0 := ⟨Nat.le_refl _, Nat.le_refl _⟩
  have hcs : 0 ≤ (rmk 0 0 0 0).cells ∧ 0 ≤ (rmk 0 0 0 0).slots := ⟨Nat.zero_le _, Nat.zero_le _⟩
  refine ls_in (Nat.le_of_ble_eq_true rfl) (fun ls hl => ?_)
  have hl : lv_has ls 2 [(0, .ref a0), (1, .int p1)] := hl
  unfold f_X11_tell at h
  obtain ⟨htg, h⟩ := gsn h
  refine lv_aload_n hx hb dX11_tell_0 rfl (lv_at hl 0 rfl) ?_
  refine lv_iload_n hx hb dX11_tell_1 rfl (lv_at hl 1 rfl) ?_
  obtain ⟨x1, hx1, h⟩ := bnd h
  refine pf_X11_69 X hH hx1 dX11_tell_2 (fun H locs hH => ?_)
  refine lv_iconst (v := 1) hx hb dX11_tell_5 (by decide) ?_
  exact eI X hH h hr dX11_tell_6 (Nat.le_of_ble_eq_true rfl) (Nat.le_of_ble_eq_true rfl)
set_option maxHeartbeats 1000000 in
theorem iv_X11_83 {p : Program} {e : Env} {R : Room} {s : State} {m : MethodId} {args : Array Value} {below : List Frame} {meth : Method} {c : Code} {H : Heap} {locs : List Loc} {cells slots : Nat} {Q : State → Prop} {cc : ByteArray} {pc : Nat} {ls : Array Slot} {rest : List Value} {nL : Nat} {G : CG} {μ : Mm} {a : Nat} {q0 : Nat} {q1 : Int32} {q2 : Int32} {x : Int32 × Mm} {k k2 : Nat} (l : Launch) (X : Cx p s m args meth c cc nL RX11 G) (hH : HS G s μ H locs) (hRL : RmL R k k2) (hk : 3 + 1 ≤ k ∧ 67 ≤ k2) (h : f_X11_refusePlace μ a q0 q1 q2 = some x) (hls : ls.size = nL) (hroom : (rest.map fun v => v.category).sum ≤ 8) (hdg : decode cc pc = .ok (.invokevirtual 83, 3)) (hcs : cells + 0 ≤ R.cells ∧ slots + 0 ≤ R.slots) (kk : ∀ (H1 : Heap) (locs1 : List Loc), HS G s x.2 H1 locs1 → W p l e R s m args below meth c H1 locs1 cells slots Q (F0 m (pc + 3) ls (.int x.1 :: rest))) : W p l e R s m args below meth c H locs cells slots Q (F0 m pc ls (.int q2 :: .int q1 :: .ref q0 :: .ref a :: rest)) := by
  refine kI hH (rV (As := [.ref q0, .int q1, .int q2]) (rest := rest) X hH (t_X11_refusePlace h) vc_11 (c_X11_refusePlace l G μ a q0 q1 q2 x h) (List.forall_mem_cons.mpr ⟨u_488, (List.forall_mem_cons.mpr ⟨u_490, (List.forall_mem_cons.mpr ⟨u_5, (List.forall_mem_cons.mpr ⟨u_21, (fun _ h9 => absurd h9 List.not_mem_nil)⟩)⟩)⟩)⟩) u_491 (rmo hRL (Nat.le_trans (by decide) hk.1) (Nat.le_trans (by decide) hk.2)) ddV_X11_refusePlace rfl hls rfl hroom hdg hcs) kk
set_option maxHeartbeats 1000000 in
theorem iv_X11_91 {p : Program} {e : Env} {R : Room} {s : State} {m : MethodId} {args : Array Value} {below : List Frame} {meth : Method} {c : Code} {H : Heap} {locs : List Loc} {cells slots : Nat} {Q : State → Prop} {cc : ByteArray} {pc : Nat} {ls : Array Slot} {rest : List Value} {nL : Nat} {G : CG} {μ : Mm} {a : Nat} {q0 : Int32} {x : Int32 × Mm} {k k2 : Nat} (l : Launch) (X : Cx p s m args meth c cc nL RX11 G) (hH : HS G s μ H locs) (hRL : RmL R k k2) (hk : 1 + 1 ≤ k ∧ 21 ≤ k2) (h : f_X11_tell μ a q0 = some x) (hls : ls.size = nL) (hroom : (rest.map fun v => v.category).sum ≤ 8) (hdg : decode cc pc = .ok (.invokevirtual 91, 3)) (hcs : cells + 0 ≤ R.cells ∧ slots + 0 ≤ R.slots) (kk : ∀ (H1 : Heap) (locs1 : List Loc), HS G s x.2 H1 locs1 → W p l e R s m args below meth c H1 locs1 cells slots Q (F0 m (pc + 3) ls (.int x.1 :: rest))) : W p l e R s m args below meth c H locs cells slots Q (F0 m pc ls (.int q0 :: .ref a :: rest)) := by
  refine kI hH (rV (As := [.int q0]) (rest := rest) X hH (t_X11_tell h) vc_11 (c_X11_tell l G μ a q0 x h) (List.forall_mem_cons.mpr ⟨u_634, (List.forall_mem_cons.mpr ⟨u_636, (List.forall_mem_cons.mpr ⟨u_13, (List.forall_mem_cons.mpr ⟨u_21, (fun _ h9 => absurd h9 List.not_mem_nil)⟩)⟩)⟩)⟩) u_637 (rmo hRL (Nat.le_trans (by decide) hk.1) (Nat.le_trans (by decide) hk.2)) ddV_X11_tell rfl hls rfl hroom hdg hcs) kk
theorem t_X11_at {μ : Mm} {a0 : Nat} {p1 : Int32} {p2 : Int32} {x : Int32 × Mm} (h : f_X11_at μ a0 p1 p2 = some x) : tg μ a0 = 12 := by
  unfold f_X11_at at h
  exact (gsn h).1
set_option maxHeartbeats 4000000 in
set_option maxRecDepth 100000 in
theorem c_X11_at (l : Launch) (G : CG) (μ : Mm) (a0 : Nat) (p1 : Int32) (p2 : Int32) (x : Int32 × Mm) (h : f_X11_at μ a0 p1 p2 = some x) : Met l yX11_at (.code yX11_at cX11_at 4 (some .int) :: UW) (rmk 4 67 0 0) (PC G [.ref a0, .int p1, .int p2] μ) (QI G x.1 x.2) 0 0 (fA G) := by
  refine Met.ofW (cc := cX11_at) (maxL := 4) (ret := (some .int)) (by decide) rfl ?_
  intro p e s m args below meth c s₁ B hml hv
  obtain ⟨X, hH, hr, rfl, hnm⟩ := cx_in B hml hv
  have X : Cx p s m _ meth c cX11_at 4 RX11 G := X
  have hx := X.1
  have hb := X.2.1
  have hown := X.2.2.2.1
  have hts := X.2.2.2.2.1
  have hRL : RmL (rmk 4 67 0 0) 4 67 := ⟨Nat.le_refl _, Nat.le_refl _⟩
  have hcs : 0 ≤ (rmk 0 0 0 0).cells ∧ 0 ≤ (rmk 0 0 0 0).slots := ⟨Nat.zero_le _, Nat.zero_le _⟩
  refine ls_in (Nat.le_of_ble_eq_true rfl) (fun ls hl => ?_)
  have hl : lv_has ls 4 [(0, .ref a0), (1, .int p1), (2, .int p2)] := hl
  unfold f_X11_at at h
  obtain ⟨htg, h⟩ := gsn h
  refine lv_aload_n hx hb dX11_at_0 rfl (lv_at hl 0 rfl) ?_
  refine lv_aload_n hx hb dX11_at_1 rfl (lv_at hl 0 rfl) ?_
  obtain ⟨x1, hx1, h⟩ := bnd h
  refine gf_X11_11 X hH hx1 dX11_at_2 ?_
  refine lv_iload_n hx hb dX11_at_5 rfl (lv_at hl 1 rfl) ?_
  refine lv_iload_n hx hb dX11_at_6 rfl (lv_at hl 2 rfl) ?_
  obtain ⟨x2, hx2, h⟩ := bnd h
  refine iv_X11_83 l X hH hRL (by decide) hx2 hl.1 (Nat.le_of_ble_eq_true rfl) dX11_at_7 hcs (fun H locs hH => ?_)
  refine lv_istore_n (lv' := [(3, .int x2.1), (0, .ref a0), (1, .int p1), (2, .int p2)]) hx hb dX11_at_10 rfl hl (by decide) rfl (fun ls hl => ?_)
  refine lv_iload_n hx hb dX11_at_11 rfl (lv_at hl 0 rfl) ?_
  refine lv_if_eq (tgt := 19) hx hb dX11_at_12 (by decide) (fun hc3 => ?_) (fun hc3 => ?_)
  · replace h := ift h hc3
    refine lv_aload_n hx hb dX11_at_19 rfl (lv_at hl 1 rfl) ?_
    refine lv_aload_n hx hb dX11_at_20 rfl (lv_at hl 1 rfl) ?_
    obtain ⟨x4, hx4, h⟩ := bnd h
    refine gf_X11_11 X hH hx4 dX11_at_21 ?_
    refine lv_iload_n hx hb dX11_at_24 rfl (lv_at hl 2 rfl) ?_
    obtain ⟨x5, hx5, h⟩ := bnd h
    refine w_aP X hH hx5 (by decide) (k := 5) rfl dX11_at_25 ?_
    obtain ⟨x6, hx6, h⟩ := bnd h
    refine gf_X11_95 X hH hx6 dX11_at_26 ?_
    refine lv_iload_n hx hb dX11_at_29 rfl (lv_at hl 3 rfl) ?_
    obtain ⟨x7, hx7, h⟩ := bnd h
    refine w_aI X hH hx7 dX11_at_30 ?_
    obtain ⟨x8, hx8, h⟩ := bnd h
    refine iv_X11_91 l X hH hRL (by decide) hx8 hl.1 (Nat.le_of_ble_eq_true rfl) dX11_at_31 hcs (fun H locs hH => ?_)
    exact eI X hH h hr dX11_at_34 (Nat.le_of_ble_eq_true rfl) (Nat.le_of_ble_eq_true rfl)
  · replace h := iff' h hc3
    refine lv_iload_n hx hb dX11_at_15 rfl (lv_at hl 0 rfl) ?_
    refine lv_goto (tgt := 34) hx hb dX11_at_16 (by decide) ?_
    exact eI X hH h hr dX11_at_34 (Nat.le_of_ble_eq_true rfl) (Nat.le_of_ble_eq_true rfl)
set_option maxHeartbeats 1000000 in
theorem iv_X11_102 {p : Program} {e : Env} {R : Room} {s : State} {m : MethodId} {args : Array Value} {below : List Frame} {meth : Method} {c : Code} {H : Heap} {locs : List Loc} {cells slots : Nat} {Q : State → Prop} {cc : ByteArray} {pc : Nat} {ls : Array Slot} {rest : List Value} {nL : Nat} {G : CG} {μ : Mm} {a : Nat}  {x : Mm} {k k2 : Nat} (l : Launch) (X : Cx p s m args meth c cc nL RX11 G) (hH : HS G s μ H locs) (hRL : RmL R k k2) (hk : 1 + 1 ≤ k ∧ 20 ≤ k2) (h : f_X8_close μ a = some x) (hls : ls.size = nL) (hroom : (rest.map fun v => v.category).sum ≤ 8) (hdg : decode cc pc = .ok (.invokevirtual 102, 3)) (hcs : cells + 0 ≤ R.cells ∧ slots + 0 ≤ R.slots) (kk : ∀ (H1 : Heap) (locs1 : List Loc), HS G s x H1 locs1 → W p l e R s m args below meth c H1 locs1 cells slots Q (F0 m (pc + 3) ls rest)) : W p l e R s m args below meth c H locs cells slots Q (F0 m pc ls (.ref a :: rest)) := by
  refine kV0 hH (rV (As := []) (rest := rest) X hH (t_X8_close h) vc_8 (c_X8_close l G μ a x h) (List.forall_mem_cons.mpr ⟨u_306, (List.forall_mem_cons.mpr ⟨u_307, (List.forall_mem_cons.mpr ⟨u_308, (List.forall_mem_cons.mpr ⟨u_23, (fun _ h9 => absurd h9 List.not_mem_nil)⟩)⟩)⟩)⟩) u_309 (rmo hRL (Nat.le_trans (by decide) hk.1) (Nat.le_trans (by decide) hk.2)) ddV_X8_close rfl hls rfl hroom hdg hcs) kk
theorem t_X11_tear {μ : Mm} {a0 : Nat} {p1 : Int32} {x : Int32 × Mm} (h : f_X11_tear μ a0 p1 = some x) : tg μ a0 = 12 := by
  unfold f_X11_tear at h
  exact (gsn h).1
set_option maxHeartbeats 4000000 in
set_option maxRecDepth 100000 in
theorem c_X11_tear (l : Launch) (G : CG) (μ : Mm) (a0 : Nat) (p1 : Int32) (x : Int32 × Mm) (h : f_X11_tear μ a0 p1 = some x) : Met l yX11_tear (.code yX11_tear cX11_tear 3 (some .int) :: UW) (rmk 3 43 0 0) (PC G [.ref a0, .int p1] μ) (QI G x.1 x.2) 0 0 (fA G) := by
  refine Met.ofW (cc := cX11_tear) (maxL := 3) (ret := (some .int)) (by decide) rfl ?_
  intro p e s m args below meth c s₁ B hml hv
  obtain ⟨X, hH, hr, rfl, hnm⟩ := cx_in B hml hv
  have X : Cx p s m _ meth c cX11_tear 3 RX11 G := X
  have hx := X.1
  have hb := X.2.1
  have hown := X.2.2.2.1
  have hts := X.2.2.2.2.1
  have hRL : RmL (rmk 3 43 0 0) 3 43 := ⟨Nat.le_refl _, Nat.le_refl _⟩
  have hcs : 0 ≤ (rmk 0 0 0 0).cells ∧ 0 ≤ (rmk 0 0 0 0).slots := ⟨Nat.zero_le _, Nat.zero_le _⟩
  refine ls_in (Nat.le_of_ble_eq_true rfl) (fun ls hl => ?_)
  have hl : lv_has ls 3 [(0, .ref a0), (1, .int p1)] := hl
  unfold f_X11_tear at h
  obtain ⟨htg, h⟩ := gsn h
  refine lv_aload_n hx hb dX11_tear_0 rfl (lv_at hl 0 rfl) ?_
  refine lv_aload_n hx hb dX11_tear_1 rfl (lv_at hl 0 rfl) ?_
  obtain ⟨x1, hx1, h⟩ := bnd h
  refine gf_X11_11 X hH hx1 dX11_tear_2 ?_
  refine lv_iload_n hx hb dX11_tear_5 rfl (lv_at hl 1 rfl) ?_
  obtain ⟨x2, hx2, h⟩ := bnd h
  refine iv_X11_98 l X hH hRL (by decide) hx2 hl.1 (Nat.le_of_ble_eq_true rfl) dX11_tear_6 hcs (fun H locs hH => ?_)
  refine lv_istore_n (lv' := [(2, .int x2.1), (0, .ref a0), (1, .int p1)]) hx hb dX11_tear_9 rfl hl (by decide) rfl (fun ls hl => ?_)
  refine lv_iload_n hx hb dX11_tear_10 rfl (lv_at hl 0 rfl) ?_
  refine lv_if_eq (tgt := 16) hx hb dX11_tear_11 (by decide) (fun hc3 => ?_) (fun hc3 => ?_)
  · replace h := ift h hc3
    refine lv_aload_n hx hb dX11_tear_16 rfl (lv_at hl 1 rfl) ?_
    obtain ⟨x4, hx4, h⟩ := bnd h
    refine gf_X11_11 X hH hx4 dX11_tear_17 ?_
    refine lv_iload_n hx hb dX11_tear_20 rfl (lv_at hl 2 rfl) ?_
    obtain ⟨x5, hx5, h⟩ := bnd h
    refine w_aP X hH hx5 (by decide) (k := 5) rfl dX11_tear_21 ?_
    obtain ⟨x6, hx6, h⟩ := bnd h
    refine iv_X11_102 l X hH hRL (by decide) hx6 hl.1 (Nat.le_of_ble_eq_true rfl) dX11_tear_22 hcs (fun H locs hH => ?_)
    refine lv_iconst (v := 1) hx hb dX11_tear_25 (by decide) ?_
    exact eI X hH h hr dX11_tear_26 (Nat.le_of_ble_eq_true rfl) (Nat.le_of_ble_eq_true rfl)
  · replace h := iff' h hc3
    refine lv_iload_n hx hb dX11_tear_14 rfl (lv_at hl 0 rfl) ?_
    exact eI X hH h hr dX11_tear_15 (Nat.le_of_ble_eq_true rfl) (Nat.le_of_ble_eq_true rfl)
set_option maxHeartbeats 1000000 in
theorem iv_X11_357 {p : Program} {e : Env} {R : Room} {s : State} {m : MethodId} {args : Array Value} {below : List Frame} {meth : Method} {c : Code} {H : Heap} {locs : List Loc} {cells slots : Nat} {Q : State → Prop} {cc : ByteArray} {pc : Nat} {ls : Array Slot} {rest : List Value} {nL : Nat} {G : CG} {μ : Mm} {a : Nat} {q0 : Int32} {q1 : Int32} {x : Mm} {k k2 : Nat} (l : Launch) (X : Cx p s m args meth c cc nL RX11 G) (hH : HS G s μ H locs) (hRL : RmL R k k2) (hk : 1 + 1 ≤ k ∧ 55 ≤ k2) (h : f_X8_open μ a q0 q1 = some x) (hls : ls.size = nL) (hroom : (rest.map fun v => v.category).sum ≤ 8) (hdg : decode cc pc = .ok (.invokevirtual 357, 3)) (hcs : cells + 0 ≤ R.cells ∧ slots + 0 ≤ R.slots) (kk : ∀ (H1 : Heap) (locs1 : List Loc), HS G s x H1 locs1 → W p l e R s m args below meth c H1 locs1 cells slots Q (F0 m (pc + 3) ls rest)) : W p l e R s m args below meth c H locs cells slots Q (F0 m pc ls (.int q1 :: .int q0 :: .ref a :: rest)) := by
  refine kV0 hH (rV (As := [.int q0, .int q1]) (rest := rest) X hH (t_X8_open h) vc_8 (c_X8_open l G μ a q0 q1 x h) (List.forall_mem_cons.mpr ⟨u_480, (List.forall_mem_cons.mpr ⟨u_97, (List.forall_mem_cons.mpr ⟨u_98, (List.forall_mem_cons.mpr ⟨u_23, (fun _ h9 => absurd h9 List.not_mem_nil)⟩)⟩)⟩)⟩) u_99 (rmo hRL (Nat.le_trans (by decide) hk.1) (Nat.le_trans (by decide) hk.2)) ddV_X8_open rfl hls rfl hroom hdg hcs) kk
theorem t_X11_open {μ : Mm} {a0 : Nat} {p1 : Nat} {p2 : Int32} {p3 : Int32} {p4 : Int32} {x : Int32 × Mm} (h : f_X11_open μ a0 p1 p2 p3 p4 = some x) : tg μ a0 = 12 := by
  unfold f_X11_open at h
  exact (gsn h).1
set_option maxHeartbeats 4000000 in
set_option maxRecDepth 100000 in
theorem c_X11_open (l : Launch) (G : CG) (μ : Mm) (a0 : Nat) (p1 : Nat) (p2 : Int32) (p3 : Int32) (p4 : Int32) (x : Int32 × Mm) (h : f_X11_open μ a0 p1 p2 p3 p4 = some x) : Met l yX11_open (.code yX11_open cX11_open 5 (some .int) :: UW) (rmk 2 55 0 0) (PC G [.ref a0, .ref p1, .int p2, .int p3, .int p4] μ) (QI G x.1 x.2) 0 0 (fA G) := by
  refine Met.ofW (cc := cX11_open) (maxL := 5) (ret := (some .int)) (by decide) rfl ?_
  intro p e s m args below meth c s₁ B hml hv
  obtain ⟨X, hH, hr, rfl, hnm⟩ := cx_in B hml hv
  have X : Cx p s m _ meth c cX11_open 5 RX11 G := X
  have hx := X.1
  have hb := X.2.1
  have hown := X.2.2.2.1
  have hts := X.2.2.2.2.1
  have hRL : RmL (rmk 2 55 0 0) 2 55 := ⟨Nat.le_refl _, Nat.le_refl _⟩
  have hcs : 0 ≤ (rmk 0 0 0 0).cells ∧ 0 ≤ (rmk 0 0 0 0).slots := ⟨Nat.zero_le _, Nat.zero_le _⟩
  refine ls_in (Nat.le_of_ble_eq_true rfl) (fun ls hl => ?_)
  have hl : lv_has ls 5 [(0, .ref a0), (1, .ref p1), (2, .int p2), (3, .int p3), (4, .int p4)] := hl
  unfold f_X11_open at h
  obtain ⟨htg, h⟩ := gsn h
  refine lv_aload_n hx hb dX11_open_0 rfl (lv_at hl 1 rfl) ?_
  refine lv_iload_n hx hb dX11_open_1 rfl (lv_at hl 2 rfl) ?_
  obtain ⟨x1, hx1, h⟩ := bnd h
  refine iv_X11_105 l X hH hRL (by decide) hx1 hl.1 (Nat.le_of_ble_eq_true rfl) dX11_open_2 hcs (fun H locs hH => ?_)
  refine lv_if_eq (tgt := 19) hx hb dX11_open_5 (by decide) (fun hc2 => ?_) (fun hc2 => ?_)
  · replace h := ift h hc2
    refine lv_iconst (v := -1) hx hb dX11_open_19 (by decide) ?_
    exact eI X hH h hr dX11_open_20 (Nat.le_of_ble_eq_true rfl) (Nat.le_of_ble_eq_true rfl)
  · replace h := iff' h hc2
    refine lv_iload_n hx hb dX11_open_8 rfl (lv_at hl 3 rfl) ?_
    refine lv_aload_n hx hb dX11_open_9 rfl (lv_at hl 1 rfl) ?_
    refine lv_iload_n hx hb dX11_open_10 rfl (lv_at hl 2 rfl) ?_
    obtain ⟨x3, hx3, h⟩ := bnd h
    refine w_aP X hH hx3 (by decide) (k := 5) rfl dX11_open_11 ?_
    obtain ⟨x4, hx4, h⟩ := bnd h
    refine gf_X11_95 X hH hx4 dX11_open_12 ?_
    obtain ⟨htx5, h⟩ := gsn h
    obtain ⟨x5, hx5, h⟩ := bnd h
    refine w_len X hH hx5 htx5 (k := 1) rfl dX11_open_15 ?_
    refine lv_icmp_le (tgt := 21) hx hb dX11_open_16 (by decide) (fun hc6 => ?_) (fun hc6 => ?_)
    · replace h := ift h hc6
      refine lv_iload_n hx hb dX11_open_21 rfl (lv_at hl 3 rfl) ?_
      refine lv_if_ge (tgt := 31) hx hb dX11_open_22 (by decide) (fun hc7 => ?_) (fun hc7 => ?_)
      · replace h := ift h hc7
        refine lv_aload_n hx hb dX11_open_31 rfl (lv_at hl 1 rfl) ?_
        refine lv_iload_n hx hb dX11_open_32 rfl (lv_at hl 2 rfl) ?_
        obtain ⟨x8, hx8, h⟩ := bnd h
        refine w_aP X hH hx8 (by decide) (k := 5) rfl dX11_open_33 ?_
        refine lv_iload_n hx hb dX11_open_34 rfl (lv_at hl 3 rfl) ?_
        refine lv_iload hx hb dX11_open_35 (lv_at hl 4 rfl) ?_
        obtain ⟨x9, hx9, h⟩ := bnd h
        refine iv_X11_357 l X hH hRL (by decide) hx9 hl.1 (Nat.le_of_ble_eq_true rfl) dX11_open_37 hcs (fun H locs hH => ?_)
        refine lv_iload_n hx hb dX11_open_40 rfl (lv_at hl 3 rfl) ?_
        exact eI X hH h hr dX11_open_41 (Nat.le_of_ble_eq_true rfl) (Nat.le_of_ble_eq_true rfl)
      · replace h := iff' h hc7
        refine lv_aload_n hx hb dX11_open_25 rfl (lv_at hl 0 rfl) ?_
        refine lv_iconst (v := 5) hx hb dX11_open_26 (by decide) ?_
        obtain ⟨x10, hx10, h⟩ := bnd h
        refine iv_X11_109 l X hH hRL (by decide) hx10 hl.1 (Nat.le_of_ble_eq_true rfl) dX11_open_27 hcs (fun H locs hH => ?_)
        exact eI X hH h hr dX11_open_30 (Nat.le_of_ble_eq_true rfl) (Nat.le_of_ble_eq_true rfl)
    · replace h := iff' h hc6
      refine lv_iconst (v := -1) hx hb dX11_open_19 (by decide) ?_
      exact eI X hH h hr dX11_open_20 (Nat.le_of_ble_eq_true rfl) (Nat.le_of_ble_eq_true rfl)
set_option maxHeartbeats 1000000 in
theorem iv_X11_79 {p : Program} {e : Env} {R : Room} {s : State} {m : MethodId} {args : Array Value} {below : List Frame} {meth : Method} {c : Code} {H : Heap} {locs : List Loc} {cells slots : Nat} {Q : State → Prop} {cc : ByteArray} {pc : Nat} {ls : Array Slot} {rest : List Value} {nL : Nat} {G : CG} {μ : Mm} {a : Nat} {q0 : Nat} {q1 : Int32} {q2 : Int32} {q3 : Int32} {x : Int32 × Mm} {k k2 : Nat} (l : Launch) (X : Cx p s m args meth c cc nL RX11 G) (hH : HS G s μ H locs) (hRL : RmL R k k2) (hk : 2 + 1 ≤ k ∧ 79 ≤ k2) (h : f_X11_open μ a q0 q1 q2 q3 = some x) (hls : ls.size = nL) (hroom : (rest.map fun v => v.category).sum ≤ 8) (hdg : decode cc pc = .ok (.invokevirtual 79, 3)) (hcs : cells + 0 ≤ R.cells ∧ slots + 0 ≤ R.slots) (kk : ∀ (H1 : Heap) (locs1 : List Loc), HS G s x.2 H1 locs1 → W p l e R s m args below meth c H1 locs1 cells slots Q (F0 m (pc + 3) ls (.int x.1 :: rest))) : W p l e R s m args below meth c H locs cells slots Q (F0 m pc ls (.int q3 :: .int q2 :: .int q1 :: .ref q0 :: .ref a :: rest)) := by
  refine kI hH (rV (As := [.ref q0, .int q1, .int q2, .int q3]) (rest := rest) X hH (t_X11_open h) vc_11 (c_X11_open l G μ a q0 q1 q2 q3 x h) (List.forall_mem_cons.mpr ⟨u_476, (List.forall_mem_cons.mpr ⟨u_478, (List.forall_mem_cons.mpr ⟨u_4, (List.forall_mem_cons.mpr ⟨u_21, (fun _ h9 => absurd h9 List.not_mem_nil)⟩)⟩)⟩)⟩) u_479 (rmo hRL (Nat.le_trans (by decide) hk.1) (Nat.le_trans (by decide) hk.2)) ddV_X11_open rfl hls rfl hroom hdg hcs) kk
theorem t_X11_text {μ : Mm} {a0 : Nat} {p1 : Int32} {p2 : Int32} {x : Int32 × Mm} (h : f_X11_text μ a0 p1 p2 = some x) : tg μ a0 = 12 := by
  unfold f_X11_text at h
  exact (gsn h).1
set_option maxHeartbeats 4000000 in
set_option maxRecDepth 100000 in
theorem c_X11_text (l : Launch) (G : CG) (μ : Mm) (a0 : Nat) (p1 : Int32) (p2 : Int32) (x : Int32 × Mm) (h : f_X11_text μ a0 p1 p2 = some x) : Met l yX11_text (.code yX11_text cX11_text 3 (some .int) :: UW) (rmk 3 79 0 0) (PC G [.ref a0, .int p1, .int p2] μ) (QI G x.1 x.2) 0 0 (fA G) := by
  refine Met.ofW (cc := cX11_text) (maxL := 3) (ret := (some .int)) (by decide) rfl ?_
  intro p e s m args below meth c s₁ B hml hv
  obtain ⟨X, hH, hr, rfl, hnm⟩ := cx_in B hml hv
  have X : Cx p s m _ meth c cX11_text 3 RX11 G := X
  have hx := X.1
  have hb := X.2.1
  have hown := X.2.2.2.1
  have hts := X.2.2.2.2.1
  have hRL : RmL (rmk 3 79 0 0) 3 79 := ⟨Nat.le_refl _, Nat.le_refl _⟩
  have hcs : 0 ≤ (rmk 0 0 0 0).cells ∧ 0 ≤ (rmk 0 0 0 0).slots := ⟨Nat.zero_le _, Nat.zero_le _⟩
  refine ls_in (Nat.le_of_ble_eq_true rfl) (fun ls hl => ?_)
  have hl : lv_has ls 3 [(0, .ref a0), (1, .int p1), (2, .int p2)] := hl
  unfold f_X11_text at h
  obtain ⟨htg, h⟩ := gsn h
  refine lv_aload_n hx hb dX11_text_0 rfl (lv_at hl 0 rfl) ?_
  refine lv_aload_n hx hb dX11_text_1 rfl (lv_at hl 0 rfl) ?_
  obtain ⟨x1, hx1, h⟩ := bnd h
  refine gf_X11_15 X hH hx1 dX11_text_2 ?_
  refine lv_iload_n hx hb dX11_text_5 rfl (lv_at hl 1 rfl) ?_
  refine lv_iload_n hx hb dX11_text_6 rfl (lv_at hl 2 rfl) ?_
  refine lv_bipush (v := 32) hx hb dX11_text_7 (by decide) ?_
  obtain ⟨x2, hx2, h⟩ := bnd h
  refine iv_X11_79 l X hH hRL (by decide) hx2 hl.1 (Nat.le_of_ble_eq_true rfl) dX11_text_9 hcs (fun H locs hH => ?_)
  exact eI X hH h hr dX11_text_12 (Nat.le_of_ble_eq_true rfl) (Nat.le_of_ble_eq_true rfl)
set_option maxHeartbeats 1000000 in
theorem iv_X11_87 {p : Program} {e : Env} {R : Room} {s : State} {m : MethodId} {args : Array Value} {below : List Frame} {meth : Method} {c : Code} {H : Heap} {locs : List Loc} {cells slots : Nat} {Q : State → Prop} {cc : ByteArray} {pc : Nat} {ls : Array Slot} {rest : List Value} {nL : Nat} {G : CG} {μ : Mm} {a : Nat} {q0 : Int32} {q1 : Int32} {x : Int32 × Mm} {k k2 : Nat} (l : Launch) (X : Cx p s m args meth c cc nL RX11 G) (hH : HS G s μ H locs) (hRL : RmL R k k2) (hk : 2 + 1 ≤ k ∧ 44 ≤ k2) (h : f_X8_replace μ a q0 q1 = some x) (hls : ls.size = nL) (hroom : (rest.map fun v => v.category).sum ≤ 8) (hdg : decode cc pc = .ok (.invokevirtual 87, 3)) (hcs : cells + 0 ≤ R.cells ∧ slots + 0 ≤ R.slots) (kk : ∀ (H1 : Heap) (locs1 : List Loc), HS G s x.2 H1 locs1 → W p l e R s m args below meth c H1 locs1 cells slots Q (F0 m (pc + 3) ls (.int x.1 :: rest))) : W p l e R s m args below meth c H locs cells slots Q (F0 m pc ls (.int q1 :: .int q0 :: .ref a :: rest)) := by
  refine kI hH (rV (As := [.int q0, .int q1]) (rest := rest) X hH (t_X8_replace h) vc_8 (c_X8_replace l G μ a q0 q1 x h) (List.forall_mem_cons.mpr ⟨u_496, (List.forall_mem_cons.mpr ⟨u_497, (List.forall_mem_cons.mpr ⟨u_498, (List.forall_mem_cons.mpr ⟨u_23, (fun _ h9 => absurd h9 List.not_mem_nil)⟩)⟩)⟩)⟩) u_499 (rmo hRL (Nat.le_trans (by decide) hk.1) (Nat.le_trans (by decide) hk.2)) ddV_X8_replace rfl hls rfl hroom hdg hcs) kk
theorem t_X11_put {μ : Mm} {a0 : Nat} {p1 : Int32} {p2 : Int32} {p3 : Int32} {x : Int32 × Mm} (h : f_X11_put μ a0 p1 p2 p3 = some x) : tg μ a0 = 12 := by
  unfold f_X11_put at h
  exact (gsn h).1
set_option maxHeartbeats 4000000 in
set_option maxRecDepth 100000 in
theorem c_X11_put (l : Launch) (G : CG) (μ : Mm) (a0 : Nat) (p1 : Int32) (p2 : Int32) (p3 : Int32) (x : Int32 × Mm) (h : f_X11_put μ a0 p1 p2 p3 = some x) : Met l yX11_put (.code yX11_put cX11_put 5 (some .int) :: UW) (rmk 4 67 0 0) (PC G [.ref a0, .int p1, .int p2, .int p3] μ) (QI G x.1 x.2) 0 0 (fA G) := by
  refine Met.ofW (cc := cX11_put) (maxL := 5) (ret := (some .int)) (by decide) rfl ?_
  intro p e s m args below meth c s₁ B hml hv
  obtain ⟨X, hH, hr, rfl, hnm⟩ := cx_in B hml hv
  have X : Cx p s m _ meth c cX11_put 5 RX11 G := X
  have hx := X.1
  have hb := X.2.1
  have hown := X.2.2.2.1
  have hts := X.2.2.2.2.1
  have hRL : RmL (rmk 4 67 0 0) 4 67 := ⟨Nat.le_refl _, Nat.le_refl _⟩
  have hcs : 0 ≤ (rmk 0 0 0 0).cells ∧ 0 ≤ (rmk 0 0 0 0).slots := ⟨Nat.zero_le _, Nat.zero_le _⟩
  refine ls_in (Nat.le_of_ble_eq_true rfl) (fun ls hl => ?_)
  have hl : lv_has ls 5 [(0, .ref a0), (1, .int p1), (2, .int p2), (3, .int p3)] := hl
  unfold f_X11_put at h
  obtain ⟨htg, h⟩ := gsn h
  refine lv_aload_n hx hb dX11_put_0 rfl (lv_at hl 0 rfl) ?_
  refine lv_aload_n hx hb dX11_put_1 rfl (lv_at hl 0 rfl) ?_
  obtain ⟨x1, hx1, h⟩ := bnd h
  refine gf_X11_15 X hH hx1 dX11_put_2 ?_
  refine lv_iload_n hx hb dX11_put_5 rfl (lv_at hl 1 rfl) ?_
  refine lv_iload_n hx hb dX11_put_6 rfl (lv_at hl 2 rfl) ?_
  obtain ⟨x2, hx2, h⟩ := bnd h
  refine iv_X11_83 l X hH hRL (by decide) hx2 hl.1 (Nat.le_of_ble_eq_true rfl) dX11_put_7 hcs (fun H locs hH => ?_)
  refine lv_istore (lv' := [(4, .int x2.1), (0, .ref a0), (1, .int p1), (2, .int p2), (3, .int p3)]) hx hb dX11_put_10 hl (by decide) rfl (fun ls hl => ?_)
  refine lv_iload hx hb dX11_put_12 (lv_at hl 0 rfl) ?_
  refine lv_if_eq (tgt := 22) hx hb dX11_put_14 (by decide) (fun hc3 => ?_) (fun hc3 => ?_)
  · replace h := ift h hc3
    refine lv_sipush (v := 1000) hx hb dX11_put_22 (by decide) ?_
    refine lv_aload_n hx hb dX11_put_25 rfl (lv_at hl 1 rfl) ?_
    obtain ⟨x4, hx4, h⟩ := bnd h
    refine gf_X11_15 X hH hx4 dX11_put_26 ?_
    refine lv_iload_n hx hb dX11_put_29 rfl (lv_at hl 2 rfl) ?_
    obtain ⟨x5, hx5, h⟩ := bnd h
    refine w_aP X hH hx5 (by decide) (k := 5) rfl dX11_put_30 ?_
    refine lv_iload_n hx hb dX11_put_31 rfl (lv_at hl 3 rfl) ?_
    refine lv_iload_n hx hb dX11_put_32 rfl (lv_at hl 4 rfl) ?_
    refine lv_i2b hx hb dX11_put_33 rfl ?_
    obtain ⟨x6, hx6, h⟩ := bnd h
    refine iv_X11_87 l X hH hRL (by decide) hx6 hl.1 (Nat.le_of_ble_eq_true rfl) dX11_put_34 hcs (fun H locs hH => ?_)
    refine lv_iadd hx hb dX11_put_37 ?_
    exact eI X hH h hr dX11_put_38 (Nat.le_of_ble_eq_true rfl) (Nat.le_of_ble_eq_true rfl)
  · replace h := iff' h hc3
    refine lv_iload hx hb dX11_put_17 (lv_at hl 0 rfl) ?_
    refine lv_goto (tgt := 38) hx hb dX11_put_19 (by decide) ?_
    exact eI X hH h hr dX11_put_38 (Nat.le_of_ble_eq_true rfl) (Nat.le_of_ble_eq_true rfl)
