set_option maxHeartbeats 1000000 in
theorem iv_X3_128 {p : Program} {e : Env} {R : Room} {s : State} {m : MethodId} {args : Array Value} {below : List Frame} {meth : Method} {c : Code} {H : Heap} {locs : List Loc} {cells slots : Nat} {Q : State → Prop} {cc : ByteArray} {pc : Nat} {ls : Array Slot} {rest : List Value} {nL : Nat} {G : CG} {μ : Mm} {a : Nat} {q0 : Int32} {x : Mm} {k k2 : Nat} (l : Launch) (X : Cx p s m args meth c cc nL RX3 G) (hH : HS G s μ H locs) (hRL : RmL R k k2) (hk : 4 + 1 ≤ k ∧ 87 ≤ k2) (h : f_X3_takeWalk μ a q0 = some x) (hls : ls.size = nL) (hroom : (rest.map fun v => v.category).sum ≤ 8) (hdg : decode cc pc = .ok (.invokevirtual 128, 3)) (hcs : cells + 0 ≤ R.cells ∧ slots + 0 ≤ R.slots) (kk : ∀ (H1 : Heap) (locs1 : List Loc), HS G s x H1 locs1 → W p l e R s m args below meth c H1 locs1 cells slots Q (F0 m (pc + 3) ls rest)) : W p l e R s m args below meth c H locs cells slots Q (F0 m pc ls (.int q0 :: .ref a :: rest)) := by
  refine kV0 hH (rV (As := [.int q0]) (rest := rest) X hH (t_X3_takeWalk h) vc_3 (c_X3_takeWalk l G μ a q0 x h) (List.forall_mem_cons.mpr ⟨u_326, (List.forall_mem_cons.mpr ⟨u_328, (List.forall_mem_cons.mpr ⟨u_3, (List.forall_mem_cons.mpr ⟨u_22, (fun _ h9 => absurd h9 List.not_mem_nil)⟩)⟩)⟩)⟩) u_329 (rmo hRL (Nat.le_trans (by decide) hk.1) (Nat.le_trans (by decide) hk.2)) ddV_X3_takeWalk rfl hls rfl hroom hdg hcs) kk
theorem t_X3_takeStep {μ : Mm} {a0 : Nat} {p1 : Int32} {x : Mm} (h : f_X3_takeStep μ a0 p1 = some x) : tg μ a0 = 4 := by
  unfold f_X3_takeStep at h
  exact (gsn h).1
set_option maxHeartbeats 4000000 in
set_option maxRecDepth 100000 in
theorem c_X3_takeStep (l : Launch) (G : CG) (μ : Mm) (a0 : Nat) (p1 : Int32) (x : Mm) (h : f_X3_takeStep μ a0 p1 = some x) : Met l yX3_takeStep (.code yX3_takeStep cX3_takeStep 2 none :: UW) (rmk 5 87 0 0) (PC G [.ref a0, .int p1] μ) (QV G x) 0 0 (fA G) := by
  refine Met.ofW (cc := cX3_takeStep) (maxL := 2) (ret := none) (by decide) rfl ?_
  intro p e s m args below meth c s₁ B hml hv
  obtain ⟨X, hH, hr, rfl, hnm⟩ := cx_in B hml hv
  have X : Cx p s m _ meth c cX3_takeStep 2 RX3 G := X
  have hx := X.1
  have hb := X.2.1
  have hown := X.2.2.2.1
  have hts := X.2.2.2.2.1
  have hRL : RmL (rmk 5 87 0 0) 5 87 := ⟨Nat.le_refl _, Nat.le_refl _⟩
  have hcs : 0 ≤ (rmk 0 0 0 0).cells ∧ 0 ≤ (rmk 0 0 0 0).slots := ⟨Nat.zero_le _, Nat.zero_le _⟩
  refine ls_in (Nat.le_of_ble_eq_true rfl) (fun ls hl => ?_)
  have hl : lv_has ls 2 [(0, .ref a0), (1, .int p1)] := hl
  unfold f_X3_takeStep at h
  obtain ⟨htg, h⟩ := gsn h
  refine lv_iload_n hx hb dX3_takeStep_0 rfl (lv_at hl 1 rfl) ?_
  refine lv_bipush (v := 6) hx hb dX3_takeStep_1 (by decide) ?_
  refine lv_icmp_lt (tgt := 17) hx hb dX3_takeStep_3 (by decide) (fun hc1 => ?_) (fun hc1 => ?_)
  · replace h := ift h hc1
    refine lv_aload_n hx hb dX3_takeStep_17 rfl (lv_at hl 0 rfl) ?_
    refine lv_iload_n hx hb dX3_takeStep_18 rfl (lv_at hl 1 rfl) ?_
    obtain ⟨x2, hx2, h⟩ := bnd h
    refine iv_X3_102 l X hH hRL (by decide) hx2 hl.1 (Nat.le_of_ble_eq_true rfl) dX3_takeStep_19 hcs (fun H locs hH => ?_)
    refine lv_if_eq (tgt := 30) hx hb dX3_takeStep_22 (by decide) (fun hc3 => ?_) (fun hc3 => ?_)
    · replace h := ift h hc3
      exact eV X hH h hr dX3_takeStep_30 (Nat.le_of_ble_eq_true rfl) (Nat.le_of_ble_eq_true rfl)
    · replace h := iff' h hc3
      refine lv_aload_n hx hb dX3_takeStep_25 rfl (lv_at hl 0 rfl) ?_
      refine lv_iload_n hx hb dX3_takeStep_26 rfl (lv_at hl 1 rfl) ?_
      obtain ⟨x4, hx4, h⟩ := bnd h
      refine iv_X3_128 l X hH hRL (by decide) hx4 hl.1 (Nat.le_of_ble_eq_true rfl) dX3_takeStep_27 hcs (fun H locs hH => ?_)
      exact eV X hH h hr dX3_takeStep_30 (Nat.le_of_ble_eq_true rfl) (Nat.le_of_ble_eq_true rfl)
  · replace h := iff' h hc1
    refine lv_aload_n hx hb dX3_takeStep_6 rfl (lv_at hl 0 rfl) ?_
    refine lv_iload_n hx hb dX3_takeStep_7 rfl (lv_at hl 1 rfl) ?_
    refine lv_bipush (v := 6) hx hb dX3_takeStep_8 (by decide) ?_
    refine lv_isub hx hb dX3_takeStep_10 ?_
    obtain ⟨x5, hx5, h⟩ := bnd h
    refine pf_X3_42 X hH hx5 dX3_takeStep_11 (fun H locs hH => ?_)
    refine lv_goto (tgt := 30) hx hb dX3_takeStep_14 (by decide) ?_
    exact eV X hH h hr dX3_takeStep_30 (Nat.le_of_ble_eq_true rfl) (Nat.le_of_ble_eq_true rfl)
theorem t_X8_append {μ : Mm} {a0 : Nat} {p1 : Int32} {x : Int32 × Mm} (h : f_X8_append μ a0 p1 = some x) : tg μ a0 = 9 := by
  unfold f_X8_append at h
  exact (gsn h).1
set_option maxHeartbeats 4000000 in
set_option maxRecDepth 100000 in
theorem c_X8_append (l : Launch) (G : CG) (μ : Mm) (a0 : Nat) (p1 : Int32) (x : Int32 × Mm) (h : f_X8_append μ a0 p1 = some x) : Met l yX8_append (.code yX8_append cX8_append 2 (some .boolean) :: UW) (rmk 1 0 0 0) (PC G [.ref a0, .int p1] μ) (QI G x.1 x.2) 0 0 (fA G) := by
  refine Met.ofW (cc := cX8_append) (maxL := 2) (ret := (some .boolean)) (by decide) rfl ?_
  intro p e s m args below meth c s₁ B hml hv
  obtain ⟨X, hH, hr, rfl, hnm⟩ := cx_in B hml hv
  have X : Cx p s m _ meth c cX8_append 2 RX8 G := X
  have hx := X.1
  have hb := X.2.1
  have hown := X.2.2.2.1
  have hts := X.2.2.2.2.1
  have hRL : RmL (rmk 1 0 0 0) 1 0 := ⟨Nat.le_refl _, Nat.le_refl _⟩
  have hcs : 0 ≤ (rmk 0 0 0 0).cells ∧ 0 ≤ (rmk 0 0 0 0).slots := ⟨Nat.zero_le _, Nat.zero_le _⟩
  refine ls_in (Nat.le_of_ble_eq_true rfl) (fun ls hl => ?_)
  have hl : lv_has ls 2 [(0, .ref a0), (1, .int p1)] := hl
  unfold f_X8_append at h
  obtain ⟨htg, h⟩ := gsn h
  refine lv_aload_n hx hb dX8_append_0 rfl (lv_at hl 0 rfl) ?_
  obtain ⟨x1, hx1, h⟩ := bnd h
  refine gf_X8_9 X hH hx1 dX8_append_1 ?_
  refine lv_if_lt (tgt := 19) hx hb dX8_append_4 (by decide) (fun hc2 => ?_) (fun hc2 => ?_)
  · replace h := ift h hc2
    refine lv_iconst (v := 0) hx hb dX8_append_19 (by decide) ?_
    exact eZ X hH (by decide) h hr dX8_append_20 (Nat.le_of_ble_eq_true rfl) (Nat.le_of_ble_eq_true rfl)
  · replace h := iff' h hc2
    refine lv_aload_n hx hb dX8_append_7 rfl (lv_at hl 0 rfl) ?_
    obtain ⟨x3, hx3, h⟩ := bnd h
    refine gf_X8_9 X hH hx3 dX8_append_8 ?_
    refine lv_aload_n hx hb dX8_append_11 rfl (lv_at hl 0 rfl) ?_
    obtain ⟨x4, hx4, h⟩ := bnd h
    refine gf_X8_21 X hH hx4 dX8_append_12 ?_
    obtain ⟨htx5, h⟩ := gsn h
    obtain ⟨x5, hx5, h⟩ := bnd h
    refine w_len X hH hx5 htx5 (k := 1) rfl dX8_append_15 ?_
    refine lv_icmp_lt (tgt := 21) hx hb dX8_append_16 (by decide) (fun hc6 => ?_) (fun hc6 => ?_)
    · replace h := ift h hc6
      refine lv_aload_n hx hb dX8_append_21 rfl (lv_at hl 0 rfl) ?_
      obtain ⟨x7, hx7, h⟩ := bnd h
      refine gf_X8_21 X hH hx7 dX8_append_22 ?_
      refine lv_aload_n hx hb dX8_append_25 rfl (lv_at hl 0 rfl) ?_
      obtain ⟨x8, hx8, h⟩ := bnd h
      refine gf_X8_9 X hH hx8 dX8_append_26 ?_
      refine lv_iload_n hx hb dX8_append_29 rfl (lv_at hl 1 rfl) ?_
      obtain ⟨x9, hx9, h⟩ := bnd h
      refine w_qI X hH hx9 dX8_append_30 (fun H locs hH => ?_)
      refine lv_aload_n hx hb dX8_append_31 rfl (lv_at hl 0 rfl) ?_
      refine lv_dup hx hb dX8_append_32 rfl ?_
      obtain ⟨x10, hx10, h⟩ := bnd h
      refine gf_X8_9 X hH hx10 dX8_append_33 ?_
      refine lv_iconst (v := 1) hx hb dX8_append_36 (by decide) ?_
      refine lv_iadd hx hb dX8_append_37 ?_
      obtain ⟨x11, hx11, h⟩ := bnd h
      refine pf_X8_9 X hH hx11 dX8_append_38 (fun H locs hH => ?_)
      refine lv_iconst (v := 1) hx hb dX8_append_41 (by decide) ?_
      exact eZ X hH (by decide) h hr dX8_append_42 (Nat.le_of_ble_eq_true rfl) (Nat.le_of_ble_eq_true rfl)
    · replace h := iff' h hc6
      refine lv_iconst (v := 0) hx hb dX8_append_19 (by decide) ?_
      exact eZ X hH (by decide) h hr dX8_append_20 (Nat.le_of_ble_eq_true rfl) (Nat.le_of_ble_eq_true rfl)
set_option maxHeartbeats 1000000 in
theorem iv_X3_116 {p : Program} {e : Env} {R : Room} {s : State} {m : MethodId} {args : Array Value} {below : List Frame} {meth : Method} {c : Code} {H : Heap} {locs : List Loc} {cells slots : Nat} {Q : State → Prop} {cc : ByteArray} {pc : Nat} {ls : Array Slot} {rest : List Value} {nL : Nat} {G : CG} {μ : Mm} {a : Nat} {q0 : Int32} {x : Int32 × Mm} {k k2 : Nat} (l : Launch) (X : Cx p s m args meth c cc nL RX3 G) (hH : HS G s μ H locs) (hRL : RmL R k k2) (hk : 1 + 1 ≤ k ∧ 21 ≤ k2) (h : f_X8_append μ a q0 = some x) (hls : ls.size = nL) (hroom : (rest.map fun v => v.category).sum ≤ 8) (hdg : decode cc pc = .ok (.invokevirtual 116, 3)) (hcs : cells + 0 ≤ R.cells ∧ slots + 0 ≤ R.slots) (kk : ∀ (H1 : Heap) (locs1 : List Loc), HS G s x.2 H1 locs1 → W p l e R s m args below meth c H1 locs1 cells slots Q (F0 m (pc + 3) ls (.int x.1 :: rest))) : W p l e R s m args below meth c H locs cells slots Q (F0 m pc ls (.int q0 :: .ref a :: rest)) := by
  refine kI hH (rV (As := [.int q0]) (rest := rest) X hH (t_X8_append h) vc_8 (c_X8_append l G μ a q0 x h) (List.forall_mem_cons.mpr ⟨u_609, (List.forall_mem_cons.mpr ⟨u_610, (List.forall_mem_cons.mpr ⟨u_611, (List.forall_mem_cons.mpr ⟨u_23, (fun _ h9 => absurd h9 List.not_mem_nil)⟩)⟩)⟩)⟩) u_612 (rmo hRL (Nat.le_trans (by decide) hk.1) (Nat.le_trans (by decide) hk.2)) ddV_X8_append rfl hls rfl hroom hdg hcs) kk
set_option maxHeartbeats 1000000 in
theorem iv_X3_119 {p : Program} {e : Env} {R : Room} {s : State} {m : MethodId} {args : Array Value} {below : List Frame} {meth : Method} {c : Code} {H : Heap} {locs : List Loc} {cells slots : Nat} {Q : State → Prop} {cc : ByteArray} {pc : Nat} {ls : Array Slot} {rest : List Value} {nL : Nat} {G : CG} {μ : Mm} {a : Nat} {q0 : Int32} {x : Mm} {k k2 : Nat} (l : Launch) (X : Cx p s m args meth c cc nL RX3 G) (hH : HS G s μ H locs) (hRL : RmL R k k2) (hk : 5 + 1 ≤ k ∧ 108 ≤ k2) (h : f_X3_takeStep μ a q0 = some x) (hls : ls.size = nL) (hroom : (rest.map fun v => v.category).sum ≤ 8) (hdg : decode cc pc = .ok (.invokevirtual 119, 3)) (hcs : cells + 0 ≤ R.cells ∧ slots + 0 ≤ R.slots) (kk : ∀ (H1 : Heap) (locs1 : List Loc), HS G s x H1 locs1 → W p l e R s m args below meth c H1 locs1 cells slots Q (F0 m (pc + 3) ls rest)) : W p l e R s m args below meth c H locs cells slots Q (F0 m pc ls (.int q0 :: .ref a :: rest)) := by
  refine kV0 hH (rV (As := [.int q0]) (rest := rest) X hH (t_X3_takeStep h) vc_3 (c_X3_takeStep l G μ a q0 x h) (List.forall_mem_cons.mpr ⟨u_318, (List.forall_mem_cons.mpr ⟨u_320, (List.forall_mem_cons.mpr ⟨u_2, (List.forall_mem_cons.mpr ⟨u_22, (fun _ h9 => absurd h9 List.not_mem_nil)⟩)⟩)⟩)⟩) u_321 (rmo hRL (Nat.le_trans (by decide) hk.1) (Nat.le_trans (by decide) hk.2)) ddV_X3_takeStep rfl hls rfl hroom hdg hcs) kk
theorem t_X3_addStep {μ : Mm} {a0 : Nat} {p1 : Int32} {x : Mm} (h : f_X3_addStep μ a0 p1 = some x) : tg μ a0 = 4 := by
  unfold f_X3_addStep at h
  exact (gsn h).1
set_option maxHeartbeats 4000000 in
set_option maxRecDepth 100000 in
theorem c_X3_addStep (l : Launch) (G : CG) (μ : Mm) (a0 : Nat) (p1 : Int32) (x : Mm) (h : f_X3_addStep μ a0 p1 = some x) : Met l yX3_addStep (.code yX3_addStep cX3_addStep 2 none :: UW) (rmk 6 108 0 0) (PC G [.ref a0, .int p1] μ) (QV G x) 0 0 (fA G) := by
  refine Met.ofW (cc := cX3_addStep) (maxL := 2) (ret := none) (by decide) rfl ?_
  intro p e s m args below meth c s₁ B hml hv
  obtain ⟨X, hH, hr, rfl, hnm⟩ := cx_in B hml hv
  have X : Cx p s m _ meth c cX3_addStep 2 RX3 G := X
  have hx := X.1
  have hb := X.2.1
  have hown := X.2.2.2.1
  have hts := X.2.2.2.2.1
  have hRL : RmL (rmk 6 108 0 0) 6 108 := ⟨Nat.le_refl _, Nat.le_refl _⟩
  have hcs : 0 ≤ (rmk 0 0 0 0).cells ∧ 0 ≤ (rmk 0 0 0 0).slots := ⟨Nat.zero_le _, Nat.zero_le _⟩
  refine ls_in (Nat.le_of_ble_eq_true rfl) (fun ls hl => ?_)
  have hl : lv_has ls 2 [(0, .ref a0), (1, .int p1)] := hl
  unfold f_X3_addStep at h
  obtain ⟨htg, h⟩ := gsn h
  refine lv_aload_n hx hb dX3_addStep_0 rfl (lv_at hl 0 rfl) ?_
  obtain ⟨x1, hx1, h⟩ := bnd h
  refine gf_X3_22 X hH hx1 dX3_addStep_1 ?_
  refine lv_iload_n hx hb dX3_addStep_4 rfl (lv_at hl 1 rfl) ?_
  obtain ⟨x2, hx2, h⟩ := bnd h
  refine iv_X3_116 l X hH hRL (by decide) hx2 hl.1 (Nat.le_of_ble_eq_true rfl) dX3_addStep_5 hcs (fun H locs hH => ?_)
  refine lv_if_eq (tgt := 16) hx hb dX3_addStep_8 (by decide) (fun hc3 => ?_) (fun hc3 => ?_)
  · replace h := ift h hc3
    exact eV X hH h hr dX3_addStep_16 (Nat.le_of_ble_eq_true rfl) (Nat.le_of_ble_eq_true rfl)
  · replace h := iff' h hc3
    refine lv_aload_n hx hb dX3_addStep_11 rfl (lv_at hl 0 rfl) ?_
    refine lv_iload_n hx hb dX3_addStep_12 rfl (lv_at hl 1 rfl) ?_
    obtain ⟨x4, hx4, h⟩ := bnd h
    refine iv_X3_119 l X hH hRL (by decide) hx4 hl.1 (Nat.le_of_ble_eq_true rfl) dX3_addStep_13 hcs (fun H locs hH => ?_)
    exact eV X hH h hr dX3_addStep_16 (Nat.le_of_ble_eq_true rfl) (Nat.le_of_ble_eq_true rfl)
set_option maxHeartbeats 4000000 in
set_option maxRecDepth 100000 in
theorem w_X3_replay_32 {p : Program} {e : Env} {R : Room} {s : State} {m : MethodId} {args : Array Value} {below : List Frame} {meth : Method} {c : Code} {cells slots : Nat} {Q : State → Prop} {G : CG} (l : Launch) (X : Cx p s m args meth c cX3_replay 2 RX3 G) (hRL : RmL R 6 108) (hcs : cells ≤ R.cells ∧ slots ≤ R.slots) : ∀ (n : Nat) (v0 : Nat) (v1 : Int32) (μ : Mm) (x : Mm), lp_X3_replay_32 n v0 v1 μ = some x → (∀ (H : Heap) (locs : List Loc) (ls : Array Slot), HS G s x H locs → lv_has ls 2 [(0, .ref v0)] → W p l e R s m args below meth c H locs cells slots Q (F0 m 56 ls [])) → ∀ (H : Heap) (locs : List Loc) (ls : Array Slot), HS G s μ H locs → lv_has ls 2 [(0, .ref v0), (1, .int v1)] → W p l e R s m args below meth c H locs cells slots Q (F0 m 32 ls []) := by
  have hx := X.1
  have hb := X.2.1
  have hown := X.2.2.2.1
  have hts := X.2.2.2.2.1
  intro n
  induction n with
  | zero =>
    intro v0 v1 μ x h
    rw [lp_X3_replay_32] at h
    cases h
  | succ n ih =>
    intro v0 v1 μ x h k0 H locs ls hH hl
    rw [lp_X3_replay_32] at h
    refine lv_iload_n hx hb dX3_replay_32 rfl (lv_at hl 1 rfl) ?_
    refine lv_aload_n hx hb dX3_replay_33 rfl (lv_at hl 0 rfl) ?_
    obtain ⟨x7, hx7, h⟩ := bnd h
    refine gf_X3_26 X hH hx7 dX3_replay_34 ?_
    refine lv_icmp_ge (tgt := 56) hx hb dX3_replay_37 (by decide) (fun hc8 => ?_) (fun hc8 => ?_)
    · replace h := ift h hc8
      cases h
      exact k0 _ _ _ hH (lv_sub hl [0] rfl)
    · replace h := iff' h hc8
      refine lv_aload_n hx hb dX3_replay_40 rfl (lv_at hl 0 rfl) ?_
      obtain ⟨x9, hx9, h⟩ := bnd h
      refine gf_X3_11 X hH hx9 dX3_replay_41 ?_
      refine lv_iload_n hx hb dX3_replay_44 rfl (lv_at hl 1 rfl) ?_
      obtain ⟨x10, hx10, h⟩ := bnd h
      refine w_aP X hH hx10 (by decide) (k := 4) rfl dX3_replay_45 ?_
      refine lv_iconst (v := 0) hx hb dX3_replay_46 (by decide) ?_
      obtain ⟨x11, hx11, h⟩ := bnd h
      refine pf_X3_122 X hH hx11 dX3_replay_47 (fun H locs hH => ?_)
      refine lv_iinc (v := (v1 + 1)) (lv' := [(1, .int (v1 + 1)), (0, .ref v0)]) hx hb dX3_replay_50 hl (k := 1) rfl rfl (by decide) rfl (fun ls hl => ?_)
      refine lv_goto (tgt := 32) hx hb dX3_replay_53 (by decide) ?_
      exact ih _ _ _ _ h k0 _ _ _ hH (lv_sub hl [1, 0] rfl)
set_option maxHeartbeats 4000000 in
set_option maxRecDepth 100000 in
theorem w_X3_replay_58 {p : Program} {e : Env} {R : Room} {s : State} {m : MethodId} {args : Array Value} {below : List Frame} {meth : Method} {c : Code} {cells slots : Nat} {Q : State → Prop} {G : CG} (l : Launch) (X : Cx p s m args meth c cX3_replay 2 RX3 G) (hRL : RmL R 6 108) (hcs : cells ≤ R.cells ∧ slots ≤ R.slots) : ∀ (n : Nat) (v0 : Nat) (v1 : Int32) (μ : Mm) (x : Mm), lp_X3_replay_58 n v0 v1 μ = some x → (∀ (H : Heap) (locs : List Loc) (ls : Array Slot), HS G s x H locs → lv_has ls 2 [] → W p l e R s m args below meth c H locs cells slots Q (F0 m 88 ls [])) → ∀ (H : Heap) (locs : List Loc) (ls : Array Slot), HS G s μ H locs → lv_has ls 2 [(0, .ref v0), (1, .int v1)] → W p l e R s m args below meth c H locs cells slots Q (F0 m 58 ls []) := by
  have hx := X.1
  have hb := X.2.1
  have hown := X.2.2.2.1
  have hts := X.2.2.2.2.1
  intro n
  induction n with
  | zero =>
    intro v0 v1 μ x h
    rw [lp_X3_replay_58] at h
    cases h
  | succ n ih =>
    intro v0 v1 μ x h k0 H locs ls hH hl
    rw [lp_X3_replay_58] at h
    refine lv_iload_n hx hb dX3_replay_58 rfl (lv_at hl 1 rfl) ?_
    refine lv_aload_n hx hb dX3_replay_59 rfl (lv_at hl 0 rfl) ?_
    obtain ⟨x13, hx13, h⟩ := bnd h
    refine gf_X3_22 X hH hx13 dX3_replay_60 ?_
    obtain ⟨x14, hx14, h⟩ := bnd h
    refine gf_X3_99 X hH hx14 dX3_replay_63 ?_
    refine lv_icmp_ge (tgt := 88) hx hb dX3_replay_66 (by decide) (fun hc15 => ?_) (fun hc15 => ?_)
    · replace h := ift h hc15
      cases h
      exact k0 _ _ _ hH (lv_sub hl [] rfl)
    · replace h := iff' h hc15
      refine lv_aload_n hx hb dX3_replay_69 rfl (lv_at hl 0 rfl) ?_
      refine lv_aload_n hx hb dX3_replay_70 rfl (lv_at hl 0 rfl) ?_
      obtain ⟨x16, hx16, h⟩ := bnd h
      refine gf_X3_22 X hH hx16 dX3_replay_71 ?_
      obtain ⟨x17, hx17, h⟩ := bnd h
      refine gf_X3_125 X hH hx17 dX3_replay_74 ?_
      refine lv_iload_n hx hb dX3_replay_77 rfl (lv_at hl 1 rfl) ?_
      obtain ⟨x18, hx18, h⟩ := bnd h
      refine w_aI X hH hx18 dX3_replay_78 ?_
      obtain ⟨x19, hx19, h⟩ := bnd h
      refine iv_X3_119 l X hH hRL (by decide) hx19 hl.1 (Nat.le_of_ble_eq_true rfl) dX3_replay_79 hcs (fun H locs hH => ?_)
      refine lv_iinc (v := (v1 + 1)) (lv' := [(1, .int (v1 + 1)), (0, .ref v0)]) hx hb dX3_replay_82 hl (k := 1) rfl rfl (by decide) rfl (fun ls hl => ?_)
      refine lv_goto (tgt := 58) hx hb dX3_replay_85 (by decide) ?_
      exact ih _ _ _ _ h k0 _ _ _ hH (lv_sub hl [1, 0] rfl)
theorem t_X3_replay {μ : Mm} {a0 : Nat} {x : Mm} (h : f_X3_replay μ a0 = some x) : tg μ a0 = 4 := by
  unfold f_X3_replay at h
  exact (gsn h).1
set_option maxHeartbeats 4000000 in
set_option maxRecDepth 100000 in
theorem c_X3_replay (l : Launch) (G : CG) (μ : Mm) (a0 : Nat) (x : Mm) (h : f_X3_replay μ a0 = some x) : Met l yX3_replay (.code yX3_replay cX3_replay 2 none :: UW) (rmk 6 108 0 0) (PC G [.ref a0] μ) (QV G x) 0 0 (fA G) := by
  refine Met.ofW (cc := cX3_replay) (maxL := 2) (ret := none) (by decide) rfl ?_
  intro p e s m args below meth c s₁ B hml hv
  obtain ⟨X, hH, hr, rfl, hnm⟩ := cx_in B hml hv
  have X : Cx p s m _ meth c cX3_replay 2 RX3 G := X
  have hx := X.1
  have hb := X.2.1
  have hown := X.2.2.2.1
  have hts := X.2.2.2.2.1
  have hRL : RmL (rmk 6 108 0 0) 6 108 := ⟨Nat.le_refl _, Nat.le_refl _⟩
  have hcs : 0 ≤ (rmk 0 0 0 0).cells ∧ 0 ≤ (rmk 0 0 0 0).slots := ⟨Nat.zero_le _, Nat.zero_le _⟩
  refine ls_in (Nat.le_of_ble_eq_true rfl) (fun ls hl => ?_)
  have hl : lv_has ls 2 [(0, .ref a0)] := hl
  unfold f_X3_replay at h
  obtain ⟨htg, h⟩ := gsn h
  refine lv_aload_n hx hb dX3_replay_0 rfl (lv_at hl 0 rfl) ?_
  refine lv_iconst (v := 0) hx hb dX3_replay_1 (by decide) ?_
  obtain ⟨x1, hx1, h⟩ := bnd h
  refine pf_X3_36 X hH hx1 dX3_replay_2 (fun H locs hH => ?_)
  refine lv_aload_n hx hb dX3_replay_5 rfl (lv_at hl 0 rfl) ?_
  refine lv_iconst (v := 0) hx hb dX3_replay_6 (by decide) ?_
  obtain ⟨x2, hx2, h⟩ := bnd h
  refine pf_X3_39 X hH hx2 dX3_replay_7 (fun H locs hH => ?_)
  refine lv_aload_n hx hb dX3_replay_10 rfl (lv_at hl 0 rfl) ?_
  refine lv_iconst (v := 0) hx hb dX3_replay_11 (by decide) ?_
  obtain ⟨x3, hx3, h⟩ := bnd h
  refine pf_X3_42 X hH hx3 dX3_replay_12 (fun H locs hH => ?_)
  refine lv_aload_n hx hb dX3_replay_15 rfl (lv_at hl 0 rfl) ?_
  refine lv_iconst (v := 0) hx hb dX3_replay_16 (by decide) ?_
  obtain ⟨x4, hx4, h⟩ := bnd h
  refine pf_X3_45 X hH hx4 dX3_replay_17 (fun H locs hH => ?_)
  refine lv_aload_n hx hb dX3_replay_20 rfl (lv_at hl 0 rfl) ?_
  refine lv_iconst (v := 0) hx hb dX3_replay_21 (by decide) ?_
  obtain ⟨x5, hx5, h⟩ := bnd h
  refine pf_X3_48 X hH hx5 dX3_replay_22 (fun H locs hH => ?_)
  refine lv_aload_n hx hb dX3_replay_25 rfl (lv_at hl 0 rfl) ?_
  refine lv_iconst (v := 0) hx hb dX3_replay_26 (by decide) ?_
  obtain ⟨x6, hx6, h⟩ := bnd h
  refine pf_X3_51 X hH hx6 dX3_replay_27 (fun H locs hH => ?_)
  refine lv_iconst (v := 0) hx hb dX3_replay_30 (by decide) ?_
  refine lv_istore_n (lv' := [(1, .int (0 : Int32)), (0, .ref a0)]) hx hb dX3_replay_31 rfl hl (by decide) rfl (fun ls hl => ?_)
  obtain ⟨x12, hx12, hhx12⟩ := bnd h
  clear h
  refine w_X3_replay_32 l X hRL hcs BIG a0 (0 : Int32) x6 x12 hx12 (fun H locs ls hH hl => ?_) _ _ _ hH (lv_sub hl [1, 0] rfl)
  · have h := hhx12
    clear hhx12
    refine lv_iconst (v := 0) hx hb dX3_replay_56 (by decide) ?_
    refine lv_istore_n (lv' := [(1, .int (0 : Int32)), (0, .ref a0)]) hx hb dX3_replay_57 rfl hl (by decide) rfl (fun ls hl => ?_)
    obtain ⟨x20, hx20, hhx20⟩ := bnd h
    clear h
    refine w_X3_replay_58 l X hRL hcs BIG a0 (0 : Int32) x12 x20 hx20 (fun H locs ls hH hl => ?_) _ _ _ hH (lv_sub hl [1, 0] rfl)
    · have h := hhx20
      clear hhx20
      exact eV X hH h hr dX3_replay_88 (Nat.le_of_ble_eq_true rfl) (Nat.le_of_ble_eq_true rfl)
set_option maxHeartbeats 4000000 in
set_option maxRecDepth 100000 in
theorem w_X3_tellFeet_2 {p : Program} {e : Env} {R : Room} {s : State} {m : MethodId} {args : Array Value} {below : List Frame} {meth : Method} {c : Code} {cells slots : Nat} {Q : State → Prop} {G : CG} (l : Launch) (X : Cx p s m args meth c cX3_tellFeet 3 RX3 G) (hRL : RmL R 1 0) (hcs : cells ≤ R.cells ∧ slots ≤ R.slots) : ∀ (n : Nat) (v0 : Nat) (v1 : Nat) (v2 : Int32) (μ : Mm) (x : Mm), lp_X3_tellFeet_2 n v0 v1 v2 μ = some x → (∀ (H : Heap) (locs : List Loc) (ls : Array Slot), HS G s x H locs → lv_has ls 3 [] → W p l e R s m args below meth c H locs cells slots Q (F0 m 34 ls [])) → ∀ (H : Heap) (locs : List Loc) (ls : Array Slot), HS G s μ H locs → lv_has ls 3 [(0, .ref v0), (1, .ref v1), (2, .int v2)] → W p l e R s m args below meth c H locs cells slots Q (F0 m 2 ls []) := by
  have hx := X.1
  have hb := X.2.1
  have hown := X.2.2.2.1
  have hts := X.2.2.2.2.1
  intro n
  induction n with
  | zero =>
    intro v0 v1 v2 μ x h
    rw [lp_X3_tellFeet_2] at h
    cases h
  | succ n ih =>
    intro v0 v1 v2 μ x h k0 H locs ls hH hl
    rw [lp_X3_tellFeet_2] at h
    refine lv_iload_n hx hb dX3_tellFeet_2 rfl (lv_at hl 2 rfl) ?_
    refine lv_aload_n hx hb dX3_tellFeet_3 rfl (lv_at hl 0 rfl) ?_
    obtain ⟨x1, hx1, h⟩ := bnd h
    refine gf_X3_26 X hH hx1 dX3_tellFeet_4 ?_
    refine lv_icmp_ge (tgt := 34) hx hb dX3_tellFeet_7 (by decide) (fun hc2 => ?_) (fun hc2 => ?_)
    · replace h := ift h hc2
      cases h
      exact k0 _ _ _ hH (lv_sub hl [] rfl)
    · replace h := iff' h hc2
      refine lv_iload_n hx hb dX3_tellFeet_10 rfl (lv_at hl 2 rfl) ?_
      refine lv_aload_n hx hb dX3_tellFeet_11 rfl (lv_at hl 1 rfl) ?_
      obtain ⟨htx3, h⟩ := gsn h
      obtain ⟨x3, hx3, h⟩ := bnd h
      refine w_len X hH hx3 htx3 (k := 1) rfl dX3_tellFeet_12 ?_
      refine lv_icmp_ge (tgt := 34) hx hb dX3_tellFeet_13 (by decide) (fun hc4 => ?_) (fun hc4 => ?_)
      · replace h := ift h hc4
        cases h
        exact k0 _ _ _ hH (lv_sub hl [] rfl)
      · replace h := iff' h hc4
        refine lv_aload_n hx hb dX3_tellFeet_16 rfl (lv_at hl 1 rfl) ?_
        refine lv_iload_n hx hb dX3_tellFeet_17 rfl (lv_at hl 2 rfl) ?_
        refine lv_aload_n hx hb dX3_tellFeet_18 rfl (lv_at hl 0 rfl) ?_
        obtain ⟨x5, hx5, h⟩ := bnd h
        refine gf_X3_11 X hH hx5 dX3_tellFeet_19 ?_
        refine lv_iload_n hx hb dX3_tellFeet_22 rfl (lv_at hl 2 rfl) ?_
        obtain ⟨x6, hx6, h⟩ := bnd h
        refine w_aP X hH hx6 (by decide) (k := 4) rfl dX3_tellFeet_23 ?_
        obtain ⟨x7, hx7, h⟩ := bnd h
        refine gf_X3_137 X hH hx7 dX3_tellFeet_24 ?_
        obtain ⟨x8, hx8, h⟩ := bnd h
        refine w_qI X hH hx8 dX3_tellFeet_27 (fun H locs hH => ?_)
        refine lv_iinc (v := (v2 + 1)) (lv' := [(2, .int (v2 + 1)), (0, .ref v0), (1, .ref v1)]) hx hb dX3_tellFeet_28 hl (k := 2) rfl rfl (by decide) rfl (fun ls hl => ?_)
        refine lv_goto (tgt := 2) hx hb dX3_tellFeet_31 (by decide) ?_
        exact ih _ _ _ _ _ h k0 _ _ _ hH (lv_sub hl [1, 2, 0] rfl)
theorem t_X3_tellFeet {μ : Mm} {a0 : Nat} {p1 : Nat} {x : Mm} (h : f_X3_tellFeet μ a0 p1 = some x) : tg μ a0 = 4 := by
  unfold f_X3_tellFeet at h
  exact (gsn h).1
set_option maxHeartbeats 4000000 in
set_option maxRecDepth 100000 in
theorem c_X3_tellFeet (l : Launch) (G : CG) (μ : Mm) (a0 : Nat) (p1 : Nat) (x : Mm) (h : f_X3_tellFeet μ a0 p1 = some x) : Met l yX3_tellFeet (.code yX3_tellFeet cX3_tellFeet 3 none :: UW) (rmk 1 0 0 0) (PC G [.ref a0, .ref p1] μ) (QV G x) 0 0 (fA G) := by
  refine Met.ofW (cc := cX3_tellFeet) (maxL := 3) (ret := none) (by decide) rfl ?_
  intro p e s m args below meth c s₁ B hml hv
  obtain ⟨X, hH, hr, rfl, hnm⟩ := cx_in B hml hv
  have X : Cx p s m _ meth c cX3_tellFeet 3 RX3 G := X
  have hx := X.1
  have hb := X.2.1
  have hown := X.2.2.2.1
  have hts := X.2.2.2.2.1
  have hRL : RmL (rmk 1 0 0 0) 1 0 := ⟨Nat.le_refl _, Nat.le_refl _⟩
  have hcs : 0 ≤ (rmk 0 0 0 0).cells ∧ 0 ≤ (rmk 0 0 0 0).slots := ⟨Nat.zero_le _, Nat.zero_le _⟩
  refine ls_in (Nat.le_of_ble_eq_true rfl) (fun ls hl => ?_)
  have hl : lv_has ls 3 [(0, .ref a0), (1, .ref p1)] := hl
  unfold f_X3_tellFeet at h
  obtain ⟨htg, h⟩ := gsn h
  refine lv_iconst (v := 0) hx hb dX3_tellFeet_0 (by decide) ?_
  refine lv_istore_n (lv' := [(2, .int (0 : Int32)), (0, .ref a0), (1, .ref p1)]) hx hb dX3_tellFeet_1 rfl hl (by decide) rfl (fun ls hl => ?_)
  obtain ⟨x9, hx9, hhx9⟩ := bnd h
  clear h
  refine w_X3_tellFeet_2 l X hRL hcs BIG a0 p1 (0 : Int32) μ x9 hx9 (fun H locs ls hH hl => ?_) _ _ _ hH (lv_sub hl [1, 2, 0] rfl)
  · have h := hhx9
    clear hhx9
    exact eV X hH h hr dX3_tellFeet_34 (Nat.le_of_ble_eq_true rfl) (Nat.le_of_ble_eq_true rfl)
theorem t_X4_kind {μ : Mm} {a0 : Nat} {x : Int32} (h : f_X4_kind μ a0 = some x) : (tg μ a0 = 5 ∨ tg μ a0 = 7) := by
  unfold f_X4_kind at h
  exact (gsn h).1
set_option maxHeartbeats 4000000 in
set_option maxRecDepth 100000 in
theorem c_X4_kind (l : Launch) (G : CG) (μ : Mm) (a0 : Nat) (x : Int32) (h : f_X4_kind μ a0 = some x) : Met l yX4_kind (.code yX4_kind cX4_kind 1 (some .int) :: UW) (rmk 1 0 0 0) (PC G [.ref a0] μ) (QI G x μ) 0 0 (fA G) := by
  refine Met.ofW (cc := cX4_kind) (maxL := 1) (ret := (some .int)) (by decide) rfl ?_
  intro p e s m args below meth c s₁ B hml hv
  obtain ⟨X, hH, hr, rfl, hnm⟩ := cx_in B hml hv
  have X : Cx p s m _ meth c cX4_kind 1 RX4 G := X
  have hx := X.1
  have hb := X.2.1
  have hown := X.2.2.2.1
  have hts := X.2.2.2.2.1
  have hRL : RmL (rmk 1 0 0 0) 1 0 := ⟨Nat.le_refl _, Nat.le_refl _⟩
  have hcs : 0 ≤ (rmk 0 0 0 0).cells ∧ 0 ≤ (rmk 0 0 0 0).slots := ⟨Nat.zero_le _, Nat.zero_le _⟩
  refine ls_in (Nat.le_of_ble_eq_true rfl) (fun ls hl => ?_)
  have hl : lv_has ls 1 [(0, .ref a0)] := hl
  unfold f_X4_kind at h
  obtain ⟨htg, h⟩ := gsn h
  refine lv_iconst (v := 1) hx hb dX4_kind_0 (by decide) ?_
  exact eIp X hH h hr dX4_kind_1
theorem t_X6_kind {μ : Mm} {a0 : Nat} {x : Int32} (h : f_X6_kind μ a0 = some x) : tg μ a0 = 7 := by
  unfold f_X6_kind at h
  exact (gsn h).1
set_option maxHeartbeats 4000000 in
set_option maxRecDepth 100000 in
theorem c_X6_kind (l : Launch) (G : CG) (μ : Mm) (a0 : Nat) (x : Int32) (h : f_X6_kind μ a0 = some x) : Met l yX6_kind (.code yX6_kind cX6_kind 1 (some .int) :: UW) (rmk 1 0 0 0) (PC G [.ref a0] μ) (QI G x μ) 0 0 (fA G) := by
  refine Met.ofW (cc := cX6_kind) (maxL := 1) (ret := (some .int)) (by decide) rfl ?_
  intro p e s m args below meth c s₁ B hml hv
  obtain ⟨X, hH, hr, rfl, hnm⟩ := cx_in B hml hv
  have X : Cx p s m _ meth c cX6_kind 1 RX6 G := X
  have hx := X.1
  have hb := X.2.1
  have hown := X.2.2.2.1
  have hts := X.2.2.2.2.1
  have hRL : RmL (rmk 1 0 0 0) 1 0 := ⟨Nat.le_refl _, Nat.le_refl _⟩
  have hcs : 0 ≤ (rmk 0 0 0 0).cells ∧ 0 ≤ (rmk 0 0 0 0).slots := ⟨Nat.zero_le _, Nat.zero_le _⟩
  refine ls_in (Nat.le_of_ble_eq_true rfl) (fun ls hl => ?_)
  have hl : lv_has ls 1 [(0, .ref a0)] := hl
  unfold f_X6_kind at h
  obtain ⟨htg, h⟩ := gsn h
  refine lv_iconst (v := 4) hx hb dX6_kind_0 (by decide) ?_
  exact eIp X hH h hr dX6_kind_1
theorem t_X9_kind {μ : Mm} {a0 : Nat} {x : Int32} (h : f_X9_kind μ a0 = some x) : tg μ a0 = 10 := by
  unfold f_X9_kind at h
  exact (gsn h).1
set_option maxHeartbeats 4000000 in
set_option maxRecDepth 100000 in
theorem c_X9_kind (l : Launch) (G : CG) (μ : Mm) (a0 : Nat) (x : Int32) (h : f_X9_kind μ a0 = some x) : Met l yX9_kind (.code yX9_kind cX9_kind 1 (some .int) :: UW) (rmk 1 0 0 0) (PC G [.ref a0] μ) (QI G x μ) 0 0 (fA G) := by
  refine Met.ofW (cc := cX9_kind) (maxL := 1) (ret := (some .int)) (by decide) rfl ?_
  intro p e s m args below meth c s₁ B hml hv
  obtain ⟨X, hH, hr, rfl, hnm⟩ := cx_in B hml hv
  have X : Cx p s m _ meth c cX9_kind 1 RX9 G := X
  have hx := X.1
  have hb := X.2.1
  have hown := X.2.2.2.1
  have hts := X.2.2.2.2.1
  have hRL : RmL (rmk 1 0 0 0) 1 0 := ⟨Nat.le_refl _, Nat.le_refl _⟩
  have hcs : 0 ≤ (rmk 0 0 0 0).cells ∧ 0 ≤ (rmk 0 0 0 0).slots := ⟨Nat.zero_le _, Nat.zero_le _⟩
  refine ls_in (Nat.le_of_ble_eq_true rfl) (fun ls hl => ?_)
  have hl : lv_has ls 1 [(0, .ref a0)] := hl
  unfold f_X9_kind at h
  obtain ⟨htg, h⟩ := gsn h
  refine lv_iconst (v := 5) hx hb dX9_kind_0 (by decide) ?_
  exact eIp X hH h hr dX9_kind_1
set_option maxHeartbeats 1000000 in
theorem iv_X3_139 {p : Program} {e : Env} {R : Room} {s : State} {m : MethodId} {args : Array Value} {below : List Frame} {meth : Method} {c : Code} {H : Heap} {locs : List Loc} {cells slots : Nat} {Q : State → Prop} {cc : ByteArray} {pc : Nat} {ls : Array Slot} {rest : List Value} {nL : Nat} {G : CG} {μ : Mm} {a : Nat}  {x : Int32} {k k2 : Nat} (l : Launch) (X : Cx p s m args meth c cc nL RX3 G) (hH : HS G s μ H locs) (hRL : RmL R k k2) (hk : 1 + 1 ≤ k ∧ 20 ≤ k2) (h : fv_2_kind μ a = some x) (hls : ls.size = nL) (hroom : (rest.map fun v => v.category).sum ≤ 8) (hdg : decode cc pc = .ok (.invokevirtual 139, 3)) (hcs : cells + 0 ≤ R.cells ∧ slots + 0 ≤ R.slots) (kk : ∀ (H1 : Heap) (locs1 : List Loc), HS G s μ H1 locs1 → W p l e R s m args below meth c H1 locs1 cells slots Q (F0 m (pc + 3) ls (.int x :: rest))) : W p l e R s m args below meth c H locs cells slots Q (F0 m pc ls (.ref a :: rest)) := by
  refine kI (av := (Value.ref a :: []).toArray) (rest := rest) hH ?_ kk
  unfold fv_2_kind at h
  by_cases ht0 : tg μ a = 1
  · exact rO (As := []) (rest := rest) (owner := RX2) (x := yX2_kind) X hH ht0 vc_0 (c_X0_kind l G μ a x (ift h ht0)) (List.forall_mem_cons.mpr ⟨u_429, (List.forall_mem_cons.mpr ⟨u_432, (List.forall_mem_cons.mpr ⟨u_430, (List.forall_mem_cons.mpr ⟨u_433, (List.forall_mem_cons.mpr ⟨u_434, (List.forall_mem_cons.mpr ⟨u_31, (fun _ h9 => absurd h9 List.not_mem_nil)⟩)⟩)⟩)⟩)⟩)⟩) u_435 u_448 (rmo hRL (Nat.le_trans (by decide) hk.1) (Nat.le_trans (by decide) hk.2)) ddU_X2_kind rfl hls rfl hroom hdg hcs
  replace h := iff' h ht0
  by_cases ht1 : tg μ a = 2
  · exact rO (As := []) (rest := rest) (owner := RX2) (x := yX2_kind) X hH ht1 vc_1 (c_X1_kind l G μ a x (ift h ht1)) (List.forall_mem_cons.mpr ⟨u_429, (List.forall_mem_cons.mpr ⟨u_432, (List.forall_mem_cons.mpr ⟨u_430, (List.forall_mem_cons.mpr ⟨u_436, (List.forall_mem_cons.mpr ⟨u_437, (List.forall_mem_cons.mpr ⟨u_30, (fun _ h9 => absurd h9 List.not_mem_nil)⟩)⟩)⟩)⟩)⟩)⟩) u_438 u_448 (rmo hRL (Nat.le_trans (by decide) hk.1) (Nat.le_trans (by decide) hk.2)) ddU_X2_kind rfl hls rfl hroom hdg hcs
  replace h := iff' h ht1
  by_cases ht2 : tg μ a = 3
  · exact rV (As := []) (rest := rest) X hH ht2 vc_2 (c_X2_kind l G μ a x (ift h ht2)) (List.forall_mem_cons.mpr ⟨u_429, (List.forall_mem_cons.mpr ⟨u_430, (List.forall_mem_cons.mpr ⟨u_431, (List.forall_mem_cons.mpr ⟨u_25, (fun _ h9 => absurd h9 List.not_mem_nil)⟩)⟩)⟩)⟩) u_448 (rmo hRL (Nat.le_trans (by decide) hk.1) (Nat.le_trans (by decide) hk.2)) ddV_X2_kind rfl hls rfl hroom hdg hcs
  replace h := iff' h ht2
  by_cases ht4 : tg μ a = 5
  · exact rO (As := []) (rest := rest) (owner := RX2) (x := yX2_kind) X hH ht4 vc_4 (c_X4_kind l G μ a x (ift h ht4)) (List.forall_mem_cons.mpr ⟨u_429, (List.forall_mem_cons.mpr ⟨u_432, (List.forall_mem_cons.mpr ⟨u_430, (List.forall_mem_cons.mpr ⟨u_439, (List.forall_mem_cons.mpr ⟨u_440, (List.forall_mem_cons.mpr ⟨u_29, (fun _ h9 => absurd h9 List.not_mem_nil)⟩)⟩)⟩)⟩)⟩)⟩) u_441 u_448 (rmo hRL (Nat.le_trans (by decide) hk.1) (Nat.le_trans (by decide) hk.2)) ddU_X2_kind rfl hls rfl hroom hdg hcs
  replace h := iff' h ht4
  by_cases ht6 : tg μ a = 7
  · exact rO (As := []) (rest := rest) (owner := RX2) (x := yX2_kind) X hH ht6 vc_6 (c_X6_kind l G μ a x (ift h ht6)) (List.forall_mem_cons.mpr ⟨u_429, (List.forall_mem_cons.mpr ⟨u_432, (List.forall_mem_cons.mpr ⟨u_430, (List.forall_mem_cons.mpr ⟨u_442, (List.forall_mem_cons.mpr ⟨u_443, (List.forall_mem_cons.mpr ⟨u_32, (fun _ h9 => absurd h9 List.not_mem_nil)⟩)⟩)⟩)⟩)⟩)⟩) u_444 u_448 (rmo hRL (Nat.le_trans (by decide) hk.1) (Nat.le_trans (by decide) hk.2)) ddU_X2_kind rfl hls rfl hroom hdg hcs
  replace h := iff' h ht6
  by_cases ht9 : tg μ a = 10
  · exact rO (As := []) (rest := rest) (owner := RX2) (x := yX2_kind) X hH ht9 vc_9 (c_X9_kind l G μ a x (ift h ht9)) (List.forall_mem_cons.mpr ⟨u_429, (List.forall_mem_cons.mpr ⟨u_432, (List.forall_mem_cons.mpr ⟨u_430, (List.forall_mem_cons.mpr ⟨u_445, (List.forall_mem_cons.mpr ⟨u_446, (List.forall_mem_cons.mpr ⟨u_33, (fun _ h9 => absurd h9 List.not_mem_nil)⟩)⟩)⟩)⟩)⟩)⟩) u_447 u_448 (rmo hRL (Nat.le_trans (by decide) hk.1) (Nat.le_trans (by decide) hk.2)) ddU_X2_kind rfl hls rfl hroom hdg hcs
  replace h := iff' h ht9
  cases h
set_option maxHeartbeats 1000000 in
theorem iv_X3_143 {p : Program} {e : Env} {R : Room} {s : State} {m : MethodId} {args : Array Value} {below : List Frame} {meth : Method} {c : Code} {H : Heap} {locs : List Loc} {cells slots : Nat} {Q : State → Prop} {cc : ByteArray} {pc : Nat} {ls : Array Slot} {rest : List Value} {nL : Nat} {G : CG} {μ : Mm} {a : Nat} {q0 : Int32} {x : Int32} {k k2 : Nat} (l : Launch) (X : Cx p s m args meth c cc nL RX3 G) (hH : HS G s μ H locs) (hRL : RmL R k k2) (hk : 4 + 1 ≤ k ∧ 82 ≤ k2) (h : f_X3_treadNow μ a q0 = some x) (hls : ls.size = nL) (hroom : (rest.map fun v => v.category).sum ≤ 8) (hdg : decode cc pc = .ok (.invokevirtual 143, 3)) (hcs : cells + 0 ≤ R.cells ∧ slots + 0 ≤ R.slots) (kk : ∀ (H1 : Heap) (locs1 : List Loc), HS G s μ H1 locs1 → W p l e R s m args below meth c H1 locs1 cells slots Q (F0 m (pc + 3) ls (.int x :: rest))) : W p l e R s m args below meth c H locs cells slots Q (F0 m pc ls (.int q0 :: .ref a :: rest)) := by
  refine kI hH (rV (As := [.int q0]) (rest := rest) X hH (t_X3_treadNow h) vc_3 (c_X3_treadNow l G μ a q0 x h) (List.forall_mem_cons.mpr ⟨u_449, (List.forall_mem_cons.mpr ⟨u_450, (List.forall_mem_cons.mpr ⟨u_451, (List.forall_mem_cons.mpr ⟨u_22, (fun _ h9 => absurd h9 List.not_mem_nil)⟩)⟩)⟩)⟩) u_452 (rmo hRL (Nat.le_trans (by decide) hk.1) (Nat.le_trans (by decide) hk.2)) ddV_X3_treadNow rfl hls rfl hroom hdg hcs) kk
set_option maxHeartbeats 1000000 in
theorem iv_X3_146 {p : Program} {e : Env} {R : Room} {s : State} {m : MethodId} {args : Array Value} {below : List Frame} {meth : Method} {c : Code} {H : Heap} {locs : List Loc} {cells slots : Nat} {Q : State → Prop} {cc : ByteArray} {pc : Nat} {ls : Array Slot} {rest : List Value} {nL : Nat} {G : CG} {μ : Mm} {a : Nat}  {x : Int32} {k k2 : Nat} (l : Launch) (X : Cx p s m args meth c cc nL RX3 G) (hH : HS G s μ H locs) (hRL : RmL R k k2) (hk : 2 + 1 ≤ k ∧ 40 ≤ k2) (h : fv_2_bareTread μ a = some x) (hls : ls.size = nL) (hroom : (rest.map fun v => v.category).sum ≤ 8) (hdg : decode cc pc = .ok (.invokevirtual 146, 3)) (hcs : cells + 0 ≤ R.cells ∧ slots + 0 ≤ R.slots) (kk : ∀ (H1 : Heap) (locs1 : List Loc), HS G s μ H1 locs1 → W p l e R s m args below meth c H1 locs1 cells slots Q (F0 m (pc + 3) ls (.int x :: rest))) : W p l e R s m args below meth c H locs cells slots Q (F0 m pc ls (.ref a :: rest)) := by
  refine kI (av := (Value.ref a :: []).toArray) (rest := rest) hH ?_ kk
  unfold fv_2_bareTread at h
  by_cases ht0 : tg μ a = 1
  · exact rO (As := []) (rest := rest) (owner := RX2) (x := yX2_bareTread) X hH ht0 vc_0 (c_X0_bareTread l G μ a x (ift h ht0)) (List.forall_mem_cons.mpr ⟨u_453, (List.forall_mem_cons.mpr ⟨u_343, (List.forall_mem_cons.mpr ⟨u_341, (List.forall_mem_cons.mpr ⟨u_344, (List.forall_mem_cons.mpr ⟨u_345, (List.forall_mem_cons.mpr ⟨u_31, (fun _ h9 => absurd h9 List.not_mem_nil)⟩)⟩)⟩)⟩)⟩)⟩) u_346 u_367 (rmo hRL (Nat.le_trans (by decide) hk.1) (Nat.le_trans (by decide) hk.2)) ddU_X2_bareTread rfl hls rfl hroom hdg hcs
  replace h := iff' h ht0
  by_cases ht1 : tg μ a = 2
  · exact rO (As := []) (rest := rest) (owner := RX2) (x := yX2_bareTread) X hH ht1 vc_1 (c_X1_bareTread l G μ a x (ift h ht1)) (List.forall_mem_cons.mpr ⟨u_453, (List.forall_mem_cons.mpr ⟨u_343, (List.forall_mem_cons.mpr ⟨u_341, (List.forall_mem_cons.mpr ⟨u_347, (List.forall_mem_cons.mpr ⟨u_348, (List.forall_mem_cons.mpr ⟨u_30, (fun _ h9 => absurd h9 List.not_mem_nil)⟩)⟩)⟩)⟩)⟩)⟩) u_349 u_367 (rmo hRL (Nat.le_trans (by decide) hk.1) (Nat.le_trans (by decide) hk.2)) ddU_X2_bareTread rfl hls rfl hroom hdg hcs
  replace h := iff' h ht1
  by_cases ht2 : tg μ a = 3
  · exact rV (As := []) (rest := rest) X hH ht2 vc_2 (c_X2_bareTread l G μ a x (ift h ht2)) (List.forall_mem_cons.mpr ⟨u_453, (List.forall_mem_cons.mpr ⟨u_341, (List.forall_mem_cons.mpr ⟨u_342, (List.forall_mem_cons.mpr ⟨u_25, (fun _ h9 => absurd h9 List.not_mem_nil)⟩)⟩)⟩)⟩) u_367 (rmo hRL (Nat.le_trans (by decide) hk.1) (Nat.le_trans (by decide) hk.2)) ddV_X2_bareTread rfl hls rfl hroom hdg hcs
  replace h := iff' h ht2
  by_cases ht4 : tg μ a = 5
  · exact rO (As := []) (rest := rest) (owner := RX2) (x := yX2_bareTread) X hH ht4 vc_4 (c_X4_bareTread l G μ a x (ift h ht4)) (List.forall_mem_cons.mpr ⟨u_453, (List.forall_mem_cons.mpr ⟨u_343, (List.forall_mem_cons.mpr ⟨u_341, (List.forall_mem_cons.mpr ⟨u_350, (List.forall_mem_cons.mpr ⟨u_351, (List.forall_mem_cons.mpr ⟨u_29, (fun _ h9 => absurd h9 List.not_mem_nil)⟩)⟩)⟩)⟩)⟩)⟩) u_352 u_367 (rmo hRL (Nat.le_trans (by decide) hk.1) (Nat.le_trans (by decide) hk.2)) ddU_X2_bareTread rfl hls rfl hroom hdg hcs
  replace h := iff' h ht4
  by_cases ht6 : tg μ a = 7
  · exact rO (As := []) (rest := rest) (owner := RX2) (x := yX2_bareTread) X hH ht6 vc_6 (c_X6_bareTread l G μ a x (ift h ht6)) (List.forall_mem_cons.mpr ⟨u_453, (List.forall_mem_cons.mpr ⟨u_343, (List.forall_mem_cons.mpr ⟨u_341, (List.forall_mem_cons.mpr ⟨u_353, (List.forall_mem_cons.mpr ⟨u_354, (List.forall_mem_cons.mpr ⟨u_32, (fun _ h9 => absurd h9 List.not_mem_nil)⟩)⟩)⟩)⟩)⟩)⟩) u_355 u_367 (rmo hRL (Nat.le_trans (by decide) hk.1) (Nat.le_trans (by decide) hk.2)) ddU_X2_bareTread rfl hls rfl hroom hdg hcs
  replace h := iff' h ht6
  by_cases ht9 : tg μ a = 10
  · exact rO (As := []) (rest := rest) (owner := RX2) (x := yX2_bareTread) X hH ht9 vc_9 (c_X9_bareTread l G μ a x (ift h ht9)) (List.forall_mem_cons.mpr ⟨u_453, (List.forall_mem_cons.mpr ⟨u_343, (List.forall_mem_cons.mpr ⟨u_341, (List.forall_mem_cons.mpr ⟨u_362, (List.forall_mem_cons.mpr ⟨u_363, (List.forall_mem_cons.mpr ⟨u_33, (fun _ h9 => absurd h9 List.not_mem_nil)⟩)⟩)⟩)⟩)⟩)⟩) u_364 u_367 (rmo hRL (Nat.le_trans (by decide) hk.1) (Nat.le_trans (by decide) hk.2)) ddU_X2_bareTread rfl hls rfl hroom hdg hcs
  replace h := iff' h ht9
  cases h
theorem t_X3_detail {μ : Mm} {a0 : Nat} {p1 : Int32} {p2 : Int32} {x : Int32} (h : f_X3_detail μ a0 p1 p2 = some x) : tg μ a0 = 4 := by
  unfold f_X3_detail at h
  exact (gsn h).1
set_option maxHeartbeats 4000000 in
set_option maxRecDepth 100000 in
theorem c_X3_detail (l : Launch) (G : CG) (μ : Mm) (a0 : Nat) (p1 : Int32) (p2 : Int32) (x : Int32) (h : f_X3_detail μ a0 p1 p2 = some x) : Met l yX3_detail (.code yX3_detail cX3_detail 3 (some .int) :: UW) (rmk 5 82 0 0) (PC G [.ref a0, .int p1, .int p2] μ) (QI G x μ) 0 0 (fA G) := by
  refine Met.ofW (cc := cX3_detail) (maxL := 3) (ret := (some .int)) (by decide) rfl ?_
  intro p e s m args below meth c s₁ B hml hv
  obtain ⟨X, hH, hr, rfl, hnm⟩ := cx_in B hml hv
  have X : Cx p s m _ meth c cX3_detail 3 RX3 G := X
  have hx := X.1
  have hb := X.2.1
  have hown := X.2.2.2.1
  have hts := X.2.2.2.2.1
  have hRL : RmL (rmk 5 82 0 0) 5 82 := ⟨Nat.le_refl _, Nat.le_refl _⟩
  have hcs : 0 ≤ (rmk 0 0 0 0).cells ∧ 0 ≤ (rmk 0 0 0 0).slots := ⟨Nat.zero_le _, Nat.zero_le _⟩
  refine ls_in (Nat.le_of_ble_eq_true rfl) (fun ls hl => ?_)
  have hl : lv_has ls 3 [(0, .ref a0), (1, .int p1), (2, .int p2)] := hl
  unfold f_X3_detail at h
  obtain ⟨htg, h⟩ := gsn h
  refine lv_aload_n hx hb dX3_detail_0 rfl (lv_at hl 0 rfl) ?_
  refine lv_iload_n hx hb dX3_detail_1 rfl (lv_at hl 1 rfl) ?_
  obtain ⟨x1, hx1, h⟩ := bnd h
  refine iv_X3_102 l X hH hRL (by decide) hx1 hl.1 (Nat.le_of_ble_eq_true rfl) dX3_detail_2 hcs (fun H locs hH => ?_)
  refine lv_if_ne (tgt := 10) hx hb dX3_detail_5 (by decide) (fun hc2 => ?_) (fun hc2 => ?_)
  · replace h := iff' h hc2
    refine lv_iload_n hx hb dX3_detail_10 rfl (lv_at hl 2 rfl) ?_
    by_cases hc3 : p2 = (0 : Int32)
    · replace h := ift h hc3
      refine lv_tableIn (tgt := 40) (off := 29) hx hb dX3_detail_11 (by rw [hc3]; decide) (by rw [hc3]; decide) (by rw [hc3]; rfl) (by decide) ?_
      refine lv_aload_n hx hb dX3_detail_40 rfl (lv_at hl 0 rfl) ?_
      obtain ⟨x4, hx4, h⟩ := bnd h
      refine gf_X3_11 X hH hx4 dX3_detail_41 ?_
      refine lv_iload_n hx hb dX3_detail_44 rfl (lv_at hl 1 rfl) ?_
      obtain ⟨x5, hx5, h⟩ := bnd h
      refine w_aP X hH hx5 (by decide) (k := 4) rfl dX3_detail_45 ?_
      obtain ⟨x6, hx6, h⟩ := bnd h
      refine iv_X3_139 l X hH hRL (by decide) hx6 hl.1 (Nat.le_of_ble_eq_true rfl) dX3_detail_46 hcs (fun H locs hH => ?_)
      exact eIp X hH h hr dX3_detail_49
    · replace h := iff' h hc3
      by_cases hc7 : p2 = (1 : Int32)
      · replace h := ift h hc7
        refine lv_tableIn (tgt := 50) (off := 39) hx hb dX3_detail_11 (by rw [hc7]; decide) (by rw [hc7]; decide) (by rw [hc7]; rfl) (by decide) ?_
        refine lv_aload_n hx hb dX3_detail_50 rfl (lv_at hl 0 rfl) ?_
        obtain ⟨x8, hx8, h⟩ := bnd h
        refine gf_X3_11 X hH hx8 dX3_detail_51 ?_
        refine lv_iload_n hx hb dX3_detail_54 rfl (lv_at hl 1 rfl) ?_
        obtain ⟨x9, hx9, h⟩ := bnd h
        refine w_aP X hH hx9 (by decide) (k := 4) rfl dX3_detail_55 ?_
        obtain ⟨x10, hx10, h⟩ := bnd h
        refine gf_X3_137 X hH hx10 dX3_detail_56 ?_
        exact eIp X hH h hr dX3_detail_59
      · replace h := iff' h hc7
        by_cases hc11 : p2 = (2 : Int32)
        · replace h := ift h hc11
          refine lv_tableIn (tgt := 60) (off := 49) hx hb dX3_detail_11 (by rw [hc11]; decide) (by rw [hc11]; decide) (by rw [hc11]; rfl) (by decide) ?_
          refine lv_aload_n hx hb dX3_detail_60 rfl (lv_at hl 0 rfl) ?_
          refine lv_iload_n hx hb dX3_detail_61 rfl (lv_at hl 1 rfl) ?_
          obtain ⟨x12, hx12, h⟩ := bnd h
          refine iv_X3_143 l X hH hRL (by decide) hx12 hl.1 (Nat.le_of_ble_eq_true rfl) dX3_detail_62 hcs (fun H locs hH => ?_)
          exact eIp X hH h hr dX3_detail_65
        · replace h := iff' h hc11
          by_cases hc13 : p2 = (3 : Int32)
          · replace h := ift h hc13
            refine lv_tableIn (tgt := 66) (off := 55) hx hb dX3_detail_11 (by rw [hc13]; decide) (by rw [hc13]; decide) (by rw [hc13]; rfl) (by decide) ?_
            refine lv_aload_n hx hb dX3_detail_66 rfl (lv_at hl 0 rfl) ?_
            obtain ⟨x14, hx14, h⟩ := bnd h
            refine gf_X3_11 X hH hx14 dX3_detail_67 ?_
            refine lv_iload_n hx hb dX3_detail_70 rfl (lv_at hl 1 rfl) ?_
            obtain ⟨x15, hx15, h⟩ := bnd h
            refine w_aP X hH hx15 (by decide) (k := 4) rfl dX3_detail_71 ?_
            obtain ⟨x16, hx16, h⟩ := bnd h
            refine iv_X3_146 l X hH hRL (by decide) hx16 hl.1 (Nat.le_of_ble_eq_true rfl) dX3_detail_72 hcs (fun H locs hH => ?_)
            exact eIp X hH h hr dX3_detail_75
          · replace h := iff' h hc13
            have e0 : p2.toInt ≠ 0 := lv_neT hc3 (by decide)
            have e1 : p2.toInt ≠ 1 := lv_neT hc7 (by decide)
            have e2 : p2.toInt ≠ 2 := lv_neT hc11 (by decide)
            have e3 : p2.toInt ≠ 3 := lv_neT hc13 (by decide)
            refine lv_tableOut (tgt := 76) hx hb dX3_detail_11 (by omega) (by decide) ?_
            refine lv_aload_n hx hb dX3_detail_76 rfl (lv_at hl 0 rfl) ?_
            obtain ⟨x17, hx17, h⟩ := bnd h
            refine gf_X3_11 X hH hx17 dX3_detail_77 ?_
            refine lv_iload_n hx hb dX3_detail_80 rfl (lv_at hl 1 rfl) ?_
            obtain ⟨x18, hx18, h⟩ := bnd h
            refine w_aP X hH hx18 (by decide) (k := 4) rfl dX3_detail_81 ?_
            obtain ⟨x19, hx19, h⟩ := bnd h
            refine gf_X3_122 X hH hx19 dX3_detail_82 ?_
            exact eIp X hH h hr dX3_detail_85
  · replace h := ift h hc2
    refine lv_iconst (v := 0) hx hb dX3_detail_8 (by decide) ?_
    exact eIp X hH h hr dX3_detail_9
set_option maxHeartbeats 4000000 in
set_option maxRecDepth 100000 in
theorem w_X3_countHeavy_4 {p : Program} {e : Env} {R : Room} {s : State} {m : MethodId} {args : Array Value} {below : List Frame} {meth : Method} {c : Code} {cells slots : Nat} {Q : State → Prop} {G : CG} (l : Launch) (X : Cx p s m args meth c cX3_countHeavy 3 RX3 G) (hRL : RmL R 1 0) (hcs : cells ≤ R.cells ∧ slots ≤ R.slots) : ∀ (n : Nat) (v0 : Nat) (v1 : Int32) (v2 : Int32) (μ : Mm) (x : Int32), lp_X3_countHeavy_4 n v0 v1 v2 μ = some x → (∀ (H : Heap) (locs : List Loc) (ls : Array Slot), HS G s μ H locs → lv_has ls 3 [(1, .int x)] → W p l e R s m args below meth c H locs cells slots Q (F0 m 38 ls [])) → ∀ (H : Heap) (locs : List Loc) (ls : Array Slot), HS G s μ H locs → lv_has ls 3 [(0, .ref v0), (1, .int v1), (2, .int v2)] → W p l e R s m args below meth c H locs cells slots Q (F0 m 4 ls []) := by
  have hx := X.1
  have hb := X.2.1
  have hown := X.2.2.2.1
  have hts := X.2.2.2.2.1
  intro n
  induction n with
  | zero =>
    intro v0 v1 v2 μ x h
    rw [lp_X3_countHeavy_4] at h
    cases h
  | succ n ih =>
    intro v0 v1 v2 μ x h k0 H locs ls hH hl
    rw [lp_X3_countHeavy_4] at h
    refine lv_iload_n hx hb dX3_countHeavy_4 rfl (lv_at hl 2 rfl) ?_
    refine lv_aload_n hx hb dX3_countHeavy_5 rfl (lv_at hl 0 rfl) ?_
    obtain ⟨x1, hx1, h⟩ := bnd h
    refine gf_X3_26 X hH hx1 dX3_countHeavy_6 ?_
    refine lv_icmp_ge (tgt := 38) hx hb dX3_countHeavy_9 (by decide) (fun hc2 => ?_) (fun hc2 => ?_)
    · replace h := ift h hc2
      cases h
      exact k0 _ _ _ hH (lv_sub hl [1] rfl)
    · replace h := iff' h hc2
      refine lv_iload_n hx hb dX3_countHeavy_12 rfl (lv_at hl 1 rfl) ?_
      refine lv_aload_n hx hb dX3_countHeavy_13 rfl (lv_at hl 0 rfl) ?_
      obtain ⟨x3, hx3, h⟩ := bnd h
      refine gf_X3_11 X hH hx3 dX3_countHeavy_14 ?_
      refine lv_iload_n hx hb dX3_countHeavy_17 rfl (lv_at hl 2 rfl) ?_
      obtain ⟨x4, hx4, h⟩ := bnd h
      refine w_aP X hH hx4 (by decide) (k := 4) rfl dX3_countHeavy_18 ?_
      obtain ⟨x5, hx5, h⟩ := bnd h
      refine w_inst X hH hx5 u_414 (tc := 4) rfl iy_4 in_4 dX3_countHeavy_19 ?_
      refine lv_if_eq (tgt := 29) hx hb dX3_countHeavy_22 (by decide) (fun hc6 => ?_) (fun hc6 => ?_)
      · replace h := ift h hc6
        refine lv_iconst (v := 0) hx hb dX3_countHeavy_29 (by decide) ?_
        refine lv_iadd hx hb dX3_countHeavy_30 ?_
        refine lv_istore_n (lv' := [(1, .int (v1 + (0 : Int32))), (0, .ref v0), (2, .int v2)]) hx hb dX3_countHeavy_31 rfl hl (by decide) rfl (fun ls hl => ?_)
        refine lv_iinc (v := (v2 + 1)) (lv' := [(2, .int (v2 + 1)), (1, .int (v1 + (0 : Int32))), (0, .ref v0)]) hx hb dX3_countHeavy_32 hl (k := 2) rfl rfl (by decide) rfl (fun ls hl => ?_)
        refine lv_goto (tgt := 4) hx hb dX3_countHeavy_35 (by decide) ?_
        exact ih _ _ _ _ _ h k0 _ _ _ hH (lv_sub hl [2, 1, 0] rfl)
      · replace h := iff' h hc6
        refine lv_iconst (v := 1) hx hb dX3_countHeavy_25 (by decide) ?_
        refine lv_goto (tgt := 30) hx hb dX3_countHeavy_26 (by decide) ?_
        refine lv_iadd hx hb dX3_countHeavy_30 ?_
        refine lv_istore_n (lv' := [(1, .int (v1 + (1 : Int32))), (0, .ref v0), (2, .int v2)]) hx hb dX3_countHeavy_31 rfl hl (by decide) rfl (fun ls hl => ?_)
        refine lv_iinc (v := (v2 + 1)) (lv' := [(2, .int (v2 + 1)), (1, .int (v1 + (1 : Int32))), (0, .ref v0)]) hx hb dX3_countHeavy_32 hl (k := 2) rfl rfl (by decide) rfl (fun ls hl => ?_)
        refine lv_goto (tgt := 4) hx hb dX3_countHeavy_35 (by decide) ?_
        exact ih _ _ _ _ _ h k0 _ _ _ hH (lv_sub hl [2, 1, 0] rfl)
theorem t_X3_countHeavy {μ : Mm} {a0 : Nat} {x : Int32} (h : f_X3_countHeavy μ a0 = some x) : tg μ a0 = 4 := by
  unfold f_X3_countHeavy at h
  exact (gsn h).1
set_option maxHeartbeats 4000000 in
set_option maxRecDepth 100000 in
theorem c_X3_countHeavy (l : Launch) (G : CG) (μ : Mm) (a0 : Nat) (x : Int32) (h : f_X3_countHeavy μ a0 = some x) : Met l yX3_countHeavy (.code yX3_countHeavy cX3_countHeavy 3 (some .int) :: UW) (rmk 1 0 0 0) (PC G [.ref a0] μ) (QI G x μ) 0 0 (fA G) := by
  refine Met.ofW (cc := cX3_countHeavy) (maxL := 3) (ret := (some .int)) (by decide) rfl ?_
  intro p e s m args below meth c s₁ B hml hv
  obtain ⟨X, hH, hr, rfl, hnm⟩ := cx_in B hml hv
  have X : Cx p s m _ meth c cX3_countHeavy 3 RX3 G := X
  have hx := X.1
  have hb := X.2.1
  have hown := X.2.2.2.1
  have hts := X.2.2.2.2.1
  have hRL : RmL (rmk 1 0 0 0) 1 0 := ⟨Nat.le_refl _, Nat.le_refl _⟩
  have hcs : 0 ≤ (rmk 0 0 0 0).cells ∧ 0 ≤ (rmk 0 0 0 0).slots := ⟨Nat.zero_le _, Nat.zero_le _⟩
  refine ls_in (Nat.le_of_ble_eq_true rfl) (fun ls hl => ?_)
  have hl : lv_has ls 3 [(0, .ref a0)] := hl
  unfold f_X3_countHeavy at h
  obtain ⟨htg, h⟩ := gsn h
  refine lv_iconst (v := 0) hx hb dX3_countHeavy_0 (by decide) ?_
  refine lv_istore_n (lv' := [(1, .int (0 : Int32)), (0, .ref a0)]) hx hb dX3_countHeavy_1 rfl hl (by decide) rfl (fun ls hl => ?_)
  refine lv_iconst (v := 0) hx hb dX3_countHeavy_2 (by decide) ?_
  refine lv_istore_n (lv' := [(2, .int (0 : Int32)), (1, .int (0 : Int32)), (0, .ref a0)]) hx hb dX3_countHeavy_3 rfl hl (by decide) rfl (fun ls hl => ?_)
  obtain ⟨x7, hx7, hhx7⟩ := bnd h
  clear h
  refine w_X3_countHeavy_4 l X hRL hcs BIG a0 (0 : Int32) (0 : Int32) μ x7 hx7 (fun H locs ls hH hl => ?_) _ _ _ hH (lv_sub hl [2, 1, 0] rfl)
  · have h := hhx7
    clear hhx7
    refine lv_iload_n hx hb dX3_countHeavy_38 rfl (lv_at hl 0 rfl) ?_
    exact eIp X hH h hr dX3_countHeavy_39
set_option maxHeartbeats 4000000 in
set_option maxRecDepth 100000 in
theorem w_X3_walksToNoon_2 {p : Program} {e : Env} {R : Room} {s : State} {m : MethodId} {args : Array Value} {below : List Frame} {meth : Method} {c : Code} {cells slots : Nat} {Q : State → Prop} {G : CG} (l : Launch) (X : Cx p s m args meth c cX3_walksToNoon 3 RX3 G) (hRL : RmL R 4 64) (hcs : cells ≤ R.cells ∧ slots ≤ R.slots) : ∀ (n : Nat) (v0 : Nat) (v1 : Int32) (v2 : Int32) (μ : Mm) (x : Nat × Int32), lp_X3_walksToNoon_2 n v0 v1 v2 μ = some x → (∀ (H : Heap) (locs : List Loc) (ls : Array Slot), x.1 = 0 → HS G s μ H locs → lv_has ls 3 [(2, .int x.2)] → W p l e R s m args below meth c H locs cells slots Q (F0 m 25 ls [])) → (∀ (H : Heap) (locs : List Loc) (ls : Array Slot), x.1 = 1 → HS G s μ H locs → lv_has ls 3 [] → W p l e R s m args below meth c H locs cells slots Q (F0 m 33 ls [])) → ∀ (H : Heap) (locs : List Loc) (ls : Array Slot), HS G s μ H locs → lv_has ls 3 [(0, .ref v0), (1, .int v1), (2, .int v2)] → W p l e R s m args below meth c H locs cells slots Q (F0 m 2 ls []) := by
  have hx := X.1
  have hb := X.2.1
  have hown := X.2.2.2.1
  have hts := X.2.2.2.2.1
  intro n
  induction n with
  | zero =>
    intro v0 v1 v2 μ x h
    rw [lp_X3_walksToNoon_2] at h
    cases h
  | succ n ih =>
    intro v0 v1 v2 μ x h k0 k1 H locs ls hH hl
    rw [lp_X3_walksToNoon_2] at h
    refine lv_iload_n hx hb dX3_walksToNoon_2 rfl (lv_at hl 2 rfl) ?_
    refine lv_aload_n hx hb dX3_walksToNoon_3 rfl (lv_at hl 0 rfl) ?_
    obtain ⟨x1, hx1, h⟩ := bnd h
    refine gf_X3_30 X hH hx1 dX3_walksToNoon_4 ?_
    refine lv_icmp_gt (tgt := 33) hx hb dX3_walksToNoon_7 (by decide) (fun hc2 => ?_) (fun hc2 => ?_)
    · replace h := ift h hc2
      cases h
      exact k1 _ _ _ rfl hH (lv_sub hl [] rfl)
    · replace h := iff' h hc2
      refine lv_aload_n hx hb dX3_walksToNoon_10 rfl (lv_at hl 0 rfl) ?_
      refine lv_aload_n hx hb dX3_walksToNoon_11 rfl (lv_at hl 0 rfl) ?_
      obtain ⟨x3, hx3, h⟩ := bnd h
      refine gf_X3_36 X hH hx3 dX3_walksToNoon_12 ?_
      refine lv_iload_n hx hb dX3_walksToNoon_15 rfl (lv_at hl 2 rfl) ?_
      refine lv_iload_n hx hb dX3_walksToNoon_16 rfl (lv_at hl 1 rfl) ?_
      refine lv_imul hx hb dX3_walksToNoon_17 ?_
      refine lv_iadd hx hb dX3_walksToNoon_18 ?_
      obtain ⟨x4, hx4, h⟩ := bnd h
      refine iv_X3_113 l X hH hRL (by decide) hx4 hl.1 (Nat.le_of_ble_eq_true rfl) dX3_walksToNoon_19 hcs (fun H locs hH => ?_)
      refine lv_if_ne (tgt := 27) hx hb dX3_walksToNoon_22 (by decide) (fun hc5 => ?_) (fun hc5 => ?_)
      · replace h := iff' h hc5
        refine lv_iinc (v := (v2 + 1)) (lv' := [(2, .int (v2 + 1)), (0, .ref v0), (1, .int v1)]) hx hb dX3_walksToNoon_27 hl (k := 2) rfl rfl (by decide) rfl (fun ls hl => ?_)
        refine lv_goto (tgt := 2) hx hb dX3_walksToNoon_30 (by decide) ?_
        exact ih _ _ _ _ _ h k0 k1 _ _ _ hH (lv_sub hl [1, 2, 0] rfl)
      · replace h := ift h hc5
        cases h
        exact k0 _ _ _ rfl hH (lv_sub hl [2] rfl)
theorem t_X3_walksToNoon {μ : Mm} {a0 : Nat} {p1 : Int32} {x : Int32} (h : f_X3_walksToNoon μ a0 p1 = some x) : tg μ a0 = 4 := by
  unfold f_X3_walksToNoon at h
  exact (gsn h).1
set_option maxHeartbeats 4000000 in
set_option maxRecDepth 100000 in
theorem c_X3_walksToNoon (l : Launch) (G : CG) (μ : Mm) (a0 : Nat) (p1 : Int32) (x : Int32) (h : f_X3_walksToNoon μ a0 p1 = some x) : Met l yX3_walksToNoon (.code yX3_walksToNoon cX3_walksToNoon 3 (some .int) :: UW) (rmk 4 64 0 0) (PC G [.ref a0, .int p1] μ) (QI G x μ) 0 0 (fA G) := by
  refine Met.ofW (cc := cX3_walksToNoon) (maxL := 3) (ret := (some .int)) (by decide) rfl ?_
  intro p e s m args below meth c s₁ B hml hv
  obtain ⟨X, hH, hr, rfl, hnm⟩ := cx_in B hml hv
  have X : Cx p s m _ meth c cX3_walksToNoon 3 RX3 G := X
  have hx := X.1
  have hb := X.2.1
  have hown := X.2.2.2.1
  have hts := X.2.2.2.2.1
  have hRL : RmL (rmk 4 64 0 0) 4 64 := ⟨Nat.le_refl _, Nat.le_refl _⟩
  have hcs : 0 ≤ (rmk 0 0 0 0).cells ∧ 0 ≤ (rmk 0 0 0 0).slots := ⟨Nat.zero_le _, Nat.zero_le _⟩
  refine ls_in (Nat.le_of_ble_eq_true rfl) (fun ls hl => ?_)
  have hl : lv_has ls 3 [(0, .ref a0), (1, .int p1)] := hl
  unfold f_X3_walksToNoon at h
  obtain ⟨htg, h⟩ := gsn h
  refine lv_iconst (v := 1) hx hb dX3_walksToNoon_0 (by decide) ?_
  refine lv_istore_n (lv' := [(2, .int (1 : Int32)), (0, .ref a0), (1, .int p1)]) hx hb dX3_walksToNoon_1 rfl hl (by decide) rfl (fun ls hl => ?_)
  obtain ⟨x6, hx6, hhx6⟩ := bnd h
  clear h
  refine w_X3_walksToNoon_2 l X hRL hcs BIG a0 p1 (1 : Int32) μ x6 hx6 (fun H locs ls hj hH hl => ?_) (fun H locs ls hj hH hl => ?_) _ _ _ hH (lv_sub hl [1, 2, 0] rfl)
  · have h := hhx6
    clear hhx6
    replace h := ift h hj
    refine lv_iload_n hx hb dX3_walksToNoon_25 rfl (lv_at hl 0 rfl) ?_
    exact eIp X hH h hr dX3_walksToNoon_26
  · have h := hhx6
    clear hhx6
    replace h := iff' h (by rw [hj]; decide)
    refine lv_bipush (v := -9) hx hb dX3_walksToNoon_33 (by decide) ?_
    exact eIp X hH h hr dX3_walksToNoon_35
set_option maxHeartbeats 4000000 in
set_option maxRecDepth 100000 in
theorem w_X11_greatestDivisor_9 {p : Program} {e : Env} {R : Room} {s : State} {m : MethodId} {args : Array Value} {below : List Frame} {meth : Method} {c : Code} {cells slots : Nat} {Q : State → Prop} {G : CG} (l : Launch) (X : Cx p s m args meth c cX11_greatestDivisor 11 RX11 G) (hRL : RmL R 1 0) (hcs : cells ≤ R.cells ∧ slots ≤ R.slots) : ∀ (n : Nat) (v4 : Int64) (v6 : Int64) (v8 : Int32) (μ : Mm) (x : Int64), lp_X11_greatestDivisor_9 n v4 v6 v8 μ = some x → (∀ (H : Heap) (locs : List Loc) (ls : Array Slot), HS G s μ H locs → lv_has ls 11 [(4, .long x)] → W p l e R s m args below meth c H locs cells slots Q (F0 m 44 ls [])) → ∀ (H : Heap) (locs : List Loc) (ls : Array Slot), HS G s μ H locs → lv_has ls 11 [(4, .long v4), (6, .long v6), (8, .int v8)] → W p l e R s m args below meth c H locs cells slots Q (F0 m 9 ls []) := by
  have hx := X.1
  have hb := X.2.1
  have hown := X.2.2.2.1
  have hts := X.2.2.2.2.1
  intro n
  induction n with
  | zero =>
    intro v4 v6 v8 μ x h
    rw [lp_X11_greatestDivisor_9] at h
    cases h
  | succ n ih =>
    intro v4 v6 v8 μ x h k0 H locs ls hH hl
    rw [lp_X11_greatestDivisor_9] at h
    refine lv_iload hx hb dX11_greatestDivisor_9 (lv_at hl 2 rfl) ?_
    refine lv_bipush (v := 100) hx hb dX11_greatestDivisor_11 (by decide) ?_
    refine lv_icmp_ge (tgt := 44) hx hb dX11_greatestDivisor_13 (by decide) (fun hc1 => ?_) (fun hc1 => ?_)
    · replace h := ift h hc1
      cases h
      exact k0 _ _ _ hH (lv_sub hl [0] rfl)
    · replace h := iff' h hc1
      refine lv_lload hx hb dX11_greatestDivisor_16 (lv_at hl 1 rfl) ?_
      refine lv_lconst (v := 0) hx hb dX11_greatestDivisor_18 (by decide) ?_
      refine W.lcmp hx hb dX11_greatestDivisor_19 ?_
      refine lv_if_eq (tgt := 44) hx hb dX11_greatestDivisor_20 (by decide) (fun hc2 => ?_) (fun hc2 => ?_)
      · replace h := ift h hc2
        cases h
        exact k0 _ _ _ hH (lv_sub hl [0] rfl)
      · replace h := iff' h hc2
        refine lv_lload hx hb dX11_greatestDivisor_23 (lv_at hl 0 rfl) ?_
        refine lv_lload hx hb dX11_greatestDivisor_25 (lv_at hl 1 rfl) ?_
        obtain ⟨hd3, h⟩ := gsf h
        refine lv_lrem hx hb dX11_greatestDivisor_27 hd3 ?_
        refine lv_lstore (lv' := [(9, .long (v4 - v4 / v6 * v6)), (4, .long v4), (6, .long v6), (8, .int v8)]) hx hb dX11_greatestDivisor_28 hl (by decide) rfl (fun ls hl => ?_)
        refine lv_lload hx hb dX11_greatestDivisor_30 (lv_at hl 2 rfl) ?_
        refine lv_lstore (lv' := [(4, .long v6), (9, .long (v4 - v4 / v6 * v6)), (6, .long v6), (8, .int v8)]) hx hb dX11_greatestDivisor_32 hl (by decide) rfl (fun ls hl => ?_)
        refine lv_lload hx hb dX11_greatestDivisor_34 (lv_at hl 1 rfl) ?_
        refine lv_lstore (lv' := [(6, .long (v4 - v4 / v6 * v6)), (4, .long v6), (9, .long (v4 - v4 / v6 * v6)), (8, .int v8)]) hx hb dX11_greatestDivisor_36 hl (by decide) rfl (fun ls hl => ?_)
        refine lv_iinc (v := (v8 + 1)) (lv' := [(8, .int (v8 + 1)), (6, .long (v4 - v4 / v6 * v6)), (4, .long v6), (9, .long (v4 - v4 / v6 * v6))]) hx hb dX11_greatestDivisor_38 hl (k := 3) rfl rfl (by decide) rfl (fun ls hl => ?_)
        refine lv_goto (tgt := 9) hx hb dX11_greatestDivisor_41 (by decide) ?_
        exact ih _ _ _ _ _ h k0 _ _ _ hH (lv_sub hl [2, 1, 0] rfl)
set_option maxHeartbeats 4000000 in
set_option maxRecDepth 100000 in
theorem c_X11_greatestDivisor (l : Launch) (G : CG) (μ : Mm) (p0 : Int64) (p2 : Int64) (x : Int64) (h : f_X11_greatestDivisor μ p0 p2 = some x) : Met l yX11_greatestDivisor (.code yX11_greatestDivisor cX11_greatestDivisor 11 (some .long) :: UW) (rmk 1 0 0 0) (PC G [.long p0, .long p2] μ) (QL G x μ) 0 0 (fA G) := by
  refine Met.ofW (cc := cX11_greatestDivisor) (maxL := 11) (ret := (some .long)) (by decide) rfl ?_
  intro p e s m args below meth c s₁ B hml hv
  obtain ⟨X, hH, hr, rfl, hnm⟩ := cx_in B hml hv
  have X : Cx p s m _ meth c cX11_greatestDivisor 11 RX11 G := X
  have hx := X.1
  have hb := X.2.1
  have hown := X.2.2.2.1
  have hts := X.2.2.2.2.1
  have hRL : RmL (rmk 1 0 0 0) 1 0 := ⟨Nat.le_refl _, Nat.le_refl _⟩
  have hcs : 0 ≤ (rmk 0 0 0 0).cells ∧ 0 ≤ (rmk 0 0 0 0).slots := ⟨Nat.zero_le _, Nat.zero_le _⟩
  refine ls_in (Nat.le_of_ble_eq_true rfl) (fun ls hl => ?_)
  have hl : lv_has ls 11 [(0, .long p0), (2, .long p2)] := hl
  unfold f_X11_greatestDivisor at h
  refine lv_lload_n hx hb dX11_greatestDivisor_0 rfl (lv_at hl 0 rfl) ?_
  refine lv_lstore (lv' := [(4, .long p0), (0, .long p0), (2, .long p2)]) hx hb dX11_greatestDivisor_1 hl (by decide) rfl (fun ls hl => ?_)
  refine lv_lload_n hx hb dX11_greatestDivisor_3 rfl (lv_at hl 2 rfl) ?_
  refine lv_lstore (lv' := [(6, .long p2), (4, .long p0), (0, .long p0), (2, .long p2)]) hx hb dX11_greatestDivisor_4 hl (by decide) rfl (fun ls hl => ?_)
  refine lv_iconst (v := 0) hx hb dX11_greatestDivisor_6 (by decide) ?_
  refine lv_istore (lv' := [(8, .int (0 : Int32)), (6, .long p2), (4, .long p0), (0, .long p0), (2, .long p2)]) hx hb dX11_greatestDivisor_7 hl (by decide) rfl (fun ls hl => ?_)
  obtain ⟨x4, hx4, hhx4⟩ := bnd h
  clear h
  refine w_X11_greatestDivisor_9 l X hRL hcs BIG p0 p2 (0 : Int32) μ x4 hx4 (fun H locs ls hH hl => ?_) _ _ _ hH (lv_sub hl [2, 1, 0] rfl)
  · have h := hhx4
    clear hhx4
    refine lv_lload hx hb dX11_greatestDivisor_44 (lv_at hl 0 rfl) ?_
    exact eLp X hH h hr dX11_greatestDivisor_46
set_option maxHeartbeats 1000000 in
theorem iv_X3_149 {p : Program} {e : Env} {R : Room} {s : State} {m : MethodId} {args : Array Value} {below : List Frame} {meth : Method} {c : Code} {H : Heap} {locs : List Loc} {cells slots : Nat} {Q : State → Prop} {cc : ByteArray} {pc : Nat} {ls : Array Slot} {rest : List Value} {nL : Nat} {G : CG} {μ : Mm} {q0 : Int64} {q1 : Int64} {x : Int64} {k k2 : Nat} (l : Launch) (X : Cx p s m args meth c cc nL RX3 G) (hH : HS G s μ H locs) (hRL : RmL R k k2) (hk : 1 + 1 ≤ k ∧ 30 ≤ k2) (h : f_X11_greatestDivisor μ q0 q1 = some x) (hls : ls.size = nL) (hroom : (rest.map fun v => v.category).sum ≤ 8) (hdg : decode cc pc = .ok (.invokestatic 149, 3)) (hcs : cells + 0 ≤ R.cells ∧ slots + 0 ≤ R.slots) (kk : ∀ (H1 : Heap) (locs1 : List Loc), HS G s μ H1 locs1 → W p l e R s m args below meth c H1 locs1 cells slots Q (F0 m (pc + 3) ls (.long x :: rest))) : W p l e R s m args below meth c H locs cells slots Q (F0 m pc ls (.long q1 :: .long q0 :: rest)) := by
  refine kL hH (rSN (As := [.long q0, .long q1]) (rest := rest) X hH (c_X11_greatestDivisor l G μ q0 q1 x h) (X.2.2.2.2.2.1.2.1 (RX3, 149, yX11_greatestDivisor) (List.mem_of_getElem? (i := 4) rfl)) (List.forall_mem_cons.mpr ⟨u_654, (List.forall_mem_cons.mpr ⟨u_21, (fun _ h9 => absurd h9 List.not_mem_nil)⟩)⟩) u_655 (rmo hRL (Nat.le_trans (by decide) hk.1) (Nat.le_trans (by decide) hk.2)) ddS_X11_greatestDivisor rfl hls rfl hroom hdg hcs) kk
set_option maxHeartbeats 4000000 in
set_option maxRecDepth 100000 in
theorem w_X3_stride_9 {p : Program} {e : Env} {R : Room} {s : State} {m : MethodId} {args : Array Value} {below : List Frame} {meth : Method} {c : Code} {cells slots : Nat} {Q : State → Prop} {G : CG} (l : Launch) (X : Cx p s m args meth c cX3_stride 5 RX3 G) (hRL : RmL R 5 82) (hcs : cells ≤ R.cells ∧ slots ≤ R.slots) : ∀ (n : Nat) (v0 : Nat) (v1 : Int32) (v2 : Int64) (v4 : Int32) (μ : Mm) (x : Int64), lp_X3_stride_9 n v0 v1 v2 v4 μ = some x → (∀ (H : Heap) (locs : List Loc) (ls : Array Slot), HS G s μ H locs → lv_has ls 5 [(2, .long x)] → W p l e R s m args below meth c H locs cells slots Q (F0 m 42 ls [])) → ∀ (H : Heap) (locs : List Loc) (ls : Array Slot), HS G s μ H locs → lv_has ls 5 [(0, .ref v0), (1, .int v1), (2, .long v2), (4, .int v4)] → W p l e R s m args below meth c H locs cells slots Q (F0 m 9 ls []) := by
  have hx := X.1
  have hb := X.2.1
  have hown := X.2.2.2.1
  have hts := X.2.2.2.2.1
  intro n
  induction n with
  | zero =>
    intro v0 v1 v2 v4 μ x h
    rw [lp_X3_stride_9] at h
    cases h
  | succ n ih =>
    intro v0 v1 v2 v4 μ x h k0 H locs ls hH hl
    rw [lp_X3_stride_9] at h
    refine lv_iload hx hb dX3_stride_9 (lv_at hl 3 rfl) ?_
    refine lv_aload_n hx hb dX3_stride_11 rfl (lv_at hl 0 rfl) ?_
    obtain ⟨x2, hx2, h⟩ := bnd h
    refine gf_X3_26 X hH hx2 dX3_stride_12 ?_
    refine lv_icmp_ge (tgt := 42) hx hb dX3_stride_15 (by decide) (fun hc3 => ?_) (fun hc3 => ?_)
    · replace h := ift h hc3
      cases h
      exact k0 _ _ _ hH (lv_sub hl [2] rfl)
    · replace h := iff' h hc3
      refine lv_iload hx hb dX3_stride_18 (lv_at hl 3 rfl) ?_
      refine lv_iload_n hx hb dX3_stride_20 rfl (lv_at hl 1 rfl) ?_
      refine lv_icmp_eq (tgt := 36) hx hb dX3_stride_21 (by decide) (fun hc4 => ?_) (fun hc4 => ?_)
      · replace h := ift h hc4
        refine lv_iinc (v := (v4 + 1)) (lv' := [(4, .int (v4 + 1)), (0, .ref v0), (1, .int v1), (2, .long v2)]) hx hb dX3_stride_36 hl (k := 3) rfl rfl (by decide) rfl (fun ls hl => ?_)
        refine lv_goto (tgt := 9) hx hb dX3_stride_39 (by decide) ?_
        exact ih _ _ _ _ _ _ h k0 _ _ _ hH (lv_sub hl [1, 2, 3, 0] rfl)
      · replace h := iff' h hc4
        refine lv_lload_n hx hb dX3_stride_24 rfl (lv_at hl 2 rfl) ?_
        refine lv_aload_n hx hb dX3_stride_25 rfl (lv_at hl 0 rfl) ?_
        refine lv_iload hx hb dX3_stride_26 (lv_at hl 3 rfl) ?_
        obtain ⟨x5, hx5, h⟩ := bnd h
        refine iv_X3_143 l X hH hRL (by decide) hx5 hl.1 (Nat.le_of_ble_eq_true rfl) dX3_stride_28 hcs (fun H locs hH => ?_)
        refine lv_i2l hx hb dX3_stride_31 rfl ?_
        obtain ⟨x6, hx6, h⟩ := bnd h
        refine iv_X3_149 l X hH hRL (by decide) hx6 hl.1 (Nat.le_of_ble_eq_true rfl) dX3_stride_32 hcs (fun H locs hH => ?_)
        refine lv_lstore_n (lv' := [(2, .long x6), (0, .ref v0), (1, .int v1), (4, .int v4)]) hx hb dX3_stride_35 rfl hl (by decide) rfl (fun ls hl => ?_)
        refine lv_iinc (v := (v4 + 1)) (lv' := [(4, .int (v4 + 1)), (2, .long x6), (0, .ref v0), (1, .int v1)]) hx hb dX3_stride_36 hl (k := 3) rfl rfl (by decide) rfl (fun ls hl => ?_)
        refine lv_goto (tgt := 9) hx hb dX3_stride_39 (by decide) ?_
        exact ih _ _ _ _ _ _ h k0 _ _ _ hH (lv_sub hl [2, 3, 1, 0] rfl)
theorem t_X3_stride {μ : Mm} {a0 : Nat} {p1 : Int32} {x : Int32} (h : f_X3_stride μ a0 p1 = some x) : tg μ a0 = 4 := by
  unfold f_X3_stride at h
  exact (gsn h).1
set_option maxHeartbeats 4000000 in
set_option maxRecDepth 100000 in
theorem c_X3_stride (l : Launch) (G : CG) (μ : Mm) (a0 : Nat) (p1 : Int32) (x : Int32) (h : f_X3_stride μ a0 p1 = some x) : Met l yX3_stride (.code yX3_stride cX3_stride 5 (some .int) :: UW) (rmk 5 82 0 0) (PC G [.ref a0, .int p1] μ) (QI G x μ) 0 0 (fA G) := by
  refine Met.ofW (cc := cX3_stride) (maxL := 5) (ret := (some .int)) (by decide) rfl ?_
  intro p e s m args below meth c s₁ B hml hv
  obtain ⟨X, hH, hr, rfl, hnm⟩ := cx_in B hml hv
  have X : Cx p s m _ meth c cX3_stride 5 RX3 G := X
  have hx := X.1
  have hb := X.2.1
  have hown := X.2.2.2.1
  have hts := X.2.2.2.2.1
  have hRL : RmL (rmk 5 82 0 0) 5 82 := ⟨Nat.le_refl _, Nat.le_refl _⟩
  have hcs : 0 ≤ (rmk 0 0 0 0).cells ∧ 0 ≤ (rmk 0 0 0 0).slots := ⟨Nat.zero_le _, Nat.zero_le _⟩
  refine ls_in (Nat.le_of_ble_eq_true rfl) (fun ls hl => ?_)
  have hl : lv_has ls 5 [(0, .ref a0), (1, .int p1)] := hl
  unfold f_X3_stride at h
  obtain ⟨htg, h⟩ := gsn h
  refine lv_aload_n hx hb dX3_stride_0 rfl (lv_at hl 0 rfl) ?_
  obtain ⟨x1, hx1, h⟩ := bnd h
  refine gf_X3_30 X hH hx1 dX3_stride_1 ?_
  refine lv_i2l hx hb dX3_stride_4 rfl ?_
  refine lv_lstore_n (lv' := [(2, .long x1.toInt64), (0, .ref a0), (1, .int p1)]) hx hb dX3_stride_5 rfl hl (by decide) rfl (fun ls hl => ?_)
  refine lv_iconst (v := 0) hx hb dX3_stride_6 (by decide) ?_
  refine lv_istore (lv' := [(4, .int (0 : Int32)), (2, .long x1.toInt64), (0, .ref a0), (1, .int p1)]) hx hb dX3_stride_7 hl (by decide) rfl (fun ls hl => ?_)
  obtain ⟨x7, hx7, hhx7⟩ := bnd h
  clear h
  refine w_X3_stride_9 l X hRL hcs BIG a0 p1 x1.toInt64 (0 : Int32) μ x7 hx7 (fun H locs ls hH hl => ?_) _ _ _ hH (lv_sub hl [2, 3, 1, 0] rfl)
  · have h := hhx7
    clear hhx7
    refine lv_lload_n hx hb dX3_stride_42 rfl (lv_at hl 0 rfl) ?_
    refine lv_l2i hx hb dX3_stride_43 rfl ?_
    exact eIp X hH h hr dX3_stride_44
theorem t_X5_init {μ : Mm} {a0 : Nat} {x : Mm} (h : f_X5_init μ a0 = some x) : tg μ a0 = 6 := by
  unfold f_X5_init at h
  exact (gsn h).1
set_option maxHeartbeats 4000000 in
set_option maxRecDepth 100000 in
theorem c_X5_init (l : Launch) (G : CG) (μ : Mm) (a0 : Nat) (x : Mm) (h : f_X5_init μ a0 = some x) : Met l yX5_init (.code yX5_init cX5_init 1 none :: UW) (rmk 1 32 2 12) (PC G [.ref a0] μ) (QV G x) 2 12 (fA G) := by
  refine Met.ofW (cc := cX5_init) (maxL := 1) (ret := none) (by decide) rfl ?_
  intro p e s m args below meth c s₁ B hml hv
  obtain ⟨X, hH, hr, rfl, hnm⟩ := cx_in B hml hv
  have X : Cx p s m _ meth c cX5_init 1 RX5 G := X
  have hx := X.1
  have hb := X.2.1
  have hown := X.2.2.2.1
  have hts := X.2.2.2.2.1
  have hnm : meth.name = "<init>" := hnm
  have hRL : RmL (rmk 1 32 2 12) 1 32 := ⟨Nat.le_refl _, Nat.le_refl _⟩
  refine ls_in (Nat.le_of_ble_eq_true rfl) (fun ls hl => ?_)
  have hl : lv_has ls 1 [(0, .ref a0)] := hl
  unfold f_X5_init at h
  obtain ⟨htg, h⟩ := gsn h
  refine lv_aload_n hx hb dX5_init_0 rfl (lv_at hl 0 rfl) ?_
  refine w_oi X hRL (by decide) hl.1 u_162 u_40 u_41 (Nat.le_of_ble_eq_true rfl) dX5_init_1 ?_
  refine lv_aload_n hx hb dX5_init_4 rfl (lv_at hl 0 rfl) ?_
  refine lv_bipush (v := 6) hx hb dX5_init_5 (by decide) ?_
  obtain ⟨x1, hx1, h⟩ := bnd h
  refine w_na X hH (atype := .int) (k := 1) hx1 u_74 (by decide) rfl (fun n' h9 => Nat.le_trans (Nat.mul_le_mul_right _ h9) (by decide)) (ce_I _) (Nat.le_of_ble_eq_true rfl) (Nat.le_of_ble_eq_true rfl) dX5_init_7 (fun H hH => ?_)
  obtain ⟨x2, hx2, h⟩ := bnd h
  refine pf_X5_9 X hnm hH hx2 dX5_init_9 (fun H locs hH => ?_)
  refine lv_aload_n hx hb dX5_init_12 rfl (lv_at hl 0 rfl) ?_
  refine lv_bipush (v := 6) hx hb dX5_init_13 (by decide) ?_
  obtain ⟨x3, hx3, h⟩ := bnd h
  refine w_na X hH (atype := .int) (k := 1) hx3 u_74 (by decide) rfl (fun n' h9 => Nat.le_trans (Nat.mul_le_mul_right _ h9) (by decide)) (ce_I _) (Nat.le_of_ble_eq_true rfl) (Nat.le_of_ble_eq_true rfl) dX5_init_15 (fun H hH => ?_)
  obtain ⟨x4, hx4, h⟩ := bnd h
  refine pf_X5_15 X hnm hH hx4 dX5_init_17 (fun H locs hH => ?_)
  exact eV X hH h hr dX5_init_20 (Nat.le_of_ble_eq_true rfl) (Nat.le_of_ble_eq_true rfl)
theorem t_X8_has {μ : Mm} {a0 : Nat} {p1 : Int32} {x : Int32} (h : f_X8_has μ a0 p1 = some x) : tg μ a0 = 9 := by
  unfold f_X8_has at h
  exact (gsn h).1
set_option maxHeartbeats 4000000 in
set_option maxRecDepth 100000 in
theorem c_X8_has (l : Launch) (G : CG) (μ : Mm) (a0 : Nat) (p1 : Int32) (x : Int32) (h : f_X8_has μ a0 p1 = some x) : Met l yX8_has (.code yX8_has cX8_has 2 (some .boolean) :: UW) (rmk 1 0 0 0) (PC G [.ref a0, .int p1] μ) (QI G x μ) 0 0 (fA G) := by
  refine Met.ofW (cc := cX8_has) (maxL := 2) (ret := (some .boolean)) (by decide) rfl ?_
  intro p e s m args below meth c s₁ B hml hv
  obtain ⟨X, hH, hr, rfl, hnm⟩ := cx_in B hml hv
  have X : Cx p s m _ meth c cX8_has 2 RX8 G := X
  have hx := X.1
  have hb := X.2.1
  have hown := X.2.2.2.1
  have hts := X.2.2.2.2.1
  have hRL : RmL (rmk 1 0 0 0) 1 0 := ⟨Nat.le_refl _, Nat.le_refl _⟩
  have hcs : 0 ≤ (rmk 0 0 0 0).cells ∧ 0 ≤ (rmk 0 0 0 0).slots := ⟨Nat.zero_le _, Nat.zero_le _⟩
  refine ls_in (Nat.le_of_ble_eq_true rfl) (fun ls hl => ?_)
  have hl : lv_has ls 2 [(0, .ref a0), (1, .int p1)] := hl
  unfold f_X8_has at h
  obtain ⟨htg, h⟩ := gsn h
  refine lv_iload_n hx hb dX8_has_0 rfl (lv_at hl 1 rfl) ?_
  refine lv_if_lt (tgt := 16) hx hb dX8_has_1 (by decide) (fun hc1 => ?_) (fun hc1 => ?_)
  · replace h := ift h hc1
    refine lv_iconst (v := 0) hx hb dX8_has_16 (by decide) ?_
    exact eZp X hH (by decide) h hr dX8_has_17
  · replace h := iff' h hc1
    refine lv_iload_n hx hb dX8_has_4 rfl (lv_at hl 1 rfl) ?_
    refine lv_aload_n hx hb dX8_has_5 rfl (lv_at hl 0 rfl) ?_
    obtain ⟨x2, hx2, h⟩ := bnd h
    refine gf_X8_9 X hH hx2 dX8_has_6 ?_
    refine lv_icmp_ge (tgt := 16) hx hb dX8_has_9 (by decide) (fun hc3 => ?_) (fun hc3 => ?_)
    · replace h := ift h hc3
      refine lv_iconst (v := 0) hx hb dX8_has_16 (by decide) ?_
      exact eZp X hH (by decide) h hr dX8_has_17
    · replace h := iff' h hc3
      refine lv_iconst (v := 1) hx hb dX8_has_12 (by decide) ?_
      refine lv_goto (tgt := 17) hx hb dX8_has_13 (by decide) ?_
      exact eZp X hH (by decide) h hr dX8_has_17
set_option maxHeartbeats 1000000 in
theorem iv_X5_54 {p : Program} {e : Env} {R : Room} {s : State} {m : MethodId} {args : Array Value} {below : List Frame} {meth : Method} {c : Code} {H : Heap} {locs : List Loc} {cells slots : Nat} {Q : State → Prop} {cc : ByteArray} {pc : Nat} {ls : Array Slot} {rest : List Value} {nL : Nat} {G : CG} {μ : Mm} {a : Nat} {q0 : Int32} {x : Int32} {k k2 : Nat} (l : Launch) (X : Cx p s m args meth c cc nL RX5 G) (hH : HS G s μ H locs) (hRL : RmL R k k2) (hk : 1 + 1 ≤ k ∧ 21 ≤ k2) (h : f_X8_has μ a q0 = some x) (hls : ls.size = nL) (hroom : (rest.map fun v => v.category).sum ≤ 8) (hdg : decode cc pc = .ok (.invokevirtual 54, 3)) (hcs : cells + 0 ≤ R.cells ∧ slots + 0 ≤ R.slots) (kk : ∀ (H1 : Heap) (locs1 : List Loc), HS G s μ H1 locs1 → W p l e R s m args below meth c H1 locs1 cells slots Q (F0 m (pc + 3) ls (.int x :: rest))) : W p l e R s m args below meth c H locs cells slots Q (F0 m pc ls (.int q0 :: .ref a :: rest)) := by
  refine kI hH (rV (As := [.int q0]) (rest := rest) X hH (t_X8_has h) vc_8 (c_X8_has l G μ a q0 x h) (List.forall_mem_cons.mpr ⟨u_517, (List.forall_mem_cons.mpr ⟨u_493, (List.forall_mem_cons.mpr ⟨u_494, (List.forall_mem_cons.mpr ⟨u_23, (fun _ h9 => absurd h9 List.not_mem_nil)⟩)⟩)⟩)⟩) u_495 (rmo hRL (Nat.le_trans (by decide) hk.1) (Nat.le_trans (by decide) hk.2)) ddV_X8_has rfl hls rfl hroom hdg hcs) kk
set_option maxHeartbeats 4000000 in
set_option maxRecDepth 100000 in
theorem w_X5_reachesItem_0 {p : Program} {e : Env} {R : Room} {s : State} {m : MethodId} {args : Array Value} {below : List Frame} {meth : Method} {c : Code} {cells slots : Nat} {Q : State → Prop} {G : CG} (l : Launch) (X : Cx p s m args meth c cX5_reachesItem 2 RX5 G) (hRL : RmL R 2 21) (hcs : cells ≤ R.cells ∧ slots ≤ R.slots) : ∀ (n : Nat) (v0 : Nat) (v1 : Nat) (μ : Mm) (x : Mm), lp_X5_reachesItem_0 n v0 v1 μ = some x → (∀ (H : Heap) (locs : List Loc) (ls : Array Slot), HS G s x H locs → lv_has ls 2 [(0, .ref v0), (1, .ref v1)] → W p l e R s m args below meth c H locs cells slots Q (F0 m 38 ls [])) → ∀ (H : Heap) (locs : List Loc) (ls : Array Slot), HS G s μ H locs → lv_has ls 2 [(0, .ref v0), (1, .ref v1)] → W p l e R s m args below meth c H locs cells slots Q (F0 m 0 ls []) := by
  have hx := X.1
  have hb := X.2.1
  have hown := X.2.2.2.1
  have hts := X.2.2.2.2.1
  intro n
  induction n with
  | zero =>
    intro v0 v1 μ x h
    rw [lp_X5_reachesItem_0] at h
    cases h
  | succ n ih =>
    intro v0 v1 μ x h k0 H locs ls hH hl
    rw [lp_X5_reachesItem_0] at h
    refine lv_aload_n hx hb dX5_reachesItem_0 rfl (lv_at hl 1 rfl) ?_
    refine lv_aload_n hx hb dX5_reachesItem_1 rfl (lv_at hl 0 rfl) ?_
    obtain ⟨x1, hx1, h⟩ := bnd h
    refine gf_X5_32 X hH hx1 dX5_reachesItem_2 ?_
    obtain ⟨x2, hx2, h⟩ := bnd h
    refine iv_X5_54 l X hH hRL (by decide) hx2 hl.1 (Nat.le_of_ble_eq_true rfl) dX5_reachesItem_5 hcs (fun H locs hH => ?_)
    refine lv_if_eq (tgt := 38) hx hb dX5_reachesItem_8 (by decide) (fun hc3 => ?_) (fun hc3 => ?_)
    · replace h := ift h hc3
      cases h
      exact k0 _ _ _ hH (lv_sub hl [0, 1] rfl)
    · replace h := iff' h hc3
      refine lv_aload_n hx hb dX5_reachesItem_11 rfl (lv_at hl 1 rfl) ?_
      obtain ⟨x4, hx4, h⟩ := bnd h
      refine gf_X5_58 X hH hx4 dX5_reachesItem_12 ?_
      refine lv_aload_n hx hb dX5_reachesItem_15 rfl (lv_at hl 0 rfl) ?_
      obtain ⟨x5, hx5, h⟩ := bnd h
      refine gf_X5_32 X hH hx5 dX5_reachesItem_16 ?_
      obtain ⟨x6, hx6, h⟩ := bnd h
      refine w_aI X hH hx6 dX5_reachesItem_19 ?_
      refine lv_bipush (v := 32) hx hb dX5_reachesItem_20 (by decide) ?_
      refine lv_icmp_ne (tgt := 38) hx hb dX5_reachesItem_22 (by decide) (fun hc7 => ?_) (fun hc7 => ?_)
      · replace h := iff' h hc7
        cases h
        exact k0 _ _ _ hH (lv_sub hl [0, 1] rfl)
      · replace h := ift h hc7
        refine lv_aload_n hx hb dX5_reachesItem_25 rfl (lv_at hl 0 rfl) ?_
        refine lv_dup hx hb dX5_reachesItem_26 rfl ?_
        obtain ⟨x8, hx8, h⟩ := bnd h
        refine gf_X5_32 X hH hx8 dX5_reachesItem_27 ?_
        refine lv_iconst (v := 1) hx hb dX5_reachesItem_30 (by decide) ?_
        refine lv_iadd hx hb dX5_reachesItem_31 ?_
        obtain ⟨x9, hx9, h⟩ := bnd h
        refine pf_X5_32 X hH hx9 dX5_reachesItem_32 (fun H locs hH => ?_)
        refine lv_goto (tgt := 0) hx hb dX5_reachesItem_35 (by decide) ?_
        exact ih _ _ _ _ h k0 _ _ _ hH (lv_sub hl [0, 1] rfl)
theorem t_X5_reachesItem {μ : Mm} {a0 : Nat} {p1 : Nat} {x : Int32 × Mm} (h : f_X5_reachesItem μ a0 p1 = some x) : tg μ a0 = 6 := by
  unfold f_X5_reachesItem at h
  exact (gsn h).1
set_option maxHeartbeats 4000000 in
set_option maxRecDepth 100000 in
theorem c_X5_reachesItem (l : Launch) (G : CG) (μ : Mm) (a0 : Nat) (p1 : Nat) (x : Int32 × Mm) (h : f_X5_reachesItem μ a0 p1 = some x) : Met l yX5_reachesItem (.code yX5_reachesItem cX5_reachesItem 2 (some .boolean) :: UW) (rmk 2 21 0 0) (PC G [.ref a0, .ref p1] μ) (QI G x.1 x.2) 0 0 (fA G) := by
  refine Met.ofW (cc := cX5_reachesItem) (maxL := 2) (ret := (some .boolean)) (by decide) rfl ?_
  intro p e s m args below meth c s₁ B hml hv
  obtain ⟨X, hH, hr, rfl, hnm⟩ := cx_in B hml hv
  have X : Cx p s m _ meth c cX5_reachesItem 2 RX5 G := X
  have hx := X.1
  have hb := X.2.1
  have hown := X.2.2.2.1
  have hts := X.2.2.2.2.1
  have hRL : RmL (rmk 2 21 0 0) 2 21 := ⟨Nat.le_refl _, Nat.le_refl _⟩
  have hcs : 0 ≤ (rmk 0 0 0 0).cells ∧ 0 ≤ (rmk 0 0 0 0).slots := ⟨Nat.zero_le _, Nat.zero_le _⟩
  refine ls_in (Nat.le_of_ble_eq_true rfl) (fun ls hl => ?_)
  have hl : lv_has ls 2 [(0, .ref a0), (1, .ref p1)] := hl
  unfold f_X5_reachesItem at h
  obtain ⟨htg, h⟩ := gsn h
  obtain ⟨x10, hx10, hhx10⟩ := bnd h
  clear h
  refine w_X5_reachesItem_0 l X hRL hcs BIG a0 p1 μ x10 hx10 (fun H locs ls hH hl => ?_) _ _ _ hH (lv_sub hl [0, 1] rfl)
  · have h := hhx10
    clear hhx10
    refine lv_aload_n hx hb dX5_reachesItem_38 rfl (lv_at hl 1 rfl) ?_
    refine lv_aload_n hx hb dX5_reachesItem_39 rfl (lv_at hl 0 rfl) ?_
    obtain ⟨x11, hx11, h⟩ := bnd h
    refine gf_X5_32 X hH hx11 dX5_reachesItem_40 ?_
    obtain ⟨x12, hx12, h⟩ := bnd h
    refine iv_X5_54 l X hH hRL (by decide) hx12 hl.1 (Nat.le_of_ble_eq_true rfl) dX5_reachesItem_43 hcs (fun H locs hH => ?_)
    obtain ⟨_, hzb, h⟩ := bnd h
    exact eZ X hH (gsm hzb).1 h hr dX5_reachesItem_46 (Nat.le_of_ble_eq_true rfl) (Nat.le_of_ble_eq_true rfl)
theorem t_X5_readFigure {μ : Mm} {a0 : Nat} {p1 : Nat} {x : Int32 × Mm} (h : f_X5_readFigure μ a0 p1 = some x) : tg μ a0 = 6 := by
  unfold f_X5_readFigure at h
  exact (gsn h).1
set_option maxHeartbeats 4000000 in
set_option maxRecDepth 100000 in
theorem c_X5_readFigure (l : Launch) (G : CG) (μ : Mm) (a0 : Nat) (p1 : Nat) (x : Int32 × Mm) (h : f_X5_readFigure μ a0 p1 = some x) : Met l yX5_readFigure (.code yX5_readFigure cX5_readFigure 3 (some .int) :: UW) (rmk 2 21 0 0) (PC G [.ref a0, .ref p1] μ) (QI G x.1 x.2) 0 0 (fA G) := by
  refine Met.ofW (cc := cX5_readFigure) (maxL := 3) (ret := (some .int)) (by decide) rfl ?_
  intro p e s m args below meth c s₁ B hml hv
  obtain ⟨X, hH, hr, rfl, hnm⟩ := cx_in B hml hv
  have X : Cx p s m _ meth c cX5_readFigure 3 RX5 G := X
  have hx := X.1
  have hb := X.2.1
  have hown := X.2.2.2.1
  have hts := X.2.2.2.2.1
  have hRL : RmL (rmk 2 21 0 0) 2 21 := ⟨Nat.le_refl _, Nat.le_refl _⟩
  have hcs : 0 ≤ (rmk 0 0 0 0).cells ∧ 0 ≤ (rmk 0 0 0 0).slots := ⟨Nat.zero_le _, Nat.zero_le _⟩
  refine ls_in (Nat.le_of_ble_eq_true rfl) (fun ls hl => ?_)
  have hl : lv_has ls 3 [(0, .ref a0), (1, .ref p1)] := hl
  unfold f_X5_readFigure at h
  obtain ⟨htg, h⟩ := gsn h
  refine lv_aload_n hx hb dX5_readFigure_0 rfl (lv_at hl 1 rfl) ?_
  refine lv_aload_n hx hb dX5_readFigure_1 rfl (lv_at hl 0 rfl) ?_
  obtain ⟨x1, hx1, h⟩ := bnd h
  refine gf_X5_32 X hH hx1 dX5_readFigure_2 ?_
  obtain ⟨x2, hx2, h⟩ := bnd h
  refine iv_X5_54 l X hH hRL (by decide) hx2 hl.1 (Nat.le_of_ble_eq_true rfl) dX5_readFigure_5 hcs (fun H locs hH => ?_)
  refine lv_if_ne (tgt := 22) hx hb dX5_readFigure_8 (by decide) (fun hc3 => ?_) (fun hc3 => ?_)
  · replace h := iff' h hc3
    refine lv_aload_n hx hb dX5_readFigure_22 rfl (lv_at hl 1 rfl) ?_
    obtain ⟨x4, hx4, h⟩ := bnd h
    refine gf_X5_58 X hH hx4 dX5_readFigure_23 ?_
    refine lv_aload_n hx hb dX5_readFigure_26 rfl (lv_at hl 0 rfl) ?_
    obtain ⟨x5, hx5, h⟩ := bnd h
    refine gf_X5_32 X hH hx5 dX5_readFigure_27 ?_
    obtain ⟨x6, hx6, h⟩ := bnd h
    refine w_aI X hH hx6 dX5_readFigure_30 ?_
    refine lv_istore_n (lv' := [(2, .int x6), (0, .ref a0), (1, .ref p1)]) hx hb dX5_readFigure_31 rfl hl (by decide) rfl (fun ls hl => ?_)
    refine lv_iload_n hx hb dX5_readFigure_32 rfl (lv_at hl 0 rfl) ?_
    refine lv_bipush (v := 48) hx hb dX5_readFigure_33 (by decide) ?_
    refine lv_icmp_lt (tgt := 44) hx hb dX5_readFigure_35 (by decide) (fun hc7 => ?_) (fun hc7 => ?_)
    · replace h := ift h hc7
      refine lv_aload_n hx hb dX5_readFigure_44 rfl (lv_at hl 1 rfl) ?_
      refine lv_aload_n hx hb dX5_readFigure_45 rfl (lv_at hl 1 rfl) ?_
      obtain ⟨x8, hx8, h⟩ := bnd h
      refine gf_X5_32 X hH hx8 dX5_readFigure_46 ?_
      obtain ⟨x9, hx9, h⟩ := bnd h
      refine pf_X5_35 X hH hx9 dX5_readFigure_49 (fun H locs hH => ?_)
      refine lv_bipush (v := -9) hx hb dX5_readFigure_52 (by decide) ?_
      exact eI X hH h hr dX5_readFigure_54 (Nat.le_of_ble_eq_true rfl) (Nat.le_of_ble_eq_true rfl)
    · replace h := iff' h hc7
      refine lv_iload_n hx hb dX5_readFigure_38 rfl (lv_at hl 0 rfl) ?_
      refine lv_bipush (v := 57) hx hb dX5_readFigure_39 (by decide) ?_
      refine lv_icmp_le (tgt := 55) hx hb dX5_readFigure_41 (by decide) (fun hc10 => ?_) (fun hc10 => ?_)
      · replace h := ift h hc10
        refine lv_aload_n hx hb dX5_readFigure_55 rfl (lv_at hl 1 rfl) ?_
        refine lv_dup hx hb dX5_readFigure_56 rfl ?_
        obtain ⟨x11, hx11, h⟩ := bnd h
        refine gf_X5_32 X hH hx11 dX5_readFigure_57 ?_
        refine lv_iconst (v := 1) hx hb dX5_readFigure_60 (by decide) ?_
        refine lv_iadd hx hb dX5_readFigure_61 ?_
        obtain ⟨x12, hx12, h⟩ := bnd h
        refine pf_X5_32 X hH hx12 dX5_readFigure_62 (fun H locs hH => ?_)
        refine lv_iload_n hx hb dX5_readFigure_65 rfl (lv_at hl 0 rfl) ?_
        refine lv_bipush (v := 48) hx hb dX5_readFigure_66 (by decide) ?_
        refine lv_isub hx hb dX5_readFigure_68 ?_
        exact eI X hH h hr dX5_readFigure_69 (Nat.le_of_ble_eq_true rfl) (Nat.le_of_ble_eq_true rfl)
      · replace h := iff' h hc10
        refine lv_aload_n hx hb dX5_readFigure_44 rfl (lv_at hl 1 rfl) ?_
        refine lv_aload_n hx hb dX5_readFigure_45 rfl (lv_at hl 1 rfl) ?_
        obtain ⟨x13, hx13, h⟩ := bnd h
        refine gf_X5_32 X hH hx13 dX5_readFigure_46 ?_
        obtain ⟨x14, hx14, h⟩ := bnd h
        refine pf_X5_35 X hH hx14 dX5_readFigure_49 (fun H locs hH => ?_)
        refine lv_bipush (v := -9) hx hb dX5_readFigure_52 (by decide) ?_
        exact eI X hH h hr dX5_readFigure_54 (Nat.le_of_ble_eq_true rfl) (Nat.le_of_ble_eq_true rfl)
  · replace h := ift h hc3
    refine lv_aload_n hx hb dX5_readFigure_11 rfl (lv_at hl 0 rfl) ?_
    refine lv_aload_n hx hb dX5_readFigure_12 rfl (lv_at hl 1 rfl) ?_
    obtain ⟨x15, hx15, h⟩ := bnd h
    refine gf_X5_49 X hH hx15 dX5_readFigure_13 ?_
    obtain ⟨x16, hx16, h⟩ := bnd h
    refine pf_X5_35 X hH hx16 dX5_readFigure_16 (fun H locs hH => ?_)
    refine lv_bipush (v := -9) hx hb dX5_readFigure_19 (by decide) ?_
    exact eI X hH h hr dX5_readFigure_21 (Nat.le_of_ble_eq_true rfl) (Nat.le_of_ble_eq_true rfl)
set_option maxHeartbeats 1000000 in
theorem iv_X5_75 {p : Program} {e : Env} {R : Room} {s : State} {m : MethodId} {args : Array Value} {below : List Frame} {meth : Method} {c : Code} {H : Heap} {locs : List Loc} {cells slots : Nat} {Q : State → Prop} {cc : ByteArray} {pc : Nat} {ls : Array Slot} {rest : List Value} {nL : Nat} {G : CG} {μ : Mm} {a : Nat} {q0 : Nat} {x : Int32 × Mm} {k k2 : Nat} (l : Launch) (X : Cx p s m args meth c cc nL RX5 G) (hH : HS G s μ H locs) (hRL : RmL R k k2) (hk : 2 + 1 ≤ k ∧ 43 ≤ k2) (h : f_X5_readFigure μ a q0 = some x) (hls : ls.size = nL) (hroom : (rest.map fun v => v.category).sum ≤ 8) (hdg : decode cc pc = .ok (.invokevirtual 75, 3)) (hcs : cells + 0 ≤ R.cells ∧ slots + 0 ≤ R.slots) (kk : ∀ (H1 : Heap) (locs1 : List Loc), HS G s x.2 H1 locs1 → W p l e R s m args below meth c H1 locs1 cells slots Q (F0 m (pc + 3) ls (.int x.1 :: rest))) : W p l e R s m args below meth c H locs cells slots Q (F0 m pc ls (.ref q0 :: .ref a :: rest)) := by
  refine kI hH (rV (As := [.ref q0]) (rest := rest) X hH (t_X5_readFigure h) vc_5 (c_X5_readFigure l G μ a q0 x h) (List.forall_mem_cons.mpr ⟨u_522, (List.forall_mem_cons.mpr ⟨u_524, (List.forall_mem_cons.mpr ⟨u_9, (List.forall_mem_cons.mpr ⟨u_26, (fun _ h9 => absurd h9 List.not_mem_nil)⟩)⟩)⟩)⟩) u_525 (rmo hRL (Nat.le_trans (by decide) hk.1) (Nat.le_trans (by decide) hk.2)) ddV_X5_readFigure rfl hls rfl hroom hdg hcs) kk
theorem t_X5_readTwoFigures {μ : Mm} {a0 : Nat} {p1 : Nat} {p2 : Int32} {p3 : Int32} {x : Int32 × Mm} (h : f_X5_readTwoFigures μ a0 p1 p2 p3 = some x) : tg μ a0 = 6 := by
  unfold f_X5_readTwoFigures at h
  exact (gsn h).1
set_option maxHeartbeats 4000000 in
set_option maxRecDepth 100000 in
theorem c_X5_readTwoFigures (l : Launch) (G : CG) (μ : Mm) (a0 : Nat) (p1 : Nat) (p2 : Int32) (p3 : Int32) (x : Int32 × Mm) (h : f_X5_readTwoFigures μ a0 p1 p2 p3 = some x) : Met l yX5_readTwoFigures (.code yX5_readTwoFigures cX5_readTwoFigures 8 (some .int) :: UW) (rmk 3 43 0 0) (PC G [.ref a0, .ref p1, .int p2, .int p3] μ) (QI G x.1 x.2) 0 0 (fA G) := by
  refine Met.ofW (cc := cX5_readTwoFigures) (maxL := 8) (ret := (some .int)) (by decide) rfl ?_
  intro p e s m args below meth c s₁ B hml hv
  obtain ⟨X, hH, hr, rfl, hnm⟩ := cx_in B hml hv
  have X : Cx p s m _ meth c cX5_readTwoFigures 8 RX5 G := X
  have hx := X.1
  have hb := X.2.1
  have hown := X.2.2.2.1
  have hts := X.2.2.2.2.1
  have hRL : RmL (rmk 3 43 0 0) 3 43 := ⟨Nat.le_refl _, Nat.le_refl _⟩
  have hcs : 0 ≤ (rmk 0 0 0 0).cells ∧ 0 ≤ (rmk 0 0 0 0).slots := ⟨Nat.zero_le _, Nat.zero_le _⟩
  refine ls_in (Nat.le_of_ble_eq_true rfl) (fun ls hl => ?_)
  have hl : lv_has ls 8 [(0, .ref a0), (1, .ref p1), (2, .int p2), (3, .int p3)] := hl
  unfold f_X5_readTwoFigures at h
  obtain ⟨htg, h⟩ := gsn h
  refine lv_aload_n hx hb dX5_readTwoFigures_0 rfl (lv_at hl 0 rfl) ?_
  obtain ⟨x1, hx1, h⟩ := bnd h
  refine gf_X5_32 X hH hx1 dX5_readTwoFigures_1 ?_
  refine lv_istore (lv' := [(4, .int x1), (0, .ref a0), (1, .ref p1), (2, .int p2), (3, .int p3)]) hx hb dX5_readTwoFigures_4 hl (by decide) rfl (fun ls hl => ?_)
  refine lv_aload_n hx hb dX5_readTwoFigures_6 rfl (lv_at hl 1 rfl) ?_
  refine lv_aload_n hx hb dX5_readTwoFigures_7 rfl (lv_at hl 2 rfl) ?_
  obtain ⟨x2, hx2, h⟩ := bnd h
  refine iv_X5_75 l X hH hRL (by decide) hx2 hl.1 (Nat.le_of_ble_eq_true rfl) dX5_readTwoFigures_8 hcs (fun H locs hH => ?_)
  refine lv_istore (lv' := [(5, .int x2.1), (4, .int x1), (0, .ref a0), (1, .ref p1), (2, .int p2), (3, .int p3)]) hx hb dX5_readTwoFigures_11 hl (by decide) rfl (fun ls hl => ?_)
  refine lv_aload_n hx hb dX5_readTwoFigures_13 rfl (lv_at hl 2 rfl) ?_
  obtain ⟨x3, hx3, h⟩ := bnd h
  refine gf_X5_35 X hH hx3 dX5_readTwoFigures_14 ?_
  refine lv_bipush (v := -9) hx hb dX5_readTwoFigures_17 (by decide) ?_
  obtain ⟨x4, hbx4, hx4⟩ := bnd h
  clear h
  refine jn_lem (G := G) (x := x4) (M := 31) (nL := 8) (fun x4 => x4.2) (fun x4 => [(0, .ref a0), (2, .int p2), (3, .int p3), (4, .int x1), (5, .int x2.1)]) (fun x4 => [.int x4.1]) (fun H locs ls hH hl => ?_) (fun jnx4 => ?_)
  · have h := hx4
    clear hx4 hbx4
    refine lv_istore (lv' := [(6, .int x4.1), (0, .ref a0), (2, .int p2), (3, .int p3), (4, .int x1), (5, .int x2.1)]) hx hb dX5_readTwoFigures_31 hl (by decide) rfl (fun ls hl => ?_)
    refine lv_bipush (v := 10) hx hb dX5_readTwoFigures_33 (by decide) ?_
    refine lv_iload hx hb dX5_readTwoFigures_35 (lv_at hl 5 rfl) ?_
    refine lv_imul hx hb dX5_readTwoFigures_37 ?_
    refine lv_iload hx hb dX5_readTwoFigures_38 (lv_at hl 0 rfl) ?_
    refine lv_iadd hx hb dX5_readTwoFigures_40 ?_
    refine lv_istore (lv' := [(7, .int (((10 : Int32) * x2.1) + x4.1)), (6, .int x4.1), (0, .ref a0), (2, .int p2), (3, .int p3), (4, .int x1), (5, .int x2.1)]) hx hb dX5_readTwoFigures_41 hl (by decide) rfl (fun ls hl => ?_)
    refine lv_aload_n hx hb dX5_readTwoFigures_43 rfl (lv_at hl 2 rfl) ?_
    obtain ⟨x7, hx7, h⟩ := bnd h
    refine gf_X5_35 X hH hx7 dX5_readTwoFigures_44 ?_
    refine lv_bipush (v := -9) hx hb dX5_readTwoFigures_47 (by decide) ?_
    refine lv_icmp_ne (tgt := 70) hx hb dX5_readTwoFigures_49 (by decide) (fun hc8 => ?_) (fun hc8 => ?_)
    · replace h := iff' h hc8
      refine lv_iload hx hb dX5_readTwoFigures_70 (lv_at hl 0 rfl) ?_
      exact eI X hH h hr dX5_readTwoFigures_72 (Nat.le_of_ble_eq_true rfl) (Nat.le_of_ble_eq_true rfl)
    · replace h := ift h hc8
      refine lv_iload hx hb dX5_readTwoFigures_52 (lv_at hl 0 rfl) ?_
      refine lv_iload_n hx hb dX5_readTwoFigures_54 rfl (lv_at hl 3 rfl) ?_
      refine lv_icmp_lt (tgt := 64) hx hb dX5_readTwoFigures_55 (by decide) (fun hc9 => ?_) (fun hc9 => ?_)
      · replace h := ift h hc9
        refine lv_aload_n hx hb dX5_readTwoFigures_64 rfl (lv_at hl 2 rfl) ?_
        refine lv_iload hx hb dX5_readTwoFigures_65 (lv_at hl 5 rfl) ?_
        obtain ⟨x10, hx10, h⟩ := bnd h
        refine pf_X5_35 X hH hx10 dX5_readTwoFigures_67 (fun H locs hH => ?_)
        refine lv_iload hx hb dX5_readTwoFigures_70 (lv_at hl 0 rfl) ?_
        exact eI X hH h hr dX5_readTwoFigures_72 (Nat.le_of_ble_eq_true rfl) (Nat.le_of_ble_eq_true rfl)
      · replace h := iff' h hc9
        refine lv_iload hx hb dX5_readTwoFigures_58 (lv_at hl 0 rfl) ?_
        refine lv_iload_n hx hb dX5_readTwoFigures_60 rfl (lv_at hl 4 rfl) ?_
        refine lv_icmp_le (tgt := 70) hx hb dX5_readTwoFigures_61 (by decide) (fun hc11 => ?_) (fun hc11 => ?_)
        · replace h := ift h hc11
          refine lv_iload hx hb dX5_readTwoFigures_70 (lv_at hl 0 rfl) ?_
          exact eI X hH h hr dX5_readTwoFigures_72 (Nat.le_of_ble_eq_true rfl) (Nat.le_of_ble_eq_true rfl)
        · replace h := iff' h hc11
          refine lv_aload_n hx hb dX5_readTwoFigures_64 rfl (lv_at hl 2 rfl) ?_
          refine lv_iload hx hb dX5_readTwoFigures_65 (lv_at hl 5 rfl) ?_
          obtain ⟨x12, hx12, h⟩ := bnd h
          refine pf_X5_35 X hH hx12 dX5_readTwoFigures_67 (fun H locs hH => ?_)
          refine lv_iload hx hb dX5_readTwoFigures_70 (lv_at hl 0 rfl) ?_
          exact eI X hH h hr dX5_readTwoFigures_72 (Nat.le_of_ble_eq_true rfl) (Nat.le_of_ble_eq_true rfl)
  · have h := hbx4
    clear hx4 hbx4
    refine lv_icmp_ne (tgt := 30) hx hb dX5_readTwoFigures_19 (by decide) (fun hc5 => ?_) (fun hc5 => ?_)
    · replace h := iff' h hc5
      refine lv_iconst (v := 0) hx hb dX5_readTwoFigures_30 (by decide) ?_
      cases h
      exact jnx4 _ _ _ hH (lv_sub hl [2, 4, 5, 1, 0] rfl)
    · replace h := ift h hc5
      refine lv_aload_n hx hb dX5_readTwoFigures_22 rfl (lv_at hl 2 rfl) ?_
      refine lv_aload_n hx hb dX5_readTwoFigures_23 rfl (lv_at hl 3 rfl) ?_
      obtain ⟨x6, hx6, h⟩ := bnd h
      refine iv_X5_75 l X hH hRL (by decide) hx6 hl.1 (Nat.le_of_ble_eq_true rfl) dX5_readTwoFigures_24 hcs (fun H locs hH => ?_)
      refine lv_goto (tgt := 31) hx hb dX5_readTwoFigures_27 (by decide) ?_
      cases h
      exact jnx4 _ _ _ hH (lv_sub hl [2, 4, 5, 1, 0] rfl)
set_option maxHeartbeats 1000000 in
theorem iv_X5_42 {p : Program} {e : Env} {R : Room} {s : State} {m : MethodId} {args : Array Value} {below : List Frame} {meth : Method} {c : Code} {H : Heap} {locs : List Loc} {cells slots : Nat} {Q : State → Prop} {cc : ByteArray} {pc : Nat} {ls : Array Slot} {rest : List Value} {nL : Nat} {G : CG} {μ : Mm} {a : Nat} {q0 : Nat} {x : Int32 × Mm} {k k2 : Nat} (l : Launch) (X : Cx p s m args meth c cc nL RX5 G) (hH : HS G s μ H locs) (hRL : RmL R k k2) (hk : 2 + 1 ≤ k ∧ 42 ≤ k2) (h : f_X5_reachesItem μ a q0 = some x) (hls : ls.size = nL) (hroom : (rest.map fun v => v.category).sum ≤ 8) (hdg : decode cc pc = .ok (.invokevirtual 42, 3)) (hcs : cells + 0 ≤ R.cells ∧ slots + 0 ≤ R.slots) (kk : ∀ (H1 : Heap) (locs1 : List Loc), HS G s x.2 H1 locs1 → W p l e R s m args below meth c H1 locs1 cells slots Q (F0 m (pc + 3) ls (.int x.1 :: rest))) : W p l e R s m args below meth c H locs cells slots Q (F0 m pc ls (.ref q0 :: .ref a :: rest)) := by
  refine kI hH (rV (As := [.ref q0]) (rest := rest) X hH (t_X5_reachesItem h) vc_5 (c_X5_reachesItem l G μ a q0 x h) (List.forall_mem_cons.mpr ⟨u_513, (List.forall_mem_cons.mpr ⟨u_515, (List.forall_mem_cons.mpr ⟨u_7, (List.forall_mem_cons.mpr ⟨u_26, (fun _ h9 => absurd h9 List.not_mem_nil)⟩)⟩)⟩)⟩) u_516 (rmo hRL (Nat.le_trans (by decide) hk.1) (Nat.le_trans (by decide) hk.2)) ddV_X5_reachesItem rfl hls rfl hroom hdg hcs) kk
set_option maxHeartbeats 1000000 in
theorem iv_X5_61 {p : Program} {e : Env} {R : Room} {s : State} {m : MethodId} {args : Array Value} {below : List Frame} {meth : Method} {c : Code} {H : Heap} {locs : List Loc} {cells slots : Nat} {Q : State → Prop} {cc : ByteArray} {pc : Nat} {ls : Array Slot} {rest : List Value} {nL : Nat} {G : CG} {μ : Mm} {a : Nat} {q0 : Nat} {q1 : Int32} {q2 : Int32} {x : Int32 × Mm} {k k2 : Nat} (l : Launch) (X : Cx p s m args meth c cc nL RX5 G) (hH : HS G s μ H locs) (hRL : RmL R k k2) (hk : 3 + 1 ≤ k ∧ 70 ≤ k2) (h : f_X5_readTwoFigures μ a q0 q1 q2 = some x) (hls : ls.size = nL) (hroom : (rest.map fun v => v.category).sum ≤ 8) (hdg : decode cc pc = .ok (.invokevirtual 61, 3)) (hcs : cells + 0 ≤ R.cells ∧ slots + 0 ≤ R.slots) (kk : ∀ (H1 : Heap) (locs1 : List Loc), HS G s x.2 H1 locs1 → W p l e R s m args below meth c H1 locs1 cells slots Q (F0 m (pc + 3) ls (.int x.1 :: rest))) : W p l e R s m args below meth c H locs cells slots Q (F0 m pc ls (.int q2 :: .int q1 :: .ref q0 :: .ref a :: rest)) := by
  refine kI hH (rV (As := [.ref q0, .int q1, .int q2]) (rest := rest) X hH (t_X5_readTwoFigures h) vc_5 (c_X5_readTwoFigures l G μ a q0 q1 q2 x h) (List.forall_mem_cons.mpr ⟨u_518, (List.forall_mem_cons.mpr ⟨u_520, (List.forall_mem_cons.mpr ⟨u_8, (List.forall_mem_cons.mpr ⟨u_26, (fun _ h9 => absurd h9 List.not_mem_nil)⟩)⟩)⟩)⟩) u_521 (rmo hRL (Nat.le_trans (by decide) hk.1) (Nat.le_trans (by decide) hk.2)) ddV_X5_readTwoFigures rfl hls rfl hroom hdg hcs) kk
theorem t_X5_readDial {μ : Mm} {a0 : Nat} {p1 : Nat} {x : Mm} (h : f_X5_readDial μ a0 p1 = some x) : tg μ a0 = 6 := by
  unfold f_X5_readDial at h
  exact (gsn h).1
set_option maxHeartbeats 4000000 in
set_option maxRecDepth 100000 in
theorem c_X5_readDial (l : Launch) (G : CG) (μ : Mm) (a0 : Nat) (p1 : Nat) (x : Mm) (h : f_X5_readDial μ a0 p1 = some x) : Met l yX5_readDial (.code yX5_readDial cX5_readDial 2 none :: UW) (rmk 4 70 0 0) (PC G [.ref a0, .ref p1] μ) (QV G x) 0 0 (fA G) := by
  refine Met.ofW (cc := cX5_readDial) (maxL := 2) (ret := none) (by decide) rfl ?_
  intro p e s m args below meth c s₁ B hml hv
  obtain ⟨X, hH, hr, rfl, hnm⟩ := cx_in B hml hv
  have X : Cx p s m _ meth c cX5_readDial 2 RX5 G := X
  have hx := X.1
  have hb := X.2.1
  have hown := X.2.2.2.1
  have hts := X.2.2.2.2.1
  have hRL : RmL (rmk 4 70 0 0) 4 70 := ⟨Nat.le_refl _, Nat.le_refl _⟩
  have hcs : 0 ≤ (rmk 0 0 0 0).cells ∧ 0 ≤ (rmk 0 0 0 0).slots := ⟨Nat.zero_le _, Nat.zero_le _⟩
  refine ls_in (Nat.le_of_ble_eq_true rfl) (fun ls hl => ?_)
  have hl : lv_has ls 2 [(0, .ref a0), (1, .ref p1)] := hl
  unfold f_X5_readDial at h
  obtain ⟨htg, h⟩ := gsn h
  refine lv_aload_n hx hb dX5_readDial_0 rfl (lv_at hl 0 rfl) ?_
  refine lv_aload_n hx hb dX5_readDial_1 rfl (lv_at hl 1 rfl) ?_
  obtain ⟨x1, hx1, h⟩ := bnd h
  refine iv_X5_42 l X hH hRL (by decide) hx1 hl.1 (Nat.le_of_ble_eq_true rfl) dX5_readDial_2 hcs (fun H locs hH => ?_)
  refine lv_if_ne (tgt := 19) hx hb dX5_readDial_5 (by decide) (fun hc2 => ?_) (fun hc2 => ?_)
  · replace h := iff' h hc2
    refine lv_aload_n hx hb dX5_readDial_19 rfl (lv_at hl 1 rfl) ?_
    obtain ⟨x3, hx3, h⟩ := bnd h
    refine gf_X5_58 X hH hx3 dX5_readDial_20 ?_
    refine lv_aload_n hx hb dX5_readDial_23 rfl (lv_at hl 0 rfl) ?_
    obtain ⟨x4, hx4, h⟩ := bnd h
    refine gf_X5_32 X hH hx4 dX5_readDial_24 ?_
    obtain ⟨x5, hx5, h⟩ := bnd h
    refine w_aI X hH hx5 dX5_readDial_27 ?_
    refine lv_bipush (v := 100) hx hb dX5_readDial_28 (by decide) ?_
    refine lv_icmp_eq (tgt := 44) hx hb dX5_readDial_30 (by decide) (fun hc6 => ?_) (fun hc6 => ?_)
    · replace h := ift h hc6
      refine lv_aload_n hx hb dX5_readDial_44 rfl (lv_at hl 0 rfl) ?_
      refine lv_dup hx hb dX5_readDial_45 rfl ?_
      obtain ⟨x7, hx7, h⟩ := bnd h
      refine gf_X5_32 X hH hx7 dX5_readDial_46 ?_
      refine lv_iconst (v := 1) hx hb dX5_readDial_49 (by decide) ?_
      refine lv_iadd hx hb dX5_readDial_50 ?_
      obtain ⟨x8, hx8, h⟩ := bnd h
      refine pf_X5_32 X hH hx8 dX5_readDial_51 (fun H locs hH => ?_)
      refine lv_aload_n hx hb dX5_readDial_54 rfl (lv_at hl 0 rfl) ?_
      refine lv_aload_n hx hb dX5_readDial_55 rfl (lv_at hl 0 rfl) ?_
      refine lv_aload_n hx hb dX5_readDial_56 rfl (lv_at hl 1 rfl) ?_
      refine lv_bipush (v := 12) hx hb dX5_readDial_57 (by decide) ?_
      refine lv_bipush (v := 60) hx hb dX5_readDial_59 (by decide) ?_
      obtain ⟨x9, hx9, h⟩ := bnd h
      refine iv_X5_61 l X hH hRL (by decide) hx9 hl.1 (Nat.le_of_ble_eq_true rfl) dX5_readDial_61 hcs (fun H locs hH => ?_)
      obtain ⟨x10, hx10, h⟩ := bnd h
      refine pf_X5_22 X hH hx10 dX5_readDial_64 (fun H locs hH => ?_)
      exact eV X hH h hr dX5_readDial_67 (Nat.le_of_ble_eq_true rfl) (Nat.le_of_ble_eq_true rfl)
    · replace h := iff' h hc6
      refine lv_aload_n hx hb dX5_readDial_33 rfl (lv_at hl 0 rfl) ?_
      refine lv_aload_n hx hb dX5_readDial_34 rfl (lv_at hl 0 rfl) ?_
      obtain ⟨x11, hx11, h⟩ := bnd h
      refine gf_X5_32 X hH hx11 dX5_readDial_35 ?_
      obtain ⟨x12, hx12, h⟩ := bnd h
      refine pf_X5_35 X hH hx12 dX5_readDial_38 (fun H locs hH => ?_)
      refine lv_goto (tgt := 67) hx hb dX5_readDial_41 (by decide) ?_
      exact eV X hH h hr dX5_readDial_67 (Nat.le_of_ble_eq_true rfl) (Nat.le_of_ble_eq_true rfl)
  · replace h := ift h hc2
    refine lv_aload_n hx hb dX5_readDial_8 rfl (lv_at hl 0 rfl) ?_
    refine lv_aload_n hx hb dX5_readDial_9 rfl (lv_at hl 1 rfl) ?_
    obtain ⟨x13, hx13, h⟩ := bnd h
    refine gf_X5_49 X hH hx13 dX5_readDial_10 ?_
    obtain ⟨x14, hx14, h⟩ := bnd h
    refine pf_X5_35 X hH hx14 dX5_readDial_13 (fun H locs hH => ?_)
    refine lv_goto (tgt := 67) hx hb dX5_readDial_16 (by decide) ?_
    exact eV X hH h hr dX5_readDial_67 (Nat.le_of_ble_eq_true rfl) (Nat.le_of_ble_eq_true rfl)
set_option maxHeartbeats 4000000 in
set_option maxRecDepth 100000 in
theorem c_X5_kindOf (l : Launch) (G : CG) (μ : Mm) (p0 : Int32) (x : Int32) (h : f_X5_kindOf μ p0 = some x) : Met l yX5_kindOf (.code yX5_kindOf cX5_kindOf 1 (some .int) :: UW) (rmk 1 0 0 0) (PC G [.int p0] μ) (QI G x μ) 0 0 (fA G) := by
  refine Met.ofW (cc := cX5_kindOf) (maxL := 1) (ret := (some .int)) (by decide) rfl ?_
  intro p e s m args below meth c s₁ B hml hv
  obtain ⟨X, hH, hr, rfl, hnm⟩ := cx_in B hml hv
  have X : Cx p s m _ meth c cX5_kindOf 1 RX5 G := X
  have hx := X.1
  have hb := X.2.1
  have hown := X.2.2.2.1
  have hts := X.2.2.2.2.1
  have hRL : RmL (rmk 1 0 0 0) 1 0 := ⟨Nat.le_refl _, Nat.le_refl _⟩
  have hcs : 0 ≤ (rmk 0 0 0 0).cells ∧ 0 ≤ (rmk 0 0 0 0).slots := ⟨Nat.zero_le _, Nat.zero_le _⟩
  refine ls_in (Nat.le_of_ble_eq_true rfl) (fun ls hl => ?_)
  have hl : lv_has ls 1 [(0, .int p0)] := hl
  unfold f_X5_kindOf at h
  refine lv_iload_n hx hb dX5_kindOf_0 rfl (lv_at hl 0 rfl) ?_
  by_cases hc1 : p0 = (99 : Int32)
  · replace h := ift h hc1
    refine lv_tableIn (tgt := 92) (off := 91) hx hb dX5_kindOf_1 (by rw [hc1]; decide) (by rw [hc1]; decide) (by rw [hc1]; rfl) (by decide) ?_
    refine lv_iconst (v := 2) hx hb dX5_kindOf_92 (by decide) ?_
    exact eIp X hH h hr dX5_kindOf_93
  · replace h := iff' h hc1
    by_cases hc2 : p0 = (103 : Int32)
    · replace h := ift h hc2
      refine lv_tableIn (tgt := 88) (off := 87) hx hb dX5_kindOf_1 (by rw [hc2]; decide) (by rw [hc2]; decide) (by rw [hc2]; rfl) (by decide) ?_
      refine lv_iconst (v := 0) hx hb dX5_kindOf_88 (by decide) ?_
      exact eIp X hH h hr dX5_kindOf_89
    · replace h := iff' h hc2
      by_cases hc3 : p0 = (104 : Int32)
      · replace h := ift h hc3
        refine lv_tableIn (tgt := 90) (off := 89) hx hb dX5_kindOf_1 (by rw [hc3]; decide) (by rw [hc3]; decide) (by rw [hc3]; rfl) (by decide) ?_
        refine lv_iconst (v := 1) hx hb dX5_kindOf_90 (by decide) ?_
        exact eIp X hH h hr dX5_kindOf_91
      · replace h := iff' h hc3
        by_cases hc4 : p0 = (107 : Int32)
        · replace h := ift h hc4
          refine lv_tableIn (tgt := 94) (off := 93) hx hb dX5_kindOf_1 (by rw [hc4]; decide) (by rw [hc4]; decide) (by rw [hc4]; rfl) (by decide) ?_
          refine lv_iconst (v := 3) hx hb dX5_kindOf_94 (by decide) ?_
          exact eIp X hH h hr dX5_kindOf_95
        · replace h := iff' h hc4
          by_cases hc5 : p0 = (114 : Int32)
          · replace h := ift h hc5
            refine lv_tableIn (tgt := 96) (off := 95) hx hb dX5_kindOf_1 (by rw [hc5]; decide) (by rw [hc5]; decide) (by rw [hc5]; rfl) (by decide) ?_
            refine lv_iconst (v := 4) hx hb dX5_kindOf_96 (by decide) ?_
            exact eIp X hH h hr dX5_kindOf_97
          · replace h := iff' h hc5
            by_cases hc6 : p0 = (116 : Int32)
            · replace h := ift h hc6
              refine lv_tableIn (tgt := 98) (off := 97) hx hb dX5_kindOf_1 (by rw [hc6]; decide) (by rw [hc6]; decide) (by rw [hc6]; rfl) (by decide) ?_
              refine lv_iconst (v := 5) hx hb dX5_kindOf_98 (by decide) ?_
              exact eIp X hH h hr dX5_kindOf_99
            · replace h := iff' h hc6
              have e99 : p0.toInt ≠ 99 := lv_neT hc1 (by decide)
              have e103 : p0.toInt ≠ 103 := lv_neT hc2 (by decide)
              have e104 : p0.toInt ≠ 104 := lv_neT hc3 (by decide)
              have e107 : p0.toInt ≠ 107 := lv_neT hc4 (by decide)
              have e114 : p0.toInt ≠ 114 := lv_neT hc5 (by decide)
              have e116 : p0.toInt ≠ 116 := lv_neT hc6 (by decide)
              refine sw_lem (M := 100) (ls := ls) (rest := []) ?_ (fun sw => ?_)
              · refine lv_bipush (v := -9) hx hb dX5_kindOf_100 (by decide) ?_
                exact eIp X hH h hr dX5_kindOf_102
              · by_cases hlo : p0.toInt < 99 ∨ 116 < p0.toInt
                · refine lv_tableOut (tgt := 100) hx hb dX5_kindOf_1 hlo (by decide) ?_
                  exact sw
                · have hh : p0.toInt = 100 ∨ p0.toInt = 101 ∨ p0.toInt = 102 ∨ p0.toInt = 105 ∨ p0.toInt = 106 ∨ p0.toInt = 108 ∨ p0.toInt = 109 ∨ p0.toInt = 110 ∨ p0.toInt = 111 ∨ p0.toInt = 112 ∨ p0.toInt = 113 ∨ p0.toInt = 115 := by omega
                  rcases hh with hh | hh | hh | hh | hh | hh | hh | hh | hh | hh | hh | hh
                  · refine lv_tableIn (tgt := 100) (off := 99) hx hb dX5_kindOf_1 (by rw [hh]; decide) (by rw [hh]; decide) (by rw [hh]; rfl) (by decide) ?_
                    exact sw
                  · refine lv_tableIn (tgt := 100) (off := 99) hx hb dX5_kindOf_1 (by rw [hh]; decide) (by rw [hh]; decide) (by rw [hh]; rfl) (by decide) ?_
                    exact sw
                  · refine lv_tableIn (tgt := 100) (off := 99) hx hb dX5_kindOf_1 (by rw [hh]; decide) (by rw [hh]; decide) (by rw [hh]; rfl) (by decide) ?_
                    exact sw
                  · refine lv_tableIn (tgt := 100) (off := 99) hx hb dX5_kindOf_1 (by rw [hh]; decide) (by rw [hh]; decide) (by rw [hh]; rfl) (by decide) ?_
                    exact sw
                  · refine lv_tableIn (tgt := 100) (off := 99) hx hb dX5_kindOf_1 (by rw [hh]; decide) (by rw [hh]; decide) (by rw [hh]; rfl) (by decide) ?_
                    exact sw
                  · refine lv_tableIn (tgt := 100) (off := 99) hx hb dX5_kindOf_1 (by rw [hh]; decide) (by rw [hh]; decide) (by rw [hh]; rfl) (by decide) ?_
                    exact sw
                  · refine lv_tableIn (tgt := 100) (off := 99) hx hb dX5_kindOf_1 (by rw [hh]; decide) (by rw [hh]; decide) (by rw [hh]; rfl) (by decide) ?_
                    exact sw
                  · refine lv_tableIn (tgt := 100) (off := 99) hx hb dX5_kindOf_1 (by rw [hh]; decide) (by rw [hh]; decide) (by rw [hh]; rfl) (by decide) ?_
                    exact sw
                  · refine lv_tableIn (tgt := 100) (off := 99) hx hb dX5_kindOf_1 (by rw [hh]; decide) (by rw [hh]; decide) (by rw [hh]; rfl) (by decide) ?_
                    exact sw
                  · refine lv_tableIn (tgt := 100) (off := 99) hx hb dX5_kindOf_1 (by rw [hh]; decide) (by rw [hh]; decide) (by rw [hh]; rfl) (by decide) ?_
                    exact sw
                  · refine lv_tableIn (tgt := 100) (off := 99) hx hb dX5_kindOf_1 (by rw [hh]; decide) (by rw [hh]; decide) (by rw [hh]; rfl) (by decide) ?_
                    exact sw
                  · refine lv_tableIn (tgt := 100) (off := 99) hx hb dX5_kindOf_1 (by rw [hh]; decide) (by rw [hh]; decide) (by rw [hh]; rfl) (by decide) ?_
                    exact sw
set_option maxHeartbeats 1000000 in
theorem iv_X5_71 {p : Program} {e : Env} {R : Room} {s : State} {m : MethodId} {args : Array Value} {below : List Frame} {meth : Method} {c : Code} {H : Heap} {locs : List Loc} {cells slots : Nat} {Q : State → Prop} {cc : ByteArray} {pc : Nat} {ls : Array Slot} {rest : List Value} {nL : Nat} {G : CG} {μ : Mm} {q0 : Int32} {x : Int32} {k k2 : Nat} (l : Launch) (X : Cx p s m args meth c cc nL RX5 G) (hH : HS G s μ H locs) (hRL : RmL R k k2) (hk : 1 + 1 ≤ k ∧ 20 ≤ k2) (h : f_X5_kindOf μ q0 = some x) (hls : ls.size = nL) (hroom : (rest.map fun v => v.category).sum ≤ 8) (hdg : decode cc pc = .ok (.invokestatic 71, 3)) (hcs : cells + 0 ≤ R.cells ∧ slots + 0 ≤ R.slots) (kk : ∀ (H1 : Heap) (locs1 : List Loc), HS G s μ H1 locs1 → W p l e R s m args below meth c H1 locs1 cells slots Q (F0 m (pc + 3) ls (.int x :: rest))) : W p l e R s m args below meth c H locs cells slots Q (F0 m pc ls (.int q0 :: rest)) := by
  refine kI hH (rS (As := [.int q0]) (rest := rest) X hH (c_X5_kindOf l G μ q0 x h) (List.forall_mem_cons.mpr ⟨u_538, (List.forall_mem_cons.mpr ⟨u_539, (List.forall_mem_cons.mpr ⟨u_26, (fun _ h9 => absurd h9 List.not_mem_nil)⟩)⟩)⟩) u_540 (rmo hRL (Nat.le_trans (by decide) hk.1) (Nat.le_trans (by decide) hk.2)) ddS_X5_kindOf rfl hls rfl hroom hdg hcs) kk
theorem t_X5_readGuild {μ : Mm} {a0 : Nat} {p1 : Nat} {x : Mm} (h : f_X5_readGuild μ a0 p1 = some x) : tg μ a0 = 6 := by
  unfold f_X5_readGuild at h
  exact (gsn h).1
set_option maxHeartbeats 4000000 in
set_option maxRecDepth 100000 in
theorem c_X5_readGuild (l : Launch) (G : CG) (μ : Mm) (a0 : Nat) (p1 : Nat) (x : Mm) (h : f_X5_readGuild μ a0 p1 = some x) : Met l yX5_readGuild (.code yX5_readGuild cX5_readGuild 4 none :: UW) (rmk 3 43 0 0) (PC G [.ref a0, .ref p1] μ) (QV G x) 0 0 (fA G) := by
  refine Met.ofW (cc := cX5_readGuild) (maxL := 4) (ret := none) (by decide) rfl ?_
  intro p e s m args below meth c s₁ B hml hv
  obtain ⟨X, hH, hr, rfl, hnm⟩ := cx_in B hml hv
  have X : Cx p s m _ meth c cX5_readGuild 4 RX5 G := X
  have hx := X.1
  have hb := X.2.1
  have hown := X.2.2.2.1
  have hts := X.2.2.2.2.1
  have hRL : RmL (rmk 3 43 0 0) 3 43 := ⟨Nat.le_refl _, Nat.le_refl _⟩
  have hcs : 0 ≤ (rmk 0 0 0 0).cells ∧ 0 ≤ (rmk 0 0 0 0).slots := ⟨Nat.zero_le _, Nat.zero_le _⟩
  refine ls_in (Nat.le_of_ble_eq_true rfl) (fun ls hl => ?_)
  have hl : lv_has ls 4 [(0, .ref a0), (1, .ref p1)] := hl
  unfold f_X5_readGuild at h
  obtain ⟨htg, h⟩ := gsn h
  refine lv_aload_n hx hb dX5_readGuild_0 rfl (lv_at hl 1 rfl) ?_
  refine lv_aload_n hx hb dX5_readGuild_1 rfl (lv_at hl 0 rfl) ?_
  obtain ⟨x1, hx1, h⟩ := bnd h
  refine gf_X5_32 X hH hx1 dX5_readGuild_2 ?_
  obtain ⟨x2, hx2, h⟩ := bnd h
  refine iv_X5_54 l X hH hRL (by decide) hx2 hl.1 (Nat.le_of_ble_eq_true rfl) dX5_readGuild_5 hcs (fun H locs hH => ?_)
  obtain ⟨x3, hbx3, hx3⟩ := bnd h
  clear h
  refine jn_lem (G := G) (x := x3) (M := 28) (nL := 4) (fun x3 => μ) (fun x3 => [(0, .ref a0), (1, .ref p1)]) (fun x3 => [.int x3]) (fun H locs ls hH hl => ?_) (fun jnx3 => ?_)
  · have h := hx3
    clear hx3 hbx3
    refine lv_istore_n (lv' := [(2, .int x3), (0, .ref a0), (1, .ref p1)]) hx hb dX5_readGuild_28 rfl hl (by decide) rfl (fun ls hl => ?_)
    refine lv_iload_n hx hb dX5_readGuild_29 rfl (lv_at hl 0 rfl) ?_
    refine lv_bipush (v := -9) hx hb dX5_readGuild_30 (by decide) ?_
    refine lv_icmp_eq (tgt := 51) hx hb dX5_readGuild_32 (by decide) (fun hc9 => ?_) (fun hc9 => ?_)
    · replace h := ift h hc9
      refine lv_aload_n hx hb dX5_readGuild_51 rfl (lv_at hl 1 rfl) ?_
      refine lv_aload_n hx hb dX5_readGuild_52 rfl (lv_at hl 1 rfl) ?_
      obtain ⟨x10, hx10, h⟩ := bnd h
      refine gf_X5_32 X hH hx10 dX5_readGuild_53 ?_
      obtain ⟨x11, hx11, h⟩ := bnd h
      refine pf_X5_35 X hH hx11 dX5_readGuild_56 (fun H locs hH => ?_)
      exact eV X hH h hr dX5_readGuild_59 (Nat.le_of_ble_eq_true rfl) (Nat.le_of_ble_eq_true rfl)
    · replace h := iff' h hc9
      refine lv_aload_n hx hb dX5_readGuild_35 rfl (lv_at hl 1 rfl) ?_
      obtain ⟨x12, hx12, h⟩ := bnd h
      refine gf_X5_18 X hH hx12 dX5_readGuild_36 ?_
      refine lv_bipush (v := 6) hx hb dX5_readGuild_39 (by decide) ?_
      refine lv_icmp_ge (tgt := 51) hx hb dX5_readGuild_41 (by decide) (fun hc13 => ?_) (fun hc13 => ?_)
      · replace h := ift h hc13
        refine lv_aload_n hx hb dX5_readGuild_51 rfl (lv_at hl 1 rfl) ?_
        refine lv_aload_n hx hb dX5_readGuild_52 rfl (lv_at hl 1 rfl) ?_
        obtain ⟨x14, hx14, h⟩ := bnd h
        refine gf_X5_32 X hH hx14 dX5_readGuild_53 ?_
        obtain ⟨x15, hx15, h⟩ := bnd h
        refine pf_X5_35 X hH hx15 dX5_readGuild_56 (fun H locs hH => ?_)
        exact eV X hH h hr dX5_readGuild_59 (Nat.le_of_ble_eq_true rfl) (Nat.le_of_ble_eq_true rfl)
      · replace h := iff' h hc13
        refine lv_aload_n hx hb dX5_readGuild_44 rfl (lv_at hl 1 rfl) ?_
        obtain ⟨x16, hx16, h⟩ := bnd h
        refine gf_X5_29 X hH hx16 dX5_readGuild_45 ?_
        refine lv_if_le (tgt := 60) hx hb dX5_readGuild_48 (by decide) (fun hc17 => ?_) (fun hc17 => ?_)
        · replace h := ift h hc17
          refine lv_aload_n hx hb dX5_readGuild_60 rfl (lv_at hl 1 rfl) ?_
          refine lv_dup hx hb dX5_readGuild_61 rfl ?_
          obtain ⟨x18, hx18, h⟩ := bnd h
          refine gf_X5_32 X hH hx18 dX5_readGuild_62 ?_
          refine lv_iconst (v := 1) hx hb dX5_readGuild_65 (by decide) ?_
          refine lv_iadd hx hb dX5_readGuild_66 ?_
          obtain ⟨x19, hx19, h⟩ := bnd h
          refine pf_X5_32 X hH hx19 dX5_readGuild_67 (fun H locs hH => ?_)
          refine lv_aload_n hx hb dX5_readGuild_70 rfl (lv_at hl 1 rfl) ?_
          refine lv_aload_n hx hb dX5_readGuild_71 rfl (lv_at hl 2 rfl) ?_
          obtain ⟨x20, hx20, h⟩ := bnd h
          refine iv_X5_75 l X hH hRL (by decide) hx20 hl.1 (Nat.le_of_ble_eq_true rfl) dX5_readGuild_72 hcs (fun H locs hH => ?_)
          refine lv_istore_n (lv' := [(3, .int x20.1), (2, .int x3), (0, .ref a0), (1, .ref p1)]) hx hb dX5_readGuild_75 rfl hl (by decide) rfl (fun ls hl => ?_)
          refine lv_iload_n hx hb dX5_readGuild_76 rfl (lv_at hl 0 rfl) ?_
          obtain ⟨x21, hbx21, hx21⟩ := bnd h
          clear h
          refine jn_lem (G := G) (x := x21) (M := 90) (nL := 4) (fun x21 => x21) (fun x21 => [(0, .ref a0), (2, .int x3), (3, .int x20.1)]) (fun x21 => []) (fun H locs ls hH hl => ?_) (fun jnx21 => ?_)
          · have h := hx21
            clear hx21 hbx21
            refine lv_aload_n hx hb dX5_readGuild_90 rfl (lv_at hl 0 rfl) ?_
            obtain ⟨x25, hx25, h⟩ := bnd h
            refine gf_X5_35 X hH hx25 dX5_readGuild_91 ?_
            refine lv_bipush (v := -9) hx hb dX5_readGuild_94 (by decide) ?_
            refine lv_icmp_ne (tgt := 129) hx hb dX5_readGuild_96 (by decide) (fun hc26 => ?_) (fun hc26 => ?_)
            · replace h := iff' h hc26
              exact eV X hH h hr dX5_readGuild_129 (Nat.le_of_ble_eq_true rfl) (Nat.le_of_ble_eq_true rfl)
            · replace h := ift h hc26
              refine lv_aload_n hx hb dX5_readGuild_99 rfl (lv_at hl 0 rfl) ?_
              obtain ⟨x27, hx27, h⟩ := bnd h
              refine gf_X5_9 X hH hx27 dX5_readGuild_100 ?_
              refine lv_aload_n hx hb dX5_readGuild_103 rfl (lv_at hl 0 rfl) ?_
              obtain ⟨x28, hx28, h⟩ := bnd h
              refine gf_X5_18 X hH hx28 dX5_readGuild_104 ?_
              refine lv_iload_n hx hb dX5_readGuild_107 rfl (lv_at hl 1 rfl) ?_
              obtain ⟨x29, hx29, h⟩ := bnd h
              refine w_qI X hH hx29 dX5_readGuild_108 (fun H locs hH => ?_)
              refine lv_aload_n hx hb dX5_readGuild_109 rfl (lv_at hl 0 rfl) ?_
              obtain ⟨x30, hx30, h⟩ := bnd h
              refine gf_X5_15 X hH hx30 dX5_readGuild_110 ?_
              refine lv_aload_n hx hb dX5_readGuild_113 rfl (lv_at hl 0 rfl) ?_
              obtain ⟨x31, hx31, h⟩ := bnd h
              refine gf_X5_18 X hH hx31 dX5_readGuild_114 ?_
              refine lv_iload_n hx hb dX5_readGuild_117 rfl (lv_at hl 2 rfl) ?_
              obtain ⟨x32, hx32, h⟩ := bnd h
              refine w_qI X hH hx32 dX5_readGuild_118 (fun H locs hH => ?_)
              refine lv_aload_n hx hb dX5_readGuild_119 rfl (lv_at hl 0 rfl) ?_
              refine lv_dup hx hb dX5_readGuild_120 rfl ?_
              obtain ⟨x33, hx33, h⟩ := bnd h
              refine gf_X5_18 X hH hx33 dX5_readGuild_121 ?_
              refine lv_iconst (v := 1) hx hb dX5_readGuild_124 (by decide) ?_
              refine lv_iadd hx hb dX5_readGuild_125 ?_
              obtain ⟨x34, hx34, h⟩ := bnd h
              refine pf_X5_18 X hH hx34 dX5_readGuild_126 (fun H locs hH => ?_)
              exact eV X hH h hr dX5_readGuild_129 (Nat.le_of_ble_eq_true rfl) (Nat.le_of_ble_eq_true rfl)
          · have h := hbx21
            clear hx21 hbx21
            refine lv_if_ne (tgt := 90) hx hb dX5_readGuild_77 (by decide) (fun hc22 => ?_) (fun hc22 => ?_)
            · replace h := iff' h hc22
              cases h
              exact jnx21 _ _ _ hH (lv_sub hl [2, 1, 0] rfl)
            · replace h := ift h hc22
              refine lv_aload_n hx hb dX5_readGuild_80 rfl (lv_at hl 2 rfl) ?_
              refine lv_aload_n hx hb dX5_readGuild_81 rfl (lv_at hl 2 rfl) ?_
              obtain ⟨x23, hx23, h⟩ := bnd h
              refine gf_X5_32 X hH hx23 dX5_readGuild_82 ?_
              refine lv_iconst (v := 1) hx hb dX5_readGuild_85 (by decide) ?_
              refine lv_isub hx hb dX5_readGuild_86 ?_
              obtain ⟨x24, hx24, h⟩ := bnd h
              refine pf_X5_35 X hH hx24 dX5_readGuild_87 (fun H locs hH => ?_)
              cases h
              exact jnx21 _ _ _ hH (lv_sub hl [2, 1, 0] rfl)
        · replace h := iff' h hc17
          refine lv_aload_n hx hb dX5_readGuild_51 rfl (lv_at hl 1 rfl) ?_
          refine lv_aload_n hx hb dX5_readGuild_52 rfl (lv_at hl 1 rfl) ?_
          obtain ⟨x35, hx35, h⟩ := bnd h
          refine gf_X5_32 X hH hx35 dX5_readGuild_53 ?_
          obtain ⟨x36, hx36, h⟩ := bnd h
          refine pf_X5_35 X hH hx36 dX5_readGuild_56 (fun H locs hH => ?_)
          exact eV X hH h hr dX5_readGuild_59 (Nat.le_of_ble_eq_true rfl) (Nat.le_of_ble_eq_true rfl)
  · have h := hbx3
    clear hx3 hbx3
    refine lv_if_eq (tgt := 26) hx hb dX5_readGuild_8 (by decide) (fun hc4 => ?_) (fun hc4 => ?_)
    · replace h := ift h hc4
      refine lv_bipush (v := -9) hx hb dX5_readGuild_26 (by decide) ?_
      cases h
      exact jnx3 _ _ _ hH (lv_sub hl [0, 1] rfl)
    · replace h := iff' h hc4
      refine lv_aload_n hx hb dX5_readGuild_11 rfl (lv_at hl 1 rfl) ?_
      obtain ⟨x5, hx5, h⟩ := bnd h
      refine gf_X5_58 X hH hx5 dX5_readGuild_12 ?_
      refine lv_aload_n hx hb dX5_readGuild_15 rfl (lv_at hl 0 rfl) ?_
      obtain ⟨x6, hx6, h⟩ := bnd h
      refine gf_X5_32 X hH hx6 dX5_readGuild_16 ?_
      obtain ⟨x7, hx7, h⟩ := bnd h
      refine w_aI X hH hx7 dX5_readGuild_19 ?_
      obtain ⟨x8, hx8, h⟩ := bnd h
      refine iv_X5_71 l X hH hRL (by decide) hx8 hl.1 (Nat.le_of_ble_eq_true rfl) dX5_readGuild_20 hcs (fun H locs hH => ?_)
      refine lv_goto (tgt := 28) hx hb dX5_readGuild_23 (by decide) ?_
      cases h
      exact jnx3 _ _ _ hH (lv_sub hl [0, 1] rfl)
theorem t_X5_readRent {μ : Mm} {a0 : Nat} {p1 : Nat} {x : Mm} (h : f_X5_readRent μ a0 p1 = some x) : tg μ a0 = 6 := by
  unfold f_X5_readRent at h
  exact (gsn h).1
set_option maxHeartbeats 4000000 in
set_option maxRecDepth 100000 in
theorem c_X5_readRent (l : Launch) (G : CG) (μ : Mm) (a0 : Nat) (p1 : Nat) (x : Mm) (h : f_X5_readRent μ a0 p1 = some x) : Met l yX5_readRent (.code yX5_readRent cX5_readRent 4 none :: UW) (rmk 4 70 0 0) (PC G [.ref a0, .ref p1] μ) (QV G x) 0 0 (fA G) := by
  refine Met.ofW (cc := cX5_readRent) (maxL := 4) (ret := none) (by decide) rfl ?_
  intro p e s m args below meth c s₁ B hml hv
  obtain ⟨X, hH, hr, rfl, hnm⟩ := cx_in B hml hv
  have X : Cx p s m _ meth c cX5_readRent 4 RX5 G := X
  have hx := X.1
  have hb := X.2.1
  have hown := X.2.2.2.1
  have hts := X.2.2.2.2.1
  have hRL : RmL (rmk 4 70 0 0) 4 70 := ⟨Nat.le_refl _, Nat.le_refl _⟩
  have hcs : 0 ≤ (rmk 0 0 0 0).cells ∧ 0 ≤ (rmk 0 0 0 0).slots := ⟨Nat.zero_le _, Nat.zero_le _⟩
  refine ls_in (Nat.le_of_ble_eq_true rfl) (fun ls hl => ?_)
  have hl : lv_has ls 4 [(0, .ref a0), (1, .ref p1)] := hl
  unfold f_X5_readRent at h
  obtain ⟨htg, h⟩ := gsn h
  refine lv_aload_n hx hb dX5_readRent_0 rfl (lv_at hl 0 rfl) ?_
  obtain ⟨x1, hx1, h⟩ := bnd h
  refine gf_X5_18 X hH hx1 dX5_readRent_1 ?_
  refine lv_if_eq (tgt := 16) hx hb dX5_readRent_4 (by decide) (fun hc2 => ?_) (fun hc2 => ?_)
  · replace h := ift h hc2
    refine lv_aload_n hx hb dX5_readRent_16 rfl (lv_at hl 0 rfl) ?_
    refine lv_aload_n hx hb dX5_readRent_17 rfl (lv_at hl 0 rfl) ?_
    obtain ⟨x3, hx3, h⟩ := bnd h
    refine gf_X5_32 X hH hx3 dX5_readRent_18 ?_
    obtain ⟨x4, hx4, h⟩ := bnd h
    refine pf_X5_35 X hH hx4 dX5_readRent_21 (fun H locs hH => ?_)
    exact eV X hH h hr dX5_readRent_24 (Nat.le_of_ble_eq_true rfl) (Nat.le_of_ble_eq_true rfl)
  · replace h := iff' h hc2
    refine lv_aload_n hx hb dX5_readRent_7 rfl (lv_at hl 0 rfl) ?_
    obtain ⟨x5, hx5, h⟩ := bnd h
    refine gf_X5_29 X hH hx5 dX5_readRent_8 ?_
    refine lv_bipush (v := 6) hx hb dX5_readRent_11 (by decide) ?_
    refine lv_icmp_lt (tgt := 25) hx hb dX5_readRent_13 (by decide) (fun hc6 => ?_) (fun hc6 => ?_)
    · replace h := ift h hc6
      refine lv_aload_n hx hb dX5_readRent_25 rfl (lv_at hl 0 rfl) ?_
      refine lv_dup hx hb dX5_readRent_26 rfl ?_
      obtain ⟨x7, hx7, h⟩ := bnd h
      refine gf_X5_32 X hH hx7 dX5_readRent_27 ?_
      refine lv_iconst (v := 1) hx hb dX5_readRent_30 (by decide) ?_
      refine lv_iadd hx hb dX5_readRent_31 ?_
      obtain ⟨x8, hx8, h⟩ := bnd h
      refine pf_X5_32 X hH hx8 dX5_readRent_32 (fun H locs hH => ?_)
      refine lv_aload_n hx hb dX5_readRent_35 rfl (lv_at hl 0 rfl) ?_
      obtain ⟨x9, hx9, h⟩ := bnd h
      refine gf_X5_32 X hH hx9 dX5_readRent_36 ?_
      refine lv_istore_n (lv' := [(2, .int x9), (0, .ref a0), (1, .ref p1)]) hx hb dX5_readRent_39 rfl hl (by decide) rfl (fun ls hl => ?_)
      refine lv_aload_n hx hb dX5_readRent_40 rfl (lv_at hl 1 rfl) ?_
      refine lv_aload_n hx hb dX5_readRent_41 rfl (lv_at hl 2 rfl) ?_
      refine lv_iconst (v := 1) hx hb dX5_readRent_42 (by decide) ?_
      refine lv_aload_n hx hb dX5_readRent_43 rfl (lv_at hl 1 rfl) ?_
      obtain ⟨x10, hx10, h⟩ := bnd h
      refine gf_X5_22 X hH hx10 dX5_readRent_44 ?_
      refine lv_iconst (v := 1) hx hb dX5_readRent_47 (by decide) ?_
      refine lv_isub hx hb dX5_readRent_48 ?_
      obtain ⟨x11, hx11, h⟩ := bnd h
      refine iv_X5_61 l X hH hRL (by decide) hx11 hl.1 (Nat.le_of_ble_eq_true rfl) dX5_readRent_49 hcs (fun H locs hH => ?_)
      refine lv_istore_n (lv' := [(3, .int x11.1), (2, .int x9), (0, .ref a0), (1, .ref p1)]) hx hb dX5_readRent_52 rfl hl (by decide) rfl (fun ls hl => ?_)
      refine lv_aload_n hx hb dX5_readRent_53 rfl (lv_at hl 2 rfl) ?_
      obtain ⟨x12, hx12, h⟩ := bnd h
      refine gf_X5_35 X hH hx12 dX5_readRent_54 ?_
      refine lv_bipush (v := -9) hx hb dX5_readRent_57 (by decide) ?_
      refine lv_icmp_eq (tgt := 63) hx hb dX5_readRent_59 (by decide) (fun hc13 => ?_) (fun hc13 => ?_)
      · replace h := ift h hc13
        refine lv_aload_n hx hb dX5_readRent_63 rfl (lv_at hl 2 rfl) ?_
        obtain ⟨x14, hx14, h⟩ := bnd h
        refine gf_X5_25 X hH hx14 dX5_readRent_64 ?_
        refine lv_iload_n hx hb dX5_readRent_67 rfl (lv_at hl 0 rfl) ?_
        refine lv_lushr hx hb dX5_readRent_68 rfl ?_
        refine lv_lconst (v := 1) hx hb dX5_readRent_69 (by decide) ?_
        refine lv_land hx hb dX5_readRent_70 ?_
        refine lv_lconst (v := 0) hx hb dX5_readRent_71 (by decide) ?_
        refine W.lcmp hx hb dX5_readRent_72 ?_
        refine lv_if_eq (tgt := 82) hx hb dX5_readRent_73 (by decide) (fun hc15 => ?_) (fun hc15 => ?_)
        · replace h := ift h hc15
          refine lv_aload_n hx hb dX5_readRent_82 rfl (lv_at hl 2 rfl) ?_
          refine lv_dup hx hb dX5_readRent_83 rfl ?_
          obtain ⟨x16, hx16, h⟩ := bnd h
          refine gf_X5_25 X hH hx16 dX5_readRent_84 ?_
          refine lv_lconst (v := 1) hx hb dX5_readRent_87 (by decide) ?_
          refine lv_iload_n hx hb dX5_readRent_88 rfl (lv_at hl 0 rfl) ?_
          refine lv_lshl hx hb dX5_readRent_89 rfl ?_
          refine lv_lor hx hb dX5_readRent_90 ?_
          obtain ⟨x17, hx17, h⟩ := bnd h
          refine pf_X5_25 X hH hx17 dX5_readRent_91 (fun H locs hH => ?_)
          refine lv_aload_n hx hb dX5_readRent_94 rfl (lv_at hl 2 rfl) ?_
          refine lv_dup hx hb dX5_readRent_95 rfl ?_
          obtain ⟨x18, hx18, h⟩ := bnd h
          refine gf_X5_29 X hH hx18 dX5_readRent_96 ?_
          refine lv_iconst (v := 1) hx hb dX5_readRent_99 (by decide) ?_
          refine lv_iadd hx hb dX5_readRent_100 ?_
          obtain ⟨x19, hx19, h⟩ := bnd h
          refine pf_X5_29 X hH hx19 dX5_readRent_101 (fun H locs hH => ?_)
          exact eV X hH h hr dX5_readRent_104 (Nat.le_of_ble_eq_true rfl) (Nat.le_of_ble_eq_true rfl)
        · replace h := iff' h hc15
          refine lv_aload_n hx hb dX5_readRent_76 rfl (lv_at hl 2 rfl) ?_
          refine lv_iload_n hx hb dX5_readRent_77 rfl (lv_at hl 1 rfl) ?_
          obtain ⟨x20, hx20, h⟩ := bnd h
          refine pf_X5_35 X hH hx20 dX5_readRent_78 (fun H locs hH => ?_)
          exact eV X hH h hr dX5_readRent_81 (Nat.le_of_ble_eq_true rfl) (Nat.le_of_ble_eq_true rfl)
      · replace h := iff' h hc13
        exact eV X hH h hr dX5_readRent_62 (Nat.le_of_ble_eq_true rfl) (Nat.le_of_ble_eq_true rfl)
    · replace h := iff' h hc6
      refine lv_aload_n hx hb dX5_readRent_16 rfl (lv_at hl 0 rfl) ?_
      refine lv_aload_n hx hb dX5_readRent_17 rfl (lv_at hl 0 rfl) ?_
      obtain ⟨x21, hx21, h⟩ := bnd h
      refine gf_X5_32 X hH hx21 dX5_readRent_18 ?_
      obtain ⟨x22, hx22, h⟩ := bnd h
      refine pf_X5_35 X hH hx22 dX5_readRent_21 (fun H locs hH => ?_)
      exact eV X hH h hr dX5_readRent_24 (Nat.le_of_ble_eq_true rfl) (Nat.le_of_ble_eq_true rfl)
