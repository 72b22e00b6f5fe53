set_option maxHeartbeats 1000000 in
theorem iv_X11_133 {p : Program} {e : Env} {R : Room} {s : State} {m : MethodId} {args : Array Value} {below : List Frame} {meth : Method} {c : Code} {H : Heap} {locs : List Loc} {cells slots : Nat} {Q : State → Prop} {cc : ByteArray} {pc : Nat} {ls : Array Slot} {rest : List Value} {nL : Nat} {G : CG} {μ : Mm} {a : Nat} {q0 : Nat} {x : Int32 × Mm} {k k2 : Nat} (l : Launch) (X : Cx p s m args meth c cc nL RX11 G) (hH : HS G s μ H locs) (hRL : RmL R k k2) (hk : 6 + 1 ≤ k ∧ 136 ≤ k2) (h : f_X5_read μ a q0 = some x) (hls : ls.size = nL) (hroom : (rest.map fun v => v.category).sum ≤ 8) (hdg : decode cc pc = .ok (.invokevirtual 133, 3)) (hcs : cells + 0 ≤ R.cells ∧ slots + 0 ≤ R.slots) (kk : ∀ (H1 : Heap) (locs1 : List Loc), HS G s x.2 H1 locs1 → W p l e R s m args below meth c H1 locs1 cells slots Q (F0 m (pc + 3) ls (.int x.1 :: rest))) : W p l e R s m args below meth c H locs cells slots Q (F0 m pc ls (.ref q0 :: .ref a :: rest)) := by
  refine kI hH (rV (As := [.ref q0]) (rest := rest) X hH (t_X5_read h) vc_5 (c_X5_read l G μ a q0 x h) (List.forall_mem_cons.mpr ⟨u_505, (List.forall_mem_cons.mpr ⟨u_506, (List.forall_mem_cons.mpr ⟨u_507, (List.forall_mem_cons.mpr ⟨u_26, (fun _ h9 => absurd h9 List.not_mem_nil)⟩)⟩)⟩)⟩) u_508 (rmo hRL (Nat.le_trans (by decide) hk.1) (Nat.le_trans (by decide) hk.2)) ddV_X5_read rfl hls rfl hroom hdg hcs) kk
theorem t_X11_fault {μ : Mm} {a0 : Nat} {p1 : Int32} {x : Int32 × Mm} (h : f_X11_fault μ a0 p1 = some x) : tg μ a0 = 12 := by
  unfold f_X11_fault at h
  exact (gsn h).1
set_option maxHeartbeats 4000000 in
set_option maxRecDepth 100000 in
theorem c_X11_fault (l : Launch) (G : CG) (μ : Mm) (a0 : Nat) (p1 : Int32) (x : Int32 × Mm) (h : f_X11_fault μ a0 p1 = some x) : Met l yX11_fault (.code yX11_fault cX11_fault 3 (some .int) :: UW) (rmk 7 136 0 0) (PC G [.ref a0, .int p1] μ) (QI G x.1 x.2) 0 0 (fA G) := by
  refine Met.ofW (cc := cX11_fault) (maxL := 3) (ret := (some .int)) (by decide) rfl ?_
  intro p e s m args below meth c s₁ B hml hv
  obtain ⟨X, hH, hr, rfl, hnm⟩ := cx_in B hml hv
  have X : Cx p s m _ meth c cX11_fault 3 RX11 G := X
  have hx := X.1
  have hb := X.2.1
  have hown := X.2.2.2.1
  have hts := X.2.2.2.2.1
  have hRL : RmL (rmk 7 136 0 0) 7 136 := ⟨Nat.le_refl _, Nat.le_refl _⟩
  have hcs : 0 ≤ (rmk 0 0 0 0).cells ∧ 0 ≤ (rmk 0 0 0 0).slots := ⟨Nat.zero_le _, Nat.zero_le _⟩
  refine ls_in (Nat.le_of_ble_eq_true rfl) (fun ls hl => ?_)
  have hl : lv_has ls 3 [(0, .ref a0), (1, .int p1)] := hl
  unfold f_X11_fault at h
  obtain ⟨htg, h⟩ := gsn h
  refine lv_aload_n hx hb dX11_fault_0 rfl (lv_at hl 0 rfl) ?_
  refine lv_aload_n hx hb dX11_fault_1 rfl (lv_at hl 0 rfl) ?_
  obtain ⟨x1, hx1, h⟩ := bnd h
  refine gf_X11_15 X hH hx1 dX11_fault_2 ?_
  refine lv_iload_n hx hb dX11_fault_5 rfl (lv_at hl 1 rfl) ?_
  obtain ⟨x2, hx2, h⟩ := bnd h
  refine iv_X11_98 l X hH hRL (by decide) hx2 hl.1 (Nat.le_of_ble_eq_true rfl) dX11_fault_6 hcs (fun H locs hH => ?_)
  refine lv_istore_n (lv' := [(2, .int x2.1), (0, .ref a0), (1, .int p1)]) hx hb dX11_fault_9 rfl hl (by decide) rfl (fun ls hl => ?_)
  refine lv_iload_n hx hb dX11_fault_10 rfl (lv_at hl 0 rfl) ?_
  refine lv_if_eq (tgt := 18) hx hb dX11_fault_11 (by decide) (fun hc3 => ?_) (fun hc3 => ?_)
  · replace h := ift h hc3
    refine lv_aload_n hx hb dX11_fault_18 rfl (lv_at hl 1 rfl) ?_
    obtain ⟨x4, hx4, h⟩ := bnd h
    refine gf_X11_36 X hH hx4 dX11_fault_19 ?_
    refine lv_aload_n hx hb dX11_fault_22 rfl (lv_at hl 1 rfl) ?_
    obtain ⟨x5, hx5, h⟩ := bnd h
    refine gf_X11_15 X hH hx5 dX11_fault_23 ?_
    refine lv_iload_n hx hb dX11_fault_26 rfl (lv_at hl 2 rfl) ?_
    obtain ⟨x6, hx6, h⟩ := bnd h
    refine w_aP X hH hx6 (by decide) (k := 5) rfl dX11_fault_27 ?_
    obtain ⟨x7, hx7, h⟩ := bnd h
    refine iv_X11_133 l X hH hRL (by decide) hx7 hl.1 (Nat.le_of_ble_eq_true rfl) dX11_fault_28 hcs (fun H locs hH => ?_)
    exact eI X hH h hr dX11_fault_31 (Nat.le_of_ble_eq_true rfl) (Nat.le_of_ble_eq_true rfl)
  · replace h := iff' h hc3
    refine lv_iload_n hx hb dX11_fault_14 rfl (lv_at hl 0 rfl) ?_
    refine lv_goto (tgt := 31) hx hb dX11_fault_15 (by decide) ?_
    exact eI X hH h hr dX11_fault_31 (Nat.le_of_ble_eq_true rfl) (Nat.le_of_ble_eq_true rfl)
set_option maxHeartbeats 1000000 in
theorem iv_X11_137 {p : Program} {e : Env} {R : Room} {s : State} {m : MethodId} {args : Array Value} {below : List Frame} {meth : Method} {c : Code} {H : Heap} {locs : List Loc} {cells slots : Nat} {Q : State → Prop} {cc : ByteArray} {pc : Nat} {ls : Array Slot} {rest : List Value} {nL : Nat} {G : CG} {μ : Mm} {a : Nat} {q0 : Nat} {x : Mm} {k k2 : Nat} (l : Launch) (X : Cx p s m args meth c cc nL RX11 G) (hH : HS G s μ H locs) (hRL : RmL R k k2) (hk : 5 + 1 ≤ k ∧ 138 ≤ k2) (h : f_X3_build μ a q0 = some x) (hls : ls.size = nL) (hroom : (rest.map fun v => v.category).sum ≤ 8) (hdg : decode cc pc = .ok (.invokevirtual 137, 3)) (hcs : cells + 42 ≤ R.cells ∧ slots + 84 ≤ R.slots) (kk : ∀ (H1 : Heap) (locs1 : List Loc), HS G s x H1 locs1 → W p l e R s m args below meth c H1 locs1 (cells + 42) (slots + 84) Q (F0 m (pc + 3) ls rest)) : W p l e R s m args below meth c H locs cells slots Q (F0 m pc ls (.ref q0 :: .ref a :: rest)) := by
  refine kV hH (rV (As := [.ref q0]) (rest := rest) X hH (t_X3_build h) vc_3 (c_X3_build l G μ a q0 x h) (List.forall_mem_cons.mpr ⟨u_545, (List.forall_mem_cons.mpr ⟨u_546, (List.forall_mem_cons.mpr ⟨u_547, (List.forall_mem_cons.mpr ⟨u_22, (fun _ h9 => absurd h9 List.not_mem_nil)⟩)⟩)⟩)⟩) u_548 (rmo hRL (Nat.le_trans (by decide) hk.1) (Nat.le_trans (by decide) hk.2)) ddV_X3_build rfl hls rfl hroom hdg hcs) kk
set_option maxHeartbeats 1000000 in
theorem iv_X11_141 {p : Program} {e : Env} {R : Room} {s : State} {m : MethodId} {args : Array Value} {below : List Frame} {meth : Method} {c : Code} {H : Heap} {locs : List Loc} {cells slots : Nat} {Q : State → Prop} {cc : ByteArray} {pc : Nat} {ls : Array Slot} {rest : List Value} {nL : Nat} {G : CG} {μ : Mm} {a : Nat}  {x : Mm} {k k2 : Nat} (l : Launch) (X : Cx p s m args meth c cc nL RX11 G) (hH : HS G s μ H locs) (hRL : RmL R k k2) (hk : 6 + 1 ≤ k ∧ 129 ≤ k2) (h : f_X3_replay μ a = some x) (hls : ls.size = nL) (hroom : (rest.map fun v => v.category).sum ≤ 8) (hdg : decode cc pc = .ok (.invokevirtual 141, 3)) (hcs : cells + 0 ≤ R.cells ∧ slots + 0 ≤ R.slots) (kk : ∀ (H1 : Heap) (locs1 : List Loc), HS G s x H1 locs1 → W p l e R s m args below meth c H1 locs1 cells slots Q (F0 m (pc + 3) ls rest)) : W p l e R s m args below meth c H locs cells slots Q (F0 m pc ls (.ref a :: rest)) := by
  refine kV0 hH (rV (As := []) (rest := rest) X hH (t_X3_replay h) vc_3 (c_X3_replay l G μ a x h) (List.forall_mem_cons.mpr ⟨u_314, (List.forall_mem_cons.mpr ⟨u_315, (List.forall_mem_cons.mpr ⟨u_316, (List.forall_mem_cons.mpr ⟨u_22, (fun _ h9 => absurd h9 List.not_mem_nil)⟩)⟩)⟩)⟩) u_317 (rmo hRL (Nat.le_trans (by decide) hk.1) (Nat.le_trans (by decide) hk.2)) ddV_X3_replay rfl hls rfl hroom hdg hcs) kk
set_option maxHeartbeats 4000000 in
set_option maxRecDepth 100000 in
theorem w_X11_hall_57 {p : Program} {e : Env} {R : Room} {s : State} {m : MethodId} {args : Array Value} {below : List Frame} {meth : Method} {c : Code} {cells slots : Nat} {Q : State → Prop} {G : CG} (l : Launch) (X : Cx p s m args meth c cX11_hall 4 RX11 G) (hRL : RmL R 7 138) (hcs : cells ≤ R.cells ∧ slots ≤ R.slots) : ∀ (n : Nat) (v0 : Nat) (v3 : Int32) (μ : Mm) (x : Mm), lp_X11_hall_57 n v0 v3 μ = some x → (∀ (H : Heap) (locs : List Loc) (ls : Array Slot), HS G s x H locs → lv_has ls 4 [(0, .ref v0)] → W p l e R s m args below meth c H locs cells slots Q (F0 m 77 ls [])) → ∀ (H : Heap) (locs : List Loc) (ls : Array Slot), HS G s μ H locs → lv_has ls 4 [(0, .ref v0), (3, .int v3)] → W p l e R s m args below meth c H locs cells slots Q (F0 m 57 ls []) := by
  have hx := X.1
  have hb := X.2.1
  have hown := X.2.2.2.1
  have hts := X.2.2.2.2.1
  intro n
  induction n with
  | zero =>
    intro v0 v3 μ x h
    rw [lp_X11_hall_57] at h
    cases h
  | succ n ih =>
    intro v0 v3 μ x h k0 H locs ls hH hl
    rw [lp_X11_hall_57] at h
    refine lv_iload_n hx hb dX11_hall_57 rfl (lv_at hl 1 rfl) ?_
    refine lv_iconst (v := 3) hx hb dX11_hall_58 (by decide) ?_
    refine lv_icmp_ge (tgt := 77) hx hb dX11_hall_59 (by decide) (fun hc14 => ?_) (fun hc14 => ?_)
    · replace h := ift h hc14
      cases h
      exact k0 _ _ _ hH (lv_sub hl [0] rfl)
    · replace h := iff' h hc14
      refine lv_aload_n hx hb dX11_hall_62 rfl (lv_at hl 0 rfl) ?_
      obtain ⟨x15, hx15, h⟩ := bnd h
      refine gf_X11_25 X hH hx15 dX11_hall_63 ?_
      refine lv_iload_n hx hb dX11_hall_66 rfl (lv_at hl 1 rfl) ?_
      obtain ⟨x16, hx16, h⟩ := bnd h
      refine w_aP X hH hx16 (by decide) (k := 5) rfl dX11_hall_67 ?_
      obtain ⟨x17, hx17, h⟩ := bnd h
      refine iv_X11_102 l X hH hRL (by decide) hx17 hl.1 (Nat.le_of_ble_eq_true rfl) dX11_hall_68 hcs (fun H locs hH => ?_)
      refine lv_iinc (v := (v3 + 1)) (lv' := [(3, .int (v3 + 1)), (0, .ref v0)]) hx hb dX11_hall_71 hl (k := 1) rfl rfl (by decide) rfl (fun ls hl => ?_)
      refine lv_goto (tgt := 57) hx hb dX11_hall_74 (by decide) ?_
      exact ih _ _ _ _ h k0 _ _ _ hH (lv_sub hl [1, 0] rfl)
theorem t_X11_hall {μ : Mm} {a0 : Nat} {p1 : Int32} {x : Int32 × Mm} (h : f_X11_hall μ a0 p1 = some x) : tg μ a0 = 12 := by
  unfold f_X11_hall at h
  exact (gsn h).1
set_option maxHeartbeats 4000000 in
set_option maxRecDepth 100000 in
theorem c_X11_hall (l : Launch) (G : CG) (μ : Mm) (a0 : Nat) (p1 : Int32) (x : Int32 × Mm) (h : f_X11_hall μ a0 p1 = some x) : Met l yX11_hall (.code yX11_hall cX11_hall 4 (some .int) :: UW) (rmk 7 138 42 84) (PC G [.ref a0, .int p1] μ) (QI G x.1 x.2) 42 84 (fA G) := by
  refine Met.ofW (cc := cX11_hall) (maxL := 4) (ret := (some .int)) (by decide) rfl ?_
  intro p e s m args below meth c s₁ B hml hv
  obtain ⟨X, hH, hr, rfl, hnm⟩ := cx_in B hml hv
  have X : Cx p s m _ meth c cX11_hall 4 RX11 G := X
  have hx := X.1
  have hb := X.2.1
  have hown := X.2.2.2.1
  have hts := X.2.2.2.2.1
  have hRL : RmL (rmk 7 138 42 84) 7 138 := ⟨Nat.le_refl _, Nat.le_refl _⟩
  refine ls_in (Nat.le_of_ble_eq_true rfl) (fun ls hl => ?_)
  have hl : lv_has ls 4 [(0, .ref a0), (1, .int p1)] := hl
  unfold f_X11_hall at h
  obtain ⟨htg, h⟩ := gsn h
  refine lv_aload_n hx hb dX11_hall_0 rfl (lv_at hl 0 rfl) ?_
  refine lv_aload_n hx hb dX11_hall_1 rfl (lv_at hl 0 rfl) ?_
  obtain ⟨x1, hx1, h⟩ := bnd h
  refine gf_X11_15 X hH hx1 dX11_hall_2 ?_
  refine lv_iload_n hx hb dX11_hall_5 rfl (lv_at hl 1 rfl) ?_
  obtain ⟨x2, hx2, h⟩ := bnd h
  refine iv_X11_98 l X hH hRL (by decide) hx2 hl.1 (Nat.le_of_ble_eq_true rfl) dX11_hall_6 ⟨Nat.le_of_ble_eq_true rfl, Nat.le_of_ble_eq_true rfl⟩ (fun H locs hH => ?_)
  refine lv_istore_n (lv' := [(2, .int x2.1), (0, .ref a0), (1, .int p1)]) hx hb dX11_hall_9 rfl hl (by decide) rfl (fun ls hl => ?_)
  refine lv_iload_n hx hb dX11_hall_10 rfl (lv_at hl 0 rfl) ?_
  refine lv_if_eq (tgt := 16) hx hb dX11_hall_11 (by decide) (fun hc3 => ?_) (fun hc3 => ?_)
  · replace h := ift h hc3
    refine lv_aload_n hx hb dX11_hall_16 rfl (lv_at hl 1 rfl) ?_
    obtain ⟨x4, hx4, h⟩ := bnd h
    refine gf_X11_36 X hH hx4 dX11_hall_17 ?_
    refine lv_aload_n hx hb dX11_hall_20 rfl (lv_at hl 1 rfl) ?_
    obtain ⟨x5, hx5, h⟩ := bnd h
    refine gf_X11_15 X hH hx5 dX11_hall_21 ?_
    refine lv_iload_n hx hb dX11_hall_24 rfl (lv_at hl 2 rfl) ?_
    obtain ⟨x6, hx6, h⟩ := bnd h
    refine w_aP X hH hx6 (by decide) (k := 5) rfl dX11_hall_25 ?_
    obtain ⟨x7, hx7, h⟩ := bnd h
    refine iv_X11_133 l X hH hRL (by decide) hx7 hl.1 (Nat.le_of_ble_eq_true rfl) dX11_hall_26 ⟨Nat.le_of_ble_eq_true rfl, Nat.le_of_ble_eq_true rfl⟩ (fun H locs hH => ?_)
    refine lv_bipush (v := -9) hx hb dX11_hall_29 (by decide) ?_
    refine lv_icmp_eq (tgt := 37) hx hb dX11_hall_31 (by decide) (fun hc8 => ?_) (fun hc8 => ?_)
    · replace h := ift h hc8
      refine lv_aload_n hx hb dX11_hall_37 rfl (lv_at hl 1 rfl) ?_
      obtain ⟨x9, hx9, h⟩ := bnd h
      refine gf_X11_21 X hH hx9 dX11_hall_38 ?_
      refine lv_aload_n hx hb dX11_hall_41 rfl (lv_at hl 1 rfl) ?_
      obtain ⟨x10, hx10, h⟩ := bnd h
      refine gf_X11_36 X hH hx10 dX11_hall_42 ?_
      obtain ⟨x11, hx11, h⟩ := bnd h
      refine iv_X11_137 l X hH hRL (by decide) hx11 hl.1 (Nat.le_of_ble_eq_true rfl) dX11_hall_45 ⟨Nat.le_of_ble_eq_true rfl, Nat.le_of_ble_eq_true rfl⟩ (fun H locs hH => ?_)
      refine lv_aload_n hx hb dX11_hall_48 rfl (lv_at hl 1 rfl) ?_
      obtain ⟨x12, hx12, h⟩ := bnd h
      refine gf_X11_21 X hH hx12 dX11_hall_49 ?_
      obtain ⟨x13, hx13, h⟩ := bnd h
      refine iv_X11_141 l X hH hRL (by decide) hx13 hl.1 (Nat.le_of_ble_eq_true rfl) dX11_hall_52 ⟨Nat.le_of_ble_eq_true rfl, Nat.le_of_ble_eq_true rfl⟩ (fun H locs hH => ?_)
      refine lv_iconst (v := 0) hx hb dX11_hall_55 (by decide) ?_
      refine lv_istore_n (lv' := [(3, .int (0 : Int32)), (2, .int x2.1), (0, .ref a0), (1, .int p1)]) hx hb dX11_hall_56 rfl hl (by decide) rfl (fun ls hl => ?_)
      obtain ⟨x18, hx18, hhx18⟩ := bnd h
      clear h
      refine w_X11_hall_57 l X hRL ⟨Nat.le_of_ble_eq_true rfl, Nat.le_of_ble_eq_true rfl⟩ BIG a0 (0 : Int32) x13 x18 hx18 (fun H locs ls hH hl => ?_) _ _ _ hH (lv_sub hl [2, 0] rfl)
      · have h := hhx18
        clear hhx18
        refine lv_aload_n hx hb dX11_hall_77 rfl (lv_at hl 0 rfl) ?_
        obtain ⟨x19, hx19, h⟩ := bnd h
        refine gf_X11_21 X hH hx19 dX11_hall_78 ?_
        obtain ⟨x20, hx20, h⟩ := bnd h
        refine gf_X11_144 X hH hx20 dX11_hall_81 ?_
        exact eI X hH h hr dX11_hall_84 (Nat.le_of_ble_eq_true rfl) (Nat.le_of_ble_eq_true rfl)
    · replace h := iff' h hc8
      refine lv_bipush (v := -4) hx hb dX11_hall_34 (by decide) ?_
      exact eI X hH h hr dX11_hall_36 (Nat.le_of_ble_eq_true rfl) (Nat.le_of_ble_eq_true rfl)
  · replace h := iff' h hc3
    refine lv_iload_n hx hb dX11_hall_14 rfl (lv_at hl 0 rfl) ?_
    exact eI X hH h hr dX11_hall_15 (Nat.le_of_ble_eq_true rfl) (Nat.le_of_ble_eq_true rfl)
set_option maxHeartbeats 1000000 in
theorem iv_X11_147 {p : Program} {e : Env} {R : Room} {s : State} {m : MethodId} {args : Array Value} {below : List Frame} {meth : Method} {c : Code} {H : Heap} {locs : List Loc} {cells slots : Nat} {Q : State → Prop} {cc : ByteArray} {pc : Nat} {ls : Array Slot} {rest : List Value} {nL : Nat} {G : CG} {μ : Mm} {a : Nat} {q0 : Int32} {x : Int32} {k k2 : Nat} (l : Launch) (X : Cx p s m args meth c cc nL RX11 G) (hH : HS G s μ H locs) (hRL : RmL R k k2) (hk : 1 + 1 ≤ k ∧ 21 ≤ k2) (h : f_X3_hasGuild μ a q0 = some x) (hls : ls.size = nL) (hroom : (rest.map fun v => v.category).sum ≤ 8) (hdg : decode cc pc = .ok (.invokevirtual 147, 3)) (hcs : cells + 0 ≤ R.cells ∧ slots + 0 ≤ R.slots) (kk : ∀ (H1 : Heap) (locs1 : List Loc), HS G s μ H1 locs1 → W p l e R s m args below meth c H1 locs1 cells slots Q (F0 m (pc + 3) ls (.int x :: rest))) : W p l e R s m args below meth c H locs cells slots Q (F0 m pc ls (.int q0 :: .ref a :: rest)) := by
  refine kI hH (rV (As := [.int q0]) (rest := rest) X hH (t_X3_hasGuild h) vc_3 (c_X3_hasGuild l G μ a q0 x h) (List.forall_mem_cons.mpr ⟨u_626, (List.forall_mem_cons.mpr ⟨u_323, (List.forall_mem_cons.mpr ⟨u_324, (List.forall_mem_cons.mpr ⟨u_22, (fun _ h9 => absurd h9 List.not_mem_nil)⟩)⟩)⟩)⟩) u_325 (rmo hRL (Nat.le_trans (by decide) hk.1) (Nat.le_trans (by decide) hk.2)) ddV_X3_hasGuild rfl hls rfl hroom hdg hcs) kk
set_option maxHeartbeats 1000000 in
theorem iv_X11_151 {p : Program} {e : Env} {R : Room} {s : State} {m : MethodId} {args : Array Value} {below : List Frame} {meth : Method} {c : Code} {H : Heap} {locs : List Loc} {cells slots : Nat} {Q : State → Prop} {cc : ByteArray} {pc : Nat} {ls : Array Slot} {rest : List Value} {nL : Nat} {G : CG} {μ : Mm} {a : Nat} {q0 : Int32} {q1 : Int32} {x : Int32} {k k2 : Nat} (l : Launch) (X : Cx p s m args meth c cc nL RX11 G) (hH : HS G s μ H locs) (hRL : RmL R k k2) (hk : 5 + 1 ≤ k ∧ 104 ≤ k2) (h : f_X3_detail μ a q0 q1 = some x) (hls : ls.size = nL) (hroom : (rest.map fun v => v.category).sum ≤ 8) (hdg : decode cc pc = .ok (.invokevirtual 151, 3)) (hcs : cells + 0 ≤ R.cells ∧ slots + 0 ≤ R.slots) (kk : ∀ (H1 : Heap) (locs1 : List Loc), HS G s μ H1 locs1 → W p l e R s m args below meth c H1 locs1 cells slots Q (F0 m (pc + 3) ls (.int x :: rest))) : W p l e R s m args below meth c H locs cells slots Q (F0 m pc ls (.int q1 :: .int q0 :: .ref a :: rest)) := by
  refine kI hH (rV (As := [.int q0, .int q1]) (rest := rest) X hH (t_X3_detail h) vc_3 (c_X3_detail l G μ a q0 q1 x h) (List.forall_mem_cons.mpr ⟨u_425, (List.forall_mem_cons.mpr ⟨u_426, (List.forall_mem_cons.mpr ⟨u_427, (List.forall_mem_cons.mpr ⟨u_22, (fun _ h9 => absurd h9 List.not_mem_nil)⟩)⟩)⟩)⟩) u_428 (rmo hRL (Nat.le_trans (by decide) hk.1) (Nat.le_trans (by decide) hk.2)) ddV_X3_detail rfl hls rfl hroom hdg hcs) kk
theorem t_X11_guild {μ : Mm} {a0 : Nat} {p1 : Int32} {p2 : Int32} {x : Int32 × Mm} (h : f_X11_guild μ a0 p1 p2 = some x) : tg μ a0 = 12 := by
  unfold f_X11_guild at h
  exact (gsn h).1
set_option maxHeartbeats 4000000 in
set_option maxRecDepth 100000 in
theorem c_X11_guild (l : Launch) (G : CG) (μ : Mm) (a0 : Nat) (p1 : Int32) (p2 : Int32) (x : Int32 × Mm) (h : f_X11_guild μ a0 p1 p2 = some x) : Met l yX11_guild (.code yX11_guild cX11_guild 3 (some .int) :: UW) (rmk 6 104 0 0) (PC G [.ref a0, .int p1, .int p2] μ) (QI G x.1 x.2) 0 0 (fA G) := by
  refine Met.ofW (cc := cX11_guild) (maxL := 3) (ret := (some .int)) (by decide) rfl ?_
  intro p e s m args below meth c s₁ B hml hv
  obtain ⟨X, hH, hr, rfl, hnm⟩ := cx_in B hml hv
  have X : Cx p s m _ meth c cX11_guild 3 RX11 G := X
  have hx := X.1
  have hb := X.2.1
  have hown := X.2.2.2.1
  have hts := X.2.2.2.2.1
  have hRL : RmL (rmk 6 104 0 0) 6 104 := ⟨Nat.le_refl _, Nat.le_refl _⟩
  have hcs : 0 ≤ (rmk 0 0 0 0).cells ∧ 0 ≤ (rmk 0 0 0 0).slots := ⟨Nat.zero_le _, Nat.zero_le _⟩
  refine ls_in (Nat.le_of_ble_eq_true rfl) (fun ls hl => ?_)
  have hl : lv_has ls 3 [(0, .ref a0), (1, .int p1), (2, .int p2)] := hl
  unfold f_X11_guild at h
  obtain ⟨htg, h⟩ := gsn h
  refine lv_aload_n hx hb dX11_guild_0 rfl (lv_at hl 0 rfl) ?_
  obtain ⟨x1, hx1, h⟩ := bnd h
  refine gf_X11_21 X hH hx1 dX11_guild_1 ?_
  refine lv_iload_n hx hb dX11_guild_4 rfl (lv_at hl 1 rfl) ?_
  obtain ⟨x2, hx2, h⟩ := bnd h
  refine iv_X11_147 l X hH hRL (by decide) hx2 hl.1 (Nat.le_of_ble_eq_true rfl) dX11_guild_5 hcs (fun H locs hH => ?_)
  refine lv_if_eq (tgt := 20) hx hb dX11_guild_8 (by decide) (fun hc3 => ?_) (fun hc3 => ?_)
  · replace h := ift h hc3
    refine lv_iconst (v := -1) hx hb dX11_guild_20 (by decide) ?_
    exact eI X hH h hr dX11_guild_21 (Nat.le_of_ble_eq_true rfl) (Nat.le_of_ble_eq_true rfl)
  · replace h := iff' h hc3
    refine lv_iload_n hx hb dX11_guild_11 rfl (lv_at hl 2 rfl) ?_
    refine lv_if_lt (tgt := 20) hx hb dX11_guild_12 (by decide) (fun hc4 => ?_) (fun hc4 => ?_)
    · replace h := ift h hc4
      refine lv_iconst (v := -1) hx hb dX11_guild_20 (by decide) ?_
      exact eI X hH h hr dX11_guild_21 (Nat.le_of_ble_eq_true rfl) (Nat.le_of_ble_eq_true rfl)
    · replace h := iff' h hc4
      refine lv_iload_n hx hb dX11_guild_15 rfl (lv_at hl 2 rfl) ?_
      refine lv_iconst (v := 4) hx hb dX11_guild_16 (by decide) ?_
      refine lv_icmp_le (tgt := 22) hx hb dX11_guild_17 (by decide) (fun hc5 => ?_) (fun hc5 => ?_)
      · replace h := ift h hc5
        refine lv_aload_n hx hb dX11_guild_22 rfl (lv_at hl 0 rfl) ?_
        refine lv_aload_n hx hb dX11_guild_23 rfl (lv_at hl 0 rfl) ?_
        obtain ⟨x6, hx6, h⟩ := bnd h
        refine gf_X11_21 X hH hx6 dX11_guild_24 ?_
        refine lv_iload_n hx hb dX11_guild_27 rfl (lv_at hl 1 rfl) ?_
        refine lv_iload_n hx hb dX11_guild_28 rfl (lv_at hl 2 rfl) ?_
        obtain ⟨x7, hx7, h⟩ := bnd h
        refine iv_X11_151 l X hH hRL (by decide) hx7 hl.1 (Nat.le_of_ble_eq_true rfl) dX11_guild_29 hcs (fun H locs hH => ?_)
        obtain ⟨x8, hx8, h⟩ := bnd h
        refine iv_X11_91 l X hH hRL (by decide) hx8 hl.1 (Nat.le_of_ble_eq_true rfl) dX11_guild_32 hcs (fun H locs hH => ?_)
        exact eI X hH h hr dX11_guild_35 (Nat.le_of_ble_eq_true rfl) (Nat.le_of_ble_eq_true rfl)
      · replace h := iff' h hc5
        refine lv_iconst (v := -1) hx hb dX11_guild_20 (by decide) ?_
        exact eI X hH h hr dX11_guild_21 (Nat.le_of_ble_eq_true rfl) (Nat.le_of_ble_eq_true rfl)
set_option maxHeartbeats 1000000 in
theorem iv_X11_195 {p : Program} {e : Env} {R : Room} {s : State} {m : MethodId} {args : Array Value} {below : List Frame} {meth : Method} {c : Code} {H : Heap} {locs : List Loc} {cells slots : Nat} {Q : State → Prop} {cc : ByteArray} {pc : Nat} {ls : Array Slot} {rest : List Value} {nL : Nat} {G : CG} {μ : Mm} {a : Nat} {q0 : Int32} {x : Int32} {k k2 : Nat} (l : Launch) (X : Cx p s m args meth c cc nL RX11 G) (hH : HS G s μ H locs) (hRL : RmL R k k2) (hk : 1 + 1 ≤ k ∧ 21 ≤ k2) (h : f_X3_hasRoomFor μ a q0 = some x) (hls : ls.size = nL) (hroom : (rest.map fun v => v.category).sum ≤ 8) (hdg : decode cc pc = .ok (.invokevirtual 195, 3)) (hcs : cells + 0 ≤ R.cells ∧ slots + 0 ≤ R.slots) (kk : ∀ (H1 : Heap) (locs1 : List Loc), HS G s μ H1 locs1 → W p l e R s m args below meth c H1 locs1 cells slots Q (F0 m (pc + 3) ls (.int x :: rest))) : W p l e R s m args below meth c H locs cells slots Q (F0 m pc ls (.int q0 :: .ref a :: rest)) := by
  refine kI hH (rV (As := [.int q0]) (rest := rest) X hH (t_X3_hasRoomFor h) vc_3 (c_X3_hasRoomFor l G μ a q0 x h) (List.forall_mem_cons.mpr ⟨u_601, (List.forall_mem_cons.mpr ⟨u_602, (List.forall_mem_cons.mpr ⟨u_603, (List.forall_mem_cons.mpr ⟨u_22, (fun _ h9 => absurd h9 List.not_mem_nil)⟩)⟩)⟩)⟩) u_604 (rmo hRL (Nat.le_trans (by decide) hk.1) (Nat.le_trans (by decide) hk.2)) ddV_X3_hasRoomFor rfl hls rfl hroom hdg hcs) kk
set_option maxHeartbeats 1000000 in
theorem iv_X11_198 {p : Program} {e : Env} {R : Room} {s : State} {m : MethodId} {args : Array Value} {below : List Frame} {meth : Method} {c : Code} {H : Heap} {locs : List Loc} {cells slots : Nat} {Q : State → Prop} {cc : ByteArray} {pc : Nat} {ls : Array Slot} {rest : List Value} {nL : Nat} {G : CG} {μ : Mm} {a : Nat} {q0 : Int32} {x : Mm} {k k2 : Nat} (l : Launch) (X : Cx p s m args meth c cc nL RX11 G) (hH : HS G s μ H locs) (hRL : RmL R k k2) (hk : 6 + 1 ≤ k ∧ 129 ≤ k2) (h : f_X3_addStep μ a q0 = some x) (hls : ls.size = nL) (hroom : (rest.map fun v => v.category).sum ≤ 8) (hdg : decode cc pc = .ok (.invokevirtual 198, 3)) (hcs : cells + 0 ≤ R.cells ∧ slots + 0 ≤ R.slots) (kk : ∀ (H1 : Heap) (locs1 : List Loc), HS G s x H1 locs1 → W p l e R s m args below meth c H1 locs1 cells slots Q (F0 m (pc + 3) ls rest)) : W p l e R s m args below meth c H locs cells slots Q (F0 m pc ls (.int q0 :: .ref a :: rest)) := by
  refine kV0 hH (rV (As := [.int q0]) (rest := rest) X hH (t_X3_addStep h) vc_3 (c_X3_addStep l G μ a q0 x h) (List.forall_mem_cons.mpr ⟨u_605, (List.forall_mem_cons.mpr ⟨u_606, (List.forall_mem_cons.mpr ⟨u_607, (List.forall_mem_cons.mpr ⟨u_22, (fun _ h9 => absurd h9 List.not_mem_nil)⟩)⟩)⟩)⟩) u_608 (rmo hRL (Nat.le_trans (by decide) hk.1) (Nat.le_trans (by decide) hk.2)) ddV_X3_addStep rfl hls rfl hroom hdg hcs) kk
theorem t_X11_walk {μ : Mm} {a0 : Nat} {p1 : Int32} {x : Int32 × Mm} (h : f_X11_walk μ a0 p1 = some x) : tg μ a0 = 12 := by
  unfold f_X11_walk at h
  exact (gsn h).1
set_option maxHeartbeats 4000000 in
set_option maxRecDepth 100000 in
theorem c_X11_walk (l : Launch) (G : CG) (μ : Mm) (a0 : Nat) (p1 : Int32) (x : Int32 × Mm) (h : f_X11_walk μ a0 p1 = some x) : Met l yX11_walk (.code yX11_walk cX11_walk 2 (some .int) :: UW) (rmk 7 129 0 0) (PC G [.ref a0, .int p1] μ) (QI G x.1 x.2) 0 0 (fA G) := by
  refine Met.ofW (cc := cX11_walk) (maxL := 2) (ret := (some .int)) (by decide) rfl ?_
  intro p e s m args below meth c s₁ B hml hv
  obtain ⟨X, hH, hr, rfl, hnm⟩ := cx_in B hml hv
  have X : Cx p s m _ meth c cX11_walk 2 RX11 G := X
  have hx := X.1
  have hb := X.2.1
  have hown := X.2.2.2.1
  have hts := X.2.2.2.2.1
  have hRL : RmL (rmk 7 129 0 0) 7 129 := ⟨Nat.le_refl _, Nat.le_refl _⟩
  have hcs : 0 ≤ (rmk 0 0 0 0).cells ∧ 0 ≤ (rmk 0 0 0 0).slots := ⟨Nat.zero_le _, Nat.zero_le _⟩
  refine ls_in (Nat.le_of_ble_eq_true rfl) (fun ls hl => ?_)
  have hl : lv_has ls 2 [(0, .ref a0), (1, .int p1)] := hl
  unfold f_X11_walk at h
  obtain ⟨htg, h⟩ := gsn h
  refine lv_aload_n hx hb dX11_walk_0 rfl (lv_at hl 0 rfl) ?_
  obtain ⟨x1, hx1, h⟩ := bnd h
  refine gf_X11_21 X hH hx1 dX11_walk_1 ?_
  refine lv_iload_n hx hb dX11_walk_4 rfl (lv_at hl 1 rfl) ?_
  obtain ⟨x2, hx2, h⟩ := bnd h
  refine iv_X11_147 l X hH hRL (by decide) hx2 hl.1 (Nat.le_of_ble_eq_true rfl) dX11_walk_5 hcs (fun H locs hH => ?_)
  refine lv_if_ne (tgt := 13) hx hb dX11_walk_8 (by decide) (fun hc3 => ?_) (fun hc3 => ?_)
  · replace h := iff' h hc3
    refine lv_aload_n hx hb dX11_walk_13 rfl (lv_at hl 0 rfl) ?_
    obtain ⟨x4, hx4, h⟩ := bnd h
    refine gf_X11_21 X hH hx4 dX11_walk_14 ?_
    refine lv_iconst (v := 1) hx hb dX11_walk_17 (by decide) ?_
    obtain ⟨x5, hx5, h⟩ := bnd h
    refine iv_X11_195 l X hH hRL (by decide) hx5 hl.1 (Nat.le_of_ble_eq_true rfl) dX11_walk_18 hcs (fun H locs hH => ?_)
    refine lv_if_ne (tgt := 27) hx hb dX11_walk_21 (by decide) (fun hc6 => ?_) (fun hc6 => ?_)
    · replace h := iff' h hc6
      refine lv_aload_n hx hb dX11_walk_27 rfl (lv_at hl 0 rfl) ?_
      obtain ⟨x7, hx7, h⟩ := bnd h
      refine gf_X11_21 X hH hx7 dX11_walk_28 ?_
      refine lv_iload_n hx hb dX11_walk_31 rfl (lv_at hl 1 rfl) ?_
      obtain ⟨x8, hx8, h⟩ := bnd h
      refine iv_X11_198 l X hH hRL (by decide) hx8 hl.1 (Nat.le_of_ble_eq_true rfl) dX11_walk_32 hcs (fun H locs hH => ?_)
      refine lv_aload_n hx hb dX11_walk_35 rfl (lv_at hl 0 rfl) ?_
      obtain ⟨x9, hx9, h⟩ := bnd h
      refine gf_X11_21 X hH hx9 dX11_walk_36 ?_
      obtain ⟨x10, hx10, h⟩ := bnd h
      refine gf_X11_201 X hH hx10 dX11_walk_39 ?_
      exact eI X hH h hr dX11_walk_42 (Nat.le_of_ble_eq_true rfl) (Nat.le_of_ble_eq_true rfl)
    · replace h := ift h hc6
      refine lv_bipush (v := -2) hx hb dX11_walk_24 (by decide) ?_
      exact eI X hH h hr dX11_walk_26 (Nat.le_of_ble_eq_true rfl) (Nat.le_of_ble_eq_true rfl)
  · replace h := ift h hc3
    refine lv_iconst (v := -1) hx hb dX11_walk_11 (by decide) ?_
    exact eI X hH h hr dX11_walk_12 (Nat.le_of_ble_eq_true rfl) (Nat.le_of_ble_eq_true rfl)
set_option maxHeartbeats 1000000 in
theorem iv_X11_204 {p : Program} {e : Env} {R : Room} {s : State} {m : MethodId} {args : Array Value} {below : List Frame} {meth : Method} {c : Code} {H : Heap} {locs : List Loc} {cells slots : Nat} {Q : State → Prop} {cc : ByteArray} {pc : Nat} {ls : Array Slot} {rest : List Value} {nL : Nat} {G : CG} {μ : Mm} {a : Nat}  {x : Int32} {k k2 : Nat} (l : Launch) (X : Cx p s m args meth c cc nL RX11 G) (hH : HS G s μ H locs) (hRL : RmL R k k2) (hk : 1 + 1 ≤ k ∧ 20 ≤ k2) (h : f_X3_isEmpty μ a = some x) (hls : ls.size = nL) (hroom : (rest.map fun v => v.category).sum ≤ 8) (hdg : decode cc pc = .ok (.invokevirtual 204, 3)) (hcs : cells + 0 ≤ R.cells ∧ slots + 0 ≤ R.slots) (kk : ∀ (H1 : Heap) (locs1 : List Loc), HS G s μ H1 locs1 → W p l e R s m args below meth c H1 locs1 cells slots Q (F0 m (pc + 3) ls (.int x :: rest))) : W p l e R s m args below meth c H locs cells slots Q (F0 m pc ls (.ref a :: rest)) := by
  refine kI hH (rV (As := []) (rest := rest) X hH (t_X3_isEmpty h) vc_3 (c_X3_isEmpty l G μ a x h) (List.forall_mem_cons.mpr ⟨u_394, (List.forall_mem_cons.mpr ⟨u_395, (List.forall_mem_cons.mpr ⟨u_396, (List.forall_mem_cons.mpr ⟨u_22, (fun _ h9 => absurd h9 List.not_mem_nil)⟩)⟩)⟩)⟩) u_397 (rmo hRL (Nat.le_trans (by decide) hk.1) (Nat.le_trans (by decide) hk.2)) ddV_X3_isEmpty rfl hls rfl hroom hdg hcs) kk
theorem t_X11_floor {μ : Mm} {a0 : Nat} {p1 : Int32} {x : Int32 × Mm} (h : f_X11_floor μ a0 p1 = some x) : tg μ a0 = 12 := by
  unfold f_X11_floor at h
  exact (gsn h).1
set_option maxHeartbeats 4000000 in
set_option maxRecDepth 100000 in
theorem c_X11_floor (l : Launch) (G : CG) (μ : Mm) (a0 : Nat) (p1 : Int32) (x : Int32 × Mm) (h : f_X11_floor μ a0 p1 = some x) : Met l yX11_floor (.code yX11_floor cX11_floor 3 (some .int) :: UW) (rmk 7 129 0 0) (PC G [.ref a0, .int p1] μ) (QI G x.1 x.2) 0 0 (fA G) := by
  refine Met.ofW (cc := cX11_floor) (maxL := 3) (ret := (some .int)) (by decide) rfl ?_
  intro p e s m args below meth c s₁ B hml hv
  obtain ⟨X, hH, hr, rfl, hnm⟩ := cx_in B hml hv
  have X : Cx p s m _ meth c cX11_floor 3 RX11 G := X
  have hx := X.1
  have hb := X.2.1
  have hown := X.2.2.2.1
  have hts := X.2.2.2.2.1
  have hRL : RmL (rmk 7 129 0 0) 7 129 := ⟨Nat.le_refl _, Nat.le_refl _⟩
  have hcs : 0 ≤ (rmk 0 0 0 0).cells ∧ 0 ≤ (rmk 0 0 0 0).slots := ⟨Nat.zero_le _, Nat.zero_le _⟩
  refine ls_in (Nat.le_of_ble_eq_true rfl) (fun ls hl => ?_)
  have hl : lv_has ls 3 [(0, .ref a0), (1, .int p1)] := hl
  unfold f_X11_floor at h
  obtain ⟨htg, h⟩ := gsn h
  refine lv_iload_n hx hb dX11_floor_0 rfl (lv_at hl 1 rfl) ?_
  refine lv_if_lt (tgt := 9) hx hb dX11_floor_1 (by decide) (fun hc1 => ?_) (fun hc1 => ?_)
  · replace h := ift h hc1
    refine lv_iconst (v := -1) hx hb dX11_floor_9 (by decide) ?_
    exact eI X hH h hr dX11_floor_10 (Nat.le_of_ble_eq_true rfl) (Nat.le_of_ble_eq_true rfl)
  · replace h := iff' h hc1
    refine lv_iload_n hx hb dX11_floor_4 rfl (lv_at hl 1 rfl) ?_
    refine lv_iconst (v := 2) hx hb dX11_floor_5 (by decide) ?_
    refine lv_icmp_le (tgt := 11) hx hb dX11_floor_6 (by decide) (fun hc2 => ?_) (fun hc2 => ?_)
    · replace h := ift h hc2
      refine lv_aload_n hx hb dX11_floor_11 rfl (lv_at hl 0 rfl) ?_
      obtain ⟨x3, hx3, h⟩ := bnd h
      refine gf_X11_21 X hH hx3 dX11_floor_12 ?_
      obtain ⟨x4, hx4, h⟩ := bnd h
      refine iv_X11_204 l X hH hRL (by decide) hx4 hl.1 (Nat.le_of_ble_eq_true rfl) dX11_floor_15 hcs (fun H locs hH => ?_)
      refine lv_if_ne (tgt := 32) hx hb dX11_floor_18 (by decide) (fun hc5 => ?_) (fun hc5 => ?_)
      · replace h := iff' h hc5
        refine lv_bipush (v := -4) hx hb dX11_floor_32 (by decide) ?_
        exact eI X hH h hr dX11_floor_34 (Nat.le_of_ble_eq_true rfl) (Nat.le_of_ble_eq_true rfl)
      · replace h := ift h hc5
        refine lv_aload_n hx hb dX11_floor_21 rfl (lv_at hl 0 rfl) ?_
        obtain ⟨x6, hx6, h⟩ := bnd h
        refine gf_X11_21 X hH hx6 dX11_floor_22 ?_
        obtain ⟨x7, hx7, h⟩ := bnd h
        refine gf_X11_207 X hH hx7 dX11_floor_25 ?_
        refine lv_iload_n hx hb dX11_floor_28 rfl (lv_at hl 1 rfl) ?_
        refine lv_icmp_ne (tgt := 35) hx hb dX11_floor_29 (by decide) (fun hc8 => ?_) (fun hc8 => ?_)
        · replace h := iff' h hc8
          refine lv_aload_n hx hb dX11_floor_35 rfl (lv_at hl 0 rfl) ?_
          obtain ⟨x9, hx9, h⟩ := bnd h
          refine gf_X11_21 X hH hx9 dX11_floor_36 ?_
          refine lv_iconst (v := 1) hx hb dX11_floor_39 (by decide) ?_
          obtain ⟨x10, hx10, h⟩ := bnd h
          refine iv_X11_195 l X hH hRL (by decide) hx10 hl.1 (Nat.le_of_ble_eq_true rfl) dX11_floor_40 hcs (fun H locs hH => ?_)
          refine lv_if_ne (tgt := 49) hx hb dX11_floor_43 (by decide) (fun hc11 => ?_) (fun hc11 => ?_)
          · replace h := iff' h hc11
            refine lv_aload_n hx hb dX11_floor_49 rfl (lv_at hl 0 rfl) ?_
            obtain ⟨x12, hx12, h⟩ := bnd h
            refine gf_X11_21 X hH hx12 dX11_floor_50 ?_
            obtain ⟨x13, hx13, h⟩ := bnd h
            refine gf_X11_207 X hH hx13 dX11_floor_53 ?_
            refine lv_istore_n (lv' := [(2, .int x13), (0, .ref a0), (1, .int p1)]) hx hb dX11_floor_56 rfl hl (by decide) rfl (fun ls hl => ?_)
            refine lv_aload_n hx hb dX11_floor_57 rfl (lv_at hl 1 rfl) ?_
            obtain ⟨x14, hx14, h⟩ := bnd h
            refine gf_X11_21 X hH hx14 dX11_floor_58 ?_
            refine lv_bipush (v := 6) hx hb dX11_floor_61 (by decide) ?_
            refine lv_iload_n hx hb dX11_floor_63 rfl (lv_at hl 2 rfl) ?_
            refine lv_iadd hx hb dX11_floor_64 ?_
            obtain ⟨x15, hx15, h⟩ := bnd h
            refine iv_X11_198 l X hH hRL (by decide) hx15 hl.1 (Nat.le_of_ble_eq_true rfl) dX11_floor_65 hcs (fun H locs hH => ?_)
            refine lv_iload_n hx hb dX11_floor_68 rfl (lv_at hl 0 rfl) ?_
            exact eI X hH h hr dX11_floor_69 (Nat.le_of_ble_eq_true rfl) (Nat.le_of_ble_eq_true rfl)
          · replace h := ift h hc11
            refine lv_bipush (v := -2) hx hb dX11_floor_46 (by decide) ?_
            exact eI X hH h hr dX11_floor_48 (Nat.le_of_ble_eq_true rfl) (Nat.le_of_ble_eq_true rfl)
        · replace h := ift h hc8
          refine lv_bipush (v := -4) hx hb dX11_floor_32 (by decide) ?_
          exact eI X hH h hr dX11_floor_34 (Nat.le_of_ble_eq_true rfl) (Nat.le_of_ble_eq_true rfl)
    · replace h := iff' h hc2
      refine lv_iconst (v := -1) hx hb dX11_floor_9 (by decide) ?_
      exact eI X hH h hr dX11_floor_10 (Nat.le_of_ble_eq_true rfl) (Nat.le_of_ble_eq_true rfl)
theorem t_X11_undo {μ : Mm} {a0 : Nat} {p1 : Int32} {x : Int32 × Mm} (h : f_X11_undo μ a0 p1 = some x) : tg μ a0 = 12 := by
  unfold f_X11_undo at h
  exact (gsn h).1
set_option maxHeartbeats 4000000 in
set_option maxRecDepth 100000 in
theorem c_X11_undo (l : Launch) (G : CG) (μ : Mm) (a0 : Nat) (p1 : Int32) (x : Int32 × Mm) (h : f_X11_undo μ a0 p1 = some x) : Met l yX11_undo (.code yX11_undo cX11_undo 3 (some .int) :: UW) (rmk 7 129 0 0) (PC G [.ref a0, .int p1] μ) (QI G x.1 x.2) 0 0 (fA G) := by
  refine Met.ofW (cc := cX11_undo) (maxL := 3) (ret := (some .int)) (by decide) rfl ?_
  intro p e s m args below meth c s₁ B hml hv
  obtain ⟨X, hH, hr, rfl, hnm⟩ := cx_in B hml hv
  have X : Cx p s m _ meth c cX11_undo 3 RX11 G := X
  have hx := X.1
  have hb := X.2.1
  have hown := X.2.2.2.1
  have hts := X.2.2.2.2.1
  have hRL : RmL (rmk 7 129 0 0) 7 129 := ⟨Nat.le_refl _, Nat.le_refl _⟩
  have hcs : 0 ≤ (rmk 0 0 0 0).cells ∧ 0 ≤ (rmk 0 0 0 0).slots := ⟨Nat.zero_le _, Nat.zero_le _⟩
  refine ls_in (Nat.le_of_ble_eq_true rfl) (fun ls hl => ?_)
  have hl : lv_has ls 3 [(0, .ref a0), (1, .int p1)] := hl
  unfold f_X11_undo at h
  obtain ⟨htg, h⟩ := gsn h
  refine lv_iload_n hx hb dX11_undo_0 rfl (lv_at hl 1 rfl) ?_
  refine lv_if_lt (tgt := 18) hx hb dX11_undo_1 (by decide) (fun hc1 => ?_) (fun hc1 => ?_)
  · replace h := ift h hc1
    refine lv_iconst (v := -1) hx hb dX11_undo_18 (by decide) ?_
    exact eI X hH h hr dX11_undo_19 (Nat.le_of_ble_eq_true rfl) (Nat.le_of_ble_eq_true rfl)
  · replace h := iff' h hc1
    refine lv_iload_n hx hb dX11_undo_4 rfl (lv_at hl 1 rfl) ?_
    refine lv_aload_n hx hb dX11_undo_5 rfl (lv_at hl 0 rfl) ?_
    obtain ⟨x2, hx2, h⟩ := bnd h
    refine gf_X11_21 X hH hx2 dX11_undo_6 ?_
    obtain ⟨x3, hx3, h⟩ := bnd h
    refine gf_X11_187 X hH hx3 dX11_undo_9 ?_
    obtain ⟨x4, hx4, h⟩ := bnd h
    refine gf_X11_126 X hH hx4 dX11_undo_12 ?_
    refine lv_icmp_le (tgt := 20) hx hb dX11_undo_15 (by decide) (fun hc5 => ?_) (fun hc5 => ?_)
    · replace h := ift h hc5
      refine lv_aload_n hx hb dX11_undo_20 rfl (lv_at hl 0 rfl) ?_
      obtain ⟨x6, hx6, h⟩ := bnd h
      refine gf_X11_21 X hH hx6 dX11_undo_21 ?_
      obtain ⟨x7, hx7, h⟩ := bnd h
      refine gf_X11_187 X hH hx7 dX11_undo_24 ?_
      obtain ⟨x8, hx8, h⟩ := bnd h
      refine gf_X11_126 X hH hx8 dX11_undo_27 ?_
      refine lv_iload_n hx hb dX11_undo_30 rfl (lv_at hl 1 rfl) ?_
      refine lv_isub hx hb dX11_undo_31 ?_
      refine lv_istore_n (lv' := [(2, .int (x8 - p1)), (0, .ref a0), (1, .int p1)]) hx hb dX11_undo_32 rfl hl (by decide) rfl (fun ls hl => ?_)
      refine lv_aload_n hx hb dX11_undo_33 rfl (lv_at hl 1 rfl) ?_
      obtain ⟨x9, hx9, h⟩ := bnd h
      refine gf_X11_21 X hH hx9 dX11_undo_34 ?_
      obtain ⟨x10, hx10, h⟩ := bnd h
      refine gf_X11_187 X hH hx10 dX11_undo_37 ?_
      refine lv_iload_n hx hb dX11_undo_40 rfl (lv_at hl 2 rfl) ?_
      obtain ⟨x11, hx11, h⟩ := bnd h
      refine pf_X11_126 X hH hx11 dX11_undo_41 (fun H locs hH => ?_)
      refine lv_aload_n hx hb dX11_undo_44 rfl (lv_at hl 1 rfl) ?_
      obtain ⟨x12, hx12, h⟩ := bnd h
      refine gf_X11_21 X hH hx12 dX11_undo_45 ?_
      obtain ⟨x13, hx13, h⟩ := bnd h
      refine iv_X11_141 l X hH hRL (by decide) hx13 hl.1 (Nat.le_of_ble_eq_true rfl) dX11_undo_48 hcs (fun H locs hH => ?_)
      refine lv_iload_n hx hb dX11_undo_51 rfl (lv_at hl 0 rfl) ?_
      exact eI X hH h hr dX11_undo_52 (Nat.le_of_ble_eq_true rfl) (Nat.le_of_ble_eq_true rfl)
    · replace h := iff' h hc5
      refine lv_iconst (v := -1) hx hb dX11_undo_18 (by decide) ?_
      exact eI X hH h hr dX11_undo_19 (Nat.le_of_ble_eq_true rfl) (Nat.le_of_ble_eq_true rfl)
set_option maxHeartbeats 1000000 in
theorem iv_X11_210 {p : Program} {e : Env} {R : Room} {s : State} {m : MethodId} {args : Array Value} {below : List Frame} {meth : Method} {c : Code} {H : Heap} {locs : List Loc} {cells slots : Nat} {Q : State → Prop} {cc : ByteArray} {pc : Nat} {ls : Array Slot} {rest : List Value} {nL : Nat} {G : CG} {μ : Mm} {a : Nat} {q0 : Nat} {x : Mm} {k k2 : Nat} (l : Launch) (X : Cx p s m args meth c cc nL RX11 G) (hH : HS G s μ H locs) (hRL : RmL R k k2) (hk : 1 + 1 ≤ k ∧ 22 ≤ k2) (h : f_X3_tellFeet μ a q0 = some x) (hls : ls.size = nL) (hroom : (rest.map fun v => v.category).sum ≤ 8) (hdg : decode cc pc = .ok (.invokevirtual 210, 3)) (hcs : cells + 0 ≤ R.cells ∧ slots + 0 ≤ R.slots) (kk : ∀ (H1 : Heap) (locs1 : List Loc), HS G s x H1 locs1 → W p l e R s m args below meth c H1 locs1 cells slots Q (F0 m (pc + 3) ls rest)) : W p l e R s m args below meth c H locs cells slots Q (F0 m pc ls (.ref q0 :: .ref a :: rest)) := by
  refine kV0 hH (rV (As := [.ref q0]) (rest := rest) X hH (t_X3_tellFeet h) vc_3 (c_X3_tellFeet l G μ a q0 x h) (List.forall_mem_cons.mpr ⟨u_398, (List.forall_mem_cons.mpr ⟨u_399, (List.forall_mem_cons.mpr ⟨u_400, (List.forall_mem_cons.mpr ⟨u_22, (fun _ h9 => absurd h9 List.not_mem_nil)⟩)⟩)⟩)⟩) u_401 (rmo hRL (Nat.le_trans (by decide) hk.1) (Nat.le_trans (by decide) hk.2)) ddV_X3_tellFeet rfl hls rfl hroom hdg hcs) kk
set_option maxHeartbeats 1000000 in
theorem iv_X11_214 {p : Program} {e : Env} {R : Room} {s : State} {m : MethodId} {args : Array Value} {below : List Frame} {meth : Method} {c : Code} {H : Heap} {locs : List Loc} {cells slots : Nat} {Q : State → Prop} {cc : ByteArray} {pc : Nat} {ls : Array Slot} {rest : List Value} {nL : Nat} {G : CG} {μ : Mm} {a : Nat} {q0 : Nat} {x : Mm} {k k2 : Nat} (l : Launch) (X : Cx p s m args meth c cc nL RX11 G) (hH : HS G s μ H locs) (hRL : RmL R k k2) (hk : 1 + 1 ≤ k ∧ 54 ≤ k2) (h : f_X8_takeFrom μ a q0 = some x) (hls : ls.size = nL) (hroom : (rest.map fun v => v.category).sum ≤ 8) (hdg : decode cc pc = .ok (.invokevirtual 214, 3)) (hcs : cells + 0 ≤ R.cells ∧ slots + 0 ≤ R.slots) (kk : ∀ (H1 : Heap) (locs1 : List Loc), HS G s x H1 locs1 → W p l e R s m args below meth c H1 locs1 cells slots Q (F0 m (pc + 3) ls rest)) : W p l e R s m args below meth c H locs cells slots Q (F0 m pc ls (.ref q0 :: .ref a :: rest)) := by
  refine kV0 hH (rV (As := [.ref q0]) (rest := rest) X hH (t_X8_takeFrom h) vc_8 (c_X8_takeFrom l G μ a q0 x h) (List.forall_mem_cons.mpr ⟨u_402, (List.forall_mem_cons.mpr ⟨u_403, (List.forall_mem_cons.mpr ⟨u_404, (List.forall_mem_cons.mpr ⟨u_23, (fun _ h9 => absurd h9 List.not_mem_nil)⟩)⟩)⟩)⟩) u_405 (rmo hRL (Nat.le_trans (by decide) hk.1) (Nat.le_trans (by decide) hk.2)) ddV_X8_takeFrom rfl hls rfl hroom hdg hcs) kk
theorem t_X11_keep {μ : Mm} {a0 : Nat} {p1 : Int32} {x : Int32 × Mm} (h : f_X11_keep μ a0 p1 = some x) : tg μ a0 = 12 := by
  unfold f_X11_keep at h
  exact (gsn h).1
set_option maxHeartbeats 4000000 in
set_option maxRecDepth 100000 in
theorem c_X11_keep (l : Launch) (G : CG) (μ : Mm) (a0 : Nat) (p1 : Int32) (x : Int32 × Mm) (h : f_X11_keep μ a0 p1 = some x) : Met l yX11_keep (.code yX11_keep cX11_keep 2 (some .int) :: UW) (rmk 2 54 0 0) (PC G [.ref a0, .int p1] μ) (QI G x.1 x.2) 0 0 (fA G) := by
  refine Met.ofW (cc := cX11_keep) (maxL := 2) (ret := (some .int)) (by decide) rfl ?_
  intro p e s m args below meth c s₁ B hml hv
  obtain ⟨X, hH, hr, rfl, hnm⟩ := cx_in B hml hv
  have X : Cx p s m _ meth c cX11_keep 2 RX11 G := X
  have hx := X.1
  have hb := X.2.1
  have hown := X.2.2.2.1
  have hts := X.2.2.2.2.1
  have hRL : RmL (rmk 2 54 0 0) 2 54 := ⟨Nat.le_refl _, Nat.le_refl _⟩
  have hcs : 0 ≤ (rmk 0 0 0 0).cells ∧ 0 ≤ (rmk 0 0 0 0).slots := ⟨Nat.zero_le _, Nat.zero_le _⟩
  refine ls_in (Nat.le_of_ble_eq_true rfl) (fun ls hl => ?_)
  have hl : lv_has ls 2 [(0, .ref a0), (1, .int p1)] := hl
  unfold f_X11_keep at h
  obtain ⟨htg, h⟩ := gsn h
  refine lv_aload_n hx hb dX11_keep_0 rfl (lv_at hl 0 rfl) ?_
  obtain ⟨x1, hx1, h⟩ := bnd h
  refine gf_X11_25 X hH hx1 dX11_keep_1 ?_
  refine lv_iload_n hx hb dX11_keep_4 rfl (lv_at hl 1 rfl) ?_
  obtain ⟨x2, hx2, h⟩ := bnd h
  refine iv_X11_105 l X hH hRL (by decide) hx2 hl.1 (Nat.le_of_ble_eq_true rfl) dX11_keep_5 hcs (fun H locs hH => ?_)
  refine lv_if_ne (tgt := 13) hx hb dX11_keep_8 (by decide) (fun hc3 => ?_) (fun hc3 => ?_)
  · replace h := iff' h hc3
    refine lv_aload_n hx hb dX11_keep_13 rfl (lv_at hl 0 rfl) ?_
    obtain ⟨x4, hx4, h⟩ := bnd h
    refine gf_X11_21 X hH hx4 dX11_keep_14 ?_
    obtain ⟨x5, hx5, h⟩ := bnd h
    refine iv_X11_204 l X hH hRL (by decide) hx5 hl.1 (Nat.le_of_ble_eq_true rfl) dX11_keep_17 hcs (fun H locs hH => ?_)
    refine lv_if_eq (tgt := 26) hx hb dX11_keep_20 (by decide) (fun hc6 => ?_) (fun hc6 => ?_)
    · replace h := ift h hc6
      refine lv_aload_n hx hb dX11_keep_26 rfl (lv_at hl 0 rfl) ?_
      obtain ⟨x7, hx7, h⟩ := bnd h
      refine gf_X11_21 X hH hx7 dX11_keep_27 ?_
      refine lv_aload_n hx hb dX11_keep_30 rfl (lv_at hl 0 rfl) ?_
      obtain ⟨x8, hx8, h⟩ := bnd h
      refine gf_X11_30 X hH hx8 dX11_keep_31 ?_
      refine lv_iload_n hx hb dX11_keep_34 rfl (lv_at hl 1 rfl) ?_
      obtain ⟨x9, hx9, h⟩ := bnd h
      refine w_aPA X hH hx9 dX11_keep_35 ?_
      obtain ⟨x10, hx10, h⟩ := bnd h
      refine iv_X11_210 l X hH hRL (by decide) hx10 hl.1 (Nat.le_of_ble_eq_true rfl) dX11_keep_36 hcs (fun H locs hH => ?_)
      refine lv_aload_n hx hb dX11_keep_39 rfl (lv_at hl 0 rfl) ?_
      obtain ⟨x11, hx11, h⟩ := bnd h
      refine gf_X11_25 X hH hx11 dX11_keep_40 ?_
      refine lv_iload_n hx hb dX11_keep_43 rfl (lv_at hl 1 rfl) ?_
      obtain ⟨x12, hx12, h⟩ := bnd h
      refine w_aP X hH hx12 (by decide) (k := 5) rfl dX11_keep_44 ?_
      refine lv_aload_n hx hb dX11_keep_45 rfl (lv_at hl 0 rfl) ?_
      obtain ⟨x13, hx13, h⟩ := bnd h
      refine gf_X11_21 X hH hx13 dX11_keep_46 ?_
      obtain ⟨x14, hx14, h⟩ := bnd h
      refine gf_X11_187 X hH hx14 dX11_keep_49 ?_
      obtain ⟨x15, hx15, h⟩ := bnd h
      refine iv_X11_214 l X hH hRL (by decide) hx15 hl.1 (Nat.le_of_ble_eq_true rfl) dX11_keep_52 hcs (fun H locs hH => ?_)
      refine lv_aload_n hx hb dX11_keep_55 rfl (lv_at hl 0 rfl) ?_
      obtain ⟨x16, hx16, h⟩ := bnd h
      refine gf_X11_21 X hH hx16 dX11_keep_56 ?_
      obtain ⟨x17, hx17, h⟩ := bnd h
      refine gf_X11_187 X hH hx17 dX11_keep_59 ?_
      obtain ⟨x18, hx18, h⟩ := bnd h
      refine gf_X11_126 X hH hx18 dX11_keep_62 ?_
      exact eI X hH h hr dX11_keep_65 (Nat.le_of_ble_eq_true rfl) (Nat.le_of_ble_eq_true rfl)
    · replace h := iff' h hc6
      refine lv_bipush (v := -4) hx hb dX11_keep_23 (by decide) ?_
      exact eI X hH h hr dX11_keep_25 (Nat.le_of_ble_eq_true rfl) (Nat.le_of_ble_eq_true rfl)
  · replace h := ift h hc3
    refine lv_iconst (v := -1) hx hb dX11_keep_11 (by decide) ?_
    exact eI X hH h hr dX11_keep_12 (Nat.le_of_ble_eq_true rfl) (Nat.le_of_ble_eq_true rfl)
set_option maxHeartbeats 1000000 in
theorem iv_X11_224 {p : Program} {e : Env} {R : Room} {s : State} {m : MethodId} {args : Array Value} {below : List Frame} {meth : Method} {c : Code} {H : Heap} {locs : List Loc} {cells slots : Nat} {Q : State → Prop} {cc : ByteArray} {pc : Nat} {ls : Array Slot} {rest : List Value} {nL : Nat} {G : CG} {μ : Mm} {a : Nat} {q0 : Int32} {x : Int32} {k k2 : Nat} (l : Launch) (X : Cx p s m args meth c cc nL RX11 G) (hH : HS G s μ H locs) (hRL : RmL R k k2) (hk : 1 + 1 ≤ k ∧ 21 ≤ k2) (h : f_X3_byTeeth μ a q0 = some x) (hls : ls.size = nL) (hroom : (rest.map fun v => v.category).sum ≤ 8) (hdg : decode cc pc = .ok (.invokevirtual 224, 3)) (hcs : cells + 0 ≤ R.cells ∧ slots + 0 ≤ R.slots) (kk : ∀ (H1 : Heap) (locs1 : List Loc), HS G s μ H1 locs1 → W p l e R s m args below meth c H1 locs1 cells slots Q (F0 m (pc + 3) ls (.int x :: rest))) : W p l e R s m args below meth c H locs cells slots Q (F0 m pc ls (.int q0 :: .ref a :: rest)) := by
  refine kI hH (rV (As := [.int q0]) (rest := rest) X hH (t_X3_byTeeth h) vc_3 (c_X3_byTeeth l G μ a q0 x h) (List.forall_mem_cons.mpr ⟨u_668, (List.forall_mem_cons.mpr ⟨u_369, (List.forall_mem_cons.mpr ⟨u_370, (List.forall_mem_cons.mpr ⟨u_22, (fun _ h9 => absurd h9 List.not_mem_nil)⟩)⟩)⟩)⟩) u_371 (rmo hRL (Nat.le_trans (by decide) hk.1) (Nat.le_trans (by decide) hk.2)) ddV_X3_byTeeth rfl hls rfl hroom hdg hcs) kk
theorem t_X11_hour {μ : Mm} {a0 : Nat} {x : Int32 × Mm} (h : f_X11_hour μ a0 = some x) : tg μ a0 = 12 := by
  unfold f_X11_hour at h
  exact (gsn h).1
set_option maxHeartbeats 4000000 in
set_option maxRecDepth 100000 in
theorem c_X11_hour (l : Launch) (G : CG) (μ : Mm) (a0 : Nat) (x : Int32 × Mm) (h : f_X11_hour μ a0 = some x) : Met l yX11_hour (.code yX11_hour cX11_hour 1 (some .int) :: UW) (rmk 2 21 0 0) (PC G [.ref a0] μ) (QI G x.1 x.2) 0 0 (fA G) := by
  refine Met.ofW (cc := cX11_hour) (maxL := 1) (ret := (some .int)) (by decide) rfl ?_
  intro p e s m args below meth c s₁ B hml hv
  obtain ⟨X, hH, hr, rfl, hnm⟩ := cx_in B hml hv
  have X : Cx p s m _ meth c cX11_hour 1 RX11 G := X
  have hx := X.1
  have hb := X.2.1
  have hown := X.2.2.2.1
  have hts := X.2.2.2.2.1
  have hRL : RmL (rmk 2 21 0 0) 2 21 := ⟨Nat.le_refl _, Nat.le_refl _⟩
  have hcs : 0 ≤ (rmk 0 0 0 0).cells ∧ 0 ≤ (rmk 0 0 0 0).slots := ⟨Nat.zero_le _, Nat.zero_le _⟩
  refine ls_in (Nat.le_of_ble_eq_true rfl) (fun ls hl => ?_)
  have hl : lv_has ls 1 [(0, .ref a0)] := hl
  unfold f_X11_hour at h
  obtain ⟨htg, h⟩ := gsn h
  refine lv_aload_n hx hb dX11_hour_0 rfl (lv_at hl 0 rfl) ?_
  obtain ⟨x1, hx1, h⟩ := bnd h
  refine gf_X11_21 X hH hx1 dX11_hour_1 ?_
  obtain ⟨x2, hx2, h⟩ := bnd h
  refine iv_X11_204 l X hH hRL (by decide) hx2 hl.1 (Nat.le_of_ble_eq_true rfl) dX11_hour_4 hcs (fun H locs hH => ?_)
  refine lv_if_eq (tgt := 13) hx hb dX11_hour_7 (by decide) (fun hc3 => ?_) (fun hc3 => ?_)
  · replace h := ift h hc3
    refine lv_aload_n hx hb dX11_hour_13 rfl (lv_at hl 0 rfl) ?_
    refine lv_aload_n hx hb dX11_hour_14 rfl (lv_at hl 0 rfl) ?_
    obtain ⟨x4, hx4, h⟩ := bnd h
    refine gf_X11_21 X hH hx4 dX11_hour_15 ?_
    obtain ⟨x5, hx5, h⟩ := bnd h
    refine gf_X11_221 X hH hx5 dX11_hour_18 ?_
    obtain ⟨x6, hx6, h⟩ := bnd h
    refine pf_X11_69 X hH hx6 dX11_hour_21 (fun H locs hH => ?_)
    refine lv_aload_n hx hb dX11_hour_24 rfl (lv_at hl 0 rfl) ?_
    obtain ⟨x7, hx7, h⟩ := bnd h
    refine gf_X11_21 X hH hx7 dX11_hour_25 ?_
    refine lv_bipush (v := 12) hx hb dX11_hour_28 (by decide) ?_
    refine lv_aload_n hx hb dX11_hour_30 rfl (lv_at hl 0 rfl) ?_
    obtain ⟨x8, hx8, h⟩ := bnd h
    refine gf_X11_21 X hH hx8 dX11_hour_31 ?_
    obtain ⟨x9, hx9, h⟩ := bnd h
    refine gf_X11_201 X hH hx9 dX11_hour_34 ?_
    refine lv_imul hx hb dX11_hour_37 ?_
    obtain ⟨x10, hx10, h⟩ := bnd h
    refine iv_X11_224 l X hH hRL (by decide) hx10 hl.1 (Nat.le_of_ble_eq_true rfl) dX11_hour_38 hcs (fun H locs hH => ?_)
    exact eI X hH h hr dX11_hour_41 (Nat.le_of_ble_eq_true rfl) (Nat.le_of_ble_eq_true rfl)
  · replace h := iff' h hc3
    refine lv_bipush (v := -4) hx hb dX11_hour_10 (by decide) ?_
    exact eI X hH h hr dX11_hour_12 (Nat.le_of_ble_eq_true rfl) (Nat.le_of_ble_eq_true rfl)
set_option maxHeartbeats 1000000 in
theorem iv_X11_227 {p : Program} {e : Env} {R : Room} {s : State} {m : MethodId} {args : Array Value} {below : List Frame} {meth : Method} {c : Code} {H : Heap} {locs : List Loc} {cells slots : Nat} {Q : State → Prop} {cc : ByteArray} {pc : Nat} {ls : Array Slot} {rest : List Value} {nL : Nat} {G : CG} {μ : Mm} {a : Nat} {q0 : Int32} {x : Int32} {k k2 : Nat} (l : Launch) (X : Cx p s m args meth c cc nL RX11 G) (hH : HS G s μ H locs) (hRL : RmL R k k2) (hk : 2 + 1 ≤ k ∧ 42 ≤ k2) (h : f_X3_hasRentAt μ a q0 = some x) (hls : ls.size = nL) (hroom : (rest.map fun v => v.category).sum ≤ 8) (hdg : decode cc pc = .ok (.invokevirtual 227, 3)) (hcs : cells + 0 ≤ R.cells ∧ slots + 0 ≤ R.slots) (kk : ∀ (H1 : Heap) (locs1 : List Loc), HS G s μ H1 locs1 → W p l e R s m args below meth c H1 locs1 cells slots Q (F0 m (pc + 3) ls (.int x :: rest))) : W p l e R s m args below meth c H locs cells slots Q (F0 m pc ls (.int q0 :: .ref a :: rest)) := by
  refine kI hH (rV (As := [.int q0]) (rest := rest) X hH (t_X3_hasRentAt h) vc_3 (c_X3_hasRentAt l G μ a q0 x h) (List.forall_mem_cons.mpr ⟨u_730, (List.forall_mem_cons.mpr ⟨u_383, (List.forall_mem_cons.mpr ⟨u_384, (List.forall_mem_cons.mpr ⟨u_22, (fun _ h9 => absurd h9 List.not_mem_nil)⟩)⟩)⟩)⟩) u_385 (rmo hRL (Nat.le_trans (by decide) hk.1) (Nat.le_trans (by decide) hk.2)) ddV_X3_hasRentAt rfl hls rfl hroom hdg hcs) kk
theorem t_X11_due {μ : Mm} {a0 : Nat} {x : Int32 × Mm} (h : f_X11_due μ a0 = some x) : tg μ a0 = 12 := by
  unfold f_X11_due at h
  exact (gsn h).1
set_option maxHeartbeats 4000000 in
set_option maxRecDepth 100000 in
theorem c_X11_due (l : Launch) (G : CG) (μ : Mm) (a0 : Nat) (x : Int32 × Mm) (h : f_X11_due μ a0 = some x) : Met l yX11_due (.code yX11_due cX11_due 1 (some .int) :: UW) (rmk 3 42 0 0) (PC G [.ref a0] μ) (QI G x.1 x.2) 0 0 (fA G) := by
  refine Met.ofW (cc := cX11_due) (maxL := 1) (ret := (some .int)) (by decide) rfl ?_
  intro p e s m args below meth c s₁ B hml hv
  obtain ⟨X, hH, hr, rfl, hnm⟩ := cx_in B hml hv
  have X : Cx p s m _ meth c cX11_due 1 RX11 G := X
  have hx := X.1
  have hb := X.2.1
  have hown := X.2.2.2.1
  have hts := X.2.2.2.2.1
  have hRL : RmL (rmk 3 42 0 0) 3 42 := ⟨Nat.le_refl _, Nat.le_refl _⟩
  have hcs : 0 ≤ (rmk 0 0 0 0).cells ∧ 0 ≤ (rmk 0 0 0 0).slots := ⟨Nat.zero_le _, Nat.zero_le _⟩
  refine ls_in (Nat.le_of_ble_eq_true rfl) (fun ls hl => ?_)
  have hl : lv_has ls 1 [(0, .ref a0)] := hl
  unfold f_X11_due at h
  obtain ⟨htg, h⟩ := gsn h
  refine lv_aload_n hx hb dX11_due_0 rfl (lv_at hl 0 rfl) ?_
  refine lv_aload_n hx hb dX11_due_1 rfl (lv_at hl 0 rfl) ?_
  obtain ⟨x1, hx1, h⟩ := bnd h
  refine gf_X11_21 X hH hx1 dX11_due_2 ?_
  refine lv_aload_n hx hb dX11_due_5 rfl (lv_at hl 0 rfl) ?_
  obtain ⟨x2, hx2, h⟩ := bnd h
  refine gf_X11_21 X hH hx2 dX11_due_6 ?_
  obtain ⟨x3, hx3, h⟩ := bnd h
  refine gf_X11_201 X hH hx3 dX11_due_9 ?_
  obtain ⟨x4, hx4, h⟩ := bnd h
  refine iv_X11_227 l X hH hRL (by decide) hx4 hl.1 (Nat.le_of_ble_eq_true rfl) dX11_due_12 hcs (fun H locs hH => ?_)
  refine lv_if_eq (tgt := 22) hx hb dX11_due_15 (by decide) (fun hc5 => ?_) (fun hc5 => ?_)
  · replace h := ift h hc5
    refine lv_iconst (v := 0) hx hb dX11_due_22 (by decide) ?_
    obtain ⟨x6, hx6, h⟩ := bnd h
    refine pf_X11_69 X hH hx6 dX11_due_23 (fun H locs hH => ?_)
    refine lv_aload_n hx hb dX11_due_26 rfl (lv_at hl 0 rfl) ?_
    obtain ⟨x7, hx7, h⟩ := bnd h
    refine gf_X11_21 X hH hx7 dX11_due_27 ?_
    obtain ⟨x8, hx8, h⟩ := bnd h
    refine gf_X11_230 X hH hx8 dX11_due_30 ?_
    exact eI X hH h hr dX11_due_33 (Nat.le_of_ble_eq_true rfl) (Nat.le_of_ble_eq_true rfl)
  · replace h := iff' h hc5
    refine lv_iconst (v := 1) hx hb dX11_due_18 (by decide) ?_
    refine lv_goto (tgt := 23) hx hb dX11_due_19 (by decide) ?_
    obtain ⟨x9, hx9, h⟩ := bnd h
    refine pf_X11_69 X hH hx9 dX11_due_23 (fun H locs hH => ?_)
    refine lv_aload_n hx hb dX11_due_26 rfl (lv_at hl 0 rfl) ?_
    obtain ⟨x10, hx10, h⟩ := bnd h
    refine gf_X11_21 X hH hx10 dX11_due_27 ?_
    obtain ⟨x11, hx11, h⟩ := bnd h
    refine gf_X11_230 X hH hx11 dX11_due_30 ?_
    exact eI X hH h hr dX11_due_33 (Nat.le_of_ble_eq_true rfl) (Nat.le_of_ble_eq_true rfl)
set_option maxHeartbeats 1000000 in
theorem iv_X11_359 {p : Program} {e : Env} {R : Room} {s : State} {m : MethodId} {args : Array Value} {below : List Frame} {meth : Method} {c : Code} {H : Heap} {locs : List Loc} {cells slots : Nat} {Q : State → Prop} {cc : ByteArray} {pc : Nat} {ls : Array Slot} {rest : List Value} {nL : Nat} {G : CG} {μ : Mm} {q0 : Int64} {q1 : Int64} {x : Int64} {k k2 : Nat} (l : Launch) (X : Cx p s m args meth c cc nL RX11 G) (hH : HS G s μ H locs) (hRL : RmL R k k2) (hk : 1 + 1 ≤ k ∧ 30 ≤ k2) (h : f_X11_greatestDivisor μ q0 q1 = some x) (hls : ls.size = nL) (hroom : (rest.map fun v => v.category).sum ≤ 8) (hdg : decode cc pc = .ok (.invokestatic 359, 3)) (hcs : cells + 0 ≤ R.cells ∧ slots + 0 ≤ R.slots) (kk : ∀ (H1 : Heap) (locs1 : List Loc), HS G s μ H1 locs1 → W p l e R s m args below meth c H1 locs1 cells slots Q (F0 m (pc + 3) ls (.long x :: rest))) : W p l e R s m args below meth c H locs cells slots Q (F0 m pc ls (.long q1 :: .long q0 :: rest)) := by
  refine kL hH (rS (As := [.long q0, .long q1]) (rest := rest) X hH (c_X11_greatestDivisor l G μ q0 q1 x h) (List.forall_mem_cons.mpr ⟨u_653, (List.forall_mem_cons.mpr ⟨u_654, (List.forall_mem_cons.mpr ⟨u_21, (fun _ h9 => absurd h9 List.not_mem_nil)⟩)⟩)⟩) u_655 (rmo hRL (Nat.le_trans (by decide) hk.1) (Nat.le_trans (by decide) hk.2)) ddS_X11_greatestDivisor rfl hls rfl hroom hdg hcs) kk
theorem t_X11_tellRatio {μ : Mm} {a0 : Nat} {p1 : Int64} {p3 : Int64} {x : Int32 × Mm} (h : f_X11_tellRatio μ a0 p1 p3 = some x) : tg μ a0 = 12 := by
  unfold f_X11_tellRatio at h
  exact (gsn h).1
set_option maxHeartbeats 4000000 in
set_option maxRecDepth 100000 in
theorem c_X11_tellRatio (l : Launch) (G : CG) (μ : Mm) (a0 : Nat) (p1 : Int64) (p3 : Int64) (x : Int32 × Mm) (h : f_X11_tellRatio μ a0 p1 p3 = some x) : Met l yX11_tellRatio (.code yX11_tellRatio cX11_tellRatio 7 (some .int) :: UW) (rmk 2 30 0 0) (PC G [.ref a0, .long p1, .long p3] μ) (QI G x.1 x.2) 0 0 (fA G) := by
  refine Met.ofW (cc := cX11_tellRatio) (maxL := 7) (ret := (some .int)) (by decide) rfl ?_
  intro p e s m args below meth c s₁ B hml hv
  obtain ⟨X, hH, hr, rfl, hnm⟩ := cx_in B hml hv
  have X : Cx p s m _ meth c cX11_tellRatio 7 RX11 G := X
  have hx := X.1
  have hb := X.2.1
  have hown := X.2.2.2.1
  have hts := X.2.2.2.2.1
  have hRL : RmL (rmk 2 30 0 0) 2 30 := ⟨Nat.le_refl _, Nat.le_refl _⟩
  have hcs : 0 ≤ (rmk 0 0 0 0).cells ∧ 0 ≤ (rmk 0 0 0 0).slots := ⟨Nat.zero_le _, Nat.zero_le _⟩
  refine ls_in (Nat.le_of_ble_eq_true rfl) (fun ls hl => ?_)
  have hl : lv_has ls 7 [(0, .ref a0), (1, .long p1), (3, .long p3)] := hl
  unfold f_X11_tellRatio at h
  obtain ⟨htg, h⟩ := gsn h
  refine lv_lload_n hx hb dX11_tellRatio_0 rfl (lv_at hl 1 rfl) ?_
  refine lv_lload_n hx hb dX11_tellRatio_1 rfl (lv_at hl 2 rfl) ?_
  obtain ⟨x1, hx1, h⟩ := bnd h
  refine iv_X11_359 l X hH hRL (by decide) hx1 hl.1 (Nat.le_of_ble_eq_true rfl) dX11_tellRatio_2 hcs (fun H locs hH => ?_)
  refine lv_lstore (lv' := [(5, .long x1), (0, .ref a0), (1, .long p1), (3, .long p3)]) hx hb dX11_tellRatio_5 hl (by decide) rfl (fun ls hl => ?_)
  refine lv_lload hx hb dX11_tellRatio_7 (lv_at hl 0 rfl) ?_
  refine lv_lconst (v := 1) hx hb dX11_tellRatio_9 (by decide) ?_
  refine W.lcmp hx hb dX11_tellRatio_10 ?_
  refine lv_if_ge (tgt := 16) hx hb dX11_tellRatio_11 (by decide) (fun hc2 => ?_) (fun hc2 => ?_)
  · replace h := ift h hc2
    refine lv_aload_n hx hb dX11_tellRatio_16 rfl (lv_at hl 1 rfl) ?_
    refine lv_lload_n hx hb dX11_tellRatio_17 rfl (lv_at hl 2 rfl) ?_
    refine lv_lload hx hb dX11_tellRatio_18 (lv_at hl 0 rfl) ?_
    obtain ⟨hd3, h⟩ := gsf h
    refine lv_ldiv hx hb dX11_tellRatio_20 hd3 ?_
    obtain ⟨x4, hx4, h⟩ := bnd h
    refine pf_X11_72 X hH hx4 dX11_tellRatio_21 (fun H locs hH => ?_)
    refine lv_aload_n hx hb dX11_tellRatio_24 rfl (lv_at hl 1 rfl) ?_
    refine lv_lload_n hx hb dX11_tellRatio_25 rfl (lv_at hl 3 rfl) ?_
    refine lv_lload hx hb dX11_tellRatio_26 (lv_at hl 0 rfl) ?_
    obtain ⟨hd5, h⟩ := gsf h
    refine lv_ldiv hx hb dX11_tellRatio_28 hd5 ?_
    obtain ⟨x6, hx6, h⟩ := bnd h
    refine pf_X11_76 X hH hx6 dX11_tellRatio_29 (fun H locs hH => ?_)
    refine lv_iconst (v := 1) hx hb dX11_tellRatio_32 (by decide) ?_
    exact eI X hH h hr dX11_tellRatio_33 (Nat.le_of_ble_eq_true rfl) (Nat.le_of_ble_eq_true rfl)
  · replace h := iff' h hc2
    refine lv_iconst (v := 1) hx hb dX11_tellRatio_14 (by decide) ?_
    exact eI X hH h hr dX11_tellRatio_15 (Nat.le_of_ble_eq_true rfl) (Nat.le_of_ble_eq_true rfl)
set_option maxHeartbeats 1000000 in
theorem iv_X11_249 {p : Program} {e : Env} {R : Room} {s : State} {m : MethodId} {args : Array Value} {below : List Frame} {meth : Method} {c : Code} {H : Heap} {locs : List Loc} {cells slots : Nat} {Q : State → Prop} {cc : ByteArray} {pc : Nat} {ls : Array Slot} {rest : List Value} {nL : Nat} {G : CG} {μ : Mm} {a : Nat} {q0 : Int64} {q1 : Int64} {x : Int32 × Mm} {k k2 : Nat} (l : Launch) (X : Cx p s m args meth c cc nL RX11 G) (hH : HS G s μ H locs) (hRL : RmL R k k2) (hk : 2 + 1 ≤ k ∧ 56 ≤ k2) (h : f_X11_tellRatio μ a q0 q1 = some x) (hls : ls.size = nL) (hroom : (rest.map fun v => v.category).sum ≤ 8) (hdg : decode cc pc = .ok (.invokevirtual 249, 3)) (hcs : cells + 0 ≤ R.cells ∧ slots + 0 ≤ R.slots) (kk : ∀ (H1 : Heap) (locs1 : List Loc), HS G s x.2 H1 locs1 → W p l e R s m args below meth c H1 locs1 cells slots Q (F0 m (pc + 3) ls (.int x.1 :: rest))) : W p l e R s m args below meth c H locs cells slots Q (F0 m pc ls (.long q1 :: .long q0 :: .ref a :: rest)) := by
  refine kI hH (rV (As := [.long q0, .long q1]) (rest := rest) X hH (t_X11_tellRatio h) vc_11 (c_X11_tellRatio l G μ a q0 q1 x h) (List.forall_mem_cons.mpr ⟨u_649, (List.forall_mem_cons.mpr ⟨u_651, (List.forall_mem_cons.mpr ⟨u_14, (List.forall_mem_cons.mpr ⟨u_21, (fun _ h9 => absurd h9 List.not_mem_nil)⟩)⟩)⟩)⟩) u_652 (rmo hRL (Nat.le_trans (by decide) hk.1) (Nat.le_trans (by decide) hk.2)) ddV_X11_tellRatio rfl hls rfl hroom hdg hcs) kk
theorem t_X11_pace {μ : Mm} {a0 : Nat} {x : Int32 × Mm} (h : f_X11_pace μ a0 = some x) : tg μ a0 = 12 := by
  unfold f_X11_pace at h
  exact (gsn h).1
set_option maxHeartbeats 4000000 in
set_option maxRecDepth 100000 in
theorem c_X11_pace (l : Launch) (G : CG) (μ : Mm) (a0 : Nat) (x : Int32 × Mm) (h : f_X11_pace μ a0 = some x) : Met l yX11_pace (.code yX11_pace cX11_pace 1 (some .int) :: UW) (rmk 3 56 0 0) (PC G [.ref a0] μ) (QI G x.1 x.2) 0 0 (fA G) := by
  refine Met.ofW (cc := cX11_pace) (maxL := 1) (ret := (some .int)) (by decide) rfl ?_
  intro p e s m args below meth c s₁ B hml hv
  obtain ⟨X, hH, hr, rfl, hnm⟩ := cx_in B hml hv
  have X : Cx p s m _ meth c cX11_pace 1 RX11 G := X
  have hx := X.1
  have hb := X.2.1
  have hown := X.2.2.2.1
  have hts := X.2.2.2.2.1
  have hRL : RmL (rmk 3 56 0 0) 3 56 := ⟨Nat.le_refl _, Nat.le_refl _⟩
  have hcs : 0 ≤ (rmk 0 0 0 0).cells ∧ 0 ≤ (rmk 0 0 0 0).slots := ⟨Nat.zero_le _, Nat.zero_le _⟩
  refine ls_in (Nat.le_of_ble_eq_true rfl) (fun ls hl => ?_)
  have hl : lv_has ls 1 [(0, .ref a0)] := hl
  unfold f_X11_pace at h
  obtain ⟨htg, h⟩ := gsn h
  refine lv_aload_n hx hb dX11_pace_0 rfl (lv_at hl 0 rfl) ?_
  obtain ⟨x1, hx1, h⟩ := bnd h
  refine gf_X11_21 X hH hx1 dX11_pace_1 ?_
  obtain ⟨x2, hx2, h⟩ := bnd h
  refine gf_X11_243 X hH hx2 dX11_pace_4 ?_
  refine lv_if_ne (tgt := 16) hx hb dX11_pace_7 (by decide) (fun hc3 => ?_) (fun hc3 => ?_)
  · replace h := iff' h hc3
    refine lv_aload_n hx hb dX11_pace_16 rfl (lv_at hl 0 rfl) ?_
    refine lv_aload_n hx hb dX11_pace_17 rfl (lv_at hl 0 rfl) ?_
    obtain ⟨x4, hx4, h⟩ := bnd h
    refine gf_X11_21 X hH hx4 dX11_pace_18 ?_
    obtain ⟨x5, hx5, h⟩ := bnd h
    refine gf_X11_246 X hH hx5 dX11_pace_21 ?_
    refine lv_i2l hx hb dX11_pace_24 rfl ?_
    refine lv_aload_n hx hb dX11_pace_25 rfl (lv_at hl 0 rfl) ?_
    obtain ⟨x6, hx6, h⟩ := bnd h
    refine gf_X11_21 X hH hx6 dX11_pace_26 ?_
    obtain ⟨x7, hx7, h⟩ := bnd h
    refine gf_X11_243 X hH hx7 dX11_pace_29 ?_
    refine lv_i2l hx hb dX11_pace_32 rfl ?_
    obtain ⟨x8, hx8, h⟩ := bnd h
    refine iv_X11_249 l X hH hRL (by decide) hx8 hl.1 (Nat.le_of_ble_eq_true rfl) dX11_pace_33 hcs (fun H locs hH => ?_)
    exact eI X hH h hr dX11_pace_36 (Nat.le_of_ble_eq_true rfl) (Nat.le_of_ble_eq_true rfl)
  · replace h := ift h hc3
    refine lv_aload_n hx hb dX11_pace_10 rfl (lv_at hl 0 rfl) ?_
    refine lv_iconst (v := 4) hx hb dX11_pace_11 (by decide) ?_
    obtain ⟨x9, hx9, h⟩ := bnd h
    refine iv_X11_109 l X hH hRL (by decide) hx9 hl.1 (Nat.le_of_ble_eq_true rfl) dX11_pace_12 hcs (fun H locs hH => ?_)
    exact eI X hH h hr dX11_pace_15 (Nat.le_of_ble_eq_true rfl) (Nat.le_of_ble_eq_true rfl)
set_option maxHeartbeats 1000000 in
theorem iv_X11_253 {p : Program} {e : Env} {R : Room} {s : State} {m : MethodId} {args : Array Value} {below : List Frame} {meth : Method} {c : Code} {H : Heap} {locs : List Loc} {cells slots : Nat} {Q : State → Prop} {cc : ByteArray} {pc : Nat} {ls : Array Slot} {rest : List Value} {nL : Nat} {G : CG} {μ : Mm} {a : Nat} {q0 : Int32} {x : Int32} {k k2 : Nat} (l : Launch) (X : Cx p s m args meth c cc nL RX11 G) (hH : HS G s μ H locs) (hRL : RmL R k k2) (hk : 1 + 1 ≤ k ∧ 21 ≤ k2) (h : f_X3_hasTooth μ a q0 = some x) (hls : ls.size = nL) (hroom : (rest.map fun v => v.category).sum ≤ 8) (hdg : decode cc pc = .ok (.invokevirtual 253, 3)) (hcs : cells + 0 ≤ R.cells ∧ slots + 0 ≤ R.slots) (kk : ∀ (H1 : Heap) (locs1 : List Loc), HS G s μ H1 locs1 → W p l e R s m args below meth c H1 locs1 cells slots Q (F0 m (pc + 3) ls (.int x :: rest))) : W p l e R s m args below meth c H locs cells slots Q (F0 m pc ls (.int q0 :: .ref a :: rest)) := by
  refine kI hH (rV (As := [.int q0]) (rest := rest) X hH (t_X3_hasTooth h) vc_3 (c_X3_hasTooth l G μ a q0 x h) (List.forall_mem_cons.mpr ⟨u_676, (List.forall_mem_cons.mpr ⟨u_387, (List.forall_mem_cons.mpr ⟨u_388, (List.forall_mem_cons.mpr ⟨u_22, (fun _ h9 => absurd h9 List.not_mem_nil)⟩)⟩)⟩)⟩) u_389 (rmo hRL (Nat.le_trans (by decide) hk.1) (Nat.le_trans (by decide) hk.2)) ddV_X3_hasTooth rfl hls rfl hroom hdg hcs) kk
set_option maxHeartbeats 1000000 in
theorem iv_X11_256 {p : Program} {e : Env} {R : Room} {s : State} {m : MethodId} {args : Array Value} {below : List Frame} {meth : Method} {c : Code} {H : Heap} {locs : List Loc} {cells slots : Nat} {Q : State → Prop} {cc : ByteArray} {pc : Nat} {ls : Array Slot} {rest : List Value} {nL : Nat} {G : CG} {μ : Mm} {a : Nat} {q0 : Nat} {x : Mm} {k k2 : Nat} (l : Launch) (X : Cx p s m args meth c cc nL RX11 G) (hH : HS G s μ H locs) (hRL : RmL R k k2) (hk : 5 + 1 ≤ k ∧ 106 ≤ k2) (h : f_X7_look μ a q0 = some x) (hls : ls.size = nL) (hroom : (rest.map fun v => v.category).sum ≤ 8) (hdg : decode cc pc = .ok (.invokevirtual 256, 3)) (hcs : cells + 0 ≤ R.cells ∧ slots + 0 ≤ R.slots) (kk : ∀ (H1 : Heap) (locs1 : List Loc), HS G s x H1 locs1 → W p l e R s m args below meth c H1 locs1 cells slots Q (F0 m (pc + 3) ls rest)) : W p l e R s m args below meth c H locs cells slots Q (F0 m pc ls (.ref q0 :: .ref a :: rest)) := by
  refine kV0 hH (rV (As := [.ref q0]) (rest := rest) X hH (t_X7_look h) vc_7 (c_X7_look l G μ a q0 x h) (List.forall_mem_cons.mpr ⟨u_677, (List.forall_mem_cons.mpr ⟨u_678, (List.forall_mem_cons.mpr ⟨u_679, (List.forall_mem_cons.mpr ⟨u_27, (fun _ h9 => absurd h9 List.not_mem_nil)⟩)⟩)⟩)⟩) u_680 (rmo hRL (Nat.le_trans (by decide) hk.1) (Nat.le_trans (by decide) hk.2)) ddV_X7_look rfl hls rfl hroom hdg hcs) kk
set_option maxHeartbeats 1000000 in
theorem iv_X11_260 {p : Program} {e : Env} {R : Room} {s : State} {m : MethodId} {args : Array Value} {below : List Frame} {meth : Method} {c : Code} {H : Heap} {locs : List Loc} {cells slots : Nat} {Q : State → Prop} {cc : ByteArray} {pc : Nat} {ls : Array Slot} {rest : List Value} {nL : Nat} {G : CG} {μ : Mm} {a : Nat} {q0 : Int32} {q1 : Int32} {x : Mm} {k k2 : Nat} (l : Launch) (X : Cx p s m args meth c cc nL RX11 G) (hH : HS G s μ H locs) (hRL : RmL R k k2) (hk : 2 + 1 ≤ k ∧ 57 ≤ k2) (h : f_X7_weigh μ a q0 q1 = some x) (hls : ls.size = nL) (hroom : (rest.map fun v => v.category).sum ≤ 8) (hdg : decode cc pc = .ok (.invokevirtual 260, 3)) (hcs : cells + 0 ≤ R.cells ∧ slots + 0 ≤ R.slots) (kk : ∀ (H1 : Heap) (locs1 : List Loc), HS G s x H1 locs1 → W p l e R s m args below meth c H1 locs1 cells slots Q (F0 m (pc + 3) ls rest)) : W p l e R s m args below meth c H locs cells slots Q (F0 m pc ls (.int q1 :: .int q0 :: .ref a :: rest)) := by
  refine kV0 hH (rV (As := [.int q0, .int q1]) (rest := rest) X hH (t_X7_weigh h) vc_7 (c_X7_weigh l G μ a q0 q1 x h) (List.forall_mem_cons.mpr ⟨u_685, (List.forall_mem_cons.mpr ⟨u_686, (List.forall_mem_cons.mpr ⟨u_687, (List.forall_mem_cons.mpr ⟨u_27, (fun _ h9 => absurd h9 List.not_mem_nil)⟩)⟩)⟩)⟩) u_688 (rmo hRL (Nat.le_trans (by decide) hk.1) (Nat.le_trans (by decide) hk.2)) ddV_X7_weigh rfl hls rfl hroom hdg hcs) kk
set_option maxHeartbeats 1000000 in
theorem iv_X11_264 {p : Program} {e : Env} {R : Room} {s : State} {m : MethodId} {args : Array Value} {below : List Frame} {meth : Method} {c : Code} {H : Heap} {locs : List Loc} {cells slots : Nat} {Q : State → Prop} {cc : ByteArray} {pc : Nat} {ls : Array Slot} {rest : List Value} {nL : Nat} {G : CG} {μ : Mm} {a : Nat}  {x : Int32} {k k2 : Nat} (l : Launch) (X : Cx p s m args meth c cc nL RX11 G) (hH : HS G s μ H locs) (hRL : RmL R k k2) (hk : 1 + 1 ≤ k ∧ 20 ≤ k2) (h : f_X7_fewestWrongs μ a = some x) (hls : ls.size = nL) (hroom : (rest.map fun v => v.category).sum ≤ 8) (hdg : decode cc pc = .ok (.invokevirtual 264, 3)) (hcs : cells + 0 ≤ R.cells ∧ slots + 0 ≤ R.slots) (kk : ∀ (H1 : Heap) (locs1 : List Loc), HS G s μ H1 locs1 → W p l e R s m args below meth c H1 locs1 cells slots Q (F0 m (pc + 3) ls (.int x :: rest))) : W p l e R s m args below meth c H locs cells slots Q (F0 m pc ls (.ref a :: rest)) := by
  refine kI hH (rV (As := []) (rest := rest) X hH (t_X7_fewestWrongs h) vc_7 (c_X7_fewestWrongs l G μ a x h) (List.forall_mem_cons.mpr ⟨u_696, (List.forall_mem_cons.mpr ⟨u_697, (List.forall_mem_cons.mpr ⟨u_698, (List.forall_mem_cons.mpr ⟨u_27, (fun _ h9 => absurd h9 List.not_mem_nil)⟩)⟩)⟩)⟩) u_699 (rmo hRL (Nat.le_trans (by decide) hk.1) (Nat.le_trans (by decide) hk.2)) ddV_X7_fewestWrongs rfl hls rfl hroom hdg hcs) kk
set_option maxHeartbeats 1000000 in
theorem iv_X11_267 {p : Program} {e : Env} {R : Room} {s : State} {m : MethodId} {args : Array Value} {below : List Frame} {meth : Method} {c : Code} {H : Heap} {locs : List Loc} {cells slots : Nat} {Q : State → Prop} {cc : ByteArray} {pc : Nat} {ls : Array Slot} {rest : List Value} {nL : Nat} {G : CG} {μ : Mm} {a : Nat} {q0 : Nat} {x : Mm} {k k2 : Nat} (l : Launch) (X : Cx p s m args meth c cc nL RX11 G) (hH : HS G s μ H locs) (hRL : RmL R k k2) (hk : 3 + 1 ≤ k ∧ 79 ≤ k2) (h : f_X7_tellFirstOrder μ a q0 = some x) (hls : ls.size = nL) (hroom : (rest.map fun v => v.category).sum ≤ 8) (hdg : decode cc pc = .ok (.invokevirtual 267, 3)) (hcs : cells + 0 ≤ R.cells ∧ slots + 0 ≤ R.slots) (kk : ∀ (H1 : Heap) (locs1 : List Loc), HS G s x H1 locs1 → W p l e R s m args below meth c H1 locs1 cells slots Q (F0 m (pc + 3) ls rest)) : W p l e R s m args below meth c H locs cells slots Q (F0 m pc ls (.ref q0 :: .ref a :: rest)) := by
  refine kV0 hH (rV (As := [.ref q0]) (rest := rest) X hH (t_X7_tellFirstOrder h) vc_7 (c_X7_tellFirstOrder l G μ a q0 x h) (List.forall_mem_cons.mpr ⟨u_700, (List.forall_mem_cons.mpr ⟨u_701, (List.forall_mem_cons.mpr ⟨u_702, (List.forall_mem_cons.mpr ⟨u_27, (fun _ h9 => absurd h9 List.not_mem_nil)⟩)⟩)⟩)⟩) u_703 (rmo hRL (Nat.le_trans (by decide) hk.1) (Nat.le_trans (by decide) hk.2)) ddV_X7_tellFirstOrder rfl hls rfl hroom hdg hcs) kk
set_option maxHeartbeats 1000000 in
theorem iv_X11_270 {p : Program} {e : Env} {R : Room} {s : State} {m : MethodId} {args : Array Value} {below : List Frame} {meth : Method} {c : Code} {H : Heap} {locs : List Loc} {cells slots : Nat} {Q : State → Prop} {cc : ByteArray} {pc : Nat} {ls : Array Slot} {rest : List Value} {nL : Nat} {G : CG} {μ : Mm} {a : Nat} {q0 : Int32} {x : Int32} {k k2 : Nat} (l : Launch) (X : Cx p s m args meth c cc nL RX11 G) (hH : HS G s μ H locs) (hRL : RmL R k k2) (hk : 1 + 1 ≤ k ∧ 22 ≤ k2) (h : f_X8_placeOf μ a q0 = some x) (hls : ls.size = nL) (hroom : (rest.map fun v => v.category).sum ≤ 8) (hdg : decode cc pc = .ok (.invokevirtual 270, 3)) (hcs : cells + 0 ≤ R.cells ∧ slots + 0 ≤ R.slots) (kk : ∀ (H1 : Heap) (locs1 : List Loc), HS G s μ H1 locs1 → W p l e R s m args below meth c H1 locs1 cells slots Q (F0 m (pc + 3) ls (.int x :: rest))) : W p l e R s m args below meth c H locs cells slots Q (F0 m pc ls (.int q0 :: .ref a :: rest)) := by
  refine kI hH (rV (As := [.int q0]) (rest := rest) X hH (t_X8_placeOf h) vc_8 (c_X8_placeOf l G μ a q0 x h) (List.forall_mem_cons.mpr ⟨u_710, (List.forall_mem_cons.mpr ⟨u_711, (List.forall_mem_cons.mpr ⟨u_712, (List.forall_mem_cons.mpr ⟨u_23, (fun _ h9 => absurd h9 List.not_mem_nil)⟩)⟩)⟩)⟩) u_713 (rmo hRL (Nat.le_trans (by decide) hk.1) (Nat.le_trans (by decide) hk.2)) ddV_X8_placeOf rfl hls rfl hroom hdg hcs) kk
theorem t_X11_order {μ : Mm} {a0 : Nat} {p1 : Int32} {p2 : Int32} {p3 : Int32} {x : Int32 × Mm} (h : f_X11_order μ a0 p1 p2 p3 = some x) : tg μ a0 = 12 := by
  unfold f_X11_order at h
  exact (gsn h).1
set_option maxHeartbeats 4000000 in
set_option maxRecDepth 100000 in
theorem c_X11_order (l : Launch) (G : CG) (μ : Mm) (a0 : Nat) (p1 : Int32) (p2 : Int32) (p3 : Int32) (x : Int32 × Mm) (h : f_X11_order μ a0 p1 p2 p3 = some x) : Met l yX11_order (.code yX11_order cX11_order 4 (some .int) :: UW) (rmk 6 106 0 0) (PC G [.ref a0, .int p1, .int p2, .int p3] μ) (QI G x.1 x.2) 0 0 (fA G) := by
  refine Met.ofW (cc := cX11_order) (maxL := 4) (ret := (some .int)) (by decide) rfl ?_
  intro p e s m args below meth c s₁ B hml hv
  obtain ⟨X, hH, hr, rfl, hnm⟩ := cx_in B hml hv
  have X : Cx p s m _ meth c cX11_order 4 RX11 G := X
  have hx := X.1
  have hb := X.2.1
  have hown := X.2.2.2.1
  have hts := X.2.2.2.2.1
  have hRL : RmL (rmk 6 106 0 0) 6 106 := ⟨Nat.le_refl _, Nat.le_refl _⟩
  have hcs : 0 ≤ (rmk 0 0 0 0).cells ∧ 0 ≤ (rmk 0 0 0 0).slots := ⟨Nat.zero_le _, Nat.zero_le _⟩
  refine ls_in (Nat.le_of_ble_eq_true rfl) (fun ls hl => ?_)
  have hl : lv_has ls 4 [(0, .ref a0), (1, .int p1), (2, .int p2), (3, .int p3)] := hl
  unfold f_X11_order at h
  obtain ⟨htg, h⟩ := gsn h
  refine lv_aload_n hx hb dX11_order_0 rfl (lv_at hl 0 rfl) ?_
  obtain ⟨x1, hx1, h⟩ := bnd h
  refine gf_X11_21 X hH hx1 dX11_order_1 ?_
  refine lv_iload_n hx hb dX11_order_4 rfl (lv_at hl 1 rfl) ?_
  obtain ⟨x2, hx2, h⟩ := bnd h
  refine iv_X11_147 l X hH hRL (by decide) hx2 hl.1 (Nat.le_of_ble_eq_true rfl) dX11_order_5 hcs (fun H locs hH => ?_)
  refine lv_if_eq (tgt := 33) hx hb dX11_order_8 (by decide) (fun hc3 => ?_) (fun hc3 => ?_)
  · replace h := ift h hc3
    refine lv_iconst (v := -1) hx hb dX11_order_33 (by decide) ?_
    exact eI X hH h hr dX11_order_34 (Nat.le_of_ble_eq_true rfl) (Nat.le_of_ble_eq_true rfl)
  · replace h := iff' h hc3
    refine lv_aload_n hx hb dX11_order_11 rfl (lv_at hl 0 rfl) ?_
    obtain ⟨x4, hx4, h⟩ := bnd h
    refine gf_X11_21 X hH hx4 dX11_order_12 ?_
    refine lv_iload_n hx hb dX11_order_15 rfl (lv_at hl 2 rfl) ?_
    obtain ⟨x5, hx5, h⟩ := bnd h
    refine iv_X11_253 l X hH hRL (by decide) hx5 hl.1 (Nat.le_of_ble_eq_true rfl) dX11_order_16 hcs (fun H locs hH => ?_)
    refine lv_if_eq (tgt := 33) hx hb dX11_order_19 (by decide) (fun hc6 => ?_) (fun hc6 => ?_)
    · replace h := ift h hc6
      refine lv_iconst (v := -1) hx hb dX11_order_33 (by decide) ?_
      exact eI X hH h hr dX11_order_34 (Nat.le_of_ble_eq_true rfl) (Nat.le_of_ble_eq_true rfl)
    · replace h := iff' h hc6
      refine lv_aload_n hx hb dX11_order_22 rfl (lv_at hl 0 rfl) ?_
      obtain ⟨x7, hx7, h⟩ := bnd h
      refine gf_X11_11 X hH hx7 dX11_order_23 ?_
      refine lv_iload_n hx hb dX11_order_26 rfl (lv_at hl 3 rfl) ?_
      obtain ⟨x8, hx8, h⟩ := bnd h
      refine iv_X11_105 l X hH hRL (by decide) hx8 hl.1 (Nat.le_of_ble_eq_true rfl) dX11_order_27 hcs (fun H locs hH => ?_)
      refine lv_if_ne (tgt := 35) hx hb dX11_order_30 (by decide) (fun hc9 => ?_) (fun hc9 => ?_)
      · replace h := iff' h hc9
        refine lv_aload_n hx hb dX11_order_35 rfl (lv_at hl 0 rfl) ?_
        obtain ⟨x10, hx10, h⟩ := bnd h
        refine gf_X11_43 X hH hx10 dX11_order_36 ?_
        refine lv_aload_n hx hb dX11_order_39 rfl (lv_at hl 0 rfl) ?_
        obtain ⟨x11, hx11, h⟩ := bnd h
        refine gf_X11_21 X hH hx11 dX11_order_40 ?_
        obtain ⟨x12, hx12, h⟩ := bnd h
        refine iv_X11_256 l X hH hRL (by decide) hx12 hl.1 (Nat.le_of_ble_eq_true rfl) dX11_order_43 hcs (fun H locs hH => ?_)
        refine lv_aload_n hx hb dX11_order_46 rfl (lv_at hl 0 rfl) ?_
        obtain ⟨x13, hx13, h⟩ := bnd h
        refine gf_X11_43 X hH hx13 dX11_order_47 ?_
        refine lv_iload_n hx hb dX11_order_50 rfl (lv_at hl 1 rfl) ?_
        refine lv_iload_n hx hb dX11_order_51 rfl (lv_at hl 2 rfl) ?_
        obtain ⟨x14, hx14, h⟩ := bnd h
        refine iv_X11_260 l X hH hRL (by decide) hx14 hl.1 (Nat.le_of_ble_eq_true rfl) dX11_order_52 hcs (fun H locs hH => ?_)
        refine lv_aload_n hx hb dX11_order_55 rfl (lv_at hl 0 rfl) ?_
        obtain ⟨x15, hx15, h⟩ := bnd h
        refine gf_X11_43 X hH hx15 dX11_order_56 ?_
        obtain ⟨x16, hx16, h⟩ := bnd h
        refine iv_X11_264 l X hH hRL (by decide) hx16 hl.1 (Nat.le_of_ble_eq_true rfl) dX11_order_59 hcs (fun H locs hH => ?_)
        refine lv_if_le (tgt := 68) hx hb dX11_order_62 (by decide) (fun hc17 => ?_) (fun hc17 => ?_)
        · replace h := ift h hc17
          refine lv_aload_n hx hb dX11_order_68 rfl (lv_at hl 0 rfl) ?_
          obtain ⟨x18, hx18, h⟩ := bnd h
          refine gf_X11_43 X hH hx18 dX11_order_69 ?_
          refine lv_aload_n hx hb dX11_order_72 rfl (lv_at hl 0 rfl) ?_
          obtain ⟨x19, hx19, h⟩ := bnd h
          refine gf_X11_11 X hH hx19 dX11_order_73 ?_
          refine lv_iload_n hx hb dX11_order_76 rfl (lv_at hl 3 rfl) ?_
          obtain ⟨x20, hx20, h⟩ := bnd h
          refine w_aP X hH hx20 (by decide) (k := 5) rfl dX11_order_77 ?_
          obtain ⟨x21, hx21, h⟩ := bnd h
          refine iv_X11_267 l X hH hRL (by decide) hx21 hl.1 (Nat.le_of_ble_eq_true rfl) dX11_order_78 hcs (fun H locs hH => ?_)
          refine lv_aload_n hx hb dX11_order_81 rfl (lv_at hl 0 rfl) ?_
          obtain ⟨x22, hx22, h⟩ := bnd h
          refine gf_X11_11 X hH hx22 dX11_order_82 ?_
          refine lv_iload_n hx hb dX11_order_85 rfl (lv_at hl 3 rfl) ?_
          obtain ⟨x23, hx23, h⟩ := bnd h
          refine w_aP X hH hx23 (by decide) (k := 5) rfl dX11_order_86 ?_
          refine lv_iload_n hx hb dX11_order_87 rfl (lv_at hl 1 rfl) ?_
          obtain ⟨x24, hx24, h⟩ := bnd h
          refine iv_X11_270 l X hH hRL (by decide) hx24 hl.1 (Nat.le_of_ble_eq_true rfl) dX11_order_88 hcs (fun H locs hH => ?_)
          exact eI X hH h hr dX11_order_91 (Nat.le_of_ble_eq_true rfl) (Nat.le_of_ble_eq_true rfl)
        · replace h := iff' h hc17
          refine lv_bipush (v := -9) hx hb dX11_order_65 (by decide) ?_
          exact eI X hH h hr dX11_order_67 (Nat.le_of_ble_eq_true rfl) (Nat.le_of_ble_eq_true rfl)
      · replace h := ift h hc9
        refine lv_iconst (v := -1) hx hb dX11_order_33 (by decide) ?_
        exact eI X hH h hr dX11_order_34 (Nat.le_of_ble_eq_true rfl) (Nat.le_of_ble_eq_true rfl)
set_option maxHeartbeats 1000000 in
theorem iv_X11_273 {p : Program} {e : Env} {R : Room} {s : State} {m : MethodId} {args : Array Value} {below : List Frame} {meth : Method} {c : Code} {H : Heap} {locs : List Loc} {cells slots : Nat} {Q : State → Prop} {cc : ByteArray} {pc : Nat} {ls : Array Slot} {rest : List Value} {nL : Nat} {G : CG} {μ : Mm} {a : Nat}  {x : Int32 × Mm} {k k2 : Nat} (l : Launch) (X : Cx p s m args meth c cc nL RX11 G) (hH : HS G s μ H locs) (hRL : RmL R k k2) (hk : 2 + 1 ≤ k ∧ 44 ≤ k2) (h : f_X7_countQuiet μ a = some x) (hls : ls.size = nL) (hroom : (rest.map fun v => v.category).sum ≤ 8) (hdg : decode cc pc = .ok (.invokevirtual 273, 3)) (hcs : cells + 0 ≤ R.cells ∧ slots + 0 ≤ R.slots) (kk : ∀ (H1 : Heap) (locs1 : List Loc), HS G s x.2 H1 locs1 → W p l e R s m args below meth c H1 locs1 cells slots Q (F0 m (pc + 3) ls (.int x.1 :: rest))) : W p l e R s m args below meth c H locs cells slots Q (F0 m pc ls (.ref a :: rest)) := by
  refine kI hH (rV (As := []) (rest := rest) X hH (t_X7_countQuiet h) vc_7 (c_X7_countQuiet l G μ a x h) (List.forall_mem_cons.mpr ⟨u_718, (List.forall_mem_cons.mpr ⟨u_719, (List.forall_mem_cons.mpr ⟨u_720, (List.forall_mem_cons.mpr ⟨u_27, (fun _ h9 => absurd h9 List.not_mem_nil)⟩)⟩)⟩)⟩) u_721 (rmo hRL (Nat.le_trans (by decide) hk.1) (Nat.le_trans (by decide) hk.2)) ddV_X7_countQuiet rfl hls rfl hroom hdg hcs) kk
set_option maxHeartbeats 1000000 in
theorem iv_X11_276 {p : Program} {e : Env} {R : Room} {s : State} {m : MethodId} {args : Array Value} {below : List Frame} {meth : Method} {c : Code} {H : Heap} {locs : List Loc} {cells slots : Nat} {Q : State → Prop} {cc : ByteArray} {pc : Nat} {ls : Array Slot} {rest : List Value} {nL : Nat} {G : CG} {μ : Mm} {a : Nat}  {x : Int32} {k k2 : Nat} (l : Launch) (X : Cx p s m args meth c cc nL RX11 G) (hH : HS G s μ H locs) (hRL : RmL R k k2) (hk : 1 + 1 ≤ k ∧ 22 ≤ k2) (h : f_X7_lastInQuiet μ a = some x) (hls : ls.size = nL) (hroom : (rest.map fun v => v.category).sum ≤ 8) (hdg : decode cc pc = .ok (.invokevirtual 276, 3)) (hcs : cells + 0 ≤ R.cells ∧ slots + 0 ≤ R.slots) (kk : ∀ (H1 : Heap) (locs1 : List Loc), HS G s μ H1 locs1 → W p l e R s m args below meth c H1 locs1 cells slots Q (F0 m (pc + 3) ls (.int x :: rest))) : W p l e R s m args below meth c H locs cells slots Q (F0 m pc ls (.ref a :: rest)) := by
  refine kI hH (rV (As := []) (rest := rest) X hH (t_X7_lastInQuiet h) vc_7 (c_X7_lastInQuiet l G μ a x h) (List.forall_mem_cons.mpr ⟨u_722, (List.forall_mem_cons.mpr ⟨u_723, (List.forall_mem_cons.mpr ⟨u_724, (List.forall_mem_cons.mpr ⟨u_27, (fun _ h9 => absurd h9 List.not_mem_nil)⟩)⟩)⟩)⟩) u_725 (rmo hRL (Nat.le_trans (by decide) hk.1) (Nat.le_trans (by decide) hk.2)) ddV_X7_lastInQuiet rfl hls rfl hroom hdg hcs) kk
theorem t_X11_quiet {μ : Mm} {a0 : Nat} {x : Int32 × Mm} (h : f_X11_quiet μ a0 = some x) : tg μ a0 = 12 := by
  unfold f_X11_quiet at h
  exact (gsn h).1
set_option maxHeartbeats 4000000 in
set_option maxRecDepth 100000 in
theorem c_X11_quiet (l : Launch) (G : CG) (μ : Mm) (a0 : Nat) (x : Int32 × Mm) (h : f_X11_quiet μ a0 = some x) : Met l yX11_quiet (.code yX11_quiet cX11_quiet 2 (some .int) :: UW) (rmk 6 106 0 0) (PC G [.ref a0] μ) (QI G x.1 x.2) 0 0 (fA G) := by
  refine Met.ofW (cc := cX11_quiet) (maxL := 2) (ret := (some .int)) (by decide) rfl ?_
  intro p e s m args below meth c s₁ B hml hv
  obtain ⟨X, hH, hr, rfl, hnm⟩ := cx_in B hml hv
  have X : Cx p s m _ meth c cX11_quiet 2 RX11 G := X
  have hx := X.1
  have hb := X.2.1
  have hown := X.2.2.2.1
  have hts := X.2.2.2.2.1
  have hRL : RmL (rmk 6 106 0 0) 6 106 := ⟨Nat.le_refl _, Nat.le_refl _⟩
  have hcs : 0 ≤ (rmk 0 0 0 0).cells ∧ 0 ≤ (rmk 0 0 0 0).slots := ⟨Nat.zero_le _, Nat.zero_le _⟩
  refine ls_in (Nat.le_of_ble_eq_true rfl) (fun ls hl => ?_)
  have hl : lv_has ls 2 [(0, .ref a0)] := hl
  unfold f_X11_quiet at h
  obtain ⟨htg, h⟩ := gsn h
  refine lv_aload_n hx hb dX11_quiet_0 rfl (lv_at hl 0 rfl) ?_
  obtain ⟨x1, hx1, h⟩ := bnd h
  refine gf_X11_21 X hH hx1 dX11_quiet_1 ?_
  obtain ⟨x2, hx2, h⟩ := bnd h
  refine iv_X11_204 l X hH hRL (by decide) hx2 hl.1 (Nat.le_of_ble_eq_true rfl) dX11_quiet_4 hcs (fun H locs hH => ?_)
  refine lv_if_eq (tgt := 13) hx hb dX11_quiet_7 (by decide) (fun hc3 => ?_) (fun hc3 => ?_)
  · replace h := ift h hc3
    refine lv_aload_n hx hb dX11_quiet_13 rfl (lv_at hl 0 rfl) ?_
    obtain ⟨x4, hx4, h⟩ := bnd h
    refine gf_X11_43 X hH hx4 dX11_quiet_14 ?_
    refine lv_aload_n hx hb dX11_quiet_17 rfl (lv_at hl 0 rfl) ?_
    obtain ⟨x5, hx5, h⟩ := bnd h
    refine gf_X11_21 X hH hx5 dX11_quiet_18 ?_
    obtain ⟨x6, hx6, h⟩ := bnd h
    refine iv_X11_256 l X hH hRL (by decide) hx6 hl.1 (Nat.le_of_ble_eq_true rfl) dX11_quiet_21 hcs (fun H locs hH => ?_)
    refine lv_aload_n hx hb dX11_quiet_24 rfl (lv_at hl 0 rfl) ?_
    obtain ⟨x7, hx7, h⟩ := bnd h
    refine gf_X11_43 X hH hx7 dX11_quiet_25 ?_
    obtain ⟨x8, hx8, h⟩ := bnd h
    refine iv_X11_273 l X hH hRL (by decide) hx8 hl.1 (Nat.le_of_ble_eq_true rfl) dX11_quiet_28 hcs (fun H locs hH => ?_)
    refine lv_istore_n (lv' := [(1, .int x8.1), (0, .ref a0)]) hx hb dX11_quiet_31 rfl hl (by decide) rfl (fun ls hl => ?_)
    refine lv_aload_n hx hb dX11_quiet_32 rfl (lv_at hl 1 rfl) ?_
    refine lv_aload_n hx hb dX11_quiet_33 rfl (lv_at hl 1 rfl) ?_
    obtain ⟨x9, hx9, h⟩ := bnd h
    refine gf_X11_43 X hH hx9 dX11_quiet_34 ?_
    obtain ⟨x10, hx10, h⟩ := bnd h
    refine iv_X11_276 l X hH hRL (by decide) hx10 hl.1 (Nat.le_of_ble_eq_true rfl) dX11_quiet_37 hcs (fun H locs hH => ?_)
    obtain ⟨x11, hx11, h⟩ := bnd h
    refine pf_X11_69 X hH hx11 dX11_quiet_40 (fun H locs hH => ?_)
    refine lv_aload_n hx hb dX11_quiet_43 rfl (lv_at hl 1 rfl) ?_
    refine lv_iload_n hx hb dX11_quiet_44 rfl (lv_at hl 0 rfl) ?_
    refine lv_i2l hx hb dX11_quiet_45 rfl ?_
    refine lv_lconst (v := 1) hx hb dX11_quiet_46 (by decide) ?_
    obtain ⟨x12, hx12, h⟩ := bnd h
    refine iv_X11_249 l X hH hRL (by decide) hx12 hl.1 (Nat.le_of_ble_eq_true rfl) dX11_quiet_47 hcs (fun H locs hH => ?_)
    exact eI X hH h hr dX11_quiet_50 (Nat.le_of_ble_eq_true rfl) (Nat.le_of_ble_eq_true rfl)
  · replace h := iff' h hc3
    refine lv_bipush (v := -4) hx hb dX11_quiet_10 (by decide) ?_
    exact eI X hH h hr dX11_quiet_12 (Nat.le_of_ble_eq_true rfl) (Nat.le_of_ble_eq_true rfl)
set_option maxHeartbeats 4000000 in
set_option maxRecDepth 100000 in
theorem w_X11_cheap_51 {p : Program} {e : Env} {R : Room} {s : State} {m : MethodId} {args : Array Value} {below : List Frame} {meth : Method} {c : Code} {cells slots : Nat} {Q : State → Prop} {G : CG} (l : Launch) (X : Cx p s m args meth c cX11_cheap 2 RX11 G) (hRL : RmL R 6 106) (hcs : cells ≤ R.cells ∧ slots ≤ R.slots) : ∀ (n : Nat) (v0 : Nat) (v1 : Int32) (μ : Mm) (x : Mm), lp_X11_cheap_51 n v0 v1 μ = some x → (∀ (H : Heap) (locs : List Loc) (ls : Array Slot), HS G s x H locs → lv_has ls 2 [(0, .ref v0)] → W p l e R s m args below meth c H locs cells slots Q (F0 m 89 ls [])) → ∀ (H : Heap) (locs : List Loc) (ls : Array Slot), HS G s μ H locs → lv_has ls 2 [(0, .ref v0), (1, .int v1)] → W p l e R s m args below meth c H locs cells slots Q (F0 m 51 ls []) := by
  have hx := X.1
  have hb := X.2.1
  have hown := X.2.2.2.1
  have hts := X.2.2.2.2.1
  intro n
  induction n with
  | zero =>
    intro v0 v1 μ x h
    rw [lp_X11_cheap_51] at h
    cases h
  | succ n ih =>
    intro v0 v1 μ x h k0 H locs ls hH hl
    rw [lp_X11_cheap_51] at h
    refine lv_iload_n hx hb dX11_cheap_51 rfl (lv_at hl 1 rfl) ?_
    refine lv_aload_n hx hb dX11_cheap_52 rfl (lv_at hl 0 rfl) ?_
    obtain ⟨x13, hx13, h⟩ := bnd h
    refine gf_X11_50 X hH hx13 dX11_cheap_53 ?_
    obtain ⟨x14, hx14, h⟩ := bnd h
    refine gf_X11_126 X hH hx14 dX11_cheap_56 ?_
    refine lv_icmp_ge (tgt := 89) hx hb dX11_cheap_59 (by decide) (fun hc15 => ?_) (fun hc15 => ?_)
    · replace h := ift h hc15
      cases h
      exact k0 _ _ _ hH (lv_sub hl [0] rfl)
    · replace h := iff' h hc15
      refine lv_aload_n hx hb dX11_cheap_62 rfl (lv_at hl 0 rfl) ?_
      refine lv_bipush (v := 6) hx hb dX11_cheap_63 (by decide) ?_
      refine lv_aload_n hx hb dX11_cheap_65 rfl (lv_at hl 0 rfl) ?_
      obtain ⟨x16, hx16, h⟩ := bnd h
      refine gf_X11_69 X hH hx16 dX11_cheap_66 ?_
      refine lv_imul hx hb dX11_cheap_69 ?_
      refine lv_aload_n hx hb dX11_cheap_70 rfl (lv_at hl 0 rfl) ?_
      obtain ⟨x17, hx17, h⟩ := bnd h
      refine gf_X11_50 X hH hx17 dX11_cheap_71 ?_
      obtain ⟨x18, hx18, h⟩ := bnd h
      refine gf_X11_95 X hH hx18 dX11_cheap_74 ?_
      refine lv_iload_n hx hb dX11_cheap_77 rfl (lv_at hl 1 rfl) ?_
      obtain ⟨x19, hx19, h⟩ := bnd h
      refine w_aI X hH hx19 dX11_cheap_78 ?_
      refine lv_iadd hx hb dX11_cheap_79 ?_
      obtain ⟨x20, hx20, h⟩ := bnd h
      refine pf_X11_69 X hH hx20 dX11_cheap_80 (fun H locs hH => ?_)
      refine lv_iinc (v := (v1 + 1)) (lv' := [(1, .int (v1 + 1)), (0, .ref v0)]) hx hb dX11_cheap_83 hl (k := 1) rfl rfl (by decide) rfl (fun ls hl => ?_)
      refine lv_goto (tgt := 51) hx hb dX11_cheap_86 (by decide) ?_
      exact ih _ _ _ _ h k0 _ _ _ hH (lv_sub hl [1, 0] rfl)
theorem t_X11_cheap {μ : Mm} {a0 : Nat} {x : Int32 × Mm} (h : f_X11_cheap μ a0 = some x) : tg μ a0 = 12 := by
  unfold f_X11_cheap at h
  exact (gsn h).1
set_option maxHeartbeats 4000000 in
set_option maxRecDepth 100000 in
theorem c_X11_cheap (l : Launch) (G : CG) (μ : Mm) (a0 : Nat) (x : Int32 × Mm) (h : f_X11_cheap μ a0 = some x) : Met l yX11_cheap (.code yX11_cheap cX11_cheap 2 (some .int) :: UW) (rmk 6 106 0 0) (PC G [.ref a0] μ) (QI G x.1 x.2) 0 0 (fA G) := by
  refine Met.ofW (cc := cX11_cheap) (maxL := 2) (ret := (some .int)) (by decide) rfl ?_
  intro p e s m args below meth c s₁ B hml hv
  obtain ⟨X, hH, hr, rfl, hnm⟩ := cx_in B hml hv
  have X : Cx p s m _ meth c cX11_cheap 2 RX11 G := X
  have hx := X.1
  have hb := X.2.1
  have hown := X.2.2.2.1
  have hts := X.2.2.2.2.1
  have hRL : RmL (rmk 6 106 0 0) 6 106 := ⟨Nat.le_refl _, Nat.le_refl _⟩
  have hcs : 0 ≤ (rmk 0 0 0 0).cells ∧ 0 ≤ (rmk 0 0 0 0).slots := ⟨Nat.zero_le _, Nat.zero_le _⟩
  refine ls_in (Nat.le_of_ble_eq_true rfl) (fun ls hl => ?_)
  have hl : lv_has ls 2 [(0, .ref a0)] := hl
  unfold f_X11_cheap at h
  obtain ⟨htg, h⟩ := gsn h
  refine lv_aload_n hx hb dX11_cheap_0 rfl (lv_at hl 0 rfl) ?_
  obtain ⟨x1, hx1, h⟩ := bnd h
  refine gf_X11_21 X hH hx1 dX11_cheap_1 ?_
  obtain ⟨x2, hx2, h⟩ := bnd h
  refine iv_X11_204 l X hH hRL (by decide) hx2 hl.1 (Nat.le_of_ble_eq_true rfl) dX11_cheap_4 hcs (fun H locs hH => ?_)
  refine lv_if_eq (tgt := 13) hx hb dX11_cheap_7 (by decide) (fun hc3 => ?_) (fun hc3 => ?_)
  · replace h := ift h hc3
    refine lv_aload_n hx hb dX11_cheap_13 rfl (lv_at hl 0 rfl) ?_
    obtain ⟨x4, hx4, h⟩ := bnd h
    refine gf_X11_43 X hH hx4 dX11_cheap_14 ?_
    refine lv_aload_n hx hb dX11_cheap_17 rfl (lv_at hl 0 rfl) ?_
    obtain ⟨x5, hx5, h⟩ := bnd h
    refine gf_X11_21 X hH hx5 dX11_cheap_18 ?_
    obtain ⟨x6, hx6, h⟩ := bnd h
    refine iv_X11_256 l X hH hRL (by decide) hx6 hl.1 (Nat.le_of_ble_eq_true rfl) dX11_cheap_21 hcs (fun H locs hH => ?_)
    refine lv_aload_n hx hb dX11_cheap_24 rfl (lv_at hl 0 rfl) ?_
    obtain ⟨x7, hx7, h⟩ := bnd h
    refine gf_X11_43 X hH hx7 dX11_cheap_25 ?_
    refine lv_iconst (v := -1) hx hb dX11_cheap_28 (by decide) ?_
    refine lv_iconst (v := 0) hx hb dX11_cheap_29 (by decide) ?_
    obtain ⟨x8, hx8, h⟩ := bnd h
    refine iv_X11_260 l X hH hRL (by decide) hx8 hl.1 (Nat.le_of_ble_eq_true rfl) dX11_cheap_30 hcs (fun H locs hH => ?_)
    refine lv_aload_n hx hb dX11_cheap_33 rfl (lv_at hl 0 rfl) ?_
    obtain ⟨x9, hx9, h⟩ := bnd h
    refine gf_X11_43 X hH hx9 dX11_cheap_34 ?_
    refine lv_aload_n hx hb dX11_cheap_37 rfl (lv_at hl 0 rfl) ?_
    obtain ⟨x10, hx10, h⟩ := bnd h
    refine gf_X11_50 X hH hx10 dX11_cheap_38 ?_
    obtain ⟨x11, hx11, h⟩ := bnd h
    refine iv_X11_267 l X hH hRL (by decide) hx11 hl.1 (Nat.le_of_ble_eq_true rfl) dX11_cheap_41 hcs (fun H locs hH => ?_)
    refine lv_aload_n hx hb dX11_cheap_44 rfl (lv_at hl 0 rfl) ?_
    refine lv_iconst (v := 0) hx hb dX11_cheap_45 (by decide) ?_
    obtain ⟨x12, hx12, h⟩ := bnd h
    refine pf_X11_69 X hH hx12 dX11_cheap_46 (fun H locs hH => ?_)
    refine lv_iconst (v := 0) hx hb dX11_cheap_49 (by decide) ?_
    refine lv_istore_n (lv' := [(1, .int (0 : Int32)), (0, .ref a0)]) hx hb dX11_cheap_50 rfl hl (by decide) rfl (fun ls hl => ?_)
    obtain ⟨x21, hx21, hhx21⟩ := bnd h
    clear h
    refine w_X11_cheap_51 l X hRL hcs BIG a0 (0 : Int32) x12 x21 hx21 (fun H locs ls hH hl => ?_) _ _ _ hH (lv_sub hl [1, 0] rfl)
    · have h := hhx21
      clear hhx21
      refine lv_aload_n hx hb dX11_cheap_89 rfl (lv_at hl 0 rfl) ?_
      obtain ⟨x22, hx22, h⟩ := bnd h
      refine gf_X11_43 X hH hx22 dX11_cheap_90 ?_
      obtain ⟨x23, hx23, h⟩ := bnd h
      refine iv_X11_264 l X hH hRL (by decide) hx23 hl.1 (Nat.le_of_ble_eq_true rfl) dX11_cheap_93 hcs (fun H locs hH => ?_)
      exact eI X hH h hr dX11_cheap_96 (Nat.le_of_ble_eq_true rfl) (Nat.le_of_ble_eq_true rfl)
  · replace h := iff' h hc3
    refine lv_bipush (v := -4) hx hb dX11_cheap_10 (by decide) ?_
    exact eI X hH h hr dX11_cheap_12 (Nat.le_of_ble_eq_true rfl) (Nat.le_of_ble_eq_true rfl)
set_option maxHeartbeats 1000000 in
theorem iv_X11_279 {p : Program} {e : Env} {R : Room} {s : State} {m : MethodId} {args : Array Value} {below : List Frame} {meth : Method} {c : Code} {H : Heap} {locs : List Loc} {cells slots : Nat} {Q : State → Prop} {cc : ByteArray} {pc : Nat} {ls : Array Slot} {rest : List Value} {nL : Nat} {G : CG} {μ : Mm} {a : Nat} {q0 : Int32} {x : Int32} {k k2 : Nat} (l : Launch) (X : Cx p s m args meth c cc nL RX11 G) (hH : HS G s μ H locs) (hRL : RmL R k k2) (hk : 4 + 1 ≤ k ∧ 85 ≤ k2) (h : f_X3_wayTo μ a q0 = some x) (hls : ls.size = nL) (hroom : (rest.map fun v => v.category).sum ≤ 8) (hdg : decode cc pc = .ok (.invokevirtual 279, 3)) (hcs : cells + 0 ≤ R.cells ∧ slots + 0 ≤ R.slots) (kk : ∀ (H1 : Heap) (locs1 : List Loc), HS G s μ H1 locs1 → W p l e R s m args below meth c H1 locs1 cells slots Q (F0 m (pc + 3) ls (.int x :: rest))) : W p l e R s m args below meth c H locs cells slots Q (F0 m pc ls (.int q0 :: .ref a :: rest)) := by
  refine kI hH (rV (As := [.int q0]) (rest := rest) X hH (t_X3_wayTo h) vc_3 (c_X3_wayTo l G μ a q0 x h) (List.forall_mem_cons.mpr ⟨u_749, (List.forall_mem_cons.mpr ⟨u_750, (List.forall_mem_cons.mpr ⟨u_751, (List.forall_mem_cons.mpr ⟨u_22, (fun _ h9 => absurd h9 List.not_mem_nil)⟩)⟩)⟩)⟩) u_752 (rmo hRL (Nat.le_trans (by decide) hk.1) (Nat.le_trans (by decide) hk.2)) ddV_X3_wayTo rfl hls rfl hroom hdg hcs) kk
set_option maxHeartbeats 1000000 in
theorem iv_X11_282 {p : Program} {e : Env} {R : Room} {s : State} {m : MethodId} {args : Array Value} {below : List Frame} {meth : Method} {c : Code} {H : Heap} {locs : List Loc} {cells slots : Nat} {Q : State → Prop} {cc : ByteArray} {pc : Nat} {ls : Array Slot} {rest : List Value} {nL : Nat} {G : CG} {μ : Mm} {a : Nat} {q0 : Nat} {q1 : Int32} {x : Mm} {k k2 : Nat} (l : Launch) (X : Cx p s m args meth c cc nL RX11 G) (hH : HS G s μ H locs) (hRL : RmL R k k2) (hk : 5 + 1 ≤ k ∧ 116 ≤ k2) (h : f_X10_findCosts μ a q0 q1 = some x) (hls : ls.size = nL) (hroom : (rest.map fun v => v.category).sum ≤ 8) (hdg : decode cc pc = .ok (.invokevirtual 282, 3)) (hcs : cells + 0 ≤ R.cells ∧ slots + 0 ≤ R.slots) (kk : ∀ (H1 : Heap) (locs1 : List Loc), HS G s x H1 locs1 → W p l e R s m args below meth c H1 locs1 cells slots Q (F0 m (pc + 3) ls rest)) : W p l e R s m args below meth c H locs cells slots Q (F0 m pc ls (.int q1 :: .ref q0 :: .ref a :: rest)) := by
  refine kV0 hH (rV (As := [.ref q0, .int q1]) (rest := rest) X hH (t_X10_findCosts h) vc_10 (c_X10_findCosts l G μ a q0 q1 x h) (List.forall_mem_cons.mpr ⟨u_753, (List.forall_mem_cons.mpr ⟨u_754, (List.forall_mem_cons.mpr ⟨u_755, (List.forall_mem_cons.mpr ⟨u_28, (fun _ h9 => absurd h9 List.not_mem_nil)⟩)⟩)⟩)⟩) u_756 (rmo hRL (Nat.le_trans (by decide) hk.1) (Nat.le_trans (by decide) hk.2)) ddV_X10_findCosts rfl hls rfl hroom hdg hcs) kk
set_option maxHeartbeats 1000000 in
theorem iv_X11_286 {p : Program} {e : Env} {R : Room} {s : State} {m : MethodId} {args : Array Value} {below : List Frame} {meth : Method} {c : Code} {H : Heap} {locs : List Loc} {cells slots : Nat} {Q : State → Prop} {cc : ByteArray} {pc : Nat} {ls : Array Slot} {rest : List Value} {nL : Nat} {G : CG} {μ : Mm} {a : Nat} {q0 : Int32} {x : Int32} {k k2 : Nat} (l : Launch) (X : Cx p s m args meth c cc nL RX11 G) (hH : HS G s μ H locs) (hRL : RmL R k k2) (hk : 1 + 1 ≤ k ∧ 21 ≤ k2) (h : f_X10_costOf μ a q0 = some x) (hls : ls.size = nL) (hroom : (rest.map fun v => v.category).sum ≤ 8) (hdg : decode cc pc = .ok (.invokevirtual 286, 3)) (hcs : cells + 0 ≤ R.cells ∧ slots + 0 ≤ R.slots) (kk : ∀ (H1 : Heap) (locs1 : List Loc), HS G s μ H1 locs1 → W p l e R s m args below meth c H1 locs1 cells slots Q (F0 m (pc + 3) ls (.int x :: rest))) : W p l e R s m args below meth c H locs cells slots Q (F0 m pc ls (.int q0 :: .ref a :: rest)) := by
  refine kI hH (rV (As := [.int q0]) (rest := rest) X hH (t_X10_costOf h) vc_10 (c_X10_costOf l G μ a q0 x h) (List.forall_mem_cons.mpr ⟨u_764, (List.forall_mem_cons.mpr ⟨u_765, (List.forall_mem_cons.mpr ⟨u_766, (List.forall_mem_cons.mpr ⟨u_28, (fun _ h9 => absurd h9 List.not_mem_nil)⟩)⟩)⟩)⟩) u_767 (rmo hRL (Nat.le_trans (by decide) hk.1) (Nat.le_trans (by decide) hk.2)) ddV_X10_costOf rfl hls rfl hroom hdg hcs) kk
set_option maxHeartbeats 1000000 in
theorem iv_X11_289 {p : Program} {e : Env} {R : Room} {s : State} {m : MethodId} {args : Array Value} {below : List Frame} {meth : Method} {c : Code} {H : Heap} {locs : List Loc} {cells slots : Nat} {Q : State → Prop} {cc : ByteArray} {pc : Nat} {ls : Array Slot} {rest : List Value} {nL : Nat} {G : CG} {μ : Mm} {a : Nat} {q0 : Nat} {q1 : Int32} {x : Int32} {k k2 : Nat} (l : Launch) (X : Cx p s m args meth c cc nL RX11 G) (hH : HS G s μ H locs) (hRL : RmL R k k2) (hk : 5 + 1 ≤ k ∧ 105 ≤ k2) (h : f_X10_firstWalker μ a q0 q1 = some x) (hls : ls.size = nL) (hroom : (rest.map fun v => v.category).sum ≤ 8) (hdg : decode cc pc = .ok (.invokevirtual 289, 3)) (hcs : cells + 0 ≤ R.cells ∧ slots + 0 ≤ R.slots) (kk : ∀ (H1 : Heap) (locs1 : List Loc), HS G s μ H1 locs1 → W p l e R s m args below meth c H1 locs1 cells slots Q (F0 m (pc + 3) ls (.int x :: rest))) : W p l e R s m args below meth c H locs cells slots Q (F0 m pc ls (.int q1 :: .ref q0 :: .ref a :: rest)) := by
  refine kI hH (rV (As := [.ref q0, .int q1]) (rest := rest) X hH (t_X10_firstWalker h) vc_10 (c_X10_firstWalker l G μ a q0 q1 x h) (List.forall_mem_cons.mpr ⟨u_768, (List.forall_mem_cons.mpr ⟨u_769, (List.forall_mem_cons.mpr ⟨u_770, (List.forall_mem_cons.mpr ⟨u_28, (fun _ h9 => absurd h9 List.not_mem_nil)⟩)⟩)⟩)⟩) u_771 (rmo hRL (Nat.le_trans (by decide) hk.1) (Nat.le_trans (by decide) hk.2)) ddV_X10_firstWalker rfl hls rfl hroom hdg hcs) kk
theorem t_X11_fewest {μ : Mm} {a0 : Nat} {p1 : Int32} {x : Int32 × Mm} (h : f_X11_fewest μ a0 p1 = some x) : tg μ a0 = 12 := by
  unfold f_X11_fewest at h
  exact (gsn h).1
set_option maxHeartbeats 4000000 in
set_option maxRecDepth 100000 in
theorem c_X11_fewest (l : Launch) (G : CG) (μ : Mm) (a0 : Nat) (p1 : Int32) (x : Int32 × Mm) (h : f_X11_fewest μ a0 p1 = some x) : Met l yX11_fewest (.code yX11_fewest cX11_fewest 4 (some .int) :: UW) (rmk 6 116 0 0) (PC G [.ref a0, .int p1] μ) (QI G x.1 x.2) 0 0 (fA G) := by
  refine Met.ofW (cc := cX11_fewest) (maxL := 4) (ret := (some .int)) (by decide) rfl ?_
  intro p e s m args below meth c s₁ B hml hv
  obtain ⟨X, hH, hr, rfl, hnm⟩ := cx_in B hml hv
  have X : Cx p s m _ meth c cX11_fewest 4 RX11 G := X
  have hx := X.1
  have hb := X.2.1
  have hown := X.2.2.2.1
  have hts := X.2.2.2.2.1
  have hRL : RmL (rmk 6 116 0 0) 6 116 := ⟨Nat.le_refl _, Nat.le_refl _⟩
  have hcs : 0 ≤ (rmk 0 0 0 0).cells ∧ 0 ≤ (rmk 0 0 0 0).slots := ⟨Nat.zero_le _, Nat.zero_le _⟩
  refine ls_in (Nat.le_of_ble_eq_true rfl) (fun ls hl => ?_)
  have hl : lv_has ls 4 [(0, .ref a0), (1, .int p1)] := hl
  unfold f_X11_fewest at h
  obtain ⟨htg, h⟩ := gsn h
  refine lv_aload_n hx hb dX11_fewest_0 rfl (lv_at hl 0 rfl) ?_
  obtain ⟨x1, hx1, h⟩ := bnd h
  refine gf_X11_21 X hH hx1 dX11_fewest_1 ?_
  refine lv_iload_n hx hb dX11_fewest_4 rfl (lv_at hl 1 rfl) ?_
  obtain ⟨x2, hx2, h⟩ := bnd h
  refine iv_X11_253 l X hH hRL (by decide) hx2 hl.1 (Nat.le_of_ble_eq_true rfl) dX11_fewest_5 hcs (fun H locs hH => ?_)
  refine lv_if_ne (tgt := 13) hx hb dX11_fewest_8 (by decide) (fun hc3 => ?_) (fun hc3 => ?_)
  · replace h := iff' h hc3
    refine lv_aload_n hx hb dX11_fewest_13 rfl (lv_at hl 0 rfl) ?_
    obtain ⟨x4, hx4, h⟩ := bnd h
    refine gf_X11_21 X hH hx4 dX11_fewest_14 ?_
    refine lv_iload_n hx hb dX11_fewest_17 rfl (lv_at hl 1 rfl) ?_
    obtain ⟨x5, hx5, h⟩ := bnd h
    refine iv_X11_279 l X hH hRL (by decide) hx5 hl.1 (Nat.le_of_ble_eq_true rfl) dX11_fewest_18 hcs (fun H locs hH => ?_)
    refine lv_istore_n (lv' := [(2, .int x5), (0, .ref a0), (1, .int p1)]) hx hb dX11_fewest_21 rfl hl (by decide) rfl (fun ls hl => ?_)
    refine lv_aload_n hx hb dX11_fewest_22 rfl (lv_at hl 1 rfl) ?_
    obtain ⟨x6, hx6, h⟩ := bnd h
    refine gf_X11_57 X hH hx6 dX11_fewest_23 ?_
    refine lv_aload_n hx hb dX11_fewest_26 rfl (lv_at hl 1 rfl) ?_
    obtain ⟨x7, hx7, h⟩ := bnd h
    refine gf_X11_21 X hH hx7 dX11_fewest_27 ?_
    refine lv_iconst (v := 0) hx hb dX11_fewest_30 (by decide) ?_
    obtain ⟨x8, hx8, h⟩ := bnd h
    refine iv_X11_282 l X hH hRL (by decide) hx8 hl.1 (Nat.le_of_ble_eq_true rfl) dX11_fewest_31 hcs (fun H locs hH => ?_)
    refine lv_aload_n hx hb dX11_fewest_34 rfl (lv_at hl 1 rfl) ?_
    obtain ⟨x9, hx9, h⟩ := bnd h
    refine gf_X11_57 X hH hx9 dX11_fewest_35 ?_
    refine lv_iload_n hx hb dX11_fewest_38 rfl (lv_at hl 0 rfl) ?_
    obtain ⟨x10, hx10, h⟩ := bnd h
    refine iv_X11_286 l X hH hRL (by decide) hx10 hl.1 (Nat.le_of_ble_eq_true rfl) dX11_fewest_39 hcs (fun H locs hH => ?_)
    refine lv_istore_n (lv' := [(3, .int x10), (2, .int x5), (0, .ref a0), (1, .int p1)]) hx hb dX11_fewest_42 rfl hl (by decide) rfl (fun ls hl => ?_)
    refine lv_iload_n hx hb dX11_fewest_43 rfl (lv_at hl 0 rfl) ?_
    refine lv_bipush (v := -9) hx hb dX11_fewest_44 (by decide) ?_
    refine lv_icmp_eq (tgt := 65) hx hb dX11_fewest_46 (by decide) (fun hc11 => ?_) (fun hc11 => ?_)
    · replace h := ift h hc11
      refine lv_iload_n hx hb dX11_fewest_65 rfl (lv_at hl 0 rfl) ?_
      exact eI X hH h hr dX11_fewest_66 (Nat.le_of_ble_eq_true rfl) (Nat.le_of_ble_eq_true rfl)
    · replace h := iff' h hc11
      refine lv_aload_n hx hb dX11_fewest_49 rfl (lv_at hl 2 rfl) ?_
      refine lv_aload_n hx hb dX11_fewest_50 rfl (lv_at hl 2 rfl) ?_
      obtain ⟨x12, hx12, h⟩ := bnd h
      refine gf_X11_57 X hH hx12 dX11_fewest_51 ?_
      refine lv_aload_n hx hb dX11_fewest_54 rfl (lv_at hl 2 rfl) ?_
      obtain ⟨x13, hx13, h⟩ := bnd h
      refine gf_X11_21 X hH hx13 dX11_fewest_55 ?_
      refine lv_iload_n hx hb dX11_fewest_58 rfl (lv_at hl 1 rfl) ?_
      obtain ⟨x14, hx14, h⟩ := bnd h
      refine iv_X11_289 l X hH hRL (by decide) hx14 hl.1 (Nat.le_of_ble_eq_true rfl) dX11_fewest_59 hcs (fun H locs hH => ?_)
      obtain ⟨x15, hx15, h⟩ := bnd h
      refine pf_X11_69 X hH hx15 dX11_fewest_62 (fun H locs hH => ?_)
      refine lv_iload_n hx hb dX11_fewest_65 rfl (lv_at hl 0 rfl) ?_
      exact eI X hH h hr dX11_fewest_66 (Nat.le_of_ble_eq_true rfl) (Nat.le_of_ble_eq_true rfl)
  · replace h := ift h hc3
    refine lv_iconst (v := -1) hx hb dX11_fewest_11 (by decide) ?_
    exact eI X hH h hr dX11_fewest_12 (Nat.le_of_ble_eq_true rfl) (Nat.le_of_ble_eq_true rfl)
theorem t_X11_feet {μ : Mm} {a0 : Nat} {p1 : Int32} {x : Int32 × Mm} (h : f_X11_feet μ a0 p1 = some x) : tg μ a0 = 12 := by
  unfold f_X11_feet at h
  exact (gsn h).1
set_option maxHeartbeats 4000000 in
set_option maxRecDepth 100000 in
theorem c_X11_feet (l : Launch) (G : CG) (μ : Mm) (a0 : Nat) (p1 : Int32) (x : Int32 × Mm) (h : f_X11_feet μ a0 p1 = some x) : Met l yX11_feet (.code yX11_feet cX11_feet 2 (some .int) :: UW) (rmk 6 116 0 0) (PC G [.ref a0, .int p1] μ) (QI G x.1 x.2) 0 0 (fA G) := by
  refine Met.ofW (cc := cX11_feet) (maxL := 2) (ret := (some .int)) (by decide) rfl ?_
  intro p e s m args below meth c s₁ B hml hv
  obtain ⟨X, hH, hr, rfl, hnm⟩ := cx_in B hml hv
  have X : Cx p s m _ meth c cX11_feet 2 RX11 G := X
  have hx := X.1
  have hb := X.2.1
  have hown := X.2.2.2.1
  have hts := X.2.2.2.2.1
  have hRL : RmL (rmk 6 116 0 0) 6 116 := ⟨Nat.le_refl _, Nat.le_refl _⟩
  have hcs : 0 ≤ (rmk 0 0 0 0).cells ∧ 0 ≤ (rmk 0 0 0 0).slots := ⟨Nat.zero_le _, Nat.zero_le _⟩
  refine ls_in (Nat.le_of_ble_eq_true rfl) (fun ls hl => ?_)
  have hl : lv_has ls 2 [(0, .ref a0), (1, .int p1)] := hl
  unfold f_X11_feet at h
  obtain ⟨htg, h⟩ := gsn h
  refine lv_aload_n hx hb dX11_feet_0 rfl (lv_at hl 0 rfl) ?_
  obtain ⟨x1, hx1, h⟩ := bnd h
  refine gf_X11_21 X hH hx1 dX11_feet_1 ?_
  refine lv_iload_n hx hb dX11_feet_4 rfl (lv_at hl 1 rfl) ?_
  obtain ⟨x2, hx2, h⟩ := bnd h
  refine iv_X11_253 l X hH hRL (by decide) hx2 hl.1 (Nat.le_of_ble_eq_true rfl) dX11_feet_5 hcs (fun H locs hH => ?_)
  refine lv_if_ne (tgt := 13) hx hb dX11_feet_8 (by decide) (fun hc3 => ?_) (fun hc3 => ?_)
  · replace h := iff' h hc3
    refine lv_aload_n hx hb dX11_feet_13 rfl (lv_at hl 0 rfl) ?_
    obtain ⟨x4, hx4, h⟩ := bnd h
    refine gf_X11_57 X hH hx4 dX11_feet_14 ?_
    refine lv_aload_n hx hb dX11_feet_17 rfl (lv_at hl 0 rfl) ?_
    obtain ⟨x5, hx5, h⟩ := bnd h
    refine gf_X11_21 X hH hx5 dX11_feet_18 ?_
    refine lv_iconst (v := 1) hx hb dX11_feet_21 (by decide) ?_
    obtain ⟨x6, hx6, h⟩ := bnd h
    refine iv_X11_282 l X hH hRL (by decide) hx6 hl.1 (Nat.le_of_ble_eq_true rfl) dX11_feet_22 hcs (fun H locs hH => ?_)
    refine lv_aload_n hx hb dX11_feet_25 rfl (lv_at hl 0 rfl) ?_
    obtain ⟨x7, hx7, h⟩ := bnd h
    refine gf_X11_57 X hH hx7 dX11_feet_26 ?_
    refine lv_aload_n hx hb dX11_feet_29 rfl (lv_at hl 0 rfl) ?_
    obtain ⟨x8, hx8, h⟩ := bnd h
    refine gf_X11_21 X hH hx8 dX11_feet_30 ?_
    refine lv_iload_n hx hb dX11_feet_33 rfl (lv_at hl 1 rfl) ?_
    obtain ⟨x9, hx9, h⟩ := bnd h
    refine iv_X11_279 l X hH hRL (by decide) hx9 hl.1 (Nat.le_of_ble_eq_true rfl) dX11_feet_34 hcs (fun H locs hH => ?_)
    obtain ⟨x10, hx10, h⟩ := bnd h
    refine iv_X11_286 l X hH hRL (by decide) hx10 hl.1 (Nat.le_of_ble_eq_true rfl) dX11_feet_37 hcs (fun H locs hH => ?_)
    exact eI X hH h hr dX11_feet_40 (Nat.le_of_ble_eq_true rfl) (Nat.le_of_ble_eq_true rfl)
  · replace h := ift h hc3
    refine lv_iconst (v := -1) hx hb dX11_feet_11 (by decide) ?_
    exact eI X hH h hr dX11_feet_12 (Nat.le_of_ble_eq_true rfl) (Nat.le_of_ble_eq_true rfl)
set_option maxHeartbeats 1000000 in
theorem iv_X11_293 {p : Program} {e : Env} {R : Room} {s : State} {m : MethodId} {args : Array Value} {below : List Frame} {meth : Method} {c : Code} {H : Heap} {locs : List Loc} {cells slots : Nat} {Q : State → Prop} {cc : ByteArray} {pc : Nat} {ls : Array Slot} {rest : List Value} {nL : Nat} {G : CG} {μ : Mm} {a : Nat} {q0 : Int32} {x : Int32} {k k2 : Nat} (l : Launch) (X : Cx p s m args meth c cc nL RX11 G) (hH : HS G s μ H locs) (hRL : RmL R k k2) (hk : 5 + 1 ≤ k ∧ 106 ≤ k2) (h : f_X3_stride μ a q0 = some x) (hls : ls.size = nL) (hroom : (rest.map fun v => v.category).sum ≤ 8) (hdg : decode cc pc = .ok (.invokevirtual 293, 3)) (hcs : cells + 0 ≤ R.cells ∧ slots + 0 ≤ R.slots) (kk : ∀ (H1 : Heap) (locs1 : List Loc), HS G s μ H1 locs1 → W p l e R s m args below meth c H1 locs1 cells slots Q (F0 m (pc + 3) ls (.int x :: rest))) : W p l e R s m args below meth c H locs cells slots Q (F0 m pc ls (.int q0 :: .ref a :: rest)) := by
  refine kI hH (rV (As := [.int q0]) (rest := rest) X hH (t_X3_stride h) vc_3 (c_X3_stride l G μ a q0 x h) (List.forall_mem_cons.mpr ⟨u_780, (List.forall_mem_cons.mpr ⟨u_781, (List.forall_mem_cons.mpr ⟨u_782, (List.forall_mem_cons.mpr ⟨u_22, (fun _ h9 => absurd h9 List.not_mem_nil)⟩)⟩)⟩)⟩) u_783 (rmo hRL (Nat.le_trans (by decide) hk.1) (Nat.le_trans (by decide) hk.2)) ddV_X3_stride rfl hls rfl hroom hdg hcs) kk
set_option maxHeartbeats 1000000 in
theorem iv_X11_296 {p : Program} {e : Env} {R : Room} {s : State} {m : MethodId} {args : Array Value} {below : List Frame} {meth : Method} {c : Code} {H : Heap} {locs : List Loc} {cells slots : Nat} {Q : State → Prop} {cc : ByteArray} {pc : Nat} {ls : Array Slot} {rest : List Value} {nL : Nat} {G : CG} {μ : Mm} {q0 : Int32} {q1 : Int32} {x : Int32} {k k2 : Nat} (l : Launch) (X : Cx p s m args meth c cc nL RX11 G) (hH : HS G s μ H locs) (hRL : RmL R k k2) (hk : 2 + 1 ≤ k ∧ 43 ≤ k2) (h : f_X11_remainder μ q0 q1 = some x) (hls : ls.size = nL) (hroom : (rest.map fun v => v.category).sum ≤ 8) (hdg : decode cc pc = .ok (.invokestatic 296, 3)) (hcs : cells + 0 ≤ R.cells ∧ slots + 0 ≤ R.slots) (kk : ∀ (H1 : Heap) (locs1 : List Loc), HS G s μ H1 locs1 → W p l e R s m args below meth c H1 locs1 cells slots Q (F0 m (pc + 3) ls (.int x :: rest))) : W p l e R s m args below meth c H locs cells slots Q (F0 m pc ls (.int q1 :: .int q0 :: rest)) := by
  refine kI hH (rS (As := [.int q0, .int q1]) (rest := rest) X hH (c_X11_remainder l G μ q0 q1 x h) (List.forall_mem_cons.mpr ⟨u_785, (List.forall_mem_cons.mpr ⟨u_377, (List.forall_mem_cons.mpr ⟨u_21, (fun _ h9 => absurd h9 List.not_mem_nil)⟩)⟩)⟩) u_378 (rmo hRL (Nat.le_trans (by decide) hk.1) (Nat.le_trans (by decide) hk.2)) ddS_X11_remainder rfl hls rfl hroom hdg hcs) kk
set_option maxHeartbeats 4000000 in
set_option maxRecDepth 100000 in
theorem w_X11_never_40 {p : Program} {e : Env} {R : Room} {s : State} {m : MethodId} {args : Array Value} {below : List Frame} {meth : Method} {c : Code} {cells slots : Nat} {Q : State → Prop} {G : CG} (l : Launch) (X : Cx p s m args meth c cX11_never 4 RX11 G) (hRL : RmL R 6 106) (hcs : cells ≤ R.cells ∧ slots ≤ R.slots) : ∀ (n : Nat) (v0 : Nat) (v1 : Int32) (v2 : Int32) (v3 : Int32) (μ : Mm) (x : Int32 × Mm), lp_X11_never_40 n v0 v1 v2 v3 μ = some x → (∀ (H : Heap) (locs : List Loc) (ls : Array Slot), HS G s x.2 H locs → lv_has ls 4 [(2, .int x.1)] → W p l e R s m args below meth c H locs cells slots Q (F0 m 74 ls [])) → ∀ (H : Heap) (locs : List Loc) (ls : Array Slot), HS G s μ H locs → lv_has ls 4 [(0, .ref v0), (1, .int v1), (2, .int v2), (3, .int v3)] → W p l e R s m args below meth c H locs cells slots Q (F0 m 40 ls []) := by
  have hx := X.1
  have hb := X.2.1
  have hown := X.2.2.2.1
  have hts := X.2.2.2.2.1
  intro n
  induction n with
  | zero =>
    intro v0 v1 v2 v3 μ x h
    rw [lp_X11_never_40] at h
    cases h
  | succ n ih =>
    intro v0 v1 v2 v3 μ x h k0 H locs ls hH hl
    rw [lp_X11_never_40] at h
    refine lv_iload_n hx hb dX11_never_40 rfl (lv_at hl 3 rfl) ?_
    refine lv_if_lt (tgt := 74) hx hb dX11_never_41 (by decide) (fun hc9 => ?_) (fun hc9 => ?_)
    · replace h := ift h hc9
      cases h
      exact k0 _ _ _ hH (lv_sub hl [2] rfl)
    · replace h := iff' h hc9
      refine lv_iload_n hx hb dX11_never_44 rfl (lv_at hl 3 rfl) ?_
      refine lv_aload_n hx hb dX11_never_45 rfl (lv_at hl 0 rfl) ?_
      obtain ⟨x10, hx10, h⟩ := bnd h
      refine gf_X11_21 X hH hx10 dX11_never_46 ?_
      obtain ⟨x11, hx11, h⟩ := bnd h
      refine gf_X11_201 X hH hx11 dX11_never_49 ?_
      refine lv_isub hx hb dX11_never_52 ?_
      refine lv_iload_n hx hb dX11_never_53 rfl (lv_at hl 1 rfl) ?_
      obtain ⟨x12, hx12, h⟩ := bnd h
      refine iv_X11_296 l X hH hRL (by decide) hx12 hl.1 (Nat.le_of_ble_eq_true rfl) dX11_never_54 hcs (fun H locs hH => ?_)
      refine lv_if_eq (tgt := 68) hx hb dX11_never_57 (by decide) (fun hc13 => ?_) (fun hc13 => ?_)
      · replace h := ift h hc13
        refine lv_iinc (v := (v3 + (-1))) (lv' := [(3, .int (v3 + (-1))), (0, .ref v0), (1, .int v1), (2, .int v2)]) hx hb dX11_never_68 hl (k := 3) rfl rfl (by decide) rfl (fun ls hl => ?_)
        refine lv_goto (tgt := 40) hx hb dX11_never_71 (by decide) ?_
        exact ih _ _ _ _ _ _ h k0 _ _ _ hH (lv_sub hl [1, 2, 3, 0] rfl)
      · replace h := iff' h hc13
        refine lv_iinc (v := (v2 + 1)) (lv' := [(2, .int (v2 + 1)), (0, .ref v0), (1, .int v1), (3, .int v3)]) hx hb dX11_never_60 hl (k := 2) rfl rfl (by decide) rfl (fun ls hl => ?_)
        refine lv_aload_n hx hb dX11_never_63 rfl (lv_at hl 1 rfl) ?_
        refine lv_iload_n hx hb dX11_never_64 rfl (lv_at hl 3 rfl) ?_
        obtain ⟨x14, hx14, h⟩ := bnd h
        refine pf_X11_69 X hH hx14 dX11_never_65 (fun H locs hH => ?_)
        refine lv_iinc (v := (v3 + (-1))) (lv' := [(3, .int (v3 + (-1))), (2, .int (v2 + 1)), (0, .ref v0), (1, .int v1)]) hx hb dX11_never_68 hl (k := 3) rfl rfl (by decide) rfl (fun ls hl => ?_)
        refine lv_goto (tgt := 40) hx hb dX11_never_71 (by decide) ?_
        exact ih _ _ _ _ _ _ h k0 _ _ _ hH (lv_sub hl [2, 3, 1, 0] rfl)
theorem t_X11_never {μ : Mm} {a0 : Nat} {x : Int32 × Mm} (h : f_X11_never μ a0 = some x) : tg μ a0 = 12 := by
  unfold f_X11_never at h
  exact (gsn h).1
set_option maxHeartbeats 4000000 in
set_option maxRecDepth 100000 in
theorem c_X11_never (l : Launch) (G : CG) (μ : Mm) (a0 : Nat) (x : Int32 × Mm) (h : f_X11_never μ a0 = some x) : Met l yX11_never (.code yX11_never cX11_never 4 (some .int) :: UW) (rmk 6 106 0 0) (PC G [.ref a0] μ) (QI G x.1 x.2) 0 0 (fA G) := by
  refine Met.ofW (cc := cX11_never) (maxL := 4) (ret := (some .int)) (by decide) rfl ?_
  intro p e s m args below meth c s₁ B hml hv
  obtain ⟨X, hH, hr, rfl, hnm⟩ := cx_in B hml hv
  have X : Cx p s m _ meth c cX11_never 4 RX11 G := X
  have hx := X.1
  have hb := X.2.1
  have hown := X.2.2.2.1
  have hts := X.2.2.2.2.1
  have hRL : RmL (rmk 6 106 0 0) 6 106 := ⟨Nat.le_refl _, Nat.le_refl _⟩
  have hcs : 0 ≤ (rmk 0 0 0 0).cells ∧ 0 ≤ (rmk 0 0 0 0).slots := ⟨Nat.zero_le _, Nat.zero_le _⟩
  refine ls_in (Nat.le_of_ble_eq_true rfl) (fun ls hl => ?_)
  have hl : lv_has ls 4 [(0, .ref a0)] := hl
  unfold f_X11_never at h
  obtain ⟨htg, h⟩ := gsn h
  refine lv_aload_n hx hb dX11_never_0 rfl (lv_at hl 0 rfl) ?_
  obtain ⟨x1, hx1, h⟩ := bnd h
  refine gf_X11_21 X hH hx1 dX11_never_1 ?_
  obtain ⟨x2, hx2, h⟩ := bnd h
  refine iv_X11_204 l X hH hRL (by decide) hx2 hl.1 (Nat.le_of_ble_eq_true rfl) dX11_never_4 hcs (fun H locs hH => ?_)
  refine lv_if_eq (tgt := 13) hx hb dX11_never_7 (by decide) (fun hc3 => ?_) (fun hc3 => ?_)
  · replace h := ift h hc3
    refine lv_aload_n hx hb dX11_never_13 rfl (lv_at hl 0 rfl) ?_
    obtain ⟨x4, hx4, h⟩ := bnd h
    refine gf_X11_21 X hH hx4 dX11_never_14 ?_
    refine lv_iconst (v := -1) hx hb dX11_never_17 (by decide) ?_
    obtain ⟨x5, hx5, h⟩ := bnd h
    refine iv_X11_293 l X hH hRL (by decide) hx5 hl.1 (Nat.le_of_ble_eq_true rfl) dX11_never_18 hcs (fun H locs hH => ?_)
    refine lv_istore_n (lv' := [(1, .int x5), (0, .ref a0)]) hx hb dX11_never_21 rfl hl (by decide) rfl (fun ls hl => ?_)
    refine lv_iconst (v := 0) hx hb dX11_never_22 (by decide) ?_
    refine lv_istore_n (lv' := [(2, .int (0 : Int32)), (1, .int x5), (0, .ref a0)]) hx hb dX11_never_23 rfl hl (by decide) rfl (fun ls hl => ?_)
    refine lv_aload_n hx hb dX11_never_24 rfl (lv_at hl 2 rfl) ?_
    refine lv_bipush (v := -9) hx hb dX11_never_25 (by decide) ?_
    obtain ⟨x6, hx6, h⟩ := bnd h
    refine pf_X11_69 X hH hx6 dX11_never_27 (fun H locs hH => ?_)
    refine lv_aload_n hx hb dX11_never_30 rfl (lv_at hl 2 rfl) ?_
    obtain ⟨x7, hx7, h⟩ := bnd h
    refine gf_X11_21 X hH hx7 dX11_never_31 ?_
    obtain ⟨x8, hx8, h⟩ := bnd h
    refine gf_X11_181 X hH hx8 dX11_never_34 ?_
    refine lv_iconst (v := 1) hx hb dX11_never_37 (by decide) ?_
    refine lv_isub hx hb dX11_never_38 ?_
    refine lv_istore_n (lv' := [(3, .int (x8 - (1 : Int32))), (2, .int (0 : Int32)), (1, .int x5), (0, .ref a0)]) hx hb dX11_never_39 rfl hl (by decide) rfl (fun ls hl => ?_)
    obtain ⟨x15, hx15, hhx15⟩ := bnd h
    clear h
    refine w_X11_never_40 l X hRL hcs BIG a0 x5 (0 : Int32) (x8 - (1 : Int32)) x6 x15 hx15 (fun H locs ls hH hl => ?_) _ _ _ hH (lv_sub hl [3, 2, 1, 0] rfl)
    · have h := hhx15
      clear hhx15
      refine lv_iload_n hx hb dX11_never_74 rfl (lv_at hl 0 rfl) ?_
      exact eI X hH h hr dX11_never_75 (Nat.le_of_ble_eq_true rfl) (Nat.le_of_ble_eq_true rfl)
  · replace h := iff' h hc3
    refine lv_bipush (v := -4) hx hb dX11_never_10 (by decide) ?_
    exact eI X hH h hr dX11_never_12 (Nat.le_of_ble_eq_true rfl) (Nat.le_of_ble_eq_true rfl)
set_option maxHeartbeats 1000000 in
theorem iv_X11_299 {p : Program} {e : Env} {R : Room} {s : State} {m : MethodId} {args : Array Value} {below : List Frame} {meth : Method} {c : Code} {H : Heap} {locs : List Loc} {cells slots : Nat} {Q : State → Prop} {cc : ByteArray} {pc : Nat} {ls : Array Slot} {rest : List Value} {nL : Nat} {G : CG} {μ : Mm} {a : Nat} {q0 : Int32} {x : Int32} {k k2 : Nat} (l : Launch) (X : Cx p s m args meth c cc nL RX11 G) (hH : HS G s μ H locs) (hRL : RmL R k k2) (hk : 1 + 1 ≤ k ∧ 22 ≤ k2) (h : f_X7_firstFit μ a q0 = some x) (hls : ls.size = nL) (hroom : (rest.map fun v => v.category).sum ≤ 8) (hdg : decode cc pc = .ok (.invokevirtual 299, 3)) (hcs : cells + 0 ≤ R.cells ∧ slots + 0 ≤ R.slots) (kk : ∀ (H1 : Heap) (locs1 : List Loc), HS G s μ H1 locs1 → W p l e R s m args below meth c H1 locs1 cells slots Q (F0 m (pc + 3) ls (.int x :: rest))) : W p l e R s m args below meth c H locs cells slots Q (F0 m pc ls (.int q0 :: .ref a :: rest)) := by
  refine kI hH (rV (As := [.int q0]) (rest := rest) X hH (t_X7_firstFit h) vc_7 (c_X7_firstFit l G μ a q0 x h) (List.forall_mem_cons.mpr ⟨u_796, (List.forall_mem_cons.mpr ⟨u_797, (List.forall_mem_cons.mpr ⟨u_798, (List.forall_mem_cons.mpr ⟨u_27, (fun _ h9 => absurd h9 List.not_mem_nil)⟩)⟩)⟩)⟩) u_799 (rmo hRL (Nat.le_trans (by decide) hk.1) (Nat.le_trans (by decide) hk.2)) ddV_X7_firstFit rfl hls rfl hroom hdg hcs) kk
set_option maxHeartbeats 1000000 in
theorem iv_X11_302 {p : Program} {e : Env} {R : Room} {s : State} {m : MethodId} {args : Array Value} {below : List Frame} {meth : Method} {c : Code} {H : Heap} {locs : List Loc} {cells slots : Nat} {Q : State → Prop} {cc : ByteArray} {pc : Nat} {ls : Array Slot} {rest : List Value} {nL : Nat} {G : CG} {μ : Mm} {a : Nat} {q0 : Int32} {q1 : Int32} {x : Int32} {k k2 : Nat} (l : Launch) (X : Cx p s m args meth c cc nL RX11 G) (hH : HS G s μ H locs) (hRL : RmL R k k2) (hk : 1 + 1 ≤ k ∧ 24 ≤ k2) (h : f_X7_countFits μ a q0 q1 = some x) (hls : ls.size = nL) (hroom : (rest.map fun v => v.category).sum ≤ 8) (hdg : decode cc pc = .ok (.invokevirtual 302, 3)) (hcs : cells + 0 ≤ R.cells ∧ slots + 0 ≤ R.slots) (kk : ∀ (H1 : Heap) (locs1 : List Loc), HS G s μ H1 locs1 → W p l e R s m args below meth c H1 locs1 cells slots Q (F0 m (pc + 3) ls (.int x :: rest))) : W p l e R s m args below meth c H locs cells slots Q (F0 m pc ls (.int q1 :: .int q0 :: .ref a :: rest)) := by
  refine kI hH (rV (As := [.int q0, .int q1]) (rest := rest) X hH (t_X7_countFits h) vc_7 (c_X7_countFits l G μ a q0 q1 x h) (List.forall_mem_cons.mpr ⟨u_800, (List.forall_mem_cons.mpr ⟨u_801, (List.forall_mem_cons.mpr ⟨u_802, (List.forall_mem_cons.mpr ⟨u_27, (fun _ h9 => absurd h9 List.not_mem_nil)⟩)⟩)⟩)⟩) u_803 (rmo hRL (Nat.le_trans (by decide) hk.1) (Nat.le_trans (by decide) hk.2)) ddV_X7_countFits rfl hls rfl hroom hdg hcs) kk
theorem t_X11_fits {μ : Mm} {a0 : Nat} {p1 : Int32} {x : Int32 × Mm} (h : f_X11_fits μ a0 p1 = some x) : tg μ a0 = 12 := by
  unfold f_X11_fits at h
  exact (gsn h).1
set_option maxHeartbeats 4000000 in
set_option maxRecDepth 100000 in
theorem c_X11_fits (l : Launch) (G : CG) (μ : Mm) (a0 : Nat) (p1 : Int32) (x : Int32 × Mm) (h : f_X11_fits μ a0 p1 = some x) : Met l yX11_fits (.code yX11_fits cX11_fits 2 (some .int) :: UW) (rmk 6 106 0 0) (PC G [.ref a0, .int p1] μ) (QI G x.1 x.2) 0 0 (fA G) := by
  refine Met.ofW (cc := cX11_fits) (maxL := 2) (ret := (some .int)) (by decide) rfl ?_
  intro p e s m args below meth c s₁ B hml hv
  obtain ⟨X, hH, hr, rfl, hnm⟩ := cx_in B hml hv
  have X : Cx p s m _ meth c cX11_fits 2 RX11 G := X
  have hx := X.1
  have hb := X.2.1
  have hown := X.2.2.2.1
  have hts := X.2.2.2.2.1
  have hRL : RmL (rmk 6 106 0 0) 6 106 := ⟨Nat.le_refl _, Nat.le_refl _⟩
  have hcs : 0 ≤ (rmk 0 0 0 0).cells ∧ 0 ≤ (rmk 0 0 0 0).slots := ⟨Nat.zero_le _, Nat.zero_le _⟩
  refine ls_in (Nat.le_of_ble_eq_true rfl) (fun ls hl => ?_)
  have hl : lv_has ls 2 [(0, .ref a0), (1, .int p1)] := hl
  unfold f_X11_fits at h
  obtain ⟨htg, h⟩ := gsn h
  refine lv_aload_n hx hb dX11_fits_0 rfl (lv_at hl 0 rfl) ?_
  obtain ⟨x1, hx1, h⟩ := bnd h
  refine gf_X11_21 X hH hx1 dX11_fits_1 ?_
  refine lv_iload_n hx hb dX11_fits_4 rfl (lv_at hl 1 rfl) ?_
  obtain ⟨x2, hx2, h⟩ := bnd h
  refine iv_X11_253 l X hH hRL (by decide) hx2 hl.1 (Nat.le_of_ble_eq_true rfl) dX11_fits_5 hcs (fun H locs hH => ?_)
  refine lv_if_ne (tgt := 13) hx hb dX11_fits_8 (by decide) (fun hc3 => ?_) (fun hc3 => ?_)
  · replace h := iff' h hc3
    refine lv_aload_n hx hb dX11_fits_13 rfl (lv_at hl 0 rfl) ?_
    obtain ⟨x4, hx4, h⟩ := bnd h
    refine gf_X11_43 X hH hx4 dX11_fits_14 ?_
    refine lv_aload_n hx hb dX11_fits_17 rfl (lv_at hl 0 rfl) ?_
    obtain ⟨x5, hx5, h⟩ := bnd h
    refine gf_X11_21 X hH hx5 dX11_fits_18 ?_
    obtain ⟨x6, hx6, h⟩ := bnd h
    refine iv_X11_256 l X hH hRL (by decide) hx6 hl.1 (Nat.le_of_ble_eq_true rfl) dX11_fits_21 hcs (fun H locs hH => ?_)
    refine lv_aload_n hx hb dX11_fits_24 rfl (lv_at hl 0 rfl) ?_
    refine lv_aload_n hx hb dX11_fits_25 rfl (lv_at hl 0 rfl) ?_
    obtain ⟨x7, hx7, h⟩ := bnd h
    refine gf_X11_43 X hH hx7 dX11_fits_26 ?_
    refine lv_iload_n hx hb dX11_fits_29 rfl (lv_at hl 1 rfl) ?_
    obtain ⟨x8, hx8, h⟩ := bnd h
    refine iv_X11_299 l X hH hRL (by decide) hx8 hl.1 (Nat.le_of_ble_eq_true rfl) dX11_fits_30 hcs (fun H locs hH => ?_)
    obtain ⟨x9, hx9, h⟩ := bnd h
    refine pf_X11_69 X hH hx9 dX11_fits_33 (fun H locs hH => ?_)
    refine lv_aload_n hx hb dX11_fits_36 rfl (lv_at hl 0 rfl) ?_
    refine lv_aload_n hx hb dX11_fits_37 rfl (lv_at hl 0 rfl) ?_
    obtain ⟨x10, hx10, h⟩ := bnd h
    refine gf_X11_43 X hH hx10 dX11_fits_38 ?_
    refine lv_iload_n hx hb dX11_fits_41 rfl (lv_at hl 1 rfl) ?_
    refine lv_iconst (v := 0) hx hb dX11_fits_42 (by decide) ?_
    obtain ⟨x11, hx11, h⟩ := bnd h
    refine iv_X11_302 l X hH hRL (by decide) hx11 hl.1 (Nat.le_of_ble_eq_true rfl) dX11_fits_43 hcs (fun H locs hH => ?_)
    refine lv_i2l hx hb dX11_fits_46 rfl ?_
    refine lv_lconst (v := 1) hx hb dX11_fits_47 (by decide) ?_
    obtain ⟨x12, hx12, h⟩ := bnd h
    refine iv_X11_249 l X hH hRL (by decide) hx12 hl.1 (Nat.le_of_ble_eq_true rfl) dX11_fits_48 hcs (fun H locs hH => ?_)
    exact eI X hH h hr dX11_fits_51 (Nat.le_of_ble_eq_true rfl) (Nat.le_of_ble_eq_true rfl)
  · replace h := ift h hc3
    refine lv_iconst (v := -1) hx hb dX11_fits_11 (by decide) ?_
    exact eI X hH h hr dX11_fits_12 (Nat.le_of_ble_eq_true rfl) (Nat.le_of_ble_eq_true rfl)
theorem t_X11_refuseUnfit {μ : Mm} {a0 : Nat} {p1 : Int32} {x : Int32 × Mm} (h : f_X11_refuseUnfit μ a0 p1 = some x) : tg μ a0 = 12 := by
  unfold f_X11_refuseUnfit at h
  exact (gsn h).1
set_option maxHeartbeats 4000000 in
set_option maxRecDepth 100000 in
theorem c_X11_refuseUnfit (l : Launch) (G : CG) (μ : Mm) (a0 : Nat) (p1 : Int32) (x : Int32 × Mm) (h : f_X11_refuseUnfit μ a0 p1 = some x) : Met l yX11_refuseUnfit (.code yX11_refuseUnfit cX11_refuseUnfit 2 (some .int) :: UW) (rmk 6 106 0 0) (PC G [.ref a0, .int p1] μ) (QI G x.1 x.2) 0 0 (fA G) := by
  refine Met.ofW (cc := cX11_refuseUnfit) (maxL := 2) (ret := (some .int)) (by decide) rfl ?_
  intro p e s m args below meth c s₁ B hml hv
  obtain ⟨X, hH, hr, rfl, hnm⟩ := cx_in B hml hv
  have X : Cx p s m _ meth c cX11_refuseUnfit 2 RX11 G := X
  have hx := X.1
  have hb := X.2.1
  have hown := X.2.2.2.1
  have hts := X.2.2.2.2.1
  have hRL : RmL (rmk 6 106 0 0) 6 106 := ⟨Nat.le_refl _, Nat.le_refl _⟩
  have hcs : 0 ≤ (rmk 0 0 0 0).cells ∧ 0 ≤ (rmk 0 0 0 0).slots := ⟨Nat.zero_le _, Nat.zero_le _⟩
  refine ls_in (Nat.le_of_ble_eq_true rfl) (fun ls hl => ?_)
  have hl : lv_has ls 2 [(0, .ref a0), (1, .int p1)] := hl
  unfold f_X11_refuseUnfit at h
  obtain ⟨htg, h⟩ := gsn h
  refine lv_aload_n hx hb dX11_refuseUnfit_0 rfl (lv_at hl 0 rfl) ?_
  obtain ⟨x1, hx1, h⟩ := bnd h
  refine gf_X11_21 X hH hx1 dX11_refuseUnfit_1 ?_
  refine lv_iload_n hx hb dX11_refuseUnfit_4 rfl (lv_at hl 1 rfl) ?_
  obtain ⟨x2, hx2, h⟩ := bnd h
  refine iv_X11_253 l X hH hRL (by decide) hx2 hl.1 (Nat.le_of_ble_eq_true rfl) dX11_refuseUnfit_5 hcs (fun H locs hH => ?_)
  refine lv_if_ne (tgt := 13) hx hb dX11_refuseUnfit_8 (by decide) (fun hc3 => ?_) (fun hc3 => ?_)
  · replace h := iff' h hc3
    refine lv_aload_n hx hb dX11_refuseUnfit_13 rfl (lv_at hl 0 rfl) ?_
    obtain ⟨x4, hx4, h⟩ := bnd h
    refine gf_X11_43 X hH hx4 dX11_refuseUnfit_14 ?_
    refine lv_aload_n hx hb dX11_refuseUnfit_17 rfl (lv_at hl 0 rfl) ?_
    obtain ⟨x5, hx5, h⟩ := bnd h
    refine gf_X11_21 X hH hx5 dX11_refuseUnfit_18 ?_
    obtain ⟨x6, hx6, h⟩ := bnd h
    refine iv_X11_256 l X hH hRL (by decide) hx6 hl.1 (Nat.le_of_ble_eq_true rfl) dX11_refuseUnfit_21 hcs (fun H locs hH => ?_)
    refine lv_aload_n hx hb dX11_refuseUnfit_24 rfl (lv_at hl 0 rfl) ?_
    obtain ⟨x7, hx7, h⟩ := bnd h
    refine gf_X11_43 X hH hx7 dX11_refuseUnfit_25 ?_
    refine lv_iload_n hx hb dX11_refuseUnfit_28 rfl (lv_at hl 1 rfl) ?_
    refine lv_iconst (v := 0) hx hb dX11_refuseUnfit_29 (by decide) ?_
    obtain ⟨x8, hx8, h⟩ := bnd h
    refine iv_X11_302 l X hH hRL (by decide) hx8 hl.1 (Nat.le_of_ble_eq_true rfl) dX11_refuseUnfit_30 hcs (fun H locs hH => ?_)
    refine lv_if_le (tgt := 40) hx hb dX11_refuseUnfit_33 (by decide) (fun hc9 => ?_) (fun hc9 => ?_)
    · replace h := ift h hc9
      refine lv_aload_n hx hb dX11_refuseUnfit_40 rfl (lv_at hl 0 rfl) ?_
      refine lv_iconst (v := 4) hx hb dX11_refuseUnfit_41 (by decide) ?_
      obtain ⟨x10, hx10, h⟩ := bnd h
      refine iv_X11_109 l X hH hRL (by decide) hx10 hl.1 (Nat.le_of_ble_eq_true rfl) dX11_refuseUnfit_42 hcs (fun H locs hH => ?_)
      exact eI X hH h hr dX11_refuseUnfit_45 (Nat.le_of_ble_eq_true rfl) (Nat.le_of_ble_eq_true rfl)
    · replace h := iff' h hc9
      refine lv_iconst (v := 0) hx hb dX11_refuseUnfit_36 (by decide) ?_
      refine lv_goto (tgt := 45) hx hb dX11_refuseUnfit_37 (by decide) ?_
      exact eI X hH h hr dX11_refuseUnfit_45 (Nat.le_of_ble_eq_true rfl) (Nat.le_of_ble_eq_true rfl)
  · replace h := ift h hc3
    refine lv_iconst (v := -1) hx hb dX11_refuseUnfit_11 (by decide) ?_
    exact eI X hH h hr dX11_refuseUnfit_12 (Nat.le_of_ble_eq_true rfl) (Nat.le_of_ble_eq_true rfl)
