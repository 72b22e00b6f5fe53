set_option maxHeartbeats 1000000 in
theorem iv_X12_251 {p : Program} {e : Env} {R : Room} {s : State} {m : MethodId} {args : Array Value} {below : List Frame} {meth : Method} {c : Code} {H : Heap} {locs : List Loc} {cells slots : Nat} {Q : State → Prop} {cc : ByteArray} {pc : Nat} {ls : Array Slot} {rest : List Value} {nL : Nat} {G : CG} {μ : Mm} {a : Nat} {q0 : Int32} {q1 : Int32} {q2 : Int32} {q3 : Int32} {q4 : Int32} {x : Mm} {k : Nat} (l : Launch) (X : Cx p s m args meth c cc nL RX12 G) (hH : HS G s μ H locs) (hRL : RmL R k) (hk : 10 + 1 ≤ k) (h : f_X12_layOrders 7 μ a q0 q1 q2 q3 q4 = some x) (hls : ls.size = nL) (hroom : (rest.map fun v => v.category).sum ≤ 8) (hdg : decode cc pc = .ok (.invokevirtual 251, 3)) (hcs : cells + 0 ≤ R.cells ∧ slots + 0 ≤ R.slots) (kk : ∀ (H1 : Heap) (locs1 : List Loc), HS G s x H1 locs1 → W p l e R s m args below meth c H1 locs1 cells slots Q (F0 m (pc + 3) ls rest)) : W p l e R s m args below meth c H locs cells slots Q (F0 m pc ls (.int q4 :: .int q3 :: .int q2 :: .int q1 :: .int q0 :: .ref a :: rest)) := by
  refine kV0 hH (rV (As := [.int q0, .int q1, .int q2, .int q3, .int q4]) (rest := rest) X hH (t_X12_layOrders h) vc_12 (c_X12_layOrders l G 7 μ a q0 q1 q2 q3 q4 x h) (List.forall_mem_cons.mpr ⟨u_1336, (List.forall_mem_cons.mpr ⟨u_1338, (List.forall_mem_cons.mpr ⟨u_48, (List.forall_mem_cons.mpr ⟨u_68, (fun _ h9 => absurd h9 List.not_mem_nil)⟩)⟩)⟩)⟩) u_1339 (rmo hRL (Nat.le_trans (by decide) hk) (by decide)) ddV_X12_layOrders rfl hls rfl hroom hdg hcs) kk
theorem t_X12_allOrders {μ : Mm} {a0 : Nat} {p1 : Int32} {p2 : Int32} {x : Mm} (h : f_X12_allOrders μ a0 p1 p2 = some x) : tg μ a0 = 13 := by
  unfold f_X12_allOrders at h
  exact (gsn h).1
set_option maxHeartbeats 4000000 in
set_option maxRecDepth 100000 in
theorem c_X12_allOrders (l : Launch) (G : CG) (μ : Mm) (a0 : Nat) (p1 : Int32) (p2 : Int32) (x : Mm) (h : f_X12_allOrders μ a0 p1 p2 = some x) : Met l yX12_allOrders (.code yX12_allOrders cX12_allOrders 3 none :: UW) (rmk 11 0 0) (PC G [.ref a0, .int p1, .int p2] μ) (QV G x) 0 0 (fA G) := by
  refine Met.ofW (cc := cX12_allOrders) (maxL := 3) (ret := none) (by decide) rfl ?_
  intro p e s m args below meth c s₁ B hml hv
  obtain ⟨X, hH, hr, rfl, hnm⟩ := cx_in B hml hv
  have X : Cx p s m _ meth c cX12_allOrders 3 RX12 G := X
  have hx := X.1
  have hb := X.2.1
  have hown := X.2.2.2.1
  have hts := X.2.2.2.2.1
  have hRL : RmL (rmk 11 0 0) 11 := ⟨Nat.le_refl _, Nat.le_refl _⟩
  have hcs : 0 ≤ (rmk 0 0 0).cells ∧ 0 ≤ (rmk 0 0 0).slots := ⟨Nat.zero_le _, Nat.zero_le _⟩
  refine ls_in (Nat.le_of_ble_eq_true rfl) (fun ls hl => ?_)
  have hl : lv_has ls 3 [(0, .ref a0), (1, .int p1), (2, .int p2)] := hl
  unfold f_X12_allOrders at h
  obtain ⟨htg, h⟩ := gsn h
  refine lv_aload_n hx hb dX12_allOrders_0 rfl (lv_at hl 0 rfl) ?_
  refine lv_iconst (v := 0) hx hb dX12_allOrders_1 (by decide) ?_
  obtain ⟨x1, hx1, h⟩ := bnd h
  refine pf_X12_237 X hH hx1 dX12_allOrders_2 (fun H locs hH => ?_)
  refine lv_aload_n hx hb dX12_allOrders_5 rfl (lv_at hl 0 rfl) ?_
  refine lv_iload_n hx hb dX12_allOrders_6 rfl (lv_at hl 1 rfl) ?_
  obtain ⟨x2, hx2, h⟩ := bnd h
  refine pf_X12_231 X hH hx2 dX12_allOrders_7 (fun H locs hH => ?_)
  refine lv_aload_n hx hb dX12_allOrders_10 rfl (lv_at hl 0 rfl) ?_
  refine lv_iload_n hx hb dX12_allOrders_11 rfl (lv_at hl 2 rfl) ?_
  obtain ⟨x3, hx3, h⟩ := bnd h
  refine pf_X12_248 X hH hx3 dX12_allOrders_12 (fun H locs hH => ?_)
  refine lv_aload_n hx hb dX12_allOrders_15 rfl (lv_at hl 0 rfl) ?_
  refine lv_lconst (v := 0) hx hb dX12_allOrders_16 (by decide) ?_
  obtain ⟨x4, hx4, h⟩ := bnd h
  refine pf_X12_225 X hH hx4 dX12_allOrders_17 (fun H locs hH => ?_)
  refine lv_aload_n hx hb dX12_allOrders_20 rfl (lv_at hl 0 rfl) ?_
  refine lv_iconst (v := 0) hx hb dX12_allOrders_21 (by decide) ?_
  obtain ⟨x5, hx5, h⟩ := bnd h
  refine pf_X12_228 X hH hx5 dX12_allOrders_22 (fun H locs hH => ?_)
  refine lv_aload_n hx hb dX12_allOrders_25 rfl (lv_at hl 0 rfl) ?_
  refine lv_ldc (v := 1000000) hx hb hown (hts _ u_1335) dX12_allOrders_26 ?_
  obtain ⟨x6, hx6, h⟩ := bnd h
  refine pf_X12_234 X hH hx6 dX12_allOrders_28 (fun H locs hH => ?_)
  refine lv_aload_n hx hb dX12_allOrders_31 rfl (lv_at hl 0 rfl) ?_
  refine lv_iconst (v := 0) hx hb dX12_allOrders_32 (by decide) ?_
  refine lv_iconst (v := 0) hx hb dX12_allOrders_33 (by decide) ?_
  refine lv_aload_n hx hb dX12_allOrders_34 rfl (lv_at hl 0 rfl) ?_
  obtain ⟨x7, hx7, h⟩ := bnd h
  refine gf_X12_45 X hH hx7 dX12_allOrders_35 ?_
  refine lv_iconst (v := 0) hx hb dX12_allOrders_38 (by decide) ?_
  obtain ⟨x8, hx8, h⟩ := bnd h
  refine w_aI X hH hx8 dX12_allOrders_39 ?_
  refine lv_iconst (v := 0) hx hb dX12_allOrders_40 (by decide) ?_
  refine lv_iconst (v := 0) hx hb dX12_allOrders_41 (by decide) ?_
  obtain ⟨x9, hx9, h⟩ := bnd h
  refine iv_X12_251 l X hH hRL (by decide) hx9 hl.1 (Nat.le_of_ble_eq_true rfl) dX12_allOrders_42 hcs (fun H locs hH => ?_)
  exact eV X hH h hr dX12_allOrders_45 (Nat.le_of_ble_eq_true rfl) (Nat.le_of_ble_eq_true rfl)
set_option maxHeartbeats 1000000 in
theorem iv_X12_256 {p : Program} {e : Env} {R : Room} {s : State} {m : MethodId} {args : Array Value} {below : List Frame} {meth : Method} {c : Code} {H : Heap} {locs : List Loc} {cells slots : Nat} {Q : State → Prop} {cc : ByteArray} {pc : Nat} {ls : Array Slot} {rest : List Value} {nL : Nat} {G : CG} {μ : Mm} {a : Nat} {q0 : Int32} {x : Int32} {k : Nat} (l : Launch) (X : Cx p s m args meth c cc nL RX12 G) (hH : HS G s μ H locs) (hRL : RmL R k) (hk : 2 + 1 ≤ k) (h : f_X12_isTooth μ a q0 = some x) (hls : ls.size = nL) (hroom : (rest.map fun v => v.category).sum ≤ 8) (hdg : decode cc pc = .ok (.invokevirtual 256, 3)) (hcs : cells + 0 ≤ R.cells ∧ slots + 0 ≤ R.slots) (kk : ∀ (H1 : Heap) (locs1 : List Loc), HS G s μ H1 locs1 → W p l e R s m args below meth c H1 locs1 cells slots Q (F0 m (pc + 3) ls (.int x :: rest))) : W p l e R s m args below meth c H locs cells slots Q (F0 m pc ls (.int q0 :: .ref a :: rest)) := by
  refine kI hH (rV (As := [.int q0]) (rest := rest) X hH (t_X12_isTooth h) vc_12 (c_X12_isTooth l G μ a q0 x h) (List.forall_mem_cons.mpr ⟨u_1327, (List.forall_mem_cons.mpr ⟨u_1329, (List.forall_mem_cons.mpr ⟨u_46, (List.forall_mem_cons.mpr ⟨u_68, (fun _ h9 => absurd h9 List.not_mem_nil)⟩)⟩)⟩)⟩) u_1330 (rmo hRL (Nat.le_trans (by decide) hk) (by decide)) ddV_X12_isTooth rfl hls rfl hroom hdg hcs) kk
set_option maxHeartbeats 1000000 in
theorem iv_X12_259 {p : Program} {e : Env} {R : Room} {s : State} {m : MethodId} {args : Array Value} {below : List Frame} {meth : Method} {c : Code} {H : Heap} {locs : List Loc} {cells slots : Nat} {Q : State → Prop} {cc : ByteArray} {pc : Nat} {ls : Array Slot} {rest : List Value} {nL : Nat} {G : CG} {μ : Mm} {a : Nat} {q0 : Int32} {q1 : Int32} {x : Mm} {k : Nat} (l : Launch) (X : Cx p s m args meth c cc nL RX12 G) (hH : HS G s μ H locs) (hRL : RmL R k) (hk : 11 + 1 ≤ k) (h : f_X12_allOrders μ a q0 q1 = some x) (hls : ls.size = nL) (hroom : (rest.map fun v => v.category).sum ≤ 8) (hdg : decode cc pc = .ok (.invokevirtual 259, 3)) (hcs : cells + 0 ≤ R.cells ∧ slots + 0 ≤ R.slots) (kk : ∀ (H1 : Heap) (locs1 : List Loc), HS G s x H1 locs1 → W p l e R s m args below meth c H1 locs1 cells slots Q (F0 m (pc + 3) ls rest)) : W p l e R s m args below meth c H locs cells slots Q (F0 m pc ls (.int q1 :: .int q0 :: .ref a :: rest)) := by
  refine kV0 hH (rV (As := [.int q0, .int q1]) (rest := rest) X hH (t_X12_allOrders h) vc_12 (c_X12_allOrders l G μ a q0 q1 x h) (List.forall_mem_cons.mpr ⟨u_1331, (List.forall_mem_cons.mpr ⟨u_1333, (List.forall_mem_cons.mpr ⟨u_47, (List.forall_mem_cons.mpr ⟨u_68, (fun _ h9 => absurd h9 List.not_mem_nil)⟩)⟩)⟩)⟩) u_1334 (rmo hRL (Nat.le_trans (by decide) hk) (by decide)) ddV_X12_allOrders rfl hls rfl hroom hdg hcs) kk
set_option maxHeartbeats 1000000 in
theorem iv_X12_263 {p : Program} {e : Env} {R : Room} {s : State} {m : MethodId} {args : Array Value} {below : List Frame} {meth : Method} {c : Code} {H : Heap} {locs : List Loc} {cells slots : Nat} {Q : State → Prop} {cc : ByteArray} {pc : Nat} {ls : Array Slot} {rest : List Value} {nL : Nat} {G : CG} {μ : Mm} {a : Nat} {q0 : Int32} {q1 : Nat} {q2 : Int32} {x : Mm} {k : Nat} (l : Launch) (X : Cx p s m args meth c cc nL RX12 G) (hH : HS G s μ H locs) (hRL : RmL R k) (hk : 1 + 1 ≤ k) (h : f_X12_layRow μ a q0 q1 q2 = some x) (hls : ls.size = nL) (hroom : (rest.map fun v => v.category).sum ≤ 8) (hdg : decode cc pc = .ok (.invokevirtual 263, 3)) (hcs : cells + 0 ≤ R.cells ∧ slots + 0 ≤ R.slots) (kk : ∀ (H1 : Heap) (locs1 : List Loc), HS G s x H1 locs1 → W p l e R s m args below meth c H1 locs1 cells slots Q (F0 m (pc + 3) ls rest)) : W p l e R s m args below meth c H locs cells slots Q (F0 m pc ls (.int q2 :: .ref q1 :: .int q0 :: .ref a :: rest)) := by
  refine kV0 hH (rV (As := [.int q0, .ref q1, .int q2]) (rest := rest) X hH (t_X12_layRow h) vc_12 (c_X12_layRow l G μ a q0 q1 q2 x h) (List.forall_mem_cons.mpr ⟨u_1347, (List.forall_mem_cons.mpr ⟨u_1349, (List.forall_mem_cons.mpr ⟨u_50, (List.forall_mem_cons.mpr ⟨u_68, (fun _ h9 => absurd h9 List.not_mem_nil)⟩)⟩)⟩)⟩) u_1350 (rmo hRL (Nat.le_trans (by decide) hk) (by decide)) ddV_X12_layRow rfl hls rfl hroom hdg hcs) kk
set_option maxHeartbeats 4000000 in
set_option maxRecDepth 100000 in
theorem w_X12_order_57 {p : Program} {e : Env} {R : Room} {s : State} {m : MethodId} {args : Array Value} {below : List Frame} {meth : Method} {c : Code} {cells slots : Nat} {Q : State → Prop} {G : CG} (l : Launch) (X : Cx p s m args meth c cX12_order 5 RX12 G) (hRL : RmL R 12) (hcs : cells ≤ R.cells ∧ slots ≤ R.slots) : ∀ (n : Nat) (v0 : Nat) (v1 : Int32) (v4 : Int32) (μ : Mm) (x : Int32), lp_X12_order_57 n v0 v1 v4 μ = some x → (∀ (H : Heap) (locs : List Loc) (ls : Array Slot), HS G s μ H locs → lv_has ls 5 [(4, .int x)] → W p l e R s m args below meth c H locs cells slots Q (F0 m 74 ls [])) → ∀ (H : Heap) (locs : List Loc) (ls : Array Slot), HS G s μ H locs → lv_has ls 5 [(0, .ref v0), (1, .int v1), (4, .int v4)] → W p l e R s m args below meth c H locs cells slots Q (F0 m 57 ls []) := by
  have hx := X.1
  have hb := X.2.1
  have hown := X.2.2.2.1
  have hts := X.2.2.2.2.1
  intro n
  induction n with
  | zero =>
    intro v0 v1 v4 μ x h
    rw [lp_X12_order_57] at h
    cases h
  | succ n ih =>
    intro v0 v1 v4 μ x h k0 H locs ls hH hl
    rw [lp_X12_order_57] at h
    refine lv_aload_n hx hb dX12_order_57 rfl (lv_at hl 0 rfl) ?_
    obtain ⟨x13, hx13, h⟩ := bnd h
    refine gf_X12_73 X hH hx13 dX12_order_58 ?_
    refine lv_iload hx hb dX12_order_61 (lv_at hl 2 rfl) ?_
    obtain ⟨x14, hx14, h⟩ := bnd h
    refine w_aI X hH hx14 dX12_order_63 ?_
    refine lv_iload_n hx hb dX12_order_64 rfl (lv_at hl 1 rfl) ?_
    refine lv_icmp_eq (tgt := 74) hx hb dX12_order_65 (by decide) (fun hc15 => ?_) (fun hc15 => ?_)
    · replace h := ift h hc15
      cases h
      exact k0 _ _ _ hH (lv_sub hl [2] rfl)
    · replace h := iff' h hc15
      refine lv_iinc (v := (v4 + 1)) (lv' := [(4, .int (v4 + 1)), (0, .ref v0), (1, .int v1)]) hx hb dX12_order_68 hl (k := 2) rfl rfl (by decide) rfl (fun ls hl => ?_)
      refine lv_goto (tgt := 57) hx hb dX12_order_71 (by decide) ?_
      exact ih _ _ _ _ _ h k0 _ _ _ hH (lv_sub hl [1, 2, 0] rfl)
theorem t_X12_order {μ : Mm} {a0 : Nat} {p1 : Int32} {p2 : Int32} {p3 : Int32} {x : Int32 × Mm} (h : f_X12_order μ a0 p1 p2 p3 = some x) : tg μ a0 = 13 := by
  unfold f_X12_order at h
  exact (gsn h).1
set_option maxHeartbeats 4000000 in
set_option maxRecDepth 100000 in
theorem c_X12_order (l : Launch) (G : CG) (μ : Mm) (a0 : Nat) (p1 : Int32) (p2 : Int32) (p3 : Int32) (x : Int32 × Mm) (h : f_X12_order μ a0 p1 p2 p3 = some x) : Met l yX12_order (.code yX12_order cX12_order 5 (some .int) :: UW) (rmk 12 0 0) (PC G [.ref a0, .int p1, .int p2, .int p3] μ) (QI G x.1 x.2) 0 0 (fA G) := by
  refine Met.ofW (cc := cX12_order) (maxL := 5) (ret := (some .int)) (by decide) rfl ?_
  intro p e s m args below meth c s₁ B hml hv
  obtain ⟨X, hH, hr, rfl, hnm⟩ := cx_in B hml hv
  have X : Cx p s m _ meth c cX12_order 5 RX12 G := X
  have hx := X.1
  have hb := X.2.1
  have hown := X.2.2.2.1
  have hts := X.2.2.2.2.1
  have hRL : RmL (rmk 12 0 0) 12 := ⟨Nat.le_refl _, Nat.le_refl _⟩
  have hcs : 0 ≤ (rmk 0 0 0).cells ∧ 0 ≤ (rmk 0 0 0).slots := ⟨Nat.zero_le _, Nat.zero_le _⟩
  refine ls_in (Nat.le_of_ble_eq_true rfl) (fun ls hl => ?_)
  have hl : lv_has ls 5 [(0, .ref a0), (1, .int p1), (2, .int p2), (3, .int p3)] := hl
  unfold f_X12_order at h
  obtain ⟨htg, h⟩ := gsn h
  refine lv_aload_n hx hb dX12_order_0 rfl (lv_at hl 0 rfl) ?_
  refine lv_iload_n hx hb dX12_order_1 rfl (lv_at hl 1 rfl) ?_
  obtain ⟨x1, hx1, h⟩ := bnd h
  refine iv_X12_189 l X hH hRL (by decide) hx1 hl.1 (Nat.le_of_ble_eq_true rfl) dX12_order_2 hcs (fun H locs hH => ?_)
  refine lv_if_eq (tgt := 23) hx hb dX12_order_5 (by decide) (fun hc2 => ?_) (fun hc2 => ?_)
  · replace h := ift h hc2
    refine lv_iconst (v := -1) hx hb dX12_order_23 (by decide) ?_
    exact eI X hH h hr dX12_order_24 (Nat.le_of_ble_eq_true rfl) (Nat.le_of_ble_eq_true rfl)
  · replace h := iff' h hc2
    refine lv_aload_n hx hb dX12_order_8 rfl (lv_at hl 0 rfl) ?_
    refine lv_iload_n hx hb dX12_order_9 rfl (lv_at hl 2 rfl) ?_
    obtain ⟨x3, hx3, h⟩ := bnd h
    refine iv_X12_256 l X hH hRL (by decide) hx3 hl.1 (Nat.le_of_ble_eq_true rfl) dX12_order_10 hcs (fun H locs hH => ?_)
    refine lv_if_eq (tgt := 23) hx hb dX12_order_13 (by decide) (fun hc4 => ?_) (fun hc4 => ?_)
    · replace h := ift h hc4
      refine lv_iconst (v := -1) hx hb dX12_order_23 (by decide) ?_
      exact eI X hH h hr dX12_order_24 (Nat.le_of_ble_eq_true rfl) (Nat.le_of_ble_eq_true rfl)
    · replace h := iff' h hc4
      refine lv_iload_n hx hb dX12_order_16 rfl (lv_at hl 3 rfl) ?_
      obtain ⟨x5, hx5, h⟩ := bnd h
      refine iv_X12_106 l X hH hRL (by decide) hx5 hl.1 (Nat.le_of_ble_eq_true rfl) dX12_order_17 hcs (fun H locs hH => ?_)
      refine lv_if_ne (tgt := 25) hx hb dX12_order_20 (by decide) (fun hc6 => ?_) (fun hc6 => ?_)
      · replace h := iff' h hc6
        refine lv_aload_n hx hb dX12_order_25 rfl (lv_at hl 0 rfl) ?_
        refine lv_iload_n hx hb dX12_order_26 rfl (lv_at hl 1 rfl) ?_
        refine lv_iload_n hx hb dX12_order_27 rfl (lv_at hl 2 rfl) ?_
        obtain ⟨x7, hx7, h⟩ := bnd h
        refine iv_X12_259 l X hH hRL (by decide) hx7 hl.1 (Nat.le_of_ble_eq_true rfl) dX12_order_28 hcs (fun H locs hH => ?_)
        refine lv_aload_n hx hb dX12_order_31 rfl (lv_at hl 0 rfl) ?_
        obtain ⟨x8, hx8, h⟩ := bnd h
        refine gf_X12_237 X hH hx8 dX12_order_32 ?_
        refine lv_if_ne (tgt := 41) hx hb dX12_order_35 (by decide) (fun hc9 => ?_) (fun hc9 => ?_)
        · replace h := iff' h hc9
          refine lv_aload_n hx hb dX12_order_41 rfl (lv_at hl 0 rfl) ?_
          refine lv_iload_n hx hb dX12_order_42 rfl (lv_at hl 3 rfl) ?_
          refine lv_aload_n hx hb dX12_order_43 rfl (lv_at hl 0 rfl) ?_
          obtain ⟨x10, hx10, h⟩ := bnd h
          refine gf_X12_73 X hH hx10 dX12_order_44 ?_
          refine lv_aload_n hx hb dX12_order_47 rfl (lv_at hl 0 rfl) ?_
          obtain ⟨x11, hx11, h⟩ := bnd h
          refine gf_X12_168 X hH hx11 dX12_order_48 ?_
          obtain ⟨x12, hx12, h⟩ := bnd h
          refine iv_X12_263 l X hH hRL (by decide) hx12 hl.1 (Nat.le_of_ble_eq_true rfl) dX12_order_51 hcs (fun H locs hH => ?_)
          refine lv_iconst (v := 0) hx hb dX12_order_54 (by decide) ?_
          refine lv_istore (lv' := [(4, .int (0 : Int32)), (0, .ref a0), (1, .int p1), (2, .int p2), (3, .int p3)]) hx hb dX12_order_55 hl (by decide) rfl (fun ls hl => ?_)
          obtain ⟨x16, hx16, hhx16⟩ := bnd h
          clear h
          refine w_X12_order_57 l X hRL hcs BIG a0 p1 (0 : Int32) x12 x16 hx16 (fun H locs ls hH hl => ?_) _ _ _ hH (lv_sub hl [1, 2, 0] rfl)
          · have h := hhx16
            clear hhx16
            refine lv_iload hx hb dX12_order_74 (lv_at hl 0 rfl) ?_
            exact eI X hH h hr dX12_order_76 (Nat.le_of_ble_eq_true rfl) (Nat.le_of_ble_eq_true rfl)
        · replace h := ift h hc9
          refine lv_bipush (v := -9) hx hb dX12_order_38 (by decide) ?_
          exact eI X hH h hr dX12_order_40 (Nat.le_of_ble_eq_true rfl) (Nat.le_of_ble_eq_true rfl)
      · replace h := ift h hc6
        refine lv_iconst (v := -1) hx hb dX12_order_23 (by decide) ?_
        exact eI X hH h hr dX12_order_24 (Nat.le_of_ble_eq_true rfl) (Nat.le_of_ble_eq_true rfl)
theorem t_X12_quiet {μ : Mm} {a0 : Nat} {x : Int32 × Mm} (h : f_X12_quiet μ a0 = some x) : tg μ a0 = 13 := by
  unfold f_X12_quiet at h
  exact (gsn h).1
set_option maxHeartbeats 4000000 in
set_option maxRecDepth 100000 in
theorem c_X12_quiet (l : Launch) (G : CG) (μ : Mm) (a0 : Nat) (x : Int32 × Mm) (h : f_X12_quiet μ a0 = some x) : Met l yX12_quiet (.code yX12_quiet cX12_quiet 1 (some .int) :: UW) (rmk 12 0 0) (PC G [.ref a0] μ) (QI G x.1 x.2) 0 0 (fA G) := by
  refine Met.ofW (cc := cX12_quiet) (maxL := 1) (ret := (some .int)) (by decide) rfl ?_
  intro p e s m args below meth c s₁ B hml hv
  obtain ⟨X, hH, hr, rfl, hnm⟩ := cx_in B hml hv
  have X : Cx p s m _ meth c cX12_quiet 1 RX12 G := X
  have hx := X.1
  have hb := X.2.1
  have hown := X.2.2.2.1
  have hts := X.2.2.2.2.1
  have hRL : RmL (rmk 12 0 0) 12 := ⟨Nat.le_refl _, Nat.le_refl _⟩
  have hcs : 0 ≤ (rmk 0 0 0).cells ∧ 0 ≤ (rmk 0 0 0).slots := ⟨Nat.zero_le _, Nat.zero_le _⟩
  refine ls_in (Nat.le_of_ble_eq_true rfl) (fun ls hl => ?_)
  have hl : lv_has ls 1 [(0, .ref a0)] := hl
  unfold f_X12_quiet at h
  obtain ⟨htg, h⟩ := gsn h
  refine lv_aload_n hx hb dX12_quiet_0 rfl (lv_at hl 0 rfl) ?_
  obtain ⟨x1, hx1, h⟩ := bnd h
  refine gf_X12_168 X hH hx1 dX12_quiet_1 ?_
  refine lv_if_ne (tgt := 10) hx hb dX12_quiet_4 (by decide) (fun hc2 => ?_) (fun hc2 => ?_)
  · replace h := iff' h hc2
    refine lv_aload_n hx hb dX12_quiet_10 rfl (lv_at hl 0 rfl) ?_
    refine lv_bipush (v := -9) hx hb dX12_quiet_11 (by decide) ?_
    refine lv_bipush (v := -9) hx hb dX12_quiet_13 (by decide) ?_
    obtain ⟨x3, hx3, h⟩ := bnd h
    refine iv_X12_259 l X hH hRL (by decide) hx3 hl.1 (Nat.le_of_ble_eq_true rfl) dX12_quiet_15 hcs (fun H locs hH => ?_)
    refine lv_aload_n hx hb dX12_quiet_18 rfl (lv_at hl 0 rfl) ?_
    refine lv_aload_n hx hb dX12_quiet_19 rfl (lv_at hl 0 rfl) ?_
    obtain ⟨x4, hx4, h⟩ := bnd h
    refine gf_X12_225 X hH hx4 dX12_quiet_20 ?_
    refine lv_lconst (v := 1) hx hb dX12_quiet_23 (by decide) ?_
    obtain ⟨x5, hx5, h⟩ := bnd h
    refine iv_X12_221 l X hH hRL (by decide) hx5 hl.1 (Nat.le_of_ble_eq_true rfl) dX12_quiet_24 hcs (fun H locs hH => ?_)
    refine lv_pop hx hb dX12_quiet_27 rfl ?_
    refine lv_aload_n hx hb dX12_quiet_28 rfl (lv_at hl 0 rfl) ?_
    refine lv_aload_n hx hb dX12_quiet_29 rfl (lv_at hl 0 rfl) ?_
    obtain ⟨x6, hx6, h⟩ := bnd h
    refine gf_X12_228 X hH hx6 dX12_quiet_30 ?_
    refine lv_iconst (v := 1) hx hb dX12_quiet_33 (by decide) ?_
    obtain ⟨x7, hx7, h⟩ := bnd h
    refine iv_X12_118 l X hH hRL (by decide) hx7 hl.1 (Nat.le_of_ble_eq_true rfl) dX12_quiet_34 hcs (fun H locs hH => ?_)
    exact eI X hH h hr dX12_quiet_37 (Nat.le_of_ble_eq_true rfl) (Nat.le_of_ble_eq_true rfl)
  · replace h := ift h hc2
    refine lv_bipush (v := -4) hx hb dX12_quiet_7 (by decide) ?_
    exact eI X hH h hr dX12_quiet_9 (Nat.le_of_ble_eq_true rfl) (Nat.le_of_ble_eq_true rfl)
set_option maxHeartbeats 4000000 in
set_option maxRecDepth 100000 in
theorem w_X12_cheap_22 {p : Program} {e : Env} {R : Room} {s : State} {m : MethodId} {args : Array Value} {below : List Frame} {meth : Method} {c : Code} {cells slots : Nat} {Q : State → Prop} {G : CG} (l : Launch) (X : Cx p s m args meth c cX12_cheap 3 RX12 G) (hRL : RmL R 12) (hcs : cells ≤ R.cells ∧ slots ≤ R.slots) : ∀ (n : Nat) (v0 : Nat) (v1 : Int32) (v2 : Int32) (μ : Mm) (x : Int32), lp_X12_cheap_22 n v0 v1 v2 μ = some x → (∀ (H : Heap) (locs : List Loc) (ls : Array Slot), HS G s μ H locs → lv_has ls 3 [(0, .ref v0), (1, .int x)] → W p l e R s m args below meth c H locs cells slots Q (F0 m 48 ls [])) → ∀ (H : Heap) (locs : List Loc) (ls : Array Slot), HS G s μ H locs → lv_has ls 3 [(0, .ref v0), (1, .int v1), (2, .int v2)] → W p l e R s m args below meth c H locs cells slots Q (F0 m 22 ls []) := by
  have hx := X.1
  have hb := X.2.1
  have hown := X.2.2.2.1
  have hts := X.2.2.2.2.1
  intro n
  induction n with
  | zero =>
    intro v0 v1 v2 μ x h
    rw [lp_X12_cheap_22] at h
    cases h
  | succ n ih =>
    intro v0 v1 v2 μ x h k0 H locs ls hH hl
    rw [lp_X12_cheap_22] at h
    refine lv_iload_n hx hb dX12_cheap_22 rfl (lv_at hl 2 rfl) ?_
    refine lv_aload_n hx hb dX12_cheap_23 rfl (lv_at hl 0 rfl) ?_
    obtain ⟨x4, hx4, h⟩ := bnd h
    refine gf_X12_168 X hH hx4 dX12_cheap_24 ?_
    refine lv_icmp_ge (tgt := 48) hx hb dX12_cheap_27 (by decide) (fun hc5 => ?_) (fun hc5 => ?_)
    · replace h := ift h hc5
      cases h
      exact k0 _ _ _ hH (lv_sub hl [0, 1] rfl)
    · replace h := iff' h hc5
      refine lv_bipush (v := 6) hx hb dX12_cheap_30 (by decide) ?_
      refine lv_iload_n hx hb dX12_cheap_32 rfl (lv_at hl 1 rfl) ?_
      refine lv_imul hx hb dX12_cheap_33 ?_
      refine lv_aload_n hx hb dX12_cheap_34 rfl (lv_at hl 0 rfl) ?_
      obtain ⟨x6, hx6, h⟩ := bnd h
      refine gf_X12_73 X hH hx6 dX12_cheap_35 ?_
      refine lv_iload_n hx hb dX12_cheap_38 rfl (lv_at hl 2 rfl) ?_
      obtain ⟨x7, hx7, h⟩ := bnd h
      refine w_aI X hH hx7 dX12_cheap_39 ?_
      refine lv_iadd hx hb dX12_cheap_40 ?_
      refine lv_istore_n (lv' := [(1, .int (((6 : Int32) * v1) + x7)), (0, .ref v0), (2, .int v2)]) hx hb dX12_cheap_41 rfl hl (by decide) rfl (fun ls hl => ?_)
      refine lv_iinc (v := (v2 + 1)) (lv' := [(2, .int (v2 + 1)), (1, .int (((6 : Int32) * v1) + x7)), (0, .ref v0)]) hx hb dX12_cheap_42 hl (k := 2) rfl rfl (by decide) rfl (fun ls hl => ?_)
      refine lv_goto (tgt := 22) hx hb dX12_cheap_45 (by decide) ?_
      exact ih _ _ _ _ _ h k0 _ _ _ hH (lv_sub hl [2, 1, 0] rfl)
theorem t_X12_cheap {μ : Mm} {a0 : Nat} {x : Int32 × Mm} (h : f_X12_cheap μ a0 = some x) : tg μ a0 = 13 := by
  unfold f_X12_cheap at h
  exact (gsn h).1
set_option maxHeartbeats 4000000 in
set_option maxRecDepth 100000 in
theorem c_X12_cheap (l : Launch) (G : CG) (μ : Mm) (a0 : Nat) (x : Int32 × Mm) (h : f_X12_cheap μ a0 = some x) : Met l yX12_cheap (.code yX12_cheap cX12_cheap 3 (some .int) :: UW) (rmk 12 0 0) (PC G [.ref a0] μ) (QI G x.1 x.2) 0 0 (fA G) := by
  refine Met.ofW (cc := cX12_cheap) (maxL := 3) (ret := (some .int)) (by decide) rfl ?_
  intro p e s m args below meth c s₁ B hml hv
  obtain ⟨X, hH, hr, rfl, hnm⟩ := cx_in B hml hv
  have X : Cx p s m _ meth c cX12_cheap 3 RX12 G := X
  have hx := X.1
  have hb := X.2.1
  have hown := X.2.2.2.1
  have hts := X.2.2.2.2.1
  have hRL : RmL (rmk 12 0 0) 12 := ⟨Nat.le_refl _, Nat.le_refl _⟩
  have hcs : 0 ≤ (rmk 0 0 0).cells ∧ 0 ≤ (rmk 0 0 0).slots := ⟨Nat.zero_le _, Nat.zero_le _⟩
  refine ls_in (Nat.le_of_ble_eq_true rfl) (fun ls hl => ?_)
  have hl : lv_has ls 3 [(0, .ref a0)] := hl
  unfold f_X12_cheap at h
  obtain ⟨htg, h⟩ := gsn h
  refine lv_aload_n hx hb dX12_cheap_0 rfl (lv_at hl 0 rfl) ?_
  obtain ⟨x1, hx1, h⟩ := bnd h
  refine gf_X12_168 X hH hx1 dX12_cheap_1 ?_
  refine lv_if_ne (tgt := 10) hx hb dX12_cheap_4 (by decide) (fun hc2 => ?_) (fun hc2 => ?_)
  · replace h := iff' h hc2
    refine lv_aload_n hx hb dX12_cheap_10 rfl (lv_at hl 0 rfl) ?_
    refine lv_bipush (v := -9) hx hb dX12_cheap_11 (by decide) ?_
    refine lv_bipush (v := -9) hx hb dX12_cheap_13 (by decide) ?_
    obtain ⟨x3, hx3, h⟩ := bnd h
    refine iv_X12_259 l X hH hRL (by decide) hx3 hl.1 (Nat.le_of_ble_eq_true rfl) dX12_cheap_15 hcs (fun H locs hH => ?_)
    refine lv_iconst (v := 0) hx hb dX12_cheap_18 (by decide) ?_
    refine lv_istore_n (lv' := [(1, .int (0 : Int32)), (0, .ref a0)]) hx hb dX12_cheap_19 rfl hl (by decide) rfl (fun ls hl => ?_)
    refine lv_iconst (v := 0) hx hb dX12_cheap_20 (by decide) ?_
    refine lv_istore_n (lv' := [(2, .int (0 : Int32)), (1, .int (0 : Int32)), (0, .ref a0)]) hx hb dX12_cheap_21 rfl hl (by decide) rfl (fun ls hl => ?_)
    obtain ⟨x8, hx8, hhx8⟩ := bnd h
    clear h
    refine w_X12_cheap_22 l X hRL hcs BIG a0 (0 : Int32) (0 : Int32) x3 x8 hx8 (fun H locs ls hH hl => ?_) _ _ _ hH (lv_sub hl [2, 1, 0] rfl)
    · have h := hhx8
      clear hhx8
      refine lv_aload_n hx hb dX12_cheap_48 rfl (lv_at hl 0 rfl) ?_
      refine lv_iload_n hx hb dX12_cheap_49 rfl (lv_at hl 1 rfl) ?_
      refine lv_aload_n hx hb dX12_cheap_50 rfl (lv_at hl 0 rfl) ?_
      obtain ⟨x9, hx9, h⟩ := bnd h
      refine gf_X12_234 X hH hx9 dX12_cheap_51 ?_
      obtain ⟨x10, hx10, h⟩ := bnd h
      refine iv_X12_118 l X hH hRL (by decide) hx10 hl.1 (Nat.le_of_ble_eq_true rfl) dX12_cheap_54 hcs (fun H locs hH => ?_)
      exact eI X hH h hr dX12_cheap_57 (Nat.le_of_ble_eq_true rfl) (Nat.le_of_ble_eq_true rfl)
  · replace h := ift h hc2
    refine lv_bipush (v := -4) hx hb dX12_cheap_7 (by decide) ?_
    exact eI X hH h hr dX12_cheap_9 (Nat.le_of_ble_eq_true rfl) (Nat.le_of_ble_eq_true rfl)
set_option maxHeartbeats 4000000 in
set_option maxRecDepth 100000 in
theorem w_X12_layCosts_2 {p : Program} {e : Env} {R : Room} {s : State} {m : MethodId} {args : Array Value} {below : List Frame} {meth : Method} {c : Code} {cells slots : Nat} {Q : State → Prop} {G : CG} (l : Launch) (X : Cx p s m args meth c cX12_layCosts 7 RX12 G) (hRL : RmL R 3) (hcs : cells ≤ R.cells ∧ slots ≤ R.slots) : ∀ (n : Nat) (v0 : Nat) (v1 : Int32) (v2 : Int32) (v3 : Int32) (μ : Mm) (x : Mm), lp_X12_layCosts_2 n v0 v1 v2 v3 μ = some x → (∀ (H : Heap) (locs : List Loc) (ls : Array Slot), HS G s x H locs → lv_has ls 7 [(0, .ref v0), (2, .int v2)] → W p l e R s m args below meth c H locs cells slots Q (F0 m 33 ls [])) → ∀ (H : Heap) (locs : List Loc) (ls : Array Slot), HS G s μ H locs → lv_has ls 7 [(0, .ref v0), (1, .int v1), (2, .int v2), (3, .int v3)] → W p l e R s m args below meth c H locs cells slots Q (F0 m 2 ls []) := by
  have hx := X.1
  have hb := X.2.1
  have hown := X.2.2.2.1
  have hts := X.2.2.2.2.1
  intro n
  induction n with
  | zero =>
    intro v0 v1 v2 v3 μ x h
    rw [lp_X12_layCosts_2] at h
    cases h
  | succ n ih =>
    intro v0 v1 v2 v3 μ x h k0 H locs ls hH hl
    rw [lp_X12_layCosts_2] at h
    refine lv_iload_n hx hb dX12_layCosts_2 rfl (lv_at hl 3 rfl) ?_
    refine lv_aload_n hx hb dX12_layCosts_3 rfl (lv_at hl 0 rfl) ?_
    obtain ⟨x1, hx1, h⟩ := bnd h
    refine gf_X12_171 X hH hx1 dX12_layCosts_4 ?_
    refine lv_icmp_ge (tgt := 33) hx hb dX12_layCosts_7 (by decide) (fun hc2 => ?_) (fun hc2 => ?_)
    · replace h := ift h hc2
      cases h
      exact k0 _ _ _ hH (lv_sub hl [0, 2] rfl)
    · replace h := iff' h hc2
      refine lv_aload_n hx hb dX12_layCosts_10 rfl (lv_at hl 0 rfl) ?_
      obtain ⟨x3, hx3, h⟩ := bnd h
      refine gf_X12_76 X hH hx3 dX12_layCosts_11 ?_
      refine lv_iload_n hx hb dX12_layCosts_14 rfl (lv_at hl 3 rfl) ?_
      refine lv_iload_n hx hb dX12_layCosts_15 rfl (lv_at hl 3 rfl) ?_
      refine lv_iload_n hx hb dX12_layCosts_16 rfl (lv_at hl 1 rfl) ?_
      refine lv_icmp_ne (tgt := 24) hx hb dX12_layCosts_17 (by decide) (fun hc4 => ?_) (fun hc4 => ?_)
      · replace h := iff' h hc4
        refine lv_ldc (v := 1000000) hx hb hown (hts _ u_1335) dX12_layCosts_24 ?_
        obtain ⟨x5, hx5, h⟩ := bnd h
        refine w_qI X hH hx5 dX12_layCosts_26 (fun H locs hH => ?_)
        refine lv_iinc (v := (v3 + 1)) (lv' := [(3, .int (v3 + 1)), (0, .ref v0), (1, .int v1), (2, .int v2)]) hx hb dX12_layCosts_27 hl (k := 3) rfl rfl (by decide) rfl (fun ls hl => ?_)
        refine lv_goto (tgt := 2) hx hb dX12_layCosts_30 (by decide) ?_
        exact ih _ _ _ _ _ _ h k0 _ _ _ hH (lv_sub hl [1, 2, 3, 0] rfl)
      · replace h := ift h hc4
        refine lv_iconst (v := 0) hx hb dX12_layCosts_20 (by decide) ?_
        refine lv_goto (tgt := 26) hx hb dX12_layCosts_21 (by decide) ?_
        obtain ⟨x6, hx6, h⟩ := bnd h
        refine w_qI X hH hx6 dX12_layCosts_26 (fun H locs hH => ?_)
        refine lv_iinc (v := (v3 + 1)) (lv' := [(3, .int (v3 + 1)), (0, .ref v0), (1, .int v1), (2, .int v2)]) hx hb dX12_layCosts_27 hl (k := 3) rfl rfl (by decide) rfl (fun ls hl => ?_)
        refine lv_goto (tgt := 2) hx hb dX12_layCosts_30 (by decide) ?_
        exact ih _ _ _ _ _ _ h k0 _ _ _ hH (lv_sub hl [1, 2, 3, 0] rfl)
set_option maxHeartbeats 4000000 in
set_option maxRecDepth 100000 in
theorem w_X12_layCosts_56 {p : Program} {e : Env} {R : Room} {s : State} {m : MethodId} {args : Array Value} {below : List Frame} {meth : Method} {c : Code} {cells slots : Nat} {Q : State → Prop} {G : CG} (l : Launch) (X : Cx p s m args meth c cX12_layCosts 7 RX12 G) (hRL : RmL R 3) (hcs : cells ≤ R.cells ∧ slots ≤ R.slots) : ∀ (n : Nat) (v0 : Nat) (v2 : Int32) (v3 : Int32) (v4 : Int32) (v5 : Int32) (μ : Mm) (x : Int32 × Mm), lp_X12_layCosts_56 n v0 v2 v3 v4 v5 μ = some x → (∀ (H : Heap) (locs : List Loc) (ls : Array Slot), HS G s x.2 H locs → lv_has ls 7 [(0, .ref v0), (2, .int v2), (3, .int x.1), (4, .int v4)] → W p l e R s m args below meth c H locs cells slots Q (F0 m 131 ls [])) → ∀ (H : Heap) (locs : List Loc) (ls : Array Slot), HS G s μ H locs → lv_has ls 7 [(0, .ref v0), (2, .int v2), (3, .int v3), (4, .int v4), (5, .int v5)] → W p l e R s m args below meth c H locs cells slots Q (F0 m 56 ls []) := by
  have hx := X.1
  have hb := X.2.1
  have hown := X.2.2.2.1
  have hts := X.2.2.2.2.1
  intro n
  induction n with
  | zero =>
    intro v0 v2 v3 v4 v5 μ x h
    rw [lp_X12_layCosts_56] at h
    cases h
  | succ n ih =>
    intro v0 v2 v3 v4 v5 μ x h k0 H locs ls hH hl
    rw [lp_X12_layCosts_56] at h
    refine lv_iload hx hb dX12_layCosts_56 (lv_at hl 4 rfl) ?_
    refine lv_aload_n hx hb dX12_layCosts_58 rfl (lv_at hl 0 rfl) ?_
    obtain ⟨x11, hx11, h⟩ := bnd h
    refine gf_X12_168 X hH hx11 dX12_layCosts_59 ?_
    refine lv_icmp_ge (tgt := 131) hx hb dX12_layCosts_62 (by decide) (fun hc12 => ?_) (fun hc12 => ?_)
    · replace h := ift h hc12
      cases h
      exact k0 _ _ _ hH (lv_sub hl [0, 1, 2, 3] rfl)
    · replace h := iff' h hc12
      refine lv_iload_n hx hb dX12_layCosts_65 rfl (lv_at hl 1 rfl) ?_
      obtain ⟨x13, hbx13, hx13⟩ := bnd h
      clear h
      refine jn_lem (G := G) (x := x13) (M := 80) (nL := 7) (fun x13 => μ) (fun x13 => [(0, .ref v0), (2, .int v2), (3, .int v3), (4, .int v4), (5, .int v5)]) (fun x13 => [.int x13]) (fun H locs ls hH hl => ?_) (fun jnx13 => ?_)
      · have h := hx13
        clear hx13 hbx13
        refine lv_aload_n hx hb dX12_layCosts_80 rfl (lv_at hl 0 rfl) ?_
        obtain ⟨x17, hx17, h⟩ := bnd h
        refine gf_X12_76 X hH hx17 dX12_layCosts_81 ?_
        refine lv_iload hx hb dX12_layCosts_84 (lv_at hl 3 rfl) ?_
        refine lv_aload_n hx hb dX12_layCosts_86 rfl (lv_at hl 0 rfl) ?_
        refine lv_iload hx hb dX12_layCosts_87 (lv_at hl 4 rfl) ?_
        obtain ⟨x18, hx18, h⟩ := bnd h
        refine iv_X12_186 l X hH hRL (by decide) hx18 hl.1 (Nat.le_of_ble_eq_true rfl) dX12_layCosts_89 hcs (fun H locs hH => ?_)
        refine lv_iadd hx hb dX12_layCosts_92 ?_
        refine lv_aload_n hx hb dX12_layCosts_93 rfl (lv_at hl 0 rfl) ?_
        obtain ⟨x19, hx19, h⟩ := bnd h
        refine gf_X12_171 X hH hx19 dX12_layCosts_94 ?_
        obtain ⟨hd20, h⟩ := gsf h
        refine lv_irem hx hb dX12_layCosts_97 hd20 ?_
        obtain ⟨x21, hx21, h⟩ := bnd h
        refine w_aI X hH hx21 dX12_layCosts_98 ?_
        refine lv_iadd hx hb dX12_layCosts_99 ?_
        refine lv_istore (lv' := [(6, .int (x13 + x21)), (0, .ref v0), (2, .int v2), (3, .int v3), (4, .int v4), (5, .int v5)]) hx hb dX12_layCosts_100 hl (by decide) rfl (fun ls hl => ?_)
        refine lv_iload hx hb dX12_layCosts_102 (lv_at hl 0 rfl) ?_
        refine lv_aload_n hx hb dX12_layCosts_104 rfl (lv_at hl 1 rfl) ?_
        obtain ⟨x22, hx22, h⟩ := bnd h
        refine gf_X12_76 X hH hx22 dX12_layCosts_105 ?_
        refine lv_iload hx hb dX12_layCosts_108 (lv_at hl 4 rfl) ?_
        obtain ⟨x23, hx23, h⟩ := bnd h
        refine w_aI X hH hx23 dX12_layCosts_110 ?_
        refine lv_icmp_ge (tgt := 125) hx hb dX12_layCosts_111 (by decide) (fun hc24 => ?_) (fun hc24 => ?_)
        · replace h := ift h hc24
          refine lv_iinc (v := (v5 + 1)) (lv' := [(5, .int (v5 + 1)), (6, .int (x13 + x21)), (0, .ref v0), (2, .int v2), (3, .int v3), (4, .int v4)]) hx hb dX12_layCosts_125 hl (k := 5) rfl rfl (by decide) rfl (fun ls hl => ?_)
          refine lv_goto (tgt := 56) hx hb dX12_layCosts_128 (by decide) ?_
          exact ih _ _ _ _ _ _ _ h k0 _ _ _ hH (lv_sub hl [2, 3, 4, 5, 0] rfl)
        · replace h := iff' h hc24
          refine lv_aload_n hx hb dX12_layCosts_114 rfl (lv_at hl 1 rfl) ?_
          obtain ⟨x25, hx25, h⟩ := bnd h
          refine gf_X12_76 X hH hx25 dX12_layCosts_115 ?_
          refine lv_iload hx hb dX12_layCosts_118 (lv_at hl 4 rfl) ?_
          refine lv_iload hx hb dX12_layCosts_120 (lv_at hl 0 rfl) ?_
          obtain ⟨x26, hx26, h⟩ := bnd h
          refine w_qI X hH hx26 dX12_layCosts_122 (fun H locs hH => ?_)
          refine lv_iconst (v := 1) hx hb dX12_layCosts_123 (by decide) ?_
          refine lv_istore_n (lv' := [(3, .int (1 : Int32)), (6, .int (x13 + x21)), (0, .ref v0), (2, .int v2), (4, .int v4), (5, .int v5)]) hx hb dX12_layCosts_124 rfl hl (by decide) rfl (fun ls hl => ?_)
          refine lv_iinc (v := (v5 + 1)) (lv' := [(5, .int (v5 + 1)), (3, .int (1 : Int32)), (6, .int (x13 + x21)), (0, .ref v0), (2, .int v2), (4, .int v4)]) hx hb dX12_layCosts_125 hl (k := 5) rfl rfl (by decide) rfl (fun ls hl => ?_)
          refine lv_goto (tgt := 56) hx hb dX12_layCosts_128 (by decide) ?_
          exact ih _ _ _ _ _ _ _ h k0 _ _ _ hH (lv_sub hl [3, 4, 1, 5, 0] rfl)
      · have h := hbx13
        clear hx13 hbx13
        refine lv_if_eq (tgt := 79) hx hb dX12_layCosts_66 (by decide) (fun hc14 => ?_) (fun hc14 => ?_)
        · replace h := ift h hc14
          refine lv_iconst (v := 1) hx hb dX12_layCosts_79 (by decide) ?_
          cases h
          exact jnx13 _ _ _ hH (lv_sub hl [0, 1, 2, 3, 4] rfl)
        · replace h := iff' h hc14
          refine lv_aload_n hx hb dX12_layCosts_69 rfl (lv_at hl 0 rfl) ?_
          obtain ⟨x15, hx15, h⟩ := bnd h
          refine gf_X12_36 X hH hx15 dX12_layCosts_70 ?_
          refine lv_iload hx hb dX12_layCosts_73 (lv_at hl 4 rfl) ?_
          obtain ⟨x16, hx16, h⟩ := bnd h
          refine w_aI X hH hx16 dX12_layCosts_75 ?_
          refine lv_goto (tgt := 80) hx hb dX12_layCosts_76 (by decide) ?_
          cases h
          exact jnx13 _ _ _ hH (lv_sub hl [0, 1, 2, 3, 4] rfl)
set_option maxHeartbeats 4000000 in
set_option maxRecDepth 100000 in
theorem w_X12_layCosts_44 {p : Program} {e : Env} {R : Room} {s : State} {m : MethodId} {args : Array Value} {below : List Frame} {meth : Method} {c : Code} {cells slots : Nat} {Q : State → Prop} {G : CG} (l : Launch) (X : Cx p s m args meth c cX12_layCosts 7 RX12 G) (hRL : RmL R 3) (hcs : cells ≤ R.cells ∧ slots ≤ R.slots) : ∀ (n : Nat) (v0 : Nat) (v2 : Int32) (v3 : Int32) (v4 : Int32) (μ : Mm) (x : Int32 × Mm), lp_X12_layCosts_44 n v0 v2 v3 v4 μ = some x → (∀ (H : Heap) (locs : List Loc) (ls : Array Slot), HS G s x.2 H locs → lv_has ls 7 [(0, .ref v0), (2, .int v2), (3, .int x.1)] → W p l e R s m args below meth c H locs cells slots Q (F0 m 137 ls [])) → ∀ (H : Heap) (locs : List Loc) (ls : Array Slot), HS G s μ H locs → lv_has ls 7 [(0, .ref v0), (2, .int v2), (3, .int v3), (4, .int v4)] → W p l e R s m args below meth c H locs cells slots Q (F0 m 44 ls []) := by
  have hx := X.1
  have hb := X.2.1
  have hown := X.2.2.2.1
  have hts := X.2.2.2.2.1
  intro n
  induction n with
  | zero =>
    intro v0 v2 v3 v4 μ x h
    rw [lp_X12_layCosts_44] at h
    cases h
  | succ n ih =>
    intro v0 v2 v3 v4 μ x h k0 H locs ls hH hl
    rw [lp_X12_layCosts_44] at h
    refine lv_iload hx hb dX12_layCosts_44 (lv_at hl 3 rfl) ?_
    refine lv_aload_n hx hb dX12_layCosts_46 rfl (lv_at hl 0 rfl) ?_
    obtain ⟨x9, hx9, h⟩ := bnd h
    refine gf_X12_171 X hH hx9 dX12_layCosts_47 ?_
    refine lv_icmp_ge (tgt := 137) hx hb dX12_layCosts_50 (by decide) (fun hc10 => ?_) (fun hc10 => ?_)
    · replace h := ift h hc10
      cases h
      exact k0 _ _ _ hH (lv_sub hl [0, 1, 2] rfl)
    · replace h := iff' h hc10
      refine lv_iconst (v := 0) hx hb dX12_layCosts_53 (by decide) ?_
      refine lv_istore (lv' := [(5, .int (0 : Int32)), (0, .ref v0), (2, .int v2), (3, .int v3), (4, .int v4)]) hx hb dX12_layCosts_54 hl (by decide) rfl (fun ls hl => ?_)
      obtain ⟨x27, hx27, hhx27⟩ := bnd h
      clear h
      refine w_X12_layCosts_56 l X hRL hcs BIG v0 v2 v3 v4 (0 : Int32) μ x27 hx27 (fun H locs ls hH hl => ?_) _ _ _ hH (lv_sub hl [1, 2, 3, 4, 0] rfl)
      · have h := hhx27
        clear hhx27
        refine lv_iinc (v := (v4 + 1)) (lv' := [(4, .int (v4 + 1)), (0, .ref v0), (2, .int v2), (3, .int x27.1)]) hx hb dX12_layCosts_131 hl (k := 3) rfl rfl (by decide) rfl (fun ls hl => ?_)
        refine lv_goto (tgt := 44) hx hb dX12_layCosts_134 (by decide) ?_
        exact ih _ _ _ _ _ _ h k0 _ _ _ hH (lv_sub hl [1, 2, 3, 0] rfl)
set_option maxHeartbeats 4000000 in
set_option maxRecDepth 100000 in
theorem w_X12_layCosts_35 {p : Program} {e : Env} {R : Room} {s : State} {m : MethodId} {args : Array Value} {below : List Frame} {meth : Method} {c : Code} {cells slots : Nat} {Q : State → Prop} {G : CG} (l : Launch) (X : Cx p s m args meth c cX12_layCosts 7 RX12 G) (hRL : RmL R 3) (hcs : cells ≤ R.cells ∧ slots ≤ R.slots) : ∀ (n : Nat) (v0 : Nat) (v2 : Int32) (v3 : Int32) (μ : Mm) (x : Mm), lp_X12_layCosts_35 n v0 v2 v3 μ = some x → (∀ (H : Heap) (locs : List Loc) (ls : Array Slot), HS G s x H locs → lv_has ls 7 [] → W p l e R s m args below meth c H locs cells slots Q (F0 m 140 ls [])) → ∀ (H : Heap) (locs : List Loc) (ls : Array Slot), HS G s μ H locs → lv_has ls 7 [(0, .ref v0), (2, .int v2), (3, .int v3)] → W p l e R s m args below meth c H locs cells slots Q (F0 m 35 ls []) := by
  have hx := X.1
  have hb := X.2.1
  have hown := X.2.2.2.1
  have hts := X.2.2.2.2.1
  intro n
  induction n with
  | zero =>
    intro v0 v2 v3 μ x h
    rw [lp_X12_layCosts_35] at h
    cases h
  | succ n ih =>
    intro v0 v2 v3 μ x h k0 H locs ls hH hl
    rw [lp_X12_layCosts_35] at h
    refine lv_iload_n hx hb dX12_layCosts_35 rfl (lv_at hl 2 rfl) ?_
    refine lv_if_eq (tgt := 140) hx hb dX12_layCosts_36 (by decide) (fun hc8 => ?_) (fun hc8 => ?_)
    · replace h := ift h hc8
      cases h
      exact k0 _ _ _ hH (lv_sub hl [] rfl)
    · replace h := iff' h hc8
      refine lv_iconst (v := 0) hx hb dX12_layCosts_39 (by decide) ?_
      refine lv_istore_n (lv' := [(3, .int (0 : Int32)), (0, .ref v0), (2, .int v2)]) hx hb dX12_layCosts_40 rfl hl (by decide) rfl (fun ls hl => ?_)
      refine lv_iconst (v := 0) hx hb dX12_layCosts_41 (by decide) ?_
      refine lv_istore (lv' := [(4, .int (0 : Int32)), (3, .int (0 : Int32)), (0, .ref v0), (2, .int v2)]) hx hb dX12_layCosts_42 hl (by decide) rfl (fun ls hl => ?_)
      obtain ⟨x28, hx28, hhx28⟩ := bnd h
      clear h
      refine w_X12_layCosts_44 l X hRL hcs BIG v0 v2 (0 : Int32) (0 : Int32) μ x28 hx28 (fun H locs ls hH hl => ?_) _ _ _ hH (lv_sub hl [2, 3, 1, 0] rfl)
      · have h := hhx28
        clear hhx28
        refine lv_goto (tgt := 35) hx hb dX12_layCosts_137 (by decide) ?_
        exact ih _ _ _ _ _ h k0 _ _ _ hH (lv_sub hl [0, 1, 2] rfl)
theorem t_X12_layCosts {μ : Mm} {a0 : Nat} {p1 : Int32} {p2 : Int32} {x : Mm} (h : f_X12_layCosts μ a0 p1 p2 = some x) : tg μ a0 = 13 := by
  unfold f_X12_layCosts at h
  exact (gsn h).1
set_option maxHeartbeats 4000000 in
set_option maxRecDepth 100000 in
theorem c_X12_layCosts (l : Launch) (G : CG) (μ : Mm) (a0 : Nat) (p1 : Int32) (p2 : Int32) (x : Mm) (h : f_X12_layCosts μ a0 p1 p2 = some x) : Met l yX12_layCosts (.code yX12_layCosts cX12_layCosts 7 none :: UW) (rmk 3 0 0) (PC G [.ref a0, .int p1, .int p2] μ) (QV G x) 0 0 (fA G) := by
  refine Met.ofW (cc := cX12_layCosts) (maxL := 7) (ret := none) (by decide) rfl ?_
  intro p e s m args below meth c s₁ B hml hv
  obtain ⟨X, hH, hr, rfl, hnm⟩ := cx_in B hml hv
  have X : Cx p s m _ meth c cX12_layCosts 7 RX12 G := X
  have hx := X.1
  have hb := X.2.1
  have hown := X.2.2.2.1
  have hts := X.2.2.2.2.1
  have hRL : RmL (rmk 3 0 0) 3 := ⟨Nat.le_refl _, Nat.le_refl _⟩
  have hcs : 0 ≤ (rmk 0 0 0).cells ∧ 0 ≤ (rmk 0 0 0).slots := ⟨Nat.zero_le _, Nat.zero_le _⟩
  refine ls_in (Nat.le_of_ble_eq_true rfl) (fun ls hl => ?_)
  have hl : lv_has ls 7 [(0, .ref a0), (1, .int p1), (2, .int p2)] := hl
  unfold f_X12_layCosts at h
  obtain ⟨htg, h⟩ := gsn h
  refine lv_iconst (v := 0) hx hb dX12_layCosts_0 (by decide) ?_
  refine lv_istore_n (lv' := [(3, .int (0 : Int32)), (0, .ref a0), (1, .int p1), (2, .int p2)]) hx hb dX12_layCosts_1 rfl hl (by decide) rfl (fun ls hl => ?_)
  obtain ⟨x7, hx7, hhx7⟩ := bnd h
  clear h
  refine w_X12_layCosts_2 l X hRL hcs BIG a0 p1 p2 (0 : Int32) μ x7 hx7 (fun H locs ls hH hl => ?_) _ _ _ hH (lv_sub hl [1, 2, 3, 0] rfl)
  · have h := hhx7
    clear hhx7
    refine lv_iconst (v := 1) hx hb dX12_layCosts_33 (by decide) ?_
    refine lv_istore_n (lv' := [(3, .int (1 : Int32)), (0, .ref a0), (2, .int p2)]) hx hb dX12_layCosts_34 rfl hl (by decide) rfl (fun ls hl => ?_)
    obtain ⟨x29, hx29, hhx29⟩ := bnd h
    clear h
    refine w_X12_layCosts_35 l X hRL hcs BIG a0 p2 (1 : Int32) x7 x29 hx29 (fun H locs ls hH hl => ?_) _ _ _ hH (lv_sub hl [1, 2, 0] rfl)
    · have h := hhx29
      clear hhx29
      exact eV X hH h hr dX12_layCosts_140 (Nat.le_of_ble_eq_true rfl) (Nat.le_of_ble_eq_true rfl)
set_option maxHeartbeats 1000000 in
theorem iv_X12_267 {p : Program} {e : Env} {R : Room} {s : State} {m : MethodId} {args : Array Value} {below : List Frame} {meth : Method} {c : Code} {H : Heap} {locs : List Loc} {cells slots : Nat} {Q : State → Prop} {cc : ByteArray} {pc : Nat} {ls : Array Slot} {rest : List Value} {nL : Nat} {G : CG} {μ : Mm} {a : Nat} {q0 : Int32} {q1 : Int32} {x : Mm} {k : Nat} (l : Launch) (X : Cx p s m args meth c cc nL RX12 G) (hH : HS G s μ H locs) (hRL : RmL R k) (hk : 3 + 1 ≤ k) (h : f_X12_layCosts μ a q0 q1 = some x) (hls : ls.size = nL) (hroom : (rest.map fun v => v.category).sum ≤ 8) (hdg : decode cc pc = .ok (.invokevirtual 267, 3)) (hcs : cells + 0 ≤ R.cells ∧ slots + 0 ≤ R.slots) (kk : ∀ (H1 : Heap) (locs1 : List Loc), HS G s x H1 locs1 → W p l e R s m args below meth c H1 locs1 cells slots Q (F0 m (pc + 3) ls rest)) : W p l e R s m args below meth c H locs cells slots Q (F0 m pc ls (.int q1 :: .int q0 :: .ref a :: rest)) := by
  refine kV0 hH (rV (As := [.int q0, .int q1]) (rest := rest) X hH (t_X12_layCosts h) vc_12 (c_X12_layCosts l G μ a q0 q1 x h) (List.forall_mem_cons.mpr ⟨u_1363, (List.forall_mem_cons.mpr ⟨u_1365, (List.forall_mem_cons.mpr ⟨u_51, (List.forall_mem_cons.mpr ⟨u_68, (fun _ h9 => absurd h9 List.not_mem_nil)⟩)⟩)⟩)⟩) u_1366 (rmo hRL (Nat.le_trans (by decide) hk) (by decide)) ddV_X12_layCosts rfl hls rfl hroom hdg hcs) kk
set_option maxHeartbeats 4000000 in
set_option maxRecDepth 100000 in
theorem w_X12_fewest_48 {p : Program} {e : Env} {R : Room} {s : State} {m : MethodId} {args : Array Value} {below : List Frame} {meth : Method} {c : Code} {cells slots : Nat} {Q : State → Prop} {G : CG} (l : Launch) (X : Cx p s m args meth c cX12_fewest 5 RX12 G) (hRL : RmL R 4) (hcs : cells ≤ R.cells ∧ slots ≤ R.slots) : ∀ (n : Nat) (v0 : Nat) (v2 : Int32) (v3 : Int32) (v4 : Int32) (μ : Mm) (x : Int32), lp_X12_fewest_48 n v0 v2 v3 v4 μ = some x → (∀ (H : Heap) (locs : List Loc) (ls : Array Slot), HS G s μ H locs → lv_has ls 5 [(0, .ref v0), (2, .int v2), (3, .int x)] → W p l e R s m args below meth c H locs cells slots Q (F0 m 99 ls [])) → ∀ (H : Heap) (locs : List Loc) (ls : Array Slot), HS G s μ H locs → lv_has ls 5 [(0, .ref v0), (2, .int v2), (3, .int v3), (4, .int v4)] → W p l e R s m args below meth c H locs cells slots Q (F0 m 48 ls []) := by
  have hx := X.1
  have hb := X.2.1
  have hown := X.2.2.2.1
  have hts := X.2.2.2.2.1
  intro n
  induction n with
  | zero =>
    intro v0 v2 v3 v4 μ x h
    rw [lp_X12_fewest_48] at h
    cases h
  | succ n ih =>
    intro v0 v2 v3 v4 μ x h k0 H locs ls hH hl
    rw [lp_X12_fewest_48] at h
    refine lv_iload hx hb dX12_fewest_48 (lv_at hl 3 rfl) ?_
    refine lv_if_lt (tgt := 99) hx hb dX12_fewest_50 (by decide) (fun hc10 => ?_) (fun hc10 => ?_)
    · replace h := ift h hc10
      cases h
      exact k0 _ _ _ hH (lv_sub hl [0, 1, 2] rfl)
    · replace h := iff' h hc10
      refine lv_iload_n hx hb dX12_fewest_53 rfl (lv_at hl 1 rfl) ?_
      refine lv_if_le (tgt := 91) hx hb dX12_fewest_54 (by decide) (fun hc11 => ?_) (fun hc11 => ?_)
      · replace h := ift h hc11
        refine lv_iload_n hx hb dX12_fewest_91 rfl (lv_at hl 2 rfl) ?_
        refine lv_istore_n (lv' := [(3, .int v3), (0, .ref v0), (2, .int v2), (4, .int v4)]) hx hb dX12_fewest_92 rfl hl (by decide) rfl (fun ls hl => ?_)
        refine lv_iinc (v := (v4 + (-1))) (lv' := [(4, .int (v4 + (-1))), (3, .int v3), (0, .ref v0), (2, .int v2)]) hx hb dX12_fewest_93 hl (k := 3) rfl rfl (by decide) rfl (fun ls hl => ?_)
        refine lv_goto (tgt := 48) hx hb dX12_fewest_96 (by decide) ?_
        exact ih _ _ _ _ _ _ h k0 _ _ _ hH (lv_sub hl [2, 3, 1, 0] rfl)
      · replace h := iff' h hc11
        refine lv_aload_n hx hb dX12_fewest_57 rfl (lv_at hl 0 rfl) ?_
        obtain ⟨x12, hx12, h⟩ := bnd h
        refine gf_X12_76 X hH hx12 dX12_fewest_58 ?_
        refine lv_aload_n hx hb dX12_fewest_61 rfl (lv_at hl 0 rfl) ?_
        obtain ⟨x13, hx13, h⟩ := bnd h
        refine gf_X12_45 X hH hx13 dX12_fewest_62 ?_
        refine lv_iconst (v := 0) hx hb dX12_fewest_65 (by decide) ?_
        obtain ⟨x14, hx14, h⟩ := bnd h
        refine w_aI X hH hx14 dX12_fewest_66 ?_
        refine lv_aload_n hx hb dX12_fewest_67 rfl (lv_at hl 0 rfl) ?_
        refine lv_iload hx hb dX12_fewest_68 (lv_at hl 3 rfl) ?_
        obtain ⟨x15, hx15, h⟩ := bnd h
        refine iv_X12_186 l X hH hRL (by decide) hx15 hl.1 (Nat.le_of_ble_eq_true rfl) dX12_fewest_70 hcs (fun H locs hH => ?_)
        refine lv_iadd hx hb dX12_fewest_73 ?_
        refine lv_aload_n hx hb dX12_fewest_74 rfl (lv_at hl 0 rfl) ?_
        obtain ⟨x16, hx16, h⟩ := bnd h
        refine gf_X12_171 X hH hx16 dX12_fewest_75 ?_
        obtain ⟨hd17, h⟩ := gsf h
        refine lv_irem hx hb dX12_fewest_78 hd17 ?_
        obtain ⟨x18, hx18, h⟩ := bnd h
        refine w_aI X hH hx18 dX12_fewest_79 ?_
        refine lv_iload_n hx hb dX12_fewest_80 rfl (lv_at hl 1 rfl) ?_
        refine lv_iconst (v := 1) hx hb dX12_fewest_81 (by decide) ?_
        refine lv_isub hx hb dX12_fewest_82 ?_
        refine lv_icmp_ne (tgt := 91) hx hb dX12_fewest_83 (by decide) (fun hc19 => ?_) (fun hc19 => ?_)
        · replace h := iff' h hc19
          refine lv_iload_n hx hb dX12_fewest_91 rfl (lv_at hl 2 rfl) ?_
          refine lv_istore_n (lv' := [(3, .int v3), (0, .ref v0), (2, .int v2), (4, .int v4)]) hx hb dX12_fewest_92 rfl hl (by decide) rfl (fun ls hl => ?_)
          refine lv_iinc (v := (v4 + (-1))) (lv' := [(4, .int (v4 + (-1))), (3, .int v3), (0, .ref v0), (2, .int v2)]) hx hb dX12_fewest_93 hl (k := 3) rfl rfl (by decide) rfl (fun ls hl => ?_)
          refine lv_goto (tgt := 48) hx hb dX12_fewest_96 (by decide) ?_
          exact ih _ _ _ _ _ _ h k0 _ _ _ hH (lv_sub hl [2, 3, 1, 0] rfl)
        · replace h := ift h hc19
          refine lv_iload hx hb dX12_fewest_86 (lv_at hl 3 rfl) ?_
          refine lv_goto (tgt := 92) hx hb dX12_fewest_88 (by decide) ?_
          refine lv_istore_n (lv' := [(3, .int v4), (0, .ref v0), (2, .int v2), (4, .int v4)]) hx hb dX12_fewest_92 rfl hl (by decide) rfl (fun ls hl => ?_)
          refine lv_iinc (v := (v4 + (-1))) (lv' := [(4, .int (v4 + (-1))), (3, .int v4), (0, .ref v0), (2, .int v2)]) hx hb dX12_fewest_93 hl (k := 3) rfl rfl (by decide) rfl (fun ls hl => ?_)
          refine lv_goto (tgt := 48) hx hb dX12_fewest_96 (by decide) ?_
          exact ih _ _ _ _ _ _ h k0 _ _ _ hH (lv_sub hl [2, 3, 1, 0] rfl)
theorem t_X12_fewest {μ : Mm} {a0 : Nat} {p1 : Int32} {x : Int32 × Mm} (h : f_X12_fewest μ a0 p1 = some x) : tg μ a0 = 13 := by
  unfold f_X12_fewest at h
  exact (gsn h).1
set_option maxHeartbeats 4000000 in
set_option maxRecDepth 100000 in
theorem c_X12_fewest (l : Launch) (G : CG) (μ : Mm) (a0 : Nat) (p1 : Int32) (x : Int32 × Mm) (h : f_X12_fewest μ a0 p1 = some x) : Met l yX12_fewest (.code yX12_fewest cX12_fewest 5 (some .int) :: UW) (rmk 4 0 0) (PC G [.ref a0, .int p1] μ) (QI G x.1 x.2) 0 0 (fA G) := by
  refine Met.ofW (cc := cX12_fewest) (maxL := 5) (ret := (some .int)) (by decide) rfl ?_
  intro p e s m args below meth c s₁ B hml hv
  obtain ⟨X, hH, hr, rfl, hnm⟩ := cx_in B hml hv
  have X : Cx p s m _ meth c cX12_fewest 5 RX12 G := X
  have hx := X.1
  have hb := X.2.1
  have hown := X.2.2.2.1
  have hts := X.2.2.2.2.1
  have hRL : RmL (rmk 4 0 0) 4 := ⟨Nat.le_refl _, Nat.le_refl _⟩
  have hcs : 0 ≤ (rmk 0 0 0).cells ∧ 0 ≤ (rmk 0 0 0).slots := ⟨Nat.zero_le _, Nat.zero_le _⟩
  refine ls_in (Nat.le_of_ble_eq_true rfl) (fun ls hl => ?_)
  have hl : lv_has ls 5 [(0, .ref a0), (1, .int p1)] := hl
  unfold f_X12_fewest at h
  obtain ⟨htg, h⟩ := gsn h
  refine lv_aload_n hx hb dX12_fewest_0 rfl (lv_at hl 0 rfl) ?_
  refine lv_iload_n hx hb dX12_fewest_1 rfl (lv_at hl 1 rfl) ?_
  obtain ⟨x1, hx1, h⟩ := bnd h
  refine iv_X12_256 l X hH hRL (by decide) hx1 hl.1 (Nat.le_of_ble_eq_true rfl) dX12_fewest_2 hcs (fun H locs hH => ?_)
  refine lv_if_ne (tgt := 10) hx hb dX12_fewest_5 (by decide) (fun hc2 => ?_) (fun hc2 => ?_)
  · replace h := iff' h hc2
    refine lv_aload_n hx hb dX12_fewest_10 rfl (lv_at hl 0 rfl) ?_
    refine lv_iload_n hx hb dX12_fewest_11 rfl (lv_at hl 1 rfl) ?_
    refine lv_iconst (v := 0) hx hb dX12_fewest_12 (by decide) ?_
    obtain ⟨x3, hx3, h⟩ := bnd h
    refine iv_X12_267 l X hH hRL (by decide) hx3 hl.1 (Nat.le_of_ble_eq_true rfl) dX12_fewest_13 hcs (fun H locs hH => ?_)
    refine lv_aload_n hx hb dX12_fewest_16 rfl (lv_at hl 0 rfl) ?_
    obtain ⟨x4, hx4, h⟩ := bnd h
    refine gf_X12_76 X hH hx4 dX12_fewest_17 ?_
    refine lv_aload_n hx hb dX12_fewest_20 rfl (lv_at hl 0 rfl) ?_
    obtain ⟨x5, hx5, h⟩ := bnd h
    refine gf_X12_45 X hH hx5 dX12_fewest_21 ?_
    refine lv_iconst (v := 0) hx hb dX12_fewest_24 (by decide) ?_
    obtain ⟨x6, hx6, h⟩ := bnd h
    refine w_aI X hH hx6 dX12_fewest_25 ?_
    obtain ⟨x7, hx7, h⟩ := bnd h
    refine w_aI X hH hx7 dX12_fewest_26 ?_
    refine lv_istore_n (lv' := [(2, .int x7), (0, .ref a0), (1, .int p1)]) hx hb dX12_fewest_27 rfl hl (by decide) rfl (fun ls hl => ?_)
    refine lv_iload_n hx hb dX12_fewest_28 rfl (lv_at hl 0 rfl) ?_
    refine lv_ldc (v := 1000000) hx hb hown (hts _ u_1335) dX12_fewest_29 ?_
    refine lv_icmp_ne (tgt := 37) hx hb dX12_fewest_31 (by decide) (fun hc8 => ?_) (fun hc8 => ?_)
    · replace h := iff' h hc8
      refine lv_bipush (v := -9) hx hb dX12_fewest_37 (by decide) ?_
      refine lv_istore_n (lv' := [(3, .int (-9 : Int32)), (2, .int x7), (0, .ref a0), (1, .int p1)]) hx hb dX12_fewest_39 rfl hl (by decide) rfl (fun ls hl => ?_)
      refine lv_aload_n hx hb dX12_fewest_40 rfl (lv_at hl 2 rfl) ?_
      obtain ⟨x9, hx9, h⟩ := bnd h
      refine gf_X12_168 X hH hx9 dX12_fewest_41 ?_
      refine lv_iconst (v := 1) hx hb dX12_fewest_44 (by decide) ?_
      refine lv_isub hx hb dX12_fewest_45 ?_
      refine lv_istore (lv' := [(4, .int (x9 - (1 : Int32))), (3, .int (-9 : Int32)), (2, .int x7), (0, .ref a0), (1, .int p1)]) hx hb dX12_fewest_46 hl (by decide) rfl (fun ls hl => ?_)
      obtain ⟨x20, hx20, hhx20⟩ := bnd h
      clear h
      refine w_X12_fewest_48 l X hRL hcs BIG a0 x7 (-9 : Int32) (x9 - (1 : Int32)) x3 x20 hx20 (fun H locs ls hH hl => ?_) _ _ _ hH (lv_sub hl [3, 2, 1, 0] rfl)
      · have h := hhx20
        clear hhx20
        refine lv_aload_n hx hb dX12_fewest_99 rfl (lv_at hl 0 rfl) ?_
        refine lv_iload_n hx hb dX12_fewest_100 rfl (lv_at hl 2 rfl) ?_
        refine lv_iload_n hx hb dX12_fewest_101 rfl (lv_at hl 1 rfl) ?_
        obtain ⟨x21, hx21, h⟩ := bnd h
        refine iv_X12_118 l X hH hRL (by decide) hx21 hl.1 (Nat.le_of_ble_eq_true rfl) dX12_fewest_102 hcs (fun H locs hH => ?_)
        exact eI X hH h hr dX12_fewest_105 (Nat.le_of_ble_eq_true rfl) (Nat.le_of_ble_eq_true rfl)
    · replace h := ift h hc8
      refine lv_bipush (v := -9) hx hb dX12_fewest_34 (by decide) ?_
      exact eI X hH h hr dX12_fewest_36 (Nat.le_of_ble_eq_true rfl) (Nat.le_of_ble_eq_true rfl)
  · replace h := ift h hc2
    refine lv_iconst (v := -1) hx hb dX12_fewest_8 (by decide) ?_
    exact eI X hH h hr dX12_fewest_9 (Nat.le_of_ble_eq_true rfl) (Nat.le_of_ble_eq_true rfl)
theorem t_X12_feet {μ : Mm} {a0 : Nat} {p1 : Int32} {x : Int32 × Mm} (h : f_X12_feet μ a0 p1 = some x) : tg μ a0 = 13 := by
  unfold f_X12_feet at h
  exact (gsn h).1
set_option maxHeartbeats 4000000 in
set_option maxRecDepth 100000 in
theorem c_X12_feet (l : Launch) (G : CG) (μ : Mm) (a0 : Nat) (p1 : Int32) (x : Int32 × Mm) (h : f_X12_feet μ a0 p1 = some x) : Met l yX12_feet (.code yX12_feet cX12_feet 3 (some .int) :: UW) (rmk 4 0 0) (PC G [.ref a0, .int p1] μ) (QI G x.1 x.2) 0 0 (fA G) := by
  refine Met.ofW (cc := cX12_feet) (maxL := 3) (ret := (some .int)) (by decide) rfl ?_
  intro p e s m args below meth c s₁ B hml hv
  obtain ⟨X, hH, hr, rfl, hnm⟩ := cx_in B hml hv
  have X : Cx p s m _ meth c cX12_feet 3 RX12 G := X
  have hx := X.1
  have hb := X.2.1
  have hown := X.2.2.2.1
  have hts := X.2.2.2.2.1
  have hRL : RmL (rmk 4 0 0) 4 := ⟨Nat.le_refl _, Nat.le_refl _⟩
  have hcs : 0 ≤ (rmk 0 0 0).cells ∧ 0 ≤ (rmk 0 0 0).slots := ⟨Nat.zero_le _, Nat.zero_le _⟩
  refine ls_in (Nat.le_of_ble_eq_true rfl) (fun ls hl => ?_)
  have hl : lv_has ls 3 [(0, .ref a0), (1, .int p1)] := hl
  unfold f_X12_feet at h
  obtain ⟨htg, h⟩ := gsn h
  refine lv_aload_n hx hb dX12_feet_0 rfl (lv_at hl 0 rfl) ?_
  refine lv_iload_n hx hb dX12_feet_1 rfl (lv_at hl 1 rfl) ?_
  obtain ⟨x1, hx1, h⟩ := bnd h
  refine iv_X12_256 l X hH hRL (by decide) hx1 hl.1 (Nat.le_of_ble_eq_true rfl) dX12_feet_2 hcs (fun H locs hH => ?_)
  refine lv_if_ne (tgt := 10) hx hb dX12_feet_5 (by decide) (fun hc2 => ?_) (fun hc2 => ?_)
  · replace h := iff' h hc2
    refine lv_aload_n hx hb dX12_feet_10 rfl (lv_at hl 0 rfl) ?_
    refine lv_iload_n hx hb dX12_feet_11 rfl (lv_at hl 1 rfl) ?_
    refine lv_iconst (v := 1) hx hb dX12_feet_12 (by decide) ?_
    obtain ⟨x3, hx3, h⟩ := bnd h
    refine iv_X12_267 l X hH hRL (by decide) hx3 hl.1 (Nat.le_of_ble_eq_true rfl) dX12_feet_13 hcs (fun H locs hH => ?_)
    refine lv_aload_n hx hb dX12_feet_16 rfl (lv_at hl 0 rfl) ?_
    obtain ⟨x4, hx4, h⟩ := bnd h
    refine gf_X12_76 X hH hx4 dX12_feet_17 ?_
    refine lv_aload_n hx hb dX12_feet_20 rfl (lv_at hl 0 rfl) ?_
    obtain ⟨x5, hx5, h⟩ := bnd h
    refine gf_X12_45 X hH hx5 dX12_feet_21 ?_
    refine lv_iconst (v := 0) hx hb dX12_feet_24 (by decide) ?_
    obtain ⟨x6, hx6, h⟩ := bnd h
    refine w_aI X hH hx6 dX12_feet_25 ?_
    obtain ⟨x7, hx7, h⟩ := bnd h
    refine w_aI X hH hx7 dX12_feet_26 ?_
    refine lv_istore_n (lv' := [(2, .int x7), (0, .ref a0), (1, .int p1)]) hx hb dX12_feet_27 rfl hl (by decide) rfl (fun ls hl => ?_)
    refine lv_iload_n hx hb dX12_feet_28 rfl (lv_at hl 0 rfl) ?_
    refine lv_ldc (v := 1000000) hx hb hown (hts _ u_1335) dX12_feet_29 ?_
    refine lv_icmp_ne (tgt := 39) hx hb dX12_feet_31 (by decide) (fun hc8 => ?_) (fun hc8 => ?_)
    · replace h := iff' h hc8
      refine lv_iload_n hx hb dX12_feet_39 rfl (lv_at hl 0 rfl) ?_
      exact eI X hH h hr dX12_feet_40 (Nat.le_of_ble_eq_true rfl) (Nat.le_of_ble_eq_true rfl)
    · replace h := ift h hc8
      refine lv_bipush (v := -9) hx hb dX12_feet_34 (by decide) ?_
      refine lv_goto (tgt := 40) hx hb dX12_feet_36 (by decide) ?_
      exact eI X hH h hr dX12_feet_40 (Nat.le_of_ble_eq_true rfl) (Nat.le_of_ble_eq_true rfl)
  · replace h := ift h hc2
    refine lv_iconst (v := -1) hx hb dX12_feet_8 (by decide) ?_
    exact eI X hH h hr dX12_feet_9 (Nat.le_of_ble_eq_true rfl) (Nat.le_of_ble_eq_true rfl)
set_option maxHeartbeats 4000000 in
set_option maxRecDepth 100000 in
theorem w_X12_hadWithout_4 {p : Program} {e : Env} {R : Room} {s : State} {m : MethodId} {args : Array Value} {below : List Frame} {meth : Method} {c : Code} {cells slots : Nat} {Q : State → Prop} {G : CG} (l : Launch) (X : Cx p s m args meth c cX12_hadWithout 7 RX12 G) (hRL : RmL R 3) (hcs : cells ≤ R.cells ∧ slots ≤ R.slots) : ∀ (n : Nat) (v0 : Nat) (v1 : Int32) (v2 : Int32) (v3 : Int32) (μ : Mm) (x : Mm), lp_X12_hadWithout_4 n v0 v1 v2 v3 μ = some x → (∀ (H : Heap) (locs : List Loc) (ls : Array Slot), HS G s x H locs → lv_has ls 7 [(0, .ref v0), (1, .int v1), (2, .int v2)] → W p l e R s m args below meth c H locs cells slots Q (F0 m 39 ls [])) → ∀ (H : Heap) (locs : List Loc) (ls : Array Slot), HS G s μ H locs → lv_has ls 7 [(0, .ref v0), (1, .int v1), (2, .int v2), (3, .int v3)] → W p l e R s m args below meth c H locs cells slots Q (F0 m 4 ls []) := by
  have hx := X.1
  have hb := X.2.1
  have hown := X.2.2.2.1
  have hts := X.2.2.2.2.1
  intro n
  induction n with
  | zero =>
    intro v0 v1 v2 v3 μ x h
    rw [lp_X12_hadWithout_4] at h
    cases h
  | succ n ih =>
    intro v0 v1 v2 v3 μ x h k0 H locs ls hH hl
    rw [lp_X12_hadWithout_4] at h
    refine lv_iload_n hx hb dX12_hadWithout_4 rfl (lv_at hl 3 rfl) ?_
    refine lv_aload_n hx hb dX12_hadWithout_5 rfl (lv_at hl 0 rfl) ?_
    obtain ⟨x1, hx1, h⟩ := bnd h
    refine gf_X12_171 X hH hx1 dX12_hadWithout_6 ?_
    refine lv_icmp_ge (tgt := 39) hx hb dX12_hadWithout_9 (by decide) (fun hc2 => ?_) (fun hc2 => ?_)
    · replace h := ift h hc2
      cases h
      exact k0 _ _ _ hH (lv_sub hl [0, 1, 2] rfl)
    · replace h := iff' h hc2
      refine lv_aload_n hx hb dX12_hadWithout_12 rfl (lv_at hl 0 rfl) ?_
      obtain ⟨x3, hx3, h⟩ := bnd h
      refine gf_X12_79 X hH hx3 dX12_hadWithout_13 ?_
      refine lv_iload_n hx hb dX12_hadWithout_16 rfl (lv_at hl 3 rfl) ?_
      refine lv_iload_n hx hb dX12_hadWithout_17 rfl (lv_at hl 3 rfl) ?_
      refine lv_aload_n hx hb dX12_hadWithout_18 rfl (lv_at hl 0 rfl) ?_
      obtain ⟨x4, hx4, h⟩ := bnd h
      refine gf_X12_45 X hH hx4 dX12_hadWithout_19 ?_
      refine lv_iconst (v := 0) hx hb dX12_hadWithout_22 (by decide) ?_
      obtain ⟨x5, hx5, h⟩ := bnd h
      refine w_aI X hH hx5 dX12_hadWithout_23 ?_
      refine lv_icmp_ne (tgt := 31) hx hb dX12_hadWithout_24 (by decide) (fun hc6 => ?_) (fun hc6 => ?_)
      · replace h := iff' h hc6
        refine lv_iconst (v := 0) hx hb dX12_hadWithout_31 (by decide) ?_
        obtain ⟨x7, hx7, h⟩ := bnd h
        refine w_qZ X hH hx7 dX12_hadWithout_32 (fun H locs hH => ?_)
        refine lv_iinc (v := (v3 + 1)) (lv' := [(3, .int (v3 + 1)), (0, .ref v0), (1, .int v1), (2, .int v2)]) hx hb dX12_hadWithout_33 hl (k := 3) rfl rfl (by decide) rfl (fun ls hl => ?_)
        refine lv_goto (tgt := 4) hx hb dX12_hadWithout_36 (by decide) ?_
        exact ih _ _ _ _ _ _ h k0 _ _ _ hH (lv_sub hl [1, 2, 3, 0] rfl)
      · replace h := ift h hc6
        refine lv_iconst (v := 1) hx hb dX12_hadWithout_27 (by decide) ?_
        refine lv_goto (tgt := 32) hx hb dX12_hadWithout_28 (by decide) ?_
        obtain ⟨x8, hx8, h⟩ := bnd h
        refine w_qZ X hH hx8 dX12_hadWithout_32 (fun H locs hH => ?_)
        refine lv_iinc (v := (v3 + 1)) (lv' := [(3, .int (v3 + 1)), (0, .ref v0), (1, .int v1), (2, .int v2)]) hx hb dX12_hadWithout_33 hl (k := 3) rfl rfl (by decide) rfl (fun ls hl => ?_)
        refine lv_goto (tgt := 4) hx hb dX12_hadWithout_36 (by decide) ?_
        exact ih _ _ _ _ _ _ h k0 _ _ _ hH (lv_sub hl [1, 2, 3, 0] rfl)
set_option maxHeartbeats 4000000 in
set_option maxRecDepth 100000 in
theorem w_X12_hadWithout_62 {p : Program} {e : Env} {R : Room} {s : State} {m : MethodId} {args : Array Value} {below : List Frame} {meth : Method} {c : Code} {cells slots : Nat} {Q : State → Prop} {G : CG} (l : Launch) (X : Cx p s m args meth c cX12_hadWithout 7 RX12 G) (hRL : RmL R 3) (hcs : cells ≤ R.cells ∧ slots ≤ R.slots) : ∀ (n : Nat) (v0 : Nat) (v1 : Int32) (v2 : Int32) (v3 : Int32) (v4 : Int32) (v5 : Int32) (μ : Mm) (x : Int32 × Int32 × Mm), lp_X12_hadWithout_62 n v0 v1 v2 v3 v4 v5 μ = some x → (∀ (H : Heap) (locs : List Loc) (ls : Array Slot), HS G s x.2.2 H locs → lv_has ls 7 [(0, .ref v0), (1, .int v1), (2, .int x.1), (3, .int x.2.1), (4, .int v4)] → W p l e R s m args below meth c H locs cells slots Q (F0 m 132 ls [])) → ∀ (H : Heap) (locs : List Loc) (ls : Array Slot), HS G s μ H locs → lv_has ls 7 [(0, .ref v0), (1, .int v1), (2, .int v2), (3, .int v3), (4, .int v4), (5, .int v5)] → W p l e R s m args below meth c H locs cells slots Q (F0 m 62 ls []) := by
  have hx := X.1
  have hb := X.2.1
  have hown := X.2.2.2.1
  have hts := X.2.2.2.2.1
  intro n
  induction n with
  | zero =>
    intro v0 v1 v2 v3 v4 v5 μ x h
    rw [lp_X12_hadWithout_62] at h
    cases h
  | succ n ih =>
    intro v0 v1 v2 v3 v4 v5 μ x h k0 H locs ls hH hl
    rw [lp_X12_hadWithout_62] at h
    refine lv_iload hx hb dX12_hadWithout_62 (lv_at hl 5 rfl) ?_
    refine lv_aload_n hx hb dX12_hadWithout_64 rfl (lv_at hl 0 rfl) ?_
    obtain ⟨x13, hx13, h⟩ := bnd h
    refine gf_X12_168 X hH hx13 dX12_hadWithout_65 ?_
    refine lv_icmp_ge (tgt := 132) hx hb dX12_hadWithout_68 (by decide) (fun hc14 => ?_) (fun hc14 => ?_)
    · replace h := ift h hc14
      cases h
      exact k0 _ _ _ hH (lv_sub hl [0, 1, 2, 3, 4] rfl)
    · replace h := iff' h hc14
      refine lv_aload_n hx hb dX12_hadWithout_71 rfl (lv_at hl 0 rfl) ?_
      obtain ⟨x15, hx15, h⟩ := bnd h
      refine gf_X12_79 X hH hx15 dX12_hadWithout_72 ?_
      refine lv_iload hx hb dX12_hadWithout_75 (lv_at hl 4 rfl) ?_
      obtain ⟨x16, hx16, h⟩ := bnd h
      refine w_aZ X hH hx16 dX12_hadWithout_77 ?_
      refine lv_if_eq (tgt := 132) hx hb dX12_hadWithout_78 (by decide) (fun hc17 => ?_) (fun hc17 => ?_)
      · replace h := ift h hc17
        cases h
        exact k0 _ _ _ hH (lv_sub hl [0, 1, 2, 3, 4] rfl)
      · replace h := iff' h hc17
        refine lv_iload hx hb dX12_hadWithout_81 (lv_at hl 4 rfl) ?_
        refine lv_aload_n hx hb dX12_hadWithout_83 rfl (lv_at hl 0 rfl) ?_
        refine lv_iload hx hb dX12_hadWithout_84 (lv_at hl 5 rfl) ?_
        obtain ⟨x18, hx18, h⟩ := bnd h
        refine iv_X12_186 l X hH hRL (by decide) hx18 hl.1 (Nat.le_of_ble_eq_true rfl) dX12_hadWithout_86 hcs (fun H locs hH => ?_)
        refine lv_iadd hx hb dX12_hadWithout_89 ?_
        refine lv_aload_n hx hb dX12_hadWithout_90 rfl (lv_at hl 0 rfl) ?_
        obtain ⟨x19, hx19, h⟩ := bnd h
        refine gf_X12_171 X hH hx19 dX12_hadWithout_91 ?_
        obtain ⟨hd20, h⟩ := gsf h
        refine lv_irem hx hb dX12_hadWithout_94 hd20 ?_
        refine lv_istore (lv' := [(6, .int ((v4 + x18) - (v4 + x18) / x19 * x19)), (0, .ref v0), (1, .int v1), (2, .int v2), (3, .int v3), (4, .int v4), (5, .int v5)]) hx hb dX12_hadWithout_95 hl (by decide) rfl (fun ls hl => ?_)
        refine lv_iload hx hb dX12_hadWithout_97 (lv_at hl 6 rfl) ?_
        refine lv_iload_n hx hb dX12_hadWithout_99 rfl (lv_at hl 2 rfl) ?_
        refine lv_icmp_eq (tgt := 126) hx hb dX12_hadWithout_100 (by decide) (fun hc21 => ?_) (fun hc21 => ?_)
        · replace h := ift h hc21
          refine lv_iinc (v := (v5 + 1)) (lv' := [(5, .int (v5 + 1)), (6, .int ((v4 + x18) - (v4 + x18) / x19 * x19)), (0, .ref v0), (1, .int v1), (2, .int v2), (3, .int v3), (4, .int v4)]) hx hb dX12_hadWithout_126 hl (k := 6) rfl rfl (by decide) rfl (fun ls hl => ?_)
          refine lv_goto (tgt := 62) hx hb dX12_hadWithout_129 (by decide) ?_
          exact ih _ _ _ _ _ _ _ _ h k0 _ _ _ hH (lv_sub hl [2, 3, 4, 5, 6, 0] rfl)
        · replace h := iff' h hc21
          refine lv_aload_n hx hb dX12_hadWithout_103 rfl (lv_at hl 1 rfl) ?_
          obtain ⟨x22, hx22, h⟩ := bnd h
          refine gf_X12_79 X hH hx22 dX12_hadWithout_104 ?_
          refine lv_iload hx hb dX12_hadWithout_107 (lv_at hl 0 rfl) ?_
          obtain ⟨x23, hx23, h⟩ := bnd h
          refine w_aZ X hH hx23 dX12_hadWithout_109 ?_
          refine lv_if_ne (tgt := 126) hx hb dX12_hadWithout_110 (by decide) (fun hc24 => ?_) (fun hc24 => ?_)
          · replace h := iff' h hc24
            refine lv_iinc (v := (v5 + 1)) (lv' := [(5, .int (v5 + 1)), (6, .int ((v4 + x18) - (v4 + x18) / x19 * x19)), (0, .ref v0), (1, .int v1), (2, .int v2), (3, .int v3), (4, .int v4)]) hx hb dX12_hadWithout_126 hl (k := 6) rfl rfl (by decide) rfl (fun ls hl => ?_)
            refine lv_goto (tgt := 62) hx hb dX12_hadWithout_129 (by decide) ?_
            exact ih _ _ _ _ _ _ _ _ h k0 _ _ _ hH (lv_sub hl [2, 3, 4, 5, 6, 0] rfl)
          · replace h := ift h hc24
            refine lv_aload_n hx hb dX12_hadWithout_113 rfl (lv_at hl 1 rfl) ?_
            obtain ⟨x25, hx25, h⟩ := bnd h
            refine gf_X12_79 X hH hx25 dX12_hadWithout_114 ?_
            refine lv_iload hx hb dX12_hadWithout_117 (lv_at hl 0 rfl) ?_
            refine lv_iconst (v := 1) hx hb dX12_hadWithout_119 (by decide) ?_
            obtain ⟨x26, hx26, h⟩ := bnd h
            refine w_qZ X hH hx26 dX12_hadWithout_120 (fun H locs hH => ?_)
            refine lv_iinc (v := (v2 + 1)) (lv' := [(2, .int (v2 + 1)), (6, .int ((v4 + x18) - (v4 + x18) / x19 * x19)), (0, .ref v0), (1, .int v1), (3, .int v3), (4, .int v4), (5, .int v5)]) hx hb dX12_hadWithout_121 hl (k := 3) rfl rfl (by decide) rfl (fun ls hl => ?_)
            refine lv_iconst (v := 1) hx hb dX12_hadWithout_124 (by decide) ?_
            refine lv_istore_n (lv' := [(3, .int (1 : Int32)), (2, .int (v2 + 1)), (6, .int ((v4 + x18) - (v4 + x18) / x19 * x19)), (0, .ref v0), (1, .int v1), (4, .int v4), (5, .int v5)]) hx hb dX12_hadWithout_125 rfl hl (by decide) rfl (fun ls hl => ?_)
            refine lv_iinc (v := (v5 + 1)) (lv' := [(5, .int (v5 + 1)), (3, .int (1 : Int32)), (2, .int (v2 + 1)), (6, .int ((v4 + x18) - (v4 + x18) / x19 * x19)), (0, .ref v0), (1, .int v1), (4, .int v4)]) hx hb dX12_hadWithout_126 hl (k := 6) rfl rfl (by decide) rfl (fun ls hl => ?_)
            refine lv_goto (tgt := 62) hx hb dX12_hadWithout_129 (by decide) ?_
            exact ih _ _ _ _ _ _ _ _ h k0 _ _ _ hH (lv_sub hl [4, 5, 2, 1, 6, 0] rfl)
set_option maxHeartbeats 4000000 in
set_option maxRecDepth 100000 in
theorem w_X12_hadWithout_50 {p : Program} {e : Env} {R : Room} {s : State} {m : MethodId} {args : Array Value} {below : List Frame} {meth : Method} {c : Code} {cells slots : Nat} {Q : State → Prop} {G : CG} (l : Launch) (X : Cx p s m args meth c cX12_hadWithout 7 RX12 G) (hRL : RmL R 3) (hcs : cells ≤ R.cells ∧ slots ≤ R.slots) : ∀ (n : Nat) (v0 : Nat) (v1 : Int32) (v2 : Int32) (v3 : Int32) (v4 : Int32) (μ : Mm) (x : Int32 × Int32 × Mm), lp_X12_hadWithout_50 n v0 v1 v2 v3 v4 μ = some x → (∀ (H : Heap) (locs : List Loc) (ls : Array Slot), HS G s x.2.2 H locs → lv_has ls 7 [(0, .ref v0), (1, .int v1), (2, .int x.1), (3, .int x.2.1)] → W p l e R s m args below meth c H locs cells slots Q (F0 m 138 ls [])) → ∀ (H : Heap) (locs : List Loc) (ls : Array Slot), HS G s μ H locs → lv_has ls 7 [(0, .ref v0), (1, .int v1), (2, .int v2), (3, .int v3), (4, .int v4)] → W p l e R s m args below meth c H locs cells slots Q (F0 m 50 ls []) := by
  have hx := X.1
  have hb := X.2.1
  have hown := X.2.2.2.1
  have hts := X.2.2.2.2.1
  intro n
  induction n with
  | zero =>
    intro v0 v1 v2 v3 v4 μ x h
    rw [lp_X12_hadWithout_50] at h
    cases h
  | succ n ih =>
    intro v0 v1 v2 v3 v4 μ x h k0 H locs ls hH hl
    rw [lp_X12_hadWithout_50] at h
    refine lv_iload hx hb dX12_hadWithout_50 (lv_at hl 4 rfl) ?_
    refine lv_aload_n hx hb dX12_hadWithout_52 rfl (lv_at hl 0 rfl) ?_
    obtain ⟨x11, hx11, h⟩ := bnd h
    refine gf_X12_171 X hH hx11 dX12_hadWithout_53 ?_
    refine lv_icmp_ge (tgt := 138) hx hb dX12_hadWithout_56 (by decide) (fun hc12 => ?_) (fun hc12 => ?_)
    · replace h := ift h hc12
      cases h
      exact k0 _ _ _ hH (lv_sub hl [0, 1, 2, 3] rfl)
    · replace h := iff' h hc12
      refine lv_iconst (v := 0) hx hb dX12_hadWithout_59 (by decide) ?_
      refine lv_istore (lv' := [(5, .int (0 : Int32)), (0, .ref v0), (1, .int v1), (2, .int v2), (3, .int v3), (4, .int v4)]) hx hb dX12_hadWithout_60 hl (by decide) rfl (fun ls hl => ?_)
      obtain ⟨x27, hx27, hhx27⟩ := bnd h
      clear h
      refine w_X12_hadWithout_62 l X hRL hcs BIG v0 v1 v2 v3 v4 (0 : Int32) μ x27 hx27 (fun H locs ls hH hl => ?_) _ _ _ hH (lv_sub hl [1, 2, 3, 4, 5, 0] rfl)
      · have h := hhx27
        clear hhx27
        refine lv_iinc (v := (v4 + 1)) (lv' := [(4, .int (v4 + 1)), (0, .ref v0), (1, .int v1), (2, .int x27.1), (3, .int x27.2.1)]) hx hb dX12_hadWithout_132 hl (k := 4) rfl rfl (by decide) rfl (fun ls hl => ?_)
        refine lv_goto (tgt := 50) hx hb dX12_hadWithout_135 (by decide) ?_
        exact ih _ _ _ _ _ _ _ h k0 _ _ _ hH (lv_sub hl [1, 2, 3, 4, 0] rfl)
set_option maxHeartbeats 4000000 in
set_option maxRecDepth 100000 in
theorem w_X12_hadWithout_41 {p : Program} {e : Env} {R : Room} {s : State} {m : MethodId} {args : Array Value} {below : List Frame} {meth : Method} {c : Code} {cells slots : Nat} {Q : State → Prop} {G : CG} (l : Launch) (X : Cx p s m args meth c cX12_hadWithout 7 RX12 G) (hRL : RmL R 3) (hcs : cells ≤ R.cells ∧ slots ≤ R.slots) : ∀ (n : Nat) (v0 : Nat) (v1 : Int32) (v2 : Int32) (v3 : Int32) (μ : Mm) (x : Int32 × Mm), lp_X12_hadWithout_41 n v0 v1 v2 v3 μ = some x → (∀ (H : Heap) (locs : List Loc) (ls : Array Slot), HS G s x.2 H locs → lv_has ls 7 [(2, .int x.1)] → W p l e R s m args below meth c H locs cells slots Q (F0 m 141 ls [])) → ∀ (H : Heap) (locs : List Loc) (ls : Array Slot), HS G s μ H locs → lv_has ls 7 [(0, .ref v0), (1, .int v1), (2, .int v2), (3, .int v3)] → W p l e R s m args below meth c H locs cells slots Q (F0 m 41 ls []) := by
  have hx := X.1
  have hb := X.2.1
  have hown := X.2.2.2.1
  have hts := X.2.2.2.2.1
  intro n
  induction n with
  | zero =>
    intro v0 v1 v2 v3 μ x h
    rw [lp_X12_hadWithout_41] at h
    cases h
  | succ n ih =>
    intro v0 v1 v2 v3 μ x h k0 H locs ls hH hl
    rw [lp_X12_hadWithout_41] at h
    refine lv_iload_n hx hb dX12_hadWithout_41 rfl (lv_at hl 3 rfl) ?_
    refine lv_if_eq (tgt := 141) hx hb dX12_hadWithout_42 (by decide) (fun hc10 => ?_) (fun hc10 => ?_)
    · replace h := ift h hc10
      cases h
      exact k0 _ _ _ hH (lv_sub hl [2] rfl)
    · replace h := iff' h hc10
      refine lv_iconst (v := 0) hx hb dX12_hadWithout_45 (by decide) ?_
      refine lv_istore_n (lv' := [(3, .int (0 : Int32)), (0, .ref v0), (1, .int v1), (2, .int v2)]) hx hb dX12_hadWithout_46 rfl hl (by decide) rfl (fun ls hl => ?_)
      refine lv_iconst (v := 0) hx hb dX12_hadWithout_47 (by decide) ?_
      refine lv_istore (lv' := [(4, .int (0 : Int32)), (3, .int (0 : Int32)), (0, .ref v0), (1, .int v1), (2, .int v2)]) hx hb dX12_hadWithout_48 hl (by decide) rfl (fun ls hl => ?_)
      obtain ⟨x28, hx28, hhx28⟩ := bnd h
      clear h
      refine w_X12_hadWithout_50 l X hRL hcs BIG v0 v1 v2 (0 : Int32) (0 : Int32) μ x28 hx28 (fun H locs ls hH hl => ?_) _ _ _ hH (lv_sub hl [2, 3, 4, 1, 0] rfl)
      · have h := hhx28
        clear hhx28
        refine lv_goto (tgt := 41) hx hb dX12_hadWithout_138 (by decide) ?_
        exact ih _ _ _ _ _ _ h k0 _ _ _ hH (lv_sub hl [0, 1, 2, 3] rfl)
theorem t_X12_hadWithout {μ : Mm} {a0 : Nat} {p1 : Int32} {x : Int32 × Mm} (h : f_X12_hadWithout μ a0 p1 = some x) : tg μ a0 = 13 := by
  unfold f_X12_hadWithout at h
  exact (gsn h).1
set_option maxHeartbeats 4000000 in
set_option maxRecDepth 100000 in
theorem c_X12_hadWithout (l : Launch) (G : CG) (μ : Mm) (a0 : Nat) (p1 : Int32) (x : Int32 × Mm) (h : f_X12_hadWithout μ a0 p1 = some x) : Met l yX12_hadWithout (.code yX12_hadWithout cX12_hadWithout 7 (some .int) :: UW) (rmk 3 0 0) (PC G [.ref a0, .int p1] μ) (QI G x.1 x.2) 0 0 (fA G) := by
  refine Met.ofW (cc := cX12_hadWithout) (maxL := 7) (ret := (some .int)) (by decide) rfl ?_
  intro p e s m args below meth c s₁ B hml hv
  obtain ⟨X, hH, hr, rfl, hnm⟩ := cx_in B hml hv
  have X : Cx p s m _ meth c cX12_hadWithout 7 RX12 G := X
  have hx := X.1
  have hb := X.2.1
  have hown := X.2.2.2.1
  have hts := X.2.2.2.2.1
  have hRL : RmL (rmk 3 0 0) 3 := ⟨Nat.le_refl _, Nat.le_refl _⟩
  have hcs : 0 ≤ (rmk 0 0 0).cells ∧ 0 ≤ (rmk 0 0 0).slots := ⟨Nat.zero_le _, Nat.zero_le _⟩
  refine ls_in (Nat.le_of_ble_eq_true rfl) (fun ls hl => ?_)
  have hl : lv_has ls 7 [(0, .ref a0), (1, .int p1)] := hl
  unfold f_X12_hadWithout at h
  obtain ⟨htg, h⟩ := gsn h
  refine lv_iconst (v := 1) hx hb dX12_hadWithout_0 (by decide) ?_
  refine lv_istore_n (lv' := [(2, .int (1 : Int32)), (0, .ref a0), (1, .int p1)]) hx hb dX12_hadWithout_1 rfl hl (by decide) rfl (fun ls hl => ?_)
  refine lv_iconst (v := 0) hx hb dX12_hadWithout_2 (by decide) ?_
  refine lv_istore_n (lv' := [(3, .int (0 : Int32)), (2, .int (1 : Int32)), (0, .ref a0), (1, .int p1)]) hx hb dX12_hadWithout_3 rfl hl (by decide) rfl (fun ls hl => ?_)
  obtain ⟨x9, hx9, hhx9⟩ := bnd h
  clear h
  refine w_X12_hadWithout_4 l X hRL hcs BIG a0 p1 (1 : Int32) (0 : Int32) μ x9 hx9 (fun H locs ls hH hl => ?_) _ _ _ hH (lv_sub hl [2, 3, 1, 0] rfl)
  · have h := hhx9
    clear hhx9
    refine lv_iconst (v := 1) hx hb dX12_hadWithout_39 (by decide) ?_
    refine lv_istore_n (lv' := [(3, .int (1 : Int32)), (0, .ref a0), (1, .int p1), (2, .int (1 : Int32))]) hx hb dX12_hadWithout_40 rfl hl (by decide) rfl (fun ls hl => ?_)
    obtain ⟨x29, hx29, hhx29⟩ := bnd h
    clear h
    refine w_X12_hadWithout_41 l X hRL hcs BIG a0 p1 (1 : Int32) (1 : Int32) x9 x29 hx29 (fun H locs ls hH hl => ?_) _ _ _ hH (lv_sub hl [1, 2, 3, 0] rfl)
    · have h := hhx29
      clear hhx29
      refine lv_iload_n hx hb dX12_hadWithout_141 rfl (lv_at hl 0 rfl) ?_
      exact eI X hH h hr dX12_hadWithout_142 (Nat.le_of_ble_eq_true rfl) (Nat.le_of_ble_eq_true rfl)
set_option maxHeartbeats 1000000 in
theorem iv_X12_270 {p : Program} {e : Env} {R : Room} {s : State} {m : MethodId} {args : Array Value} {below : List Frame} {meth : Method} {c : Code} {H : Heap} {locs : List Loc} {cells slots : Nat} {Q : State → Prop} {cc : ByteArray} {pc : Nat} {ls : Array Slot} {rest : List Value} {nL : Nat} {G : CG} {μ : Mm} {a : Nat} {q0 : Int32} {x : Int32 × Mm} {k : Nat} (l : Launch) (X : Cx p s m args meth c cc nL RX12 G) (hH : HS G s μ H locs) (hRL : RmL R k) (hk : 3 + 1 ≤ k) (h : f_X12_hadWithout μ a q0 = some x) (hls : ls.size = nL) (hroom : (rest.map fun v => v.category).sum ≤ 8) (hdg : decode cc pc = .ok (.invokevirtual 270, 3)) (hcs : cells + 0 ≤ R.cells ∧ slots + 0 ≤ R.slots) (kk : ∀ (H1 : Heap) (locs1 : List Loc), HS G s x.2 H1 locs1 → W p l e R s m args below meth c H1 locs1 cells slots Q (F0 m (pc + 3) ls (.int x.1 :: rest))) : W p l e R s m args below meth c H locs cells slots Q (F0 m pc ls (.int q0 :: .ref a :: rest)) := by
  refine kI hH (rV (As := [.int q0]) (rest := rest) X hH (t_X12_hadWithout h) vc_12 (c_X12_hadWithout l G μ a q0 x h) (List.forall_mem_cons.mpr ⟨u_1375, (List.forall_mem_cons.mpr ⟨u_1377, (List.forall_mem_cons.mpr ⟨u_52, (List.forall_mem_cons.mpr ⟨u_68, (fun _ h9 => absurd h9 List.not_mem_nil)⟩)⟩)⟩)⟩) u_1378 (rmo hRL (Nat.le_trans (by decide) hk) (by decide)) ddV_X12_hadWithout rfl hls rfl hroom hdg hcs) kk
set_option maxHeartbeats 4000000 in
set_option maxRecDepth 100000 in
theorem w_X12_never_32 {p : Program} {e : Env} {R : Room} {s : State} {m : MethodId} {args : Array Value} {below : List Frame} {meth : Method} {c : Code} {cells slots : Nat} {Q : State → Prop} {G : CG} (l : Launch) (X : Cx p s m args meth c cX12_never 4 RX12 G) (hRL : RmL R 4) (hcs : cells ≤ R.cells ∧ slots ≤ R.slots) : ∀ (n : Nat) (v0 : Nat) (v1 : Int32) (v2 : Int32) (v3 : Int32) (μ : Mm) (x : Int32), lp_X12_never_32 n v0 v1 v2 v3 μ = some x → (∀ (H : Heap) (locs : List Loc) (ls : Array Slot), HS G s μ H locs → lv_has ls 4 [(0, .ref v0), (1, .int v1), (2, .int x)] → W p l e R s m args below meth c H locs cells slots Q (F0 m 57 ls [])) → ∀ (H : Heap) (locs : List Loc) (ls : Array Slot), HS G s μ H locs → lv_has ls 4 [(0, .ref v0), (1, .int v1), (2, .int v2), (3, .int v3)] → W p l e R s m args below meth c H locs cells slots Q (F0 m 32 ls []) := by
  have hx := X.1
  have hb := X.2.1
  have hown := X.2.2.2.1
  have hts := X.2.2.2.2.1
  intro n
  induction n with
  | zero =>
    intro v0 v1 v2 v3 μ x h
    rw [lp_X12_never_32] at h
    cases h
  | succ n ih =>
    intro v0 v1 v2 v3 μ x h k0 H locs ls hH hl
    rw [lp_X12_never_32] at h
    refine lv_iload_n hx hb dX12_never_32 rfl (lv_at hl 3 rfl) ?_
    refine lv_if_lt (tgt := 57) hx hb dX12_never_33 (by decide) (fun hc6 => ?_) (fun hc6 => ?_)
    · replace h := ift h hc6
      cases h
      exact k0 _ _ _ hH (lv_sub hl [0, 1, 2] rfl)
    · replace h := iff' h hc6
      refine lv_aload_n hx hb dX12_never_36 rfl (lv_at hl 0 rfl) ?_
      obtain ⟨x7, hx7, h⟩ := bnd h
      refine gf_X12_79 X hH hx7 dX12_never_37 ?_
      refine lv_iload_n hx hb dX12_never_40 rfl (lv_at hl 3 rfl) ?_
      obtain ⟨x8, hx8, h⟩ := bnd h
      refine w_aZ X hH hx8 dX12_never_41 ?_
      refine lv_if_eq (tgt := 49) hx hb dX12_never_42 (by decide) (fun hc9 => ?_) (fun hc9 => ?_)
      · replace h := ift h hc9
        refine lv_iload_n hx hb dX12_never_49 rfl (lv_at hl 3 rfl) ?_
        refine lv_istore_n (lv' := [(2, .int v3), (0, .ref v0), (1, .int v1), (3, .int v3)]) hx hb dX12_never_50 rfl hl (by decide) rfl (fun ls hl => ?_)
        refine lv_iinc (v := (v3 + (-1))) (lv' := [(3, .int (v3 + (-1))), (2, .int v3), (0, .ref v0), (1, .int v1)]) hx hb dX12_never_51 hl (k := 3) rfl rfl (by decide) rfl (fun ls hl => ?_)
        refine lv_goto (tgt := 32) hx hb dX12_never_54 (by decide) ?_
        exact ih _ _ _ _ _ _ h k0 _ _ _ hH (lv_sub hl [2, 3, 1, 0] rfl)
      · replace h := iff' h hc9
        refine lv_iload_n hx hb dX12_never_45 rfl (lv_at hl 2 rfl) ?_
        refine lv_goto (tgt := 50) hx hb dX12_never_46 (by decide) ?_
        refine lv_istore_n (lv' := [(2, .int v2), (0, .ref v0), (1, .int v1), (3, .int v3)]) hx hb dX12_never_50 rfl hl (by decide) rfl (fun ls hl => ?_)
        refine lv_iinc (v := (v3 + (-1))) (lv' := [(3, .int (v3 + (-1))), (2, .int v2), (0, .ref v0), (1, .int v1)]) hx hb dX12_never_51 hl (k := 3) rfl rfl (by decide) rfl (fun ls hl => ?_)
        refine lv_goto (tgt := 32) hx hb dX12_never_54 (by decide) ?_
        exact ih _ _ _ _ _ _ h k0 _ _ _ hH (lv_sub hl [2, 3, 1, 0] rfl)
theorem t_X12_never {μ : Mm} {a0 : Nat} {x : Int32 × Mm} (h : f_X12_never μ a0 = some x) : tg μ a0 = 13 := by
  unfold f_X12_never at h
  exact (gsn h).1
set_option maxHeartbeats 4000000 in
set_option maxRecDepth 100000 in
theorem c_X12_never (l : Launch) (G : CG) (μ : Mm) (a0 : Nat) (x : Int32 × Mm) (h : f_X12_never μ a0 = some x) : Met l yX12_never (.code yX12_never cX12_never 4 (some .int) :: UW) (rmk 4 0 0) (PC G [.ref a0] μ) (QI G x.1 x.2) 0 0 (fA G) := by
  refine Met.ofW (cc := cX12_never) (maxL := 4) (ret := (some .int)) (by decide) rfl ?_
  intro p e s m args below meth c s₁ B hml hv
  obtain ⟨X, hH, hr, rfl, hnm⟩ := cx_in B hml hv
  have X : Cx p s m _ meth c cX12_never 4 RX12 G := X
  have hx := X.1
  have hb := X.2.1
  have hown := X.2.2.2.1
  have hts := X.2.2.2.2.1
  have hRL : RmL (rmk 4 0 0) 4 := ⟨Nat.le_refl _, Nat.le_refl _⟩
  have hcs : 0 ≤ (rmk 0 0 0).cells ∧ 0 ≤ (rmk 0 0 0).slots := ⟨Nat.zero_le _, Nat.zero_le _⟩
  refine ls_in (Nat.le_of_ble_eq_true rfl) (fun ls hl => ?_)
  have hl : lv_has ls 4 [(0, .ref a0)] := hl
  unfold f_X12_never at h
  obtain ⟨htg, h⟩ := gsn h
  refine lv_aload_n hx hb dX12_never_0 rfl (lv_at hl 0 rfl) ?_
  obtain ⟨x1, hx1, h⟩ := bnd h
  refine gf_X12_168 X hH hx1 dX12_never_1 ?_
  refine lv_if_ne (tgt := 10) hx hb dX12_never_4 (by decide) (fun hc2 => ?_) (fun hc2 => ?_)
  · replace h := iff' h hc2
    refine lv_aload_n hx hb dX12_never_10 rfl (lv_at hl 0 rfl) ?_
    obtain ⟨x3, hx3, h⟩ := bnd h
    refine gf_X12_171 X hH hx3 dX12_never_11 ?_
    refine lv_aload_n hx hb dX12_never_14 rfl (lv_at hl 0 rfl) ?_
    refine lv_bipush (v := -9) hx hb dX12_never_15 (by decide) ?_
    obtain ⟨x4, hx4, h⟩ := bnd h
    refine iv_X12_270 l X hH hRL (by decide) hx4 hl.1 (Nat.le_of_ble_eq_true rfl) dX12_never_17 hcs (fun H locs hH => ?_)
    refine lv_isub hx hb dX12_never_20 ?_
    refine lv_istore_n (lv' := [(1, .int (x3 - x4.1)), (0, .ref a0)]) hx hb dX12_never_21 rfl hl (by decide) rfl (fun ls hl => ?_)
    refine lv_bipush (v := -9) hx hb dX12_never_22 (by decide) ?_
    refine lv_istore_n (lv' := [(2, .int (-9 : Int32)), (1, .int (x3 - x4.1)), (0, .ref a0)]) hx hb dX12_never_24 rfl hl (by decide) rfl (fun ls hl => ?_)
    refine lv_aload_n hx hb dX12_never_25 rfl (lv_at hl 2 rfl) ?_
    obtain ⟨x5, hx5, h⟩ := bnd h
    refine gf_X12_171 X hH hx5 dX12_never_26 ?_
    refine lv_iconst (v := 1) hx hb dX12_never_29 (by decide) ?_
    refine lv_isub hx hb dX12_never_30 ?_
    refine lv_istore_n (lv' := [(3, .int (x5 - (1 : Int32))), (2, .int (-9 : Int32)), (1, .int (x3 - x4.1)), (0, .ref a0)]) hx hb dX12_never_31 rfl hl (by decide) rfl (fun ls hl => ?_)
    obtain ⟨x10, hx10, hhx10⟩ := bnd h
    clear h
    refine w_X12_never_32 l X hRL hcs BIG a0 (x3 - x4.1) (-9 : Int32) (x5 - (1 : Int32)) x4.2 x10 hx10 (fun H locs ls hH hl => ?_) _ _ _ hH (lv_sub hl [3, 2, 1, 0] rfl)
    · have h := hhx10
      clear hhx10
      refine lv_aload_n hx hb dX12_never_57 rfl (lv_at hl 0 rfl) ?_
      refine lv_iload_n hx hb dX12_never_58 rfl (lv_at hl 2 rfl) ?_
      refine lv_iload_n hx hb dX12_never_59 rfl (lv_at hl 1 rfl) ?_
      obtain ⟨x11, hx11, h⟩ := bnd h
      refine iv_X12_118 l X hH hRL (by decide) hx11 hl.1 (Nat.le_of_ble_eq_true rfl) dX12_never_60 hcs (fun H locs hH => ?_)
      exact eI X hH h hr dX12_never_63 (Nat.le_of_ble_eq_true rfl) (Nat.le_of_ble_eq_true rfl)
  · replace h := ift h hc2
    refine lv_bipush (v := -4) hx hb dX12_never_7 (by decide) ?_
    exact eI X hH h hr dX12_never_9 (Nat.le_of_ble_eq_true rfl) (Nat.le_of_ble_eq_true rfl)
set_option maxHeartbeats 4000000 in
set_option maxRecDepth 100000 in
theorem w_X12_keyed_21 {p : Program} {e : Env} {R : Room} {s : State} {m : MethodId} {args : Array Value} {below : List Frame} {meth : Method} {c : Code} {cells slots : Nat} {Q : State → Prop} {G : CG} (l : Launch) (X : Cx p s m args meth c cX12_keyed 4 RX12 G) (hRL : RmL R 4) (hcs : cells ≤ R.cells ∧ slots ≤ R.slots) : ∀ (n : Nat) (v0 : Nat) (v1 : Int32) (v2 : Int32) (v3 : Int32) (μ : Mm) (x : Int32 × Mm), lp_X12_keyed_21 n v0 v1 v2 v3 μ = some x → (∀ (H : Heap) (locs : List Loc) (ls : Array Slot), HS G s x.2 H locs → lv_has ls 4 [(2, .int x.1)] → W p l e R s m args below meth c H locs cells slots Q (F0 m 54 ls [])) → ∀ (H : Heap) (locs : List Loc) (ls : Array Slot), HS G s μ H locs → lv_has ls 4 [(0, .ref v0), (1, .int v1), (2, .int v2), (3, .int v3)] → W p l e R s m args below meth c H locs cells slots Q (F0 m 21 ls []) := by
  have hx := X.1
  have hb := X.2.1
  have hown := X.2.2.2.1
  have hts := X.2.2.2.2.1
  intro n
  induction n with
  | zero =>
    intro v0 v1 v2 v3 μ x h
    rw [lp_X12_keyed_21] at h
    cases h
  | succ n ih =>
    intro v0 v1 v2 v3 μ x h k0 H locs ls hH hl
    rw [lp_X12_keyed_21] at h
    refine lv_iload_n hx hb dX12_keyed_21 rfl (lv_at hl 3 rfl) ?_
    refine lv_aload_n hx hb dX12_keyed_22 rfl (lv_at hl 0 rfl) ?_
    obtain ⟨x4, hx4, h⟩ := bnd h
    refine gf_X12_168 X hH hx4 dX12_keyed_23 ?_
    refine lv_icmp_ge (tgt := 54) hx hb dX12_keyed_26 (by decide) (fun hc5 => ?_) (fun hc5 => ?_)
    · replace h := ift h hc5
      cases h
      exact k0 _ _ _ hH (lv_sub hl [2] rfl)
    · replace h := iff' h hc5
      refine lv_iload_n hx hb dX12_keyed_29 rfl (lv_at hl 2 rfl) ?_
      refine lv_aload_n hx hb dX12_keyed_30 rfl (lv_at hl 0 rfl) ?_
      refine lv_iload_n hx hb dX12_keyed_31 rfl (lv_at hl 3 rfl) ?_
      obtain ⟨x6, hx6, h⟩ := bnd h
      refine iv_X12_270 l X hH hRL (by decide) hx6 hl.1 (Nat.le_of_ble_eq_true rfl) dX12_keyed_32 hcs (fun H locs hH => ?_)
      refine lv_iload_n hx hb dX12_keyed_35 rfl (lv_at hl 1 rfl) ?_
      refine lv_icmp_ge (tgt := 45) hx hb dX12_keyed_36 (by decide) (fun hc7 => ?_) (fun hc7 => ?_)
      · replace h := ift h hc7
        refine lv_iconst (v := 0) hx hb dX12_keyed_45 (by decide) ?_
        refine lv_ior hx hb dX12_keyed_46 ?_
        refine lv_istore_n (lv' := [(2, .int (v2 ||| (0 : Int32))), (0, .ref v0), (1, .int v1), (3, .int v3)]) hx hb dX12_keyed_47 rfl hl (by decide) rfl (fun ls hl => ?_)
        refine lv_iinc (v := (v3 + 1)) (lv' := [(3, .int (v3 + 1)), (2, .int (v2 ||| (0 : Int32))), (0, .ref v0), (1, .int v1)]) hx hb dX12_keyed_48 hl (k := 3) rfl rfl (by decide) rfl (fun ls hl => ?_)
        refine lv_goto (tgt := 21) hx hb dX12_keyed_51 (by decide) ?_
        exact ih _ _ _ _ _ _ h k0 _ _ _ hH (lv_sub hl [2, 3, 1, 0] rfl)
      · replace h := iff' h hc7
        refine lv_iconst (v := 1) hx hb dX12_keyed_39 (by decide) ?_
        refine lv_iload_n hx hb dX12_keyed_40 rfl (lv_at hl 3 rfl) ?_
        refine lv_ishl hx hb dX12_keyed_41 ?_
        refine lv_goto (tgt := 46) hx hb dX12_keyed_42 (by decide) ?_
        refine lv_ior hx hb dX12_keyed_46 ?_
        refine lv_istore_n (lv' := [(2, .int (v2 ||| ((1 : Int32) <<< (v3 &&& 31)))), (0, .ref v0), (1, .int v1), (3, .int v3)]) hx hb dX12_keyed_47 rfl hl (by decide) rfl (fun ls hl => ?_)
        refine lv_iinc (v := (v3 + 1)) (lv' := [(3, .int (v3 + 1)), (2, .int (v2 ||| ((1 : Int32) <<< (v3 &&& 31)))), (0, .ref v0), (1, .int v1)]) hx hb dX12_keyed_48 hl (k := 3) rfl rfl (by decide) rfl (fun ls hl => ?_)
        refine lv_goto (tgt := 21) hx hb dX12_keyed_51 (by decide) ?_
        exact ih _ _ _ _ _ _ h k0 _ _ _ hH (lv_sub hl [2, 3, 1, 0] rfl)
theorem t_X12_keyed {μ : Mm} {a0 : Nat} {x : Int32 × Mm} (h : f_X12_keyed μ a0 = some x) : tg μ a0 = 13 := by
  unfold f_X12_keyed at h
  exact (gsn h).1
set_option maxHeartbeats 4000000 in
set_option maxRecDepth 100000 in
theorem c_X12_keyed (l : Launch) (G : CG) (μ : Mm) (a0 : Nat) (x : Int32 × Mm) (h : f_X12_keyed μ a0 = some x) : Met l yX12_keyed (.code yX12_keyed cX12_keyed 4 (some .int) :: UW) (rmk 4 0 0) (PC G [.ref a0] μ) (QI G x.1 x.2) 0 0 (fA G) := by
  refine Met.ofW (cc := cX12_keyed) (maxL := 4) (ret := (some .int)) (by decide) rfl ?_
  intro p e s m args below meth c s₁ B hml hv
  obtain ⟨X, hH, hr, rfl, hnm⟩ := cx_in B hml hv
  have X : Cx p s m _ meth c cX12_keyed 4 RX12 G := X
  have hx := X.1
  have hb := X.2.1
  have hown := X.2.2.2.1
  have hts := X.2.2.2.2.1
  have hRL : RmL (rmk 4 0 0) 4 := ⟨Nat.le_refl _, Nat.le_refl _⟩
  have hcs : 0 ≤ (rmk 0 0 0).cells ∧ 0 ≤ (rmk 0 0 0).slots := ⟨Nat.zero_le _, Nat.zero_le _⟩
  refine ls_in (Nat.le_of_ble_eq_true rfl) (fun ls hl => ?_)
  have hl : lv_has ls 4 [(0, .ref a0)] := hl
  unfold f_X12_keyed at h
  obtain ⟨htg, h⟩ := gsn h
  refine lv_aload_n hx hb dX12_keyed_0 rfl (lv_at hl 0 rfl) ?_
  obtain ⟨x1, hx1, h⟩ := bnd h
  refine gf_X12_168 X hH hx1 dX12_keyed_1 ?_
  refine lv_if_ne (tgt := 10) hx hb dX12_keyed_4 (by decide) (fun hc2 => ?_) (fun hc2 => ?_)
  · replace h := iff' h hc2
    refine lv_aload_n hx hb dX12_keyed_10 rfl (lv_at hl 0 rfl) ?_
    refine lv_bipush (v := -9) hx hb dX12_keyed_11 (by decide) ?_
    obtain ⟨x3, hx3, h⟩ := bnd h
    refine iv_X12_270 l X hH hRL (by decide) hx3 hl.1 (Nat.le_of_ble_eq_true rfl) dX12_keyed_13 hcs (fun H locs hH => ?_)
    refine lv_istore_n (lv' := [(1, .int x3.1), (0, .ref a0)]) hx hb dX12_keyed_16 rfl hl (by decide) rfl (fun ls hl => ?_)
    refine lv_iconst (v := 0) hx hb dX12_keyed_17 (by decide) ?_
    refine lv_istore_n (lv' := [(2, .int (0 : Int32)), (1, .int x3.1), (0, .ref a0)]) hx hb dX12_keyed_18 rfl hl (by decide) rfl (fun ls hl => ?_)
    refine lv_iconst (v := 0) hx hb dX12_keyed_19 (by decide) ?_
    refine lv_istore_n (lv' := [(3, .int (0 : Int32)), (2, .int (0 : Int32)), (1, .int x3.1), (0, .ref a0)]) hx hb dX12_keyed_20 rfl hl (by decide) rfl (fun ls hl => ?_)
    obtain ⟨x8, hx8, hhx8⟩ := bnd h
    clear h
    refine w_X12_keyed_21 l X hRL hcs BIG a0 x3.1 (0 : Int32) (0 : Int32) x3.2 x8 hx8 (fun H locs ls hH hl => ?_) _ _ _ hH (lv_sub hl [3, 2, 1, 0] rfl)
    · have h := hhx8
      clear hhx8
      refine lv_iload_n hx hb dX12_keyed_54 rfl (lv_at hl 0 rfl) ?_
      exact eI X hH h hr dX12_keyed_55 (Nat.le_of_ble_eq_true rfl) (Nat.le_of_ble_eq_true rfl)
  · replace h := ift h hc2
    refine lv_bipush (v := -4) hx hb dX12_keyed_7 (by decide) ?_
    exact eI X hH h hr dX12_keyed_9 (Nat.le_of_ble_eq_true rfl) (Nat.le_of_ble_eq_true rfl)
set_option maxHeartbeats 4000000 in
set_option maxRecDepth 100000 in
theorem w_X12_goneBy_4 {p : Program} {e : Env} {R : Room} {s : State} {m : MethodId} {args : Array Value} {below : List Frame} {meth : Method} {c : Code} {cells slots : Nat} {Q : State → Prop} {G : CG} (l : Launch) (X : Cx p s m args meth c cX12_goneBy 4 RX12 G) (hRL : RmL R 3) (hcs : cells ≤ R.cells ∧ slots ≤ R.slots) : ∀ (n : Nat) (v0 : Nat) (v1 : Int32) (v2 : Int32) (v3 : Int32) (μ : Mm) (x : Int32), lp_X12_goneBy_4 n v0 v1 v2 v3 μ = some x → (∀ (H : Heap) (locs : List Loc) (ls : Array Slot), HS G s μ H locs → lv_has ls 4 [(0, .ref v0), (2, .int x)] → W p l e R s m args below meth c H locs cells slots Q (F0 m 38 ls [])) → ∀ (H : Heap) (locs : List Loc) (ls : Array Slot), HS G s μ H locs → lv_has ls 4 [(0, .ref v0), (1, .int v1), (2, .int v2), (3, .int v3)] → W p l e R s m args below meth c H locs cells slots Q (F0 m 4 ls []) := by
  have hx := X.1
  have hb := X.2.1
  have hown := X.2.2.2.1
  have hts := X.2.2.2.2.1
  intro n
  induction n with
  | zero =>
    intro v0 v1 v2 v3 μ x h
    rw [lp_X12_goneBy_4] at h
    cases h
  | succ n ih =>
    intro v0 v1 v2 v3 μ x h k0 H locs ls hH hl
    rw [lp_X12_goneBy_4] at h
    refine lv_iload_n hx hb dX12_goneBy_4 rfl (lv_at hl 3 rfl) ?_
    refine lv_aload_n hx hb dX12_goneBy_5 rfl (lv_at hl 0 rfl) ?_
    obtain ⟨x1, hx1, h⟩ := bnd h
    refine gf_X12_168 X hH hx1 dX12_goneBy_6 ?_
    refine lv_icmp_ge (tgt := 38) hx hb dX12_goneBy_9 (by decide) (fun hc2 => ?_) (fun hc2 => ?_)
    · replace h := ift h hc2
      cases h
      exact k0 _ _ _ hH (lv_sub hl [0, 2] rfl)
    · replace h := iff' h hc2
      refine lv_iload_n hx hb dX12_goneBy_12 rfl (lv_at hl 2 rfl) ?_
      refine lv_iload_n hx hb dX12_goneBy_13 rfl (lv_at hl 1 rfl) ?_
      refine lv_iload_n hx hb dX12_goneBy_14 rfl (lv_at hl 3 rfl) ?_
      obtain ⟨x3, hx3, h⟩ := bnd h
      refine iv_X12_245 l X hH hRL (by decide) hx3 hl.1 (Nat.le_of_ble_eq_true rfl) dX12_goneBy_15 hcs (fun H locs hH => ?_)
      refine lv_if_eq (tgt := 29) hx hb dX12_goneBy_18 (by decide) (fun hc4 => ?_) (fun hc4 => ?_)
      · replace h := ift h hc4
        refine lv_iconst (v := 0) hx hb dX12_goneBy_29 (by decide) ?_
        refine lv_iadd hx hb dX12_goneBy_30 ?_
        refine lv_istore_n (lv' := [(2, .int (v2 + (0 : Int32))), (0, .ref v0), (1, .int v1), (3, .int v3)]) hx hb dX12_goneBy_31 rfl hl (by decide) rfl (fun ls hl => ?_)
        refine lv_iinc (v := (v3 + 1)) (lv' := [(3, .int (v3 + 1)), (2, .int (v2 + (0 : Int32))), (0, .ref v0), (1, .int v1)]) hx hb dX12_goneBy_32 hl (k := 3) rfl rfl (by decide) rfl (fun ls hl => ?_)
        refine lv_goto (tgt := 4) hx hb dX12_goneBy_35 (by decide) ?_
        exact ih _ _ _ _ _ _ h k0 _ _ _ hH (lv_sub hl [2, 3, 1, 0] rfl)
      · replace h := iff' h hc4
        refine lv_aload_n hx hb dX12_goneBy_21 rfl (lv_at hl 0 rfl) ?_
        refine lv_iload_n hx hb dX12_goneBy_22 rfl (lv_at hl 3 rfl) ?_
        obtain ⟨x5, hx5, h⟩ := bnd h
        refine iv_X12_186 l X hH hRL (by decide) hx5 hl.1 (Nat.le_of_ble_eq_true rfl) dX12_goneBy_23 hcs (fun H locs hH => ?_)
        refine lv_goto (tgt := 30) hx hb dX12_goneBy_26 (by decide) ?_
        refine lv_iadd hx hb dX12_goneBy_30 ?_
        refine lv_istore_n (lv' := [(2, .int (v2 + x5)), (0, .ref v0), (1, .int v1), (3, .int v3)]) hx hb dX12_goneBy_31 rfl hl (by decide) rfl (fun ls hl => ?_)
        refine lv_iinc (v := (v3 + 1)) (lv' := [(3, .int (v3 + 1)), (2, .int (v2 + x5)), (0, .ref v0), (1, .int v1)]) hx hb dX12_goneBy_32 hl (k := 3) rfl rfl (by decide) rfl (fun ls hl => ?_)
        refine lv_goto (tgt := 4) hx hb dX12_goneBy_35 (by decide) ?_
        exact ih _ _ _ _ _ _ h k0 _ _ _ hH (lv_sub hl [2, 3, 1, 0] rfl)
theorem t_X12_goneBy {μ : Mm} {a0 : Nat} {p1 : Int32} {x : Int32} (h : f_X12_goneBy μ a0 p1 = some x) : tg μ a0 = 13 := by
  unfold f_X12_goneBy at h
  exact (gsn h).1
set_option maxHeartbeats 4000000 in
set_option maxRecDepth 100000 in
theorem c_X12_goneBy (l : Launch) (G : CG) (μ : Mm) (a0 : Nat) (p1 : Int32) (x : Int32) (h : f_X12_goneBy μ a0 p1 = some x) : Met l yX12_goneBy (.code yX12_goneBy cX12_goneBy 4 (some .int) :: UW) (rmk 3 0 0) (PC G [.ref a0, .int p1] μ) (QI G x μ) 0 0 (fA G) := by
  refine Met.ofW (cc := cX12_goneBy) (maxL := 4) (ret := (some .int)) (by decide) rfl ?_
  intro p e s m args below meth c s₁ B hml hv
  obtain ⟨X, hH, hr, rfl, hnm⟩ := cx_in B hml hv
  have X : Cx p s m _ meth c cX12_goneBy 4 RX12 G := X
  have hx := X.1
  have hb := X.2.1
  have hown := X.2.2.2.1
  have hts := X.2.2.2.2.1
  have hRL : RmL (rmk 3 0 0) 3 := ⟨Nat.le_refl _, Nat.le_refl _⟩
  have hcs : 0 ≤ (rmk 0 0 0).cells ∧ 0 ≤ (rmk 0 0 0).slots := ⟨Nat.zero_le _, Nat.zero_le _⟩
  refine ls_in (Nat.le_of_ble_eq_true rfl) (fun ls hl => ?_)
  have hl : lv_has ls 4 [(0, .ref a0), (1, .int p1)] := hl
  unfold f_X12_goneBy at h
  obtain ⟨htg, h⟩ := gsn h
  refine lv_iconst (v := 0) hx hb dX12_goneBy_0 (by decide) ?_
  refine lv_istore_n (lv' := [(2, .int (0 : Int32)), (0, .ref a0), (1, .int p1)]) hx hb dX12_goneBy_1 rfl hl (by decide) rfl (fun ls hl => ?_)
  refine lv_iconst (v := 0) hx hb dX12_goneBy_2 (by decide) ?_
  refine lv_istore_n (lv' := [(3, .int (0 : Int32)), (2, .int (0 : Int32)), (0, .ref a0), (1, .int p1)]) hx hb dX12_goneBy_3 rfl hl (by decide) rfl (fun ls hl => ?_)
  obtain ⟨x6, hx6, hhx6⟩ := bnd h
  clear h
  refine w_X12_goneBy_4 l X hRL hcs BIG a0 p1 (0 : Int32) (0 : Int32) μ x6 hx6 (fun H locs ls hH hl => ?_) _ _ _ hH (lv_sub hl [2, 3, 1, 0] rfl)
  · have h := hhx6
    clear hhx6
    refine lv_iload_n hx hb dX12_goneBy_38 rfl (lv_at hl 1 rfl) ?_
    refine lv_aload_n hx hb dX12_goneBy_39 rfl (lv_at hl 0 rfl) ?_
    obtain ⟨x7, hx7, h⟩ := bnd h
    refine gf_X12_171 X hH hx7 dX12_goneBy_40 ?_
    obtain ⟨hd8, h⟩ := gsf h
    refine lv_irem hx hb dX12_goneBy_43 hd8 ?_
    exact eIp X hH h hr dX12_goneBy_44
set_option maxHeartbeats 1000000 in
theorem iv_X12_285 {p : Program} {e : Env} {R : Room} {s : State} {m : MethodId} {args : Array Value} {below : List Frame} {meth : Method} {c : Code} {H : Heap} {locs : List Loc} {cells slots : Nat} {Q : State → Prop} {cc : ByteArray} {pc : Nat} {ls : Array Slot} {rest : List Value} {nL : Nat} {G : CG} {μ : Mm} {a : Nat} {q0 : Int32} {x : Int32} {k : Nat} (l : Launch) (X : Cx p s m args meth c cc nL RX12 G) (hH : HS G s μ H locs) (hRL : RmL R k) (hk : 3 + 1 ≤ k) (h : f_X12_goneBy μ a q0 = some x) (hls : ls.size = nL) (hroom : (rest.map fun v => v.category).sum ≤ 8) (hdg : decode cc pc = .ok (.invokevirtual 285, 3)) (hcs : cells + 0 ≤ R.cells ∧ slots + 0 ≤ R.slots) (kk : ∀ (H1 : Heap) (locs1 : List Loc), HS G s μ H1 locs1 → W p l e R s m args below meth c H1 locs1 cells slots Q (F0 m (pc + 3) ls (.int x :: rest))) : W p l e R s m args below meth c H locs cells slots Q (F0 m pc ls (.int q0 :: .ref a :: rest)) := by
  refine kI hH (rV (As := [.int q0]) (rest := rest) X hH (t_X12_goneBy h) vc_12 (c_X12_goneBy l G μ a q0 x h) (List.forall_mem_cons.mpr ⟨u_1391, (List.forall_mem_cons.mpr ⟨u_1393, (List.forall_mem_cons.mpr ⟨u_54, (List.forall_mem_cons.mpr ⟨u_68, (fun _ h9 => absurd h9 List.not_mem_nil)⟩)⟩)⟩)⟩) u_1394 (rmo hRL (Nat.le_trans (by decide) hk) (by decide)) ddV_X12_goneBy rfl hls rfl hroom hdg hcs) kk
set_option maxHeartbeats 4000000 in
set_option maxRecDepth 100000 in
theorem w_X12_layFits_30 {p : Program} {e : Env} {R : Room} {s : State} {m : MethodId} {args : Array Value} {below : List Frame} {meth : Method} {c : Code} {cells slots : Nat} {Q : State → Prop} {G : CG} (l : Launch) (X : Cx p s m args meth c cX12_layFits 4 RX12 G) (hRL : RmL R 4) (hcs : cells ≤ R.cells ∧ slots ≤ R.slots) : ∀ (n : Nat) (v0 : Nat) (v1 : Int32) (v2 : Int32) (μ : Mm) (x : Mm), lp_X12_layFits_30 n v0 v1 v2 μ = some x → (∀ (H : Heap) (locs : List Loc) (ls : Array Slot), HS G s x H locs → lv_has ls 4 [(0, .ref v0), (1, .int v1)] → W p l e R s m args below meth c H locs cells slots Q (F0 m 51 ls [])) → ∀ (H : Heap) (locs : List Loc) (ls : Array Slot), HS G s μ H locs → lv_has ls 4 [(0, .ref v0), (1, .int v1), (2, .int v2)] → W p l e R s m args below meth c H locs cells slots Q (F0 m 30 ls []) := by
  have hx := X.1
  have hb := X.2.1
  have hown := X.2.2.2.1
  have hts := X.2.2.2.2.1
  intro n
  induction n with
  | zero =>
    intro v0 v1 v2 μ x h
    rw [lp_X12_layFits_30] at h
    cases h
  | succ n ih =>
    intro v0 v1 v2 μ x h k0 H locs ls hH hl
    rw [lp_X12_layFits_30] at h
    refine lv_iload_n hx hb dX12_layFits_30 rfl (lv_at hl 2 rfl) ?_
    refine lv_aload_n hx hb dX12_layFits_31 rfl (lv_at hl 0 rfl) ?_
    obtain ⟨x6, hx6, h⟩ := bnd h
    refine gf_X12_168 X hH hx6 dX12_layFits_32 ?_
    refine lv_icmp_ge (tgt := 51) hx hb dX12_layFits_35 (by decide) (fun hc7 => ?_) (fun hc7 => ?_)
    · replace h := ift h hc7
      cases h
      exact k0 _ _ _ hH (lv_sub hl [0, 1] rfl)
    · replace h := iff' h hc7
      refine lv_aload_n hx hb dX12_layFits_38 rfl (lv_at hl 0 rfl) ?_
      obtain ⟨x8, hx8, h⟩ := bnd h
      refine gf_X12_82 X hH hx8 dX12_layFits_39 ?_
      refine lv_iload_n hx hb dX12_layFits_42 rfl (lv_at hl 2 rfl) ?_
      refine lv_iconst (v := 0) hx hb dX12_layFits_43 (by decide) ?_
      obtain ⟨x9, hx9, h⟩ := bnd h
      refine w_qI X hH hx9 dX12_layFits_44 (fun H locs hH => ?_)
      refine lv_iinc (v := (v2 + 1)) (lv' := [(2, .int (v2 + 1)), (0, .ref v0), (1, .int v1)]) hx hb dX12_layFits_45 hl (k := 2) rfl rfl (by decide) rfl (fun ls hl => ?_)
      refine lv_goto (tgt := 30) hx hb dX12_layFits_48 (by decide) ?_
      exact ih _ _ _ _ _ h k0 _ _ _ hH (lv_sub hl [1, 2, 0] rfl)
set_option maxHeartbeats 4000000 in
set_option maxRecDepth 100000 in
theorem w_X12_layFits_123 {p : Program} {e : Env} {R : Room} {s : State} {m : MethodId} {args : Array Value} {below : List Frame} {meth : Method} {c : Code} {cells slots : Nat} {Q : State → Prop} {G : CG} (l : Launch) (X : Cx p s m args meth c cX12_layFits 4 RX12 G) (hRL : RmL R 4) (hcs : cells ≤ R.cells ∧ slots ≤ R.slots) : ∀ (n : Nat) (v0 : Nat) (v1 : Int32) (v2 : Int32) (v3 : Int32) (μ : Mm) (x : Mm), lp_X12_layFits_123 n v0 v1 v2 v3 μ = some x → (∀ (H : Heap) (locs : List Loc) (ls : Array Slot), HS G s x H locs → lv_has ls 4 [(0, .ref v0), (1, .int v1), (2, .int v2)] → W p l e R s m args below meth c H locs cells slots Q (F0 m 159 ls [])) → ∀ (H : Heap) (locs : List Loc) (ls : Array Slot), HS G s μ H locs → lv_has ls 4 [(0, .ref v0), (1, .int v1), (2, .int v2), (3, .int v3)] → W p l e R s m args below meth c H locs cells slots Q (F0 m 123 ls []) := by
  have hx := X.1
  have hb := X.2.1
  have hown := X.2.2.2.1
  have hts := X.2.2.2.2.1
  intro n
  induction n with
  | zero =>
    intro v0 v1 v2 v3 μ x h
    rw [lp_X12_layFits_123] at h
    cases h
  | succ n ih =>
    intro v0 v1 v2 v3 μ x h k0 H locs ls hH hl
    rw [lp_X12_layFits_123] at h
    refine lv_iload_n hx hb dX12_layFits_123 rfl (lv_at hl 3 rfl) ?_
    refine lv_aload_n hx hb dX12_layFits_124 rfl (lv_at hl 0 rfl) ?_
    obtain ⟨x26, hx26, h⟩ := bnd h
    refine gf_X12_168 X hH hx26 dX12_layFits_125 ?_
    refine lv_icmp_ge (tgt := 159) hx hb dX12_layFits_128 (by decide) (fun hc27 => ?_) (fun hc27 => ?_)
    · replace h := ift h hc27
      cases h
      exact k0 _ _ _ hH (lv_sub hl [0, 1, 2] rfl)
    · replace h := iff' h hc27
      refine lv_aload_n hx hb dX12_layFits_131 rfl (lv_at hl 0 rfl) ?_
      obtain ⟨x28, hx28, h⟩ := bnd h
      refine gf_X12_82 X hH hx28 dX12_layFits_132 ?_
      refine lv_iload_n hx hb dX12_layFits_135 rfl (lv_at hl 3 rfl) ?_
      refine lv_dup2_11 hx hb dX12_layFits_136 rfl rfl ?_
      obtain ⟨x29, hx29, h⟩ := bnd h
      refine w_aI X hH hx29 dX12_layFits_137 ?_
      refine lv_iload_n hx hb dX12_layFits_138 rfl (lv_at hl 2 rfl) ?_
      refine lv_iload_n hx hb dX12_layFits_139 rfl (lv_at hl 3 rfl) ?_
      obtain ⟨x30, hx30, h⟩ := bnd h
      refine iv_X12_245 l X hH hRL (by decide) hx30 hl.1 (Nat.le_of_ble_eq_true rfl) dX12_layFits_140 hcs (fun H locs hH => ?_)
      refine lv_if_eq (tgt := 150) hx hb dX12_layFits_143 (by decide) (fun hc31 => ?_) (fun hc31 => ?_)
      · replace h := ift h hc31
        refine lv_iconst (v := 0) hx hb dX12_layFits_150 (by decide) ?_
        refine lv_iadd hx hb dX12_layFits_151 ?_
        obtain ⟨x32, hx32, h⟩ := bnd h
        refine w_qI X hH hx32 dX12_layFits_152 (fun H locs hH => ?_)
        refine lv_iinc (v := (v3 + 1)) (lv' := [(3, .int (v3 + 1)), (0, .ref v0), (1, .int v1), (2, .int v2)]) hx hb dX12_layFits_153 hl (k := 3) rfl rfl (by decide) rfl (fun ls hl => ?_)
        refine lv_goto (tgt := 123) hx hb dX12_layFits_156 (by decide) ?_
        exact ih _ _ _ _ _ _ h k0 _ _ _ hH (lv_sub hl [1, 2, 3, 0] rfl)
      · replace h := iff' h hc31
        refine lv_iconst (v := 1) hx hb dX12_layFits_146 (by decide) ?_
        refine lv_goto (tgt := 151) hx hb dX12_layFits_147 (by decide) ?_
        refine lv_iadd hx hb dX12_layFits_151 ?_
        obtain ⟨x33, hx33, h⟩ := bnd h
        refine w_qI X hH hx33 dX12_layFits_152 (fun H locs hH => ?_)
        refine lv_iinc (v := (v3 + 1)) (lv' := [(3, .int (v3 + 1)), (0, .ref v0), (1, .int v1), (2, .int v2)]) hx hb dX12_layFits_153 hl (k := 3) rfl rfl (by decide) rfl (fun ls hl => ?_)
        refine lv_goto (tgt := 123) hx hb dX12_layFits_156 (by decide) ?_
        exact ih _ _ _ _ _ _ h k0 _ _ _ hH (lv_sub hl [1, 2, 3, 0] rfl)
set_option maxHeartbeats 4000000 in
set_option maxRecDepth 100000 in
theorem w_X12_layFits_53 {p : Program} {e : Env} {R : Room} {s : State} {m : MethodId} {args : Array Value} {below : List Frame} {meth : Method} {c : Code} {cells slots : Nat} {Q : State → Prop} {G : CG} (l : Launch) (X : Cx p s m args meth c cX12_layFits 4 RX12 G) (hRL : RmL R 4) (hcs : cells ≤ R.cells ∧ slots ≤ R.slots) : ∀ (n : Nat) (v0 : Nat) (v1 : Int32) (v2 : Int32) (μ : Mm) (x : Mm), lp_X12_layFits_53 n v0 v1 v2 μ = some x → (∀ (H : Heap) (locs : List Loc) (ls : Array Slot), HS G s x H locs → lv_has ls 4 [] → W p l e R s m args below meth c H locs cells slots Q (F0 m 165 ls [])) → ∀ (H : Heap) (locs : List Loc) (ls : Array Slot), HS G s μ H locs → lv_has ls 4 [(0, .ref v0), (1, .int v1), (2, .int v2)] → W p l e R s m args below meth c H locs cells slots Q (F0 m 53 ls []) := by
  have hx := X.1
  have hb := X.2.1
  have hown := X.2.2.2.1
  have hts := X.2.2.2.2.1
  intro n
  induction n with
  | zero =>
    intro v0 v1 v2 μ x h
    rw [lp_X12_layFits_53] at h
    cases h
  | succ n ih =>
    intro v0 v1 v2 μ x h k0 H locs ls hH hl
    rw [lp_X12_layFits_53] at h
    refine lv_iload_n hx hb dX12_layFits_53 rfl (lv_at hl 2 rfl) ?_
    refine lv_iconst (v := 1) hx hb dX12_layFits_54 (by decide) ?_
    refine lv_aload_n hx hb dX12_layFits_55 rfl (lv_at hl 0 rfl) ?_
    obtain ⟨x11, hx11, h⟩ := bnd h
    refine gf_X12_168 X hH hx11 dX12_layFits_56 ?_
    refine lv_ishl hx hb dX12_layFits_59 ?_
    refine lv_icmp_ge (tgt := 165) hx hb dX12_layFits_60 (by decide) (fun hc12 => ?_) (fun hc12 => ?_)
    · replace h := ift h hc12
      cases h
      exact k0 _ _ _ hH (lv_sub hl [] rfl)
    · replace h := iff' h hc12
      refine lv_aload_n hx hb dX12_layFits_63 rfl (lv_at hl 0 rfl) ?_
      refine lv_iload_n hx hb dX12_layFits_64 rfl (lv_at hl 2 rfl) ?_
      obtain ⟨x13, hx13, h⟩ := bnd h
      refine iv_X12_285 l X hH hRL (by decide) hx13 hl.1 (Nat.le_of_ble_eq_true rfl) dX12_layFits_65 hcs (fun H locs hH => ?_)
      refine lv_iload_n hx hb dX12_layFits_68 rfl (lv_at hl 1 rfl) ?_
      refine lv_icmp_ne (tgt := 159) hx hb dX12_layFits_69 (by decide) (fun hc14 => ?_) (fun hc14 => ?_)
      · replace h := iff' h hc14
        refine lv_iinc (v := (v2 + 1)) (lv' := [(2, .int (v2 + 1)), (0, .ref v0), (1, .int v1)]) hx hb dX12_layFits_159 hl (k := 2) rfl rfl (by decide) rfl (fun ls hl => ?_)
        refine lv_goto (tgt := 53) hx hb dX12_layFits_162 (by decide) ?_
        exact ih _ _ _ _ _ h k0 _ _ _ hH (lv_sub hl [1, 2, 0] rfl)
      · replace h := ift h hc14
        refine lv_aload_n hx hb dX12_layFits_72 rfl (lv_at hl 0 rfl) ?_
        refine lv_aload_n hx hb dX12_layFits_73 rfl (lv_at hl 0 rfl) ?_
        obtain ⟨x15, hx15, h⟩ := bnd h
        refine gf_X12_273 X hH hx15 dX12_layFits_74 ?_
        obtain ⟨x16, hbx16, hx16⟩ := bnd h
        clear h
        refine jn_lem (G := G) (x := x16) (M := 88) (nL := 4) (fun x16 => μ) (fun x16 => [(0, .ref v0), (1, .int v1), (2, .int v2)]) (fun x16 => [.int x16, .ref v0]) (fun H locs ls hH hl => ?_) (fun jnx16 => ?_)
        · have h := hx16
          clear hx16 hbx16
          obtain ⟨x19, hx19, h⟩ := bnd h
          refine pf_X12_276 X hH hx19 dX12_layFits_88 (fun H locs hH => ?_)
          refine lv_aload_n hx hb dX12_layFits_91 rfl (lv_at hl 0 rfl) ?_
          refine lv_dup hx hb dX12_layFits_92 rfl ?_
          obtain ⟨x20, hx20, h⟩ := bnd h
          refine gf_X12_273 X hH hx20 dX12_layFits_93 ?_
          refine lv_iconst (v := 1) hx hb dX12_layFits_96 (by decide) ?_
          refine lv_iadd hx hb dX12_layFits_97 ?_
          obtain ⟨x21, hx21, h⟩ := bnd h
          refine pf_X12_273 X hH hx21 dX12_layFits_98 (fun H locs hH => ?_)
          refine lv_aload_n hx hb dX12_layFits_101 rfl (lv_at hl 0 rfl) ?_
          refine lv_dup hx hb dX12_layFits_102 rfl ?_
          obtain ⟨x22, hx22, h⟩ := bnd h
          refine gf_X12_279 X hH hx22 dX12_layFits_103 ?_
          refine lv_iload_n hx hb dX12_layFits_106 rfl (lv_at hl 2 rfl) ?_
          refine lv_iand hx hb dX12_layFits_107 ?_
          obtain ⟨x23, hx23, h⟩ := bnd h
          refine pf_X12_279 X hH hx23 dX12_layFits_108 (fun H locs hH => ?_)
          refine lv_aload_n hx hb dX12_layFits_111 rfl (lv_at hl 0 rfl) ?_
          refine lv_dup hx hb dX12_layFits_112 rfl ?_
          obtain ⟨x24, hx24, h⟩ := bnd h
          refine gf_X12_282 X hH hx24 dX12_layFits_113 ?_
          refine lv_iload_n hx hb dX12_layFits_116 rfl (lv_at hl 2 rfl) ?_
          refine lv_ior hx hb dX12_layFits_117 ?_
          obtain ⟨x25, hx25, h⟩ := bnd h
          refine pf_X12_282 X hH hx25 dX12_layFits_118 (fun H locs hH => ?_)
          refine lv_iconst (v := 0) hx hb dX12_layFits_121 (by decide) ?_
          refine lv_istore_n (lv' := [(3, .int (0 : Int32)), (0, .ref v0), (1, .int v1), (2, .int v2)]) hx hb dX12_layFits_122 rfl hl (by decide) rfl (fun ls hl => ?_)
          obtain ⟨x34, hx34, hhx34⟩ := bnd h
          clear h
          refine w_X12_layFits_123 l X hRL hcs BIG v0 v1 v2 (0 : Int32) x25 x34 hx34 (fun H locs ls hH hl => ?_) _ _ _ hH (lv_sub hl [1, 2, 3, 0] rfl)
          · have h := hhx34
            clear hhx34
            refine lv_iinc (v := (v2 + 1)) (lv' := [(2, .int (v2 + 1)), (0, .ref v0), (1, .int v1)]) hx hb dX12_layFits_159 hl (k := 2) rfl rfl (by decide) rfl (fun ls hl => ?_)
            refine lv_goto (tgt := 53) hx hb dX12_layFits_162 (by decide) ?_
            exact ih _ _ _ _ _ h k0 _ _ _ hH (lv_sub hl [1, 2, 0] rfl)
        · have h := hbx16
          clear hx16 hbx16
          refine lv_if_ne (tgt := 84) hx hb dX12_layFits_77 (by decide) (fun hc17 => ?_) (fun hc17 => ?_)
          · replace h := iff' h hc17
            refine lv_aload_n hx hb dX12_layFits_84 rfl (lv_at hl 0 rfl) ?_
            obtain ⟨x18, hx18, h⟩ := bnd h
            refine gf_X12_276 X hH hx18 dX12_layFits_85 ?_
            cases h
            exact jnx16 _ _ _ hH (lv_sub hl [0, 1, 2] rfl)
          · replace h := ift h hc17
            refine lv_iload_n hx hb dX12_layFits_80 rfl (lv_at hl 2 rfl) ?_
            refine lv_goto (tgt := 88) hx hb dX12_layFits_81 (by decide) ?_
            cases h
            exact jnx16 _ _ _ hH (lv_sub hl [0, 1, 2] rfl)
theorem t_X12_layFits {μ : Mm} {a0 : Nat} {p1 : Int32} {x : Mm} (h : f_X12_layFits μ a0 p1 = some x) : tg μ a0 = 13 := by
  unfold f_X12_layFits at h
  exact (gsn h).1
set_option maxHeartbeats 4000000 in
set_option maxRecDepth 100000 in
theorem c_X12_layFits (l : Launch) (G : CG) (μ : Mm) (a0 : Nat) (p1 : Int32) (x : Mm) (h : f_X12_layFits μ a0 p1 = some x) : Met l yX12_layFits (.code yX12_layFits cX12_layFits 4 none :: UW) (rmk 4 0 0) (PC G [.ref a0, .int p1] μ) (QV G x) 0 0 (fA G) := by
  refine Met.ofW (cc := cX12_layFits) (maxL := 4) (ret := none) (by decide) rfl ?_
  intro p e s m args below meth c s₁ B hml hv
  obtain ⟨X, hH, hr, rfl, hnm⟩ := cx_in B hml hv
  have X : Cx p s m _ meth c cX12_layFits 4 RX12 G := X
  have hx := X.1
  have hb := X.2.1
  have hown := X.2.2.2.1
  have hts := X.2.2.2.2.1
  have hRL : RmL (rmk 4 0 0) 4 := ⟨Nat.le_refl _, Nat.le_refl _⟩
  have hcs : 0 ≤ (rmk 0 0 0).cells ∧ 0 ≤ (rmk 0 0 0).slots := ⟨Nat.zero_le _, Nat.zero_le _⟩
  refine ls_in (Nat.le_of_ble_eq_true rfl) (fun ls hl => ?_)
  have hl : lv_has ls 4 [(0, .ref a0), (1, .int p1)] := hl
  unfold f_X12_layFits at h
  obtain ⟨htg, h⟩ := gsn h
  refine lv_aload_n hx hb dX12_layFits_0 rfl (lv_at hl 0 rfl) ?_
  refine lv_iconst (v := 0) hx hb dX12_layFits_1 (by decide) ?_
  obtain ⟨x1, hx1, h⟩ := bnd h
  refine pf_X12_273 X hH hx1 dX12_layFits_2 (fun H locs hH => ?_)
  refine lv_aload_n hx hb dX12_layFits_5 rfl (lv_at hl 0 rfl) ?_
  refine lv_bipush (v := -9) hx hb dX12_layFits_6 (by decide) ?_
  obtain ⟨x2, hx2, h⟩ := bnd h
  refine pf_X12_276 X hH hx2 dX12_layFits_8 (fun H locs hH => ?_)
  refine lv_aload_n hx hb dX12_layFits_11 rfl (lv_at hl 0 rfl) ?_
  refine lv_iconst (v := 1) hx hb dX12_layFits_12 (by decide) ?_
  refine lv_aload_n hx hb dX12_layFits_13 rfl (lv_at hl 0 rfl) ?_
  obtain ⟨x3, hx3, h⟩ := bnd h
  refine gf_X12_168 X hH hx3 dX12_layFits_14 ?_
  refine lv_ishl hx hb dX12_layFits_17 ?_
  refine lv_iconst (v := 1) hx hb dX12_layFits_18 (by decide) ?_
  refine lv_isub hx hb dX12_layFits_19 ?_
  obtain ⟨x4, hx4, h⟩ := bnd h
  refine pf_X12_279 X hH hx4 dX12_layFits_20 (fun H locs hH => ?_)
  refine lv_aload_n hx hb dX12_layFits_23 rfl (lv_at hl 0 rfl) ?_
  refine lv_iconst (v := 0) hx hb dX12_layFits_24 (by decide) ?_
  obtain ⟨x5, hx5, h⟩ := bnd h
  refine pf_X12_282 X hH hx5 dX12_layFits_25 (fun H locs hH => ?_)
  refine lv_iconst (v := 0) hx hb dX12_layFits_28 (by decide) ?_
  refine lv_istore_n (lv' := [(2, .int (0 : Int32)), (0, .ref a0), (1, .int p1)]) hx hb dX12_layFits_29 rfl hl (by decide) rfl (fun ls hl => ?_)
  obtain ⟨x10, hx10, hhx10⟩ := bnd h
  clear h
  refine w_X12_layFits_30 l X hRL hcs BIG a0 p1 (0 : Int32) x5 x10 hx10 (fun H locs ls hH hl => ?_) _ _ _ hH (lv_sub hl [1, 2, 0] rfl)
  · have h := hhx10
    clear hhx10
    refine lv_iconst (v := 0) hx hb dX12_layFits_51 (by decide) ?_
    refine lv_istore_n (lv' := [(2, .int (0 : Int32)), (0, .ref a0), (1, .int p1)]) hx hb dX12_layFits_52 rfl hl (by decide) rfl (fun ls hl => ?_)
    obtain ⟨x35, hx35, hhx35⟩ := bnd h
    clear h
    refine w_X12_layFits_53 l X hRL hcs BIG a0 p1 (0 : Int32) x10 x35 hx35 (fun H locs ls hH hl => ?_) _ _ _ hH (lv_sub hl [1, 2, 0] rfl)
    · have h := hhx35
      clear hhx35
      exact eV X hH h hr dX12_layFits_165 (Nat.le_of_ble_eq_true rfl) (Nat.le_of_ble_eq_true rfl)
set_option maxHeartbeats 1000000 in
theorem iv_X12_288 {p : Program} {e : Env} {R : Room} {s : State} {m : MethodId} {args : Array Value} {below : List Frame} {meth : Method} {c : Code} {H : Heap} {locs : List Loc} {cells slots : Nat} {Q : State → Prop} {cc : ByteArray} {pc : Nat} {ls : Array Slot} {rest : List Value} {nL : Nat} {G : CG} {μ : Mm} {a : Nat} {q0 : Int32} {x : Mm} {k : Nat} (l : Launch) (X : Cx p s m args meth c cc nL RX12 G) (hH : HS G s μ H locs) (hRL : RmL R k) (hk : 4 + 1 ≤ k) (h : f_X12_layFits μ a q0 = some x) (hls : ls.size = nL) (hroom : (rest.map fun v => v.category).sum ≤ 8) (hdg : decode cc pc = .ok (.invokevirtual 288, 3)) (hcs : cells + 0 ≤ R.cells ∧ slots + 0 ≤ R.slots) (kk : ∀ (H1 : Heap) (locs1 : List Loc), HS G s x H1 locs1 → W p l e R s m args below meth c H1 locs1 cells slots Q (F0 m (pc + 3) ls rest)) : W p l e R s m args below meth c H locs cells slots Q (F0 m pc ls (.int q0 :: .ref a :: rest)) := by
  refine kV0 hH (rV (As := [.int q0]) (rest := rest) X hH (t_X12_layFits h) vc_12 (c_X12_layFits l G μ a q0 x h) (List.forall_mem_cons.mpr ⟨u_1387, (List.forall_mem_cons.mpr ⟨u_1389, (List.forall_mem_cons.mpr ⟨u_53, (List.forall_mem_cons.mpr ⟨u_68, (fun _ h9 => absurd h9 List.not_mem_nil)⟩)⟩)⟩)⟩) u_1390 (rmo hRL (Nat.le_trans (by decide) hk) (by decide)) ddV_X12_layFits rfl hls rfl hroom hdg hcs) kk
theorem t_X12_fits {μ : Mm} {a0 : Nat} {p1 : Int32} {x : Int32 × Mm} (h : f_X12_fits μ a0 p1 = some x) : tg μ a0 = 13 := by
  unfold f_X12_fits at h
  exact (gsn h).1
set_option maxHeartbeats 4000000 in
set_option maxRecDepth 100000 in
theorem c_X12_fits (l : Launch) (G : CG) (μ : Mm) (a0 : Nat) (p1 : Int32) (x : Int32 × Mm) (h : f_X12_fits μ a0 p1 = some x) : Met l yX12_fits (.code yX12_fits cX12_fits 2 (some .int) :: UW) (rmk 5 0 0) (PC G [.ref a0, .int p1] μ) (QI G x.1 x.2) 0 0 (fA G) := by
  refine Met.ofW (cc := cX12_fits) (maxL := 2) (ret := (some .int)) (by decide) rfl ?_
  intro p e s m args below meth c s₁ B hml hv
  obtain ⟨X, hH, hr, rfl, hnm⟩ := cx_in B hml hv
  have X : Cx p s m _ meth c cX12_fits 2 RX12 G := X
  have hx := X.1
  have hb := X.2.1
  have hown := X.2.2.2.1
  have hts := X.2.2.2.2.1
  have hRL : RmL (rmk 5 0 0) 5 := ⟨Nat.le_refl _, Nat.le_refl _⟩
  have hcs : 0 ≤ (rmk 0 0 0).cells ∧ 0 ≤ (rmk 0 0 0).slots := ⟨Nat.zero_le _, Nat.zero_le _⟩
  refine ls_in (Nat.le_of_ble_eq_true rfl) (fun ls hl => ?_)
  have hl : lv_has ls 2 [(0, .ref a0), (1, .int p1)] := hl
  unfold f_X12_fits at h
  obtain ⟨htg, h⟩ := gsn h
  refine lv_aload_n hx hb dX12_fits_0 rfl (lv_at hl 0 rfl) ?_
  refine lv_iload_n hx hb dX12_fits_1 rfl (lv_at hl 1 rfl) ?_
  obtain ⟨x1, hx1, h⟩ := bnd h
  refine iv_X12_256 l X hH hRL (by decide) hx1 hl.1 (Nat.le_of_ble_eq_true rfl) dX12_fits_2 hcs (fun H locs hH => ?_)
  refine lv_if_ne (tgt := 10) hx hb dX12_fits_5 (by decide) (fun hc2 => ?_) (fun hc2 => ?_)
  · replace h := iff' h hc2
    refine lv_aload_n hx hb dX12_fits_10 rfl (lv_at hl 0 rfl) ?_
    refine lv_iload_n hx hb dX12_fits_11 rfl (lv_at hl 1 rfl) ?_
    obtain ⟨x3, hx3, h⟩ := bnd h
    refine iv_X12_288 l X hH hRL (by decide) hx3 hl.1 (Nat.le_of_ble_eq_true rfl) dX12_fits_12 hcs (fun H locs hH => ?_)
    refine lv_aload_n hx hb dX12_fits_15 rfl (lv_at hl 0 rfl) ?_
    refine lv_aload_n hx hb dX12_fits_16 rfl (lv_at hl 0 rfl) ?_
    obtain ⟨x4, hx4, h⟩ := bnd h
    refine gf_X12_273 X hH hx4 dX12_fits_17 ?_
    refine lv_i2l hx hb dX12_fits_20 rfl ?_
    refine lv_lconst (v := 1) hx hb dX12_fits_21 (by decide) ?_
    obtain ⟨x5, hx5, h⟩ := bnd h
    refine iv_X12_221 l X hH hRL (by decide) hx5 hl.1 (Nat.le_of_ble_eq_true rfl) dX12_fits_22 hcs (fun H locs hH => ?_)
    refine lv_pop hx hb dX12_fits_25 rfl ?_
    refine lv_aload_n hx hb dX12_fits_26 rfl (lv_at hl 0 rfl) ?_
    refine lv_aload_n hx hb dX12_fits_27 rfl (lv_at hl 0 rfl) ?_
    obtain ⟨x6, hx6, h⟩ := bnd h
    refine gf_X12_276 X hH hx6 dX12_fits_28 ?_
    refine lv_iconst (v := 1) hx hb dX12_fits_31 (by decide) ?_
    obtain ⟨x7, hx7, h⟩ := bnd h
    refine iv_X12_118 l X hH hRL (by decide) hx7 hl.1 (Nat.le_of_ble_eq_true rfl) dX12_fits_32 hcs (fun H locs hH => ?_)
    exact eI X hH h hr dX12_fits_35 (Nat.le_of_ble_eq_true rfl) (Nat.le_of_ble_eq_true rfl)
  · replace h := ift h hc2
    refine lv_iconst (v := -1) hx hb dX12_fits_8 (by decide) ?_
    exact eI X hH h hr dX12_fits_9 (Nat.le_of_ble_eq_true rfl) (Nat.le_of_ble_eq_true rfl)
theorem t_X12_sure {μ : Mm} {a0 : Nat} {p1 : Int32} {x : Int32 × Mm} (h : f_X12_sure μ a0 p1 = some x) : tg μ a0 = 13 := by
  unfold f_X12_sure at h
  exact (gsn h).1
set_option maxHeartbeats 4000000 in
set_option maxRecDepth 100000 in
theorem c_X12_sure (l : Launch) (G : CG) (μ : Mm) (a0 : Nat) (p1 : Int32) (x : Int32 × Mm) (h : f_X12_sure μ a0 p1 = some x) : Met l yX12_sure (.code yX12_sure cX12_sure 2 (some .int) :: UW) (rmk 5 0 0) (PC G [.ref a0, .int p1] μ) (QI G x.1 x.2) 0 0 (fA G) := by
  refine Met.ofW (cc := cX12_sure) (maxL := 2) (ret := (some .int)) (by decide) rfl ?_
  intro p e s m args below meth c s₁ B hml hv
  obtain ⟨X, hH, hr, rfl, hnm⟩ := cx_in B hml hv
  have X : Cx p s m _ meth c cX12_sure 2 RX12 G := X
  have hx := X.1
  have hb := X.2.1
  have hown := X.2.2.2.1
  have hts := X.2.2.2.2.1
  have hRL : RmL (rmk 5 0 0) 5 := ⟨Nat.le_refl _, Nat.le_refl _⟩
  have hcs : 0 ≤ (rmk 0 0 0).cells ∧ 0 ≤ (rmk 0 0 0).slots := ⟨Nat.zero_le _, Nat.zero_le _⟩
  refine ls_in (Nat.le_of_ble_eq_true rfl) (fun ls hl => ?_)
  have hl : lv_has ls 2 [(0, .ref a0), (1, .int p1)] := hl
  unfold f_X12_sure at h
  obtain ⟨htg, h⟩ := gsn h
  refine lv_aload_n hx hb dX12_sure_0 rfl (lv_at hl 0 rfl) ?_
  refine lv_iload_n hx hb dX12_sure_1 rfl (lv_at hl 1 rfl) ?_
  obtain ⟨x1, hx1, h⟩ := bnd h
  refine iv_X12_256 l X hH hRL (by decide) hx1 hl.1 (Nat.le_of_ble_eq_true rfl) dX12_sure_2 hcs (fun H locs hH => ?_)
  refine lv_if_ne (tgt := 10) hx hb dX12_sure_5 (by decide) (fun hc2 => ?_) (fun hc2 => ?_)
  · replace h := iff' h hc2
    refine lv_aload_n hx hb dX12_sure_10 rfl (lv_at hl 0 rfl) ?_
    refine lv_iload_n hx hb dX12_sure_11 rfl (lv_at hl 1 rfl) ?_
    obtain ⟨x3, hx3, h⟩ := bnd h
    refine iv_X12_288 l X hH hRL (by decide) hx3 hl.1 (Nat.le_of_ble_eq_true rfl) dX12_sure_12 hcs (fun H locs hH => ?_)
    refine lv_aload_n hx hb dX12_sure_15 rfl (lv_at hl 0 rfl) ?_
    obtain ⟨x4, hx4, h⟩ := bnd h
    refine gf_X12_273 X hH hx4 dX12_sure_16 ?_
    refine lv_if_ne (tgt := 30) hx hb dX12_sure_19 (by decide) (fun hc5 => ?_) (fun hc5 => ?_)
    · replace h := iff' h hc5
      refine lv_aload_n hx hb dX12_sure_30 rfl (lv_at hl 0 rfl) ?_
      refine lv_iconst (v := 1) hx hb dX12_sure_31 (by decide) ?_
      refine lv_aload_n hx hb dX12_sure_32 rfl (lv_at hl 0 rfl) ?_
      obtain ⟨x6, hx6, h⟩ := bnd h
      refine gf_X12_168 X hH hx6 dX12_sure_33 ?_
      refine lv_ishl hx hb dX12_sure_36 ?_
      refine lv_iconst (v := 1) hx hb dX12_sure_37 (by decide) ?_
      refine lv_isub hx hb dX12_sure_38 ?_
      refine lv_aload_n hx hb dX12_sure_39 rfl (lv_at hl 0 rfl) ?_
      obtain ⟨x7, hx7, h⟩ := bnd h
      refine gf_X12_282 X hH hx7 dX12_sure_40 ?_
      refine lv_iconst (v := -1) hx hb dX12_sure_43 (by decide) ?_
      refine lv_ixor hx hb dX12_sure_44 ?_
      refine lv_iand hx hb dX12_sure_45 ?_
      refine lv_aload_n hx hb dX12_sure_46 rfl (lv_at hl 0 rfl) ?_
      obtain ⟨x8, hx8, h⟩ := bnd h
      refine gf_X12_279 X hH hx8 dX12_sure_47 ?_
      obtain ⟨x9, hx9, h⟩ := bnd h
      refine iv_X12_118 l X hH hRL (by decide) hx9 hl.1 (Nat.le_of_ble_eq_true rfl) dX12_sure_50 hcs (fun H locs hH => ?_)
      exact eI X hH h hr dX12_sure_53 (Nat.le_of_ble_eq_true rfl) (Nat.le_of_ble_eq_true rfl)
    · replace h := ift h hc5
      refine lv_aload_n hx hb dX12_sure_22 rfl (lv_at hl 0 rfl) ?_
      refine lv_iconst (v := 4) hx hb dX12_sure_23 (by decide) ?_
      obtain ⟨x10, hx10, h⟩ := bnd h
      refine iv_X12_110 l X hH hRL (by decide) hx10 hl.1 (Nat.le_of_ble_eq_true rfl) dX12_sure_24 hcs (fun H locs hH => ?_)
      refine lv_goto (tgt := 53) hx hb dX12_sure_27 (by decide) ?_
      exact eI X hH h hr dX12_sure_53 (Nat.le_of_ble_eq_true rfl) (Nat.le_of_ble_eq_true rfl)
  · replace h := ift h hc2
    refine lv_iconst (v := -1) hx hb dX12_sure_8 (by decide) ?_
    exact eI X hH h hr dX12_sure_9 (Nat.le_of_ble_eq_true rfl) (Nat.le_of_ble_eq_true rfl)
set_option maxHeartbeats 4000000 in
set_option maxRecDepth 100000 in
theorem w_X12_ask_36 {p : Program} {e : Env} {R : Room} {s : State} {m : MethodId} {args : Array Value} {below : List Frame} {meth : Method} {c : Code} {cells slots : Nat} {Q : State → Prop} {G : CG} (l : Launch) (X : Cx p s m args meth c cX12_ask 7 RX12 G) (hRL : RmL R 5) (hcs : cells ≤ R.cells ∧ slots ≤ R.slots) : ∀ (n : Nat) (v0 : Nat) (v2 : Int32) (v3 : Int32) (v4 : Int32) (μ : Mm) (x : Int32 × Int32), lp_X12_ask_36 n v0 v2 v3 v4 μ = some x → (∀ (H : Heap) (locs : List Loc) (ls : Array Slot), HS G s μ H locs → lv_has ls 7 [(0, .ref v0), (2, .int x.1), (3, .int x.2)] → W p l e R s m args below meth c H locs cells slots Q (F0 m 117 ls [])) → ∀ (H : Heap) (locs : List Loc) (ls : Array Slot), HS G s μ H locs → lv_has ls 7 [(0, .ref v0), (2, .int v2), (3, .int v3), (4, .int v4)] → W p l e R s m args below meth c H locs cells slots Q (F0 m 36 ls []) := by
  have hx := X.1
  have hb := X.2.1
  have hown := X.2.2.2.1
  have hts := X.2.2.2.2.1
  intro n
  induction n with
  | zero =>
    intro v0 v2 v3 v4 μ x h
    rw [lp_X12_ask_36] at h
    cases h
  | succ n ih =>
    intro v0 v2 v3 v4 μ x h k0 H locs ls hH hl
    rw [lp_X12_ask_36] at h
    refine lv_iload hx hb dX12_ask_36 (lv_at hl 3 rfl) ?_
    refine lv_aload_n hx hb dX12_ask_38 rfl (lv_at hl 0 rfl) ?_
    obtain ⟨x6, hx6, h⟩ := bnd h
    refine gf_X12_168 X hH hx6 dX12_ask_39 ?_
    refine lv_icmp_ge (tgt := 117) hx hb dX12_ask_42 (by decide) (fun hc7 => ?_) (fun hc7 => ?_)
    · replace h := ift h hc7
      cases h
      exact k0 _ _ _ hH (lv_sub hl [0, 1, 2] rfl)
    · replace h := iff' h hc7
      refine lv_aload_n hx hb dX12_ask_45 rfl (lv_at hl 0 rfl) ?_
      obtain ⟨x8, hx8, h⟩ := bnd h
      refine gf_X12_273 X hH hx8 dX12_ask_46 ?_
      refine lv_aload_n hx hb dX12_ask_49 rfl (lv_at hl 0 rfl) ?_
      obtain ⟨x9, hx9, h⟩ := bnd h
      refine gf_X12_82 X hH hx9 dX12_ask_50 ?_
      refine lv_iload hx hb dX12_ask_53 (lv_at hl 3 rfl) ?_
      obtain ⟨x10, hx10, h⟩ := bnd h
      refine w_aI X hH hx10 dX12_ask_55 ?_
      refine lv_isub hx hb dX12_ask_56 ?_
      refine lv_istore (lv' := [(5, .int (x8 - x10)), (0, .ref v0), (2, .int v2), (3, .int v3), (4, .int v4)]) hx hb dX12_ask_57 hl (by decide) rfl (fun ls hl => ?_)
      refine lv_iload hx hb dX12_ask_59 (lv_at hl 0 rfl) ?_
      refine lv_aload_n hx hb dX12_ask_61 rfl (lv_at hl 1 rfl) ?_
      obtain ⟨x11, hx11, h⟩ := bnd h
      refine gf_X12_82 X hH hx11 dX12_ask_62 ?_
      refine lv_iload hx hb dX12_ask_65 (lv_at hl 4 rfl) ?_
      obtain ⟨x12, hx12, h⟩ := bnd h
      refine w_aI X hH hx12 dX12_ask_67 ?_
      obtain ⟨x13, hbx13, hx13⟩ := bnd h
      clear h
      refine jn_lem (G := G) (x := x13) (M := 83) (nL := 7) (fun x13 => μ) (fun x13 => [(0, .ref v0), (2, .int v2), (3, .int v3), (4, .int v4)]) (fun x13 => [.int x13]) (fun H locs ls hH hl => ?_) (fun jnx13 => ?_)
      · have h := hx13
        clear hx13 hbx13
        refine lv_istore (lv' := [(6, .int x13), (0, .ref v0), (2, .int v2), (3, .int v3), (4, .int v4)]) hx hb dX12_ask_83 hl (by decide) rfl (fun ls hl => ?_)
        refine lv_iload hx hb dX12_ask_85 (lv_at hl 0 rfl) ?_
        refine lv_iload_n hx hb dX12_ask_87 rfl (lv_at hl 3 rfl) ?_
        obtain ⟨x17, hbx17, hx17⟩ := bnd h
        clear h
        refine jn_lem (G := G) (x := x17) (M := 97) (nL := 7) (fun x17 => μ) (fun x17 => [(0, .ref v0), (3, .int v3), (4, .int v4), (6, .int x13)]) (fun x17 => [.int x17]) (fun H locs ls hH hl => ?_) (fun jnx17 => ?_)
        · have h := hx17
          clear hx17 hbx17
          refine lv_istore_n (lv' := [(2, .int x17), (0, .ref v0), (3, .int v3), (4, .int v4), (6, .int x13)]) hx hb dX12_ask_97 rfl hl (by decide) rfl (fun ls hl => ?_)
          refine lv_iload hx hb dX12_ask_98 (lv_at hl 4 rfl) ?_
          refine lv_iload_n hx hb dX12_ask_100 rfl (lv_at hl 2 rfl) ?_
          refine lv_icmp_ge (tgt := 109) hx hb dX12_ask_101 (by decide) (fun hc19 => ?_) (fun hc19 => ?_)
          · replace h := ift h hc19
            refine lv_iload_n hx hb dX12_ask_109 rfl (lv_at hl 2 rfl) ?_
            refine lv_istore_n (lv' := [(3, .int v3), (2, .int x17), (0, .ref v0), (4, .int v4), (6, .int x13)]) hx hb dX12_ask_110 rfl hl (by decide) rfl (fun ls hl => ?_)
            refine lv_iinc (v := (v4 + 1)) (lv' := [(4, .int (v4 + 1)), (3, .int v3), (2, .int x17), (0, .ref v0), (6, .int x13)]) hx hb dX12_ask_111 hl (k := 3) rfl rfl (by decide) rfl (fun ls hl => ?_)
            refine lv_goto (tgt := 36) hx hb dX12_ask_114 (by decide) ?_
            exact ih _ _ _ _ _ _ h k0 _ _ _ hH (lv_sub hl [3, 2, 1, 0] rfl)
          · replace h := iff' h hc19
            refine lv_iload hx hb dX12_ask_104 (lv_at hl 4 rfl) ?_
            refine lv_goto (tgt := 110) hx hb dX12_ask_106 (by decide) ?_
            refine lv_istore_n (lv' := [(3, .int x13), (2, .int x17), (0, .ref v0), (4, .int v4), (6, .int x13)]) hx hb dX12_ask_110 rfl hl (by decide) rfl (fun ls hl => ?_)
            refine lv_iinc (v := (v4 + 1)) (lv' := [(4, .int (v4 + 1)), (3, .int x13), (2, .int x17), (0, .ref v0), (6, .int x13)]) hx hb dX12_ask_111 hl (k := 3) rfl rfl (by decide) rfl (fun ls hl => ?_)
            refine lv_goto (tgt := 36) hx hb dX12_ask_114 (by decide) ?_
            exact ih _ _ _ _ _ _ h k0 _ _ _ hH (lv_sub hl [3, 2, 1, 0] rfl)
        · have h := hbx17
          clear hx17 hbx17
          refine lv_icmp_ge (tgt := 96) hx hb dX12_ask_88 (by decide) (fun hc18 => ?_) (fun hc18 => ?_)
          · replace h := ift h hc18
            refine lv_iload_n hx hb dX12_ask_96 rfl (lv_at hl 2 rfl) ?_
            cases h
            exact jnx17 _ _ _ hH (lv_sub hl [1, 3, 4, 0] rfl)
          · replace h := iff' h hc18
            refine lv_iload hx hb dX12_ask_91 (lv_at hl 4 rfl) ?_
            refine lv_goto (tgt := 97) hx hb dX12_ask_93 (by decide) ?_
            cases h
            exact jnx17 _ _ _ hH (lv_sub hl [1, 3, 4, 0] rfl)
      · have h := hbx13
        clear hx13 hbx13
        refine lv_icmp_le (tgt := 76) hx hb dX12_ask_68 (by decide) (fun hc14 => ?_) (fun hc14 => ?_)
        · replace h := ift h hc14
          refine lv_aload_n hx hb dX12_ask_76 rfl (lv_at hl 1 rfl) ?_
          obtain ⟨x15, hx15, h⟩ := bnd h
          refine gf_X12_82 X hH hx15 dX12_ask_77 ?_
          refine lv_iload hx hb dX12_ask_80 (lv_at hl 4 rfl) ?_
          obtain ⟨x16, hx16, h⟩ := bnd h
          refine w_aI X hH hx16 dX12_ask_82 ?_
          cases h
          exact jnx13 _ _ _ hH (lv_sub hl [1, 2, 3, 4] rfl)
        · replace h := iff' h hc14
          refine lv_iload hx hb dX12_ask_71 (lv_at hl 0 rfl) ?_
          refine lv_goto (tgt := 83) hx hb dX12_ask_73 (by decide) ?_
          cases h
          exact jnx13 _ _ _ hH (lv_sub hl [1, 2, 3, 4] rfl)
theorem t_X12_ask {μ : Mm} {a0 : Nat} {p1 : Int32} {x : Int32 × Mm} (h : f_X12_ask μ a0 p1 = some x) : tg μ a0 = 13 := by
  unfold f_X12_ask at h
  exact (gsn h).1
set_option maxHeartbeats 4000000 in
set_option maxRecDepth 100000 in
theorem c_X12_ask (l : Launch) (G : CG) (μ : Mm) (a0 : Nat) (p1 : Int32) (x : Int32 × Mm) (h : f_X12_ask μ a0 p1 = some x) : Met l yX12_ask (.code yX12_ask cX12_ask 7 (some .int) :: UW) (rmk 5 0 0) (PC G [.ref a0, .int p1] μ) (QI G x.1 x.2) 0 0 (fA G) := by
  refine Met.ofW (cc := cX12_ask) (maxL := 7) (ret := (some .int)) (by decide) rfl ?_
  intro p e s m args below meth c s₁ B hml hv
  obtain ⟨X, hH, hr, rfl, hnm⟩ := cx_in B hml hv
  have X : Cx p s m _ meth c cX12_ask 7 RX12 G := X
  have hx := X.1
  have hb := X.2.1
  have hown := X.2.2.2.1
  have hts := X.2.2.2.2.1
  have hRL : RmL (rmk 5 0 0) 5 := ⟨Nat.le_refl _, Nat.le_refl _⟩
  have hcs : 0 ≤ (rmk 0 0 0).cells ∧ 0 ≤ (rmk 0 0 0).slots := ⟨Nat.zero_le _, Nat.zero_le _⟩
  refine ls_in (Nat.le_of_ble_eq_true rfl) (fun ls hl => ?_)
  have hl : lv_has ls 7 [(0, .ref a0), (1, .int p1)] := hl
  unfold f_X12_ask at h
  obtain ⟨htg, h⟩ := gsn h
  refine lv_aload_n hx hb dX12_ask_0 rfl (lv_at hl 0 rfl) ?_
  refine lv_iload_n hx hb dX12_ask_1 rfl (lv_at hl 1 rfl) ?_
  obtain ⟨x1, hx1, h⟩ := bnd h
  refine iv_X12_256 l X hH hRL (by decide) hx1 hl.1 (Nat.le_of_ble_eq_true rfl) dX12_ask_2 hcs (fun H locs hH => ?_)
  refine lv_if_ne (tgt := 10) hx hb dX12_ask_5 (by decide) (fun hc2 => ?_) (fun hc2 => ?_)
  · replace h := iff' h hc2
    refine lv_aload_n hx hb dX12_ask_10 rfl (lv_at hl 0 rfl) ?_
    refine lv_iload_n hx hb dX12_ask_11 rfl (lv_at hl 1 rfl) ?_
    obtain ⟨x3, hx3, h⟩ := bnd h
    refine iv_X12_288 l X hH hRL (by decide) hx3 hl.1 (Nat.le_of_ble_eq_true rfl) dX12_ask_12 hcs (fun H locs hH => ?_)
    refine lv_aload_n hx hb dX12_ask_15 rfl (lv_at hl 0 rfl) ?_
    obtain ⟨x4, hx4, h⟩ := bnd h
    refine gf_X12_273 X hH hx4 dX12_ask_16 ?_
    refine lv_if_ne (tgt := 28) hx hb dX12_ask_19 (by decide) (fun hc5 => ?_) (fun hc5 => ?_)
    · replace h := iff' h hc5
      refine lv_iconst (v := 0) hx hb dX12_ask_28 (by decide) ?_
      refine lv_istore_n (lv' := [(2, .int (0 : Int32)), (0, .ref a0), (1, .int p1)]) hx hb dX12_ask_29 rfl hl (by decide) rfl (fun ls hl => ?_)
      refine lv_ldc (v := 1000000) hx hb hown (hts _ u_1335) dX12_ask_30 ?_
      refine lv_istore_n (lv' := [(3, .int (1000000 : Int32)), (2, .int (0 : Int32)), (0, .ref a0), (1, .int p1)]) hx hb dX12_ask_32 rfl hl (by decide) rfl (fun ls hl => ?_)
      refine lv_iconst (v := 0) hx hb dX12_ask_33 (by decide) ?_
      refine lv_istore (lv' := [(4, .int (0 : Int32)), (3, .int (1000000 : Int32)), (2, .int (0 : Int32)), (0, .ref a0), (1, .int p1)]) hx hb dX12_ask_34 hl (by decide) rfl (fun ls hl => ?_)
      obtain ⟨x20, hx20, hhx20⟩ := bnd h
      clear h
      refine w_X12_ask_36 l X hRL hcs BIG a0 (0 : Int32) (1000000 : Int32) (0 : Int32) x3 x20 hx20 (fun H locs ls hH hl => ?_) _ _ _ hH (lv_sub hl [3, 2, 1, 0] rfl)
      · have h := hhx20
        clear hhx20
        refine lv_aload_n hx hb dX12_ask_117 rfl (lv_at hl 0 rfl) ?_
        refine lv_iload_n hx hb dX12_ask_118 rfl (lv_at hl 2 rfl) ?_
        refine lv_iload_n hx hb dX12_ask_119 rfl (lv_at hl 1 rfl) ?_
        obtain ⟨x21, hx21, h⟩ := bnd h
        refine iv_X12_118 l X hH hRL (by decide) hx21 hl.1 (Nat.le_of_ble_eq_true rfl) dX12_ask_120 hcs (fun H locs hH => ?_)
        exact eI X hH h hr dX12_ask_123 (Nat.le_of_ble_eq_true rfl) (Nat.le_of_ble_eq_true rfl)
    · replace h := ift h hc5
      refine lv_aload_n hx hb dX12_ask_22 rfl (lv_at hl 0 rfl) ?_
      refine lv_iconst (v := 4) hx hb dX12_ask_23 (by decide) ?_
      obtain ⟨x22, hx22, h⟩ := bnd h
      refine iv_X12_110 l X hH hRL (by decide) hx22 hl.1 (Nat.le_of_ble_eq_true rfl) dX12_ask_24 hcs (fun H locs hH => ?_)
      exact eI X hH h hr dX12_ask_27 (Nat.le_of_ble_eq_true rfl) (Nat.le_of_ble_eq_true rfl)
  · replace h := ift h hc2
    refine lv_iconst (v := -1) hx hb dX12_ask_8 (by decide) ?_
    exact eI X hH h hr dX12_ask_9 (Nat.le_of_ble_eq_true rfl) (Nat.le_of_ble_eq_true rfl)
