theorem t_X2_init {μ : Mm} {a0 : Nat} {p1 : Int32} {x : Mm} (h : f_X2_init μ a0 p1 = some x) : gt (tg μ a0) := by
  unfold f_X2_init at h
  exact (gsn h).1
set_option maxHeartbeats 4000000 in
set_option maxRecDepth 100000 in
theorem c_X2_init (l : Launch) (G : CG) (μ : Mm) (a0 : Nat) (p1 : Int32) (x : Mm) (h : f_X2_init μ a0 p1 = some x) : Met l yX2_init (.code yX2_init cX2_init 2 none :: UW) (rmk 1 32 0 0) (PC G [.ref a0, .int p1] μ) (QV G x) 0 0 (fA G) := by
  refine Met.ofW (cc := cX2_init) (maxL := 2) (ret := none) (by decide) rfl ?_
  intro p e s m args below meth c s₁ B hml hv
  obtain ⟨X, hH, hr, rfl, hnm⟩ := cx_in B hml hv
  have X : Cx p s m _ meth c cX2_init 2 RX2 G := X
  have hx := X.1
  have hb := X.2.1
  have hown := X.2.2.2.1
  have hts := X.2.2.2.2.1
  have hnm : meth.name = "<init>" := hnm
  have hRL : RmL (rmk 1 32 0 0) 1 32 := ⟨Nat.le_refl _, Nat.le_refl _⟩
  have hcs : 0 ≤ (rmk 0 0 0 0).cells ∧ 0 ≤ (rmk 0 0 0 0).slots := ⟨Nat.zero_le _, Nat.zero_le _⟩
  refine ls_in (Nat.le_of_ble_eq_true rfl) (fun ls hl => ?_)
  have hl : lv_has ls 2 [(0, .ref a0), (1, .int p1)] := hl
  unfold f_X2_init at h
  obtain ⟨htg, h⟩ := gsn h
  refine lv_aload_n hx hb dX2_init_0 rfl (lv_at hl 0 rfl) ?_
  refine w_oi X hRL (by decide) hl.1 u_79 u_40 u_41 (Nat.le_of_ble_eq_true rfl) dX2_init_1 ?_
  refine lv_aload_n hx hb dX2_init_4 rfl (lv_at hl 0 rfl) ?_
  refine lv_iconst (v := 0) hx hb dX2_init_5 (by decide) ?_
  obtain ⟨x1, hx1, h⟩ := bnd h
  refine pf_X2_9 X hH hx1 dX2_init_6 (fun H locs hH => ?_)
  refine lv_aload_n hx hb dX2_init_9 rfl (lv_at hl 0 rfl) ?_
  refine lv_iload_n hx hb dX2_init_10 rfl (lv_at hl 1 rfl) ?_
  obtain ⟨x2, hx2, h⟩ := bnd h
  refine pf_X2_15 X hH hx2 dX2_init_11 (fun H locs hH => ?_)
  exact eV X hH h hr dX2_init_14 (Nat.le_of_ble_eq_true rfl) (Nat.le_of_ble_eq_true rfl)
set_option maxHeartbeats 1000000 in
theorem iv_X0_3 {p : Program} {e : Env} {R : Room} {s : State} {m : MethodId} {args : Array Value} {below : List Frame} {meth : Method} {c : Code} {H : Heap} {locs : List Loc} {cells slots : Nat} {Q : State → Prop} {cc : ByteArray} {pc : Nat} {ls : Array Slot} {rest : List Value} {nL : Nat} {G : CG} {μ : Mm} {a : Nat} {q0 : Int32} {x : Mm} {k k2 : Nat} (l : Launch) (X : Cx p s m args meth c cc nL RX0 G) (hH : HS G s μ H locs) (hRL : RmL R k k2) (hk : 1 + 1 ≤ k ∧ 53 ≤ k2) (h : f_X2_init μ a q0 = some x) (hls : ls.size = nL) (hroom : (rest.map fun v => v.category).sum ≤ 8) (hdg : decode cc pc = .ok (.invokespecial 3, 3)) (hcs : cells + 0 ≤ R.cells ∧ slots + 0 ≤ R.slots) (kk : ∀ (H1 : Heap) (locs1 : List Loc), HS G s x H1 locs1 → W p l e R s m args below meth c H1 locs1 cells slots Q (F0 m (pc + 3) ls rest)) : W p l e R s m args below meth c H locs cells slots Q (F0 m pc ls (.int q0 :: .ref a :: rest)) := by
  refine kV0 hH (rI (As := [.int q0]) (rest := rest) X hH (c_X2_init l G μ a q0 x h) (List.forall_mem_cons.mpr ⟨u_574, (List.forall_mem_cons.mpr ⟨u_77, (List.forall_mem_cons.mpr ⟨u_25, (fun _ h9 => absurd h9 List.not_mem_nil)⟩)⟩)⟩) u_78 (rmo hRL (Nat.le_trans (by decide) hk.1) (Nat.le_trans (by decide) hk.2)) rfl ddS_X2_init rfl hls rfl hroom hdg hcs) kk
theorem t_X0_init {μ : Mm} {a0 : Nat} {p1 : Int32} {x : Mm} (h : f_X0_init μ a0 p1 = some x) : tg μ a0 = 1 := by
  unfold f_X0_init at h
  exact (gsn h).1
set_option maxHeartbeats 4000000 in
set_option maxRecDepth 100000 in
theorem c_X0_init (l : Launch) (G : CG) (μ : Mm) (a0 : Nat) (p1 : Int32) (x : Mm) (h : f_X0_init μ a0 p1 = some x) : Met l yX0_init (.code yX0_init cX0_init 2 none :: UW) (rmk 2 53 0 0) (PC G [.ref a0, .int p1] μ) (QV G x) 0 0 (fA G) := by
  refine Met.ofW (cc := cX0_init) (maxL := 2) (ret := none) (by decide) rfl ?_
  intro p e s m args below meth c s₁ B hml hv
  obtain ⟨X, hH, hr, rfl, hnm⟩ := cx_in B hml hv
  have X : Cx p s m _ meth c cX0_init 2 RX0 G := X
  have hx := X.1
  have hb := X.2.1
  have hown := X.2.2.2.1
  have hts := X.2.2.2.2.1
  have hnm : meth.name = "<init>" := hnm
  have hRL : RmL (rmk 2 53 0 0) 2 53 := ⟨Nat.le_refl _, Nat.le_refl _⟩
  have hcs : 0 ≤ (rmk 0 0 0 0).cells ∧ 0 ≤ (rmk 0 0 0 0).slots := ⟨Nat.zero_le _, Nat.zero_le _⟩
  refine ls_in (Nat.le_of_ble_eq_true rfl) (fun ls hl => ?_)
  have hl : lv_has ls 2 [(0, .ref a0), (1, .int p1)] := hl
  unfold f_X0_init at h
  obtain ⟨htg, h⟩ := gsn h
  refine lv_aload_n hx hb dX0_init_0 rfl (lv_at hl 0 rfl) ?_
  refine lv_iload_n hx hb dX0_init_1 rfl (lv_at hl 1 rfl) ?_
  obtain ⟨x1, hx1, h⟩ := bnd h
  refine iv_X0_3 l X hH hRL (by decide) hx1 hl.1 (Nat.le_of_ble_eq_true rfl) dX0_init_2 hcs (fun H locs hH => ?_)
  exact eV X hH h hr dX0_init_5 (Nat.le_of_ble_eq_true rfl) (Nat.le_of_ble_eq_true rfl)
theorem t_X0_kind {μ : Mm} {a0 : Nat} {x : Int32} (h : f_X0_kind μ a0 = some x) : tg μ a0 = 1 := by
  unfold f_X0_kind at h
  exact (gsn h).1
set_option maxHeartbeats 4000000 in
set_option maxRecDepth 100000 in
theorem c_X0_kind (l : Launch) (G : CG) (μ : Mm) (a0 : Nat) (x : Int32) (h : f_X0_kind μ a0 = some x) : Met l yX0_kind (.code yX0_kind cX0_kind 1 (some .int) :: UW) (rmk 1 0 0 0) (PC G [.ref a0] μ) (QI G x μ) 0 0 (fA G) := by
  refine Met.ofW (cc := cX0_kind) (maxL := 1) (ret := (some .int)) (by decide) rfl ?_
  intro p e s m args below meth c s₁ B hml hv
  obtain ⟨X, hH, hr, rfl, hnm⟩ := cx_in B hml hv
  have X : Cx p s m _ meth c cX0_kind 1 RX0 G := X
  have hx := X.1
  have hb := X.2.1
  have hown := X.2.2.2.1
  have hts := X.2.2.2.2.1
  have hRL : RmL (rmk 1 0 0 0) 1 0 := ⟨Nat.le_refl _, Nat.le_refl _⟩
  have hcs : 0 ≤ (rmk 0 0 0 0).cells ∧ 0 ≤ (rmk 0 0 0 0).slots := ⟨Nat.zero_le _, Nat.zero_le _⟩
  refine ls_in (Nat.le_of_ble_eq_true rfl) (fun ls hl => ?_)
  have hl : lv_has ls 1 [(0, .ref a0)] := hl
  unfold f_X0_kind at h
  obtain ⟨htg, h⟩ := gsn h
  refine lv_iconst (v := 3) hx hb dX0_kind_0 (by decide) ?_
  exact eIp X hH h hr dX0_kind_1
theorem t_X0_bareTread {μ : Mm} {a0 : Nat} {x : Int32} (h : f_X0_bareTread μ a0 = some x) : tg μ a0 = 1 := by
  unfold f_X0_bareTread at h
  exact (gsn h).1
set_option maxHeartbeats 4000000 in
set_option maxRecDepth 100000 in
theorem c_X0_bareTread (l : Launch) (G : CG) (μ : Mm) (a0 : Nat) (x : Int32) (h : f_X0_bareTread μ a0 = some x) : Met l yX0_bareTread (.code yX0_bareTread cX0_bareTread 1 (some .int) :: UW) (rmk 1 0 0 0) (PC G [.ref a0] μ) (QI G x μ) 0 0 (fA G) := by
  refine Met.ofW (cc := cX0_bareTread) (maxL := 1) (ret := (some .int)) (by decide) rfl ?_
  intro p e s m args below meth c s₁ B hml hv
  obtain ⟨X, hH, hr, rfl, hnm⟩ := cx_in B hml hv
  have X : Cx p s m _ meth c cX0_bareTread 1 RX0 G := X
  have hx := X.1
  have hb := X.2.1
  have hown := X.2.2.2.1
  have hts := X.2.2.2.2.1
  have hRL : RmL (rmk 1 0 0 0) 1 0 := ⟨Nat.le_refl _, Nat.le_refl _⟩
  have hcs : 0 ≤ (rmk 0 0 0 0).cells ∧ 0 ≤ (rmk 0 0 0 0).slots := ⟨Nat.zero_le _, Nat.zero_le _⟩
  refine ls_in (Nat.le_of_ble_eq_true rfl) (fun ls hl => ?_)
  have hl : lv_has ls 1 [(0, .ref a0)] := hl
  unfold f_X0_bareTread at h
  obtain ⟨htg, h⟩ := gsn h
  refine lv_iconst (v := 0) hx hb dX0_bareTread_0 (by decide) ?_
  exact eIp X hH h hr dX0_bareTread_1
set_option maxHeartbeats 1000000 in
theorem iv_X1_3 {p : Program} {e : Env} {R : Room} {s : State} {m : MethodId} {args : Array Value} {below : List Frame} {meth : Method} {c : Code} {H : Heap} {locs : List Loc} {cells slots : Nat} {Q : State → Prop} {cc : ByteArray} {pc : Nat} {ls : Array Slot} {rest : List Value} {nL : Nat} {G : CG} {μ : Mm} {a : Nat} {q0 : Int32} {x : Mm} {k k2 : Nat} (l : Launch) (X : Cx p s m args meth c cc nL RX1 G) (hH : HS G s μ H locs) (hRL : RmL R k k2) (hk : 1 + 1 ≤ k ∧ 53 ≤ k2) (h : f_X2_init μ a q0 = some x) (hls : ls.size = nL) (hroom : (rest.map fun v => v.category).sum ≤ 8) (hdg : decode cc pc = .ok (.invokespecial 3, 3)) (hcs : cells + 0 ≤ R.cells ∧ slots + 0 ≤ R.slots) (kk : ∀ (H1 : Heap) (locs1 : List Loc), HS G s x H1 locs1 → W p l e R s m args below meth c H1 locs1 cells slots Q (F0 m (pc + 3) ls rest)) : W p l e R s m args below meth c H locs cells slots Q (F0 m pc ls (.int q0 :: .ref a :: rest)) := by
  refine kV0 hH (rI (As := [.int q0]) (rest := rest) X hH (c_X2_init l G μ a q0 x h) (List.forall_mem_cons.mpr ⟨u_565, (List.forall_mem_cons.mpr ⟨u_77, (List.forall_mem_cons.mpr ⟨u_25, (fun _ h9 => absurd h9 List.not_mem_nil)⟩)⟩)⟩) u_78 (rmo hRL (Nat.le_trans (by decide) hk.1) (Nat.le_trans (by decide) hk.2)) rfl ddS_X2_init rfl hls rfl hroom hdg hcs) kk
theorem t_X1_init {μ : Mm} {a0 : Nat} {p1 : Int32} {x : Mm} (h : f_X1_init μ a0 p1 = some x) : (tg μ a0 = 2 ∨ tg μ a0 = 10) := by
  unfold f_X1_init at h
  exact (gsn h).1
set_option maxHeartbeats 4000000 in
set_option maxRecDepth 100000 in
theorem c_X1_init (l : Launch) (G : CG) (μ : Mm) (a0 : Nat) (p1 : Int32) (x : Mm) (h : f_X1_init μ a0 p1 = some x) : Met l yX1_init (.code yX1_init cX1_init 2 none :: UW) (rmk 2 53 0 0) (PC G [.ref a0, .int p1] μ) (QV G x) 0 0 (fA G) := by
  refine Met.ofW (cc := cX1_init) (maxL := 2) (ret := none) (by decide) rfl ?_
  intro p e s m args below meth c s₁ B hml hv
  obtain ⟨X, hH, hr, rfl, hnm⟩ := cx_in B hml hv
  have X : Cx p s m _ meth c cX1_init 2 RX1 G := X
  have hx := X.1
  have hb := X.2.1
  have hown := X.2.2.2.1
  have hts := X.2.2.2.2.1
  have hnm : meth.name = "<init>" := hnm
  have hRL : RmL (rmk 2 53 0 0) 2 53 := ⟨Nat.le_refl _, Nat.le_refl _⟩
  have hcs : 0 ≤ (rmk 0 0 0 0).cells ∧ 0 ≤ (rmk 0 0 0 0).slots := ⟨Nat.zero_le _, Nat.zero_le _⟩
  refine ls_in (Nat.le_of_ble_eq_true rfl) (fun ls hl => ?_)
  have hl : lv_has ls 2 [(0, .ref a0), (1, .int p1)] := hl
  unfold f_X1_init at h
  obtain ⟨htg, h⟩ := gsn h
  refine lv_aload_n hx hb dX1_init_0 rfl (lv_at hl 0 rfl) ?_
  refine lv_iload_n hx hb dX1_init_1 rfl (lv_at hl 1 rfl) ?_
  obtain ⟨x1, hx1, h⟩ := bnd h
  refine iv_X1_3 l X hH hRL (by decide) hx1 hl.1 (Nat.le_of_ble_eq_true rfl) dX1_init_2 hcs (fun H locs hH => ?_)
  exact eV X hH h hr dX1_init_5 (Nat.le_of_ble_eq_true rfl) (Nat.le_of_ble_eq_true rfl)
theorem t_X1_kind {μ : Mm} {a0 : Nat} {x : Int32} (h : f_X1_kind μ a0 = some x) : (tg μ a0 = 2 ∨ tg μ a0 = 10) := by
  unfold f_X1_kind at h
  exact (gsn h).1
set_option maxHeartbeats 4000000 in
set_option maxRecDepth 100000 in
theorem c_X1_kind (l : Launch) (G : CG) (μ : Mm) (a0 : Nat) (x : Int32) (h : f_X1_kind μ a0 = some x) : Met l yX1_kind (.code yX1_kind cX1_kind 1 (some .int) :: UW) (rmk 1 0 0 0) (PC G [.ref a0] μ) (QI G x μ) 0 0 (fA G) := by
  refine Met.ofW (cc := cX1_kind) (maxL := 1) (ret := (some .int)) (by decide) rfl ?_
  intro p e s m args below meth c s₁ B hml hv
  obtain ⟨X, hH, hr, rfl, hnm⟩ := cx_in B hml hv
  have X : Cx p s m _ meth c cX1_kind 1 RX1 G := X
  have hx := X.1
  have hb := X.2.1
  have hown := X.2.2.2.1
  have hts := X.2.2.2.2.1
  have hRL : RmL (rmk 1 0 0 0) 1 0 := ⟨Nat.le_refl _, Nat.le_refl _⟩
  have hcs : 0 ≤ (rmk 0 0 0 0).cells ∧ 0 ≤ (rmk 0 0 0 0).slots := ⟨Nat.zero_le _, Nat.zero_le _⟩
  refine ls_in (Nat.le_of_ble_eq_true rfl) (fun ls hl => ?_)
  have hl : lv_has ls 1 [(0, .ref a0)] := hl
  unfold f_X1_kind at h
  obtain ⟨htg, h⟩ := gsn h
  refine lv_iconst (v := 2) hx hb dX1_kind_0 (by decide) ?_
  exact eIp X hH h hr dX1_kind_1
theorem t_X1_bareTread {μ : Mm} {a0 : Nat} {x : Int32} (h : f_X1_bareTread μ a0 = some x) : (tg μ a0 = 2 ∨ tg μ a0 = 10) := by
  unfold f_X1_bareTread at h
  exact (gsn h).1
set_option maxHeartbeats 4000000 in
set_option maxRecDepth 100000 in
theorem c_X1_bareTread (l : Launch) (G : CG) (μ : Mm) (a0 : Nat) (x : Int32) (h : f_X1_bareTread μ a0 = some x) : Met l yX1_bareTread (.code yX1_bareTread cX1_bareTread 1 (some .int) :: UW) (rmk 1 0 0 0) (PC G [.ref a0] μ) (QI G x μ) 0 0 (fA G) := by
  refine Met.ofW (cc := cX1_bareTread) (maxL := 1) (ret := (some .int)) (by decide) rfl ?_
  intro p e s m args below meth c s₁ B hml hv
  obtain ⟨X, hH, hr, rfl, hnm⟩ := cx_in B hml hv
  have X : Cx p s m _ meth c cX1_bareTread 1 RX1 G := X
  have hx := X.1
  have hb := X.2.1
  have hown := X.2.2.2.1
  have hts := X.2.2.2.2.1
  have hRL : RmL (rmk 1 0 0 0) 1 0 := ⟨Nat.le_refl _, Nat.le_refl _⟩
  have hcs : 0 ≤ (rmk 0 0 0 0).cells ∧ 0 ≤ (rmk 0 0 0 0).slots := ⟨Nat.zero_le _, Nat.zero_le _⟩
  refine ls_in (Nat.le_of_ble_eq_true rfl) (fun ls hl => ?_)
  have hl : lv_has ls 1 [(0, .ref a0)] := hl
  unfold f_X1_bareTread at h
  obtain ⟨htg, h⟩ := gsn h
  refine lv_aload_n hx hb dX1_bareTread_0 rfl (lv_at hl 0 rfl) ?_
  obtain ⟨x1, hx1, h⟩ := bnd h
  refine gf_X1_9 X hH hx1 dX1_bareTread_1 ?_
  refine lv_iconst (v := 1) hx hb dX1_bareTread_4 (by decide) ?_
  refine lv_isub hx hb dX1_bareTread_5 ?_
  exact eIp X hH h hr dX1_bareTread_6
theorem t_X2_kind {μ : Mm} {a0 : Nat} {x : Int32} (h : f_X2_kind μ a0 = some x) : gt (tg μ a0) := by
  unfold f_X2_kind at h
  exact (gsn h).1
set_option maxHeartbeats 4000000 in
set_option maxRecDepth 100000 in
theorem c_X2_kind (l : Launch) (G : CG) (μ : Mm) (a0 : Nat) (x : Int32) (h : f_X2_kind μ a0 = some x) : Met l yX2_kind (.code yX2_kind cX2_kind 1 (some .int) :: UW) (rmk 1 0 0 0) (PC G [.ref a0] μ) (QI G x μ) 0 0 (fA G) := by
  refine Met.ofW (cc := cX2_kind) (maxL := 1) (ret := (some .int)) (by decide) rfl ?_
  intro p e s m args below meth c s₁ B hml hv
  obtain ⟨X, hH, hr, rfl, hnm⟩ := cx_in B hml hv
  have X : Cx p s m _ meth c cX2_kind 1 RX2 G := X
  have hx := X.1
  have hb := X.2.1
  have hown := X.2.2.2.1
  have hts := X.2.2.2.2.1
  have hRL : RmL (rmk 1 0 0 0) 1 0 := ⟨Nat.le_refl _, Nat.le_refl _⟩
  have hcs : 0 ≤ (rmk 0 0 0 0).cells ∧ 0 ≤ (rmk 0 0 0 0).slots := ⟨Nat.zero_le _, Nat.zero_le _⟩
  refine ls_in (Nat.le_of_ble_eq_true rfl) (fun ls hl => ?_)
  have hl : lv_has ls 1 [(0, .ref a0)] := hl
  unfold f_X2_kind at h
  obtain ⟨htg, h⟩ := gsn h
  refine lv_iconst (v := 0) hx hb dX2_kind_0 (by decide) ?_
  exact eIp X hH h hr dX2_kind_1
theorem t_X2_bareTread {μ : Mm} {a0 : Nat} {x : Int32} (h : f_X2_bareTread μ a0 = some x) : gt (tg μ a0) := by
  unfold f_X2_bareTread at h
  exact (gsn h).1
set_option maxHeartbeats 4000000 in
set_option maxRecDepth 100000 in
theorem c_X2_bareTread (l : Launch) (G : CG) (μ : Mm) (a0 : Nat) (x : Int32) (h : f_X2_bareTread μ a0 = some x) : Met l yX2_bareTread (.code yX2_bareTread cX2_bareTread 1 (some .int) :: UW) (rmk 1 0 0 0) (PC G [.ref a0] μ) (QI G x μ) 0 0 (fA G) := by
  refine Met.ofW (cc := cX2_bareTread) (maxL := 1) (ret := (some .int)) (by decide) rfl ?_
  intro p e s m args below meth c s₁ B hml hv
  obtain ⟨X, hH, hr, rfl, hnm⟩ := cx_in B hml hv
  have X : Cx p s m _ meth c cX2_bareTread 1 RX2 G := X
  have hx := X.1
  have hb := X.2.1
  have hown := X.2.2.2.1
  have hts := X.2.2.2.2.1
  have hRL : RmL (rmk 1 0 0 0) 1 0 := ⟨Nat.le_refl _, Nat.le_refl _⟩
  have hcs : 0 ≤ (rmk 0 0 0 0).cells ∧ 0 ≤ (rmk 0 0 0 0).slots := ⟨Nat.zero_le _, Nat.zero_le _⟩
  refine ls_in (Nat.le_of_ble_eq_true rfl) (fun ls hl => ?_)
  have hl : lv_has ls 1 [(0, .ref a0)] := hl
  unfold f_X2_bareTread at h
  obtain ⟨htg, h⟩ := gsn h
  refine lv_aload_n hx hb dX2_bareTread_0 rfl (lv_at hl 0 rfl) ?_
  obtain ⟨x1, hx1, h⟩ := bnd h
  refine gf_X2_15 X hH hx1 dX2_bareTread_1 ?_
  exact eIp X hH h hr dX2_bareTread_4
theorem t_X4_bareTread {μ : Mm} {a0 : Nat} {x : Int32} (h : f_X4_bareTread μ a0 = some x) : (tg μ a0 = 5 ∨ tg μ a0 = 7) := by
  unfold f_X4_bareTread at h
  exact (gsn h).1
set_option maxHeartbeats 4000000 in
set_option maxRecDepth 100000 in
theorem c_X4_bareTread (l : Launch) (G : CG) (μ : Mm) (a0 : Nat) (x : Int32) (h : f_X4_bareTread μ a0 = some x) : Met l yX4_bareTread (.code yX4_bareTread cX4_bareTread 1 (some .int) :: UW) (rmk 1 0 0 0) (PC G [.ref a0] μ) (QI G x μ) 0 0 (fA G) := by
  refine Met.ofW (cc := cX4_bareTread) (maxL := 1) (ret := (some .int)) (by decide) rfl ?_
  intro p e s m args below meth c s₁ B hml hv
  obtain ⟨X, hH, hr, rfl, hnm⟩ := cx_in B hml hv
  have X : Cx p s m _ meth c cX4_bareTread 1 RX4 G := X
  have hx := X.1
  have hb := X.2.1
  have hown := X.2.2.2.1
  have hts := X.2.2.2.2.1
  have hRL : RmL (rmk 1 0 0 0) 1 0 := ⟨Nat.le_refl _, Nat.le_refl _⟩
  have hcs : 0 ≤ (rmk 0 0 0 0).cells ∧ 0 ≤ (rmk 0 0 0 0).slots := ⟨Nat.zero_le _, Nat.zero_le _⟩
  refine ls_in (Nat.le_of_ble_eq_true rfl) (fun ls hl => ?_)
  have hl : lv_has ls 1 [(0, .ref a0)] := hl
  unfold f_X4_bareTread at h
  obtain ⟨htg, h⟩ := gsn h
  refine lv_iconst (v := 2) hx hb dX4_bareTread_0 (by decide) ?_
  refine lv_aload_n hx hb dX4_bareTread_1 rfl (lv_at hl 0 rfl) ?_
  obtain ⟨x1, hx1, h⟩ := bnd h
  refine gf_X4_9 X hH hx1 dX4_bareTread_2 ?_
  refine lv_imul hx hb dX4_bareTread_5 ?_
  exact eIp X hH h hr dX4_bareTread_6
theorem t_X6_uncountedFeet {μ : Mm} {a0 : Nat} {x : Int32} (h : f_X6_uncountedFeet μ a0 = some x) : tg μ a0 = 7 := by
  unfold f_X6_uncountedFeet at h
  exact (gsn h).1
set_option maxHeartbeats 4000000 in
set_option maxRecDepth 100000 in
theorem c_X6_uncountedFeet (l : Launch) (G : CG) (μ : Mm) (a0 : Nat) (x : Int32) (h : f_X6_uncountedFeet μ a0 = some x) : Met l yX6_uncountedFeet (.code yX6_uncountedFeet cX6_uncountedFeet 1 (some .int) :: UW) (rmk 1 0 0 0) (PC G [.ref a0] μ) (QI G x μ) 0 0 (fA G) := by
  refine Met.ofW (cc := cX6_uncountedFeet) (maxL := 1) (ret := (some .int)) (by decide) rfl ?_
  intro p e s m args below meth c s₁ B hml hv
  obtain ⟨X, hH, hr, rfl, hnm⟩ := cx_in B hml hv
  have X : Cx p s m _ meth c cX6_uncountedFeet 1 RX6 G := X
  have hx := X.1
  have hb := X.2.1
  have hown := X.2.2.2.1
  have hts := X.2.2.2.2.1
  have hRL : RmL (rmk 1 0 0 0) 1 0 := ⟨Nat.le_refl _, Nat.le_refl _⟩
  have hcs : 0 ≤ (rmk 0 0 0 0).cells ∧ 0 ≤ (rmk 0 0 0 0).slots := ⟨Nat.zero_le _, Nat.zero_le _⟩
  refine ls_in (Nat.le_of_ble_eq_true rfl) (fun ls hl => ?_)
  have hl : lv_has ls 1 [(0, .ref a0)] := hl
  unfold f_X6_uncountedFeet at h
  obtain ⟨htg, h⟩ := gsn h
  refine lv_aload_n hx hb dX6_uncountedFeet_0 rfl (lv_at hl 0 rfl) ?_
  obtain ⟨x1, hx1, h⟩ := bnd h
  refine gf_X6_18 X hH hx1 dX6_uncountedFeet_1 ?_
  refine lv_iconst (v := 2) hx hb dX6_uncountedFeet_4 (by decide) ?_
  refine lv_idiv hx hb dX6_uncountedFeet_5 (by decide) ?_
  exact eIp X hH h hr dX6_uncountedFeet_6
set_option maxHeartbeats 1000000 in
theorem iv_X6_9 {p : Program} {e : Env} {R : Room} {s : State} {m : MethodId} {args : Array Value} {below : List Frame} {meth : Method} {c : Code} {H : Heap} {locs : List Loc} {cells slots : Nat} {Q : State → Prop} {cc : ByteArray} {pc : Nat} {ls : Array Slot} {rest : List Value} {nL : Nat} {G : CG} {μ : Mm} {a : Nat}  {x : Int32} {k k2 : Nat} (l : Launch) (X : Cx p s m args meth c cc nL RX6 G) (hH : HS G s μ H locs) (htg : tg μ a = 7) (hRL : RmL R k k2) (hk : 1 + 1 ≤ k ∧ 20 ≤ k2) (h : f_X4_bareTread μ a = some x) (hls : ls.size = nL) (hroom : (rest.map fun v => v.category).sum ≤ 8) (hdg : decode cc pc = .ok (.invokespecial 9, 3)) (hcs : cells + 0 ≤ R.cells ∧ slots + 0 ≤ R.slots) (kk : ∀ (H1 : Heap) (locs1 : List Loc), HS G s μ H1 locs1 → W p l e R s m args below meth c H1 locs1 cells slots Q (F0 m (pc + 3) ls (.int x :: rest))) : W p l e R s m args below meth c H locs cells slots Q (F0 m pc ls (.ref a :: rest)) := by
  refine kI hH (rSU (As := []) (rest := rest) X hH htg vc_6 (c_X4_bareTread l G μ a x h) (List.forall_mem_cons.mpr ⟨u_356, (List.forall_mem_cons.mpr ⟨u_858, (List.forall_mem_cons.mpr ⟨u_357, (List.forall_mem_cons.mpr ⟨u_351, (List.forall_mem_cons.mpr ⟨u_29, (fun _ h9 => absurd h9 List.not_mem_nil)⟩)⟩)⟩)⟩)⟩) u_352 (rmo hRL (Nat.le_trans (by decide) hk.1) (Nat.le_trans (by decide) hk.2)) ddN_X4_bareTread rfl hls rfl hroom hdg hcs) kk
set_option maxHeartbeats 1000000 in
theorem iv_X6_13 {p : Program} {e : Env} {R : Room} {s : State} {m : MethodId} {args : Array Value} {below : List Frame} {meth : Method} {c : Code} {H : Heap} {locs : List Loc} {cells slots : Nat} {Q : State → Prop} {cc : ByteArray} {pc : Nat} {ls : Array Slot} {rest : List Value} {nL : Nat} {G : CG} {μ : Mm} {a : Nat}  {x : Int32} {k k2 : Nat} (l : Launch) (X : Cx p s m args meth c cc nL RX6 G) (hH : HS G s μ H locs) (hRL : RmL R k k2) (hk : 1 + 1 ≤ k ∧ 20 ≤ k2) (h : f_X6_uncountedFeet μ a = some x) (hls : ls.size = nL) (hroom : (rest.map fun v => v.category).sum ≤ 8) (hdg : decode cc pc = .ok (.invokevirtual 13, 3)) (hcs : cells + 0 ≤ R.cells ∧ slots + 0 ≤ R.slots) (kk : ∀ (H1 : Heap) (locs1 : List Loc), HS G s μ H1 locs1 → W p l e R s m args below meth c H1 locs1 cells slots Q (F0 m (pc + 3) ls (.int x :: rest))) : W p l e R s m args below meth c H locs cells slots Q (F0 m pc ls (.ref a :: rest)) := by
  refine kI hH (rV (As := []) (rest := rest) X hH (t_X6_uncountedFeet h) vc_6 (c_X6_uncountedFeet l G μ a x h) (List.forall_mem_cons.mpr ⟨u_358, (List.forall_mem_cons.mpr ⟨u_359, (List.forall_mem_cons.mpr ⟨u_360, (List.forall_mem_cons.mpr ⟨u_32, (fun _ h9 => absurd h9 List.not_mem_nil)⟩)⟩)⟩)⟩) u_361 (rmo hRL (Nat.le_trans (by decide) hk.1) (Nat.le_trans (by decide) hk.2)) ddV_X6_uncountedFeet rfl hls rfl hroom hdg hcs) kk
theorem t_X6_bareTread {μ : Mm} {a0 : Nat} {x : Int32} (h : f_X6_bareTread μ a0 = some x) : tg μ a0 = 7 := by
  unfold f_X6_bareTread at h
  exact (gsn h).1
set_option maxHeartbeats 4000000 in
set_option maxRecDepth 100000 in
theorem c_X6_bareTread (l : Launch) (G : CG) (μ : Mm) (a0 : Nat) (x : Int32) (h : f_X6_bareTread μ a0 = some x) : Met l yX6_bareTread (.code yX6_bareTread cX6_bareTread 1 (some .int) :: UW) (rmk 2 20 0 0) (PC G [.ref a0] μ) (QI G x μ) 0 0 (fA G) := by
  refine Met.ofW (cc := cX6_bareTread) (maxL := 1) (ret := (some .int)) (by decide) rfl ?_
  intro p e s m args below meth c s₁ B hml hv
  obtain ⟨X, hH, hr, rfl, hnm⟩ := cx_in B hml hv
  have X : Cx p s m _ meth c cX6_bareTread 1 RX6 G := X
  have hx := X.1
  have hb := X.2.1
  have hown := X.2.2.2.1
  have hts := X.2.2.2.2.1
  have hRL : RmL (rmk 2 20 0 0) 2 20 := ⟨Nat.le_refl _, Nat.le_refl _⟩
  have hcs : 0 ≤ (rmk 0 0 0 0).cells ∧ 0 ≤ (rmk 0 0 0 0).slots := ⟨Nat.zero_le _, Nat.zero_le _⟩
  refine ls_in (Nat.le_of_ble_eq_true rfl) (fun ls hl => ?_)
  have hl : lv_has ls 1 [(0, .ref a0)] := hl
  unfold f_X6_bareTread at h
  obtain ⟨htg, h⟩ := gsn h
  refine lv_aload_n hx hb dX6_bareTread_0 rfl (lv_at hl 0 rfl) ?_
  obtain ⟨x1, hx1, h⟩ := bnd h
  refine iv_X6_9 l X hH htg hRL (by decide) hx1 hl.1 (Nat.le_of_ble_eq_true rfl) dX6_bareTread_1 hcs (fun H locs hH => ?_)
  refine lv_aload_n hx hb dX6_bareTread_4 rfl (lv_at hl 0 rfl) ?_
  obtain ⟨x2, hx2, h⟩ := bnd h
  refine iv_X6_13 l X hH hRL (by decide) hx2 hl.1 (Nat.le_of_ble_eq_true rfl) dX6_bareTread_5 hcs (fun H locs hH => ?_)
  refine lv_isub hx hb dX6_bareTread_8 ?_
  exact eIp X hH h hr dX6_bareTread_9
set_option maxHeartbeats 1000000 in
theorem iv_X9_9 {p : Program} {e : Env} {R : Room} {s : State} {m : MethodId} {args : Array Value} {below : List Frame} {meth : Method} {c : Code} {H : Heap} {locs : List Loc} {cells slots : Nat} {Q : State → Prop} {cc : ByteArray} {pc : Nat} {ls : Array Slot} {rest : List Value} {nL : Nat} {G : CG} {μ : Mm} {a : Nat}  {x : Int32} {k k2 : Nat} (l : Launch) (X : Cx p s m args meth c cc nL RX9 G) (hH : HS G s μ H locs) (htg : tg μ a = 10) (hRL : RmL R k k2) (hk : 1 + 1 ≤ k ∧ 20 ≤ k2) (h : f_X1_bareTread μ a = some x) (hls : ls.size = nL) (hroom : (rest.map fun v => v.category).sum ≤ 8) (hdg : decode cc pc = .ok (.invokespecial 9, 3)) (hcs : cells + 0 ≤ R.cells ∧ slots + 0 ≤ R.slots) (kk : ∀ (H1 : Heap) (locs1 : List Loc), HS G s μ H1 locs1 → W p l e R s m args below meth c H1 locs1 cells slots Q (F0 m (pc + 3) ls (.int x :: rest))) : W p l e R s m args below meth c H locs cells slots Q (F0 m pc ls (.ref a :: rest)) := by
  refine kI hH (rSU (As := []) (rest := rest) X hH htg vc_9 (c_X1_bareTread l G μ a x h) (List.forall_mem_cons.mpr ⟨u_365, (List.forall_mem_cons.mpr ⟨u_859, (List.forall_mem_cons.mpr ⟨u_366, (List.forall_mem_cons.mpr ⟨u_348, (List.forall_mem_cons.mpr ⟨u_30, (fun _ h9 => absurd h9 List.not_mem_nil)⟩)⟩)⟩)⟩)⟩) u_349 (rmo hRL (Nat.le_trans (by decide) hk.1) (Nat.le_trans (by decide) hk.2)) ddN_X1_bareTread rfl hls rfl hroom hdg hcs) kk
theorem t_X9_bareTread {μ : Mm} {a0 : Nat} {x : Int32} (h : f_X9_bareTread μ a0 = some x) : tg μ a0 = 10 := by
  unfold f_X9_bareTread at h
  exact (gsn h).1
set_option maxHeartbeats 4000000 in
set_option maxRecDepth 100000 in
theorem c_X9_bareTread (l : Launch) (G : CG) (μ : Mm) (a0 : Nat) (x : Int32) (h : f_X9_bareTread μ a0 = some x) : Met l yX9_bareTread (.code yX9_bareTread cX9_bareTread 1 (some .int) :: UW) (rmk 2 20 0 0) (PC G [.ref a0] μ) (QI G x μ) 0 0 (fA G) := by
  refine Met.ofW (cc := cX9_bareTread) (maxL := 1) (ret := (some .int)) (by decide) rfl ?_
  intro p e s m args below meth c s₁ B hml hv
  obtain ⟨X, hH, hr, rfl, hnm⟩ := cx_in B hml hv
  have X : Cx p s m _ meth c cX9_bareTread 1 RX9 G := X
  have hx := X.1
  have hb := X.2.1
  have hown := X.2.2.2.1
  have hts := X.2.2.2.2.1
  have hRL : RmL (rmk 2 20 0 0) 2 20 := ⟨Nat.le_refl _, Nat.le_refl _⟩
  have hcs : 0 ≤ (rmk 0 0 0 0).cells ∧ 0 ≤ (rmk 0 0 0 0).slots := ⟨Nat.zero_le _, Nat.zero_le _⟩
  refine ls_in (Nat.le_of_ble_eq_true rfl) (fun ls hl => ?_)
  have hl : lv_has ls 1 [(0, .ref a0)] := hl
  unfold f_X9_bareTread at h
  obtain ⟨htg, h⟩ := gsn h
  refine lv_aload_n hx hb dX9_bareTread_0 rfl (lv_at hl 0 rfl) ?_
  obtain ⟨x1, hx1, h⟩ := bnd h
  refine iv_X9_9 l X hH htg hRL (by decide) hx1 hl.1 (Nat.le_of_ble_eq_true rfl) dX9_bareTread_1 hcs (fun H locs hH => ?_)
  refine lv_iconst (v := 2) hx hb dX9_bareTread_4 (by decide) ?_
  refine lv_idiv hx hb dX9_bareTread_5 (by decide) ?_
  exact eIp X hH h hr dX9_bareTread_6
set_option maxHeartbeats 1000000 in
theorem iv_X2_18 {p : Program} {e : Env} {R : Room} {s : State} {m : MethodId} {args : Array Value} {below : List Frame} {meth : Method} {c : Code} {H : Heap} {locs : List Loc} {cells slots : Nat} {Q : State → Prop} {cc : ByteArray} {pc : Nat} {ls : Array Slot} {rest : List Value} {nL : Nat} {G : CG} {μ : Mm} {a : Nat}  {x : Int32} {k k2 : Nat} (l : Launch) (X : Cx p s m args meth c cc nL RX2 G) (hH : HS G s μ H locs) (hRL : RmL R k k2) (hk : 2 + 1 ≤ k ∧ 40 ≤ k2) (h : fv_2_bareTread μ a = some x) (hls : ls.size = nL) (hroom : (rest.map fun v => v.category).sum ≤ 8) (hdg : decode cc pc = .ok (.invokevirtual 18, 3)) (hcs : cells + 0 ≤ R.cells ∧ slots + 0 ≤ R.slots) (kk : ∀ (H1 : Heap) (locs1 : List Loc), HS G s μ H1 locs1 → W p l e R s m args below meth c H1 locs1 cells slots Q (F0 m (pc + 3) ls (.int x :: rest))) : W p l e R s m args below meth c H locs cells slots Q (F0 m pc ls (.ref a :: rest)) := by
  refine kI (av := (Value.ref a :: []).toArray) (rest := rest) hH ?_ kk
  unfold fv_2_bareTread at h
  by_cases ht0 : tg μ a = 1
  · exact rO (As := []) (rest := rest) (owner := RX2) (x := yX2_bareTread) X hH ht0 vc_0 (c_X0_bareTread l G μ a x (ift h ht0)) (List.forall_mem_cons.mpr ⟨u_340, (List.forall_mem_cons.mpr ⟨u_343, (List.forall_mem_cons.mpr ⟨u_341, (List.forall_mem_cons.mpr ⟨u_344, (List.forall_mem_cons.mpr ⟨u_345, (List.forall_mem_cons.mpr ⟨u_31, (fun _ h9 => absurd h9 List.not_mem_nil)⟩)⟩)⟩)⟩)⟩)⟩) u_346 u_367 (rmo hRL (Nat.le_trans (by decide) hk.1) (Nat.le_trans (by decide) hk.2)) ddU_X2_bareTread rfl hls rfl hroom hdg hcs
  replace h := iff' h ht0
  by_cases ht1 : tg μ a = 2
  · exact rO (As := []) (rest := rest) (owner := RX2) (x := yX2_bareTread) X hH ht1 vc_1 (c_X1_bareTread l G μ a x (ift h ht1)) (List.forall_mem_cons.mpr ⟨u_340, (List.forall_mem_cons.mpr ⟨u_343, (List.forall_mem_cons.mpr ⟨u_341, (List.forall_mem_cons.mpr ⟨u_347, (List.forall_mem_cons.mpr ⟨u_348, (List.forall_mem_cons.mpr ⟨u_30, (fun _ h9 => absurd h9 List.not_mem_nil)⟩)⟩)⟩)⟩)⟩)⟩) u_349 u_367 (rmo hRL (Nat.le_trans (by decide) hk.1) (Nat.le_trans (by decide) hk.2)) ddU_X2_bareTread rfl hls rfl hroom hdg hcs
  replace h := iff' h ht1
  by_cases ht2 : tg μ a = 3
  · exact rV (As := []) (rest := rest) X hH ht2 vc_2 (c_X2_bareTread l G μ a x (ift h ht2)) (List.forall_mem_cons.mpr ⟨u_340, (List.forall_mem_cons.mpr ⟨u_341, (List.forall_mem_cons.mpr ⟨u_342, (List.forall_mem_cons.mpr ⟨u_25, (fun _ h9 => absurd h9 List.not_mem_nil)⟩)⟩)⟩)⟩) u_367 (rmo hRL (Nat.le_trans (by decide) hk.1) (Nat.le_trans (by decide) hk.2)) ddV_X2_bareTread rfl hls rfl hroom hdg hcs
  replace h := iff' h ht2
  by_cases ht4 : tg μ a = 5
  · exact rO (As := []) (rest := rest) (owner := RX2) (x := yX2_bareTread) X hH ht4 vc_4 (c_X4_bareTread l G μ a x (ift h ht4)) (List.forall_mem_cons.mpr ⟨u_340, (List.forall_mem_cons.mpr ⟨u_343, (List.forall_mem_cons.mpr ⟨u_341, (List.forall_mem_cons.mpr ⟨u_350, (List.forall_mem_cons.mpr ⟨u_351, (List.forall_mem_cons.mpr ⟨u_29, (fun _ h9 => absurd h9 List.not_mem_nil)⟩)⟩)⟩)⟩)⟩)⟩) u_352 u_367 (rmo hRL (Nat.le_trans (by decide) hk.1) (Nat.le_trans (by decide) hk.2)) ddU_X2_bareTread rfl hls rfl hroom hdg hcs
  replace h := iff' h ht4
  by_cases ht6 : tg μ a = 7
  · exact rO (As := []) (rest := rest) (owner := RX2) (x := yX2_bareTread) X hH ht6 vc_6 (c_X6_bareTread l G μ a x (ift h ht6)) (List.forall_mem_cons.mpr ⟨u_340, (List.forall_mem_cons.mpr ⟨u_343, (List.forall_mem_cons.mpr ⟨u_341, (List.forall_mem_cons.mpr ⟨u_353, (List.forall_mem_cons.mpr ⟨u_354, (List.forall_mem_cons.mpr ⟨u_32, (fun _ h9 => absurd h9 List.not_mem_nil)⟩)⟩)⟩)⟩)⟩)⟩) u_355 u_367 (rmo hRL (Nat.le_trans (by decide) hk.1) (Nat.le_trans (by decide) hk.2)) ddU_X2_bareTread rfl hls rfl hroom hdg hcs
  replace h := iff' h ht6
  by_cases ht9 : tg μ a = 10
  · exact rO (As := []) (rest := rest) (owner := RX2) (x := yX2_bareTread) X hH ht9 vc_9 (c_X9_bareTread l G μ a x (ift h ht9)) (List.forall_mem_cons.mpr ⟨u_340, (List.forall_mem_cons.mpr ⟨u_343, (List.forall_mem_cons.mpr ⟨u_341, (List.forall_mem_cons.mpr ⟨u_362, (List.forall_mem_cons.mpr ⟨u_363, (List.forall_mem_cons.mpr ⟨u_33, (fun _ h9 => absurd h9 List.not_mem_nil)⟩)⟩)⟩)⟩)⟩)⟩) u_364 u_367 (rmo hRL (Nat.le_trans (by decide) hk.1) (Nat.le_trans (by decide) hk.2)) ddU_X2_bareTread rfl hls rfl hroom hdg hcs
  replace h := iff' h ht9
  cases h
theorem t_X2_treadOn {μ : Mm} {a0 : Nat} {p1 : Int32} {x : Int32} (h : f_X2_treadOn μ a0 p1 = some x) : gt (tg μ a0) := by
  unfold f_X2_treadOn at h
  exact (gsn h).1
set_option maxHeartbeats 4000000 in
set_option maxRecDepth 100000 in
theorem c_X2_treadOn (l : Launch) (G : CG) (μ : Mm) (a0 : Nat) (p1 : Int32) (x : Int32) (h : f_X2_treadOn μ a0 p1 = some x) : Met l yX2_treadOn (.code yX2_treadOn cX2_treadOn 2 (some .int) :: UW) (rmk 3 40 0 0) (PC G [.ref a0, .int p1] μ) (QI G x μ) 0 0 (fA G) := by
  refine Met.ofW (cc := cX2_treadOn) (maxL := 2) (ret := (some .int)) (by decide) rfl ?_
  intro p e s m args below meth c s₁ B hml hv
  obtain ⟨X, hH, hr, rfl, hnm⟩ := cx_in B hml hv
  have X : Cx p s m _ meth c cX2_treadOn 2 RX2 G := X
  have hx := X.1
  have hb := X.2.1
  have hown := X.2.2.2.1
  have hts := X.2.2.2.2.1
  have hRL : RmL (rmk 3 40 0 0) 3 40 := ⟨Nat.le_refl _, Nat.le_refl _⟩
  have hcs : 0 ≤ (rmk 0 0 0 0).cells ∧ 0 ≤ (rmk 0 0 0 0).slots := ⟨Nat.zero_le _, Nat.zero_le _⟩
  refine ls_in (Nat.le_of_ble_eq_true rfl) (fun ls hl => ?_)
  have hl : lv_has ls 2 [(0, .ref a0), (1, .int p1)] := hl
  unfold f_X2_treadOn at h
  obtain ⟨htg, h⟩ := gsn h
  refine lv_iload_n hx hb dX2_treadOn_0 rfl (lv_at hl 1 rfl) ?_
  refine lv_iconst (v := 2) hx hb dX2_treadOn_1 (by decide) ?_
  refine lv_icmp_ne (tgt := 7) hx hb dX2_treadOn_2 (by decide) (fun hc1 => ?_) (fun hc1 => ?_)
  · replace h := iff' h hc1
    refine lv_iload_n hx hb dX2_treadOn_7 rfl (lv_at hl 1 rfl) ?_
    refine lv_iconst (v := 1) hx hb dX2_treadOn_8 (by decide) ?_
    refine lv_icmp_ne (tgt := 21) hx hb dX2_treadOn_9 (by decide) (fun hc2 => ?_) (fun hc2 => ?_)
    · replace h := iff' h hc2
      refine lv_aload_n hx hb dX2_treadOn_21 rfl (lv_at hl 0 rfl) ?_
      obtain ⟨x3, hx3, h⟩ := bnd h
      refine iv_X2_18 l X hH hRL (by decide) hx3 hl.1 (Nat.le_of_ble_eq_true rfl) dX2_treadOn_22 hcs (fun H locs hH => ?_)
      exact eIp X hH h hr dX2_treadOn_25
    · replace h := ift h hc2
      refine lv_aload_n hx hb dX2_treadOn_12 rfl (lv_at hl 0 rfl) ?_
      obtain ⟨x4, hx4, h⟩ := bnd h
      refine iv_X2_18 l X hH hRL (by decide) hx4 hl.1 (Nat.le_of_ble_eq_true rfl) dX2_treadOn_13 hcs (fun H locs hH => ?_)
      refine lv_iconst (v := 2) hx hb dX2_treadOn_16 (by decide) ?_
      refine lv_idiv hx hb dX2_treadOn_17 (by decide) ?_
      refine lv_goto (tgt := 25) hx hb dX2_treadOn_18 (by decide) ?_
      exact eIp X hH h hr dX2_treadOn_25
  · replace h := ift h hc1
    refine lv_iconst (v := 0) hx hb dX2_treadOn_5 (by decide) ?_
    exact eIp X hH h hr dX2_treadOn_6
theorem t_X8_init {μ : Mm} {a0 : Nat} {p1 : Int32} {x : Mm} (h : f_X8_init μ a0 p1 = some x) : tg μ a0 = 9 := by
  unfold f_X8_init at h
  exact (gsn h).1
set_option maxHeartbeats 4000000 in
set_option maxRecDepth 100000 in
theorem c_X8_init (l : Launch) (G : CG) (μ : Mm) (a0 : Nat) (p1 : Int32) (x : Mm) (h : f_X8_init μ a0 p1 = some x) : Met l yX8_init (.code yX8_init cX8_init 2 none :: UW) (rmk 1 32 1 60) (PC G [.ref a0, .int p1] μ) (QV G x) 1 60 (fA G) := by
  refine Met.ofW (cc := cX8_init) (maxL := 2) (ret := none) (by decide) rfl ?_
  intro p e s m args below meth c s₁ B hml hv
  obtain ⟨X, hH, hr, rfl, hnm⟩ := cx_in B hml hv
  have X : Cx p s m _ meth c cX8_init 2 RX8 G := X
  have hx := X.1
  have hb := X.2.1
  have hown := X.2.2.2.1
  have hts := X.2.2.2.2.1
  have hnm : meth.name = "<init>" := hnm
  have hRL : RmL (rmk 1 32 1 60) 1 32 := ⟨Nat.le_refl _, Nat.le_refl _⟩
  refine ls_in (Nat.le_of_ble_eq_true rfl) (fun ls hl => ?_)
  have hl : lv_has ls 2 [(0, .ref a0), (1, .int p1)] := hl
  unfold f_X8_init at h
  obtain ⟨htg, h⟩ := gsn h
  refine lv_aload_n hx hb dX8_init_0 rfl (lv_at hl 0 rfl) ?_
  refine w_oi X hRL (by decide) hl.1 u_57 u_40 u_41 (Nat.le_of_ble_eq_true rfl) dX8_init_1 ?_
  refine lv_aload_n hx hb dX8_init_4 rfl (lv_at hl 0 rfl) ?_
  refine lv_iconst (v := -1) hx hb dX8_init_5 (by decide) ?_
  obtain ⟨x1, hx1, h⟩ := bnd h
  refine pf_X8_9 X hH hx1 dX8_init_6 (fun H locs hH => ?_)
  refine lv_aload_n hx hb dX8_init_9 rfl (lv_at hl 0 rfl) ?_
  refine lv_iconst (v := 0) hx hb dX8_init_10 (by decide) ?_
  refine lv_iload_n hx hb dX8_init_11 rfl (lv_at hl 1 rfl) ?_
  refine w_max X hRL (by decide) hl.1 u_58 u_59 u_24 u_60 ⟨Nat.le_of_ble_eq_true rfl, Nat.le_of_ble_eq_true rfl⟩ dX8_init_12 (Nat.le_of_ble_eq_true rfl) ?_
  obtain ⟨x2, hx2, h⟩ := bnd h
  refine w_na X hH (atype := .int) (k := 1) hx2 u_74 (by decide) rfl (fun n' h9 => Nat.le_trans (Nat.mul_le_mul_right _ h9) (by decide)) (ce_I _) (Nat.le_of_ble_eq_true rfl) (Nat.le_of_ble_eq_true rfl) dX8_init_15 (fun H hH => ?_)
  obtain ⟨x3, hx3, h⟩ := bnd h
  refine pf_X8_21 X hnm hH hx3 dX8_init_17 (fun H locs hH => ?_)
  exact eV X hH h hr dX8_init_20 (Nat.le_of_ble_eq_true rfl) (Nat.le_of_ble_eq_true rfl)
set_option maxHeartbeats 4000000 in
set_option maxRecDepth 100000 in
theorem w_X8_open_19 {p : Program} {e : Env} {R : Room} {s : State} {m : MethodId} {args : Array Value} {below : List Frame} {meth : Method} {c : Code} {cells slots : Nat} {Q : State → Prop} {G : CG} (l : Launch) (X : Cx p s m args meth c cX8_open 4 RX8 G) (hRL : RmL R 1 32) (hcs : cells ≤ R.cells ∧ slots ≤ R.slots) : ∀ (n : Nat) (v0 : Nat) (v2 : Int32) (v3 : Int32) (μ : Mm) (x : Mm), lp_X8_open_19 n v0 v2 v3 μ = some x → (∀ (H : Heap) (locs : List Loc) (ls : Array Slot), HS G s x H locs → lv_has ls 4 [] → W p l e R s m args below meth c H locs cells slots Q (F0 m 40 ls [])) → ∀ (H : Heap) (locs : List Loc) (ls : Array Slot), HS G s μ H locs → lv_has ls 4 [(0, .ref v0), (2, .int v2), (3, .int v3)] → W p l e R s m args below meth c H locs cells slots Q (F0 m 19 ls []) := by
  have hx := X.1
  have hb := X.2.1
  have hown := X.2.2.2.1
  have hts := X.2.2.2.2.1
  intro n
  induction n with
  | zero =>
    intro v0 v2 v3 μ x h
    rw [lp_X8_open_19] at h
    cases h
  | succ n ih =>
    intro v0 v2 v3 μ x h k0 H locs ls hH hl
    rw [lp_X8_open_19] at h
    refine lv_iload_n hx hb dX8_open_19 rfl (lv_at hl 2 rfl) ?_
    refine lv_aload_n hx hb dX8_open_20 rfl (lv_at hl 0 rfl) ?_
    obtain ⟨x4, hx4, h⟩ := bnd h
    refine gf_X8_9 X hH hx4 dX8_open_21 ?_
    refine lv_icmp_ge (tgt := 40) hx hb dX8_open_24 (by decide) (fun hc5 => ?_) (fun hc5 => ?_)
    · replace h := ift h hc5
      cases h
      exact k0 _ _ _ hH (lv_sub hl [] rfl)
    · replace h := iff' h hc5
      refine lv_aload_n hx hb dX8_open_27 rfl (lv_at hl 0 rfl) ?_
      obtain ⟨x6, hx6, h⟩ := bnd h
      refine gf_X8_21 X hH hx6 dX8_open_28 ?_
      refine lv_iload_n hx hb dX8_open_31 rfl (lv_at hl 2 rfl) ?_
      refine lv_iload_n hx hb dX8_open_32 rfl (lv_at hl 1 rfl) ?_
      obtain ⟨x7, hx7, h⟩ := bnd h
      refine w_qI X hH hx7 dX8_open_33 (fun H locs hH => ?_)
      refine lv_iinc (v := (v3 + 1)) (lv' := [(3, .int (v3 + 1)), (0, .ref v0), (2, .int v2)]) hx hb dX8_open_34 hl (k := 2) rfl rfl (by decide) rfl (fun ls hl => ?_)
      refine lv_goto (tgt := 19) hx hb dX8_open_37 (by decide) ?_
      exact ih _ _ _ _ _ h k0 _ _ _ hH (lv_sub hl [1, 2, 0] rfl)
theorem t_X8_open {μ : Mm} {a0 : Nat} {p1 : Int32} {p2 : Int32} {x : Mm} (h : f_X8_open μ a0 p1 p2 = some x) : tg μ a0 = 9 := by
  unfold f_X8_open at h
  exact (gsn h).1
set_option maxHeartbeats 4000000 in
set_option maxRecDepth 100000 in
theorem c_X8_open (l : Launch) (G : CG) (μ : Mm) (a0 : Nat) (p1 : Int32) (p2 : Int32) (x : Mm) (h : f_X8_open μ a0 p1 p2 = some x) : Met l yX8_open (.code yX8_open cX8_open 4 none :: UW) (rmk 1 32 0 0) (PC G [.ref a0, .int p1, .int p2] μ) (QV G x) 0 0 (fA G) := by
  refine Met.ofW (cc := cX8_open) (maxL := 4) (ret := none) (by decide) rfl ?_
  intro p e s m args below meth c s₁ B hml hv
  obtain ⟨X, hH, hr, rfl, hnm⟩ := cx_in B hml hv
  have X : Cx p s m _ meth c cX8_open 4 RX8 G := X
  have hx := X.1
  have hb := X.2.1
  have hown := X.2.2.2.1
  have hts := X.2.2.2.2.1
  have hRL : RmL (rmk 1 32 0 0) 1 32 := ⟨Nat.le_refl _, Nat.le_refl _⟩
  have hcs : 0 ≤ (rmk 0 0 0 0).cells ∧ 0 ≤ (rmk 0 0 0 0).slots := ⟨Nat.zero_le _, Nat.zero_le _⟩
  refine ls_in (Nat.le_of_ble_eq_true rfl) (fun ls hl => ?_)
  have hl : lv_has ls 4 [(0, .ref a0), (1, .int p1), (2, .int p2)] := hl
  unfold f_X8_open at h
  obtain ⟨htg, h⟩ := gsn h
  refine lv_aload_n hx hb dX8_open_0 rfl (lv_at hl 0 rfl) ?_
  refine lv_iconst (v := 0) hx hb dX8_open_1 (by decide) ?_
  refine lv_iload_n hx hb dX8_open_2 rfl (lv_at hl 1 rfl) ?_
  refine lv_aload_n hx hb dX8_open_3 rfl (lv_at hl 0 rfl) ?_
  obtain ⟨x1, hx1, h⟩ := bnd h
  refine gf_X8_21 X hH hx1 dX8_open_4 ?_
  obtain ⟨htx2, h⟩ := gsn h
  obtain ⟨x2, hx2, h⟩ := bnd h
  refine w_len X hH hx2 htx2 (k := 1) rfl dX8_open_7 ?_
  refine w_min X hRL (by decide) hl.1 u_100 u_101 u_24 u_102 hcs dX8_open_8 (Nat.le_of_ble_eq_true rfl) ?_
  refine w_max X hRL (by decide) hl.1 u_58 u_59 u_24 u_60 hcs dX8_open_11 (Nat.le_of_ble_eq_true rfl) ?_
  obtain ⟨x3, hx3, h⟩ := bnd h
  refine pf_X8_9 X hH hx3 dX8_open_14 (fun H locs hH => ?_)
  refine lv_iconst (v := 0) hx hb dX8_open_17 (by decide) ?_
  refine lv_istore_n (lv' := [(3, .int (0 : Int32)), (0, .ref a0), (1, .int p1), (2, .int p2)]) hx hb dX8_open_18 rfl hl (by decide) rfl (fun ls hl => ?_)
  obtain ⟨x8, hx8, hhx8⟩ := bnd h
  clear h
  refine w_X8_open_19 l X hRL hcs BIG a0 p2 (0 : Int32) x3 x8 hx8 (fun H locs ls hH hl => ?_) _ _ _ hH (lv_sub hl [1, 3, 0] rfl)
  · have h := hhx8
    clear hhx8
    exact eV X hH h hr dX8_open_40 (Nat.le_of_ble_eq_true rfl) (Nat.le_of_ble_eq_true rfl)
set_option maxHeartbeats 1000000 in
theorem iv_X3_19 {p : Program} {e : Env} {R : Room} {s : State} {m : MethodId} {args : Array Value} {below : List Frame} {meth : Method} {c : Code} {H : Heap} {locs : List Loc} {cells slots : Nat} {Q : State → Prop} {cc : ByteArray} {pc : Nat} {ls : Array Slot} {rest : List Value} {nL : Nat} {G : CG} {μ : Mm} {a : Nat} {q0 : Int32} {x : Mm} {k k2 : Nat} (l : Launch) (X : Cx p s m args meth c cc nL RX3 G) (hH : HS G s μ H locs) (hRL : RmL R k k2) (hk : 1 + 1 ≤ k ∧ 53 ≤ k2) (h : f_X8_init μ a q0 = some x) (hls : ls.size = nL) (hroom : (rest.map fun v => v.category).sum ≤ 8) (hdg : decode cc pc = .ok (.invokespecial 19, 3)) (hcs : cells + 1 ≤ R.cells ∧ slots + 60 ≤ R.slots) (kk : ∀ (H1 : Heap) (locs1 : List Loc), HS G s x H1 locs1 → W p l e R s m args below meth c H1 locs1 (cells + 1) (slots + 60) Q (F0 m (pc + 3) ls rest)) : W p l e R s m args below meth c H locs cells slots Q (F0 m pc ls (.int q0 :: .ref a :: rest)) := by
  refine kV hH (rI (As := [.int q0]) (rest := rest) X hH (c_X8_init l G μ a q0 x h) (List.forall_mem_cons.mpr ⟨u_54, (List.forall_mem_cons.mpr ⟨u_55, (List.forall_mem_cons.mpr ⟨u_23, (fun _ h9 => absurd h9 List.not_mem_nil)⟩)⟩)⟩) u_56 (rmo hRL (Nat.le_trans (by decide) hk.1) (Nat.le_trans (by decide) hk.2)) rfl ddS_X8_init rfl hls rfl hroom hdg hcs) kk
set_option maxHeartbeats 1000000 in
theorem iv_X3_58 {p : Program} {e : Env} {R : Room} {s : State} {m : MethodId} {args : Array Value} {below : List Frame} {meth : Method} {c : Code} {H : Heap} {locs : List Loc} {cells slots : Nat} {Q : State → Prop} {cc : ByteArray} {pc : Nat} {ls : Array Slot} {rest : List Value} {nL : Nat} {G : CG} {μ : Mm} {a : Nat} {q0 : Int32} {x : Mm} {k k2 : Nat} (l : Launch) (X : Cx p s m args meth c cc nL RX3 G) (hH : HS G s μ H locs) (hRL : RmL R k k2) (hk : 1 + 1 ≤ k ∧ 53 ≤ k2) (h : f_X2_init μ a q0 = some x) (hls : ls.size = nL) (hroom : (rest.map fun v => v.category).sum ≤ 8) (hdg : decode cc pc = .ok (.invokespecial 58, 3)) (hcs : cells + 0 ≤ R.cells ∧ slots + 0 ≤ R.slots) (kk : ∀ (H1 : Heap) (locs1 : List Loc), HS G s x H1 locs1 → W p l e R s m args below meth c H1 locs1 cells slots Q (F0 m (pc + 3) ls rest)) : W p l e R s m args below meth c H locs cells slots Q (F0 m pc ls (.int q0 :: .ref a :: rest)) := by
  refine kV0 hH (rI (As := [.int q0]) (rest := rest) X hH (c_X2_init l G μ a q0 x h) (List.forall_mem_cons.mpr ⟨u_76, (List.forall_mem_cons.mpr ⟨u_77, (List.forall_mem_cons.mpr ⟨u_25, (fun _ h9 => absurd h9 List.not_mem_nil)⟩)⟩)⟩) u_78 (rmo hRL (Nat.le_trans (by decide) hk.1) (Nat.le_trans (by decide) hk.2)) rfl ddS_X2_init rfl hls rfl hroom hdg hcs) kk
set_option maxHeartbeats 1000000 in
theorem iv_X3_59 {p : Program} {e : Env} {R : Room} {s : State} {m : MethodId} {args : Array Value} {below : List Frame} {meth : Method} {c : Code} {H : Heap} {locs : List Loc} {cells slots : Nat} {Q : State → Prop} {cc : ByteArray} {pc : Nat} {ls : Array Slot} {rest : List Value} {nL : Nat} {G : CG} {μ : Mm} {a : Nat} {q0 : Int32} {q1 : Int32} {x : Mm} {k k2 : Nat} (l : Launch) (X : Cx p s m args meth c cc nL RX3 G) (hH : HS G s μ H locs) (hRL : RmL R k k2) (hk : 1 + 1 ≤ k ∧ 55 ≤ k2) (h : f_X8_open μ a q0 q1 = some x) (hls : ls.size = nL) (hroom : (rest.map fun v => v.category).sum ≤ 8) (hdg : decode cc pc = .ok (.invokevirtual 59, 3)) (hcs : cells + 0 ≤ R.cells ∧ slots + 0 ≤ R.slots) (kk : ∀ (H1 : Heap) (locs1 : List Loc), HS G s x H1 locs1 → W p l e R s m args below meth c H1 locs1 cells slots Q (F0 m (pc + 3) ls rest)) : W p l e R s m args below meth c H locs cells slots Q (F0 m pc ls (.int q1 :: .int q0 :: .ref a :: rest)) := by
  refine kV0 hH (rV (As := [.int q0, .int q1]) (rest := rest) X hH (t_X8_open h) vc_8 (c_X8_open l G μ a q0 q1 x h) (List.forall_mem_cons.mpr ⟨u_96, (List.forall_mem_cons.mpr ⟨u_97, (List.forall_mem_cons.mpr ⟨u_98, (List.forall_mem_cons.mpr ⟨u_23, (fun _ h9 => absurd h9 List.not_mem_nil)⟩)⟩)⟩)⟩) u_99 (rmo hRL (Nat.le_trans (by decide) hk.1) (Nat.le_trans (by decide) hk.2)) ddV_X8_open rfl hls rfl hroom hdg hcs) kk
set_option maxHeartbeats 4000000 in
set_option maxRecDepth 100000 in
theorem w_X3_init_78 {p : Program} {e : Env} {R : Room} {s : State} {m : MethodId} {args : Array Value} {below : List Frame} {meth : Method} {c : Code} {Q : State → Prop} {G : CG} (l : Launch) (X : Cx p s m args meth c cX3_init 2 RX3 G) (hRL : RmL R 2 55) {C S : Nat} (hCS : C ≤ R.cells ∧ S ≤ R.slots) : ∀ (n : Nat) (v0 : Nat) (v1 : Int32) (μ : Mm) (x : Mm), lp_X3_init_78 n v0 v1 μ = some x → (∀ (H : Heap) (locs : List Loc) (ls : Array Slot), HS G s x H locs → lv_has ls 2 [(0, .ref v0)] → W p l e R s m args below meth c H locs C S Q (F0 m 104 ls [])) → ∀ (cells slots : Nat), cells + n * 1 ≤ C → slots + n * 2 ≤ S → ∀ (H : Heap) (locs : List Loc) (ls : Array Slot), HS G s μ H locs → lv_has ls 2 [(0, .ref v0), (1, .int v1)] → W p l e R s m args below meth c H locs cells slots Q (F0 m 78 ls []) := by
  have hx := X.1
  have hb := X.2.1
  have hown := X.2.2.2.1
  have hts := X.2.2.2.2.1
  intro n
  induction n with
  | zero =>
    intro v0 v1 μ x h
    rw [lp_X3_init_78] at h
    cases h
  | succ n ih =>
    intro v0 v1 μ x h k0 cells slots hc1 hc2 H locs ls hH hl
    rw [lp_X3_init_78] at h
    rw [Nat.succ_mul] at hc1 hc2
    refine lv_iload_n hx hb dX3_init_78 rfl (lv_at hl 1 rfl) ?_
    refine lv_bipush (v := 6) hx hb dX3_init_79 (by decide) ?_
    refine lv_icmp_ge (tgt := 104) hx hb dX3_init_81 (by decide) (fun hc16 => ?_) (fun hc16 => ?_)
    · replace h := ift h hc16
      cases h
      refine W.widen (k := C) (n := S) (by omega) (by omega) ?_
      exact k0 _ _ _ hH (lv_sub hl [0] rfl)
    · replace h := iff' h hc16
      refine lv_aload_n hx hb dX3_init_84 rfl (lv_at hl 0 rfl) ?_
      obtain ⟨x17, hx17, h⟩ := bnd h
      refine gf_X3_11 X hH hx17 dX3_init_85 ?_
      refine lv_iload_n hx hb dX3_init_88 rfl (lv_at hl 1 rfl) ?_
      refine w_new X hH vc_2 inU_X2 tyX2 tyX2_ok u_50 u_75 u_25 (df_2 _) (by omega) (by omega) dX3_init_89 (fun H hH => ?_)
      refine lv_dup hx hb dX3_init_92 rfl ?_
      refine lv_iconst (v := 1) hx hb dX3_init_93 (by decide) ?_
      obtain ⟨x19, hx19, h⟩ := bnd h
      refine iv_X3_58 l X hH hRL (by decide) hx19 hl.1 (Nat.le_of_ble_eq_true rfl) dX3_init_94 ⟨by omega, by omega⟩ (fun H locs hH => ?_)
      obtain ⟨x20, hx20, h⟩ := bnd h
      refine w_qG X hH hx20 dX3_init_97 (fun H locs hH => ?_)
      refine lv_iinc (v := (v1 + 1)) (lv' := [(1, .int (v1 + 1)), (0, .ref v0)]) hx hb dX3_init_98 hl (k := 1) rfl rfl (by decide) rfl (fun ls hl => ?_)
      refine lv_goto (tgt := 78) hx hb dX3_init_101 (by decide) ?_
      exact ih _ _ _ _ h k0 _ _ (by omega) (by omega) _ _ _ hH (lv_sub hl [1, 0] rfl)
theorem t_X3_init {μ : Mm} {a0 : Nat} {x : Mm} (h : f_X3_init μ a0 = some x) : tg μ a0 = 4 := by
  unfold f_X3_init at h
  exact (gsn h).1
set_option maxHeartbeats 4000000 in
set_option maxRecDepth 100000 in
theorem c_X3_init (l : Launch) (G : CG) (μ : Mm) (a0 : Nat) (x : Mm) (h : f_X3_init μ a0 = some x) : Met l yX3_init (.code yX3_init cX3_init 2 none :: UW) (rmk 2 55 10 82) (PC G [.ref a0] μ) (QV G x) 10 82 (fA G) := by
  refine Met.ofW (cc := cX3_init) (maxL := 2) (ret := none) (by decide) rfl ?_
  intro p e s m args below meth c s₁ B hml hv
  obtain ⟨X, hH, hr, rfl, hnm⟩ := cx_in B hml hv
  have X : Cx p s m _ meth c cX3_init 2 RX3 G := X
  have hx := X.1
  have hb := X.2.1
  have hown := X.2.2.2.1
  have hts := X.2.2.2.2.1
  have hnm : meth.name = "<init>" := hnm
  have hRL : RmL (rmk 2 55 10 82) 2 55 := ⟨Nat.le_refl _, Nat.le_refl _⟩
  refine ls_in (Nat.le_of_ble_eq_true rfl) (fun ls hl => ?_)
  have hl : lv_has ls 2 [(0, .ref a0)] := hl
  unfold f_X3_init at h
  obtain ⟨htg, h⟩ := gsn h
  refine lv_aload_n hx hb dX3_init_0 rfl (lv_at hl 0 rfl) ?_
  refine w_oi X hRL (by decide) hl.1 u_49 u_40 u_41 (Nat.le_of_ble_eq_true rfl) dX3_init_1 ?_
  refine lv_aload_n hx hb dX3_init_4 rfl (lv_at hl 0 rfl) ?_
  refine lv_bipush (v := 6) hx hb dX3_init_5 (by decide) ?_
  obtain ⟨x1, hx1, h⟩ := bnd h
  refine w_nr X hH (k := 4) hx1 X.2.2.2.2.2.1.2.2.2.2.1 u_50 (by decide) rfl (by decide) (Nat.le_of_ble_eq_true rfl) (Nat.le_of_ble_eq_true rfl) dX3_init_7 (fun H hH => ?_)
  obtain ⟨x2, hx2, h⟩ := bnd h
  refine pf_X3_11 X hnm hH hx2 dX3_init_10 (fun H locs hH => ?_)
  refine lv_aload_n hx hb dX3_init_13 rfl (lv_at hl 0 rfl) ?_
  refine w_new X hH vc_8 inU_X8 tyX8 tyX8_ok u_52 u_53 u_23 (df_8 _) (Nat.le_of_ble_eq_true rfl) (Nat.le_of_ble_eq_true rfl) dX3_init_14 (fun H hH => ?_)
  refine lv_dup hx hb dX3_init_17 rfl ?_
  refine lv_bipush (v := 60) hx hb dX3_init_18 (by decide) ?_
  obtain ⟨x4, hx4, h⟩ := bnd h
  refine iv_X3_19 l X hH hRL (by decide) hx4 hl.1 (Nat.le_of_ble_eq_true rfl) dX3_init_20 ⟨Nat.le_of_ble_eq_true rfl, Nat.le_of_ble_eq_true rfl⟩ (fun H locs hH => ?_)
  obtain ⟨x5, hx5, h⟩ := bnd h
  refine pf_X3_22 X hnm hH hx5 dX3_init_23 (fun H locs hH => ?_)
  refine lv_aload_n hx hb dX3_init_26 rfl (lv_at hl 0 rfl) ?_
  refine lv_iconst (v := 0) hx hb dX3_init_27 (by decide) ?_
  obtain ⟨x6, hx6, h⟩ := bnd h
  refine pf_X3_26 X hH hx6 dX3_init_28 (fun H locs hH => ?_)
  refine lv_aload_n hx hb dX3_init_31 rfl (lv_at hl 0 rfl) ?_
  refine lv_iconst (v := 0) hx hb dX3_init_32 (by decide) ?_
  obtain ⟨x7, hx7, h⟩ := bnd h
  refine pf_X3_30 X hH hx7 dX3_init_33 (fun H locs hH => ?_)
  refine lv_aload_n hx hb dX3_init_36 rfl (lv_at hl 0 rfl) ?_
  refine lv_iconst (v := 0) hx hb dX3_init_37 (by decide) ?_
  obtain ⟨x8, hx8, h⟩ := bnd h
  refine pf_X3_33 X hH hx8 dX3_init_38 (fun H locs hH => ?_)
  refine lv_aload_n hx hb dX3_init_41 rfl (lv_at hl 0 rfl) ?_
  refine lv_iconst (v := 0) hx hb dX3_init_42 (by decide) ?_
  obtain ⟨x9, hx9, h⟩ := bnd h
  refine pf_X3_36 X hH hx9 dX3_init_43 (fun H locs hH => ?_)
  refine lv_aload_n hx hb dX3_init_46 rfl (lv_at hl 0 rfl) ?_
  refine lv_iconst (v := 0) hx hb dX3_init_47 (by decide) ?_
  obtain ⟨x10, hx10, h⟩ := bnd h
  refine pf_X3_39 X hH hx10 dX3_init_48 (fun H locs hH => ?_)
  refine lv_aload_n hx hb dX3_init_51 rfl (lv_at hl 0 rfl) ?_
  refine lv_iconst (v := 0) hx hb dX3_init_52 (by decide) ?_
  obtain ⟨x11, hx11, h⟩ := bnd h
  refine pf_X3_42 X hH hx11 dX3_init_53 (fun H locs hH => ?_)
  refine lv_aload_n hx hb dX3_init_56 rfl (lv_at hl 0 rfl) ?_
  refine lv_iconst (v := 0) hx hb dX3_init_57 (by decide) ?_
  obtain ⟨x12, hx12, h⟩ := bnd h
  refine pf_X3_45 X hH hx12 dX3_init_58 (fun H locs hH => ?_)
  refine lv_aload_n hx hb dX3_init_61 rfl (lv_at hl 0 rfl) ?_
  refine lv_iconst (v := 0) hx hb dX3_init_62 (by decide) ?_
  obtain ⟨x13, hx13, h⟩ := bnd h
  refine pf_X3_48 X hH hx13 dX3_init_63 (fun H locs hH => ?_)
  refine lv_aload_n hx hb dX3_init_66 rfl (lv_at hl 0 rfl) ?_
  refine lv_iconst (v := 0) hx hb dX3_init_67 (by decide) ?_
  obtain ⟨x14, hx14, h⟩ := bnd h
  refine pf_X3_51 X hH hx14 dX3_init_68 (fun H locs hH => ?_)
  refine lv_aload_n hx hb dX3_init_71 rfl (lv_at hl 0 rfl) ?_
  refine lv_lconst (v := 0) hx hb dX3_init_72 (by decide) ?_
  obtain ⟨x15, hx15, h⟩ := bnd h
  refine pf_X3_54 X hH hx15 dX3_init_73 (fun H locs hH => ?_)
  refine lv_iconst (v := 0) hx hb dX3_init_76 (by decide) ?_
  refine lv_istore_n (lv' := [(1, .int (0 : Int32)), (0, .ref a0)]) hx hb dX3_init_77 rfl hl (by decide) rfl (fun ls hl => ?_)
  obtain ⟨x21, hx21, hhx21⟩ := bnd h
  clear h
  refine w_X3_init_78 l X hRL (C := 10) (S := 82) ⟨Nat.le_of_ble_eq_true rfl, Nat.le_of_ble_eq_true rfl⟩ 7 a0 (0 : Int32) x15 x21 hx21 (fun H locs ls hH hl => ?_) 3 68 (by decide) (by decide) _ _ _ hH (lv_sub hl [1, 0] rfl)
  · have h := hhx21
    clear hhx21
    refine lv_aload_n hx hb dX3_init_104 rfl (lv_at hl 0 rfl) ?_
    obtain ⟨x22, hx22, h⟩ := bnd h
    refine gf_X3_22 X hH hx22 dX3_init_105 ?_
    refine lv_iconst (v := 0) hx hb dX3_init_108 (by decide) ?_
    refine lv_iconst (v := 0) hx hb dX3_init_109 (by decide) ?_
    obtain ⟨x23, hx23, h⟩ := bnd h
    refine iv_X3_59 l X hH hRL (by decide) hx23 hl.1 (Nat.le_of_ble_eq_true rfl) dX3_init_110 ⟨Nat.le_of_ble_eq_true rfl, Nat.le_of_ble_eq_true rfl⟩ (fun H locs hH => ?_)
    exact eV X hH h hr dX3_init_113 (Nat.le_of_ble_eq_true rfl) (Nat.le_of_ble_eq_true rfl)
set_option maxHeartbeats 1000000 in
theorem iv_X4_3 {p : Program} {e : Env} {R : Room} {s : State} {m : MethodId} {args : Array Value} {below : List Frame} {meth : Method} {c : Code} {H : Heap} {locs : List Loc} {cells slots : Nat} {Q : State → Prop} {cc : ByteArray} {pc : Nat} {ls : Array Slot} {rest : List Value} {nL : Nat} {G : CG} {μ : Mm} {a : Nat} {q0 : Int32} {x : Mm} {k k2 : Nat} (l : Launch) (X : Cx p s m args meth c cc nL RX4 G) (hH : HS G s μ H locs) (hRL : RmL R k k2) (hk : 1 + 1 ≤ k ∧ 53 ≤ k2) (h : f_X2_init μ a q0 = some x) (hls : ls.size = nL) (hroom : (rest.map fun v => v.category).sum ≤ 8) (hdg : decode cc pc = .ok (.invokespecial 3, 3)) (hcs : cells + 0 ≤ R.cells ∧ slots + 0 ≤ R.slots) (kk : ∀ (H1 : Heap) (locs1 : List Loc), HS G s x H1 locs1 → W p l e R s m args below meth c H1 locs1 cells slots Q (F0 m (pc + 3) ls rest)) : W p l e R s m args below meth c H locs cells slots Q (F0 m pc ls (.int q0 :: .ref a :: rest)) := by
  refine kV0 hH (rI (As := [.int q0]) (rest := rest) X hH (c_X2_init l G μ a q0 x h) (List.forall_mem_cons.mpr ⟨u_556, (List.forall_mem_cons.mpr ⟨u_77, (List.forall_mem_cons.mpr ⟨u_25, (fun _ h9 => absurd h9 List.not_mem_nil)⟩)⟩)⟩) u_78 (rmo hRL (Nat.le_trans (by decide) hk.1) (Nat.le_trans (by decide) hk.2)) rfl ddS_X2_init rfl hls rfl hroom hdg hcs) kk
theorem t_X4_init {μ : Mm} {a0 : Nat} {p1 : Int32} {x : Mm} (h : f_X4_init μ a0 p1 = some x) : (tg μ a0 = 5 ∨ tg μ a0 = 7) := by
  unfold f_X4_init at h
  exact (gsn h).1
set_option maxHeartbeats 4000000 in
set_option maxRecDepth 100000 in
theorem c_X4_init (l : Launch) (G : CG) (μ : Mm) (a0 : Nat) (p1 : Int32) (x : Mm) (h : f_X4_init μ a0 p1 = some x) : Met l yX4_init (.code yX4_init cX4_init 2 none :: UW) (rmk 2 53 0 0) (PC G [.ref a0, .int p1] μ) (QV G x) 0 0 (fA G) := by
  refine Met.ofW (cc := cX4_init) (maxL := 2) (ret := none) (by decide) rfl ?_
  intro p e s m args below meth c s₁ B hml hv
  obtain ⟨X, hH, hr, rfl, hnm⟩ := cx_in B hml hv
  have X : Cx p s m _ meth c cX4_init 2 RX4 G := X
  have hx := X.1
  have hb := X.2.1
  have hown := X.2.2.2.1
  have hts := X.2.2.2.2.1
  have hnm : meth.name = "<init>" := hnm
  have hRL : RmL (rmk 2 53 0 0) 2 53 := ⟨Nat.le_refl _, Nat.le_refl _⟩
  have hcs : 0 ≤ (rmk 0 0 0 0).cells ∧ 0 ≤ (rmk 0 0 0 0).slots := ⟨Nat.zero_le _, Nat.zero_le _⟩
  refine ls_in (Nat.le_of_ble_eq_true rfl) (fun ls hl => ?_)
  have hl : lv_has ls 2 [(0, .ref a0), (1, .int p1)] := hl
  unfold f_X4_init at h
  obtain ⟨htg, h⟩ := gsn h
  refine lv_aload_n hx hb dX4_init_0 rfl (lv_at hl 0 rfl) ?_
  refine lv_iload_n hx hb dX4_init_1 rfl (lv_at hl 1 rfl) ?_
  obtain ⟨x1, hx1, h⟩ := bnd h
  refine iv_X4_3 l X hH hRL (by decide) hx1 hl.1 (Nat.le_of_ble_eq_true rfl) dX4_init_2 hcs (fun H locs hH => ?_)
  exact eV X hH h hr dX4_init_5 (Nat.le_of_ble_eq_true rfl) (Nat.le_of_ble_eq_true rfl)
set_option maxHeartbeats 1000000 in
theorem iv_X6_3 {p : Program} {e : Env} {R : Room} {s : State} {m : MethodId} {args : Array Value} {below : List Frame} {meth : Method} {c : Code} {H : Heap} {locs : List Loc} {cells slots : Nat} {Q : State → Prop} {cc : ByteArray} {pc : Nat} {ls : Array Slot} {rest : List Value} {nL : Nat} {G : CG} {μ : Mm} {a : Nat} {q0 : Int32} {x : Mm} {k k2 : Nat} (l : Launch) (X : Cx p s m args meth c cc nL RX6 G) (hH : HS G s μ H locs) (hRL : RmL R k k2) (hk : 2 + 1 ≤ k ∧ 74 ≤ k2) (h : f_X4_init μ a q0 = some x) (hls : ls.size = nL) (hroom : (rest.map fun v => v.category).sum ≤ 8) (hdg : decode cc pc = .ok (.invokespecial 3, 3)) (hcs : cells + 0 ≤ R.cells ∧ slots + 0 ≤ R.slots) (kk : ∀ (H1 : Heap) (locs1 : List Loc), HS G s x H1 locs1 → W p l e R s m args below meth c H1 locs1 cells slots Q (F0 m (pc + 3) ls rest)) : W p l e R s m args below meth c H locs cells slots Q (F0 m pc ls (.int q0 :: .ref a :: rest)) := by
  refine kV0 hH (rI (As := [.int q0]) (rest := rest) X hH (c_X4_init l G μ a q0 x h) (List.forall_mem_cons.mpr ⟨u_583, (List.forall_mem_cons.mpr ⟨u_554, (List.forall_mem_cons.mpr ⟨u_29, (fun _ h9 => absurd h9 List.not_mem_nil)⟩)⟩)⟩) u_555 (rmo hRL (Nat.le_trans (by decide) hk.1) (Nat.le_trans (by decide) hk.2)) rfl ddS_X4_init rfl hls rfl hroom hdg hcs) kk
theorem t_X6_init {μ : Mm} {a0 : Nat} {p1 : Int32} {x : Mm} (h : f_X6_init μ a0 p1 = some x) : tg μ a0 = 7 := by
  unfold f_X6_init at h
  exact (gsn h).1
set_option maxHeartbeats 4000000 in
set_option maxRecDepth 100000 in
theorem c_X6_init (l : Launch) (G : CG) (μ : Mm) (a0 : Nat) (p1 : Int32) (x : Mm) (h : f_X6_init μ a0 p1 = some x) : Met l yX6_init (.code yX6_init cX6_init 2 none :: UW) (rmk 3 74 0 0) (PC G [.ref a0, .int p1] μ) (QV G x) 0 0 (fA G) := by
  refine Met.ofW (cc := cX6_init) (maxL := 2) (ret := none) (by decide) rfl ?_
  intro p e s m args below meth c s₁ B hml hv
  obtain ⟨X, hH, hr, rfl, hnm⟩ := cx_in B hml hv
  have X : Cx p s m _ meth c cX6_init 2 RX6 G := X
  have hx := X.1
  have hb := X.2.1
  have hown := X.2.2.2.1
  have hts := X.2.2.2.2.1
  have hnm : meth.name = "<init>" := hnm
  have hRL : RmL (rmk 3 74 0 0) 3 74 := ⟨Nat.le_refl _, Nat.le_refl _⟩
  have hcs : 0 ≤ (rmk 0 0 0 0).cells ∧ 0 ≤ (rmk 0 0 0 0).slots := ⟨Nat.zero_le _, Nat.zero_le _⟩
  refine ls_in (Nat.le_of_ble_eq_true rfl) (fun ls hl => ?_)
  have hl : lv_has ls 2 [(0, .ref a0), (1, .int p1)] := hl
  unfold f_X6_init at h
  obtain ⟨htg, h⟩ := gsn h
  refine lv_aload_n hx hb dX6_init_0 rfl (lv_at hl 0 rfl) ?_
  refine lv_iload_n hx hb dX6_init_1 rfl (lv_at hl 1 rfl) ?_
  obtain ⟨x1, hx1, h⟩ := bnd h
  refine iv_X6_3 l X hH hRL (by decide) hx1 hl.1 (Nat.le_of_ble_eq_true rfl) dX6_init_2 hcs (fun H locs hH => ?_)
  exact eV X hH h hr dX6_init_5 (Nat.le_of_ble_eq_true rfl) (Nat.le_of_ble_eq_true rfl)
set_option maxHeartbeats 1000000 in
theorem iv_X9_3 {p : Program} {e : Env} {R : Room} {s : State} {m : MethodId} {args : Array Value} {below : List Frame} {meth : Method} {c : Code} {H : Heap} {locs : List Loc} {cells slots : Nat} {Q : State → Prop} {cc : ByteArray} {pc : Nat} {ls : Array Slot} {rest : List Value} {nL : Nat} {G : CG} {μ : Mm} {a : Nat} {q0 : Int32} {x : Mm} {k k2 : Nat} (l : Launch) (X : Cx p s m args meth c cc nL RX9 G) (hH : HS G s μ H locs) (hRL : RmL R k k2) (hk : 2 + 1 ≤ k ∧ 74 ≤ k2) (h : f_X1_init μ a q0 = some x) (hls : ls.size = nL) (hroom : (rest.map fun v => v.category).sum ≤ 8) (hdg : decode cc pc = .ok (.invokespecial 3, 3)) (hcs : cells + 0 ≤ R.cells ∧ slots + 0 ≤ R.slots) (kk : ∀ (H1 : Heap) (locs1 : List Loc), HS G s x H1 locs1 → W p l e R s m args below meth c H1 locs1 cells slots Q (F0 m (pc + 3) ls rest)) : W p l e R s m args below meth c H locs cells slots Q (F0 m pc ls (.int q0 :: .ref a :: rest)) := by
  refine kV0 hH (rI (As := [.int q0]) (rest := rest) X hH (c_X1_init l G μ a q0 x h) (List.forall_mem_cons.mpr ⟨u_591, (List.forall_mem_cons.mpr ⟨u_563, (List.forall_mem_cons.mpr ⟨u_30, (fun _ h9 => absurd h9 List.not_mem_nil)⟩)⟩)⟩) u_564 (rmo hRL (Nat.le_trans (by decide) hk.1) (Nat.le_trans (by decide) hk.2)) rfl ddS_X1_init rfl hls rfl hroom hdg hcs) kk
theorem t_X9_init {μ : Mm} {a0 : Nat} {p1 : Int32} {x : Mm} (h : f_X9_init μ a0 p1 = some x) : tg μ a0 = 10 := by
  unfold f_X9_init at h
  exact (gsn h).1
set_option maxHeartbeats 4000000 in
set_option maxRecDepth 100000 in
theorem c_X9_init (l : Launch) (G : CG) (μ : Mm) (a0 : Nat) (p1 : Int32) (x : Mm) (h : f_X9_init μ a0 p1 = some x) : Met l yX9_init (.code yX9_init cX9_init 2 none :: UW) (rmk 3 74 0 0) (PC G [.ref a0, .int p1] μ) (QV G x) 0 0 (fA G) := by
  refine Met.ofW (cc := cX9_init) (maxL := 2) (ret := none) (by decide) rfl ?_
  intro p e s m args below meth c s₁ B hml hv
  obtain ⟨X, hH, hr, rfl, hnm⟩ := cx_in B hml hv
  have X : Cx p s m _ meth c cX9_init 2 RX9 G := X
  have hx := X.1
  have hb := X.2.1
  have hown := X.2.2.2.1
  have hts := X.2.2.2.2.1
  have hnm : meth.name = "<init>" := hnm
  have hRL : RmL (rmk 3 74 0 0) 3 74 := ⟨Nat.le_refl _, Nat.le_refl _⟩
  have hcs : 0 ≤ (rmk 0 0 0 0).cells ∧ 0 ≤ (rmk 0 0 0 0).slots := ⟨Nat.zero_le _, Nat.zero_le _⟩
  refine ls_in (Nat.le_of_ble_eq_true rfl) (fun ls hl => ?_)
  have hl : lv_has ls 2 [(0, .ref a0), (1, .int p1)] := hl
  unfold f_X9_init at h
  obtain ⟨htg, h⟩ := gsn h
  refine lv_aload_n hx hb dX9_init_0 rfl (lv_at hl 0 rfl) ?_
  refine lv_iload_n hx hb dX9_init_1 rfl (lv_at hl 1 rfl) ?_
  obtain ⟨x1, hx1, h⟩ := bnd h
  refine iv_X9_3 l X hH hRL (by decide) hx1 hl.1 (Nat.le_of_ble_eq_true rfl) dX9_init_2 hcs (fun H locs hH => ?_)
  exact eV X hH h hr dX9_init_5 (Nat.le_of_ble_eq_true rfl) (Nat.le_of_ble_eq_true rfl)
set_option maxHeartbeats 1000000 in
theorem iv_X3_82 {p : Program} {e : Env} {R : Room} {s : State} {m : MethodId} {args : Array Value} {below : List Frame} {meth : Method} {c : Code} {H : Heap} {locs : List Loc} {cells slots : Nat} {Q : State → Prop} {cc : ByteArray} {pc : Nat} {ls : Array Slot} {rest : List Value} {nL : Nat} {G : CG} {μ : Mm} {a : Nat} {q0 : Int32} {x : Mm} {k k2 : Nat} (l : Launch) (X : Cx p s m args meth c cc nL RX3 G) (hH : HS G s μ H locs) (hRL : RmL R k k2) (hk : 2 + 1 ≤ k ∧ 74 ≤ k2) (h : f_X4_init μ a q0 = some x) (hls : ls.size = nL) (hroom : (rest.map fun v => v.category).sum ≤ 8) (hdg : decode cc pc = .ok (.invokespecial 82, 3)) (hcs : cells + 0 ≤ R.cells ∧ slots + 0 ≤ R.slots) (kk : ∀ (H1 : Heap) (locs1 : List Loc), HS G s x H1 locs1 → W p l e R s m args below meth c H1 locs1 cells slots Q (F0 m (pc + 3) ls rest)) : W p l e R s m args below meth c H locs cells slots Q (F0 m pc ls (.int q0 :: .ref a :: rest)) := by
  refine kV0 hH (rI (As := [.int q0]) (rest := rest) X hH (c_X4_init l G μ a q0 x h) (List.forall_mem_cons.mpr ⟨u_553, (List.forall_mem_cons.mpr ⟨u_554, (List.forall_mem_cons.mpr ⟨u_29, (fun _ h9 => absurd h9 List.not_mem_nil)⟩)⟩)⟩) u_555 (rmo hRL (Nat.le_trans (by decide) hk.1) (Nat.le_trans (by decide) hk.2)) rfl ddS_X4_init rfl hls rfl hroom hdg hcs) kk
set_option maxHeartbeats 1000000 in
theorem iv_X3_85 {p : Program} {e : Env} {R : Room} {s : State} {m : MethodId} {args : Array Value} {below : List Frame} {meth : Method} {c : Code} {H : Heap} {locs : List Loc} {cells slots : Nat} {Q : State → Prop} {cc : ByteArray} {pc : Nat} {ls : Array Slot} {rest : List Value} {nL : Nat} {G : CG} {μ : Mm} {a : Nat} {q0 : Int32} {x : Mm} {k k2 : Nat} (l : Launch) (X : Cx p s m args meth c cc nL RX3 G) (hH : HS G s μ H locs) (hRL : RmL R k k2) (hk : 2 + 1 ≤ k ∧ 74 ≤ k2) (h : f_X1_init μ a q0 = some x) (hls : ls.size = nL) (hroom : (rest.map fun v => v.category).sum ≤ 8) (hdg : decode cc pc = .ok (.invokespecial 85, 3)) (hcs : cells + 0 ≤ R.cells ∧ slots + 0 ≤ R.slots) (kk : ∀ (H1 : Heap) (locs1 : List Loc), HS G s x H1 locs1 → W p l e R s m args below meth c H1 locs1 cells slots Q (F0 m (pc + 3) ls rest)) : W p l e R s m args below meth c H locs cells slots Q (F0 m pc ls (.int q0 :: .ref a :: rest)) := by
  refine kV0 hH (rI (As := [.int q0]) (rest := rest) X hH (c_X1_init l G μ a q0 x h) (List.forall_mem_cons.mpr ⟨u_562, (List.forall_mem_cons.mpr ⟨u_563, (List.forall_mem_cons.mpr ⟨u_30, (fun _ h9 => absurd h9 List.not_mem_nil)⟩)⟩)⟩) u_564 (rmo hRL (Nat.le_trans (by decide) hk.1) (Nat.le_trans (by decide) hk.2)) rfl ddS_X1_init rfl hls rfl hroom hdg hcs) kk
set_option maxHeartbeats 1000000 in
theorem iv_X3_88 {p : Program} {e : Env} {R : Room} {s : State} {m : MethodId} {args : Array Value} {below : List Frame} {meth : Method} {c : Code} {H : Heap} {locs : List Loc} {cells slots : Nat} {Q : State → Prop} {cc : ByteArray} {pc : Nat} {ls : Array Slot} {rest : List Value} {nL : Nat} {G : CG} {μ : Mm} {a : Nat} {q0 : Int32} {x : Mm} {k k2 : Nat} (l : Launch) (X : Cx p s m args meth c cc nL RX3 G) (hH : HS G s μ H locs) (hRL : RmL R k k2) (hk : 2 + 1 ≤ k ∧ 74 ≤ k2) (h : f_X0_init μ a q0 = some x) (hls : ls.size = nL) (hroom : (rest.map fun v => v.category).sum ≤ 8) (hdg : decode cc pc = .ok (.invokespecial 88, 3)) (hcs : cells + 0 ≤ R.cells ∧ slots + 0 ≤ R.slots) (kk : ∀ (H1 : Heap) (locs1 : List Loc), HS G s x H1 locs1 → W p l e R s m args below meth c H1 locs1 cells slots Q (F0 m (pc + 3) ls rest)) : W p l e R s m args below meth c H locs cells slots Q (F0 m pc ls (.int q0 :: .ref a :: rest)) := by
  refine kV0 hH (rI (As := [.int q0]) (rest := rest) X hH (c_X0_init l G μ a q0 x h) (List.forall_mem_cons.mpr ⟨u_571, (List.forall_mem_cons.mpr ⟨u_572, (List.forall_mem_cons.mpr ⟨u_31, (fun _ h9 => absurd h9 List.not_mem_nil)⟩)⟩)⟩) u_573 (rmo hRL (Nat.le_trans (by decide) hk.1) (Nat.le_trans (by decide) hk.2)) rfl ddS_X0_init rfl hls rfl hroom hdg hcs) kk
set_option maxHeartbeats 1000000 in
theorem iv_X3_91 {p : Program} {e : Env} {R : Room} {s : State} {m : MethodId} {args : Array Value} {below : List Frame} {meth : Method} {c : Code} {H : Heap} {locs : List Loc} {cells slots : Nat} {Q : State → Prop} {cc : ByteArray} {pc : Nat} {ls : Array Slot} {rest : List Value} {nL : Nat} {G : CG} {μ : Mm} {a : Nat} {q0 : Int32} {x : Mm} {k k2 : Nat} (l : Launch) (X : Cx p s m args meth c cc nL RX3 G) (hH : HS G s μ H locs) (hRL : RmL R k k2) (hk : 3 + 1 ≤ k ∧ 95 ≤ k2) (h : f_X6_init μ a q0 = some x) (hls : ls.size = nL) (hroom : (rest.map fun v => v.category).sum ≤ 8) (hdg : decode cc pc = .ok (.invokespecial 91, 3)) (hcs : cells + 0 ≤ R.cells ∧ slots + 0 ≤ R.slots) (kk : ∀ (H1 : Heap) (locs1 : List Loc), HS G s x H1 locs1 → W p l e R s m args below meth c H1 locs1 cells slots Q (F0 m (pc + 3) ls rest)) : W p l e R s m args below meth c H locs cells slots Q (F0 m pc ls (.int q0 :: .ref a :: rest)) := by
  refine kV0 hH (rI (As := [.int q0]) (rest := rest) X hH (c_X6_init l G μ a q0 x h) (List.forall_mem_cons.mpr ⟨u_580, (List.forall_mem_cons.mpr ⟨u_581, (List.forall_mem_cons.mpr ⟨u_32, (fun _ h9 => absurd h9 List.not_mem_nil)⟩)⟩)⟩) u_582 (rmo hRL (Nat.le_trans (by decide) hk.1) (Nat.le_trans (by decide) hk.2)) rfl ddS_X6_init rfl hls rfl hroom hdg hcs) kk
set_option maxHeartbeats 1000000 in
theorem iv_X3_94 {p : Program} {e : Env} {R : Room} {s : State} {m : MethodId} {args : Array Value} {below : List Frame} {meth : Method} {c : Code} {H : Heap} {locs : List Loc} {cells slots : Nat} {Q : State → Prop} {cc : ByteArray} {pc : Nat} {ls : Array Slot} {rest : List Value} {nL : Nat} {G : CG} {μ : Mm} {a : Nat} {q0 : Int32} {x : Mm} {k k2 : Nat} (l : Launch) (X : Cx p s m args meth c cc nL RX3 G) (hH : HS G s μ H locs) (hRL : RmL R k k2) (hk : 3 + 1 ≤ k ∧ 95 ≤ k2) (h : f_X9_init μ a q0 = some x) (hls : ls.size = nL) (hroom : (rest.map fun v => v.category).sum ≤ 8) (hdg : decode cc pc = .ok (.invokespecial 94, 3)) (hcs : cells + 0 ≤ R.cells ∧ slots + 0 ≤ R.slots) (kk : ∀ (H1 : Heap) (locs1 : List Loc), HS G s x H1 locs1 → W p l e R s m args below meth c H1 locs1 cells slots Q (F0 m (pc + 3) ls rest)) : W p l e R s m args below meth c H locs cells slots Q (F0 m pc ls (.int q0 :: .ref a :: rest)) := by
  refine kV0 hH (rI (As := [.int q0]) (rest := rest) X hH (c_X9_init l G μ a q0 x h) (List.forall_mem_cons.mpr ⟨u_588, (List.forall_mem_cons.mpr ⟨u_589, (List.forall_mem_cons.mpr ⟨u_33, (fun _ h9 => absurd h9 List.not_mem_nil)⟩)⟩)⟩) u_590 (rmo hRL (Nat.le_trans (by decide) hk.1) (Nat.le_trans (by decide) hk.2)) rfl ddS_X9_init rfl hls rfl hroom hdg hcs) kk
set_option maxHeartbeats 4000000 in
set_option maxRecDepth 100000 in
theorem c_X3_newGuild (l : Launch) (G : CG) (μ : Mm) (p0 : Int32) (p1 : Int32) (x : Nat × Mm) (h : f_X3_newGuild μ p0 p1 = some x) : Met l yX3_newGuild (.code yX3_newGuild cX3_newGuild 2 (some (.object "ClockFeet$Guild")) :: UW) (rmk 4 95 6 12) (PC G [.int p0, .int p1] μ) (QR G x.1 x.2) 6 12 (fA G) := by
  refine Met.ofW (cc := cX3_newGuild) (maxL := 2) (ret := (some (.object "ClockFeet$Guild"))) (by decide) rfl ?_
  intro p e s m args below meth c s₁ B hml hv
  obtain ⟨X, hH, hr, rfl, hnm⟩ := cx_in B hml hv
  have X : Cx p s m _ meth c cX3_newGuild 2 RX3 G := X
  have hx := X.1
  have hb := X.2.1
  have hown := X.2.2.2.1
  have hts := X.2.2.2.2.1
  have hRL : RmL (rmk 4 95 6 12) 4 95 := ⟨Nat.le_refl _, Nat.le_refl _⟩
  refine ls_in (Nat.le_of_ble_eq_true rfl) (fun ls hl => ?_)
  have hl : lv_has ls 2 [(0, .int p0), (1, .int p1)] := hl
  unfold f_X3_newGuild at h
  refine lv_iload_n hx hb dX3_newGuild_0 rfl (lv_at hl 0 rfl) ?_
  by_cases hc1 : p0 = (1 : Int32)
  · replace h := ift h hc1
    refine lv_tableIn (tgt := 36) (off := 35) hx hb dX3_newGuild_1 (by rw [hc1]; decide) (by rw [hc1]; decide) (by rw [hc1]; rfl) (by decide) ?_
    refine w_new X hH vc_4 inU_X4 tyX4 tyX4_ok u_414 u_552 u_29 (df_4 _) (Nat.le_of_ble_eq_true rfl) (Nat.le_of_ble_eq_true rfl) dX3_newGuild_36 (fun H hH => ?_)
    refine lv_dup hx hb dX3_newGuild_39 rfl ?_
    refine lv_iload_n hx hb dX3_newGuild_40 rfl (lv_at hl 1 rfl) ?_
    obtain ⟨x3, hx3, h⟩ := bnd h
    refine iv_X3_82 l X hH hRL (by decide) hx3 hl.1 (Nat.le_of_ble_eq_true rfl) dX3_newGuild_41 ⟨Nat.le_of_ble_eq_true rfl, Nat.le_of_ble_eq_true rfl⟩ (fun H locs hH => ?_)
    exact eR X hH h hr (Or.inl ⟨_, rfl⟩) dX3_newGuild_44 (Nat.le_of_ble_eq_true rfl) (Nat.le_of_ble_eq_true rfl)
  · replace h := iff' h hc1
    by_cases hc4 : p0 = (2 : Int32)
    · replace h := ift h hc4
      refine lv_tableIn (tgt := 45) (off := 44) hx hb dX3_newGuild_1 (by rw [hc4]; decide) (by rw [hc4]; decide) (by rw [hc4]; rfl) (by decide) ?_
      refine w_new X hH vc_1 inU_X1 tyX1 tyX1_ok u_560 u_561 u_30 (df_1 _) (Nat.le_of_ble_eq_true rfl) (Nat.le_of_ble_eq_true rfl) dX3_newGuild_45 (fun H hH => ?_)
      refine lv_dup hx hb dX3_newGuild_48 rfl ?_
      refine lv_iload_n hx hb dX3_newGuild_49 rfl (lv_at hl 1 rfl) ?_
      obtain ⟨x6, hx6, h⟩ := bnd h
      refine iv_X3_85 l X hH hRL (by decide) hx6 hl.1 (Nat.le_of_ble_eq_true rfl) dX3_newGuild_50 ⟨Nat.le_of_ble_eq_true rfl, Nat.le_of_ble_eq_true rfl⟩ (fun H locs hH => ?_)
      exact eR X hH h hr (Or.inl ⟨_, rfl⟩) dX3_newGuild_53 (Nat.le_of_ble_eq_true rfl) (Nat.le_of_ble_eq_true rfl)
    · replace h := iff' h hc4
      by_cases hc7 : p0 = (3 : Int32)
      · replace h := ift h hc7
        refine lv_tableIn (tgt := 54) (off := 53) hx hb dX3_newGuild_1 (by rw [hc7]; decide) (by rw [hc7]; decide) (by rw [hc7]; rfl) (by decide) ?_
        refine w_new X hH vc_0 inU_X0 tyX0 tyX0_ok u_569 u_570 u_31 (df_0 _) (Nat.le_of_ble_eq_true rfl) (Nat.le_of_ble_eq_true rfl) dX3_newGuild_54 (fun H hH => ?_)
        refine lv_dup hx hb dX3_newGuild_57 rfl ?_
        refine lv_iload_n hx hb dX3_newGuild_58 rfl (lv_at hl 1 rfl) ?_
        obtain ⟨x9, hx9, h⟩ := bnd h
        refine iv_X3_88 l X hH hRL (by decide) hx9 hl.1 (Nat.le_of_ble_eq_true rfl) dX3_newGuild_59 ⟨Nat.le_of_ble_eq_true rfl, Nat.le_of_ble_eq_true rfl⟩ (fun H locs hH => ?_)
        exact eR X hH h hr (Or.inl ⟨_, rfl⟩) dX3_newGuild_62 (Nat.le_of_ble_eq_true rfl) (Nat.le_of_ble_eq_true rfl)
      · replace h := iff' h hc7
        by_cases hc10 : p0 = (4 : Int32)
        · replace h := ift h hc10
          refine lv_tableIn (tgt := 63) (off := 62) hx hb dX3_newGuild_1 (by rw [hc10]; decide) (by rw [hc10]; decide) (by rw [hc10]; rfl) (by decide) ?_
          refine w_new X hH vc_6 inU_X6 tyX6 tyX6_ok u_578 u_579 u_32 (df_6 _) (Nat.le_of_ble_eq_true rfl) (Nat.le_of_ble_eq_true rfl) dX3_newGuild_63 (fun H hH => ?_)
          refine lv_dup hx hb dX3_newGuild_66 rfl ?_
          refine lv_iload_n hx hb dX3_newGuild_67 rfl (lv_at hl 1 rfl) ?_
          obtain ⟨x12, hx12, h⟩ := bnd h
          refine iv_X3_91 l X hH hRL (by decide) hx12 hl.1 (Nat.le_of_ble_eq_true rfl) dX3_newGuild_68 ⟨Nat.le_of_ble_eq_true rfl, Nat.le_of_ble_eq_true rfl⟩ (fun H locs hH => ?_)
          exact eR X hH h hr (Or.inl ⟨_, rfl⟩) dX3_newGuild_71 (Nat.le_of_ble_eq_true rfl) (Nat.le_of_ble_eq_true rfl)
        · replace h := iff' h hc10
          by_cases hc13 : p0 = (5 : Int32)
          · replace h := ift h hc13
            refine lv_tableIn (tgt := 72) (off := 71) hx hb dX3_newGuild_1 (by rw [hc13]; decide) (by rw [hc13]; decide) (by rw [hc13]; rfl) (by decide) ?_
            refine w_new X hH vc_9 inU_X9 tyX9 tyX9_ok u_586 u_587 u_33 (df_9 _) (Nat.le_of_ble_eq_true rfl) (Nat.le_of_ble_eq_true rfl) dX3_newGuild_72 (fun H hH => ?_)
            refine lv_dup hx hb dX3_newGuild_75 rfl ?_
            refine lv_iload_n hx hb dX3_newGuild_76 rfl (lv_at hl 1 rfl) ?_
            obtain ⟨x15, hx15, h⟩ := bnd h
            refine iv_X3_94 l X hH hRL (by decide) hx15 hl.1 (Nat.le_of_ble_eq_true rfl) dX3_newGuild_77 ⟨Nat.le_of_ble_eq_true rfl, Nat.le_of_ble_eq_true rfl⟩ (fun H locs hH => ?_)
            exact eR X hH h hr (Or.inl ⟨_, rfl⟩) dX3_newGuild_80 (Nat.le_of_ble_eq_true rfl) (Nat.le_of_ble_eq_true rfl)
          · replace h := iff' h hc13
            have e1 : p0.toInt ≠ 1 := lv_neT hc1 (by decide)
            have e2 : p0.toInt ≠ 2 := lv_neT hc4 (by decide)
            have e3 : p0.toInt ≠ 3 := lv_neT hc7 (by decide)
            have e4 : p0.toInt ≠ 4 := lv_neT hc10 (by decide)
            have e5 : p0.toInt ≠ 5 := lv_neT hc13 (by decide)
            refine lv_tableOut (tgt := 81) hx hb dX3_newGuild_1 (by omega) (by decide) ?_
            refine w_new X hH vc_2 inU_X2 tyX2 tyX2_ok u_50 u_75 u_25 (df_2 _) (Nat.le_of_ble_eq_true rfl) (Nat.le_of_ble_eq_true rfl) dX3_newGuild_81 (fun H hH => ?_)
            refine lv_dup hx hb dX3_newGuild_84 rfl ?_
            refine lv_iload_n hx hb dX3_newGuild_85 rfl (lv_at hl 1 rfl) ?_
            obtain ⟨x17, hx17, h⟩ := bnd h
            refine iv_X3_58 l X hH hRL (by decide) hx17 hl.1 (Nat.le_of_ble_eq_true rfl) dX3_newGuild_86 ⟨Nat.le_of_ble_eq_true rfl, Nat.le_of_ble_eq_true rfl⟩ (fun H locs hH => ?_)
            exact eR X hH h hr (Or.inl ⟨_, rfl⟩) dX3_newGuild_89 (Nat.le_of_ble_eq_true rfl) (Nat.le_of_ble_eq_true rfl)
set_option maxHeartbeats 1000000 in
theorem iv_X3_76 {p : Program} {e : Env} {R : Room} {s : State} {m : MethodId} {args : Array Value} {below : List Frame} {meth : Method} {c : Code} {H : Heap} {locs : List Loc} {cells slots : Nat} {Q : State → Prop} {cc : ByteArray} {pc : Nat} {ls : Array Slot} {rest : List Value} {nL : Nat} {G : CG} {μ : Mm} {q0 : Int32} {q1 : Int32} {x : Nat × Mm} {k k2 : Nat} (l : Launch) (X : Cx p s m args meth c cc nL RX3 G) (hH : HS G s μ H locs) (hRL : RmL R k k2) (hk : 4 + 1 ≤ k ∧ 116 ≤ k2) (h : f_X3_newGuild μ q0 q1 = some x) (hls : ls.size = nL) (hroom : (rest.map fun v => v.category).sum ≤ 8) (hdg : decode cc pc = .ok (.invokestatic 76, 3)) (hcs : cells + 6 ≤ R.cells ∧ slots + 12 ≤ R.slots) (kk : ∀ (H1 : Heap) (locs1 : List Loc), HS G s x.2 H1 locs1 → W p l e R s m args below meth c H1 locs1 (cells + 6) (slots + 12) Q (F0 m (pc + 3) ls (.ref x.1 :: rest))) : W p l e R s m args below meth c H locs cells slots Q (F0 m pc ls (.int q1 :: .int q0 :: rest)) := by
  refine kR hH (rS (As := [.int q0, .int q1]) (rest := rest) X hH (c_X3_newGuild l G μ q0 q1 x h) (List.forall_mem_cons.mpr ⟨u_549, (List.forall_mem_cons.mpr ⟨u_550, (List.forall_mem_cons.mpr ⟨u_22, (fun _ h9 => absurd h9 List.not_mem_nil)⟩)⟩)⟩) u_551 (rmo hRL (Nat.le_trans (by decide) hk.1) (Nat.le_trans (by decide) hk.2)) ddS_X3_newGuild rfl hls rfl hroom hdg hcs) kk
set_option maxHeartbeats 4000000 in
set_option maxRecDepth 100000 in
theorem w_X3_build_34 {p : Program} {e : Env} {R : Room} {s : State} {m : MethodId} {args : Array Value} {below : List Frame} {meth : Method} {c : Code} {Q : State → Prop} {G : CG} (l : Launch) (X : Cx p s m args meth c cX3_build 3 RX3 G) (hRL : RmL R 5 116) {C S : Nat} (hCS : C ≤ R.cells ∧ S ≤ R.slots) : ∀ (n : Nat) (v0 : Nat) (v1 : Nat) (v2 : Int32) (μ : Mm) (x : Mm), lp_X3_build_34 n v0 v1 v2 μ = some x → (∀ (H : Heap) (locs : List Loc) (ls : Array Slot), HS G s x H locs → lv_has ls 3 [(0, .ref v0)] → W p l e R s m args below meth c H locs C S Q (F0 m 69 ls [])) → ∀ (cells slots : Nat), cells + n * 6 ≤ C → slots + n * 12 ≤ S → ∀ (H : Heap) (locs : List Loc) (ls : Array Slot), HS G s μ H locs → lv_has ls 3 [(0, .ref v0), (1, .ref v1), (2, .int v2)] → W p l e R s m args below meth c H locs cells slots Q (F0 m 34 ls []) := by
  have hx := X.1
  have hb := X.2.1
  have hown := X.2.2.2.1
  have hts := X.2.2.2.2.1
  intro n
  induction n with
  | zero =>
    intro v0 v1 v2 μ x h
    rw [lp_X3_build_34] at h
    cases h
  | succ n ih =>
    intro v0 v1 v2 μ x h k0 cells slots hc1 hc2 H locs ls hH hl
    rw [lp_X3_build_34] at h
    rw [Nat.succ_mul] at hc1 hc2
    refine lv_iload_n hx hb dX3_build_34 rfl (lv_at hl 2 rfl) ?_
    refine lv_aload_n hx hb dX3_build_35 rfl (lv_at hl 0 rfl) ?_
    obtain ⟨x9, hx9, h⟩ := bnd h
    refine gf_X3_26 X hH hx9 dX3_build_36 ?_
    refine lv_icmp_ge (tgt := 69) hx hb dX3_build_39 (by decide) (fun hc10 => ?_) (fun hc10 => ?_)
    · replace h := ift h hc10
      cases h
      refine W.widen (k := C) (n := S) (by omega) (by omega) ?_
      exact k0 _ _ _ hH (lv_sub hl [0] rfl)
    · replace h := iff' h hc10
      refine lv_aload_n hx hb dX3_build_42 rfl (lv_at hl 0 rfl) ?_
      obtain ⟨x11, hx11, h⟩ := bnd h
      refine gf_X3_11 X hH hx11 dX3_build_43 ?_
      refine lv_iload_n hx hb dX3_build_46 rfl (lv_at hl 2 rfl) ?_
      refine lv_aload_n hx hb dX3_build_47 rfl (lv_at hl 1 rfl) ?_
      obtain ⟨x12, hx12, h⟩ := bnd h
      refine gf_X3_69 X hH hx12 dX3_build_48 ?_
      refine lv_iload_n hx hb dX3_build_51 rfl (lv_at hl 2 rfl) ?_
      obtain ⟨x13, hx13, h⟩ := bnd h
      refine w_aI X hH hx13 dX3_build_52 ?_
      refine lv_aload_n hx hb dX3_build_53 rfl (lv_at hl 1 rfl) ?_
      obtain ⟨x14, hx14, h⟩ := bnd h
      refine gf_X3_73 X hH hx14 dX3_build_54 ?_
      refine lv_iload_n hx hb dX3_build_57 rfl (lv_at hl 2 rfl) ?_
      obtain ⟨x15, hx15, h⟩ := bnd h
      refine w_aI X hH hx15 dX3_build_58 ?_
      obtain ⟨x16, hx16, h⟩ := bnd h
      refine iv_X3_76 l X hH hRL (by decide) hx16 hl.1 (Nat.le_of_ble_eq_true rfl) dX3_build_59 ⟨by omega, by omega⟩ (fun H locs hH => ?_)
      obtain ⟨x17, hx17, h⟩ := bnd h
      refine w_qG X hH hx17 dX3_build_62 (fun H locs hH => ?_)
      refine lv_iinc (v := (v2 + 1)) (lv' := [(2, .int (v2 + 1)), (0, .ref v0), (1, .ref v1)]) hx hb dX3_build_63 hl (k := 2) rfl rfl (by decide) rfl (fun ls hl => ?_)
      refine lv_goto (tgt := 34) hx hb dX3_build_66 (by decide) ?_
      exact ih _ _ _ _ _ h k0 _ _ (by omega) (by omega) _ _ _ hH (lv_sub hl [1, 2, 0] rfl)
theorem t_X3_build {μ : Mm} {a0 : Nat} {p1 : Nat} {x : Mm} (h : f_X3_build μ a0 p1 = some x) : tg μ a0 = 4 := by
  unfold f_X3_build at h
  exact (gsn h).1
set_option maxHeartbeats 4000000 in
set_option maxRecDepth 100000 in
theorem c_X3_build (l : Launch) (G : CG) (μ : Mm) (a0 : Nat) (p1 : Nat) (x : Mm) (h : f_X3_build μ a0 p1 = some x) : Met l yX3_build (.code yX3_build cX3_build 3 none :: UW) (rmk 5 116 42 84) (PC G [.ref a0, .ref p1] μ) (QV G x) 42 84 (fA G) := by
  refine Met.ofW (cc := cX3_build) (maxL := 3) (ret := none) (by decide) rfl ?_
  intro p e s m args below meth c s₁ B hml hv
  obtain ⟨X, hH, hr, rfl, hnm⟩ := cx_in B hml hv
  have X : Cx p s m _ meth c cX3_build 3 RX3 G := X
  have hx := X.1
  have hb := X.2.1
  have hown := X.2.2.2.1
  have hts := X.2.2.2.2.1
  have hRL : RmL (rmk 5 116 42 84) 5 116 := ⟨Nat.le_refl _, Nat.le_refl _⟩
  refine ls_in (Nat.le_of_ble_eq_true rfl) (fun ls hl => ?_)
  have hl : lv_has ls 3 [(0, .ref a0), (1, .ref p1)] := hl
  unfold f_X3_build at h
  obtain ⟨htg, h⟩ := gsn h
  refine lv_aload_n hx hb dX3_build_0 rfl (lv_at hl 0 rfl) ?_
  refine lv_aload_n hx hb dX3_build_1 rfl (lv_at hl 1 rfl) ?_
  obtain ⟨x1, hx1, h⟩ := bnd h
  refine gf_X3_63 X hH hx1 dX3_build_2 ?_
  obtain ⟨x2, hx2, h⟩ := bnd h
  refine pf_X3_26 X hH hx2 dX3_build_5 (fun H locs hH => ?_)
  refine lv_aload_n hx hb dX3_build_8 rfl (lv_at hl 0 rfl) ?_
  refine lv_aload_n hx hb dX3_build_9 rfl (lv_at hl 1 rfl) ?_
  obtain ⟨x3, hx3, h⟩ := bnd h
  refine gf_X3_66 X hH hx3 dX3_build_10 ?_
  obtain ⟨x4, hx4, h⟩ := bnd h
  refine pf_X3_30 X hH hx4 dX3_build_13 (fun H locs hH => ?_)
  refine lv_aload_n hx hb dX3_build_16 rfl (lv_at hl 0 rfl) ?_
  refine lv_aload_n hx hb dX3_build_17 rfl (lv_at hl 1 rfl) ?_
  obtain ⟨x5, hx5, h⟩ := bnd h
  refine gf_X3_67 X hH hx5 dX3_build_18 ?_
  obtain ⟨x6, hx6, h⟩ := bnd h
  refine pf_X3_54 X hH hx6 dX3_build_21 (fun H locs hH => ?_)
  refine lv_aload_n hx hb dX3_build_24 rfl (lv_at hl 0 rfl) ?_
  refine lv_aload_n hx hb dX3_build_25 rfl (lv_at hl 1 rfl) ?_
  obtain ⟨x7, hx7, h⟩ := bnd h
  refine gf_X3_68 X hH hx7 dX3_build_26 ?_
  obtain ⟨x8, hx8, h⟩ := bnd h
  refine pf_X3_33 X hH hx8 dX3_build_29 (fun H locs hH => ?_)
  refine lv_iconst (v := 0) hx hb dX3_build_32 (by decide) ?_
  refine lv_istore_n (lv' := [(2, .int (0 : Int32)), (0, .ref a0), (1, .ref p1)]) hx hb dX3_build_33 rfl hl (by decide) rfl (fun ls hl => ?_)
  obtain ⟨x18, hx18, hhx18⟩ := bnd h
  clear h
  refine w_X3_build_34 l X hRL (C := 42) (S := 84) ⟨Nat.le_of_ble_eq_true rfl, Nat.le_of_ble_eq_true rfl⟩ 7 a0 p1 (0 : Int32) x8 x18 hx18 (fun H locs ls hH hl => ?_) 0 0 (by decide) (by decide) _ _ _ hH (lv_sub hl [1, 2, 0] rfl)
  · have h := hhx18
    clear hhx18
    refine lv_aload_n hx hb dX3_build_69 rfl (lv_at hl 0 rfl) ?_
    obtain ⟨x19, hx19, h⟩ := bnd h
    refine gf_X3_22 X hH hx19 dX3_build_70 ?_
    refine lv_iconst (v := 0) hx hb dX3_build_73 (by decide) ?_
    refine lv_iconst (v := 0) hx hb dX3_build_74 (by decide) ?_
    obtain ⟨x20, hx20, h⟩ := bnd h
    refine iv_X3_59 l X hH hRL (by decide) hx20 hl.1 (Nat.le_of_ble_eq_true rfl) dX3_build_75 ⟨Nat.le_of_ble_eq_true rfl, Nat.le_of_ble_eq_true rfl⟩ (fun H locs hH => ?_)
    exact eV X hH h hr dX3_build_78 (Nat.le_of_ble_eq_true rfl) (Nat.le_of_ble_eq_true rfl)
theorem t_X3_isEmpty {μ : Mm} {a0 : Nat} {x : Int32} (h : f_X3_isEmpty μ a0 = some x) : tg μ a0 = 4 := by
  unfold f_X3_isEmpty at h
  exact (gsn h).1
set_option maxHeartbeats 4000000 in
set_option maxRecDepth 100000 in
theorem c_X3_isEmpty (l : Launch) (G : CG) (μ : Mm) (a0 : Nat) (x : Int32) (h : f_X3_isEmpty μ a0 = some x) : Met l yX3_isEmpty (.code yX3_isEmpty cX3_isEmpty 1 (some .boolean) :: UW) (rmk 1 0 0 0) (PC G [.ref a0] μ) (QI G x μ) 0 0 (fA G) := by
  refine Met.ofW (cc := cX3_isEmpty) (maxL := 1) (ret := (some .boolean)) (by decide) rfl ?_
  intro p e s m args below meth c s₁ B hml hv
  obtain ⟨X, hH, hr, rfl, hnm⟩ := cx_in B hml hv
  have X : Cx p s m _ meth c cX3_isEmpty 1 RX3 G := X
  have hx := X.1
  have hb := X.2.1
  have hown := X.2.2.2.1
  have hts := X.2.2.2.2.1
  have hRL : RmL (rmk 1 0 0 0) 1 0 := ⟨Nat.le_refl _, Nat.le_refl _⟩
  have hcs : 0 ≤ (rmk 0 0 0 0).cells ∧ 0 ≤ (rmk 0 0 0 0).slots := ⟨Nat.zero_le _, Nat.zero_le _⟩
  refine ls_in (Nat.le_of_ble_eq_true rfl) (fun ls hl => ?_)
  have hl : lv_has ls 1 [(0, .ref a0)] := hl
  unfold f_X3_isEmpty at h
  obtain ⟨htg, h⟩ := gsn h
  refine lv_aload_n hx hb dX3_isEmpty_0 rfl (lv_at hl 0 rfl) ?_
  obtain ⟨x1, hx1, h⟩ := bnd h
  refine gf_X3_26 X hH hx1 dX3_isEmpty_1 ?_
  refine lv_if_ne (tgt := 11) hx hb dX3_isEmpty_4 (by decide) (fun hc2 => ?_) (fun hc2 => ?_)
  · replace h := iff' h hc2
    refine lv_iconst (v := 0) hx hb dX3_isEmpty_11 (by decide) ?_
    exact eZp X hH (by decide) h hr dX3_isEmpty_12
  · replace h := ift h hc2
    refine lv_iconst (v := 1) hx hb dX3_isEmpty_7 (by decide) ?_
    refine lv_goto (tgt := 12) hx hb dX3_isEmpty_8 (by decide) ?_
    exact eZp X hH (by decide) h hr dX3_isEmpty_12
theorem t_X3_hasGuild {μ : Mm} {a0 : Nat} {p1 : Int32} {x : Int32} (h : f_X3_hasGuild μ a0 p1 = some x) : tg μ a0 = 4 := by
  unfold f_X3_hasGuild at h
  exact (gsn h).1
set_option maxHeartbeats 4000000 in
set_option maxRecDepth 100000 in
theorem c_X3_hasGuild (l : Launch) (G : CG) (μ : Mm) (a0 : Nat) (p1 : Int32) (x : Int32) (h : f_X3_hasGuild μ a0 p1 = some x) : Met l yX3_hasGuild (.code yX3_hasGuild cX3_hasGuild 2 (some .boolean) :: UW) (rmk 1 0 0 0) (PC G [.ref a0, .int p1] μ) (QI G x μ) 0 0 (fA G) := by
  refine Met.ofW (cc := cX3_hasGuild) (maxL := 2) (ret := (some .boolean)) (by decide) rfl ?_
  intro p e s m args below meth c s₁ B hml hv
  obtain ⟨X, hH, hr, rfl, hnm⟩ := cx_in B hml hv
  have X : Cx p s m _ meth c cX3_hasGuild 2 RX3 G := X
  have hx := X.1
  have hb := X.2.1
  have hown := X.2.2.2.1
  have hts := X.2.2.2.2.1
  have hRL : RmL (rmk 1 0 0 0) 1 0 := ⟨Nat.le_refl _, Nat.le_refl _⟩
  have hcs : 0 ≤ (rmk 0 0 0 0).cells ∧ 0 ≤ (rmk 0 0 0 0).slots := ⟨Nat.zero_le _, Nat.zero_le _⟩
  refine ls_in (Nat.le_of_ble_eq_true rfl) (fun ls hl => ?_)
  have hl : lv_has ls 2 [(0, .ref a0), (1, .int p1)] := hl
  unfold f_X3_hasGuild at h
  obtain ⟨htg, h⟩ := gsn h
  refine lv_iload_n hx hb dX3_hasGuild_0 rfl (lv_at hl 1 rfl) ?_
  refine lv_if_lt (tgt := 16) hx hb dX3_hasGuild_1 (by decide) (fun hc1 => ?_) (fun hc1 => ?_)
  · replace h := ift h hc1
    refine lv_iconst (v := 0) hx hb dX3_hasGuild_16 (by decide) ?_
    exact eZp X hH (by decide) h hr dX3_hasGuild_17
  · replace h := iff' h hc1
    refine lv_iload_n hx hb dX3_hasGuild_4 rfl (lv_at hl 1 rfl) ?_
    refine lv_aload_n hx hb dX3_hasGuild_5 rfl (lv_at hl 0 rfl) ?_
    obtain ⟨x2, hx2, h⟩ := bnd h
    refine gf_X3_26 X hH hx2 dX3_hasGuild_6 ?_
    refine lv_icmp_ge (tgt := 16) hx hb dX3_hasGuild_9 (by decide) (fun hc3 => ?_) (fun hc3 => ?_)
    · replace h := ift h hc3
      refine lv_iconst (v := 0) hx hb dX3_hasGuild_16 (by decide) ?_
      exact eZp X hH (by decide) h hr dX3_hasGuild_17
    · replace h := iff' h hc3
      refine lv_iconst (v := 1) hx hb dX3_hasGuild_12 (by decide) ?_
      refine lv_goto (tgt := 17) hx hb dX3_hasGuild_13 (by decide) ?_
      exact eZp X hH (by decide) h hr dX3_hasGuild_17
theorem t_X3_hasTooth {μ : Mm} {a0 : Nat} {p1 : Int32} {x : Int32} (h : f_X3_hasTooth μ a0 p1 = some x) : tg μ a0 = 4 := by
  unfold f_X3_hasTooth at h
  exact (gsn h).1
set_option maxHeartbeats 4000000 in
set_option maxRecDepth 100000 in
theorem c_X3_hasTooth (l : Launch) (G : CG) (μ : Mm) (a0 : Nat) (p1 : Int32) (x : Int32) (h : f_X3_hasTooth μ a0 p1 = some x) : Met l yX3_hasTooth (.code yX3_hasTooth cX3_hasTooth 2 (some .boolean) :: UW) (rmk 1 0 0 0) (PC G [.ref a0, .int p1] μ) (QI G x μ) 0 0 (fA G) := by
  refine Met.ofW (cc := cX3_hasTooth) (maxL := 2) (ret := (some .boolean)) (by decide) rfl ?_
  intro p e s m args below meth c s₁ B hml hv
  obtain ⟨X, hH, hr, rfl, hnm⟩ := cx_in B hml hv
  have X : Cx p s m _ meth c cX3_hasTooth 2 RX3 G := X
  have hx := X.1
  have hb := X.2.1
  have hown := X.2.2.2.1
  have hts := X.2.2.2.2.1
  have hRL : RmL (rmk 1 0 0 0) 1 0 := ⟨Nat.le_refl _, Nat.le_refl _⟩
  have hcs : 0 ≤ (rmk 0 0 0 0).cells ∧ 0 ≤ (rmk 0 0 0 0).slots := ⟨Nat.zero_le _, Nat.zero_le _⟩
  refine ls_in (Nat.le_of_ble_eq_true rfl) (fun ls hl => ?_)
  have hl : lv_has ls 2 [(0, .ref a0), (1, .int p1)] := hl
  unfold f_X3_hasTooth at h
  obtain ⟨htg, h⟩ := gsn h
  refine lv_iload_n hx hb dX3_hasTooth_0 rfl (lv_at hl 1 rfl) ?_
  refine lv_if_lt (tgt := 16) hx hb dX3_hasTooth_1 (by decide) (fun hc1 => ?_) (fun hc1 => ?_)
  · replace h := ift h hc1
    refine lv_iconst (v := 0) hx hb dX3_hasTooth_16 (by decide) ?_
    exact eZp X hH (by decide) h hr dX3_hasTooth_17
  · replace h := iff' h hc1
    refine lv_iload_n hx hb dX3_hasTooth_4 rfl (lv_at hl 1 rfl) ?_
    refine lv_aload_n hx hb dX3_hasTooth_5 rfl (lv_at hl 0 rfl) ?_
    obtain ⟨x2, hx2, h⟩ := bnd h
    refine gf_X3_30 X hH hx2 dX3_hasTooth_6 ?_
    refine lv_icmp_ge (tgt := 16) hx hb dX3_hasTooth_9 (by decide) (fun hc3 => ?_) (fun hc3 => ?_)
    · replace h := ift h hc3
      refine lv_iconst (v := 0) hx hb dX3_hasTooth_16 (by decide) ?_
      exact eZp X hH (by decide) h hr dX3_hasTooth_17
    · replace h := iff' h hc3
      refine lv_iconst (v := 1) hx hb dX3_hasTooth_12 (by decide) ?_
      refine lv_goto (tgt := 17) hx hb dX3_hasTooth_13 (by decide) ?_
      exact eZp X hH (by decide) h hr dX3_hasTooth_17
set_option maxHeartbeats 1000000 in
theorem iv_X3_95 {p : Program} {e : Env} {R : Room} {s : State} {m : MethodId} {args : Array Value} {below : List Frame} {meth : Method} {c : Code} {H : Heap} {locs : List Loc} {cells slots : Nat} {Q : State → Prop} {cc : ByteArray} {pc : Nat} {ls : Array Slot} {rest : List Value} {nL : Nat} {G : CG} {μ : Mm} {a : Nat} {q0 : Int32} {x : Int32} {k k2 : Nat} (l : Launch) (X : Cx p s m args meth c cc nL RX3 G) (hH : HS G s μ H locs) (hRL : RmL R k k2) (hk : 1 + 1 ≤ k ∧ 21 ≤ k2) (h : f_X3_hasTooth μ a q0 = some x) (hls : ls.size = nL) (hroom : (rest.map fun v => v.category).sum ≤ 8) (hdg : decode cc pc = .ok (.invokevirtual 95, 3)) (hcs : cells + 0 ≤ R.cells ∧ slots + 0 ≤ R.slots) (kk : ∀ (H1 : Heap) (locs1 : List Loc), HS G s μ H1 locs1 → W p l e R s m args below meth c H1 locs1 cells slots Q (F0 m (pc + 3) ls (.int x :: rest))) : W p l e R s m args below meth c H locs cells slots Q (F0 m pc ls (.int q0 :: .ref a :: rest)) := by
  refine kI hH (rV (As := [.int q0]) (rest := rest) X hH (t_X3_hasTooth h) vc_3 (c_X3_hasTooth l G μ a q0 x h) (List.forall_mem_cons.mpr ⟨u_386, (List.forall_mem_cons.mpr ⟨u_387, (List.forall_mem_cons.mpr ⟨u_388, (List.forall_mem_cons.mpr ⟨u_22, (fun _ h9 => absurd h9 List.not_mem_nil)⟩)⟩)⟩)⟩) u_389 (rmo hRL (Nat.le_trans (by decide) hk.1) (Nat.le_trans (by decide) hk.2)) ddV_X3_hasTooth rfl hls rfl hroom hdg hcs) kk
theorem t_X3_hasRentAt {μ : Mm} {a0 : Nat} {p1 : Int32} {x : Int32} (h : f_X3_hasRentAt μ a0 p1 = some x) : tg μ a0 = 4 := by
  unfold f_X3_hasRentAt at h
  exact (gsn h).1
set_option maxHeartbeats 4000000 in
set_option maxRecDepth 100000 in
theorem c_X3_hasRentAt (l : Launch) (G : CG) (μ : Mm) (a0 : Nat) (p1 : Int32) (x : Int32) (h : f_X3_hasRentAt μ a0 p1 = some x) : Met l yX3_hasRentAt (.code yX3_hasRentAt cX3_hasRentAt 2 (some .boolean) :: UW) (rmk 2 21 0 0) (PC G [.ref a0, .int p1] μ) (QI G x μ) 0 0 (fA G) := by
  refine Met.ofW (cc := cX3_hasRentAt) (maxL := 2) (ret := (some .boolean)) (by decide) rfl ?_
  intro p e s m args below meth c s₁ B hml hv
  obtain ⟨X, hH, hr, rfl, hnm⟩ := cx_in B hml hv
  have X : Cx p s m _ meth c cX3_hasRentAt 2 RX3 G := X
  have hx := X.1
  have hb := X.2.1
  have hown := X.2.2.2.1
  have hts := X.2.2.2.2.1
  have hRL : RmL (rmk 2 21 0 0) 2 21 := ⟨Nat.le_refl _, Nat.le_refl _⟩
  have hcs : 0 ≤ (rmk 0 0 0 0).cells ∧ 0 ≤ (rmk 0 0 0 0).slots := ⟨Nat.zero_le _, Nat.zero_le _⟩
  refine ls_in (Nat.le_of_ble_eq_true rfl) (fun ls hl => ?_)
  have hl : lv_has ls 2 [(0, .ref a0), (1, .int p1)] := hl
  unfold f_X3_hasRentAt at h
  obtain ⟨htg, h⟩ := gsn h
  refine lv_aload_n hx hb dX3_hasRentAt_0 rfl (lv_at hl 0 rfl) ?_
  refine lv_iload_n hx hb dX3_hasRentAt_1 rfl (lv_at hl 1 rfl) ?_
  obtain ⟨x1, hx1, h⟩ := bnd h
  refine iv_X3_95 l X hH hRL (by decide) hx1 hl.1 (Nat.le_of_ble_eq_true rfl) dX3_hasRentAt_2 hcs (fun H locs hH => ?_)
  refine lv_if_eq (tgt := 25) hx hb dX3_hasRentAt_5 (by decide) (fun hc2 => ?_) (fun hc2 => ?_)
  · replace h := ift h hc2
    refine lv_iconst (v := 0) hx hb dX3_hasRentAt_25 (by decide) ?_
    exact eZp X hH (by decide) h hr dX3_hasRentAt_26
  · replace h := iff' h hc2
    refine lv_aload_n hx hb dX3_hasRentAt_8 rfl (lv_at hl 0 rfl) ?_
    obtain ⟨x3, hx3, h⟩ := bnd h
    refine gf_X3_54 X hH hx3 dX3_hasRentAt_9 ?_
    refine lv_iload_n hx hb dX3_hasRentAt_12 rfl (lv_at hl 1 rfl) ?_
    refine lv_lushr hx hb dX3_hasRentAt_13 rfl ?_
    refine lv_lconst (v := 1) hx hb dX3_hasRentAt_14 (by decide) ?_
    refine lv_land hx hb dX3_hasRentAt_15 ?_
    refine lv_lconst (v := 0) hx hb dX3_hasRentAt_16 (by decide) ?_
    refine W.lcmp hx hb dX3_hasRentAt_17 ?_
    refine lv_if_eq (tgt := 25) hx hb dX3_hasRentAt_18 (by decide) (fun hc4 => ?_) (fun hc4 => ?_)
    · replace h := ift h hc4
      refine lv_iconst (v := 0) hx hb dX3_hasRentAt_25 (by decide) ?_
      exact eZp X hH (by decide) h hr dX3_hasRentAt_26
    · replace h := iff' h hc4
      refine lv_iconst (v := 1) hx hb dX3_hasRentAt_21 (by decide) ?_
      refine lv_goto (tgt := 26) hx hb dX3_hasRentAt_22 (by decide) ?_
      exact eZp X hH (by decide) h hr dX3_hasRentAt_26
theorem t_X3_hasRoomFor {μ : Mm} {a0 : Nat} {p1 : Int32} {x : Int32} (h : f_X3_hasRoomFor μ a0 p1 = some x) : tg μ a0 = 4 := by
  unfold f_X3_hasRoomFor at h
  exact (gsn h).1
set_option maxHeartbeats 4000000 in
set_option maxRecDepth 100000 in
theorem c_X3_hasRoomFor (l : Launch) (G : CG) (μ : Mm) (a0 : Nat) (p1 : Int32) (x : Int32) (h : f_X3_hasRoomFor μ a0 p1 = some x) : Met l yX3_hasRoomFor (.code yX3_hasRoomFor cX3_hasRoomFor 2 (some .boolean) :: UW) (rmk 1 0 0 0) (PC G [.ref a0, .int p1] μ) (QI G x μ) 0 0 (fA G) := by
  refine Met.ofW (cc := cX3_hasRoomFor) (maxL := 2) (ret := (some .boolean)) (by decide) rfl ?_
  intro p e s m args below meth c s₁ B hml hv
  obtain ⟨X, hH, hr, rfl, hnm⟩ := cx_in B hml hv
  have X : Cx p s m _ meth c cX3_hasRoomFor 2 RX3 G := X
  have hx := X.1
  have hb := X.2.1
  have hown := X.2.2.2.1
  have hts := X.2.2.2.2.1
  have hRL : RmL (rmk 1 0 0 0) 1 0 := ⟨Nat.le_refl _, Nat.le_refl _⟩
  have hcs : 0 ≤ (rmk 0 0 0 0).cells ∧ 0 ≤ (rmk 0 0 0 0).slots := ⟨Nat.zero_le _, Nat.zero_le _⟩
  refine ls_in (Nat.le_of_ble_eq_true rfl) (fun ls hl => ?_)
  have hl : lv_has ls 2 [(0, .ref a0), (1, .int p1)] := hl
  unfold f_X3_hasRoomFor at h
  obtain ⟨htg, h⟩ := gsn h
  refine lv_aload_n hx hb dX3_hasRoomFor_0 rfl (lv_at hl 0 rfl) ?_
  obtain ⟨x1, hx1, h⟩ := bnd h
  refine gf_X3_22 X hH hx1 dX3_hasRoomFor_1 ?_
  obtain ⟨x2, hx2, h⟩ := bnd h
  refine gf_X3_99 X hH hx2 dX3_hasRoomFor_4 ?_
  refine lv_iload_n hx hb dX3_hasRoomFor_7 rfl (lv_at hl 1 rfl) ?_
  refine lv_iadd hx hb dX3_hasRoomFor_8 ?_
  refine lv_bipush (v := 60) hx hb dX3_hasRoomFor_9 (by decide) ?_
  refine lv_icmp_gt (tgt := 18) hx hb dX3_hasRoomFor_11 (by decide) (fun hc3 => ?_) (fun hc3 => ?_)
  · replace h := ift h hc3
    refine lv_iconst (v := 0) hx hb dX3_hasRoomFor_18 (by decide) ?_
    exact eZp X hH (by decide) h hr dX3_hasRoomFor_19
  · replace h := iff' h hc3
    refine lv_iconst (v := 1) hx hb dX3_hasRoomFor_14 (by decide) ?_
    refine lv_goto (tgt := 19) hx hb dX3_hasRoomFor_15 (by decide) ?_
    exact eZp X hH (by decide) h hr dX3_hasRoomFor_19
set_option maxHeartbeats 1000000 in
theorem iv_X3_102 {p : Program} {e : Env} {R : Room} {s : State} {m : MethodId} {args : Array Value} {below : List Frame} {meth : Method} {c : Code} {H : Heap} {locs : List Loc} {cells slots : Nat} {Q : State → Prop} {cc : ByteArray} {pc : Nat} {ls : Array Slot} {rest : List Value} {nL : Nat} {G : CG} {μ : Mm} {a : Nat} {q0 : Int32} {x : Int32} {k k2 : Nat} (l : Launch) (X : Cx p s m args meth c cc nL RX3 G) (hH : HS G s μ H locs) (hRL : RmL R k k2) (hk : 1 + 1 ≤ k ∧ 21 ≤ k2) (h : f_X3_hasGuild μ a q0 = some x) (hls : ls.size = nL) (hroom : (rest.map fun v => v.category).sum ≤ 8) (hdg : decode cc pc = .ok (.invokevirtual 102, 3)) (hcs : cells + 0 ≤ R.cells ∧ slots + 0 ≤ R.slots) (kk : ∀ (H1 : Heap) (locs1 : List Loc), HS G s μ H1 locs1 → W p l e R s m args below meth c H1 locs1 cells slots Q (F0 m (pc + 3) ls (.int x :: rest))) : W p l e R s m args below meth c H locs cells slots Q (F0 m pc ls (.int q0 :: .ref a :: rest)) := by
  refine kI hH (rV (As := [.int q0]) (rest := rest) X hH (t_X3_hasGuild h) vc_3 (c_X3_hasGuild l G μ a q0 x h) (List.forall_mem_cons.mpr ⟨u_322, (List.forall_mem_cons.mpr ⟨u_323, (List.forall_mem_cons.mpr ⟨u_324, (List.forall_mem_cons.mpr ⟨u_22, (fun _ h9 => absurd h9 List.not_mem_nil)⟩)⟩)⟩)⟩) u_325 (rmo hRL (Nat.le_trans (by decide) hk.1) (Nat.le_trans (by decide) hk.2)) ddV_X3_hasGuild rfl hls rfl hroom hdg hcs) kk
set_option maxHeartbeats 1000000 in
theorem iv_X3_105 {p : Program} {e : Env} {R : Room} {s : State} {m : MethodId} {args : Array Value} {below : List Frame} {meth : Method} {c : Code} {H : Heap} {locs : List Loc} {cells slots : Nat} {Q : State → Prop} {cc : ByteArray} {pc : Nat} {ls : Array Slot} {rest : List Value} {nL : Nat} {G : CG} {μ : Mm} {a : Nat} {q0 : Int32} {x : Int32} {k k2 : Nat} (l : Launch) (X : Cx p s m args meth c cc nL RX3 G) (hH : HS G s μ H locs) (hRL : RmL R k k2) (hk : 3 + 1 ≤ k ∧ 61 ≤ k2) (h : f_X2_treadOn μ a q0 = some x) (hls : ls.size = nL) (hroom : (rest.map fun v => v.category).sum ≤ 8) (hdg : decode cc pc = .ok (.invokevirtual 105, 3)) (hcs : cells + 0 ≤ R.cells ∧ slots + 0 ≤ R.slots) (kk : ∀ (H1 : Heap) (locs1 : List Loc), HS G s μ H1 locs1 → W p l e R s m args below meth c H1 locs1 cells slots Q (F0 m (pc + 3) ls (.int x :: rest))) : W p l e R s m args below meth c H locs cells slots Q (F0 m pc ls (.int q0 :: .ref a :: rest)) := by
  refine kI (av := (Value.ref a :: [.int q0]).toArray) (rest := rest) hH ?_ kk
  rcases t_X2_treadOn h with ht | ht | ht | ht | ht | ht
  · exact rU (As := [.int q0]) (rest := rest) (owner := RX2) (x := yX2_treadOn) X hH ht vc_0 (c_X2_treadOn l G μ a q0 x h) (List.forall_mem_cons.mpr ⟨u_330, (List.forall_mem_cons.mpr ⟨u_333, (List.forall_mem_cons.mpr ⟨u_334, (List.forall_mem_cons.mpr ⟨u_331, (List.forall_mem_cons.mpr ⟨u_25, (fun _ h9 => absurd h9 List.not_mem_nil)⟩)⟩)⟩)⟩)⟩) u_339 (rmo hRL (Nat.le_trans (by decide) hk.1) (Nat.le_trans (by decide) hk.2)) rfl ddU_X2_treadOn rfl hls rfl hroom hdg hcs
  · exact rU (As := [.int q0]) (rest := rest) (owner := RX2) (x := yX2_treadOn) X hH ht vc_1 (c_X2_treadOn l G μ a q0 x h) (List.forall_mem_cons.mpr ⟨u_330, (List.forall_mem_cons.mpr ⟨u_333, (List.forall_mem_cons.mpr ⟨u_335, (List.forall_mem_cons.mpr ⟨u_331, (List.forall_mem_cons.mpr ⟨u_25, (fun _ h9 => absurd h9 List.not_mem_nil)⟩)⟩)⟩)⟩)⟩) u_339 (rmo hRL (Nat.le_trans (by decide) hk.1) (Nat.le_trans (by decide) hk.2)) rfl ddU_X2_treadOn rfl hls rfl hroom hdg hcs
  · exact rV (As := [.int q0]) (rest := rest) X hH ht vc_2 (c_X2_treadOn l G μ a q0 x h) (List.forall_mem_cons.mpr ⟨u_330, (List.forall_mem_cons.mpr ⟨u_331, (List.forall_mem_cons.mpr ⟨u_332, (List.forall_mem_cons.mpr ⟨u_25, (fun _ h9 => absurd h9 List.not_mem_nil)⟩)⟩)⟩)⟩) u_339 (rmo hRL (Nat.le_trans (by decide) hk.1) (Nat.le_trans (by decide) hk.2)) ddV_X2_treadOn rfl hls rfl hroom hdg hcs
  · exact rU (As := [.int q0]) (rest := rest) (owner := RX2) (x := yX2_treadOn) X hH ht vc_4 (c_X2_treadOn l G μ a q0 x h) (List.forall_mem_cons.mpr ⟨u_330, (List.forall_mem_cons.mpr ⟨u_333, (List.forall_mem_cons.mpr ⟨u_336, (List.forall_mem_cons.mpr ⟨u_331, (List.forall_mem_cons.mpr ⟨u_25, (fun _ h9 => absurd h9 List.not_mem_nil)⟩)⟩)⟩)⟩)⟩) u_339 (rmo hRL (Nat.le_trans (by decide) hk.1) (Nat.le_trans (by decide) hk.2)) rfl ddU_X2_treadOn rfl hls rfl hroom hdg hcs
  · exact rU (As := [.int q0]) (rest := rest) (owner := RX2) (x := yX2_treadOn) X hH ht vc_6 (c_X2_treadOn l G μ a q0 x h) (List.forall_mem_cons.mpr ⟨u_330, (List.forall_mem_cons.mpr ⟨u_333, (List.forall_mem_cons.mpr ⟨u_337, (List.forall_mem_cons.mpr ⟨u_331, (List.forall_mem_cons.mpr ⟨u_25, (fun _ h9 => absurd h9 List.not_mem_nil)⟩)⟩)⟩)⟩)⟩) u_339 (rmo hRL (Nat.le_trans (by decide) hk.1) (Nat.le_trans (by decide) hk.2)) rfl ddU_X2_treadOn rfl hls rfl hroom hdg hcs
  · exact rU (As := [.int q0]) (rest := rest) (owner := RX2) (x := yX2_treadOn) X hH ht vc_9 (c_X2_treadOn l G μ a q0 x h) (List.forall_mem_cons.mpr ⟨u_330, (List.forall_mem_cons.mpr ⟨u_333, (List.forall_mem_cons.mpr ⟨u_338, (List.forall_mem_cons.mpr ⟨u_331, (List.forall_mem_cons.mpr ⟨u_25, (fun _ h9 => absurd h9 List.not_mem_nil)⟩)⟩)⟩)⟩)⟩) u_339 (rmo hRL (Nat.le_trans (by decide) hk.1) (Nat.le_trans (by decide) hk.2)) rfl ddU_X2_treadOn rfl hls rfl hroom hdg hcs
theorem t_X3_treadNow {μ : Mm} {a0 : Nat} {p1 : Int32} {x : Int32} (h : f_X3_treadNow μ a0 p1 = some x) : tg μ a0 = 4 := by
  unfold f_X3_treadNow at h
  exact (gsn h).1
set_option maxHeartbeats 4000000 in
set_option maxRecDepth 100000 in
theorem c_X3_treadNow (l : Launch) (G : CG) (μ : Mm) (a0 : Nat) (p1 : Int32) (x : Int32) (h : f_X3_treadNow μ a0 p1 = some x) : Met l yX3_treadNow (.code yX3_treadNow cX3_treadNow 2 (some .int) :: UW) (rmk 4 61 0 0) (PC G [.ref a0, .int p1] μ) (QI G x μ) 0 0 (fA G) := by
  refine Met.ofW (cc := cX3_treadNow) (maxL := 2) (ret := (some .int)) (by decide) rfl ?_
  intro p e s m args below meth c s₁ B hml hv
  obtain ⟨X, hH, hr, rfl, hnm⟩ := cx_in B hml hv
  have X : Cx p s m _ meth c cX3_treadNow 2 RX3 G := X
  have hx := X.1
  have hb := X.2.1
  have hown := X.2.2.2.1
  have hts := X.2.2.2.2.1
  have hRL : RmL (rmk 4 61 0 0) 4 61 := ⟨Nat.le_refl _, Nat.le_refl _⟩
  have hcs : 0 ≤ (rmk 0 0 0 0).cells ∧ 0 ≤ (rmk 0 0 0 0).slots := ⟨Nat.zero_le _, Nat.zero_le _⟩
  refine ls_in (Nat.le_of_ble_eq_true rfl) (fun ls hl => ?_)
  have hl : lv_has ls 2 [(0, .ref a0), (1, .int p1)] := hl
  unfold f_X3_treadNow at h
  obtain ⟨htg, h⟩ := gsn h
  refine lv_aload_n hx hb dX3_treadNow_0 rfl (lv_at hl 0 rfl) ?_
  refine lv_iload_n hx hb dX3_treadNow_1 rfl (lv_at hl 1 rfl) ?_
  obtain ⟨x1, hx1, h⟩ := bnd h
  refine iv_X3_102 l X hH hRL (by decide) hx1 hl.1 (Nat.le_of_ble_eq_true rfl) dX3_treadNow_2 hcs (fun H locs hH => ?_)
  refine lv_if_eq (tgt := 24) hx hb dX3_treadNow_5 (by decide) (fun hc2 => ?_) (fun hc2 => ?_)
  · replace h := ift h hc2
    refine lv_iconst (v := 0) hx hb dX3_treadNow_24 (by decide) ?_
    exact eIp X hH h hr dX3_treadNow_25
  · replace h := iff' h hc2
    refine lv_aload_n hx hb dX3_treadNow_8 rfl (lv_at hl 0 rfl) ?_
    obtain ⟨x3, hx3, h⟩ := bnd h
    refine gf_X3_11 X hH hx3 dX3_treadNow_9 ?_
    refine lv_iload_n hx hb dX3_treadNow_12 rfl (lv_at hl 1 rfl) ?_
    obtain ⟨x4, hx4, h⟩ := bnd h
    refine w_aP X hH hx4 (by decide) (k := 4) rfl dX3_treadNow_13 ?_
    refine lv_aload_n hx hb dX3_treadNow_14 rfl (lv_at hl 0 rfl) ?_
    obtain ⟨x5, hx5, h⟩ := bnd h
    refine gf_X3_42 X hH hx5 dX3_treadNow_15 ?_
    obtain ⟨x6, hx6, h⟩ := bnd h
    refine iv_X3_105 l X hH hRL (by decide) hx6 hl.1 (Nat.le_of_ble_eq_true rfl) dX3_treadNow_18 hcs (fun H locs hH => ?_)
    refine lv_goto (tgt := 25) hx hb dX3_treadNow_21 (by decide) ?_
    exact eIp X hH h hr dX3_treadNow_25
set_option maxHeartbeats 4000000 in
set_option maxRecDepth 100000 in
theorem c_J9_floorMod_7cf53 (l : Launch) (G : CG) (μ : Mm) (p0 : Int32) (p1 : Int32) (x : Int32) (h : f_J9_floorMod_7cf53 μ p0 p1 = some x) : Met l yJ9_floorMod_7cf53 (.code yJ9_floorMod_7cf53 cJ9_floorMod_7cf53 3 (some .int) :: UW) (rmk 1 0 0 0) (PC G [.int p0, .int p1] μ) (QI G x μ) 0 0 (fA G) := by
  refine va_MetF (cc := cJ9_floorMod_7cf53) (maxL := 3) (ret := (some .int)) (by decide +kernel) rfl ?_
  intro p e s m args below meth c s₁ B hml hv
  obtain ⟨X, hH, hr, rfl, hnm⟩ := cx_in B hml hv
  have X : Cx p s m _ meth c cJ9_floorMod_7cf53 3 RJ9 G := X
  have hx := X.1
  have hb := X.2.1
  have hown := X.2.2.2.1
  have hts := X.2.2.2.2.1
  have hRL : RmL (rmk 1 0 0 0) 1 0 := ⟨Nat.le_refl _, Nat.le_refl _⟩
  have hcs : 0 ≤ (rmk 0 0 0 0).cells ∧ 0 ≤ (rmk 0 0 0 0).slots := ⟨Nat.zero_le _, Nat.zero_le _⟩
  refine ls_in (Nat.le_of_ble_eq_true rfl) (fun ls hl => ?_)
  have hl : lv_has ls 3 [(0, .int p0), (1, .int p1)] := hl
  unfold f_J9_floorMod_7cf53 at h
  refine lv_iload_n hx hb dJ9_floorMod_7cf53_0 rfl (lv_at hl 0 rfl) ?_
  refine lv_iload_n hx hb dJ9_floorMod_7cf53_1 rfl (lv_at hl 1 rfl) ?_
  obtain ⟨hd1, h⟩ := gsf h
  refine lv_irem hx hb dJ9_floorMod_7cf53_2 hd1 ?_
  refine lv_istore_n (lv' := [(2, .int (p0 - p0 / p1 * p1)), (0, .int p0), (1, .int p1)]) hx hb dJ9_floorMod_7cf53_3 rfl hl (by decide) rfl (fun ls hl => ?_)
  refine lv_iload_n hx hb dJ9_floorMod_7cf53_4 rfl (lv_at hl 1 rfl) ?_
  refine lv_iload_n hx hb dJ9_floorMod_7cf53_5 rfl (lv_at hl 2 rfl) ?_
  refine lv_ixor hx hb dJ9_floorMod_7cf53_6 ?_
  refine lv_if_ge (tgt := 18) hx hb dJ9_floorMod_7cf53_7 (by decide) (fun hc2 => ?_) (fun hc2 => ?_)
  · replace h := ift h hc2
    refine lv_iload_n hx hb dJ9_floorMod_7cf53_18 rfl (lv_at hl 0 rfl) ?_
    exact eIp X hH h hr dJ9_floorMod_7cf53_19
  · replace h := iff' h hc2
    refine lv_iload_n hx hb dJ9_floorMod_7cf53_10 rfl (lv_at hl 0 rfl) ?_
    refine lv_if_eq (tgt := 18) hx hb dJ9_floorMod_7cf53_11 (by decide) (fun hc3 => ?_) (fun hc3 => ?_)
    · replace h := ift h hc3
      refine lv_iload_n hx hb dJ9_floorMod_7cf53_18 rfl (lv_at hl 0 rfl) ?_
      exact eIp X hH h hr dJ9_floorMod_7cf53_19
    · replace h := iff' h hc3
      refine lv_iload_n hx hb dJ9_floorMod_7cf53_14 rfl (lv_at hl 0 rfl) ?_
      refine lv_iload_n hx hb dJ9_floorMod_7cf53_15 rfl (lv_at hl 2 rfl) ?_
      refine lv_iadd hx hb dJ9_floorMod_7cf53_16 ?_
      exact eIp X hH h hr dJ9_floorMod_7cf53_17
set_option maxHeartbeats 1000000 in
theorem iv_X11_363 {p : Program} {e : Env} {R : Room} {s : State} {m : MethodId} {args : Array Value} {below : List Frame} {meth : Method} {c : Code} {H : Heap} {locs : List Loc} {cells slots : Nat} {Q : State → Prop} {cc : ByteArray} {pc : Nat} {ls : Array Slot} {rest : List Value} {nL : Nat} {G : CG} {μ : Mm} {q0 : Int32} {q1 : Int32} {x : Int32} {k k2 : Nat} (l : Launch) (X : Cx p s m args meth c cc nL RX11 G) (hH : HS G s μ H locs) (hRL : RmL R k k2) (hk : 1 + 1 ≤ k ∧ 22 ≤ k2) (h : f_J9_floorMod_7cf53 μ q0 q1 = some x) (hls : ls.size = nL) (hroom : (rest.map fun v => v.category).sum ≤ 8) (hdg : decode cc pc = .ok (.invokestatic 363, 3)) (hcs : cells + 0 ≤ R.cells ∧ slots + 0 ≤ R.slots) (kk : ∀ (H1 : Heap) (locs1 : List Loc), HS G s μ H1 locs1 → W p l e R s m args below meth c H1 locs1 cells slots Q (F0 m (pc + 3) ls (.int x :: rest))) : W p l e R s m args below meth c H locs cells slots Q (F0 m pc ls (.int q1 :: .int q0 :: rest)) := by
  refine kI hH (rS (As := [.int q0, .int q1]) (rest := rest) X hH (c_J9_floorMod_7cf53 l G μ q0 q1 x h) (List.forall_mem_cons.mpr ⟨u_379, (List.forall_mem_cons.mpr ⟨u_380, (List.forall_mem_cons.mpr ⟨u_24, (fun _ h9 => absurd h9 List.not_mem_nil)⟩)⟩)⟩) u_381 (rmo hRL (Nat.le_trans (by decide) hk.1) (Nat.le_trans (by decide) hk.2)) ddS_J9_floorMod_7cf53 rfl hls rfl hroom hdg hcs) kk
set_option maxHeartbeats 4000000 in
set_option maxRecDepth 100000 in
theorem c_X11_remainder (l : Launch) (G : CG) (μ : Mm) (p0 : Int32) (p1 : Int32) (x : Int32) (h : f_X11_remainder μ p0 p1 = some x) : Met l yX11_remainder (.code yX11_remainder cX11_remainder 2 (some .int) :: UW) (rmk 2 22 0 0) (PC G [.int p0, .int p1] μ) (QI G x μ) 0 0 (fA G) := by
  refine Met.ofW (cc := cX11_remainder) (maxL := 2) (ret := (some .int)) (by decide) rfl ?_
  intro p e s m args below meth c s₁ B hml hv
  obtain ⟨X, hH, hr, rfl, hnm⟩ := cx_in B hml hv
  have X : Cx p s m _ meth c cX11_remainder 2 RX11 G := X
  have hx := X.1
  have hb := X.2.1
  have hown := X.2.2.2.1
  have hts := X.2.2.2.2.1
  have hRL : RmL (rmk 2 22 0 0) 2 22 := ⟨Nat.le_refl _, Nat.le_refl _⟩
  have hcs : 0 ≤ (rmk 0 0 0 0).cells ∧ 0 ≤ (rmk 0 0 0 0).slots := ⟨Nat.zero_le _, Nat.zero_le _⟩
  refine ls_in (Nat.le_of_ble_eq_true rfl) (fun ls hl => ?_)
  have hl : lv_has ls 2 [(0, .int p0), (1, .int p1)] := hl
  unfold f_X11_remainder at h
  refine lv_iload_n hx hb dX11_remainder_0 rfl (lv_at hl 1 rfl) ?_
  refine lv_iconst (v := 1) hx hb dX11_remainder_1 (by decide) ?_
  refine lv_icmp_ge (tgt := 9) hx hb dX11_remainder_2 (by decide) (fun hc1 => ?_) (fun hc1 => ?_)
  · replace h := ift h hc1
    refine lv_iload_n hx hb dX11_remainder_9 rfl (lv_at hl 0 rfl) ?_
    refine lv_iload_n hx hb dX11_remainder_10 rfl (lv_at hl 1 rfl) ?_
    obtain ⟨x2, hx2, h⟩ := bnd h
    refine iv_X11_363 l X hH hRL (by decide) hx2 hl.1 (Nat.le_of_ble_eq_true rfl) dX11_remainder_11 hcs (fun H locs hH => ?_)
    exact eIp X hH h hr dX11_remainder_14
  · replace h := iff' h hc1
    refine lv_iconst (v := 0) hx hb dX11_remainder_5 (by decide) ?_
    refine lv_goto (tgt := 14) hx hb dX11_remainder_6 (by decide) ?_
    exact eIp X hH h hr dX11_remainder_14
set_option maxHeartbeats 1000000 in
theorem iv_X3_109 {p : Program} {e : Env} {R : Room} {s : State} {m : MethodId} {args : Array Value} {below : List Frame} {meth : Method} {c : Code} {H : Heap} {locs : List Loc} {cells slots : Nat} {Q : State → Prop} {cc : ByteArray} {pc : Nat} {ls : Array Slot} {rest : List Value} {nL : Nat} {G : CG} {μ : Mm} {q0 : Int32} {q1 : Int32} {x : Int32} {k k2 : Nat} (l : Launch) (X : Cx p s m args meth c cc nL RX3 G) (hH : HS G s μ H locs) (hRL : RmL R k k2) (hk : 2 + 1 ≤ k ∧ 43 ≤ k2) (h : f_X11_remainder μ q0 q1 = some x) (hls : ls.size = nL) (hroom : (rest.map fun v => v.category).sum ≤ 8) (hdg : decode cc pc = .ok (.invokestatic 109, 3)) (hcs : cells + 0 ≤ R.cells ∧ slots + 0 ≤ R.slots) (kk : ∀ (H1 : Heap) (locs1 : List Loc), HS G s μ H1 locs1 → W p l e R s m args below meth c H1 locs1 cells slots Q (F0 m (pc + 3) ls (.int x :: rest))) : W p l e R s m args below meth c H locs cells slots Q (F0 m pc ls (.int q1 :: .int q0 :: rest)) := by
  refine kI hH (rSN (As := [.int q0, .int q1]) (rest := rest) X hH (c_X11_remainder l G μ q0 q1 x h) (X.2.2.2.2.2.1.2.1 (RX3, 109, yX11_remainder) (List.mem_of_getElem? (i := 3) rfl)) (List.forall_mem_cons.mpr ⟨u_377, (List.forall_mem_cons.mpr ⟨u_21, (fun _ h9 => absurd h9 List.not_mem_nil)⟩)⟩) u_378 (rmo hRL (Nat.le_trans (by decide) hk.1) (Nat.le_trans (by decide) hk.2)) ddS_X11_remainder rfl hls rfl hroom hdg hcs) kk
theorem t_X3_wrap {μ : Mm} {a0 : Nat} {p1 : Int32} {x : Int32} (h : f_X3_wrap μ a0 p1 = some x) : tg μ a0 = 4 := by
  unfold f_X3_wrap at h
  exact (gsn h).1
set_option maxHeartbeats 4000000 in
set_option maxRecDepth 100000 in
theorem c_X3_wrap (l : Launch) (G : CG) (μ : Mm) (a0 : Nat) (p1 : Int32) (x : Int32) (h : f_X3_wrap μ a0 p1 = some x) : Met l yX3_wrap (.code yX3_wrap cX3_wrap 2 (some .int) :: UW) (rmk 3 43 0 0) (PC G [.ref a0, .int p1] μ) (QI G x μ) 0 0 (fA G) := by
  refine Met.ofW (cc := cX3_wrap) (maxL := 2) (ret := (some .int)) (by decide) rfl ?_
  intro p e s m args below meth c s₁ B hml hv
  obtain ⟨X, hH, hr, rfl, hnm⟩ := cx_in B hml hv
  have X : Cx p s m _ meth c cX3_wrap 2 RX3 G := X
  have hx := X.1
  have hb := X.2.1
  have hown := X.2.2.2.1
  have hts := X.2.2.2.2.1
  have hRL : RmL (rmk 3 43 0 0) 3 43 := ⟨Nat.le_refl _, Nat.le_refl _⟩
  have hcs : 0 ≤ (rmk 0 0 0 0).cells ∧ 0 ≤ (rmk 0 0 0 0).slots := ⟨Nat.zero_le _, Nat.zero_le _⟩
  refine ls_in (Nat.le_of_ble_eq_true rfl) (fun ls hl => ?_)
  have hl : lv_has ls 2 [(0, .ref a0), (1, .int p1)] := hl
  unfold f_X3_wrap at h
  obtain ⟨htg, h⟩ := gsn h
  refine lv_iload_n hx hb dX3_wrap_0 rfl (lv_at hl 1 rfl) ?_
  refine lv_aload_n hx hb dX3_wrap_1 rfl (lv_at hl 0 rfl) ?_
  obtain ⟨x1, hx1, h⟩ := bnd h
  refine gf_X3_30 X hH hx1 dX3_wrap_2 ?_
  obtain ⟨x2, hx2, h⟩ := bnd h
  refine iv_X3_109 l X hH hRL (by decide) hx2 hl.1 (Nat.le_of_ble_eq_true rfl) dX3_wrap_5 hcs (fun H locs hH => ?_)
  exact eIp X hH h hr dX3_wrap_8
set_option maxHeartbeats 1000000 in
theorem iv_X3_113 {p : Program} {e : Env} {R : Room} {s : State} {m : MethodId} {args : Array Value} {below : List Frame} {meth : Method} {c : Code} {H : Heap} {locs : List Loc} {cells slots : Nat} {Q : State → Prop} {cc : ByteArray} {pc : Nat} {ls : Array Slot} {rest : List Value} {nL : Nat} {G : CG} {μ : Mm} {a : Nat} {q0 : Int32} {x : Int32} {k k2 : Nat} (l : Launch) (X : Cx p s m args meth c cc nL RX3 G) (hH : HS G s μ H locs) (hRL : RmL R k k2) (hk : 3 + 1 ≤ k ∧ 64 ≤ k2) (h : f_X3_wrap μ a q0 = some x) (hls : ls.size = nL) (hroom : (rest.map fun v => v.category).sum ≤ 8) (hdg : decode cc pc = .ok (.invokevirtual 113, 3)) (hcs : cells + 0 ≤ R.cells ∧ slots + 0 ≤ R.slots) (kk : ∀ (H1 : Heap) (locs1 : List Loc), HS G s μ H1 locs1 → W p l e R s m args below meth c H1 locs1 cells slots Q (F0 m (pc + 3) ls (.int x :: rest))) : W p l e R s m args below meth c H locs cells slots Q (F0 m pc ls (.int q0 :: .ref a :: rest)) := by
  refine kI hH (rV (As := [.int q0]) (rest := rest) X hH (t_X3_wrap h) vc_3 (c_X3_wrap l G μ a q0 x h) (List.forall_mem_cons.mpr ⟨u_372, (List.forall_mem_cons.mpr ⟨u_373, (List.forall_mem_cons.mpr ⟨u_374, (List.forall_mem_cons.mpr ⟨u_22, (fun _ h9 => absurd h9 List.not_mem_nil)⟩)⟩)⟩)⟩) u_375 (rmo hRL (Nat.le_trans (by decide) hk.1) (Nat.le_trans (by decide) hk.2)) ddV_X3_wrap rfl hls rfl hroom hdg hcs) kk
theorem t_X3_wayTo {μ : Mm} {a0 : Nat} {p1 : Int32} {x : Int32} (h : f_X3_wayTo μ a0 p1 = some x) : tg μ a0 = 4 := by
  unfold f_X3_wayTo at h
  exact (gsn h).1
set_option maxHeartbeats 4000000 in
set_option maxRecDepth 100000 in
theorem c_X3_wayTo (l : Launch) (G : CG) (μ : Mm) (a0 : Nat) (p1 : Int32) (x : Int32) (h : f_X3_wayTo μ a0 p1 = some x) : Met l yX3_wayTo (.code yX3_wayTo cX3_wayTo 2 (some .int) :: UW) (rmk 4 64 0 0) (PC G [.ref a0, .int p1] μ) (QI G x μ) 0 0 (fA G) := by
  refine Met.ofW (cc := cX3_wayTo) (maxL := 2) (ret := (some .int)) (by decide) rfl ?_
  intro p e s m args below meth c s₁ B hml hv
  obtain ⟨X, hH, hr, rfl, hnm⟩ := cx_in B hml hv
  have X : Cx p s m _ meth c cX3_wayTo 2 RX3 G := X
  have hx := X.1
  have hb := X.2.1
  have hown := X.2.2.2.1
  have hts := X.2.2.2.2.1
  have hRL : RmL (rmk 4 64 0 0) 4 64 := ⟨Nat.le_refl _, Nat.le_refl _⟩
  have hcs : 0 ≤ (rmk 0 0 0 0).cells ∧ 0 ≤ (rmk 0 0 0 0).slots := ⟨Nat.zero_le _, Nat.zero_le _⟩
  refine ls_in (Nat.le_of_ble_eq_true rfl) (fun ls hl => ?_)
  have hl : lv_has ls 2 [(0, .ref a0), (1, .int p1)] := hl
  unfold f_X3_wayTo at h
  obtain ⟨htg, h⟩ := gsn h
  refine lv_aload_n hx hb dX3_wayTo_0 rfl (lv_at hl 0 rfl) ?_
  refine lv_iload_n hx hb dX3_wayTo_1 rfl (lv_at hl 1 rfl) ?_
  refine lv_aload_n hx hb dX3_wayTo_2 rfl (lv_at hl 0 rfl) ?_
  obtain ⟨x1, hx1, h⟩ := bnd h
  refine gf_X3_36 X hH hx1 dX3_wayTo_3 ?_
  refine lv_isub hx hb dX3_wayTo_6 ?_
  obtain ⟨x2, hx2, h⟩ := bnd h
  refine iv_X3_113 l X hH hRL (by decide) hx2 hl.1 (Nat.le_of_ble_eq_true rfl) dX3_wayTo_7 hcs (fun H locs hH => ?_)
  exact eIp X hH h hr dX3_wayTo_10
theorem t_X3_byTeeth {μ : Mm} {a0 : Nat} {p1 : Int32} {x : Int32} (h : f_X3_byTeeth μ a0 p1 = some x) : tg μ a0 = 4 := by
  unfold f_X3_byTeeth at h
  exact (gsn h).1
set_option maxHeartbeats 4000000 in
set_option maxRecDepth 100000 in
theorem c_X3_byTeeth (l : Launch) (G : CG) (μ : Mm) (a0 : Nat) (p1 : Int32) (x : Int32) (h : f_X3_byTeeth μ a0 p1 = some x) : Met l yX3_byTeeth (.code yX3_byTeeth cX3_byTeeth 2 (some .int) :: UW) (rmk 1 0 0 0) (PC G [.ref a0, .int p1] μ) (QI G x μ) 0 0 (fA G) := by
  refine Met.ofW (cc := cX3_byTeeth) (maxL := 2) (ret := (some .int)) (by decide) rfl ?_
  intro p e s m args below meth c s₁ B hml hv
  obtain ⟨X, hH, hr, rfl, hnm⟩ := cx_in B hml hv
  have X : Cx p s m _ meth c cX3_byTeeth 2 RX3 G := X
  have hx := X.1
  have hb := X.2.1
  have hown := X.2.2.2.1
  have hts := X.2.2.2.2.1
  have hRL : RmL (rmk 1 0 0 0) 1 0 := ⟨Nat.le_refl _, Nat.le_refl _⟩
  have hcs : 0 ≤ (rmk 0 0 0 0).cells ∧ 0 ≤ (rmk 0 0 0 0).slots := ⟨Nat.zero_le _, Nat.zero_le _⟩
  refine ls_in (Nat.le_of_ble_eq_true rfl) (fun ls hl => ?_)
  have hl : lv_has ls 2 [(0, .ref a0), (1, .int p1)] := hl
  unfold f_X3_byTeeth at h
  obtain ⟨htg, h⟩ := gsn h
  refine lv_aload_n hx hb dX3_byTeeth_0 rfl (lv_at hl 0 rfl) ?_
  obtain ⟨x1, hx1, h⟩ := bnd h
  refine gf_X3_30 X hH hx1 dX3_byTeeth_1 ?_
  refine lv_iconst (v := 1) hx hb dX3_byTeeth_4 (by decide) ?_
  refine lv_icmp_ge (tgt := 12) hx hb dX3_byTeeth_5 (by decide) (fun hc2 => ?_) (fun hc2 => ?_)
  · replace h := ift h hc2
    refine lv_iload_n hx hb dX3_byTeeth_12 rfl (lv_at hl 1 rfl) ?_
    refine lv_aload_n hx hb dX3_byTeeth_13 rfl (lv_at hl 0 rfl) ?_
    obtain ⟨x3, hx3, h⟩ := bnd h
    refine gf_X3_30 X hH hx3 dX3_byTeeth_14 ?_
    obtain ⟨hd4, h⟩ := gsf h
    refine lv_idiv hx hb dX3_byTeeth_17 hd4 ?_
    exact eIp X hH h hr dX3_byTeeth_18
  · replace h := iff' h hc2
    refine lv_iconst (v := 0) hx hb dX3_byTeeth_8 (by decide) ?_
    refine lv_goto (tgt := 18) hx hb dX3_byTeeth_9 (by decide) ?_
    exact eIp X hH h hr dX3_byTeeth_18
set_option maxHeartbeats 1000000 in
theorem iv_X3_131 {p : Program} {e : Env} {R : Room} {s : State} {m : MethodId} {args : Array Value} {below : List Frame} {meth : Method} {c : Code} {H : Heap} {locs : List Loc} {cells slots : Nat} {Q : State → Prop} {cc : ByteArray} {pc : Nat} {ls : Array Slot} {rest : List Value} {nL : Nat} {G : CG} {μ : Mm} {a : Nat} {q0 : Int32} {x : Int32} {k k2 : Nat} (l : Launch) (X : Cx p s m args meth c cc nL RX3 G) (hH : HS G s μ H locs) (hRL : RmL R k k2) (hk : 1 + 1 ≤ k ∧ 21 ≤ k2) (h : f_X3_byTeeth μ a q0 = some x) (hls : ls.size = nL) (hroom : (rest.map fun v => v.category).sum ≤ 8) (hdg : decode cc pc = .ok (.invokevirtual 131, 3)) (hcs : cells + 0 ≤ R.cells ∧ slots + 0 ≤ R.slots) (kk : ∀ (H1 : Heap) (locs1 : List Loc), HS G s μ H1 locs1 → W p l e R s m args below meth c H1 locs1 cells slots Q (F0 m (pc + 3) ls (.int x :: rest))) : W p l e R s m args below meth c H locs cells slots Q (F0 m pc ls (.int q0 :: .ref a :: rest)) := by
  refine kI hH (rV (As := [.int q0]) (rest := rest) X hH (t_X3_byTeeth h) vc_3 (c_X3_byTeeth l G μ a q0 x h) (List.forall_mem_cons.mpr ⟨u_368, (List.forall_mem_cons.mpr ⟨u_369, (List.forall_mem_cons.mpr ⟨u_370, (List.forall_mem_cons.mpr ⟨u_22, (fun _ h9 => absurd h9 List.not_mem_nil)⟩)⟩)⟩)⟩) u_371 (rmo hRL (Nat.le_trans (by decide) hk.1) (Nat.le_trans (by decide) hk.2)) ddV_X3_byTeeth rfl hls rfl hroom hdg hcs) kk
set_option maxHeartbeats 1000000 in
theorem iv_X3_134 {p : Program} {e : Env} {R : Room} {s : State} {m : MethodId} {args : Array Value} {below : List Frame} {meth : Method} {c : Code} {H : Heap} {locs : List Loc} {cells slots : Nat} {Q : State → Prop} {cc : ByteArray} {pc : Nat} {ls : Array Slot} {rest : List Value} {nL : Nat} {G : CG} {μ : Mm} {a : Nat} {q0 : Int32} {x : Int32} {k k2 : Nat} (l : Launch) (X : Cx p s m args meth c cc nL RX3 G) (hH : HS G s μ H locs) (hRL : RmL R k k2) (hk : 2 + 1 ≤ k ∧ 42 ≤ k2) (h : f_X3_hasRentAt μ a q0 = some x) (hls : ls.size = nL) (hroom : (rest.map fun v => v.category).sum ≤ 8) (hdg : decode cc pc = .ok (.invokevirtual 134, 3)) (hcs : cells + 0 ≤ R.cells ∧ slots + 0 ≤ R.slots) (kk : ∀ (H1 : Heap) (locs1 : List Loc), HS G s μ H1 locs1 → W p l e R s m args below meth c H1 locs1 cells slots Q (F0 m (pc + 3) ls (.int x :: rest))) : W p l e R s m args below meth c H locs cells slots Q (F0 m pc ls (.int q0 :: .ref a :: rest)) := by
  refine kI hH (rV (As := [.int q0]) (rest := rest) X hH (t_X3_hasRentAt h) vc_3 (c_X3_hasRentAt l G μ a q0 x h) (List.forall_mem_cons.mpr ⟨u_382, (List.forall_mem_cons.mpr ⟨u_383, (List.forall_mem_cons.mpr ⟨u_384, (List.forall_mem_cons.mpr ⟨u_22, (fun _ h9 => absurd h9 List.not_mem_nil)⟩)⟩)⟩)⟩) u_385 (rmo hRL (Nat.le_trans (by decide) hk.1) (Nat.le_trans (by decide) hk.2)) ddV_X3_hasRentAt rfl hls rfl hroom hdg hcs) kk
theorem t_X3_takeWalk {μ : Mm} {a0 : Nat} {p1 : Int32} {x : Mm} (h : f_X3_takeWalk μ a0 p1 = some x) : tg μ a0 = 4 := by
  unfold f_X3_takeWalk at h
  exact (gsn h).1
set_option maxHeartbeats 4000000 in
set_option maxRecDepth 100000 in
theorem c_X3_takeWalk (l : Launch) (G : CG) (μ : Mm) (a0 : Nat) (p1 : Int32) (x : Mm) (h : f_X3_takeWalk μ a0 p1 = some x) : Met l yX3_takeWalk (.code yX3_takeWalk cX3_takeWalk 4 none :: UW) (rmk 4 64 0 0) (PC G [.ref a0, .int p1] μ) (QV G x) 0 0 (fA G) := by
  refine Met.ofW (cc := cX3_takeWalk) (maxL := 4) (ret := none) (by decide) rfl ?_
  intro p e s m args below meth c s₁ B hml hv
  obtain ⟨X, hH, hr, rfl, hnm⟩ := cx_in B hml hv
  have X : Cx p s m _ meth c cX3_takeWalk 4 RX3 G := X
  have hx := X.1
  have hb := X.2.1
  have hown := X.2.2.2.1
  have hts := X.2.2.2.2.1
  have hRL : RmL (rmk 4 64 0 0) 4 64 := ⟨Nat.le_refl _, Nat.le_refl _⟩
  have hcs : 0 ≤ (rmk 0 0 0 0).cells ∧ 0 ≤ (rmk 0 0 0 0).slots := ⟨Nat.zero_le _, Nat.zero_le _⟩
  refine ls_in (Nat.le_of_ble_eq_true rfl) (fun ls hl => ?_)
  have hl : lv_has ls 4 [(0, .ref a0), (1, .int p1)] := hl
  unfold f_X3_takeWalk at h
  obtain ⟨htg, h⟩ := gsn h
  refine lv_aload_n hx hb dX3_takeWalk_0 rfl (lv_at hl 0 rfl) ?_
  obtain ⟨x1, hx1, h⟩ := bnd h
  refine gf_X3_11 X hH hx1 dX3_takeWalk_1 ?_
  refine lv_iload_n hx hb dX3_takeWalk_4 rfl (lv_at hl 1 rfl) ?_
  obtain ⟨x2, hx2, h⟩ := bnd h
  refine w_aP X hH hx2 (by decide) (k := 4) rfl dX3_takeWalk_5 ?_
  refine lv_aload_n hx hb dX3_takeWalk_6 rfl (lv_at hl 0 rfl) ?_
  obtain ⟨x3, hx3, h⟩ := bnd h
  refine gf_X3_42 X hH hx3 dX3_takeWalk_7 ?_
  obtain ⟨x4, hx4, h⟩ := bnd h
  refine iv_X3_105 l X hH hRL (by decide) hx4 hl.1 (Nat.le_of_ble_eq_true rfl) dX3_takeWalk_10 hcs (fun H locs hH => ?_)
  refine lv_istore_n (lv' := [(2, .int x4), (0, .ref a0), (1, .int p1)]) hx hb dX3_takeWalk_13 rfl hl (by decide) rfl (fun ls hl => ?_)
  refine lv_aload_n hx hb dX3_takeWalk_14 rfl (lv_at hl 1 rfl) ?_
  obtain ⟨x5, hx5, h⟩ := bnd h
  refine gf_X3_36 X hH hx5 dX3_takeWalk_15 ?_
  refine lv_iload_n hx hb dX3_takeWalk_18 rfl (lv_at hl 0 rfl) ?_
  refine lv_iadd hx hb dX3_takeWalk_19 ?_
  refine lv_istore_n (lv' := [(3, .int (x5 + x4)), (2, .int x4), (0, .ref a0), (1, .int p1)]) hx hb dX3_takeWalk_20 rfl hl (by decide) rfl (fun ls hl => ?_)
  refine lv_aload_n hx hb dX3_takeWalk_21 rfl (lv_at hl 2 rfl) ?_
  refine lv_dup hx hb dX3_takeWalk_22 rfl ?_
  obtain ⟨x6, hx6, h⟩ := bnd h
  refine gf_X3_39 X hH hx6 dX3_takeWalk_23 ?_
  refine lv_aload_n hx hb dX3_takeWalk_26 rfl (lv_at hl 2 rfl) ?_
  refine lv_iload_n hx hb dX3_takeWalk_27 rfl (lv_at hl 0 rfl) ?_
  obtain ⟨x7, hx7, h⟩ := bnd h
  refine iv_X3_131 l X hH hRL (by decide) hx7 hl.1 (Nat.le_of_ble_eq_true rfl) dX3_takeWalk_28 hcs (fun H locs hH => ?_)
  refine lv_iadd hx hb dX3_takeWalk_31 ?_
  obtain ⟨x8, hx8, h⟩ := bnd h
  refine pf_X3_39 X hH hx8 dX3_takeWalk_32 (fun H locs hH => ?_)
  refine lv_aload_n hx hb dX3_takeWalk_35 rfl (lv_at hl 2 rfl) ?_
  refine lv_aload_n hx hb dX3_takeWalk_36 rfl (lv_at hl 2 rfl) ?_
  refine lv_iload_n hx hb dX3_takeWalk_37 rfl (lv_at hl 0 rfl) ?_
  obtain ⟨x9, hx9, h⟩ := bnd h
  refine iv_X3_113 l X hH hRL (by decide) hx9 hl.1 (Nat.le_of_ble_eq_true rfl) dX3_takeWalk_38 hcs (fun H locs hH => ?_)
  obtain ⟨x10, hx10, h⟩ := bnd h
  refine pf_X3_36 X hH hx10 dX3_takeWalk_41 (fun H locs hH => ?_)
  refine lv_aload_n hx hb dX3_takeWalk_44 rfl (lv_at hl 2 rfl) ?_
  refine lv_dup hx hb dX3_takeWalk_45 rfl ?_
  obtain ⟨x11, hx11, h⟩ := bnd h
  refine gf_X3_45 X hH hx11 dX3_takeWalk_46 ?_
  refine lv_aload_n hx hb dX3_takeWalk_49 rfl (lv_at hl 2 rfl) ?_
  refine lv_aload_n hx hb dX3_takeWalk_50 rfl (lv_at hl 2 rfl) ?_
  obtain ⟨x12, hx12, h⟩ := bnd h
  refine gf_X3_36 X hH hx12 dX3_takeWalk_51 ?_
  obtain ⟨x13, hx13, h⟩ := bnd h
  refine iv_X3_134 l X hH hRL (by decide) hx13 hl.1 (Nat.le_of_ble_eq_true rfl) dX3_takeWalk_54 hcs (fun H locs hH => ?_)
  obtain ⟨x14, hbx14, hx14⟩ := bnd h
  clear h
  refine jn_lem (G := G) (x := x14) (M := 65) (nL := 4) (fun x14 => x10) (fun x14 => [(0, .ref a0), (1, .int p1), (2, .int x4)]) (fun x14 => [.int x14, .int x11, .ref a0]) (fun H locs ls hH hl => ?_) (fun jnx14 => ?_)
  · have h := hx14
    clear hx14 hbx14
    refine lv_iadd hx hb dX3_takeWalk_65 ?_
    obtain ⟨x16, hx16, h⟩ := bnd h
    refine pf_X3_45 X hH hx16 dX3_takeWalk_66 (fun H locs hH => ?_)
    refine lv_aload_n hx hb dX3_takeWalk_69 rfl (lv_at hl 0 rfl) ?_
    refine lv_dup hx hb dX3_takeWalk_70 rfl ?_
    obtain ⟨x17, hx17, h⟩ := bnd h
    refine gf_X3_48 X hH hx17 dX3_takeWalk_71 ?_
    refine lv_iconst (v := 1) hx hb dX3_takeWalk_74 (by decide) ?_
    refine lv_iadd hx hb dX3_takeWalk_75 ?_
    obtain ⟨x18, hx18, h⟩ := bnd h
    refine pf_X3_48 X hH hx18 dX3_takeWalk_76 (fun H locs hH => ?_)
    refine lv_aload_n hx hb dX3_takeWalk_79 rfl (lv_at hl 0 rfl) ?_
    refine lv_dup hx hb dX3_takeWalk_80 rfl ?_
    obtain ⟨x19, hx19, h⟩ := bnd h
    refine gf_X3_51 X hH hx19 dX3_takeWalk_81 ?_
    refine lv_iload_n hx hb dX3_takeWalk_84 rfl (lv_at hl 2 rfl) ?_
    refine lv_iadd hx hb dX3_takeWalk_85 ?_
    obtain ⟨x20, hx20, h⟩ := bnd h
    refine pf_X3_51 X hH hx20 dX3_takeWalk_86 (fun H locs hH => ?_)
    refine lv_aload_n hx hb dX3_takeWalk_89 rfl (lv_at hl 0 rfl) ?_
    obtain ⟨x21, hx21, h⟩ := bnd h
    refine gf_X3_11 X hH hx21 dX3_takeWalk_90 ?_
    refine lv_iload_n hx hb dX3_takeWalk_93 rfl (lv_at hl 1 rfl) ?_
    obtain ⟨x22, hx22, h⟩ := bnd h
    refine w_aP X hH hx22 (by decide) (k := 4) rfl dX3_takeWalk_94 ?_
    refine lv_dup hx hb dX3_takeWalk_95 rfl ?_
    obtain ⟨x23, hx23, h⟩ := bnd h
    refine gf_X3_122 X hH hx23 dX3_takeWalk_96 ?_
    refine lv_iconst (v := 1) hx hb dX3_takeWalk_99 (by decide) ?_
    refine lv_iadd hx hb dX3_takeWalk_100 ?_
    obtain ⟨x24, hx24, h⟩ := bnd h
    refine pf_X3_122 X hH hx24 dX3_takeWalk_101 (fun H locs hH => ?_)
    exact eV X hH h hr dX3_takeWalk_104 (Nat.le_of_ble_eq_true rfl) (Nat.le_of_ble_eq_true rfl)
  · have h := hbx14
    clear hx14 hbx14
    refine lv_if_eq (tgt := 64) hx hb dX3_takeWalk_57 (by decide) (fun hc15 => ?_) (fun hc15 => ?_)
    · replace h := ift h hc15
      refine lv_iconst (v := 0) hx hb dX3_takeWalk_64 (by decide) ?_
      cases h
      exact jnx14 _ _ _ hH (lv_sub hl [2, 3, 1] rfl)
    · replace h := iff' h hc15
      refine lv_iconst (v := 1) hx hb dX3_takeWalk_60 (by decide) ?_
      refine lv_goto (tgt := 65) hx hb dX3_takeWalk_61 (by decide) ?_
      cases h
      exact jnx14 _ _ _ hH (lv_sub hl [2, 3, 1] rfl)
