set_option maxHeartbeats 1000000 in
theorem iv_X11_79 {p : Program} {e : Env} {R : Room} {s : State} {m : MethodId} {args : Array Value} {below : List Frame} {meth : Method} {c : Code} {H : Heap} {locs : List Loc} {cells slots : Nat} {Q : State → Prop} {cc : ByteArray} {pc : Nat} {ls : Array Slot} {rest : List Value} {nL : Nat} {G : CG} {μ : Mm} {a : Nat} {q0 : Nat} {q1 : Int32} {q2 : Int32} {q3 : Int32} {x : Int32 × Mm} {k : Nat} (l : Launch) (X : Cx p s m args meth c cc nL RX11 G) (hH : HS G s μ H locs) (hRL : RmL R k) (hk : 2 + 1 ≤ k) (h : f_X11_open μ a q0 q1 q2 q3 = some x) (hls : ls.size = nL) (hroom : (rest.map fun v => v.category).sum ≤ 8) (hdg : decode cc pc = .ok (.invokevirtual 79, 3)) (hcs : cells + 0 ≤ R.cells ∧ slots + 0 ≤ R.slots) (kk : ∀ (H1 : Heap) (locs1 : List Loc), HS G s x.2 H1 locs1 → W p l e R s m args below meth c H1 locs1 cells slots Q (F0 m (pc + 3) ls (.int x.1 :: rest))) : W p l e R s m args below meth c H locs cells slots Q (F0 m pc ls (.int q3 :: .int q2 :: .int q1 :: .ref q0 :: .ref a :: rest)) := by
  refine kI hH (rV (As := [.ref q0, .int q1, .int q2, .int q3]) (rest := rest) X hH (t_X11_open h) vc_11 (c_X11_open l G μ a q0 q1 q2 q3 x h) (List.forall_mem_cons.mpr ⟨u_334, (List.forall_mem_cons.mpr ⟨u_336, (List.forall_mem_cons.mpr ⟨u_0, (List.forall_mem_cons.mpr ⟨u_60, (fun _ h9 => absurd h9 List.not_mem_nil)⟩)⟩)⟩)⟩) u_337 (rmo hRL (Nat.le_trans (by decide) hk) (by decide)) ddV_X11_open rfl hls rfl hroom hdg hcs) kk
theorem t_X11_row {μ : Mm} {a0 : Nat} {p1 : Int32} {p2 : Int32} {x : Int32 × Mm} (h : f_X11_row μ a0 p1 p2 = some x) : tg μ a0 = 12 := by
  unfold f_X11_row at h
  exact (gsn h).1
set_option maxHeartbeats 4000000 in
set_option maxRecDepth 100000 in
theorem c_X11_row (l : Launch) (G : CG) (μ : Mm) (a0 : Nat) (p1 : Int32) (p2 : Int32) (x : Int32 × Mm) (h : f_X11_row μ a0 p1 p2 = some x) : Met l yX11_row (.code yX11_row cX11_row 3 (some .int) :: UW) (rmk 3 0 0) (PC G [.ref a0, .int p1, .int p2] μ) (QI G x.1 x.2) 0 0 (fA G) := by
  refine Met.ofW (cc := cX11_row) (maxL := 3) (ret := (some .int)) (by decide) rfl ?_
  intro p e s m args below meth c s₁ B hml hv
  obtain ⟨X, hH, hr, rfl, hnm⟩ := cx_in B hml hv
  have X : Cx p s m _ meth c cX11_row 3 RX11 G := X
  have hx := X.1
  have hb := X.2.1
  have hown := X.2.2.2.1
  have hts := X.2.2.2.2.1
  have hRL : RmL (rmk 3 0 0) 3 := ⟨Nat.le_refl _, Nat.le_refl _⟩
  have hcs : 0 ≤ (rmk 0 0 0).cells ∧ 0 ≤ (rmk 0 0 0).slots := ⟨Nat.zero_le _, Nat.zero_le _⟩
  refine ls_in (Nat.le_of_ble_eq_true rfl) (fun ls hl => ?_)
  have hl : lv_has ls 3 [(0, .ref a0), (1, .int p1), (2, .int p2)] := hl
  unfold f_X11_row at h
  obtain ⟨htg, h⟩ := gsn h
  refine lv_aload_n hx hb dX11_row_0 rfl (lv_at hl 0 rfl) ?_
  refine lv_aload_n hx hb dX11_row_1 rfl (lv_at hl 0 rfl) ?_
  obtain ⟨x1, hx1, h⟩ := bnd h
  refine gf_X11_11 X hH hx1 dX11_row_2 ?_
  refine lv_iload_n hx hb dX11_row_5 rfl (lv_at hl 1 rfl) ?_
  refine lv_iload_n hx hb dX11_row_6 rfl (lv_at hl 2 rfl) ?_
  refine lv_iconst (v := 0) hx hb dX11_row_7 (by decide) ?_
  obtain ⟨x2, hx2, h⟩ := bnd h
  refine iv_X11_79 l X hH hRL (by decide) hx2 hl.1 (Nat.le_of_ble_eq_true rfl) dX11_row_8 hcs (fun H locs hH => ?_)
  exact eI X hH h hr dX11_row_11 (Nat.le_of_ble_eq_true rfl) (Nat.le_of_ble_eq_true rfl)
set_option maxHeartbeats 1000000 in
theorem iv_X11_112 {p : Program} {e : Env} {R : Room} {s : State} {m : MethodId} {args : Array Value} {below : List Frame} {meth : Method} {c : Code} {H : Heap} {locs : List Loc} {cells slots : Nat} {Q : State → Prop} {cc : ByteArray} {pc : Nat} {ls : Array Slot} {rest : List Value} {nL : Nat} {G : CG} {μ : Mm} {a : Nat}  {x : Int32} {k : Nat} (l : Launch) (X : Cx p s m args meth c cc nL RX11 G) (hH : HS G s μ H locs) (hRL : RmL R k) (hk : 1 + 1 ≤ k) (h : f_X8_isThere μ a = some x) (hls : ls.size = nL) (hroom : (rest.map fun v => v.category).sum ≤ 8) (hdg : decode cc pc = .ok (.invokevirtual 112, 3)) (hcs : cells + 0 ≤ R.cells ∧ slots + 0 ≤ R.slots) (kk : ∀ (H1 : Heap) (locs1 : List Loc), HS G s μ H1 locs1 → W p l e R s m args below meth c H1 locs1 cells slots Q (F0 m (pc + 3) ls (.int x :: rest))) : W p l e R s m args below meth c H locs cells slots Q (F0 m pc ls (.ref a :: rest)) := by
  refine kI hH (rV (As := []) (rest := rest) X hH (t_X8_isThere h) vc_8 (c_X8_isThere l G μ a x h) (List.forall_mem_cons.mpr ⟨u_358, (List.forall_mem_cons.mpr ⟨u_359, (List.forall_mem_cons.mpr ⟨u_360, (List.forall_mem_cons.mpr ⟨u_62, (fun _ h9 => absurd h9 List.not_mem_nil)⟩)⟩)⟩)⟩) u_361 (rmo hRL (Nat.le_trans (by decide) hk) (by decide)) ddV_X8_isThere rfl hls rfl hroom hdg hcs) kk
theorem t_X11_refuse {μ : Mm} {a0 : Nat} {p1 : Nat} {p2 : Int32} {x : Int32 × Mm} (h : f_X11_refuse μ a0 p1 p2 = some x) : tg μ a0 = 12 := by
  unfold f_X11_refuse at h
  exact (gsn h).1
set_option maxHeartbeats 4000000 in
set_option maxRecDepth 100000 in
theorem c_X11_refuse (l : Launch) (G : CG) (μ : Mm) (a0 : Nat) (p1 : Nat) (p2 : Int32) (x : Int32 × Mm) (h : f_X11_refuse μ a0 p1 p2 = some x) : Met l yX11_refuse (.code yX11_refuse cX11_refuse 3 (some .int) :: UW) (rmk 2 0 0) (PC G [.ref a0, .ref p1, .int p2] μ) (QI G x.1 x.2) 0 0 (fA G) := by
  refine Met.ofW (cc := cX11_refuse) (maxL := 3) (ret := (some .int)) (by decide) rfl ?_
  intro p e s m args below meth c s₁ B hml hv
  obtain ⟨X, hH, hr, rfl, hnm⟩ := cx_in B hml hv
  have X : Cx p s m _ meth c cX11_refuse 3 RX11 G := X
  have hx := X.1
  have hb := X.2.1
  have hown := X.2.2.2.1
  have hts := X.2.2.2.2.1
  have hRL : RmL (rmk 2 0 0) 2 := ⟨Nat.le_refl _, Nat.le_refl _⟩
  have hcs : 0 ≤ (rmk 0 0 0).cells ∧ 0 ≤ (rmk 0 0 0).slots := ⟨Nat.zero_le _, Nat.zero_le _⟩
  refine ls_in (Nat.le_of_ble_eq_true rfl) (fun ls hl => ?_)
  have hl : lv_has ls 3 [(0, .ref a0), (1, .ref p1), (2, .int p2)] := hl
  unfold f_X11_refuse at h
  obtain ⟨htg, h⟩ := gsn h
  refine lv_aload_n hx hb dX11_refuse_0 rfl (lv_at hl 1 rfl) ?_
  refine lv_iload_n hx hb dX11_refuse_1 rfl (lv_at hl 2 rfl) ?_
  obtain ⟨x1, hx1, h⟩ := bnd h
  refine iv_X11_105 l X hH hRL (by decide) hx1 hl.1 (Nat.le_of_ble_eq_true rfl) dX11_refuse_2 hcs (fun H locs hH => ?_)
  refine lv_if_ne (tgt := 10) hx hb dX11_refuse_5 (by decide) (fun hc2 => ?_) (fun hc2 => ?_)
  · replace h := iff' h hc2
    refine lv_aload_n hx hb dX11_refuse_10 rfl (lv_at hl 1 rfl) ?_
    refine lv_iload_n hx hb dX11_refuse_11 rfl (lv_at hl 2 rfl) ?_
    obtain ⟨x3, hx3, h⟩ := bnd h
    refine w_aP X hH hx3 (by decide) (k := 5) rfl dX11_refuse_12 ?_
    obtain ⟨x4, hx4, h⟩ := bnd h
    refine iv_X11_112 l X hH hRL (by decide) hx4 hl.1 (Nat.le_of_ble_eq_true rfl) dX11_refuse_13 hcs (fun H locs hH => ?_)
    refine lv_if_eq (tgt := 23) hx hb dX11_refuse_16 (by decide) (fun hc5 => ?_) (fun hc5 => ?_)
    · replace h := ift h hc5
      refine lv_aload_n hx hb dX11_refuse_23 rfl (lv_at hl 0 rfl) ?_
      refine lv_iconst (v := 1) hx hb dX11_refuse_24 (by decide) ?_
      obtain ⟨x6, hx6, h⟩ := bnd h
      refine iv_X11_109 l X hH hRL (by decide) hx6 hl.1 (Nat.le_of_ble_eq_true rfl) dX11_refuse_25 hcs (fun H locs hH => ?_)
      exact eI X hH h hr dX11_refuse_28 (Nat.le_of_ble_eq_true rfl) (Nat.le_of_ble_eq_true rfl)
    · replace h := iff' h hc5
      refine lv_iconst (v := 0) hx hb dX11_refuse_19 (by decide) ?_
      refine lv_goto (tgt := 28) hx hb dX11_refuse_20 (by decide) ?_
      exact eI X hH h hr dX11_refuse_28 (Nat.le_of_ble_eq_true rfl) (Nat.le_of_ble_eq_true rfl)
  · replace h := ift h hc2
    refine lv_iconst (v := -1) hx hb dX11_refuse_8 (by decide) ?_
    exact eI X hH h hr dX11_refuse_9 (Nat.le_of_ble_eq_true rfl) (Nat.le_of_ble_eq_true rfl)
set_option maxHeartbeats 1000000 in
theorem iv_X11_98 {p : Program} {e : Env} {R : Room} {s : State} {m : MethodId} {args : Array Value} {below : List Frame} {meth : Method} {c : Code} {H : Heap} {locs : List Loc} {cells slots : Nat} {Q : State → Prop} {cc : ByteArray} {pc : Nat} {ls : Array Slot} {rest : List Value} {nL : Nat} {G : CG} {μ : Mm} {a : Nat} {q0 : Nat} {q1 : Int32} {x : Int32 × Mm} {k : Nat} (l : Launch) (X : Cx p s m args meth c cc nL RX11 G) (hH : HS G s μ H locs) (hRL : RmL R k) (hk : 2 + 1 ≤ k) (h : f_X11_refuse μ a q0 q1 = some x) (hls : ls.size = nL) (hroom : (rest.map fun v => v.category).sum ≤ 8) (hdg : decode cc pc = .ok (.invokevirtual 98, 3)) (hcs : cells + 0 ≤ R.cells ∧ slots + 0 ≤ R.slots) (kk : ∀ (H1 : Heap) (locs1 : List Loc), HS G s x.2 H1 locs1 → W p l e R s m args below meth c H1 locs1 cells slots Q (F0 m (pc + 3) ls (.int x.1 :: rest))) : W p l e R s m args below meth c H locs cells slots Q (F0 m pc ls (.int q1 :: .ref q0 :: .ref a :: rest)) := by
  refine kI hH (rV (As := [.ref q0, .int q1]) (rest := rest) X hH (t_X11_refuse h) vc_11 (c_X11_refuse l G μ a q0 q1 x h) (List.forall_mem_cons.mpr ⟨u_354, (List.forall_mem_cons.mpr ⟨u_356, (List.forall_mem_cons.mpr ⟨u_3, (List.forall_mem_cons.mpr ⟨u_60, (fun _ h9 => absurd h9 List.not_mem_nil)⟩)⟩)⟩)⟩) u_357 (rmo hRL (Nat.le_trans (by decide) hk) (by decide)) ddV_X11_refuse rfl hls rfl hroom hdg hcs) kk
set_option maxHeartbeats 1000000 in
theorem iv_X11_355 {p : Program} {e : Env} {R : Room} {s : State} {m : MethodId} {args : Array Value} {below : List Frame} {meth : Method} {c : Code} {H : Heap} {locs : List Loc} {cells slots : Nat} {Q : State → Prop} {cc : ByteArray} {pc : Nat} {ls : Array Slot} {rest : List Value} {nL : Nat} {G : CG} {μ : Mm} {a : Nat} {q0 : Int32} {x : Int32} {k : Nat} (l : Launch) (X : Cx p s m args meth c cc nL RX11 G) (hH : HS G s μ H locs) (hRL : RmL R k) (hk : 1 + 1 ≤ k) (h : f_X8_has μ a q0 = some x) (hls : ls.size = nL) (hroom : (rest.map fun v => v.category).sum ≤ 8) (hdg : decode cc pc = .ok (.invokevirtual 355, 3)) (hcs : cells + 0 ≤ R.cells ∧ slots + 0 ≤ R.slots) (kk : ∀ (H1 : Heap) (locs1 : List Loc), HS G s μ H1 locs1 → W p l e R s m args below meth c H1 locs1 cells slots Q (F0 m (pc + 3) ls (.int x :: rest))) : W p l e R s m args below meth c H locs cells slots Q (F0 m pc ls (.int q0 :: .ref a :: rest)) := by
  refine kI hH (rV (As := [.int q0]) (rest := rest) X hH (t_X8_has h) vc_8 (c_X8_has l G μ a q0 x h) (List.forall_mem_cons.mpr ⟨u_362, (List.forall_mem_cons.mpr ⟨u_363, (List.forall_mem_cons.mpr ⟨u_364, (List.forall_mem_cons.mpr ⟨u_62, (fun _ h9 => absurd h9 List.not_mem_nil)⟩)⟩)⟩)⟩) u_365 (rmo hRL (Nat.le_trans (by decide) hk) (by decide)) ddV_X8_has rfl hls rfl hroom hdg hcs) kk
theorem t_X11_refusePlace {μ : Mm} {a0 : Nat} {p1 : Nat} {p2 : Int32} {p3 : Int32} {x : Int32 × Mm} (h : f_X11_refusePlace μ a0 p1 p2 p3 = some x) : tg μ a0 = 12 := by
  unfold f_X11_refusePlace at h
  exact (gsn h).1
set_option maxHeartbeats 4000000 in
set_option maxRecDepth 100000 in
theorem c_X11_refusePlace (l : Launch) (G : CG) (μ : Mm) (a0 : Nat) (p1 : Nat) (p2 : Int32) (p3 : Int32) (x : Int32 × Mm) (h : f_X11_refusePlace μ a0 p1 p2 p3 = some x) : Met l yX11_refusePlace (.code yX11_refusePlace cX11_refusePlace 5 (some .int) :: UW) (rmk 3 0 0) (PC G [.ref a0, .ref p1, .int p2, .int p3] μ) (QI G x.1 x.2) 0 0 (fA G) := by
  refine Met.ofW (cc := cX11_refusePlace) (maxL := 5) (ret := (some .int)) (by decide) rfl ?_
  intro p e s m args below meth c s₁ B hml hv
  obtain ⟨X, hH, hr, rfl, hnm⟩ := cx_in B hml hv
  have X : Cx p s m _ meth c cX11_refusePlace 5 RX11 G := X
  have hx := X.1
  have hb := X.2.1
  have hown := X.2.2.2.1
  have hts := X.2.2.2.2.1
  have hRL : RmL (rmk 3 0 0) 3 := ⟨Nat.le_refl _, Nat.le_refl _⟩
  have hcs : 0 ≤ (rmk 0 0 0).cells ∧ 0 ≤ (rmk 0 0 0).slots := ⟨Nat.zero_le _, Nat.zero_le _⟩
  refine ls_in (Nat.le_of_ble_eq_true rfl) (fun ls hl => ?_)
  have hl : lv_has ls 5 [(0, .ref a0), (1, .ref p1), (2, .int p2), (3, .int p3)] := hl
  unfold f_X11_refusePlace at h
  obtain ⟨htg, h⟩ := gsn h
  refine lv_aload_n hx hb dX11_refusePlace_0 rfl (lv_at hl 0 rfl) ?_
  refine lv_aload_n hx hb dX11_refusePlace_1 rfl (lv_at hl 1 rfl) ?_
  refine lv_iload_n hx hb dX11_refusePlace_2 rfl (lv_at hl 2 rfl) ?_
  obtain ⟨x1, hx1, h⟩ := bnd h
  refine iv_X11_98 l X hH hRL (by decide) hx1 hl.1 (Nat.le_of_ble_eq_true rfl) dX11_refusePlace_3 hcs (fun H locs hH => ?_)
  refine lv_istore (lv' := [(4, .int x1.1), (0, .ref a0), (1, .ref p1), (2, .int p2), (3, .int p3)]) hx hb dX11_refusePlace_6 hl (by decide) rfl (fun ls hl => ?_)
  refine lv_iload hx hb dX11_refusePlace_8 (lv_at hl 0 rfl) ?_
  refine lv_if_eq (tgt := 16) hx hb dX11_refusePlace_10 (by decide) (fun hc2 => ?_) (fun hc2 => ?_)
  · replace h := ift h hc2
    refine lv_aload_n hx hb dX11_refusePlace_16 rfl (lv_at hl 2 rfl) ?_
    refine lv_iload_n hx hb dX11_refusePlace_17 rfl (lv_at hl 3 rfl) ?_
    obtain ⟨x3, hx3, h⟩ := bnd h
    refine w_aP X hH hx3 (by decide) (k := 5) rfl dX11_refusePlace_18 ?_
    refine lv_iload_n hx hb dX11_refusePlace_19 rfl (lv_at hl 4 rfl) ?_
    obtain ⟨x4, hx4, h⟩ := bnd h
    refine iv_X11_355 l X hH hRL (by decide) hx4 hl.1 (Nat.le_of_ble_eq_true rfl) dX11_refusePlace_20 hcs (fun H locs hH => ?_)
    refine lv_if_eq (tgt := 30) hx hb dX11_refusePlace_23 (by decide) (fun hc5 => ?_) (fun hc5 => ?_)
    · replace h := ift h hc5
      refine lv_aload_n hx hb dX11_refusePlace_30 rfl (lv_at hl 1 rfl) ?_
      refine lv_iconst (v := 2) hx hb dX11_refusePlace_31 (by decide) ?_
      obtain ⟨x6, hx6, h⟩ := bnd h
      refine iv_X11_109 l X hH hRL (by decide) hx6 hl.1 (Nat.le_of_ble_eq_true rfl) dX11_refusePlace_32 hcs (fun H locs hH => ?_)
      exact eI X hH h hr dX11_refusePlace_35 (Nat.le_of_ble_eq_true rfl) (Nat.le_of_ble_eq_true rfl)
    · replace h := iff' h hc5
      refine lv_iconst (v := 0) hx hb dX11_refusePlace_26 (by decide) ?_
      refine lv_goto (tgt := 35) hx hb dX11_refusePlace_27 (by decide) ?_
      exact eI X hH h hr dX11_refusePlace_35 (Nat.le_of_ble_eq_true rfl) (Nat.le_of_ble_eq_true rfl)
  · replace h := iff' h hc2
    refine lv_iload hx hb dX11_refusePlace_13 (lv_at hl 0 rfl) ?_
    exact eI X hH h hr dX11_refusePlace_15 (Nat.le_of_ble_eq_true rfl) (Nat.le_of_ble_eq_true rfl)
theorem t_X11_tell {μ : Mm} {a0 : Nat} {p1 : Int32} {x : Int32 × Mm} (h : f_X11_tell μ a0 p1 = some x) : tg μ a0 = 12 := by
  unfold f_X11_tell at h
  exact (gsn h).1
set_option maxHeartbeats 4000000 in
set_option maxRecDepth 100000 in
theorem c_X11_tell (l : Launch) (G : CG) (μ : Mm) (a0 : Nat) (p1 : Int32) (x : Int32 × Mm) (h : f_X11_tell μ a0 p1 = some x) : Met l yX11_tell (.code yX11_tell cX11_tell 2 (some .int) :: UW) (rmk 1 0 0) (PC G [.ref a0, .int p1] μ) (QI G x.1 x.2) 0 0 (fA G) := by
  refine Met.ofW (cc := cX11_tell) (maxL := 2) (ret := (some .int)) (by decide) rfl ?_
  intro p e s m args below meth c s₁ B hml hv
  obtain ⟨X, hH, hr, rfl, hnm⟩ := cx_in B hml hv
  have X : Cx p s m _ meth c cX11_tell 2 RX11 G := X
  have hx := X.1
  have hb := X.2.1
  have hown := X.2.2.2.1
  have hts := X.2.2.2.2.1
  have hRL : RmL (rmk 1 0 0) 1 := ⟨Nat.le_refl _, Nat.le_refl _⟩
  have hcs : 0 ≤ (rmk 0 0 0).cells ∧ 0 ≤ (rmk 0 0 0).slots := ⟨Nat.zero_le _, Nat.zero_le _⟩
  refine ls_in (Nat.le_of_ble_eq_true rfl) (fun ls hl => ?_)
  have hl : lv_has ls 2 [(0, .ref a0), (1, .int p1)] := hl
  unfold f_X11_tell at h
  obtain ⟨htg, h⟩ := gsn h
  refine lv_aload_n hx hb dX11_tell_0 rfl (lv_at hl 0 rfl) ?_
  refine lv_iload_n hx hb dX11_tell_1 rfl (lv_at hl 1 rfl) ?_
  obtain ⟨x1, hx1, h⟩ := bnd h
  refine pf_X11_69 X hH hx1 dX11_tell_2 (fun H locs hH => ?_)
  refine lv_iconst (v := 1) hx hb dX11_tell_5 (by decide) ?_
  exact eI X hH h hr dX11_tell_6 (Nat.le_of_ble_eq_true rfl) (Nat.le_of_ble_eq_true rfl)
set_option maxHeartbeats 1000000 in
theorem iv_X11_83 {p : Program} {e : Env} {R : Room} {s : State} {m : MethodId} {args : Array Value} {below : List Frame} {meth : Method} {c : Code} {H : Heap} {locs : List Loc} {cells slots : Nat} {Q : State → Prop} {cc : ByteArray} {pc : Nat} {ls : Array Slot} {rest : List Value} {nL : Nat} {G : CG} {μ : Mm} {a : Nat} {q0 : Nat} {q1 : Int32} {q2 : Int32} {x : Int32 × Mm} {k : Nat} (l : Launch) (X : Cx p s m args meth c cc nL RX11 G) (hH : HS G s μ H locs) (hRL : RmL R k) (hk : 3 + 1 ≤ k) (h : f_X11_refusePlace μ a q0 q1 q2 = some x) (hls : ls.size = nL) (hroom : (rest.map fun v => v.category).sum ≤ 8) (hdg : decode cc pc = .ok (.invokevirtual 83, 3)) (hcs : cells + 0 ≤ R.cells ∧ slots + 0 ≤ R.slots) (kk : ∀ (H1 : Heap) (locs1 : List Loc), HS G s x.2 H1 locs1 → W p l e R s m args below meth c H1 locs1 cells slots Q (F0 m (pc + 3) ls (.int x.1 :: rest))) : W p l e R s m args below meth c H locs cells slots Q (F0 m pc ls (.int q2 :: .int q1 :: .ref q0 :: .ref a :: rest)) := by
  refine kI hH (rV (As := [.ref q0, .int q1, .int q2]) (rest := rest) X hH (t_X11_refusePlace h) vc_11 (c_X11_refusePlace l G μ a q0 q1 q2 x h) (List.forall_mem_cons.mpr ⟨u_350, (List.forall_mem_cons.mpr ⟨u_352, (List.forall_mem_cons.mpr ⟨u_2, (List.forall_mem_cons.mpr ⟨u_60, (fun _ h9 => absurd h9 List.not_mem_nil)⟩)⟩)⟩)⟩) u_353 (rmo hRL (Nat.le_trans (by decide) hk) (by decide)) ddV_X11_refusePlace rfl hls rfl hroom hdg hcs) kk
set_option maxHeartbeats 1000000 in
theorem iv_X11_87 {p : Program} {e : Env} {R : Room} {s : State} {m : MethodId} {args : Array Value} {below : List Frame} {meth : Method} {c : Code} {H : Heap} {locs : List Loc} {cells slots : Nat} {Q : State → Prop} {cc : ByteArray} {pc : Nat} {ls : Array Slot} {rest : List Value} {nL : Nat} {G : CG} {μ : Mm} {a : Nat} {q0 : Int32} {q1 : Int32} {x : Int32 × Mm} {k : Nat} (l : Launch) (X : Cx p s m args meth c cc nL RX11 G) (hH : HS G s μ H locs) (hRL : RmL R k) (hk : 2 + 1 ≤ k) (h : f_X8_replace μ a q0 q1 = some x) (hls : ls.size = nL) (hroom : (rest.map fun v => v.category).sum ≤ 8) (hdg : decode cc pc = .ok (.invokevirtual 87, 3)) (hcs : cells + 0 ≤ R.cells ∧ slots + 0 ≤ R.slots) (kk : ∀ (H1 : Heap) (locs1 : List Loc), HS G s x.2 H1 locs1 → W p l e R s m args below meth c H1 locs1 cells slots Q (F0 m (pc + 3) ls (.int x.1 :: rest))) : W p l e R s m args below meth c H locs cells slots Q (F0 m pc ls (.int q1 :: .int q0 :: .ref a :: rest)) := by
  refine kI hH (rV (As := [.int q0, .int q1]) (rest := rest) X hH (t_X8_replace h) vc_8 (c_X8_replace l G μ a q0 q1 x h) (List.forall_mem_cons.mpr ⟨u_366, (List.forall_mem_cons.mpr ⟨u_367, (List.forall_mem_cons.mpr ⟨u_368, (List.forall_mem_cons.mpr ⟨u_62, (fun _ h9 => absurd h9 List.not_mem_nil)⟩)⟩)⟩)⟩) u_369 (rmo hRL (Nat.le_trans (by decide) hk) (by decide)) ddV_X8_replace rfl hls rfl hroom hdg hcs) kk
set_option maxHeartbeats 1000000 in
theorem iv_X11_91 {p : Program} {e : Env} {R : Room} {s : State} {m : MethodId} {args : Array Value} {below : List Frame} {meth : Method} {c : Code} {H : Heap} {locs : List Loc} {cells slots : Nat} {Q : State → Prop} {cc : ByteArray} {pc : Nat} {ls : Array Slot} {rest : List Value} {nL : Nat} {G : CG} {μ : Mm} {a : Nat} {q0 : Int32} {x : Int32 × Mm} {k : Nat} (l : Launch) (X : Cx p s m args meth c cc nL RX11 G) (hH : HS G s μ H locs) (hRL : RmL R k) (hk : 1 + 1 ≤ k) (h : f_X11_tell μ a q0 = some x) (hls : ls.size = nL) (hroom : (rest.map fun v => v.category).sum ≤ 8) (hdg : decode cc pc = .ok (.invokevirtual 91, 3)) (hcs : cells + 0 ≤ R.cells ∧ slots + 0 ≤ R.slots) (kk : ∀ (H1 : Heap) (locs1 : List Loc), HS G s x.2 H1 locs1 → W p l e R s m args below meth c H1 locs1 cells slots Q (F0 m (pc + 3) ls (.int x.1 :: rest))) : W p l e R s m args below meth c H locs cells slots Q (F0 m pc ls (.int q0 :: .ref a :: rest)) := by
  refine kI hH (rV (As := [.int q0]) (rest := rest) X hH (t_X11_tell h) vc_11 (c_X11_tell l G μ a q0 x h) (List.forall_mem_cons.mpr ⟨u_371, (List.forall_mem_cons.mpr ⟨u_373, (List.forall_mem_cons.mpr ⟨u_4, (List.forall_mem_cons.mpr ⟨u_60, (fun _ h9 => absurd h9 List.not_mem_nil)⟩)⟩)⟩)⟩) u_374 (rmo hRL (Nat.le_trans (by decide) hk) (by decide)) ddV_X11_tell rfl hls rfl hroom hdg hcs) kk
theorem t_X11_lay {μ : Mm} {a0 : Nat} {p1 : Int32} {p2 : Int32} {p3 : Int32} {x : Int32 × Mm} (h : f_X11_lay μ a0 p1 p2 p3 = some x) : tg μ a0 = 12 := by
  unfold f_X11_lay at h
  exact (gsn h).1
set_option maxHeartbeats 4000000 in
set_option maxRecDepth 100000 in
theorem c_X11_lay (l : Launch) (G : CG) (μ : Mm) (a0 : Nat) (p1 : Int32) (p2 : Int32) (p3 : Int32) (x : Int32 × Mm) (h : f_X11_lay μ a0 p1 p2 p3 = some x) : Met l yX11_lay (.code yX11_lay cX11_lay 5 (some .int) :: UW) (rmk 4 0 0) (PC G [.ref a0, .int p1, .int p2, .int p3] μ) (QI G x.1 x.2) 0 0 (fA G) := by
  refine Met.ofW (cc := cX11_lay) (maxL := 5) (ret := (some .int)) (by decide) rfl ?_
  intro p e s m args below meth c s₁ B hml hv
  obtain ⟨X, hH, hr, rfl, hnm⟩ := cx_in B hml hv
  have X : Cx p s m _ meth c cX11_lay 5 RX11 G := X
  have hx := X.1
  have hb := X.2.1
  have hown := X.2.2.2.1
  have hts := X.2.2.2.2.1
  have hRL : RmL (rmk 4 0 0) 4 := ⟨Nat.le_refl _, Nat.le_refl _⟩
  have hcs : 0 ≤ (rmk 0 0 0).cells ∧ 0 ≤ (rmk 0 0 0).slots := ⟨Nat.zero_le _, Nat.zero_le _⟩
  refine ls_in (Nat.le_of_ble_eq_true rfl) (fun ls hl => ?_)
  have hl : lv_has ls 5 [(0, .ref a0), (1, .int p1), (2, .int p2), (3, .int p3)] := hl
  unfold f_X11_lay at h
  obtain ⟨htg, h⟩ := gsn h
  refine lv_aload_n hx hb dX11_lay_0 rfl (lv_at hl 0 rfl) ?_
  refine lv_aload_n hx hb dX11_lay_1 rfl (lv_at hl 0 rfl) ?_
  obtain ⟨x1, hx1, h⟩ := bnd h
  refine gf_X11_11 X hH hx1 dX11_lay_2 ?_
  refine lv_iload_n hx hb dX11_lay_5 rfl (lv_at hl 1 rfl) ?_
  refine lv_iload_n hx hb dX11_lay_6 rfl (lv_at hl 2 rfl) ?_
  obtain ⟨x2, hx2, h⟩ := bnd h
  refine iv_X11_83 l X hH hRL (by decide) hx2 hl.1 (Nat.le_of_ble_eq_true rfl) dX11_lay_7 hcs (fun H locs hH => ?_)
  refine lv_istore (lv' := [(4, .int x2.1), (0, .ref a0), (1, .int p1), (2, .int p2), (3, .int p3)]) hx hb dX11_lay_10 hl (by decide) rfl (fun ls hl => ?_)
  refine lv_iload hx hb dX11_lay_12 (lv_at hl 0 rfl) ?_
  refine lv_if_eq (tgt := 22) hx hb dX11_lay_14 (by decide) (fun hc3 => ?_) (fun hc3 => ?_)
  · replace h := ift h hc3
    refine lv_aload_n hx hb dX11_lay_22 rfl (lv_at hl 1 rfl) ?_
    refine lv_aload_n hx hb dX11_lay_23 rfl (lv_at hl 1 rfl) ?_
    obtain ⟨x4, hx4, h⟩ := bnd h
    refine gf_X11_11 X hH hx4 dX11_lay_24 ?_
    refine lv_iload_n hx hb dX11_lay_27 rfl (lv_at hl 2 rfl) ?_
    obtain ⟨x5, hx5, h⟩ := bnd h
    refine w_aP X hH hx5 (by decide) (k := 5) rfl dX11_lay_28 ?_
    refine lv_iload_n hx hb dX11_lay_29 rfl (lv_at hl 3 rfl) ?_
    refine lv_iload_n hx hb dX11_lay_30 rfl (lv_at hl 4 rfl) ?_
    obtain ⟨x6, hx6, h⟩ := bnd h
    refine iv_X11_87 l X hH hRL (by decide) hx6 hl.1 (Nat.le_of_ble_eq_true rfl) dX11_lay_31 hcs (fun H locs hH => ?_)
    obtain ⟨x7, hx7, h⟩ := bnd h
    refine iv_X11_91 l X hH hRL (by decide) hx7 hl.1 (Nat.le_of_ble_eq_true rfl) dX11_lay_34 hcs (fun H locs hH => ?_)
    exact eI X hH h hr dX11_lay_37 (Nat.le_of_ble_eq_true rfl) (Nat.le_of_ble_eq_true rfl)
  · replace h := iff' h hc3
    refine lv_iload hx hb dX11_lay_17 (lv_at hl 0 rfl) ?_
    refine lv_goto (tgt := 37) hx hb dX11_lay_19 (by decide) ?_
    exact eI X hH h hr dX11_lay_37 (Nat.le_of_ble_eq_true rfl) (Nat.le_of_ble_eq_true rfl)
theorem t_X11_at {μ : Mm} {a0 : Nat} {p1 : Int32} {p2 : Int32} {x : Int32 × Mm} (h : f_X11_at μ a0 p1 p2 = some x) : tg μ a0 = 12 := by
  unfold f_X11_at at h
  exact (gsn h).1
set_option maxHeartbeats 4000000 in
set_option maxRecDepth 100000 in
theorem c_X11_at (l : Launch) (G : CG) (μ : Mm) (a0 : Nat) (p1 : Int32) (p2 : Int32) (x : Int32 × Mm) (h : f_X11_at μ a0 p1 p2 = some x) : Met l yX11_at (.code yX11_at cX11_at 4 (some .int) :: UW) (rmk 4 0 0) (PC G [.ref a0, .int p1, .int p2] μ) (QI G x.1 x.2) 0 0 (fA G) := by
  refine Met.ofW (cc := cX11_at) (maxL := 4) (ret := (some .int)) (by decide) rfl ?_
  intro p e s m args below meth c s₁ B hml hv
  obtain ⟨X, hH, hr, rfl, hnm⟩ := cx_in B hml hv
  have X : Cx p s m _ meth c cX11_at 4 RX11 G := X
  have hx := X.1
  have hb := X.2.1
  have hown := X.2.2.2.1
  have hts := X.2.2.2.2.1
  have hRL : RmL (rmk 4 0 0) 4 := ⟨Nat.le_refl _, Nat.le_refl _⟩
  have hcs : 0 ≤ (rmk 0 0 0).cells ∧ 0 ≤ (rmk 0 0 0).slots := ⟨Nat.zero_le _, Nat.zero_le _⟩
  refine ls_in (Nat.le_of_ble_eq_true rfl) (fun ls hl => ?_)
  have hl : lv_has ls 4 [(0, .ref a0), (1, .int p1), (2, .int p2)] := hl
  unfold f_X11_at at h
  obtain ⟨htg, h⟩ := gsn h
  refine lv_aload_n hx hb dX11_at_0 rfl (lv_at hl 0 rfl) ?_
  refine lv_aload_n hx hb dX11_at_1 rfl (lv_at hl 0 rfl) ?_
  obtain ⟨x1, hx1, h⟩ := bnd h
  refine gf_X11_11 X hH hx1 dX11_at_2 ?_
  refine lv_iload_n hx hb dX11_at_5 rfl (lv_at hl 1 rfl) ?_
  refine lv_iload_n hx hb dX11_at_6 rfl (lv_at hl 2 rfl) ?_
  obtain ⟨x2, hx2, h⟩ := bnd h
  refine iv_X11_83 l X hH hRL (by decide) hx2 hl.1 (Nat.le_of_ble_eq_true rfl) dX11_at_7 hcs (fun H locs hH => ?_)
  refine lv_istore_n (lv' := [(3, .int x2.1), (0, .ref a0), (1, .int p1), (2, .int p2)]) hx hb dX11_at_10 rfl hl (by decide) rfl (fun ls hl => ?_)
  refine lv_iload_n hx hb dX11_at_11 rfl (lv_at hl 0 rfl) ?_
  refine lv_if_eq (tgt := 19) hx hb dX11_at_12 (by decide) (fun hc3 => ?_) (fun hc3 => ?_)
  · replace h := ift h hc3
    refine lv_aload_n hx hb dX11_at_19 rfl (lv_at hl 1 rfl) ?_
    refine lv_aload_n hx hb dX11_at_20 rfl (lv_at hl 1 rfl) ?_
    obtain ⟨x4, hx4, h⟩ := bnd h
    refine gf_X11_11 X hH hx4 dX11_at_21 ?_
    refine lv_iload_n hx hb dX11_at_24 rfl (lv_at hl 2 rfl) ?_
    obtain ⟨x5, hx5, h⟩ := bnd h
    refine w_aP X hH hx5 (by decide) (k := 5) rfl dX11_at_25 ?_
    obtain ⟨x6, hx6, h⟩ := bnd h
    refine gf_X11_95 X hH hx6 dX11_at_26 ?_
    refine lv_iload_n hx hb dX11_at_29 rfl (lv_at hl 3 rfl) ?_
    obtain ⟨x7, hx7, h⟩ := bnd h
    refine w_aI X hH hx7 dX11_at_30 ?_
    obtain ⟨x8, hx8, h⟩ := bnd h
    refine iv_X11_91 l X hH hRL (by decide) hx8 hl.1 (Nat.le_of_ble_eq_true rfl) dX11_at_31 hcs (fun H locs hH => ?_)
    exact eI X hH h hr dX11_at_34 (Nat.le_of_ble_eq_true rfl) (Nat.le_of_ble_eq_true rfl)
  · replace h := iff' h hc3
    refine lv_iload_n hx hb dX11_at_15 rfl (lv_at hl 0 rfl) ?_
    refine lv_goto (tgt := 34) hx hb dX11_at_16 (by decide) ?_
    exact eI X hH h hr dX11_at_34 (Nat.le_of_ble_eq_true rfl) (Nat.le_of_ble_eq_true rfl)
set_option maxHeartbeats 1000000 in
theorem iv_X11_102 {p : Program} {e : Env} {R : Room} {s : State} {m : MethodId} {args : Array Value} {below : List Frame} {meth : Method} {c : Code} {H : Heap} {locs : List Loc} {cells slots : Nat} {Q : State → Prop} {cc : ByteArray} {pc : Nat} {ls : Array Slot} {rest : List Value} {nL : Nat} {G : CG} {μ : Mm} {a : Nat}  {x : Mm} {k : Nat} (l : Launch) (X : Cx p s m args meth c cc nL RX11 G) (hH : HS G s μ H locs) (hRL : RmL R k) (hk : 1 + 1 ≤ k) (h : f_X8_close μ a = some x) (hls : ls.size = nL) (hroom : (rest.map fun v => v.category).sum ≤ 8) (hdg : decode cc pc = .ok (.invokevirtual 102, 3)) (hcs : cells + 0 ≤ R.cells ∧ slots + 0 ≤ R.slots) (kk : ∀ (H1 : Heap) (locs1 : List Loc), HS G s x H1 locs1 → W p l e R s m args below meth c H1 locs1 cells slots Q (F0 m (pc + 3) ls rest)) : W p l e R s m args below meth c H locs cells slots Q (F0 m pc ls (.ref a :: rest)) := by
  refine kV0 hH (rV (As := []) (rest := rest) X hH (t_X8_close h) vc_8 (c_X8_close l G μ a x h) (List.forall_mem_cons.mpr ⟨u_383, (List.forall_mem_cons.mpr ⟨u_384, (List.forall_mem_cons.mpr ⟨u_385, (List.forall_mem_cons.mpr ⟨u_62, (fun _ h9 => absurd h9 List.not_mem_nil)⟩)⟩)⟩)⟩) u_386 (rmo hRL (Nat.le_trans (by decide) hk) (by decide)) ddV_X8_close rfl hls rfl hroom hdg hcs) kk
theorem t_X11_tear {μ : Mm} {a0 : Nat} {p1 : Int32} {x : Int32 × Mm} (h : f_X11_tear μ a0 p1 = some x) : tg μ a0 = 12 := by
  unfold f_X11_tear at h
  exact (gsn h).1
set_option maxHeartbeats 4000000 in
set_option maxRecDepth 100000 in
theorem c_X11_tear (l : Launch) (G : CG) (μ : Mm) (a0 : Nat) (p1 : Int32) (x : Int32 × Mm) (h : f_X11_tear μ a0 p1 = some x) : Met l yX11_tear (.code yX11_tear cX11_tear 3 (some .int) :: UW) (rmk 3 0 0) (PC G [.ref a0, .int p1] μ) (QI G x.1 x.2) 0 0 (fA G) := by
  refine Met.ofW (cc := cX11_tear) (maxL := 3) (ret := (some .int)) (by decide) rfl ?_
  intro p e s m args below meth c s₁ B hml hv
  obtain ⟨X, hH, hr, rfl, hnm⟩ := cx_in B hml hv
  have X : Cx p s m _ meth c cX11_tear 3 RX11 G := X
  have hx := X.1
  have hb := X.2.1
  have hown := X.2.2.2.1
  have hts := X.2.2.2.2.1
  have hRL : RmL (rmk 3 0 0) 3 := ⟨Nat.le_refl _, Nat.le_refl _⟩
  have hcs : 0 ≤ (rmk 0 0 0).cells ∧ 0 ≤ (rmk 0 0 0).slots := ⟨Nat.zero_le _, Nat.zero_le _⟩
  refine ls_in (Nat.le_of_ble_eq_true rfl) (fun ls hl => ?_)
  have hl : lv_has ls 3 [(0, .ref a0), (1, .int p1)] := hl
  unfold f_X11_tear at h
  obtain ⟨htg, h⟩ := gsn h
  refine lv_aload_n hx hb dX11_tear_0 rfl (lv_at hl 0 rfl) ?_
  refine lv_aload_n hx hb dX11_tear_1 rfl (lv_at hl 0 rfl) ?_
  obtain ⟨x1, hx1, h⟩ := bnd h
  refine gf_X11_11 X hH hx1 dX11_tear_2 ?_
  refine lv_iload_n hx hb dX11_tear_5 rfl (lv_at hl 1 rfl) ?_
  obtain ⟨x2, hx2, h⟩ := bnd h
  refine iv_X11_98 l X hH hRL (by decide) hx2 hl.1 (Nat.le_of_ble_eq_true rfl) dX11_tear_6 hcs (fun H locs hH => ?_)
  refine lv_istore_n (lv' := [(2, .int x2.1), (0, .ref a0), (1, .int p1)]) hx hb dX11_tear_9 rfl hl (by decide) rfl (fun ls hl => ?_)
  refine lv_iload_n hx hb dX11_tear_10 rfl (lv_at hl 0 rfl) ?_
  refine lv_if_eq (tgt := 16) hx hb dX11_tear_11 (by decide) (fun hc3 => ?_) (fun hc3 => ?_)
  · replace h := ift h hc3
    refine lv_aload_n hx hb dX11_tear_16 rfl (lv_at hl 1 rfl) ?_
    obtain ⟨x4, hx4, h⟩ := bnd h
    refine gf_X11_11 X hH hx4 dX11_tear_17 ?_
    refine lv_iload_n hx hb dX11_tear_20 rfl (lv_at hl 2 rfl) ?_
    obtain ⟨x5, hx5, h⟩ := bnd h
    refine w_aP X hH hx5 (by decide) (k := 5) rfl dX11_tear_21 ?_
    obtain ⟨x6, hx6, h⟩ := bnd h
    refine iv_X11_102 l X hH hRL (by decide) hx6 hl.1 (Nat.le_of_ble_eq_true rfl) dX11_tear_22 hcs (fun H locs hH => ?_)
    refine lv_iconst (v := 1) hx hb dX11_tear_25 (by decide) ?_
    exact eI X hH h hr dX11_tear_26 (Nat.le_of_ble_eq_true rfl) (Nat.le_of_ble_eq_true rfl)
  · replace h := iff' h hc3
    refine lv_iload_n hx hb dX11_tear_14 rfl (lv_at hl 0 rfl) ?_
    exact eI X hH h hr dX11_tear_15 (Nat.le_of_ble_eq_true rfl) (Nat.le_of_ble_eq_true rfl)
set_option maxHeartbeats 1000000 in
theorem iv_X11_116 {p : Program} {e : Env} {R : Room} {s : State} {m : MethodId} {args : Array Value} {below : List Frame} {meth : Method} {c : Code} {H : Heap} {locs : List Loc} {cells slots : Nat} {Q : State → Prop} {cc : ByteArray} {pc : Nat} {ls : Array Slot} {rest : List Value} {nL : Nat} {G : CG} {μ : Mm} {a : Nat} {q0 : Int32} {q1 : Int32} {x : Int32} {k : Nat} (l : Launch) (X : Cx p s m args meth c cc nL RX11 G) (hH : HS G s μ H locs) (hRL : RmL R k) (hk : 1 + 1 ≤ k) (h : f_X8_hasRange μ a q0 q1 = some x) (hls : ls.size = nL) (hroom : (rest.map fun v => v.category).sum ≤ 8) (hdg : decode cc pc = .ok (.invokevirtual 116, 3)) (hcs : cells + 0 ≤ R.cells ∧ slots + 0 ≤ R.slots) (kk : ∀ (H1 : Heap) (locs1 : List Loc), HS G s μ H1 locs1 → W p l e R s m args below meth c H1 locs1 cells slots Q (F0 m (pc + 3) ls (.int x :: rest))) : W p l e R s m args below meth c H locs cells slots Q (F0 m pc ls (.int q1 :: .int q0 :: .ref a :: rest)) := by
  refine kI hH (rV (As := [.int q0, .int q1]) (rest := rest) X hH (t_X8_hasRange h) vc_8 (c_X8_hasRange l G μ a q0 q1 x h) (List.forall_mem_cons.mpr ⟨u_391, (List.forall_mem_cons.mpr ⟨u_392, (List.forall_mem_cons.mpr ⟨u_393, (List.forall_mem_cons.mpr ⟨u_62, (fun _ h9 => absurd h9 List.not_mem_nil)⟩)⟩)⟩)⟩) u_394 (rmo hRL (Nat.le_trans (by decide) hk) (by decide)) ddV_X8_hasRange rfl hls rfl hroom hdg hcs) kk
theorem t_X11_copy {μ : Mm} {a0 : Nat} {p1 : Int32} {p2 : Int32} {p3 : Int32} {p4 : Int32} {p5 : Int32} {x : Int32 × Mm} (h : f_X11_copy μ a0 p1 p2 p3 p4 p5 = some x) : tg μ a0 = 12 := by
  unfold f_X11_copy at h
  exact (gsn h).1
set_option maxHeartbeats 4000000 in
set_option maxRecDepth 100000 in
theorem c_X11_copy (l : Launch) (G : CG) (μ : Mm) (a0 : Nat) (p1 : Int32) (p2 : Int32) (p3 : Int32) (p4 : Int32) (p5 : Int32) (x : Int32 × Mm) (h : f_X11_copy μ a0 p1 p2 p3 p4 p5 = some x) : Met l yX11_copy (.code yX11_copy cX11_copy 6 (some .int) :: UW) (rmk 2 0 0) (PC G [.ref a0, .int p1, .int p2, .int p3, .int p4, .int p5] μ) (QI G x.1 x.2) 0 0 (fA G) := by
  refine Met.ofW (cc := cX11_copy) (maxL := 6) (ret := (some .int)) (by decide) rfl ?_
  intro p e s m args below meth c s₁ B hml hv
  obtain ⟨X, hH, hr, rfl, hnm⟩ := cx_in B hml hv
  have X : Cx p s m _ meth c cX11_copy 6 RX11 G := X
  have hx := X.1
  have hb := X.2.1
  have hown := X.2.2.2.1
  have hts := X.2.2.2.2.1
  have hRL : RmL (rmk 2 0 0) 2 := ⟨Nat.le_refl _, Nat.le_refl _⟩
  have hcs : 0 ≤ (rmk 0 0 0).cells ∧ 0 ≤ (rmk 0 0 0).slots := ⟨Nat.zero_le _, Nat.zero_le _⟩
  refine ls_in (Nat.le_of_ble_eq_true rfl) (fun ls hl => ?_)
  have hl : lv_has ls 6 [(0, .ref a0), (1, .int p1), (2, .int p2), (3, .int p3), (4, .int p4), (5, .int p5)] := hl
  unfold f_X11_copy at h
  obtain ⟨htg, h⟩ := gsn h
  refine lv_aload_n hx hb dX11_copy_0 rfl (lv_at hl 0 rfl) ?_
  obtain ⟨x1, hx1, h⟩ := bnd h
  refine gf_X11_11 X hH hx1 dX11_copy_1 ?_
  refine lv_iload_n hx hb dX11_copy_4 rfl (lv_at hl 1 rfl) ?_
  obtain ⟨x2, hx2, h⟩ := bnd h
  refine iv_X11_105 l X hH hRL (by decide) hx2 hl.1 (Nat.le_of_ble_eq_true rfl) dX11_copy_5 hcs (fun H locs hH => ?_)
  refine lv_if_eq (tgt := 22) hx hb dX11_copy_8 (by decide) (fun hc3 => ?_) (fun hc3 => ?_)
  · replace h := ift h hc3
    refine lv_iconst (v := -1) hx hb dX11_copy_22 (by decide) ?_
    exact eI X hH h hr dX11_copy_23 (Nat.le_of_ble_eq_true rfl) (Nat.le_of_ble_eq_true rfl)
  · replace h := iff' h hc3
    refine lv_aload_n hx hb dX11_copy_11 rfl (lv_at hl 0 rfl) ?_
    obtain ⟨x4, hx4, h⟩ := bnd h
    refine gf_X11_11 X hH hx4 dX11_copy_12 ?_
    refine lv_iload_n hx hb dX11_copy_15 rfl (lv_at hl 3 rfl) ?_
    obtain ⟨x5, hx5, h⟩ := bnd h
    refine iv_X11_105 l X hH hRL (by decide) hx5 hl.1 (Nat.le_of_ble_eq_true rfl) dX11_copy_16 hcs (fun H locs hH => ?_)
    refine lv_if_ne (tgt := 24) hx hb dX11_copy_19 (by decide) (fun hc6 => ?_) (fun hc6 => ?_)
    · replace h := iff' h hc6
      refine lv_iload hx hb dX11_copy_24 (lv_at hl 5 rfl) ?_
      refine lv_if_ge (tgt := 35) hx hb dX11_copy_26 (by decide) (fun hc7 => ?_) (fun hc7 => ?_)
      · replace h := ift h hc7
        refine lv_aload_n hx hb dX11_copy_35 rfl (lv_at hl 0 rfl) ?_
        obtain ⟨x8, hx8, h⟩ := bnd h
        refine gf_X11_11 X hH hx8 dX11_copy_36 ?_
        refine lv_iload_n hx hb dX11_copy_39 rfl (lv_at hl 1 rfl) ?_
        obtain ⟨x9, hx9, h⟩ := bnd h
        refine w_aP X hH hx9 (by decide) (k := 5) rfl dX11_copy_40 ?_
        obtain ⟨x10, hx10, h⟩ := bnd h
        refine iv_X11_112 l X hH hRL (by decide) hx10 hl.1 (Nat.le_of_ble_eq_true rfl) dX11_copy_41 hcs (fun H locs hH => ?_)
        refine lv_if_eq (tgt := 59) hx hb dX11_copy_44 (by decide) (fun hc11 => ?_) (fun hc11 => ?_)
        · replace h := ift h hc11
          refine lv_aload_n hx hb dX11_copy_59 rfl (lv_at hl 0 rfl) ?_
          refine lv_iconst (v := 1) hx hb dX11_copy_60 (by decide) ?_
          obtain ⟨x12, hx12, h⟩ := bnd h
          refine iv_X11_109 l X hH hRL (by decide) hx12 hl.1 (Nat.le_of_ble_eq_true rfl) dX11_copy_61 hcs (fun H locs hH => ?_)
          exact eI X hH h hr dX11_copy_64 (Nat.le_of_ble_eq_true rfl) (Nat.le_of_ble_eq_true rfl)
        · replace h := iff' h hc11
          refine lv_aload_n hx hb dX11_copy_47 rfl (lv_at hl 0 rfl) ?_
          obtain ⟨x13, hx13, h⟩ := bnd h
          refine gf_X11_11 X hH hx13 dX11_copy_48 ?_
          refine lv_iload_n hx hb dX11_copy_51 rfl (lv_at hl 3 rfl) ?_
          obtain ⟨x14, hx14, h⟩ := bnd h
          refine w_aP X hH hx14 (by decide) (k := 5) rfl dX11_copy_52 ?_
          obtain ⟨x15, hx15, h⟩ := bnd h
          refine iv_X11_112 l X hH hRL (by decide) hx15 hl.1 (Nat.le_of_ble_eq_true rfl) dX11_copy_53 hcs (fun H locs hH => ?_)
          refine lv_if_ne (tgt := 65) hx hb dX11_copy_56 (by decide) (fun hc16 => ?_) (fun hc16 => ?_)
          · replace h := iff' h hc16
            refine lv_aload_n hx hb dX11_copy_65 rfl (lv_at hl 0 rfl) ?_
            obtain ⟨x17, hx17, h⟩ := bnd h
            refine gf_X11_11 X hH hx17 dX11_copy_66 ?_
            refine lv_iload_n hx hb dX11_copy_69 rfl (lv_at hl 1 rfl) ?_
            obtain ⟨x18, hx18, h⟩ := bnd h
            refine w_aP X hH hx18 (by decide) (k := 5) rfl dX11_copy_70 ?_
            refine lv_iload_n hx hb dX11_copy_71 rfl (lv_at hl 2 rfl) ?_
            refine lv_iload hx hb dX11_copy_72 (lv_at hl 5 rfl) ?_
            obtain ⟨x19, hx19, h⟩ := bnd h
            refine iv_X11_116 l X hH hRL (by decide) hx19 hl.1 (Nat.le_of_ble_eq_true rfl) dX11_copy_74 hcs (fun H locs hH => ?_)
            refine lv_if_eq (tgt := 96) hx hb dX11_copy_77 (by decide) (fun hc20 => ?_) (fun hc20 => ?_)
            · replace h := ift h hc20
              refine lv_aload_n hx hb dX11_copy_96 rfl (lv_at hl 0 rfl) ?_
              refine lv_iconst (v := 2) hx hb dX11_copy_97 (by decide) ?_
              obtain ⟨x21, hx21, h⟩ := bnd h
              refine iv_X11_109 l X hH hRL (by decide) hx21 hl.1 (Nat.le_of_ble_eq_true rfl) dX11_copy_98 hcs (fun H locs hH => ?_)
              exact eI X hH h hr dX11_copy_101 (Nat.le_of_ble_eq_true rfl) (Nat.le_of_ble_eq_true rfl)
            · replace h := iff' h hc20
              refine lv_aload_n hx hb dX11_copy_80 rfl (lv_at hl 0 rfl) ?_
              obtain ⟨x22, hx22, h⟩ := bnd h
              refine gf_X11_11 X hH hx22 dX11_copy_81 ?_
              refine lv_iload_n hx hb dX11_copy_84 rfl (lv_at hl 3 rfl) ?_
              obtain ⟨x23, hx23, h⟩ := bnd h
              refine w_aP X hH hx23 (by decide) (k := 5) rfl dX11_copy_85 ?_
              refine lv_iload hx hb dX11_copy_86 (lv_at hl 4 rfl) ?_
              refine lv_iload hx hb dX11_copy_88 (lv_at hl 5 rfl) ?_
              obtain ⟨x24, hx24, h⟩ := bnd h
              refine iv_X11_116 l X hH hRL (by decide) hx24 hl.1 (Nat.le_of_ble_eq_true rfl) dX11_copy_90 hcs (fun H locs hH => ?_)
              refine lv_if_ne (tgt := 102) hx hb dX11_copy_93 (by decide) (fun hc25 => ?_) (fun hc25 => ?_)
              · replace h := iff' h hc25
                refine lv_aload_n hx hb dX11_copy_102 rfl (lv_at hl 0 rfl) ?_
                obtain ⟨x26, hx26, h⟩ := bnd h
                refine gf_X11_11 X hH hx26 dX11_copy_103 ?_
                refine lv_iload_n hx hb dX11_copy_106 rfl (lv_at hl 1 rfl) ?_
                obtain ⟨x27, hx27, h⟩ := bnd h
                refine w_aP X hH hx27 (by decide) (k := 5) rfl dX11_copy_107 ?_
                obtain ⟨x28, hx28, h⟩ := bnd h
                refine gf_X11_95 X hH hx28 dX11_copy_108 ?_
                refine lv_iload_n hx hb dX11_copy_111 rfl (lv_at hl 2 rfl) ?_
                refine lv_aload_n hx hb dX11_copy_112 rfl (lv_at hl 0 rfl) ?_
                obtain ⟨x29, hx29, h⟩ := bnd h
                refine gf_X11_11 X hH hx29 dX11_copy_113 ?_
                refine lv_iload_n hx hb dX11_copy_116 rfl (lv_at hl 3 rfl) ?_
                obtain ⟨x30, hx30, h⟩ := bnd h
                refine w_aP X hH hx30 (by decide) (k := 5) rfl dX11_copy_117 ?_
                obtain ⟨x31, hx31, h⟩ := bnd h
                refine gf_X11_95 X hH hx31 dX11_copy_118 ?_
                refine lv_iload hx hb dX11_copy_121 (lv_at hl 4 rfl) ?_
                refine lv_iload hx hb dX11_copy_123 (lv_at hl 5 rfl) ?_
                obtain ⟨x32, hx32, h⟩ := bnd h
                refine w_copy X hH hl.1 hx32 (List.forall_mem_cons.mpr ⟨u_395, (List.forall_mem_cons.mpr ⟨u_397, (List.forall_mem_cons.mpr ⟨u_396, (List.forall_mem_cons.mpr ⟨u_69, (fun _ h9 => absurd h9 List.not_mem_nil)⟩)⟩)⟩)⟩) (Nat.le_trans (by decide) hRL.1) (Nat.le_trans (by decide) hRL.2) dX11_copy_125 (fun H locs hH => ?_)
                refine lv_iconst (v := 1) hx hb dX11_copy_128 (by decide) ?_
                exact eI X hH h hr dX11_copy_129 (Nat.le_of_ble_eq_true rfl) (Nat.le_of_ble_eq_true rfl)
              · replace h := ift h hc25
                refine lv_aload_n hx hb dX11_copy_96 rfl (lv_at hl 0 rfl) ?_
                refine lv_iconst (v := 2) hx hb dX11_copy_97 (by decide) ?_
                obtain ⟨x33, hx33, h⟩ := bnd h
                refine iv_X11_109 l X hH hRL (by decide) hx33 hl.1 (Nat.le_of_ble_eq_true rfl) dX11_copy_98 hcs (fun H locs hH => ?_)
                exact eI X hH h hr dX11_copy_101 (Nat.le_of_ble_eq_true rfl) (Nat.le_of_ble_eq_true rfl)
          · replace h := ift h hc16
            refine lv_aload_n hx hb dX11_copy_59 rfl (lv_at hl 0 rfl) ?_
            refine lv_iconst (v := 1) hx hb dX11_copy_60 (by decide) ?_
            obtain ⟨x34, hx34, h⟩ := bnd h
            refine iv_X11_109 l X hH hRL (by decide) hx34 hl.1 (Nat.le_of_ble_eq_true rfl) dX11_copy_61 hcs (fun H locs hH => ?_)
            exact eI X hH h hr dX11_copy_64 (Nat.le_of_ble_eq_true rfl) (Nat.le_of_ble_eq_true rfl)
      · replace h := iff' h hc7
        refine lv_aload_n hx hb dX11_copy_29 rfl (lv_at hl 0 rfl) ?_
        refine lv_iconst (v := 5) hx hb dX11_copy_30 (by decide) ?_
        obtain ⟨x35, hx35, h⟩ := bnd h
        refine iv_X11_109 l X hH hRL (by decide) hx35 hl.1 (Nat.le_of_ble_eq_true rfl) dX11_copy_31 hcs (fun H locs hH => ?_)
        exact eI X hH h hr dX11_copy_34 (Nat.le_of_ble_eq_true rfl) (Nat.le_of_ble_eq_true rfl)
    · replace h := ift h hc6
      refine lv_iconst (v := -1) hx hb dX11_copy_22 (by decide) ?_
      exact eI X hH h hr dX11_copy_23 (Nat.le_of_ble_eq_true rfl) (Nat.le_of_ble_eq_true rfl)
set_option maxHeartbeats 1000000 in
theorem iv_X11_129 {p : Program} {e : Env} {R : Room} {s : State} {m : MethodId} {args : Array Value} {below : List Frame} {meth : Method} {c : Code} {H : Heap} {locs : List Loc} {cells slots : Nat} {Q : State → Prop} {cc : ByteArray} {pc : Nat} {ls : Array Slot} {rest : List Value} {nL : Nat} {G : CG} {μ : Mm} {a : Nat}  {x : Int64} {k : Nat} (l : Launch) (X : Cx p s m args meth c cc nL RX11 G) (hH : HS G s μ H locs) (hRL : RmL R k) (hk : 1 + 1 ≤ k) (h : f_X8_total μ a = some x) (hls : ls.size = nL) (hroom : (rest.map fun v => v.category).sum ≤ 8) (hdg : decode cc pc = .ok (.invokevirtual 129, 3)) (hcs : cells + 0 ≤ R.cells ∧ slots + 0 ≤ R.slots) (kk : ∀ (H1 : Heap) (locs1 : List Loc), HS G s μ H1 locs1 → W p l e R s m args below meth c H1 locs1 cells slots Q (F0 m (pc + 3) ls (.long x :: rest))) : W p l e R s m args below meth c H locs cells slots Q (F0 m pc ls (.ref a :: rest)) := by
  refine kL hH (rV (As := []) (rest := rest) X hH (t_X8_total h) vc_8 (c_X8_total l G μ a x h) (List.forall_mem_cons.mpr ⟨u_402, (List.forall_mem_cons.mpr ⟨u_403, (List.forall_mem_cons.mpr ⟨u_404, (List.forall_mem_cons.mpr ⟨u_62, (fun _ h9 => absurd h9 List.not_mem_nil)⟩)⟩)⟩)⟩) u_405 (rmo hRL (Nat.le_trans (by decide) hk) (by decide)) ddV_X8_total rfl hls rfl hroom hdg hcs) kk
theorem t_X11_mean {μ : Mm} {a0 : Nat} {p1 : Int32} {x : Int32 × Mm} (h : f_X11_mean μ a0 p1 = some x) : tg μ a0 = 12 := by
  unfold f_X11_mean at h
  exact (gsn h).1
set_option maxHeartbeats 4000000 in
set_option maxRecDepth 100000 in
theorem c_X11_mean (l : Launch) (G : CG) (μ : Mm) (a0 : Nat) (p1 : Int32) (x : Int32 × Mm) (h : f_X11_mean μ a0 p1 = some x) : Met l yX11_mean (.code yX11_mean cX11_mean 3 (some .int) :: UW) (rmk 3 0 0) (PC G [.ref a0, .int p1] μ) (QI G x.1 x.2) 0 0 (fA G) := by
  refine Met.ofW (cc := cX11_mean) (maxL := 3) (ret := (some .int)) (by decide) rfl ?_
  intro p e s m args below meth c s₁ B hml hv
  obtain ⟨X, hH, hr, rfl, hnm⟩ := cx_in B hml hv
  have X : Cx p s m _ meth c cX11_mean 3 RX11 G := X
  have hx := X.1
  have hb := X.2.1
  have hown := X.2.2.2.1
  have hts := X.2.2.2.2.1
  have hRL : RmL (rmk 3 0 0) 3 := ⟨Nat.le_refl _, Nat.le_refl _⟩
  have hcs : 0 ≤ (rmk 0 0 0).cells ∧ 0 ≤ (rmk 0 0 0).slots := ⟨Nat.zero_le _, Nat.zero_le _⟩
  refine ls_in (Nat.le_of_ble_eq_true rfl) (fun ls hl => ?_)
  have hl : lv_has ls 3 [(0, .ref a0), (1, .int p1)] := hl
  unfold f_X11_mean at h
  obtain ⟨htg, h⟩ := gsn h
  refine lv_aload_n hx hb dX11_mean_0 rfl (lv_at hl 0 rfl) ?_
  refine lv_aload_n hx hb dX11_mean_1 rfl (lv_at hl 0 rfl) ?_
  obtain ⟨x1, hx1, h⟩ := bnd h
  refine gf_X11_11 X hH hx1 dX11_mean_2 ?_
  refine lv_iload_n hx hb dX11_mean_5 rfl (lv_at hl 1 rfl) ?_
  obtain ⟨x2, hx2, h⟩ := bnd h
  refine iv_X11_98 l X hH hRL (by decide) hx2 hl.1 (Nat.le_of_ble_eq_true rfl) dX11_mean_6 hcs (fun H locs hH => ?_)
  refine lv_istore_n (lv' := [(2, .int x2.1), (0, .ref a0), (1, .int p1)]) hx hb dX11_mean_9 rfl hl (by decide) rfl (fun ls hl => ?_)
  refine lv_iload_n hx hb dX11_mean_10 rfl (lv_at hl 0 rfl) ?_
  refine lv_if_eq (tgt := 16) hx hb dX11_mean_11 (by decide) (fun hc3 => ?_) (fun hc3 => ?_)
  · replace h := ift h hc3
    refine lv_aload_n hx hb dX11_mean_16 rfl (lv_at hl 1 rfl) ?_
    obtain ⟨x4, hx4, h⟩ := bnd h
    refine gf_X11_11 X hH hx4 dX11_mean_17 ?_
    refine lv_iload_n hx hb dX11_mean_20 rfl (lv_at hl 2 rfl) ?_
    obtain ⟨x5, hx5, h⟩ := bnd h
    refine w_aP X hH hx5 (by decide) (k := 5) rfl dX11_mean_21 ?_
    obtain ⟨x6, hx6, h⟩ := bnd h
    refine gf_X11_126 X hH hx6 dX11_mean_22 ?_
    refine lv_if_ne (tgt := 34) hx hb dX11_mean_25 (by decide) (fun hc7 => ?_) (fun hc7 => ?_)
    · replace h := iff' h hc7
      refine lv_aload_n hx hb dX11_mean_34 rfl (lv_at hl 1 rfl) ?_
      refine lv_aload_n hx hb dX11_mean_35 rfl (lv_at hl 1 rfl) ?_
      obtain ⟨x8, hx8, h⟩ := bnd h
      refine gf_X11_11 X hH hx8 dX11_mean_36 ?_
      refine lv_iload_n hx hb dX11_mean_39 rfl (lv_at hl 2 rfl) ?_
      obtain ⟨x9, hx9, h⟩ := bnd h
      refine w_aP X hH hx9 (by decide) (k := 5) rfl dX11_mean_40 ?_
      obtain ⟨x10, hx10, h⟩ := bnd h
      refine iv_X11_129 l X hH hRL (by decide) hx10 hl.1 (Nat.le_of_ble_eq_true rfl) dX11_mean_41 hcs (fun H locs hH => ?_)
      refine lv_aload_n hx hb dX11_mean_44 rfl (lv_at hl 1 rfl) ?_
      obtain ⟨x11, hx11, h⟩ := bnd h
      refine gf_X11_11 X hH hx11 dX11_mean_45 ?_
      refine lv_iload_n hx hb dX11_mean_48 rfl (lv_at hl 2 rfl) ?_
      obtain ⟨x12, hx12, h⟩ := bnd h
      refine w_aP X hH hx12 (by decide) (k := 5) rfl dX11_mean_49 ?_
      obtain ⟨x13, hx13, h⟩ := bnd h
      refine gf_X11_126 X hH hx13 dX11_mean_50 ?_
      refine lv_i2l hx hb dX11_mean_53 rfl ?_
      obtain ⟨hd14, h⟩ := gsf h
      refine lv_ldiv hx hb dX11_mean_54 hd14 ?_
      refine lv_l2i hx hb dX11_mean_55 rfl ?_
      obtain ⟨x15, hx15, h⟩ := bnd h
      refine iv_X11_91 l X hH hRL (by decide) hx15 hl.1 (Nat.le_of_ble_eq_true rfl) dX11_mean_56 hcs (fun H locs hH => ?_)
      exact eI X hH h hr dX11_mean_59 (Nat.le_of_ble_eq_true rfl) (Nat.le_of_ble_eq_true rfl)
    · replace h := ift h hc7
      refine lv_aload_n hx hb dX11_mean_28 rfl (lv_at hl 1 rfl) ?_
      refine lv_iconst (v := 4) hx hb dX11_mean_29 (by decide) ?_
      obtain ⟨x16, hx16, h⟩ := bnd h
      refine iv_X11_109 l X hH hRL (by decide) hx16 hl.1 (Nat.le_of_ble_eq_true rfl) dX11_mean_30 hcs (fun H locs hH => ?_)
      exact eI X hH h hr dX11_mean_33 (Nat.le_of_ble_eq_true rfl) (Nat.le_of_ble_eq_true rfl)
  · replace h := iff' h hc3
    refine lv_iload_n hx hb dX11_mean_14 rfl (lv_at hl 0 rfl) ?_
    exact eI X hH h hr dX11_mean_15 (Nat.le_of_ble_eq_true rfl) (Nat.le_of_ble_eq_true rfl)
theorem t_X11_text {μ : Mm} {a0 : Nat} {p1 : Int32} {p2 : Int32} {x : Int32 × Mm} (h : f_X11_text μ a0 p1 p2 = some x) : tg μ a0 = 12 := by
  unfold f_X11_text at h
  exact (gsn h).1
set_option maxHeartbeats 4000000 in
set_option maxRecDepth 100000 in
theorem c_X11_text (l : Launch) (G : CG) (μ : Mm) (a0 : Nat) (p1 : Int32) (p2 : Int32) (x : Int32 × Mm) (h : f_X11_text μ a0 p1 p2 = some x) : Met l yX11_text (.code yX11_text cX11_text 3 (some .int) :: UW) (rmk 3 0 0) (PC G [.ref a0, .int p1, .int p2] μ) (QI G x.1 x.2) 0 0 (fA G) := by
  refine Met.ofW (cc := cX11_text) (maxL := 3) (ret := (some .int)) (by decide) rfl ?_
  intro p e s m args below meth c s₁ B hml hv
  obtain ⟨X, hH, hr, rfl, hnm⟩ := cx_in B hml hv
  have X : Cx p s m _ meth c cX11_text 3 RX11 G := X
  have hx := X.1
  have hb := X.2.1
  have hown := X.2.2.2.1
  have hts := X.2.2.2.2.1
  have hRL : RmL (rmk 3 0 0) 3 := ⟨Nat.le_refl _, Nat.le_refl _⟩
  have hcs : 0 ≤ (rmk 0 0 0).cells ∧ 0 ≤ (rmk 0 0 0).slots := ⟨Nat.zero_le _, Nat.zero_le _⟩
  refine ls_in (Nat.le_of_ble_eq_true rfl) (fun ls hl => ?_)
  have hl : lv_has ls 3 [(0, .ref a0), (1, .int p1), (2, .int p2)] := hl
  unfold f_X11_text at h
  obtain ⟨htg, h⟩ := gsn h
  refine lv_aload_n hx hb dX11_text_0 rfl (lv_at hl 0 rfl) ?_
  refine lv_aload_n hx hb dX11_text_1 rfl (lv_at hl 0 rfl) ?_
  obtain ⟨x1, hx1, h⟩ := bnd h
  refine gf_X11_15 X hH hx1 dX11_text_2 ?_
  refine lv_iload_n hx hb dX11_text_5 rfl (lv_at hl 1 rfl) ?_
  refine lv_iload_n hx hb dX11_text_6 rfl (lv_at hl 2 rfl) ?_
  refine lv_bipush (v := 32) hx hb dX11_text_7 (by decide) ?_
  obtain ⟨x2, hx2, h⟩ := bnd h
  refine iv_X11_79 l X hH hRL (by decide) hx2 hl.1 (Nat.le_of_ble_eq_true rfl) dX11_text_9 hcs (fun H locs hH => ?_)
  exact eI X hH h hr dX11_text_12 (Nat.le_of_ble_eq_true rfl) (Nat.le_of_ble_eq_true rfl)
theorem t_X11_put {μ : Mm} {a0 : Nat} {p1 : Int32} {p2 : Int32} {p3 : Int32} {x : Int32 × Mm} (h : f_X11_put μ a0 p1 p2 p3 = some x) : tg μ a0 = 12 := by
  unfold f_X11_put at h
  exact (gsn h).1
set_option maxHeartbeats 4000000 in
set_option maxRecDepth 100000 in
theorem c_X11_put (l : Launch) (G : CG) (μ : Mm) (a0 : Nat) (p1 : Int32) (p2 : Int32) (p3 : Int32) (x : Int32 × Mm) (h : f_X11_put μ a0 p1 p2 p3 = some x) : Met l yX11_put (.code yX11_put cX11_put 5 (some .int) :: UW) (rmk 4 0 0) (PC G [.ref a0, .int p1, .int p2, .int p3] μ) (QI G x.1 x.2) 0 0 (fA G) := by
  refine Met.ofW (cc := cX11_put) (maxL := 5) (ret := (some .int)) (by decide) rfl ?_
  intro p e s m args below meth c s₁ B hml hv
  obtain ⟨X, hH, hr, rfl, hnm⟩ := cx_in B hml hv
  have X : Cx p s m _ meth c cX11_put 5 RX11 G := X
  have hx := X.1
  have hb := X.2.1
  have hown := X.2.2.2.1
  have hts := X.2.2.2.2.1
  have hRL : RmL (rmk 4 0 0) 4 := ⟨Nat.le_refl _, Nat.le_refl _⟩
  have hcs : 0 ≤ (rmk 0 0 0).cells ∧ 0 ≤ (rmk 0 0 0).slots := ⟨Nat.zero_le _, Nat.zero_le _⟩
  refine ls_in (Nat.le_of_ble_eq_true rfl) (fun ls hl => ?_)
  have hl : lv_has ls 5 [(0, .ref a0), (1, .int p1), (2, .int p2), (3, .int p3)] := hl
  unfold f_X11_put at h
  obtain ⟨htg, h⟩ := gsn h
  refine lv_aload_n hx hb dX11_put_0 rfl (lv_at hl 0 rfl) ?_
  refine lv_aload_n hx hb dX11_put_1 rfl (lv_at hl 0 rfl) ?_
  obtain ⟨x1, hx1, h⟩ := bnd h
  refine gf_X11_15 X hH hx1 dX11_put_2 ?_
  refine lv_iload_n hx hb dX11_put_5 rfl (lv_at hl 1 rfl) ?_
  refine lv_iload_n hx hb dX11_put_6 rfl (lv_at hl 2 rfl) ?_
  obtain ⟨x2, hx2, h⟩ := bnd h
  refine iv_X11_83 l X hH hRL (by decide) hx2 hl.1 (Nat.le_of_ble_eq_true rfl) dX11_put_7 hcs (fun H locs hH => ?_)
  refine lv_istore (lv' := [(4, .int x2.1), (0, .ref a0), (1, .int p1), (2, .int p2), (3, .int p3)]) hx hb dX11_put_10 hl (by decide) rfl (fun ls hl => ?_)
  refine lv_iload hx hb dX11_put_12 (lv_at hl 0 rfl) ?_
  refine lv_if_eq (tgt := 22) hx hb dX11_put_14 (by decide) (fun hc3 => ?_) (fun hc3 => ?_)
  · replace h := ift h hc3
    refine lv_sipush (v := 1000) hx hb dX11_put_22 (by decide) ?_
    refine lv_aload_n hx hb dX11_put_25 rfl (lv_at hl 1 rfl) ?_
    obtain ⟨x4, hx4, h⟩ := bnd h
    refine gf_X11_15 X hH hx4 dX11_put_26 ?_
    refine lv_iload_n hx hb dX11_put_29 rfl (lv_at hl 2 rfl) ?_
    obtain ⟨x5, hx5, h⟩ := bnd h
    refine w_aP X hH hx5 (by decide) (k := 5) rfl dX11_put_30 ?_
    refine lv_iload_n hx hb dX11_put_31 rfl (lv_at hl 3 rfl) ?_
    refine lv_iload_n hx hb dX11_put_32 rfl (lv_at hl 4 rfl) ?_
    refine lv_i2b hx hb dX11_put_33 rfl ?_
    obtain ⟨x6, hx6, h⟩ := bnd h
    refine iv_X11_87 l X hH hRL (by decide) hx6 hl.1 (Nat.le_of_ble_eq_true rfl) dX11_put_34 hcs (fun H locs hH => ?_)
    refine lv_iadd hx hb dX11_put_37 ?_
    exact eI X hH h hr dX11_put_38 (Nat.le_of_ble_eq_true rfl) (Nat.le_of_ble_eq_true rfl)
  · replace h := iff' h hc3
    refine lv_iload hx hb dX11_put_17 (lv_at hl 0 rfl) ?_
    refine lv_goto (tgt := 38) hx hb dX11_put_19 (by decide) ?_
    exact eI X hH h hr dX11_put_38 (Nat.le_of_ble_eq_true rfl) (Nat.le_of_ble_eq_true rfl)
set_option maxHeartbeats 1000000 in
theorem iv_X11_133 {p : Program} {e : Env} {R : Room} {s : State} {m : MethodId} {args : Array Value} {below : List Frame} {meth : Method} {c : Code} {H : Heap} {locs : List Loc} {cells slots : Nat} {Q : State → Prop} {cc : ByteArray} {pc : Nat} {ls : Array Slot} {rest : List Value} {nL : Nat} {G : CG} {μ : Mm} {a : Nat} {q0 : Nat} {x : Int32 × Mm} {k : Nat} (l : Launch) (X : Cx p s m args meth c cc nL RX11 G) (hH : HS G s μ H locs) (hRL : RmL R k) (hk : 6 + 1 ≤ k) (h : f_X5_read μ a q0 = some x) (hls : ls.size = nL) (hroom : (rest.map fun v => v.category).sum ≤ 8) (hdg : decode cc pc = .ok (.invokevirtual 133, 3)) (hcs : cells + 0 ≤ R.cells ∧ slots + 0 ≤ R.slots) (kk : ∀ (H1 : Heap) (locs1 : List Loc), HS G s x.2 H1 locs1 → W p l e R s m args below meth c H1 locs1 cells slots Q (F0 m (pc + 3) ls (.int x.1 :: rest))) : W p l e R s m args below meth c H locs cells slots Q (F0 m pc ls (.ref q0 :: .ref a :: rest)) := by
  refine kI hH (rV (As := [.ref q0]) (rest := rest) X hH (t_X5_read h) vc_5 (c_X5_read l G μ a q0 x h) (List.forall_mem_cons.mpr ⟨u_418, (List.forall_mem_cons.mpr ⟨u_419, (List.forall_mem_cons.mpr ⟨u_420, (List.forall_mem_cons.mpr ⟨u_65, (fun _ h9 => absurd h9 List.not_mem_nil)⟩)⟩)⟩)⟩) u_421 (rmo hRL (Nat.le_trans (by decide) hk) (by decide)) ddV_X5_read rfl hls rfl hroom hdg hcs) kk
theorem t_X11_fault {μ : Mm} {a0 : Nat} {p1 : Int32} {x : Int32 × Mm} (h : f_X11_fault μ a0 p1 = some x) : tg μ a0 = 12 := by
  unfold f_X11_fault at h
  exact (gsn h).1
set_option maxHeartbeats 4000000 in
set_option maxRecDepth 100000 in
theorem c_X11_fault (l : Launch) (G : CG) (μ : Mm) (a0 : Nat) (p1 : Int32) (x : Int32 × Mm) (h : f_X11_fault μ a0 p1 = some x) : Met l yX11_fault (.code yX11_fault cX11_fault 3 (some .int) :: UW) (rmk 7 0 0) (PC G [.ref a0, .int p1] μ) (QI G x.1 x.2) 0 0 (fA G) := by
  refine Met.ofW (cc := cX11_fault) (maxL := 3) (ret := (some .int)) (by decide) rfl ?_
  intro p e s m args below meth c s₁ B hml hv
  obtain ⟨X, hH, hr, rfl, hnm⟩ := cx_in B hml hv
  have X : Cx p s m _ meth c cX11_fault 3 RX11 G := X
  have hx := X.1
  have hb := X.2.1
  have hown := X.2.2.2.1
  have hts := X.2.2.2.2.1
  have hRL : RmL (rmk 7 0 0) 7 := ⟨Nat.le_refl _, Nat.le_refl _⟩
  have hcs : 0 ≤ (rmk 0 0 0).cells ∧ 0 ≤ (rmk 0 0 0).slots := ⟨Nat.zero_le _, Nat.zero_le _⟩
  refine ls_in (Nat.le_of_ble_eq_true rfl) (fun ls hl => ?_)
  have hl : lv_has ls 3 [(0, .ref a0), (1, .int p1)] := hl
  unfold f_X11_fault at h
  obtain ⟨htg, h⟩ := gsn h
  refine lv_aload_n hx hb dX11_fault_0 rfl (lv_at hl 0 rfl) ?_
  refine lv_aload_n hx hb dX11_fault_1 rfl (lv_at hl 0 rfl) ?_
  obtain ⟨x1, hx1, h⟩ := bnd h
  refine gf_X11_15 X hH hx1 dX11_fault_2 ?_
  refine lv_iload_n hx hb dX11_fault_5 rfl (lv_at hl 1 rfl) ?_
  obtain ⟨x2, hx2, h⟩ := bnd h
  refine iv_X11_98 l X hH hRL (by decide) hx2 hl.1 (Nat.le_of_ble_eq_true rfl) dX11_fault_6 hcs (fun H locs hH => ?_)
  refine lv_istore_n (lv' := [(2, .int x2.1), (0, .ref a0), (1, .int p1)]) hx hb dX11_fault_9 rfl hl (by decide) rfl (fun ls hl => ?_)
  refine lv_iload_n hx hb dX11_fault_10 rfl (lv_at hl 0 rfl) ?_
  refine lv_if_eq (tgt := 18) hx hb dX11_fault_11 (by decide) (fun hc3 => ?_) (fun hc3 => ?_)
  · replace h := ift h hc3
    refine lv_aload_n hx hb dX11_fault_18 rfl (lv_at hl 1 rfl) ?_
    obtain ⟨x4, hx4, h⟩ := bnd h
    refine gf_X11_36 X hH hx4 dX11_fault_19 ?_
    refine lv_aload_n hx hb dX11_fault_22 rfl (lv_at hl 1 rfl) ?_
    obtain ⟨x5, hx5, h⟩ := bnd h
    refine gf_X11_15 X hH hx5 dX11_fault_23 ?_
    refine lv_iload_n hx hb dX11_fault_26 rfl (lv_at hl 2 rfl) ?_
    obtain ⟨x6, hx6, h⟩ := bnd h
    refine w_aP X hH hx6 (by decide) (k := 5) rfl dX11_fault_27 ?_
    obtain ⟨x7, hx7, h⟩ := bnd h
    refine iv_X11_133 l X hH hRL (by decide) hx7 hl.1 (Nat.le_of_ble_eq_true rfl) dX11_fault_28 hcs (fun H locs hH => ?_)
    exact eI X hH h hr dX11_fault_31 (Nat.le_of_ble_eq_true rfl) (Nat.le_of_ble_eq_true rfl)
  · replace h := iff' h hc3
    refine lv_iload_n hx hb dX11_fault_14 rfl (lv_at hl 0 rfl) ?_
    refine lv_goto (tgt := 31) hx hb dX11_fault_15 (by decide) ?_
    exact eI X hH h hr dX11_fault_31 (Nat.le_of_ble_eq_true rfl) (Nat.le_of_ble_eq_true rfl)
set_option maxHeartbeats 1000000 in
theorem iv_X11_137 {p : Program} {e : Env} {R : Room} {s : State} {m : MethodId} {args : Array Value} {below : List Frame} {meth : Method} {c : Code} {H : Heap} {locs : List Loc} {cells slots : Nat} {Q : State → Prop} {cc : ByteArray} {pc : Nat} {ls : Array Slot} {rest : List Value} {nL : Nat} {G : CG} {μ : Mm} {a : Nat} {q0 : Nat} {x : Mm} {k : Nat} (l : Launch) (X : Cx p s m args meth c cc nL RX11 G) (hH : HS G s μ H locs) (hRL : RmL R k) (hk : 5 + 1 ≤ k) (h : f_X3_build μ a q0 = some x) (hls : ls.size = nL) (hroom : (rest.map fun v => v.category).sum ≤ 8) (hdg : decode cc pc = .ok (.invokevirtual 137, 3)) (hcs : cells + 42 ≤ R.cells ∧ slots + 84 ≤ R.slots) (kk : ∀ (H1 : Heap) (locs1 : List Loc), HS G s x H1 locs1 → W p l e R s m args below meth c H1 locs1 (cells + 42) (slots + 84) Q (F0 m (pc + 3) ls rest)) : W p l e R s m args below meth c H locs cells slots Q (F0 m pc ls (.ref q0 :: .ref a :: rest)) := by
  refine kV hH (rV (As := [.ref q0]) (rest := rest) X hH (t_X3_build h) vc_3 (c_X3_build l G μ a q0 x h) (List.forall_mem_cons.mpr ⟨u_458, (List.forall_mem_cons.mpr ⟨u_459, (List.forall_mem_cons.mpr ⟨u_460, (List.forall_mem_cons.mpr ⟨u_61, (fun _ h9 => absurd h9 List.not_mem_nil)⟩)⟩)⟩)⟩) u_461 (rmo hRL (Nat.le_trans (by decide) hk) (by decide)) ddV_X3_build rfl hls rfl hroom hdg hcs) kk
set_option maxHeartbeats 1000000 in
theorem iv_X11_141 {p : Program} {e : Env} {R : Room} {s : State} {m : MethodId} {args : Array Value} {below : List Frame} {meth : Method} {c : Code} {H : Heap} {locs : List Loc} {cells slots : Nat} {Q : State → Prop} {cc : ByteArray} {pc : Nat} {ls : Array Slot} {rest : List Value} {nL : Nat} {G : CG} {μ : Mm} {a : Nat}  {x : Mm} {k : Nat} (l : Launch) (X : Cx p s m args meth c cc nL RX11 G) (hH : HS G s μ H locs) (hRL : RmL R k) (hk : 6 + 1 ≤ k) (h : f_X3_replay μ a = some x) (hls : ls.size = nL) (hroom : (rest.map fun v => v.category).sum ≤ 8) (hdg : decode cc pc = .ok (.invokevirtual 141, 3)) (hcs : cells + 0 ≤ R.cells ∧ slots + 0 ≤ R.slots) (kk : ∀ (H1 : Heap) (locs1 : List Loc), HS G s x H1 locs1 → W p l e R s m args below meth c H1 locs1 cells slots Q (F0 m (pc + 3) ls rest)) : W p l e R s m args below meth c H locs cells slots Q (F0 m pc ls (.ref a :: rest)) := by
  refine kV0 hH (rV (As := []) (rest := rest) X hH (t_X3_replay h) vc_3 (c_X3_replay l G μ a x h) (List.forall_mem_cons.mpr ⟨u_510, (List.forall_mem_cons.mpr ⟨u_511, (List.forall_mem_cons.mpr ⟨u_512, (List.forall_mem_cons.mpr ⟨u_61, (fun _ h9 => absurd h9 List.not_mem_nil)⟩)⟩)⟩)⟩) u_513 (rmo hRL (Nat.le_trans (by decide) hk) (by decide)) ddV_X3_replay rfl hls rfl hroom hdg hcs) kk
set_option maxHeartbeats 4000000 in
set_option maxRecDepth 100000 in
theorem w_X11_hall_57 {p : Program} {e : Env} {R : Room} {s : State} {m : MethodId} {args : Array Value} {below : List Frame} {meth : Method} {c : Code} {cells slots : Nat} {Q : State → Prop} {G : CG} (l : Launch) (X : Cx p s m args meth c cX11_hall 4 RX11 G) (hRL : RmL R 7) (hcs : cells ≤ R.cells ∧ slots ≤ R.slots) : ∀ (n : Nat) (v0 : Nat) (v3 : Int32) (μ : Mm) (x : Mm), lp_X11_hall_57 n v0 v3 μ = some x → (∀ (H : Heap) (locs : List Loc) (ls : Array Slot), HS G s x H locs → lv_has ls 4 [(0, .ref v0)] → W p l e R s m args below meth c H locs cells slots Q (F0 m 77 ls [])) → ∀ (H : Heap) (locs : List Loc) (ls : Array Slot), HS G s μ H locs → lv_has ls 4 [(0, .ref v0), (3, .int v3)] → W p l e R s m args below meth c H locs cells slots Q (F0 m 57 ls []) := by
  have hx := X.1
  have hb := X.2.1
  have hown := X.2.2.2.1
  have hts := X.2.2.2.2.1
  intro n
  induction n with
  | zero =>
    intro v0 v3 μ x h
    rw [lp_X11_hall_57] at h
    cases h
  | succ n ih =>
    intro v0 v3 μ x h k0 H locs ls hH hl
    rw [lp_X11_hall_57] at h
    refine lv_iload_n hx hb dX11_hall_57 rfl (lv_at hl 1 rfl) ?_
    refine lv_iconst (v := 3) hx hb dX11_hall_58 (by decide) ?_
    refine lv_icmp_ge (tgt := 77) hx hb dX11_hall_59 (by decide) (fun hc14 => ?_) (fun hc14 => ?_)
    · replace h := ift h hc14
      cases h
      exact k0 _ _ _ hH (lv_sub hl [0] rfl)
    · replace h := iff' h hc14
      refine lv_aload_n hx hb dX11_hall_62 rfl (lv_at hl 0 rfl) ?_
      obtain ⟨x15, hx15, h⟩ := bnd h
      refine gf_X11_25 X hH hx15 dX11_hall_63 ?_
      refine lv_iload_n hx hb dX11_hall_66 rfl (lv_at hl 1 rfl) ?_
      obtain ⟨x16, hx16, h⟩ := bnd h
      refine w_aP X hH hx16 (by decide) (k := 5) rfl dX11_hall_67 ?_
      obtain ⟨x17, hx17, h⟩ := bnd h
      refine iv_X11_102 l X hH hRL (by decide) hx17 hl.1 (Nat.le_of_ble_eq_true rfl) dX11_hall_68 hcs (fun H locs hH => ?_)
      refine lv_iinc (v := (v3 + 1)) (lv' := [(3, .int (v3 + 1)), (0, .ref v0)]) hx hb dX11_hall_71 hl (k := 1) rfl rfl (by decide) rfl (fun ls hl => ?_)
      refine lv_goto (tgt := 57) hx hb dX11_hall_74 (by decide) ?_
      exact ih _ _ _ _ h k0 _ _ _ hH (lv_sub hl [1, 0] rfl)
theorem t_X11_hall {μ : Mm} {a0 : Nat} {p1 : Int32} {x : Int32 × Mm} (h : f_X11_hall μ a0 p1 = some x) : tg μ a0 = 12 := by
  unfold f_X11_hall at h
  exact (gsn h).1
set_option maxHeartbeats 4000000 in
set_option maxRecDepth 100000 in
theorem c_X11_hall (l : Launch) (G : CG) (μ : Mm) (a0 : Nat) (p1 : Int32) (x : Int32 × Mm) (h : f_X11_hall μ a0 p1 = some x) : Met l yX11_hall (.code yX11_hall cX11_hall 4 (some .int) :: UW) (rmk 7 42 84) (PC G [.ref a0, .int p1] μ) (QI G x.1 x.2) 42 84 (fA G) := by
  refine Met.ofW (cc := cX11_hall) (maxL := 4) (ret := (some .int)) (by decide) rfl ?_
  intro p e s m args below meth c s₁ B hml hv
  obtain ⟨X, hH, hr, rfl, hnm⟩ := cx_in B hml hv
  have X : Cx p s m _ meth c cX11_hall 4 RX11 G := X
  have hx := X.1
  have hb := X.2.1
  have hown := X.2.2.2.1
  have hts := X.2.2.2.2.1
  have hRL : RmL (rmk 7 42 84) 7 := ⟨Nat.le_refl _, Nat.le_refl _⟩
  refine ls_in (Nat.le_of_ble_eq_true rfl) (fun ls hl => ?_)
  have hl : lv_has ls 4 [(0, .ref a0), (1, .int p1)] := hl
  unfold f_X11_hall at h
  obtain ⟨htg, h⟩ := gsn h
  refine lv_aload_n hx hb dX11_hall_0 rfl (lv_at hl 0 rfl) ?_
  refine lv_aload_n hx hb dX11_hall_1 rfl (lv_at hl 0 rfl) ?_
  obtain ⟨x1, hx1, h⟩ := bnd h
  refine gf_X11_15 X hH hx1 dX11_hall_2 ?_
  refine lv_iload_n hx hb dX11_hall_5 rfl (lv_at hl 1 rfl) ?_
  obtain ⟨x2, hx2, h⟩ := bnd h
  refine iv_X11_98 l X hH hRL (by decide) hx2 hl.1 (Nat.le_of_ble_eq_true rfl) dX11_hall_6 ⟨Nat.le_of_ble_eq_true rfl, Nat.le_of_ble_eq_true rfl⟩ (fun H locs hH => ?_)
  refine lv_istore_n (lv' := [(2, .int x2.1), (0, .ref a0), (1, .int p1)]) hx hb dX11_hall_9 rfl hl (by decide) rfl (fun ls hl => ?_)
  refine lv_iload_n hx hb dX11_hall_10 rfl (lv_at hl 0 rfl) ?_
  refine lv_if_eq (tgt := 16) hx hb dX11_hall_11 (by decide) (fun hc3 => ?_) (fun hc3 => ?_)
  · replace h := ift h hc3
    refine lv_aload_n hx hb dX11_hall_16 rfl (lv_at hl 1 rfl) ?_
    obtain ⟨x4, hx4, h⟩ := bnd h
    refine gf_X11_36 X hH hx4 dX11_hall_17 ?_
    refine lv_aload_n hx hb dX11_hall_20 rfl (lv_at hl 1 rfl) ?_
    obtain ⟨x5, hx5, h⟩ := bnd h
    refine gf_X11_15 X hH hx5 dX11_hall_21 ?_
    refine lv_iload_n hx hb dX11_hall_24 rfl (lv_at hl 2 rfl) ?_
    obtain ⟨x6, hx6, h⟩ := bnd h
    refine w_aP X hH hx6 (by decide) (k := 5) rfl dX11_hall_25 ?_
    obtain ⟨x7, hx7, h⟩ := bnd h
    refine iv_X11_133 l X hH hRL (by decide) hx7 hl.1 (Nat.le_of_ble_eq_true rfl) dX11_hall_26 ⟨Nat.le_of_ble_eq_true rfl, Nat.le_of_ble_eq_true rfl⟩ (fun H locs hH => ?_)
    refine lv_bipush (v := -9) hx hb dX11_hall_29 (by decide) ?_
    refine lv_icmp_eq (tgt := 37) hx hb dX11_hall_31 (by decide) (fun hc8 => ?_) (fun hc8 => ?_)
    · replace h := ift h hc8
      refine lv_aload_n hx hb dX11_hall_37 rfl (lv_at hl 1 rfl) ?_
      obtain ⟨x9, hx9, h⟩ := bnd h
      refine gf_X11_21 X hH hx9 dX11_hall_38 ?_
      refine lv_aload_n hx hb dX11_hall_41 rfl (lv_at hl 1 rfl) ?_
      obtain ⟨x10, hx10, h⟩ := bnd h
      refine gf_X11_36 X hH hx10 dX11_hall_42 ?_
      obtain ⟨x11, hx11, h⟩ := bnd h
      refine iv_X11_137 l X hH hRL (by decide) hx11 hl.1 (Nat.le_of_ble_eq_true rfl) dX11_hall_45 ⟨Nat.le_of_ble_eq_true rfl, Nat.le_of_ble_eq_true rfl⟩ (fun H locs hH => ?_)
      refine lv_aload_n hx hb dX11_hall_48 rfl (lv_at hl 1 rfl) ?_
      obtain ⟨x12, hx12, h⟩ := bnd h
      refine gf_X11_21 X hH hx12 dX11_hall_49 ?_
      obtain ⟨x13, hx13, h⟩ := bnd h
      refine iv_X11_141 l X hH hRL (by decide) hx13 hl.1 (Nat.le_of_ble_eq_true rfl) dX11_hall_52 ⟨Nat.le_of_ble_eq_true rfl, Nat.le_of_ble_eq_true rfl⟩ (fun H locs hH => ?_)
      refine lv_iconst (v := 0) hx hb dX11_hall_55 (by decide) ?_
      refine lv_istore_n (lv' := [(3, .int (0 : Int32)), (2, .int x2.1), (0, .ref a0), (1, .int p1)]) hx hb dX11_hall_56 rfl hl (by decide) rfl (fun ls hl => ?_)
      obtain ⟨x18, hx18, hhx18⟩ := bnd h
      clear h
      refine w_X11_hall_57 l X hRL ⟨Nat.le_of_ble_eq_true rfl, Nat.le_of_ble_eq_true rfl⟩ BIG a0 (0 : Int32) x13 x18 hx18 (fun H locs ls hH hl => ?_) _ _ _ hH (lv_sub hl [2, 0] rfl)
      · have h := hhx18
        clear hhx18
        refine lv_aload_n hx hb dX11_hall_77 rfl (lv_at hl 0 rfl) ?_
        obtain ⟨x19, hx19, h⟩ := bnd h
        refine gf_X11_21 X hH hx19 dX11_hall_78 ?_
        obtain ⟨x20, hx20, h⟩ := bnd h
        refine gf_X11_144 X hH hx20 dX11_hall_81 ?_
        exact eI X hH h hr dX11_hall_84 (Nat.le_of_ble_eq_true rfl) (Nat.le_of_ble_eq_true rfl)
    · replace h := iff' h hc8
      refine lv_bipush (v := -4) hx hb dX11_hall_34 (by decide) ?_
      exact eI X hH h hr dX11_hall_36 (Nat.le_of_ble_eq_true rfl) (Nat.le_of_ble_eq_true rfl)
  · replace h := iff' h hc3
    refine lv_iload_n hx hb dX11_hall_14 rfl (lv_at hl 0 rfl) ?_
    exact eI X hH h hr dX11_hall_15 (Nat.le_of_ble_eq_true rfl) (Nat.le_of_ble_eq_true rfl)
set_option maxHeartbeats 1000000 in
theorem iv_X11_147 {p : Program} {e : Env} {R : Room} {s : State} {m : MethodId} {args : Array Value} {below : List Frame} {meth : Method} {c : Code} {H : Heap} {locs : List Loc} {cells slots : Nat} {Q : State → Prop} {cc : ByteArray} {pc : Nat} {ls : Array Slot} {rest : List Value} {nL : Nat} {G : CG} {μ : Mm} {a : Nat} {q0 : Int32} {x : Int32} {k : Nat} (l : Launch) (X : Cx p s m args meth c cc nL RX11 G) (hH : HS G s μ H locs) (hRL : RmL R k) (hk : 1 + 1 ≤ k) (h : f_X3_hasGuild μ a q0 = some x) (hls : ls.size = nL) (hroom : (rest.map fun v => v.category).sum ≤ 8) (hdg : decode cc pc = .ok (.invokevirtual 147, 3)) (hcs : cells + 0 ≤ R.cells ∧ slots + 0 ≤ R.slots) (kk : ∀ (H1 : Heap) (locs1 : List Loc), HS G s μ H1 locs1 → W p l e R s m args below meth c H1 locs1 cells slots Q (F0 m (pc + 3) ls (.int x :: rest))) : W p l e R s m args below meth c H locs cells slots Q (F0 m pc ls (.int q0 :: .ref a :: rest)) := by
  refine kI hH (rV (As := [.int q0]) (rest := rest) X hH (t_X3_hasGuild h) vc_3 (c_X3_hasGuild l G μ a q0 x h) (List.forall_mem_cons.mpr ⟨u_588, (List.forall_mem_cons.mpr ⟨u_519, (List.forall_mem_cons.mpr ⟨u_520, (List.forall_mem_cons.mpr ⟨u_61, (fun _ h9 => absurd h9 List.not_mem_nil)⟩)⟩)⟩)⟩) u_521 (rmo hRL (Nat.le_trans (by decide) hk) (by decide)) ddV_X3_hasGuild rfl hls rfl hroom hdg hcs) kk
set_option maxHeartbeats 1000000 in
theorem iv_X11_151 {p : Program} {e : Env} {R : Room} {s : State} {m : MethodId} {args : Array Value} {below : List Frame} {meth : Method} {c : Code} {H : Heap} {locs : List Loc} {cells slots : Nat} {Q : State → Prop} {cc : ByteArray} {pc : Nat} {ls : Array Slot} {rest : List Value} {nL : Nat} {G : CG} {μ : Mm} {a : Nat} {q0 : Int32} {q1 : Int32} {x : Int32} {k : Nat} (l : Launch) (X : Cx p s m args meth c cc nL RX11 G) (hH : HS G s μ H locs) (hRL : RmL R k) (hk : 5 + 1 ≤ k) (h : f_X3_detail μ a q0 q1 = some x) (hls : ls.size = nL) (hroom : (rest.map fun v => v.category).sum ≤ 8) (hdg : decode cc pc = .ok (.invokevirtual 151, 3)) (hcs : cells + 0 ≤ R.cells ∧ slots + 0 ≤ R.slots) (kk : ∀ (H1 : Heap) (locs1 : List Loc), HS G s μ H1 locs1 → W p l e R s m args below meth c H1 locs1 cells slots Q (F0 m (pc + 3) ls (.int x :: rest))) : W p l e R s m args below meth c H locs cells slots Q (F0 m pc ls (.int q1 :: .int q0 :: .ref a :: rest)) := by
  refine kI hH (rV (As := [.int q0, .int q1]) (rest := rest) X hH (t_X3_detail h) vc_3 (c_X3_detail l G μ a q0 q1 x h) (List.forall_mem_cons.mpr ⟨u_589, (List.forall_mem_cons.mpr ⟨u_590, (List.forall_mem_cons.mpr ⟨u_591, (List.forall_mem_cons.mpr ⟨u_61, (fun _ h9 => absurd h9 List.not_mem_nil)⟩)⟩)⟩)⟩) u_592 (rmo hRL (Nat.le_trans (by decide) hk) (by decide)) ddV_X3_detail rfl hls rfl hroom hdg hcs) kk
theorem t_X11_guild {μ : Mm} {a0 : Nat} {p1 : Int32} {p2 : Int32} {x : Int32 × Mm} (h : f_X11_guild μ a0 p1 p2 = some x) : tg μ a0 = 12 := by
  unfold f_X11_guild at h
  exact (gsn h).1
set_option maxHeartbeats 4000000 in
set_option maxRecDepth 100000 in
theorem c_X11_guild (l : Launch) (G : CG) (μ : Mm) (a0 : Nat) (p1 : Int32) (p2 : Int32) (x : Int32 × Mm) (h : f_X11_guild μ a0 p1 p2 = some x) : Met l yX11_guild (.code yX11_guild cX11_guild 3 (some .int) :: UW) (rmk 6 0 0) (PC G [.ref a0, .int p1, .int p2] μ) (QI G x.1 x.2) 0 0 (fA G) := by
  refine Met.ofW (cc := cX11_guild) (maxL := 3) (ret := (some .int)) (by decide) rfl ?_
  intro p e s m args below meth c s₁ B hml hv
  obtain ⟨X, hH, hr, rfl, hnm⟩ := cx_in B hml hv
  have X : Cx p s m _ meth c cX11_guild 3 RX11 G := X
  have hx := X.1
  have hb := X.2.1
  have hown := X.2.2.2.1
  have hts := X.2.2.2.2.1
  have hRL : RmL (rmk 6 0 0) 6 := ⟨Nat.le_refl _, Nat.le_refl _⟩
  have hcs : 0 ≤ (rmk 0 0 0).cells ∧ 0 ≤ (rmk 0 0 0).slots := ⟨Nat.zero_le _, Nat.zero_le _⟩
  refine ls_in (Nat.le_of_ble_eq_true rfl) (fun ls hl => ?_)
  have hl : lv_has ls 3 [(0, .ref a0), (1, .int p1), (2, .int p2)] := hl
  unfold f_X11_guild at h
  obtain ⟨htg, h⟩ := gsn h
  refine lv_aload_n hx hb dX11_guild_0 rfl (lv_at hl 0 rfl) ?_
  obtain ⟨x1, hx1, h⟩ := bnd h
  refine gf_X11_21 X hH hx1 dX11_guild_1 ?_
  refine lv_iload_n hx hb dX11_guild_4 rfl (lv_at hl 1 rfl) ?_
  obtain ⟨x2, hx2, h⟩ := bnd h
  refine iv_X11_147 l X hH hRL (by decide) hx2 hl.1 (Nat.le_of_ble_eq_true rfl) dX11_guild_5 hcs (fun H locs hH => ?_)
  refine lv_if_eq (tgt := 20) hx hb dX11_guild_8 (by decide) (fun hc3 => ?_) (fun hc3 => ?_)
  · replace h := ift h hc3
    refine lv_iconst (v := -1) hx hb dX11_guild_20 (by decide) ?_
    exact eI X hH h hr dX11_guild_21 (Nat.le_of_ble_eq_true rfl) (Nat.le_of_ble_eq_true rfl)
  · replace h := iff' h hc3
    refine lv_iload_n hx hb dX11_guild_11 rfl (lv_at hl 2 rfl) ?_
    refine lv_if_lt (tgt := 20) hx hb dX11_guild_12 (by decide) (fun hc4 => ?_) (fun hc4 => ?_)
    · replace h := ift h hc4
      refine lv_iconst (v := -1) hx hb dX11_guild_20 (by decide) ?_
      exact eI X hH h hr dX11_guild_21 (Nat.le_of_ble_eq_true rfl) (Nat.le_of_ble_eq_true rfl)
    · replace h := iff' h hc4
      refine lv_iload_n hx hb dX11_guild_15 rfl (lv_at hl 2 rfl) ?_
      refine lv_iconst (v := 4) hx hb dX11_guild_16 (by decide) ?_
      refine lv_icmp_le (tgt := 22) hx hb dX11_guild_17 (by decide) (fun hc5 => ?_) (fun hc5 => ?_)
      · replace h := ift h hc5
        refine lv_aload_n hx hb dX11_guild_22 rfl (lv_at hl 0 rfl) ?_
        refine lv_aload_n hx hb dX11_guild_23 rfl (lv_at hl 0 rfl) ?_
        obtain ⟨x6, hx6, h⟩ := bnd h
        refine gf_X11_21 X hH hx6 dX11_guild_24 ?_
        refine lv_iload_n hx hb dX11_guild_27 rfl (lv_at hl 1 rfl) ?_
        refine lv_iload_n hx hb dX11_guild_28 rfl (lv_at hl 2 rfl) ?_
        obtain ⟨x7, hx7, h⟩ := bnd h
        refine iv_X11_151 l X hH hRL (by decide) hx7 hl.1 (Nat.le_of_ble_eq_true rfl) dX11_guild_29 hcs (fun H locs hH => ?_)
        obtain ⟨x8, hx8, h⟩ := bnd h
        refine iv_X11_91 l X hH hRL (by decide) hx8 hl.1 (Nat.le_of_ble_eq_true rfl) dX11_guild_32 hcs (fun H locs hH => ?_)
        exact eI X hH h hr dX11_guild_35 (Nat.le_of_ble_eq_true rfl) (Nat.le_of_ble_eq_true rfl)
      · replace h := iff' h hc5
        refine lv_iconst (v := -1) hx hb dX11_guild_20 (by decide) ?_
        exact eI X hH h hr dX11_guild_21 (Nat.le_of_ble_eq_true rfl) (Nat.le_of_ble_eq_true rfl)
set_option maxHeartbeats 1000000 in
theorem iv_X11_160 {p : Program} {e : Env} {R : Room} {s : State} {m : MethodId} {args : Array Value} {below : List Frame} {meth : Method} {c : Code} {H : Heap} {locs : List Loc} {cells slots : Nat} {Q : State → Prop} {cc : ByteArray} {pc : Nat} {ls : Array Slot} {rest : List Value} {nL : Nat} {G : CG} {μ : Mm} {a : Nat}  {x : Int32} {k : Nat} (l : Launch) (X : Cx p s m args meth c cc nL RX11 G) (hH : HS G s μ H locs) (hRL : RmL R k) (hk : 3 + 1 ≤ k) (h : f_X4_gain μ a = some x) (hls : ls.size = nL) (hroom : (rest.map fun v => v.category).sum ≤ 8) (hdg : decode cc pc = .ok (.invokevirtual 160, 3)) (hcs : cells + 0 ≤ R.cells ∧ slots + 0 ≤ R.slots) (kk : ∀ (H1 : Heap) (locs1 : List Loc), HS G s μ H1 locs1 → W p l e R s m args below meth c H1 locs1 cells slots Q (F0 m (pc + 3) ls (.int x :: rest))) : W p l e R s m args below meth c H locs cells slots Q (F0 m pc ls (.ref a :: rest)) := by
  refine kI (av := (Value.ref a :: []).toArray) (rest := rest) hH ?_ kk
  rcases t_X4_gain h with ht | ht
  · exact rV (As := []) (rest := rest) X hH ht vc_4 (c_X4_gain l G μ a x h) (List.forall_mem_cons.mpr ⟨u_623, (List.forall_mem_cons.mpr ⟨u_624, (List.forall_mem_cons.mpr ⟨u_625, (List.forall_mem_cons.mpr ⟨u_70, (fun _ h9 => absurd h9 List.not_mem_nil)⟩)⟩)⟩)⟩) u_628 (rmo hRL (Nat.le_trans (by decide) hk) (by decide)) ddV_X4_gain rfl hls rfl hroom hdg hcs
  · exact rU (As := []) (rest := rest) (owner := RX4) (x := yX4_gain) X hH ht vc_6 (c_X4_gain l G μ a x h) (List.forall_mem_cons.mpr ⟨u_623, (List.forall_mem_cons.mpr ⟨u_626, (List.forall_mem_cons.mpr ⟨u_627, (List.forall_mem_cons.mpr ⟨u_624, (List.forall_mem_cons.mpr ⟨u_70, (fun _ h9 => absurd h9 List.not_mem_nil)⟩)⟩)⟩)⟩)⟩) u_628 (rmo hRL (Nat.le_trans (by decide) hk) (by decide)) rfl ddU_X4_gain rfl hls rfl hroom hdg hcs
set_option maxHeartbeats 1000000 in
theorem iv_X11_166 {p : Program} {e : Env} {R : Room} {s : State} {m : MethodId} {args : Array Value} {below : List Frame} {meth : Method} {c : Code} {H : Heap} {locs : List Loc} {cells slots : Nat} {Q : State → Prop} {cc : ByteArray} {pc : Nat} {ls : Array Slot} {rest : List Value} {nL : Nat} {G : CG} {μ : Mm} {a : Nat}  {x : Int32} {k : Nat} (l : Launch) (X : Cx p s m args meth c cc nL RX11 G) (hH : HS G s μ H locs) (hRL : RmL R k) (hk : 1 + 1 ≤ k) (h : f_X3_countChildren μ a = some x) (hls : ls.size = nL) (hroom : (rest.map fun v => v.category).sum ≤ 8) (hdg : decode cc pc = .ok (.invokevirtual 166, 3)) (hcs : cells + 0 ≤ R.cells ∧ slots + 0 ≤ R.slots) (kk : ∀ (H1 : Heap) (locs1 : List Loc), HS G s μ H1 locs1 → W p l e R s m args below meth c H1 locs1 cells slots Q (F0 m (pc + 3) ls (.int x :: rest))) : W p l e R s m args below meth c H locs cells slots Q (F0 m pc ls (.ref a :: rest)) := by
  refine kI hH (rV (As := []) (rest := rest) X hH (t_X3_countChildren h) vc_3 (c_X3_countChildren l G μ a x h) (List.forall_mem_cons.mpr ⟨u_631, (List.forall_mem_cons.mpr ⟨u_632, (List.forall_mem_cons.mpr ⟨u_633, (List.forall_mem_cons.mpr ⟨u_61, (fun _ h9 => absurd h9 List.not_mem_nil)⟩)⟩)⟩)⟩) u_634 (rmo hRL (Nat.le_trans (by decide) hk) (by decide)) ddV_X3_countChildren rfl hls rfl hroom hdg hcs) kk
set_option maxHeartbeats 1000000 in
theorem iv_X11_171 {p : Program} {e : Env} {R : Room} {s : State} {m : MethodId} {args : Array Value} {below : List Frame} {meth : Method} {c : Code} {H : Heap} {locs : List Loc} {cells slots : Nat} {Q : State → Prop} {cc : ByteArray} {pc : Nat} {ls : Array Slot} {rest : List Value} {nL : Nat} {G : CG} {μ : Mm} {a : Nat}  {x : Int32} {k : Nat} (l : Launch) (X : Cx p s m args meth c cc nL RX11 G) (hH : HS G s μ H locs) (hRL : RmL R k) (hk : 5 + 1 ≤ k) (h : f_X3_countStill μ a = some x) (hls : ls.size = nL) (hroom : (rest.map fun v => v.category).sum ≤ 8) (hdg : decode cc pc = .ok (.invokevirtual 171, 3)) (hcs : cells + 0 ≤ R.cells ∧ slots + 0 ≤ R.slots) (kk : ∀ (H1 : Heap) (locs1 : List Loc), HS G s μ H1 locs1 → W p l e R s m args below meth c H1 locs1 cells slots Q (F0 m (pc + 3) ls (.int x :: rest))) : W p l e R s m args below meth c H locs cells slots Q (F0 m pc ls (.ref a :: rest)) := by
  refine kI hH (rV (As := []) (rest := rest) X hH (t_X3_countStill h) vc_3 (c_X3_countStill l G μ a x h) (List.forall_mem_cons.mpr ⟨u_636, (List.forall_mem_cons.mpr ⟨u_637, (List.forall_mem_cons.mpr ⟨u_638, (List.forall_mem_cons.mpr ⟨u_61, (fun _ h9 => absurd h9 List.not_mem_nil)⟩)⟩)⟩)⟩) u_639 (rmo hRL (Nat.le_trans (by decide) hk) (by decide)) ddV_X3_countStill rfl hls rfl hroom hdg hcs) kk
set_option maxHeartbeats 1000000 in
theorem iv_X11_176 {p : Program} {e : Env} {R : Room} {s : State} {m : MethodId} {args : Array Value} {below : List Frame} {meth : Method} {c : Code} {H : Heap} {locs : List Loc} {cells slots : Nat} {Q : State → Prop} {cc : ByteArray} {pc : Nat} {ls : Array Slot} {rest : List Value} {nL : Nat} {G : CG} {μ : Mm} {a : Nat}  {x : Int32} {k : Nat} (l : Launch) (X : Cx p s m args meth c cc nL RX11 G) (hH : HS G s μ H locs) (hRL : RmL R k) (hk : 1 + 1 ≤ k) (h : f_X6_uncountedFeet μ a = some x) (hls : ls.size = nL) (hroom : (rest.map fun v => v.category).sum ≤ 8) (hdg : decode cc pc = .ok (.invokevirtual 176, 3)) (hcs : cells + 0 ≤ R.cells ∧ slots + 0 ≤ R.slots) (kk : ∀ (H1 : Heap) (locs1 : List Loc), HS G s μ H1 locs1 → W p l e R s m args below meth c H1 locs1 cells slots Q (F0 m (pc + 3) ls (.int x :: rest))) : W p l e R s m args below meth c H locs cells slots Q (F0 m pc ls (.ref a :: rest)) := by
  refine kI hH (rV (As := []) (rest := rest) X hH (t_X6_uncountedFeet h) vc_6 (c_X6_uncountedFeet l G μ a x h) (List.forall_mem_cons.mpr ⟨u_641, (List.forall_mem_cons.mpr ⟨u_554, (List.forall_mem_cons.mpr ⟨u_555, (List.forall_mem_cons.mpr ⟨u_73, (fun _ h9 => absurd h9 List.not_mem_nil)⟩)⟩)⟩)⟩) u_556 (rmo hRL (Nat.le_trans (by decide) hk) (by decide)) ddV_X6_uncountedFeet rfl hls rfl hroom hdg hcs) kk
set_option maxHeartbeats 1000000 in
theorem iv_X11_184 {p : Program} {e : Env} {R : Room} {s : State} {m : MethodId} {args : Array Value} {below : List Frame} {meth : Method} {c : Code} {H : Heap} {locs : List Loc} {cells slots : Nat} {Q : State → Prop} {cc : ByteArray} {pc : Nat} {ls : Array Slot} {rest : List Value} {nL : Nat} {G : CG} {μ : Mm} {a : Nat} {q0 : Int32} {x : Int32} {k : Nat} (l : Launch) (X : Cx p s m args meth c cc nL RX11 G) (hH : HS G s μ H locs) (hRL : RmL R k) (hk : 3 + 1 ≤ k) (h : f_X9_walksForRound μ a q0 = some x) (hls : ls.size = nL) (hroom : (rest.map fun v => v.category).sum ≤ 8) (hdg : decode cc pc = .ok (.invokevirtual 184, 3)) (hcs : cells + 0 ≤ R.cells ∧ slots + 0 ≤ R.slots) (kk : ∀ (H1 : Heap) (locs1 : List Loc), HS G s μ H1 locs1 → W p l e R s m args below meth c H1 locs1 cells slots Q (F0 m (pc + 3) ls (.int x :: rest))) : W p l e R s m args below meth c H locs cells slots Q (F0 m pc ls (.int q0 :: .ref a :: rest)) := by
  refine kI hH (rV (As := [.int q0]) (rest := rest) X hH (t_X9_walksForRound h) vc_9 (c_X9_walksForRound l G μ a q0 x h) (List.forall_mem_cons.mpr ⟨u_643, (List.forall_mem_cons.mpr ⟨u_644, (List.forall_mem_cons.mpr ⟨u_645, (List.forall_mem_cons.mpr ⟨u_74, (fun _ h9 => absurd h9 List.not_mem_nil)⟩)⟩)⟩)⟩) u_646 (rmo hRL (Nat.le_trans (by decide) hk) (by decide)) ddV_X9_walksForRound rfl hls rfl hroom hdg hcs) kk
theorem t_X11_mark {μ : Mm} {a0 : Nat} {p1 : Int32} {p2 : Int32} {x : Int32 × Mm} (h : f_X11_mark μ a0 p1 p2 = some x) : tg μ a0 = 12 := by
  unfold f_X11_mark at h
  exact (gsn h).1
set_option maxHeartbeats 4000000 in
set_option maxRecDepth 100000 in
theorem c_X11_mark (l : Launch) (G : CG) (μ : Mm) (a0 : Nat) (p1 : Int32) (p2 : Int32) (x : Int32 × Mm) (h : f_X11_mark μ a0 p1 p2 = some x) : Met l yX11_mark (.code yX11_mark cX11_mark 5 (some .int) :: UW) (rmk 6 0 0) (PC G [.ref a0, .int p1, .int p2] μ) (QI G x.1 x.2) 0 0 (fA G) := by
  refine Met.ofW (cc := cX11_mark) (maxL := 5) (ret := (some .int)) (by decide) rfl ?_
  intro p e s m args below meth c s₁ B hml hv
  obtain ⟨X, hH, hr, rfl, hnm⟩ := cx_in B hml hv
  have X : Cx p s m _ meth c cX11_mark 5 RX11 G := X
  have hx := X.1
  have hb := X.2.1
  have hown := X.2.2.2.1
  have hts := X.2.2.2.2.1
  have hRL : RmL (rmk 6 0 0) 6 := ⟨Nat.le_refl _, Nat.le_refl _⟩
  have hcs : 0 ≤ (rmk 0 0 0).cells ∧ 0 ≤ (rmk 0 0 0).slots := ⟨Nat.zero_le _, Nat.zero_le _⟩
  refine ls_in (Nat.le_of_ble_eq_true rfl) (fun ls hl => ?_)
  have hl : lv_has ls 5 [(0, .ref a0), (1, .int p1), (2, .int p2)] := hl
  unfold f_X11_mark at h
  obtain ⟨htg, h⟩ := gsn h
  refine lv_aload_n hx hb dX11_mark_0 rfl (lv_at hl 0 rfl) ?_
  obtain ⟨x1, hx1, h⟩ := bnd h
  refine gf_X11_21 X hH hx1 dX11_mark_1 ?_
  refine lv_iload_n hx hb dX11_mark_4 rfl (lv_at hl 1 rfl) ?_
  obtain ⟨x2, hx2, h⟩ := bnd h
  refine iv_X11_147 l X hH hRL (by decide) hx2 hl.1 (Nat.le_of_ble_eq_true rfl) dX11_mark_5 hcs (fun H locs hH => ?_)
  refine lv_if_eq (tgt := 21) hx hb dX11_mark_8 (by decide) (fun hc3 => ?_) (fun hc3 => ?_)
  · replace h := ift h hc3
    refine lv_iconst (v := -1) hx hb dX11_mark_21 (by decide) ?_
    exact eI X hH h hr dX11_mark_22 (Nat.le_of_ble_eq_true rfl) (Nat.le_of_ble_eq_true rfl)
  · replace h := iff' h hc3
    refine lv_iload_n hx hb dX11_mark_11 rfl (lv_at hl 2 rfl) ?_
    refine lv_iconst (v := 1) hx hb dX11_mark_12 (by decide) ?_
    refine lv_icmp_lt (tgt := 21) hx hb dX11_mark_13 (by decide) (fun hc4 => ?_) (fun hc4 => ?_)
    · replace h := ift h hc4
      refine lv_iconst (v := -1) hx hb dX11_mark_21 (by decide) ?_
      exact eI X hH h hr dX11_mark_22 (Nat.le_of_ble_eq_true rfl) (Nat.le_of_ble_eq_true rfl)
    · replace h := iff' h hc4
      refine lv_iload_n hx hb dX11_mark_16 rfl (lv_at hl 2 rfl) ?_
      refine lv_iconst (v := 5) hx hb dX11_mark_17 (by decide) ?_
      refine lv_icmp_le (tgt := 23) hx hb dX11_mark_18 (by decide) (fun hc5 => ?_) (fun hc5 => ?_)
      · replace h := ift h hc5
        refine lv_aload_n hx hb dX11_mark_23 rfl (lv_at hl 0 rfl) ?_
        obtain ⟨x6, hx6, h⟩ := bnd h
        refine gf_X11_21 X hH hx6 dX11_mark_24 ?_
        obtain ⟨x7, hx7, h⟩ := bnd h
        refine gf_X11_154 X hH hx7 dX11_mark_27 ?_
        refine lv_iload_n hx hb dX11_mark_30 rfl (lv_at hl 1 rfl) ?_
        obtain ⟨x8, hx8, h⟩ := bnd h
        refine w_aP X hH hx8 (by decide) (k := 4) rfl dX11_mark_31 ?_
        refine lv_astore_n (lv' := [(3, .ref x8), (0, .ref a0), (1, .int p1), (2, .int p2)]) hx hb dX11_mark_32 rfl hl (by decide) rfl (fun ls hl => ?_)
        refine lv_iload_n hx hb dX11_mark_33 rfl (lv_at hl 3 rfl) ?_
        refine lv_iconst (v := 1) hx hb dX11_mark_34 (by decide) ?_
        refine lv_icmp_ne (tgt := 57) hx hb dX11_mark_35 (by decide) (fun hc9 => ?_) (fun hc9 => ?_)
        · replace h := iff' h hc9
          refine lv_iload_n hx hb dX11_mark_57 rfl (lv_at hl 3 rfl) ?_
          refine lv_iconst (v := 2) hx hb dX11_mark_58 (by decide) ?_
          refine lv_icmp_ne (tgt := 77) hx hb dX11_mark_59 (by decide) (fun hc10 => ?_) (fun hc10 => ?_)
          · replace h := iff' h hc10
            refine lv_iload_n hx hb dX11_mark_77 rfl (lv_at hl 3 rfl) ?_
            refine lv_iconst (v := 3) hx hb dX11_mark_78 (by decide) ?_
            refine lv_icmp_ne (tgt := 97) hx hb dX11_mark_79 (by decide) (fun hc11 => ?_) (fun hc11 => ?_)
            · replace h := iff' h hc11
              refine lv_iload_n hx hb dX11_mark_97 rfl (lv_at hl 3 rfl) ?_
              refine lv_iconst (v := 4) hx hb dX11_mark_98 (by decide) ?_
              refine lv_icmp_ne (tgt := 121) hx hb dX11_mark_99 (by decide) (fun hc12 => ?_) (fun hc12 => ?_)
              · replace h := iff' h hc12
                refine lv_iload_n hx hb dX11_mark_121 rfl (lv_at hl 3 rfl) ?_
                refine lv_iconst (v := 5) hx hb dX11_mark_122 (by decide) ?_
                refine lv_icmp_ne (tgt := 152) hx hb dX11_mark_123 (by decide) (fun hc13 => ?_) (fun hc13 => ?_)
                · replace h := iff' h hc13
                  refine lv_aload_n hx hb dX11_mark_152 rfl (lv_at hl 1 rfl) ?_
                  refine lv_iconst (v := 3) hx hb dX11_mark_153 (by decide) ?_
                  obtain ⟨x14, hx14, h⟩ := bnd h
                  refine iv_X11_109 l X hH hRL (by decide) hx14 hl.1 (Nat.le_of_ble_eq_true rfl) dX11_mark_154 hcs (fun H locs hH => ?_)
                  exact eI X hH h hr dX11_mark_157 (Nat.le_of_ble_eq_true rfl) (Nat.le_of_ble_eq_true rfl)
                · replace h := ift h hc13
                  refine lv_aload_n hx hb dX11_mark_126 rfl (lv_at hl 0 rfl) ?_
                  obtain ⟨x15, hx15, h⟩ := bnd h
                  refine w_inst X hH hx15 u_642 (tc := 9) rfl iy_9 in_9 dX11_mark_127 ?_
                  refine lv_if_eq (tgt := 152) hx hb dX11_mark_130 (by decide) (fun hc16 => ?_) (fun hc16 => ?_)
                  · replace h := ift h hc16
                    refine lv_aload_n hx hb dX11_mark_152 rfl (lv_at hl 1 rfl) ?_
                    refine lv_iconst (v := 3) hx hb dX11_mark_153 (by decide) ?_
                    obtain ⟨x17, hx17, h⟩ := bnd h
                    refine iv_X11_109 l X hH hRL (by decide) hx17 hl.1 (Nat.le_of_ble_eq_true rfl) dX11_mark_154 hcs (fun H locs hH => ?_)
                    exact eI X hH h hr dX11_mark_157 (Nat.le_of_ble_eq_true rfl) (Nat.le_of_ble_eq_true rfl)
                  · replace h := iff' h hc16
                    refine lv_aload_n hx hb dX11_mark_133 rfl (lv_at hl 0 rfl) ?_
                    obtain ⟨_, hx18, h⟩ := bnd h
                    refine w_cast X hH hx18 u_642 (tc := 9) rfl iy_9 dX11_mark_134 ?_
                    refine lv_astore (lv' := [(4, .ref x8), (3, .ref x8), (0, .ref a0), (1, .int p1), (2, .int p2)]) hx hb dX11_mark_137 hl (by decide) rfl (fun ls hl => ?_)
                    refine lv_aload hx hb dX11_mark_139 (lv_at hl 0 rfl) ?_
                    refine lv_aload_n hx hb dX11_mark_141 rfl (lv_at hl 2 rfl) ?_
                    obtain ⟨x19, hx19, h⟩ := bnd h
                    refine gf_X11_21 X hH hx19 dX11_mark_142 ?_
                    obtain ⟨x20, hx20, h⟩ := bnd h
                    refine gf_X11_181 X hH hx20 dX11_mark_145 ?_
                    obtain ⟨x21, hx21, h⟩ := bnd h
                    refine iv_X11_184 l X hH hRL (by decide) hx21 hl.1 (Nat.le_of_ble_eq_true rfl) dX11_mark_148 hcs (fun H locs hH => ?_)
                    exact eI X hH h hr dX11_mark_151 (Nat.le_of_ble_eq_true rfl) (Nat.le_of_ble_eq_true rfl)
              · replace h := ift h hc12
                refine lv_aload_n hx hb dX11_mark_102 rfl (lv_at hl 0 rfl) ?_
                obtain ⟨x22, hx22, h⟩ := bnd h
                refine w_inst X hH hx22 u_640 (tc := 6) rfl iy_6 in_6 dX11_mark_103 ?_
                refine lv_if_eq (tgt := 121) hx hb dX11_mark_106 (by decide) (fun hc23 => ?_) (fun hc23 => ?_)
                · replace h := ift h hc23
                  refine lv_iload_n hx hb dX11_mark_121 rfl (lv_at hl 3 rfl) ?_
                  refine lv_iconst (v := 5) hx hb dX11_mark_122 (by decide) ?_
                  refine lv_icmp_ne (tgt := 152) hx hb dX11_mark_123 (by decide) (fun hc24 => ?_) (fun hc24 => ?_)
                  · replace h := iff' h hc24
                    refine lv_aload_n hx hb dX11_mark_152 rfl (lv_at hl 1 rfl) ?_
                    refine lv_iconst (v := 3) hx hb dX11_mark_153 (by decide) ?_
                    obtain ⟨x25, hx25, h⟩ := bnd h
                    refine iv_X11_109 l X hH hRL (by decide) hx25 hl.1 (Nat.le_of_ble_eq_true rfl) dX11_mark_154 hcs (fun H locs hH => ?_)
                    exact eI X hH h hr dX11_mark_157 (Nat.le_of_ble_eq_true rfl) (Nat.le_of_ble_eq_true rfl)
                  · replace h := ift h hc24
                    refine lv_aload_n hx hb dX11_mark_126 rfl (lv_at hl 0 rfl) ?_
                    obtain ⟨x26, hx26, h⟩ := bnd h
                    refine w_inst X hH hx26 u_642 (tc := 9) rfl iy_9 in_9 dX11_mark_127 ?_
                    refine lv_if_eq (tgt := 152) hx hb dX11_mark_130 (by decide) (fun hc27 => ?_) (fun hc27 => ?_)
                    · replace h := ift h hc27
                      refine lv_aload_n hx hb dX11_mark_152 rfl (lv_at hl 1 rfl) ?_
                      refine lv_iconst (v := 3) hx hb dX11_mark_153 (by decide) ?_
                      obtain ⟨x28, hx28, h⟩ := bnd h
                      refine iv_X11_109 l X hH hRL (by decide) hx28 hl.1 (Nat.le_of_ble_eq_true rfl) dX11_mark_154 hcs (fun H locs hH => ?_)
                      exact eI X hH h hr dX11_mark_157 (Nat.le_of_ble_eq_true rfl) (Nat.le_of_ble_eq_true rfl)
                    · replace h := iff' h hc27
                      refine lv_aload_n hx hb dX11_mark_133 rfl (lv_at hl 0 rfl) ?_
                      obtain ⟨_, hx29, h⟩ := bnd h
                      refine w_cast X hH hx29 u_642 (tc := 9) rfl iy_9 dX11_mark_134 ?_
                      refine lv_astore (lv' := [(4, .ref x8), (3, .ref x8), (0, .ref a0), (1, .int p1), (2, .int p2)]) hx hb dX11_mark_137 hl (by decide) rfl (fun ls hl => ?_)
                      refine lv_aload hx hb dX11_mark_139 (lv_at hl 0 rfl) ?_
                      refine lv_aload_n hx hb dX11_mark_141 rfl (lv_at hl 2 rfl) ?_
                      obtain ⟨x30, hx30, h⟩ := bnd h
                      refine gf_X11_21 X hH hx30 dX11_mark_142 ?_
                      obtain ⟨x31, hx31, h⟩ := bnd h
                      refine gf_X11_181 X hH hx31 dX11_mark_145 ?_
                      obtain ⟨x32, hx32, h⟩ := bnd h
                      refine iv_X11_184 l X hH hRL (by decide) hx32 hl.1 (Nat.le_of_ble_eq_true rfl) dX11_mark_148 hcs (fun H locs hH => ?_)
                      exact eI X hH h hr dX11_mark_151 (Nat.le_of_ble_eq_true rfl) (Nat.le_of_ble_eq_true rfl)
                · replace h := iff' h hc23
                  refine lv_aload_n hx hb dX11_mark_109 rfl (lv_at hl 0 rfl) ?_
                  obtain ⟨_, hx33, h⟩ := bnd h
                  refine w_cast X hH hx33 u_640 (tc := 6) rfl iy_6 dX11_mark_110 ?_
                  refine lv_astore (lv' := [(4, .ref x8), (3, .ref x8), (0, .ref a0), (1, .int p1), (2, .int p2)]) hx hb dX11_mark_113 hl (by decide) rfl (fun ls hl => ?_)
                  refine lv_aload hx hb dX11_mark_115 (lv_at hl 0 rfl) ?_
                  obtain ⟨x34, hx34, h⟩ := bnd h
                  refine iv_X11_176 l X hH hRL (by decide) hx34 hl.1 (Nat.le_of_ble_eq_true rfl) dX11_mark_117 hcs (fun H locs hH => ?_)
                  exact eI X hH h hr dX11_mark_120 (Nat.le_of_ble_eq_true rfl) (Nat.le_of_ble_eq_true rfl)
            · replace h := ift h hc11
              refine lv_aload_n hx hb dX11_mark_82 rfl (lv_at hl 0 rfl) ?_
              obtain ⟨x35, hx35, h⟩ := bnd h
              refine w_inst X hH hx35 u_635 (tc := 0) rfl iy_0 in_0 dX11_mark_83 ?_
              refine lv_if_eq (tgt := 97) hx hb dX11_mark_86 (by decide) (fun hc36 => ?_) (fun hc36 => ?_)
              · replace h := ift h hc36
                refine lv_iload_n hx hb dX11_mark_97 rfl (lv_at hl 3 rfl) ?_
                refine lv_iconst (v := 4) hx hb dX11_mark_98 (by decide) ?_
                refine lv_icmp_ne (tgt := 121) hx hb dX11_mark_99 (by decide) (fun hc37 => ?_) (fun hc37 => ?_)
                · replace h := iff' h hc37
                  refine lv_iload_n hx hb dX11_mark_121 rfl (lv_at hl 3 rfl) ?_
                  refine lv_iconst (v := 5) hx hb dX11_mark_122 (by decide) ?_
                  refine lv_icmp_ne (tgt := 152) hx hb dX11_mark_123 (by decide) (fun hc38 => ?_) (fun hc38 => ?_)
                  · replace h := iff' h hc38
                    refine lv_aload_n hx hb dX11_mark_152 rfl (lv_at hl 1 rfl) ?_
                    refine lv_iconst (v := 3) hx hb dX11_mark_153 (by decide) ?_
                    obtain ⟨x39, hx39, h⟩ := bnd h
                    refine iv_X11_109 l X hH hRL (by decide) hx39 hl.1 (Nat.le_of_ble_eq_true rfl) dX11_mark_154 hcs (fun H locs hH => ?_)
                    exact eI X hH h hr dX11_mark_157 (Nat.le_of_ble_eq_true rfl) (Nat.le_of_ble_eq_true rfl)
                  · replace h := ift h hc38
                    refine lv_aload_n hx hb dX11_mark_126 rfl (lv_at hl 0 rfl) ?_
                    obtain ⟨x40, hx40, h⟩ := bnd h
                    refine w_inst X hH hx40 u_642 (tc := 9) rfl iy_9 in_9 dX11_mark_127 ?_
                    refine lv_if_eq (tgt := 152) hx hb dX11_mark_130 (by decide) (fun hc41 => ?_) (fun hc41 => ?_)
                    · replace h := ift h hc41
                      refine lv_aload_n hx hb dX11_mark_152 rfl (lv_at hl 1 rfl) ?_
                      refine lv_iconst (v := 3) hx hb dX11_mark_153 (by decide) ?_
                      obtain ⟨x42, hx42, h⟩ := bnd h
                      refine iv_X11_109 l X hH hRL (by decide) hx42 hl.1 (Nat.le_of_ble_eq_true rfl) dX11_mark_154 hcs (fun H locs hH => ?_)
                      exact eI X hH h hr dX11_mark_157 (Nat.le_of_ble_eq_true rfl) (Nat.le_of_ble_eq_true rfl)
                    · replace h := iff' h hc41
                      refine lv_aload_n hx hb dX11_mark_133 rfl (lv_at hl 0 rfl) ?_
                      obtain ⟨_, hx43, h⟩ := bnd h
                      refine w_cast X hH hx43 u_642 (tc := 9) rfl iy_9 dX11_mark_134 ?_
                      refine lv_astore (lv' := [(4, .ref x8), (3, .ref x8), (0, .ref a0), (1, .int p1), (2, .int p2)]) hx hb dX11_mark_137 hl (by decide) rfl (fun ls hl => ?_)
                      refine lv_aload hx hb dX11_mark_139 (lv_at hl 0 rfl) ?_
                      refine lv_aload_n hx hb dX11_mark_141 rfl (lv_at hl 2 rfl) ?_
                      obtain ⟨x44, hx44, h⟩ := bnd h
                      refine gf_X11_21 X hH hx44 dX11_mark_142 ?_
                      obtain ⟨x45, hx45, h⟩ := bnd h
                      refine gf_X11_181 X hH hx45 dX11_mark_145 ?_
                      obtain ⟨x46, hx46, h⟩ := bnd h
                      refine iv_X11_184 l X hH hRL (by decide) hx46 hl.1 (Nat.le_of_ble_eq_true rfl) dX11_mark_148 hcs (fun H locs hH => ?_)
                      exact eI X hH h hr dX11_mark_151 (Nat.le_of_ble_eq_true rfl) (Nat.le_of_ble_eq_true rfl)
                · replace h := ift h hc37
                  refine lv_aload_n hx hb dX11_mark_102 rfl (lv_at hl 0 rfl) ?_
                  obtain ⟨x47, hx47, h⟩ := bnd h
                  refine w_inst X hH hx47 u_640 (tc := 6) rfl iy_6 in_6 dX11_mark_103 ?_
                  refine lv_if_eq (tgt := 121) hx hb dX11_mark_106 (by decide) (fun hc48 => ?_) (fun hc48 => ?_)
                  · replace h := ift h hc48
                    refine lv_iload_n hx hb dX11_mark_121 rfl (lv_at hl 3 rfl) ?_
                    refine lv_iconst (v := 5) hx hb dX11_mark_122 (by decide) ?_
                    refine lv_icmp_ne (tgt := 152) hx hb dX11_mark_123 (by decide) (fun hc49 => ?_) (fun hc49 => ?_)
                    · replace h := iff' h hc49
                      refine lv_aload_n hx hb dX11_mark_152 rfl (lv_at hl 1 rfl) ?_
                      refine lv_iconst (v := 3) hx hb dX11_mark_153 (by decide) ?_
                      obtain ⟨x50, hx50, h⟩ := bnd h
                      refine iv_X11_109 l X hH hRL (by decide) hx50 hl.1 (Nat.le_of_ble_eq_true rfl) dX11_mark_154 hcs (fun H locs hH => ?_)
                      exact eI X hH h hr dX11_mark_157 (Nat.le_of_ble_eq_true rfl) (Nat.le_of_ble_eq_true rfl)
                    · replace h := ift h hc49
                      refine lv_aload_n hx hb dX11_mark_126 rfl (lv_at hl 0 rfl) ?_
                      obtain ⟨x51, hx51, h⟩ := bnd h
                      refine w_inst X hH hx51 u_642 (tc := 9) rfl iy_9 in_9 dX11_mark_127 ?_
                      refine lv_if_eq (tgt := 152) hx hb dX11_mark_130 (by decide) (fun hc52 => ?_) (fun hc52 => ?_)
                      · replace h := ift h hc52
                        refine lv_aload_n hx hb dX11_mark_152 rfl (lv_at hl 1 rfl) ?_
                        refine lv_iconst (v := 3) hx hb dX11_mark_153 (by decide) ?_
                        obtain ⟨x53, hx53, h⟩ := bnd h
                        refine iv_X11_109 l X hH hRL (by decide) hx53 hl.1 (Nat.le_of_ble_eq_true rfl) dX11_mark_154 hcs (fun H locs hH => ?_)
                        exact eI X hH h hr dX11_mark_157 (Nat.le_of_ble_eq_true rfl) (Nat.le_of_ble_eq_true rfl)
                      · replace h := iff' h hc52
                        refine lv_aload_n hx hb dX11_mark_133 rfl (lv_at hl 0 rfl) ?_
                        obtain ⟨_, hx54, h⟩ := bnd h
                        refine w_cast X hH hx54 u_642 (tc := 9) rfl iy_9 dX11_mark_134 ?_
                        refine lv_astore (lv' := [(4, .ref x8), (3, .ref x8), (0, .ref a0), (1, .int p1), (2, .int p2)]) hx hb dX11_mark_137 hl (by decide) rfl (fun ls hl => ?_)
                        refine lv_aload hx hb dX11_mark_139 (lv_at hl 0 rfl) ?_
                        refine lv_aload_n hx hb dX11_mark_141 rfl (lv_at hl 2 rfl) ?_
                        obtain ⟨x55, hx55, h⟩ := bnd h
                        refine gf_X11_21 X hH hx55 dX11_mark_142 ?_
                        obtain ⟨x56, hx56, h⟩ := bnd h
                        refine gf_X11_181 X hH hx56 dX11_mark_145 ?_
                        obtain ⟨x57, hx57, h⟩ := bnd h
                        refine iv_X11_184 l X hH hRL (by decide) hx57 hl.1 (Nat.le_of_ble_eq_true rfl) dX11_mark_148 hcs (fun H locs hH => ?_)
                        exact eI X hH h hr dX11_mark_151 (Nat.le_of_ble_eq_true rfl) (Nat.le_of_ble_eq_true rfl)
                  · replace h := iff' h hc48
                    refine lv_aload_n hx hb dX11_mark_109 rfl (lv_at hl 0 rfl) ?_
                    obtain ⟨_, hx58, h⟩ := bnd h
                    refine w_cast X hH hx58 u_640 (tc := 6) rfl iy_6 dX11_mark_110 ?_
                    refine lv_astore (lv' := [(4, .ref x8), (3, .ref x8), (0, .ref a0), (1, .int p1), (2, .int p2)]) hx hb dX11_mark_113 hl (by decide) rfl (fun ls hl => ?_)
                    refine lv_aload hx hb dX11_mark_115 (lv_at hl 0 rfl) ?_
                    obtain ⟨x59, hx59, h⟩ := bnd h
                    refine iv_X11_176 l X hH hRL (by decide) hx59 hl.1 (Nat.le_of_ble_eq_true rfl) dX11_mark_117 hcs (fun H locs hH => ?_)
                    exact eI X hH h hr dX11_mark_120 (Nat.le_of_ble_eq_true rfl) (Nat.le_of_ble_eq_true rfl)
              · replace h := iff' h hc36
                refine lv_aload_n hx hb dX11_mark_89 rfl (lv_at hl 1 rfl) ?_
                obtain ⟨x60, hx60, h⟩ := bnd h
                refine gf_X11_21 X hH hx60 dX11_mark_90 ?_
                obtain ⟨x61, hx61, h⟩ := bnd h
                refine iv_X11_171 l X hH hRL (by decide) hx61 hl.1 (Nat.le_of_ble_eq_true rfl) dX11_mark_93 hcs (fun H locs hH => ?_)
                exact eI X hH h hr dX11_mark_96 (Nat.le_of_ble_eq_true rfl) (Nat.le_of_ble_eq_true rfl)
          · replace h := ift h hc10
            refine lv_aload_n hx hb dX11_mark_62 rfl (lv_at hl 0 rfl) ?_
            obtain ⟨x62, hx62, h⟩ := bnd h
            refine w_inst X hH hx62 u_630 (tc := 1) rfl iy_1 in_1 dX11_mark_63 ?_
            refine lv_if_eq (tgt := 77) hx hb dX11_mark_66 (by decide) (fun hc63 => ?_) (fun hc63 => ?_)
            · replace h := ift h hc63
              refine lv_iload_n hx hb dX11_mark_77 rfl (lv_at hl 3 rfl) ?_
              refine lv_iconst (v := 3) hx hb dX11_mark_78 (by decide) ?_
              refine lv_icmp_ne (tgt := 97) hx hb dX11_mark_79 (by decide) (fun hc64 => ?_) (fun hc64 => ?_)
              · replace h := iff' h hc64
                refine lv_iload_n hx hb dX11_mark_97 rfl (lv_at hl 3 rfl) ?_
                refine lv_iconst (v := 4) hx hb dX11_mark_98 (by decide) ?_
                refine lv_icmp_ne (tgt := 121) hx hb dX11_mark_99 (by decide) (fun hc65 => ?_) (fun hc65 => ?_)
                · replace h := iff' h hc65
                  refine lv_iload_n hx hb dX11_mark_121 rfl (lv_at hl 3 rfl) ?_
                  refine lv_iconst (v := 5) hx hb dX11_mark_122 (by decide) ?_
                  refine lv_icmp_ne (tgt := 152) hx hb dX11_mark_123 (by decide) (fun hc66 => ?_) (fun hc66 => ?_)
                  · replace h := iff' h hc66
                    refine lv_aload_n hx hb dX11_mark_152 rfl (lv_at hl 1 rfl) ?_
                    refine lv_iconst (v := 3) hx hb dX11_mark_153 (by decide) ?_
                    obtain ⟨x67, hx67, h⟩ := bnd h
                    refine iv_X11_109 l X hH hRL (by decide) hx67 hl.1 (Nat.le_of_ble_eq_true rfl) dX11_mark_154 hcs (fun H locs hH => ?_)
                    exact eI X hH h hr dX11_mark_157 (Nat.le_of_ble_eq_true rfl) (Nat.le_of_ble_eq_true rfl)
                  · replace h := ift h hc66
                    refine lv_aload_n hx hb dX11_mark_126 rfl (lv_at hl 0 rfl) ?_
                    obtain ⟨x68, hx68, h⟩ := bnd h
                    refine w_inst X hH hx68 u_642 (tc := 9) rfl iy_9 in_9 dX11_mark_127 ?_
                    refine lv_if_eq (tgt := 152) hx hb dX11_mark_130 (by decide) (fun hc69 => ?_) (fun hc69 => ?_)
                    · replace h := ift h hc69
                      refine lv_aload_n hx hb dX11_mark_152 rfl (lv_at hl 1 rfl) ?_
                      refine lv_iconst (v := 3) hx hb dX11_mark_153 (by decide) ?_
                      obtain ⟨x70, hx70, h⟩ := bnd h
                      refine iv_X11_109 l X hH hRL (by decide) hx70 hl.1 (Nat.le_of_ble_eq_true rfl) dX11_mark_154 hcs (fun H locs hH => ?_)
                      exact eI X hH h hr dX11_mark_157 (Nat.le_of_ble_eq_true rfl) (Nat.le_of_ble_eq_true rfl)
                    · replace h := iff' h hc69
                      refine lv_aload_n hx hb dX11_mark_133 rfl (lv_at hl 0 rfl) ?_
                      obtain ⟨_, hx71, h⟩ := bnd h
                      refine w_cast X hH hx71 u_642 (tc := 9) rfl iy_9 dX11_mark_134 ?_
                      refine lv_astore (lv' := [(4, .ref x8), (3, .ref x8), (0, .ref a0), (1, .int p1), (2, .int p2)]) hx hb dX11_mark_137 hl (by decide) rfl (fun ls hl => ?_)
                      refine lv_aload hx hb dX11_mark_139 (lv_at hl 0 rfl) ?_
                      refine lv_aload_n hx hb dX11_mark_141 rfl (lv_at hl 2 rfl) ?_
                      obtain ⟨x72, hx72, h⟩ := bnd h
                      refine gf_X11_21 X hH hx72 dX11_mark_142 ?_
                      obtain ⟨x73, hx73, h⟩ := bnd h
                      refine gf_X11_181 X hH hx73 dX11_mark_145 ?_
                      obtain ⟨x74, hx74, h⟩ := bnd h
                      refine iv_X11_184 l X hH hRL (by decide) hx74 hl.1 (Nat.le_of_ble_eq_true rfl) dX11_mark_148 hcs (fun H locs hH => ?_)
                      exact eI X hH h hr dX11_mark_151 (Nat.le_of_ble_eq_true rfl) (Nat.le_of_ble_eq_true rfl)
                · replace h := ift h hc65
                  refine lv_aload_n hx hb dX11_mark_102 rfl (lv_at hl 0 rfl) ?_
                  obtain ⟨x75, hx75, h⟩ := bnd h
                  refine w_inst X hH hx75 u_640 (tc := 6) rfl iy_6 in_6 dX11_mark_103 ?_
                  refine lv_if_eq (tgt := 121) hx hb dX11_mark_106 (by decide) (fun hc76 => ?_) (fun hc76 => ?_)
                  · replace h := ift h hc76
                    refine lv_iload_n hx hb dX11_mark_121 rfl (lv_at hl 3 rfl) ?_
                    refine lv_iconst (v := 5) hx hb dX11_mark_122 (by decide) ?_
                    refine lv_icmp_ne (tgt := 152) hx hb dX11_mark_123 (by decide) (fun hc77 => ?_) (fun hc77 => ?_)
                    · replace h := iff' h hc77
                      refine lv_aload_n hx hb dX11_mark_152 rfl (lv_at hl 1 rfl) ?_
                      refine lv_iconst (v := 3) hx hb dX11_mark_153 (by decide) ?_
                      obtain ⟨x78, hx78, h⟩ := bnd h
                      refine iv_X11_109 l X hH hRL (by decide) hx78 hl.1 (Nat.le_of_ble_eq_true rfl) dX11_mark_154 hcs (fun H locs hH => ?_)
                      exact eI X hH h hr dX11_mark_157 (Nat.le_of_ble_eq_true rfl) (Nat.le_of_ble_eq_true rfl)
                    · replace h := ift h hc77
                      refine lv_aload_n hx hb dX11_mark_126 rfl (lv_at hl 0 rfl) ?_
                      obtain ⟨x79, hx79, h⟩ := bnd h
                      refine w_inst X hH hx79 u_642 (tc := 9) rfl iy_9 in_9 dX11_mark_127 ?_
                      refine lv_if_eq (tgt := 152) hx hb dX11_mark_130 (by decide) (fun hc80 => ?_) (fun hc80 => ?_)
                      · replace h := ift h hc80
                        refine lv_aload_n hx hb dX11_mark_152 rfl (lv_at hl 1 rfl) ?_
                        refine lv_iconst (v := 3) hx hb dX11_mark_153 (by decide) ?_
                        obtain ⟨x81, hx81, h⟩ := bnd h
                        refine iv_X11_109 l X hH hRL (by decide) hx81 hl.1 (Nat.le_of_ble_eq_true rfl) dX11_mark_154 hcs (fun H locs hH => ?_)
                        exact eI X hH h hr dX11_mark_157 (Nat.le_of_ble_eq_true rfl) (Nat.le_of_ble_eq_true rfl)
                      · replace h := iff' h hc80
                        refine lv_aload_n hx hb dX11_mark_133 rfl (lv_at hl 0 rfl) ?_
                        obtain ⟨_, hx82, h⟩ := bnd h
                        refine w_cast X hH hx82 u_642 (tc := 9) rfl iy_9 dX11_mark_134 ?_
                        refine lv_astore (lv' := [(4, .ref x8), (3, .ref x8), (0, .ref a0), (1, .int p1), (2, .int p2)]) hx hb dX11_mark_137 hl (by decide) rfl (fun ls hl => ?_)
                        refine lv_aload hx hb dX11_mark_139 (lv_at hl 0 rfl) ?_
                        refine lv_aload_n hx hb dX11_mark_141 rfl (lv_at hl 2 rfl) ?_
                        obtain ⟨x83, hx83, h⟩ := bnd h
                        refine gf_X11_21 X hH hx83 dX11_mark_142 ?_
                        obtain ⟨x84, hx84, h⟩ := bnd h
                        refine gf_X11_181 X hH hx84 dX11_mark_145 ?_
                        obtain ⟨x85, hx85, h⟩ := bnd h
                        refine iv_X11_184 l X hH hRL (by decide) hx85 hl.1 (Nat.le_of_ble_eq_true rfl) dX11_mark_148 hcs (fun H locs hH => ?_)
                        exact eI X hH h hr dX11_mark_151 (Nat.le_of_ble_eq_true rfl) (Nat.le_of_ble_eq_true rfl)
                  · replace h := iff' h hc76
                    refine lv_aload_n hx hb dX11_mark_109 rfl (lv_at hl 0 rfl) ?_
                    obtain ⟨_, hx86, h⟩ := bnd h
                    refine w_cast X hH hx86 u_640 (tc := 6) rfl iy_6 dX11_mark_110 ?_
                    refine lv_astore (lv' := [(4, .ref x8), (3, .ref x8), (0, .ref a0), (1, .int p1), (2, .int p2)]) hx hb dX11_mark_113 hl (by decide) rfl (fun ls hl => ?_)
                    refine lv_aload hx hb dX11_mark_115 (lv_at hl 0 rfl) ?_
                    obtain ⟨x87, hx87, h⟩ := bnd h
                    refine iv_X11_176 l X hH hRL (by decide) hx87 hl.1 (Nat.le_of_ble_eq_true rfl) dX11_mark_117 hcs (fun H locs hH => ?_)
                    exact eI X hH h hr dX11_mark_120 (Nat.le_of_ble_eq_true rfl) (Nat.le_of_ble_eq_true rfl)
              · replace h := ift h hc64
                refine lv_aload_n hx hb dX11_mark_82 rfl (lv_at hl 0 rfl) ?_
                obtain ⟨x88, hx88, h⟩ := bnd h
                refine w_inst X hH hx88 u_635 (tc := 0) rfl iy_0 in_0 dX11_mark_83 ?_
                refine lv_if_eq (tgt := 97) hx hb dX11_mark_86 (by decide) (fun hc89 => ?_) (fun hc89 => ?_)
                · replace h := ift h hc89
                  refine lv_iload_n hx hb dX11_mark_97 rfl (lv_at hl 3 rfl) ?_
                  refine lv_iconst (v := 4) hx hb dX11_mark_98 (by decide) ?_
                  refine lv_icmp_ne (tgt := 121) hx hb dX11_mark_99 (by decide) (fun hc90 => ?_) (fun hc90 => ?_)
                  · replace h := iff' h hc90
                    refine lv_iload_n hx hb dX11_mark_121 rfl (lv_at hl 3 rfl) ?_
                    refine lv_iconst (v := 5) hx hb dX11_mark_122 (by decide) ?_
                    refine lv_icmp_ne (tgt := 152) hx hb dX11_mark_123 (by decide) (fun hc91 => ?_) (fun hc91 => ?_)
                    · replace h := iff' h hc91
                      refine lv_aload_n hx hb dX11_mark_152 rfl (lv_at hl 1 rfl) ?_
                      refine lv_iconst (v := 3) hx hb dX11_mark_153 (by decide) ?_
                      obtain ⟨x92, hx92, h⟩ := bnd h
                      refine iv_X11_109 l X hH hRL (by decide) hx92 hl.1 (Nat.le_of_ble_eq_true rfl) dX11_mark_154 hcs (fun H locs hH => ?_)
                      exact eI X hH h hr dX11_mark_157 (Nat.le_of_ble_eq_true rfl) (Nat.le_of_ble_eq_true rfl)
                    · replace h := ift h hc91
                      refine lv_aload_n hx hb dX11_mark_126 rfl (lv_at hl 0 rfl) ?_
                      obtain ⟨x93, hx93, h⟩ := bnd h
                      refine w_inst X hH hx93 u_642 (tc := 9) rfl iy_9 in_9 dX11_mark_127 ?_
                      refine lv_if_eq (tgt := 152) hx hb dX11_mark_130 (by decide) (fun hc94 => ?_) (fun hc94 => ?_)
                      · replace h := ift h hc94
                        refine lv_aload_n hx hb dX11_mark_152 rfl (lv_at hl 1 rfl) ?_
                        refine lv_iconst (v := 3) hx hb dX11_mark_153 (by decide) ?_
                        obtain ⟨x95, hx95, h⟩ := bnd h
                        refine iv_X11_109 l X hH hRL (by decide) hx95 hl.1 (Nat.le_of_ble_eq_true rfl) dX11_mark_154 hcs (fun H locs hH => ?_)
                        exact eI X hH h hr dX11_mark_157 (Nat.le_of_ble_eq_true rfl) (Nat.le_of_ble_eq_true rfl)
                      · replace h := iff' h hc94
                        refine lv_aload_n hx hb dX11_mark_133 rfl (lv_at hl 0 rfl) ?_
                        obtain ⟨_, hx96, h⟩ := bnd h
                        refine w_cast X hH hx96 u_642 (tc := 9) rfl iy_9 dX11_mark_134 ?_
                        refine lv_astore (lv' := [(4, .ref x8), (3, .ref x8), (0, .ref a0), (1, .int p1), (2, .int p2)]) hx hb dX11_mark_137 hl (by decide) rfl (fun ls hl => ?_)
                        refine lv_aload hx hb dX11_mark_139 (lv_at hl 0 rfl) ?_
                        refine lv_aload_n hx hb dX11_mark_141 rfl (lv_at hl 2 rfl) ?_
                        obtain ⟨x97, hx97, h⟩ := bnd h
                        refine gf_X11_21 X hH hx97 dX11_mark_142 ?_
                        obtain ⟨x98, hx98, h⟩ := bnd h
                        refine gf_X11_181 X hH hx98 dX11_mark_145 ?_
                        obtain ⟨x99, hx99, h⟩ := bnd h
                        refine iv_X11_184 l X hH hRL (by decide) hx99 hl.1 (Nat.le_of_ble_eq_true rfl) dX11_mark_148 hcs (fun H locs hH => ?_)
                        exact eI X hH h hr dX11_mark_151 (Nat.le_of_ble_eq_true rfl) (Nat.le_of_ble_eq_true rfl)
                  · replace h := ift h hc90
                    refine lv_aload_n hx hb dX11_mark_102 rfl (lv_at hl 0 rfl) ?_
                    obtain ⟨x100, hx100, h⟩ := bnd h
                    refine w_inst X hH hx100 u_640 (tc := 6) rfl iy_6 in_6 dX11_mark_103 ?_
                    refine lv_if_eq (tgt := 121) hx hb dX11_mark_106 (by decide) (fun hc101 => ?_) (fun hc101 => ?_)
                    · replace h := ift h hc101
                      refine lv_iload_n hx hb dX11_mark_121 rfl (lv_at hl 3 rfl) ?_
                      refine lv_iconst (v := 5) hx hb dX11_mark_122 (by decide) ?_
                      refine lv_icmp_ne (tgt := 152) hx hb dX11_mark_123 (by decide) (fun hc102 => ?_) (fun hc102 => ?_)
                      · replace h := iff' h hc102
                        refine lv_aload_n hx hb dX11_mark_152 rfl (lv_at hl 1 rfl) ?_
                        refine lv_iconst (v := 3) hx hb dX11_mark_153 (by decide) ?_
                        obtain ⟨x103, hx103, h⟩ := bnd h
                        refine iv_X11_109 l X hH hRL (by decide) hx103 hl.1 (Nat.le_of_ble_eq_true rfl) dX11_mark_154 hcs (fun H locs hH => ?_)
                        exact eI X hH h hr dX11_mark_157 (Nat.le_of_ble_eq_true rfl) (Nat.le_of_ble_eq_true rfl)
                      · replace h := ift h hc102
                        refine lv_aload_n hx hb dX11_mark_126 rfl (lv_at hl 0 rfl) ?_
                        obtain ⟨x104, hx104, h⟩ := bnd h
                        refine w_inst X hH hx104 u_642 (tc := 9) rfl iy_9 in_9 dX11_mark_127 ?_
                        refine lv_if_eq (tgt := 152) hx hb dX11_mark_130 (by decide) (fun hc105 => ?_) (fun hc105 => ?_)
                        · replace h := ift h hc105
                          refine lv_aload_n hx hb dX11_mark_152 rfl (lv_at hl 1 rfl) ?_
                          refine lv_iconst (v := 3) hx hb dX11_mark_153 (by decide) ?_
                          obtain ⟨x106, hx106, h⟩ := bnd h
                          refine iv_X11_109 l X hH hRL (by decide) hx106 hl.1 (Nat.le_of_ble_eq_true rfl) dX11_mark_154 hcs (fun H locs hH => ?_)
                          exact eI X hH h hr dX11_mark_157 (Nat.le_of_ble_eq_true rfl) (Nat.le_of_ble_eq_true rfl)
                        · replace h := iff' h hc105
                          refine lv_aload_n hx hb dX11_mark_133 rfl (lv_at hl 0 rfl) ?_
                          obtain ⟨_, hx107, h⟩ := bnd h
                          refine w_cast X hH hx107 u_642 (tc := 9) rfl iy_9 dX11_mark_134 ?_
                          refine lv_astore (lv' := [(4, .ref x8), (3, .ref x8), (0, .ref a0), (1, .int p1), (2, .int p2)]) hx hb dX11_mark_137 hl (by decide) rfl (fun ls hl => ?_)
                          refine lv_aload hx hb dX11_mark_139 (lv_at hl 0 rfl) ?_
                          refine lv_aload_n hx hb dX11_mark_141 rfl (lv_at hl 2 rfl) ?_
                          obtain ⟨x108, hx108, h⟩ := bnd h
                          refine gf_X11_21 X hH hx108 dX11_mark_142 ?_
                          obtain ⟨x109, hx109, h⟩ := bnd h
                          refine gf_X11_181 X hH hx109 dX11_mark_145 ?_
                          obtain ⟨x110, hx110, h⟩ := bnd h
                          refine iv_X11_184 l X hH hRL (by decide) hx110 hl.1 (Nat.le_of_ble_eq_true rfl) dX11_mark_148 hcs (fun H locs hH => ?_)
                          exact eI X hH h hr dX11_mark_151 (Nat.le_of_ble_eq_true rfl) (Nat.le_of_ble_eq_true rfl)
                    · replace h := iff' h hc101
                      refine lv_aload_n hx hb dX11_mark_109 rfl (lv_at hl 0 rfl) ?_
                      obtain ⟨_, hx111, h⟩ := bnd h
                      refine w_cast X hH hx111 u_640 (tc := 6) rfl iy_6 dX11_mark_110 ?_
                      refine lv_astore (lv' := [(4, .ref x8), (3, .ref x8), (0, .ref a0), (1, .int p1), (2, .int p2)]) hx hb dX11_mark_113 hl (by decide) rfl (fun ls hl => ?_)
                      refine lv_aload hx hb dX11_mark_115 (lv_at hl 0 rfl) ?_
                      obtain ⟨x112, hx112, h⟩ := bnd h
                      refine iv_X11_176 l X hH hRL (by decide) hx112 hl.1 (Nat.le_of_ble_eq_true rfl) dX11_mark_117 hcs (fun H locs hH => ?_)
                      exact eI X hH h hr dX11_mark_120 (Nat.le_of_ble_eq_true rfl) (Nat.le_of_ble_eq_true rfl)
                · replace h := iff' h hc89
                  refine lv_aload_n hx hb dX11_mark_89 rfl (lv_at hl 1 rfl) ?_
                  obtain ⟨x113, hx113, h⟩ := bnd h
                  refine gf_X11_21 X hH hx113 dX11_mark_90 ?_
                  obtain ⟨x114, hx114, h⟩ := bnd h
                  refine iv_X11_171 l X hH hRL (by decide) hx114 hl.1 (Nat.le_of_ble_eq_true rfl) dX11_mark_93 hcs (fun H locs hH => ?_)
                  exact eI X hH h hr dX11_mark_96 (Nat.le_of_ble_eq_true rfl) (Nat.le_of_ble_eq_true rfl)
            · replace h := iff' h hc63
              refine lv_aload_n hx hb dX11_mark_69 rfl (lv_at hl 1 rfl) ?_
              obtain ⟨x115, hx115, h⟩ := bnd h
              refine gf_X11_21 X hH hx115 dX11_mark_70 ?_
              obtain ⟨x116, hx116, h⟩ := bnd h
              refine iv_X11_166 l X hH hRL (by decide) hx116 hl.1 (Nat.le_of_ble_eq_true rfl) dX11_mark_73 hcs (fun H locs hH => ?_)
              exact eI X hH h hr dX11_mark_76 (Nat.le_of_ble_eq_true rfl) (Nat.le_of_ble_eq_true rfl)
        · replace h := ift h hc9
          refine lv_aload_n hx hb dX11_mark_38 rfl (lv_at hl 0 rfl) ?_
          obtain ⟨x117, hx117, h⟩ := bnd h
          refine w_inst X hH hx117 u_622 (tc := 4) rfl iy_4 in_4 dX11_mark_39 ?_
          refine lv_if_eq (tgt := 57) hx hb dX11_mark_42 (by decide) (fun hc118 => ?_) (fun hc118 => ?_)
          · replace h := ift h hc118
            refine lv_iload_n hx hb dX11_mark_57 rfl (lv_at hl 3 rfl) ?_
            refine lv_iconst (v := 2) hx hb dX11_mark_58 (by decide) ?_
            refine lv_icmp_ne (tgt := 77) hx hb dX11_mark_59 (by decide) (fun hc119 => ?_) (fun hc119 => ?_)
            · replace h := iff' h hc119
              refine lv_iload_n hx hb dX11_mark_77 rfl (lv_at hl 3 rfl) ?_
              refine lv_iconst (v := 3) hx hb dX11_mark_78 (by decide) ?_
              refine lv_icmp_ne (tgt := 97) hx hb dX11_mark_79 (by decide) (fun hc120 => ?_) (fun hc120 => ?_)
              · replace h := iff' h hc120
                refine lv_iload_n hx hb dX11_mark_97 rfl (lv_at hl 3 rfl) ?_
                refine lv_iconst (v := 4) hx hb dX11_mark_98 (by decide) ?_
                refine lv_icmp_ne (tgt := 121) hx hb dX11_mark_99 (by decide) (fun hc121 => ?_) (fun hc121 => ?_)
                · replace h := iff' h hc121
                  refine lv_iload_n hx hb dX11_mark_121 rfl (lv_at hl 3 rfl) ?_
                  refine lv_iconst (v := 5) hx hb dX11_mark_122 (by decide) ?_
                  refine lv_icmp_ne (tgt := 152) hx hb dX11_mark_123 (by decide) (fun hc122 => ?_) (fun hc122 => ?_)
                  · replace h := iff' h hc122
                    refine lv_aload_n hx hb dX11_mark_152 rfl (lv_at hl 1 rfl) ?_
                    refine lv_iconst (v := 3) hx hb dX11_mark_153 (by decide) ?_
                    obtain ⟨x123, hx123, h⟩ := bnd h
                    refine iv_X11_109 l X hH hRL (by decide) hx123 hl.1 (Nat.le_of_ble_eq_true rfl) dX11_mark_154 hcs (fun H locs hH => ?_)
                    exact eI X hH h hr dX11_mark_157 (Nat.le_of_ble_eq_true rfl) (Nat.le_of_ble_eq_true rfl)
                  · replace h := ift h hc122
                    refine lv_aload_n hx hb dX11_mark_126 rfl (lv_at hl 0 rfl) ?_
                    obtain ⟨x124, hx124, h⟩ := bnd h
                    refine w_inst X hH hx124 u_642 (tc := 9) rfl iy_9 in_9 dX11_mark_127 ?_
                    refine lv_if_eq (tgt := 152) hx hb dX11_mark_130 (by decide) (fun hc125 => ?_) (fun hc125 => ?_)
                    · replace h := ift h hc125
                      refine lv_aload_n hx hb dX11_mark_152 rfl (lv_at hl 1 rfl) ?_
                      refine lv_iconst (v := 3) hx hb dX11_mark_153 (by decide) ?_
                      obtain ⟨x126, hx126, h⟩ := bnd h
                      refine iv_X11_109 l X hH hRL (by decide) hx126 hl.1 (Nat.le_of_ble_eq_true rfl) dX11_mark_154 hcs (fun H locs hH => ?_)
                      exact eI X hH h hr dX11_mark_157 (Nat.le_of_ble_eq_true rfl) (Nat.le_of_ble_eq_true rfl)
                    · replace h := iff' h hc125
                      refine lv_aload_n hx hb dX11_mark_133 rfl (lv_at hl 0 rfl) ?_
                      obtain ⟨_, hx127, h⟩ := bnd h
                      refine w_cast X hH hx127 u_642 (tc := 9) rfl iy_9 dX11_mark_134 ?_
                      refine lv_astore (lv' := [(4, .ref x8), (3, .ref x8), (0, .ref a0), (1, .int p1), (2, .int p2)]) hx hb dX11_mark_137 hl (by decide) rfl (fun ls hl => ?_)
                      refine lv_aload hx hb dX11_mark_139 (lv_at hl 0 rfl) ?_
                      refine lv_aload_n hx hb dX11_mark_141 rfl (lv_at hl 2 rfl) ?_
                      obtain ⟨x128, hx128, h⟩ := bnd h
                      refine gf_X11_21 X hH hx128 dX11_mark_142 ?_
                      obtain ⟨x129, hx129, h⟩ := bnd h
                      refine gf_X11_181 X hH hx129 dX11_mark_145 ?_
                      obtain ⟨x130, hx130, h⟩ := bnd h
                      refine iv_X11_184 l X hH hRL (by decide) hx130 hl.1 (Nat.le_of_ble_eq_true rfl) dX11_mark_148 hcs (fun H locs hH => ?_)
                      exact eI X hH h hr dX11_mark_151 (Nat.le_of_ble_eq_true rfl) (Nat.le_of_ble_eq_true rfl)
                · replace h := ift h hc121
                  refine lv_aload_n hx hb dX11_mark_102 rfl (lv_at hl 0 rfl) ?_
                  obtain ⟨x131, hx131, h⟩ := bnd h
                  refine w_inst X hH hx131 u_640 (tc := 6) rfl iy_6 in_6 dX11_mark_103 ?_
                  refine lv_if_eq (tgt := 121) hx hb dX11_mark_106 (by decide) (fun hc132 => ?_) (fun hc132 => ?_)
                  · replace h := ift h hc132
                    refine lv_iload_n hx hb dX11_mark_121 rfl (lv_at hl 3 rfl) ?_
                    refine lv_iconst (v := 5) hx hb dX11_mark_122 (by decide) ?_
                    refine lv_icmp_ne (tgt := 152) hx hb dX11_mark_123 (by decide) (fun hc133 => ?_) (fun hc133 => ?_)
                    · replace h := iff' h hc133
                      refine lv_aload_n hx hb dX11_mark_152 rfl (lv_at hl 1 rfl) ?_
                      refine lv_iconst (v := 3) hx hb dX11_mark_153 (by decide) ?_
                      obtain ⟨x134, hx134, h⟩ := bnd h
                      refine iv_X11_109 l X hH hRL (by decide) hx134 hl.1 (Nat.le_of_ble_eq_true rfl) dX11_mark_154 hcs (fun H locs hH => ?_)
                      exact eI X hH h hr dX11_mark_157 (Nat.le_of_ble_eq_true rfl) (Nat.le_of_ble_eq_true rfl)
                    · replace h := ift h hc133
                      refine lv_aload_n hx hb dX11_mark_126 rfl (lv_at hl 0 rfl) ?_
                      obtain ⟨x135, hx135, h⟩ := bnd h
                      refine w_inst X hH hx135 u_642 (tc := 9) rfl iy_9 in_9 dX11_mark_127 ?_
                      refine lv_if_eq (tgt := 152) hx hb dX11_mark_130 (by decide) (fun hc136 => ?_) (fun hc136 => ?_)
                      · replace h := ift h hc136
                        refine lv_aload_n hx hb dX11_mark_152 rfl (lv_at hl 1 rfl) ?_
                        refine lv_iconst (v := 3) hx hb dX11_mark_153 (by decide) ?_
                        obtain ⟨x137, hx137, h⟩ := bnd h
                        refine iv_X11_109 l X hH hRL (by decide) hx137 hl.1 (Nat.le_of_ble_eq_true rfl) dX11_mark_154 hcs (fun H locs hH => ?_)
                        exact eI X hH h hr dX11_mark_157 (Nat.le_of_ble_eq_true rfl) (Nat.le_of_ble_eq_true rfl)
                      · replace h := iff' h hc136
                        refine lv_aload_n hx hb dX11_mark_133 rfl (lv_at hl 0 rfl) ?_
                        obtain ⟨_, hx138, h⟩ := bnd h
                        refine w_cast X hH hx138 u_642 (tc := 9) rfl iy_9 dX11_mark_134 ?_
                        refine lv_astore (lv' := [(4, .ref x8), (3, .ref x8), (0, .ref a0), (1, .int p1), (2, .int p2)]) hx hb dX11_mark_137 hl (by decide) rfl (fun ls hl => ?_)
                        refine lv_aload hx hb dX11_mark_139 (lv_at hl 0 rfl) ?_
                        refine lv_aload_n hx hb dX11_mark_141 rfl (lv_at hl 2 rfl) ?_
                        obtain ⟨x139, hx139, h⟩ := bnd h
                        refine gf_X11_21 X hH hx139 dX11_mark_142 ?_
                        obtain ⟨x140, hx140, h⟩ := bnd h
                        refine gf_X11_181 X hH hx140 dX11_mark_145 ?_
                        obtain ⟨x141, hx141, h⟩ := bnd h
                        refine iv_X11_184 l X hH hRL (by decide) hx141 hl.1 (Nat.le_of_ble_eq_true rfl) dX11_mark_148 hcs (fun H locs hH => ?_)
                        exact eI X hH h hr dX11_mark_151 (Nat.le_of_ble_eq_true rfl) (Nat.le_of_ble_eq_true rfl)
                  · replace h := iff' h hc132
                    refine lv_aload_n hx hb dX11_mark_109 rfl (lv_at hl 0 rfl) ?_
                    obtain ⟨_, hx142, h⟩ := bnd h
                    refine w_cast X hH hx142 u_640 (tc := 6) rfl iy_6 dX11_mark_110 ?_
                    refine lv_astore (lv' := [(4, .ref x8), (3, .ref x8), (0, .ref a0), (1, .int p1), (2, .int p2)]) hx hb dX11_mark_113 hl (by decide) rfl (fun ls hl => ?_)
                    refine lv_aload hx hb dX11_mark_115 (lv_at hl 0 rfl) ?_
                    obtain ⟨x143, hx143, h⟩ := bnd h
                    refine iv_X11_176 l X hH hRL (by decide) hx143 hl.1 (Nat.le_of_ble_eq_true rfl) dX11_mark_117 hcs (fun H locs hH => ?_)
                    exact eI X hH h hr dX11_mark_120 (Nat.le_of_ble_eq_true rfl) (Nat.le_of_ble_eq_true rfl)
              · replace h := ift h hc120
                refine lv_aload_n hx hb dX11_mark_82 rfl (lv_at hl 0 rfl) ?_
                obtain ⟨x144, hx144, h⟩ := bnd h
                refine w_inst X hH hx144 u_635 (tc := 0) rfl iy_0 in_0 dX11_mark_83 ?_
                refine lv_if_eq (tgt := 97) hx hb dX11_mark_86 (by decide) (fun hc145 => ?_) (fun hc145 => ?_)
                · replace h := ift h hc145
                  refine lv_iload_n hx hb dX11_mark_97 rfl (lv_at hl 3 rfl) ?_
                  refine lv_iconst (v := 4) hx hb dX11_mark_98 (by decide) ?_
                  refine lv_icmp_ne (tgt := 121) hx hb dX11_mark_99 (by decide) (fun hc146 => ?_) (fun hc146 => ?_)
                  · replace h := iff' h hc146
                    refine lv_iload_n hx hb dX11_mark_121 rfl (lv_at hl 3 rfl) ?_
                    refine lv_iconst (v := 5) hx hb dX11_mark_122 (by decide) ?_
                    refine lv_icmp_ne (tgt := 152) hx hb dX11_mark_123 (by decide) (fun hc147 => ?_) (fun hc147 => ?_)
                    · replace h := iff' h hc147
                      refine lv_aload_n hx hb dX11_mark_152 rfl (lv_at hl 1 rfl) ?_
                      refine lv_iconst (v := 3) hx hb dX11_mark_153 (by decide) ?_
                      obtain ⟨x148, hx148, h⟩ := bnd h
                      refine iv_X11_109 l X hH hRL (by decide) hx148 hl.1 (Nat.le_of_ble_eq_true rfl) dX11_mark_154 hcs (fun H locs hH => ?_)
                      exact eI X hH h hr dX11_mark_157 (Nat.le_of_ble_eq_true rfl) (Nat.le_of_ble_eq_true rfl)
                    · replace h := ift h hc147
                      refine lv_aload_n hx hb dX11_mark_126 rfl (lv_at hl 0 rfl) ?_
                      obtain ⟨x149, hx149, h⟩ := bnd h
                      refine w_inst X hH hx149 u_642 (tc := 9) rfl iy_9 in_9 dX11_mark_127 ?_
                      refine lv_if_eq (tgt := 152) hx hb dX11_mark_130 (by decide) (fun hc150 => ?_) (fun hc150 => ?_)
                      · replace h := ift h hc150
                        refine lv_aload_n hx hb dX11_mark_152 rfl (lv_at hl 1 rfl) ?_
                        refine lv_iconst (v := 3) hx hb dX11_mark_153 (by decide) ?_
                        obtain ⟨x151, hx151, h⟩ := bnd h
                        refine iv_X11_109 l X hH hRL (by decide) hx151 hl.1 (Nat.le_of_ble_eq_true rfl) dX11_mark_154 hcs (fun H locs hH => ?_)
                        exact eI X hH h hr dX11_mark_157 (Nat.le_of_ble_eq_true rfl) (Nat.le_of_ble_eq_true rfl)
                      · replace h := iff' h hc150
                        refine lv_aload_n hx hb dX11_mark_133 rfl (lv_at hl 0 rfl) ?_
                        obtain ⟨_, hx152, h⟩ := bnd h
                        refine w_cast X hH hx152 u_642 (tc := 9) rfl iy_9 dX11_mark_134 ?_
                        refine lv_astore (lv' := [(4, .ref x8), (3, .ref x8), (0, .ref a0), (1, .int p1), (2, .int p2)]) hx hb dX11_mark_137 hl (by decide) rfl (fun ls hl => ?_)
                        refine lv_aload hx hb dX11_mark_139 (lv_at hl 0 rfl) ?_
                        refine lv_aload_n hx hb dX11_mark_141 rfl (lv_at hl 2 rfl) ?_
                        obtain ⟨x153, hx153, h⟩ := bnd h
                        refine gf_X11_21 X hH hx153 dX11_mark_142 ?_
                        obtain ⟨x154, hx154, h⟩ := bnd h
                        refine gf_X11_181 X hH hx154 dX11_mark_145 ?_
                        obtain ⟨x155, hx155, h⟩ := bnd h
                        refine iv_X11_184 l X hH hRL (by decide) hx155 hl.1 (Nat.le_of_ble_eq_true rfl) dX11_mark_148 hcs (fun H locs hH => ?_)
                        exact eI X hH h hr dX11_mark_151 (Nat.le_of_ble_eq_true rfl) (Nat.le_of_ble_eq_true rfl)
                  · replace h := ift h hc146
                    refine lv_aload_n hx hb dX11_mark_102 rfl (lv_at hl 0 rfl) ?_
                    obtain ⟨x156, hx156, h⟩ := bnd h
                    refine w_inst X hH hx156 u_640 (tc := 6) rfl iy_6 in_6 dX11_mark_103 ?_
                    refine lv_if_eq (tgt := 121) hx hb dX11_mark_106 (by decide) (fun hc157 => ?_) (fun hc157 => ?_)
                    · replace h := ift h hc157
                      refine lv_iload_n hx hb dX11_mark_121 rfl (lv_at hl 3 rfl) ?_
                      refine lv_iconst (v := 5) hx hb dX11_mark_122 (by decide) ?_
                      refine lv_icmp_ne (tgt := 152) hx hb dX11_mark_123 (by decide) (fun hc158 => ?_) (fun hc158 => ?_)
                      · replace h := iff' h hc158
                        refine lv_aload_n hx hb dX11_mark_152 rfl (lv_at hl 1 rfl) ?_
                        refine lv_iconst (v := 3) hx hb dX11_mark_153 (by decide) ?_
                        obtain ⟨x159, hx159, h⟩ := bnd h
                        refine iv_X11_109 l X hH hRL (by decide) hx159 hl.1 (Nat.le_of_ble_eq_true rfl) dX11_mark_154 hcs (fun H locs hH => ?_)
                        exact eI X hH h hr dX11_mark_157 (Nat.le_of_ble_eq_true rfl) (Nat.le_of_ble_eq_true rfl)
                      · replace h := ift h hc158
                        refine lv_aload_n hx hb dX11_mark_126 rfl (lv_at hl 0 rfl) ?_
                        obtain ⟨x160, hx160, h⟩ := bnd h
                        refine w_inst X hH hx160 u_642 (tc := 9) rfl iy_9 in_9 dX11_mark_127 ?_
                        refine lv_if_eq (tgt := 152) hx hb dX11_mark_130 (by decide) (fun hc161 => ?_) (fun hc161 => ?_)
                        · replace h := ift h hc161
                          refine lv_aload_n hx hb dX11_mark_152 rfl (lv_at hl 1 rfl) ?_
                          refine lv_iconst (v := 3) hx hb dX11_mark_153 (by decide) ?_
                          obtain ⟨x162, hx162, h⟩ := bnd h
                          refine iv_X11_109 l X hH hRL (by decide) hx162 hl.1 (Nat.le_of_ble_eq_true rfl) dX11_mark_154 hcs (fun H locs hH => ?_)
                          exact eI X hH h hr dX11_mark_157 (Nat.le_of_ble_eq_true rfl) (Nat.le_of_ble_eq_true rfl)
                        · replace h := iff' h hc161
                          refine lv_aload_n hx hb dX11_mark_133 rfl (lv_at hl 0 rfl) ?_
                          obtain ⟨_, hx163, h⟩ := bnd h
                          refine w_cast X hH hx163 u_642 (tc := 9) rfl iy_9 dX11_mark_134 ?_
                          refine lv_astore (lv' := [(4, .ref x8), (3, .ref x8), (0, .ref a0), (1, .int p1), (2, .int p2)]) hx hb dX11_mark_137 hl (by decide) rfl (fun ls hl => ?_)
                          refine lv_aload hx hb dX11_mark_139 (lv_at hl 0 rfl) ?_
                          refine lv_aload_n hx hb dX11_mark_141 rfl (lv_at hl 2 rfl) ?_
                          obtain ⟨x164, hx164, h⟩ := bnd h
                          refine gf_X11_21 X hH hx164 dX11_mark_142 ?_
                          obtain ⟨x165, hx165, h⟩ := bnd h
                          refine gf_X11_181 X hH hx165 dX11_mark_145 ?_
                          obtain ⟨x166, hx166, h⟩ := bnd h
                          refine iv_X11_184 l X hH hRL (by decide) hx166 hl.1 (Nat.le_of_ble_eq_true rfl) dX11_mark_148 hcs (fun H locs hH => ?_)
                          exact eI X hH h hr dX11_mark_151 (Nat.le_of_ble_eq_true rfl) (Nat.le_of_ble_eq_true rfl)
                    · replace h := iff' h hc157
                      refine lv_aload_n hx hb dX11_mark_109 rfl (lv_at hl 0 rfl) ?_
                      obtain ⟨_, hx167, h⟩ := bnd h
                      refine w_cast X hH hx167 u_640 (tc := 6) rfl iy_6 dX11_mark_110 ?_
                      refine lv_astore (lv' := [(4, .ref x8), (3, .ref x8), (0, .ref a0), (1, .int p1), (2, .int p2)]) hx hb dX11_mark_113 hl (by decide) rfl (fun ls hl => ?_)
                      refine lv_aload hx hb dX11_mark_115 (lv_at hl 0 rfl) ?_
                      obtain ⟨x168, hx168, h⟩ := bnd h
                      refine iv_X11_176 l X hH hRL (by decide) hx168 hl.1 (Nat.le_of_ble_eq_true rfl) dX11_mark_117 hcs (fun H locs hH => ?_)
                      exact eI X hH h hr dX11_mark_120 (Nat.le_of_ble_eq_true rfl) (Nat.le_of_ble_eq_true rfl)
                · replace h := iff' h hc145
                  refine lv_aload_n hx hb dX11_mark_89 rfl (lv_at hl 1 rfl) ?_
                  obtain ⟨x169, hx169, h⟩ := bnd h
                  refine gf_X11_21 X hH hx169 dX11_mark_90 ?_
                  obtain ⟨x170, hx170, h⟩ := bnd h
                  refine iv_X11_171 l X hH hRL (by decide) hx170 hl.1 (Nat.le_of_ble_eq_true rfl) dX11_mark_93 hcs (fun H locs hH => ?_)
                  exact eI X hH h hr dX11_mark_96 (Nat.le_of_ble_eq_true rfl) (Nat.le_of_ble_eq_true rfl)
            · replace h := ift h hc119
              refine lv_aload_n hx hb dX11_mark_62 rfl (lv_at hl 0 rfl) ?_
              obtain ⟨x171, hx171, h⟩ := bnd h
              refine w_inst X hH hx171 u_630 (tc := 1) rfl iy_1 in_1 dX11_mark_63 ?_
              refine lv_if_eq (tgt := 77) hx hb dX11_mark_66 (by decide) (fun hc172 => ?_) (fun hc172 => ?_)
              · replace h := ift h hc172
                refine lv_iload_n hx hb dX11_mark_77 rfl (lv_at hl 3 rfl) ?_
                refine lv_iconst (v := 3) hx hb dX11_mark_78 (by decide) ?_
                refine lv_icmp_ne (tgt := 97) hx hb dX11_mark_79 (by decide) (fun hc173 => ?_) (fun hc173 => ?_)
                · replace h := iff' h hc173
                  refine lv_iload_n hx hb dX11_mark_97 rfl (lv_at hl 3 rfl) ?_
                  refine lv_iconst (v := 4) hx hb dX11_mark_98 (by decide) ?_
                  refine lv_icmp_ne (tgt := 121) hx hb dX11_mark_99 (by decide) (fun hc174 => ?_) (fun hc174 => ?_)
                  · replace h := iff' h hc174
                    refine lv_iload_n hx hb dX11_mark_121 rfl (lv_at hl 3 rfl) ?_
                    refine lv_iconst (v := 5) hx hb dX11_mark_122 (by decide) ?_
                    refine lv_icmp_ne (tgt := 152) hx hb dX11_mark_123 (by decide) (fun hc175 => ?_) (fun hc175 => ?_)
                    · replace h := iff' h hc175
                      refine lv_aload_n hx hb dX11_mark_152 rfl (lv_at hl 1 rfl) ?_
                      refine lv_iconst (v := 3) hx hb dX11_mark_153 (by decide) ?_
                      obtain ⟨x176, hx176, h⟩ := bnd h
                      refine iv_X11_109 l X hH hRL (by decide) hx176 hl.1 (Nat.le_of_ble_eq_true rfl) dX11_mark_154 hcs (fun H locs hH => ?_)
                      exact eI X hH h hr dX11_mark_157 (Nat.le_of_ble_eq_true rfl) (Nat.le_of_ble_eq_true rfl)
                    · replace h := ift h hc175
                      refine lv_aload_n hx hb dX11_mark_126 rfl (lv_at hl 0 rfl) ?_
                      obtain ⟨x177, hx177, h⟩ := bnd h
                      refine w_inst X hH hx177 u_642 (tc := 9) rfl iy_9 in_9 dX11_mark_127 ?_
                      refine lv_if_eq (tgt := 152) hx hb dX11_mark_130 (by decide) (fun hc178 => ?_) (fun hc178 => ?_)
                      · replace h := ift h hc178
                        refine lv_aload_n hx hb dX11_mark_152 rfl (lv_at hl 1 rfl) ?_
                        refine lv_iconst (v := 3) hx hb dX11_mark_153 (by decide) ?_
                        obtain ⟨x179, hx179, h⟩ := bnd h
                        refine iv_X11_109 l X hH hRL (by decide) hx179 hl.1 (Nat.le_of_ble_eq_true rfl) dX11_mark_154 hcs (fun H locs hH => ?_)
                        exact eI X hH h hr dX11_mark_157 (Nat.le_of_ble_eq_true rfl) (Nat.le_of_ble_eq_true rfl)
                      · replace h := iff' h hc178
                        refine lv_aload_n hx hb dX11_mark_133 rfl (lv_at hl 0 rfl) ?_
                        obtain ⟨_, hx180, h⟩ := bnd h
                        refine w_cast X hH hx180 u_642 (tc := 9) rfl iy_9 dX11_mark_134 ?_
                        refine lv_astore (lv' := [(4, .ref x8), (3, .ref x8), (0, .ref a0), (1, .int p1), (2, .int p2)]) hx hb dX11_mark_137 hl (by decide) rfl (fun ls hl => ?_)
                        refine lv_aload hx hb dX11_mark_139 (lv_at hl 0 rfl) ?_
                        refine lv_aload_n hx hb dX11_mark_141 rfl (lv_at hl 2 rfl) ?_
                        obtain ⟨x181, hx181, h⟩ := bnd h
                        refine gf_X11_21 X hH hx181 dX11_mark_142 ?_
                        obtain ⟨x182, hx182, h⟩ := bnd h
                        refine gf_X11_181 X hH hx182 dX11_mark_145 ?_
                        obtain ⟨x183, hx183, h⟩ := bnd h
                        refine iv_X11_184 l X hH hRL (by decide) hx183 hl.1 (Nat.le_of_ble_eq_true rfl) dX11_mark_148 hcs (fun H locs hH => ?_)
                        exact eI X hH h hr dX11_mark_151 (Nat.le_of_ble_eq_true rfl) (Nat.le_of_ble_eq_true rfl)
                  · replace h := ift h hc174
                    refine lv_aload_n hx hb dX11_mark_102 rfl (lv_at hl 0 rfl) ?_
                    obtain ⟨x184, hx184, h⟩ := bnd h
                    refine w_inst X hH hx184 u_640 (tc := 6) rfl iy_6 in_6 dX11_mark_103 ?_
                    refine lv_if_eq (tgt := 121) hx hb dX11_mark_106 (by decide) (fun hc185 => ?_) (fun hc185 => ?_)
                    · replace h := ift h hc185
                      refine lv_iload_n hx hb dX11_mark_121 rfl (lv_at hl 3 rfl) ?_
                      refine lv_iconst (v := 5) hx hb dX11_mark_122 (by decide) ?_
                      refine lv_icmp_ne (tgt := 152) hx hb dX11_mark_123 (by decide) (fun hc186 => ?_) (fun hc186 => ?_)
                      · replace h := iff' h hc186
                        refine lv_aload_n hx hb dX11_mark_152 rfl (lv_at hl 1 rfl) ?_
                        refine lv_iconst (v := 3) hx hb dX11_mark_153 (by decide) ?_
                        obtain ⟨x187, hx187, h⟩ := bnd h
                        refine iv_X11_109 l X hH hRL (by decide) hx187 hl.1 (Nat.le_of_ble_eq_true rfl) dX11_mark_154 hcs (fun H locs hH => ?_)
                        exact eI X hH h hr dX11_mark_157 (Nat.le_of_ble_eq_true rfl) (Nat.le_of_ble_eq_true rfl)
                      · replace h := ift h hc186
                        refine lv_aload_n hx hb dX11_mark_126 rfl (lv_at hl 0 rfl) ?_
                        obtain ⟨x188, hx188, h⟩ := bnd h
                        refine w_inst X hH hx188 u_642 (tc := 9) rfl iy_9 in_9 dX11_mark_127 ?_
                        refine lv_if_eq (tgt := 152) hx hb dX11_mark_130 (by decide) (fun hc189 => ?_) (fun hc189 => ?_)
                        · replace h := ift h hc189
                          refine lv_aload_n hx hb dX11_mark_152 rfl (lv_at hl 1 rfl) ?_
                          refine lv_iconst (v := 3) hx hb dX11_mark_153 (by decide) ?_
                          obtain ⟨x190, hx190, h⟩ := bnd h
                          refine iv_X11_109 l X hH hRL (by decide) hx190 hl.1 (Nat.le_of_ble_eq_true rfl) dX11_mark_154 hcs (fun H locs hH => ?_)
                          exact eI X hH h hr dX11_mark_157 (Nat.le_of_ble_eq_true rfl) (Nat.le_of_ble_eq_true rfl)
                        · replace h := iff' h hc189
                          refine lv_aload_n hx hb dX11_mark_133 rfl (lv_at hl 0 rfl) ?_
                          obtain ⟨_, hx191, h⟩ := bnd h
                          refine w_cast X hH hx191 u_642 (tc := 9) rfl iy_9 dX11_mark_134 ?_
                          refine lv_astore (lv' := [(4, .ref x8), (3, .ref x8), (0, .ref a0), (1, .int p1), (2, .int p2)]) hx hb dX11_mark_137 hl (by decide) rfl (fun ls hl => ?_)
                          refine lv_aload hx hb dX11_mark_139 (lv_at hl 0 rfl) ?_
                          refine lv_aload_n hx hb dX11_mark_141 rfl (lv_at hl 2 rfl) ?_
                          obtain ⟨x192, hx192, h⟩ := bnd h
                          refine gf_X11_21 X hH hx192 dX11_mark_142 ?_
                          obtain ⟨x193, hx193, h⟩ := bnd h
                          refine gf_X11_181 X hH hx193 dX11_mark_145 ?_
                          obtain ⟨x194, hx194, h⟩ := bnd h
                          refine iv_X11_184 l X hH hRL (by decide) hx194 hl.1 (Nat.le_of_ble_eq_true rfl) dX11_mark_148 hcs (fun H locs hH => ?_)
                          exact eI X hH h hr dX11_mark_151 (Nat.le_of_ble_eq_true rfl) (Nat.le_of_ble_eq_true rfl)
                    · replace h := iff' h hc185
                      refine lv_aload_n hx hb dX11_mark_109 rfl (lv_at hl 0 rfl) ?_
                      obtain ⟨_, hx195, h⟩ := bnd h
                      refine w_cast X hH hx195 u_640 (tc := 6) rfl iy_6 dX11_mark_110 ?_
                      refine lv_astore (lv' := [(4, .ref x8), (3, .ref x8), (0, .ref a0), (1, .int p1), (2, .int p2)]) hx hb dX11_mark_113 hl (by decide) rfl (fun ls hl => ?_)
                      refine lv_aload hx hb dX11_mark_115 (lv_at hl 0 rfl) ?_
                      obtain ⟨x196, hx196, h⟩ := bnd h
                      refine iv_X11_176 l X hH hRL (by decide) hx196 hl.1 (Nat.le_of_ble_eq_true rfl) dX11_mark_117 hcs (fun H locs hH => ?_)
                      exact eI X hH h hr dX11_mark_120 (Nat.le_of_ble_eq_true rfl) (Nat.le_of_ble_eq_true rfl)
                · replace h := ift h hc173
                  refine lv_aload_n hx hb dX11_mark_82 rfl (lv_at hl 0 rfl) ?_
                  obtain ⟨x197, hx197, h⟩ := bnd h
                  refine w_inst X hH hx197 u_635 (tc := 0) rfl iy_0 in_0 dX11_mark_83 ?_
                  refine lv_if_eq (tgt := 97) hx hb dX11_mark_86 (by decide) (fun hc198 => ?_) (fun hc198 => ?_)
                  · replace h := ift h hc198
                    refine lv_iload_n hx hb dX11_mark_97 rfl (lv_at hl 3 rfl) ?_
                    refine lv_iconst (v := 4) hx hb dX11_mark_98 (by decide) ?_
                    refine lv_icmp_ne (tgt := 121) hx hb dX11_mark_99 (by decide) (fun hc199 => ?_) (fun hc199 => ?_)
                    · replace h := iff' h hc199
                      refine lv_iload_n hx hb dX11_mark_121 rfl (lv_at hl 3 rfl) ?_
                      refine lv_iconst (v := 5) hx hb dX11_mark_122 (by decide) ?_
                      refine lv_icmp_ne (tgt := 152) hx hb dX11_mark_123 (by decide) (fun hc200 => ?_) (fun hc200 => ?_)
                      · replace h := iff' h hc200
                        refine lv_aload_n hx hb dX11_mark_152 rfl (lv_at hl 1 rfl) ?_
                        refine lv_iconst (v := 3) hx hb dX11_mark_153 (by decide) ?_
                        obtain ⟨x201, hx201, h⟩ := bnd h
                        refine iv_X11_109 l X hH hRL (by decide) hx201 hl.1 (Nat.le_of_ble_eq_true rfl) dX11_mark_154 hcs (fun H locs hH => ?_)
                        exact eI X hH h hr dX11_mark_157 (Nat.le_of_ble_eq_true rfl) (Nat.le_of_ble_eq_true rfl)
                      · replace h := ift h hc200
                        refine lv_aload_n hx hb dX11_mark_126 rfl (lv_at hl 0 rfl) ?_
                        obtain ⟨x202, hx202, h⟩ := bnd h
                        refine w_inst X hH hx202 u_642 (tc := 9) rfl iy_9 in_9 dX11_mark_127 ?_
                        refine lv_if_eq (tgt := 152) hx hb dX11_mark_130 (by decide) (fun hc203 => ?_) (fun hc203 => ?_)
                        · replace h := ift h hc203
                          refine lv_aload_n hx hb dX11_mark_152 rfl (lv_at hl 1 rfl) ?_
                          refine lv_iconst (v := 3) hx hb dX11_mark_153 (by decide) ?_
                          obtain ⟨x204, hx204, h⟩ := bnd h
                          refine iv_X11_109 l X hH hRL (by decide) hx204 hl.1 (Nat.le_of_ble_eq_true rfl) dX11_mark_154 hcs (fun H locs hH => ?_)
                          exact eI X hH h hr dX11_mark_157 (Nat.le_of_ble_eq_true rfl) (Nat.le_of_ble_eq_true rfl)
                        · replace h := iff' h hc203
                          refine lv_aload_n hx hb dX11_mark_133 rfl (lv_at hl 0 rfl) ?_
                          obtain ⟨_, hx205, h⟩ := bnd h
                          refine w_cast X hH hx205 u_642 (tc := 9) rfl iy_9 dX11_mark_134 ?_
                          refine lv_astore (lv' := [(4, .ref x8), (3, .ref x8), (0, .ref a0), (1, .int p1), (2, .int p2)]) hx hb dX11_mark_137 hl (by decide) rfl (fun ls hl => ?_)
                          refine lv_aload hx hb dX11_mark_139 (lv_at hl 0 rfl) ?_
                          refine lv_aload_n hx hb dX11_mark_141 rfl (lv_at hl 2 rfl) ?_
                          obtain ⟨x206, hx206, h⟩ := bnd h
                          refine gf_X11_21 X hH hx206 dX11_mark_142 ?_
                          obtain ⟨x207, hx207, h⟩ := bnd h
                          refine gf_X11_181 X hH hx207 dX11_mark_145 ?_
                          obtain ⟨x208, hx208, h⟩ := bnd h
                          refine iv_X11_184 l X hH hRL (by decide) hx208 hl.1 (Nat.le_of_ble_eq_true rfl) dX11_mark_148 hcs (fun H locs hH => ?_)
                          exact eI X hH h hr dX11_mark_151 (Nat.le_of_ble_eq_true rfl) (Nat.le_of_ble_eq_true rfl)
                    · replace h := ift h hc199
                      refine lv_aload_n hx hb dX11_mark_102 rfl (lv_at hl 0 rfl) ?_
                      obtain ⟨x209, hx209, h⟩ := bnd h
                      refine w_inst X hH hx209 u_640 (tc := 6) rfl iy_6 in_6 dX11_mark_103 ?_
                      refine lv_if_eq (tgt := 121) hx hb dX11_mark_106 (by decide) (fun hc210 => ?_) (fun hc210 => ?_)
                      · replace h := ift h hc210
                        refine lv_iload_n hx hb dX11_mark_121 rfl (lv_at hl 3 rfl) ?_
                        refine lv_iconst (v := 5) hx hb dX11_mark_122 (by decide) ?_
                        refine lv_icmp_ne (tgt := 152) hx hb dX11_mark_123 (by decide) (fun hc211 => ?_) (fun hc211 => ?_)
                        · replace h := iff' h hc211
                          refine lv_aload_n hx hb dX11_mark_152 rfl (lv_at hl 1 rfl) ?_
                          refine lv_iconst (v := 3) hx hb dX11_mark_153 (by decide) ?_
                          obtain ⟨x212, hx212, h⟩ := bnd h
                          refine iv_X11_109 l X hH hRL (by decide) hx212 hl.1 (Nat.le_of_ble_eq_true rfl) dX11_mark_154 hcs (fun H locs hH => ?_)
                          exact eI X hH h hr dX11_mark_157 (Nat.le_of_ble_eq_true rfl) (Nat.le_of_ble_eq_true rfl)
                        · replace h := ift h hc211
                          refine lv_aload_n hx hb dX11_mark_126 rfl (lv_at hl 0 rfl) ?_
                          obtain ⟨x213, hx213, h⟩ := bnd h
                          refine w_inst X hH hx213 u_642 (tc := 9) rfl iy_9 in_9 dX11_mark_127 ?_
                          refine lv_if_eq (tgt := 152) hx hb dX11_mark_130 (by decide) (fun hc214 => ?_) (fun hc214 => ?_)
                          · replace h := ift h hc214
                            refine lv_aload_n hx hb dX11_mark_152 rfl (lv_at hl 1 rfl) ?_
                            refine lv_iconst (v := 3) hx hb dX11_mark_153 (by decide) ?_
                            obtain ⟨x215, hx215, h⟩ := bnd h
                            refine iv_X11_109 l X hH hRL (by decide) hx215 hl.1 (Nat.le_of_ble_eq_true rfl) dX11_mark_154 hcs (fun H locs hH => ?_)
                            exact eI X hH h hr dX11_mark_157 (Nat.le_of_ble_eq_true rfl) (Nat.le_of_ble_eq_true rfl)
                          · replace h := iff' h hc214
                            refine lv_aload_n hx hb dX11_mark_133 rfl (lv_at hl 0 rfl) ?_
                            obtain ⟨_, hx216, h⟩ := bnd h
                            refine w_cast X hH hx216 u_642 (tc := 9) rfl iy_9 dX11_mark_134 ?_
                            refine lv_astore (lv' := [(4, .ref x8), (3, .ref x8), (0, .ref a0), (1, .int p1), (2, .int p2)]) hx hb dX11_mark_137 hl (by decide) rfl (fun ls hl => ?_)
                            refine lv_aload hx hb dX11_mark_139 (lv_at hl 0 rfl) ?_
                            refine lv_aload_n hx hb dX11_mark_141 rfl (lv_at hl 2 rfl) ?_
                            obtain ⟨x217, hx217, h⟩ := bnd h
                            refine gf_X11_21 X hH hx217 dX11_mark_142 ?_
                            obtain ⟨x218, hx218, h⟩ := bnd h
                            refine gf_X11_181 X hH hx218 dX11_mark_145 ?_
                            obtain ⟨x219, hx219, h⟩ := bnd h
                            refine iv_X11_184 l X hH hRL (by decide) hx219 hl.1 (Nat.le_of_ble_eq_true rfl) dX11_mark_148 hcs (fun H locs hH => ?_)
                            exact eI X hH h hr dX11_mark_151 (Nat.le_of_ble_eq_true rfl) (Nat.le_of_ble_eq_true rfl)
                      · replace h := iff' h hc210
                        refine lv_aload_n hx hb dX11_mark_109 rfl (lv_at hl 0 rfl) ?_
                        obtain ⟨_, hx220, h⟩ := bnd h
                        refine w_cast X hH hx220 u_640 (tc := 6) rfl iy_6 dX11_mark_110 ?_
                        refine lv_astore (lv' := [(4, .ref x8), (3, .ref x8), (0, .ref a0), (1, .int p1), (2, .int p2)]) hx hb dX11_mark_113 hl (by decide) rfl (fun ls hl => ?_)
                        refine lv_aload hx hb dX11_mark_115 (lv_at hl 0 rfl) ?_
                        obtain ⟨x221, hx221, h⟩ := bnd h
                        refine iv_X11_176 l X hH hRL (by decide) hx221 hl.1 (Nat.le_of_ble_eq_true rfl) dX11_mark_117 hcs (fun H locs hH => ?_)
                        exact eI X hH h hr dX11_mark_120 (Nat.le_of_ble_eq_true rfl) (Nat.le_of_ble_eq_true rfl)
                  · replace h := iff' h hc198
                    refine lv_aload_n hx hb dX11_mark_89 rfl (lv_at hl 1 rfl) ?_
                    obtain ⟨x222, hx222, h⟩ := bnd h
                    refine gf_X11_21 X hH hx222 dX11_mark_90 ?_
                    obtain ⟨x223, hx223, h⟩ := bnd h
                    refine iv_X11_171 l X hH hRL (by decide) hx223 hl.1 (Nat.le_of_ble_eq_true rfl) dX11_mark_93 hcs (fun H locs hH => ?_)
                    exact eI X hH h hr dX11_mark_96 (Nat.le_of_ble_eq_true rfl) (Nat.le_of_ble_eq_true rfl)
              · replace h := iff' h hc172
                refine lv_aload_n hx hb dX11_mark_69 rfl (lv_at hl 1 rfl) ?_
                obtain ⟨x224, hx224, h⟩ := bnd h
                refine gf_X11_21 X hH hx224 dX11_mark_70 ?_
                obtain ⟨x225, hx225, h⟩ := bnd h
                refine iv_X11_166 l X hH hRL (by decide) hx225 hl.1 (Nat.le_of_ble_eq_true rfl) dX11_mark_73 hcs (fun H locs hH => ?_)
                exact eI X hH h hr dX11_mark_76 (Nat.le_of_ble_eq_true rfl) (Nat.le_of_ble_eq_true rfl)
          · replace h := iff' h hc118
            refine lv_aload_n hx hb dX11_mark_45 rfl (lv_at hl 0 rfl) ?_
            obtain ⟨_, hx226, h⟩ := bnd h
            refine w_cast X hH hx226 u_622 (tc := 4) rfl iy_4 dX11_mark_46 ?_
            refine lv_astore (lv' := [(4, .ref x8), (3, .ref x8), (0, .ref a0), (1, .int p1), (2, .int p2)]) hx hb dX11_mark_49 hl (by decide) rfl (fun ls hl => ?_)
            refine lv_aload hx hb dX11_mark_51 (lv_at hl 0 rfl) ?_
            obtain ⟨x227, hx227, h⟩ := bnd h
            refine iv_X11_160 l X hH hRL (by decide) hx227 hl.1 (Nat.le_of_ble_eq_true rfl) dX11_mark_53 hcs (fun H locs hH => ?_)
            exact eI X hH h hr dX11_mark_56 (Nat.le_of_ble_eq_true rfl) (Nat.le_of_ble_eq_true rfl)
      · replace h := iff' h hc5
        refine lv_iconst (v := -1) hx hb dX11_mark_21 (by decide) ?_
        exact eI X hH h hr dX11_mark_22 (Nat.le_of_ble_eq_true rfl) (Nat.le_of_ble_eq_true rfl)
