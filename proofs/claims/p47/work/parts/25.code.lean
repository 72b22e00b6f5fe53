set_option maxHeartbeats 1000000 in
theorem iv_X11_305 {p : Program} {e : Env} {R : Room} {s : State} {m : MethodId} {args : Array Value} {below : List Frame} {meth : Method} {c : Code} {H : Heap} {locs : List Loc} {cells slots : Nat} {Q : State → Prop} {cc : ByteArray} {pc : Nat} {ls : Array Slot} {rest : List Value} {nL : Nat} {G : CG} {μ : Mm} {a : Nat} {q0 : Int32} {x : Int32 × Mm} {k k2 : Nat} (l : Launch) (X : Cx p s m args meth c cc nL RX11 G) (hH : HS G s μ H locs) (hRL : RmL R k k2) (hk : 6 + 1 ≤ k ∧ 127 ≤ k2) (h : f_X11_refuseUnfit μ a q0 = some x) (hls : ls.size = nL) (hroom : (rest.map fun v => v.category).sum ≤ 8) (hdg : decode cc pc = .ok (.invokevirtual 305, 3)) (hcs : cells + 0 ≤ R.cells ∧ slots + 0 ≤ R.slots) (kk : ∀ (H1 : Heap) (locs1 : List Loc), HS G s x.2 H1 locs1 → W p l e R s m args below meth c H1 locs1 cells slots Q (F0 m (pc + 3) ls (.int x.1 :: rest))) : W p l e R s m args below meth c H locs cells slots Q (F0 m pc ls (.int q0 :: .ref a :: rest)) := by
  refine kI hH (rV (As := [.int q0]) (rest := rest) X hH (t_X11_refuseUnfit h) vc_11 (c_X11_refuseUnfit l G μ a q0 x h) (List.forall_mem_cons.mpr ⟨u_808, (List.forall_mem_cons.mpr ⟨u_810, (List.forall_mem_cons.mpr ⟨u_18, (List.forall_mem_cons.mpr ⟨u_21, (fun _ h9 => absurd h9 List.not_mem_nil)⟩)⟩)⟩)⟩) u_811 (rmo hRL (Nat.le_trans (by decide) hk.1) (Nat.le_trans (by decide) hk.2)) ddV_X11_refuseUnfit rfl hls rfl hroom hdg hcs) kk
set_option maxHeartbeats 4000000 in
set_option maxRecDepth 100000 in
theorem w_X11_sure_31 {p : Program} {e : Env} {R : Room} {s : State} {m : MethodId} {args : Array Value} {below : List Frame} {meth : Method} {c : Code} {cells slots : Nat} {Q : State → Prop} {G : CG} (l : Launch) (X : Cx p s m args meth c cX11_sure 8 RX11 G) (hRL : RmL R 7 127) (hcs : cells ≤ R.cells ∧ slots ≤ R.slots) : ∀ (n : Nat) (v0 : Nat) (v1 : Int32) (v3 : Int32) (v4 : Int32) (v5 : Int32) (v6 : Int32) (μ : Mm) (x : Int32 × Int32), lp_X11_sure_31 n v0 v1 v3 v4 v5 v6 μ = some x → (∀ (H : Heap) (locs : List Loc) (ls : Array Slot), HS G s μ H locs → lv_has ls 8 [(0, .ref v0), (4, .int x.1), (5, .int x.2)] → W p l e R s m args below meth c H locs cells slots Q (F0 m 100 ls [])) → ∀ (H : Heap) (locs : List Loc) (ls : Array Slot), HS G s μ H locs → lv_has ls 8 [(0, .ref v0), (1, .int v1), (3, .int v3), (4, .int v4), (5, .int v5), (6, .int v6)] → W p l e R s m args below meth c H locs cells slots Q (F0 m 31 ls []) := by
  have hx := X.1
  have hb := X.2.1
  have hown := X.2.2.2.1
  have hts := X.2.2.2.2.1
  intro n
  induction n with
  | zero =>
    intro v0 v1 v3 v4 v5 v6 μ x h
    rw [lp_X11_sure_31] at h
    cases h
  | succ n ih =>
    intro v0 v1 v3 v4 v5 v6 μ x h k0 H locs ls hH hl
    rw [lp_X11_sure_31] at h
    refine lv_iload hx hb dX11_sure_31 (lv_at hl 5 rfl) ?_
    refine lv_aload_n hx hb dX11_sure_33 rfl (lv_at hl 0 rfl) ?_
    obtain ⟨x5, hx5, h⟩ := bnd h
    refine gf_X11_21 X hH hx5 dX11_sure_34 ?_
    obtain ⟨x6, hx6, h⟩ := bnd h
    refine gf_X11_144 X hH hx6 dX11_sure_37 ?_
    refine lv_icmp_ge (tgt := 100) hx hb dX11_sure_40 (by decide) (fun hc7 => ?_) (fun hc7 => ?_)
    · replace h := ift h hc7
      cases h
      exact k0 _ _ _ hH (lv_sub hl [0, 3, 4] rfl)
    · replace h := iff' h hc7
      refine lv_aload_n hx hb dX11_sure_43 rfl (lv_at hl 0 rfl) ?_
      obtain ⟨x8, hx8, h⟩ := bnd h
      refine gf_X11_43 X hH hx8 dX11_sure_44 ?_
      refine lv_iload_n hx hb dX11_sure_47 rfl (lv_at hl 1 rfl) ?_
      refine lv_iconst (v := 1) hx hb dX11_sure_48 (by decide) ?_
      refine lv_iload hx hb dX11_sure_49 (lv_at hl 5 rfl) ?_
      refine lv_ishl hx hb dX11_sure_51 ?_
      obtain ⟨x9, hx9, h⟩ := bnd h
      refine iv_X11_302 l X hH hRL (by decide) hx9 hl.1 (Nat.le_of_ble_eq_true rfl) dX11_sure_52 hcs (fun H locs hH => ?_)
      refine lv_istore (lv' := [(7, .int x9), (0, .ref v0), (1, .int v1), (3, .int v3), (4, .int v4), (5, .int v5), (6, .int v6)]) hx hb dX11_sure_55 hl (by decide) rfl (fun ls hl => ?_)
      refine lv_iload hx hb dX11_sure_57 (lv_at hl 4 rfl) ?_
      refine lv_iload hx hb dX11_sure_59 (lv_at hl 0 rfl) ?_
      refine lv_iload_n hx hb dX11_sure_61 rfl (lv_at hl 3 rfl) ?_
      obtain ⟨x10, hbx10, hx10⟩ := bnd h
      clear h
      refine jn_lem (G := G) (x := x10) (M := 73) (nL := 8) (fun x10 => μ) (fun x10 => [(0, .ref v0), (1, .int v1), (3, .int v3), (5, .int v5), (6, .int v6), (7, .int x9)]) (fun x10 => [.int x10, .int v4]) (fun H locs ls hH hl => ?_) (fun jnx10 => ?_)
      · have h := hx10
        clear hx10 hbx10
        refine lv_ior hx hb dX11_sure_73 ?_
        refine lv_istore (lv' := [(4, .int (v4 ||| x10)), (0, .ref v0), (1, .int v1), (3, .int v3), (5, .int v5), (6, .int v6), (7, .int x9)]) hx hb dX11_sure_74 hl (by decide) rfl (fun ls hl => ?_)
        refine lv_iload hx hb dX11_sure_76 (lv_at hl 4 rfl) ?_
        refine lv_iload hx hb dX11_sure_78 (lv_at hl 6 rfl) ?_
        refine lv_if_ne (tgt := 90) hx hb dX11_sure_80 (by decide) (fun hc12 => ?_) (fun hc12 => ?_)
        · replace h := iff' h hc12
          refine lv_iconst (v := 0) hx hb dX11_sure_90 (by decide) ?_
          refine lv_ior hx hb dX11_sure_91 ?_
          refine lv_istore (lv' := [(5, .int (v5 ||| (0 : Int32))), (4, .int (v4 ||| x10)), (0, .ref v0), (1, .int v1), (3, .int v3), (6, .int v6), (7, .int x9)]) hx hb dX11_sure_92 hl (by decide) rfl (fun ls hl => ?_)
          refine lv_iinc (v := (v6 + 1)) (lv' := [(6, .int (v6 + 1)), (5, .int (v5 ||| (0 : Int32))), (4, .int (v4 ||| x10)), (0, .ref v0), (1, .int v1), (3, .int v3), (7, .int x9)]) hx hb dX11_sure_94 hl (k := 5) rfl rfl (by decide) rfl (fun ls hl => ?_)
          refine lv_goto (tgt := 31) hx hb dX11_sure_97 (by decide) ?_
          exact ih _ _ _ _ _ _ _ _ h k0 _ _ _ hH (lv_sub hl [3, 4, 5, 2, 1, 0] rfl)
        · replace h := ift h hc12
          refine lv_iconst (v := 1) hx hb dX11_sure_83 (by decide) ?_
          refine lv_iload hx hb dX11_sure_84 (lv_at hl 5 rfl) ?_
          refine lv_ishl hx hb dX11_sure_86 ?_
          refine lv_goto (tgt := 91) hx hb dX11_sure_87 (by decide) ?_
          refine lv_ior hx hb dX11_sure_91 ?_
          refine lv_istore (lv' := [(5, .int (v5 ||| ((1 : Int32) <<< (v6 &&& 31)))), (4, .int (v4 ||| x10)), (0, .ref v0), (1, .int v1), (3, .int v3), (6, .int v6), (7, .int x9)]) hx hb dX11_sure_92 hl (by decide) rfl (fun ls hl => ?_)
          refine lv_iinc (v := (v6 + 1)) (lv' := [(6, .int (v6 + 1)), (5, .int (v5 ||| ((1 : Int32) <<< (v6 &&& 31)))), (4, .int (v4 ||| x10)), (0, .ref v0), (1, .int v1), (3, .int v3), (7, .int x9)]) hx hb dX11_sure_94 hl (k := 5) rfl rfl (by decide) rfl (fun ls hl => ?_)
          refine lv_goto (tgt := 31) hx hb dX11_sure_97 (by decide) ?_
          exact ih _ _ _ _ _ _ _ _ h k0 _ _ _ hH (lv_sub hl [3, 4, 5, 2, 1, 0] rfl)
      · have h := hbx10
        clear hx10 hbx10
        refine lv_icmp_ne (tgt := 72) hx hb dX11_sure_62 (by decide) (fun hc11 => ?_) (fun hc11 => ?_)
        · replace h := iff' h hc11
          refine lv_iconst (v := 0) hx hb dX11_sure_72 (by decide) ?_
          cases h
          exact jnx10 _ _ _ hH (lv_sub hl [1, 2, 3, 5, 6, 0] rfl)
        · replace h := ift h hc11
          refine lv_iconst (v := 1) hx hb dX11_sure_65 (by decide) ?_
          refine lv_iload hx hb dX11_sure_66 (lv_at hl 6 rfl) ?_
          refine lv_ishl hx hb dX11_sure_68 ?_
          refine lv_goto (tgt := 73) hx hb dX11_sure_69 (by decide) ?_
          cases h
          exact jnx10 _ _ _ hH (lv_sub hl [1, 2, 3, 5, 6, 0] rfl)
theorem t_X11_sure {μ : Mm} {a0 : Nat} {p1 : Int32} {x : Int32 × Mm} (h : f_X11_sure μ a0 p1 = some x) : tg μ a0 = 12 := by
  unfold f_X11_sure at h
  exact (gsn h).1
set_option maxHeartbeats 4000000 in
set_option maxRecDepth 100000 in
theorem c_X11_sure (l : Launch) (G : CG) (μ : Mm) (a0 : Nat) (p1 : Int32) (x : Int32 × Mm) (h : f_X11_sure μ a0 p1 = some x) : Met l yX11_sure (.code yX11_sure cX11_sure 8 (some .int) :: UW) (rmk 7 127 0 0) (PC G [.ref a0, .int p1] μ) (QI G x.1 x.2) 0 0 (fA G) := by
  refine Met.ofW (cc := cX11_sure) (maxL := 8) (ret := (some .int)) (by decide) rfl ?_
  intro p e s m args below meth c s₁ B hml hv
  obtain ⟨X, hH, hr, rfl, hnm⟩ := cx_in B hml hv
  have X : Cx p s m _ meth c cX11_sure 8 RX11 G := X
  have hx := X.1
  have hb := X.2.1
  have hown := X.2.2.2.1
  have hts := X.2.2.2.2.1
  have hRL : RmL (rmk 7 127 0 0) 7 127 := ⟨Nat.le_refl _, Nat.le_refl _⟩
  have hcs : 0 ≤ (rmk 0 0 0 0).cells ∧ 0 ≤ (rmk 0 0 0 0).slots := ⟨Nat.zero_le _, Nat.zero_le _⟩
  refine ls_in (Nat.le_of_ble_eq_true rfl) (fun ls hl => ?_)
  have hl : lv_has ls 8 [(0, .ref a0), (1, .int p1)] := hl
  unfold f_X11_sure at h
  obtain ⟨htg, h⟩ := gsn h
  refine lv_aload_n hx hb dX11_sure_0 rfl (lv_at hl 0 rfl) ?_
  refine lv_iload_n hx hb dX11_sure_1 rfl (lv_at hl 1 rfl) ?_
  obtain ⟨x1, hx1, h⟩ := bnd h
  refine iv_X11_305 l X hH hRL (by decide) hx1 hl.1 (Nat.le_of_ble_eq_true rfl) dX11_sure_2 hcs (fun H locs hH => ?_)
  refine lv_istore_n (lv' := [(2, .int x1.1), (0, .ref a0), (1, .int p1)]) hx hb dX11_sure_5 rfl hl (by decide) rfl (fun ls hl => ?_)
  refine lv_iload_n hx hb dX11_sure_6 rfl (lv_at hl 0 rfl) ?_
  refine lv_if_eq (tgt := 12) hx hb dX11_sure_7 (by decide) (fun hc2 => ?_) (fun hc2 => ?_)
  · replace h := ift h hc2
    refine lv_aload_n hx hb dX11_sure_12 rfl (lv_at hl 1 rfl) ?_
    obtain ⟨x3, hx3, h⟩ := bnd h
    refine gf_X11_43 X hH hx3 dX11_sure_13 ?_
    refine lv_iload_n hx hb dX11_sure_16 rfl (lv_at hl 2 rfl) ?_
    refine lv_iconst (v := 0) hx hb dX11_sure_17 (by decide) ?_
    obtain ⟨x4, hx4, h⟩ := bnd h
    refine iv_X11_302 l X hH hRL (by decide) hx4 hl.1 (Nat.le_of_ble_eq_true rfl) dX11_sure_18 hcs (fun H locs hH => ?_)
    refine lv_istore_n (lv' := [(3, .int x4), (2, .int x1.1), (0, .ref a0), (1, .int p1)]) hx hb dX11_sure_21 rfl hl (by decide) rfl (fun ls hl => ?_)
    refine lv_iconst (v := 0) hx hb dX11_sure_22 (by decide) ?_
    refine lv_istore (lv' := [(4, .int (0 : Int32)), (3, .int x4), (2, .int x1.1), (0, .ref a0), (1, .int p1)]) hx hb dX11_sure_23 hl (by decide) rfl (fun ls hl => ?_)
    refine lv_iconst (v := 0) hx hb dX11_sure_25 (by decide) ?_
    refine lv_istore (lv' := [(5, .int (0 : Int32)), (4, .int (0 : Int32)), (3, .int x4), (2, .int x1.1), (0, .ref a0), (1, .int p1)]) hx hb dX11_sure_26 hl (by decide) rfl (fun ls hl => ?_)
    refine lv_iconst (v := 0) hx hb dX11_sure_28 (by decide) ?_
    refine lv_istore (lv' := [(6, .int (0 : Int32)), (5, .int (0 : Int32)), (4, .int (0 : Int32)), (3, .int x4), (2, .int x1.1), (0, .ref a0), (1, .int p1)]) hx hb dX11_sure_29 hl (by decide) rfl (fun ls hl => ?_)
    obtain ⟨x13, hx13, hhx13⟩ := bnd h
    clear h
    refine w_X11_sure_31 l X hRL hcs BIG a0 p1 x4 (0 : Int32) (0 : Int32) (0 : Int32) x1.2 x13 hx13 (fun H locs ls hH hl => ?_) _ _ _ hH (lv_sub hl [5, 6, 3, 2, 1, 0] rfl)
    · have h := hhx13
      clear hhx13
      refine lv_aload_n hx hb dX11_sure_100 rfl (lv_at hl 0 rfl) ?_
      refine lv_iload hx hb dX11_sure_101 (lv_at hl 2 rfl) ?_
      obtain ⟨x14, hx14, h⟩ := bnd h
      refine pf_X11_69 X hH hx14 dX11_sure_103 (fun H locs hH => ?_)
      refine lv_iload hx hb dX11_sure_106 (lv_at hl 1 rfl) ?_
      exact eI X hH h hr dX11_sure_108 (Nat.le_of_ble_eq_true rfl) (Nat.le_of_ble_eq_true rfl)
  · replace h := iff' h hc2
    refine lv_iload_n hx hb dX11_sure_10 rfl (lv_at hl 0 rfl) ?_
    exact eI X hH h hr dX11_sure_11 (Nat.le_of_ble_eq_true rfl) (Nat.le_of_ble_eq_true rfl)
set_option maxHeartbeats 4000000 in
set_option maxRecDepth 100000 in
theorem w_X11_ask_33 {p : Program} {e : Env} {R : Room} {s : State} {m : MethodId} {args : Array Value} {below : List Frame} {meth : Method} {c : Code} {cells slots : Nat} {Q : State → Prop} {G : CG} (l : Launch) (X : Cx p s m args meth c cX11_ask 9 RX11 G) (hRL : RmL R 7 127) (hcs : cells ≤ R.cells ∧ slots ≤ R.slots) : ∀ (n : Nat) (v0 : Nat) (v1 : Int32) (v3 : Int32) (v4 : Int32) (v5 : Int32) (v6 : Int32) (μ : Mm) (x : Int32 × Int32), lp_X11_ask_33 n v0 v1 v3 v4 v5 v6 μ = some x → (∀ (H : Heap) (locs : List Loc) (ls : Array Slot), HS G s μ H locs → lv_has ls 9 [(0, .ref v0), (4, .int x.1), (5, .int x.2)] → W p l e R s m args below meth c H locs cells slots Q (F0 m 91 ls [])) → ∀ (H : Heap) (locs : List Loc) (ls : Array Slot), HS G s μ H locs → lv_has ls 9 [(0, .ref v0), (1, .int v1), (3, .int v3), (4, .int v4), (5, .int v5), (6, .int v6)] → W p l e R s m args below meth c H locs cells slots Q (F0 m 33 ls []) := by
  have hx := X.1
  have hb := X.2.1
  have hown := X.2.2.2.1
  have hts := X.2.2.2.2.1
  intro n
  induction n with
  | zero =>
    intro v0 v1 v3 v4 v5 v6 μ x h
    rw [lp_X11_ask_33] at h
    cases h
  | succ n ih =>
    intro v0 v1 v3 v4 v5 v6 μ x h k0 H locs ls hH hl
    rw [lp_X11_ask_33] at h
    refine lv_iload hx hb dX11_ask_33 (lv_at hl 5 rfl) ?_
    refine lv_aload_n hx hb dX11_ask_35 rfl (lv_at hl 0 rfl) ?_
    obtain ⟨x5, hx5, h⟩ := bnd h
    refine gf_X11_21 X hH hx5 dX11_ask_36 ?_
    obtain ⟨x6, hx6, h⟩ := bnd h
    refine gf_X11_144 X hH hx6 dX11_ask_39 ?_
    refine lv_icmp_ge (tgt := 91) hx hb dX11_ask_42 (by decide) (fun hc7 => ?_) (fun hc7 => ?_)
    · replace h := ift h hc7
      cases h
      exact k0 _ _ _ hH (lv_sub hl [0, 3, 4] rfl)
    · replace h := iff' h hc7
      refine lv_aload_n hx hb dX11_ask_45 rfl (lv_at hl 0 rfl) ?_
      obtain ⟨x8, hx8, h⟩ := bnd h
      refine gf_X11_43 X hH hx8 dX11_ask_46 ?_
      refine lv_iload_n hx hb dX11_ask_49 rfl (lv_at hl 1 rfl) ?_
      refine lv_iconst (v := 1) hx hb dX11_ask_50 (by decide) ?_
      refine lv_iload hx hb dX11_ask_51 (lv_at hl 5 rfl) ?_
      refine lv_ishl hx hb dX11_ask_53 ?_
      obtain ⟨x9, hx9, h⟩ := bnd h
      refine iv_X11_302 l X hH hRL (by decide) hx9 hl.1 (Nat.le_of_ble_eq_true rfl) dX11_ask_54 hcs (fun H locs hH => ?_)
      refine lv_istore (lv' := [(7, .int x9), (0, .ref v0), (1, .int v1), (3, .int v3), (4, .int v4), (5, .int v5), (6, .int v6)]) hx hb dX11_ask_57 hl (by decide) rfl (fun ls hl => ?_)
      refine lv_iload hx hb dX11_ask_59 (lv_at hl 0 rfl) ?_
      refine lv_iload_n hx hb dX11_ask_61 rfl (lv_at hl 3 rfl) ?_
      refine lv_iload hx hb dX11_ask_62 (lv_at hl 0 rfl) ?_
      refine lv_isub hx hb dX11_ask_64 ?_
      refine w_max X hRL (by decide) hl.1 u_820 u_59 u_24 u_60 hcs dX11_ask_65 (Nat.le_of_ble_eq_true rfl) ?_
      refine lv_istore (lv' := [(8, .int (if x9 < (v3 - x9) then (v3 - x9) else x9)), (7, .int x9), (0, .ref v0), (1, .int v1), (3, .int v3), (4, .int v4), (5, .int v5), (6, .int v6)]) hx hb dX11_ask_68 hl (by decide) rfl (fun ls hl => ?_)
      refine lv_iload hx hb dX11_ask_70 (lv_at hl 0 rfl) ?_
      refine lv_iload hx hb dX11_ask_72 (lv_at hl 6 rfl) ?_
      refine lv_icmp_ge (tgt := 85) hx hb dX11_ask_74 (by decide) (fun hc10 => ?_) (fun hc10 => ?_)
      · replace h := ift h hc10
        refine lv_iinc (v := (v6 + 1)) (lv' := [(6, .int (v6 + 1)), (8, .int (if x9 < (v3 - x9) then (v3 - x9) else x9)), (7, .int x9), (0, .ref v0), (1, .int v1), (3, .int v3), (4, .int v4), (5, .int v5)]) hx hb dX11_ask_85 hl (k := 7) rfl rfl (by decide) rfl (fun ls hl => ?_)
        refine lv_goto (tgt := 33) hx hb dX11_ask_88 (by decide) ?_
        exact ih _ _ _ _ _ _ _ _ h k0 _ _ _ hH (lv_sub hl [3, 4, 5, 6, 7, 0] rfl)
      · replace h := iff' h hc10
        refine lv_iload hx hb dX11_ask_77 (lv_at hl 0 rfl) ?_
        refine lv_istore (lv' := [(5, .int (if x9 < (v3 - x9) then (v3 - x9) else x9)), (8, .int (if x9 < (v3 - x9) then (v3 - x9) else x9)), (7, .int x9), (0, .ref v0), (1, .int v1), (3, .int v3), (4, .int v4), (6, .int v6)]) hx hb dX11_ask_79 hl (by decide) rfl (fun ls hl => ?_)
        refine lv_iload hx hb dX11_ask_81 (lv_at hl 7 rfl) ?_
        refine lv_istore (lv' := [(4, .int v6), (5, .int (if x9 < (v3 - x9) then (v3 - x9) else x9)), (8, .int (if x9 < (v3 - x9) then (v3 - x9) else x9)), (7, .int x9), (0, .ref v0), (1, .int v1), (3, .int v3), (6, .int v6)]) hx hb dX11_ask_83 hl (by decide) rfl (fun ls hl => ?_)
        refine lv_iinc (v := (v6 + 1)) (lv' := [(6, .int (v6 + 1)), (4, .int v6), (5, .int (if x9 < (v3 - x9) then (v3 - x9) else x9)), (8, .int (if x9 < (v3 - x9) then (v3 - x9) else x9)), (7, .int x9), (0, .ref v0), (1, .int v1), (3, .int v3)]) hx hb dX11_ask_85 hl (k := 7) rfl rfl (by decide) rfl (fun ls hl => ?_)
        refine lv_goto (tgt := 33) hx hb dX11_ask_88 (by decide) ?_
        exact ih _ _ _ _ _ _ _ _ h k0 _ _ _ hH (lv_sub hl [5, 6, 7, 1, 2, 0] rfl)
theorem t_X11_ask {μ : Mm} {a0 : Nat} {p1 : Int32} {x : Int32 × Mm} (h : f_X11_ask μ a0 p1 = some x) : tg μ a0 = 12 := by
  unfold f_X11_ask at h
  exact (gsn h).1
set_option maxHeartbeats 4000000 in
set_option maxRecDepth 100000 in
theorem c_X11_ask (l : Launch) (G : CG) (μ : Mm) (a0 : Nat) (p1 : Int32) (x : Int32 × Mm) (h : f_X11_ask μ a0 p1 = some x) : Met l yX11_ask (.code yX11_ask cX11_ask 9 (some .int) :: UW) (rmk 7 127 0 0) (PC G [.ref a0, .int p1] μ) (QI G x.1 x.2) 0 0 (fA G) := by
  refine Met.ofW (cc := cX11_ask) (maxL := 9) (ret := (some .int)) (by decide) rfl ?_
  intro p e s m args below meth c s₁ B hml hv
  obtain ⟨X, hH, hr, rfl, hnm⟩ := cx_in B hml hv
  have X : Cx p s m _ meth c cX11_ask 9 RX11 G := X
  have hx := X.1
  have hb := X.2.1
  have hown := X.2.2.2.1
  have hts := X.2.2.2.2.1
  have hRL : RmL (rmk 7 127 0 0) 7 127 := ⟨Nat.le_refl _, Nat.le_refl _⟩
  have hcs : 0 ≤ (rmk 0 0 0 0).cells ∧ 0 ≤ (rmk 0 0 0 0).slots := ⟨Nat.zero_le _, Nat.zero_le _⟩
  refine ls_in (Nat.le_of_ble_eq_true rfl) (fun ls hl => ?_)
  have hl : lv_has ls 9 [(0, .ref a0), (1, .int p1)] := hl
  unfold f_X11_ask at h
  obtain ⟨htg, h⟩ := gsn h
  refine lv_aload_n hx hb dX11_ask_0 rfl (lv_at hl 0 rfl) ?_
  refine lv_iload_n hx hb dX11_ask_1 rfl (lv_at hl 1 rfl) ?_
  obtain ⟨x1, hx1, h⟩ := bnd h
  refine iv_X11_305 l X hH hRL (by decide) hx1 hl.1 (Nat.le_of_ble_eq_true rfl) dX11_ask_2 hcs (fun H locs hH => ?_)
  refine lv_istore_n (lv' := [(2, .int x1.1), (0, .ref a0), (1, .int p1)]) hx hb dX11_ask_5 rfl hl (by decide) rfl (fun ls hl => ?_)
  refine lv_iload_n hx hb dX11_ask_6 rfl (lv_at hl 0 rfl) ?_
  refine lv_if_eq (tgt := 12) hx hb dX11_ask_7 (by decide) (fun hc2 => ?_) (fun hc2 => ?_)
  · replace h := ift h hc2
    refine lv_aload_n hx hb dX11_ask_12 rfl (lv_at hl 1 rfl) ?_
    obtain ⟨x3, hx3, h⟩ := bnd h
    refine gf_X11_43 X hH hx3 dX11_ask_13 ?_
    refine lv_iload_n hx hb dX11_ask_16 rfl (lv_at hl 2 rfl) ?_
    refine lv_iconst (v := 0) hx hb dX11_ask_17 (by decide) ?_
    obtain ⟨x4, hx4, h⟩ := bnd h
    refine iv_X11_302 l X hH hRL (by decide) hx4 hl.1 (Nat.le_of_ble_eq_true rfl) dX11_ask_18 hcs (fun H locs hH => ?_)
    refine lv_istore_n (lv' := [(3, .int x4), (2, .int x1.1), (0, .ref a0), (1, .int p1)]) hx hb dX11_ask_21 rfl hl (by decide) rfl (fun ls hl => ?_)
    refine lv_iconst (v := 0) hx hb dX11_ask_22 (by decide) ?_
    refine lv_istore (lv' := [(4, .int (0 : Int32)), (3, .int x4), (2, .int x1.1), (0, .ref a0), (1, .int p1)]) hx hb dX11_ask_23 hl (by decide) rfl (fun ls hl => ?_)
    refine lv_iload_n hx hb dX11_ask_25 rfl (lv_at hl 1 rfl) ?_
    refine lv_iconst (v := 1) hx hb dX11_ask_26 (by decide) ?_
    refine lv_iadd hx hb dX11_ask_27 ?_
    refine lv_istore (lv' := [(5, .int (x4 + (1 : Int32))), (4, .int (0 : Int32)), (3, .int x4), (2, .int x1.1), (0, .ref a0), (1, .int p1)]) hx hb dX11_ask_28 hl (by decide) rfl (fun ls hl => ?_)
    refine lv_iconst (v := 0) hx hb dX11_ask_30 (by decide) ?_
    refine lv_istore (lv' := [(6, .int (0 : Int32)), (5, .int (x4 + (1 : Int32))), (4, .int (0 : Int32)), (3, .int x4), (2, .int x1.1), (0, .ref a0), (1, .int p1)]) hx hb dX11_ask_31 hl (by decide) rfl (fun ls hl => ?_)
    obtain ⟨x11, hx11, hhx11⟩ := bnd h
    clear h
    refine w_X11_ask_33 l X hRL hcs BIG a0 p1 x4 (0 : Int32) (x4 + (1 : Int32)) (0 : Int32) x1.2 x11 hx11 (fun H locs ls hH hl => ?_) _ _ _ hH (lv_sub hl [5, 6, 3, 2, 1, 0] rfl)
    · have h := hhx11
      clear hhx11
      refine lv_aload_n hx hb dX11_ask_91 rfl (lv_at hl 0 rfl) ?_
      refine lv_iload hx hb dX11_ask_92 (lv_at hl 2 rfl) ?_
      obtain ⟨x12, hx12, h⟩ := bnd h
      refine pf_X11_69 X hH hx12 dX11_ask_94 (fun H locs hH => ?_)
      refine lv_iload hx hb dX11_ask_97 (lv_at hl 1 rfl) ?_
      exact eI X hH h hr dX11_ask_99 (Nat.le_of_ble_eq_true rfl) (Nat.le_of_ble_eq_true rfl)
  · replace h := iff' h hc2
    refine lv_iload_n hx hb dX11_ask_10 rfl (lv_at hl 0 rfl) ?_
    exact eI X hH h hr dX11_ask_11 (Nat.le_of_ble_eq_true rfl) (Nat.le_of_ble_eq_true rfl)
set_option maxHeartbeats 1000000 in
theorem iv_X11_237 {p : Program} {e : Env} {R : Room} {s : State} {m : MethodId} {args : Array Value} {below : List Frame} {meth : Method} {c : Code} {H : Heap} {locs : List Loc} {cells slots : Nat} {Q : State → Prop} {cc : ByteArray} {pc : Nat} {ls : Array Slot} {rest : List Value} {nL : Nat} {G : CG} {μ : Mm} {a : Nat} {q0 : Int32} {x : Int32} {k k2 : Nat} (l : Launch) (X : Cx p s m args meth c cc nL RX11 G) (hH : HS G s μ H locs) (hRL : RmL R k k2) (hk : 4 + 1 ≤ k ∧ 82 ≤ k2) (h : f_X3_treadNow μ a q0 = some x) (hls : ls.size = nL) (hroom : (rest.map fun v => v.category).sum ≤ 8) (hdg : decode cc pc = .ok (.invokevirtual 237, 3)) (hcs : cells + 0 ≤ R.cells ∧ slots + 0 ≤ R.slots) (kk : ∀ (H1 : Heap) (locs1 : List Loc), HS G s μ H1 locs1 → W p l e R s m args below meth c H1 locs1 cells slots Q (F0 m (pc + 3) ls (.int x :: rest))) : W p l e R s m args below meth c H locs cells slots Q (F0 m pc ls (.int q0 :: .ref a :: rest)) := by
  refine kI hH (rV (As := [.int q0]) (rest := rest) X hH (t_X3_treadNow h) vc_3 (c_X3_treadNow l G μ a q0 x h) (List.forall_mem_cons.mpr ⟨u_829, (List.forall_mem_cons.mpr ⟨u_450, (List.forall_mem_cons.mpr ⟨u_451, (List.forall_mem_cons.mpr ⟨u_22, (fun _ h9 => absurd h9 List.not_mem_nil)⟩)⟩)⟩)⟩) u_452 (rmo hRL (Nat.le_trans (by decide) hk.1) (Nat.le_trans (by decide) hk.2)) ddV_X3_treadNow rfl hls rfl hroom hdg hcs) kk
set_option maxHeartbeats 1000000 in
theorem iv_X11_313 {p : Program} {e : Env} {R : Room} {s : State} {m : MethodId} {args : Array Value} {below : List Frame} {meth : Method} {c : Code} {H : Heap} {locs : List Loc} {cells slots : Nat} {Q : State → Prop} {cc : ByteArray} {pc : Nat} {ls : Array Slot} {rest : List Value} {nL : Nat} {G : CG} {μ : Mm} {a : Nat} {q0 : Int32} {x : Int32} {k k2 : Nat} (l : Launch) (X : Cx p s m args meth c cc nL RX11 G) (hH : HS G s μ H locs) (hRL : RmL R k k2) (hk : 4 + 1 ≤ k ∧ 86 ≤ k2) (h : f_X3_walksToNoon μ a q0 = some x) (hls : ls.size = nL) (hroom : (rest.map fun v => v.category).sum ≤ 8) (hdg : decode cc pc = .ok (.invokevirtual 313, 3)) (hcs : cells + 0 ≤ R.cells ∧ slots + 0 ≤ R.slots) (kk : ∀ (H1 : Heap) (locs1 : List Loc), HS G s μ H1 locs1 → W p l e R s m args below meth c H1 locs1 cells slots Q (F0 m (pc + 3) ls (.int x :: rest))) : W p l e R s m args below meth c H locs cells slots Q (F0 m pc ls (.int q0 :: .ref a :: rest)) := by
  refine kI hH (rV (As := [.int q0]) (rest := rest) X hH (t_X3_walksToNoon h) vc_3 (c_X3_walksToNoon l G μ a q0 x h) (List.forall_mem_cons.mpr ⟨u_830, (List.forall_mem_cons.mpr ⟨u_831, (List.forall_mem_cons.mpr ⟨u_832, (List.forall_mem_cons.mpr ⟨u_22, (fun _ h9 => absurd h9 List.not_mem_nil)⟩)⟩)⟩)⟩) u_833 (rmo hRL (Nat.le_trans (by decide) hk.1) (Nat.le_trans (by decide) hk.2)) ddV_X3_walksToNoon rfl hls rfl hroom hdg hcs) kk
theorem t_X11_noon {μ : Mm} {a0 : Nat} {p1 : Int32} {x : Int32} (h : f_X11_noon μ a0 p1 = some x) : tg μ a0 = 12 := by
  unfold f_X11_noon at h
  exact (gsn h).1
set_option maxHeartbeats 4000000 in
set_option maxRecDepth 100000 in
theorem c_X11_noon (l : Launch) (G : CG) (μ : Mm) (a0 : Nat) (p1 : Int32) (x : Int32) (h : f_X11_noon μ a0 p1 = some x) : Met l yX11_noon (.code yX11_noon cX11_noon 2 (some .int) :: UW) (rmk 5 86 0 0) (PC G [.ref a0, .int p1] μ) (QI G x μ) 0 0 (fA G) := by
  refine Met.ofW (cc := cX11_noon) (maxL := 2) (ret := (some .int)) (by decide) rfl ?_
  intro p e s m args below meth c s₁ B hml hv
  obtain ⟨X, hH, hr, rfl, hnm⟩ := cx_in B hml hv
  have X : Cx p s m _ meth c cX11_noon 2 RX11 G := X
  have hx := X.1
  have hb := X.2.1
  have hown := X.2.2.2.1
  have hts := X.2.2.2.2.1
  have hRL : RmL (rmk 5 86 0 0) 5 86 := ⟨Nat.le_refl _, Nat.le_refl _⟩
  have hcs : 0 ≤ (rmk 0 0 0 0).cells ∧ 0 ≤ (rmk 0 0 0 0).slots := ⟨Nat.zero_le _, Nat.zero_le _⟩
  refine ls_in (Nat.le_of_ble_eq_true rfl) (fun ls hl => ?_)
  have hl : lv_has ls 2 [(0, .ref a0), (1, .int p1)] := hl
  unfold f_X11_noon at h
  obtain ⟨htg, h⟩ := gsn h
  refine lv_aload_n hx hb dX11_noon_0 rfl (lv_at hl 0 rfl) ?_
  obtain ⟨x1, hx1, h⟩ := bnd h
  refine gf_X11_21 X hH hx1 dX11_noon_1 ?_
  refine lv_iload_n hx hb dX11_noon_4 rfl (lv_at hl 1 rfl) ?_
  obtain ⟨x2, hx2, h⟩ := bnd h
  refine iv_X11_147 l X hH hRL (by decide) hx2 hl.1 (Nat.le_of_ble_eq_true rfl) dX11_noon_5 hcs (fun H locs hH => ?_)
  refine lv_if_ne (tgt := 13) hx hb dX11_noon_8 (by decide) (fun hc3 => ?_) (fun hc3 => ?_)
  · replace h := iff' h hc3
    refine lv_aload_n hx hb dX11_noon_13 rfl (lv_at hl 0 rfl) ?_
    obtain ⟨x4, hx4, h⟩ := bnd h
    refine gf_X11_21 X hH hx4 dX11_noon_14 ?_
    refine lv_aload_n hx hb dX11_noon_17 rfl (lv_at hl 0 rfl) ?_
    obtain ⟨x5, hx5, h⟩ := bnd h
    refine gf_X11_21 X hH hx5 dX11_noon_18 ?_
    refine lv_iload_n hx hb dX11_noon_21 rfl (lv_at hl 1 rfl) ?_
    obtain ⟨x6, hx6, h⟩ := bnd h
    refine iv_X11_237 l X hH hRL (by decide) hx6 hl.1 (Nat.le_of_ble_eq_true rfl) dX11_noon_22 hcs (fun H locs hH => ?_)
    obtain ⟨x7, hx7, h⟩ := bnd h
    refine iv_X11_313 l X hH hRL (by decide) hx7 hl.1 (Nat.le_of_ble_eq_true rfl) dX11_noon_25 hcs (fun H locs hH => ?_)
    exact eIp X hH h hr dX11_noon_28
  · replace h := ift h hc3
    refine lv_iconst (v := -1) hx hb dX11_noon_11 (by decide) ?_
    exact eIp X hH h hr dX11_noon_12
set_option maxHeartbeats 1000000 in
theorem iv_X11_240 {p : Program} {e : Env} {R : Room} {s : State} {m : MethodId} {args : Array Value} {below : List Frame} {meth : Method} {c : Code} {H : Heap} {locs : List Loc} {cells slots : Nat} {Q : State → Prop} {cc : ByteArray} {pc : Nat} {ls : Array Slot} {rest : List Value} {nL : Nat} {G : CG} {μ : Mm} {a : Nat} {q0 : Int32} {x : Int32} {k k2 : Nat} (l : Launch) (X : Cx p s m args meth c cc nL RX11 G) (hH : HS G s μ H locs) (hRL : RmL R k k2) (hk : 3 + 1 ≤ k ∧ 64 ≤ k2) (h : f_X3_wrap μ a q0 = some x) (hls : ls.size = nL) (hroom : (rest.map fun v => v.category).sum ≤ 8) (hdg : decode cc pc = .ok (.invokevirtual 240, 3)) (hcs : cells + 0 ≤ R.cells ∧ slots + 0 ≤ R.slots) (kk : ∀ (H1 : Heap) (locs1 : List Loc), HS G s μ H1 locs1 → W p l e R s m args below meth c H1 locs1 cells slots Q (F0 m (pc + 3) ls (.int x :: rest))) : W p l e R s m args below meth c H locs cells slots Q (F0 m pc ls (.int q0 :: .ref a :: rest)) := by
  refine kI hH (rV (As := [.int q0]) (rest := rest) X hH (t_X3_wrap h) vc_3 (c_X3_wrap l G μ a q0 x h) (List.forall_mem_cons.mpr ⟨u_838, (List.forall_mem_cons.mpr ⟨u_373, (List.forall_mem_cons.mpr ⟨u_374, (List.forall_mem_cons.mpr ⟨u_22, (fun _ h9 => absurd h9 List.not_mem_nil)⟩)⟩)⟩)⟩) u_375 (rmo hRL (Nat.le_trans (by decide) hk.1) (Nat.le_trans (by decide) hk.2)) ddV_X3_wrap rfl hls rfl hroom hdg hcs) kk
set_option maxHeartbeats 4000000 in
set_option maxRecDepth 100000 in
theorem w_X11_rent_24 {p : Program} {e : Env} {R : Room} {s : State} {m : MethodId} {args : Array Value} {below : List Frame} {meth : Method} {c : Code} {cells slots : Nat} {Q : State → Prop} {G : CG} (l : Launch) (X : Cx p s m args meth c cX11_rent 4 RX11 G) (hRL : RmL R 5 82) (hcs : cells ≤ R.cells ∧ slots ≤ R.slots) : ∀ (n : Nat) (v0 : Nat) (v2 : Int32) (v3 : Int32) (μ : Mm) (x : Nat × Int32), lp_X11_rent_24 n v0 v2 v3 μ = some x → (∀ (H : Heap) (locs : List Loc) (ls : Array Slot), x.1 = 0 → HS G s μ H locs → lv_has ls 4 [(0, .ref v0), (2, .int v2), (3, .int x.2)] → W p l e R s m args below meth c H locs cells slots Q (F0 m 63 ls [])) → (∀ (H : Heap) (locs : List Loc) (ls : Array Slot), x.1 = 1 → HS G s μ H locs → lv_has ls 4 [] → W p l e R s m args below meth c H locs cells slots Q (F0 m 78 ls [])) → ∀ (H : Heap) (locs : List Loc) (ls : Array Slot), HS G s μ H locs → lv_has ls 4 [(0, .ref v0), (2, .int v2), (3, .int v3)] → W p l e R s m args below meth c H locs cells slots Q (F0 m 24 ls []) := by
  have hx := X.1
  have hb := X.2.1
  have hown := X.2.2.2.1
  have hts := X.2.2.2.2.1
  intro n
  induction n with
  | zero =>
    intro v0 v2 v3 μ x h
    rw [lp_X11_rent_24] at h
    cases h
  | succ n ih =>
    intro v0 v2 v3 μ x h k0 k1 H locs ls hH hl
    rw [lp_X11_rent_24] at h
    refine lv_iload_n hx hb dX11_rent_24 rfl (lv_at hl 2 rfl) ?_
    refine lv_aload_n hx hb dX11_rent_25 rfl (lv_at hl 0 rfl) ?_
    obtain ⟨x6, hx6, h⟩ := bnd h
    refine gf_X11_21 X hH hx6 dX11_rent_26 ?_
    obtain ⟨x7, hx7, h⟩ := bnd h
    refine gf_X11_181 X hH hx7 dX11_rent_29 ?_
    refine lv_icmp_gt (tgt := 78) hx hb dX11_rent_32 (by decide) (fun hc8 => ?_) (fun hc8 => ?_)
    · replace h := ift h hc8
      cases h
      exact k1 _ _ _ rfl hH (lv_sub hl [] rfl)
    · replace h := iff' h hc8
      refine lv_aload_n hx hb dX11_rent_35 rfl (lv_at hl 0 rfl) ?_
      obtain ⟨x9, hx9, h⟩ := bnd h
      refine gf_X11_21 X hH hx9 dX11_rent_36 ?_
      refine lv_aload_n hx hb dX11_rent_39 rfl (lv_at hl 0 rfl) ?_
      obtain ⟨x10, hx10, h⟩ := bnd h
      refine gf_X11_21 X hH hx10 dX11_rent_40 ?_
      refine lv_aload_n hx hb dX11_rent_43 rfl (lv_at hl 0 rfl) ?_
      obtain ⟨x11, hx11, h⟩ := bnd h
      refine gf_X11_21 X hH hx11 dX11_rent_44 ?_
      obtain ⟨x12, hx12, h⟩ := bnd h
      refine gf_X11_201 X hH hx12 dX11_rent_47 ?_
      refine lv_iload_n hx hb dX11_rent_50 rfl (lv_at hl 2 rfl) ?_
      refine lv_iload_n hx hb dX11_rent_51 rfl (lv_at hl 1 rfl) ?_
      refine lv_imul hx hb dX11_rent_52 ?_
      refine lv_iadd hx hb dX11_rent_53 ?_
      obtain ⟨x13, hx13, h⟩ := bnd h
      refine iv_X11_240 l X hH hRL (by decide) hx13 hl.1 (Nat.le_of_ble_eq_true rfl) dX11_rent_54 hcs (fun H locs hH => ?_)
      obtain ⟨x14, hx14, h⟩ := bnd h
      refine iv_X11_227 l X hH hRL (by decide) hx14 hl.1 (Nat.le_of_ble_eq_true rfl) dX11_rent_57 hcs (fun H locs hH => ?_)
      refine lv_if_eq (tgt := 72) hx hb dX11_rent_60 (by decide) (fun hc15 => ?_) (fun hc15 => ?_)
      · replace h := ift h hc15
        refine lv_iinc (v := (v3 + 1)) (lv' := [(3, .int (v3 + 1)), (0, .ref v0), (2, .int v2)]) hx hb dX11_rent_72 hl (k := 2) rfl rfl (by decide) rfl (fun ls hl => ?_)
        refine lv_goto (tgt := 24) hx hb dX11_rent_75 (by decide) ?_
        exact ih _ _ _ _ _ h k0 k1 _ _ _ hH (lv_sub hl [1, 2, 0] rfl)
      · replace h := iff' h hc15
        cases h
        exact k0 _ _ _ rfl hH (lv_sub hl [0, 1, 2] rfl)
theorem t_X11_rent {μ : Mm} {a0 : Nat} {p1 : Int32} {x : Int32 × Mm} (h : f_X11_rent μ a0 p1 = some x) : tg μ a0 = 12 := by
  unfold f_X11_rent at h
  exact (gsn h).1
set_option maxHeartbeats 4000000 in
set_option maxRecDepth 100000 in
theorem c_X11_rent (l : Launch) (G : CG) (μ : Mm) (a0 : Nat) (p1 : Int32) (x : Int32 × Mm) (h : f_X11_rent μ a0 p1 = some x) : Met l yX11_rent (.code yX11_rent cX11_rent 4 (some .int) :: UW) (rmk 5 82 0 0) (PC G [.ref a0, .int p1] μ) (QI G x.1 x.2) 0 0 (fA G) := by
  refine Met.ofW (cc := cX11_rent) (maxL := 4) (ret := (some .int)) (by decide) rfl ?_
  intro p e s m args below meth c s₁ B hml hv
  obtain ⟨X, hH, hr, rfl, hnm⟩ := cx_in B hml hv
  have X : Cx p s m _ meth c cX11_rent 4 RX11 G := X
  have hx := X.1
  have hb := X.2.1
  have hown := X.2.2.2.1
  have hts := X.2.2.2.2.1
  have hRL : RmL (rmk 5 82 0 0) 5 82 := ⟨Nat.le_refl _, Nat.le_refl _⟩
  have hcs : 0 ≤ (rmk 0 0 0 0).cells ∧ 0 ≤ (rmk 0 0 0 0).slots := ⟨Nat.zero_le _, Nat.zero_le _⟩
  refine ls_in (Nat.le_of_ble_eq_true rfl) (fun ls hl => ?_)
  have hl : lv_has ls 4 [(0, .ref a0), (1, .int p1)] := hl
  unfold f_X11_rent at h
  obtain ⟨htg, h⟩ := gsn h
  refine lv_aload_n hx hb dX11_rent_0 rfl (lv_at hl 0 rfl) ?_
  obtain ⟨x1, hx1, h⟩ := bnd h
  refine gf_X11_21 X hH hx1 dX11_rent_1 ?_
  refine lv_iload_n hx hb dX11_rent_4 rfl (lv_at hl 1 rfl) ?_
  obtain ⟨x2, hx2, h⟩ := bnd h
  refine iv_X11_147 l X hH hRL (by decide) hx2 hl.1 (Nat.le_of_ble_eq_true rfl) dX11_rent_5 hcs (fun H locs hH => ?_)
  refine lv_if_ne (tgt := 13) hx hb dX11_rent_8 (by decide) (fun hc3 => ?_) (fun hc3 => ?_)
  · replace h := iff' h hc3
    refine lv_aload_n hx hb dX11_rent_13 rfl (lv_at hl 0 rfl) ?_
    obtain ⟨x4, hx4, h⟩ := bnd h
    refine gf_X11_21 X hH hx4 dX11_rent_14 ?_
    refine lv_iload_n hx hb dX11_rent_17 rfl (lv_at hl 1 rfl) ?_
    obtain ⟨x5, hx5, h⟩ := bnd h
    refine iv_X11_237 l X hH hRL (by decide) hx5 hl.1 (Nat.le_of_ble_eq_true rfl) dX11_rent_18 hcs (fun H locs hH => ?_)
    refine lv_istore_n (lv' := [(2, .int x5), (0, .ref a0), (1, .int p1)]) hx hb dX11_rent_21 rfl hl (by decide) rfl (fun ls hl => ?_)
    refine lv_iconst (v := 1) hx hb dX11_rent_22 (by decide) ?_
    refine lv_istore_n (lv' := [(3, .int (1 : Int32)), (2, .int x5), (0, .ref a0), (1, .int p1)]) hx hb dX11_rent_23 rfl hl (by decide) rfl (fun ls hl => ?_)
    obtain ⟨x16, hx16, hhx16⟩ := bnd h
    clear h
    refine w_X11_rent_24 l X hRL hcs BIG a0 x5 (1 : Int32) μ x16 hx16 (fun H locs ls hj hH hl => ?_) (fun H locs ls hj hH hl => ?_) _ _ _ hH (lv_sub hl [2, 1, 0] rfl)
    · have h := hhx16
      clear hhx16
      replace h := ift h hj
      refine lv_aload_n hx hb dX11_rent_63 rfl (lv_at hl 0 rfl) ?_
      refine lv_iload_n hx hb dX11_rent_64 rfl (lv_at hl 2 rfl) ?_
      refine lv_iload_n hx hb dX11_rent_65 rfl (lv_at hl 1 rfl) ?_
      refine lv_imul hx hb dX11_rent_66 ?_
      obtain ⟨x17, hx17, h⟩ := bnd h
      refine pf_X11_69 X hH hx17 dX11_rent_67 (fun H locs hH => ?_)
      refine lv_iload_n hx hb dX11_rent_70 rfl (lv_at hl 2 rfl) ?_
      exact eI X hH h hr dX11_rent_71 (Nat.le_of_ble_eq_true rfl) (Nat.le_of_ble_eq_true rfl)
    · have h := hhx16
      clear hhx16
      replace h := iff' h (by rw [hj]; decide)
      refine lv_bipush (v := -9) hx hb dX11_rent_78 (by decide) ?_
      exact eI X hH h hr dX11_rent_80 (Nat.le_of_ble_eq_true rfl) (Nat.le_of_ble_eq_true rfl)
  · replace h := ift h hc3
    refine lv_iconst (v := -1) hx hb dX11_rent_11 (by decide) ?_
    exact eI X hH h hr dX11_rent_12 (Nat.le_of_ble_eq_true rfl) (Nat.le_of_ble_eq_true rfl)
set_option maxHeartbeats 1000000 in
theorem iv_X11_319 {p : Program} {e : Env} {R : Room} {s : State} {m : MethodId} {args : Array Value} {below : List Frame} {meth : Method} {c : Code} {H : Heap} {locs : List Loc} {cells slots : Nat} {Q : State → Prop} {cc : ByteArray} {pc : Nat} {ls : Array Slot} {rest : List Value} {nL : Nat} {G : CG} {μ : Mm} {a : Nat} {q0 : Nat} {q1 : Int32} {x : Mm} {k k2 : Nat} (l : Launch) (X : Cx p s m args meth c cc nL RX11 G) (hH : HS G s μ H locs) (hRL : RmL R k k2) (hk : 6 + 1 ≤ k ∧ 129 ≤ k2) (h : f_X10_countRows μ a q0 q1 = some x) (hls : ls.size = nL) (hroom : (rest.map fun v => v.category).sum ≤ 8) (hdg : decode cc pc = .ok (.invokevirtual 319, 3)) (hcs : cells + 0 ≤ R.cells ∧ slots + 0 ≤ R.slots) (kk : ∀ (H1 : Heap) (locs1 : List Loc), HS G s x H1 locs1 → W p l e R s m args below meth c H1 locs1 cells slots Q (F0 m (pc + 3) ls rest)) : W p l e R s m args below meth c H locs cells slots Q (F0 m pc ls (.int q1 :: .ref q0 :: .ref a :: rest)) := by
  refine kV0 hH (rV (As := [.ref q0, .int q1]) (rest := rest) X hH (t_X10_countRows h) vc_10 (c_X10_countRows l G μ a q0 q1 x h) (List.forall_mem_cons.mpr ⟨u_846, (List.forall_mem_cons.mpr ⟨u_847, (List.forall_mem_cons.mpr ⟨u_848, (List.forall_mem_cons.mpr ⟨u_28, (fun _ h9 => absurd h9 List.not_mem_nil)⟩)⟩)⟩)⟩) u_849 (rmo hRL (Nat.le_trans (by decide) hk.1) (Nat.le_trans (by decide) hk.2)) ddV_X10_countRows rfl hls rfl hroom hdg hcs) kk
set_option maxHeartbeats 1000000 in
theorem iv_X11_323 {p : Program} {e : Env} {R : Room} {s : State} {m : MethodId} {args : Array Value} {below : List Frame} {meth : Method} {c : Code} {H : Heap} {locs : List Loc} {cells slots : Nat} {Q : State → Prop} {cc : ByteArray} {pc : Nat} {ls : Array Slot} {rest : List Value} {nL : Nat} {G : CG} {μ : Mm} {a : Nat} {q0 : Int32} {x : Int64} {k k2 : Nat} (l : Launch) (X : Cx p s m args meth c cc nL RX11 G) (hH : HS G s μ H locs) (hRL : RmL R k k2) (hk : 1 + 1 ≤ k ∧ 21 ≤ k2) (h : f_X10_rowsOf μ a q0 = some x) (hls : ls.size = nL) (hroom : (rest.map fun v => v.category).sum ≤ 8) (hdg : decode cc pc = .ok (.invokevirtual 323, 3)) (hcs : cells + 0 ≤ R.cells ∧ slots + 0 ≤ R.slots) (kk : ∀ (H1 : Heap) (locs1 : List Loc), HS G s μ H1 locs1 → W p l e R s m args below meth c H1 locs1 cells slots Q (F0 m (pc + 3) ls (.long x :: rest))) : W p l e R s m args below meth c H locs cells slots Q (F0 m pc ls (.int q0 :: .ref a :: rest)) := by
  refine kL hH (rV (As := [.int q0]) (rest := rest) X hH (t_X10_rowsOf h) vc_10 (c_X10_rowsOf l G μ a q0 x h) (List.forall_mem_cons.mpr ⟨u_854, (List.forall_mem_cons.mpr ⟨u_855, (List.forall_mem_cons.mpr ⟨u_856, (List.forall_mem_cons.mpr ⟨u_28, (fun _ h9 => absurd h9 List.not_mem_nil)⟩)⟩)⟩)⟩) u_857 (rmo hRL (Nat.le_trans (by decide) hk.1) (Nat.le_trans (by decide) hk.2)) ddV_X10_rowsOf rfl hls rfl hroom hdg hcs) kk
set_option maxHeartbeats 4000000 in
set_option maxRecDepth 100000 in
theorem w_X11_odds_40 {p : Program} {e : Env} {R : Room} {s : State} {m : MethodId} {args : Array Value} {below : List Frame} {meth : Method} {c : Code} {cells slots : Nat} {Q : State → Prop} {G : CG} (l : Launch) (X : Cx p s m args meth c cX11_odds 6 RX11 G) (hRL : RmL R 7 129) (hcs : cells ≤ R.cells ∧ slots ≤ R.slots) : ∀ (n : Nat) (v0 : Nat) (v1 : Int32) (v2 : Int32) (v3 : Int64) (v5 : Int32) (μ : Mm) (x : Int64), lp_X11_odds_40 n v0 v1 v2 v3 v5 μ = some x → (∀ (H : Heap) (locs : List Loc) (ls : Array Slot), HS G s μ H locs → lv_has ls 6 [(0, .ref v0), (1, .int v1), (3, .long x)] → W p l e R s m args below meth c H locs cells slots Q (F0 m 63 ls [])) → ∀ (H : Heap) (locs : List Loc) (ls : Array Slot), HS G s μ H locs → lv_has ls 6 [(0, .ref v0), (1, .int v1), (2, .int v2), (3, .long v3), (5, .int v5)] → W p l e R s m args below meth c H locs cells slots Q (F0 m 40 ls []) := by
  have hx := X.1
  have hb := X.2.1
  have hown := X.2.2.2.1
  have hts := X.2.2.2.2.1
  intro n
  induction n with
  | zero =>
    intro v0 v1 v2 v3 v5 μ x h
    rw [lp_X11_odds_40] at h
    cases h
  | succ n ih =>
    intro v0 v1 v2 v3 v5 μ x h k0 H locs ls hH hl
    rw [lp_X11_odds_40] at h
    refine lv_iload hx hb dX11_odds_40 (lv_at hl 4 rfl) ?_
    refine lv_iload_n hx hb dX11_odds_42 rfl (lv_at hl 2 rfl) ?_
    refine lv_icmp_ge (tgt := 63) hx hb dX11_odds_43 (by decide) (fun hc9 => ?_) (fun hc9 => ?_)
    · replace h := ift h hc9
      cases h
      exact k0 _ _ _ hH (lv_sub hl [0, 1, 3] rfl)
    · replace h := iff' h hc9
      refine lv_lload_n hx hb dX11_odds_46 rfl (lv_at hl 3 rfl) ?_
      refine lv_aload_n hx hb dX11_odds_47 rfl (lv_at hl 0 rfl) ?_
      obtain ⟨x10, hx10, h⟩ := bnd h
      refine gf_X11_21 X hH hx10 dX11_odds_48 ?_
      obtain ⟨x11, hx11, h⟩ := bnd h
      refine gf_X11_144 X hH hx11 dX11_odds_51 ?_
      refine lv_i2l hx hb dX11_odds_54 rfl ?_
      refine lv_lmul hx hb dX11_odds_55 ?_
      refine lv_lstore_n (lv' := [(3, .long (v3 * x11.toInt64)), (0, .ref v0), (1, .int v1), (2, .int v2), (5, .int v5)]) hx hb dX11_odds_56 rfl hl (by decide) rfl (fun ls hl => ?_)
      refine lv_iinc (v := (v5 + 1)) (lv' := [(5, .int (v5 + 1)), (3, .long (v3 * x11.toInt64)), (0, .ref v0), (1, .int v1), (2, .int v2)]) hx hb dX11_odds_57 hl (k := 4) rfl rfl (by decide) rfl (fun ls hl => ?_)
      refine lv_goto (tgt := 40) hx hb dX11_odds_60 (by decide) ?_
      exact ih _ _ _ _ _ _ _ h k0 _ _ _ hH (lv_sub hl [2, 3, 4, 1, 0] rfl)
theorem t_X11_odds {μ : Mm} {a0 : Nat} {p1 : Int32} {p2 : Int32} {x : Int32 × Mm} (h : f_X11_odds μ a0 p1 p2 = some x) : tg μ a0 = 12 := by
  unfold f_X11_odds at h
  exact (gsn h).1
set_option maxHeartbeats 4000000 in
set_option maxRecDepth 100000 in
theorem c_X11_odds (l : Launch) (G : CG) (μ : Mm) (a0 : Nat) (p1 : Int32) (p2 : Int32) (x : Int32 × Mm) (h : f_X11_odds μ a0 p1 p2 = some x) : Met l yX11_odds (.code yX11_odds cX11_odds 6 (some .int) :: UW) (rmk 7 129 0 0) (PC G [.ref a0, .int p1, .int p2] μ) (QI G x.1 x.2) 0 0 (fA G) := by
  refine Met.ofW (cc := cX11_odds) (maxL := 6) (ret := (some .int)) (by decide) rfl ?_
  intro p e s m args below meth c s₁ B hml hv
  obtain ⟨X, hH, hr, rfl, hnm⟩ := cx_in B hml hv
  have X : Cx p s m _ meth c cX11_odds 6 RX11 G := X
  have hx := X.1
  have hb := X.2.1
  have hown := X.2.2.2.1
  have hts := X.2.2.2.2.1
  have hRL : RmL (rmk 7 129 0 0) 7 129 := ⟨Nat.le_refl _, Nat.le_refl _⟩
  have hcs : 0 ≤ (rmk 0 0 0 0).cells ∧ 0 ≤ (rmk 0 0 0 0).slots := ⟨Nat.zero_le _, Nat.zero_le _⟩
  refine ls_in (Nat.le_of_ble_eq_true rfl) (fun ls hl => ?_)
  have hl : lv_has ls 6 [(0, .ref a0), (1, .int p1), (2, .int p2)] := hl
  unfold f_X11_odds at h
  obtain ⟨htg, h⟩ := gsn h
  refine lv_aload_n hx hb dX11_odds_0 rfl (lv_at hl 0 rfl) ?_
  obtain ⟨x1, hx1, h⟩ := bnd h
  refine gf_X11_21 X hH hx1 dX11_odds_1 ?_
  refine lv_iload_n hx hb dX11_odds_4 rfl (lv_at hl 1 rfl) ?_
  obtain ⟨x2, hx2, h⟩ := bnd h
  refine iv_X11_253 l X hH hRL (by decide) hx2 hl.1 (Nat.le_of_ble_eq_true rfl) dX11_odds_5 hcs (fun H locs hH => ?_)
  refine lv_if_eq (tgt := 21) hx hb dX11_odds_8 (by decide) (fun hc3 => ?_) (fun hc3 => ?_)
  · replace h := ift h hc3
    refine lv_iconst (v := -1) hx hb dX11_odds_21 (by decide) ?_
    exact eI X hH h hr dX11_odds_22 (Nat.le_of_ble_eq_true rfl) (Nat.le_of_ble_eq_true rfl)
  · replace h := iff' h hc3
    refine lv_iload_n hx hb dX11_odds_11 rfl (lv_at hl 2 rfl) ?_
    refine lv_if_lt (tgt := 21) hx hb dX11_odds_12 (by decide) (fun hc4 => ?_) (fun hc4 => ?_)
    · replace h := ift h hc4
      refine lv_iconst (v := -1) hx hb dX11_odds_21 (by decide) ?_
      exact eI X hH h hr dX11_odds_22 (Nat.le_of_ble_eq_true rfl) (Nat.le_of_ble_eq_true rfl)
    · replace h := iff' h hc4
      refine lv_iload_n hx hb dX11_odds_15 rfl (lv_at hl 2 rfl) ?_
      refine lv_bipush (v := 10) hx hb dX11_odds_16 (by decide) ?_
      refine lv_icmp_le (tgt := 23) hx hb dX11_odds_18 (by decide) (fun hc5 => ?_) (fun hc5 => ?_)
      · replace h := ift h hc5
        refine lv_aload_n hx hb dX11_odds_23 rfl (lv_at hl 0 rfl) ?_
        obtain ⟨x6, hx6, h⟩ := bnd h
        refine gf_X11_57 X hH hx6 dX11_odds_24 ?_
        refine lv_aload_n hx hb dX11_odds_27 rfl (lv_at hl 0 rfl) ?_
        obtain ⟨x7, hx7, h⟩ := bnd h
        refine gf_X11_21 X hH hx7 dX11_odds_28 ?_
        refine lv_iload_n hx hb dX11_odds_31 rfl (lv_at hl 2 rfl) ?_
        obtain ⟨x8, hx8, h⟩ := bnd h
        refine iv_X11_319 l X hH hRL (by decide) hx8 hl.1 (Nat.le_of_ble_eq_true rfl) dX11_odds_32 hcs (fun H locs hH => ?_)
        refine lv_lconst (v := 1) hx hb dX11_odds_35 (by decide) ?_
        refine lv_lstore_n (lv' := [(3, .long (1 : Int64)), (0, .ref a0), (1, .int p1), (2, .int p2)]) hx hb dX11_odds_36 rfl hl (by decide) rfl (fun ls hl => ?_)
        refine lv_iconst (v := 0) hx hb dX11_odds_37 (by decide) ?_
        refine lv_istore (lv' := [(5, .int (0 : Int32)), (3, .long (1 : Int64)), (0, .ref a0), (1, .int p1), (2, .int p2)]) hx hb dX11_odds_38 hl (by decide) rfl (fun ls hl => ?_)
        obtain ⟨x12, hx12, hhx12⟩ := bnd h
        clear h
        refine w_X11_odds_40 l X hRL hcs BIG a0 p1 p2 (1 : Int64) (0 : Int32) x8 x12 hx12 (fun H locs ls hH hl => ?_) _ _ _ hH (lv_sub hl [2, 3, 4, 1, 0] rfl)
        · have h := hhx12
          clear hhx12
          refine lv_aload_n hx hb dX11_odds_63 rfl (lv_at hl 0 rfl) ?_
          refine lv_aload_n hx hb dX11_odds_64 rfl (lv_at hl 0 rfl) ?_
          obtain ⟨x13, hx13, h⟩ := bnd h
          refine gf_X11_57 X hH hx13 dX11_odds_65 ?_
          refine lv_aload_n hx hb dX11_odds_68 rfl (lv_at hl 0 rfl) ?_
          obtain ⟨x14, hx14, h⟩ := bnd h
          refine gf_X11_21 X hH hx14 dX11_odds_69 ?_
          refine lv_iload_n hx hb dX11_odds_72 rfl (lv_at hl 1 rfl) ?_
          obtain ⟨x15, hx15, h⟩ := bnd h
          refine iv_X11_279 l X hH hRL (by decide) hx15 hl.1 (Nat.le_of_ble_eq_true rfl) dX11_odds_73 hcs (fun H locs hH => ?_)
          obtain ⟨x16, hx16, h⟩ := bnd h
          refine iv_X11_323 l X hH hRL (by decide) hx16 hl.1 (Nat.le_of_ble_eq_true rfl) dX11_odds_76 hcs (fun H locs hH => ?_)
          refine lv_lload_n hx hb dX11_odds_79 rfl (lv_at hl 2 rfl) ?_
          obtain ⟨x17, hx17, h⟩ := bnd h
          refine iv_X11_249 l X hH hRL (by decide) hx17 hl.1 (Nat.le_of_ble_eq_true rfl) dX11_odds_80 hcs (fun H locs hH => ?_)
          exact eI X hH h hr dX11_odds_83 (Nat.le_of_ble_eq_true rfl) (Nat.le_of_ble_eq_true rfl)
      · replace h := iff' h hc5
        refine lv_iconst (v := -1) hx hb dX11_odds_21 (by decide) ?_
        exact eI X hH h hr dX11_odds_22 (Nat.le_of_ble_eq_true rfl) (Nat.le_of_ble_eq_true rfl)
theorem t_X11_asked {μ : Mm} {a0 : Nat} {x : Int32} (h : f_X11_asked μ a0 = some x) : tg μ a0 = 12 := by
  unfold f_X11_asked at h
  exact (gsn h).1
set_option maxHeartbeats 4000000 in
set_option maxRecDepth 100000 in
theorem c_X11_asked (l : Launch) (G : CG) (μ : Mm) (a0 : Nat) (x : Int32) (h : f_X11_asked μ a0 = some x) : Met l yX11_asked (.code yX11_asked cX11_asked 1 (some .int) :: UW) (rmk 1 0 0 0) (PC G [.ref a0] μ) (QI G x μ) 0 0 (fA G) := by
  refine Met.ofW (cc := cX11_asked) (maxL := 1) (ret := (some .int)) (by decide) rfl ?_
  intro p e s m args below meth c s₁ B hml hv
  obtain ⟨X, hH, hr, rfl, hnm⟩ := cx_in B hml hv
  have X : Cx p s m _ meth c cX11_asked 1 RX11 G := X
  have hx := X.1
  have hb := X.2.1
  have hown := X.2.2.2.1
  have hts := X.2.2.2.2.1
  have hRL : RmL (rmk 1 0 0 0) 1 0 := ⟨Nat.le_refl _, Nat.le_refl _⟩
  have hcs : 0 ≤ (rmk 0 0 0 0).cells ∧ 0 ≤ (rmk 0 0 0 0).slots := ⟨Nat.zero_le _, Nat.zero_le _⟩
  refine ls_in (Nat.le_of_ble_eq_true rfl) (fun ls hl => ?_)
  have hl : lv_has ls 1 [(0, .ref a0)] := hl
  unfold f_X11_asked at h
  obtain ⟨htg, h⟩ := gsn h
  refine lv_aload_n hx hb dX11_asked_0 rfl (lv_at hl 0 rfl) ?_
  obtain ⟨x1, hx1, h⟩ := bnd h
  refine gf_X11_69 X hH hx1 dX11_asked_1 ?_
  exact eIp X hH h hr dX11_asked_4
theorem t_X11_upper {μ : Mm} {a0 : Nat} {x : Int64} (h : f_X11_upper μ a0 = some x) : tg μ a0 = 12 := by
  unfold f_X11_upper at h
  exact (gsn h).1
set_option maxHeartbeats 4000000 in
set_option maxRecDepth 100000 in
theorem c_X11_upper (l : Launch) (G : CG) (μ : Mm) (a0 : Nat) (x : Int64) (h : f_X11_upper μ a0 = some x) : Met l yX11_upper (.code yX11_upper cX11_upper 1 (some .long) :: UW) (rmk 1 0 0 0) (PC G [.ref a0] μ) (QL G x μ) 0 0 (fA G) := by
  refine Met.ofW (cc := cX11_upper) (maxL := 1) (ret := (some .long)) (by decide) rfl ?_
  intro p e s m args below meth c s₁ B hml hv
  obtain ⟨X, hH, hr, rfl, hnm⟩ := cx_in B hml hv
  have X : Cx p s m _ meth c cX11_upper 1 RX11 G := X
  have hx := X.1
  have hb := X.2.1
  have hown := X.2.2.2.1
  have hts := X.2.2.2.2.1
  have hRL : RmL (rmk 1 0 0 0) 1 0 := ⟨Nat.le_refl _, Nat.le_refl _⟩
  have hcs : 0 ≤ (rmk 0 0 0 0).cells ∧ 0 ≤ (rmk 0 0 0 0).slots := ⟨Nat.zero_le _, Nat.zero_le _⟩
  refine ls_in (Nat.le_of_ble_eq_true rfl) (fun ls hl => ?_)
  have hl : lv_has ls 1 [(0, .ref a0)] := hl
  unfold f_X11_upper at h
  obtain ⟨htg, h⟩ := gsn h
  refine lv_aload_n hx hb dX11_upper_0 rfl (lv_at hl 0 rfl) ?_
  obtain ⟨x1, hx1, h⟩ := bnd h
  refine gf_X11_72 X hH hx1 dX11_upper_1 ?_
  exact eLp X hH h hr dX11_upper_4
theorem t_X11_lower {μ : Mm} {a0 : Nat} {x : Int64} (h : f_X11_lower μ a0 = some x) : tg μ a0 = 12 := by
  unfold f_X11_lower at h
  exact (gsn h).1
set_option maxHeartbeats 4000000 in
set_option maxRecDepth 100000 in
theorem c_X11_lower (l : Launch) (G : CG) (μ : Mm) (a0 : Nat) (x : Int64) (h : f_X11_lower μ a0 = some x) : Met l yX11_lower (.code yX11_lower cX11_lower 1 (some .long) :: UW) (rmk 1 0 0 0) (PC G [.ref a0] μ) (QL G x μ) 0 0 (fA G) := by
  refine Met.ofW (cc := cX11_lower) (maxL := 1) (ret := (some .long)) (by decide) rfl ?_
  intro p e s m args below meth c s₁ B hml hv
  obtain ⟨X, hH, hr, rfl, hnm⟩ := cx_in B hml hv
  have X : Cx p s m _ meth c cX11_lower 1 RX11 G := X
  have hx := X.1
  have hb := X.2.1
  have hown := X.2.2.2.1
  have hts := X.2.2.2.2.1
  have hRL : RmL (rmk 1 0 0 0) 1 0 := ⟨Nat.le_refl _, Nat.le_refl _⟩
  have hcs : 0 ≤ (rmk 0 0 0 0).cells ∧ 0 ≤ (rmk 0 0 0 0).slots := ⟨Nat.zero_le _, Nat.zero_le _⟩
  refine ls_in (Nat.le_of_ble_eq_true rfl) (fun ls hl => ?_)
  have hl : lv_has ls 1 [(0, .ref a0)] := hl
  unfold f_X11_lower at h
  obtain ⟨htg, h⟩ := gsn h
  refine lv_aload_n hx hb dX11_lower_0 rfl (lv_at hl 0 rfl) ?_
  obtain ⟨x1, hx1, h⟩ := bnd h
  refine gf_X11_76 X hH hx1 dX11_lower_1 ?_
  exact eLp X hH h hr dX11_lower_4
set_option maxHeartbeats 4000000 in
set_option maxRecDepth 100000 in
theorem w_X11_countThere_4 {p : Program} {e : Env} {R : Room} {s : State} {m : MethodId} {args : Array Value} {below : List Frame} {meth : Method} {c : Code} {cells slots : Nat} {Q : State → Prop} {G : CG} (l : Launch) (X : Cx p s m args meth c cX11_countThere 3 RX11 G) (hRL : RmL R 2 20) (hcs : cells ≤ R.cells ∧ slots ≤ R.slots) : ∀ (n : Nat) (v0 : Nat) (v1 : Int32) (v2 : Int32) (μ : Mm) (x : Int32), lp_X11_countThere_4 n v0 v1 v2 μ = some x → (∀ (H : Heap) (locs : List Loc) (ls : Array Slot), HS G s μ H locs → lv_has ls 3 [(1, .int x)] → W p l e R s m args below meth c H locs cells slots Q (F0 m 33 ls [])) → ∀ (H : Heap) (locs : List Loc) (ls : Array Slot), HS G s μ H locs → lv_has ls 3 [(0, .ref v0), (1, .int v1), (2, .int v2)] → W p l e R s m args below meth c H locs cells slots Q (F0 m 4 ls []) := by
  have hx := X.1
  have hb := X.2.1
  have hown := X.2.2.2.1
  have hts := X.2.2.2.2.1
  intro n
  induction n with
  | zero =>
    intro v0 v1 v2 μ x h
    rw [lp_X11_countThere_4] at h
    cases h
  | succ n ih =>
    intro v0 v1 v2 μ x h k0 H locs ls hH hl
    rw [lp_X11_countThere_4] at h
    refine lv_iload_n hx hb dX11_countThere_4 rfl (lv_at hl 2 rfl) ?_
    refine lv_aload_n hx hb dX11_countThere_5 rfl (lv_at hl 0 rfl) ?_
    obtain ⟨htx1, h⟩ := gsn h
    obtain ⟨x1, hx1, h⟩ := bnd h
    refine w_len X hH hx1 htx1 (k := 5) rfl dX11_countThere_6 ?_
    refine lv_icmp_ge (tgt := 33) hx hb dX11_countThere_7 (by decide) (fun hc2 => ?_) (fun hc2 => ?_)
    · replace h := ift h hc2
      cases h
      exact k0 _ _ _ hH (lv_sub hl [1] rfl)
    · replace h := iff' h hc2
      refine lv_iload_n hx hb dX11_countThere_10 rfl (lv_at hl 1 rfl) ?_
      refine lv_aload_n hx hb dX11_countThere_11 rfl (lv_at hl 0 rfl) ?_
      refine lv_iload_n hx hb dX11_countThere_12 rfl (lv_at hl 2 rfl) ?_
      obtain ⟨x3, hx3, h⟩ := bnd h
      refine w_aP X hH hx3 (by decide) (k := 5) rfl dX11_countThere_13 ?_
      obtain ⟨x4, hx4, h⟩ := bnd h
      refine iv_X11_112 l X hH hRL (by decide) hx4 hl.1 (Nat.le_of_ble_eq_true rfl) dX11_countThere_14 hcs (fun H locs hH => ?_)
      refine lv_if_eq (tgt := 24) hx hb dX11_countThere_17 (by decide) (fun hc5 => ?_) (fun hc5 => ?_)
      · replace h := ift h hc5
        refine lv_iconst (v := 0) hx hb dX11_countThere_24 (by decide) ?_
        refine lv_iadd hx hb dX11_countThere_25 ?_
        refine lv_istore_n (lv' := [(1, .int (v1 + (0 : Int32))), (0, .ref v0), (2, .int v2)]) hx hb dX11_countThere_26 rfl hl (by decide) rfl (fun ls hl => ?_)
        refine lv_iinc (v := (v2 + 1)) (lv' := [(2, .int (v2 + 1)), (1, .int (v1 + (0 : Int32))), (0, .ref v0)]) hx hb dX11_countThere_27 hl (k := 2) rfl rfl (by decide) rfl (fun ls hl => ?_)
        refine lv_goto (tgt := 4) hx hb dX11_countThere_30 (by decide) ?_
        exact ih _ _ _ _ _ h k0 _ _ _ hH (lv_sub hl [2, 1, 0] rfl)
      · replace h := iff' h hc5
        refine lv_iconst (v := 1) hx hb dX11_countThere_20 (by decide) ?_
        refine lv_goto (tgt := 25) hx hb dX11_countThere_21 (by decide) ?_
        refine lv_iadd hx hb dX11_countThere_25 ?_
        refine lv_istore_n (lv' := [(1, .int (v1 + (1 : Int32))), (0, .ref v0), (2, .int v2)]) hx hb dX11_countThere_26 rfl hl (by decide) rfl (fun ls hl => ?_)
        refine lv_iinc (v := (v2 + 1)) (lv' := [(2, .int (v2 + 1)), (1, .int (v1 + (1 : Int32))), (0, .ref v0)]) hx hb dX11_countThere_27 hl (k := 2) rfl rfl (by decide) rfl (fun ls hl => ?_)
        refine lv_goto (tgt := 4) hx hb dX11_countThere_30 (by decide) ?_
        exact ih _ _ _ _ _ h k0 _ _ _ hH (lv_sub hl [2, 1, 0] rfl)
set_option maxHeartbeats 4000000 in
set_option maxRecDepth 100000 in
theorem c_X11_countThere (l : Launch) (G : CG) (μ : Mm) (p0 : Nat) (x : Int32) (h : f_X11_countThere μ p0 = some x) : Met l yX11_countThere (.code yX11_countThere cX11_countThere 3 (some .int) :: UW) (rmk 2 20 0 0) (PC G [.ref p0] μ) (QI G x μ) 0 0 (fA G) := by
  refine Met.ofW (cc := cX11_countThere) (maxL := 3) (ret := (some .int)) (by decide) rfl ?_
  intro p e s m args below meth c s₁ B hml hv
  obtain ⟨X, hH, hr, rfl, hnm⟩ := cx_in B hml hv
  have X : Cx p s m _ meth c cX11_countThere 3 RX11 G := X
  have hx := X.1
  have hb := X.2.1
  have hown := X.2.2.2.1
  have hts := X.2.2.2.2.1
  have hRL : RmL (rmk 2 20 0 0) 2 20 := ⟨Nat.le_refl _, Nat.le_refl _⟩
  have hcs : 0 ≤ (rmk 0 0 0 0).cells ∧ 0 ≤ (rmk 0 0 0 0).slots := ⟨Nat.zero_le _, Nat.zero_le _⟩
  refine ls_in (Nat.le_of_ble_eq_true rfl) (fun ls hl => ?_)
  have hl : lv_has ls 3 [(0, .ref p0)] := hl
  unfold f_X11_countThere at h
  refine lv_iconst (v := 0) hx hb dX11_countThere_0 (by decide) ?_
  refine lv_istore_n (lv' := [(1, .int (0 : Int32)), (0, .ref p0)]) hx hb dX11_countThere_1 rfl hl (by decide) rfl (fun ls hl => ?_)
  refine lv_iconst (v := 0) hx hb dX11_countThere_2 (by decide) ?_
  refine lv_istore_n (lv' := [(2, .int (0 : Int32)), (1, .int (0 : Int32)), (0, .ref p0)]) hx hb dX11_countThere_3 rfl hl (by decide) rfl (fun ls hl => ?_)
  obtain ⟨x6, hx6, hhx6⟩ := bnd h
  clear h
  refine w_X11_countThere_4 l X hRL hcs BIG p0 (0 : Int32) (0 : Int32) μ x6 hx6 (fun H locs ls hH hl => ?_) _ _ _ hH (lv_sub hl [2, 1, 0] rfl)
  · have h := hhx6
    clear hhx6
    refine lv_iload_n hx hb dX11_countThere_33 rfl (lv_at hl 0 rfl) ?_
    exact eIp X hH h hr dX11_countThere_34
set_option maxHeartbeats 1000000 in
theorem iv_X11_337 {p : Program} {e : Env} {R : Room} {s : State} {m : MethodId} {args : Array Value} {below : List Frame} {meth : Method} {c : Code} {H : Heap} {locs : List Loc} {cells slots : Nat} {Q : State → Prop} {cc : ByteArray} {pc : Nat} {ls : Array Slot} {rest : List Value} {nL : Nat} {G : CG} {μ : Mm} {a : Nat}  {x : Int32} {k k2 : Nat} (l : Launch) (X : Cx p s m args meth c cc nL RX11 G) (hH : HS G s μ H locs) (hRL : RmL R k k2) (hk : 1 + 1 ≤ k ∧ 22 ≤ k2) (h : f_X3_countHeavy μ a = some x) (hls : ls.size = nL) (hroom : (rest.map fun v => v.category).sum ≤ 8) (hdg : decode cc pc = .ok (.invokevirtual 337, 3)) (hcs : cells + 0 ≤ R.cells ∧ slots + 0 ≤ R.slots) (kk : ∀ (H1 : Heap) (locs1 : List Loc), HS G s μ H1 locs1 → W p l e R s m args below meth c H1 locs1 cells slots Q (F0 m (pc + 3) ls (.int x :: rest))) : W p l e R s m args below meth c H locs cells slots Q (F0 m pc ls (.ref a :: rest)) := by
  refine kI hH (rV (As := []) (rest := rest) X hH (t_X3_countHeavy h) vc_3 (c_X3_countHeavy l G μ a x h) (List.forall_mem_cons.mpr ⟨u_410, (List.forall_mem_cons.mpr ⟨u_411, (List.forall_mem_cons.mpr ⟨u_412, (List.forall_mem_cons.mpr ⟨u_22, (fun _ h9 => absurd h9 List.not_mem_nil)⟩)⟩)⟩)⟩) u_413 (rmo hRL (Nat.le_trans (by decide) hk.1) (Nat.le_trans (by decide) hk.2)) ddV_X3_countHeavy rfl hls rfl hroom hdg hcs) kk
set_option maxHeartbeats 1000000 in
theorem iv_X11_340 {p : Program} {e : Env} {R : Room} {s : State} {m : MethodId} {args : Array Value} {below : List Frame} {meth : Method} {c : Code} {H : Heap} {locs : List Loc} {cells slots : Nat} {Q : State → Prop} {cc : ByteArray} {pc : Nat} {ls : Array Slot} {rest : List Value} {nL : Nat} {G : CG} {μ : Mm} {q0 : Nat} {x : Int32} {k k2 : Nat} (l : Launch) (X : Cx p s m args meth c cc nL RX11 G) (hH : HS G s μ H locs) (hRL : RmL R k k2) (hk : 2 + 1 ≤ k ∧ 42 ≤ k2) (h : f_X11_countThere μ q0 = some x) (hls : ls.size = nL) (hroom : (rest.map fun v => v.category).sum ≤ 8) (hdg : decode cc pc = .ok (.invokestatic 340, 3)) (hcs : cells + 0 ≤ R.cells ∧ slots + 0 ≤ R.slots) (kk : ∀ (H1 : Heap) (locs1 : List Loc), HS G s μ H1 locs1 → W p l e R s m args below meth c H1 locs1 cells slots Q (F0 m (pc + 3) ls (.int x :: rest))) : W p l e R s m args below meth c H locs cells slots Q (F0 m pc ls (.ref q0 :: rest)) := by
  refine kI hH (rS (As := [.ref q0]) (rest := rest) X hH (c_X11_countThere l G μ q0 x h) (List.forall_mem_cons.mpr ⟨u_415, (List.forall_mem_cons.mpr ⟨u_416, (List.forall_mem_cons.mpr ⟨u_21, (fun _ h9 => absurd h9 List.not_mem_nil)⟩)⟩)⟩) u_417 (rmo hRL (Nat.le_trans (by decide) hk.1) (Nat.le_trans (by decide) hk.2)) ddS_X11_countThere rfl hls rfl hroom hdg hcs) kk
theorem t_X11_count {μ : Mm} {a0 : Nat} {p1 : Int32} {x : Int32} (h : f_X11_count μ a0 p1 = some x) : tg μ a0 = 12 := by
  unfold f_X11_count at h
  exact (gsn h).1
set_option maxHeartbeats 4000000 in
set_option maxRecDepth 100000 in
theorem c_X11_count (l : Launch) (G : CG) (μ : Mm) (a0 : Nat) (p1 : Int32) (x : Int32) (h : f_X11_count μ a0 p1 = some x) : Met l yX11_count (.code yX11_count cX11_count 2 (some .int) :: UW) (rmk 3 42 0 0) (PC G [.ref a0, .int p1] μ) (QI G x μ) 0 0 (fA G) := by
  refine Met.ofW (cc := cX11_count) (maxL := 2) (ret := (some .int)) (by decide) rfl ?_
  intro p e s m args below meth c s₁ B hml hv
  obtain ⟨X, hH, hr, rfl, hnm⟩ := cx_in B hml hv
  have X : Cx p s m _ meth c cX11_count 2 RX11 G := X
  have hx := X.1
  have hb := X.2.1
  have hown := X.2.2.2.1
  have hts := X.2.2.2.2.1
  have hRL : RmL (rmk 3 42 0 0) 3 42 := ⟨Nat.le_refl _, Nat.le_refl _⟩
  have hcs : 0 ≤ (rmk 0 0 0 0).cells ∧ 0 ≤ (rmk 0 0 0 0).slots := ⟨Nat.zero_le _, Nat.zero_le _⟩
  refine ls_in (Nat.le_of_ble_eq_true rfl) (fun ls hl => ?_)
  have hl : lv_has ls 2 [(0, .ref a0), (1, .int p1)] := hl
  unfold f_X11_count at h
  obtain ⟨htg, h⟩ := gsn h
  refine lv_iload_n hx hb dX11_count_0 rfl (lv_at hl 1 rfl) ?_
  by_cases hc1 : p1 = (0 : Int32)
  · replace h := ift h hc1
    refine lv_tableIn (tgt := 60) (off := 59) hx hb dX11_count_1 (by rw [hc1]; decide) (by rw [hc1]; decide) (by rw [hc1]; rfl) (by decide) ?_
    refine lv_aload_n hx hb dX11_count_60 rfl (lv_at hl 0 rfl) ?_
    obtain ⟨x2, hx2, h⟩ := bnd h
    refine gf_X11_21 X hH hx2 dX11_count_61 ?_
    obtain ⟨x3, hx3, h⟩ := bnd h
    refine gf_X11_144 X hH hx3 dX11_count_64 ?_
    exact eIp X hH h hr dX11_count_67
  · replace h := iff' h hc1
    by_cases hc4 : p1 = (1 : Int32)
    · replace h := ift h hc4
      refine lv_tableIn (tgt := 68) (off := 67) hx hb dX11_count_1 (by rw [hc4]; decide) (by rw [hc4]; decide) (by rw [hc4]; rfl) (by decide) ?_
      refine lv_aload_n hx hb dX11_count_68 rfl (lv_at hl 0 rfl) ?_
      obtain ⟨x5, hx5, h⟩ := bnd h
      refine gf_X11_21 X hH hx5 dX11_count_69 ?_
      obtain ⟨x6, hx6, h⟩ := bnd h
      refine gf_X11_181 X hH hx6 dX11_count_72 ?_
      exact eIp X hH h hr dX11_count_75
    · replace h := iff' h hc4
      by_cases hc7 : p1 = (2 : Int32)
      · replace h := ift h hc7
        refine lv_tableIn (tgt := 76) (off := 75) hx hb dX11_count_1 (by rw [hc7]; decide) (by rw [hc7]; decide) (by rw [hc7]; rfl) (by decide) ?_
        refine lv_aload_n hx hb dX11_count_76 rfl (lv_at hl 0 rfl) ?_
        obtain ⟨x8, hx8, h⟩ := bnd h
        refine gf_X11_21 X hH hx8 dX11_count_77 ?_
        obtain ⟨x9, hx9, h⟩ := bnd h
        refine gf_X11_201 X hH hx9 dX11_count_80 ?_
        exact eIp X hH h hr dX11_count_83
      · replace h := iff' h hc7
        by_cases hc10 : p1 = (3 : Int32)
        · replace h := ift h hc10
          refine lv_tableIn (tgt := 84) (off := 83) hx hb dX11_count_1 (by rw [hc10]; decide) (by rw [hc10]; decide) (by rw [hc10]; rfl) (by decide) ?_
          refine lv_aload_n hx hb dX11_count_84 rfl (lv_at hl 0 rfl) ?_
          obtain ⟨x11, hx11, h⟩ := bnd h
          refine gf_X11_21 X hH hx11 dX11_count_85 ?_
          obtain ⟨x12, hx12, h⟩ := bnd h
          refine gf_X11_221 X hH hx12 dX11_count_88 ?_
          exact eIp X hH h hr dX11_count_91
        · replace h := iff' h hc10
          by_cases hc13 : p1 = (4 : Int32)
          · replace h := ift h hc13
            refine lv_tableIn (tgt := 92) (off := 91) hx hb dX11_count_1 (by rw [hc13]; decide) (by rw [hc13]; decide) (by rw [hc13]; rfl) (by decide) ?_
            refine lv_aload_n hx hb dX11_count_92 rfl (lv_at hl 0 rfl) ?_
            obtain ⟨x14, hx14, h⟩ := bnd h
            refine gf_X11_21 X hH hx14 dX11_count_93 ?_
            obtain ⟨x15, hx15, h⟩ := bnd h
            refine gf_X11_187 X hH hx15 dX11_count_96 ?_
            obtain ⟨x16, hx16, h⟩ := bnd h
            refine gf_X11_126 X hH hx16 dX11_count_99 ?_
            exact eIp X hH h hr dX11_count_102
          · replace h := iff' h hc13
            by_cases hc17 : p1 = (5 : Int32)
            · replace h := ift h hc17
              refine lv_tableIn (tgt := 103) (off := 102) hx hb dX11_count_1 (by rw [hc17]; decide) (by rw [hc17]; decide) (by rw [hc17]; rfl) (by decide) ?_
              refine lv_aload_n hx hb dX11_count_103 rfl (lv_at hl 0 rfl) ?_
              obtain ⟨x18, hx18, h⟩ := bnd h
              refine gf_X11_21 X hH hx18 dX11_count_104 ?_
              obtain ⟨x19, hx19, h⟩ := bnd h
              refine gf_X11_207 X hH hx19 dX11_count_107 ?_
              exact eIp X hH h hr dX11_count_110
            · replace h := iff' h hc17
              by_cases hc20 : p1 = (6 : Int32)
              · replace h := ift h hc20
                refine lv_tableIn (tgt := 111) (off := 110) hx hb dX11_count_1 (by rw [hc20]; decide) (by rw [hc20]; decide) (by rw [hc20]; rfl) (by decide) ?_
                refine lv_aload_n hx hb dX11_count_111 rfl (lv_at hl 0 rfl) ?_
                obtain ⟨x21, hx21, h⟩ := bnd h
                refine gf_X11_21 X hH hx21 dX11_count_112 ?_
                obtain ⟨x22, hx22, h⟩ := bnd h
                refine gf_X11_334 X hH hx22 dX11_count_115 ?_
                exact eIp X hH h hr dX11_count_118
              · replace h := iff' h hc20
                by_cases hc23 : p1 = (7 : Int32)
                · replace h := ift h hc23
                  refine lv_tableIn (tgt := 119) (off := 118) hx hb dX11_count_1 (by rw [hc23]; decide) (by rw [hc23]; decide) (by rw [hc23]; rfl) (by decide) ?_
                  refine lv_aload_n hx hb dX11_count_119 rfl (lv_at hl 0 rfl) ?_
                  obtain ⟨x24, hx24, h⟩ := bnd h
                  refine gf_X11_21 X hH hx24 dX11_count_120 ?_
                  obtain ⟨x25, hx25, h⟩ := bnd h
                  refine iv_X11_337 l X hH hRL (by decide) hx25 hl.1 (Nat.le_of_ble_eq_true rfl) dX11_count_123 hcs (fun H locs hH => ?_)
                  exact eIp X hH h hr dX11_count_126
                · replace h := iff' h hc23
                  by_cases hc26 : p1 = (8 : Int32)
                  · replace h := ift h hc26
                    refine lv_tableIn (tgt := 127) (off := 126) hx hb dX11_count_1 (by rw [hc26]; decide) (by rw [hc26]; decide) (by rw [hc26]; rfl) (by decide) ?_
                    refine lv_aload_n hx hb dX11_count_127 rfl (lv_at hl 0 rfl) ?_
                    obtain ⟨x27, hx27, h⟩ := bnd h
                    refine gf_X11_11 X hH hx27 dX11_count_128 ?_
                    obtain ⟨x28, hx28, h⟩ := bnd h
                    refine iv_X11_340 l X hH hRL (by decide) hx28 hl.1 (Nat.le_of_ble_eq_true rfl) dX11_count_131 hcs (fun H locs hH => ?_)
                    exact eIp X hH h hr dX11_count_134
                  · replace h := iff' h hc26
                    by_cases hc29 : p1 = (9 : Int32)
                    · replace h := ift h hc29
                      refine lv_tableIn (tgt := 135) (off := 134) hx hb dX11_count_1 (by rw [hc29]; decide) (by rw [hc29]; decide) (by rw [hc29]; rfl) (by decide) ?_
                      refine lv_aload_n hx hb dX11_count_135 rfl (lv_at hl 0 rfl) ?_
                      obtain ⟨x30, hx30, h⟩ := bnd h
                      refine gf_X11_15 X hH hx30 dX11_count_136 ?_
                      obtain ⟨x31, hx31, h⟩ := bnd h
                      refine iv_X11_340 l X hH hRL (by decide) hx31 hl.1 (Nat.le_of_ble_eq_true rfl) dX11_count_139 hcs (fun H locs hH => ?_)
                      exact eIp X hH h hr dX11_count_142
                    · replace h := iff' h hc29
                      by_cases hc32 : p1 = (10 : Int32)
                      · replace h := ift h hc32
                        refine lv_tableIn (tgt := 143) (off := 142) hx hb dX11_count_1 (by rw [hc32]; decide) (by rw [hc32]; decide) (by rw [hc32]; rfl) (by decide) ?_
                        refine lv_aload_n hx hb dX11_count_143 rfl (lv_at hl 0 rfl) ?_
                        obtain ⟨x33, hx33, h⟩ := bnd h
                        refine gf_X11_25 X hH hx33 dX11_count_144 ?_
                        obtain ⟨x34, hx34, h⟩ := bnd h
                        refine iv_X11_340 l X hH hRL (by decide) hx34 hl.1 (Nat.le_of_ble_eq_true rfl) dX11_count_147 hcs (fun H locs hH => ?_)
                        exact eIp X hH h hr dX11_count_150
                      · replace h := iff' h hc32
                        have e0 : p1.toInt ≠ 0 := lv_neT hc1 (by decide)
                        have e1 : p1.toInt ≠ 1 := lv_neT hc4 (by decide)
                        have e2 : p1.toInt ≠ 2 := lv_neT hc7 (by decide)
                        have e3 : p1.toInt ≠ 3 := lv_neT hc10 (by decide)
                        have e4 : p1.toInt ≠ 4 := lv_neT hc13 (by decide)
                        have e5 : p1.toInt ≠ 5 := lv_neT hc17 (by decide)
                        have e6 : p1.toInt ≠ 6 := lv_neT hc20 (by decide)
                        have e7 : p1.toInt ≠ 7 := lv_neT hc23 (by decide)
                        have e8 : p1.toInt ≠ 8 := lv_neT hc26 (by decide)
                        have e9 : p1.toInt ≠ 9 := lv_neT hc29 (by decide)
                        have e10 : p1.toInt ≠ 10 := lv_neT hc32 (by decide)
                        refine lv_tableOut (tgt := 151) hx hb dX11_count_1 (by omega) (by decide) ?_
                        refine lv_iconst (v := -1) hx hb dX11_count_151 (by decide) ?_
                        exact eIp X hH h hr dX11_count_152
theorem t_X11_finding {μ : Mm} {a0 : Nat} {x : Int32} (h : f_X11_finding μ a0 = some x) : tg μ a0 = 12 := by
  unfold f_X11_finding at h
  exact (gsn h).1
set_option maxHeartbeats 4000000 in
set_option maxRecDepth 100000 in
theorem c_X11_finding (l : Launch) (G : CG) (μ : Mm) (a0 : Nat) (x : Int32) (h : f_X11_finding μ a0 = some x) : Met l yX11_finding (.code yX11_finding cX11_finding 1 (some .int) :: UW) (rmk 1 0 0 0) (PC G [.ref a0] μ) (QI G x μ) 0 0 (fA G) := by
  refine Met.ofW (cc := cX11_finding) (maxL := 1) (ret := (some .int)) (by decide) rfl ?_
  intro p e s m args below meth c s₁ B hml hv
  obtain ⟨X, hH, hr, rfl, hnm⟩ := cx_in B hml hv
  have X : Cx p s m _ meth c cX11_finding 1 RX11 G := X
  have hx := X.1
  have hb := X.2.1
  have hown := X.2.2.2.1
  have hts := X.2.2.2.2.1
  have hRL : RmL (rmk 1 0 0 0) 1 0 := ⟨Nat.le_refl _, Nat.le_refl _⟩
  have hcs : 0 ≤ (rmk 0 0 0 0).cells ∧ 0 ≤ (rmk 0 0 0 0).slots := ⟨Nat.zero_le _, Nat.zero_le _⟩
  refine ls_in (Nat.le_of_ble_eq_true rfl) (fun ls hl => ?_)
  have hl : lv_has ls 1 [(0, .ref a0)] := hl
  unfold f_X11_finding at h
  obtain ⟨htg, h⟩ := gsn h
  refine lv_aload_n hx hb dX11_finding_0 rfl (lv_at hl 0 rfl) ?_
  obtain ⟨x1, hx1, h⟩ := bnd h
  refine gf_X11_65 X hH hx1 dX11_finding_1 ?_
  exact eIp X hH h hr dX11_finding_4
set_option maxHeartbeats 1000000 in
theorem iv_X11_348 {p : Program} {e : Env} {R : Room} {s : State} {m : MethodId} {args : Array Value} {below : List Frame} {meth : Method} {c : Code} {H : Heap} {locs : List Loc} {cells slots : Nat} {Q : State → Prop} {cc : ByteArray} {pc : Nat} {ls : Array Slot} {rest : List Value} {nL : Nat} {G : CG} {μ : Mm} {a : Nat} {q0 : Int32} {x : Int32} {k k2 : Nat} (l : Launch) (X : Cx p s m args meth c cc nL RX11 G) (hH : HS G s μ H locs) (hRL : RmL R k k2) (hk : 3 + 1 ≤ k ∧ 63 ≤ k2) (h : f_X11_count μ a q0 = some x) (hls : ls.size = nL) (hroom : (rest.map fun v => v.category).sum ≤ 8) (hdg : decode cc pc = .ok (.invokevirtual 348, 3)) (hcs : cells + 0 ≤ R.cells ∧ slots + 0 ≤ R.slots) (kk : ∀ (H1 : Heap) (locs1 : List Loc), HS G s μ H1 locs1 → W p l e R s m args below meth c H1 locs1 cells slots Q (F0 m (pc + 3) ls (.int x :: rest))) : W p l e R s m args below meth c H locs cells slots Q (F0 m pc ls (.int q0 :: .ref a :: rest)) := by
  refine kI hH (rV (As := [.int q0]) (rest := rest) X hH (t_X11_count h) vc_11 (c_X11_count l G μ a q0 x h) (List.forall_mem_cons.mpr ⟨u_424, (List.forall_mem_cons.mpr ⟨u_407, (List.forall_mem_cons.mpr ⟨u_408, (List.forall_mem_cons.mpr ⟨u_21, (fun _ h9 => absurd h9 List.not_mem_nil)⟩)⟩)⟩)⟩) u_409 (rmo hRL (Nat.le_trans (by decide) hk.1) (Nat.le_trans (by decide) hk.2)) ddV_X11_count rfl hls rfl hroom hdg hcs) kk
set_option maxHeartbeats 1000000 in
theorem iv_X11_351 {p : Program} {e : Env} {R : Room} {s : State} {m : MethodId} {args : Array Value} {below : List Frame} {meth : Method} {c : Code} {H : Heap} {locs : List Loc} {cells slots : Nat} {Q : State → Prop} {cc : ByteArray} {pc : Nat} {ls : Array Slot} {rest : List Value} {nL : Nat} {G : CG} {μ : Mm} {a : Nat} {q0 : Int64} {x : Int64} {k k2 : Nat} (l : Launch) (X : Cx p s m args meth c cc nL RX11 G) (hH : HS G s μ H locs) (hRL : RmL R k k2) (hk : 1 + 1 ≤ k ∧ 25 ≤ k2) (h : f_X8_mixInto μ a q0 = some x) (hls : ls.size = nL) (hroom : (rest.map fun v => v.category).sum ≤ 8) (hdg : decode cc pc = .ok (.invokevirtual 351, 3)) (hcs : cells + 0 ≤ R.cells ∧ slots + 0 ≤ R.slots) (kk : ∀ (H1 : Heap) (locs1 : List Loc), HS G s μ H1 locs1 → W p l e R s m args below meth c H1 locs1 cells slots Q (F0 m (pc + 3) ls (.long x :: rest))) : W p l e R s m args below meth c H locs cells slots Q (F0 m pc ls (.long q0 :: .ref a :: rest)) := by
  refine kL hH (rV (As := [.long q0]) (rest := rest) X hH (t_X8_mixInto h) vc_8 (c_X8_mixInto l G μ a q0 x h) (List.forall_mem_cons.mpr ⟨u_454, (List.forall_mem_cons.mpr ⟨u_455, (List.forall_mem_cons.mpr ⟨u_456, (List.forall_mem_cons.mpr ⟨u_23, (fun _ h9 => absurd h9 List.not_mem_nil)⟩)⟩)⟩)⟩) u_457 (rmo hRL (Nat.le_trans (by decide) hk.1) (Nat.le_trans (by decide) hk.2)) ddV_X8_mixInto rfl hls rfl hroom hdg hcs) kk
set_option maxHeartbeats 4000000 in
set_option maxRecDepth 100000 in
theorem w_X11_digest_6 {p : Program} {e : Env} {R : Room} {s : State} {m : MethodId} {args : Array Value} {below : List Frame} {meth : Method} {c : Code} {cells slots : Nat} {Q : State → Prop} {G : CG} (l : Launch) (X : Cx p s m args meth c cX11_digest 5 RX11 G) (hRL : RmL R 6 104) (hcs : cells ≤ R.cells ∧ slots ≤ R.slots) : ∀ (n : Nat) (v0 : Nat) (v1 : Int64) (v3 : Int32) (μ : Mm) (x : Int64), lp_X11_digest_6 n v0 v1 v3 μ = some x → (∀ (H : Heap) (locs : List Loc) (ls : Array Slot), HS G s μ H locs → lv_has ls 5 [(0, .ref v0), (1, .long x)] → W p l e R s m args below meth c H locs cells slots Q (F0 m 31 ls [])) → ∀ (H : Heap) (locs : List Loc) (ls : Array Slot), HS G s μ H locs → lv_has ls 5 [(0, .ref v0), (1, .long v1), (3, .int v3)] → W p l e R s m args below meth c H locs cells slots Q (F0 m 6 ls []) := by
  have hx := X.1
  have hb := X.2.1
  have hown := X.2.2.2.1
  have hts := X.2.2.2.2.1
  intro n
  induction n with
  | zero =>
    intro v0 v1 v3 μ x h
    rw [lp_X11_digest_6] at h
    cases h
  | succ n ih =>
    intro v0 v1 v3 μ x h k0 H locs ls hH hl
    rw [lp_X11_digest_6] at h
    refine lv_iload_n hx hb dX11_digest_6 rfl (lv_at hl 2 rfl) ?_
    refine lv_bipush (v := 10) hx hb dX11_digest_7 (by decide) ?_
    refine lv_icmp_gt (tgt := 31) hx hb dX11_digest_9 (by decide) (fun hc1 => ?_) (fun hc1 => ?_)
    · replace h := ift h hc1
      cases h
      exact k0 _ _ _ hH (lv_sub hl [0, 1] rfl)
    · replace h := iff' h hc1
      refine lv_ldc2 (v := 31) hx hb hown (hts _ u_423) dX11_digest_12 ?_
      refine lv_lload_n hx hb dX11_digest_15 rfl (lv_at hl 1 rfl) ?_
      refine lv_lmul hx hb dX11_digest_16 ?_
      refine lv_aload_n hx hb dX11_digest_17 rfl (lv_at hl 0 rfl) ?_
      refine lv_iload_n hx hb dX11_digest_18 rfl (lv_at hl 2 rfl) ?_
      obtain ⟨x2, hx2, h⟩ := bnd h
      refine iv_X11_348 l X hH hRL (by decide) hx2 hl.1 (Nat.le_of_ble_eq_true rfl) dX11_digest_19 hcs (fun H locs hH => ?_)
      refine lv_i2l hx hb dX11_digest_22 rfl ?_
      refine lv_ladd hx hb dX11_digest_23 ?_
      refine lv_lstore_n (lv' := [(1, .long (((31 : Int64) * v1) + x2.toInt64)), (0, .ref v0), (3, .int v3)]) hx hb dX11_digest_24 rfl hl (by decide) rfl (fun ls hl => ?_)
      refine lv_iinc (v := (v3 + 1)) (lv' := [(3, .int (v3 + 1)), (1, .long (((31 : Int64) * v1) + x2.toInt64)), (0, .ref v0)]) hx hb dX11_digest_25 hl (k := 2) rfl rfl (by decide) rfl (fun ls hl => ?_)
      refine lv_goto (tgt := 6) hx hb dX11_digest_28 (by decide) ?_
      exact ih _ _ _ _ _ h k0 _ _ _ hH (lv_sub hl [2, 1, 0] rfl)
set_option maxHeartbeats 4000000 in
set_option maxRecDepth 100000 in
theorem w_X11_digest_62 {p : Program} {e : Env} {R : Room} {s : State} {m : MethodId} {args : Array Value} {below : List Frame} {meth : Method} {c : Code} {cells slots : Nat} {Q : State → Prop} {G : CG} (l : Launch) (X : Cx p s m args meth c cX11_digest 5 RX11 G) (hRL : RmL R 6 104) (hcs : cells ≤ R.cells ∧ slots ≤ R.slots) : ∀ (n : Nat) (v0 : Nat) (v1 : Int64) (v3 : Int32) (v4 : Int32) (μ : Mm) (x : Int64), lp_X11_digest_62 n v0 v1 v3 v4 μ = some x → (∀ (H : Heap) (locs : List Loc) (ls : Array Slot), HS G s μ H locs → lv_has ls 5 [(0, .ref v0), (1, .long x), (3, .int v3)] → W p l e R s m args below meth c H locs cells slots Q (F0 m 92 ls [])) → ∀ (H : Heap) (locs : List Loc) (ls : Array Slot), HS G s μ H locs → lv_has ls 5 [(0, .ref v0), (1, .long v1), (3, .int v3), (4, .int v4)] → W p l e R s m args below meth c H locs cells slots Q (F0 m 62 ls []) := by
  have hx := X.1
  have hb := X.2.1
  have hown := X.2.2.2.1
  have hts := X.2.2.2.2.1
  intro n
  induction n with
  | zero =>
    intro v0 v1 v3 v4 μ x h
    rw [lp_X11_digest_62] at h
    cases h
  | succ n ih =>
    intro v0 v1 v3 v4 μ x h k0 H locs ls hH hl
    rw [lp_X11_digest_62] at h
    refine lv_iload hx hb dX11_digest_62 (lv_at hl 3 rfl) ?_
    refine lv_iconst (v := 4) hx hb dX11_digest_64 (by decide) ?_
    refine lv_icmp_gt (tgt := 92) hx hb dX11_digest_65 (by decide) (fun hc9 => ?_) (fun hc9 => ?_)
    · replace h := ift h hc9
      cases h
      exact k0 _ _ _ hH (lv_sub hl [0, 1, 2] rfl)
    · replace h := iff' h hc9
      refine lv_ldc2 (v := 31) hx hb hown (hts _ u_423) dX11_digest_68 ?_
      refine lv_lload_n hx hb dX11_digest_71 rfl (lv_at hl 1 rfl) ?_
      refine lv_lmul hx hb dX11_digest_72 ?_
      refine lv_aload_n hx hb dX11_digest_73 rfl (lv_at hl 0 rfl) ?_
      obtain ⟨x10, hx10, h⟩ := bnd h
      refine gf_X11_21 X hH hx10 dX11_digest_74 ?_
      refine lv_iload_n hx hb dX11_digest_77 rfl (lv_at hl 2 rfl) ?_
      refine lv_iload hx hb dX11_digest_78 (lv_at hl 3 rfl) ?_
      obtain ⟨x11, hx11, h⟩ := bnd h
      refine iv_X11_151 l X hH hRL (by decide) hx11 hl.1 (Nat.le_of_ble_eq_true rfl) dX11_digest_80 hcs (fun H locs hH => ?_)
      refine lv_i2l hx hb dX11_digest_83 rfl ?_
      refine lv_ladd hx hb dX11_digest_84 ?_
      refine lv_lstore_n (lv' := [(1, .long (((31 : Int64) * v1) + x11.toInt64)), (0, .ref v0), (3, .int v3), (4, .int v4)]) hx hb dX11_digest_85 rfl hl (by decide) rfl (fun ls hl => ?_)
      refine lv_iinc (v := (v4 + 1)) (lv' := [(4, .int (v4 + 1)), (1, .long (((31 : Int64) * v1) + x11.toInt64)), (0, .ref v0), (3, .int v3)]) hx hb dX11_digest_86 hl (k := 3) rfl rfl (by decide) rfl (fun ls hl => ?_)
      refine lv_goto (tgt := 62) hx hb dX11_digest_89 (by decide) ?_
      exact ih _ _ _ _ _ _ h k0 _ _ _ hH (lv_sub hl [2, 1, 3, 0] rfl)
set_option maxHeartbeats 4000000 in
set_option maxRecDepth 100000 in
theorem w_X11_digest_48 {p : Program} {e : Env} {R : Room} {s : State} {m : MethodId} {args : Array Value} {below : List Frame} {meth : Method} {c : Code} {cells slots : Nat} {Q : State → Prop} {G : CG} (l : Launch) (X : Cx p s m args meth c cX11_digest 5 RX11 G) (hRL : RmL R 6 104) (hcs : cells ≤ R.cells ∧ slots ≤ R.slots) : ∀ (n : Nat) (v0 : Nat) (v1 : Int64) (v3 : Int32) (μ : Mm) (x : Int64), lp_X11_digest_48 n v0 v1 v3 μ = some x → (∀ (H : Heap) (locs : List Loc) (ls : Array Slot), HS G s μ H locs → lv_has ls 5 [(0, .ref v0), (1, .long x)] → W p l e R s m args below meth c H locs cells slots Q (F0 m 98 ls [])) → ∀ (H : Heap) (locs : List Loc) (ls : Array Slot), HS G s μ H locs → lv_has ls 5 [(0, .ref v0), (1, .long v1), (3, .int v3)] → W p l e R s m args below meth c H locs cells slots Q (F0 m 48 ls []) := by
  have hx := X.1
  have hb := X.2.1
  have hown := X.2.2.2.1
  have hts := X.2.2.2.2.1
  intro n
  induction n with
  | zero =>
    intro v0 v1 v3 μ x h
    rw [lp_X11_digest_48] at h
    cases h
  | succ n ih =>
    intro v0 v1 v3 μ x h k0 H locs ls hH hl
    rw [lp_X11_digest_48] at h
    refine lv_iload_n hx hb dX11_digest_48 rfl (lv_at hl 2 rfl) ?_
    refine lv_aload_n hx hb dX11_digest_49 rfl (lv_at hl 0 rfl) ?_
    obtain ⟨x6, hx6, h⟩ := bnd h
    refine gf_X11_21 X hH hx6 dX11_digest_50 ?_
    obtain ⟨x7, hx7, h⟩ := bnd h
    refine gf_X11_144 X hH hx7 dX11_digest_53 ?_
    refine lv_icmp_ge (tgt := 98) hx hb dX11_digest_56 (by decide) (fun hc8 => ?_) (fun hc8 => ?_)
    · replace h := ift h hc8
      cases h
      exact k0 _ _ _ hH (lv_sub hl [0, 1] rfl)
    · replace h := iff' h hc8
      refine lv_iconst (v := 0) hx hb dX11_digest_59 (by decide) ?_
      refine lv_istore (lv' := [(4, .int (0 : Int32)), (0, .ref v0), (1, .long v1), (3, .int v3)]) hx hb dX11_digest_60 hl (by decide) rfl (fun ls hl => ?_)
      obtain ⟨x12, hx12, hhx12⟩ := bnd h
      clear h
      refine w_X11_digest_62 l X hRL hcs BIG v0 v1 v3 (0 : Int32) μ x12 hx12 (fun H locs ls hH hl => ?_) _ _ _ hH (lv_sub hl [1, 2, 3, 0] rfl)
      · have h := hhx12
        clear hhx12
        refine lv_iinc (v := (v3 + 1)) (lv' := [(3, .int (v3 + 1)), (0, .ref v0), (1, .long x12)]) hx hb dX11_digest_92 hl (k := 2) rfl rfl (by decide) rfl (fun ls hl => ?_)
        refine lv_goto (tgt := 48) hx hb dX11_digest_95 (by decide) ?_
        exact ih _ _ _ _ _ h k0 _ _ _ hH (lv_sub hl [1, 2, 0] rfl)
set_option maxHeartbeats 4000000 in
set_option maxRecDepth 100000 in
theorem w_X11_digest_100 {p : Program} {e : Env} {R : Room} {s : State} {m : MethodId} {args : Array Value} {below : List Frame} {meth : Method} {c : Code} {cells slots : Nat} {Q : State → Prop} {G : CG} (l : Launch) (X : Cx p s m args meth c cX11_digest 5 RX11 G) (hRL : RmL R 6 104) (hcs : cells ≤ R.cells ∧ slots ≤ R.slots) : ∀ (n : Nat) (v0 : Nat) (v1 : Int64) (v3 : Int32) (μ : Mm) (x : Int64), lp_X11_digest_100 n v0 v1 v3 μ = some x → (∀ (H : Heap) (locs : List Loc) (ls : Array Slot), HS G s μ H locs → lv_has ls 5 [(0, .ref v0), (1, .long x)] → W p l e R s m args below meth c H locs cells slots Q (F0 m 128 ls [])) → ∀ (H : Heap) (locs : List Loc) (ls : Array Slot), HS G s μ H locs → lv_has ls 5 [(0, .ref v0), (1, .long v1), (3, .int v3)] → W p l e R s m args below meth c H locs cells slots Q (F0 m 100 ls []) := by
  have hx := X.1
  have hb := X.2.1
  have hown := X.2.2.2.1
  have hts := X.2.2.2.2.1
  intro n
  induction n with
  | zero =>
    intro v0 v1 v3 μ x h
    rw [lp_X11_digest_100] at h
    cases h
  | succ n ih =>
    intro v0 v1 v3 μ x h k0 H locs ls hH hl
    rw [lp_X11_digest_100] at h
    refine lv_iload_n hx hb dX11_digest_100 rfl (lv_at hl 2 rfl) ?_
    refine lv_iconst (v := 3) hx hb dX11_digest_101 (by decide) ?_
    refine lv_icmp_ge (tgt := 128) hx hb dX11_digest_102 (by decide) (fun hc14 => ?_) (fun hc14 => ?_)
    · replace h := ift h hc14
      cases h
      exact k0 _ _ _ hH (lv_sub hl [0, 1] rfl)
    · replace h := iff' h hc14
      refine lv_ldc2 (v := 31) hx hb hown (hts _ u_423) dX11_digest_105 ?_
      refine lv_lload_n hx hb dX11_digest_108 rfl (lv_at hl 1 rfl) ?_
      refine lv_lmul hx hb dX11_digest_109 ?_
      refine lv_aload_n hx hb dX11_digest_110 rfl (lv_at hl 0 rfl) ?_
      obtain ⟨x15, hx15, h⟩ := bnd h
      refine gf_X11_25 X hH hx15 dX11_digest_111 ?_
      refine lv_iload_n hx hb dX11_digest_114 rfl (lv_at hl 2 rfl) ?_
      obtain ⟨x16, hx16, h⟩ := bnd h
      refine w_aP X hH hx16 (by decide) (k := 5) rfl dX11_digest_115 ?_
      obtain ⟨x17, hx17, h⟩ := bnd h
      refine gf_X11_126 X hH hx17 dX11_digest_116 ?_
      refine lv_i2l hx hb dX11_digest_119 rfl ?_
      refine lv_ladd hx hb dX11_digest_120 ?_
      refine lv_lstore_n (lv' := [(1, .long (((31 : Int64) * v1) + x17.toInt64)), (0, .ref v0), (3, .int v3)]) hx hb dX11_digest_121 rfl hl (by decide) rfl (fun ls hl => ?_)
      refine lv_iinc (v := (v3 + 1)) (lv' := [(3, .int (v3 + 1)), (1, .long (((31 : Int64) * v1) + x17.toInt64)), (0, .ref v0)]) hx hb dX11_digest_122 hl (k := 2) rfl rfl (by decide) rfl (fun ls hl => ?_)
      refine lv_goto (tgt := 100) hx hb dX11_digest_125 (by decide) ?_
      exact ih _ _ _ _ _ h k0 _ _ _ hH (lv_sub hl [2, 1, 0] rfl)
set_option maxHeartbeats 4000000 in
set_option maxRecDepth 100000 in
theorem w_X11_digest_130 {p : Program} {e : Env} {R : Room} {s : State} {m : MethodId} {args : Array Value} {below : List Frame} {meth : Method} {c : Code} {cells slots : Nat} {Q : State → Prop} {G : CG} (l : Launch) (X : Cx p s m args meth c cX11_digest 5 RX11 G) (hRL : RmL R 6 104) (hcs : cells ≤ R.cells ∧ slots ≤ R.slots) : ∀ (n : Nat) (v0 : Nat) (v1 : Int64) (v3 : Int32) (μ : Mm) (x : Int64), lp_X11_digest_130 n v0 v1 v3 μ = some x → (∀ (H : Heap) (locs : List Loc) (ls : Array Slot), HS G s μ H locs → lv_has ls 5 [(0, .ref v0), (1, .long x)] → W p l e R s m args below meth c H locs cells slots Q (F0 m 153 ls [])) → ∀ (H : Heap) (locs : List Loc) (ls : Array Slot), HS G s μ H locs → lv_has ls 5 [(0, .ref v0), (1, .long v1), (3, .int v3)] → W p l e R s m args below meth c H locs cells slots Q (F0 m 130 ls []) := by
  have hx := X.1
  have hb := X.2.1
  have hown := X.2.2.2.1
  have hts := X.2.2.2.2.1
  intro n
  induction n with
  | zero =>
    intro v0 v1 v3 μ x h
    rw [lp_X11_digest_130] at h
    cases h
  | succ n ih =>
    intro v0 v1 v3 μ x h k0 H locs ls hH hl
    rw [lp_X11_digest_130] at h
    refine lv_iload_n hx hb dX11_digest_130 rfl (lv_at hl 2 rfl) ?_
    refine lv_bipush (v := 6) hx hb dX11_digest_131 (by decide) ?_
    refine lv_icmp_ge (tgt := 153) hx hb dX11_digest_133 (by decide) (fun hc19 => ?_) (fun hc19 => ?_)
    · replace h := ift h hc19
      cases h
      exact k0 _ _ _ hH (lv_sub hl [0, 1] rfl)
    · replace h := iff' h hc19
      refine lv_aload_n hx hb dX11_digest_136 rfl (lv_at hl 0 rfl) ?_
      obtain ⟨x20, hx20, h⟩ := bnd h
      refine gf_X11_11 X hH hx20 dX11_digest_137 ?_
      refine lv_iload_n hx hb dX11_digest_140 rfl (lv_at hl 2 rfl) ?_
      obtain ⟨x21, hx21, h⟩ := bnd h
      refine w_aP X hH hx21 (by decide) (k := 5) rfl dX11_digest_141 ?_
      refine lv_lload_n hx hb dX11_digest_142 rfl (lv_at hl 1 rfl) ?_
      obtain ⟨x22, hx22, h⟩ := bnd h
      refine iv_X11_351 l X hH hRL (by decide) hx22 hl.1 (Nat.le_of_ble_eq_true rfl) dX11_digest_143 hcs (fun H locs hH => ?_)
      refine lv_lstore_n (lv' := [(1, .long x22), (0, .ref v0), (3, .int v3)]) hx hb dX11_digest_146 rfl hl (by decide) rfl (fun ls hl => ?_)
      refine lv_iinc (v := (v3 + 1)) (lv' := [(3, .int (v3 + 1)), (1, .long x22), (0, .ref v0)]) hx hb dX11_digest_147 hl (k := 2) rfl rfl (by decide) rfl (fun ls hl => ?_)
      refine lv_goto (tgt := 130) hx hb dX11_digest_150 (by decide) ?_
      exact ih _ _ _ _ _ h k0 _ _ _ hH (lv_sub hl [2, 1, 0] rfl)
set_option maxHeartbeats 4000000 in
set_option maxRecDepth 100000 in
theorem w_X11_digest_155 {p : Program} {e : Env} {R : Room} {s : State} {m : MethodId} {args : Array Value} {below : List Frame} {meth : Method} {c : Code} {cells slots : Nat} {Q : State → Prop} {G : CG} (l : Launch) (X : Cx p s m args meth c cX11_digest 5 RX11 G) (hRL : RmL R 6 104) (hcs : cells ≤ R.cells ∧ slots ≤ R.slots) : ∀ (n : Nat) (v0 : Nat) (v1 : Int64) (v3 : Int32) (μ : Mm) (x : Int64), lp_X11_digest_155 n v0 v1 v3 μ = some x → (∀ (H : Heap) (locs : List Loc) (ls : Array Slot), HS G s μ H locs → lv_has ls 5 [(1, .long x)] → W p l e R s m args below meth c H locs cells slots Q (F0 m 177 ls [])) → ∀ (H : Heap) (locs : List Loc) (ls : Array Slot), HS G s μ H locs → lv_has ls 5 [(0, .ref v0), (1, .long v1), (3, .int v3)] → W p l e R s m args below meth c H locs cells slots Q (F0 m 155 ls []) := by
  have hx := X.1
  have hb := X.2.1
  have hown := X.2.2.2.1
  have hts := X.2.2.2.2.1
  intro n
  induction n with
  | zero =>
    intro v0 v1 v3 μ x h
    rw [lp_X11_digest_155] at h
    cases h
  | succ n ih =>
    intro v0 v1 v3 μ x h k0 H locs ls hH hl
    rw [lp_X11_digest_155] at h
    refine lv_iload_n hx hb dX11_digest_155 rfl (lv_at hl 2 rfl) ?_
    refine lv_iconst (v := 4) hx hb dX11_digest_156 (by decide) ?_
    refine lv_icmp_ge (tgt := 177) hx hb dX11_digest_157 (by decide) (fun hc24 => ?_) (fun hc24 => ?_)
    · replace h := ift h hc24
      cases h
      exact k0 _ _ _ hH (lv_sub hl [1] rfl)
    · replace h := iff' h hc24
      refine lv_aload_n hx hb dX11_digest_160 rfl (lv_at hl 0 rfl) ?_
      obtain ⟨x25, hx25, h⟩ := bnd h
      refine gf_X11_15 X hH hx25 dX11_digest_161 ?_
      refine lv_iload_n hx hb dX11_digest_164 rfl (lv_at hl 2 rfl) ?_
      obtain ⟨x26, hx26, h⟩ := bnd h
      refine w_aP X hH hx26 (by decide) (k := 5) rfl dX11_digest_165 ?_
      refine lv_lload_n hx hb dX11_digest_166 rfl (lv_at hl 1 rfl) ?_
      obtain ⟨x27, hx27, h⟩ := bnd h
      refine iv_X11_351 l X hH hRL (by decide) hx27 hl.1 (Nat.le_of_ble_eq_true rfl) dX11_digest_167 hcs (fun H locs hH => ?_)
      refine lv_lstore_n (lv' := [(1, .long x27), (0, .ref v0), (3, .int v3)]) hx hb dX11_digest_170 rfl hl (by decide) rfl (fun ls hl => ?_)
      refine lv_iinc (v := (v3 + 1)) (lv' := [(3, .int (v3 + 1)), (1, .long x27), (0, .ref v0)]) hx hb dX11_digest_171 hl (k := 2) rfl rfl (by decide) rfl (fun ls hl => ?_)
      refine lv_goto (tgt := 155) hx hb dX11_digest_174 (by decide) ?_
      exact ih _ _ _ _ _ h k0 _ _ _ hH (lv_sub hl [2, 1, 0] rfl)
theorem t_X11_digest {μ : Mm} {a0 : Nat} {x : Int64} (h : f_X11_digest μ a0 = some x) : tg μ a0 = 12 := by
  unfold f_X11_digest at h
  exact (gsn h).1
set_option maxHeartbeats 4000000 in
set_option maxRecDepth 100000 in
theorem c_X11_digest (l : Launch) (G : CG) (μ : Mm) (a0 : Nat) (x : Int64) (h : f_X11_digest μ a0 = some x) : Met l yX11_digest (.code yX11_digest cX11_digest 5 (some .long) :: UW) (rmk 6 104 0 0) (PC G [.ref a0] μ) (QL G x μ) 0 0 (fA G) := by
  refine Met.ofW (cc := cX11_digest) (maxL := 5) (ret := (some .long)) (by decide) rfl ?_
  intro p e s m args below meth c s₁ B hml hv
  obtain ⟨X, hH, hr, rfl, hnm⟩ := cx_in B hml hv
  have X : Cx p s m _ meth c cX11_digest 5 RX11 G := X
  have hx := X.1
  have hb := X.2.1
  have hown := X.2.2.2.1
  have hts := X.2.2.2.2.1
  have hRL : RmL (rmk 6 104 0 0) 6 104 := ⟨Nat.le_refl _, Nat.le_refl _⟩
  have hcs : 0 ≤ (rmk 0 0 0 0).cells ∧ 0 ≤ (rmk 0 0 0 0).slots := ⟨Nat.zero_le _, Nat.zero_le _⟩
  refine ls_in (Nat.le_of_ble_eq_true rfl) (fun ls hl => ?_)
  have hl : lv_has ls 5 [(0, .ref a0)] := hl
  unfold f_X11_digest at h
  obtain ⟨htg, h⟩ := gsn h
  refine lv_ldc2 (v := 17) hx hb hown (hts _ u_422) dX11_digest_0 ?_
  refine lv_lstore_n (lv' := [(1, .long (17 : Int64)), (0, .ref a0)]) hx hb dX11_digest_3 rfl hl (by decide) rfl (fun ls hl => ?_)
  refine lv_iconst (v := 0) hx hb dX11_digest_4 (by decide) ?_
  refine lv_istore_n (lv' := [(3, .int (0 : Int32)), (1, .long (17 : Int64)), (0, .ref a0)]) hx hb dX11_digest_5 rfl hl (by decide) rfl (fun ls hl => ?_)
  obtain ⟨x3, hx3, hhx3⟩ := bnd h
  clear h
  refine w_X11_digest_6 l X hRL hcs BIG a0 (17 : Int64) (0 : Int32) μ x3 hx3 (fun H locs ls hH hl => ?_) _ _ _ hH (lv_sub hl [2, 1, 0] rfl)
  · have h := hhx3
    clear hhx3
    refine lv_ldc2 (v := 31) hx hb hown (hts _ u_423) dX11_digest_31 ?_
    refine lv_lload_n hx hb dX11_digest_34 rfl (lv_at hl 1 rfl) ?_
    refine lv_lmul hx hb dX11_digest_35 ?_
    refine lv_aload_n hx hb dX11_digest_36 rfl (lv_at hl 0 rfl) ?_
    obtain ⟨x4, hx4, h⟩ := bnd h
    refine gf_X11_21 X hH hx4 dX11_digest_37 ?_
    obtain ⟨x5, hx5, h⟩ := bnd h
    refine gf_X11_230 X hH hx5 dX11_digest_40 ?_
    refine lv_i2l hx hb dX11_digest_43 rfl ?_
    refine lv_ladd hx hb dX11_digest_44 ?_
    refine lv_lstore_n (lv' := [(1, .long (((31 : Int64) * x3) + x5.toInt64)), (0, .ref a0)]) hx hb dX11_digest_45 rfl hl (by decide) rfl (fun ls hl => ?_)
    refine lv_iconst (v := 0) hx hb dX11_digest_46 (by decide) ?_
    refine lv_istore_n (lv' := [(3, .int (0 : Int32)), (1, .long (((31 : Int64) * x3) + x5.toInt64)), (0, .ref a0)]) hx hb dX11_digest_47 rfl hl (by decide) rfl (fun ls hl => ?_)
    obtain ⟨x13, hx13, hhx13⟩ := bnd h
    clear h
    refine w_X11_digest_48 l X hRL hcs BIG a0 (((31 : Int64) * x3) + x5.toInt64) (0 : Int32) μ x13 hx13 (fun H locs ls hH hl => ?_) _ _ _ hH (lv_sub hl [2, 1, 0] rfl)
    · have h := hhx13
      clear hhx13
      refine lv_iconst (v := 0) hx hb dX11_digest_98 (by decide) ?_
      refine lv_istore_n (lv' := [(3, .int (0 : Int32)), (0, .ref a0), (1, .long x13)]) hx hb dX11_digest_99 rfl hl (by decide) rfl (fun ls hl => ?_)
      obtain ⟨x18, hx18, hhx18⟩ := bnd h
      clear h
      refine w_X11_digest_100 l X hRL hcs BIG a0 x13 (0 : Int32) μ x18 hx18 (fun H locs ls hH hl => ?_) _ _ _ hH (lv_sub hl [1, 2, 0] rfl)
      · have h := hhx18
        clear hhx18
        refine lv_iconst (v := 0) hx hb dX11_digest_128 (by decide) ?_
        refine lv_istore_n (lv' := [(3, .int (0 : Int32)), (0, .ref a0), (1, .long x18)]) hx hb dX11_digest_129 rfl hl (by decide) rfl (fun ls hl => ?_)
        obtain ⟨x23, hx23, hhx23⟩ := bnd h
        clear h
        refine w_X11_digest_130 l X hRL hcs BIG a0 x18 (0 : Int32) μ x23 hx23 (fun H locs ls hH hl => ?_) _ _ _ hH (lv_sub hl [1, 2, 0] rfl)
        · have h := hhx23
          clear hhx23
          refine lv_iconst (v := 0) hx hb dX11_digest_153 (by decide) ?_
          refine lv_istore_n (lv' := [(3, .int (0 : Int32)), (0, .ref a0), (1, .long x23)]) hx hb dX11_digest_154 rfl hl (by decide) rfl (fun ls hl => ?_)
          obtain ⟨x28, hx28, hhx28⟩ := bnd h
          clear h
          refine w_X11_digest_155 l X hRL hcs BIG a0 x23 (0 : Int32) μ x28 hx28 (fun H locs ls hH hl => ?_) _ _ _ hH (lv_sub hl [1, 2, 0] rfl)
          · have h := hhx28
            clear hhx28
            refine lv_lload_n hx hb dX11_digest_177 rfl (lv_at hl 0 rfl) ?_
            exact eLp X hH h hr dX11_digest_178
set_option maxHeartbeats 4000000 in
set_option maxRecDepth 100000 in
theorem c_L_cell (l : Launch) (G : CG) (μ : Mm) (p0 : Nat) (p1 : Int32) (x : Int32) (h : f_L_cell (gS G) μ p0 p1 = some x) : Met l yL_cell (.code yL_cell cL_cell 2 (some .int) :: UW) (rmk 1 0 0 0) (PC G [.ref p0, .int p1] μ) (QI G x μ) 0 0 (fA G) := by
  refine Met.ofW (cc := cL_cell) (maxL := 2) (ret := (some .int)) (by decide) rfl ?_
  intro p e s m args below meth c s₁ B hml hv
  obtain ⟨X, hH, hr, rfl, hnm⟩ := cx_in B hml hv
  have X : Cx p s m _ meth c cL_cell 2 RL G := X
  have hx := X.1
  have hb := X.2.1
  have hown := X.2.2.2.1
  have hts := X.2.2.2.2.1
  have hRL : RmL (rmk 1 0 0 0) 1 0 := ⟨Nat.le_refl _, Nat.le_refl _⟩
  have hcs : 0 ≤ (rmk 0 0 0 0).cells ∧ 0 ≤ (rmk 0 0 0 0).slots := ⟨Nat.zero_le _, Nat.zero_le _⟩
  refine ls_in (Nat.le_of_ble_eq_true rfl) (fun ls hl => ?_)
  have hl : lv_has ls 2 [(0, .ref p0), (1, .int p1)] := hl
  unfold f_L_cell at h
  refine lv_iload_n hx hb dL_cell_0 rfl (lv_at hl 1 rfl) ?_
  refine lv_aload_n hx hb dL_cell_1 rfl (lv_at hl 0 rfl) ?_
  obtain ⟨x1, hx1, h⟩ := bnd h
  refine w_scZ X hH hx1 dL_cell_2 ?_
  refine lv_icmp_ge (tgt := 15) hx hb dL_cell_3 (by decide) (fun hc2 => ?_) (fun hc2 => ?_)
  · replace h := ift h hc2
    refine lv_bipush (v := 61) hx hb dL_cell_15 (by decide) ?_
    refine lv_iload_n hx hb dL_cell_17 rfl (lv_at hl 1 rfl) ?_
    refine lv_imul hx hb dL_cell_18 ?_
    refine lv_bipush (v := 7) hx hb dL_cell_19 (by decide) ?_
    refine lv_iadd hx hb dL_cell_21 ?_
    refine lv_iload_n hx hb dL_cell_22 rfl (lv_at hl 1 rfl) ?_
    refine lv_iconst (v := 3) hx hb dL_cell_23 (by decide) ?_
    refine lv_iadd hx hb dL_cell_24 ?_
    refine lv_imul hx hb dL_cell_25 ?_
    exact eIp X hH h hr dL_cell_26
  · replace h := iff' h hc2
    refine lv_aload_n hx hb dL_cell_6 rfl (lv_at hl 0 rfl) ?_
    refine lv_iload_n hx hb dL_cell_7 rfl (lv_at hl 1 rfl) ?_
    obtain ⟨x3, hx3, h⟩ := bnd h
    refine w_scI X hH hx3 dL_cell_8 ?_
    refine lv_ldc (v := 268435455) hx hb hown (hts _ u_462) dL_cell_9 ?_
    refine lv_iand hx hb dL_cell_11 ?_
    refine lv_goto (tgt := 26) hx hb dL_cell_12 (by decide) ?_
    exact eIp X hH h hr dL_cell_26
set_option maxHeartbeats 1000000 in
theorem iv_L_8 {p : Program} {e : Env} {R : Room} {s : State} {m : MethodId} {args : Array Value} {below : List Frame} {meth : Method} {c : Code} {H : Heap} {locs : List Loc} {cells slots : Nat} {Q : State → Prop} {cc : ByteArray} {pc : Nat} {ls : Array Slot} {rest : List Value} {nL : Nat} {G : CG} {μ : Mm} {a : Nat} {q0 : Int32} {q1 : Int32} {q2 : Int32} {x : Int32 × Mm} {k k2 : Nat} (l : Launch) (X : Cx p s m args meth c cc nL RL G) (hH : HS G s μ H locs) (hRL : RmL R k k2) (hk : 4 + 1 ≤ k ∧ 91 ≤ k2) (h : f_X11_put μ a q0 q1 q2 = some x) (hls : ls.size = nL) (hroom : (rest.map fun v => v.category).sum ≤ 8) (hdg : decode cc pc = .ok (.invokevirtual 8, 3)) (hcs : cells + 0 ≤ R.cells ∧ slots + 0 ≤ R.slots) (kk : ∀ (H1 : Heap) (locs1 : List Loc), HS G s x.2 H1 locs1 → W p l e R s m args below meth c H1 locs1 cells slots Q (F0 m (pc + 3) ls (.int x.1 :: rest))) : W p l e R s m args below meth c H locs cells slots Q (F0 m pc ls (.int q2 :: .int q1 :: .int q0 :: .ref a :: rest)) := by
  refine kI hH (rV (As := [.int q0, .int q1, .int q2]) (rest := rest) X hH (t_X11_put h) vc_11 (c_X11_put l G μ a q0 q1 q2 x h) (List.forall_mem_cons.mpr ⟨u_484, (List.forall_mem_cons.mpr ⟨u_485, (List.forall_mem_cons.mpr ⟨u_486, (List.forall_mem_cons.mpr ⟨u_21, (fun _ h9 => absurd h9 List.not_mem_nil)⟩)⟩)⟩)⟩) u_487 (rmo hRL (Nat.le_trans (by decide) hk.1) (Nat.le_trans (by decide) hk.2)) ddV_X11_put rfl hls rfl hroom hdg hcs) kk
set_option maxHeartbeats 4000000 in
set_option maxRecDepth 100000 in
theorem c_L_put (l : Launch) (G : CG) (μ : Mm) (p0 : Nat) (p1 : Int32) (p2 : Int32) (x : Int32 × Mm) (h : f_L_put μ p0 p1 p2 = some x) : Met l yL_put (.code yL_put cL_put 3 (some .int) :: UW) (rmk 5 91 0 0) (PC G [.ref p0, .int p1, .int p2] μ) (QI G x.1 x.2) 0 0 (fA G) := by
  refine Met.ofW (cc := cL_put) (maxL := 3) (ret := (some .int)) (by decide) rfl ?_
  intro p e s m args below meth c s₁ B hml hv
  obtain ⟨X, hH, hr, rfl, hnm⟩ := cx_in B hml hv
  have X : Cx p s m _ meth c cL_put 3 RL G := X
  have hx := X.1
  have hb := X.2.1
  have hown := X.2.2.2.1
  have hts := X.2.2.2.2.1
  have hRL : RmL (rmk 5 91 0 0) 5 91 := ⟨Nat.le_refl _, Nat.le_refl _⟩
  have hcs : 0 ≤ (rmk 0 0 0 0).cells ∧ 0 ≤ (rmk 0 0 0 0).slots := ⟨Nat.zero_le _, Nat.zero_le _⟩
  refine ls_in (Nat.le_of_ble_eq_true rfl) (fun ls hl => ?_)
  have hl : lv_has ls 3 [(0, .ref p0), (1, .int p1), (2, .int p2)] := hl
  unfold f_L_put at h
  refine lv_iload_n hx hb dL_put_0 rfl (lv_at hl 1 rfl) ?_
  refine lv_if_lt (tgt := 23) hx hb dL_put_1 (by decide) (fun hc1 => ?_) (fun hc1 => ?_)
  · replace h := ift h hc1
    refine lv_sipush (v := -1000) hx hb dL_put_23 (by decide) ?_
    exact eI X hH h hr dL_put_26 (Nat.le_of_ble_eq_true rfl) (Nat.le_of_ble_eq_true rfl)
  · replace h := iff' h hc1
    refine lv_aload_n hx hb dL_put_4 rfl (lv_at hl 0 rfl) ?_
    refine lv_iconst (v := 3) hx hb dL_put_5 (by decide) ?_
    refine lv_iload_n hx hb dL_put_6 rfl (lv_at hl 1 rfl) ?_
    refine lv_iload_n hx hb dL_put_7 rfl (lv_at hl 2 rfl) ?_
    obtain ⟨x2, hx2, h⟩ := bnd h
    refine iv_L_8 l X hH hRL (by decide) hx2 hl.1 (Nat.le_of_ble_eq_true rfl) dL_put_8 hcs (fun H locs hH => ?_)
    refine lv_sipush (v := 1032) hx hb dL_put_11 (by decide) ?_
    refine lv_icmp_ne (tgt := 23) hx hb dL_put_14 (by decide) (fun hc3 => ?_) (fun hc3 => ?_)
    · replace h := iff' h hc3
      refine lv_sipush (v := -1000) hx hb dL_put_23 (by decide) ?_
      exact eI X hH h hr dL_put_26 (Nat.le_of_ble_eq_true rfl) (Nat.le_of_ble_eq_true rfl)
    · replace h := ift h hc3
      refine lv_iload_n hx hb dL_put_17 rfl (lv_at hl 1 rfl) ?_
      refine lv_iconst (v := 1) hx hb dL_put_18 (by decide) ?_
      refine lv_iadd hx hb dL_put_19 ?_
      refine lv_goto (tgt := 26) hx hb dL_put_20 (by decide) ?_
      exact eI X hH h hr dL_put_26 (Nat.le_of_ble_eq_true rfl) (Nat.le_of_ble_eq_true rfl)
set_option maxHeartbeats 4000000 in
set_option maxRecDepth 100000 in
theorem w_L_rent_4 {p : Program} {e : Env} {R : Room} {s : State} {m : MethodId} {args : Array Value} {below : List Frame} {meth : Method} {c : Code} {cells slots : Nat} {Q : State → Prop} {G : CG} (l : Launch) (X : Cx p s m args meth c cL_rent 4 RL G) (hRL : RmL R 1 0) (hcs : cells ≤ R.cells ∧ slots ≤ R.slots) : ∀ (n : Nat) (v0 : Nat) (v1 : Int32) (v2 : Int32) (v3 : Int32) (μ : Mm) (x : Int32), lp_L_rent_4 n v0 v1 v2 v3 μ = some x → (∀ (H : Heap) (locs : List Loc) (ls : Array Slot), HS G s μ H locs → lv_has ls 4 [(2, .int x)] → W p l e R s m args below meth c H locs cells slots Q (F0 m 36 ls [])) → ∀ (H : Heap) (locs : List Loc) (ls : Array Slot), HS G s μ H locs → lv_has ls 4 [(0, .ref v0), (1, .int v1), (2, .int v2), (3, .int v3)] → W p l e R s m args below meth c H locs cells slots Q (F0 m 4 ls []) := by
  have hx := X.1
  have hb := X.2.1
  have hown := X.2.2.2.1
  have hts := X.2.2.2.2.1
  intro n
  induction n with
  | zero =>
    intro v0 v1 v2 v3 μ x h
    rw [lp_L_rent_4] at h
    cases h
  | succ n ih =>
    intro v0 v1 v2 v3 μ x h k0 H locs ls hH hl
    rw [lp_L_rent_4] at h
    refine lv_iload_n hx hb dL_rent_4 rfl (lv_at hl 3 rfl) ?_
    refine lv_aload_n hx hb dL_rent_5 rfl (lv_at hl 0 rfl) ?_
    refine lv_bipush (v := 14) hx hb dL_rent_6 (by decide) ?_
    obtain ⟨x1, hx1, h⟩ := bnd h
    refine w_aI X hH hx1 dL_rent_8 ?_
    refine lv_icmp_ge (tgt := 36) hx hb dL_rent_9 (by decide) (fun hc2 => ?_) (fun hc2 => ?_)
    · replace h := ift h hc2
      cases h
      exact k0 _ _ _ hH (lv_sub hl [2] rfl)
    · replace h := iff' h hc2
      refine lv_iload_n hx hb dL_rent_12 rfl (lv_at hl 2 rfl) ?_
      refine lv_aload_n hx hb dL_rent_13 rfl (lv_at hl 0 rfl) ?_
      refine lv_bipush (v := 15) hx hb dL_rent_14 (by decide) ?_
      refine lv_iload_n hx hb dL_rent_16 rfl (lv_at hl 3 rfl) ?_
      refine lv_iadd hx hb dL_rent_17 ?_
      obtain ⟨x3, hx3, h⟩ := bnd h
      refine w_aI X hH hx3 dL_rent_18 ?_
      refine lv_iload_n hx hb dL_rent_19 rfl (lv_at hl 1 rfl) ?_
      refine lv_icmp_ne (tgt := 27) hx hb dL_rent_20 (by decide) (fun hc4 => ?_) (fun hc4 => ?_)
      · replace h := iff' h hc4
        refine lv_iconst (v := 0) hx hb dL_rent_27 (by decide) ?_
        refine lv_ior hx hb dL_rent_28 ?_
        refine lv_istore_n (lv' := [(2, .int (v2 ||| (0 : Int32))), (0, .ref v0), (1, .int v1), (3, .int v3)]) hx hb dL_rent_29 rfl hl (by decide) rfl (fun ls hl => ?_)
        refine lv_iinc (v := (v3 + 1)) (lv' := [(3, .int (v3 + 1)), (2, .int (v2 ||| (0 : Int32))), (0, .ref v0), (1, .int v1)]) hx hb dL_rent_30 hl (k := 3) rfl rfl (by decide) rfl (fun ls hl => ?_)
        refine lv_goto (tgt := 4) hx hb dL_rent_33 (by decide) ?_
        exact ih _ _ _ _ _ _ h k0 _ _ _ hH (lv_sub hl [2, 3, 1, 0] rfl)
      · replace h := ift h hc4
        refine lv_iconst (v := 1) hx hb dL_rent_23 (by decide) ?_
        refine lv_goto (tgt := 28) hx hb dL_rent_24 (by decide) ?_
        refine lv_ior hx hb dL_rent_28 ?_
        refine lv_istore_n (lv' := [(2, .int (v2 ||| (1 : Int32))), (0, .ref v0), (1, .int v1), (3, .int v3)]) hx hb dL_rent_29 rfl hl (by decide) rfl (fun ls hl => ?_)
        refine lv_iinc (v := (v3 + 1)) (lv' := [(3, .int (v3 + 1)), (2, .int (v2 ||| (1 : Int32))), (0, .ref v0), (1, .int v1)]) hx hb dL_rent_30 hl (k := 3) rfl rfl (by decide) rfl (fun ls hl => ?_)
        refine lv_goto (tgt := 4) hx hb dL_rent_33 (by decide) ?_
        exact ih _ _ _ _ _ _ h k0 _ _ _ hH (lv_sub hl [2, 3, 1, 0] rfl)
set_option maxHeartbeats 4000000 in
set_option maxRecDepth 100000 in
theorem c_L_rent (l : Launch) (G : CG) (μ : Mm) (p0 : Nat) (p1 : Int32) (x : Int32) (h : f_L_rent μ p0 p1 = some x) : Met l yL_rent (.code yL_rent cL_rent 4 (some .boolean) :: UW) (rmk 1 0 0 0) (PC G [.ref p0, .int p1] μ) (QI G x μ) 0 0 (fA G) := by
  refine Met.ofW (cc := cL_rent) (maxL := 4) (ret := (some .boolean)) (by decide) rfl ?_
  intro p e s m args below meth c s₁ B hml hv
  obtain ⟨X, hH, hr, rfl, hnm⟩ := cx_in B hml hv
  have X : Cx p s m _ meth c cL_rent 4 RL G := X
  have hx := X.1
  have hb := X.2.1
  have hown := X.2.2.2.1
  have hts := X.2.2.2.2.1
  have hRL : RmL (rmk 1 0 0 0) 1 0 := ⟨Nat.le_refl _, Nat.le_refl _⟩
  have hcs : 0 ≤ (rmk 0 0 0 0).cells ∧ 0 ≤ (rmk 0 0 0 0).slots := ⟨Nat.zero_le _, Nat.zero_le _⟩
  refine ls_in (Nat.le_of_ble_eq_true rfl) (fun ls hl => ?_)
  have hl : lv_has ls 4 [(0, .ref p0), (1, .int p1)] := hl
  unfold f_L_rent at h
  refine lv_iconst (v := 0) hx hb dL_rent_0 (by decide) ?_
  refine lv_istore_n (lv' := [(2, .int (0 : Int32)), (0, .ref p0), (1, .int p1)]) hx hb dL_rent_1 rfl hl (by decide) rfl (fun ls hl => ?_)
  refine lv_iconst (v := 0) hx hb dL_rent_2 (by decide) ?_
  refine lv_istore_n (lv' := [(3, .int (0 : Int32)), (2, .int (0 : Int32)), (0, .ref p0), (1, .int p1)]) hx hb dL_rent_3 rfl hl (by decide) rfl (fun ls hl => ?_)
  obtain ⟨x5, hx5, hhx5⟩ := bnd h
  clear h
  refine w_L_rent_4 l X hRL hcs BIG p0 p1 (0 : Int32) (0 : Int32) μ x5 hx5 (fun H locs ls hH hl => ?_) _ _ _ hH (lv_sub hl [2, 3, 1, 0] rfl)
  · have h := hhx5
    clear hhx5
    refine lv_iload_n hx hb dL_rent_36 rfl (lv_at hl 0 rfl) ?_
    obtain ⟨_, hzb, h⟩ := bnd h
    exact eZp X hH (gsm hzb).1 h hr dL_rent_37
set_option maxHeartbeats 1000000 in
theorem iv_L_14 {p : Program} {e : Env} {R : Room} {s : State} {m : MethodId} {args : Array Value} {below : List Frame} {meth : Method} {c : Code} {H : Heap} {locs : List Loc} {cells slots : Nat} {Q : State → Prop} {cc : ByteArray} {pc : Nat} {ls : Array Slot} {rest : List Value} {nL : Nat} {G : CG} {μ : Mm} {q0 : Nat} {q1 : Int32} {x : Int32} {k k2 : Nat} (l : Launch) (X : Cx p s m args meth c cc nL RL G) (hH : HS G s μ H locs) (hRL : RmL R k k2) (hk : 1 + 1 ≤ k ∧ 21 ≤ k2) (h : f_L_cell (gS G) μ q0 q1 = some x) (hls : ls.size = nL) (hroom : (rest.map fun v => v.category).sum ≤ 8) (hdg : decode cc pc = .ok (.invokestatic 14, 3)) (hcs : cells + 0 ≤ R.cells ∧ slots + 0 ≤ R.slots) (kk : ∀ (H1 : Heap) (locs1 : List Loc), HS G s μ H1 locs1 → W p l e R s m args below meth c H1 locs1 cells slots Q (F0 m (pc + 3) ls (.int x :: rest))) : W p l e R s m args below meth c H locs cells slots Q (F0 m pc ls (.int q1 :: .ref q0 :: rest)) := by
  refine kI hH (rS (As := [.ref q0, .int q1]) (rest := rest) X hH (c_L_cell l G μ q0 q1 x h) (List.forall_mem_cons.mpr ⟨u_459, (List.forall_mem_cons.mpr ⟨u_460, (List.forall_mem_cons.mpr ⟨u_20, (fun _ h9 => absurd h9 List.not_mem_nil)⟩)⟩)⟩) u_461 (rmo hRL (Nat.le_trans (by decide) hk.1) (Nat.le_trans (by decide) hk.2)) ddS_L_cell rfl hls rfl hroom hdg hcs) kk
set_option maxHeartbeats 1000000 in
theorem iv_L_20 {p : Program} {e : Env} {R : Room} {s : State} {m : MethodId} {args : Array Value} {below : List Frame} {meth : Method} {c : Code} {H : Heap} {locs : List Loc} {cells slots : Nat} {Q : State → Prop} {cc : ByteArray} {pc : Nat} {ls : Array Slot} {rest : List Value} {nL : Nat} {G : CG} {μ : Mm} {q0 : Nat} {q1 : Int32} {x : Int32} {k k2 : Nat} (l : Launch) (X : Cx p s m args meth c cc nL RL G) (hH : HS G s μ H locs) (hRL : RmL R k k2) (hk : 1 + 1 ≤ k ∧ 23 ≤ k2) (h : f_L_rent μ q0 q1 = some x) (hls : ls.size = nL) (hroom : (rest.map fun v => v.category).sum ≤ 8) (hdg : decode cc pc = .ok (.invokestatic 20, 3)) (hcs : cells + 0 ≤ R.cells ∧ slots + 0 ≤ R.slots) (kk : ∀ (H1 : Heap) (locs1 : List Loc), HS G s μ H1 locs1 → W p l e R s m args below meth c H1 locs1 cells slots Q (F0 m (pc + 3) ls (.int x :: rest))) : W p l e R s m args below meth c H locs cells slots Q (F0 m pc ls (.int q1 :: .ref q0 :: rest)) := by
  refine kI hH (rS (As := [.ref q0, .int q1]) (rest := rest) X hH (c_L_rent l G μ q0 q1 x h) (List.forall_mem_cons.mpr ⟨u_466, (List.forall_mem_cons.mpr ⟨u_467, (List.forall_mem_cons.mpr ⟨u_20, (fun _ h9 => absurd h9 List.not_mem_nil)⟩)⟩)⟩) u_468 (rmo hRL (Nat.le_trans (by decide) hk.1) (Nat.le_trans (by decide) hk.2)) ddS_L_rent rfl hls rfl hroom hdg hcs) kk
set_option maxHeartbeats 4000000 in
set_option maxRecDepth 100000 in
theorem w_L_numbers_3 {p : Program} {e : Env} {R : Room} {s : State} {m : MethodId} {args : Array Value} {below : List Frame} {meth : Method} {c : Code} {cells slots : Nat} {Q : State → Prop} {G : CG} (l : Launch) (X : Cx p s m args meth c cL_numbers 7 RL G) (hRL : RmL R 2 23) (hcs : cells ≤ R.cells ∧ slots ≤ R.slots) : ∀ (n : Nat) (v0 : Nat) (v1 : Int32) (v2 : Int32) (v3 : Int32) (v4 : Nat) (v5 : Int32) (μ : Mm) (x : Mm), lp_L_numbers_3 (gS G) n v0 v1 v2 v3 v4 v5 μ = some x → (∀ (H : Heap) (locs : List Loc) (ls : Array Slot), HS G s x H locs → lv_has ls 7 [(0, .ref v0), (1, .int v1), (2, .int v2), (3, .int v3), (4, .ref v4)] → W p l e R s m args below meth c H locs cells slots Q (F0 m 22 ls [])) → ∀ (H : Heap) (locs : List Loc) (ls : Array Slot), HS G s μ H locs → lv_has ls 7 [(0, .ref v0), (1, .int v1), (2, .int v2), (3, .int v3), (4, .ref v4), (5, .int v5)] → W p l e R s m args below meth c H locs cells slots Q (F0 m 3 ls []) := by
  have hx := X.1
  have hb := X.2.1
  have hown := X.2.2.2.1
  have hts := X.2.2.2.2.1
  intro n
  induction n with
  | zero =>
    intro v0 v1 v2 v3 v4 v5 μ x h
    rw [lp_L_numbers_3] at h
    cases h
  | succ n ih =>
    intro v0 v1 v2 v3 v4 v5 μ x h k0 H locs ls hH hl
    rw [lp_L_numbers_3] at h
    refine lv_iload hx hb dL_numbers_3 (lv_at hl 5 rfl) ?_
    refine lv_bipush (v := 24) hx hb dL_numbers_5 (by decide) ?_
    refine lv_icmp_ge (tgt := 22) hx hb dL_numbers_7 (by decide) (fun hc1 => ?_) (fun hc1 => ?_)
    · replace h := ift h hc1
      cases h
      exact k0 _ _ _ hH (lv_sub hl [0, 1, 2, 3, 4] rfl)
    · replace h := iff' h hc1
      refine lv_aload hx hb dL_numbers_10 (lv_at hl 4 rfl) ?_
      refine lv_iload hx hb dL_numbers_12 (lv_at hl 5 rfl) ?_
      refine lv_iconst (v := 0) hx hb dL_numbers_14 (by decide) ?_
      obtain ⟨x2, hx2, h⟩ := bnd h
      refine w_qI X hH hx2 dL_numbers_15 (fun H locs hH => ?_)
      refine lv_iinc (v := (v5 + 1)) (lv' := [(5, .int (v5 + 1)), (0, .ref v0), (1, .int v1), (2, .int v2), (3, .int v3), (4, .ref v4)]) hx hb dL_numbers_16 hl (k := 5) rfl rfl (by decide) rfl (fun ls hl => ?_)
      refine lv_goto (tgt := 3) hx hb dL_numbers_19 (by decide) ?_
      exact ih _ _ _ _ _ _ _ _ h k0 _ _ _ hH (lv_sub hl [1, 2, 3, 4, 5, 0] rfl)
set_option maxHeartbeats 4000000 in
set_option maxRecDepth 100000 in
theorem w_L_numbers_59 {p : Program} {e : Env} {R : Room} {s : State} {m : MethodId} {args : Array Value} {below : List Frame} {meth : Method} {c : Code} {cells slots : Nat} {Q : State → Prop} {G : CG} (l : Launch) (X : Cx p s m args meth c cL_numbers 7 RL G) (hRL : RmL R 2 23) (hcs : cells ≤ R.cells ∧ slots ≤ R.slots) : ∀ (n : Nat) (v0 : Nat) (v1 : Int32) (v4 : Nat) (v5 : Int32) (μ : Mm) (x : Mm), lp_L_numbers_59 (gS G) n v0 v1 v4 v5 μ = some x → (∀ (H : Heap) (locs : List Loc) (ls : Array Slot), HS G s x H locs → lv_has ls 7 [(0, .ref v0), (1, .int v1), (4, .ref v4)] → W p l e R s m args below meth c H locs cells slots Q (F0 m 116 ls [])) → ∀ (H : Heap) (locs : List Loc) (ls : Array Slot), HS G s μ H locs → lv_has ls 7 [(0, .ref v0), (1, .int v1), (4, .ref v4), (5, .int v5)] → W p l e R s m args below meth c H locs cells slots Q (F0 m 59 ls []) := by
  have hx := X.1
  have hb := X.2.1
  have hown := X.2.2.2.1
  have hts := X.2.2.2.2.1
  intro n
  induction n with
  | zero =>
    intro v0 v1 v4 v5 μ x h
    rw [lp_L_numbers_59] at h
    cases h
  | succ n ih =>
    intro v0 v1 v4 v5 μ x h k0 H locs ls hH hl
    rw [lp_L_numbers_59] at h
    refine lv_iload hx hb dL_numbers_59 (lv_at hl 3 rfl) ?_
    refine lv_aload hx hb dL_numbers_61 (lv_at hl 2 rfl) ?_
    refine lv_iconst (v := 0) hx hb dL_numbers_63 (by decide) ?_
    obtain ⟨x10, hx10, h⟩ := bnd h
    refine w_aI X hH hx10 dL_numbers_64 ?_
    refine lv_icmp_ge (tgt := 116) hx hb dL_numbers_65 (by decide) (fun hc11 => ?_) (fun hc11 => ?_)
    · replace h := ift h hc11
      cases h
      exact k0 _ _ _ hH (lv_sub hl [0, 1, 2] rfl)
    · replace h := iff' h hc11
      refine lv_aload_n hx hb dL_numbers_68 rfl (lv_at hl 0 rfl) ?_
      refine lv_iload_n hx hb dL_numbers_69 rfl (lv_at hl 1 rfl) ?_
      refine lv_iconst (v := 1) hx hb dL_numbers_70 (by decide) ?_
      refine lv_iadd hx hb dL_numbers_71 ?_
      refine lv_iload hx hb dL_numbers_72 (lv_at hl 3 rfl) ?_
      refine lv_iadd hx hb dL_numbers_74 ?_
      obtain ⟨x12, hx12, h⟩ := bnd h
      refine iv_L_14 l X hH hRL (by decide) hx12 hl.1 (Nat.le_of_ble_eq_true rfl) dL_numbers_75 hcs (fun H locs hH => ?_)
      refine lv_istore (lv' := [(6, .int x12), (0, .ref v0), (1, .int v1), (4, .ref v4), (5, .int v5)]) hx hb dL_numbers_78 hl (by decide) rfl (fun ls hl => ?_)
      refine lv_aload hx hb dL_numbers_80 (lv_at hl 3 rfl) ?_
      refine lv_iconst (v := 1) hx hb dL_numbers_82 (by decide) ?_
      refine lv_iload hx hb dL_numbers_83 (lv_at hl 4 rfl) ?_
      refine lv_iadd hx hb dL_numbers_85 ?_
      refine lv_iload hx hb dL_numbers_86 (lv_at hl 0 rfl) ?_
      refine lv_bipush (v := 6) hx hb dL_numbers_88 (by decide) ?_
      refine lv_irem hx hb dL_numbers_90 (by decide) ?_
      obtain ⟨x13, hx13, h⟩ := bnd h
      refine w_qI X hH hx13 dL_numbers_91 (fun H locs hH => ?_)
      refine lv_aload hx hb dL_numbers_92 (lv_at hl 3 rfl) ?_
      refine lv_bipush (v := 7) hx hb dL_numbers_94 (by decide) ?_
      refine lv_iload hx hb dL_numbers_96 (lv_at hl 4 rfl) ?_
      refine lv_iadd hx hb dL_numbers_98 ?_
      refine lv_iconst (v := 1) hx hb dL_numbers_99 (by decide) ?_
      refine lv_iload hx hb dL_numbers_100 (lv_at hl 0 rfl) ?_
      refine lv_bipush (v := 8) hx hb dL_numbers_102 (by decide) ?_
      refine lv_idiv hx hb dL_numbers_104 (by decide) ?_
      refine lv_bipush (v := 9) hx hb dL_numbers_105 (by decide) ?_
      refine lv_irem hx hb dL_numbers_107 (by decide) ?_
      refine lv_iadd hx hb dL_numbers_108 ?_
      obtain ⟨x14, hx14, h⟩ := bnd h
      refine w_qI X hH hx14 dL_numbers_109 (fun H locs hH => ?_)
      refine lv_iinc (v := (v5 + 1)) (lv' := [(5, .int (v5 + 1)), (6, .int x12), (0, .ref v0), (1, .int v1), (4, .ref v4)]) hx hb dL_numbers_110 hl (k := 4) rfl rfl (by decide) rfl (fun ls hl => ?_)
      refine lv_goto (tgt := 59) hx hb dL_numbers_113 (by decide) ?_
      exact ih _ _ _ _ _ _ h k0 _ _ _ hH (lv_sub hl [2, 3, 4, 0] rfl)
set_option maxHeartbeats 4000000 in
set_option maxRecDepth 100000 in
theorem w_L_numbers_119 {p : Program} {e : Env} {R : Room} {s : State} {m : MethodId} {args : Array Value} {below : List Frame} {meth : Method} {c : Code} {cells slots : Nat} {Q : State → Prop} {G : CG} (l : Launch) (X : Cx p s m args meth c cL_numbers 7 RL G) (hRL : RmL R 2 23) (hcs : cells ≤ R.cells ∧ slots ≤ R.slots) : ∀ (n : Nat) (v0 : Nat) (v1 : Int32) (v4 : Nat) (v5 : Int32) (μ : Mm) (x : Mm), lp_L_numbers_119 (gS G) n v0 v1 v4 v5 μ = some x → (∀ (H : Heap) (locs : List Loc) (ls : Array Slot), HS G s x H locs → lv_has ls 7 [] → W p l e R s m args below meth c H locs cells slots Q (F0 m 196 ls [])) → ∀ (H : Heap) (locs : List Loc) (ls : Array Slot), HS G s μ H locs → lv_has ls 7 [(0, .ref v0), (1, .int v1), (4, .ref v4), (5, .int v5)] → W p l e R s m args below meth c H locs cells slots Q (F0 m 119 ls []) := by
  have hx := X.1
  have hb := X.2.1
  have hown := X.2.2.2.1
  have hts := X.2.2.2.2.1
  intro n
  induction n with
  | zero =>
    intro v0 v1 v4 v5 μ x h
    rw [lp_L_numbers_119] at h
    cases h
  | succ n ih =>
    intro v0 v1 v4 v5 μ x h k0 H locs ls hH hl
    rw [lp_L_numbers_119] at h
    refine lv_iload hx hb dL_numbers_119 (lv_at hl 3 rfl) ?_
    refine lv_aload_n hx hb dL_numbers_121 rfl (lv_at hl 0 rfl) ?_
    refine lv_iload_n hx hb dL_numbers_122 rfl (lv_at hl 1 rfl) ?_
    obtain ⟨x16, hx16, h⟩ := bnd h
    refine iv_L_14 l X hH hRL (by decide) hx16 hl.1 (Nat.le_of_ble_eq_true rfl) dL_numbers_123 hcs (fun H locs hH => ?_)
    refine lv_sipush (v := 512) hx hb dL_numbers_126 (by decide) ?_
    refine lv_idiv hx hb dL_numbers_129 (by decide) ?_
    refine lv_iconst (v := 5) hx hb dL_numbers_130 (by decide) ?_
    refine lv_irem hx hb dL_numbers_131 (by decide) ?_
    refine lv_icmp_ge (tgt := 196) hx hb dL_numbers_132 (by decide) (fun hc17 => ?_) (fun hc17 => ?_)
    · replace h := ift h hc17
      cases h
      exact k0 _ _ _ hH (lv_sub hl [] rfl)
    · replace h := iff' h hc17
      refine lv_iconst (v := 1) hx hb dL_numbers_135 (by decide) ?_
      refine lv_aload_n hx hb dL_numbers_136 rfl (lv_at hl 0 rfl) ?_
      refine lv_iload_n hx hb dL_numbers_137 rfl (lv_at hl 1 rfl) ?_
      refine lv_bipush (v := 8) hx hb dL_numbers_138 (by decide) ?_
      refine lv_iadd hx hb dL_numbers_140 ?_
      refine lv_iload hx hb dL_numbers_141 (lv_at hl 3 rfl) ?_
      refine lv_iadd hx hb dL_numbers_143 ?_
      obtain ⟨x18, hx18, h⟩ := bnd h
      refine iv_L_14 l X hH hRL (by decide) hx18 hl.1 (Nat.le_of_ble_eq_true rfl) dL_numbers_144 hcs (fun H locs hH => ?_)
      refine lv_aload hx hb dL_numbers_147 (lv_at hl 2 rfl) ?_
      refine lv_bipush (v := 13) hx hb dL_numbers_149 (by decide) ?_
      obtain ⟨x19, hx19, h⟩ := bnd h
      refine w_aI X hH hx19 dL_numbers_151 ?_
      refine lv_iconst (v := 1) hx hb dL_numbers_152 (by decide) ?_
      refine lv_isub hx hb dL_numbers_153 ?_
      obtain ⟨hd20, h⟩ := gsf h
      refine lv_irem hx hb dL_numbers_154 hd20 ?_
      refine lv_iadd hx hb dL_numbers_155 ?_
      refine lv_istore (lv' := [(6, .int ((1 : Int32) + (x18 - x18 / (x19 - (1 : Int32)) * (x19 - (1 : Int32))))), (0, .ref v0), (1, .int v1), (4, .ref v4), (5, .int v5)]) hx hb dL_numbers_156 hl (by decide) rfl (fun ls hl => ?_)
      refine lv_aload hx hb dL_numbers_158 (lv_at hl 3 rfl) ?_
      refine lv_iload hx hb dL_numbers_160 (lv_at hl 0 rfl) ?_
      obtain ⟨x21, hx21, h⟩ := bnd h
      refine iv_L_20 l X hH hRL (by decide) hx21 hl.1 (Nat.le_of_ble_eq_true rfl) dL_numbers_162 hcs (fun H locs hH => ?_)
      refine lv_if_ne (tgt := 190) hx hb dL_numbers_165 (by decide) (fun hc22 => ?_) (fun hc22 => ?_)
      · replace h := iff' h hc22
        refine lv_iinc (v := (v5 + 1)) (lv' := [(5, .int (v5 + 1)), (6, .int ((1 : Int32) + (x18 - x18 / (x19 - (1 : Int32)) * (x19 - (1 : Int32))))), (0, .ref v0), (1, .int v1), (4, .ref v4)]) hx hb dL_numbers_190 hl (k := 4) rfl rfl (by decide) rfl (fun ls hl => ?_)
        refine lv_goto (tgt := 119) hx hb dL_numbers_193 (by decide) ?_
        exact ih _ _ _ _ _ _ h k0 _ _ _ hH (lv_sub hl [2, 3, 4, 0] rfl)
      · replace h := ift h hc22
        refine lv_aload hx hb dL_numbers_168 (lv_at hl 3 rfl) ?_
        refine lv_bipush (v := 15) hx hb dL_numbers_170 (by decide) ?_
        refine lv_aload hx hb dL_numbers_172 (lv_at hl 3 rfl) ?_
        refine lv_bipush (v := 14) hx hb dL_numbers_174 (by decide) ?_
        obtain ⟨x23, hx23, h⟩ := bnd h
        refine w_aI X hH hx23 dL_numbers_176 ?_
        refine lv_iadd hx hb dL_numbers_177 ?_
        refine lv_iload hx hb dL_numbers_178 (lv_at hl 0 rfl) ?_
        obtain ⟨x24, hx24, h⟩ := bnd h
        refine w_qI X hH hx24 dL_numbers_180 (fun H locs hH => ?_)
        refine lv_aload hx hb dL_numbers_181 (lv_at hl 3 rfl) ?_
        refine lv_bipush (v := 14) hx hb dL_numbers_183 (by decide) ?_
        refine lv_dup2_11 hx hb dL_numbers_185 rfl rfl ?_
        obtain ⟨x25, hx25, h⟩ := bnd h
        refine w_aI X hH hx25 dL_numbers_186 ?_
        refine lv_iconst (v := 1) hx hb dL_numbers_187 (by decide) ?_
        refine lv_iadd hx hb dL_numbers_188 ?_
        obtain ⟨x26, hx26, h⟩ := bnd h
        refine w_qI X hH hx26 dL_numbers_189 (fun H locs hH => ?_)
        refine lv_iinc (v := (v5 + 1)) (lv' := [(5, .int (v5 + 1)), (6, .int ((1 : Int32) + (x18 - x18 / (x19 - (1 : Int32)) * (x19 - (1 : Int32))))), (0, .ref v0), (1, .int v1), (4, .ref v4)]) hx hb dL_numbers_190 hl (k := 4) rfl rfl (by decide) rfl (fun ls hl => ?_)
        refine lv_goto (tgt := 119) hx hb dL_numbers_193 (by decide) ?_
        exact ih _ _ _ _ _ _ h k0 _ _ _ hH (lv_sub hl [2, 3, 4, 0] rfl)
set_option maxHeartbeats 4000000 in
set_option maxRecDepth 100000 in
theorem c_L_numbers (l : Launch) (G : CG) (μ : Mm) (p0 : Nat) (p1 : Int32) (p2 : Int32) (p3 : Int32) (p4 : Nat) (x : Mm) (h : f_L_numbers (gS G) μ p0 p1 p2 p3 p4 = some x) : Met l yL_numbers (.code yL_numbers cL_numbers 7 none :: UW) (rmk 2 23 0 0) (PC G [.ref p0, .int p1, .int p2, .int p3, .ref p4] μ) (QV G x) 0 0 (fA G) := by
  refine Met.ofW (cc := cL_numbers) (maxL := 7) (ret := none) (by decide) rfl ?_
  intro p e s m args below meth c s₁ B hml hv
  obtain ⟨X, hH, hr, rfl, hnm⟩ := cx_in B hml hv
  have X : Cx p s m _ meth c cL_numbers 7 RL G := X
  have hx := X.1
  have hb := X.2.1
  have hown := X.2.2.2.1
  have hts := X.2.2.2.2.1
  have hRL : RmL (rmk 2 23 0 0) 2 23 := ⟨Nat.le_refl _, Nat.le_refl _⟩
  have hcs : 0 ≤ (rmk 0 0 0 0).cells ∧ 0 ≤ (rmk 0 0 0 0).slots := ⟨Nat.zero_le _, Nat.zero_le _⟩
  refine ls_in (Nat.le_of_ble_eq_true rfl) (fun ls hl => ?_)
  have hl : lv_has ls 7 [(0, .ref p0), (1, .int p1), (2, .int p2), (3, .int p3), (4, .ref p4)] := hl
  unfold f_L_numbers at h
  refine lv_iconst (v := 0) hx hb dL_numbers_0 (by decide) ?_
  refine lv_istore (lv' := [(5, .int (0 : Int32)), (0, .ref p0), (1, .int p1), (2, .int p2), (3, .int p3), (4, .ref p4)]) hx hb dL_numbers_1 hl (by decide) rfl (fun ls hl => ?_)
  obtain ⟨x3, hx3, hhx3⟩ := bnd h
  clear h
  refine w_L_numbers_3 l X hRL hcs BIG p0 p1 p2 p3 p4 (0 : Int32) μ x3 hx3 (fun H locs ls hH hl => ?_) _ _ _ hH (lv_sub hl [1, 2, 3, 4, 5, 0] rfl)
  · have h := hhx3
    clear hhx3
    refine lv_aload hx hb dL_numbers_22 (lv_at hl 4 rfl) ?_
    refine lv_iconst (v := 0) hx hb dL_numbers_24 (by decide) ?_
    refine lv_iconst (v := 1) hx hb dL_numbers_25 (by decide) ?_
    refine lv_aload_n hx hb dL_numbers_26 rfl (lv_at hl 0 rfl) ?_
    refine lv_iload_n hx hb dL_numbers_27 rfl (lv_at hl 1 rfl) ?_
    obtain ⟨x4, hx4, h⟩ := bnd h
    refine iv_L_14 l X hH hRL (by decide) hx4 hl.1 (Nat.le_of_ble_eq_true rfl) dL_numbers_28 hcs (fun H locs hH => ?_)
    refine lv_iload_n hx hb dL_numbers_31 rfl (lv_at hl 2 rfl) ?_
    obtain ⟨hd5, h⟩ := gsf h
    refine lv_irem hx hb dL_numbers_32 hd5 ?_
    refine lv_iadd hx hb dL_numbers_33 ?_
    obtain ⟨x6, hx6, h⟩ := bnd h
    refine w_qI X hH hx6 dL_numbers_34 (fun H locs hH => ?_)
    refine lv_aload hx hb dL_numbers_35 (lv_at hl 4 rfl) ?_
    refine lv_bipush (v := 13) hx hb dL_numbers_37 (by decide) ?_
    refine lv_bipush (v := 12) hx hb dL_numbers_39 (by decide) ?_
    refine lv_aload_n hx hb dL_numbers_41 rfl (lv_at hl 0 rfl) ?_
    refine lv_iload_n hx hb dL_numbers_42 rfl (lv_at hl 1 rfl) ?_
    obtain ⟨x7, hx7, h⟩ := bnd h
    refine iv_L_14 l X hH hRL (by decide) hx7 hl.1 (Nat.le_of_ble_eq_true rfl) dL_numbers_43 hcs (fun H locs hH => ?_)
    refine lv_bipush (v := 8) hx hb dL_numbers_46 (by decide) ?_
    refine lv_idiv hx hb dL_numbers_48 (by decide) ?_
    refine lv_iload_n hx hb dL_numbers_49 rfl (lv_at hl 3 rfl) ?_
    refine lv_bipush (v := 11) hx hb dL_numbers_50 (by decide) ?_
    refine lv_isub hx hb dL_numbers_52 ?_
    obtain ⟨hd8, h⟩ := gsf h
    refine lv_irem hx hb dL_numbers_53 hd8 ?_
    refine lv_iadd hx hb dL_numbers_54 ?_
    obtain ⟨x9, hx9, h⟩ := bnd h
    refine w_qI X hH hx9 dL_numbers_55 (fun H locs hH => ?_)
    refine lv_iconst (v := 0) hx hb dL_numbers_56 (by decide) ?_
    refine lv_istore (lv' := [(5, .int (0 : Int32)), (0, .ref p0), (1, .int p1), (2, .int p2), (3, .int p3), (4, .ref p4)]) hx hb dL_numbers_57 hl (by decide) rfl (fun ls hl => ?_)
    obtain ⟨x15, hx15, hhx15⟩ := bnd h
    clear h
    refine w_L_numbers_59 l X hRL hcs BIG p0 p1 p4 (0 : Int32) x9 x15 hx15 (fun H locs ls hH hl => ?_) _ _ _ hH (lv_sub hl [1, 2, 5, 0] rfl)
    · have h := hhx15
      clear hhx15
      refine lv_iconst (v := 0) hx hb dL_numbers_116 (by decide) ?_
      refine lv_istore (lv' := [(5, .int (0 : Int32)), (0, .ref p0), (1, .int p1), (4, .ref p4)]) hx hb dL_numbers_117 hl (by decide) rfl (fun ls hl => ?_)
      obtain ⟨x27, hx27, hhx27⟩ := bnd h
      clear h
      refine w_L_numbers_119 l X hRL hcs BIG p0 p1 p4 (0 : Int32) x15 x27 hx27 (fun H locs ls hH hl => ?_) _ _ _ hH (lv_sub hl [1, 2, 3, 0] rfl)
      · have h := hhx27
        clear hhx27
        exact eV X hH h hr dL_numbers_196 (Nat.le_of_ble_eq_true rfl) (Nat.le_of_ble_eq_true rfl)
