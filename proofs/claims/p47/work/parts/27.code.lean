set_option maxHeartbeats 1000000 in
theorem iv_L_154 {p : Program} {e : Env} {R : Room} {s : State} {m : MethodId} {args : Array Value} {below : List Frame} {meth : Method} {c : Code} {H : Heap} {locs : List Loc} {cells slots : Nat} {Q : State → Prop} {cc : ByteArray} {pc : Nat} {ls : Array Slot} {rest : List Value} {nL : Nat} {G : CG} {μ : Mm} {a : Nat}  {x : Int32 × Mm} {k k2 : Nat} (l : Launch) (X : Cx p s m args meth c cc nL RL G) (hH : HS G s μ H locs) (hRL : RmL R k k2) (hk : 6 + 1 ≤ k ∧ 127 ≤ k2) (h : f_X11_cheap μ a = some x) (hls : ls.size = nL) (hroom : (rest.map fun v => v.category).sum ≤ 8) (hdg : decode cc pc = .ok (.invokevirtual 154, 3)) (hcs : cells + 0 ≤ R.cells ∧ slots + 0 ≤ R.slots) (kk : ∀ (H1 : Heap) (locs1 : List Loc), HS G s x.2 H1 locs1 → W p l e R s m args below meth c H1 locs1 cells slots Q (F0 m (pc + 3) ls (.int x.1 :: rest))) : W p l e R s m args below meth c H locs cells slots Q (F0 m pc ls (.ref a :: rest)) := by
  refine kI hH (rV (As := []) (rest := rest) X hH (t_X11_cheap h) vc_11 (c_X11_cheap l G μ a x h) (List.forall_mem_cons.mpr ⟨u_738, (List.forall_mem_cons.mpr ⟨u_739, (List.forall_mem_cons.mpr ⟨u_740, (List.forall_mem_cons.mpr ⟨u_21, (fun _ h9 => absurd h9 List.not_mem_nil)⟩)⟩)⟩)⟩) u_741 (rmo hRL (Nat.le_trans (by decide) hk.1) (Nat.le_trans (by decide) hk.2)) ddV_X11_cheap rfl hls rfl hroom hdg hcs) kk
set_option maxHeartbeats 1000000 in
theorem iv_L_151 {p : Program} {e : Env} {R : Room} {s : State} {m : MethodId} {args : Array Value} {below : List Frame} {meth : Method} {c : Code} {H : Heap} {locs : List Loc} {cells slots : Nat} {Q : State → Prop} {cc : ByteArray} {pc : Nat} {ls : Array Slot} {rest : List Value} {nL : Nat} {G : CG} {μ : Mm} {a : Nat}  {x : Int32 × Mm} {k k2 : Nat} (l : Launch) (X : Cx p s m args meth c cc nL RL G) (hH : HS G s μ H locs) (hRL : RmL R k k2) (hk : 6 + 1 ≤ k ∧ 127 ≤ k2) (h : f_X11_quiet μ a = some x) (hls : ls.size = nL) (hroom : (rest.map fun v => v.category).sum ≤ 8) (hdg : decode cc pc = .ok (.invokevirtual 151, 3)) (hcs : cells + 0 ≤ R.cells ∧ slots + 0 ≤ R.slots) (kk : ∀ (H1 : Heap) (locs1 : List Loc), HS G s x.2 H1 locs1 → W p l e R s m args below meth c H1 locs1 cells slots Q (F0 m (pc + 3) ls (.int x.1 :: rest))) : W p l e R s m args below meth c H locs cells slots Q (F0 m pc ls (.ref a :: rest)) := by
  refine kI hH (rV (As := []) (rest := rest) X hH (t_X11_quiet h) vc_11 (c_X11_quiet l G μ a x h) (List.forall_mem_cons.mpr ⟨u_714, (List.forall_mem_cons.mpr ⟨u_715, (List.forall_mem_cons.mpr ⟨u_716, (List.forall_mem_cons.mpr ⟨u_21, (fun _ h9 => absurd h9 List.not_mem_nil)⟩)⟩)⟩)⟩) u_717 (rmo hRL (Nat.le_trans (by decide) hk.1) (Nat.le_trans (by decide) hk.2)) ddV_X11_quiet rfl hls rfl hroom hdg hcs) kk
set_option maxHeartbeats 4000000 in
set_option maxRecDepth 100000 in
theorem w_L_cheapest_23 {p : Program} {e : Env} {R : Room} {s : State} {m : MethodId} {args : Array Value} {below : List Frame} {meth : Method} {c : Code} {cells slots : Nat} {Q : State → Prop} {G : CG} (l : Launch) (X : Cx p s m args meth c cL_cheapest 10 RL G) (hRL : RmL R 8 151) (hcs : cells ≤ R.cells ∧ slots ≤ R.slots) : ∀ (n : Nat) (v0 : Nat) (v1 : Int32) (v2 : Int32) (v3 : Int32) (v4 : Int32) (v5 : Int32) (v6 : Int32) (v7 : Int32) (μ : Mm) (x : Int32), lp_L_cheapest_23 n v0 v1 v2 v3 v4 v5 v6 v7 μ = some x → (∀ (H : Heap) (locs : List Loc) (ls : Array Slot), HS G s μ H locs → lv_has ls 10 [(0, .ref v0), (1, .int v1), (2, .int v2), (3, .int v3), (4, .int v4), (5, .int v5), (6, .int x)] → W p l e R s m args below meth c H locs cells slots Q (F0 m 42 ls [])) → ∀ (H : Heap) (locs : List Loc) (ls : Array Slot), HS G s μ H locs → lv_has ls 10 [(0, .ref v0), (1, .int v1), (2, .int v2), (3, .int v3), (4, .int v4), (5, .int v5), (6, .int v6), (7, .int v7)] → W p l e R s m args below meth c H locs cells slots Q (F0 m 23 ls []) := by
  have hx := X.1
  have hb := X.2.1
  have hown := X.2.2.2.1
  have hts := X.2.2.2.2.1
  intro n
  induction n with
  | zero =>
    intro v0 v1 v2 v3 v4 v5 v6 v7 μ x h
    rw [lp_L_cheapest_23] at h
    cases h
  | succ n ih =>
    intro v0 v1 v2 v3 v4 v5 v6 v7 μ x h k0 H locs ls hH hl
    rw [lp_L_cheapest_23] at h
    refine lv_iload hx hb dL_cheapest_23 (lv_at hl 7 rfl) ?_
    refine lv_iload_n hx hb dL_cheapest_25 rfl (lv_at hl 1 rfl) ?_
    refine lv_icmp_ge (tgt := 42) hx hb dL_cheapest_26 (by decide) (fun hc4 => ?_) (fun hc4 => ?_)
    · replace h := ift h hc4
      cases h
      exact k0 _ _ _ hH (lv_sub hl [0, 1, 2, 3, 4, 5, 6] rfl)
    · replace h := iff' h hc4
      refine lv_iload hx hb dL_cheapest_29 (lv_at hl 6 rfl) ?_
      refine lv_bipush (v := 6) hx hb dL_cheapest_31 (by decide) ?_
      refine lv_imul hx hb dL_cheapest_33 ?_
      refine lv_istore (lv' := [(6, .int (v6 * (6 : Int32))), (0, .ref v0), (1, .int v1), (2, .int v2), (3, .int v3), (4, .int v4), (5, .int v5), (7, .int v7)]) hx hb dL_cheapest_34 hl (by decide) rfl (fun ls hl => ?_)
      refine lv_iinc (v := (v7 + 1)) (lv' := [(7, .int (v7 + 1)), (6, .int (v6 * (6 : Int32))), (0, .ref v0), (1, .int v1), (2, .int v2), (3, .int v3), (4, .int v4), (5, .int v5)]) hx hb dL_cheapest_36 hl (k := 7) rfl rfl (by decide) rfl (fun ls hl => ?_)
      refine lv_goto (tgt := 23) hx hb dL_cheapest_39 (by decide) ?_
      exact ih _ _ _ _ _ _ _ _ _ _ h k0 _ _ _ hH (lv_sub hl [2, 3, 4, 5, 6, 7, 1, 0] rfl)
set_option maxHeartbeats 4000000 in
set_option maxRecDepth 100000 in
theorem w_L_cheapest_48 {p : Program} {e : Env} {R : Room} {s : State} {m : MethodId} {args : Array Value} {below : List Frame} {meth : Method} {c : Code} {cells slots : Nat} {Q : State → Prop} {G : CG} (l : Launch) (X : Cx p s m args meth c cL_cheapest 10 RL G) (hRL : RmL R 8 151) (hcs : cells ≤ R.cells ∧ slots ≤ R.slots) : ∀ (n : Nat) (v0 : Nat) (v1 : Int32) (v2 : Int32) (v3 : Int32) (v4 : Int32) (v5 : Int32) (v6 : Int32) (v7 : Int32) (v8 : Int32) (μ : Mm) (x : Nat × Mm), lp_L_cheapest_48 n v0 v1 v2 v3 v4 v5 v6 v7 v8 μ = some x → (∀ (H : Heap) (locs : List Loc) (ls : Array Slot), x.1 = 0 → HS G s x.2 H locs → lv_has ls 10 [] → W p l e R s m args below meth c H locs cells slots Q (F0 m 107 ls [])) → (∀ (H : Heap) (locs : List Loc) (ls : Array Slot), x.1 = 1 → HS G s x.2 H locs → lv_has ls 10 [(0, .ref v0), (1, .int v1), (2, .int v2), (3, .int v3), (5, .int v5)] → W p l e R s m args below meth c H locs cells slots Q (F0 m 124 ls [])) → ∀ (H : Heap) (locs : List Loc) (ls : Array Slot), HS G s μ H locs → lv_has ls 10 [(0, .ref v0), (1, .int v1), (2, .int v2), (3, .int v3), (4, .int v4), (5, .int v5), (6, .int v6), (7, .int v7), (8, .int v8)] → W p l e R s m args below meth c H locs cells slots Q (F0 m 48 ls []) := by
  have hx := X.1
  have hb := X.2.1
  have hown := X.2.2.2.1
  have hts := X.2.2.2.2.1
  intro n
  induction n with
  | zero =>
    intro v0 v1 v2 v3 v4 v5 v6 v7 v8 μ x h
    rw [lp_L_cheapest_48] at h
    cases h
  | succ n ih =>
    intro v0 v1 v2 v3 v4 v5 v6 v7 v8 μ x h k0 k1 H locs ls hH hl
    rw [lp_L_cheapest_48] at h
    refine lv_iload hx hb dL_cheapest_48 (lv_at hl 8 rfl) ?_
    refine lv_iload_n hx hb dL_cheapest_50 rfl (lv_at hl 1 rfl) ?_
    refine lv_icmp_ge (tgt := 124) hx hb dL_cheapest_51 (by decide) (fun hc6 => ?_) (fun hc6 => ?_)
    · replace h := ift h hc6
      cases h
      exact k1 _ _ _ rfl hH (lv_sub hl [0, 1, 2, 3, 5] rfl)
    · replace h := iff' h hc6
      refine lv_iload hx hb dL_cheapest_54 (lv_at hl 4 rfl) ?_
      refine lv_iload hx hb dL_cheapest_56 (lv_at hl 6 rfl) ?_
      obtain ⟨hd7, h⟩ := gsf h
      refine lv_idiv hx hb dL_cheapest_58 hd7 ?_
      refine lv_bipush (v := 6) hx hb dL_cheapest_59 (by decide) ?_
      refine lv_irem hx hb dL_cheapest_61 (by decide) ?_
      refine lv_istore (lv' := [(9, .int ((v4 / v6) - (v4 / v6) / (6 : Int32) * (6 : Int32))), (0, .ref v0), (1, .int v1), (2, .int v2), (3, .int v3), (4, .int v4), (5, .int v5), (6, .int v6), (7, .int v7), (8, .int v8)]) hx hb dL_cheapest_62 hl (by decide) rfl (fun ls hl => ?_)
      refine lv_iload hx hb dL_cheapest_64 (lv_at hl 7 rfl) ?_
      refine lv_iconst (v := 1) hx hb dL_cheapest_66 (by decide) ?_
      obtain ⟨x8, hbx8, hx8⟩ := bnd h
      clear h
      refine jn_lem (G := G) (x := x8) (M := 79) (nL := 10) (fun x8 => μ) (fun x8 => [(0, .ref v0), (1, .int v1), (2, .int v2), (3, .int v3), (4, .int v4), (5, .int v5), (7, .int v7), (8, .int v8), (9, .int ((v4 / v6) - (v4 / v6) / (6 : Int32) * (6 : Int32)))]) (fun x8 => [.int x8]) (fun H locs ls hH hl => ?_) (fun jnx8 => ?_)
      · have h := hx8
        clear hx8 hbx8
        refine lv_istore (lv' := [(6, .int x8), (0, .ref v0), (1, .int v1), (2, .int v2), (3, .int v3), (4, .int v4), (5, .int v5), (7, .int v7), (8, .int v8), (9, .int ((v4 / v6) - (v4 / v6) / (6 : Int32) * (6 : Int32)))]) hx hb dL_cheapest_79 hl (by decide) rfl (fun ls hl => ?_)
        refine lv_iload hx hb dL_cheapest_81 (lv_at hl 9 rfl) ?_
        refine lv_iload_n hx hb dL_cheapest_83 rfl (lv_at hl 2 rfl) ?_
        refine lv_icmp_ge (tgt := 107) hx hb dL_cheapest_84 (by decide) (fun hc10 => ?_) (fun hc10 => ?_)
        · replace h := ift h hc10
          cases h
          exact k0 _ _ _ rfl hH (lv_sub hl [] rfl)
        · replace h := iff' h hc10
          refine lv_iload hx hb dL_cheapest_87 (lv_at hl 7 rfl) ?_
          refine lv_iload hx hb dL_cheapest_89 (lv_at hl 9 rfl) ?_
          refine lv_ishr hx hb dL_cheapest_91 ?_
          refine lv_iconst (v := 1) hx hb dL_cheapest_92 (by decide) ?_
          refine lv_iand hx hb dL_cheapest_93 ?_
          refine lv_iconst (v := 1) hx hb dL_cheapest_94 (by decide) ?_
          refine lv_icmp_eq (tgt := 107) hx hb dL_cheapest_95 (by decide) (fun hc11 => ?_) (fun hc11 => ?_)
          · replace h := ift h hc11
            cases h
            exact k0 _ _ _ rfl hH (lv_sub hl [] rfl)
          · replace h := iff' h hc11
            refine lv_aload_n hx hb dL_cheapest_98 rfl (lv_at hl 1 rfl) ?_
            refine lv_iload hx hb dL_cheapest_99 (lv_at hl 9 rfl) ?_
            obtain ⟨x12, hx12, h⟩ := bnd h
            refine iv_L_98 l X hH hRL (by decide) hx12 hl.1 (Nat.le_of_ble_eq_true rfl) dL_cheapest_101 hcs (fun H locs hH => ?_)
            refine lv_if_ge (tgt := 109) hx hb dL_cheapest_104 (by decide) (fun hc13 => ?_) (fun hc13 => ?_)
            · replace h := ift h hc13
              refine lv_iload hx hb dL_cheapest_109 (lv_at hl 7 rfl) ?_
              refine lv_iconst (v := 1) hx hb dL_cheapest_111 (by decide) ?_
              refine lv_iload hx hb dL_cheapest_112 (lv_at hl 9 rfl) ?_
              refine lv_ishl hx hb dL_cheapest_114 ?_
              refine lv_ior hx hb dL_cheapest_115 ?_
              refine lv_istore (lv' := [(7, .int (v7 ||| ((1 : Int32) <<< (((v4 / v6) - (v4 / v6) / (6 : Int32) * (6 : Int32)) &&& 31)))), (6, .int x8), (0, .ref v0), (1, .int v1), (2, .int v2), (3, .int v3), (4, .int v4), (5, .int v5), (8, .int v8), (9, .int ((v4 / v6) - (v4 / v6) / (6 : Int32) * (6 : Int32)))]) hx hb dL_cheapest_116 hl (by decide) rfl (fun ls hl => ?_)
              refine lv_iinc (v := (v8 + 1)) (lv' := [(8, .int (v8 + 1)), (7, .int (v7 ||| ((1 : Int32) <<< (((v4 / v6) - (v4 / v6) / (6 : Int32) * (6 : Int32)) &&& 31)))), (6, .int x8), (0, .ref v0), (1, .int v1), (2, .int v2), (3, .int v3), (4, .int v4), (5, .int v5), (9, .int ((v4 / v6) - (v4 / v6) / (6 : Int32) * (6 : Int32)))]) hx hb dL_cheapest_118 hl (k := 8) rfl rfl (by decide) rfl (fun ls hl => ?_)
              refine lv_goto (tgt := 48) hx hb dL_cheapest_121 (by decide) ?_
              exact ih _ _ _ _ _ _ _ _ _ _ _ h k0 k1 _ _ _ hH (lv_sub hl [3, 4, 5, 6, 7, 8, 2, 1, 0] rfl)
            · replace h := iff' h hc13
              cases h
              exact k0 _ _ _ rfl hH (lv_sub hl [] rfl)
      · have h := hbx8
        clear hx8 hbx8
        refine lv_icmp_le (tgt := 78) hx hb dL_cheapest_67 (by decide) (fun hc9 => ?_) (fun hc9 => ?_)
        · replace h := ift h hc9
          refine lv_iconst (v := 1) hx hb dL_cheapest_78 (by decide) ?_
          cases h
          exact jnx8 _ _ _ hH (lv_sub hl [1, 2, 3, 4, 5, 6, 8, 9, 0] rfl)
        · replace h := iff' h hc9
          refine lv_iload hx hb dL_cheapest_70 (lv_at hl 7 rfl) ?_
          refine lv_bipush (v := 6) hx hb dL_cheapest_72 (by decide) ?_
          refine lv_idiv hx hb dL_cheapest_74 (by decide) ?_
          refine lv_goto (tgt := 79) hx hb dL_cheapest_75 (by decide) ?_
          cases h
          exact jnx8 _ _ _ hH (lv_sub hl [1, 2, 3, 4, 5, 6, 8, 9, 0] rfl)
set_option maxHeartbeats 4000000 in
set_option maxRecDepth 100000 in
theorem c_L_cheapest (l : Launch) (G : CG) (μ : Mm) (p0 : Nat) (p1 : Int32) (p2 : Int32) (x : Int32 × Mm) (h : f_L_cheapest μ p0 p1 p2 = some x) : Met l yL_cheapest (.code yL_cheapest cL_cheapest 10 (some .boolean) :: UW) (rmk 8 151 0 0) (PC G [.ref p0, .int p1, .int p2] μ) (QI G x.1 x.2) 0 0 (fA G) := by
  refine Met.ofW (cc := cL_cheapest) (maxL := 10) (ret := (some .boolean)) (by decide) rfl ?_
  intro p e s m args below meth c s₁ B hml hv
  obtain ⟨X, hH, hr, rfl, hnm⟩ := cx_in B hml hv
  have X : Cx p s m _ meth c cL_cheapest 10 RL G := X
  have hx := X.1
  have hb := X.2.1
  have hown := X.2.2.2.1
  have hts := X.2.2.2.2.1
  have hRL : RmL (rmk 8 151 0 0) 8 151 := ⟨Nat.le_refl _, Nat.le_refl _⟩
  have hcs : 0 ≤ (rmk 0 0 0 0).cells ∧ 0 ≤ (rmk 0 0 0 0).slots := ⟨Nat.zero_le _, Nat.zero_le _⟩
  refine ls_in (Nat.le_of_ble_eq_true rfl) (fun ls hl => ?_)
  have hl : lv_has ls 10 [(0, .ref p0), (1, .int p1), (2, .int p2)] := hl
  unfold f_L_cheapest at h
  refine lv_aload_n hx hb dL_cheapest_0 rfl (lv_at hl 0 rfl) ?_
  obtain ⟨x1, hx1, h⟩ := bnd h
  refine iv_L_154 l X hH hRL (by decide) hx1 hl.1 (Nat.le_of_ble_eq_true rfl) dL_cheapest_1 hcs (fun H locs hH => ?_)
  refine lv_istore_n (lv' := [(3, .int x1.1), (0, .ref p0), (1, .int p1), (2, .int p2)]) hx hb dL_cheapest_4 rfl hl (by decide) rfl (fun ls hl => ?_)
  refine lv_aload_n hx hb dL_cheapest_5 rfl (lv_at hl 1 rfl) ?_
  obtain ⟨x2, hx2, h⟩ := bnd h
  refine iv_L_45 l X hH hRL (by decide) hx2 hl.1 (Nat.le_of_ble_eq_true rfl) dL_cheapest_6 hcs (fun H locs hH => ?_)
  refine lv_istore (lv' := [(4, .int x2), (3, .int x1.1), (0, .ref p0), (1, .int p1), (2, .int p2)]) hx hb dL_cheapest_9 hl (by decide) rfl (fun ls hl => ?_)
  refine lv_aload_n hx hb dL_cheapest_11 rfl (lv_at hl 2 rfl) ?_
  obtain ⟨x3, hx3, h⟩ := bnd h
  refine iv_L_59 l X hH hRL (by decide) hx3 hl.1 (Nat.le_of_ble_eq_true rfl) dL_cheapest_12 hcs (fun H locs hH => ?_)
  refine lv_istore (lv' := [(5, .int x3.1), (4, .int x2), (3, .int x1.1), (0, .ref p0), (1, .int p1), (2, .int p2)]) hx hb dL_cheapest_15 hl (by decide) rfl (fun ls hl => ?_)
  refine lv_iconst (v := 1) hx hb dL_cheapest_17 (by decide) ?_
  refine lv_istore (lv' := [(6, .int (1 : Int32)), (5, .int x3.1), (4, .int x2), (3, .int x1.1), (0, .ref p0), (1, .int p1), (2, .int p2)]) hx hb dL_cheapest_18 hl (by decide) rfl (fun ls hl => ?_)
  refine lv_iconst (v := 1) hx hb dL_cheapest_20 (by decide) ?_
  refine lv_istore (lv' := [(7, .int (1 : Int32)), (6, .int (1 : Int32)), (5, .int x3.1), (4, .int x2), (3, .int x1.1), (0, .ref p0), (1, .int p1), (2, .int p2)]) hx hb dL_cheapest_21 hl (by decide) rfl (fun ls hl => ?_)
  obtain ⟨x5, hx5, hhx5⟩ := bnd h
  clear h
  refine w_L_cheapest_23 l X hRL hcs BIG p0 p1 p2 x1.1 x2 x3.1 (1 : Int32) (1 : Int32) x3.2 x5 hx5 (fun H locs ls hH hl => ?_) _ _ _ hH (lv_sub hl [5, 6, 7, 4, 3, 2, 1, 0] rfl)
  · have h := hhx5
    clear hhx5
    refine lv_iconst (v := 0) hx hb dL_cheapest_42 (by decide) ?_
    refine lv_istore (lv' := [(7, .int (0 : Int32)), (0, .ref p0), (1, .int p1), (2, .int p2), (3, .int x1.1), (4, .int x2), (5, .int x3.1), (6, .int x5)]) hx hb dL_cheapest_43 hl (by decide) rfl (fun ls hl => ?_)
    refine lv_iconst (v := 0) hx hb dL_cheapest_45 (by decide) ?_
    refine lv_istore (lv' := [(8, .int (0 : Int32)), (7, .int (0 : Int32)), (0, .ref p0), (1, .int p1), (2, .int p2), (3, .int x1.1), (4, .int x2), (5, .int x3.1), (6, .int x5)]) hx hb dL_cheapest_46 hl (by decide) rfl (fun ls hl => ?_)
    obtain ⟨x14, hx14, hhx14⟩ := bnd h
    clear h
    refine w_L_cheapest_48 l X hRL hcs BIG p0 p1 p2 x1.1 x2 x3.1 x5 (0 : Int32) (0 : Int32) x3.2 x14 hx14 (fun H locs ls hj hH hl => ?_) (fun H locs ls hj hH hl => ?_) _ _ _ hH (lv_sub hl [2, 3, 4, 5, 6, 7, 8, 1, 0] rfl)
    · have h := hhx14
      clear hhx14
      replace h := ift h hj
      refine lv_iconst (v := 0) hx hb dL_cheapest_107 (by decide) ?_
      exact eZ X hH (by decide) h hr dL_cheapest_108 (Nat.le_of_ble_eq_true rfl) (Nat.le_of_ble_eq_true rfl)
    · have h := hhx14
      clear hhx14
      replace h := iff' h (by rw [hj]; decide)
      refine lv_aload_n hx hb dL_cheapest_124 rfl (lv_at hl 0 rfl) ?_
      obtain ⟨x15, hx15, h⟩ := bnd h
      refine iv_L_59 l X hH hRL (by decide) hx15 hl.1 (Nat.le_of_ble_eq_true rfl) dL_cheapest_125 hcs (fun H locs hH => ?_)
      refine lv_iload hx hb dL_cheapest_128 (lv_at hl 4 rfl) ?_
      refine lv_iload_n hx hb dL_cheapest_130 rfl (lv_at hl 3 rfl) ?_
      refine lv_iadd hx hb dL_cheapest_131 ?_
      refine lv_icmp_ne (tgt := 182) hx hb dL_cheapest_132 (by decide) (fun hc16 => ?_) (fun hc16 => ?_)
      · replace h := iff' h hc16
        refine lv_iconst (v := 0) hx hb dL_cheapest_182 (by decide) ?_
        exact eZ X hH (by decide) h hr dL_cheapest_183 (Nat.le_of_ble_eq_true rfl) (Nat.le_of_ble_eq_true rfl)
      · replace h := ift h hc16
        refine lv_aload_n hx hb dL_cheapest_135 rfl (lv_at hl 0 rfl) ?_
        refine lv_iload_n hx hb dL_cheapest_136 rfl (lv_at hl 2 rfl) ?_
        obtain ⟨x17, hx17, h⟩ := bnd h
        refine iv_L_145 l X hH hRL (by decide) hx17 hl.1 (Nat.le_of_ble_eq_true rfl) dL_cheapest_137 hcs (fun H locs hH => ?_)
        refine lv_iload_n hx hb dL_cheapest_140 rfl (lv_at hl 1 rfl) ?_
        refine lv_icmp_ne (tgt := 182) hx hb dL_cheapest_141 (by decide) (fun hc18 => ?_) (fun hc18 => ?_)
        · replace h := iff' h hc18
          refine lv_iconst (v := 0) hx hb dL_cheapest_182 (by decide) ?_
          exact eZ X hH (by decide) h hr dL_cheapest_183 (Nat.le_of_ble_eq_true rfl) (Nat.le_of_ble_eq_true rfl)
        · replace h := ift h hc18
          refine lv_aload_n hx hb dL_cheapest_144 rfl (lv_at hl 0 rfl) ?_
          obtain ⟨x19, hx19, h⟩ := bnd h
          refine iv_L_151 l X hH hRL (by decide) hx19 hl.1 (Nat.le_of_ble_eq_true rfl) dL_cheapest_145 hcs (fun H locs hH => ?_)
          refine lv_iconst (v := 1) hx hb dL_cheapest_148 (by decide) ?_
          refine lv_icmp_ne (tgt := 182) hx hb dL_cheapest_149 (by decide) (fun hc20 => ?_) (fun hc20 => ?_)
          · replace h := iff' h hc20
            refine lv_iconst (v := 0) hx hb dL_cheapest_182 (by decide) ?_
            exact eZ X hH (by decide) h hr dL_cheapest_183 (Nat.le_of_ble_eq_true rfl) (Nat.le_of_ble_eq_true rfl)
          · replace h := ift h hc20
            refine lv_aload_n hx hb dL_cheapest_152 rfl (lv_at hl 0 rfl) ?_
            obtain ⟨x21, hx21, h⟩ := bnd h
            refine iv_L_79 l X hH hRL (by decide) hx21 hl.1 (Nat.le_of_ble_eq_true rfl) dL_cheapest_153 hcs (fun H locs hH => ?_)
            refine lv_lconst (v := 0) hx hb dL_cheapest_156 (by decide) ?_
            refine W.lcmp hx hb dL_cheapest_157 ?_
            obtain ⟨x22, hbx22, hx22⟩ := bnd h
            clear h
            refine jn_lem (G := G) (x := x22) (M := 166) (nL := 10) (fun x22 => x19.2) (fun x22 => [(3, .int x1.1)]) (fun x22 => [.int x22]) (fun H locs ls hH hl => ?_) (fun jnx22 => ?_)
            · have h := hx22
              clear hx22 hbx22
              refine lv_iload_n hx hb dL_cheapest_166 rfl (lv_at hl 0 rfl) ?_
              refine lv_if_ne (tgt := 174) hx hb dL_cheapest_167 (by decide) (fun hc24 => ?_) (fun hc24 => ?_)
              · replace h := iff' h hc24
                refine lv_iconst (v := 0) hx hb dL_cheapest_174 (by decide) ?_
                refine lv_icmp_ne (tgt := 182) hx hb dL_cheapest_175 (by decide) (fun hc25 => ?_) (fun hc25 => ?_)
                · replace h := iff' h hc25
                  refine lv_iconst (v := 0) hx hb dL_cheapest_182 (by decide) ?_
                  exact eZ X hH (by decide) h hr dL_cheapest_183 (Nat.le_of_ble_eq_true rfl) (Nat.le_of_ble_eq_true rfl)
                · replace h := ift h hc25
                  refine lv_iconst (v := 1) hx hb dL_cheapest_178 (by decide) ?_
                  refine lv_goto (tgt := 183) hx hb dL_cheapest_179 (by decide) ?_
                  exact eZ X hH (by decide) h hr dL_cheapest_183 (Nat.le_of_ble_eq_true rfl) (Nat.le_of_ble_eq_true rfl)
              · replace h := ift h hc24
                refine lv_iconst (v := 1) hx hb dL_cheapest_170 (by decide) ?_
                refine lv_goto (tgt := 175) hx hb dL_cheapest_171 (by decide) ?_
                refine lv_icmp_ne (tgt := 182) hx hb dL_cheapest_175 (by decide) (fun hc26 => ?_) (fun hc26 => ?_)
                · replace h := iff' h hc26
                  refine lv_iconst (v := 0) hx hb dL_cheapest_182 (by decide) ?_
                  exact eZ X hH (by decide) h hr dL_cheapest_183 (Nat.le_of_ble_eq_true rfl) (Nat.le_of_ble_eq_true rfl)
                · replace h := ift h hc26
                  refine lv_iconst (v := 1) hx hb dL_cheapest_178 (by decide) ?_
                  refine lv_goto (tgt := 183) hx hb dL_cheapest_179 (by decide) ?_
                  exact eZ X hH (by decide) h hr dL_cheapest_183 (Nat.le_of_ble_eq_true rfl) (Nat.le_of_ble_eq_true rfl)
            · have h := hbx22
              clear hx22 hbx22
              refine lv_if_le (tgt := 165) hx hb dL_cheapest_158 (by decide) (fun hc23 => ?_) (fun hc23 => ?_)
              · replace h := ift h hc23
                refine lv_iconst (v := 0) hx hb dL_cheapest_165 (by decide) ?_
                cases h
                exact jnx22 _ _ _ hH (lv_sub hl [3] rfl)
              · replace h := iff' h hc23
                refine lv_iconst (v := 1) hx hb dL_cheapest_161 (by decide) ?_
                refine lv_goto (tgt := 166) hx hb dL_cheapest_162 (by decide) ?_
                cases h
                exact jnx22 _ _ _ hH (lv_sub hl [3] rfl)
set_option maxHeartbeats 1000000 in
theorem iv_L_159 {p : Program} {e : Env} {R : Room} {s : State} {m : MethodId} {args : Array Value} {below : List Frame} {meth : Method} {c : Code} {H : Heap} {locs : List Loc} {cells slots : Nat} {Q : State → Prop} {cc : ByteArray} {pc : Nat} {ls : Array Slot} {rest : List Value} {nL : Nat} {G : CG} {μ : Mm} {a : Nat} {q0 : Int32} {x : Int32 × Mm} {k k2 : Nat} (l : Launch) (X : Cx p s m args meth c cc nL RL G) (hH : HS G s μ H locs) (hRL : RmL R k k2) (hk : 6 + 1 ≤ k ∧ 137 ≤ k2) (h : f_X11_feet μ a q0 = some x) (hls : ls.size = nL) (hroom : (rest.map fun v => v.category).sum ≤ 8) (hdg : decode cc pc = .ok (.invokevirtual 159, 3)) (hcs : cells + 0 ≤ R.cells ∧ slots + 0 ≤ R.slots) (kk : ∀ (H1 : Heap) (locs1 : List Loc), HS G s x.2 H1 locs1 → W p l e R s m args below meth c H1 locs1 cells slots Q (F0 m (pc + 3) ls (.int x.1 :: rest))) : W p l e R s m args below meth c H locs cells slots Q (F0 m pc ls (.int q0 :: .ref a :: rest)) := by
  refine kI hH (rV (As := [.int q0]) (rest := rest) X hH (t_X11_feet h) vc_11 (c_X11_feet l G μ a q0 x h) (List.forall_mem_cons.mpr ⟨u_772, (List.forall_mem_cons.mpr ⟨u_773, (List.forall_mem_cons.mpr ⟨u_774, (List.forall_mem_cons.mpr ⟨u_21, (fun _ h9 => absurd h9 List.not_mem_nil)⟩)⟩)⟩)⟩) u_775 (rmo hRL (Nat.le_trans (by decide) hk.1) (Nat.le_trans (by decide) hk.2)) ddV_X11_feet rfl hls rfl hroom hdg hcs) kk
set_option maxHeartbeats 1000000 in
theorem iv_L_162 {p : Program} {e : Env} {R : Room} {s : State} {m : MethodId} {args : Array Value} {below : List Frame} {meth : Method} {c : Code} {H : Heap} {locs : List Loc} {cells slots : Nat} {Q : State → Prop} {cc : ByteArray} {pc : Nat} {ls : Array Slot} {rest : List Value} {nL : Nat} {G : CG} {μ : Mm} {a : Nat}  {x : Int32 × Mm} {k k2 : Nat} (l : Launch) (X : Cx p s m args meth c cc nL RL G) (hH : HS G s μ H locs) (hRL : RmL R k k2) (hk : 6 + 1 ≤ k ∧ 129 ≤ k2) (h : f_X11_never μ a = some x) (hls : ls.size = nL) (hroom : (rest.map fun v => v.category).sum ≤ 8) (hdg : decode cc pc = .ok (.invokevirtual 162, 3)) (hcs : cells + 0 ≤ R.cells ∧ slots + 0 ≤ R.slots) (kk : ∀ (H1 : Heap) (locs1 : List Loc), HS G s x.2 H1 locs1 → W p l e R s m args below meth c H1 locs1 cells slots Q (F0 m (pc + 3) ls (.int x.1 :: rest))) : W p l e R s m args below meth c H locs cells slots Q (F0 m pc ls (.ref a :: rest)) := by
  refine kI hH (rV (As := []) (rest := rest) X hH (t_X11_never h) vc_11 (c_X11_never l G μ a x h) (List.forall_mem_cons.mpr ⟨u_776, (List.forall_mem_cons.mpr ⟨u_777, (List.forall_mem_cons.mpr ⟨u_778, (List.forall_mem_cons.mpr ⟨u_21, (fun _ h9 => absurd h9 List.not_mem_nil)⟩)⟩)⟩)⟩) u_779 (rmo hRL (Nat.le_trans (by decide) hk.1) (Nat.le_trans (by decide) hk.2)) ddV_X11_never rfl hls rfl hroom hdg hcs) kk
set_option maxHeartbeats 1000000 in
theorem iv_L_62 {p : Program} {e : Env} {R : Room} {s : State} {m : MethodId} {args : Array Value} {below : List Frame} {meth : Method} {c : Code} {H : Heap} {locs : List Loc} {cells slots : Nat} {Q : State → Prop} {cc : ByteArray} {pc : Nat} {ls : Array Slot} {rest : List Value} {nL : Nat} {G : CG} {μ : Mm} {q0 : Nat} {q1 : Int32} {q2 : Int32} {q3 : Int32} {x : Int32} {k k2 : Nat} (l : Launch) (X : Cx p s m args meth c cc nL RL G) (hH : HS G s μ H locs) (hRL : RmL R k k2) (hk : 2 + 1 ≤ k ∧ 43 ≤ k2) (h : f_L_says μ q0 q1 q2 q3 = some x) (hls : ls.size = nL) (hroom : (rest.map fun v => v.category).sum ≤ 8) (hdg : decode cc pc = .ok (.invokestatic 62, 3)) (hcs : cells + 0 ≤ R.cells ∧ slots + 0 ≤ R.slots) (kk : ∀ (H1 : Heap) (locs1 : List Loc), HS G s μ H1 locs1 → W p l e R s m args below meth c H1 locs1 cells slots Q (F0 m (pc + 3) ls (.int x :: rest))) : W p l e R s m args below meth c H locs cells slots Q (F0 m pc ls (.int q3 :: .int q2 :: .int q1 :: .ref q0 :: rest)) := by
  refine kI hH (rS (As := [.ref q0, .int q1, .int q2, .int q3]) (rest := rest) X hH (c_L_says l G μ q0 q1 q2 q3 x h) (List.forall_mem_cons.mpr ⟨u_786, (List.forall_mem_cons.mpr ⟨u_787, (List.forall_mem_cons.mpr ⟨u_20, (fun _ h9 => absurd h9 List.not_mem_nil)⟩)⟩)⟩) u_788 (rmo hRL (Nat.le_trans (by decide) hk.1) (Nat.le_trans (by decide) hk.2)) ddS_L_says rfl hls rfl hroom hdg hcs) kk
set_option maxHeartbeats 4000000 in
set_option maxRecDepth 100000 in
theorem w_L_fewest_130 {p : Program} {e : Env} {R : Room} {s : State} {m : MethodId} {args : Array Value} {below : List Frame} {meth : Method} {c : Code} {cells slots : Nat} {Q : State → Prop} {G : CG} (l : Launch) (X : Cx p s m args meth c cL_fewest 10 RL G) (hRL : RmL R 8 151) (hcs : cells ≤ R.cells ∧ slots ≤ R.slots) : ∀ (n : Nat) (v0 : Nat) (v2 : Int32) (v3 : Int32) (v4 : Int32) (v5 : Int32) (v7 : Int32) (μ : Mm) (x : Nat × Mm), lp_L_fewest_130 (gS G) n v0 v2 v3 v4 v5 v7 μ = some x → (∀ (H : Heap) (locs : List Loc) (ls : Array Slot), x.1 = 0 → HS G s x.2 H locs → lv_has ls 10 [] → W p l e R s m args below meth c H locs cells slots Q (F0 m 176 ls [])) → (∀ (H : Heap) (locs : List Loc) (ls : Array Slot), x.1 = 1 → HS G s x.2 H locs → lv_has ls 10 [(0, .ref v0), (3, .int v3), (4, .int v4), (5, .int v5)] → W p l e R s m args below meth c H locs cells slots Q (F0 m 184 ls [])) → ∀ (H : Heap) (locs : List Loc) (ls : Array Slot), HS G s μ H locs → lv_has ls 10 [(0, .ref v0), (2, .int v2), (3, .int v3), (4, .int v4), (5, .int v5), (7, .int v7)] → W p l e R s m args below meth c H locs cells slots Q (F0 m 130 ls []) := by
  have hx := X.1
  have hb := X.2.1
  have hown := X.2.2.2.1
  have hts := X.2.2.2.2.1
  intro n
  induction n with
  | zero =>
    intro v0 v2 v3 v4 v5 v7 μ x h
    rw [lp_L_fewest_130] at h
    cases h
  | succ n ih =>
    intro v0 v2 v3 v4 v5 v7 μ x h k0 k1 H locs ls hH hl
    rw [lp_L_fewest_130] at h
    refine lv_iload hx hb dL_fewest_130 (lv_at hl 5 rfl) ?_
    refine lv_if_le (tgt := 184) hx hb dL_fewest_132 (by decide) (fun hc14 => ?_) (fun hc14 => ?_)
    · replace h := ift h hc14
      cases h
      exact k1 _ _ _ rfl hH (lv_sub hl [0, 2, 3, 4] rfl)
    · replace h := iff' h hc14
      refine lv_aload_n hx hb dL_fewest_135 rfl (lv_at hl 0 rfl) ?_
      refine lv_iload hx hb dL_fewest_136 (lv_at hl 3 rfl) ?_
      obtain ⟨x15, hx15, h⟩ := bnd h
      refine iv_L_157 l X hH hRL (by decide) hx15 hl.1 (Nat.le_of_ble_eq_true rfl) dL_fewest_138 hcs (fun H locs hH => ?_)
      refine lv_istore (lv' := [(8, .int x15.1), (0, .ref v0), (2, .int v2), (3, .int v3), (4, .int v4), (5, .int v5), (7, .int v7)]) hx hb dL_fewest_141 hl (by decide) rfl (fun ls hl => ?_)
      refine lv_aload_n hx hb dL_fewest_143 rfl (lv_at hl 1 rfl) ?_
      obtain ⟨x16, hx16, h⟩ := bnd h
      refine iv_L_45 l X hH hRL (by decide) hx16 hl.1 (Nat.le_of_ble_eq_true rfl) dL_fewest_144 hcs (fun H locs hH => ?_)
      refine lv_istore (lv' := [(9, .int x16), (8, .int x15.1), (0, .ref v0), (2, .int v2), (3, .int v3), (4, .int v4), (5, .int v5), (7, .int v7)]) hx hb dL_fewest_147 hl (by decide) rfl (fun ls hl => ?_)
      refine lv_iload hx hb dL_fewest_149 (lv_at hl 1 rfl) ?_
      refine lv_iload hx hb dL_fewest_151 (lv_at hl 7 rfl) ?_
      refine lv_icmp_ne (tgt := 176) hx hb dL_fewest_153 (by decide) (fun hc17 => ?_) (fun hc17 => ?_)
      · replace h := iff' h hc17
        cases h
        exact k0 _ _ _ rfl hH (lv_sub hl [] rfl)
      · replace h := ift h hc17
        refine lv_iload hx hb dL_fewest_156 (lv_at hl 0 rfl) ?_
        refine lv_if_lt (tgt := 176) hx hb dL_fewest_158 (by decide) (fun hc18 => ?_) (fun hc18 => ?_)
        · replace h := ift h hc18
          cases h
          exact k0 _ _ _ rfl hH (lv_sub hl [] rfl)
        · replace h := iff' h hc18
          refine lv_iload hx hb dL_fewest_161 (lv_at hl 0 rfl) ?_
          refine lv_iload_n hx hb dL_fewest_163 rfl (lv_at hl 3 rfl) ?_
          refine lv_icmp_ge (tgt := 176) hx hb dL_fewest_164 (by decide) (fun hc19 => ?_) (fun hc19 => ?_)
          · replace h := ift h hc19
            cases h
            exact k0 _ _ _ rfl hH (lv_sub hl [] rfl)
          · replace h := iff' h hc19
            refine lv_aload_n hx hb dL_fewest_167 rfl (lv_at hl 2 rfl) ?_
            refine lv_iload hx hb dL_fewest_168 (lv_at hl 0 rfl) ?_
            obtain ⟨x20, hx20, h⟩ := bnd h
            refine iv_L_98 l X hH hRL (by decide) hx20 hl.1 (Nat.le_of_ble_eq_true rfl) dL_fewest_170 hcs (fun H locs hH => ?_)
            refine lv_if_ge (tgt := 178) hx hb dL_fewest_173 (by decide) (fun hc21 => ?_) (fun hc21 => ?_)
            · replace h := ift h hc21
              refine lv_iinc (v := (v7 + (-1))) (lv' := [(7, .int (v7 + (-1))), (9, .int x16), (8, .int x15.1), (0, .ref v0), (2, .int v2), (3, .int v3), (4, .int v4), (5, .int v5)]) hx hb dL_fewest_178 hl (k := 7) rfl rfl (by decide) rfl (fun ls hl => ?_)
              refine lv_goto (tgt := 130) hx hb dL_fewest_181 (by decide) ?_
              exact ih _ _ _ _ _ _ _ _ h k0 k1 _ _ _ hH (lv_sub hl [3, 4, 5, 6, 7, 0] rfl)
            · replace h := iff' h hc21
              cases h
              exact k0 _ _ _ rfl hH (lv_sub hl [] rfl)
set_option maxHeartbeats 4000000 in
set_option maxRecDepth 100000 in
theorem c_L_fewest (l : Launch) (G : CG) (μ : Mm) (p0 : Nat) (p1 : Nat) (p2 : Int32) (p3 : Int32) (x : Int32 × Mm) (h : f_L_fewest (gS G) μ p0 p1 p2 p3 = some x) : Met l yL_fewest (.code yL_fewest cL_fewest 10 (some .boolean) :: UW) (rmk 8 151 0 0) (PC G [.ref p0, .ref p1, .int p2, .int p3] μ) (QI G x.1 x.2) 0 0 (fA G) := by
  refine Met.ofW (cc := cL_fewest) (maxL := 10) (ret := (some .boolean)) (by decide) rfl ?_
  intro p e s m args below meth c s₁ B hml hv
  obtain ⟨X, hH, hr, rfl, hnm⟩ := cx_in B hml hv
  have X : Cx p s m _ meth c cL_fewest 10 RL G := X
  have hx := X.1
  have hb := X.2.1
  have hown := X.2.2.2.1
  have hts := X.2.2.2.2.1
  have hRL : RmL (rmk 8 151 0 0) 8 151 := ⟨Nat.le_refl _, Nat.le_refl _⟩
  have hcs : 0 ≤ (rmk 0 0 0 0).cells ∧ 0 ≤ (rmk 0 0 0 0).slots := ⟨Nat.zero_le _, Nat.zero_le _⟩
  refine ls_in (Nat.le_of_ble_eq_true rfl) (fun ls hl => ?_)
  have hl : lv_has ls 10 [(0, .ref p0), (1, .ref p1), (2, .int p2), (3, .int p3)] := hl
  unfold f_L_fewest at h
  refine lv_aload_n hx hb dL_fewest_0 rfl (lv_at hl 1 rfl) ?_
  refine lv_bipush (v := 42) hx hb dL_fewest_1 (by decide) ?_
  obtain ⟨x1, hx1, h⟩ := bnd h
  refine iv_L_14 l X hH hRL (by decide) hx1 hl.1 (Nat.le_of_ble_eq_true rfl) dL_fewest_3 hcs (fun H locs hH => ?_)
  refine lv_aload_n hx hb dL_fewest_6 rfl (lv_at hl 0 rfl) ?_
  refine lv_iconst (v := 1) hx hb dL_fewest_7 (by decide) ?_
  obtain ⟨x2, hx2, h⟩ := bnd h
  refine iv_L_49 l X hH hRL (by decide) hx2 hl.1 (Nat.le_of_ble_eq_true rfl) dL_fewest_8 hcs (fun H locs hH => ?_)
  obtain ⟨hd3, h⟩ := gsf h
  refine lv_irem hx hb dL_fewest_11 hd3 ?_
  refine lv_istore (lv' := [(4, .int (x1 - x1 / x2 * x2)), (0, .ref p0), (1, .ref p1), (2, .int p2), (3, .int p3)]) hx hb dL_fewest_12 hl (by decide) rfl (fun ls hl => ?_)
  refine lv_aload_n hx hb dL_fewest_14 rfl (lv_at hl 1 rfl) ?_
  refine lv_iload hx hb dL_fewest_15 (lv_at hl 0 rfl) ?_
  obtain ⟨x4, hx4, h⟩ := bnd h
  refine iv_L_157 l X hH hRL (by decide) hx4 hl.1 (Nat.le_of_ble_eq_true rfl) dL_fewest_17 hcs (fun H locs hH => ?_)
  refine lv_istore (lv' := [(5, .int x4.1), (4, .int (x1 - x1 / x2 * x2)), (0, .ref p0), (1, .ref p1), (2, .int p2), (3, .int p3)]) hx hb dL_fewest_20 hl (by decide) rfl (fun ls hl => ?_)
  refine lv_aload_n hx hb dL_fewest_22 rfl (lv_at hl 2 rfl) ?_
  refine lv_iload hx hb dL_fewest_23 (lv_at hl 1 rfl) ?_
  obtain ⟨x5, hx5, h⟩ := bnd h
  refine iv_L_159 l X hH hRL (by decide) hx5 hl.1 (Nat.le_of_ble_eq_true rfl) dL_fewest_25 hcs (fun H locs hH => ?_)
  refine lv_istore (lv' := [(6, .int x5.1), (5, .int x4.1), (4, .int (x1 - x1 / x2 * x2)), (0, .ref p0), (1, .ref p1), (2, .int p2), (3, .int p3)]) hx hb dL_fewest_28 hl (by decide) rfl (fun ls hl => ?_)
  refine lv_iload hx hb dL_fewest_30 (lv_at hl 1 rfl) ?_
  refine lv_if_ge (tgt := 82) hx hb dL_fewest_32 (by decide) (fun hc6 => ?_) (fun hc6 => ?_)
  · replace h := ift h hc6
    refine lv_iload hx hb dL_fewest_82 (lv_at hl 0 rfl) ?_
    refine lv_iload hx hb dL_fewest_84 (lv_at hl 1 rfl) ?_
    refine lv_icmp_lt (tgt := 106) hx hb dL_fewest_86 (by decide) (fun hc7 => ?_) (fun hc7 => ?_)
    · replace h := ift h hc7
      refine lv_iload hx hb dL_fewest_106 (lv_at hl 1 rfl) ?_
      refine lv_bipush (v := 40) hx hb dL_fewest_108 (by decide) ?_
      refine lv_icmp_le (tgt := 124) hx hb dL_fewest_110 (by decide) (fun hc8 => ?_) (fun hc8 => ?_)
      · replace h := ift h hc8
        refine lv_iconst (v := 0) hx hb dL_fewest_124 (by decide) ?_
        exact eZ X hH (by decide) h hr dL_fewest_125 (Nat.le_of_ble_eq_true rfl) (Nat.le_of_ble_eq_true rfl)
      · replace h := iff' h hc8
        refine lv_iload hx hb dL_fewest_113 (lv_at hl 0 rfl) ?_
        refine lv_iload hx hb dL_fewest_115 (lv_at hl 1 rfl) ?_
        refine lv_icmp_lt (tgt := 124) hx hb dL_fewest_117 (by decide) (fun hc9 => ?_) (fun hc9 => ?_)
        · replace h := ift h hc9
          refine lv_iconst (v := 0) hx hb dL_fewest_124 (by decide) ?_
          exact eZ X hH (by decide) h hr dL_fewest_125 (Nat.le_of_ble_eq_true rfl) (Nat.le_of_ble_eq_true rfl)
        · replace h := iff' h hc9
          refine lv_iconst (v := 1) hx hb dL_fewest_120 (by decide) ?_
          refine lv_goto (tgt := 125) hx hb dL_fewest_121 (by decide) ?_
          exact eZ X hH (by decide) h hr dL_fewest_125 (Nat.le_of_ble_eq_true rfl) (Nat.le_of_ble_eq_true rfl)
    · replace h := iff' h hc7
      refine lv_iload hx hb dL_fewest_89 (lv_at hl 0 rfl) ?_
      refine lv_bipush (v := 9) hx hb dL_fewest_91 (by decide) ?_
      refine lv_iload hx hb dL_fewest_93 (lv_at hl 1 rfl) ?_
      refine lv_imul hx hb dL_fewest_95 ?_
      refine lv_icmp_gt (tgt := 106) hx hb dL_fewest_96 (by decide) (fun hc10 => ?_) (fun hc10 => ?_)
      · replace h := ift h hc10
        refine lv_iload hx hb dL_fewest_106 (lv_at hl 1 rfl) ?_
        refine lv_bipush (v := 40) hx hb dL_fewest_108 (by decide) ?_
        refine lv_icmp_le (tgt := 124) hx hb dL_fewest_110 (by decide) (fun hc11 => ?_) (fun hc11 => ?_)
        · replace h := ift h hc11
          refine lv_iconst (v := 0) hx hb dL_fewest_124 (by decide) ?_
          exact eZ X hH (by decide) h hr dL_fewest_125 (Nat.le_of_ble_eq_true rfl) (Nat.le_of_ble_eq_true rfl)
        · replace h := iff' h hc11
          refine lv_iload hx hb dL_fewest_113 (lv_at hl 0 rfl) ?_
          refine lv_iload hx hb dL_fewest_115 (lv_at hl 1 rfl) ?_
          refine lv_icmp_lt (tgt := 124) hx hb dL_fewest_117 (by decide) (fun hc12 => ?_) (fun hc12 => ?_)
          · replace h := ift h hc12
            refine lv_iconst (v := 0) hx hb dL_fewest_124 (by decide) ?_
            exact eZ X hH (by decide) h hr dL_fewest_125 (Nat.le_of_ble_eq_true rfl) (Nat.le_of_ble_eq_true rfl)
          · replace h := iff' h hc12
            refine lv_iconst (v := 1) hx hb dL_fewest_120 (by decide) ?_
            refine lv_goto (tgt := 125) hx hb dL_fewest_121 (by decide) ?_
            exact eZ X hH (by decide) h hr dL_fewest_125 (Nat.le_of_ble_eq_true rfl) (Nat.le_of_ble_eq_true rfl)
      · replace h := iff' h hc10
        refine lv_iload hx hb dL_fewest_99 (lv_at hl 1 rfl) ?_
        refine lv_bipush (v := 40) hx hb dL_fewest_101 (by decide) ?_
        refine lv_icmp_le (tgt := 126) hx hb dL_fewest_103 (by decide) (fun hc13 => ?_) (fun hc13 => ?_)
        · replace h := ift h hc13
          refine lv_iload hx hb dL_fewest_126 (lv_at hl 1 rfl) ?_
          refine lv_istore (lv' := [(7, .int x4.1), (6, .int x5.1), (5, .int x4.1), (4, .int (x1 - x1 / x2 * x2)), (0, .ref p0), (1, .ref p1), (2, .int p2), (3, .int p3)]) hx hb dL_fewest_128 hl (by decide) rfl (fun ls hl => ?_)
          obtain ⟨x22, hx22, hhx22⟩ := bnd h
          clear h
          refine w_L_fewest_130 l X hRL hcs BIG p0 p2 p3 (x1 - x1 / x2 * x2) x4.1 x4.1 x5.2 x22 hx22 (fun H locs ls hj hH hl => ?_) (fun H locs ls hj hH hl => ?_) _ _ _ hH (lv_sub hl [4, 6, 7, 3, 2, 0] rfl)
          · have h := hhx22
            clear hhx22
            replace h := ift h hj
            refine lv_iconst (v := 0) hx hb dL_fewest_176 (by decide) ?_
            exact eZ X hH (by decide) h hr dL_fewest_177 (Nat.le_of_ble_eq_true rfl) (Nat.le_of_ble_eq_true rfl)
          · have h := hhx22
            clear hhx22
            replace h := iff' h (by rw [hj]; decide)
            refine lv_aload_n hx hb dL_fewest_184 rfl (lv_at hl 0 rfl) ?_
            refine lv_iconst (v := 2) hx hb dL_fewest_185 (by decide) ?_
            obtain ⟨x23, hx23, h⟩ := bnd h
            refine iv_L_49 l X hH hRL (by decide) hx23 hl.1 (Nat.le_of_ble_eq_true rfl) dL_fewest_186 hcs (fun H locs hH => ?_)
            refine lv_iload hx hb dL_fewest_189 (lv_at hl 2 rfl) ?_
            refine lv_icmp_ne (tgt := 233) hx hb dL_fewest_191 (by decide) (fun hc24 => ?_) (fun hc24 => ?_)
            · replace h := iff' h hc24
              refine lv_iconst (v := 0) hx hb dL_fewest_233 (by decide) ?_
              exact eZ X hH (by decide) h hr dL_fewest_234 (Nat.le_of_ble_eq_true rfl) (Nat.le_of_ble_eq_true rfl)
            · replace h := ift h hc24
              refine lv_aload_n hx hb dL_fewest_194 rfl (lv_at hl 0 rfl) ?_
              refine lv_aload_n hx hb dL_fewest_195 rfl (lv_at hl 0 rfl) ?_
              refine lv_iload hx hb dL_fewest_196 (lv_at hl 2 rfl) ?_
              obtain ⟨x25, hx25, h⟩ := bnd h
              refine iv_L_157 l X hH hRL (by decide) hx25 hl.1 (Nat.le_of_ble_eq_true rfl) dL_fewest_198 hcs (fun H locs hH => ?_)
              refine lv_iconst (v := 0) hx hb dL_fewest_201 (by decide) ?_
              refine lv_bipush (v := -9) hx hb dL_fewest_202 (by decide) ?_
              obtain ⟨x26, hx26, h⟩ := bnd h
              refine iv_L_62 l X hH hRL (by decide) hx26 hl.1 (Nat.le_of_ble_eq_true rfl) dL_fewest_204 hcs (fun H locs hH => ?_)
              refine lv_if_eq (tgt := 233) hx hb dL_fewest_207 (by decide) (fun hc27 => ?_) (fun hc27 => ?_)
              · replace h := ift h hc27
                refine lv_iconst (v := 0) hx hb dL_fewest_233 (by decide) ?_
                exact eZ X hH (by decide) h hr dL_fewest_234 (Nat.le_of_ble_eq_true rfl) (Nat.le_of_ble_eq_true rfl)
              · replace h := iff' h hc27
                refine lv_aload_n hx hb dL_fewest_210 rfl (lv_at hl 0 rfl) ?_
                refine lv_iload hx hb dL_fewest_211 (lv_at hl 2 rfl) ?_
                obtain ⟨x28, hx28, h⟩ := bnd h
                refine iv_L_159 l X hH hRL (by decide) hx28 hl.1 (Nat.le_of_ble_eq_true rfl) dL_fewest_213 hcs (fun H locs hH => ?_)
                refine lv_if_ne (tgt := 233) hx hb dL_fewest_216 (by decide) (fun hc29 => ?_) (fun hc29 => ?_)
                · replace h := iff' h hc29
                  refine lv_iconst (v := 0) hx hb dL_fewest_233 (by decide) ?_
                  exact eZ X hH (by decide) h hr dL_fewest_234 (Nat.le_of_ble_eq_true rfl) (Nat.le_of_ble_eq_true rfl)
                · replace h := ift h hc29
                  refine lv_aload_n hx hb dL_fewest_219 rfl (lv_at hl 0 rfl) ?_
                  refine lv_iload_n hx hb dL_fewest_220 rfl (lv_at hl 1 rfl) ?_
                  obtain ⟨x30, hx30, h⟩ := bnd h
                  refine iv_L_145 l X hH hRL (by decide) hx30 hl.1 (Nat.le_of_ble_eq_true rfl) dL_fewest_221 hcs (fun H locs hH => ?_)
                  refine lv_iload hx hb dL_fewest_224 (lv_at hl 3 rfl) ?_
                  refine lv_icmp_ne (tgt := 233) hx hb dL_fewest_226 (by decide) (fun hc31 => ?_) (fun hc31 => ?_)
                  · replace h := iff' h hc31
                    refine lv_iconst (v := 0) hx hb dL_fewest_233 (by decide) ?_
                    exact eZ X hH (by decide) h hr dL_fewest_234 (Nat.le_of_ble_eq_true rfl) (Nat.le_of_ble_eq_true rfl)
                  · replace h := ift h hc31
                    refine lv_iconst (v := 1) hx hb dL_fewest_229 (by decide) ?_
                    refine lv_goto (tgt := 234) hx hb dL_fewest_230 (by decide) ?_
                    exact eZ X hH (by decide) h hr dL_fewest_234 (Nat.le_of_ble_eq_true rfl) (Nat.le_of_ble_eq_true rfl)
        · replace h := iff' h hc13
          refine lv_iload hx hb dL_fewest_106 (lv_at hl 1 rfl) ?_
          refine lv_bipush (v := 40) hx hb dL_fewest_108 (by decide) ?_
          refine lv_icmp_le (tgt := 124) hx hb dL_fewest_110 (by decide) (fun hc32 => ?_) (fun hc32 => ?_)
          · replace h := ift h hc32
            refine lv_iconst (v := 0) hx hb dL_fewest_124 (by decide) ?_
            exact eZ X hH (by decide) h hr dL_fewest_125 (Nat.le_of_ble_eq_true rfl) (Nat.le_of_ble_eq_true rfl)
          · replace h := iff' h hc32
            refine lv_iload hx hb dL_fewest_113 (lv_at hl 0 rfl) ?_
            refine lv_iload hx hb dL_fewest_115 (lv_at hl 1 rfl) ?_
            refine lv_icmp_lt (tgt := 124) hx hb dL_fewest_117 (by decide) (fun hc33 => ?_) (fun hc33 => ?_)
            · replace h := ift h hc33
              refine lv_iconst (v := 0) hx hb dL_fewest_124 (by decide) ?_
              exact eZ X hH (by decide) h hr dL_fewest_125 (Nat.le_of_ble_eq_true rfl) (Nat.le_of_ble_eq_true rfl)
            · replace h := iff' h hc33
              refine lv_iconst (v := 1) hx hb dL_fewest_120 (by decide) ?_
              refine lv_goto (tgt := 125) hx hb dL_fewest_121 (by decide) ?_
              exact eZ X hH (by decide) h hr dL_fewest_125 (Nat.le_of_ble_eq_true rfl) (Nat.le_of_ble_eq_true rfl)
  · replace h := iff' h hc6
    refine lv_aload_n hx hb dL_fewest_35 rfl (lv_at hl 3 rfl) ?_
    obtain ⟨x34, hx34, h⟩ := bnd h
    refine iv_L_162 l X hH hRL (by decide) hx34 hl.1 (Nat.le_of_ble_eq_true rfl) dL_fewest_36 hcs (fun H locs hH => ?_)
    refine lv_istore (lv' := [(7, .int x34.1), (6, .int x5.1), (5, .int x4.1), (4, .int (x1 - x1 / x2 * x2)), (0, .ref p0), (1, .ref p1), (2, .int p2), (3, .int p3)]) hx hb dL_fewest_39 hl (by decide) rfl (fun ls hl => ?_)
    refine lv_iload hx hb dL_fewest_41 (lv_at hl 2 rfl) ?_
    refine lv_bipush (v := -9) hx hb dL_fewest_43 (by decide) ?_
    refine lv_icmp_ne (tgt := 80) hx hb dL_fewest_45 (by decide) (fun hc35 => ?_) (fun hc35 => ?_)
    · replace h := iff' h hc35
      refine lv_iconst (v := 0) hx hb dL_fewest_80 (by decide) ?_
      exact eZ X hH (by decide) h hr dL_fewest_81 (Nat.le_of_ble_eq_true rfl) (Nat.le_of_ble_eq_true rfl)
    · replace h := ift h hc35
      refine lv_iload hx hb dL_fewest_48 (lv_at hl 1 rfl) ?_
      refine lv_bipush (v := -9) hx hb dL_fewest_50 (by decide) ?_
      refine lv_icmp_ne (tgt := 80) hx hb dL_fewest_52 (by decide) (fun hc36 => ?_) (fun hc36 => ?_)
      · replace h := iff' h hc36
        refine lv_iconst (v := 0) hx hb dL_fewest_80 (by decide) ?_
        exact eZ X hH (by decide) h hr dL_fewest_81 (Nat.le_of_ble_eq_true rfl) (Nat.le_of_ble_eq_true rfl)
      · replace h := ift h hc36
        refine lv_iload hx hb dL_fewest_55 (lv_at hl 0 rfl) ?_
        refine lv_if_le (tgt := 80) hx hb dL_fewest_57 (by decide) (fun hc37 => ?_) (fun hc37 => ?_)
        · replace h := ift h hc37
          refine lv_iconst (v := 0) hx hb dL_fewest_80 (by decide) ?_
          exact eZ X hH (by decide) h hr dL_fewest_81 (Nat.le_of_ble_eq_true rfl) (Nat.le_of_ble_eq_true rfl)
        · replace h := iff' h hc37
          refine lv_aload_n hx hb dL_fewest_60 rfl (lv_at hl 4 rfl) ?_
          obtain ⟨x38, hx38, h⟩ := bnd h
          refine iv_L_45 l X hH hRL (by decide) hx38 hl.1 (Nat.le_of_ble_eq_true rfl) dL_fewest_61 hcs (fun H locs hH => ?_)
          refine lv_if_lt (tgt := 80) hx hb dL_fewest_64 (by decide) (fun hc39 => ?_) (fun hc39 => ?_)
          · replace h := ift h hc39
            refine lv_iconst (v := 0) hx hb dL_fewest_80 (by decide) ?_
            exact eZ X hH (by decide) h hr dL_fewest_81 (Nat.le_of_ble_eq_true rfl) (Nat.le_of_ble_eq_true rfl)
          · replace h := iff' h hc39
            refine lv_aload_n hx hb dL_fewest_67 rfl (lv_at hl 4 rfl) ?_
            obtain ⟨x40, hx40, h⟩ := bnd h
            refine iv_L_45 l X hH hRL (by decide) hx40 hl.1 (Nat.le_of_ble_eq_true rfl) dL_fewest_68 hcs (fun H locs hH => ?_)
            refine lv_iload hx hb dL_fewest_71 (lv_at hl 3 rfl) ?_
            refine lv_icmp_gt (tgt := 80) hx hb dL_fewest_73 (by decide) (fun hc41 => ?_) (fun hc41 => ?_)
            · replace h := ift h hc41
              refine lv_iconst (v := 0) hx hb dL_fewest_80 (by decide) ?_
              exact eZ X hH (by decide) h hr dL_fewest_81 (Nat.le_of_ble_eq_true rfl) (Nat.le_of_ble_eq_true rfl)
            · replace h := iff' h hc41
              refine lv_iconst (v := 1) hx hb dL_fewest_76 (by decide) ?_
              refine lv_goto (tgt := 81) hx hb dL_fewest_77 (by decide) ?_
              exact eZ X hH (by decide) h hr dL_fewest_81 (Nat.le_of_ble_eq_true rfl) (Nat.le_of_ble_eq_true rfl)
set_option maxHeartbeats 1000000 in
theorem iv_L_165 {p : Program} {e : Env} {R : Room} {s : State} {m : MethodId} {args : Array Value} {below : List Frame} {meth : Method} {c : Code} {H : Heap} {locs : List Loc} {cells slots : Nat} {Q : State → Prop} {cc : ByteArray} {pc : Nat} {ls : Array Slot} {rest : List Value} {nL : Nat} {G : CG} {μ : Mm} {a : Nat} {q0 : Int32} {x : Int32 × Mm} {k k2 : Nat} (l : Launch) (X : Cx p s m args meth c cc nL RL G) (hH : HS G s μ H locs) (hRL : RmL R k k2) (hk : 6 + 1 ≤ k ∧ 127 ≤ k2) (h : f_X11_fits μ a q0 = some x) (hls : ls.size = nL) (hroom : (rest.map fun v => v.category).sum ≤ 8) (hdg : decode cc pc = .ok (.invokevirtual 165, 3)) (hcs : cells + 0 ≤ R.cells ∧ slots + 0 ≤ R.slots) (kk : ∀ (H1 : Heap) (locs1 : List Loc), HS G s x.2 H1 locs1 → W p l e R s m args below meth c H1 locs1 cells slots Q (F0 m (pc + 3) ls (.int x.1 :: rest))) : W p l e R s m args below meth c H locs cells slots Q (F0 m pc ls (.int q0 :: .ref a :: rest)) := by
  refine kI hH (rV (As := [.int q0]) (rest := rest) X hH (t_X11_fits h) vc_11 (c_X11_fits l G μ a q0 x h) (List.forall_mem_cons.mpr ⟨u_792, (List.forall_mem_cons.mpr ⟨u_793, (List.forall_mem_cons.mpr ⟨u_794, (List.forall_mem_cons.mpr ⟨u_21, (fun _ h9 => absurd h9 List.not_mem_nil)⟩)⟩)⟩)⟩) u_795 (rmo hRL (Nat.le_trans (by decide) hk.1) (Nat.le_trans (by decide) hk.2)) ddV_X11_fits rfl hls rfl hroom hdg hcs) kk
set_option maxHeartbeats 1000000 in
theorem iv_L_168 {p : Program} {e : Env} {R : Room} {s : State} {m : MethodId} {args : Array Value} {below : List Frame} {meth : Method} {c : Code} {H : Heap} {locs : List Loc} {cells slots : Nat} {Q : State → Prop} {cc : ByteArray} {pc : Nat} {ls : Array Slot} {rest : List Value} {nL : Nat} {G : CG} {μ : Mm} {a : Nat} {q0 : Int32} {x : Int32 × Mm} {k k2 : Nat} (l : Launch) (X : Cx p s m args meth c cc nL RL G) (hH : HS G s μ H locs) (hRL : RmL R k k2) (hk : 7 + 1 ≤ k ∧ 154 ≤ k2) (h : f_X11_sure μ a q0 = some x) (hls : ls.size = nL) (hroom : (rest.map fun v => v.category).sum ≤ 8) (hdg : decode cc pc = .ok (.invokevirtual 168, 3)) (hcs : cells + 0 ≤ R.cells ∧ slots + 0 ≤ R.slots) (kk : ∀ (H1 : Heap) (locs1 : List Loc), HS G s x.2 H1 locs1 → W p l e R s m args below meth c H1 locs1 cells slots Q (F0 m (pc + 3) ls (.int x.1 :: rest))) : W p l e R s m args below meth c H locs cells slots Q (F0 m pc ls (.int q0 :: .ref a :: rest)) := by
  refine kI hH (rV (As := [.int q0]) (rest := rest) X hH (t_X11_sure h) vc_11 (c_X11_sure l G μ a q0 x h) (List.forall_mem_cons.mpr ⟨u_804, (List.forall_mem_cons.mpr ⟨u_805, (List.forall_mem_cons.mpr ⟨u_806, (List.forall_mem_cons.mpr ⟨u_21, (fun _ h9 => absurd h9 List.not_mem_nil)⟩)⟩)⟩)⟩) u_807 (rmo hRL (Nat.le_trans (by decide) hk.1) (Nat.le_trans (by decide) hk.2)) ddV_X11_sure rfl hls rfl hroom hdg hcs) kk
set_option maxHeartbeats 1000000 in
theorem iv_L_72 {p : Program} {e : Env} {R : Room} {s : State} {m : MethodId} {args : Array Value} {below : List Frame} {meth : Method} {c : Code} {H : Heap} {locs : List Loc} {cells slots : Nat} {Q : State → Prop} {cc : ByteArray} {pc : Nat} {ls : Array Slot} {rest : List Value} {nL : Nat} {G : CG} {μ : Mm} {a : Nat}  {x : Int32} {k k2 : Nat} (l : Launch) (X : Cx p s m args meth c cc nL RL G) (hH : HS G s μ H locs) (hRL : RmL R k k2) (hk : 1 + 1 ≤ k ∧ 20 ≤ k2) (h : f_X11_finding μ a = some x) (hls : ls.size = nL) (hroom : (rest.map fun v => v.category).sum ≤ 8) (hdg : decode cc pc = .ok (.invokevirtual 72, 3)) (hcs : cells + 0 ≤ R.cells ∧ slots + 0 ≤ R.slots) (kk : ∀ (H1 : Heap) (locs1 : List Loc), HS G s μ H1 locs1 → W p l e R s m args below meth c H1 locs1 cells slots Q (F0 m (pc + 3) ls (.int x :: rest))) : W p l e R s m args below meth c H locs cells slots Q (F0 m pc ls (.ref a :: rest)) := by
  refine kI hH (rV (As := []) (rest := rest) X hH (t_X11_finding h) vc_11 (c_X11_finding l G μ a x h) (List.forall_mem_cons.mpr ⟨u_812, (List.forall_mem_cons.mpr ⟨u_813, (List.forall_mem_cons.mpr ⟨u_814, (List.forall_mem_cons.mpr ⟨u_21, (fun _ h9 => absurd h9 List.not_mem_nil)⟩)⟩)⟩)⟩) u_815 (rmo hRL (Nat.le_trans (by decide) hk.1) (Nat.le_trans (by decide) hk.2)) ddV_X11_finding rfl hls rfl hroom hdg hcs) kk
set_option maxHeartbeats 1000000 in
theorem iv_L_171 {p : Program} {e : Env} {R : Room} {s : State} {m : MethodId} {args : Array Value} {below : List Frame} {meth : Method} {c : Code} {H : Heap} {locs : List Loc} {cells slots : Nat} {Q : State → Prop} {cc : ByteArray} {pc : Nat} {ls : Array Slot} {rest : List Value} {nL : Nat} {G : CG} {μ : Mm} {a : Nat} {q0 : Int32} {x : Int32 × Mm} {k k2 : Nat} (l : Launch) (X : Cx p s m args meth c cc nL RL G) (hH : HS G s μ H locs) (hRL : RmL R k k2) (hk : 7 + 1 ≤ k ∧ 155 ≤ k2) (h : f_X11_ask μ a q0 = some x) (hls : ls.size = nL) (hroom : (rest.map fun v => v.category).sum ≤ 8) (hdg : decode cc pc = .ok (.invokevirtual 171, 3)) (hcs : cells + 0 ≤ R.cells ∧ slots + 0 ≤ R.slots) (kk : ∀ (H1 : Heap) (locs1 : List Loc), HS G s x.2 H1 locs1 → W p l e R s m args below meth c H1 locs1 cells slots Q (F0 m (pc + 3) ls (.int x.1 :: rest))) : W p l e R s m args below meth c H locs cells slots Q (F0 m pc ls (.int q0 :: .ref a :: rest)) := by
  refine kI hH (rV (As := [.int q0]) (rest := rest) X hH (t_X11_ask h) vc_11 (c_X11_ask l G μ a q0 x h) (List.forall_mem_cons.mpr ⟨u_816, (List.forall_mem_cons.mpr ⟨u_817, (List.forall_mem_cons.mpr ⟨u_818, (List.forall_mem_cons.mpr ⟨u_21, (fun _ h9 => absurd h9 List.not_mem_nil)⟩)⟩)⟩)⟩) u_819 (rmo hRL (Nat.le_trans (by decide) hk.1) (Nat.le_trans (by decide) hk.2)) ddV_X11_ask rfl hls rfl hroom hdg hcs) kk
set_option maxHeartbeats 4000000 in
set_option maxRecDepth 100000 in
theorem w_L_fitted_188 {p : Program} {e : Env} {R : Room} {s : State} {m : MethodId} {args : Array Value} {below : List Frame} {meth : Method} {c : Code} {cells slots : Nat} {Q : State → Prop} {G : CG} (l : Launch) (X : Cx p s m args meth c cL_fitted 16 RL G) (hRL : RmL R 8 155) (hcs : cells ≤ R.cells ∧ slots ≤ R.slots) : ∀ (n : Nat) (v0 : Nat) (v2 : Int32) (v3 : Int32) (v4 : Int32) (v5 : Int32) (v6 : Int32) (v13 : Int32) (v14 : Int32) (v15 : Int32) (μ : Mm) (x : Nat × Int32 × Mm), lp_L_fitted_188 (gS G) n v0 v2 v3 v4 v5 v6 v13 v14 v15 μ = some x → (∀ (H : Heap) (locs : List Loc) (ls : Array Slot), x.1 = 0 → HS G s x.2.2 H locs → lv_has ls 16 [] → W p l e R s m args below meth c H locs cells slots Q (F0 m 214 ls [])) → (∀ (H : Heap) (locs : List Loc) (ls : Array Slot), x.1 = 1 → HS G s x.2.2 H locs → lv_has ls 16 [(0, .ref v0), (3, .int v3), (4, .int v4), (5, .int v5), (13, .int v13), (14, .int x.2.1)] → W p l e R s m args below meth c H locs cells slots Q (F0 m 225 ls [])) → ∀ (H : Heap) (locs : List Loc) (ls : Array Slot), HS G s μ H locs → lv_has ls 16 [(0, .ref v0), (2, .int v2), (3, .int v3), (4, .int v4), (5, .int v5), (6, .int v6), (13, .int v13), (14, .int v14), (15, .int v15)] → W p l e R s m args below meth c H locs cells slots Q (F0 m 188 ls []) := by
  have hx := X.1
  have hb := X.2.1
  have hown := X.2.2.2.1
  have hts := X.2.2.2.2.1
  intro n
  induction n with
  | zero =>
    intro v0 v2 v3 v4 v5 v6 v13 v14 v15 μ x h
    rw [lp_L_fitted_188] at h
    cases h
  | succ n ih =>
    intro v0 v2 v3 v4 v5 v6 v13 v14 v15 μ x h k0 k1 H locs ls hH hl
    rw [lp_L_fitted_188] at h
    refine lv_iload hx hb dL_fitted_188 (lv_at hl 8 rfl) ?_
    refine lv_iload_n hx hb dL_fitted_190 rfl (lv_at hl 1 rfl) ?_
    refine lv_icmp_ge (tgt := 225) hx hb dL_fitted_191 (by decide) (fun hc22 => ?_) (fun hc22 => ?_)
    · replace h := ift h hc22
      cases h
      exact k1 _ _ _ rfl hH (lv_sub hl [0, 2, 3, 4, 6, 7] rfl)
    · replace h := iff' h hc22
      refine lv_iload hx hb dL_fitted_194 (lv_at hl 5 rfl) ?_
      refine lv_iload hx hb dL_fitted_196 (lv_at hl 8 rfl) ?_
      refine lv_ishr hx hb dL_fitted_198 ?_
      refine lv_iconst (v := 1) hx hb dL_fitted_199 (by decide) ?_
      refine lv_iand hx hb dL_fitted_200 ?_
      refine lv_iconst (v := 1) hx hb dL_fitted_201 (by decide) ?_
      refine lv_icmp_ne (tgt := 219) hx hb dL_fitted_202 (by decide) (fun hc23 => ?_) (fun hc23 => ?_)
      · replace h := iff' h hc23
        refine lv_iinc (v := (v15 + 1)) (lv' := [(15, .int (v15 + 1)), (0, .ref v0), (2, .int v2), (3, .int v3), (4, .int v4), (5, .int v5), (6, .int v6), (13, .int v13), (14, .int v14)]) hx hb dL_fitted_219 hl (k := 8) rfl rfl (by decide) rfl (fun ls hl => ?_)
        refine lv_goto (tgt := 188) hx hb dL_fitted_222 (by decide) ?_
        exact ih _ _ _ _ _ _ _ _ _ _ _ h k0 k1 _ _ _ hH (lv_sub hl [1, 2, 3, 4, 5, 6, 7, 8, 0] rfl)
      · replace h := ift h hc23
        refine lv_aload_n hx hb dL_fitted_205 rfl (lv_at hl 0 rfl) ?_
        refine lv_iload hx hb dL_fitted_206 (lv_at hl 8 rfl) ?_
        obtain ⟨x24, hx24, h⟩ := bnd h
        refine iv_L_98 l X hH hRL (by decide) hx24 hl.1 (Nat.le_of_ble_eq_true rfl) dL_fitted_208 hcs (fun H locs hH => ?_)
        refine lv_if_ge (tgt := 216) hx hb dL_fitted_211 (by decide) (fun hc25 => ?_) (fun hc25 => ?_)
        · replace h := ift h hc25
          refine lv_iinc (v := (v14 + 1)) (lv' := [(14, .int (v14 + 1)), (0, .ref v0), (2, .int v2), (3, .int v3), (4, .int v4), (5, .int v5), (6, .int v6), (13, .int v13), (15, .int v15)]) hx hb dL_fitted_216 hl (k := 7) rfl rfl (by decide) rfl (fun ls hl => ?_)
          refine lv_iinc (v := (v15 + 1)) (lv' := [(15, .int (v15 + 1)), (14, .int (v14 + 1)), (0, .ref v0), (2, .int v2), (3, .int v3), (4, .int v4), (5, .int v5), (6, .int v6), (13, .int v13)]) hx hb dL_fitted_219 hl (k := 8) rfl rfl (by decide) rfl (fun ls hl => ?_)
          refine lv_goto (tgt := 188) hx hb dL_fitted_222 (by decide) ?_
          exact ih _ _ _ _ _ _ _ _ _ _ _ h k0 k1 _ _ _ hH (lv_sub hl [2, 3, 4, 5, 6, 7, 8, 1, 0] rfl)
        · replace h := iff' h hc25
          cases h
          exact k0 _ _ _ rfl hH (lv_sub hl [] rfl)
set_option maxHeartbeats 4000000 in
set_option maxRecDepth 100000 in
theorem c_L_fitted (l : Launch) (G : CG) (μ : Mm) (p0 : Nat) (p1 : Nat) (p2 : Int32) (p3 : Int32) (x : Int32 × Mm) (h : f_L_fitted (gS G) μ p0 p1 p2 p3 = some x) : Met l yL_fitted (.code yL_fitted cL_fitted 16 (some .boolean) :: UW) (rmk 8 155 0 0) (PC G [.ref p0, .ref p1, .int p2, .int p3] μ) (QI G x.1 x.2) 0 0 (fA G) := by
  refine Met.ofW (cc := cL_fitted) (maxL := 16) (ret := (some .boolean)) (by decide) rfl ?_
  intro p e s m args below meth c s₁ B hml hv
  obtain ⟨X, hH, hr, rfl, hnm⟩ := cx_in B hml hv
  have X : Cx p s m _ meth c cL_fitted 16 RL G := X
  have hx := X.1
  have hb := X.2.1
  have hown := X.2.2.2.1
  have hts := X.2.2.2.2.1
  have hRL : RmL (rmk 8 155 0 0) 8 155 := ⟨Nat.le_refl _, Nat.le_refl _⟩
  have hcs : 0 ≤ (rmk 0 0 0 0).cells ∧ 0 ≤ (rmk 0 0 0 0).slots := ⟨Nat.zero_le _, Nat.zero_le _⟩
  refine ls_in (Nat.le_of_ble_eq_true rfl) (fun ls hl => ?_)
  have hl : lv_has ls 16 [(0, .ref p0), (1, .ref p1), (2, .int p2), (3, .int p3)] := hl
  unfold f_L_fitted at h
  refine lv_aload_n hx hb dL_fitted_0 rfl (lv_at hl 0 rfl) ?_
  refine lv_iconst (v := 1) hx hb dL_fitted_1 (by decide) ?_
  obtain ⟨x1, hx1, h⟩ := bnd h
  refine iv_L_49 l X hH hRL (by decide) hx1 hl.1 (Nat.le_of_ble_eq_true rfl) dL_fitted_2 hcs (fun H locs hH => ?_)
  refine lv_istore (lv' := [(4, .int x1), (0, .ref p0), (1, .ref p1), (2, .int p2), (3, .int p3)]) hx hb dL_fitted_5 hl (by decide) rfl (fun ls hl => ?_)
  refine lv_aload_n hx hb dL_fitted_7 rfl (lv_at hl 2 rfl) ?_
  refine lv_bipush (v := 43) hx hb dL_fitted_8 (by decide) ?_
  obtain ⟨x2, hx2, h⟩ := bnd h
  refine iv_L_14 l X hH hRL (by decide) hx2 hl.1 (Nat.le_of_ble_eq_true rfl) dL_fitted_10 hcs (fun H locs hH => ?_)
  refine lv_iload hx hb dL_fitted_13 (lv_at hl 0 rfl) ?_
  obtain ⟨hd3, h⟩ := gsf h
  refine lv_irem hx hb dL_fitted_15 hd3 ?_
  refine lv_istore (lv' := [(5, .int (x2 - x2 / x1 * x1)), (4, .int x1), (0, .ref p0), (1, .ref p1), (2, .int p2), (3, .int p3)]) hx hb dL_fitted_16 hl (by decide) rfl (fun ls hl => ?_)
  refine lv_aload_n hx hb dL_fitted_18 rfl (lv_at hl 2 rfl) ?_
  refine lv_aload_n hx hb dL_fitted_19 rfl (lv_at hl 2 rfl) ?_
  refine lv_iload hx hb dL_fitted_20 (lv_at hl 0 rfl) ?_
  obtain ⟨x4, hx4, h⟩ := bnd h
  refine iv_L_165 l X hH hRL (by decide) hx4 hl.1 (Nat.le_of_ble_eq_true rfl) dL_fitted_22 hcs (fun H locs hH => ?_)
  obtain ⟨x5, hx5, h⟩ := bnd h
  refine iv_L_55 l X hH hRL (by decide) hx5 hl.1 (Nat.le_of_ble_eq_true rfl) dL_fitted_25 hcs (fun H locs hH => ?_)
  refine lv_istore (lv' := [(6, .int x5), (5, .int (x2 - x2 / x1 * x1)), (4, .int x1), (0, .ref p0), (1, .ref p1), (2, .int p2), (3, .int p3)]) hx hb dL_fitted_28 hl (by decide) rfl (fun ls hl => ?_)
  refine lv_aload_n hx hb dL_fitted_30 rfl (lv_at hl 3 rfl) ?_
  obtain ⟨x6, hx6, h⟩ := bnd h
  refine iv_L_79 l X hH hRL (by decide) hx6 hl.1 (Nat.le_of_ble_eq_true rfl) dL_fitted_31 hcs (fun H locs hH => ?_)
  refine lv_lstore (lv' := [(7, .long x6), (6, .int x5), (5, .int (x2 - x2 / x1 * x1)), (4, .int x1), (0, .ref p0), (1, .ref p1), (2, .int p2), (3, .int p3)]) hx hb dL_fitted_34 hl (by decide) rfl (fun ls hl => ?_)
  refine lv_aload_n hx hb dL_fitted_36 rfl (lv_at hl 4 rfl) ?_
  refine lv_iload hx hb dL_fitted_37 (lv_at hl 2 rfl) ?_
  obtain ⟨x7, hx7, h⟩ := bnd h
  refine iv_L_168 l X hH hRL (by decide) hx7 hl.1 (Nat.le_of_ble_eq_true rfl) dL_fitted_39 hcs (fun H locs hH => ?_)
  refine lv_istore (lv' := [(9, .int x7.1), (7, .long x6), (6, .int x5), (5, .int (x2 - x2 / x1 * x1)), (4, .int x1), (0, .ref p0), (1, .ref p1), (2, .int p2), (3, .int p3)]) hx hb dL_fitted_42 hl (by decide) rfl (fun ls hl => ?_)
  refine lv_aload_n hx hb dL_fitted_44 rfl (lv_at hl 5 rfl) ?_
  obtain ⟨x8, hx8, h⟩ := bnd h
  refine iv_L_45 l X hH hRL (by decide) hx8 hl.1 (Nat.le_of_ble_eq_true rfl) dL_fitted_45 hcs (fun H locs hH => ?_)
  refine lv_istore (lv' := [(10, .int x8), (9, .int x7.1), (7, .long x6), (6, .int x5), (5, .int (x2 - x2 / x1 * x1)), (4, .int x1), (0, .ref p0), (1, .ref p1), (2, .int p2), (3, .int p3)]) hx hb dL_fitted_48 hl (by decide) rfl (fun ls hl => ?_)
  refine lv_lload hx hb dL_fitted_50 (lv_at hl 2 rfl) ?_
  refine lv_lconst (v := 0) hx hb dL_fitted_52 (by decide) ?_
  refine W.lcmp hx hb dL_fitted_53 ?_
  refine lv_if_ne (tgt := 85) hx hb dL_fitted_54 (by decide) (fun hc9 => ?_) (fun hc9 => ?_)
  · replace h := iff' h hc9
    refine lv_aload_n hx hb dL_fitted_85 rfl (lv_at hl 6 rfl) ?_
    refine lv_iload hx hb dL_fitted_86 (lv_at hl 4 rfl) ?_
    obtain ⟨x10, hx10, h⟩ := bnd h
    refine iv_L_171 l X hH hRL (by decide) hx10 hl.1 (Nat.le_of_ble_eq_true rfl) dL_fitted_88 hcs (fun H locs hH => ?_)
    refine lv_istore (lv' := [(11, .int x10.1), (10, .int x8), (9, .int x7.1), (7, .long x6), (6, .int x5), (5, .int (x2 - x2 / x1 * x1)), (4, .int x1), (0, .ref p0), (1, .ref p1), (2, .int p2), (3, .int p3)]) hx hb dL_fitted_91 hl (by decide) rfl (fun ls hl => ?_)
    refine lv_aload_n hx hb dL_fitted_93 rfl (lv_at hl 7 rfl) ?_
    obtain ⟨x11, hx11, h⟩ := bnd h
    refine iv_L_45 l X hH hRL (by decide) hx11 hl.1 (Nat.le_of_ble_eq_true rfl) dL_fitted_94 hcs (fun H locs hH => ?_)
    refine lv_istore (lv' := [(12, .int x11), (11, .int x10.1), (10, .int x8), (9, .int x7.1), (7, .long x6), (6, .int x5), (5, .int (x2 - x2 / x1 * x1)), (4, .int x1), (0, .ref p0), (1, .ref p1), (2, .int p2), (3, .int p3)]) hx hb dL_fitted_97 hl (by decide) rfl (fun ls hl => ?_)
    refine lv_iload hx hb dL_fitted_99 (lv_at hl 5 rfl) ?_
    refine lv_if_lt (tgt := 173) hx hb dL_fitted_101 (by decide) (fun hc12 => ?_) (fun hc12 => ?_)
    · replace h := ift h hc12
      refine lv_iconst (v := 0) hx hb dL_fitted_173 (by decide) ?_
      exact eZ X hH (by decide) h hr dL_fitted_174 (Nat.le_of_ble_eq_true rfl) (Nat.le_of_ble_eq_true rfl)
    · replace h := iff' h hc12
      refine lv_iload hx hb dL_fitted_104 (lv_at hl 5 rfl) ?_
      refine lv_iconst (v := 1) hx hb dL_fitted_106 (by decide) ?_
      refine lv_iload_n hx hb dL_fitted_107 rfl (lv_at hl 10 rfl) ?_
      refine lv_ishl hx hb dL_fitted_108 ?_
      refine lv_icmp_ge (tgt := 173) hx hb dL_fitted_109 (by decide) (fun hc13 => ?_) (fun hc13 => ?_)
      · replace h := ift h hc13
        refine lv_iconst (v := 0) hx hb dL_fitted_173 (by decide) ?_
        exact eZ X hH (by decide) h hr dL_fitted_174 (Nat.le_of_ble_eq_true rfl) (Nat.le_of_ble_eq_true rfl)
      · replace h := iff' h hc13
        refine lv_iload hx hb dL_fitted_112 (lv_at hl 3 rfl) ?_
        refine lv_iload hx hb dL_fitted_114 (lv_at hl 5 rfl) ?_
        refine lv_iconst (v := -1) hx hb dL_fitted_116 (by decide) ?_
        refine lv_ixor hx hb dL_fitted_117 ?_
        refine lv_iand hx hb dL_fitted_118 ?_
        refine lv_if_ne (tgt := 173) hx hb dL_fitted_119 (by decide) (fun hc14 => ?_) (fun hc14 => ?_)
        · replace h := iff' h hc14
          refine lv_iconst (v := 0) hx hb dL_fitted_173 (by decide) ?_
          exact eZ X hH (by decide) h hr dL_fitted_174 (Nat.le_of_ble_eq_true rfl) (Nat.le_of_ble_eq_true rfl)
        · replace h := ift h hc14
          refine lv_iload hx hb dL_fitted_122 (lv_at hl 2 rfl) ?_
          refine lv_iload hx hb dL_fitted_124 (lv_at hl 5 rfl) ?_
          refine lv_iand hx hb dL_fitted_126 ?_
          refine lv_if_ne (tgt := 173) hx hb dL_fitted_127 (by decide) (fun hc15 => ?_) (fun hc15 => ?_)
          · replace h := iff' h hc15
            refine lv_iconst (v := 0) hx hb dL_fitted_173 (by decide) ?_
            exact eZ X hH (by decide) h hr dL_fitted_174 (Nat.le_of_ble_eq_true rfl) (Nat.le_of_ble_eq_true rfl)
          · replace h := ift h hc15
            refine lv_iload hx hb dL_fitted_130 (lv_at hl 3 rfl) ?_
            refine lv_iload hx hb dL_fitted_132 (lv_at hl 2 rfl) ?_
            refine lv_iand hx hb dL_fitted_134 ?_
            refine lv_if_ne (tgt := 173) hx hb dL_fitted_135 (by decide) (fun hc16 => ?_) (fun hc16 => ?_)
            · replace h := iff' h hc16
              refine lv_iconst (v := 0) hx hb dL_fitted_173 (by decide) ?_
              exact eZ X hH (by decide) h hr dL_fitted_174 (Nat.le_of_ble_eq_true rfl) (Nat.le_of_ble_eq_true rfl)
            · replace h := ift h hc16
              refine lv_iload hx hb dL_fitted_138 (lv_at hl 1 rfl) ?_
              refine lv_if_lt (tgt := 173) hx hb dL_fitted_140 (by decide) (fun hc17 => ?_) (fun hc17 => ?_)
              · replace h := ift h hc17
                refine lv_iconst (v := 0) hx hb dL_fitted_173 (by decide) ?_
                exact eZ X hH (by decide) h hr dL_fitted_174 (Nat.le_of_ble_eq_true rfl) (Nat.le_of_ble_eq_true rfl)
              · replace h := iff' h hc17
                refine lv_iload hx hb dL_fitted_143 (lv_at hl 1 rfl) ?_
                refine lv_iload_n hx hb dL_fitted_145 rfl (lv_at hl 10 rfl) ?_
                refine lv_icmp_ge (tgt := 173) hx hb dL_fitted_146 (by decide) (fun hc18 => ?_) (fun hc18 => ?_)
                · replace h := ift h hc18
                  refine lv_iconst (v := 0) hx hb dL_fitted_173 (by decide) ?_
                  exact eZ X hH (by decide) h hr dL_fitted_174 (Nat.le_of_ble_eq_true rfl) (Nat.le_of_ble_eq_true rfl)
                · replace h := iff' h hc18
                  refine lv_iload hx hb dL_fitted_149 (lv_at hl 0 rfl) ?_
                  refine lv_i2l hx hb dL_fitted_151 rfl ?_
                  refine lv_lload hx hb dL_fitted_152 (lv_at hl 4 rfl) ?_
                  refine lv_lconst (v := 1) hx hb dL_fitted_154 (by decide) ?_
                  refine lv_ladd hx hb dL_fitted_155 ?_
                  refine lv_ldc2 (v := 2) hx hb hown (hts _ u_821) dL_fitted_156 ?_
                  refine lv_ldiv hx hb dL_fitted_159 (by decide) ?_
                  refine W.lcmp hx hb dL_fitted_160 ?_
                  refine lv_if_lt (tgt := 173) hx hb dL_fitted_161 (by decide) (fun hc19 => ?_) (fun hc19 => ?_)
                  · replace h := ift h hc19
                    refine lv_iconst (v := 0) hx hb dL_fitted_173 (by decide) ?_
                    exact eZ X hH (by decide) h hr dL_fitted_174 (Nat.le_of_ble_eq_true rfl) (Nat.le_of_ble_eq_true rfl)
                  · replace h := iff' h hc19
                    refine lv_iload hx hb dL_fitted_164 (lv_at hl 0 rfl) ?_
                    refine lv_i2l hx hb dL_fitted_166 rfl ?_
                    refine lv_lload hx hb dL_fitted_167 (lv_at hl 4 rfl) ?_
                    refine W.lcmp hx hb dL_fitted_169 ?_
                    refine lv_if_le (tgt := 175) hx hb dL_fitted_170 (by decide) (fun hc20 => ?_) (fun hc20 => ?_)
                    · replace h := ift h hc20
                      refine lv_aload_n hx hb dL_fitted_175 rfl (lv_at hl 8 rfl) ?_
                      refine lv_iconst (v := 2) hx hb dL_fitted_176 (by decide) ?_
                      obtain ⟨x21, hx21, h⟩ := bnd h
                      refine iv_L_49 l X hH hRL (by decide) hx21 hl.1 (Nat.le_of_ble_eq_true rfl) dL_fitted_177 hcs (fun H locs hH => ?_)
                      refine lv_istore (lv' := [(13, .int x21), (12, .int x11), (11, .int x10.1), (10, .int x8), (9, .int x7.1), (7, .long x6), (6, .int x5), (5, .int (x2 - x2 / x1 * x1)), (4, .int x1), (0, .ref p0), (1, .ref p1), (2, .int p2), (3, .int p3)]) hx hb dL_fitted_180 hl (by decide) rfl (fun ls hl => ?_)
                      refine lv_iconst (v := 0) hx hb dL_fitted_182 (by decide) ?_
                      refine lv_istore (lv' := [(14, .int (0 : Int32)), (13, .int x21), (12, .int x11), (11, .int x10.1), (10, .int x8), (9, .int x7.1), (7, .long x6), (6, .int x5), (5, .int (x2 - x2 / x1 * x1)), (4, .int x1), (0, .ref p0), (1, .ref p1), (2, .int p2), (3, .int p3)]) hx hb dL_fitted_183 hl (by decide) rfl (fun ls hl => ?_)
                      refine lv_iconst (v := 0) hx hb dL_fitted_185 (by decide) ?_
                      refine lv_istore (lv' := [(15, .int (0 : Int32)), (14, .int (0 : Int32)), (13, .int x21), (12, .int x11), (11, .int x10.1), (10, .int x8), (9, .int x7.1), (7, .long x6), (6, .int x5), (5, .int (x2 - x2 / x1 * x1)), (4, .int x1), (0, .ref p0), (1, .ref p1), (2, .int p2), (3, .int p3)]) hx hb dL_fitted_186 hl (by decide) rfl (fun ls hl => ?_)
                      obtain ⟨x26, hx26, hhx26⟩ := bnd h
                      clear h
                      refine w_L_fitted_188 l X hRL hcs BIG p0 p2 p3 x1 (x2 - x2 / x1 * x1) x5 x21 (0 : Int32) (0 : Int32) x10.2 x26 hx26 (fun H locs ls hj hH hl => ?_) (fun H locs ls hj hH hl => ?_) _ _ _ hH (lv_sub hl [11, 13, 14, 10, 9, 8, 2, 1, 0] rfl)
                      · have h := hhx26
                        clear hhx26
                        replace h := ift h hj
                        refine lv_iconst (v := 0) hx hb dL_fitted_214 (by decide) ?_
                        exact eZ X hH (by decide) h hr dL_fitted_215 (Nat.le_of_ble_eq_true rfl) (Nat.le_of_ble_eq_true rfl)
                      · have h := hhx26
                        clear hhx26
                        replace h := iff' h (by rw [hj]; decide)
                        refine lv_aload_n hx hb dL_fitted_225 rfl (lv_at hl 0 rfl) ?_
                        refine lv_iconst (v := 2) hx hb dL_fitted_226 (by decide) ?_
                        obtain ⟨x27, hx27, h⟩ := bnd h
                        refine iv_L_49 l X hH hRL (by decide) hx27 hl.1 (Nat.le_of_ble_eq_true rfl) dL_fitted_227 hcs (fun H locs hH => ?_)
                        refine lv_iload hx hb dL_fitted_230 (lv_at hl 4 rfl) ?_
                        refine lv_iload hx hb dL_fitted_232 (lv_at hl 3 rfl) ?_
                        refine lv_iadd hx hb dL_fitted_234 ?_
                        refine lv_iload hx hb dL_fitted_235 (lv_at hl 2 rfl) ?_
                        obtain ⟨hd28, h⟩ := gsf h
                        refine lv_irem hx hb dL_fitted_237 hd28 ?_
                        refine lv_icmp_ne (tgt := 255) hx hb dL_fitted_238 (by decide) (fun hc29 => ?_) (fun hc29 => ?_)
                        · replace h := iff' h hc29
                          refine lv_iconst (v := 0) hx hb dL_fitted_255 (by decide) ?_
                          exact eZ X hH (by decide) h hr dL_fitted_256 (Nat.le_of_ble_eq_true rfl) (Nat.le_of_ble_eq_true rfl)
                        · replace h := ift h hc29
                          refine lv_aload_n hx hb dL_fitted_241 rfl (lv_at hl 0 rfl) ?_
                          refine lv_iload_n hx hb dL_fitted_242 rfl (lv_at hl 1 rfl) ?_
                          obtain ⟨x30, hx30, h⟩ := bnd h
                          refine iv_L_145 l X hH hRL (by decide) hx30 hl.1 (Nat.le_of_ble_eq_true rfl) dL_fitted_243 hcs (fun H locs hH => ?_)
                          refine lv_iload hx hb dL_fitted_246 (lv_at hl 5 rfl) ?_
                          refine lv_icmp_ne (tgt := 255) hx hb dL_fitted_248 (by decide) (fun hc31 => ?_) (fun hc31 => ?_)
                          · replace h := iff' h hc31
                            refine lv_iconst (v := 0) hx hb dL_fitted_255 (by decide) ?_
                            exact eZ X hH (by decide) h hr dL_fitted_256 (Nat.le_of_ble_eq_true rfl) (Nat.le_of_ble_eq_true rfl)
                          · replace h := ift h hc31
                            refine lv_iconst (v := 1) hx hb dL_fitted_251 (by decide) ?_
                            refine lv_goto (tgt := 256) hx hb dL_fitted_252 (by decide) ?_
                            exact eZ X hH (by decide) h hr dL_fitted_256 (Nat.le_of_ble_eq_true rfl) (Nat.le_of_ble_eq_true rfl)
                    · replace h := iff' h hc20
                      refine lv_iconst (v := 0) hx hb dL_fitted_173 (by decide) ?_
                      exact eZ X hH (by decide) h hr dL_fitted_174 (Nat.le_of_ble_eq_true rfl) (Nat.le_of_ble_eq_true rfl)
  · replace h := ift h hc9
    refine lv_iload hx hb dL_fitted_57 (lv_at hl 3 rfl) ?_
    refine lv_bipush (v := -9) hx hb dL_fitted_59 (by decide) ?_
    refine lv_icmp_ne (tgt := 83) hx hb dL_fitted_61 (by decide) (fun hc32 => ?_) (fun hc32 => ?_)
    · replace h := iff' h hc32
      refine lv_iconst (v := 0) hx hb dL_fitted_83 (by decide) ?_
      exact eZ X hH (by decide) h hr dL_fitted_84 (Nat.le_of_ble_eq_true rfl) (Nat.le_of_ble_eq_true rfl)
    · replace h := ift h hc32
      refine lv_iload hx hb dL_fitted_64 (lv_at hl 1 rfl) ?_
      refine lv_bipush (v := -3) hx hb dL_fitted_66 (by decide) ?_
      refine lv_icmp_ne (tgt := 83) hx hb dL_fitted_68 (by decide) (fun hc33 => ?_) (fun hc33 => ?_)
      · replace h := iff' h hc33
        refine lv_iconst (v := 0) hx hb dL_fitted_83 (by decide) ?_
        exact eZ X hH (by decide) h hr dL_fitted_84 (Nat.le_of_ble_eq_true rfl) (Nat.le_of_ble_eq_true rfl)
      · replace h := ift h hc33
        refine lv_aload_n hx hb dL_fitted_71 rfl (lv_at hl 6 rfl) ?_
        obtain ⟨x34, hx34, h⟩ := bnd h
        refine iv_L_72 l X hH hRL (by decide) hx34 hl.1 (Nat.le_of_ble_eq_true rfl) dL_fitted_72 hcs (fun H locs hH => ?_)
        refine lv_iconst (v := 4) hx hb dL_fitted_75 (by decide) ?_
        refine lv_icmp_ne (tgt := 83) hx hb dL_fitted_76 (by decide) (fun hc35 => ?_) (fun hc35 => ?_)
        · replace h := iff' h hc35
          refine lv_iconst (v := 0) hx hb dL_fitted_83 (by decide) ?_
          exact eZ X hH (by decide) h hr dL_fitted_84 (Nat.le_of_ble_eq_true rfl) (Nat.le_of_ble_eq_true rfl)
        · replace h := ift h hc35
          refine lv_iconst (v := 1) hx hb dL_fitted_79 (by decide) ?_
          refine lv_goto (tgt := 84) hx hb dL_fitted_80 (by decide) ?_
          exact eZ X hH (by decide) h hr dL_fitted_84 (Nat.le_of_ble_eq_true rfl) (Nat.le_of_ble_eq_true rfl)
set_option maxHeartbeats 1000000 in
theorem iv_L_148 {p : Program} {e : Env} {R : Room} {s : State} {m : MethodId} {args : Array Value} {below : List Frame} {meth : Method} {c : Code} {H : Heap} {locs : List Loc} {cells slots : Nat} {Q : State → Prop} {cc : ByteArray} {pc : Nat} {ls : Array Slot} {rest : List Value} {nL : Nat} {G : CG} {μ : Mm} {a : Nat} {q0 : Int32} {q1 : Int32} {q2 : Int32} {x : Int32 × Mm} {k k2 : Nat} (l : Launch) (X : Cx p s m args meth c cc nL RL G) (hH : HS G s μ H locs) (hRL : RmL R k k2) (hk : 6 + 1 ≤ k ∧ 129 ≤ k2) (h : f_X11_order μ a q0 q1 q2 = some x) (hls : ls.size = nL) (hroom : (rest.map fun v => v.category).sum ≤ 8) (hdg : decode cc pc = .ok (.invokevirtual 148, 3)) (hcs : cells + 0 ≤ R.cells ∧ slots + 0 ≤ R.slots) (kk : ∀ (H1 : Heap) (locs1 : List Loc), HS G s x.2 H1 locs1 → W p l e R s m args below meth c H1 locs1 cells slots Q (F0 m (pc + 3) ls (.int x.1 :: rest))) : W p l e R s m args below meth c H locs cells slots Q (F0 m pc ls (.int q2 :: .int q1 :: .int q0 :: .ref a :: rest)) := by
  refine kI hH (rV (As := [.int q0, .int q1, .int q2]) (rest := rest) X hH (t_X11_order h) vc_11 (c_X11_order l G μ a q0 q1 q2 x h) (List.forall_mem_cons.mpr ⟨u_672, (List.forall_mem_cons.mpr ⟨u_673, (List.forall_mem_cons.mpr ⟨u_674, (List.forall_mem_cons.mpr ⟨u_21, (fun _ h9 => absurd h9 List.not_mem_nil)⟩)⟩)⟩)⟩) u_675 (rmo hRL (Nat.le_trans (by decide) hk.1) (Nat.le_trans (by decide) hk.2)) ddV_X11_order rfl hls rfl hroom hdg hcs) kk
set_option maxHeartbeats 1000000 in
theorem iv_L_88 {p : Program} {e : Env} {R : Room} {s : State} {m : MethodId} {args : Array Value} {below : List Frame} {meth : Method} {c : Code} {H : Heap} {locs : List Loc} {cells slots : Nat} {Q : State → Prop} {cc : ByteArray} {pc : Nat} {ls : Array Slot} {rest : List Value} {nL : Nat} {G : CG} {μ : Mm} {a : Nat} {q0 : Int32} {q1 : Int32} {x : Int32 × Mm} {k k2 : Nat} (l : Launch) (X : Cx p s m args meth c cc nL RL G) (hH : HS G s μ H locs) (hRL : RmL R k k2) (hk : 4 + 1 ≤ k ∧ 90 ≤ k2) (h : f_X11_at μ a q0 q1 = some x) (hls : ls.size = nL) (hroom : (rest.map fun v => v.category).sum ≤ 8) (hdg : decode cc pc = .ok (.invokevirtual 88, 3)) (hcs : cells + 0 ≤ R.cells ∧ slots + 0 ≤ R.slots) (kk : ∀ (H1 : Heap) (locs1 : List Loc), HS G s x.2 H1 locs1 → W p l e R s m args below meth c H1 locs1 cells slots Q (F0 m (pc + 3) ls (.int x.1 :: rest))) : W p l e R s m args below meth c H locs cells slots Q (F0 m pc ls (.int q1 :: .int q0 :: .ref a :: rest)) := by
  refine kI hH (rV (As := [.int q0, .int q1]) (rest := rest) X hH (t_X11_at h) vc_11 (c_X11_at l G μ a q0 q1 x h) (List.forall_mem_cons.mpr ⟨u_731, (List.forall_mem_cons.mpr ⟨u_732, (List.forall_mem_cons.mpr ⟨u_733, (List.forall_mem_cons.mpr ⟨u_21, (fun _ h9 => absurd h9 List.not_mem_nil)⟩)⟩)⟩)⟩) u_734 (rmo hRL (Nat.le_trans (by decide) hk.1) (Nat.le_trans (by decide) hk.2)) ddV_X11_at rfl hls rfl hroom hdg hcs) kk
set_option maxHeartbeats 4000000 in
set_option maxRecDepth 100000 in
theorem w_L_ordered_123 {p : Program} {e : Env} {R : Room} {s : State} {m : MethodId} {args : Array Value} {below : List Frame} {meth : Method} {c : Code} {cells slots : Nat} {Q : State → Prop} {G : CG} (l : Launch) (X : Cx p s m args meth c cL_ordered 16 RL G) (hRL : RmL R 8 151) (hcs : cells ≤ R.cells ∧ slots ≤ R.slots) : ∀ (n : Nat) (v0 : Nat) (v2 : Int32) (v3 : Int32) (v4 : Int32) (v5 : Int32) (v6 : Int32) (v8 : Int64) (v10 : Int32) (v11 : Int32) (v12 : Int32) (v13 : Int32) (μ : Mm) (x : Nat × Mm), lp_L_ordered_123 (gS G) n v0 v2 v3 v4 v5 v6 v8 v10 v11 v12 v13 μ = some x → (∀ (H : Heap) (locs : List Loc) (ls : Array Slot), x.1 = 0 → HS G s x.2 H locs → lv_has ls 16 [] → W p l e R s m args below meth c H locs cells slots Q (F0 m 191 ls [])) → (∀ (H : Heap) (locs : List Loc) (ls : Array Slot), x.1 = 1 → HS G s x.2 H locs → lv_has ls 16 [] → W p l e R s m args below meth c H locs cells slots Q (F0 m 256 ls [])) → (∀ (H : Heap) (locs : List Loc) (ls : Array Slot), x.1 = 2 → HS G s x.2 H locs → lv_has ls 16 [(0, .ref v0), (2, .int v2), (3, .int v3), (8, .long v8)] → W p l e R s m args below meth c H locs cells slots Q (F0 m 264 ls [])) → ∀ (H : Heap) (locs : List Loc) (ls : Array Slot), HS G s μ H locs → lv_has ls 16 [(0, .ref v0), (2, .int v2), (3, .int v3), (4, .int v4), (5, .int v5), (6, .int v6), (8, .long v8), (10, .int v10), (11, .int v11), (12, .int v12), (13, .int v13)] → W p l e R s m args below meth c H locs cells slots Q (F0 m 123 ls []) := by
  have hx := X.1
  have hb := X.2.1
  have hown := X.2.2.2.1
  have hts := X.2.2.2.2.1
  intro n
  induction n with
  | zero =>
    intro v0 v2 v3 v4 v5 v6 v8 v10 v11 v12 v13 μ x h
    rw [lp_L_ordered_123] at h
    cases h
  | succ n ih =>
    intro v0 v2 v3 v4 v5 v6 v8 v10 v11 v12 v13 μ x h k0 k1 k2 H locs ls hH hl
    rw [lp_L_ordered_123] at h
    refine lv_iload hx hb dL_ordered_123 (lv_at hl 10 rfl) ?_
    refine lv_iload_n hx hb dL_ordered_125 rfl (lv_at hl 1 rfl) ?_
    refine lv_icmp_ge (tgt := 264) hx hb dL_ordered_126 (by decide) (fun hc19 => ?_) (fun hc19 => ?_)
    · replace h := ift h hc19
      cases h
      exact k2 _ _ _ rfl hH (lv_sub hl [0, 1, 2, 6] rfl)
    · replace h := iff' h hc19
      refine lv_aload_n hx hb dL_ordered_129 rfl (lv_at hl 0 rfl) ?_
      refine lv_aload_n hx hb dL_ordered_130 rfl (lv_at hl 0 rfl) ?_
      refine lv_iconst (v := 1) hx hb dL_ordered_131 (by decide) ?_
      refine lv_iload hx hb dL_ordered_132 (lv_at hl 10 rfl) ?_
      obtain ⟨x20, hx20, h⟩ := bnd h
      refine iv_L_88 l X hH hRL (by decide) hx20 hl.1 (Nat.le_of_ble_eq_true rfl) dL_ordered_134 hcs (fun H locs hH => ?_)
      obtain ⟨x21, hx21, h⟩ := bnd h
      refine iv_L_55 l X hH hRL (by decide) hx21 hl.1 (Nat.le_of_ble_eq_true rfl) dL_ordered_137 hcs (fun H locs hH => ?_)
      refine lv_istore (lv' := [(14, .int x21), (0, .ref v0), (2, .int v2), (3, .int v3), (4, .int v4), (5, .int v5), (6, .int v6), (8, .long v8), (10, .int v10), (11, .int v11), (12, .int v12), (13, .int v13)]) hx hb dL_ordered_140 hl (by decide) rfl (fun ls hl => ?_)
      refine lv_iload hx hb dL_ordered_142 (lv_at hl 0 rfl) ?_
      refine lv_if_lt (tgt := 191) hx hb dL_ordered_144 (by decide) (fun hc22 => ?_) (fun hc22 => ?_)
      · replace h := ift h hc22
        cases h
        exact k0 _ _ _ rfl hH (lv_sub hl [] rfl)
      · replace h := iff' h hc22
        refine lv_iload hx hb dL_ordered_147 (lv_at hl 0 rfl) ?_
        refine lv_iload_n hx hb dL_ordered_149 rfl (lv_at hl 2 rfl) ?_
        refine lv_icmp_ge (tgt := 191) hx hb dL_ordered_150 (by decide) (fun hc23 => ?_) (fun hc23 => ?_)
        · replace h := ift h hc23
          cases h
          exact k0 _ _ _ rfl hH (lv_sub hl [] rfl)
        · replace h := iff' h hc23
          refine lv_iload hx hb dL_ordered_153 (lv_at hl 10 rfl) ?_
          refine lv_iload hx hb dL_ordered_155 (lv_at hl 0 rfl) ?_
          refine lv_ishr hx hb dL_ordered_157 ?_
          refine lv_iconst (v := 1) hx hb dL_ordered_158 (by decide) ?_
          refine lv_iand hx hb dL_ordered_159 ?_
          refine lv_iconst (v := 1) hx hb dL_ordered_160 (by decide) ?_
          refine lv_icmp_eq (tgt := 191) hx hb dL_ordered_161 (by decide) (fun hc24 => ?_) (fun hc24 => ?_)
          · replace h := ift h hc24
            cases h
            exact k0 _ _ _ rfl hH (lv_sub hl [] rfl)
          · replace h := iff' h hc24
            refine lv_iload hx hb dL_ordered_164 (lv_at hl 0 rfl) ?_
            refine lv_iload hx hb dL_ordered_166 (lv_at hl 4 rfl) ?_
            obtain ⟨x25, hbx25, hx25⟩ := bnd h
            clear h
            refine jn_lem (G := G) (x := x25) (M := 176) (nL := 16) (fun x25 => x20.2) (fun x25 => [(0, .ref v0), (2, .int v2), (3, .int v3), (4, .int v4), (5, .int v5), (6, .int v6), (8, .long v8), (10, .int v10), (11, .int v11), (12, .int v12), (13, .int v13), (14, .int x21)]) (fun x25 => [.int x25]) (fun H locs ls hH hl => ?_) (fun jnx25 => ?_)
            · have h := hx25
              clear hx25 hbx25
              refine lv_iload hx hb dL_ordered_176 (lv_at hl 10 rfl) ?_
              refine lv_iload hx hb dL_ordered_178 (lv_at hl 5 rfl) ?_
              obtain ⟨x27, hbx27, hx27⟩ := bnd h
              clear h
              refine jn_lem (G := G) (x := x27) (M := 188) (nL := 16) (fun x27 => x20.2) (fun x27 => [(0, .ref v0), (2, .int v2), (3, .int v3), (4, .int v4), (5, .int v5), (6, .int v6), (8, .long v8), (10, .int v10), (11, .int v11), (12, .int v12), (13, .int v13), (14, .int x21)]) (fun x27 => [.int x27, .int x25]) (fun H locs ls hH hl => ?_) (fun jnx27 => ?_)
              · have h := hx27
                clear hx27 hbx27
                refine lv_icmp_eq (tgt := 193) hx hb dL_ordered_188 (by decide) (fun hc29 => ?_) (fun hc29 => ?_)
                · replace h := ift h hc29
                  refine lv_iload hx hb dL_ordered_193 (lv_at hl 9 rfl) ?_
                  refine lv_iconst (v := 1) hx hb dL_ordered_195 (by decide) ?_
                  refine lv_iload hx hb dL_ordered_196 (lv_at hl 11 rfl) ?_
                  refine lv_ishl hx hb dL_ordered_198 ?_
                  refine lv_ior hx hb dL_ordered_199 ?_
                  refine lv_istore (lv' := [(12, .int (v12 ||| ((1 : Int32) <<< (x21 &&& 31)))), (0, .ref v0), (2, .int v2), (3, .int v3), (4, .int v4), (5, .int v5), (6, .int v6), (8, .long v8), (10, .int v10), (11, .int v11), (13, .int v13), (14, .int x21)]) hx hb dL_ordered_200 hl (by decide) rfl (fun ls hl => ?_)
                  refine lv_aload_n hx hb dL_ordered_202 rfl (lv_at hl 1 rfl) ?_
                  refine lv_iload hx hb dL_ordered_203 (lv_at hl 11 rfl) ?_
                  obtain ⟨x30, hx30, h⟩ := bnd h
                  refine iv_L_98 l X hH hRL (by decide) hx30 hl.1 (Nat.le_of_ble_eq_true rfl) dL_ordered_205 hcs (fun H locs hH => ?_)
                  refine lv_istore (lv' := [(15, .int x30.1), (12, .int (v12 ||| ((1 : Int32) <<< (x21 &&& 31)))), (0, .ref v0), (2, .int v2), (3, .int v3), (4, .int v4), (5, .int v5), (6, .int v6), (8, .long v8), (10, .int v10), (11, .int v11), (13, .int v13), (14, .int x21)]) hx hb dL_ordered_208 hl (by decide) rfl (fun ls hl => ?_)
                  refine lv_iload hx hb dL_ordered_210 (lv_at hl 0 rfl) ?_
                  refine lv_if_lt (tgt := 256) hx hb dL_ordered_212 (by decide) (fun hc31 => ?_) (fun hc31 => ?_)
                  · replace h := ift h hc31
                    cases h
                    exact k1 _ _ _ rfl hH (lv_sub hl [] rfl)
                  · replace h := iff' h hc31
                    refine lv_iload hx hb dL_ordered_215 (lv_at hl 11 rfl) ?_
                    refine lv_iload hx hb dL_ordered_217 (lv_at hl 7 rfl) ?_
                    refine lv_icmp_ne (tgt := 229) hx hb dL_ordered_219 (by decide) (fun hc32 => ?_) (fun hc32 => ?_)
                    · replace h := iff' h hc32
                      refine lv_aload_n hx hb dL_ordered_229 rfl (lv_at hl 2 rfl) ?_
                      obtain ⟨x33, hx33, h⟩ := bnd h
                      refine iv_L_59 l X hH hRL (by decide) hx33 hl.1 (Nat.le_of_ble_eq_true rfl) dL_ordered_230 hcs (fun H locs hH => ?_)
                      refine lv_iload hx hb dL_ordered_233 (lv_at hl 10 rfl) ?_
                      refine lv_icmp_ne (tgt := 256) hx hb dL_ordered_235 (by decide) (fun hc34 => ?_) (fun hc34 => ?_)
                      · replace h := iff' h hc34
                        cases h
                        exact k1 _ _ _ rfl hH (lv_sub hl [] rfl)
                      · replace h := ift h hc34
                        refine lv_iload hx hb dL_ordered_238 (lv_at hl 11 rfl) ?_
                        refine lv_iload_n hx hb dL_ordered_240 rfl (lv_at hl 3 rfl) ?_
                        refine lv_iconst (v := 1) hx hb dL_ordered_241 (by decide) ?_
                        refine lv_isub hx hb dL_ordered_242 ?_
                        refine lv_icmp_ne (tgt := 258) hx hb dL_ordered_243 (by decide) (fun hc35 => ?_) (fun hc35 => ?_)
                        · replace h := iff' h hc35
                          refine lv_iinc (v := (v13 + 1)) (lv' := [(13, .int (v13 + 1)), (15, .int x30.1), (12, .int (v12 ||| ((1 : Int32) <<< (x21 &&& 31)))), (0, .ref v0), (2, .int v2), (3, .int v3), (4, .int v4), (5, .int v5), (6, .int v6), (8, .long v8), (10, .int v10), (11, .int v11), (14, .int x21)]) hx hb dL_ordered_258 hl (k := 11) rfl rfl (by decide) rfl (fun ls hl => ?_)
                          refine lv_goto (tgt := 123) hx hb dL_ordered_261 (by decide) ?_
                          exact ih _ _ _ _ _ _ _ _ _ _ _ _ _ h k0 k1 k2 _ _ _ hH (lv_sub hl [3, 4, 5, 6, 7, 8, 9, 10, 11, 2, 0] rfl)
                        · replace h := ift h hc35
                          refine lv_iload hx hb dL_ordered_246 (lv_at hl 9 rfl) ?_
                          refine lv_iload hx hb dL_ordered_248 (lv_at hl 12 rfl) ?_
                          refine lv_ishr hx hb dL_ordered_250 ?_
                          refine lv_iconst (v := 1) hx hb dL_ordered_251 (by decide) ?_
                          refine lv_iand hx hb dL_ordered_252 ?_
                          refine lv_if_ne (tgt := 258) hx hb dL_ordered_253 (by decide) (fun hc36 => ?_) (fun hc36 => ?_)
                          · replace h := iff' h hc36
                            refine lv_iinc (v := (v13 + 1)) (lv' := [(13, .int (v13 + 1)), (15, .int x30.1), (12, .int (v12 ||| ((1 : Int32) <<< (x21 &&& 31)))), (0, .ref v0), (2, .int v2), (3, .int v3), (4, .int v4), (5, .int v5), (6, .int v6), (8, .long v8), (10, .int v10), (11, .int v11), (14, .int x21)]) hx hb dL_ordered_258 hl (k := 11) rfl rfl (by decide) rfl (fun ls hl => ?_)
                            refine lv_goto (tgt := 123) hx hb dL_ordered_261 (by decide) ?_
                            exact ih _ _ _ _ _ _ _ _ _ _ _ _ _ h k0 k1 k2 _ _ _ hH (lv_sub hl [3, 4, 5, 6, 7, 8, 9, 10, 11, 2, 0] rfl)
                          · replace h := ift h hc36
                            cases h
                            exact k1 _ _ _ rfl hH (lv_sub hl [] rfl)
                    · replace h := ift h hc32
                      refine lv_iload hx hb dL_ordered_222 (lv_at hl 0 rfl) ?_
                      refine lv_iload hx hb dL_ordered_224 (lv_at hl 6 rfl) ?_
                      refine lv_icmp_ne (tgt := 256) hx hb dL_ordered_226 (by decide) (fun hc37 => ?_) (fun hc37 => ?_)
                      · replace h := iff' h hc37
                        cases h
                        exact k1 _ _ _ rfl hH (lv_sub hl [] rfl)
                      · replace h := ift h hc37
                        refine lv_aload_n hx hb dL_ordered_229 rfl (lv_at hl 2 rfl) ?_
                        obtain ⟨x38, hx38, h⟩ := bnd h
                        refine iv_L_59 l X hH hRL (by decide) hx38 hl.1 (Nat.le_of_ble_eq_true rfl) dL_ordered_230 hcs (fun H locs hH => ?_)
                        refine lv_iload hx hb dL_ordered_233 (lv_at hl 10 rfl) ?_
                        refine lv_icmp_ne (tgt := 256) hx hb dL_ordered_235 (by decide) (fun hc39 => ?_) (fun hc39 => ?_)
                        · replace h := iff' h hc39
                          cases h
                          exact k1 _ _ _ rfl hH (lv_sub hl [] rfl)
                        · replace h := ift h hc39
                          refine lv_iload hx hb dL_ordered_238 (lv_at hl 11 rfl) ?_
                          refine lv_iload_n hx hb dL_ordered_240 rfl (lv_at hl 3 rfl) ?_
                          refine lv_iconst (v := 1) hx hb dL_ordered_241 (by decide) ?_
                          refine lv_isub hx hb dL_ordered_242 ?_
                          refine lv_icmp_ne (tgt := 258) hx hb dL_ordered_243 (by decide) (fun hc40 => ?_) (fun hc40 => ?_)
                          · replace h := iff' h hc40
                            refine lv_iinc (v := (v13 + 1)) (lv' := [(13, .int (v13 + 1)), (15, .int x30.1), (12, .int (v12 ||| ((1 : Int32) <<< (x21 &&& 31)))), (0, .ref v0), (2, .int v2), (3, .int v3), (4, .int v4), (5, .int v5), (6, .int v6), (8, .long v8), (10, .int v10), (11, .int v11), (14, .int x21)]) hx hb dL_ordered_258 hl (k := 11) rfl rfl (by decide) rfl (fun ls hl => ?_)
                            refine lv_goto (tgt := 123) hx hb dL_ordered_261 (by decide) ?_
                            exact ih _ _ _ _ _ _ _ _ _ _ _ _ _ h k0 k1 k2 _ _ _ hH (lv_sub hl [3, 4, 5, 6, 7, 8, 9, 10, 11, 2, 0] rfl)
                          · replace h := ift h hc40
                            refine lv_iload hx hb dL_ordered_246 (lv_at hl 9 rfl) ?_
                            refine lv_iload hx hb dL_ordered_248 (lv_at hl 12 rfl) ?_
                            refine lv_ishr hx hb dL_ordered_250 ?_
                            refine lv_iconst (v := 1) hx hb dL_ordered_251 (by decide) ?_
                            refine lv_iand hx hb dL_ordered_252 ?_
                            refine lv_if_ne (tgt := 258) hx hb dL_ordered_253 (by decide) (fun hc41 => ?_) (fun hc41 => ?_)
                            · replace h := iff' h hc41
                              refine lv_iinc (v := (v13 + 1)) (lv' := [(13, .int (v13 + 1)), (15, .int x30.1), (12, .int (v12 ||| ((1 : Int32) <<< (x21 &&& 31)))), (0, .ref v0), (2, .int v2), (3, .int v3), (4, .int v4), (5, .int v5), (6, .int v6), (8, .long v8), (10, .int v10), (11, .int v11), (14, .int x21)]) hx hb dL_ordered_258 hl (k := 11) rfl rfl (by decide) rfl (fun ls hl => ?_)
                              refine lv_goto (tgt := 123) hx hb dL_ordered_261 (by decide) ?_
                              exact ih _ _ _ _ _ _ _ _ _ _ _ _ _ h k0 k1 k2 _ _ _ hH (lv_sub hl [3, 4, 5, 6, 7, 8, 9, 10, 11, 2, 0] rfl)
                            · replace h := ift h hc41
                              cases h
                              exact k1 _ _ _ rfl hH (lv_sub hl [] rfl)
                · replace h := iff' h hc29
                  cases h
                  exact k0 _ _ _ rfl hH (lv_sub hl [] rfl)
              · have h := hbx27
                clear hx27 hbx27
                refine lv_icmp_ne (tgt := 187) hx hb dL_ordered_180 (by decide) (fun hc28 => ?_) (fun hc28 => ?_)
                · replace h := iff' h hc28
                  refine lv_iconst (v := 0) hx hb dL_ordered_187 (by decide) ?_
                  cases h
                  exact jnx27 _ _ _ hH (lv_sub hl [0, 1, 2, 3, 4, 5, 6, 7, 8, 9, 10, 11] rfl)
                · replace h := ift h hc28
                  refine lv_iconst (v := 1) hx hb dL_ordered_183 (by decide) ?_
                  refine lv_goto (tgt := 188) hx hb dL_ordered_184 (by decide) ?_
                  cases h
                  exact jnx27 _ _ _ hH (lv_sub hl [0, 1, 2, 3, 4, 5, 6, 7, 8, 9, 10, 11] rfl)
            · have h := hbx25
              clear hx25 hbx25
              refine lv_icmp_ne (tgt := 175) hx hb dL_ordered_168 (by decide) (fun hc26 => ?_) (fun hc26 => ?_)
              · replace h := iff' h hc26
                refine lv_iconst (v := 0) hx hb dL_ordered_175 (by decide) ?_
                cases h
                exact jnx25 _ _ _ hH (lv_sub hl [1, 2, 3, 4, 5, 6, 7, 8, 9, 10, 11, 0] rfl)
              · replace h := ift h hc26
                refine lv_iconst (v := 1) hx hb dL_ordered_171 (by decide) ?_
                refine lv_goto (tgt := 176) hx hb dL_ordered_172 (by decide) ?_
                cases h
                exact jnx25 _ _ _ hH (lv_sub hl [1, 2, 3, 4, 5, 6, 7, 8, 9, 10, 11, 0] rfl)
set_option maxHeartbeats 4000000 in
set_option maxRecDepth 100000 in
theorem c_L_ordered (l : Launch) (G : CG) (μ : Mm) (p0 : Nat) (p1 : Nat) (p2 : Int32) (p3 : Int32) (x : Int32 × Mm) (h : f_L_ordered (gS G) μ p0 p1 p2 p3 = some x) : Met l yL_ordered (.code yL_ordered cL_ordered 16 (some .boolean) :: UW) (rmk 8 151 0 0) (PC G [.ref p0, .ref p1, .int p2, .int p3] μ) (QI G x.1 x.2) 0 0 (fA G) := by
  refine Met.ofW (cc := cL_ordered) (maxL := 16) (ret := (some .boolean)) (by decide) rfl ?_
  intro p e s m args below meth c s₁ B hml hv
  obtain ⟨X, hH, hr, rfl, hnm⟩ := cx_in B hml hv
  have X : Cx p s m _ meth c cL_ordered 16 RL G := X
  have hx := X.1
  have hb := X.2.1
  have hown := X.2.2.2.1
  have hts := X.2.2.2.2.1
  have hRL : RmL (rmk 8 151 0 0) 8 151 := ⟨Nat.le_refl _, Nat.le_refl _⟩
  have hcs : 0 ≤ (rmk 0 0 0 0).cells ∧ 0 ≤ (rmk 0 0 0 0).slots := ⟨Nat.zero_le _, Nat.zero_le _⟩
  refine ls_in (Nat.le_of_ble_eq_true rfl) (fun ls hl => ?_)
  have hl : lv_has ls 16 [(0, .ref p0), (1, .ref p1), (2, .int p2), (3, .int p3)] := hl
  unfold f_L_ordered at h
  refine lv_aload_n hx hb dL_ordered_0 rfl (lv_at hl 1 rfl) ?_
  refine lv_bipush (v := 40) hx hb dL_ordered_1 (by decide) ?_
  obtain ⟨x1, hx1, h⟩ := bnd h
  refine iv_L_14 l X hH hRL (by decide) hx1 hl.1 (Nat.le_of_ble_eq_true rfl) dL_ordered_3 hcs (fun H locs hH => ?_)
  refine lv_iload_n hx hb dL_ordered_6 rfl (lv_at hl 2 rfl) ?_
  obtain ⟨hd2, h⟩ := gsf h
  refine lv_irem hx hb dL_ordered_7 hd2 ?_
  refine lv_istore (lv' := [(4, .int (x1 - x1 / p2 * p2)), (0, .ref p0), (1, .ref p1), (2, .int p2), (3, .int p3)]) hx hb dL_ordered_8 hl (by decide) rfl (fun ls hl => ?_)
  refine lv_aload_n hx hb dL_ordered_10 rfl (lv_at hl 2 rfl) ?_
  refine lv_bipush (v := 41) hx hb dL_ordered_11 (by decide) ?_
  obtain ⟨x3, hx3, h⟩ := bnd h
  refine iv_L_14 l X hH hRL (by decide) hx3 hl.1 (Nat.le_of_ble_eq_true rfl) dL_ordered_13 hcs (fun H locs hH => ?_)
  refine lv_aload_n hx hb dL_ordered_16 rfl (lv_at hl 1 rfl) ?_
  refine lv_iconst (v := 1) hx hb dL_ordered_17 (by decide) ?_
  obtain ⟨x4, hx4, h⟩ := bnd h
  refine iv_L_49 l X hH hRL (by decide) hx4 hl.1 (Nat.le_of_ble_eq_true rfl) dL_ordered_18 hcs (fun H locs hH => ?_)
  obtain ⟨hd5, h⟩ := gsf h
  refine lv_irem hx hb dL_ordered_21 hd5 ?_
  refine lv_istore (lv' := [(5, .int (x3 - x3 / x4 * x4)), (4, .int (x1 - x1 / p2 * p2)), (0, .ref p0), (1, .ref p1), (2, .int p2), (3, .int p3)]) hx hb dL_ordered_22 hl (by decide) rfl (fun ls hl => ?_)
  refine lv_aload_n hx hb dL_ordered_24 rfl (lv_at hl 2 rfl) ?_
  refine lv_iload hx hb dL_ordered_25 (lv_at hl 1 rfl) ?_
  refine lv_iload hx hb dL_ordered_27 (lv_at hl 0 rfl) ?_
  refine lv_iconst (v := 1) hx hb dL_ordered_29 (by decide) ?_
  obtain ⟨x6, hx6, h⟩ := bnd h
  refine iv_L_148 l X hH hRL (by decide) hx6 hl.1 (Nat.le_of_ble_eq_true rfl) dL_ordered_30 hcs (fun H locs hH => ?_)
  refine lv_istore (lv' := [(6, .int x6.1), (5, .int (x3 - x3 / x4 * x4)), (4, .int (x1 - x1 / p2 * p2)), (0, .ref p0), (1, .ref p1), (2, .int p2), (3, .int p3)]) hx hb dL_ordered_33 hl (by decide) rfl (fun ls hl => ?_)
  refine lv_aload_n hx hb dL_ordered_35 rfl (lv_at hl 3 rfl) ?_
  obtain ⟨x7, hx7, h⟩ := bnd h
  refine iv_L_151 l X hH hRL (by decide) hx7 hl.1 (Nat.le_of_ble_eq_true rfl) dL_ordered_36 hcs (fun H locs hH => ?_)
  refine lv_istore (lv' := [(7, .int x7.1), (6, .int x6.1), (5, .int (x3 - x3 / x4 * x4)), (4, .int (x1 - x1 / p2 * p2)), (0, .ref p0), (1, .ref p1), (2, .int p2), (3, .int p3)]) hx hb dL_ordered_39 hl (by decide) rfl (fun ls hl => ?_)
  refine lv_aload_n hx hb dL_ordered_41 rfl (lv_at hl 4 rfl) ?_
  obtain ⟨x8, hx8, h⟩ := bnd h
  refine iv_L_79 l X hH hRL (by decide) hx8 hl.1 (Nat.le_of_ble_eq_true rfl) dL_ordered_42 hcs (fun H locs hH => ?_)
  refine lv_lstore (lv' := [(8, .long x8), (7, .int x7.1), (6, .int x6.1), (5, .int (x3 - x3 / x4 * x4)), (4, .int (x1 - x1 / p2 * p2)), (0, .ref p0), (1, .ref p1), (2, .int p2), (3, .int p3)]) hx hb dL_ordered_45 hl (by decide) rfl (fun ls hl => ?_)
  refine lv_aload_n hx hb dL_ordered_47 rfl (lv_at hl 5 rfl) ?_
  obtain ⟨x9, hx9, h⟩ := bnd h
  refine iv_L_45 l X hH hRL (by decide) hx9 hl.1 (Nat.le_of_ble_eq_true rfl) dL_ordered_48 hcs (fun H locs hH => ?_)
  refine lv_istore (lv' := [(10, .int x9), (8, .long x8), (7, .int x7.1), (6, .int x6.1), (5, .int (x3 - x3 / x4 * x4)), (4, .int (x1 - x1 / p2 * p2)), (0, .ref p0), (1, .ref p1), (2, .int p2), (3, .int p3)]) hx hb dL_ordered_51 hl (by decide) rfl (fun ls hl => ?_)
  refine lv_iload hx hb dL_ordered_53 (lv_at hl 2 rfl) ?_
  refine lv_iconst (v := 1) hx hb dL_ordered_55 (by decide) ?_
  refine lv_icmp_ne (tgt := 91) hx hb dL_ordered_56 (by decide) (fun hc10 => ?_) (fun hc10 => ?_)
  · replace h := iff' h hc10
    refine lv_iconst (v := 0) hx hb dL_ordered_91 (by decide) ?_
    exact eZ X hH (by decide) h hr dL_ordered_92 (Nat.le_of_ble_eq_true rfl) (Nat.le_of_ble_eq_true rfl)
  · replace h := ift h hc10
    refine lv_lload hx hb dL_ordered_59 (lv_at hl 1 rfl) ?_
    refine lv_lconst (v := 0) hx hb dL_ordered_61 (by decide) ?_
    refine W.lcmp hx hb dL_ordered_62 ?_
    refine lv_if_lt (tgt := 91) hx hb dL_ordered_63 (by decide) (fun hc11 => ?_) (fun hc11 => ?_)
    · replace h := ift h hc11
      refine lv_iconst (v := 0) hx hb dL_ordered_91 (by decide) ?_
      exact eZ X hH (by decide) h hr dL_ordered_92 (Nat.le_of_ble_eq_true rfl) (Nat.le_of_ble_eq_true rfl)
    · replace h := iff' h hc11
      refine lv_lload hx hb dL_ordered_66 (lv_at hl 1 rfl) ?_
      refine lv_lconst (v := 0) hx hb dL_ordered_68 (by decide) ?_
      refine W.lcmp hx hb dL_ordered_69 ?_
      obtain ⟨x12, hbx12, hx12⟩ := bnd h
      clear h
      refine jn_lem (G := G) (x := x12) (M := 78) (nL := 16) (fun x12 => x7.2) (fun x12 => [(0, .ref p0), (2, .int p2), (3, .int p3), (4, .int (x1 - x1 / p2 * p2)), (5, .int (x3 - x3 / x4 * x4)), (6, .int x6.1), (8, .long x8), (10, .int x9)]) (fun x12 => [.int x12]) (fun H locs ls hH hl => ?_) (fun jnx12 => ?_)
      · have h := hx12
        clear hx12 hbx12
        refine lv_iload hx hb dL_ordered_78 (lv_at hl 7 rfl) ?_
        obtain ⟨x14, hbx14, hx14⟩ := bnd h
        clear h
        refine jn_lem (G := G) (x := x14) (M := 88) (nL := 16) (fun x14 => x7.2) (fun x14 => [(0, .ref p0), (2, .int p2), (3, .int p3), (4, .int (x1 - x1 / p2 * p2)), (5, .int (x3 - x3 / x4 * x4)), (6, .int x6.1), (8, .long x8), (10, .int x9)]) (fun x14 => [.int x14, .int x12]) (fun H locs ls hH hl => ?_) (fun jnx14 => ?_)
        · have h := hx14
          clear hx14 hbx14
          refine lv_icmp_eq (tgt := 93) hx hb dL_ordered_88 (by decide) (fun hc16 => ?_) (fun hc16 => ?_)
          · replace h := ift h hc16
            refine lv_iload hx hb dL_ordered_93 (lv_at hl 5 rfl) ?_
            refine lv_if_ge (tgt := 111) hx hb dL_ordered_95 (by decide) (fun hc17 => ?_) (fun hc17 => ?_)
            · replace h := ift h hc17
              refine lv_aload_n hx hb dL_ordered_111 rfl (lv_at hl 0 rfl) ?_
              obtain ⟨x18, hx18, h⟩ := bnd h
              refine iv_L_59 l X hH hRL (by decide) hx18 hl.1 (Nat.le_of_ble_eq_true rfl) dL_ordered_112 hcs (fun H locs hH => ?_)
              refine lv_istore (lv' := [(11, .int x18.1), (0, .ref p0), (2, .int p2), (3, .int p3), (4, .int (x1 - x1 / p2 * p2)), (5, .int (x3 - x3 / x4 * x4)), (6, .int x6.1), (8, .long x8), (10, .int x9)]) hx hb dL_ordered_115 hl (by decide) rfl (fun ls hl => ?_)
              refine lv_iconst (v := 0) hx hb dL_ordered_117 (by decide) ?_
              refine lv_istore (lv' := [(12, .int (0 : Int32)), (11, .int x18.1), (0, .ref p0), (2, .int p2), (3, .int p3), (4, .int (x1 - x1 / p2 * p2)), (5, .int (x3 - x3 / x4 * x4)), (6, .int x6.1), (8, .long x8), (10, .int x9)]) hx hb dL_ordered_118 hl (by decide) rfl (fun ls hl => ?_)
              refine lv_iconst (v := 0) hx hb dL_ordered_120 (by decide) ?_
              refine lv_istore (lv' := [(13, .int (0 : Int32)), (12, .int (0 : Int32)), (11, .int x18.1), (0, .ref p0), (2, .int p2), (3, .int p3), (4, .int (x1 - x1 / p2 * p2)), (5, .int (x3 - x3 / x4 * x4)), (6, .int x6.1), (8, .long x8), (10, .int x9)]) hx hb dL_ordered_121 hl (by decide) rfl (fun ls hl => ?_)
              obtain ⟨x42, hx42, hhx42⟩ := bnd h
              clear h
              refine w_L_ordered_123 l X hRL hcs BIG p0 p2 p3 (x1 - x1 / p2 * p2) (x3 - x3 / x4 * x4) x6.1 x8 x9 x18.1 (0 : Int32) (0 : Int32) x18.2 x42 hx42 (fun H locs ls hj hH hl => ?_) (fun H locs ls hj hH hl => ?_) (fun H locs ls hj hH hl => ?_) _ _ _ hH (lv_sub hl [3, 4, 5, 6, 7, 8, 9, 10, 2, 1, 0] rfl)
              · have h := hhx42
                clear hhx42
                replace h := ift h hj
                refine lv_iconst (v := 0) hx hb dL_ordered_191 (by decide) ?_
                exact eZ X hH (by decide) h hr dL_ordered_192 (Nat.le_of_ble_eq_true rfl) (Nat.le_of_ble_eq_true rfl)
              · have h := hhx42
                clear hhx42
                replace h := iff' h (by rw [hj]; decide)
                replace h := ift h hj
                refine lv_iconst (v := 0) hx hb dL_ordered_256 (by decide) ?_
                exact eZ X hH (by decide) h hr dL_ordered_257 (Nat.le_of_ble_eq_true rfl) (Nat.le_of_ble_eq_true rfl)
              · have h := hhx42
                clear hhx42
                replace h := iff' h (by rw [hj]; decide)
                replace h := iff' h (by rw [hj]; decide)
                refine lv_lload hx hb dL_ordered_264 (lv_at hl 3 rfl) ?_
                refine lv_lconst (v := 0) hx hb dL_ordered_266 (by decide) ?_
                refine W.lcmp hx hb dL_ordered_267 ?_
                refine lv_if_le (tgt := 295) hx hb dL_ordered_268 (by decide) (fun hc43 => ?_) (fun hc43 => ?_)
                · replace h := ift h hc43
                  refine lv_iconst (v := 0) hx hb dL_ordered_295 (by decide) ?_
                  exact eZ X hH (by decide) h hr dL_ordered_296 (Nat.le_of_ble_eq_true rfl) (Nat.le_of_ble_eq_true rfl)
                · replace h := iff' h hc43
                  refine lv_aload_n hx hb dL_ordered_271 rfl (lv_at hl 0 rfl) ?_
                  refine lv_iconst (v := 1) hx hb dL_ordered_272 (by decide) ?_
                  refine lv_iload_n hx hb dL_ordered_273 rfl (lv_at hl 1 rfl) ?_
                  obtain ⟨x44, hx44, h⟩ := bnd h
                  refine iv_L_88 l X hH hRL (by decide) hx44 hl.1 (Nat.le_of_ble_eq_true rfl) dL_ordered_274 hcs (fun H locs hH => ?_)
                  refine lv_bipush (v := -3) hx hb dL_ordered_277 (by decide) ?_
                  refine lv_icmp_ne (tgt := 295) hx hb dL_ordered_279 (by decide) (fun hc45 => ?_) (fun hc45 => ?_)
                  · replace h := iff' h hc45
                    refine lv_iconst (v := 0) hx hb dL_ordered_295 (by decide) ?_
                    exact eZ X hH (by decide) h hr dL_ordered_296 (Nat.le_of_ble_eq_true rfl) (Nat.le_of_ble_eq_true rfl)
                  · replace h := ift h hc45
                    refine lv_aload_n hx hb dL_ordered_282 rfl (lv_at hl 0 rfl) ?_
                    refine lv_iload_n hx hb dL_ordered_283 rfl (lv_at hl 2 rfl) ?_
                    obtain ⟨x46, hx46, h⟩ := bnd h
                    refine iv_L_145 l X hH hRL (by decide) hx46 hl.1 (Nat.le_of_ble_eq_true rfl) dL_ordered_284 hcs (fun H locs hH => ?_)
                    refine lv_iload_n hx hb dL_ordered_287 rfl (lv_at hl 1 rfl) ?_
                    refine lv_icmp_ne (tgt := 295) hx hb dL_ordered_288 (by decide) (fun hc47 => ?_) (fun hc47 => ?_)
                    · replace h := iff' h hc47
                      refine lv_iconst (v := 0) hx hb dL_ordered_295 (by decide) ?_
                      exact eZ X hH (by decide) h hr dL_ordered_296 (Nat.le_of_ble_eq_true rfl) (Nat.le_of_ble_eq_true rfl)
                    · replace h := ift h hc47
                      refine lv_iconst (v := 1) hx hb dL_ordered_291 (by decide) ?_
                      refine lv_goto (tgt := 296) hx hb dL_ordered_292 (by decide) ?_
                      exact eZ X hH (by decide) h hr dL_ordered_296 (Nat.le_of_ble_eq_true rfl) (Nat.le_of_ble_eq_true rfl)
            · replace h := iff' h hc17
              refine lv_iload hx hb dL_ordered_98 (lv_at hl 5 rfl) ?_
              refine lv_bipush (v := -9) hx hb dL_ordered_100 (by decide) ?_
              refine lv_icmp_ne (tgt := 109) hx hb dL_ordered_102 (by decide) (fun hc48 => ?_) (fun hc48 => ?_)
              · replace h := iff' h hc48
                refine lv_iconst (v := 0) hx hb dL_ordered_109 (by decide) ?_
                exact eZ X hH (by decide) h hr dL_ordered_110 (Nat.le_of_ble_eq_true rfl) (Nat.le_of_ble_eq_true rfl)
              · replace h := ift h hc48
                refine lv_iconst (v := 1) hx hb dL_ordered_105 (by decide) ?_
                refine lv_goto (tgt := 110) hx hb dL_ordered_106 (by decide) ?_
                exact eZ X hH (by decide) h hr dL_ordered_110 (Nat.le_of_ble_eq_true rfl) (Nat.le_of_ble_eq_true rfl)
          · replace h := iff' h hc16
            refine lv_iconst (v := 0) hx hb dL_ordered_91 (by decide) ?_
            exact eZ X hH (by decide) h hr dL_ordered_92 (Nat.le_of_ble_eq_true rfl) (Nat.le_of_ble_eq_true rfl)
        · have h := hbx14
          clear hx14 hbx14
          refine lv_if_le (tgt := 87) hx hb dL_ordered_80 (by decide) (fun hc15 => ?_) (fun hc15 => ?_)
          · replace h := ift h hc15
            refine lv_iconst (v := 0) hx hb dL_ordered_87 (by decide) ?_
            cases h
            exact jnx14 _ _ _ hH (lv_sub hl [0, 1, 2, 3, 4, 5, 6, 7] rfl)
          · replace h := iff' h hc15
            refine lv_iconst (v := 1) hx hb dL_ordered_83 (by decide) ?_
            refine lv_goto (tgt := 88) hx hb dL_ordered_84 (by decide) ?_
            cases h
            exact jnx14 _ _ _ hH (lv_sub hl [0, 1, 2, 3, 4, 5, 6, 7] rfl)
      · have h := hbx12
        clear hx12 hbx12
        refine lv_if_le (tgt := 77) hx hb dL_ordered_70 (by decide) (fun hc13 => ?_) (fun hc13 => ?_)
        · replace h := ift h hc13
          refine lv_iconst (v := 0) hx hb dL_ordered_77 (by decide) ?_
          cases h
          exact jnx12 _ _ _ hH (lv_sub hl [6, 8, 9, 5, 4, 3, 1, 0] rfl)
        · replace h := iff' h hc13
          refine lv_iconst (v := 1) hx hb dL_ordered_73 (by decide) ?_
          refine lv_goto (tgt := 78) hx hb dL_ordered_74 (by decide) ?_
          cases h
          exact jnx12 _ _ _ hH (lv_sub hl [6, 8, 9, 5, 4, 3, 1, 0] rfl)
set_option maxHeartbeats 1000000 in
theorem iv_L_69 {p : Program} {e : Env} {R : Room} {s : State} {m : MethodId} {args : Array Value} {below : List Frame} {meth : Method} {c : Code} {H : Heap} {locs : List Loc} {cells slots : Nat} {Q : State → Prop} {cc : ByteArray} {pc : Nat} {ls : Array Slot} {rest : List Value} {nL : Nat} {G : CG} {μ : Mm} {a : Nat}  {x : Int32 × Mm} {k k2 : Nat} (l : Launch) (X : Cx p s m args meth c cc nL RL G) (hH : HS G s μ H locs) (hRL : RmL R k k2) (hk : 3 + 1 ≤ k ∧ 76 ≤ k2) (h : f_X11_pace μ a = some x) (hls : ls.size = nL) (hroom : (rest.map fun v => v.category).sum ≤ 8) (hdg : decode cc pc = .ok (.invokevirtual 69, 3)) (hcs : cells + 0 ≤ R.cells ∧ slots + 0 ≤ R.slots) (kk : ∀ (H1 : Heap) (locs1 : List Loc), HS G s x.2 H1 locs1 → W p l e R s m args below meth c H1 locs1 cells slots Q (F0 m (pc + 3) ls (.int x.1 :: rest))) : W p l e R s m args below meth c H locs cells slots Q (F0 m pc ls (.ref a :: rest)) := by
  refine kI hH (rV (As := []) (rest := rest) X hH (t_X11_pace h) vc_11 (c_X11_pace l G μ a x h) (List.forall_mem_cons.mpr ⟨u_645, (List.forall_mem_cons.mpr ⟨u_646, (List.forall_mem_cons.mpr ⟨u_647, (List.forall_mem_cons.mpr ⟨u_21, (fun _ h9 => absurd h9 List.not_mem_nil)⟩)⟩)⟩)⟩) u_648 (rmo hRL (Nat.le_trans (by decide) hk.1) (Nat.le_trans (by decide) hk.2)) ddV_X11_pace rfl hls rfl hroom hdg hcs) kk
set_option maxHeartbeats 1000000 in
theorem iv_L_66 {p : Program} {e : Env} {R : Room} {s : State} {m : MethodId} {args : Array Value} {below : List Frame} {meth : Method} {c : Code} {H : Heap} {locs : List Loc} {cells slots : Nat} {Q : State → Prop} {cc : ByteArray} {pc : Nat} {ls : Array Slot} {rest : List Value} {nL : Nat} {G : CG} {μ : Mm} {a : Nat}  {x : Int32 × Mm} {k k2 : Nat} (l : Launch) (X : Cx p s m args meth c cc nL RL G) (hH : HS G s μ H locs) (hRL : RmL R k k2) (hk : 2 + 1 ≤ k ∧ 41 ≤ k2) (h : f_X11_hour μ a = some x) (hls : ls.size = nL) (hroom : (rest.map fun v => v.category).sum ≤ 8) (hdg : decode cc pc = .ok (.invokevirtual 66, 3)) (hcs : cells + 0 ≤ R.cells ∧ slots + 0 ≤ R.slots) (kk : ∀ (H1 : Heap) (locs1 : List Loc), HS G s x.2 H1 locs1 → W p l e R s m args below meth c H1 locs1 cells slots Q (F0 m (pc + 3) ls (.int x.1 :: rest))) : W p l e R s m args below meth c H locs cells slots Q (F0 m pc ls (.ref a :: rest)) := by
  refine kI hH (rV (As := []) (rest := rest) X hH (t_X11_hour h) vc_11 (c_X11_hour l G μ a x h) (List.forall_mem_cons.mpr ⟨u_664, (List.forall_mem_cons.mpr ⟨u_665, (List.forall_mem_cons.mpr ⟨u_666, (List.forall_mem_cons.mpr ⟨u_21, (fun _ h9 => absurd h9 List.not_mem_nil)⟩)⟩)⟩)⟩) u_667 (rmo hRL (Nat.le_trans (by decide) hk.1) (Nat.le_trans (by decide) hk.2)) ddV_X11_hour rfl hls rfl hroom hdg hcs) kk
set_option maxHeartbeats 4000000 in
set_option maxRecDepth 100000 in
theorem w_L_paced_4 {p : Program} {e : Env} {R : Room} {s : State} {m : MethodId} {args : Array Value} {below : List Frame} {meth : Method} {c : Code} {cells slots : Nat} {Q : State → Prop} {G : CG} (l : Launch) (X : Cx p s m args meth c cL_paced 5 RL G) (hRL : RmL R 7 126) (hcs : cells ≤ R.cells ∧ slots ≤ R.slots) : ∀ (n : Nat) (v0 : Nat) (v1 : Int32) (v2 : Int32) (v3 : Int32) (μ : Mm) (x : Int32 × Mm), lp_L_paced_4 n v0 v1 v2 v3 μ = some x → (∀ (H : Heap) (locs : List Loc) (ls : Array Slot), HS G s x.2 H locs → lv_has ls 5 [(0, .ref v0), (2, .int x.1)] → W p l e R s m args below meth c H locs cells slots Q (F0 m 28 ls [])) → ∀ (H : Heap) (locs : List Loc) (ls : Array Slot), HS G s μ H locs → lv_has ls 5 [(0, .ref v0), (1, .int v1), (2, .int v2), (3, .int v3)] → W p l e R s m args below meth c H locs cells slots Q (F0 m 4 ls []) := by
  have hx := X.1
  have hb := X.2.1
  have hown := X.2.2.2.1
  have hts := X.2.2.2.2.1
  intro n
  induction n with
  | zero =>
    intro v0 v1 v2 v3 μ x h
    rw [lp_L_paced_4] at h
    cases h
  | succ n ih =>
    intro v0 v1 v2 v3 μ x h k0 H locs ls hH hl
    rw [lp_L_paced_4] at h
    refine lv_iload_n hx hb dL_paced_4 rfl (lv_at hl 3 rfl) ?_
    refine lv_iload_n hx hb dL_paced_5 rfl (lv_at hl 1 rfl) ?_
    refine lv_icmp_ge (tgt := 28) hx hb dL_paced_6 (by decide) (fun hc1 => ?_) (fun hc1 => ?_)
    · replace h := ift h hc1
      cases h
      exact k0 _ _ _ hH (lv_sub hl [0, 2] rfl)
    · replace h := iff' h hc1
      refine lv_iload_n hx hb dL_paced_9 rfl (lv_at hl 2 rfl) ?_
      refine lv_aload_n hx hb dL_paced_10 rfl (lv_at hl 0 rfl) ?_
      refine lv_aload_n hx hb dL_paced_11 rfl (lv_at hl 0 rfl) ?_
      refine lv_iload_n hx hb dL_paced_12 rfl (lv_at hl 3 rfl) ?_
      refine lv_iconst (v := 4) hx hb dL_paced_13 (by decide) ?_
      obtain ⟨x2, hx2, h⟩ := bnd h
      refine iv_L_52 l X hH hRL (by decide) hx2 hl.1 (Nat.le_of_ble_eq_true rfl) dL_paced_14 hcs (fun H locs hH => ?_)
      obtain ⟨x3, hx3, h⟩ := bnd h
      refine iv_L_55 l X hH hRL (by decide) hx3 hl.1 (Nat.le_of_ble_eq_true rfl) dL_paced_17 hcs (fun H locs hH => ?_)
      refine lv_iadd hx hb dL_paced_20 ?_
      refine lv_istore_n (lv' := [(2, .int (v2 + x3)), (0, .ref v0), (1, .int v1), (3, .int v3)]) hx hb dL_paced_21 rfl hl (by decide) rfl (fun ls hl => ?_)
      refine lv_iinc (v := (v3 + 1)) (lv' := [(3, .int (v3 + 1)), (2, .int (v2 + x3)), (0, .ref v0), (1, .int v1)]) hx hb dL_paced_22 hl (k := 3) rfl rfl (by decide) rfl (fun ls hl => ?_)
      refine lv_goto (tgt := 4) hx hb dL_paced_25 (by decide) ?_
      exact ih _ _ _ _ _ _ h k0 _ _ _ hH (lv_sub hl [2, 3, 1, 0] rfl)
set_option maxHeartbeats 4000000 in
set_option maxRecDepth 100000 in
theorem c_L_paced (l : Launch) (G : CG) (μ : Mm) (p0 : Nat) (p1 : Int32) (x : Int32 × Mm) (h : f_L_paced μ p0 p1 = some x) : Met l yL_paced (.code yL_paced cL_paced 5 (some .boolean) :: UW) (rmk 7 126 0 0) (PC G [.ref p0, .int p1] μ) (QI G x.1 x.2) 0 0 (fA G) := by
  refine Met.ofW (cc := cL_paced) (maxL := 5) (ret := (some .boolean)) (by decide) rfl ?_
  intro p e s m args below meth c s₁ B hml hv
  obtain ⟨X, hH, hr, rfl, hnm⟩ := cx_in B hml hv
  have X : Cx p s m _ meth c cL_paced 5 RL G := X
  have hx := X.1
  have hb := X.2.1
  have hown := X.2.2.2.1
  have hts := X.2.2.2.2.1
  have hRL : RmL (rmk 7 126 0 0) 7 126 := ⟨Nat.le_refl _, Nat.le_refl _⟩
  have hcs : 0 ≤ (rmk 0 0 0 0).cells ∧ 0 ≤ (rmk 0 0 0 0).slots := ⟨Nat.zero_le _, Nat.zero_le _⟩
  refine ls_in (Nat.le_of_ble_eq_true rfl) (fun ls hl => ?_)
  have hl : lv_has ls 5 [(0, .ref p0), (1, .int p1)] := hl
  unfold f_L_paced at h
  refine lv_iconst (v := 0) hx hb dL_paced_0 (by decide) ?_
  refine lv_istore_n (lv' := [(2, .int (0 : Int32)), (0, .ref p0), (1, .int p1)]) hx hb dL_paced_1 rfl hl (by decide) rfl (fun ls hl => ?_)
  refine lv_iconst (v := 0) hx hb dL_paced_2 (by decide) ?_
  refine lv_istore_n (lv' := [(3, .int (0 : Int32)), (2, .int (0 : Int32)), (0, .ref p0), (1, .int p1)]) hx hb dL_paced_3 rfl hl (by decide) rfl (fun ls hl => ?_)
  obtain ⟨x4, hx4, hhx4⟩ := bnd h
  clear h
  refine w_L_paced_4 l X hRL hcs BIG p0 p1 (0 : Int32) (0 : Int32) μ x4 hx4 (fun H locs ls hH hl => ?_) _ _ _ hH (lv_sub hl [2, 3, 1, 0] rfl)
  · have h := hhx4
    clear hhx4
    refine lv_aload_n hx hb dL_paced_28 rfl (lv_at hl 0 rfl) ?_
    refine lv_iconst (v := 1) hx hb dL_paced_29 (by decide) ?_
    obtain ⟨x5, hx5, h⟩ := bnd h
    refine iv_L_49 l X hH hRL (by decide) hx5 hl.1 (Nat.le_of_ble_eq_true rfl) dL_paced_30 hcs (fun H locs hH => ?_)
    refine lv_istore_n (lv' := [(3, .int x5), (0, .ref p0), (2, .int x4.1)]) hx hb dL_paced_33 rfl hl (by decide) rfl (fun ls hl => ?_)
    refine lv_aload_n hx hb dL_paced_34 rfl (lv_at hl 1 rfl) ?_
    obtain ⟨x6, hx6, h⟩ := bnd h
    refine iv_L_69 l X hH hRL (by decide) hx6 hl.1 (Nat.le_of_ble_eq_true rfl) dL_paced_35 hcs (fun H locs hH => ?_)
    refine lv_istore (lv' := [(4, .int x6.1), (3, .int x5), (0, .ref p0), (2, .int x4.1)]) hx hb dL_paced_38 hl (by decide) rfl (fun ls hl => ?_)
    refine lv_iload_n hx hb dL_paced_40 rfl (lv_at hl 3 rfl) ?_
    refine lv_if_ne (tgt := 75) hx hb dL_paced_41 (by decide) (fun hc7 => ?_) (fun hc7 => ?_)
    · replace h := iff' h hc7
      refine lv_iload hx hb dL_paced_75 (lv_at hl 0 rfl) ?_
      refine lv_iconst (v := 1) hx hb dL_paced_77 (by decide) ?_
      refine lv_icmp_ne (tgt := 158) hx hb dL_paced_78 (by decide) (fun hc8 => ?_) (fun hc8 => ?_)
      · replace h := iff' h hc8
        refine lv_iconst (v := 0) hx hb dL_paced_158 (by decide) ?_
        exact eZ X hH (by decide) h hr dL_paced_159 (Nat.le_of_ble_eq_true rfl) (Nat.le_of_ble_eq_true rfl)
      · replace h := ift h hc8
        refine lv_iload_n hx hb dL_paced_81 rfl (lv_at hl 3 rfl) ?_
        refine lv_i2l hx hb dL_paced_82 rfl ?_
        refine lv_aload_n hx hb dL_paced_83 rfl (lv_at hl 2 rfl) ?_
        obtain ⟨x9, hx9, h⟩ := bnd h
        refine iv_L_75 l X hH hRL (by decide) hx9 hl.1 (Nat.le_of_ble_eq_true rfl) dL_paced_84 hcs (fun H locs hH => ?_)
        obtain ⟨hd10, h⟩ := gsf h
        refine lv_lrem hx hb dL_paced_87 hd10 ?_
        refine lv_lconst (v := 0) hx hb dL_paced_88 (by decide) ?_
        refine W.lcmp hx hb dL_paced_89 ?_
        refine lv_if_ne (tgt := 158) hx hb dL_paced_90 (by decide) (fun hc11 => ?_) (fun hc11 => ?_)
        · replace h := iff' h hc11
          refine lv_iconst (v := 0) hx hb dL_paced_158 (by decide) ?_
          exact eZ X hH (by decide) h hr dL_paced_159 (Nat.le_of_ble_eq_true rfl) (Nat.le_of_ble_eq_true rfl)
        · replace h := ift h hc11
          refine lv_aload_n hx hb dL_paced_93 rfl (lv_at hl 2 rfl) ?_
          obtain ⟨x12, hx12, h⟩ := bnd h
          refine iv_L_79 l X hH hRL (by decide) hx12 hl.1 (Nat.le_of_ble_eq_true rfl) dL_paced_94 hcs (fun H locs hH => ?_)
          refine lv_iload_n hx hb dL_paced_97 rfl (lv_at hl 3 rfl) ?_
          refine lv_i2l hx hb dL_paced_98 rfl ?_
          refine lv_aload_n hx hb dL_paced_99 rfl (lv_at hl 2 rfl) ?_
          obtain ⟨x13, hx13, h⟩ := bnd h
          refine iv_L_75 l X hH hRL (by decide) hx13 hl.1 (Nat.le_of_ble_eq_true rfl) dL_paced_100 hcs (fun H locs hH => ?_)
          obtain ⟨hd14, h⟩ := gsf h
          refine lv_ldiv hx hb dL_paced_103 hd14 ?_
          refine lv_lmul hx hb dL_paced_104 ?_
          refine lv_aload_n hx hb dL_paced_105 rfl (lv_at hl 2 rfl) ?_
          refine lv_iconst (v := 3) hx hb dL_paced_106 (by decide) ?_
          obtain ⟨x15, hx15, h⟩ := bnd h
          refine iv_L_49 l X hH hRL (by decide) hx15 hl.1 (Nat.le_of_ble_eq_true rfl) dL_paced_107 hcs (fun H locs hH => ?_)
          refine lv_i2l hx hb dL_paced_110 rfl ?_
          refine lv_iload_n hx hb dL_paced_111 rfl (lv_at hl 1 rfl) ?_
          refine lv_i2l hx hb dL_paced_112 rfl ?_
          refine lv_lmul hx hb dL_paced_113 ?_
          refine lv_aload_n hx hb dL_paced_114 rfl (lv_at hl 2 rfl) ?_
          refine lv_iconst (v := 2) hx hb dL_paced_115 (by decide) ?_
          obtain ⟨x16, hx16, h⟩ := bnd h
          refine iv_L_49 l X hH hRL (by decide) hx16 hl.1 (Nat.le_of_ble_eq_true rfl) dL_paced_116 hcs (fun H locs hH => ?_)
          refine lv_i2l hx hb dL_paced_119 rfl ?_
          refine lv_ladd hx hb dL_paced_120 ?_
          refine W.lcmp hx hb dL_paced_121 ?_
          refine lv_if_ne (tgt := 158) hx hb dL_paced_122 (by decide) (fun hc17 => ?_) (fun hc17 => ?_)
          · replace h := iff' h hc17
            refine lv_iconst (v := 0) hx hb dL_paced_158 (by decide) ?_
            exact eZ X hH (by decide) h hr dL_paced_159 (Nat.le_of_ble_eq_true rfl) (Nat.le_of_ble_eq_true rfl)
          · replace h := ift h hc17
            refine lv_aload_n hx hb dL_paced_125 rfl (lv_at hl 2 rfl) ?_
            obtain ⟨x18, hx18, h⟩ := bnd h
            refine iv_L_66 l X hH hRL (by decide) hx18 hl.1 (Nat.le_of_ble_eq_true rfl) dL_paced_126 hcs (fun H locs hH => ?_)
            refine lv_bipush (v := 12) hx hb dL_paced_129 (by decide) ?_
            refine lv_aload_n hx hb dL_paced_131 rfl (lv_at hl 2 rfl) ?_
            refine lv_iconst (v := 2) hx hb dL_paced_132 (by decide) ?_
            obtain ⟨x19, hx19, h⟩ := bnd h
            refine iv_L_49 l X hH hRL (by decide) hx19 hl.1 (Nat.le_of_ble_eq_true rfl) dL_paced_133 hcs (fun H locs hH => ?_)
            refine lv_imul hx hb dL_paced_136 ?_
            refine lv_iload_n hx hb dL_paced_137 rfl (lv_at hl 1 rfl) ?_
            obtain ⟨hd20, h⟩ := gsf h
            refine lv_idiv hx hb dL_paced_138 hd20 ?_
            refine lv_icmp_ne (tgt := 158) hx hb dL_paced_139 (by decide) (fun hc21 => ?_) (fun hc21 => ?_)
            · replace h := iff' h hc21
              refine lv_iconst (v := 0) hx hb dL_paced_158 (by decide) ?_
              exact eZ X hH (by decide) h hr dL_paced_159 (Nat.le_of_ble_eq_true rfl) (Nat.le_of_ble_eq_true rfl)
            · replace h := ift h hc21
              refine lv_aload_n hx hb dL_paced_142 rfl (lv_at hl 2 rfl) ?_
              obtain ⟨x22, hx22, h⟩ := bnd h
              refine iv_L_45 l X hH hRL (by decide) hx22 hl.1 (Nat.le_of_ble_eq_true rfl) dL_paced_143 hcs (fun H locs hH => ?_)
              refine lv_aload_n hx hb dL_paced_146 rfl (lv_at hl 2 rfl) ?_
              refine lv_iconst (v := 3) hx hb dL_paced_147 (by decide) ?_
              obtain ⟨x23, hx23, h⟩ := bnd h
              refine iv_L_49 l X hH hRL (by decide) hx23 hl.1 (Nat.le_of_ble_eq_true rfl) dL_paced_148 hcs (fun H locs hH => ?_)
              refine lv_icmp_ne (tgt := 158) hx hb dL_paced_151 (by decide) (fun hc24 => ?_) (fun hc24 => ?_)
              · replace h := iff' h hc24
                refine lv_iconst (v := 0) hx hb dL_paced_158 (by decide) ?_
                exact eZ X hH (by decide) h hr dL_paced_159 (Nat.le_of_ble_eq_true rfl) (Nat.le_of_ble_eq_true rfl)
              · replace h := ift h hc24
                refine lv_iconst (v := 1) hx hb dL_paced_154 (by decide) ?_
                refine lv_goto (tgt := 159) hx hb dL_paced_155 (by decide) ?_
                exact eZ X hH (by decide) h hr dL_paced_159 (Nat.le_of_ble_eq_true rfl) (Nat.le_of_ble_eq_true rfl)
    · replace h := ift h hc7
      refine lv_iload hx hb dL_paced_44 (lv_at hl 0 rfl) ?_
      refine lv_bipush (v := -3) hx hb dL_paced_46 (by decide) ?_
      refine lv_icmp_ne (tgt := 71) hx hb dL_paced_48 (by decide) (fun hc25 => ?_) (fun hc25 => ?_)
      · replace h := iff' h hc25
        refine lv_iconst (v := 0) hx hb dL_paced_71 (by decide) ?_
        refine lv_goto (tgt := 159) hx hb dL_paced_72 (by decide) ?_
        exact eZ X hH (by decide) h hr dL_paced_159 (Nat.le_of_ble_eq_true rfl) (Nat.le_of_ble_eq_true rfl)
      · replace h := ift h hc25
        refine lv_aload_n hx hb dL_paced_51 rfl (lv_at hl 2 rfl) ?_
        refine lv_iconst (v := 2) hx hb dL_paced_52 (by decide) ?_
        obtain ⟨x26, hx26, h⟩ := bnd h
        refine iv_L_49 l X hH hRL (by decide) hx26 hl.1 (Nat.le_of_ble_eq_true rfl) dL_paced_53 hcs (fun H locs hH => ?_)
        refine lv_if_ne (tgt := 71) hx hb dL_paced_56 (by decide) (fun hc27 => ?_) (fun hc27 => ?_)
        · replace h := iff' h hc27
          refine lv_iconst (v := 0) hx hb dL_paced_71 (by decide) ?_
          refine lv_goto (tgt := 159) hx hb dL_paced_72 (by decide) ?_
          exact eZ X hH (by decide) h hr dL_paced_159 (Nat.le_of_ble_eq_true rfl) (Nat.le_of_ble_eq_true rfl)
        · replace h := ift h hc27
          refine lv_aload_n hx hb dL_paced_59 rfl (lv_at hl 2 rfl) ?_
          refine lv_iconst (v := 3) hx hb dL_paced_60 (by decide) ?_
          obtain ⟨x28, hx28, h⟩ := bnd h
          refine iv_L_49 l X hH hRL (by decide) hx28 hl.1 (Nat.le_of_ble_eq_true rfl) dL_paced_61 hcs (fun H locs hH => ?_)
          refine lv_if_ne (tgt := 71) hx hb dL_paced_64 (by decide) (fun hc29 => ?_) (fun hc29 => ?_)
          · replace h := iff' h hc29
            refine lv_iconst (v := 0) hx hb dL_paced_71 (by decide) ?_
            refine lv_goto (tgt := 159) hx hb dL_paced_72 (by decide) ?_
            exact eZ X hH (by decide) h hr dL_paced_159 (Nat.le_of_ble_eq_true rfl) (Nat.le_of_ble_eq_true rfl)
          · replace h := ift h hc29
            refine lv_iconst (v := 1) hx hb dL_paced_67 (by decide) ?_
            refine lv_goto (tgt := 159) hx hb dL_paced_68 (by decide) ?_
            exact eZ X hH (by decide) h hr dL_paced_159 (Nat.le_of_ble_eq_true rfl) (Nat.le_of_ble_eq_true rfl)
