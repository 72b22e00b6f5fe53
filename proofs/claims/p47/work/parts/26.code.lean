set_option maxHeartbeats 1000000 in
theorem iv_L_24 {p : Program} {e : Env} {R : Room} {s : State} {m : MethodId} {args : Array Value} {below : List Frame} {meth : Method} {c : Code} {H : Heap} {locs : List Loc} {cells slots : Nat} {Q : State → Prop} {cc : ByteArray} {pc : Nat} {ls : Array Slot} {rest : List Value} {nL : Nat} {G : CG} {μ : Mm} {a : Nat} {q0 : Int32} {q1 : Int32} {x : Int32 × Mm} {k k2 : Nat} (l : Launch) (X : Cx p s m args meth c cc nL RL G) (hH : HS G s μ H locs) (hRL : RmL R k k2) (hk : 3 + 1 ≤ k ∧ 101 ≤ k2) (h : f_X11_text μ a q0 q1 = some x) (hls : ls.size = nL) (hroom : (rest.map fun v => v.category).sum ≤ 8) (hdg : decode cc pc = .ok (.invokevirtual 24, 3)) (hcs : cells + 0 ≤ R.cells ∧ slots + 0 ≤ R.slots) (kk : ∀ (H1 : Heap) (locs1 : List Loc), HS G s x.2 H1 locs1 → W p l e R s m args below meth c H1 locs1 cells slots Q (F0 m (pc + 3) ls (.int x.1 :: rest))) : W p l e R s m args below meth c H locs cells slots Q (F0 m pc ls (.int q1 :: .int q0 :: .ref a :: rest)) := by
  refine kI hH (rV (As := [.int q0, .int q1]) (rest := rest) X hH (t_X11_text h) vc_11 (c_X11_text l G μ a q0 q1 x h) (List.forall_mem_cons.mpr ⟨u_472, (List.forall_mem_cons.mpr ⟨u_473, (List.forall_mem_cons.mpr ⟨u_474, (List.forall_mem_cons.mpr ⟨u_21, (fun _ h9 => absurd h9 List.not_mem_nil)⟩)⟩)⟩)⟩) u_475 (rmo hRL (Nat.le_trans (by decide) hk.1) (Nat.le_trans (by decide) hk.2)) ddV_X11_text rfl hls rfl hroom hdg hcs) kk
set_option maxHeartbeats 1000000 in
theorem iv_L_28 {p : Program} {e : Env} {R : Room} {s : State} {m : MethodId} {args : Array Value} {below : List Frame} {meth : Method} {c : Code} {H : Heap} {locs : List Loc} {cells slots : Nat} {Q : State → Prop} {cc : ByteArray} {pc : Nat} {ls : Array Slot} {rest : List Value} {nL : Nat} {G : CG} {μ : Mm} {q0 : Nat} {q1 : Int32} {q2 : Int32} {x : Int32 × Mm} {k k2 : Nat} (l : Launch) (X : Cx p s m args meth c cc nL RL G) (hH : HS G s μ H locs) (hRL : RmL R k k2) (hk : 5 + 1 ≤ k ∧ 113 ≤ k2) (h : f_L_put μ q0 q1 q2 = some x) (hls : ls.size = nL) (hroom : (rest.map fun v => v.category).sum ≤ 8) (hdg : decode cc pc = .ok (.invokestatic 28, 3)) (hcs : cells + 0 ≤ R.cells ∧ slots + 0 ≤ R.slots) (kk : ∀ (H1 : Heap) (locs1 : List Loc), HS G s x.2 H1 locs1 → W p l e R s m args below meth c H1 locs1 cells slots Q (F0 m (pc + 3) ls (.int x.1 :: rest))) : W p l e R s m args below meth c H locs cells slots Q (F0 m pc ls (.int q2 :: .int q1 :: .ref q0 :: rest)) := by
  refine kI hH (rS (As := [.ref q0, .int q1, .int q2]) (rest := rest) X hH (c_L_put l G μ q0 q1 q2 x h) (List.forall_mem_cons.mpr ⟨u_481, (List.forall_mem_cons.mpr ⟨u_482, (List.forall_mem_cons.mpr ⟨u_20, (fun _ h9 => absurd h9 List.not_mem_nil)⟩)⟩)⟩) u_483 (rmo hRL (Nat.le_trans (by decide) hk.1) (Nat.le_trans (by decide) hk.2)) ddS_L_put rfl hls rfl hroom hdg hcs) kk
set_option maxHeartbeats 1000000 in
theorem iv_L_31 {p : Program} {e : Env} {R : Room} {s : State} {m : MethodId} {args : Array Value} {below : List Frame} {meth : Method} {c : Code} {H : Heap} {locs : List Loc} {cells slots : Nat} {Q : State → Prop} {cc : ByteArray} {pc : Nat} {ls : Array Slot} {rest : List Value} {nL : Nat} {G : CG} {μ : Mm} {a : Nat} {q0 : Int32} {x : Int32 × Mm} {k k2 : Nat} (l : Launch) (X : Cx p s m args meth c cc nL RL G) (hH : HS G s μ H locs) (hRL : RmL R k k2) (hk : 7 + 1 ≤ k ∧ 158 ≤ k2) (h : f_X11_fault μ a q0 = some x) (hls : ls.size = nL) (hroom : (rest.map fun v => v.category).sum ≤ 8) (hdg : decode cc pc = .ok (.invokevirtual 31, 3)) (hcs : cells + 0 ≤ R.cells ∧ slots + 0 ≤ R.slots) (kk : ∀ (H1 : Heap) (locs1 : List Loc), HS G s x.2 H1 locs1 → W p l e R s m args below meth c H1 locs1 cells slots Q (F0 m (pc + 3) ls (.int x.1 :: rest))) : W p l e R s m args below meth c H locs cells slots Q (F0 m pc ls (.int q0 :: .ref a :: rest)) := by
  refine kI hH (rV (As := [.int q0]) (rest := rest) X hH (t_X11_fault h) vc_11 (c_X11_fault l G μ a q0 x h) (List.forall_mem_cons.mpr ⟨u_501, (List.forall_mem_cons.mpr ⟨u_502, (List.forall_mem_cons.mpr ⟨u_503, (List.forall_mem_cons.mpr ⟨u_21, (fun _ h9 => absurd h9 List.not_mem_nil)⟩)⟩)⟩)⟩) u_504 (rmo hRL (Nat.le_trans (by decide) hk.1) (Nat.le_trans (by decide) hk.2)) ddV_X11_fault rfl hls rfl hroom hdg hcs) kk
set_option maxHeartbeats 1000000 in
theorem iv_L_35 {p : Program} {e : Env} {R : Room} {s : State} {m : MethodId} {args : Array Value} {below : List Frame} {meth : Method} {c : Code} {H : Heap} {locs : List Loc} {cells slots : Nat} {Q : State → Prop} {cc : ByteArray} {pc : Nat} {ls : Array Slot} {rest : List Value} {nL : Nat} {G : CG} {μ : Mm} {a : Nat} {q0 : Int32} {x : Int32 × Mm} {k k2 : Nat} (l : Launch) (X : Cx p s m args meth c cc nL RL G) (hH : HS G s μ H locs) (hRL : RmL R k k2) (hk : 7 + 1 ≤ k ∧ 161 ≤ k2) (h : f_X11_hall μ a q0 = some x) (hls : ls.size = nL) (hroom : (rest.map fun v => v.category).sum ≤ 8) (hdg : decode cc pc = .ok (.invokevirtual 35, 3)) (hcs : cells + 42 ≤ R.cells ∧ slots + 84 ≤ R.slots) (kk : ∀ (H1 : Heap) (locs1 : List Loc), HS G s x.2 H1 locs1 → W p l e R s m args below meth c H1 locs1 (cells + 42) (slots + 84) Q (F0 m (pc + 3) ls (.int x.1 :: rest))) : W p l e R s m args below meth c H locs cells slots Q (F0 m pc ls (.int q0 :: .ref a :: rest)) := by
  refine kIm hH (rV (As := [.int q0]) (rest := rest) X hH (t_X11_hall h) vc_11 (c_X11_hall l G μ a q0 x h) (List.forall_mem_cons.mpr ⟨u_541, (List.forall_mem_cons.mpr ⟨u_542, (List.forall_mem_cons.mpr ⟨u_543, (List.forall_mem_cons.mpr ⟨u_21, (fun _ h9 => absurd h9 List.not_mem_nil)⟩)⟩)⟩)⟩) u_544 (rmo hRL (Nat.le_trans (by decide) hk.1) (Nat.le_trans (by decide) hk.2)) ddV_X11_hall rfl hls rfl hroom hdg hcs) kk
set_option maxHeartbeats 4000000 in
set_option maxRecDepth 100000 in
theorem w_L_hall_52 {p : Program} {e : Env} {R : Room} {s : State} {m : MethodId} {args : Array Value} {below : List Frame} {meth : Method} {c : Code} {cells slots : Nat} {Q : State → Prop} {G : CG} (l : Launch) (X : Cx p s m args meth c cL_hall 5 RL G) (hRL : RmL R 8 161) (hcs : cells ≤ R.cells ∧ slots ≤ R.slots) : ∀ (n : Nat) (v0 : Nat) (v1 : Nat) (v2 : Int32) (v3 : Int32) (μ : Mm) (x : Int32 × Mm), lp_L_hall_52 n v0 v1 v2 v3 μ = some x → (∀ (H : Heap) (locs : List Loc) (ls : Array Slot), HS G s x.2 H locs → lv_has ls 5 [(0, .ref v0), (1, .ref v1), (2, .int x.1)] → W p l e R s m args below meth c H locs cells slots Q (F0 m 149 ls [])) → ∀ (H : Heap) (locs : List Loc) (ls : Array Slot), HS G s μ H locs → lv_has ls 5 [(0, .ref v0), (1, .ref v1), (2, .int v2), (3, .int v3)] → W p l e R s m args below meth c H locs cells slots Q (F0 m 52 ls []) := by
  have hx := X.1
  have hb := X.2.1
  have hown := X.2.2.2.1
  have hts := X.2.2.2.2.1
  intro n
  induction n with
  | zero =>
    intro v0 v1 v2 v3 μ x h
    rw [lp_L_hall_52] at h
    cases h
  | succ n ih =>
    intro v0 v1 v2 v3 μ x h k0 H locs ls hH hl
    rw [lp_L_hall_52] at h
    refine lv_iload_n hx hb dL_hall_52 rfl (lv_at hl 3 rfl) ?_
    refine lv_aload_n hx hb dL_hall_53 rfl (lv_at hl 1 rfl) ?_
    refine lv_iconst (v := 0) hx hb dL_hall_54 (by decide) ?_
    obtain ⟨x8, hx8, h⟩ := bnd h
    refine w_aI X hH hx8 dL_hall_55 ?_
    refine lv_icmp_ge (tgt := 149) hx hb dL_hall_56 (by decide) (fun hc9 => ?_) (fun hc9 => ?_)
    · replace h := ift h hc9
      cases h
      exact k0 _ _ _ hH (lv_sub hl [0, 1, 2] rfl)
    · replace h := iff' h hc9
      refine lv_aload_n hx hb dL_hall_59 rfl (lv_at hl 1 rfl) ?_
      refine lv_iconst (v := 1) hx hb dL_hall_60 (by decide) ?_
      refine lv_iload_n hx hb dL_hall_61 rfl (lv_at hl 3 rfl) ?_
      refine lv_iadd hx hb dL_hall_62 ?_
      obtain ⟨x10, hx10, h⟩ := bnd h
      refine w_aI X hH hx10 dL_hall_63 ?_
      refine lv_istore (lv' := [(4, .int x10), (0, .ref v0), (1, .ref v1), (2, .int v2), (3, .int v3)]) hx hb dL_hall_64 hl (by decide) rfl (fun ls hl => ?_)
      refine lv_aload_n hx hb dL_hall_66 rfl (lv_at hl 1 rfl) ?_
      refine lv_iload_n hx hb dL_hall_67 rfl (lv_at hl 3 rfl) ?_
      refine lv_iload hx hb dL_hall_68 (lv_at hl 0 rfl) ?_
      obtain ⟨x11, hbx11, hx11⟩ := bnd h
      clear h
      refine jn_lem (G := G) (x := x11) (M := 124) (nL := 5) (fun x11 => μ) (fun x11 => [(0, .ref v0), (1, .ref v1), (3, .int v3)]) (fun x11 => [.int x11, .int v2, .ref v0]) (fun H locs ls hH hl => ?_) (fun jnx11 => ?_)
      · have h := hx11
        clear hx11 hbx11
        obtain ⟨x17, hx17, h⟩ := bnd h
        refine iv_L_28 l X hH hRL (by decide) hx17 hl.1 (Nat.le_of_ble_eq_true rfl) dL_hall_124 hcs (fun H locs hH => ?_)
        refine lv_istore_n (lv' := [(2, .int x17.1), (0, .ref v0), (1, .ref v1), (3, .int v3)]) hx hb dL_hall_127 rfl hl (by decide) rfl (fun ls hl => ?_)
        refine lv_aload_n hx hb dL_hall_128 rfl (lv_at hl 1 rfl) ?_
        refine lv_iload_n hx hb dL_hall_129 rfl (lv_at hl 0 rfl) ?_
        refine lv_bipush (v := 48) hx hb dL_hall_130 (by decide) ?_
        refine lv_aload_n hx hb dL_hall_132 rfl (lv_at hl 2 rfl) ?_
        refine lv_bipush (v := 7) hx hb dL_hall_133 (by decide) ?_
        refine lv_iload_n hx hb dL_hall_135 rfl (lv_at hl 3 rfl) ?_
        refine lv_iadd hx hb dL_hall_136 ?_
        obtain ⟨x18, hx18, h⟩ := bnd h
        refine w_aI X hH hx18 dL_hall_137 ?_
        refine lv_iadd hx hb dL_hall_138 ?_
        obtain ⟨x19, hx19, h⟩ := bnd h
        refine iv_L_28 l X hH hRL (by decide) hx19 hl.1 (Nat.le_of_ble_eq_true rfl) dL_hall_139 hcs (fun H locs hH => ?_)
        refine lv_istore_n (lv' := [(2, .int x19.1), (0, .ref v0), (1, .ref v1), (3, .int v3)]) hx hb dL_hall_142 rfl hl (by decide) rfl (fun ls hl => ?_)
        refine lv_iinc (v := (v3 + 1)) (lv' := [(3, .int (v3 + 1)), (2, .int x19.1), (0, .ref v0), (1, .ref v1)]) hx hb dL_hall_143 hl (k := 3) rfl rfl (by decide) rfl (fun ls hl => ?_)
        refine lv_goto (tgt := 52) hx hb dL_hall_146 (by decide) ?_
        exact ih _ _ _ _ _ _ h k0 _ _ _ hH (lv_sub hl [2, 3, 1, 0] rfl)
      · have h := hbx11
        clear hx11 hbx11
        refine lv_if_ne (tgt := 78) hx hb dL_hall_70 (by decide) (fun hc12 => ?_) (fun hc12 => ?_)
        · replace h := iff' h hc12
          refine lv_iload hx hb dL_hall_78 (lv_at hl 0 rfl) ?_
          refine lv_iconst (v := 1) hx hb dL_hall_80 (by decide) ?_
          refine lv_icmp_ne (tgt := 89) hx hb dL_hall_81 (by decide) (fun hc13 => ?_) (fun hc13 => ?_)
          · replace h := iff' h hc13
            refine lv_iload hx hb dL_hall_89 (lv_at hl 0 rfl) ?_
            refine lv_iconst (v := 2) hx hb dL_hall_91 (by decide) ?_
            refine lv_icmp_ne (tgt := 100) hx hb dL_hall_92 (by decide) (fun hc14 => ?_) (fun hc14 => ?_)
            · replace h := iff' h hc14
              refine lv_iload hx hb dL_hall_100 (lv_at hl 0 rfl) ?_
              refine lv_iconst (v := 3) hx hb dL_hall_102 (by decide) ?_
              refine lv_icmp_ne (tgt := 111) hx hb dL_hall_103 (by decide) (fun hc15 => ?_) (fun hc15 => ?_)
              · replace h := iff' h hc15
                refine lv_iload hx hb dL_hall_111 (lv_at hl 0 rfl) ?_
                refine lv_iconst (v := 4) hx hb dL_hall_113 (by decide) ?_
                refine lv_icmp_ne (tgt := 122) hx hb dL_hall_114 (by decide) (fun hc16 => ?_) (fun hc16 => ?_)
                · replace h := iff' h hc16
                  refine lv_bipush (v := 116) hx hb dL_hall_122 (by decide) ?_
                  cases h
                  exact jnx11 _ _ _ hH (lv_sub hl [1, 2, 4] rfl)
                · replace h := ift h hc16
                  refine lv_bipush (v := 114) hx hb dL_hall_117 (by decide) ?_
                  refine lv_goto (tgt := 124) hx hb dL_hall_119 (by decide) ?_
                  cases h
                  exact jnx11 _ _ _ hH (lv_sub hl [1, 2, 4] rfl)
              · replace h := ift h hc15
                refine lv_bipush (v := 107) hx hb dL_hall_106 (by decide) ?_
                refine lv_goto (tgt := 124) hx hb dL_hall_108 (by decide) ?_
                cases h
                exact jnx11 _ _ _ hH (lv_sub hl [1, 2, 4] rfl)
            · replace h := ift h hc14
              refine lv_bipush (v := 99) hx hb dL_hall_95 (by decide) ?_
              refine lv_goto (tgt := 124) hx hb dL_hall_97 (by decide) ?_
              cases h
              exact jnx11 _ _ _ hH (lv_sub hl [1, 2, 4] rfl)
          · replace h := ift h hc13
            refine lv_bipush (v := 104) hx hb dL_hall_84 (by decide) ?_
            refine lv_goto (tgt := 124) hx hb dL_hall_86 (by decide) ?_
            cases h
            exact jnx11 _ _ _ hH (lv_sub hl [1, 2, 4] rfl)
        · replace h := ift h hc12
          refine lv_bipush (v := 103) hx hb dL_hall_73 (by decide) ?_
          refine lv_goto (tgt := 124) hx hb dL_hall_75 (by decide) ?_
          cases h
          exact jnx11 _ _ _ hH (lv_sub hl [1, 2, 4] rfl)
set_option maxHeartbeats 4000000 in
set_option maxRecDepth 100000 in
theorem w_L_hall_151 {p : Program} {e : Env} {R : Room} {s : State} {m : MethodId} {args : Array Value} {below : List Frame} {meth : Method} {c : Code} {cells slots : Nat} {Q : State → Prop} {G : CG} (l : Launch) (X : Cx p s m args meth c cL_hall 5 RL G) (hRL : RmL R 8 161) (hcs : cells ≤ R.cells ∧ slots ≤ R.slots) : ∀ (n : Nat) (v0 : Nat) (v1 : Nat) (v2 : Int32) (v3 : Int32) (μ : Mm) (x : Int32 × Mm), lp_L_hall_151 n v0 v1 v2 v3 μ = some x → (∀ (H : Heap) (locs : List Loc) (ls : Array Slot), HS G s x.2 H locs → lv_has ls 5 [(0, .ref v0), (1, .ref v1), (2, .int x.1)] → W p l e R s m args below meth c H locs cells slots Q (F0 m 205 ls [])) → ∀ (H : Heap) (locs : List Loc) (ls : Array Slot), HS G s μ H locs → lv_has ls 5 [(0, .ref v0), (1, .ref v1), (2, .int v2), (3, .int v3)] → W p l e R s m args below meth c H locs cells slots Q (F0 m 151 ls []) := by
  have hx := X.1
  have hb := X.2.1
  have hown := X.2.2.2.1
  have hts := X.2.2.2.2.1
  intro n
  induction n with
  | zero =>
    intro v0 v1 v2 v3 μ x h
    rw [lp_L_hall_151] at h
    cases h
  | succ n ih =>
    intro v0 v1 v2 v3 μ x h k0 H locs ls hH hl
    rw [lp_L_hall_151] at h
    refine lv_iload_n hx hb dL_hall_151 rfl (lv_at hl 3 rfl) ?_
    refine lv_aload_n hx hb dL_hall_152 rfl (lv_at hl 1 rfl) ?_
    refine lv_bipush (v := 14) hx hb dL_hall_153 (by decide) ?_
    obtain ⟨x21, hx21, h⟩ := bnd h
    refine w_aI X hH hx21 dL_hall_155 ?_
    refine lv_icmp_ge (tgt := 205) hx hb dL_hall_156 (by decide) (fun hc22 => ?_) (fun hc22 => ?_)
    · replace h := ift h hc22
      cases h
      exact k0 _ _ _ hH (lv_sub hl [0, 1, 2] rfl)
    · replace h := iff' h hc22
      refine lv_aload_n hx hb dL_hall_159 rfl (lv_at hl 0 rfl) ?_
      refine lv_aload_n hx hb dL_hall_160 rfl (lv_at hl 0 rfl) ?_
      refine lv_aload_n hx hb dL_hall_161 rfl (lv_at hl 0 rfl) ?_
      refine lv_iload_n hx hb dL_hall_162 rfl (lv_at hl 2 rfl) ?_
      refine lv_bipush (v := 101) hx hb dL_hall_163 (by decide) ?_
      obtain ⟨x23, hx23, h⟩ := bnd h
      refine iv_L_28 l X hH hRL (by decide) hx23 hl.1 (Nat.le_of_ble_eq_true rfl) dL_hall_165 hcs (fun H locs hH => ?_)
      refine lv_bipush (v := 48) hx hb dL_hall_168 (by decide) ?_
      refine lv_aload_n hx hb dL_hall_170 rfl (lv_at hl 1 rfl) ?_
      refine lv_bipush (v := 15) hx hb dL_hall_171 (by decide) ?_
      refine lv_iload_n hx hb dL_hall_173 rfl (lv_at hl 3 rfl) ?_
      refine lv_iadd hx hb dL_hall_174 ?_
      obtain ⟨x24, hx24, h⟩ := bnd h
      refine w_aI X hH hx24 dL_hall_175 ?_
      refine lv_bipush (v := 10) hx hb dL_hall_176 (by decide) ?_
      refine lv_idiv hx hb dL_hall_178 (by decide) ?_
      refine lv_iadd hx hb dL_hall_179 ?_
      obtain ⟨x25, hx25, h⟩ := bnd h
      refine iv_L_28 l X hH hRL (by decide) hx25 hl.1 (Nat.le_of_ble_eq_true rfl) dL_hall_180 hcs (fun H locs hH => ?_)
      refine lv_bipush (v := 48) hx hb dL_hall_183 (by decide) ?_
      refine lv_aload_n hx hb dL_hall_185 rfl (lv_at hl 1 rfl) ?_
      refine lv_bipush (v := 15) hx hb dL_hall_186 (by decide) ?_
      refine lv_iload_n hx hb dL_hall_188 rfl (lv_at hl 3 rfl) ?_
      refine lv_iadd hx hb dL_hall_189 ?_
      obtain ⟨x26, hx26, h⟩ := bnd h
      refine w_aI X hH hx26 dL_hall_190 ?_
      refine lv_bipush (v := 10) hx hb dL_hall_191 (by decide) ?_
      refine lv_irem hx hb dL_hall_193 (by decide) ?_
      refine lv_iadd hx hb dL_hall_194 ?_
      obtain ⟨x27, hx27, h⟩ := bnd h
      refine iv_L_28 l X hH hRL (by decide) hx27 hl.1 (Nat.le_of_ble_eq_true rfl) dL_hall_195 hcs (fun H locs hH => ?_)
      refine lv_istore_n (lv' := [(2, .int x27.1), (0, .ref v0), (1, .ref v1), (3, .int v3)]) hx hb dL_hall_198 rfl hl (by decide) rfl (fun ls hl => ?_)
      refine lv_iinc (v := (v3 + 1)) (lv' := [(3, .int (v3 + 1)), (2, .int x27.1), (0, .ref v0), (1, .ref v1)]) hx hb dL_hall_199 hl (k := 3) rfl rfl (by decide) rfl (fun ls hl => ?_)
      refine lv_goto (tgt := 151) hx hb dL_hall_202 (by decide) ?_
      exact ih _ _ _ _ _ _ h k0 _ _ _ hH (lv_sub hl [2, 3, 1, 0] rfl)
set_option maxHeartbeats 4000000 in
set_option maxRecDepth 100000 in
theorem c_L_hall (l : Launch) (G : CG) (μ : Mm) (p0 : Nat) (p1 : Nat) (x : Int32 × Mm) (h : f_L_hall μ p0 p1 = some x) : Met l yL_hall (.code yL_hall cL_hall 5 (some .boolean) :: UW) (rmk 8 161 42 84) (PC G [.ref p0, .ref p1] μ) (QI G x.1 x.2) 42 84 (fA G) := by
  refine Met.ofW (cc := cL_hall) (maxL := 5) (ret := (some .boolean)) (by decide) rfl ?_
  intro p e s m args below meth c s₁ B hml hv
  obtain ⟨X, hH, hr, rfl, hnm⟩ := cx_in B hml hv
  have X : Cx p s m _ meth c cL_hall 5 RL G := X
  have hx := X.1
  have hb := X.2.1
  have hown := X.2.2.2.1
  have hts := X.2.2.2.2.1
  have hRL : RmL (rmk 8 161 42 84) 8 161 := ⟨Nat.le_refl _, Nat.le_refl _⟩
  refine ls_in (Nat.le_of_ble_eq_true rfl) (fun ls hl => ?_)
  have hl : lv_has ls 5 [(0, .ref p0), (1, .ref p1)] := hl
  unfold f_L_hall at h
  refine lv_aload_n hx hb dL_hall_0 rfl (lv_at hl 0 rfl) ?_
  refine lv_iconst (v := 3) hx hb dL_hall_1 (by decide) ?_
  refine lv_bipush (v := 60) hx hb dL_hall_2 (by decide) ?_
  obtain ⟨x1, hx1, h⟩ := bnd h
  refine iv_L_24 l X hH hRL (by decide) hx1 hl.1 (Nat.le_of_ble_eq_true rfl) dL_hall_4 ⟨Nat.le_of_ble_eq_true rfl, Nat.le_of_ble_eq_true rfl⟩ (fun H locs hH => ?_)
  refine lv_bipush (v := 60) hx hb dL_hall_7 (by decide) ?_
  refine lv_icmp_eq (tgt := 14) hx hb dL_hall_9 (by decide) (fun hc2 => ?_) (fun hc2 => ?_)
  · replace h := ift h hc2
    refine lv_aload_n hx hb dL_hall_14 rfl (lv_at hl 0 rfl) ?_
    refine lv_aload_n hx hb dL_hall_15 rfl (lv_at hl 0 rfl) ?_
    refine lv_aload_n hx hb dL_hall_16 rfl (lv_at hl 0 rfl) ?_
    refine lv_iconst (v := 1) hx hb dL_hall_17 (by decide) ?_
    refine lv_bipush (v := 100) hx hb dL_hall_18 (by decide) ?_
    obtain ⟨x3, hx3, h⟩ := bnd h
    refine iv_L_28 l X hH hRL (by decide) hx3 hl.1 (Nat.le_of_ble_eq_true rfl) dL_hall_20 ⟨Nat.le_of_ble_eq_true rfl, Nat.le_of_ble_eq_true rfl⟩ (fun H locs hH => ?_)
    refine lv_bipush (v := 48) hx hb dL_hall_23 (by decide) ?_
    refine lv_aload_n hx hb dL_hall_25 rfl (lv_at hl 1 rfl) ?_
    refine lv_bipush (v := 13) hx hb dL_hall_26 (by decide) ?_
    obtain ⟨x4, hx4, h⟩ := bnd h
    refine w_aI X hH hx4 dL_hall_28 ?_
    refine lv_bipush (v := 10) hx hb dL_hall_29 (by decide) ?_
    refine lv_idiv hx hb dL_hall_31 (by decide) ?_
    refine lv_iadd hx hb dL_hall_32 ?_
    obtain ⟨x5, hx5, h⟩ := bnd h
    refine iv_L_28 l X hH hRL (by decide) hx5 hl.1 (Nat.le_of_ble_eq_true rfl) dL_hall_33 ⟨Nat.le_of_ble_eq_true rfl, Nat.le_of_ble_eq_true rfl⟩ (fun H locs hH => ?_)
    refine lv_bipush (v := 48) hx hb dL_hall_36 (by decide) ?_
    refine lv_aload_n hx hb dL_hall_38 rfl (lv_at hl 1 rfl) ?_
    refine lv_bipush (v := 13) hx hb dL_hall_39 (by decide) ?_
    obtain ⟨x6, hx6, h⟩ := bnd h
    refine w_aI X hH hx6 dL_hall_41 ?_
    refine lv_bipush (v := 10) hx hb dL_hall_42 (by decide) ?_
    refine lv_irem hx hb dL_hall_44 (by decide) ?_
    refine lv_iadd hx hb dL_hall_45 ?_
    obtain ⟨x7, hx7, h⟩ := bnd h
    refine iv_L_28 l X hH hRL (by decide) hx7 hl.1 (Nat.le_of_ble_eq_true rfl) dL_hall_46 ⟨Nat.le_of_ble_eq_true rfl, Nat.le_of_ble_eq_true rfl⟩ (fun H locs hH => ?_)
    refine lv_istore_n (lv' := [(2, .int x7.1), (0, .ref p0), (1, .ref p1)]) hx hb dL_hall_49 rfl hl (by decide) rfl (fun ls hl => ?_)
    refine lv_iconst (v := 0) hx hb dL_hall_50 (by decide) ?_
    refine lv_istore_n (lv' := [(3, .int (0 : Int32)), (2, .int x7.1), (0, .ref p0), (1, .ref p1)]) hx hb dL_hall_51 rfl hl (by decide) rfl (fun ls hl => ?_)
    obtain ⟨x20, hx20, hhx20⟩ := bnd h
    clear h
    refine w_L_hall_52 l X hRL ⟨Nat.le_of_ble_eq_true rfl, Nat.le_of_ble_eq_true rfl⟩ BIG p0 p1 x7.1 (0 : Int32) x7.2 x20 hx20 (fun H locs ls hH hl => ?_) _ _ _ hH (lv_sub hl [2, 3, 1, 0] rfl)
    · have h := hhx20
      clear hhx20
      refine lv_iconst (v := 0) hx hb dL_hall_149 (by decide) ?_
      refine lv_istore_n (lv' := [(3, .int (0 : Int32)), (0, .ref p0), (1, .ref p1), (2, .int x20.1)]) hx hb dL_hall_150 rfl hl (by decide) rfl (fun ls hl => ?_)
      obtain ⟨x28, hx28, hhx28⟩ := bnd h
      clear h
      refine w_L_hall_151 l X hRL ⟨Nat.le_of_ble_eq_true rfl, Nat.le_of_ble_eq_true rfl⟩ BIG p0 p1 x20.1 (0 : Int32) x20.2 x28 hx28 (fun H locs ls hH hl => ?_) _ _ _ hH (lv_sub hl [1, 2, 3, 0] rfl)
      · have h := hhx28
        clear hhx28
        refine lv_iload_n hx hb dL_hall_205 rfl (lv_at hl 2 rfl) ?_
        refine lv_if_le (tgt := 234) hx hb dL_hall_206 (by decide) (fun hc29 => ?_) (fun hc29 => ?_)
        · replace h := ift h hc29
          refine lv_iconst (v := 0) hx hb dL_hall_234 (by decide) ?_
          exact eZ X hH (by decide) h hr dL_hall_235 (Nat.le_of_ble_eq_true rfl) (Nat.le_of_ble_eq_true rfl)
        · replace h := iff' h hc29
          refine lv_aload_n hx hb dL_hall_209 rfl (lv_at hl 0 rfl) ?_
          refine lv_iconst (v := 3) hx hb dL_hall_210 (by decide) ?_
          obtain ⟨x30, hx30, h⟩ := bnd h
          refine iv_L_31 l X hH hRL (by decide) hx30 hl.1 (Nat.le_of_ble_eq_true rfl) dL_hall_211 ⟨Nat.le_of_ble_eq_true rfl, Nat.le_of_ble_eq_true rfl⟩ (fun H locs hH => ?_)
          refine lv_bipush (v := -9) hx hb dL_hall_214 (by decide) ?_
          refine lv_icmp_ne (tgt := 234) hx hb dL_hall_216 (by decide) (fun hc31 => ?_) (fun hc31 => ?_)
          · replace h := iff' h hc31
            refine lv_iconst (v := 0) hx hb dL_hall_234 (by decide) ?_
            exact eZ X hH (by decide) h hr dL_hall_235 (Nat.le_of_ble_eq_true rfl) (Nat.le_of_ble_eq_true rfl)
          · replace h := ift h hc31
            refine lv_aload_n hx hb dL_hall_219 rfl (lv_at hl 0 rfl) ?_
            refine lv_iconst (v := 3) hx hb dL_hall_220 (by decide) ?_
            obtain ⟨x32, hx32, h⟩ := bnd h
            refine iv_L_35 l X hH hRL (by decide) hx32 hl.1 (Nat.le_of_ble_eq_true rfl) dL_hall_221 ⟨Nat.le_of_ble_eq_true rfl, Nat.le_of_ble_eq_true rfl⟩ (fun H locs hH => ?_)
            refine lv_aload_n hx hb dL_hall_224 rfl (lv_at hl 1 rfl) ?_
            refine lv_iconst (v := 0) hx hb dL_hall_225 (by decide) ?_
            obtain ⟨x33, hx33, h⟩ := bnd h
            refine w_aI X hH hx33 dL_hall_226 ?_
            refine lv_icmp_ne (tgt := 234) hx hb dL_hall_227 (by decide) (fun hc34 => ?_) (fun hc34 => ?_)
            · replace h := iff' h hc34
              refine lv_iconst (v := 0) hx hb dL_hall_234 (by decide) ?_
              exact eZ X hH (by decide) h hr dL_hall_235 (Nat.le_of_ble_eq_true rfl) (Nat.le_of_ble_eq_true rfl)
            · replace h := ift h hc34
              refine lv_iconst (v := 1) hx hb dL_hall_230 (by decide) ?_
              refine lv_goto (tgt := 235) hx hb dL_hall_231 (by decide) ?_
              exact eZ X hH (by decide) h hr dL_hall_235 (Nat.le_of_ble_eq_true rfl) (Nat.le_of_ble_eq_true rfl)
  · replace h := iff' h hc2
    refine lv_iconst (v := 0) hx hb dL_hall_12 (by decide) ?_
    exact eZ X hH (by decide) h hr dL_hall_13 (Nat.le_of_ble_eq_true rfl) (Nat.le_of_ble_eq_true rfl)
set_option maxHeartbeats 4000000 in
set_option maxRecDepth 100000 in
theorem c_L_bare (l : Launch) (G : CG) (μ : Mm) (p0 : Nat) (p1 : Int32) (x : Int32) (h : f_L_bare μ p0 p1 = some x) : Met l yL_bare (.code yL_bare cL_bare 4 (some .int) :: UW) (rmk 1 0 0 0) (PC G [.ref p0, .int p1] μ) (QI G x μ) 0 0 (fA G) := by
  refine Met.ofW (cc := cL_bare) (maxL := 4) (ret := (some .int)) (by decide) rfl ?_
  intro p e s m args below meth c s₁ B hml hv
  obtain ⟨X, hH, hr, rfl, hnm⟩ := cx_in B hml hv
  have X : Cx p s m _ meth c cL_bare 4 RL G := X
  have hx := X.1
  have hb := X.2.1
  have hown := X.2.2.2.1
  have hts := X.2.2.2.2.1
  have hRL : RmL (rmk 1 0 0 0) 1 0 := ⟨Nat.le_refl _, Nat.le_refl _⟩
  have hcs : 0 ≤ (rmk 0 0 0 0).cells ∧ 0 ≤ (rmk 0 0 0 0).slots := ⟨Nat.zero_le _, Nat.zero_le _⟩
  refine ls_in (Nat.le_of_ble_eq_true rfl) (fun ls hl => ?_)
  have hl : lv_has ls 4 [(0, .ref p0), (1, .int p1)] := hl
  unfold f_L_bare at h
  refine lv_aload_n hx hb dL_bare_0 rfl (lv_at hl 0 rfl) ?_
  refine lv_iconst (v := 1) hx hb dL_bare_1 (by decide) ?_
  refine lv_iload_n hx hb dL_bare_2 rfl (lv_at hl 1 rfl) ?_
  refine lv_iadd hx hb dL_bare_3 ?_
  obtain ⟨x1, hx1, h⟩ := bnd h
  refine w_aI X hH hx1 dL_bare_4 ?_
  refine lv_istore_n (lv' := [(2, .int x1), (0, .ref p0), (1, .int p1)]) hx hb dL_bare_5 rfl hl (by decide) rfl (fun ls hl => ?_)
  refine lv_aload_n hx hb dL_bare_6 rfl (lv_at hl 1 rfl) ?_
  refine lv_bipush (v := 7) hx hb dL_bare_7 (by decide) ?_
  refine lv_iload_n hx hb dL_bare_9 rfl (lv_at hl 2 rfl) ?_
  refine lv_iadd hx hb dL_bare_10 ?_
  obtain ⟨x2, hx2, h⟩ := bnd h
  refine w_aI X hH hx2 dL_bare_11 ?_
  refine lv_istore_n (lv' := [(3, .int x2), (2, .int x1), (0, .ref p0), (1, .int p1)]) hx hb dL_bare_12 rfl hl (by decide) rfl (fun ls hl => ?_)
  refine lv_iload_n hx hb dL_bare_13 rfl (lv_at hl 1 rfl) ?_
  refine lv_iconst (v := 3) hx hb dL_bare_14 (by decide) ?_
  refine lv_icmp_ne (tgt := 22) hx hb dL_bare_15 (by decide) (fun hc3 => ?_) (fun hc3 => ?_)
  · replace h := iff' h hc3
    refine lv_iload_n hx hb dL_bare_22 rfl (lv_at hl 1 rfl) ?_
    refine lv_iconst (v := 1) hx hb dL_bare_23 (by decide) ?_
    refine lv_icmp_ne (tgt := 33) hx hb dL_bare_24 (by decide) (fun hc4 => ?_) (fun hc4 => ?_)
    · replace h := iff' h hc4
      refine lv_iload_n hx hb dL_bare_33 rfl (lv_at hl 1 rfl) ?_
      refine lv_iconst (v := 4) hx hb dL_bare_34 (by decide) ?_
      refine lv_icmp_ne (tgt := 48) hx hb dL_bare_35 (by decide) (fun hc5 => ?_) (fun hc5 => ?_)
      · replace h := iff' h hc5
        refine lv_iload_n hx hb dL_bare_48 rfl (lv_at hl 1 rfl) ?_
        refine lv_iconst (v := 2) hx hb dL_bare_49 (by decide) ?_
        refine lv_icmp_ne (tgt := 59) hx hb dL_bare_50 (by decide) (fun hc6 => ?_) (fun hc6 => ?_)
        · replace h := iff' h hc6
          refine lv_iload_n hx hb dL_bare_59 rfl (lv_at hl 1 rfl) ?_
          refine lv_iconst (v := 5) hx hb dL_bare_60 (by decide) ?_
          refine lv_icmp_ne (tgt := 72) hx hb dL_bare_61 (by decide) (fun hc7 => ?_) (fun hc7 => ?_)
          · replace h := iff' h hc7
            refine lv_iload_n hx hb dL_bare_72 rfl (lv_at hl 0 rfl) ?_
            exact eIp X hH h hr dL_bare_73
          · replace h := ift h hc7
            refine lv_iload_n hx hb dL_bare_64 rfl (lv_at hl 0 rfl) ?_
            refine lv_iconst (v := 1) hx hb dL_bare_65 (by decide) ?_
            refine lv_isub hx hb dL_bare_66 ?_
            refine lv_iconst (v := 2) hx hb dL_bare_67 (by decide) ?_
            refine lv_idiv hx hb dL_bare_68 (by decide) ?_
            refine lv_goto (tgt := 73) hx hb dL_bare_69 (by decide) ?_
            exact eIp X hH h hr dL_bare_73
        · replace h := ift h hc6
          refine lv_iload_n hx hb dL_bare_53 rfl (lv_at hl 0 rfl) ?_
          refine lv_iconst (v := 1) hx hb dL_bare_54 (by decide) ?_
          refine lv_isub hx hb dL_bare_55 ?_
          refine lv_goto (tgt := 73) hx hb dL_bare_56 (by decide) ?_
          exact eIp X hH h hr dL_bare_73
      · replace h := ift h hc5
        refine lv_iload_n hx hb dL_bare_38 rfl (lv_at hl 0 rfl) ?_
        refine lv_iload_n hx hb dL_bare_39 rfl (lv_at hl 0 rfl) ?_
        refine lv_iconst (v := 1) hx hb dL_bare_40 (by decide) ?_
        refine lv_iadd hx hb dL_bare_41 ?_
        refine lv_iconst (v := 2) hx hb dL_bare_42 (by decide) ?_
        refine lv_idiv hx hb dL_bare_43 (by decide) ?_
        refine lv_iadd hx hb dL_bare_44 ?_
        refine lv_goto (tgt := 73) hx hb dL_bare_45 (by decide) ?_
        exact eIp X hH h hr dL_bare_73
    · replace h := ift h hc4
      refine lv_iload_n hx hb dL_bare_27 rfl (lv_at hl 0 rfl) ?_
      refine lv_iload_n hx hb dL_bare_28 rfl (lv_at hl 0 rfl) ?_
      refine lv_iadd hx hb dL_bare_29 ?_
      refine lv_goto (tgt := 73) hx hb dL_bare_30 (by decide) ?_
      exact eIp X hH h hr dL_bare_73
  · replace h := ift h hc3
    refine lv_iconst (v := 0) hx hb dL_bare_18 (by decide) ?_
    refine lv_goto (tgt := 73) hx hb dL_bare_19 (by decide) ?_
    exact eIp X hH h hr dL_bare_73
set_option maxHeartbeats 1000000 in
theorem iv_L_38 {p : Program} {e : Env} {R : Room} {s : State} {m : MethodId} {args : Array Value} {below : List Frame} {meth : Method} {c : Code} {H : Heap} {locs : List Loc} {cells slots : Nat} {Q : State → Prop} {cc : ByteArray} {pc : Nat} {ls : Array Slot} {rest : List Value} {nL : Nat} {G : CG} {μ : Mm} {q0 : Nat} {q1 : Int32} {x : Int32} {k k2 : Nat} (l : Launch) (X : Cx p s m args meth c cc nL RL G) (hH : HS G s μ H locs) (hRL : RmL R k k2) (hk : 1 + 1 ≤ k ∧ 23 ≤ k2) (h : f_L_bare μ q0 q1 = some x) (hls : ls.size = nL) (hroom : (rest.map fun v => v.category).sum ≤ 8) (hdg : decode cc pc = .ok (.invokestatic 38, 3)) (hcs : cells + 0 ≤ R.cells ∧ slots + 0 ≤ R.slots) (kk : ∀ (H1 : Heap) (locs1 : List Loc), HS G s μ H1 locs1 → W p l e R s m args below meth c H1 locs1 cells slots Q (F0 m (pc + 3) ls (.int x :: rest))) : W p l e R s m args below meth c H locs cells slots Q (F0 m pc ls (.int q1 :: .ref q0 :: rest)) := by
  refine kI hH (rS (As := [.ref q0, .int q1]) (rest := rest) X hH (c_L_bare l G μ q0 q1 x h) (List.forall_mem_cons.mpr ⟨u_619, (List.forall_mem_cons.mpr ⟨u_620, (List.forall_mem_cons.mpr ⟨u_20, (fun _ h9 => absurd h9 List.not_mem_nil)⟩)⟩)⟩) u_621 (rmo hRL (Nat.le_trans (by decide) hk.1) (Nat.le_trans (by decide) hk.2)) ddS_L_bare rfl hls rfl hroom hdg hcs) kk
set_option maxHeartbeats 4000000 in
set_option maxRecDepth 100000 in
theorem c_L_tread (l : Launch) (G : CG) (μ : Mm) (p0 : Nat) (p1 : Nat) (p2 : Int32) (x : Int32) (h : f_L_tread μ p0 p1 p2 = some x) : Met l yL_tread (.code yL_tread cL_tread 4 (some .int) :: UW) (rmk 2 23 0 0) (PC G [.ref p0, .ref p1, .int p2] μ) (QI G x μ) 0 0 (fA G) := by
  refine Met.ofW (cc := cL_tread) (maxL := 4) (ret := (some .int)) (by decide) rfl ?_
  intro p e s m args below meth c s₁ B hml hv
  obtain ⟨X, hH, hr, rfl, hnm⟩ := cx_in B hml hv
  have X : Cx p s m _ meth c cL_tread 4 RL G := X
  have hx := X.1
  have hb := X.2.1
  have hown := X.2.2.2.1
  have hts := X.2.2.2.2.1
  have hRL : RmL (rmk 2 23 0 0) 2 23 := ⟨Nat.le_refl _, Nat.le_refl _⟩
  have hcs : 0 ≤ (rmk 0 0 0 0).cells ∧ 0 ≤ (rmk 0 0 0 0).slots := ⟨Nat.zero_le _, Nat.zero_le _⟩
  refine ls_in (Nat.le_of_ble_eq_true rfl) (fun ls hl => ?_)
  have hl : lv_has ls 4 [(0, .ref p0), (1, .ref p1), (2, .int p2)] := hl
  unfold f_L_tread at h
  refine lv_aload_n hx hb dL_tread_0 rfl (lv_at hl 0 rfl) ?_
  refine lv_iload_n hx hb dL_tread_1 rfl (lv_at hl 2 rfl) ?_
  obtain ⟨x1, hx1, h⟩ := bnd h
  refine iv_L_38 l X hH hRL (by decide) hx1 hl.1 (Nat.le_of_ble_eq_true rfl) dL_tread_2 hcs (fun H locs hH => ?_)
  refine lv_istore_n (lv' := [(3, .int x1), (0, .ref p0), (1, .ref p1), (2, .int p2)]) hx hb dL_tread_5 rfl hl (by decide) rfl (fun ls hl => ?_)
  refine lv_aload_n hx hb dL_tread_6 rfl (lv_at hl 2 rfl) ?_
  refine lv_iconst (v := 2) hx hb dL_tread_7 (by decide) ?_
  obtain ⟨x2, hx2, h⟩ := bnd h
  refine w_aI X hH hx2 dL_tread_8 ?_
  refine lv_iconst (v := 2) hx hb dL_tread_9 (by decide) ?_
  refine lv_icmp_ne (tgt := 17) hx hb dL_tread_10 (by decide) (fun hc3 => ?_) (fun hc3 => ?_)
  · replace h := iff' h hc3
    refine lv_aload_n hx hb dL_tread_17 rfl (lv_at hl 2 rfl) ?_
    refine lv_iconst (v := 2) hx hb dL_tread_18 (by decide) ?_
    obtain ⟨x4, hx4, h⟩ := bnd h
    refine w_aI X hH hx4 dL_tread_19 ?_
    refine lv_iconst (v := 1) hx hb dL_tread_20 (by decide) ?_
    refine lv_icmp_ne (tgt := 30) hx hb dL_tread_21 (by decide) (fun hc5 => ?_) (fun hc5 => ?_)
    · replace h := iff' h hc5
      refine lv_iload_n hx hb dL_tread_30 rfl (lv_at hl 0 rfl) ?_
      exact eIp X hH h hr dL_tread_31
    · replace h := ift h hc5
      refine lv_iload_n hx hb dL_tread_24 rfl (lv_at hl 0 rfl) ?_
      refine lv_iconst (v := 2) hx hb dL_tread_25 (by decide) ?_
      refine lv_idiv hx hb dL_tread_26 (by decide) ?_
      refine lv_goto (tgt := 31) hx hb dL_tread_27 (by decide) ?_
      exact eIp X hH h hr dL_tread_31
  · replace h := ift h hc3
    refine lv_iconst (v := 0) hx hb dL_tread_13 (by decide) ?_
    refine lv_goto (tgt := 31) hx hb dL_tread_14 (by decide) ?_
    exact eIp X hH h hr dL_tread_31
set_option maxHeartbeats 1000000 in
theorem iv_L_41 {p : Program} {e : Env} {R : Room} {s : State} {m : MethodId} {args : Array Value} {below : List Frame} {meth : Method} {c : Code} {H : Heap} {locs : List Loc} {cells slots : Nat} {Q : State → Prop} {cc : ByteArray} {pc : Nat} {ls : Array Slot} {rest : List Value} {nL : Nat} {G : CG} {μ : Mm} {q0 : Nat} {q1 : Nat} {q2 : Int32} {x : Int32} {k k2 : Nat} (l : Launch) (X : Cx p s m args meth c cc nL RL G) (hH : HS G s μ H locs) (hRL : RmL R k k2) (hk : 2 + 1 ≤ k ∧ 46 ≤ k2) (h : f_L_tread μ q0 q1 q2 = some x) (hls : ls.size = nL) (hroom : (rest.map fun v => v.category).sum ≤ 8) (hdg : decode cc pc = .ok (.invokestatic 41, 3)) (hcs : cells + 0 ≤ R.cells ∧ slots + 0 ≤ R.slots) (kk : ∀ (H1 : Heap) (locs1 : List Loc), HS G s μ H1 locs1 → W p l e R s m args below meth c H1 locs1 cells slots Q (F0 m (pc + 3) ls (.int x :: rest))) : W p l e R s m args below meth c H locs cells slots Q (F0 m pc ls (.int q2 :: .ref q1 :: .ref q0 :: rest)) := by
  refine kI hH (rS (As := [.ref q0, .ref q1, .int q2]) (rest := rest) X hH (c_L_tread l G μ q0 q1 q2 x h) (List.forall_mem_cons.mpr ⟨u_616, (List.forall_mem_cons.mpr ⟨u_617, (List.forall_mem_cons.mpr ⟨u_20, (fun _ h9 => absurd h9 List.not_mem_nil)⟩)⟩)⟩) u_618 (rmo hRL (Nat.le_trans (by decide) hk.1) (Nat.le_trans (by decide) hk.2)) ddS_L_tread rfl hls rfl hroom hdg hcs) kk
set_option maxHeartbeats 4000000 in
set_option maxRecDepth 100000 in
theorem w_L_walk_14 {p : Program} {e : Env} {R : Room} {s : State} {m : MethodId} {args : Array Value} {below : List Frame} {meth : Method} {c : Code} {cells slots : Nat} {Q : State → Prop} {G : CG} (l : Launch) (X : Cx p s m args meth c cL_walk 4 RL G) (hRL : RmL R 3 46) (hcs : cells ≤ R.cells ∧ slots ≤ R.slots) : ∀ (n : Nat) (v0 : Nat) (v1 : Nat) (v2 : Int32) (v3 : Int32) (μ : Mm) (x : Mm), lp_L_walk_14 n v0 v1 v2 v3 μ = some x → (∀ (H : Heap) (locs : List Loc) (ls : Array Slot), HS G s x H locs → lv_has ls 4 [(0, .ref v0), (1, .ref v1), (2, .int v2), (3, .int v3)] → W p l e R s m args below meth c H locs cells slots Q (F0 m 44 ls [])) → ∀ (H : Heap) (locs : List Loc) (ls : Array Slot), HS G s μ H locs → lv_has ls 4 [(0, .ref v0), (1, .ref v1), (2, .int v2), (3, .int v3)] → W p l e R s m args below meth c H locs cells slots Q (F0 m 14 ls []) := by
  have hx := X.1
  have hb := X.2.1
  have hown := X.2.2.2.1
  have hts := X.2.2.2.2.1
  intro n
  induction n with
  | zero =>
    intro v0 v1 v2 v3 μ x h
    rw [lp_L_walk_14] at h
    cases h
  | succ n ih =>
    intro v0 v1 v2 v3 μ x h k0 H locs ls hH hl
    rw [lp_L_walk_14] at h
    refine lv_aload_n hx hb dL_walk_14 rfl (lv_at hl 1 rfl) ?_
    refine lv_iconst (v := 0) hx hb dL_walk_15 (by decide) ?_
    obtain ⟨x4, hx4, h⟩ := bnd h
    refine w_aI X hH hx4 dL_walk_16 ?_
    refine lv_aload_n hx hb dL_walk_17 rfl (lv_at hl 0 rfl) ?_
    refine lv_bipush (v := 13) hx hb dL_walk_18 (by decide) ?_
    obtain ⟨x5, hx5, h⟩ := bnd h
    refine w_aI X hH hx5 dL_walk_20 ?_
    refine lv_icmp_lt (tgt := 44) hx hb dL_walk_21 (by decide) (fun hc6 => ?_) (fun hc6 => ?_)
    · replace h := ift h hc6
      cases h
      exact k0 _ _ _ hH (lv_sub hl [0, 1, 2, 3] rfl)
    · replace h := iff' h hc6
      refine lv_aload_n hx hb dL_walk_24 rfl (lv_at hl 1 rfl) ?_
      refine lv_iconst (v := 0) hx hb dL_walk_25 (by decide) ?_
      refine lv_dup2_11 hx hb dL_walk_26 rfl rfl ?_
      obtain ⟨x7, hx7, h⟩ := bnd h
      refine w_aI X hH hx7 dL_walk_27 ?_
      refine lv_aload_n hx hb dL_walk_28 rfl (lv_at hl 0 rfl) ?_
      refine lv_bipush (v := 13) hx hb dL_walk_29 (by decide) ?_
      obtain ⟨x8, hx8, h⟩ := bnd h
      refine w_aI X hH hx8 dL_walk_31 ?_
      refine lv_isub hx hb dL_walk_32 ?_
      obtain ⟨x9, hx9, h⟩ := bnd h
      refine w_qI X hH hx9 dL_walk_33 (fun H locs hH => ?_)
      refine lv_aload_n hx hb dL_walk_34 rfl (lv_at hl 1 rfl) ?_
      refine lv_iconst (v := 1) hx hb dL_walk_35 (by decide) ?_
      refine lv_dup2_11 hx hb dL_walk_36 rfl rfl ?_
      obtain ⟨x10, hx10, h⟩ := bnd h
      refine w_aI X hH hx10 dL_walk_37 ?_
      refine lv_iconst (v := 1) hx hb dL_walk_38 (by decide) ?_
      refine lv_iadd hx hb dL_walk_39 ?_
      obtain ⟨x11, hx11, h⟩ := bnd h
      refine w_qI X hH hx11 dL_walk_40 (fun H locs hH => ?_)
      refine lv_goto (tgt := 14) hx hb dL_walk_41 (by decide) ?_
      exact ih _ _ _ _ _ _ h k0 _ _ _ hH (lv_sub hl [0, 1, 2, 3] rfl)
set_option maxHeartbeats 4000000 in
set_option maxRecDepth 100000 in
theorem c_L_walk (l : Launch) (G : CG) (μ : Mm) (p0 : Nat) (p1 : Nat) (p2 : Int32) (x : Mm) (h : f_L_walk μ p0 p1 p2 = some x) : Met l yL_walk (.code yL_walk cL_walk 4 none :: UW) (rmk 3 46 0 0) (PC G [.ref p0, .ref p1, .int p2] μ) (QV G x) 0 0 (fA G) := by
  refine Met.ofW (cc := cL_walk) (maxL := 4) (ret := none) (by decide) rfl ?_
  intro p e s m args below meth c s₁ B hml hv
  obtain ⟨X, hH, hr, rfl, hnm⟩ := cx_in B hml hv
  have X : Cx p s m _ meth c cL_walk 4 RL G := X
  have hx := X.1
  have hb := X.2.1
  have hown := X.2.2.2.1
  have hts := X.2.2.2.2.1
  have hRL : RmL (rmk 3 46 0 0) 3 46 := ⟨Nat.le_refl _, Nat.le_refl _⟩
  have hcs : 0 ≤ (rmk 0 0 0 0).cells ∧ 0 ≤ (rmk 0 0 0 0).slots := ⟨Nat.zero_le _, Nat.zero_le _⟩
  refine ls_in (Nat.le_of_ble_eq_true rfl) (fun ls hl => ?_)
  have hl : lv_has ls 4 [(0, .ref p0), (1, .ref p1), (2, .int p2)] := hl
  unfold f_L_walk at h
  refine lv_aload_n hx hb dL_walk_0 rfl (lv_at hl 0 rfl) ?_
  refine lv_aload_n hx hb dL_walk_1 rfl (lv_at hl 1 rfl) ?_
  refine lv_iload_n hx hb dL_walk_2 rfl (lv_at hl 2 rfl) ?_
  obtain ⟨x1, hx1, h⟩ := bnd h
  refine iv_L_41 l X hH hRL (by decide) hx1 hl.1 (Nat.le_of_ble_eq_true rfl) dL_walk_3 hcs (fun H locs hH => ?_)
  refine lv_istore_n (lv' := [(3, .int x1), (0, .ref p0), (1, .ref p1), (2, .int p2)]) hx hb dL_walk_6 rfl hl (by decide) rfl (fun ls hl => ?_)
  refine lv_aload_n hx hb dL_walk_7 rfl (lv_at hl 2 rfl) ?_
  refine lv_iconst (v := 0) hx hb dL_walk_8 (by decide) ?_
  refine lv_dup2_11 hx hb dL_walk_9 rfl rfl ?_
  obtain ⟨x2, hx2, h⟩ := bnd h
  refine w_aI X hH hx2 dL_walk_10 ?_
  refine lv_iload_n hx hb dL_walk_11 rfl (lv_at hl 0 rfl) ?_
  refine lv_iadd hx hb dL_walk_12 ?_
  obtain ⟨x3, hx3, h⟩ := bnd h
  refine w_qI X hH hx3 dL_walk_13 (fun H locs hH => ?_)
  obtain ⟨x12, hx12, hhx12⟩ := bnd h
  clear h
  refine w_L_walk_14 l X hRL hcs BIG p0 p1 p2 x1 x3 x12 hx12 (fun H locs ls hH hl => ?_) _ _ _ hH (lv_sub hl [1, 2, 3, 0] rfl)
  · have h := hhx12
    clear hhx12
    refine lv_aload_n hx hb dL_walk_44 rfl (lv_at hl 1 rfl) ?_
    refine lv_iconst (v := 3) hx hb dL_walk_45 (by decide) ?_
    refine lv_dup2_11 hx hb dL_walk_46 rfl rfl ?_
    obtain ⟨x13, hx13, h⟩ := bnd h
    refine w_aI X hH hx13 dL_walk_47 ?_
    refine lv_aload_n hx hb dL_walk_48 rfl (lv_at hl 0 rfl) ?_
    refine lv_aload_n hx hb dL_walk_49 rfl (lv_at hl 1 rfl) ?_
    refine lv_iconst (v := 0) hx hb dL_walk_50 (by decide) ?_
    obtain ⟨x14, hx14, h⟩ := bnd h
    refine w_aI X hH hx14 dL_walk_51 ?_
    obtain ⟨x15, hx15, h⟩ := bnd h
    refine iv_L_20 l X hH hRL (by decide) hx15 hl.1 (Nat.le_of_ble_eq_true rfl) dL_walk_52 hcs (fun H locs hH => ?_)
    obtain ⟨x16, hbx16, hx16⟩ := bnd h
    clear h
    refine jn_lem (G := G) (x := x16) (M := 63) (nL := 4) (fun x16 => x12) (fun x16 => [(1, .ref p1), (2, .int p2), (3, .int x1)]) (fun x16 => [.int x16, .int x13, .int (3 : Int32), .ref p1]) (fun H locs ls hH hl => ?_) (fun jnx16 => ?_)
    · have h := hx16
      clear hx16 hbx16
      refine lv_iadd hx hb dL_walk_63 ?_
      obtain ⟨x18, hx18, h⟩ := bnd h
      refine w_qI X hH hx18 dL_walk_64 (fun H locs hH => ?_)
      refine lv_aload_n hx hb dL_walk_65 rfl (lv_at hl 0 rfl) ?_
      refine lv_iconst (v := 4) hx hb dL_walk_66 (by decide) ?_
      refine lv_dup2_11 hx hb dL_walk_67 rfl rfl ?_
      obtain ⟨x19, hx19, h⟩ := bnd h
      refine w_aI X hH hx19 dL_walk_68 ?_
      refine lv_iload_n hx hb dL_walk_69 rfl (lv_at hl 2 rfl) ?_
      refine lv_iadd hx hb dL_walk_70 ?_
      obtain ⟨x20, hx20, h⟩ := bnd h
      refine w_qI X hH hx20 dL_walk_71 (fun H locs hH => ?_)
      refine lv_aload_n hx hb dL_walk_72 rfl (lv_at hl 0 rfl) ?_
      refine lv_iconst (v := 5) hx hb dL_walk_73 (by decide) ?_
      refine lv_iload_n hx hb dL_walk_74 rfl (lv_at hl 1 rfl) ?_
      refine lv_iadd hx hb dL_walk_75 ?_
      refine lv_dup2_11 hx hb dL_walk_76 rfl rfl ?_
      obtain ⟨x21, hx21, h⟩ := bnd h
      refine w_aI X hH hx21 dL_walk_77 ?_
      refine lv_iconst (v := 1) hx hb dL_walk_78 (by decide) ?_
      refine lv_iadd hx hb dL_walk_79 ?_
      obtain ⟨x22, hx22, h⟩ := bnd h
      refine w_qI X hH hx22 dL_walk_80 (fun H locs hH => ?_)
      exact eV X hH h hr dL_walk_81 (Nat.le_of_ble_eq_true rfl) (Nat.le_of_ble_eq_true rfl)
    · have h := hbx16
      clear hx16 hbx16
      refine lv_if_eq (tgt := 62) hx hb dL_walk_55 (by decide) (fun hc17 => ?_) (fun hc17 => ?_)
      · replace h := ift h hc17
        refine lv_iconst (v := 0) hx hb dL_walk_62 (by decide) ?_
        cases h
        exact jnx16 _ _ _ hH (lv_sub hl [1, 2, 3] rfl)
      · replace h := iff' h hc17
        refine lv_iconst (v := 1) hx hb dL_walk_58 (by decide) ?_
        refine lv_goto (tgt := 63) hx hb dL_walk_59 (by decide) ?_
        cases h
        exact jnx16 _ _ _ hH (lv_sub hl [1, 2, 3] rfl)
set_option maxHeartbeats 1000000 in
theorem iv_L_45 {p : Program} {e : Env} {R : Room} {s : State} {m : MethodId} {args : Array Value} {below : List Frame} {meth : Method} {c : Code} {H : Heap} {locs : List Loc} {cells slots : Nat} {Q : State → Prop} {cc : ByteArray} {pc : Nat} {ls : Array Slot} {rest : List Value} {nL : Nat} {G : CG} {μ : Mm} {a : Nat}  {x : Int32} {k k2 : Nat} (l : Launch) (X : Cx p s m args meth c cc nL RL G) (hH : HS G s μ H locs) (hRL : RmL R k k2) (hk : 1 + 1 ≤ k ∧ 20 ≤ k2) (h : f_X11_asked μ a = some x) (hls : ls.size = nL) (hroom : (rest.map fun v => v.category).sum ≤ 8) (hdg : decode cc pc = .ok (.invokevirtual 45, 3)) (hcs : cells + 0 ≤ R.cells ∧ slots + 0 ≤ R.slots) (kk : ∀ (H1 : Heap) (locs1 : List Loc), HS G s μ H1 locs1 → W p l e R s m args below meth c H1 locs1 cells slots Q (F0 m (pc + 3) ls (.int x :: rest))) : W p l e R s m args below meth c H locs cells slots Q (F0 m pc ls (.ref a :: rest)) := by
  refine kI hH (rV (As := []) (rest := rest) X hH (t_X11_asked h) vc_11 (c_X11_asked l G μ a x h) (List.forall_mem_cons.mpr ⟨u_641, (List.forall_mem_cons.mpr ⟨u_642, (List.forall_mem_cons.mpr ⟨u_643, (List.forall_mem_cons.mpr ⟨u_21, (fun _ h9 => absurd h9 List.not_mem_nil)⟩)⟩)⟩)⟩) u_644 (rmo hRL (Nat.le_trans (by decide) hk.1) (Nat.le_trans (by decide) hk.2)) ddV_X11_asked rfl hls rfl hroom hdg hcs) kk
set_option maxHeartbeats 4000000 in
set_option maxRecDepth 100000 in
theorem c_L_gave (l : Launch) (G : CG) (μ : Mm) (p0 : Nat) (p1 : Int32) (x : Int32) (h : f_L_gave μ p0 p1 = some x) : Met l yL_gave (.code yL_gave cL_gave 2 (some .int) :: UW) (rmk 2 20 0 0) (PC G [.ref p0, .int p1] μ) (QI G x μ) 0 0 (fA G) := by
  refine Met.ofW (cc := cL_gave) (maxL := 2) (ret := (some .int)) (by decide) rfl ?_
  intro p e s m args below meth c s₁ B hml hv
  obtain ⟨X, hH, hr, rfl, hnm⟩ := cx_in B hml hv
  have X : Cx p s m _ meth c cL_gave 2 RL G := X
  have hx := X.1
  have hb := X.2.1
  have hown := X.2.2.2.1
  have hts := X.2.2.2.2.1
  have hRL : RmL (rmk 2 20 0 0) 2 20 := ⟨Nat.le_refl _, Nat.le_refl _⟩
  have hcs : 0 ≤ (rmk 0 0 0 0).cells ∧ 0 ≤ (rmk 0 0 0 0).slots := ⟨Nat.zero_le _, Nat.zero_le _⟩
  refine ls_in (Nat.le_of_ble_eq_true rfl) (fun ls hl => ?_)
  have hl : lv_has ls 2 [(0, .ref p0), (1, .int p1)] := hl
  unfold f_L_gave at h
  refine lv_iload_n hx hb dL_gave_0 rfl (lv_at hl 1 rfl) ?_
  refine lv_iconst (v := 1) hx hb dL_gave_1 (by decide) ?_
  refine lv_icmp_ne (tgt := 12) hx hb dL_gave_2 (by decide) (fun hc1 => ?_) (fun hc1 => ?_)
  · replace h := iff' h hc1
    refine lv_sipush (v := -7777) hx hb dL_gave_12 (by decide) ?_
    exact eIp X hH h hr dL_gave_15
  · replace h := ift h hc1
    refine lv_aload_n hx hb dL_gave_5 rfl (lv_at hl 0 rfl) ?_
    obtain ⟨x2, hx2, h⟩ := bnd h
    refine iv_L_45 l X hH hRL (by decide) hx2 hl.1 (Nat.le_of_ble_eq_true rfl) dL_gave_6 hcs (fun H locs hH => ?_)
    refine lv_goto (tgt := 15) hx hb dL_gave_9 (by decide) ?_
    exact eIp X hH h hr dL_gave_15
set_option maxHeartbeats 4000000 in
set_option maxRecDepth 100000 in
theorem c_L_says (l : Launch) (G : CG) (μ : Mm) (p0 : Nat) (p1 : Int32) (p2 : Int32) (p3 : Int32) (x : Int32) (h : f_L_says μ p0 p1 p2 p3 = some x) : Met l yL_says (.code yL_says cL_says 4 (some .boolean) :: UW) (rmk 2 20 0 0) (PC G [.ref p0, .int p1, .int p2, .int p3] μ) (QI G x μ) 0 0 (fA G) := by
  refine Met.ofW (cc := cL_says) (maxL := 4) (ret := (some .boolean)) (by decide) rfl ?_
  intro p e s m args below meth c s₁ B hml hv
  obtain ⟨X, hH, hr, rfl, hnm⟩ := cx_in B hml hv
  have X : Cx p s m _ meth c cL_says 4 RL G := X
  have hx := X.1
  have hb := X.2.1
  have hown := X.2.2.2.1
  have hts := X.2.2.2.2.1
  have hRL : RmL (rmk 2 20 0 0) 2 20 := ⟨Nat.le_refl _, Nat.le_refl _⟩
  have hcs : 0 ≤ (rmk 0 0 0 0).cells ∧ 0 ≤ (rmk 0 0 0 0).slots := ⟨Nat.zero_le _, Nat.zero_le _⟩
  refine ls_in (Nat.le_of_ble_eq_true rfl) (fun ls hl => ?_)
  have hl : lv_has ls 4 [(0, .ref p0), (1, .int p1), (2, .int p2), (3, .int p3)] := hl
  unfold f_L_says at h
  refine lv_iload_n hx hb dL_says_0 rfl (lv_at hl 1 rfl) ?_
  refine lv_iload_n hx hb dL_says_1 rfl (lv_at hl 2 rfl) ?_
  refine lv_icmp_ne (tgt := 17) hx hb dL_says_2 (by decide) (fun hc1 => ?_) (fun hc1 => ?_)
  · replace h := iff' h hc1
    refine lv_iconst (v := 0) hx hb dL_says_17 (by decide) ?_
    exact eZp X hH (by decide) h hr dL_says_18
  · replace h := ift h hc1
    refine lv_aload_n hx hb dL_says_5 rfl (lv_at hl 0 rfl) ?_
    obtain ⟨x2, hx2, h⟩ := bnd h
    refine iv_L_45 l X hH hRL (by decide) hx2 hl.1 (Nat.le_of_ble_eq_true rfl) dL_says_6 hcs (fun H locs hH => ?_)
    refine lv_iload_n hx hb dL_says_9 rfl (lv_at hl 3 rfl) ?_
    refine lv_icmp_ne (tgt := 17) hx hb dL_says_10 (by decide) (fun hc3 => ?_) (fun hc3 => ?_)
    · replace h := iff' h hc3
      refine lv_iconst (v := 0) hx hb dL_says_17 (by decide) ?_
      exact eZp X hH (by decide) h hr dL_says_18
    · replace h := ift h hc3
      refine lv_iconst (v := 1) hx hb dL_says_13 (by decide) ?_
      refine lv_goto (tgt := 18) hx hb dL_says_14 (by decide) ?_
      exact eZp X hH (by decide) h hr dL_says_18
set_option maxHeartbeats 1000000 in
theorem iv_L_91 {p : Program} {e : Env} {R : Room} {s : State} {m : MethodId} {args : Array Value} {below : List Frame} {meth : Method} {c : Code} {H : Heap} {locs : List Loc} {cells slots : Nat} {Q : State → Prop} {cc : ByteArray} {pc : Nat} {ls : Array Slot} {rest : List Value} {nL : Nat} {G : CG} {μ : Mm} {a : Nat} {q0 : Int32} {x : Int32 × Mm} {k k2 : Nat} (l : Launch) (X : Cx p s m args meth c cc nL RL G) (hH : HS G s μ H locs) (hRL : RmL R k k2) (hk : 7 + 1 ≤ k ∧ 151 ≤ k2) (h : f_X11_floor μ a q0 = some x) (hls : ls.size = nL) (hroom : (rest.map fun v => v.category).sum ≤ 8) (hdg : decode cc pc = .ok (.invokevirtual 91, 3)) (hcs : cells + 0 ≤ R.cells ∧ slots + 0 ≤ R.slots) (kk : ∀ (H1 : Heap) (locs1 : List Loc), HS G s x.2 H1 locs1 → W p l e R s m args below meth c H1 locs1 cells slots Q (F0 m (pc + 3) ls (.int x.1 :: rest))) : W p l e R s m args below meth c H locs cells slots Q (F0 m pc ls (.int q0 :: .ref a :: rest)) := by
  refine kI hH (rV (As := [.int q0]) (rest := rest) X hH (t_X11_floor h) vc_11 (c_X11_floor l G μ a q0 x h) (List.forall_mem_cons.mpr ⟨u_597, (List.forall_mem_cons.mpr ⟨u_598, (List.forall_mem_cons.mpr ⟨u_599, (List.forall_mem_cons.mpr ⟨u_21, (fun _ h9 => absurd h9 List.not_mem_nil)⟩)⟩)⟩)⟩) u_600 (rmo hRL (Nat.le_trans (by decide) hk.1) (Nat.le_trans (by decide) hk.2)) ddV_X11_floor rfl hls rfl hroom hdg hcs) kk
set_option maxHeartbeats 1000000 in
theorem iv_L_94 {p : Program} {e : Env} {R : Room} {s : State} {m : MethodId} {args : Array Value} {below : List Frame} {meth : Method} {c : Code} {H : Heap} {locs : List Loc} {cells slots : Nat} {Q : State → Prop} {cc : ByteArray} {pc : Nat} {ls : Array Slot} {rest : List Value} {nL : Nat} {G : CG} {μ : Mm} {q0 : Nat} {q1 : Nat} {q2 : Int32} {x : Mm} {k k2 : Nat} (l : Launch) (X : Cx p s m args meth c cc nL RL G) (hH : HS G s μ H locs) (hRL : RmL R k k2) (hk : 3 + 1 ≤ k ∧ 69 ≤ k2) (h : f_L_walk μ q0 q1 q2 = some x) (hls : ls.size = nL) (hroom : (rest.map fun v => v.category).sum ≤ 8) (hdg : decode cc pc = .ok (.invokestatic 94, 3)) (hcs : cells + 0 ≤ R.cells ∧ slots + 0 ≤ R.slots) (kk : ∀ (H1 : Heap) (locs1 : List Loc), HS G s x H1 locs1 → W p l e R s m args below meth c H1 locs1 cells slots Q (F0 m (pc + 3) ls rest)) : W p l e R s m args below meth c H locs cells slots Q (F0 m pc ls (.int q2 :: .ref q1 :: .ref q0 :: rest)) := by
  refine kV0 hH (rS (As := [.ref q0, .ref q1, .int q2]) (rest := rest) X hH (c_L_walk l G μ q0 q1 q2 x h) (List.forall_mem_cons.mpr ⟨u_613, (List.forall_mem_cons.mpr ⟨u_614, (List.forall_mem_cons.mpr ⟨u_20, (fun _ h9 => absurd h9 List.not_mem_nil)⟩)⟩)⟩) u_615 (rmo hRL (Nat.le_trans (by decide) hk.1) (Nat.le_trans (by decide) hk.2)) ddS_L_walk rfl hls rfl hroom hdg hcs) kk
set_option maxHeartbeats 1000000 in
theorem iv_L_98 {p : Program} {e : Env} {R : Room} {s : State} {m : MethodId} {args : Array Value} {below : List Frame} {meth : Method} {c : Code} {H : Heap} {locs : List Loc} {cells slots : Nat} {Q : State → Prop} {cc : ByteArray} {pc : Nat} {ls : Array Slot} {rest : List Value} {nL : Nat} {G : CG} {μ : Mm} {a : Nat} {q0 : Int32} {x : Int32 × Mm} {k k2 : Nat} (l : Launch) (X : Cx p s m args meth c cc nL RL G) (hH : HS G s μ H locs) (hRL : RmL R k k2) (hk : 7 + 1 ≤ k ∧ 150 ≤ k2) (h : f_X11_walk μ a q0 = some x) (hls : ls.size = nL) (hroom : (rest.map fun v => v.category).sum ≤ 8) (hdg : decode cc pc = .ok (.invokevirtual 98, 3)) (hcs : cells + 0 ≤ R.cells ∧ slots + 0 ≤ R.slots) (kk : ∀ (H1 : Heap) (locs1 : List Loc), HS G s x.2 H1 locs1 → W p l e R s m args below meth c H1 locs1 cells slots Q (F0 m (pc + 3) ls (.int x.1 :: rest))) : W p l e R s m args below meth c H locs cells slots Q (F0 m pc ls (.int q0 :: .ref a :: rest)) := by
  refine kI hH (rV (As := [.int q0]) (rest := rest) X hH (t_X11_walk h) vc_11 (c_X11_walk l G μ a q0 x h) (List.forall_mem_cons.mpr ⟨u_622, (List.forall_mem_cons.mpr ⟨u_623, (List.forall_mem_cons.mpr ⟨u_624, (List.forall_mem_cons.mpr ⟨u_21, (fun _ h9 => absurd h9 List.not_mem_nil)⟩)⟩)⟩)⟩) u_625 (rmo hRL (Nat.le_trans (by decide) hk.1) (Nat.le_trans (by decide) hk.2)) ddV_X11_walk rfl hls rfl hroom hdg hcs) kk
set_option maxHeartbeats 4000000 in
set_option maxRecDepth 100000 in
theorem c_L_goes (l : Launch) (G : CG) (μ : Mm) (p0 : Nat) (p1 : Int32) (p2 : Nat) (p3 : Nat) (x : Int32 × Mm) (h : f_L_goes μ p0 p1 p2 p3 = some x) : Met l yL_goes (.code yL_goes cL_goes 6 (some .int) :: UW) (rmk 8 151 0 0) (PC G [.ref p0, .int p1, .ref p2, .ref p3] μ) (QI G x.1 x.2) 0 0 (fA G) := by
  refine Met.ofW (cc := cL_goes) (maxL := 6) (ret := (some .int)) (by decide) rfl ?_
  intro p e s m args below meth c s₁ B hml hv
  obtain ⟨X, hH, hr, rfl, hnm⟩ := cx_in B hml hv
  have X : Cx p s m _ meth c cL_goes 6 RL G := X
  have hx := X.1
  have hb := X.2.1
  have hown := X.2.2.2.1
  have hts := X.2.2.2.2.1
  have hRL : RmL (rmk 8 151 0 0) 8 151 := ⟨Nat.le_refl _, Nat.le_refl _⟩
  have hcs : 0 ≤ (rmk 0 0 0 0).cells ∧ 0 ≤ (rmk 0 0 0 0).slots := ⟨Nat.zero_le _, Nat.zero_le _⟩
  refine ls_in (Nat.le_of_ble_eq_true rfl) (fun ls hl => ?_)
  have hl : lv_has ls 6 [(0, .ref p0), (1, .int p1), (2, .ref p2), (3, .ref p3)] := hl
  unfold f_L_goes at h
  refine lv_iload_n hx hb dL_goes_0 rfl (lv_at hl 1 rfl) ?_
  refine lv_iconst (v := 4) hx hb dL_goes_1 (by decide) ?_
  refine lv_irem hx hb dL_goes_2 (by decide) ?_
  refine lv_if_ne (tgt := 64) hx hb dL_goes_3 (by decide) (fun hc1 => ?_) (fun hc1 => ?_)
  · replace h := iff' h hc1
    refine lv_iload_n hx hb dL_goes_64 rfl (lv_at hl 1 rfl) ?_
    refine lv_bipush (v := 8) hx hb dL_goes_65 (by decide) ?_
    refine lv_idiv hx hb dL_goes_67 (by decide) ?_
    refine lv_aload_n hx hb dL_goes_68 rfl (lv_at hl 2 rfl) ?_
    refine lv_iconst (v := 0) hx hb dL_goes_69 (by decide) ?_
    obtain ⟨x2, hx2, h⟩ := bnd h
    refine w_aI X hH hx2 dL_goes_70 ?_
    obtain ⟨hd3, h⟩ := gsf h
    refine lv_irem hx hb dL_goes_71 hd3 ?_
    refine lv_istore (lv' := [(4, .int ((p1 / (8 : Int32)) - (p1 / (8 : Int32)) / x2 * x2)), (0, .ref p0), (1, .int p1), (2, .ref p2), (3, .ref p3)]) hx hb dL_goes_72 hl (by decide) rfl (fun ls hl => ?_)
    refine lv_aload_n hx hb dL_goes_74 rfl (lv_at hl 3 rfl) ?_
    refine lv_aload_n hx hb dL_goes_75 rfl (lv_at hl 4 rfl) ?_
    refine lv_iload hx hb dL_goes_76 (lv_at hl 0 rfl) ?_
    obtain ⟨x4, hx4, h⟩ := bnd h
    refine iv_L_94 l X hH hRL (by decide) hx4 hl.1 (Nat.le_of_ble_eq_true rfl) dL_goes_78 hcs (fun H locs hH => ?_)
    refine lv_aload_n hx hb dL_goes_81 rfl (lv_at hl 1 rfl) ?_
    refine lv_iload hx hb dL_goes_82 (lv_at hl 0 rfl) ?_
    obtain ⟨x5, hx5, h⟩ := bnd h
    refine iv_L_98 l X hH hRL (by decide) hx5 hl.1 (Nat.le_of_ble_eq_true rfl) dL_goes_84 hcs (fun H locs hH => ?_)
    refine lv_aload_n hx hb dL_goes_87 rfl (lv_at hl 4 rfl) ?_
    refine lv_iconst (v := 0) hx hb dL_goes_88 (by decide) ?_
    obtain ⟨x6, hx6, h⟩ := bnd h
    refine w_aI X hH hx6 dL_goes_89 ?_
    refine lv_icmp_ne (tgt := 97) hx hb dL_goes_90 (by decide) (fun hc7 => ?_) (fun hc7 => ?_)
    · replace h := iff' h hc7
      refine lv_iconst (v := -1) hx hb dL_goes_97 (by decide) ?_
      exact eI X hH h hr dL_goes_98 (Nat.le_of_ble_eq_true rfl) (Nat.le_of_ble_eq_true rfl)
    · replace h := ift h hc7
      refine lv_iconst (v := 1) hx hb dL_goes_93 (by decide) ?_
      refine lv_goto (tgt := 98) hx hb dL_goes_94 (by decide) ?_
      exact eI X hH h hr dL_goes_98 (Nat.le_of_ble_eq_true rfl) (Nat.le_of_ble_eq_true rfl)
  · replace h := ift h hc1
    refine lv_iload_n hx hb dL_goes_6 rfl (lv_at hl 1 rfl) ?_
    refine lv_bipush (v := 8) hx hb dL_goes_7 (by decide) ?_
    refine lv_idiv hx hb dL_goes_9 (by decide) ?_
    refine lv_iconst (v := 3) hx hb dL_goes_10 (by decide) ?_
    refine lv_irem hx hb dL_goes_11 (by decide) ?_
    refine lv_istore (lv' := [(4, .int ((p1 / (8 : Int32)) - (p1 / (8 : Int32)) / (3 : Int32) * (3 : Int32))), (0, .ref p0), (1, .int p1), (2, .ref p2), (3, .ref p3)]) hx hb dL_goes_12 hl (by decide) rfl (fun ls hl => ?_)
    refine lv_aload_n hx hb dL_goes_14 rfl (lv_at hl 4 rfl) ?_
    refine lv_iconst (v := 2) hx hb dL_goes_15 (by decide) ?_
    obtain ⟨x8, hx8, h⟩ := bnd h
    refine w_aI X hH hx8 dL_goes_16 ?_
    refine lv_istore (lv' := [(5, .int x8), (4, .int ((p1 / (8 : Int32)) - (p1 / (8 : Int32)) / (3 : Int32) * (3 : Int32))), (0, .ref p0), (1, .int p1), (2, .ref p2), (3, .ref p3)]) hx hb dL_goes_17 hl (by decide) rfl (fun ls hl => ?_)
    refine lv_aload_n hx hb dL_goes_19 rfl (lv_at hl 5 rfl) ?_
    refine lv_iconst (v := 2) hx hb dL_goes_20 (by decide) ?_
    refine lv_iload hx hb dL_goes_21 (lv_at hl 1 rfl) ?_
    obtain ⟨x9, hx9, h⟩ := bnd h
    refine w_qI X hH hx9 dL_goes_23 (fun H locs hH => ?_)
    refine lv_aload_n hx hb dL_goes_24 rfl (lv_at hl 2 rfl) ?_
    refine lv_iload hx hb dL_goes_25 (lv_at hl 1 rfl) ?_
    obtain ⟨x10, hx10, h⟩ := bnd h
    refine iv_L_91 l X hH hRL (by decide) hx10 hl.1 (Nat.le_of_ble_eq_true rfl) dL_goes_27 hcs (fun H locs hH => ?_)
    refine lv_iload hx hb dL_goes_30 (lv_at hl 0 rfl) ?_
    refine lv_iload hx hb dL_goes_32 (lv_at hl 1 rfl) ?_
    obtain ⟨x11, hbx11, hx11⟩ := bnd h
    clear h
    refine jn_lem (G := G) (x := x11) (M := 44) (nL := 6) (fun x11 => x10.2) (fun x11 => [(4, .int ((p1 / (8 : Int32)) - (p1 / (8 : Int32)) / (3 : Int32) * (3 : Int32))), (5, .int x8)]) (fun x11 => [.int x11, .int x10.1]) (fun H locs ls hH hl => ?_) (fun jnx11 => ?_)
    · have h := hx11
      clear hx11 hbx11
      refine lv_icmp_ne (tgt := 62) hx hb dL_goes_44 (by decide) (fun hc13 => ?_) (fun hc13 => ?_)
      · replace h := iff' h hc13
        refine lv_iconst (v := -1) hx hb dL_goes_62 (by decide) ?_
        exact eI X hH h hr dL_goes_63 (Nat.le_of_ble_eq_true rfl) (Nat.le_of_ble_eq_true rfl)
      · replace h := ift h hc13
        refine lv_iload hx hb dL_goes_47 (lv_at hl 1 rfl) ?_
        refine lv_iload hx hb dL_goes_49 (lv_at hl 0 rfl) ?_
        refine lv_icmp_ne (tgt := 58) hx hb dL_goes_51 (by decide) (fun hc14 => ?_) (fun hc14 => ?_)
        · replace h := iff' h hc14
          refine lv_iconst (v := 1) hx hb dL_goes_58 (by decide) ?_
          refine lv_goto (tgt := 63) hx hb dL_goes_59 (by decide) ?_
          exact eI X hH h hr dL_goes_63 (Nat.le_of_ble_eq_true rfl) (Nat.le_of_ble_eq_true rfl)
        · replace h := ift h hc14
          refine lv_iconst (v := 0) hx hb dL_goes_54 (by decide) ?_
          refine lv_goto (tgt := 63) hx hb dL_goes_55 (by decide) ?_
          exact eI X hH h hr dL_goes_63 (Nat.le_of_ble_eq_true rfl) (Nat.le_of_ble_eq_true rfl)
    · have h := hbx11
      clear hx11 hbx11
      refine lv_icmp_ne (tgt := 42) hx hb dL_goes_34 (by decide) (fun hc12 => ?_) (fun hc12 => ?_)
      · replace h := iff' h hc12
        refine lv_iload hx hb dL_goes_42 (lv_at hl 0 rfl) ?_
        cases h
        exact jnx11 _ _ _ hH (lv_sub hl [1, 0] rfl)
      · replace h := ift h hc12
        refine lv_bipush (v := -4) hx hb dL_goes_37 (by decide) ?_
        refine lv_goto (tgt := 44) hx hb dL_goes_39 (by decide) ?_
        cases h
        exact jnx11 _ _ _ hH (lv_sub hl [1, 0] rfl)
set_option maxHeartbeats 1000000 in
theorem iv_L_176 {p : Program} {e : Env} {R : Room} {s : State} {m : MethodId} {args : Array Value} {below : List Frame} {meth : Method} {c : Code} {H : Heap} {locs : List Loc} {cells slots : Nat} {Q : State → Prop} {cc : ByteArray} {pc : Nat} {ls : Array Slot} {rest : List Value} {nL : Nat} {G : CG} {μ : Mm} {a : Nat} {q0 : Int32} {x : Int32} {k k2 : Nat} (l : Launch) (X : Cx p s m args meth c cc nL RL G) (hH : HS G s μ H locs) (hRL : RmL R k k2) (hk : 5 + 1 ≤ k ∧ 107 ≤ k2) (h : f_X11_noon μ a q0 = some x) (hls : ls.size = nL) (hroom : (rest.map fun v => v.category).sum ≤ 8) (hdg : decode cc pc = .ok (.invokevirtual 176, 3)) (hcs : cells + 0 ≤ R.cells ∧ slots + 0 ≤ R.slots) (kk : ∀ (H1 : Heap) (locs1 : List Loc), HS G s μ H1 locs1 → W p l e R s m args below meth c H1 locs1 cells slots Q (F0 m (pc + 3) ls (.int x :: rest))) : W p l e R s m args below meth c H locs cells slots Q (F0 m pc ls (.int q0 :: .ref a :: rest)) := by
  refine kI hH (rV (As := [.int q0]) (rest := rest) X hH (t_X11_noon h) vc_11 (c_X11_noon l G μ a q0 x h) (List.forall_mem_cons.mpr ⟨u_825, (List.forall_mem_cons.mpr ⟨u_826, (List.forall_mem_cons.mpr ⟨u_827, (List.forall_mem_cons.mpr ⟨u_21, (fun _ h9 => absurd h9 List.not_mem_nil)⟩)⟩)⟩)⟩) u_828 (rmo hRL (Nat.le_trans (by decide) hk.1) (Nat.le_trans (by decide) hk.2)) ddV_X11_noon rfl hls rfl hroom hdg hcs) kk
set_option maxHeartbeats 1000000 in
theorem iv_L_179 {p : Program} {e : Env} {R : Room} {s : State} {m : MethodId} {args : Array Value} {below : List Frame} {meth : Method} {c : Code} {H : Heap} {locs : List Loc} {cells slots : Nat} {Q : State → Prop} {cc : ByteArray} {pc : Nat} {ls : Array Slot} {rest : List Value} {nL : Nat} {G : CG} {μ : Mm} {a : Nat} {q0 : Int32} {x : Int32 × Mm} {k k2 : Nat} (l : Launch) (X : Cx p s m args meth c cc nL RL G) (hH : HS G s μ H locs) (hRL : RmL R k k2) (hk : 5 + 1 ≤ k ∧ 105 ≤ k2) (h : f_X11_rent μ a q0 = some x) (hls : ls.size = nL) (hroom : (rest.map fun v => v.category).sum ≤ 8) (hdg : decode cc pc = .ok (.invokevirtual 179, 3)) (hcs : cells + 0 ≤ R.cells ∧ slots + 0 ≤ R.slots) (kk : ∀ (H1 : Heap) (locs1 : List Loc), HS G s x.2 H1 locs1 → W p l e R s m args below meth c H1 locs1 cells slots Q (F0 m (pc + 3) ls (.int x.1 :: rest))) : W p l e R s m args below meth c H locs cells slots Q (F0 m pc ls (.int q0 :: .ref a :: rest)) := by
  refine kI hH (rV (As := [.int q0]) (rest := rest) X hH (t_X11_rent h) vc_11 (c_X11_rent l G μ a q0 x h) (List.forall_mem_cons.mpr ⟨u_834, (List.forall_mem_cons.mpr ⟨u_835, (List.forall_mem_cons.mpr ⟨u_836, (List.forall_mem_cons.mpr ⟨u_21, (fun _ h9 => absurd h9 List.not_mem_nil)⟩)⟩)⟩)⟩) u_837 (rmo hRL (Nat.le_trans (by decide) hk.1) (Nat.le_trans (by decide) hk.2)) ddV_X11_rent rfl hls rfl hroom hdg hcs) kk
set_option maxHeartbeats 1000000 in
theorem iv_L_52 {p : Program} {e : Env} {R : Room} {s : State} {m : MethodId} {args : Array Value} {below : List Frame} {meth : Method} {c : Code} {H : Heap} {locs : List Loc} {cells slots : Nat} {Q : State → Prop} {cc : ByteArray} {pc : Nat} {ls : Array Slot} {rest : List Value} {nL : Nat} {G : CG} {μ : Mm} {a : Nat} {q0 : Int32} {q1 : Int32} {x : Int32 × Mm} {k k2 : Nat} (l : Launch) (X : Cx p s m args meth c cc nL RL G) (hH : HS G s μ H locs) (hRL : RmL R k k2) (hk : 6 + 1 ≤ k ∧ 126 ≤ k2) (h : f_X11_guild μ a q0 q1 = some x) (hls : ls.size = nL) (hroom : (rest.map fun v => v.category).sum ≤ 8) (hdg : decode cc pc = .ok (.invokevirtual 52, 3)) (hcs : cells + 0 ≤ R.cells ∧ slots + 0 ≤ R.slots) (kk : ∀ (H1 : Heap) (locs1 : List Loc), HS G s x.2 H1 locs1 → W p l e R s m args below meth c H1 locs1 cells slots Q (F0 m (pc + 3) ls (.int x.1 :: rest))) : W p l e R s m args below meth c H locs cells slots Q (F0 m pc ls (.int q1 :: .int q0 :: .ref a :: rest)) := by
  refine kI hH (rV (As := [.int q0, .int q1]) (rest := rest) X hH (t_X11_guild h) vc_11 (c_X11_guild l G μ a q0 q1 x h) (List.forall_mem_cons.mpr ⟨u_630, (List.forall_mem_cons.mpr ⟨u_631, (List.forall_mem_cons.mpr ⟨u_632, (List.forall_mem_cons.mpr ⟨u_21, (fun _ h9 => absurd h9 List.not_mem_nil)⟩)⟩)⟩)⟩) u_633 (rmo hRL (Nat.le_trans (by decide) hk.1) (Nat.le_trans (by decide) hk.2)) ddV_X11_guild rfl hls rfl hroom hdg hcs) kk
set_option maxHeartbeats 1000000 in
theorem iv_L_55 {p : Program} {e : Env} {R : Room} {s : State} {m : MethodId} {args : Array Value} {below : List Frame} {meth : Method} {c : Code} {H : Heap} {locs : List Loc} {cells slots : Nat} {Q : State → Prop} {cc : ByteArray} {pc : Nat} {ls : Array Slot} {rest : List Value} {nL : Nat} {G : CG} {μ : Mm} {q0 : Nat} {q1 : Int32} {x : Int32} {k k2 : Nat} (l : Launch) (X : Cx p s m args meth c cc nL RL G) (hH : HS G s μ H locs) (hRL : RmL R k k2) (hk : 2 + 1 ≤ k ∧ 41 ≤ k2) (h : f_L_gave μ q0 q1 = some x) (hls : ls.size = nL) (hroom : (rest.map fun v => v.category).sum ≤ 8) (hdg : decode cc pc = .ok (.invokestatic 55, 3)) (hcs : cells + 0 ≤ R.cells ∧ slots + 0 ≤ R.slots) (kk : ∀ (H1 : Heap) (locs1 : List Loc), HS G s μ H1 locs1 → W p l e R s m args below meth c H1 locs1 cells slots Q (F0 m (pc + 3) ls (.int x :: rest))) : W p l e R s m args below meth c H locs cells slots Q (F0 m pc ls (.int q1 :: .ref q0 :: rest)) := by
  refine kI hH (rS (As := [.ref q0, .int q1]) (rest := rest) X hH (c_L_gave l G μ q0 q1 x h) (List.forall_mem_cons.mpr ⟨u_638, (List.forall_mem_cons.mpr ⟨u_639, (List.forall_mem_cons.mpr ⟨u_20, (fun _ h9 => absurd h9 List.not_mem_nil)⟩)⟩)⟩) u_640 (rmo hRL (Nat.le_trans (by decide) hk.1) (Nat.le_trans (by decide) hk.2)) ddS_L_gave rfl hls rfl hroom hdg hcs) kk
set_option maxHeartbeats 1000000 in
theorem iv_L_59 {p : Program} {e : Env} {R : Room} {s : State} {m : MethodId} {args : Array Value} {below : List Frame} {meth : Method} {c : Code} {H : Heap} {locs : List Loc} {cells slots : Nat} {Q : State → Prop} {cc : ByteArray} {pc : Nat} {ls : Array Slot} {rest : List Value} {nL : Nat} {G : CG} {μ : Mm} {a : Nat}  {x : Int32 × Mm} {k k2 : Nat} (l : Launch) (X : Cx p s m args meth c cc nL RL G) (hH : HS G s μ H locs) (hRL : RmL R k k2) (hk : 3 + 1 ≤ k ∧ 62 ≤ k2) (h : f_X11_due μ a = some x) (hls : ls.size = nL) (hroom : (rest.map fun v => v.category).sum ≤ 8) (hdg : decode cc pc = .ok (.invokevirtual 59, 3)) (hcs : cells + 0 ≤ R.cells ∧ slots + 0 ≤ R.slots) (kk : ∀ (H1 : Heap) (locs1 : List Loc), HS G s x.2 H1 locs1 → W p l e R s m args below meth c H1 locs1 cells slots Q (F0 m (pc + 3) ls (.int x.1 :: rest))) : W p l e R s m args below meth c H locs cells slots Q (F0 m pc ls (.ref a :: rest)) := by
  refine kI hH (rV (As := []) (rest := rest) X hH (t_X11_due h) vc_11 (c_X11_due l G μ a x h) (List.forall_mem_cons.mpr ⟨u_726, (List.forall_mem_cons.mpr ⟨u_727, (List.forall_mem_cons.mpr ⟨u_728, (List.forall_mem_cons.mpr ⟨u_21, (fun _ h9 => absurd h9 List.not_mem_nil)⟩)⟩)⟩)⟩) u_729 (rmo hRL (Nat.le_trans (by decide) hk.1) (Nat.le_trans (by decide) hk.2)) ddV_X11_due rfl hls rfl hroom hdg hcs) kk
set_option maxHeartbeats 1000000 in
theorem iv_L_145 {p : Program} {e : Env} {R : Room} {s : State} {m : MethodId} {args : Array Value} {below : List Frame} {meth : Method} {c : Code} {H : Heap} {locs : List Loc} {cells slots : Nat} {Q : State → Prop} {cc : ByteArray} {pc : Nat} {ls : Array Slot} {rest : List Value} {nL : Nat} {G : CG} {μ : Mm} {a : Nat} {q0 : Int32} {x : Int32 × Mm} {k k2 : Nat} (l : Launch) (X : Cx p s m args meth c cc nL RL G) (hH : HS G s μ H locs) (hRL : RmL R k k2) (hk : 7 + 1 ≤ k ∧ 151 ≤ k2) (h : f_X11_undo μ a q0 = some x) (hls : ls.size = nL) (hroom : (rest.map fun v => v.category).sum ≤ 8) (hdg : decode cc pc = .ok (.invokevirtual 145, 3)) (hcs : cells + 0 ≤ R.cells ∧ slots + 0 ≤ R.slots) (kk : ∀ (H1 : Heap) (locs1 : List Loc), HS G s x.2 H1 locs1 → W p l e R s m args below meth c H1 locs1 cells slots Q (F0 m (pc + 3) ls (.int x.1 :: rest))) : W p l e R s m args below meth c H locs cells slots Q (F0 m pc ls (.int q0 :: .ref a :: rest)) := by
  refine kI hH (rV (As := [.int q0]) (rest := rest) X hH (t_X11_undo h) vc_11 (c_X11_undo l G μ a q0 x h) (List.forall_mem_cons.mpr ⟨u_310, (List.forall_mem_cons.mpr ⟨u_311, (List.forall_mem_cons.mpr ⟨u_312, (List.forall_mem_cons.mpr ⟨u_21, (fun _ h9 => absurd h9 List.not_mem_nil)⟩)⟩)⟩)⟩) u_313 (rmo hRL (Nat.le_trans (by decide) hk.1) (Nat.le_trans (by decide) hk.2)) ddV_X11_undo rfl hls rfl hroom hdg hcs) kk
set_option maxHeartbeats 4000000 in
set_option maxRecDepth 100000 in
theorem w_L_again_95 {p : Program} {e : Env} {R : Room} {s : State} {m : MethodId} {args : Array Value} {below : List Frame} {meth : Method} {c : Code} {cells slots : Nat} {Q : State → Prop} {G : CG} (l : Launch) (X : Cx p s m args meth c cL_again 13 RL G) (hRL : RmL R 8 151) (hcs : cells ≤ R.cells ∧ slots ≤ R.slots) : ∀ (n : Nat) (v0 : Nat) (v3 : Int32) (v4 : Int32) (v5 : Int32) (v6 : Int32) (v9 : Int32) (v10 : Int32) (μ : Mm) (x : Nat × Mm), lp_L_again_95 (gS G) n v0 v3 v4 v5 v6 v9 v10 μ = some x → (∀ (H : Heap) (locs : List Loc) (ls : Array Slot), x.1 = 0 → HS G s x.2 H locs → lv_has ls 13 [] → W p l e R s m args below meth c H locs cells slots Q (F0 m 203 ls [])) → (∀ (H : Heap) (locs : List Loc) (ls : Array Slot), x.1 = 1 → HS G s x.2 H locs → lv_has ls 13 [(0, .ref v0), (3, .int v3)] → W p l e R s m args below meth c H locs cells slots Q (F0 m 211 ls [])) → ∀ (H : Heap) (locs : List Loc) (ls : Array Slot), HS G s μ H locs → lv_has ls 13 [(0, .ref v0), (3, .int v3), (4, .int v4), (5, .int v5), (6, .int v6), (9, .int v9), (10, .int v10)] → W p l e R s m args below meth c H locs cells slots Q (F0 m 95 ls []) := by
  have hx := X.1
  have hb := X.2.1
  have hown := X.2.2.2.1
  have hts := X.2.2.2.2.1
  intro n
  induction n with
  | zero =>
    intro v0 v3 v4 v5 v6 v9 v10 μ x h
    rw [lp_L_again_95] at h
    cases h
  | succ n ih =>
    intro v0 v3 v4 v5 v6 v9 v10 μ x h k0 k1 H locs ls hH hl
    rw [lp_L_again_95] at h
    refine lv_iload hx hb dL_again_95 (lv_at hl 6 rfl) ?_
    refine lv_bipush (v := 30) hx hb dL_again_97 (by decide) ?_
    refine lv_icmp_gt (tgt := 211) hx hb dL_again_99 (by decide) (fun hc12 => ?_) (fun hc12 => ?_)
    · replace h := ift h hc12
      cases h
      exact k1 _ _ _ rfl hH (lv_sub hl [0, 1] rfl)
    · replace h := iff' h hc12
      refine lv_aload_n hx hb dL_again_102 rfl (lv_at hl 0 rfl) ?_
      refine lv_iload hx hb dL_again_103 (lv_at hl 2 rfl) ?_
      obtain ⟨x13, hx13, h⟩ := bnd h
      refine iv_L_98 l X hH hRL (by decide) hx13 hl.1 (Nat.le_of_ble_eq_true rfl) dL_again_105 hcs (fun H locs hH => ?_)
      obtain ⟨x14, hbx14, hx14⟩ := bnd h
      clear h
      refine jn_lem (G := G) (x := x14) (M := 116) (nL := 13) (fun x14 => x13.2) (fun x14 => [(0, .ref v0), (3, .int v3), (4, .int v4), (5, .int v5), (6, .int v6), (9, .int v9), (10, .int v10)]) (fun x14 => [.int x14]) (fun H locs ls hH hl => ?_) (fun jnx14 => ?_)
      · have h := hx14
        clear hx14 hbx14
        refine lv_istore (lv' := [(11, .int x14), (0, .ref v0), (3, .int v3), (4, .int v4), (5, .int v5), (6, .int v6), (9, .int v9), (10, .int v10)]) hx hb dL_again_116 hl (by decide) rfl (fun ls hl => ?_)
        refine lv_aload_n hx hb dL_again_118 rfl (lv_at hl 1 rfl) ?_
        obtain ⟨x16, hx16, h⟩ := bnd h
        refine iv_L_59 l X hH hRL (by decide) hx16 hl.1 (Nat.le_of_ble_eq_true rfl) dL_again_119 hcs (fun H locs hH => ?_)
        refine lv_iload hx hb dL_again_122 (lv_at hl 6 rfl) ?_
        obtain ⟨x17, hbx17, hx17⟩ := bnd h
        clear h
        refine jn_lem (G := G) (x := x17) (M := 132) (nL := 13) (fun x17 => x16.2) (fun x17 => [(0, .ref v0), (3, .int v3), (4, .int v4), (5, .int v5), (6, .int v6), (9, .int v9), (10, .int v10), (11, .int x14)]) (fun x17 => [.int x17]) (fun H locs ls hH hl => ?_) (fun jnx17 => ?_)
        · have h := hx17
          clear hx17 hbx17
          refine lv_istore (lv' := [(12, .int x17), (0, .ref v0), (3, .int v3), (4, .int v4), (5, .int v5), (6, .int v6), (9, .int v9), (10, .int v10), (11, .int x14)]) hx hb dL_again_132 hl (by decide) rfl (fun ls hl => ?_)
          refine lv_iload hx hb dL_again_134 (lv_at hl 8 rfl) ?_
          refine lv_iload hx hb dL_again_136 (lv_at hl 4 rfl) ?_
          obtain ⟨x19, hbx19, hx19⟩ := bnd h
          clear h
          refine jn_lem (G := G) (x := x19) (M := 161) (nL := 13) (fun x19 => x16.2) (fun x19 => [(0, .ref v0), (3, .int v3), (4, .int v4), (5, .int v5), (6, .int v6), (9, .int v9), (10, .int v10), (11, .int x14), (12, .int x17)]) (fun x19 => [.int x19, .int x14]) (fun H locs ls hH hl => ?_) (fun jnx19 => ?_)
          · have h := hx19
            clear hx19 hbx19
            refine lv_icmp_eq (tgt := 171) hx hb dL_again_161 (by decide) (fun hc24 => ?_) (fun hc24 => ?_)
            · replace h := ift h hc24
              refine lv_iload hx hb dL_again_171 (lv_at hl 3 rfl) ?_
              refine lv_if_ge (tgt := 181) hx hb dL_again_173 (by decide) (fun hc25 => ?_) (fun hc25 => ?_)
              · replace h := ift h hc25
                refine lv_iload hx hb dL_again_181 (lv_at hl 8 rfl) ?_
                refine lv_iload hx hb dL_again_183 (lv_at hl 4 rfl) ?_
                refine lv_if_le (tgt := 199) hx hb dL_again_185 (by decide) (fun hc26 => ?_) (fun hc26 => ?_)
                · replace h := ift h hc26
                  refine lv_iconst (v := 0) hx hb dL_again_199 (by decide) ?_
                  refine lv_icmp_eq (tgt := 205) hx hb dL_again_200 (by decide) (fun hc27 => ?_) (fun hc27 => ?_)
                  · replace h := ift h hc27
                    refine lv_iinc (v := (v10 + 1)) (lv' := [(10, .int (v10 + 1)), (0, .ref v0), (3, .int v3), (4, .int v4), (5, .int v5), (6, .int v6), (9, .int v9), (11, .int x14), (12, .int x17)]) hx hb dL_again_205 hl (k := 6) rfl rfl (by decide) rfl (fun ls hl => ?_)
                    refine lv_goto (tgt := 95) hx hb dL_again_208 (by decide) ?_
                    exact ih _ _ _ _ _ _ _ _ _ h k0 k1 _ _ _ hH (lv_sub hl [1, 2, 3, 4, 5, 6, 0] rfl)
                  · replace h := iff' h hc27
                    cases h
                    exact k0 _ _ _ rfl hH (lv_sub hl [] rfl)
                · replace h := iff' h hc26
                  refine lv_iload hx hb dL_again_188 (lv_at hl 6 rfl) ?_
                  refine lv_iload hx hb dL_again_190 (lv_at hl 4 rfl) ?_
                  refine lv_icmp_lt (tgt := 199) hx hb dL_again_192 (by decide) (fun hc28 => ?_) (fun hc28 => ?_)
                  · replace h := ift h hc28
                    refine lv_iconst (v := 0) hx hb dL_again_199 (by decide) ?_
                    refine lv_icmp_eq (tgt := 205) hx hb dL_again_200 (by decide) (fun hc29 => ?_) (fun hc29 => ?_)
                    · replace h := ift h hc29
                      refine lv_iinc (v := (v10 + 1)) (lv' := [(10, .int (v10 + 1)), (0, .ref v0), (3, .int v3), (4, .int v4), (5, .int v5), (6, .int v6), (9, .int v9), (11, .int x14), (12, .int x17)]) hx hb dL_again_205 hl (k := 6) rfl rfl (by decide) rfl (fun ls hl => ?_)
                      refine lv_goto (tgt := 95) hx hb dL_again_208 (by decide) ?_
                      exact ih _ _ _ _ _ _ _ _ _ h k0 k1 _ _ _ hH (lv_sub hl [1, 2, 3, 4, 5, 6, 0] rfl)
                    · replace h := iff' h hc29
                      cases h
                      exact k0 _ _ _ rfl hH (lv_sub hl [] rfl)
                  · replace h := iff' h hc28
                    refine lv_iconst (v := 1) hx hb dL_again_195 (by decide) ?_
                    refine lv_goto (tgt := 200) hx hb dL_again_196 (by decide) ?_
                    refine lv_icmp_eq (tgt := 205) hx hb dL_again_200 (by decide) (fun hc30 => ?_) (fun hc30 => ?_)
                    · replace h := ift h hc30
                      refine lv_iinc (v := (v10 + 1)) (lv' := [(10, .int (v10 + 1)), (0, .ref v0), (3, .int v3), (4, .int v4), (5, .int v5), (6, .int v6), (9, .int v9), (11, .int x14), (12, .int x17)]) hx hb dL_again_205 hl (k := 6) rfl rfl (by decide) rfl (fun ls hl => ?_)
                      refine lv_goto (tgt := 95) hx hb dL_again_208 (by decide) ?_
                      exact ih _ _ _ _ _ _ _ _ _ h k0 k1 _ _ _ hH (lv_sub hl [1, 2, 3, 4, 5, 6, 0] rfl)
                    · replace h := iff' h hc30
                      cases h
                      exact k0 _ _ _ rfl hH (lv_sub hl [] rfl)
              · replace h := iff' h hc25
                refine lv_iload hx hb dL_again_176 (lv_at hl 7 rfl) ?_
                refine lv_if_ne (tgt := 203) hx hb dL_again_178 (by decide) (fun hc31 => ?_) (fun hc31 => ?_)
                · replace h := iff' h hc31
                  cases h
                  exact k0 _ _ _ rfl hH (lv_sub hl [] rfl)
                · replace h := ift h hc31
                  refine lv_iload hx hb dL_again_181 (lv_at hl 8 rfl) ?_
                  refine lv_iload hx hb dL_again_183 (lv_at hl 4 rfl) ?_
                  refine lv_if_le (tgt := 199) hx hb dL_again_185 (by decide) (fun hc32 => ?_) (fun hc32 => ?_)
                  · replace h := ift h hc32
                    refine lv_iconst (v := 0) hx hb dL_again_199 (by decide) ?_
                    refine lv_icmp_eq (tgt := 205) hx hb dL_again_200 (by decide) (fun hc33 => ?_) (fun hc33 => ?_)
                    · replace h := ift h hc33
                      refine lv_iinc (v := (v10 + 1)) (lv' := [(10, .int (v10 + 1)), (0, .ref v0), (3, .int v3), (4, .int v4), (5, .int v5), (6, .int v6), (9, .int v9), (11, .int x14), (12, .int x17)]) hx hb dL_again_205 hl (k := 6) rfl rfl (by decide) rfl (fun ls hl => ?_)
                      refine lv_goto (tgt := 95) hx hb dL_again_208 (by decide) ?_
                      exact ih _ _ _ _ _ _ _ _ _ h k0 k1 _ _ _ hH (lv_sub hl [1, 2, 3, 4, 5, 6, 0] rfl)
                    · replace h := iff' h hc33
                      cases h
                      exact k0 _ _ _ rfl hH (lv_sub hl [] rfl)
                  · replace h := iff' h hc32
                    refine lv_iload hx hb dL_again_188 (lv_at hl 6 rfl) ?_
                    refine lv_iload hx hb dL_again_190 (lv_at hl 4 rfl) ?_
                    refine lv_icmp_lt (tgt := 199) hx hb dL_again_192 (by decide) (fun hc34 => ?_) (fun hc34 => ?_)
                    · replace h := ift h hc34
                      refine lv_iconst (v := 0) hx hb dL_again_199 (by decide) ?_
                      refine lv_icmp_eq (tgt := 205) hx hb dL_again_200 (by decide) (fun hc35 => ?_) (fun hc35 => ?_)
                      · replace h := ift h hc35
                        refine lv_iinc (v := (v10 + 1)) (lv' := [(10, .int (v10 + 1)), (0, .ref v0), (3, .int v3), (4, .int v4), (5, .int v5), (6, .int v6), (9, .int v9), (11, .int x14), (12, .int x17)]) hx hb dL_again_205 hl (k := 6) rfl rfl (by decide) rfl (fun ls hl => ?_)
                        refine lv_goto (tgt := 95) hx hb dL_again_208 (by decide) ?_
                        exact ih _ _ _ _ _ _ _ _ _ h k0 k1 _ _ _ hH (lv_sub hl [1, 2, 3, 4, 5, 6, 0] rfl)
                      · replace h := iff' h hc35
                        cases h
                        exact k0 _ _ _ rfl hH (lv_sub hl [] rfl)
                    · replace h := iff' h hc34
                      refine lv_iconst (v := 1) hx hb dL_again_195 (by decide) ?_
                      refine lv_goto (tgt := 200) hx hb dL_again_196 (by decide) ?_
                      refine lv_icmp_eq (tgt := 205) hx hb dL_again_200 (by decide) (fun hc36 => ?_) (fun hc36 => ?_)
                      · replace h := ift h hc36
                        refine lv_iinc (v := (v10 + 1)) (lv' := [(10, .int (v10 + 1)), (0, .ref v0), (3, .int v3), (4, .int v4), (5, .int v5), (6, .int v6), (9, .int v9), (11, .int x14), (12, .int x17)]) hx hb dL_again_205 hl (k := 6) rfl rfl (by decide) rfl (fun ls hl => ?_)
                        refine lv_goto (tgt := 95) hx hb dL_again_208 (by decide) ?_
                        exact ih _ _ _ _ _ _ _ _ _ h k0 k1 _ _ _ hH (lv_sub hl [1, 2, 3, 4, 5, 6, 0] rfl)
                      · replace h := iff' h hc36
                        cases h
                        exact k0 _ _ _ rfl hH (lv_sub hl [] rfl)
            · replace h := iff' h hc24
              refine lv_iload hx hb dL_again_164 (lv_at hl 6 rfl) ?_
              refine lv_iload hx hb dL_again_166 (lv_at hl 3 rfl) ?_
              refine lv_icmp_le (tgt := 203) hx hb dL_again_168 (by decide) (fun hc37 => ?_) (fun hc37 => ?_)
              · replace h := ift h hc37
                cases h
                exact k0 _ _ _ rfl hH (lv_sub hl [] rfl)
              · replace h := iff' h hc37
                refine lv_iload hx hb dL_again_171 (lv_at hl 3 rfl) ?_
                refine lv_if_ge (tgt := 181) hx hb dL_again_173 (by decide) (fun hc38 => ?_) (fun hc38 => ?_)
                · replace h := ift h hc38
                  refine lv_iload hx hb dL_again_181 (lv_at hl 8 rfl) ?_
                  refine lv_iload hx hb dL_again_183 (lv_at hl 4 rfl) ?_
                  refine lv_if_le (tgt := 199) hx hb dL_again_185 (by decide) (fun hc39 => ?_) (fun hc39 => ?_)
                  · replace h := ift h hc39
                    refine lv_iconst (v := 0) hx hb dL_again_199 (by decide) ?_
                    refine lv_icmp_eq (tgt := 205) hx hb dL_again_200 (by decide) (fun hc40 => ?_) (fun hc40 => ?_)
                    · replace h := ift h hc40
                      refine lv_iinc (v := (v10 + 1)) (lv' := [(10, .int (v10 + 1)), (0, .ref v0), (3, .int v3), (4, .int v4), (5, .int v5), (6, .int v6), (9, .int v9), (11, .int x14), (12, .int x17)]) hx hb dL_again_205 hl (k := 6) rfl rfl (by decide) rfl (fun ls hl => ?_)
                      refine lv_goto (tgt := 95) hx hb dL_again_208 (by decide) ?_
                      exact ih _ _ _ _ _ _ _ _ _ h k0 k1 _ _ _ hH (lv_sub hl [1, 2, 3, 4, 5, 6, 0] rfl)
                    · replace h := iff' h hc40
                      cases h
                      exact k0 _ _ _ rfl hH (lv_sub hl [] rfl)
                  · replace h := iff' h hc39
                    refine lv_iload hx hb dL_again_188 (lv_at hl 6 rfl) ?_
                    refine lv_iload hx hb dL_again_190 (lv_at hl 4 rfl) ?_
                    refine lv_icmp_lt (tgt := 199) hx hb dL_again_192 (by decide) (fun hc41 => ?_) (fun hc41 => ?_)
                    · replace h := ift h hc41
                      refine lv_iconst (v := 0) hx hb dL_again_199 (by decide) ?_
                      refine lv_icmp_eq (tgt := 205) hx hb dL_again_200 (by decide) (fun hc42 => ?_) (fun hc42 => ?_)
                      · replace h := ift h hc42
                        refine lv_iinc (v := (v10 + 1)) (lv' := [(10, .int (v10 + 1)), (0, .ref v0), (3, .int v3), (4, .int v4), (5, .int v5), (6, .int v6), (9, .int v9), (11, .int x14), (12, .int x17)]) hx hb dL_again_205 hl (k := 6) rfl rfl (by decide) rfl (fun ls hl => ?_)
                        refine lv_goto (tgt := 95) hx hb dL_again_208 (by decide) ?_
                        exact ih _ _ _ _ _ _ _ _ _ h k0 k1 _ _ _ hH (lv_sub hl [1, 2, 3, 4, 5, 6, 0] rfl)
                      · replace h := iff' h hc42
                        cases h
                        exact k0 _ _ _ rfl hH (lv_sub hl [] rfl)
                    · replace h := iff' h hc41
                      refine lv_iconst (v := 1) hx hb dL_again_195 (by decide) ?_
                      refine lv_goto (tgt := 200) hx hb dL_again_196 (by decide) ?_
                      refine lv_icmp_eq (tgt := 205) hx hb dL_again_200 (by decide) (fun hc43 => ?_) (fun hc43 => ?_)
                      · replace h := ift h hc43
                        refine lv_iinc (v := (v10 + 1)) (lv' := [(10, .int (v10 + 1)), (0, .ref v0), (3, .int v3), (4, .int v4), (5, .int v5), (6, .int v6), (9, .int v9), (11, .int x14), (12, .int x17)]) hx hb dL_again_205 hl (k := 6) rfl rfl (by decide) rfl (fun ls hl => ?_)
                        refine lv_goto (tgt := 95) hx hb dL_again_208 (by decide) ?_
                        exact ih _ _ _ _ _ _ _ _ _ h k0 k1 _ _ _ hH (lv_sub hl [1, 2, 3, 4, 5, 6, 0] rfl)
                      · replace h := iff' h hc43
                        cases h
                        exact k0 _ _ _ rfl hH (lv_sub hl [] rfl)
                · replace h := iff' h hc38
                  refine lv_iload hx hb dL_again_176 (lv_at hl 7 rfl) ?_
                  refine lv_if_ne (tgt := 203) hx hb dL_again_178 (by decide) (fun hc44 => ?_) (fun hc44 => ?_)
                  · replace h := iff' h hc44
                    cases h
                    exact k0 _ _ _ rfl hH (lv_sub hl [] rfl)
                  · replace h := ift h hc44
                    refine lv_iload hx hb dL_again_181 (lv_at hl 8 rfl) ?_
                    refine lv_iload hx hb dL_again_183 (lv_at hl 4 rfl) ?_
                    refine lv_if_le (tgt := 199) hx hb dL_again_185 (by decide) (fun hc45 => ?_) (fun hc45 => ?_)
                    · replace h := ift h hc45
                      refine lv_iconst (v := 0) hx hb dL_again_199 (by decide) ?_
                      refine lv_icmp_eq (tgt := 205) hx hb dL_again_200 (by decide) (fun hc46 => ?_) (fun hc46 => ?_)
                      · replace h := ift h hc46
                        refine lv_iinc (v := (v10 + 1)) (lv' := [(10, .int (v10 + 1)), (0, .ref v0), (3, .int v3), (4, .int v4), (5, .int v5), (6, .int v6), (9, .int v9), (11, .int x14), (12, .int x17)]) hx hb dL_again_205 hl (k := 6) rfl rfl (by decide) rfl (fun ls hl => ?_)
                        refine lv_goto (tgt := 95) hx hb dL_again_208 (by decide) ?_
                        exact ih _ _ _ _ _ _ _ _ _ h k0 k1 _ _ _ hH (lv_sub hl [1, 2, 3, 4, 5, 6, 0] rfl)
                      · replace h := iff' h hc46
                        cases h
                        exact k0 _ _ _ rfl hH (lv_sub hl [] rfl)
                    · replace h := iff' h hc45
                      refine lv_iload hx hb dL_again_188 (lv_at hl 6 rfl) ?_
                      refine lv_iload hx hb dL_again_190 (lv_at hl 4 rfl) ?_
                      refine lv_icmp_lt (tgt := 199) hx hb dL_again_192 (by decide) (fun hc47 => ?_) (fun hc47 => ?_)
                      · replace h := ift h hc47
                        refine lv_iconst (v := 0) hx hb dL_again_199 (by decide) ?_
                        refine lv_icmp_eq (tgt := 205) hx hb dL_again_200 (by decide) (fun hc48 => ?_) (fun hc48 => ?_)
                        · replace h := ift h hc48
                          refine lv_iinc (v := (v10 + 1)) (lv' := [(10, .int (v10 + 1)), (0, .ref v0), (3, .int v3), (4, .int v4), (5, .int v5), (6, .int v6), (9, .int v9), (11, .int x14), (12, .int x17)]) hx hb dL_again_205 hl (k := 6) rfl rfl (by decide) rfl (fun ls hl => ?_)
                          refine lv_goto (tgt := 95) hx hb dL_again_208 (by decide) ?_
                          exact ih _ _ _ _ _ _ _ _ _ h k0 k1 _ _ _ hH (lv_sub hl [1, 2, 3, 4, 5, 6, 0] rfl)
                        · replace h := iff' h hc48
                          cases h
                          exact k0 _ _ _ rfl hH (lv_sub hl [] rfl)
                      · replace h := iff' h hc47
                        refine lv_iconst (v := 1) hx hb dL_again_195 (by decide) ?_
                        refine lv_goto (tgt := 200) hx hb dL_again_196 (by decide) ?_
                        refine lv_icmp_eq (tgt := 205) hx hb dL_again_200 (by decide) (fun hc49 => ?_) (fun hc49 => ?_)
                        · replace h := ift h hc49
                          refine lv_iinc (v := (v10 + 1)) (lv' := [(10, .int (v10 + 1)), (0, .ref v0), (3, .int v3), (4, .int v4), (5, .int v5), (6, .int v6), (9, .int v9), (11, .int x14), (12, .int x17)]) hx hb dL_again_205 hl (k := 6) rfl rfl (by decide) rfl (fun ls hl => ?_)
                          refine lv_goto (tgt := 95) hx hb dL_again_208 (by decide) ?_
                          exact ih _ _ _ _ _ _ _ _ _ h k0 k1 _ _ _ hH (lv_sub hl [1, 2, 3, 4, 5, 6, 0] rfl)
                        · replace h := iff' h hc49
                          cases h
                          exact k0 _ _ _ rfl hH (lv_sub hl [] rfl)
          · have h := hbx19
            clear hx19 hbx19
            refine lv_if_le (tgt := 160) hx hb dL_again_138 (by decide) (fun hc20 => ?_) (fun hc20 => ?_)
            · replace h := ift h hc20
              refine lv_iconst (v := 0) hx hb dL_again_160 (by decide) ?_
              cases h
              exact jnx19 _ _ _ hH (lv_sub hl [1, 2, 3, 4, 5, 6, 7, 8, 0] rfl)
            · replace h := iff' h hc20
              refine lv_iload hx hb dL_again_141 (lv_at hl 7 rfl) ?_
              refine lv_iload hx hb dL_again_143 (lv_at hl 4 rfl) ?_
              obtain ⟨hd21, h⟩ := gsf h
              refine lv_irem hx hb dL_again_145 hd21 ?_
              refine lv_if_ne (tgt := 160) hx hb dL_again_146 (by decide) (fun hc22 => ?_) (fun hc22 => ?_)
              · replace h := iff' h hc22
                refine lv_iconst (v := 0) hx hb dL_again_160 (by decide) ?_
                cases h
                exact jnx19 _ _ _ hH (lv_sub hl [1, 2, 3, 4, 5, 6, 7, 8, 0] rfl)
              · replace h := ift h hc22
                refine lv_iload hx hb dL_again_149 (lv_at hl 7 rfl) ?_
                refine lv_iload hx hb dL_again_151 (lv_at hl 4 rfl) ?_
                refine lv_icmp_ne (tgt := 160) hx hb dL_again_153 (by decide) (fun hc23 => ?_) (fun hc23 => ?_)
                · replace h := iff' h hc23
                  refine lv_iconst (v := 0) hx hb dL_again_160 (by decide) ?_
                  cases h
                  exact jnx19 _ _ _ hH (lv_sub hl [1, 2, 3, 4, 5, 6, 7, 8, 0] rfl)
                · replace h := ift h hc23
                  refine lv_iconst (v := 1) hx hb dL_again_156 (by decide) ?_
                  refine lv_goto (tgt := 161) hx hb dL_again_157 (by decide) ?_
                  cases h
                  exact jnx19 _ _ _ hH (lv_sub hl [1, 2, 3, 4, 5, 6, 7, 8, 0] rfl)
        · have h := hbx17
          clear hx17 hbx17
          refine lv_icmp_le (tgt := 131) hx hb dL_again_124 (by decide) (fun hc18 => ?_) (fun hc18 => ?_)
          · replace h := ift h hc18
            refine lv_iconst (v := 0) hx hb dL_again_131 (by decide) ?_
            cases h
            exact jnx17 _ _ _ hH (lv_sub hl [1, 2, 3, 4, 5, 6, 7, 0] rfl)
          · replace h := iff' h hc18
            refine lv_iconst (v := 1) hx hb dL_again_127 (by decide) ?_
            refine lv_goto (tgt := 132) hx hb dL_again_128 (by decide) ?_
            cases h
            exact jnx17 _ _ _ hH (lv_sub hl [1, 2, 3, 4, 5, 6, 7, 0] rfl)
      · have h := hbx14
        clear hx14 hbx14
        refine lv_if_ne (tgt := 115) hx hb dL_again_108 (by decide) (fun hc15 => ?_) (fun hc15 => ?_)
        · replace h := iff' h hc15
          refine lv_iconst (v := 0) hx hb dL_again_115 (by decide) ?_
          cases h
          exact jnx14 _ _ _ hH (lv_sub hl [0, 1, 2, 3, 4, 5, 6] rfl)
        · replace h := ift h hc15
          refine lv_iconst (v := 1) hx hb dL_again_111 (by decide) ?_
          refine lv_goto (tgt := 116) hx hb dL_again_112 (by decide) ?_
          cases h
          exact jnx14 _ _ _ hH (lv_sub hl [0, 1, 2, 3, 4, 5, 6] rfl)
set_option maxHeartbeats 4000000 in
set_option maxRecDepth 100000 in
theorem c_L_again (l : Launch) (G : CG) (μ : Mm) (p0 : Nat) (p1 : Nat) (p2 : Int32) (p3 : Int32) (x : Int32 × Mm) (h : f_L_again (gS G) μ p0 p1 p2 p3 = some x) : Met l yL_again (.code yL_again cL_again 13 (some .boolean) :: UW) (rmk 8 151 0 0) (PC G [.ref p0, .ref p1, .int p2, .int p3] μ) (QI G x.1 x.2) 0 0 (fA G) := by
  refine Met.ofW (cc := cL_again) (maxL := 13) (ret := (some .boolean)) (by decide) rfl ?_
  intro p e s m args below meth c s₁ B hml hv
  obtain ⟨X, hH, hr, rfl, hnm⟩ := cx_in B hml hv
  have X : Cx p s m _ meth c cL_again 13 RL G := X
  have hx := X.1
  have hb := X.2.1
  have hown := X.2.2.2.1
  have hts := X.2.2.2.2.1
  have hRL : RmL (rmk 8 151 0 0) 8 151 := ⟨Nat.le_refl _, Nat.le_refl _⟩
  have hcs : 0 ≤ (rmk 0 0 0 0).cells ∧ 0 ≤ (rmk 0 0 0 0).slots := ⟨Nat.zero_le _, Nat.zero_le _⟩
  refine ls_in (Nat.le_of_ble_eq_true rfl) (fun ls hl => ?_)
  have hl : lv_has ls 13 [(0, .ref p0), (1, .ref p1), (2, .int p2), (3, .int p3)] := hl
  unfold f_L_again at h
  refine lv_aload_n hx hb dL_again_0 rfl (lv_at hl 1 rfl) ?_
  refine lv_bipush (v := 44) hx hb dL_again_1 (by decide) ?_
  obtain ⟨x1, hx1, h⟩ := bnd h
  refine iv_L_14 l X hH hRL (by decide) hx1 hl.1 (Nat.le_of_ble_eq_true rfl) dL_again_3 hcs (fun H locs hH => ?_)
  refine lv_iload_n hx hb dL_again_6 rfl (lv_at hl 2 rfl) ?_
  obtain ⟨hd2, h⟩ := gsf h
  refine lv_irem hx hb dL_again_7 hd2 ?_
  refine lv_istore (lv' := [(4, .int (x1 - x1 / p2 * p2)), (0, .ref p0), (1, .ref p1), (2, .int p2), (3, .int p3)]) hx hb dL_again_8 hl (by decide) rfl (fun ls hl => ?_)
  refine lv_aload_n hx hb dL_again_10 rfl (lv_at hl 1 rfl) ?_
  refine lv_iload hx hb dL_again_11 (lv_at hl 0 rfl) ?_
  obtain ⟨x3, hx3, h⟩ := bnd h
  refine iv_L_176 l X hH hRL (by decide) hx3 hl.1 (Nat.le_of_ble_eq_true rfl) dL_again_13 hcs (fun H locs hH => ?_)
  refine lv_istore (lv' := [(5, .int x3), (4, .int (x1 - x1 / p2 * p2)), (0, .ref p0), (1, .ref p1), (2, .int p2), (3, .int p3)]) hx hb dL_again_16 hl (by decide) rfl (fun ls hl => ?_)
  refine lv_aload_n hx hb dL_again_18 rfl (lv_at hl 2 rfl) ?_
  refine lv_iload hx hb dL_again_19 (lv_at hl 1 rfl) ?_
  obtain ⟨x4, hx4, h⟩ := bnd h
  refine iv_L_179 l X hH hRL (by decide) hx4 hl.1 (Nat.le_of_ble_eq_true rfl) dL_again_21 hcs (fun H locs hH => ?_)
  refine lv_istore (lv' := [(6, .int x4.1), (5, .int x3), (4, .int (x1 - x1 / p2 * p2)), (0, .ref p0), (1, .ref p1), (2, .int p2), (3, .int p3)]) hx hb dL_again_24 hl (by decide) rfl (fun ls hl => ?_)
  refine lv_aload_n hx hb dL_again_26 rfl (lv_at hl 3 rfl) ?_
  obtain ⟨x5, hx5, h⟩ := bnd h
  refine iv_L_45 l X hH hRL (by decide) hx5 hl.1 (Nat.le_of_ble_eq_true rfl) dL_again_27 hcs (fun H locs hH => ?_)
  refine lv_istore (lv' := [(7, .int x5), (6, .int x4.1), (5, .int x3), (4, .int (x1 - x1 / p2 * p2)), (0, .ref p0), (1, .ref p1), (2, .int p2), (3, .int p3)]) hx hb dL_again_30 hl (by decide) rfl (fun ls hl => ?_)
  refine lv_aload_n hx hb dL_again_32 rfl (lv_at hl 4 rfl) ?_
  refine lv_aload_n hx hb dL_again_33 rfl (lv_at hl 4 rfl) ?_
  refine lv_iload hx hb dL_again_34 (lv_at hl 3 rfl) ?_
  refine lv_iconst (v := 2) hx hb dL_again_36 (by decide) ?_
  obtain ⟨x6, hx6, h⟩ := bnd h
  refine iv_L_52 l X hH hRL (by decide) hx6 hl.1 (Nat.le_of_ble_eq_true rfl) dL_again_37 hcs (fun H locs hH => ?_)
  obtain ⟨x7, hx7, h⟩ := bnd h
  refine iv_L_55 l X hH hRL (by decide) hx7 hl.1 (Nat.le_of_ble_eq_true rfl) dL_again_40 hcs (fun H locs hH => ?_)
  refine lv_istore (lv' := [(8, .int x7), (7, .int x5), (6, .int x4.1), (5, .int x3), (4, .int (x1 - x1 / p2 * p2)), (0, .ref p0), (1, .ref p1), (2, .int p2), (3, .int p3)]) hx hb dL_again_43 hl (by decide) rfl (fun ls hl => ?_)
  refine lv_aload_n hx hb dL_again_45 rfl (lv_at hl 5 rfl) ?_
  obtain ⟨x8, hx8, h⟩ := bnd h
  refine iv_L_59 l X hH hRL (by decide) hx8 hl.1 (Nat.le_of_ble_eq_true rfl) dL_again_46 hcs (fun H locs hH => ?_)
  refine lv_istore (lv' := [(9, .int x8.1), (8, .int x7), (7, .int x5), (6, .int x4.1), (5, .int x3), (4, .int (x1 - x1 / p2 * p2)), (0, .ref p0), (1, .ref p1), (2, .int p2), (3, .int p3)]) hx hb dL_again_49 hl (by decide) rfl (fun ls hl => ?_)
  refine lv_iload hx hb dL_again_51 (lv_at hl 3 rfl) ?_
  refine lv_if_le (tgt := 66) hx hb dL_again_53 (by decide) (fun hc9 => ?_) (fun hc9 => ?_)
  · replace h := ift h hc9
    refine lv_iload hx hb dL_again_66 (lv_at hl 4 rfl) ?_
    refine lv_if_ge (tgt := 78) hx hb dL_again_68 (by decide) (fun hc10 => ?_) (fun hc10 => ?_)
    · replace h := ift h hc10
      refine lv_iload hx hb dL_again_78 (lv_at hl 3 rfl) ?_
      refine lv_if_ge (tgt := 92) hx hb dL_again_80 (by decide) (fun hc11 => ?_) (fun hc11 => ?_)
      · replace h := ift h hc11
        refine lv_iconst (v := 1) hx hb dL_again_92 (by decide) ?_
        refine lv_istore (lv' := [(10, .int (1 : Int32)), (9, .int x8.1), (8, .int x7), (7, .int x5), (6, .int x4.1), (5, .int x3), (4, .int (x1 - x1 / p2 * p2)), (0, .ref p0), (1, .ref p1), (2, .int p2), (3, .int p3)]) hx hb dL_again_93 hl (by decide) rfl (fun ls hl => ?_)
        obtain ⟨x50, hx50, hhx50⟩ := bnd h
        clear h
        refine w_L_again_95 l X hRL hcs BIG p0 p3 (x1 - x1 / p2 * p2) x3 x4.1 x8.1 (1 : Int32) x8.2 x50 hx50 (fun H locs ls hj hH hl => ?_) (fun H locs ls hj hH hl => ?_) _ _ _ hH (lv_sub hl [7, 10, 6, 5, 4, 1, 0] rfl)
        · have h := hhx50
          clear hhx50
          replace h := ift h hj
          refine lv_iconst (v := 0) hx hb dL_again_203 (by decide) ?_
          exact eZ X hH (by decide) h hr dL_again_204 (Nat.le_of_ble_eq_true rfl) (Nat.le_of_ble_eq_true rfl)
        · have h := hhx50
          clear hhx50
          replace h := iff' h (by rw [hj]; decide)
          refine lv_aload_n hx hb dL_again_211 rfl (lv_at hl 0 rfl) ?_
          refine lv_iload_n hx hb dL_again_212 rfl (lv_at hl 1 rfl) ?_
          obtain ⟨x51, hx51, h⟩ := bnd h
          refine iv_L_145 l X hH hRL (by decide) hx51 hl.1 (Nat.le_of_ble_eq_true rfl) dL_again_213 hcs (fun H locs hH => ?_)
          refine lv_bipush (v := 30) hx hb dL_again_216 (by decide) ?_
          refine lv_icmp_ne (tgt := 225) hx hb dL_again_218 (by decide) (fun hc52 => ?_) (fun hc52 => ?_)
          · replace h := iff' h hc52
            refine lv_iconst (v := 0) hx hb dL_again_225 (by decide) ?_
            exact eZ X hH (by decide) h hr dL_again_226 (Nat.le_of_ble_eq_true rfl) (Nat.le_of_ble_eq_true rfl)
          · replace h := ift h hc52
            refine lv_iconst (v := 1) hx hb dL_again_221 (by decide) ?_
            refine lv_goto (tgt := 226) hx hb dL_again_222 (by decide) ?_
            exact eZ X hH (by decide) h hr dL_again_226 (Nat.le_of_ble_eq_true rfl) (Nat.le_of_ble_eq_true rfl)
      · replace h := iff' h hc11
        refine lv_iload hx hb dL_again_83 (lv_at hl 3 rfl) ?_
        refine lv_bipush (v := -9) hx hb dL_again_85 (by decide) ?_
        refine lv_icmp_eq (tgt := 92) hx hb dL_again_87 (by decide) (fun hc53 => ?_) (fun hc53 => ?_)
        · replace h := ift h hc53
          refine lv_iconst (v := 1) hx hb dL_again_92 (by decide) ?_
          refine lv_istore (lv' := [(10, .int (1 : Int32)), (9, .int x8.1), (8, .int x7), (7, .int x5), (6, .int x4.1), (5, .int x3), (4, .int (x1 - x1 / p2 * p2)), (0, .ref p0), (1, .ref p1), (2, .int p2), (3, .int p3)]) hx hb dL_again_93 hl (by decide) rfl (fun ls hl => ?_)
          obtain ⟨x54, hx54, hhx54⟩ := bnd h
          clear h
          refine w_L_again_95 l X hRL hcs BIG p0 p3 (x1 - x1 / p2 * p2) x3 x4.1 x8.1 (1 : Int32) x8.2 x54 hx54 (fun H locs ls hj hH hl => ?_) (fun H locs ls hj hH hl => ?_) _ _ _ hH (lv_sub hl [7, 10, 6, 5, 4, 1, 0] rfl)
          · have h := hhx54
            clear hhx54
            replace h := ift h hj
            refine lv_iconst (v := 0) hx hb dL_again_203 (by decide) ?_
            exact eZ X hH (by decide) h hr dL_again_204 (Nat.le_of_ble_eq_true rfl) (Nat.le_of_ble_eq_true rfl)
          · have h := hhx54
            clear hhx54
            replace h := iff' h (by rw [hj]; decide)
            refine lv_aload_n hx hb dL_again_211 rfl (lv_at hl 0 rfl) ?_
            refine lv_iload_n hx hb dL_again_212 rfl (lv_at hl 1 rfl) ?_
            obtain ⟨x55, hx55, h⟩ := bnd h
            refine iv_L_145 l X hH hRL (by decide) hx55 hl.1 (Nat.le_of_ble_eq_true rfl) dL_again_213 hcs (fun H locs hH => ?_)
            refine lv_bipush (v := 30) hx hb dL_again_216 (by decide) ?_
            refine lv_icmp_ne (tgt := 225) hx hb dL_again_218 (by decide) (fun hc56 => ?_) (fun hc56 => ?_)
            · replace h := iff' h hc56
              refine lv_iconst (v := 0) hx hb dL_again_225 (by decide) ?_
              exact eZ X hH (by decide) h hr dL_again_226 (Nat.le_of_ble_eq_true rfl) (Nat.le_of_ble_eq_true rfl)
            · replace h := ift h hc56
              refine lv_iconst (v := 1) hx hb dL_again_221 (by decide) ?_
              refine lv_goto (tgt := 226) hx hb dL_again_222 (by decide) ?_
              exact eZ X hH (by decide) h hr dL_again_226 (Nat.le_of_ble_eq_true rfl) (Nat.le_of_ble_eq_true rfl)
        · replace h := iff' h hc53
          refine lv_iconst (v := 0) hx hb dL_again_90 (by decide) ?_
          exact eZ X hH (by decide) h hr dL_again_91 (Nat.le_of_ble_eq_true rfl) (Nat.le_of_ble_eq_true rfl)
    · replace h := iff' h hc10
      refine lv_iload hx hb dL_again_71 (lv_at hl 4 rfl) ?_
      refine lv_bipush (v := -9) hx hb dL_again_73 (by decide) ?_
      refine lv_icmp_ne (tgt := 90) hx hb dL_again_75 (by decide) (fun hc57 => ?_) (fun hc57 => ?_)
      · replace h := iff' h hc57
        refine lv_iconst (v := 0) hx hb dL_again_90 (by decide) ?_
        exact eZ X hH (by decide) h hr dL_again_91 (Nat.le_of_ble_eq_true rfl) (Nat.le_of_ble_eq_true rfl)
      · replace h := ift h hc57
        refine lv_iload hx hb dL_again_78 (lv_at hl 3 rfl) ?_
        refine lv_if_ge (tgt := 92) hx hb dL_again_80 (by decide) (fun hc58 => ?_) (fun hc58 => ?_)
        · replace h := ift h hc58
          refine lv_iconst (v := 1) hx hb dL_again_92 (by decide) ?_
          refine lv_istore (lv' := [(10, .int (1 : Int32)), (9, .int x8.1), (8, .int x7), (7, .int x5), (6, .int x4.1), (5, .int x3), (4, .int (x1 - x1 / p2 * p2)), (0, .ref p0), (1, .ref p1), (2, .int p2), (3, .int p3)]) hx hb dL_again_93 hl (by decide) rfl (fun ls hl => ?_)
          obtain ⟨x59, hx59, hhx59⟩ := bnd h
          clear h
          refine w_L_again_95 l X hRL hcs BIG p0 p3 (x1 - x1 / p2 * p2) x3 x4.1 x8.1 (1 : Int32) x8.2 x59 hx59 (fun H locs ls hj hH hl => ?_) (fun H locs ls hj hH hl => ?_) _ _ _ hH (lv_sub hl [7, 10, 6, 5, 4, 1, 0] rfl)
          · have h := hhx59
            clear hhx59
            replace h := ift h hj
            refine lv_iconst (v := 0) hx hb dL_again_203 (by decide) ?_
            exact eZ X hH (by decide) h hr dL_again_204 (Nat.le_of_ble_eq_true rfl) (Nat.le_of_ble_eq_true rfl)
          · have h := hhx59
            clear hhx59
            replace h := iff' h (by rw [hj]; decide)
            refine lv_aload_n hx hb dL_again_211 rfl (lv_at hl 0 rfl) ?_
            refine lv_iload_n hx hb dL_again_212 rfl (lv_at hl 1 rfl) ?_
            obtain ⟨x60, hx60, h⟩ := bnd h
            refine iv_L_145 l X hH hRL (by decide) hx60 hl.1 (Nat.le_of_ble_eq_true rfl) dL_again_213 hcs (fun H locs hH => ?_)
            refine lv_bipush (v := 30) hx hb dL_again_216 (by decide) ?_
            refine lv_icmp_ne (tgt := 225) hx hb dL_again_218 (by decide) (fun hc61 => ?_) (fun hc61 => ?_)
            · replace h := iff' h hc61
              refine lv_iconst (v := 0) hx hb dL_again_225 (by decide) ?_
              exact eZ X hH (by decide) h hr dL_again_226 (Nat.le_of_ble_eq_true rfl) (Nat.le_of_ble_eq_true rfl)
            · replace h := ift h hc61
              refine lv_iconst (v := 1) hx hb dL_again_221 (by decide) ?_
              refine lv_goto (tgt := 226) hx hb dL_again_222 (by decide) ?_
              exact eZ X hH (by decide) h hr dL_again_226 (Nat.le_of_ble_eq_true rfl) (Nat.le_of_ble_eq_true rfl)
        · replace h := iff' h hc58
          refine lv_iload hx hb dL_again_83 (lv_at hl 3 rfl) ?_
          refine lv_bipush (v := -9) hx hb dL_again_85 (by decide) ?_
          refine lv_icmp_eq (tgt := 92) hx hb dL_again_87 (by decide) (fun hc62 => ?_) (fun hc62 => ?_)
          · replace h := ift h hc62
            refine lv_iconst (v := 1) hx hb dL_again_92 (by decide) ?_
            refine lv_istore (lv' := [(10, .int (1 : Int32)), (9, .int x8.1), (8, .int x7), (7, .int x5), (6, .int x4.1), (5, .int x3), (4, .int (x1 - x1 / p2 * p2)), (0, .ref p0), (1, .ref p1), (2, .int p2), (3, .int p3)]) hx hb dL_again_93 hl (by decide) rfl (fun ls hl => ?_)
            obtain ⟨x63, hx63, hhx63⟩ := bnd h
            clear h
            refine w_L_again_95 l X hRL hcs BIG p0 p3 (x1 - x1 / p2 * p2) x3 x4.1 x8.1 (1 : Int32) x8.2 x63 hx63 (fun H locs ls hj hH hl => ?_) (fun H locs ls hj hH hl => ?_) _ _ _ hH (lv_sub hl [7, 10, 6, 5, 4, 1, 0] rfl)
            · have h := hhx63
              clear hhx63
              replace h := ift h hj
              refine lv_iconst (v := 0) hx hb dL_again_203 (by decide) ?_
              exact eZ X hH (by decide) h hr dL_again_204 (Nat.le_of_ble_eq_true rfl) (Nat.le_of_ble_eq_true rfl)
            · have h := hhx63
              clear hhx63
              replace h := iff' h (by rw [hj]; decide)
              refine lv_aload_n hx hb dL_again_211 rfl (lv_at hl 0 rfl) ?_
              refine lv_iload_n hx hb dL_again_212 rfl (lv_at hl 1 rfl) ?_
              obtain ⟨x64, hx64, h⟩ := bnd h
              refine iv_L_145 l X hH hRL (by decide) hx64 hl.1 (Nat.le_of_ble_eq_true rfl) dL_again_213 hcs (fun H locs hH => ?_)
              refine lv_bipush (v := 30) hx hb dL_again_216 (by decide) ?_
              refine lv_icmp_ne (tgt := 225) hx hb dL_again_218 (by decide) (fun hc65 => ?_) (fun hc65 => ?_)
              · replace h := iff' h hc65
                refine lv_iconst (v := 0) hx hb dL_again_225 (by decide) ?_
                exact eZ X hH (by decide) h hr dL_again_226 (Nat.le_of_ble_eq_true rfl) (Nat.le_of_ble_eq_true rfl)
              · replace h := ift h hc65
                refine lv_iconst (v := 1) hx hb dL_again_221 (by decide) ?_
                refine lv_goto (tgt := 226) hx hb dL_again_222 (by decide) ?_
                exact eZ X hH (by decide) h hr dL_again_226 (Nat.le_of_ble_eq_true rfl) (Nat.le_of_ble_eq_true rfl)
          · replace h := iff' h hc62
            refine lv_iconst (v := 0) hx hb dL_again_90 (by decide) ?_
            exact eZ X hH (by decide) h hr dL_again_91 (Nat.le_of_ble_eq_true rfl) (Nat.le_of_ble_eq_true rfl)
  · replace h := iff' h hc9
    refine lv_iload hx hb dL_again_56 (lv_at hl 2 rfl) ?_
    refine lv_iload hx hb dL_again_58 (lv_at hl 3 rfl) ?_
    refine lv_iload hx hb dL_again_60 (lv_at hl 1 rfl) ?_
    refine lv_imul hx hb dL_again_62 ?_
    refine lv_icmp_ne (tgt := 90) hx hb dL_again_63 (by decide) (fun hc66 => ?_) (fun hc66 => ?_)
    · replace h := iff' h hc66
      refine lv_iconst (v := 0) hx hb dL_again_90 (by decide) ?_
      exact eZ X hH (by decide) h hr dL_again_91 (Nat.le_of_ble_eq_true rfl) (Nat.le_of_ble_eq_true rfl)
    · replace h := ift h hc66
      refine lv_iload hx hb dL_again_66 (lv_at hl 4 rfl) ?_
      refine lv_if_ge (tgt := 78) hx hb dL_again_68 (by decide) (fun hc67 => ?_) (fun hc67 => ?_)
      · replace h := ift h hc67
        refine lv_iload hx hb dL_again_78 (lv_at hl 3 rfl) ?_
        refine lv_if_ge (tgt := 92) hx hb dL_again_80 (by decide) (fun hc68 => ?_) (fun hc68 => ?_)
        · replace h := ift h hc68
          refine lv_iconst (v := 1) hx hb dL_again_92 (by decide) ?_
          refine lv_istore (lv' := [(10, .int (1 : Int32)), (9, .int x8.1), (8, .int x7), (7, .int x5), (6, .int x4.1), (5, .int x3), (4, .int (x1 - x1 / p2 * p2)), (0, .ref p0), (1, .ref p1), (2, .int p2), (3, .int p3)]) hx hb dL_again_93 hl (by decide) rfl (fun ls hl => ?_)
          obtain ⟨x69, hx69, hhx69⟩ := bnd h
          clear h
          refine w_L_again_95 l X hRL hcs BIG p0 p3 (x1 - x1 / p2 * p2) x3 x4.1 x8.1 (1 : Int32) x8.2 x69 hx69 (fun H locs ls hj hH hl => ?_) (fun H locs ls hj hH hl => ?_) _ _ _ hH (lv_sub hl [7, 10, 6, 5, 4, 1, 0] rfl)
          · have h := hhx69
            clear hhx69
            replace h := ift h hj
            refine lv_iconst (v := 0) hx hb dL_again_203 (by decide) ?_
            exact eZ X hH (by decide) h hr dL_again_204 (Nat.le_of_ble_eq_true rfl) (Nat.le_of_ble_eq_true rfl)
          · have h := hhx69
            clear hhx69
            replace h := iff' h (by rw [hj]; decide)
            refine lv_aload_n hx hb dL_again_211 rfl (lv_at hl 0 rfl) ?_
            refine lv_iload_n hx hb dL_again_212 rfl (lv_at hl 1 rfl) ?_
            obtain ⟨x70, hx70, h⟩ := bnd h
            refine iv_L_145 l X hH hRL (by decide) hx70 hl.1 (Nat.le_of_ble_eq_true rfl) dL_again_213 hcs (fun H locs hH => ?_)
            refine lv_bipush (v := 30) hx hb dL_again_216 (by decide) ?_
            refine lv_icmp_ne (tgt := 225) hx hb dL_again_218 (by decide) (fun hc71 => ?_) (fun hc71 => ?_)
            · replace h := iff' h hc71
              refine lv_iconst (v := 0) hx hb dL_again_225 (by decide) ?_
              exact eZ X hH (by decide) h hr dL_again_226 (Nat.le_of_ble_eq_true rfl) (Nat.le_of_ble_eq_true rfl)
            · replace h := ift h hc71
              refine lv_iconst (v := 1) hx hb dL_again_221 (by decide) ?_
              refine lv_goto (tgt := 226) hx hb dL_again_222 (by decide) ?_
              exact eZ X hH (by decide) h hr dL_again_226 (Nat.le_of_ble_eq_true rfl) (Nat.le_of_ble_eq_true rfl)
        · replace h := iff' h hc68
          refine lv_iload hx hb dL_again_83 (lv_at hl 3 rfl) ?_
          refine lv_bipush (v := -9) hx hb dL_again_85 (by decide) ?_
          refine lv_icmp_eq (tgt := 92) hx hb dL_again_87 (by decide) (fun hc72 => ?_) (fun hc72 => ?_)
          · replace h := ift h hc72
            refine lv_iconst (v := 1) hx hb dL_again_92 (by decide) ?_
            refine lv_istore (lv' := [(10, .int (1 : Int32)), (9, .int x8.1), (8, .int x7), (7, .int x5), (6, .int x4.1), (5, .int x3), (4, .int (x1 - x1 / p2 * p2)), (0, .ref p0), (1, .ref p1), (2, .int p2), (3, .int p3)]) hx hb dL_again_93 hl (by decide) rfl (fun ls hl => ?_)
            obtain ⟨x73, hx73, hhx73⟩ := bnd h
            clear h
            refine w_L_again_95 l X hRL hcs BIG p0 p3 (x1 - x1 / p2 * p2) x3 x4.1 x8.1 (1 : Int32) x8.2 x73 hx73 (fun H locs ls hj hH hl => ?_) (fun H locs ls hj hH hl => ?_) _ _ _ hH (lv_sub hl [7, 10, 6, 5, 4, 1, 0] rfl)
            · have h := hhx73
              clear hhx73
              replace h := ift h hj
              refine lv_iconst (v := 0) hx hb dL_again_203 (by decide) ?_
              exact eZ X hH (by decide) h hr dL_again_204 (Nat.le_of_ble_eq_true rfl) (Nat.le_of_ble_eq_true rfl)
            · have h := hhx73
              clear hhx73
              replace h := iff' h (by rw [hj]; decide)
              refine lv_aload_n hx hb dL_again_211 rfl (lv_at hl 0 rfl) ?_
              refine lv_iload_n hx hb dL_again_212 rfl (lv_at hl 1 rfl) ?_
              obtain ⟨x74, hx74, h⟩ := bnd h
              refine iv_L_145 l X hH hRL (by decide) hx74 hl.1 (Nat.le_of_ble_eq_true rfl) dL_again_213 hcs (fun H locs hH => ?_)
              refine lv_bipush (v := 30) hx hb dL_again_216 (by decide) ?_
              refine lv_icmp_ne (tgt := 225) hx hb dL_again_218 (by decide) (fun hc75 => ?_) (fun hc75 => ?_)
              · replace h := iff' h hc75
                refine lv_iconst (v := 0) hx hb dL_again_225 (by decide) ?_
                exact eZ X hH (by decide) h hr dL_again_226 (Nat.le_of_ble_eq_true rfl) (Nat.le_of_ble_eq_true rfl)
              · replace h := ift h hc75
                refine lv_iconst (v := 1) hx hb dL_again_221 (by decide) ?_
                refine lv_goto (tgt := 226) hx hb dL_again_222 (by decide) ?_
                exact eZ X hH (by decide) h hr dL_again_226 (Nat.le_of_ble_eq_true rfl) (Nat.le_of_ble_eq_true rfl)
          · replace h := iff' h hc72
            refine lv_iconst (v := 0) hx hb dL_again_90 (by decide) ?_
            exact eZ X hH (by decide) h hr dL_again_91 (Nat.le_of_ble_eq_true rfl) (Nat.le_of_ble_eq_true rfl)
      · replace h := iff' h hc67
        refine lv_iload hx hb dL_again_71 (lv_at hl 4 rfl) ?_
        refine lv_bipush (v := -9) hx hb dL_again_73 (by decide) ?_
        refine lv_icmp_ne (tgt := 90) hx hb dL_again_75 (by decide) (fun hc76 => ?_) (fun hc76 => ?_)
        · replace h := iff' h hc76
          refine lv_iconst (v := 0) hx hb dL_again_90 (by decide) ?_
          exact eZ X hH (by decide) h hr dL_again_91 (Nat.le_of_ble_eq_true rfl) (Nat.le_of_ble_eq_true rfl)
        · replace h := ift h hc76
          refine lv_iload hx hb dL_again_78 (lv_at hl 3 rfl) ?_
          refine lv_if_ge (tgt := 92) hx hb dL_again_80 (by decide) (fun hc77 => ?_) (fun hc77 => ?_)
          · replace h := ift h hc77
            refine lv_iconst (v := 1) hx hb dL_again_92 (by decide) ?_
            refine lv_istore (lv' := [(10, .int (1 : Int32)), (9, .int x8.1), (8, .int x7), (7, .int x5), (6, .int x4.1), (5, .int x3), (4, .int (x1 - x1 / p2 * p2)), (0, .ref p0), (1, .ref p1), (2, .int p2), (3, .int p3)]) hx hb dL_again_93 hl (by decide) rfl (fun ls hl => ?_)
            obtain ⟨x78, hx78, hhx78⟩ := bnd h
            clear h
            refine w_L_again_95 l X hRL hcs BIG p0 p3 (x1 - x1 / p2 * p2) x3 x4.1 x8.1 (1 : Int32) x8.2 x78 hx78 (fun H locs ls hj hH hl => ?_) (fun H locs ls hj hH hl => ?_) _ _ _ hH (lv_sub hl [7, 10, 6, 5, 4, 1, 0] rfl)
            · have h := hhx78
              clear hhx78
              replace h := ift h hj
              refine lv_iconst (v := 0) hx hb dL_again_203 (by decide) ?_
              exact eZ X hH (by decide) h hr dL_again_204 (Nat.le_of_ble_eq_true rfl) (Nat.le_of_ble_eq_true rfl)
            · have h := hhx78
              clear hhx78
              replace h := iff' h (by rw [hj]; decide)
              refine lv_aload_n hx hb dL_again_211 rfl (lv_at hl 0 rfl) ?_
              refine lv_iload_n hx hb dL_again_212 rfl (lv_at hl 1 rfl) ?_
              obtain ⟨x79, hx79, h⟩ := bnd h
              refine iv_L_145 l X hH hRL (by decide) hx79 hl.1 (Nat.le_of_ble_eq_true rfl) dL_again_213 hcs (fun H locs hH => ?_)
              refine lv_bipush (v := 30) hx hb dL_again_216 (by decide) ?_
              refine lv_icmp_ne (tgt := 225) hx hb dL_again_218 (by decide) (fun hc80 => ?_) (fun hc80 => ?_)
              · replace h := iff' h hc80
                refine lv_iconst (v := 0) hx hb dL_again_225 (by decide) ?_
                exact eZ X hH (by decide) h hr dL_again_226 (Nat.le_of_ble_eq_true rfl) (Nat.le_of_ble_eq_true rfl)
              · replace h := ift h hc80
                refine lv_iconst (v := 1) hx hb dL_again_221 (by decide) ?_
                refine lv_goto (tgt := 226) hx hb dL_again_222 (by decide) ?_
                exact eZ X hH (by decide) h hr dL_again_226 (Nat.le_of_ble_eq_true rfl) (Nat.le_of_ble_eq_true rfl)
          · replace h := iff' h hc77
            refine lv_iload hx hb dL_again_83 (lv_at hl 3 rfl) ?_
            refine lv_bipush (v := -9) hx hb dL_again_85 (by decide) ?_
            refine lv_icmp_eq (tgt := 92) hx hb dL_again_87 (by decide) (fun hc81 => ?_) (fun hc81 => ?_)
            · replace h := ift h hc81
              refine lv_iconst (v := 1) hx hb dL_again_92 (by decide) ?_
              refine lv_istore (lv' := [(10, .int (1 : Int32)), (9, .int x8.1), (8, .int x7), (7, .int x5), (6, .int x4.1), (5, .int x3), (4, .int (x1 - x1 / p2 * p2)), (0, .ref p0), (1, .ref p1), (2, .int p2), (3, .int p3)]) hx hb dL_again_93 hl (by decide) rfl (fun ls hl => ?_)
              obtain ⟨x82, hx82, hhx82⟩ := bnd h
              clear h
              refine w_L_again_95 l X hRL hcs BIG p0 p3 (x1 - x1 / p2 * p2) x3 x4.1 x8.1 (1 : Int32) x8.2 x82 hx82 (fun H locs ls hj hH hl => ?_) (fun H locs ls hj hH hl => ?_) _ _ _ hH (lv_sub hl [7, 10, 6, 5, 4, 1, 0] rfl)
              · have h := hhx82
                clear hhx82
                replace h := ift h hj
                refine lv_iconst (v := 0) hx hb dL_again_203 (by decide) ?_
                exact eZ X hH (by decide) h hr dL_again_204 (Nat.le_of_ble_eq_true rfl) (Nat.le_of_ble_eq_true rfl)
              · have h := hhx82
                clear hhx82
                replace h := iff' h (by rw [hj]; decide)
                refine lv_aload_n hx hb dL_again_211 rfl (lv_at hl 0 rfl) ?_
                refine lv_iload_n hx hb dL_again_212 rfl (lv_at hl 1 rfl) ?_
                obtain ⟨x83, hx83, h⟩ := bnd h
                refine iv_L_145 l X hH hRL (by decide) hx83 hl.1 (Nat.le_of_ble_eq_true rfl) dL_again_213 hcs (fun H locs hH => ?_)
                refine lv_bipush (v := 30) hx hb dL_again_216 (by decide) ?_
                refine lv_icmp_ne (tgt := 225) hx hb dL_again_218 (by decide) (fun hc84 => ?_) (fun hc84 => ?_)
                · replace h := iff' h hc84
                  refine lv_iconst (v := 0) hx hb dL_again_225 (by decide) ?_
                  exact eZ X hH (by decide) h hr dL_again_226 (Nat.le_of_ble_eq_true rfl) (Nat.le_of_ble_eq_true rfl)
                · replace h := ift h hc84
                  refine lv_iconst (v := 1) hx hb dL_again_221 (by decide) ?_
                  refine lv_goto (tgt := 226) hx hb dL_again_222 (by decide) ?_
                  exact eZ X hH (by decide) h hr dL_again_226 (Nat.le_of_ble_eq_true rfl) (Nat.le_of_ble_eq_true rfl)
            · replace h := iff' h hc81
              refine lv_iconst (v := 0) hx hb dL_again_90 (by decide) ?_
              exact eZ X hH (by decide) h hr dL_again_91 (Nat.le_of_ble_eq_true rfl) (Nat.le_of_ble_eq_true rfl)
set_option maxHeartbeats 1000000 in
theorem iv_L_49 {p : Program} {e : Env} {R : Room} {s : State} {m : MethodId} {args : Array Value} {below : List Frame} {meth : Method} {c : Code} {H : Heap} {locs : List Loc} {cells slots : Nat} {Q : State → Prop} {cc : ByteArray} {pc : Nat} {ls : Array Slot} {rest : List Value} {nL : Nat} {G : CG} {μ : Mm} {a : Nat} {q0 : Int32} {x : Int32} {k k2 : Nat} (l : Launch) (X : Cx p s m args meth c cc nL RL G) (hH : HS G s μ H locs) (hRL : RmL R k k2) (hk : 3 + 1 ≤ k ∧ 63 ≤ k2) (h : f_X11_count μ a q0 = some x) (hls : ls.size = nL) (hroom : (rest.map fun v => v.category).sum ≤ 8) (hdg : decode cc pc = .ok (.invokevirtual 49, 3)) (hcs : cells + 0 ≤ R.cells ∧ slots + 0 ≤ R.slots) (kk : ∀ (H1 : Heap) (locs1 : List Loc), HS G s μ H1 locs1 → W p l e R s m args below meth c H1 locs1 cells slots Q (F0 m (pc + 3) ls (.int x :: rest))) : W p l e R s m args below meth c H locs cells slots Q (F0 m pc ls (.int q0 :: .ref a :: rest)) := by
  refine kI hH (rV (As := [.int q0]) (rest := rest) X hH (t_X11_count h) vc_11 (c_X11_count l G μ a q0 x h) (List.forall_mem_cons.mpr ⟨u_406, (List.forall_mem_cons.mpr ⟨u_407, (List.forall_mem_cons.mpr ⟨u_408, (List.forall_mem_cons.mpr ⟨u_21, (fun _ h9 => absurd h9 List.not_mem_nil)⟩)⟩)⟩)⟩) u_409 (rmo hRL (Nat.le_trans (by decide) hk.1) (Nat.le_trans (by decide) hk.2)) ddV_X11_count rfl hls rfl hroom hdg hcs) kk
set_option maxHeartbeats 1000000 in
theorem iv_L_181 {p : Program} {e : Env} {R : Room} {s : State} {m : MethodId} {args : Array Value} {below : List Frame} {meth : Method} {c : Code} {H : Heap} {locs : List Loc} {cells slots : Nat} {Q : State → Prop} {cc : ByteArray} {pc : Nat} {ls : Array Slot} {rest : List Value} {nL : Nat} {G : CG} {μ : Mm} {a : Nat} {q0 : Int32} {q1 : Int32} {x : Int32 × Mm} {k k2 : Nat} (l : Launch) (X : Cx p s m args meth c cc nL RL G) (hH : HS G s μ H locs) (hRL : RmL R k k2) (hk : 7 + 1 ≤ k ∧ 154 ≤ k2) (h : f_X11_odds μ a q0 q1 = some x) (hls : ls.size = nL) (hroom : (rest.map fun v => v.category).sum ≤ 8) (hdg : decode cc pc = .ok (.invokevirtual 181, 3)) (hcs : cells + 0 ≤ R.cells ∧ slots + 0 ≤ R.slots) (kk : ∀ (H1 : Heap) (locs1 : List Loc), HS G s x.2 H1 locs1 → W p l e R s m args below meth c H1 locs1 cells slots Q (F0 m (pc + 3) ls (.int x.1 :: rest))) : W p l e R s m args below meth c H locs cells slots Q (F0 m pc ls (.int q1 :: .int q0 :: .ref a :: rest)) := by
  refine kI hH (rV (As := [.int q0, .int q1]) (rest := rest) X hH (t_X11_odds h) vc_11 (c_X11_odds l G μ a q0 q1 x h) (List.forall_mem_cons.mpr ⟨u_842, (List.forall_mem_cons.mpr ⟨u_843, (List.forall_mem_cons.mpr ⟨u_844, (List.forall_mem_cons.mpr ⟨u_21, (fun _ h9 => absurd h9 List.not_mem_nil)⟩)⟩)⟩)⟩) u_845 (rmo hRL (Nat.le_trans (by decide) hk.1) (Nat.le_trans (by decide) hk.2)) ddV_X11_odds rfl hls rfl hroom hdg hcs) kk
set_option maxHeartbeats 1000000 in
theorem iv_L_75 {p : Program} {e : Env} {R : Room} {s : State} {m : MethodId} {args : Array Value} {below : List Frame} {meth : Method} {c : Code} {H : Heap} {locs : List Loc} {cells slots : Nat} {Q : State → Prop} {cc : ByteArray} {pc : Nat} {ls : Array Slot} {rest : List Value} {nL : Nat} {G : CG} {μ : Mm} {a : Nat}  {x : Int64} {k k2 : Nat} (l : Launch) (X : Cx p s m args meth c cc nL RL G) (hH : HS G s μ H locs) (hRL : RmL R k k2) (hk : 1 + 1 ≤ k ∧ 20 ≤ k2) (h : f_X11_lower μ a = some x) (hls : ls.size = nL) (hroom : (rest.map fun v => v.category).sum ≤ 8) (hdg : decode cc pc = .ok (.invokevirtual 75, 3)) (hcs : cells + 0 ≤ R.cells ∧ slots + 0 ≤ R.slots) (kk : ∀ (H1 : Heap) (locs1 : List Loc), HS G s μ H1 locs1 → W p l e R s m args below meth c H1 locs1 cells slots Q (F0 m (pc + 3) ls (.long x :: rest))) : W p l e R s m args below meth c H locs cells slots Q (F0 m pc ls (.ref a :: rest)) := by
  refine kL hH (rV (As := []) (rest := rest) X hH (t_X11_lower h) vc_11 (c_X11_lower l G μ a x h) (List.forall_mem_cons.mpr ⟨u_656, (List.forall_mem_cons.mpr ⟨u_657, (List.forall_mem_cons.mpr ⟨u_658, (List.forall_mem_cons.mpr ⟨u_21, (fun _ h9 => absurd h9 List.not_mem_nil)⟩)⟩)⟩)⟩) u_659 (rmo hRL (Nat.le_trans (by decide) hk.1) (Nat.le_trans (by decide) hk.2)) ddV_X11_lower rfl hls rfl hroom hdg hcs) kk
set_option maxHeartbeats 1000000 in
theorem iv_L_79 {p : Program} {e : Env} {R : Room} {s : State} {m : MethodId} {args : Array Value} {below : List Frame} {meth : Method} {c : Code} {H : Heap} {locs : List Loc} {cells slots : Nat} {Q : State → Prop} {cc : ByteArray} {pc : Nat} {ls : Array Slot} {rest : List Value} {nL : Nat} {G : CG} {μ : Mm} {a : Nat}  {x : Int64} {k k2 : Nat} (l : Launch) (X : Cx p s m args meth c cc nL RL G) (hH : HS G s μ H locs) (hRL : RmL R k k2) (hk : 1 + 1 ≤ k ∧ 20 ≤ k2) (h : f_X11_upper μ a = some x) (hls : ls.size = nL) (hroom : (rest.map fun v => v.category).sum ≤ 8) (hdg : decode cc pc = .ok (.invokevirtual 79, 3)) (hcs : cells + 0 ≤ R.cells ∧ slots + 0 ≤ R.slots) (kk : ∀ (H1 : Heap) (locs1 : List Loc), HS G s μ H1 locs1 → W p l e R s m args below meth c H1 locs1 cells slots Q (F0 m (pc + 3) ls (.long x :: rest))) : W p l e R s m args below meth c H locs cells slots Q (F0 m pc ls (.ref a :: rest)) := by
  refine kL hH (rV (As := []) (rest := rest) X hH (t_X11_upper h) vc_11 (c_X11_upper l G μ a x h) (List.forall_mem_cons.mpr ⟨u_660, (List.forall_mem_cons.mpr ⟨u_661, (List.forall_mem_cons.mpr ⟨u_662, (List.forall_mem_cons.mpr ⟨u_21, (fun _ h9 => absurd h9 List.not_mem_nil)⟩)⟩)⟩)⟩) u_663 (rmo hRL (Nat.le_trans (by decide) hk.1) (Nat.le_trans (by decide) hk.2)) ddV_X11_upper rfl hls rfl hroom hdg hcs) kk
set_option maxHeartbeats 1000000 in
theorem iv_L_157 {p : Program} {e : Env} {R : Room} {s : State} {m : MethodId} {args : Array Value} {below : List Frame} {meth : Method} {c : Code} {H : Heap} {locs : List Loc} {cells slots : Nat} {Q : State → Prop} {cc : ByteArray} {pc : Nat} {ls : Array Slot} {rest : List Value} {nL : Nat} {G : CG} {μ : Mm} {a : Nat} {q0 : Int32} {x : Int32 × Mm} {k k2 : Nat} (l : Launch) (X : Cx p s m args meth c cc nL RL G) (hH : HS G s μ H locs) (hRL : RmL R k k2) (hk : 6 + 1 ≤ k ∧ 139 ≤ k2) (h : f_X11_fewest μ a q0 = some x) (hls : ls.size = nL) (hroom : (rest.map fun v => v.category).sum ≤ 8) (hdg : decode cc pc = .ok (.invokevirtual 157, 3)) (hcs : cells + 0 ≤ R.cells ∧ slots + 0 ≤ R.slots) (kk : ∀ (H1 : Heap) (locs1 : List Loc), HS G s x.2 H1 locs1 → W p l e R s m args below meth c H1 locs1 cells slots Q (F0 m (pc + 3) ls (.int x.1 :: rest))) : W p l e R s m args below meth c H locs cells slots Q (F0 m pc ls (.int q0 :: .ref a :: rest)) := by
  refine kI hH (rV (As := [.int q0]) (rest := rest) X hH (t_X11_fewest h) vc_11 (c_X11_fewest l G μ a q0 x h) (List.forall_mem_cons.mpr ⟨u_745, (List.forall_mem_cons.mpr ⟨u_746, (List.forall_mem_cons.mpr ⟨u_747, (List.forall_mem_cons.mpr ⟨u_21, (fun _ h9 => absurd h9 List.not_mem_nil)⟩)⟩)⟩)⟩) u_748 (rmo hRL (Nat.le_trans (by decide) hk.1) (Nat.le_trans (by decide) hk.2)) ddV_X11_fewest rfl hls rfl hroom hdg hcs) kk
set_option maxHeartbeats 4000000 in
set_option maxRecDepth 100000 in
theorem w_L_chances_21 {p : Program} {e : Env} {R : Room} {s : State} {m : MethodId} {args : Array Value} {below : List Frame} {meth : Method} {c : Code} {cells slots : Nat} {Q : State → Prop} {G : CG} (l : Launch) (X : Cx p s m args meth c cL_chances 9 RL G) (hRL : RmL R 8 154) (hcs : cells ≤ R.cells ∧ slots ≤ R.slots) : ∀ (n : Nat) (v0 : Nat) (v2 : Int32) (v3 : Int32) (v4 : Int64) (v6 : Int32) (μ : Mm) (x : Int64), lp_L_chances_21 (gS G) n v0 v2 v3 v4 v6 μ = some x → (∀ (H : Heap) (locs : List Loc) (ls : Array Slot), HS G s μ H locs → lv_has ls 9 [(0, .ref v0), (2, .int v2), (3, .int v3), (4, .long x)] → W p l e R s m args below meth c H locs cells slots Q (F0 m 44 ls [])) → ∀ (H : Heap) (locs : List Loc) (ls : Array Slot), HS G s μ H locs → lv_has ls 9 [(0, .ref v0), (2, .int v2), (3, .int v3), (4, .long v4), (6, .int v6)] → W p l e R s m args below meth c H locs cells slots Q (F0 m 21 ls []) := by
  have hx := X.1
  have hb := X.2.1
  have hown := X.2.2.2.1
  have hts := X.2.2.2.2.1
  intro n
  induction n with
  | zero =>
    intro v0 v2 v3 v4 v6 μ x h
    rw [lp_L_chances_21] at h
    cases h
  | succ n ih =>
    intro v0 v2 v3 v4 v6 μ x h k0 H locs ls hH hl
    rw [lp_L_chances_21] at h
    refine lv_iload hx hb dL_chances_21 (lv_at hl 4 rfl) ?_
    refine lv_iload_n hx hb dL_chances_23 rfl (lv_at hl 1 rfl) ?_
    refine lv_icmp_ge (tgt := 44) hx hb dL_chances_24 (by decide) (fun hc3 => ?_) (fun hc3 => ?_)
    · replace h := ift h hc3
      cases h
      exact k0 _ _ _ hH (lv_sub hl [0, 1, 2, 3] rfl)
    · replace h := iff' h hc3
      refine lv_lload hx hb dL_chances_27 (lv_at hl 3 rfl) ?_
      refine lv_aload_n hx hb dL_chances_29 rfl (lv_at hl 0 rfl) ?_
      refine lv_iconst (v := 0) hx hb dL_chances_30 (by decide) ?_
      obtain ⟨x4, hx4, h⟩ := bnd h
      refine iv_L_49 l X hH hRL (by decide) hx4 hl.1 (Nat.le_of_ble_eq_true rfl) dL_chances_31 hcs (fun H locs hH => ?_)
      refine lv_i2l hx hb dL_chances_34 rfl ?_
      refine lv_lmul hx hb dL_chances_35 ?_
      refine lv_lstore (lv' := [(4, .long (v4 * x4.toInt64)), (0, .ref v0), (2, .int v2), (3, .int v3), (6, .int v6)]) hx hb dL_chances_36 hl (by decide) rfl (fun ls hl => ?_)
      refine lv_iinc (v := (v6 + 1)) (lv' := [(6, .int (v6 + 1)), (4, .long (v4 * x4.toInt64)), (0, .ref v0), (2, .int v2), (3, .int v3)]) hx hb dL_chances_38 hl (k := 4) rfl rfl (by decide) rfl (fun ls hl => ?_)
      refine lv_goto (tgt := 21) hx hb dL_chances_41 (by decide) ?_
      exact ih _ _ _ _ _ _ _ h k0 _ _ _ hH (lv_sub hl [2, 3, 4, 1, 0] rfl)
set_option maxHeartbeats 4000000 in
set_option maxRecDepth 100000 in
theorem w_L_chances_50 {p : Program} {e : Env} {R : Room} {s : State} {m : MethodId} {args : Array Value} {below : List Frame} {meth : Method} {c : Code} {cells slots : Nat} {Q : State → Prop} {G : CG} (l : Launch) (X : Cx p s m args meth c cL_chances 9 RL G) (hRL : RmL R 8 154) (hcs : cells ≤ R.cells ∧ slots ≤ R.slots) : ∀ (n : Nat) (v0 : Nat) (v2 : Int32) (v3 : Int32) (v4 : Int64) (v6 : Int64) (v8 : Int32) (μ : Mm) (x : Nat × Int64 × Mm), lp_L_chances_50 (gS G) n v0 v2 v3 v4 v6 v8 μ = some x → (∀ (H : Heap) (locs : List Loc) (ls : Array Slot), x.1 = 0 → HS G s x.2.2 H locs → lv_has ls 9 [] → W p l e R s m args below meth c H locs cells slots Q (F0 m 116 ls [])) → (∀ (H : Heap) (locs : List Loc) (ls : Array Slot), x.1 = 1 → HS G s x.2.2 H locs → lv_has ls 9 [(4, .long v4), (6, .long x.2.1)] → W p l e R s m args below meth c H locs cells slots Q (F0 m 141 ls [])) → ∀ (H : Heap) (locs : List Loc) (ls : Array Slot), HS G s μ H locs → lv_has ls 9 [(0, .ref v0), (2, .int v2), (3, .int v3), (4, .long v4), (6, .long v6), (8, .int v8)] → W p l e R s m args below meth c H locs cells slots Q (F0 m 50 ls []) := by
  have hx := X.1
  have hb := X.2.1
  have hown := X.2.2.2.1
  have hts := X.2.2.2.2.1
  intro n
  induction n with
  | zero =>
    intro v0 v2 v3 v4 v6 v8 μ x h
    rw [lp_L_chances_50] at h
    cases h
  | succ n ih =>
    intro v0 v2 v3 v4 v6 v8 μ x h k0 k1 H locs ls hH hl
    rw [lp_L_chances_50] at h
    refine lv_iload hx hb dL_chances_50 (lv_at hl 5 rfl) ?_
    refine lv_iload_n hx hb dL_chances_52 rfl (lv_at hl 2 rfl) ?_
    refine lv_icmp_ge (tgt := 141) hx hb dL_chances_53 (by decide) (fun hc6 => ?_) (fun hc6 => ?_)
    · replace h := ift h hc6
      cases h
      exact k1 _ _ _ rfl hH (lv_sub hl [3, 4] rfl)
    · replace h := iff' h hc6
      refine lv_aload_n hx hb dL_chances_56 rfl (lv_at hl 0 rfl) ?_
      refine lv_iload hx hb dL_chances_57 (lv_at hl 5 rfl) ?_
      refine lv_iload_n hx hb dL_chances_59 rfl (lv_at hl 1 rfl) ?_
      obtain ⟨x7, hx7, h⟩ := bnd h
      refine iv_L_181 l X hH hRL (by decide) hx7 hl.1 (Nat.le_of_ble_eq_true rfl) dL_chances_60 hcs (fun H locs hH => ?_)
      refine lv_iconst (v := 1) hx hb dL_chances_63 (by decide) ?_
      refine lv_icmp_ne (tgt := 116) hx hb dL_chances_64 (by decide) (fun hc8 => ?_) (fun hc8 => ?_)
      · replace h := iff' h hc8
        cases h
        exact k0 _ _ _ rfl hH (lv_sub hl [] rfl)
      · replace h := ift h hc8
        refine lv_aload_n hx hb dL_chances_67 rfl (lv_at hl 0 rfl) ?_
        obtain ⟨x9, hx9, h⟩ := bnd h
        refine iv_L_75 l X hH hRL (by decide) hx9 hl.1 (Nat.le_of_ble_eq_true rfl) dL_chances_68 hcs (fun H locs hH => ?_)
        refine lv_lconst (v := 1) hx hb dL_chances_71 (by decide) ?_
        refine W.lcmp hx hb dL_chances_72 ?_
        refine lv_if_lt (tgt := 116) hx hb dL_chances_73 (by decide) (fun hc10 => ?_) (fun hc10 => ?_)
        · replace h := ift h hc10
          cases h
          exact k0 _ _ _ rfl hH (lv_sub hl [] rfl)
        · replace h := iff' h hc10
          refine lv_lload hx hb dL_chances_76 (lv_at hl 3 rfl) ?_
          refine lv_aload_n hx hb dL_chances_78 rfl (lv_at hl 0 rfl) ?_
          obtain ⟨x11, hx11, h⟩ := bnd h
          refine iv_L_75 l X hH hRL (by decide) hx11 hl.1 (Nat.le_of_ble_eq_true rfl) dL_chances_79 hcs (fun H locs hH => ?_)
          obtain ⟨hd12, h⟩ := gsf h
          refine lv_lrem hx hb dL_chances_82 hd12 ?_
          refine lv_lconst (v := 0) hx hb dL_chances_83 (by decide) ?_
          refine W.lcmp hx hb dL_chances_84 ?_
          refine lv_if_ne (tgt := 116) hx hb dL_chances_85 (by decide) (fun hc13 => ?_) (fun hc13 => ?_)
          · replace h := iff' h hc13
            cases h
            exact k0 _ _ _ rfl hH (lv_sub hl [] rfl)
          · replace h := ift h hc13
            refine lv_aload_n hx hb dL_chances_88 rfl (lv_at hl 0 rfl) ?_
            obtain ⟨x14, hx14, h⟩ := bnd h
            refine iv_L_79 l X hH hRL (by decide) hx14 hl.1 (Nat.le_of_ble_eq_true rfl) dL_chances_89 hcs (fun H locs hH => ?_)
            refine lv_lconst (v := 0) hx hb dL_chances_92 (by decide) ?_
            refine W.lcmp hx hb dL_chances_93 ?_
            refine lv_if_lt (tgt := 116) hx hb dL_chances_94 (by decide) (fun hc15 => ?_) (fun hc15 => ?_)
            · replace h := ift h hc15
              cases h
              exact k0 _ _ _ rfl hH (lv_sub hl [] rfl)
            · replace h := iff' h hc15
              refine lv_aload_n hx hb dL_chances_97 rfl (lv_at hl 0 rfl) ?_
              obtain ⟨x16, hx16, h⟩ := bnd h
              refine iv_L_79 l X hH hRL (by decide) hx16 hl.1 (Nat.le_of_ble_eq_true rfl) dL_chances_98 hcs (fun H locs hH => ?_)
              refine lv_lconst (v := 0) hx hb dL_chances_101 (by decide) ?_
              refine W.lcmp hx hb dL_chances_102 ?_
              refine lv_if_le (tgt := 118) hx hb dL_chances_103 (by decide) (fun hc17 => ?_) (fun hc17 => ?_)
              · replace h := ift h hc17
                refine lv_lload hx hb dL_chances_118 (lv_at hl 4 rfl) ?_
                refine lv_aload_n hx hb dL_chances_120 rfl (lv_at hl 0 rfl) ?_
                obtain ⟨x18, hx18, h⟩ := bnd h
                refine iv_L_79 l X hH hRL (by decide) hx18 hl.1 (Nat.le_of_ble_eq_true rfl) dL_chances_121 hcs (fun H locs hH => ?_)
                refine lv_lload hx hb dL_chances_124 (lv_at hl 3 rfl) ?_
                refine lv_aload_n hx hb dL_chances_126 rfl (lv_at hl 0 rfl) ?_
                obtain ⟨x19, hx19, h⟩ := bnd h
                refine iv_L_75 l X hH hRL (by decide) hx19 hl.1 (Nat.le_of_ble_eq_true rfl) dL_chances_127 hcs (fun H locs hH => ?_)
                obtain ⟨hd20, h⟩ := gsf h
                refine lv_ldiv hx hb dL_chances_130 hd20 ?_
                refine lv_lmul hx hb dL_chances_131 ?_
                refine lv_ladd hx hb dL_chances_132 ?_
                refine lv_lstore (lv' := [(6, .long (v6 + (x18 * (v4 / x19)))), (0, .ref v0), (2, .int v2), (3, .int v3), (4, .long v4), (8, .int v8)]) hx hb dL_chances_133 hl (by decide) rfl (fun ls hl => ?_)
                refine lv_iinc (v := (v8 + 1)) (lv' := [(8, .int (v8 + 1)), (6, .long (v6 + (x18 * (v4 / x19)))), (0, .ref v0), (2, .int v2), (3, .int v3), (4, .long v4)]) hx hb dL_chances_135 hl (k := 5) rfl rfl (by decide) rfl (fun ls hl => ?_)
                refine lv_goto (tgt := 50) hx hb dL_chances_138 (by decide) ?_
                exact ih _ _ _ _ _ _ _ _ h k0 k1 _ _ _ hH (lv_sub hl [2, 3, 4, 5, 1, 0] rfl)
              · replace h := iff' h hc17
                refine lv_aload_n hx hb dL_chances_106 rfl (lv_at hl 0 rfl) ?_
                refine lv_iload hx hb dL_chances_107 (lv_at hl 5 rfl) ?_
                obtain ⟨x21, hx21, h⟩ := bnd h
                refine iv_L_157 l X hH hRL (by decide) hx21 hl.1 (Nat.le_of_ble_eq_true rfl) dL_chances_109 hcs (fun H locs hH => ?_)
                refine lv_iload_n hx hb dL_chances_112 rfl (lv_at hl 1 rfl) ?_
                refine lv_icmp_le (tgt := 118) hx hb dL_chances_113 (by decide) (fun hc22 => ?_) (fun hc22 => ?_)
                · replace h := ift h hc22
                  refine lv_lload hx hb dL_chances_118 (lv_at hl 4 rfl) ?_
                  refine lv_aload_n hx hb dL_chances_120 rfl (lv_at hl 0 rfl) ?_
                  obtain ⟨x23, hx23, h⟩ := bnd h
                  refine iv_L_79 l X hH hRL (by decide) hx23 hl.1 (Nat.le_of_ble_eq_true rfl) dL_chances_121 hcs (fun H locs hH => ?_)
                  refine lv_lload hx hb dL_chances_124 (lv_at hl 3 rfl) ?_
                  refine lv_aload_n hx hb dL_chances_126 rfl (lv_at hl 0 rfl) ?_
                  obtain ⟨x24, hx24, h⟩ := bnd h
                  refine iv_L_75 l X hH hRL (by decide) hx24 hl.1 (Nat.le_of_ble_eq_true rfl) dL_chances_127 hcs (fun H locs hH => ?_)
                  obtain ⟨hd25, h⟩ := gsf h
                  refine lv_ldiv hx hb dL_chances_130 hd25 ?_
                  refine lv_lmul hx hb dL_chances_131 ?_
                  refine lv_ladd hx hb dL_chances_132 ?_
                  refine lv_lstore (lv' := [(6, .long (v6 + (x23 * (v4 / x24)))), (0, .ref v0), (2, .int v2), (3, .int v3), (4, .long v4), (8, .int v8)]) hx hb dL_chances_133 hl (by decide) rfl (fun ls hl => ?_)
                  refine lv_iinc (v := (v8 + 1)) (lv' := [(8, .int (v8 + 1)), (6, .long (v6 + (x23 * (v4 / x24)))), (0, .ref v0), (2, .int v2), (3, .int v3), (4, .long v4)]) hx hb dL_chances_135 hl (k := 5) rfl rfl (by decide) rfl (fun ls hl => ?_)
                  refine lv_goto (tgt := 50) hx hb dL_chances_138 (by decide) ?_
                  exact ih _ _ _ _ _ _ _ _ h k0 k1 _ _ _ hH (lv_sub hl [2, 3, 4, 5, 1, 0] rfl)
                · replace h := iff' h hc22
                  cases h
                  exact k0 _ _ _ rfl hH (lv_sub hl [] rfl)
set_option maxHeartbeats 4000000 in
set_option maxRecDepth 100000 in
theorem c_L_chances (l : Launch) (G : CG) (μ : Mm) (p0 : Nat) (p1 : Nat) (x : Int32 × Mm) (h : f_L_chances (gS G) μ p0 p1 = some x) : Met l yL_chances (.code yL_chances cL_chances 9 (some .boolean) :: UW) (rmk 8 154 0 0) (PC G [.ref p0, .ref p1] μ) (QI G x.1 x.2) 0 0 (fA G) := by
  refine Met.ofW (cc := cL_chances) (maxL := 9) (ret := (some .boolean)) (by decide) rfl ?_
  intro p e s m args below meth c s₁ B hml hv
  obtain ⟨X, hH, hr, rfl, hnm⟩ := cx_in B hml hv
  have X : Cx p s m _ meth c cL_chances 9 RL G := X
  have hx := X.1
  have hb := X.2.1
  have hown := X.2.2.2.1
  have hts := X.2.2.2.2.1
  have hRL : RmL (rmk 8 154 0 0) 8 154 := ⟨Nat.le_refl _, Nat.le_refl _⟩
  have hcs : 0 ≤ (rmk 0 0 0 0).cells ∧ 0 ≤ (rmk 0 0 0 0).slots := ⟨Nat.zero_le _, Nat.zero_le _⟩
  refine ls_in (Nat.le_of_ble_eq_true rfl) (fun ls hl => ?_)
  have hl : lv_has ls 9 [(0, .ref p0), (1, .ref p1)] := hl
  unfold f_L_chances at h
  refine lv_aload_n hx hb dL_chances_0 rfl (lv_at hl 1 rfl) ?_
  refine lv_bipush (v := 45) hx hb dL_chances_1 (by decide) ?_
  obtain ⟨x1, hx1, h⟩ := bnd h
  refine iv_L_14 l X hH hRL (by decide) hx1 hl.1 (Nat.le_of_ble_eq_true rfl) dL_chances_3 hcs (fun H locs hH => ?_)
  refine lv_iconst (v := 5) hx hb dL_chances_6 (by decide) ?_
  refine lv_irem hx hb dL_chances_7 (by decide) ?_
  refine lv_istore_n (lv' := [(2, .int (x1 - x1 / (5 : Int32) * (5 : Int32))), (0, .ref p0), (1, .ref p1)]) hx hb dL_chances_8 rfl hl (by decide) rfl (fun ls hl => ?_)
  refine lv_aload_n hx hb dL_chances_9 rfl (lv_at hl 1 rfl) ?_
  refine lv_iconst (v := 1) hx hb dL_chances_10 (by decide) ?_
  obtain ⟨x2, hx2, h⟩ := bnd h
  refine iv_L_49 l X hH hRL (by decide) hx2 hl.1 (Nat.le_of_ble_eq_true rfl) dL_chances_11 hcs (fun H locs hH => ?_)
  refine lv_istore_n (lv' := [(3, .int x2), (2, .int (x1 - x1 / (5 : Int32) * (5 : Int32))), (0, .ref p0), (1, .ref p1)]) hx hb dL_chances_14 rfl hl (by decide) rfl (fun ls hl => ?_)
  refine lv_lconst (v := 1) hx hb dL_chances_15 (by decide) ?_
  refine lv_lstore (lv' := [(4, .long (1 : Int64)), (3, .int x2), (2, .int (x1 - x1 / (5 : Int32) * (5 : Int32))), (0, .ref p0), (1, .ref p1)]) hx hb dL_chances_16 hl (by decide) rfl (fun ls hl => ?_)
  refine lv_iconst (v := 0) hx hb dL_chances_18 (by decide) ?_
  refine lv_istore (lv' := [(6, .int (0 : Int32)), (4, .long (1 : Int64)), (3, .int x2), (2, .int (x1 - x1 / (5 : Int32) * (5 : Int32))), (0, .ref p0), (1, .ref p1)]) hx hb dL_chances_19 hl (by decide) rfl (fun ls hl => ?_)
  obtain ⟨x5, hx5, hhx5⟩ := bnd h
  clear h
  refine w_L_chances_21 l X hRL hcs BIG p0 (x1 - x1 / (5 : Int32) * (5 : Int32)) x2 (1 : Int64) (0 : Int32) μ x5 hx5 (fun H locs ls hH hl => ?_) _ _ _ hH (lv_sub hl [4, 3, 2, 1, 0] rfl)
  · have h := hhx5
    clear hhx5
    refine lv_lconst (v := 0) hx hb dL_chances_44 (by decide) ?_
    refine lv_lstore (lv' := [(6, .long (0 : Int64)), (0, .ref p0), (2, .int (x1 - x1 / (5 : Int32) * (5 : Int32))), (3, .int x2), (4, .long x5)]) hx hb dL_chances_45 hl (by decide) rfl (fun ls hl => ?_)
    refine lv_iconst (v := 0) hx hb dL_chances_47 (by decide) ?_
    refine lv_istore (lv' := [(8, .int (0 : Int32)), (6, .long (0 : Int64)), (0, .ref p0), (2, .int (x1 - x1 / (5 : Int32) * (5 : Int32))), (3, .int x2), (4, .long x5)]) hx hb dL_chances_48 hl (by decide) rfl (fun ls hl => ?_)
    obtain ⟨x26, hx26, hhx26⟩ := bnd h
    clear h
    refine w_L_chances_50 l X hRL hcs BIG p0 (x1 - x1 / (5 : Int32) * (5 : Int32)) x2 x5 (0 : Int64) (0 : Int32) μ x26 hx26 (fun H locs ls hj hH hl => ?_) (fun H locs ls hj hH hl => ?_) _ _ _ hH (lv_sub hl [2, 3, 4, 5, 1, 0] rfl)
    · have h := hhx26
      clear hhx26
      replace h := ift h hj
      refine lv_iconst (v := 0) hx hb dL_chances_116 (by decide) ?_
      exact eZ X hH (by decide) h hr dL_chances_117 (Nat.le_of_ble_eq_true rfl) (Nat.le_of_ble_eq_true rfl)
    · have h := hhx26
      clear hhx26
      replace h := iff' h (by rw [hj]; decide)
      refine lv_lload hx hb dL_chances_141 (lv_at hl 1 rfl) ?_
      refine lv_lload hx hb dL_chances_143 (lv_at hl 0 rfl) ?_
      refine W.lcmp hx hb dL_chances_145 ?_
      refine lv_if_ne (tgt := 153) hx hb dL_chances_146 (by decide) (fun hc27 => ?_) (fun hc27 => ?_)
      · replace h := iff' h hc27
        refine lv_iconst (v := 0) hx hb dL_chances_153 (by decide) ?_
        exact eZ X hH (by decide) h hr dL_chances_154 (Nat.le_of_ble_eq_true rfl) (Nat.le_of_ble_eq_true rfl)
      · replace h := ift h hc27
        refine lv_iconst (v := 1) hx hb dL_chances_149 (by decide) ?_
        refine lv_goto (tgt := 154) hx hb dL_chances_150 (by decide) ?_
        exact eZ X hH (by decide) h hr dL_chances_154 (Nat.le_of_ble_eq_true rfl) (Nat.le_of_ble_eq_true rfl)
