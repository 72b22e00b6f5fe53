set_option maxHeartbeats 4000000 in
set_option maxRecDepth 100000 in
theorem w_X12_init_212 {p : Program} {e : Env} {R : Room} {s : State} {m : MethodId} {args : Array Value} {below : List Frame} {meth : Method} {c : Code} {cells slots : Nat} {Q : State → Prop} {G : CG} (l : Launch) (X : Cx p s m args meth c cX12_init 2 RX12 G) (hRL : RmL R 1) (hcs : cells ≤ R.cells ∧ slots ≤ R.slots) : ∀ (n : Nat) (v0 : Nat) (v1 : Int32) (μ : Mm) (x : Mm), lp_X12_init_212 n v0 v1 μ = some x → (∀ (H : Heap) (locs : List Loc) (ls : Array Slot), HS G s x H locs → lv_has ls 2 [(0, .ref v0)] → W p l e R s m args below meth c H locs cells slots Q (F0 m 231 ls [])) → ∀ (H : Heap) (locs : List Loc) (ls : Array Slot), HS G s μ H locs → lv_has ls 2 [(0, .ref v0), (1, .int v1)] → W p l e R s m args below meth c H locs cells slots Q (F0 m 212 ls []) := by
  have hx := X.1
  have hb := X.2.1
  have hown := X.2.2.2.1
  have hts := X.2.2.2.2.1
  intro n
  induction n with
  | zero =>
    intro v0 v1 μ x h
    rw [lp_X12_init_212] at h
    cases h
  | succ n ih =>
    intro v0 v1 μ x h k0 H locs ls hH hl
    rw [lp_X12_init_212] at h
    refine lv_iload_n hx hb dX12_init_212 rfl (lv_at hl 1 rfl) ?_
    refine lv_bipush (v := 6) hx hb dX12_init_213 (by decide) ?_
    refine lv_icmp_ge (tgt := 231) hx hb dX12_init_215 (by decide) (fun hc52 => ?_) (fun hc52 => ?_)
    · replace h := ift h hc52
      cases h
      exact k0 _ _ _ hH (lv_sub hl [0] rfl)
    · replace h := iff' h hc52
      refine lv_aload_n hx hb dX12_init_218 rfl (lv_at hl 0 rfl) ?_
      obtain ⟨x53, hx53, h⟩ := bnd h
      refine gf_X12_17 X hH hx53 dX12_init_219 ?_
      refine lv_iload_n hx hb dX12_init_222 rfl (lv_at hl 1 rfl) ?_
      refine lv_iconst (v := -1) hx hb dX12_init_223 (by decide) ?_
      obtain ⟨x54, hx54, h⟩ := bnd h
      refine w_qI X hH hx54 dX12_init_224 (fun H locs hH => ?_)
      refine lv_iinc (v := (v1 + 1)) (lv' := [(1, .int (v1 + 1)), (0, .ref v0)]) hx hb dX12_init_225 hl (k := 1) rfl rfl (by decide) rfl (fun ls hl => ?_)
      refine lv_goto (tgt := 212) hx hb dX12_init_228 (by decide) ?_
      exact ih _ _ _ _ h k0 _ _ _ hH (lv_sub hl [1, 0] rfl)
set_option maxHeartbeats 4000000 in
set_option maxRecDepth 100000 in
theorem w_X12_init_233 {p : Program} {e : Env} {R : Room} {s : State} {m : MethodId} {args : Array Value} {below : List Frame} {meth : Method} {c : Code} {cells slots : Nat} {Q : State → Prop} {G : CG} (l : Launch) (X : Cx p s m args meth c cX12_init 2 RX12 G) (hRL : RmL R 1) (hcs : cells ≤ R.cells ∧ slots ≤ R.slots) : ∀ (n : Nat) (v0 : Nat) (v1 : Int32) (μ : Mm) (x : Mm), lp_X12_init_233 n v0 v1 μ = some x → (∀ (H : Heap) (locs : List Loc) (ls : Array Slot), HS G s x H locs → lv_has ls 2 [] → W p l e R s m args below meth c H locs cells slots Q (F0 m 251 ls [])) → ∀ (H : Heap) (locs : List Loc) (ls : Array Slot), HS G s μ H locs → lv_has ls 2 [(0, .ref v0), (1, .int v1)] → W p l e R s m args below meth c H locs cells slots Q (F0 m 233 ls []) := by
  have hx := X.1
  have hb := X.2.1
  have hown := X.2.2.2.1
  have hts := X.2.2.2.2.1
  intro n
  induction n with
  | zero =>
    intro v0 v1 μ x h
    rw [lp_X12_init_233] at h
    cases h
  | succ n ih =>
    intro v0 v1 μ x h k0 H locs ls hH hl
    rw [lp_X12_init_233] at h
    refine lv_iload_n hx hb dX12_init_233 rfl (lv_at hl 1 rfl) ?_
    refine lv_iconst (v := 4) hx hb dX12_init_234 (by decide) ?_
    refine lv_icmp_ge (tgt := 251) hx hb dX12_init_235 (by decide) (fun hc56 => ?_) (fun hc56 => ?_)
    · replace h := ift h hc56
      cases h
      exact k0 _ _ _ hH (lv_sub hl [] rfl)
    · replace h := iff' h hc56
      refine lv_aload_n hx hb dX12_init_238 rfl (lv_at hl 0 rfl) ?_
      obtain ⟨x57, hx57, h⟩ := bnd h
      refine gf_X12_26 X hH hx57 dX12_init_239 ?_
      refine lv_iload_n hx hb dX12_init_242 rfl (lv_at hl 1 rfl) ?_
      refine lv_iconst (v := -1) hx hb dX12_init_243 (by decide) ?_
      obtain ⟨x58, hx58, h⟩ := bnd h
      refine w_qI X hH hx58 dX12_init_244 (fun H locs hH => ?_)
      refine lv_iinc (v := (v1 + 1)) (lv' := [(1, .int (v1 + 1)), (0, .ref v0)]) hx hb dX12_init_245 hl (k := 1) rfl rfl (by decide) rfl (fun ls hl => ?_)
      refine lv_goto (tgt := 233) hx hb dX12_init_248 (by decide) ?_
      exact ih _ _ _ _ h k0 _ _ _ hH (lv_sub hl [1, 0] rfl)
theorem t_X12_init {μ : Mm} {a0 : Nat} {x : Mm} (h : f_X12_init μ a0 = some x) : tg μ a0 = 13 := by
  unfold f_X12_init at h
  exact (gsn h).1
set_option maxHeartbeats 4000000 in
set_option maxRecDepth 100000 in
theorem c_X12_init (l : Launch) (G : CG) (μ : Mm) (a0 : Nat) (x : Mm) (h : f_X12_init μ a0 = some x) : Met l yX12_init (.code yX12_init cX12_init 2 none :: UW) (rmk 1 25 3537) (PC G [.ref a0] μ) (QV G x) 25 3537 (fA G) := by
  refine Met.ofW (cc := cX12_init) (maxL := 2) (ret := none) (by decide) rfl ?_
  intro p e s m args below meth c s₁ B hml hv
  obtain ⟨X, hH, hr, rfl, hnm⟩ := cx_in B hml hv
  have X : Cx p s m _ meth c cX12_init 2 RX12 G := X
  have hx := X.1
  have hb := X.2.1
  have hown := X.2.2.2.1
  have hts := X.2.2.2.2.1
  have hnm : meth.name = "<init>" := hnm
  have hRL : RmL (rmk 1 25 3537) 1 := ⟨Nat.le_refl _, Nat.le_refl _⟩
  refine ls_in (Nat.le_of_ble_eq_true rfl) (fun ls hl => ?_)
  have hl : lv_has ls 2 [(0, .ref a0)] := hl
  unfold f_X12_init at h
  obtain ⟨htg, h⟩ := gsn h
  refine lv_aload_n hx hb dX12_init_0 rfl (lv_at hl 0 rfl) ?_
  refine w_oi X hRL (by decide) hl.1 u_954 u_81 u_82 (Nat.le_of_ble_eq_true rfl) dX12_init_1 ?_
  refine lv_aload_n hx hb dX12_init_4 rfl (lv_at hl 0 rfl) ?_
  refine lv_bipush (v := 6) hx hb dX12_init_5 (by decide) ?_
  obtain ⟨x1, hx1, h⟩ := bnd h
  refine w_na X hH (atype := .int) (k := 1) hx1 u_115 (by decide) rfl (fun n' h9 => Nat.le_trans (Nat.mul_le_mul_right _ h9) (by decide)) (ce_I _) (Nat.le_of_ble_eq_true rfl) (Nat.le_of_ble_eq_true rfl) dX12_init_7 (fun H hH => ?_)
  obtain ⟨x2, hx2, h⟩ := bnd h
  refine pf_X12_7 X hnm hH hx2 dX12_init_9 (fun H locs hH => ?_)
  refine lv_aload_n hx hb dX12_init_12 rfl (lv_at hl 0 rfl) ?_
  refine lv_lconst (v := 1) hx hb dX12_init_13 (by decide) ?_
  obtain ⟨x3, hx3, h⟩ := bnd h
  refine pf_X12_13 X hH hx3 dX12_init_14 (fun H locs hH => ?_)
  refine lv_aload_n hx hb dX12_init_17 rfl (lv_at hl 0 rfl) ?_
  refine lv_bipush (v := 6) hx hb dX12_init_18 (by decide) ?_
  obtain ⟨x4, hx4, h⟩ := bnd h
  refine w_na X hH (atype := .int) (k := 1) hx4 u_115 (by decide) rfl (fun n' h9 => Nat.le_trans (Nat.mul_le_mul_right _ h9) (by decide)) (ce_I _) (Nat.le_of_ble_eq_true rfl) (Nat.le_of_ble_eq_true rfl) dX12_init_20 (fun H hH => ?_)
  obtain ⟨x5, hx5, h⟩ := bnd h
  refine pf_X12_17 X hnm hH hx5 dX12_init_22 (fun H locs hH => ?_)
  refine lv_aload_n hx hb dX12_init_25 rfl (lv_at hl 0 rfl) ?_
  refine lv_sipush (v := 240) hx hb dX12_init_26 (by decide) ?_
  obtain ⟨x6, hx6, h⟩ := bnd h
  refine w_na X hH (atype := .int) (k := 1) hx6 u_115 (by decide) rfl (fun n' h9 => Nat.le_trans (Nat.mul_le_mul_right _ h9) (by decide)) (ce_I _) (Nat.le_of_ble_eq_true rfl) (Nat.le_of_ble_eq_true rfl) dX12_init_29 (fun H hH => ?_)
  obtain ⟨x7, hx7, h⟩ := bnd h
  refine pf_X12_20 X hnm hH hx7 dX12_init_31 (fun H locs hH => ?_)
  refine lv_aload_n hx hb dX12_init_34 rfl (lv_at hl 0 rfl) ?_
  refine lv_bipush (v := 40) hx hb dX12_init_35 (by decide) ?_
  obtain ⟨x8, hx8, h⟩ := bnd h
  refine w_na X hH (atype := .int) (k := 1) hx8 u_115 (by decide) rfl (fun n' h9 => Nat.le_trans (Nat.mul_le_mul_right _ h9) (by decide)) (ce_I _) (Nat.le_of_ble_eq_true rfl) (Nat.le_of_ble_eq_true rfl) dX12_init_37 (fun H hH => ?_)
  obtain ⟨x9, hx9, h⟩ := bnd h
  refine pf_X12_23 X hnm hH hx9 dX12_init_39 (fun H locs hH => ?_)
  refine lv_aload_n hx hb dX12_init_42 rfl (lv_at hl 0 rfl) ?_
  refine lv_iconst (v := 4) hx hb dX12_init_43 (by decide) ?_
  obtain ⟨x10, hx10, h⟩ := bnd h
  refine w_na X hH (atype := .int) (k := 1) hx10 u_115 (by decide) rfl (fun n' h9 => Nat.le_trans (Nat.mul_le_mul_right _ h9) (by decide)) (ce_I _) (Nat.le_of_ble_eq_true rfl) (Nat.le_of_ble_eq_true rfl) dX12_init_44 (fun H hH => ?_)
  obtain ⟨x11, hx11, h⟩ := bnd h
  refine pf_X12_26 X hnm hH hx11 dX12_init_46 (fun H locs hH => ?_)
  refine lv_aload_n hx hb dX12_init_49 rfl (lv_at hl 0 rfl) ?_
  refine lv_sipush (v := 240) hx hb dX12_init_50 (by decide) ?_
  obtain ⟨x12, hx12, h⟩ := bnd h
  refine w_na X hH (atype := .byte) (k := 0) hx12 u_1106 (by decide) rfl (fun n' h9 => Nat.le_trans (Nat.mul_le_mul_right _ h9) (by decide)) (ce_B _) (Nat.le_of_ble_eq_true rfl) (Nat.le_of_ble_eq_true rfl) dX12_init_53 (fun H hH => ?_)
  obtain ⟨x13, hx13, h⟩ := bnd h
  refine pf_X12_29 X hnm hH hx13 dX12_init_55 (fun H locs hH => ?_)
  refine lv_aload_n hx hb dX12_init_58 rfl (lv_at hl 0 rfl) ?_
  refine lv_bipush (v := 6) hx hb dX12_init_59 (by decide) ?_
  obtain ⟨x14, hx14, h⟩ := bnd h
  refine w_na X hH (atype := .int) (k := 1) hx14 u_115 (by decide) rfl (fun n' h9 => Nat.le_trans (Nat.mul_le_mul_right _ h9) (by decide)) (ce_I _) (Nat.le_of_ble_eq_true rfl) (Nat.le_of_ble_eq_true rfl) dX12_init_61 (fun H hH => ?_)
  obtain ⟨x15, hx15, h⟩ := bnd h
  refine pf_X12_33 X hnm hH hx15 dX12_init_63 (fun H locs hH => ?_)
  refine lv_aload_n hx hb dX12_init_66 rfl (lv_at hl 0 rfl) ?_
  refine lv_bipush (v := 6) hx hb dX12_init_67 (by decide) ?_
  obtain ⟨x16, hx16, h⟩ := bnd h
  refine w_na X hH (atype := .int) (k := 1) hx16 u_115 (by decide) rfl (fun n' h9 => Nat.le_trans (Nat.mul_le_mul_right _ h9) (by decide)) (ce_I _) (Nat.le_of_ble_eq_true rfl) (Nat.le_of_ble_eq_true rfl) dX12_init_69 (fun H hH => ?_)
  obtain ⟨x17, hx17, h⟩ := bnd h
  refine pf_X12_36 X hnm hH hx17 dX12_init_71 (fun H locs hH => ?_)
  refine lv_aload_n hx hb dX12_init_74 rfl (lv_at hl 0 rfl) ?_
  refine lv_bipush (v := 6) hx hb dX12_init_75 (by decide) ?_
  obtain ⟨x18, hx18, h⟩ := bnd h
  refine w_na X hH (atype := .int) (k := 1) hx18 u_115 (by decide) rfl (fun n' h9 => Nat.le_trans (Nat.mul_le_mul_right _ h9) (by decide)) (ce_I _) (Nat.le_of_ble_eq_true rfl) (Nat.le_of_ble_eq_true rfl) dX12_init_77 (fun H hH => ?_)
  obtain ⟨x19, hx19, h⟩ := bnd h
  refine pf_X12_39 X hnm hH hx19 dX12_init_79 (fun H locs hH => ?_)
  refine lv_aload_n hx hb dX12_init_82 rfl (lv_at hl 0 rfl) ?_
  refine lv_bipush (v := 6) hx hb dX12_init_83 (by decide) ?_
  obtain ⟨x20, hx20, h⟩ := bnd h
  refine w_na X hH (atype := .int) (k := 1) hx20 u_115 (by decide) rfl (fun n' h9 => Nat.le_trans (Nat.mul_le_mul_right _ h9) (by decide)) (ce_I _) (Nat.le_of_ble_eq_true rfl) (Nat.le_of_ble_eq_true rfl) dX12_init_85 (fun H hH => ?_)
  obtain ⟨x21, hx21, h⟩ := bnd h
  refine pf_X12_42 X hnm hH hx21 dX12_init_87 (fun H locs hH => ?_)
  refine lv_aload_n hx hb dX12_init_90 rfl (lv_at hl 0 rfl) ?_
  refine lv_bipush (v := 11) hx hb dX12_init_91 (by decide) ?_
  obtain ⟨x22, hx22, h⟩ := bnd h
  refine w_na X hH (atype := .int) (k := 1) hx22 u_115 (by decide) rfl (fun n' h9 => Nat.le_trans (Nat.mul_le_mul_right _ h9) (by decide)) (ce_I _) (Nat.le_of_ble_eq_true rfl) (Nat.le_of_ble_eq_true rfl) dX12_init_93 (fun H hH => ?_)
  obtain ⟨x23, hx23, h⟩ := bnd h
  refine pf_X12_45 X hnm hH hx23 dX12_init_95 (fun H locs hH => ?_)
  refine lv_aload_n hx hb dX12_init_98 rfl (lv_at hl 0 rfl) ?_
  refine lv_bipush (v := 11) hx hb dX12_init_99 (by decide) ?_
  obtain ⟨x24, hx24, h⟩ := bnd h
  refine w_na X hH (atype := .int) (k := 1) hx24 u_115 (by decide) rfl (fun n' h9 => Nat.le_trans (Nat.mul_le_mul_right _ h9) (by decide)) (ce_I _) (Nat.le_of_ble_eq_true rfl) (Nat.le_of_ble_eq_true rfl) dX12_init_101 (fun H hH => ?_)
  obtain ⟨x25, hx25, h⟩ := bnd h
  refine pf_X12_48 X hnm hH hx25 dX12_init_103 (fun H locs hH => ?_)
  refine lv_aload_n hx hb dX12_init_106 rfl (lv_at hl 0 rfl) ?_
  refine lv_sipush (v := 660) hx hb dX12_init_107 (by decide) ?_
  obtain ⟨x26, hx26, h⟩ := bnd h
  refine w_na X hH (atype := .int) (k := 1) hx26 u_115 (by decide) rfl (fun n' h9 => Nat.le_trans (Nat.mul_le_mul_right _ h9) (by decide)) (ce_I _) (Nat.le_of_ble_eq_true rfl) (Nat.le_of_ble_eq_true rfl) dX12_init_110 (fun H hH => ?_)
  obtain ⟨x27, hx27, h⟩ := bnd h
  refine pf_X12_51 X hnm hH hx27 dX12_init_112 (fun H locs hH => ?_)
  refine lv_aload_n hx hb dX12_init_115 rfl (lv_at hl 0 rfl) ?_
  refine lv_iconst (v := 3) hx hb dX12_init_116 (by decide) ?_
  obtain ⟨x28, hx28, h⟩ := bnd h
  refine w_na X hH (atype := .boolean) (k := 3) hx28 u_268 (by decide) rfl (fun n' h9 => Nat.le_trans (Nat.mul_le_mul_right _ h9) (by decide)) (ce_Z _) (Nat.le_of_ble_eq_true rfl) (Nat.le_of_ble_eq_true rfl) dX12_init_117 (fun H hH => ?_)
  obtain ⟨x29, hx29, h⟩ := bnd h
  refine pf_X12_54 X hnm hH hx29 dX12_init_119 (fun H locs hH => ?_)
  refine lv_aload_n hx hb dX12_init_122 rfl (lv_at hl 0 rfl) ?_
  refine lv_iconst (v := 3) hx hb dX12_init_123 (by decide) ?_
  obtain ⟨x30, hx30, h⟩ := bnd h
  refine w_na X hH (atype := .int) (k := 1) hx30 u_115 (by decide) rfl (fun n' h9 => Nat.le_trans (Nat.mul_le_mul_right _ h9) (by decide)) (ce_I _) (Nat.le_of_ble_eq_true rfl) (Nat.le_of_ble_eq_true rfl) dX12_init_124 (fun H hH => ?_)
  obtain ⟨x31, hx31, h⟩ := bnd h
  refine pf_X12_58 X hnm hH hx31 dX12_init_126 (fun H locs hH => ?_)
  refine lv_aload_n hx hb dX12_init_129 rfl (lv_at hl 0 rfl) ?_
  refine lv_bipush (v := 18) hx hb dX12_init_130 (by decide) ?_
  obtain ⟨x32, hx32, h⟩ := bnd h
  refine w_na X hH (atype := .int) (k := 1) hx32 u_115 (by decide) rfl (fun n' h9 => Nat.le_trans (Nat.mul_le_mul_right _ h9) (by decide)) (ce_I _) (Nat.le_of_ble_eq_true rfl) (Nat.le_of_ble_eq_true rfl) dX12_init_132 (fun H hH => ?_)
  obtain ⟨x33, hx33, h⟩ := bnd h
  refine pf_X12_61 X hnm hH hx33 dX12_init_134 (fun H locs hH => ?_)
  refine lv_aload_n hx hb dX12_init_137 rfl (lv_at hl 0 rfl) ?_
  refine lv_bipush (v := 33) hx hb dX12_init_138 (by decide) ?_
  obtain ⟨x34, hx34, h⟩ := bnd h
  refine w_na X hH (atype := .int) (k := 1) hx34 u_115 (by decide) rfl (fun n' h9 => Nat.le_trans (Nat.mul_le_mul_right _ h9) (by decide)) (ce_I _) (Nat.le_of_ble_eq_true rfl) (Nat.le_of_ble_eq_true rfl) dX12_init_140 (fun H hH => ?_)
  obtain ⟨x35, hx35, h⟩ := bnd h
  refine pf_X12_64 X hnm hH hx35 dX12_init_142 (fun H locs hH => ?_)
  refine lv_aload_n hx hb dX12_init_145 rfl (lv_at hl 0 rfl) ?_
  refine lv_sipush (v := 1980) hx hb dX12_init_146 (by decide) ?_
  obtain ⟨x36, hx36, h⟩ := bnd h
  refine w_na X hH (atype := .int) (k := 1) hx36 u_115 (by decide) rfl (fun n' h9 => Nat.le_trans (Nat.mul_le_mul_right _ h9) (by decide)) (ce_I _) (Nat.le_of_ble_eq_true rfl) (Nat.le_of_ble_eq_true rfl) dX12_init_149 (fun H hH => ?_)
  obtain ⟨x37, hx37, h⟩ := bnd h
  refine pf_X12_67 X hnm hH hx37 dX12_init_151 (fun H locs hH => ?_)
  refine lv_aload_n hx hb dX12_init_154 rfl (lv_at hl 0 rfl) ?_
  refine lv_bipush (v := 6) hx hb dX12_init_155 (by decide) ?_
  obtain ⟨x38, hx38, h⟩ := bnd h
  refine w_na X hH (atype := .int) (k := 1) hx38 u_115 (by decide) rfl (fun n' h9 => Nat.le_trans (Nat.mul_le_mul_right _ h9) (by decide)) (ce_I _) (Nat.le_of_ble_eq_true rfl) (Nat.le_of_ble_eq_true rfl) dX12_init_157 (fun H hH => ?_)
  obtain ⟨x39, hx39, h⟩ := bnd h
  refine pf_X12_70 X hnm hH hx39 dX12_init_159 (fun H locs hH => ?_)
  refine lv_aload_n hx hb dX12_init_162 rfl (lv_at hl 0 rfl) ?_
  refine lv_bipush (v := 6) hx hb dX12_init_163 (by decide) ?_
  obtain ⟨x40, hx40, h⟩ := bnd h
  refine w_na X hH (atype := .int) (k := 1) hx40 u_115 (by decide) rfl (fun n' h9 => Nat.le_trans (Nat.mul_le_mul_right _ h9) (by decide)) (ce_I _) (Nat.le_of_ble_eq_true rfl) (Nat.le_of_ble_eq_true rfl) dX12_init_165 (fun H hH => ?_)
  obtain ⟨x41, hx41, h⟩ := bnd h
  refine pf_X12_73 X hnm hH hx41 dX12_init_167 (fun H locs hH => ?_)
  refine lv_aload_n hx hb dX12_init_170 rfl (lv_at hl 0 rfl) ?_
  refine lv_bipush (v := 60) hx hb dX12_init_171 (by decide) ?_
  obtain ⟨x42, hx42, h⟩ := bnd h
  refine w_na X hH (atype := .int) (k := 1) hx42 u_115 (by decide) rfl (fun n' h9 => Nat.le_trans (Nat.mul_le_mul_right _ h9) (by decide)) (ce_I _) (Nat.le_of_ble_eq_true rfl) (Nat.le_of_ble_eq_true rfl) dX12_init_173 (fun H hH => ?_)
  obtain ⟨x43, hx43, h⟩ := bnd h
  refine pf_X12_76 X hnm hH hx43 dX12_init_175 (fun H locs hH => ?_)
  refine lv_aload_n hx hb dX12_init_178 rfl (lv_at hl 0 rfl) ?_
  refine lv_bipush (v := 60) hx hb dX12_init_179 (by decide) ?_
  obtain ⟨x44, hx44, h⟩ := bnd h
  refine w_na X hH (atype := .boolean) (k := 3) hx44 u_268 (by decide) rfl (fun n' h9 => Nat.le_trans (Nat.mul_le_mul_right _ h9) (by decide)) (ce_Z _) (Nat.le_of_ble_eq_true rfl) (Nat.le_of_ble_eq_true rfl) dX12_init_181 (fun H hH => ?_)
  obtain ⟨x45, hx45, h⟩ := bnd h
  refine pf_X12_79 X hnm hH hx45 dX12_init_183 (fun H locs hH => ?_)
  refine lv_aload_n hx hb dX12_init_186 rfl (lv_at hl 0 rfl) ?_
  refine lv_bipush (v := 6) hx hb dX12_init_187 (by decide) ?_
  obtain ⟨x46, hx46, h⟩ := bnd h
  refine w_na X hH (atype := .int) (k := 1) hx46 u_115 (by decide) rfl (fun n' h9 => Nat.le_trans (Nat.mul_le_mul_right _ h9) (by decide)) (ce_I _) (Nat.le_of_ble_eq_true rfl) (Nat.le_of_ble_eq_true rfl) dX12_init_189 (fun H hH => ?_)
  obtain ⟨x47, hx47, h⟩ := bnd h
  refine pf_X12_82 X hnm hH hx47 dX12_init_191 (fun H locs hH => ?_)
  refine lv_aload_n hx hb dX12_init_194 rfl (lv_at hl 0 rfl) ?_
  refine lv_bipush (v := 60) hx hb dX12_init_195 (by decide) ?_
  obtain ⟨x48, hx48, h⟩ := bnd h
  refine w_na X hH (atype := .long) (k := 2) hx48 u_286 (by decide) rfl (fun n' h9 => Nat.le_trans (Nat.mul_le_mul_right _ h9) (by decide)) (ce_J _) (Nat.le_of_ble_eq_true rfl) (Nat.le_of_ble_eq_true rfl) dX12_init_197 (fun H hH => ?_)
  obtain ⟨x49, hx49, h⟩ := bnd h
  refine pf_X12_85 X hnm hH hx49 dX12_init_199 (fun H locs hH => ?_)
  refine lv_aload_n hx hb dX12_init_202 rfl (lv_at hl 0 rfl) ?_
  refine lv_bipush (v := 60) hx hb dX12_init_203 (by decide) ?_
  obtain ⟨x50, hx50, h⟩ := bnd h
  refine w_na X hH (atype := .long) (k := 2) hx50 u_286 (by decide) rfl (fun n' h9 => Nat.le_trans (Nat.mul_le_mul_right _ h9) (by decide)) (ce_J _) (Nat.le_of_ble_eq_true rfl) (Nat.le_of_ble_eq_true rfl) dX12_init_205 (fun H hH => ?_)
  obtain ⟨x51, hx51, h⟩ := bnd h
  refine pf_X12_89 X hnm hH hx51 dX12_init_207 (fun H locs hH => ?_)
  refine lv_iconst (v := 0) hx hb dX12_init_210 (by decide) ?_
  refine lv_istore_n (lv' := [(1, .int (0 : Int32)), (0, .ref a0)]) hx hb dX12_init_211 rfl hl (by decide) rfl (fun ls hl => ?_)
  obtain ⟨x55, hx55, hhx55⟩ := bnd h
  clear h
  refine w_X12_init_212 l X hRL ⟨Nat.le_of_ble_eq_true rfl, Nat.le_of_ble_eq_true rfl⟩ BIG a0 (0 : Int32) x51 x55 hx55 (fun H locs ls hH hl => ?_) _ _ _ hH (lv_sub hl [1, 0] rfl)
  · have h := hhx55
    clear hhx55
    refine lv_iconst (v := 0) hx hb dX12_init_231 (by decide) ?_
    refine lv_istore_n (lv' := [(1, .int (0 : Int32)), (0, .ref a0)]) hx hb dX12_init_232 rfl hl (by decide) rfl (fun ls hl => ?_)
    obtain ⟨x59, hx59, hhx59⟩ := bnd h
    clear h
    refine w_X12_init_233 l X hRL ⟨Nat.le_of_ble_eq_true rfl, Nat.le_of_ble_eq_true rfl⟩ BIG a0 (0 : Int32) x55 x59 hx59 (fun H locs ls hH hl => ?_) _ _ _ hH (lv_sub hl [1, 0] rfl)
    · have h := hhx59
      clear hhx59
      exact eV X hH h hr dX12_init_251 (Nat.le_of_ble_eq_true rfl) (Nat.le_of_ble_eq_true rfl)
set_option maxHeartbeats 4000000 in
set_option maxRecDepth 100000 in
theorem c_X12_in (l : Launch) (G : CG) (μ : Mm) (p0 : Int32) (p1 : Int32) (p2 : Int32) (x : Int32) (h : f_X12_in μ p0 p1 p2 = some x) : Met l yX12_in (.code yX12_in cX12_in 3 (some .boolean) :: UW) (rmk 1 0 0) (PC G [.int p0, .int p1, .int p2] μ) (QI G x μ) 0 0 (fA G) := by
  refine Met.ofW (cc := cX12_in) (maxL := 3) (ret := (some .boolean)) (by decide) rfl ?_
  intro p e s m args below meth c s₁ B hml hv
  obtain ⟨X, hH, hr, rfl, hnm⟩ := cx_in B hml hv
  have X : Cx p s m _ meth c cX12_in 3 RX12 G := X
  have hx := X.1
  have hb := X.2.1
  have hown := X.2.2.2.1
  have hts := X.2.2.2.2.1
  have hRL : RmL (rmk 1 0 0) 1 := ⟨Nat.le_refl _, Nat.le_refl _⟩
  have hcs : 0 ≤ (rmk 0 0 0).cells ∧ 0 ≤ (rmk 0 0 0).slots := ⟨Nat.zero_le _, Nat.zero_le _⟩
  refine ls_in (Nat.le_of_ble_eq_true rfl) (fun ls hl => ?_)
  have hl : lv_has ls 3 [(0, .int p0), (1, .int p1), (2, .int p2)] := hl
  unfold f_X12_in at h
  refine lv_iload_n hx hb dX12_in_0 rfl (lv_at hl 0 rfl) ?_
  refine lv_iload_n hx hb dX12_in_1 rfl (lv_at hl 1 rfl) ?_
  refine lv_icmp_lt (tgt := 14) hx hb dX12_in_2 (by decide) (fun hc1 => ?_) (fun hc1 => ?_)
  · replace h := ift h hc1
    refine lv_iconst (v := 0) hx hb dX12_in_14 (by decide) ?_
    exact eZp X hH (by decide) h hr dX12_in_15
  · replace h := iff' h hc1
    refine lv_iload_n hx hb dX12_in_5 rfl (lv_at hl 0 rfl) ?_
    refine lv_iload_n hx hb dX12_in_6 rfl (lv_at hl 2 rfl) ?_
    refine lv_icmp_gt (tgt := 14) hx hb dX12_in_7 (by decide) (fun hc2 => ?_) (fun hc2 => ?_)
    · replace h := ift h hc2
      refine lv_iconst (v := 0) hx hb dX12_in_14 (by decide) ?_
      exact eZp X hH (by decide) h hr dX12_in_15
    · replace h := iff' h hc2
      refine lv_iconst (v := 1) hx hb dX12_in_10 (by decide) ?_
      refine lv_goto (tgt := 15) hx hb dX12_in_11 (by decide) ?_
      exact eZp X hH (by decide) h hr dX12_in_15
set_option maxHeartbeats 4000000 in
set_option maxRecDepth 100000 in
theorem c_X12_has (l : Launch) (G : CG) (μ : Mm) (p0 : Int32) (p1 : Int32) (x : Int32) (h : f_X12_has μ p0 p1 = some x) : Met l yX12_has (.code yX12_has cX12_has 2 (some .boolean) :: UW) (rmk 1 0 0) (PC G [.int p0, .int p1] μ) (QI G x μ) 0 0 (fA G) := by
  refine Met.ofW (cc := cX12_has) (maxL := 2) (ret := (some .boolean)) (by decide) rfl ?_
  intro p e s m args below meth c s₁ B hml hv
  obtain ⟨X, hH, hr, rfl, hnm⟩ := cx_in B hml hv
  have X : Cx p s m _ meth c cX12_has 2 RX12 G := X
  have hx := X.1
  have hb := X.2.1
  have hown := X.2.2.2.1
  have hts := X.2.2.2.2.1
  have hRL : RmL (rmk 1 0 0) 1 := ⟨Nat.le_refl _, Nat.le_refl _⟩
  have hcs : 0 ≤ (rmk 0 0 0).cells ∧ 0 ≤ (rmk 0 0 0).slots := ⟨Nat.zero_le _, Nat.zero_le _⟩
  refine ls_in (Nat.le_of_ble_eq_true rfl) (fun ls hl => ?_)
  have hl : lv_has ls 2 [(0, .int p0), (1, .int p1)] := hl
  unfold f_X12_has at h
  refine lv_iload_n hx hb dX12_has_0 rfl (lv_at hl 0 rfl) ?_
  refine lv_iload_n hx hb dX12_has_1 rfl (lv_at hl 1 rfl) ?_
  refine lv_ishr hx hb dX12_has_2 ?_
  refine lv_iconst (v := 1) hx hb dX12_has_3 (by decide) ?_
  refine lv_iand hx hb dX12_has_4 ?_
  refine lv_iconst (v := 1) hx hb dX12_has_5 (by decide) ?_
  refine lv_icmp_ne (tgt := 13) hx hb dX12_has_6 (by decide) (fun hc1 => ?_) (fun hc1 => ?_)
  · replace h := iff' h hc1
    refine lv_iconst (v := 0) hx hb dX12_has_13 (by decide) ?_
    exact eZp X hH (by decide) h hr dX12_has_14
  · replace h := ift h hc1
    refine lv_iconst (v := 1) hx hb dX12_has_9 (by decide) ?_
    refine lv_goto (tgt := 14) hx hb dX12_has_10 (by decide) ?_
    exact eZp X hH (by decide) h hr dX12_has_14
theorem t_X12_meets {μ : Mm} {a0 : Nat} {p1 : Int32} {x : Int32 × Mm} (h : f_X12_meets μ a0 p1 = some x) : tg μ a0 = 13 := by
  unfold f_X12_meets at h
  exact (gsn h).1
set_option maxHeartbeats 4000000 in
set_option maxRecDepth 100000 in
theorem c_X12_meets (l : Launch) (G : CG) (μ : Mm) (a0 : Nat) (p1 : Int32) (x : Int32 × Mm) (h : f_X12_meets μ a0 p1 = some x) : Met l yX12_meets (.code yX12_meets cX12_meets 2 (some .int) :: UW) (rmk 1 0 0) (PC G [.ref a0, .int p1] μ) (QI G x.1 x.2) 0 0 (fA G) := by
  refine Met.ofW (cc := cX12_meets) (maxL := 2) (ret := (some .int)) (by decide) rfl ?_
  intro p e s m args below meth c s₁ B hml hv
  obtain ⟨X, hH, hr, rfl, hnm⟩ := cx_in B hml hv
  have X : Cx p s m _ meth c cX12_meets 2 RX12 G := X
  have hx := X.1
  have hb := X.2.1
  have hown := X.2.2.2.1
  have hts := X.2.2.2.2.1
  have hRL : RmL (rmk 1 0 0) 1 := ⟨Nat.le_refl _, Nat.le_refl _⟩
  have hcs : 0 ≤ (rmk 0 0 0).cells ∧ 0 ≤ (rmk 0 0 0).slots := ⟨Nat.zero_le _, Nat.zero_le _⟩
  refine ls_in (Nat.le_of_ble_eq_true rfl) (fun ls hl => ?_)
  have hl : lv_has ls 2 [(0, .ref a0), (1, .int p1)] := hl
  unfold f_X12_meets at h
  obtain ⟨htg, h⟩ := gsn h
  refine lv_aload_n hx hb dX12_meets_0 rfl (lv_at hl 0 rfl) ?_
  refine lv_iload_n hx hb dX12_meets_1 rfl (lv_at hl 1 rfl) ?_
  obtain ⟨x1, hx1, h⟩ := bnd h
  refine pf_X12_92 X hH hx1 dX12_meets_2 (fun H locs hH => ?_)
  refine lv_aload_n hx hb dX12_meets_5 rfl (lv_at hl 0 rfl) ?_
  obtain ⟨x2, hx2, h⟩ := bnd h
  refine gf_X12_7 X hH hx2 dX12_meets_6 ?_
  refine lv_iload_n hx hb dX12_meets_9 rfl (lv_at hl 1 rfl) ?_
  refine lv_dup2_11 hx hb dX12_meets_10 rfl rfl ?_
  obtain ⟨x3, hx3, h⟩ := bnd h
  refine w_aI X hH hx3 dX12_meets_11 ?_
  refine lv_iconst (v := 1) hx hb dX12_meets_12 (by decide) ?_
  refine lv_iadd hx hb dX12_meets_13 ?_
  obtain ⟨x4, hx4, h⟩ := bnd h
  refine w_qI X hH hx4 dX12_meets_14 (fun H locs hH => ?_)
  refine lv_bipush (v := -3) hx hb dX12_meets_15 (by decide) ?_
  exact eI X hH h hr dX12_meets_17 (Nat.le_of_ble_eq_true rfl) (Nat.le_of_ble_eq_true rfl)
theorem t_X12_finding {μ : Mm} {a0 : Nat} {x : Int32} (h : f_X12_finding μ a0 = some x) : tg μ a0 = 13 := by
  unfold f_X12_finding at h
  exact (gsn h).1
set_option maxHeartbeats 4000000 in
set_option maxRecDepth 100000 in
theorem c_X12_finding (l : Launch) (G : CG) (μ : Mm) (a0 : Nat) (x : Int32) (h : f_X12_finding μ a0 = some x) : Met l yX12_finding (.code yX12_finding cX12_finding 1 (some .int) :: UW) (rmk 1 0 0) (PC G [.ref a0] μ) (QI G x μ) 0 0 (fA G) := by
  refine Met.ofW (cc := cX12_finding) (maxL := 1) (ret := (some .int)) (by decide) rfl ?_
  intro p e s m args below meth c s₁ B hml hv
  obtain ⟨X, hH, hr, rfl, hnm⟩ := cx_in B hml hv
  have X : Cx p s m _ meth c cX12_finding 1 RX12 G := X
  have hx := X.1
  have hb := X.2.1
  have hown := X.2.2.2.1
  have hts := X.2.2.2.2.1
  have hRL : RmL (rmk 1 0 0) 1 := ⟨Nat.le_refl _, Nat.le_refl _⟩
  have hcs : 0 ≤ (rmk 0 0 0).cells ∧ 0 ≤ (rmk 0 0 0).slots := ⟨Nat.zero_le _, Nat.zero_le _⟩
  refine ls_in (Nat.le_of_ble_eq_true rfl) (fun ls hl => ?_)
  have hl : lv_has ls 1 [(0, .ref a0)] := hl
  unfold f_X12_finding at h
  obtain ⟨htg, h⟩ := gsn h
  refine lv_aload_n hx hb dX12_finding_0 rfl (lv_at hl 0 rfl) ?_
  obtain ⟨x1, hx1, h⟩ := bnd h
  refine gf_X12_92 X hH hx1 dX12_finding_1 ?_
  exact eIp X hH h hr dX12_finding_4
set_option maxHeartbeats 1000000 in
theorem iv_X12_96 {p : Program} {e : Env} {R : Room} {s : State} {m : MethodId} {args : Array Value} {below : List Frame} {meth : Method} {c : Code} {H : Heap} {locs : List Loc} {cells slots : Nat} {Q : State → Prop} {cc : ByteArray} {pc : Nat} {ls : Array Slot} {rest : List Value} {nL : Nat} {G : CG} {μ : Mm} {q0 : Int32} {q1 : Int32} {q2 : Int32} {x : Int32} {k : Nat} (l : Launch) (X : Cx p s m args meth c cc nL RX12 G) (hH : HS G s μ H locs) (hRL : RmL R k) (hk : 1 + 1 ≤ k) (h : f_X12_in μ q0 q1 q2 = some x) (hls : ls.size = nL) (hroom : (rest.map fun v => v.category).sum ≤ 8) (hdg : decode cc pc = .ok (.invokestatic 96, 3)) (hcs : cells + 0 ≤ R.cells ∧ slots + 0 ≤ R.slots) (kk : ∀ (H1 : Heap) (locs1 : List Loc), HS G s μ H1 locs1 → W p l e R s m args below meth c H1 locs1 cells slots Q (F0 m (pc + 3) ls (.int x :: rest))) : W p l e R s m args below meth c H locs cells slots Q (F0 m pc ls (.int q2 :: .int q1 :: .int q0 :: rest)) := by
  refine kI hH (rS (As := [.int q0, .int q1, .int q2]) (rest := rest) X hH (c_X12_in l G μ q0 q1 q2 x h) (List.forall_mem_cons.mpr ⟨u_1115, (List.forall_mem_cons.mpr ⟨u_1116, (List.forall_mem_cons.mpr ⟨u_68, (fun _ h9 => absurd h9 List.not_mem_nil)⟩)⟩)⟩) u_1117 (rmo hRL (Nat.le_trans (by decide) hk) (by decide)) ddS_X12_in rfl hls rfl hroom hdg hcs) kk
theorem t_X12_findings {μ : Mm} {a0 : Nat} {p1 : Int32} {x : Int32} (h : f_X12_findings μ a0 p1 = some x) : tg μ a0 = 13 := by
  unfold f_X12_findings at h
  exact (gsn h).1
set_option maxHeartbeats 4000000 in
set_option maxRecDepth 100000 in
theorem c_X12_findings (l : Launch) (G : CG) (μ : Mm) (a0 : Nat) (p1 : Int32) (x : Int32) (h : f_X12_findings μ a0 p1 = some x) : Met l yX12_findings (.code yX12_findings cX12_findings 2 (some .int) :: UW) (rmk 2 0 0) (PC G [.ref a0, .int p1] μ) (QI G x μ) 0 0 (fA G) := by
  refine Met.ofW (cc := cX12_findings) (maxL := 2) (ret := (some .int)) (by decide) rfl ?_
  intro p e s m args below meth c s₁ B hml hv
  obtain ⟨X, hH, hr, rfl, hnm⟩ := cx_in B hml hv
  have X : Cx p s m _ meth c cX12_findings 2 RX12 G := X
  have hx := X.1
  have hb := X.2.1
  have hown := X.2.2.2.1
  have hts := X.2.2.2.2.1
  have hRL : RmL (rmk 2 0 0) 2 := ⟨Nat.le_refl _, Nat.le_refl _⟩
  have hcs : 0 ≤ (rmk 0 0 0).cells ∧ 0 ≤ (rmk 0 0 0).slots := ⟨Nat.zero_le _, Nat.zero_le _⟩
  refine ls_in (Nat.le_of_ble_eq_true rfl) (fun ls hl => ?_)
  have hl : lv_has ls 2 [(0, .ref a0), (1, .int p1)] := hl
  unfold f_X12_findings at h
  obtain ⟨htg, h⟩ := gsn h
  refine lv_iload_n hx hb dX12_findings_0 rfl (lv_at hl 1 rfl) ?_
  refine lv_iconst (v := 1) hx hb dX12_findings_1 (by decide) ?_
  refine lv_iconst (v := 5) hx hb dX12_findings_2 (by decide) ?_
  obtain ⟨x1, hx1, h⟩ := bnd h
  refine iv_X12_96 l X hH hRL (by decide) hx1 hl.1 (Nat.le_of_ble_eq_true rfl) dX12_findings_3 hcs (fun H locs hH => ?_)
  refine lv_if_eq (tgt := 18) hx hb dX12_findings_6 (by decide) (fun hc2 => ?_) (fun hc2 => ?_)
  · replace h := ift h hc2
    refine lv_iconst (v := -1) hx hb dX12_findings_18 (by decide) ?_
    exact eIp X hH h hr dX12_findings_19
  · replace h := iff' h hc2
    refine lv_aload_n hx hb dX12_findings_9 rfl (lv_at hl 0 rfl) ?_
    obtain ⟨x3, hx3, h⟩ := bnd h
    refine gf_X12_7 X hH hx3 dX12_findings_10 ?_
    refine lv_iload_n hx hb dX12_findings_13 rfl (lv_at hl 1 rfl) ?_
    obtain ⟨x4, hx4, h⟩ := bnd h
    refine w_aI X hH hx4 dX12_findings_14 ?_
    refine lv_goto (tgt := 19) hx hb dX12_findings_15 (by decide) ?_
    exact eIp X hH h hr dX12_findings_19
theorem t_X12_tells {μ : Mm} {a0 : Nat} {p1 : Int32} {p2 : Int32} {x : Int32 × Mm} (h : f_X12_tells μ a0 p1 p2 = some x) : tg μ a0 = 13 := by
  unfold f_X12_tells at h
  exact (gsn h).1
set_option maxHeartbeats 4000000 in
set_option maxRecDepth 100000 in
theorem c_X12_tells (l : Launch) (G : CG) (μ : Mm) (a0 : Nat) (p1 : Int32) (p2 : Int32) (x : Int32 × Mm) (h : f_X12_tells μ a0 p1 p2 = some x) : Met l yX12_tells (.code yX12_tells cX12_tells 3 (some .int) :: UW) (rmk 1 0 0) (PC G [.ref a0, .int p1, .int p2] μ) (QI G x.1 x.2) 0 0 (fA G) := by
  refine Met.ofW (cc := cX12_tells) (maxL := 3) (ret := (some .int)) (by decide) rfl ?_
  intro p e s m args below meth c s₁ B hml hv
  obtain ⟨X, hH, hr, rfl, hnm⟩ := cx_in B hml hv
  have X : Cx p s m _ meth c cX12_tells 3 RX12 G := X
  have hx := X.1
  have hb := X.2.1
  have hown := X.2.2.2.1
  have hts := X.2.2.2.2.1
  have hRL : RmL (rmk 1 0 0) 1 := ⟨Nat.le_refl _, Nat.le_refl _⟩
  have hcs : 0 ≤ (rmk 0 0 0).cells ∧ 0 ≤ (rmk 0 0 0).slots := ⟨Nat.zero_le _, Nat.zero_le _⟩
  refine ls_in (Nat.le_of_ble_eq_true rfl) (fun ls hl => ?_)
  have hl : lv_has ls 3 [(0, .ref a0), (1, .int p1), (2, .int p2)] := hl
  unfold f_X12_tells at h
  obtain ⟨htg, h⟩ := gsn h
  refine lv_aload_n hx hb dX12_tells_0 rfl (lv_at hl 0 rfl) ?_
  refine lv_iload_n hx hb dX12_tells_1 rfl (lv_at hl 1 rfl) ?_
  obtain ⟨x1, hx1, h⟩ := bnd h
  refine pf_X12_100 X hH hx1 dX12_tells_2 (fun H locs hH => ?_)
  refine lv_iload_n hx hb dX12_tells_5 rfl (lv_at hl 2 rfl) ?_
  exact eI X hH h hr dX12_tells_6 (Nat.le_of_ble_eq_true rfl) (Nat.le_of_ble_eq_true rfl)
theorem t_X12_asked {μ : Mm} {a0 : Nat} {x : Int32} (h : f_X12_asked μ a0 = some x) : tg μ a0 = 13 := by
  unfold f_X12_asked at h
  exact (gsn h).1
set_option maxHeartbeats 4000000 in
set_option maxRecDepth 100000 in
theorem c_X12_asked (l : Launch) (G : CG) (μ : Mm) (a0 : Nat) (x : Int32) (h : f_X12_asked μ a0 = some x) : Met l yX12_asked (.code yX12_asked cX12_asked 1 (some .int) :: UW) (rmk 1 0 0) (PC G [.ref a0] μ) (QI G x μ) 0 0 (fA G) := by
  refine Met.ofW (cc := cX12_asked) (maxL := 1) (ret := (some .int)) (by decide) rfl ?_
  intro p e s m args below meth c s₁ B hml hv
  obtain ⟨X, hH, hr, rfl, hnm⟩ := cx_in B hml hv
  have X : Cx p s m _ meth c cX12_asked 1 RX12 G := X
  have hx := X.1
  have hb := X.2.1
  have hown := X.2.2.2.1
  have hts := X.2.2.2.2.1
  have hRL : RmL (rmk 1 0 0) 1 := ⟨Nat.le_refl _, Nat.le_refl _⟩
  have hcs : 0 ≤ (rmk 0 0 0).cells ∧ 0 ≤ (rmk 0 0 0).slots := ⟨Nat.zero_le _, Nat.zero_le _⟩
  refine ls_in (Nat.le_of_ble_eq_true rfl) (fun ls hl => ?_)
  have hl : lv_has ls 1 [(0, .ref a0)] := hl
  unfold f_X12_asked at h
  obtain ⟨htg, h⟩ := gsn h
  refine lv_aload_n hx hb dX12_asked_0 rfl (lv_at hl 0 rfl) ?_
  obtain ⟨x1, hx1, h⟩ := bnd h
  refine gf_X12_100 X hH hx1 dX12_asked_1 ?_
  exact eIp X hH h hr dX12_asked_4
set_option maxHeartbeats 4000000 in
set_option maxRecDepth 100000 in
theorem w_X12_fraction_6 {p : Program} {e : Env} {R : Room} {s : State} {m : MethodId} {args : Array Value} {below : List Frame} {meth : Method} {c : Code} {cells slots : Nat} {Q : State → Prop} {G : CG} (l : Launch) (X : Cx p s m args meth c cX12_fraction 11 RX12 G) (hRL : RmL R 1) (hcs : cells ≤ R.cells ∧ slots ≤ R.slots) : ∀ (n : Nat) (v0 : Nat) (v1 : Int64) (v3 : Int64) (v5 : Int64) (v7 : Int64) (μ : Mm) (x : Int64), lp_X12_fraction_6 n v0 v1 v3 v5 v7 μ = some x → (∀ (H : Heap) (locs : List Loc) (ls : Array Slot), HS G s μ H locs → lv_has ls 11 [(0, .ref v0), (1, .long v1), (3, .long v3), (5, .long x)] → W p l e R s m args below meth c H locs cells slots Q (F0 m 31 ls [])) → ∀ (H : Heap) (locs : List Loc) (ls : Array Slot), HS G s μ H locs → lv_has ls 11 [(0, .ref v0), (1, .long v1), (3, .long v3), (5, .long v5), (7, .long v7)] → W p l e R s m args below meth c H locs cells slots Q (F0 m 6 ls []) := by
  have hx := X.1
  have hb := X.2.1
  have hown := X.2.2.2.1
  have hts := X.2.2.2.2.1
  intro n
  induction n with
  | zero =>
    intro v0 v1 v3 v5 v7 μ x h
    rw [lp_X12_fraction_6] at h
    cases h
  | succ n ih =>
    intro v0 v1 v3 v5 v7 μ x h k0 H locs ls hH hl
    rw [lp_X12_fraction_6] at h
    refine lv_lload hx hb dX12_fraction_6 (lv_at hl 4 rfl) ?_
    refine lv_lconst (v := 0) hx hb dX12_fraction_8 (by decide) ?_
    refine W.lcmp hx hb dX12_fraction_9 ?_
    refine lv_if_eq (tgt := 31) hx hb dX12_fraction_10 (by decide) (fun hc1 => ?_) (fun hc1 => ?_)
    · replace h := ift h hc1
      cases h
      exact k0 _ _ _ hH (lv_sub hl [0, 1, 2, 3] rfl)
    · replace h := iff' h hc1
      refine lv_lload hx hb dX12_fraction_13 (lv_at hl 3 rfl) ?_
      refine lv_lload hx hb dX12_fraction_15 (lv_at hl 4 rfl) ?_
      obtain ⟨hd2, h⟩ := gsf h
      refine lv_lrem hx hb dX12_fraction_17 hd2 ?_
      refine lv_lstore (lv' := [(9, .long (v5 - v5 / v7 * v7)), (0, .ref v0), (1, .long v1), (3, .long v3), (5, .long v5), (7, .long v7)]) hx hb dX12_fraction_18 hl (by decide) rfl (fun ls hl => ?_)
      refine lv_lload hx hb dX12_fraction_20 (lv_at hl 5 rfl) ?_
      refine lv_lstore (lv' := [(5, .long v7), (9, .long (v5 - v5 / v7 * v7)), (0, .ref v0), (1, .long v1), (3, .long v3), (7, .long v7)]) hx hb dX12_fraction_22 hl (by decide) rfl (fun ls hl => ?_)
      refine lv_lload hx hb dX12_fraction_24 (lv_at hl 1 rfl) ?_
      refine lv_lstore (lv' := [(7, .long (v5 - v5 / v7 * v7)), (5, .long v7), (9, .long (v5 - v5 / v7 * v7)), (0, .ref v0), (1, .long v1), (3, .long v3)]) hx hb dX12_fraction_26 hl (by decide) rfl (fun ls hl => ?_)
      refine lv_goto (tgt := 6) hx hb dX12_fraction_28 (by decide) ?_
      exact ih _ _ _ _ _ _ _ h k0 _ _ _ hH (lv_sub hl [3, 4, 5, 1, 0] rfl)
theorem t_X12_fraction {μ : Mm} {a0 : Nat} {p1 : Int64} {p3 : Int64} {x : Int32 × Mm} (h : f_X12_fraction μ a0 p1 p3 = some x) : tg μ a0 = 13 := by
  unfold f_X12_fraction at h
  exact (gsn h).1
set_option maxHeartbeats 4000000 in
set_option maxRecDepth 100000 in
theorem c_X12_fraction (l : Launch) (G : CG) (μ : Mm) (a0 : Nat) (p1 : Int64) (p3 : Int64) (x : Int32 × Mm) (h : f_X12_fraction μ a0 p1 p3 = some x) : Met l yX12_fraction (.code yX12_fraction cX12_fraction 11 (some .int) :: UW) (rmk 1 0 0) (PC G [.ref a0, .long p1, .long p3] μ) (QI G x.1 x.2) 0 0 (fA G) := by
  refine Met.ofW (cc := cX12_fraction) (maxL := 11) (ret := (some .int)) (by decide) rfl ?_
  intro p e s m args below meth c s₁ B hml hv
  obtain ⟨X, hH, hr, rfl, hnm⟩ := cx_in B hml hv
  have X : Cx p s m _ meth c cX12_fraction 11 RX12 G := X
  have hx := X.1
  have hb := X.2.1
  have hown := X.2.2.2.1
  have hts := X.2.2.2.2.1
  have hRL : RmL (rmk 1 0 0) 1 := ⟨Nat.le_refl _, Nat.le_refl _⟩
  have hcs : 0 ≤ (rmk 0 0 0).cells ∧ 0 ≤ (rmk 0 0 0).slots := ⟨Nat.zero_le _, Nat.zero_le _⟩
  refine ls_in (Nat.le_of_ble_eq_true rfl) (fun ls hl => ?_)
  have hl : lv_has ls 11 [(0, .ref a0), (1, .long p1), (3, .long p3)] := hl
  unfold f_X12_fraction at h
  obtain ⟨htg, h⟩ := gsn h
  refine lv_lload_n hx hb dX12_fraction_0 rfl (lv_at hl 1 rfl) ?_
  refine lv_lstore (lv' := [(5, .long p1), (0, .ref a0), (1, .long p1), (3, .long p3)]) hx hb dX12_fraction_1 hl (by decide) rfl (fun ls hl => ?_)
  refine lv_lload_n hx hb dX12_fraction_3 rfl (lv_at hl 3 rfl) ?_
  refine lv_lstore (lv' := [(7, .long p3), (5, .long p1), (0, .ref a0), (1, .long p1), (3, .long p3)]) hx hb dX12_fraction_4 hl (by decide) rfl (fun ls hl => ?_)
  obtain ⟨x3, hx3, hhx3⟩ := bnd h
  clear h
  refine w_X12_fraction_6 l X hRL hcs BIG a0 p1 p3 p1 p3 μ x3 hx3 (fun H locs ls hH hl => ?_) _ _ _ hH (lv_sub hl [2, 3, 4, 1, 0] rfl)
  · have h := hhx3
    clear hhx3
    refine lv_aload_n hx hb dX12_fraction_31 rfl (lv_at hl 0 rfl) ?_
    refine lv_lload_n hx hb dX12_fraction_32 rfl (lv_at hl 1 rfl) ?_
    refine lv_lload hx hb dX12_fraction_33 (lv_at hl 3 rfl) ?_
    obtain ⟨hd4, h⟩ := gsf h
    refine lv_ldiv hx hb dX12_fraction_35 hd4 ?_
    obtain ⟨x5, hx5, h⟩ := bnd h
    refine pf_X12_103 X hH hx5 dX12_fraction_36 (fun H locs hH => ?_)
    refine lv_aload_n hx hb dX12_fraction_39 rfl (lv_at hl 0 rfl) ?_
    refine lv_lload_n hx hb dX12_fraction_40 rfl (lv_at hl 2 rfl) ?_
    refine lv_lload hx hb dX12_fraction_41 (lv_at hl 3 rfl) ?_
    obtain ⟨hd6, h⟩ := gsf h
    refine lv_ldiv hx hb dX12_fraction_43 hd6 ?_
    obtain ⟨x7, hx7, h⟩ := bnd h
    refine pf_X12_13 X hH hx7 dX12_fraction_44 (fun H locs hH => ?_)
    refine lv_iconst (v := 1) hx hb dX12_fraction_47 (by decide) ?_
    exact eI X hH h hr dX12_fraction_48 (Nat.le_of_ble_eq_true rfl) (Nat.le_of_ble_eq_true rfl)
theorem t_X12_upper {μ : Mm} {a0 : Nat} {x : Int64} (h : f_X12_upper μ a0 = some x) : tg μ a0 = 13 := by
  unfold f_X12_upper at h
  exact (gsn h).1
set_option maxHeartbeats 4000000 in
set_option maxRecDepth 100000 in
theorem c_X12_upper (l : Launch) (G : CG) (μ : Mm) (a0 : Nat) (x : Int64) (h : f_X12_upper μ a0 = some x) : Met l yX12_upper (.code yX12_upper cX12_upper 1 (some .long) :: UW) (rmk 1 0 0) (PC G [.ref a0] μ) (QL G x μ) 0 0 (fA G) := by
  refine Met.ofW (cc := cX12_upper) (maxL := 1) (ret := (some .long)) (by decide) rfl ?_
  intro p e s m args below meth c s₁ B hml hv
  obtain ⟨X, hH, hr, rfl, hnm⟩ := cx_in B hml hv
  have X : Cx p s m _ meth c cX12_upper 1 RX12 G := X
  have hx := X.1
  have hb := X.2.1
  have hown := X.2.2.2.1
  have hts := X.2.2.2.2.1
  have hRL : RmL (rmk 1 0 0) 1 := ⟨Nat.le_refl _, Nat.le_refl _⟩
  have hcs : 0 ≤ (rmk 0 0 0).cells ∧ 0 ≤ (rmk 0 0 0).slots := ⟨Nat.zero_le _, Nat.zero_le _⟩
  refine ls_in (Nat.le_of_ble_eq_true rfl) (fun ls hl => ?_)
  have hl : lv_has ls 1 [(0, .ref a0)] := hl
  unfold f_X12_upper at h
  obtain ⟨htg, h⟩ := gsn h
  refine lv_aload_n hx hb dX12_upper_0 rfl (lv_at hl 0 rfl) ?_
  obtain ⟨x1, hx1, h⟩ := bnd h
  refine gf_X12_103 X hH hx1 dX12_upper_1 ?_
  exact eLp X hH h hr dX12_upper_4
theorem t_X12_lower {μ : Mm} {a0 : Nat} {x : Int64} (h : f_X12_lower μ a0 = some x) : tg μ a0 = 13 := by
  unfold f_X12_lower at h
  exact (gsn h).1
set_option maxHeartbeats 4000000 in
set_option maxRecDepth 100000 in
theorem c_X12_lower (l : Launch) (G : CG) (μ : Mm) (a0 : Nat) (x : Int64) (h : f_X12_lower μ a0 = some x) : Met l yX12_lower (.code yX12_lower cX12_lower 1 (some .long) :: UW) (rmk 1 0 0) (PC G [.ref a0] μ) (QL G x μ) 0 0 (fA G) := by
  refine Met.ofW (cc := cX12_lower) (maxL := 1) (ret := (some .long)) (by decide) rfl ?_
  intro p e s m args below meth c s₁ B hml hv
  obtain ⟨X, hH, hr, rfl, hnm⟩ := cx_in B hml hv
  have X : Cx p s m _ meth c cX12_lower 1 RX12 G := X
  have hx := X.1
  have hb := X.2.1
  have hown := X.2.2.2.1
  have hts := X.2.2.2.2.1
  have hRL : RmL (rmk 1 0 0) 1 := ⟨Nat.le_refl _, Nat.le_refl _⟩
  have hcs : 0 ≤ (rmk 0 0 0).cells ∧ 0 ≤ (rmk 0 0 0).slots := ⟨Nat.zero_le _, Nat.zero_le _⟩
  refine ls_in (Nat.le_of_ble_eq_true rfl) (fun ls hl => ?_)
  have hl : lv_has ls 1 [(0, .ref a0)] := hl
  unfold f_X12_lower at h
  obtain ⟨htg, h⟩ := gsn h
  refine lv_aload_n hx hb dX12_lower_0 rfl (lv_at hl 0 rfl) ?_
  obtain ⟨x1, hx1, h⟩ := bnd h
  refine gf_X12_13 X hH hx1 dX12_lower_1 ?_
  exact eLp X hH h hr dX12_lower_4
set_option maxHeartbeats 4000000 in
set_option maxRecDepth 100000 in
theorem c_X12_isRow (l : Launch) (G : CG) (μ : Mm) (p0 : Int32) (x : Int32) (h : f_X12_isRow μ p0 = some x) : Met l yX12_isRow (.code yX12_isRow cX12_isRow 1 (some .boolean) :: UW) (rmk 2 0 0) (PC G [.int p0] μ) (QI G x μ) 0 0 (fA G) := by
  refine Met.ofW (cc := cX12_isRow) (maxL := 1) (ret := (some .boolean)) (by decide) rfl ?_
  intro p e s m args below meth c s₁ B hml hv
  obtain ⟨X, hH, hr, rfl, hnm⟩ := cx_in B hml hv
  have X : Cx p s m _ meth c cX12_isRow 1 RX12 G := X
  have hx := X.1
  have hb := X.2.1
  have hown := X.2.2.2.1
  have hts := X.2.2.2.2.1
  have hRL : RmL (rmk 2 0 0) 2 := ⟨Nat.le_refl _, Nat.le_refl _⟩
  have hcs : 0 ≤ (rmk 0 0 0).cells ∧ 0 ≤ (rmk 0 0 0).slots := ⟨Nat.zero_le _, Nat.zero_le _⟩
  refine ls_in (Nat.le_of_ble_eq_true rfl) (fun ls hl => ?_)
  have hl : lv_has ls 1 [(0, .int p0)] := hl
  unfold f_X12_isRow at h
  refine lv_iload_n hx hb dX12_isRow_0 rfl (lv_at hl 0 rfl) ?_
  refine lv_iconst (v := 0) hx hb dX12_isRow_1 (by decide) ?_
  refine lv_iconst (v := 5) hx hb dX12_isRow_2 (by decide) ?_
  obtain ⟨x1, hx1, h⟩ := bnd h
  refine iv_X12_96 l X hH hRL (by decide) hx1 hl.1 (Nat.le_of_ble_eq_true rfl) dX12_isRow_3 hcs (fun H locs hH => ?_)
  obtain ⟨_, hzb, h⟩ := bnd h
  exact eZp X hH (gsm hzb).1 h hr dX12_isRow_6
theorem t_X12_rowAt {μ : Mm} {a0 : Nat} {p1 : Int32} {p2 : Int32} {x : Int32} (h : f_X12_rowAt μ a0 p1 p2 = some x) : tg μ a0 = 13 := by
  unfold f_X12_rowAt at h
  exact (gsn h).1
set_option maxHeartbeats 4000000 in
set_option maxRecDepth 100000 in
theorem c_X12_rowAt (l : Launch) (G : CG) (μ : Mm) (a0 : Nat) (p1 : Int32) (p2 : Int32) (x : Int32) (h : f_X12_rowAt μ a0 p1 p2 = some x) : Met l yX12_rowAt (.code yX12_rowAt cX12_rowAt 3 (some .int) :: UW) (rmk 1 0 0) (PC G [.ref a0, .int p1, .int p2] μ) (QI G x μ) 0 0 (fA G) := by
  refine Met.ofW (cc := cX12_rowAt) (maxL := 3) (ret := (some .int)) (by decide) rfl ?_
  intro p e s m args below meth c s₁ B hml hv
  obtain ⟨X, hH, hr, rfl, hnm⟩ := cx_in B hml hv
  have X : Cx p s m _ meth c cX12_rowAt 3 RX12 G := X
  have hx := X.1
  have hb := X.2.1
  have hown := X.2.2.2.1
  have hts := X.2.2.2.2.1
  have hRL : RmL (rmk 1 0 0) 1 := ⟨Nat.le_refl _, Nat.le_refl _⟩
  have hcs : 0 ≤ (rmk 0 0 0).cells ∧ 0 ≤ (rmk 0 0 0).slots := ⟨Nat.zero_le _, Nat.zero_le _⟩
  refine ls_in (Nat.le_of_ble_eq_true rfl) (fun ls hl => ?_)
  have hl : lv_has ls 3 [(0, .ref a0), (1, .int p1), (2, .int p2)] := hl
  unfold f_X12_rowAt at h
  obtain ⟨htg, h⟩ := gsn h
  refine lv_aload_n hx hb dX12_rowAt_0 rfl (lv_at hl 0 rfl) ?_
  obtain ⟨x1, hx1, h⟩ := bnd h
  refine gf_X12_20 X hH hx1 dX12_rowAt_1 ?_
  refine lv_bipush (v := 40) hx hb dX12_rowAt_4 (by decide) ?_
  refine lv_iload_n hx hb dX12_rowAt_6 rfl (lv_at hl 1 rfl) ?_
  refine lv_imul hx hb dX12_rowAt_7 ?_
  refine lv_iload_n hx hb dX12_rowAt_8 rfl (lv_at hl 2 rfl) ?_
  refine lv_iadd hx hb dX12_rowAt_9 ?_
  obtain ⟨x2, hx2, h⟩ := bnd h
  refine w_aI X hH hx2 dX12_rowAt_10 ?_
  exact eIp X hH h hr dX12_rowAt_11
set_option maxHeartbeats 1000000 in
theorem iv_X12_106 {p : Program} {e : Env} {R : Room} {s : State} {m : MethodId} {args : Array Value} {below : List Frame} {meth : Method} {c : Code} {H : Heap} {locs : List Loc} {cells slots : Nat} {Q : State → Prop} {cc : ByteArray} {pc : Nat} {ls : Array Slot} {rest : List Value} {nL : Nat} {G : CG} {μ : Mm} {q0 : Int32} {x : Int32} {k : Nat} (l : Launch) (X : Cx p s m args meth c cc nL RX12 G) (hH : HS G s μ H locs) (hRL : RmL R k) (hk : 2 + 1 ≤ k) (h : f_X12_isRow μ q0 = some x) (hls : ls.size = nL) (hroom : (rest.map fun v => v.category).sum ≤ 8) (hdg : decode cc pc = .ok (.invokestatic 106, 3)) (hcs : cells + 0 ≤ R.cells ∧ slots + 0 ≤ R.slots) (kk : ∀ (H1 : Heap) (locs1 : List Loc), HS G s μ H1 locs1 → W p l e R s m args below meth c H1 locs1 cells slots Q (F0 m (pc + 3) ls (.int x :: rest))) : W p l e R s m args below meth c H locs cells slots Q (F0 m pc ls (.int q0 :: rest)) := by
  refine kI hH (rS (As := [.int q0]) (rest := rest) X hH (c_X12_isRow l G μ q0 x h) (List.forall_mem_cons.mpr ⟨u_1134, (List.forall_mem_cons.mpr ⟨u_1135, (List.forall_mem_cons.mpr ⟨u_68, (fun _ h9 => absurd h9 List.not_mem_nil)⟩)⟩)⟩) u_1136 (rmo hRL (Nat.le_trans (by decide) hk) (by decide)) ddS_X12_isRow rfl hls rfl hroom hdg hcs) kk
set_option maxHeartbeats 1000000 in
theorem iv_X12_110 {p : Program} {e : Env} {R : Room} {s : State} {m : MethodId} {args : Array Value} {below : List Frame} {meth : Method} {c : Code} {H : Heap} {locs : List Loc} {cells slots : Nat} {Q : State → Prop} {cc : ByteArray} {pc : Nat} {ls : Array Slot} {rest : List Value} {nL : Nat} {G : CG} {μ : Mm} {a : Nat} {q0 : Int32} {x : Int32 × Mm} {k : Nat} (l : Launch) (X : Cx p s m args meth c cc nL RX12 G) (hH : HS G s μ H locs) (hRL : RmL R k) (hk : 1 + 1 ≤ k) (h : f_X12_meets μ a q0 = some x) (hls : ls.size = nL) (hroom : (rest.map fun v => v.category).sum ≤ 8) (hdg : decode cc pc = .ok (.invokevirtual 110, 3)) (hcs : cells + 0 ≤ R.cells ∧ slots + 0 ≤ R.slots) (kk : ∀ (H1 : Heap) (locs1 : List Loc), HS G s x.2 H1 locs1 → W p l e R s m args below meth c H1 locs1 cells slots Q (F0 m (pc + 3) ls (.int x.1 :: rest))) : W p l e R s m args below meth c H locs cells slots Q (F0 m pc ls (.int q0 :: .ref a :: rest)) := by
  refine kI hH (rV (As := [.int q0]) (rest := rest) X hH (t_X12_meets h) vc_12 (c_X12_meets l G μ a q0 x h) (List.forall_mem_cons.mpr ⟨u_1137, (List.forall_mem_cons.mpr ⟨u_1139, (List.forall_mem_cons.mpr ⟨u_22, (List.forall_mem_cons.mpr ⟨u_68, (fun _ h9 => absurd h9 List.not_mem_nil)⟩)⟩)⟩)⟩) u_1140 (rmo hRL (Nat.le_trans (by decide) hk) (by decide)) ddV_X12_meets rfl hls rfl hroom hdg hcs) kk
set_option maxHeartbeats 4000000 in
set_option maxRecDepth 100000 in
theorem w_X12_row_34 {p : Program} {e : Env} {R : Room} {s : State} {m : MethodId} {args : Array Value} {below : List Frame} {meth : Method} {c : Code} {cells slots : Nat} {Q : State → Prop} {G : CG} (l : Launch) (X : Cx p s m args meth c cX12_row 4 RX12 G) (hRL : RmL R 3) (hcs : cells ≤ R.cells ∧ slots ≤ R.slots) : ∀ (n : Nat) (v0 : Nat) (v1 : Int32) (v2 : Int32) (v3 : Int32) (μ : Mm) (x : Mm), lp_X12_row_34 n v0 v1 v2 v3 μ = some x → (∀ (H : Heap) (locs : List Loc) (ls : Array Slot), HS G s x H locs → lv_has ls 4 [(2, .int v2)] → W p l e R s m args below meth c H locs cells slots Q (F0 m 58 ls [])) → ∀ (H : Heap) (locs : List Loc) (ls : Array Slot), HS G s μ H locs → lv_has ls 4 [(0, .ref v0), (1, .int v1), (2, .int v2), (3, .int v3)] → W p l e R s m args below meth c H locs cells slots Q (F0 m 34 ls []) := by
  have hx := X.1
  have hb := X.2.1
  have hown := X.2.2.2.1
  have hts := X.2.2.2.2.1
  intro n
  induction n with
  | zero =>
    intro v0 v1 v2 v3 μ x h
    rw [lp_X12_row_34] at h
    cases h
  | succ n ih =>
    intro v0 v1 v2 v3 μ x h k0 H locs ls hH hl
    rw [lp_X12_row_34] at h
    refine lv_iload_n hx hb dX12_row_34 rfl (lv_at hl 3 rfl) ?_
    refine lv_bipush (v := 40) hx hb dX12_row_35 (by decide) ?_
    refine lv_icmp_ge (tgt := 58) hx hb dX12_row_37 (by decide) (fun hc7 => ?_) (fun hc7 => ?_)
    · replace h := ift h hc7
      cases h
      exact k0 _ _ _ hH (lv_sub hl [2] rfl)
    · replace h := iff' h hc7
      refine lv_aload_n hx hb dX12_row_40 rfl (lv_at hl 0 rfl) ?_
      obtain ⟨x8, hx8, h⟩ := bnd h
      refine gf_X12_20 X hH hx8 dX12_row_41 ?_
      refine lv_bipush (v := 40) hx hb dX12_row_44 (by decide) ?_
      refine lv_iload_n hx hb dX12_row_46 rfl (lv_at hl 1 rfl) ?_
      refine lv_imul hx hb dX12_row_47 ?_
      refine lv_iload_n hx hb dX12_row_48 rfl (lv_at hl 3 rfl) ?_
      refine lv_iadd hx hb dX12_row_49 ?_
      refine lv_iconst (v := 0) hx hb dX12_row_50 (by decide) ?_
      obtain ⟨x9, hx9, h⟩ := bnd h
      refine w_qI X hH hx9 dX12_row_51 (fun H locs hH => ?_)
      refine lv_iinc (v := (v3 + 1)) (lv' := [(3, .int (v3 + 1)), (0, .ref v0), (1, .int v1), (2, .int v2)]) hx hb dX12_row_52 hl (k := 3) rfl rfl (by decide) rfl (fun ls hl => ?_)
      refine lv_goto (tgt := 34) hx hb dX12_row_55 (by decide) ?_
      exact ih _ _ _ _ _ _ h k0 _ _ _ hH (lv_sub hl [1, 2, 3, 0] rfl)
theorem t_X12_row {μ : Mm} {a0 : Nat} {p1 : Int32} {p2 : Int32} {x : Int32 × Mm} (h : f_X12_row μ a0 p1 p2 = some x) : tg μ a0 = 13 := by
  unfold f_X12_row at h
  exact (gsn h).1
set_option maxHeartbeats 4000000 in
set_option maxRecDepth 100000 in
theorem c_X12_row (l : Launch) (G : CG) (μ : Mm) (a0 : Nat) (p1 : Int32) (p2 : Int32) (x : Int32 × Mm) (h : f_X12_row μ a0 p1 p2 = some x) : Met l yX12_row (.code yX12_row cX12_row 4 (some .int) :: UW) (rmk 3 0 0) (PC G [.ref a0, .int p1, .int p2] μ) (QI G x.1 x.2) 0 0 (fA G) := by
  refine Met.ofW (cc := cX12_row) (maxL := 4) (ret := (some .int)) (by decide) rfl ?_
  intro p e s m args below meth c s₁ B hml hv
  obtain ⟨X, hH, hr, rfl, hnm⟩ := cx_in B hml hv
  have X : Cx p s m _ meth c cX12_row 4 RX12 G := X
  have hx := X.1
  have hb := X.2.1
  have hown := X.2.2.2.1
  have hts := X.2.2.2.2.1
  have hRL : RmL (rmk 3 0 0) 3 := ⟨Nat.le_refl _, Nat.le_refl _⟩
  have hcs : 0 ≤ (rmk 0 0 0).cells ∧ 0 ≤ (rmk 0 0 0).slots := ⟨Nat.zero_le _, Nat.zero_le _⟩
  refine ls_in (Nat.le_of_ble_eq_true rfl) (fun ls hl => ?_)
  have hl : lv_has ls 4 [(0, .ref a0), (1, .int p1), (2, .int p2)] := hl
  unfold f_X12_row at h
  obtain ⟨htg, h⟩ := gsn h
  refine lv_iload_n hx hb dX12_row_0 rfl (lv_at hl 1 rfl) ?_
  obtain ⟨x1, hx1, h⟩ := bnd h
  refine iv_X12_106 l X hH hRL (by decide) hx1 hl.1 (Nat.le_of_ble_eq_true rfl) dX12_row_1 hcs (fun H locs hH => ?_)
  refine lv_if_eq (tgt := 13) hx hb dX12_row_4 (by decide) (fun hc2 => ?_) (fun hc2 => ?_)
  · replace h := ift h hc2
    refine lv_iconst (v := -1) hx hb dX12_row_13 (by decide) ?_
    exact eI X hH h hr dX12_row_14 (Nat.le_of_ble_eq_true rfl) (Nat.le_of_ble_eq_true rfl)
  · replace h := iff' h hc2
    refine lv_iload_n hx hb dX12_row_7 rfl (lv_at hl 2 rfl) ?_
    refine lv_bipush (v := 40) hx hb dX12_row_8 (by decide) ?_
    refine lv_icmp_le (tgt := 15) hx hb dX12_row_10 (by decide) (fun hc3 => ?_) (fun hc3 => ?_)
    · replace h := ift h hc3
      refine lv_iload_n hx hb dX12_row_15 rfl (lv_at hl 2 rfl) ?_
      refine lv_if_ge (tgt := 25) hx hb dX12_row_16 (by decide) (fun hc4 => ?_) (fun hc4 => ?_)
      · replace h := ift h hc4
        refine lv_aload_n hx hb dX12_row_25 rfl (lv_at hl 0 rfl) ?_
        obtain ⟨x5, hx5, h⟩ := bnd h
        refine gf_X12_17 X hH hx5 dX12_row_26 ?_
        refine lv_iload_n hx hb dX12_row_29 rfl (lv_at hl 1 rfl) ?_
        refine lv_iload_n hx hb dX12_row_30 rfl (lv_at hl 2 rfl) ?_
        obtain ⟨x6, hx6, h⟩ := bnd h
        refine w_qI X hH hx6 dX12_row_31 (fun H locs hH => ?_)
        refine lv_iconst (v := 0) hx hb dX12_row_32 (by decide) ?_
        refine lv_istore_n (lv' := [(3, .int (0 : Int32)), (0, .ref a0), (1, .int p1), (2, .int p2)]) hx hb dX12_row_33 rfl hl (by decide) rfl (fun ls hl => ?_)
        obtain ⟨x10, hx10, hhx10⟩ := bnd h
        clear h
        refine w_X12_row_34 l X hRL hcs BIG a0 p1 p2 (0 : Int32) x6 x10 hx10 (fun H locs ls hH hl => ?_) _ _ _ hH (lv_sub hl [1, 2, 3, 0] rfl)
        · have h := hhx10
          clear hhx10
          refine lv_iload_n hx hb dX12_row_58 rfl (lv_at hl 0 rfl) ?_
          exact eI X hH h hr dX12_row_59 (Nat.le_of_ble_eq_true rfl) (Nat.le_of_ble_eq_true rfl)
      · replace h := iff' h hc4
        refine lv_aload_n hx hb dX12_row_19 rfl (lv_at hl 0 rfl) ?_
        refine lv_iconst (v := 5) hx hb dX12_row_20 (by decide) ?_
        obtain ⟨x11, hx11, h⟩ := bnd h
        refine iv_X12_110 l X hH hRL (by decide) hx11 hl.1 (Nat.le_of_ble_eq_true rfl) dX12_row_21 hcs (fun H locs hH => ?_)
        exact eI X hH h hr dX12_row_24 (Nat.le_of_ble_eq_true rfl) (Nat.le_of_ble_eq_true rfl)
    · replace h := iff' h hc3
      refine lv_iconst (v := -1) hx hb dX12_row_13 (by decide) ?_
      exact eI X hH h hr dX12_row_14 (Nat.le_of_ble_eq_true rfl) (Nat.le_of_ble_eq_true rfl)
set_option maxHeartbeats 1000000 in
theorem iv_X12_114 {p : Program} {e : Env} {R : Room} {s : State} {m : MethodId} {args : Array Value} {below : List Frame} {meth : Method} {c : Code} {H : Heap} {locs : List Loc} {cells slots : Nat} {Q : State → Prop} {cc : ByteArray} {pc : Nat} {ls : Array Slot} {rest : List Value} {nL : Nat} {G : CG} {μ : Mm} {a : Nat} {q0 : Int32} {q1 : Int32} {x : Int32} {k : Nat} (l : Launch) (X : Cx p s m args meth c cc nL RX12 G) (hH : HS G s μ H locs) (hRL : RmL R k) (hk : 1 + 1 ≤ k) (h : f_X12_rowAt μ a q0 q1 = some x) (hls : ls.size = nL) (hroom : (rest.map fun v => v.category).sum ≤ 8) (hdg : decode cc pc = .ok (.invokevirtual 114, 3)) (hcs : cells + 0 ≤ R.cells ∧ slots + 0 ≤ R.slots) (kk : ∀ (H1 : Heap) (locs1 : List Loc), HS G s μ H1 locs1 → W p l e R s m args below meth c H1 locs1 cells slots Q (F0 m (pc + 3) ls (.int x :: rest))) : W p l e R s m args below meth c H locs cells slots Q (F0 m pc ls (.int q1 :: .int q0 :: .ref a :: rest)) := by
  refine kI hH (rV (As := [.int q0, .int q1]) (rest := rest) X hH (t_X12_rowAt h) vc_12 (c_X12_rowAt l G μ a q0 q1 x h) (List.forall_mem_cons.mpr ⟨u_1145, (List.forall_mem_cons.mpr ⟨u_1147, (List.forall_mem_cons.mpr ⟨u_23, (List.forall_mem_cons.mpr ⟨u_68, (fun _ h9 => absurd h9 List.not_mem_nil)⟩)⟩)⟩)⟩) u_1148 (rmo hRL (Nat.le_trans (by decide) hk) (by decide)) ddV_X12_rowAt rfl hls rfl hroom hdg hcs) kk
set_option maxHeartbeats 1000000 in
theorem iv_X12_118 {p : Program} {e : Env} {R : Room} {s : State} {m : MethodId} {args : Array Value} {below : List Frame} {meth : Method} {c : Code} {H : Heap} {locs : List Loc} {cells slots : Nat} {Q : State → Prop} {cc : ByteArray} {pc : Nat} {ls : Array Slot} {rest : List Value} {nL : Nat} {G : CG} {μ : Mm} {a : Nat} {q0 : Int32} {q1 : Int32} {x : Int32 × Mm} {k : Nat} (l : Launch) (X : Cx p s m args meth c cc nL RX12 G) (hH : HS G s μ H locs) (hRL : RmL R k) (hk : 1 + 1 ≤ k) (h : f_X12_tells μ a q0 q1 = some x) (hls : ls.size = nL) (hroom : (rest.map fun v => v.category).sum ≤ 8) (hdg : decode cc pc = .ok (.invokevirtual 118, 3)) (hcs : cells + 0 ≤ R.cells ∧ slots + 0 ≤ R.slots) (kk : ∀ (H1 : Heap) (locs1 : List Loc), HS G s x.2 H1 locs1 → W p l e R s m args below meth c H1 locs1 cells slots Q (F0 m (pc + 3) ls (.int x.1 :: rest))) : W p l e R s m args below meth c H locs cells slots Q (F0 m pc ls (.int q1 :: .int q0 :: .ref a :: rest)) := by
  refine kI hH (rV (As := [.int q0, .int q1]) (rest := rest) X hH (t_X12_tells h) vc_12 (c_X12_tells l G μ a q0 q1 x h) (List.forall_mem_cons.mpr ⟨u_1149, (List.forall_mem_cons.mpr ⟨u_1151, (List.forall_mem_cons.mpr ⟨u_24, (List.forall_mem_cons.mpr ⟨u_68, (fun _ h9 => absurd h9 List.not_mem_nil)⟩)⟩)⟩)⟩) u_1152 (rmo hRL (Nat.le_trans (by decide) hk) (by decide)) ddV_X12_tells rfl hls rfl hroom hdg hcs) kk
theorem t_X12_lay {μ : Mm} {a0 : Nat} {p1 : Int32} {p2 : Int32} {p3 : Int32} {x : Int32 × Mm} (h : f_X12_lay μ a0 p1 p2 p3 = some x) : tg μ a0 = 13 := by
  unfold f_X12_lay at h
  exact (gsn h).1
set_option maxHeartbeats 4000000 in
set_option maxRecDepth 100000 in
theorem c_X12_lay (l : Launch) (G : CG) (μ : Mm) (a0 : Nat) (p1 : Int32) (p2 : Int32) (p3 : Int32) (x : Int32 × Mm) (h : f_X12_lay μ a0 p1 p2 p3 = some x) : Met l yX12_lay (.code yX12_lay cX12_lay 5 (some .int) :: UW) (rmk 3 0 0) (PC G [.ref a0, .int p1, .int p2, .int p3] μ) (QI G x.1 x.2) 0 0 (fA G) := by
  refine Met.ofW (cc := cX12_lay) (maxL := 5) (ret := (some .int)) (by decide) rfl ?_
  intro p e s m args below meth c s₁ B hml hv
  obtain ⟨X, hH, hr, rfl, hnm⟩ := cx_in B hml hv
  have X : Cx p s m _ meth c cX12_lay 5 RX12 G := X
  have hx := X.1
  have hb := X.2.1
  have hown := X.2.2.2.1
  have hts := X.2.2.2.2.1
  have hRL : RmL (rmk 3 0 0) 3 := ⟨Nat.le_refl _, Nat.le_refl _⟩
  have hcs : 0 ≤ (rmk 0 0 0).cells ∧ 0 ≤ (rmk 0 0 0).slots := ⟨Nat.zero_le _, Nat.zero_le _⟩
  refine ls_in (Nat.le_of_ble_eq_true rfl) (fun ls hl => ?_)
  have hl : lv_has ls 5 [(0, .ref a0), (1, .int p1), (2, .int p2), (3, .int p3)] := hl
  unfold f_X12_lay at h
  obtain ⟨htg, h⟩ := gsn h
  refine lv_iload_n hx hb dX12_lay_0 rfl (lv_at hl 1 rfl) ?_
  obtain ⟨x1, hx1, h⟩ := bnd h
  refine iv_X12_106 l X hH hRL (by decide) hx1 hl.1 (Nat.le_of_ble_eq_true rfl) dX12_lay_1 hcs (fun H locs hH => ?_)
  refine lv_if_ne (tgt := 9) hx hb dX12_lay_4 (by decide) (fun hc2 => ?_) (fun hc2 => ?_)
  · replace h := iff' h hc2
    refine lv_aload_n hx hb dX12_lay_9 rfl (lv_at hl 0 rfl) ?_
    obtain ⟨x3, hx3, h⟩ := bnd h
    refine gf_X12_17 X hH hx3 dX12_lay_10 ?_
    refine lv_iload_n hx hb dX12_lay_13 rfl (lv_at hl 1 rfl) ?_
    obtain ⟨x4, hx4, h⟩ := bnd h
    refine w_aI X hH hx4 dX12_lay_14 ?_
    refine lv_if_ge (tgt := 24) hx hb dX12_lay_15 (by decide) (fun hc5 => ?_) (fun hc5 => ?_)
    · replace h := ift h hc5
      refine lv_iload_n hx hb dX12_lay_24 rfl (lv_at hl 2 rfl) ?_
      refine lv_iconst (v := 0) hx hb dX12_lay_25 (by decide) ?_
      refine lv_aload_n hx hb dX12_lay_26 rfl (lv_at hl 0 rfl) ?_
      obtain ⟨x6, hx6, h⟩ := bnd h
      refine gf_X12_17 X hH hx6 dX12_lay_27 ?_
      refine lv_iload_n hx hb dX12_lay_30 rfl (lv_at hl 1 rfl) ?_
      obtain ⟨x7, hx7, h⟩ := bnd h
      refine w_aI X hH hx7 dX12_lay_31 ?_
      refine lv_iconst (v := 1) hx hb dX12_lay_32 (by decide) ?_
      refine lv_isub hx hb dX12_lay_33 ?_
      obtain ⟨x8, hx8, h⟩ := bnd h
      refine iv_X12_96 l X hH hRL (by decide) hx8 hl.1 (Nat.le_of_ble_eq_true rfl) dX12_lay_34 hcs (fun H locs hH => ?_)
      refine lv_if_ne (tgt := 46) hx hb dX12_lay_37 (by decide) (fun hc9 => ?_) (fun hc9 => ?_)
      · replace h := iff' h hc9
        refine lv_aload_n hx hb dX12_lay_46 rfl (lv_at hl 0 rfl) ?_
        refine lv_iload_n hx hb dX12_lay_47 rfl (lv_at hl 1 rfl) ?_
        refine lv_iload_n hx hb dX12_lay_48 rfl (lv_at hl 2 rfl) ?_
        obtain ⟨x10, hx10, h⟩ := bnd h
        refine iv_X12_114 l X hH hRL (by decide) hx10 hl.1 (Nat.le_of_ble_eq_true rfl) dX12_lay_49 hcs (fun H locs hH => ?_)
        refine lv_istore (lv' := [(4, .int x10), (0, .ref a0), (1, .int p1), (2, .int p2), (3, .int p3)]) hx hb dX12_lay_52 hl (by decide) rfl (fun ls hl => ?_)
        refine lv_aload_n hx hb dX12_lay_54 rfl (lv_at hl 1 rfl) ?_
        obtain ⟨x11, hx11, h⟩ := bnd h
        refine gf_X12_20 X hH hx11 dX12_lay_55 ?_
        refine lv_bipush (v := 40) hx hb dX12_lay_58 (by decide) ?_
        refine lv_iload_n hx hb dX12_lay_60 rfl (lv_at hl 2 rfl) ?_
        refine lv_imul hx hb dX12_lay_61 ?_
        refine lv_iload_n hx hb dX12_lay_62 rfl (lv_at hl 3 rfl) ?_
        refine lv_iadd hx hb dX12_lay_63 ?_
        refine lv_iload_n hx hb dX12_lay_64 rfl (lv_at hl 4 rfl) ?_
        obtain ⟨x12, hx12, h⟩ := bnd h
        refine w_qI X hH hx12 dX12_lay_65 (fun H locs hH => ?_)
        refine lv_aload_n hx hb dX12_lay_66 rfl (lv_at hl 1 rfl) ?_
        refine lv_iload hx hb dX12_lay_67 (lv_at hl 0 rfl) ?_
        refine lv_iconst (v := 1) hx hb dX12_lay_69 (by decide) ?_
        obtain ⟨x13, hx13, h⟩ := bnd h
        refine iv_X12_118 l X hH hRL (by decide) hx13 hl.1 (Nat.le_of_ble_eq_true rfl) dX12_lay_70 hcs (fun H locs hH => ?_)
        exact eI X hH h hr dX12_lay_73 (Nat.le_of_ble_eq_true rfl) (Nat.le_of_ble_eq_true rfl)
      · replace h := ift h hc9
        refine lv_aload_n hx hb dX12_lay_40 rfl (lv_at hl 0 rfl) ?_
        refine lv_iconst (v := 2) hx hb dX12_lay_41 (by decide) ?_
        obtain ⟨x14, hx14, h⟩ := bnd h
        refine iv_X12_110 l X hH hRL (by decide) hx14 hl.1 (Nat.le_of_ble_eq_true rfl) dX12_lay_42 hcs (fun H locs hH => ?_)
        exact eI X hH h hr dX12_lay_45 (Nat.le_of_ble_eq_true rfl) (Nat.le_of_ble_eq_true rfl)
    · replace h := iff' h hc5
      refine lv_aload_n hx hb dX12_lay_18 rfl (lv_at hl 0 rfl) ?_
      refine lv_iconst (v := 1) hx hb dX12_lay_19 (by decide) ?_
      obtain ⟨x15, hx15, h⟩ := bnd h
      refine iv_X12_110 l X hH hRL (by decide) hx15 hl.1 (Nat.le_of_ble_eq_true rfl) dX12_lay_20 hcs (fun H locs hH => ?_)
      exact eI X hH h hr dX12_lay_23 (Nat.le_of_ble_eq_true rfl) (Nat.le_of_ble_eq_true rfl)
  · replace h := ift h hc2
    refine lv_iconst (v := -1) hx hb dX12_lay_7 (by decide) ?_
    exact eI X hH h hr dX12_lay_8 (Nat.le_of_ble_eq_true rfl) (Nat.le_of_ble_eq_true rfl)
theorem t_X12_at {μ : Mm} {a0 : Nat} {p1 : Int32} {p2 : Int32} {x : Int32 × Mm} (h : f_X12_at μ a0 p1 p2 = some x) : tg μ a0 = 13 := by
  unfold f_X12_at at h
  exact (gsn h).1
set_option maxHeartbeats 4000000 in
set_option maxRecDepth 100000 in
theorem c_X12_at (l : Launch) (G : CG) (μ : Mm) (a0 : Nat) (p1 : Int32) (p2 : Int32) (x : Int32 × Mm) (h : f_X12_at μ a0 p1 p2 = some x) : Met l yX12_at (.code yX12_at cX12_at 3 (some .int) :: UW) (rmk 3 0 0) (PC G [.ref a0, .int p1, .int p2] μ) (QI G x.1 x.2) 0 0 (fA G) := by
  refine Met.ofW (cc := cX12_at) (maxL := 3) (ret := (some .int)) (by decide) rfl ?_
  intro p e s m args below meth c s₁ B hml hv
  obtain ⟨X, hH, hr, rfl, hnm⟩ := cx_in B hml hv
  have X : Cx p s m _ meth c cX12_at 3 RX12 G := X
  have hx := X.1
  have hb := X.2.1
  have hown := X.2.2.2.1
  have hts := X.2.2.2.2.1
  have hRL : RmL (rmk 3 0 0) 3 := ⟨Nat.le_refl _, Nat.le_refl _⟩
  have hcs : 0 ≤ (rmk 0 0 0).cells ∧ 0 ≤ (rmk 0 0 0).slots := ⟨Nat.zero_le _, Nat.zero_le _⟩
  refine ls_in (Nat.le_of_ble_eq_true rfl) (fun ls hl => ?_)
  have hl : lv_has ls 3 [(0, .ref a0), (1, .int p1), (2, .int p2)] := hl
  unfold f_X12_at at h
  obtain ⟨htg, h⟩ := gsn h
  refine lv_iload_n hx hb dX12_at_0 rfl (lv_at hl 1 rfl) ?_
  obtain ⟨x1, hx1, h⟩ := bnd h
  refine iv_X12_106 l X hH hRL (by decide) hx1 hl.1 (Nat.le_of_ble_eq_true rfl) dX12_at_1 hcs (fun H locs hH => ?_)
  refine lv_if_ne (tgt := 9) hx hb dX12_at_4 (by decide) (fun hc2 => ?_) (fun hc2 => ?_)
  · replace h := iff' h hc2
    refine lv_aload_n hx hb dX12_at_9 rfl (lv_at hl 0 rfl) ?_
    obtain ⟨x3, hx3, h⟩ := bnd h
    refine gf_X12_17 X hH hx3 dX12_at_10 ?_
    refine lv_iload_n hx hb dX12_at_13 rfl (lv_at hl 1 rfl) ?_
    obtain ⟨x4, hx4, h⟩ := bnd h
    refine w_aI X hH hx4 dX12_at_14 ?_
    refine lv_if_ge (tgt := 24) hx hb dX12_at_15 (by decide) (fun hc5 => ?_) (fun hc5 => ?_)
    · replace h := ift h hc5
      refine lv_iload_n hx hb dX12_at_24 rfl (lv_at hl 2 rfl) ?_
      refine lv_iconst (v := 0) hx hb dX12_at_25 (by decide) ?_
      refine lv_aload_n hx hb dX12_at_26 rfl (lv_at hl 0 rfl) ?_
      obtain ⟨x6, hx6, h⟩ := bnd h
      refine gf_X12_17 X hH hx6 dX12_at_27 ?_
      refine lv_iload_n hx hb dX12_at_30 rfl (lv_at hl 1 rfl) ?_
      obtain ⟨x7, hx7, h⟩ := bnd h
      refine w_aI X hH hx7 dX12_at_31 ?_
      refine lv_iconst (v := 1) hx hb dX12_at_32 (by decide) ?_
      refine lv_isub hx hb dX12_at_33 ?_
      obtain ⟨x8, hx8, h⟩ := bnd h
      refine iv_X12_96 l X hH hRL (by decide) hx8 hl.1 (Nat.le_of_ble_eq_true rfl) dX12_at_34 hcs (fun H locs hH => ?_)
      refine lv_if_eq (tgt := 54) hx hb dX12_at_37 (by decide) (fun hc9 => ?_) (fun hc9 => ?_)
      · replace h := ift h hc9
        refine lv_aload_n hx hb dX12_at_54 rfl (lv_at hl 0 rfl) ?_
        refine lv_iconst (v := 2) hx hb dX12_at_55 (by decide) ?_
        obtain ⟨x10, hx10, h⟩ := bnd h
        refine iv_X12_110 l X hH hRL (by decide) hx10 hl.1 (Nat.le_of_ble_eq_true rfl) dX12_at_56 hcs (fun H locs hH => ?_)
        exact eI X hH h hr dX12_at_59 (Nat.le_of_ble_eq_true rfl) (Nat.le_of_ble_eq_true rfl)
      · replace h := iff' h hc9
        refine lv_aload_n hx hb dX12_at_40 rfl (lv_at hl 0 rfl) ?_
        refine lv_aload_n hx hb dX12_at_41 rfl (lv_at hl 0 rfl) ?_
        refine lv_iload_n hx hb dX12_at_42 rfl (lv_at hl 1 rfl) ?_
        refine lv_iload_n hx hb dX12_at_43 rfl (lv_at hl 2 rfl) ?_
        obtain ⟨x11, hx11, h⟩ := bnd h
        refine iv_X12_114 l X hH hRL (by decide) hx11 hl.1 (Nat.le_of_ble_eq_true rfl) dX12_at_44 hcs (fun H locs hH => ?_)
        refine lv_iconst (v := 1) hx hb dX12_at_47 (by decide) ?_
        obtain ⟨x12, hx12, h⟩ := bnd h
        refine iv_X12_118 l X hH hRL (by decide) hx12 hl.1 (Nat.le_of_ble_eq_true rfl) dX12_at_48 hcs (fun H locs hH => ?_)
        refine lv_goto (tgt := 59) hx hb dX12_at_51 (by decide) ?_
        exact eI X hH h hr dX12_at_59 (Nat.le_of_ble_eq_true rfl) (Nat.le_of_ble_eq_true rfl)
    · replace h := iff' h hc5
      refine lv_aload_n hx hb dX12_at_18 rfl (lv_at hl 0 rfl) ?_
      refine lv_iconst (v := 1) hx hb dX12_at_19 (by decide) ?_
      obtain ⟨x13, hx13, h⟩ := bnd h
      refine iv_X12_110 l X hH hRL (by decide) hx13 hl.1 (Nat.le_of_ble_eq_true rfl) dX12_at_20 hcs (fun H locs hH => ?_)
      exact eI X hH h hr dX12_at_23 (Nat.le_of_ble_eq_true rfl) (Nat.le_of_ble_eq_true rfl)
  · replace h := ift h hc2
    refine lv_iconst (v := -1) hx hb dX12_at_7 (by decide) ?_
    exact eI X hH h hr dX12_at_8 (Nat.le_of_ble_eq_true rfl) (Nat.le_of_ble_eq_true rfl)
theorem t_X12_tear {μ : Mm} {a0 : Nat} {p1 : Int32} {x : Int32 × Mm} (h : f_X12_tear μ a0 p1 = some x) : tg μ a0 = 13 := by
  unfold f_X12_tear at h
  exact (gsn h).1
set_option maxHeartbeats 4000000 in
set_option maxRecDepth 100000 in
theorem c_X12_tear (l : Launch) (G : CG) (μ : Mm) (a0 : Nat) (p1 : Int32) (x : Int32 × Mm) (h : f_X12_tear μ a0 p1 = some x) : Met l yX12_tear (.code yX12_tear cX12_tear 2 (some .int) :: UW) (rmk 3 0 0) (PC G [.ref a0, .int p1] μ) (QI G x.1 x.2) 0 0 (fA G) := by
  refine Met.ofW (cc := cX12_tear) (maxL := 2) (ret := (some .int)) (by decide) rfl ?_
  intro p e s m args below meth c s₁ B hml hv
  obtain ⟨X, hH, hr, rfl, hnm⟩ := cx_in B hml hv
  have X : Cx p s m _ meth c cX12_tear 2 RX12 G := X
  have hx := X.1
  have hb := X.2.1
  have hown := X.2.2.2.1
  have hts := X.2.2.2.2.1
  have hRL : RmL (rmk 3 0 0) 3 := ⟨Nat.le_refl _, Nat.le_refl _⟩
  have hcs : 0 ≤ (rmk 0 0 0).cells ∧ 0 ≤ (rmk 0 0 0).slots := ⟨Nat.zero_le _, Nat.zero_le _⟩
  refine ls_in (Nat.le_of_ble_eq_true rfl) (fun ls hl => ?_)
  have hl : lv_has ls 2 [(0, .ref a0), (1, .int p1)] := hl
  unfold f_X12_tear at h
  obtain ⟨htg, h⟩ := gsn h
  refine lv_iload_n hx hb dX12_tear_0 rfl (lv_at hl 1 rfl) ?_
  obtain ⟨x1, hx1, h⟩ := bnd h
  refine iv_X12_106 l X hH hRL (by decide) hx1 hl.1 (Nat.le_of_ble_eq_true rfl) dX12_tear_1 hcs (fun H locs hH => ?_)
  refine lv_if_ne (tgt := 9) hx hb dX12_tear_4 (by decide) (fun hc2 => ?_) (fun hc2 => ?_)
  · replace h := iff' h hc2
    refine lv_aload_n hx hb dX12_tear_9 rfl (lv_at hl 0 rfl) ?_
    obtain ⟨x3, hx3, h⟩ := bnd h
    refine gf_X12_17 X hH hx3 dX12_tear_10 ?_
    refine lv_iload_n hx hb dX12_tear_13 rfl (lv_at hl 1 rfl) ?_
    obtain ⟨x4, hx4, h⟩ := bnd h
    refine w_aI X hH hx4 dX12_tear_14 ?_
    refine lv_if_ge (tgt := 24) hx hb dX12_tear_15 (by decide) (fun hc5 => ?_) (fun hc5 => ?_)
    · replace h := ift h hc5
      refine lv_aload_n hx hb dX12_tear_24 rfl (lv_at hl 0 rfl) ?_
      obtain ⟨x6, hx6, h⟩ := bnd h
      refine gf_X12_17 X hH hx6 dX12_tear_25 ?_
      refine lv_iload_n hx hb dX12_tear_28 rfl (lv_at hl 1 rfl) ?_
      refine lv_iconst (v := -1) hx hb dX12_tear_29 (by decide) ?_
      obtain ⟨x7, hx7, h⟩ := bnd h
      refine w_qI X hH hx7 dX12_tear_30 (fun H locs hH => ?_)
      refine lv_iconst (v := 1) hx hb dX12_tear_31 (by decide) ?_
      exact eI X hH h hr dX12_tear_32 (Nat.le_of_ble_eq_true rfl) (Nat.le_of_ble_eq_true rfl)
    · replace h := iff' h hc5
      refine lv_aload_n hx hb dX12_tear_18 rfl (lv_at hl 0 rfl) ?_
      refine lv_iconst (v := 1) hx hb dX12_tear_19 (by decide) ?_
      obtain ⟨x8, hx8, h⟩ := bnd h
      refine iv_X12_110 l X hH hRL (by decide) hx8 hl.1 (Nat.le_of_ble_eq_true rfl) dX12_tear_20 hcs (fun H locs hH => ?_)
      exact eI X hH h hr dX12_tear_23 (Nat.le_of_ble_eq_true rfl) (Nat.le_of_ble_eq_true rfl)
  · replace h := ift h hc2
    refine lv_iconst (v := -1) hx hb dX12_tear_7 (by decide) ?_
    exact eI X hH h hr dX12_tear_8 (Nat.le_of_ble_eq_true rfl) (Nat.le_of_ble_eq_true rfl)
set_option maxHeartbeats 4000000 in
set_option maxRecDepth 100000 in
theorem w_X12_copy_104 {p : Program} {e : Env} {R : Room} {s : State} {m : MethodId} {args : Array Value} {below : List Frame} {meth : Method} {c : Code} {cells slots : Nat} {Q : State → Prop} {G : CG} (l : Launch) (X : Cx p s m args meth c cX12_copy 7 RX12 G) (hRL : RmL R 3) (hcs : cells ≤ R.cells ∧ slots ≤ R.slots) : ∀ (n : Nat) (v0 : Nat) (v1 : Int32) (v2 : Int32) (v3 : Int32) (v4 : Int32) (v5 : Int32) (v6 : Int32) (μ : Mm) (x : Mm), lp_X12_copy_104 n v0 v1 v2 v3 v4 v5 v6 μ = some x → (∀ (H : Heap) (locs : List Loc) (ls : Array Slot), HS G s x H locs → lv_has ls 7 [(0, .ref v0), (3, .int v3), (4, .int v4), (5, .int v5)] → W p l e R s m args below meth c H locs cells slots Q (F0 m 133 ls [])) → ∀ (H : Heap) (locs : List Loc) (ls : Array Slot), HS G s μ H locs → lv_has ls 7 [(0, .ref v0), (1, .int v1), (2, .int v2), (3, .int v3), (4, .int v4), (5, .int v5), (6, .int v6)] → W p l e R s m args below meth c H locs cells slots Q (F0 m 104 ls []) := by
  have hx := X.1
  have hb := X.2.1
  have hown := X.2.2.2.1
  have hts := X.2.2.2.2.1
  intro n
  induction n with
  | zero =>
    intro v0 v1 v2 v3 v4 v5 v6 μ x h
    rw [lp_X12_copy_104] at h
    cases h
  | succ n ih =>
    intro v0 v1 v2 v3 v4 v5 v6 μ x h k0 H locs ls hH hl
    rw [lp_X12_copy_104] at h
    refine lv_iload hx hb dX12_copy_104 (lv_at hl 6 rfl) ?_
    refine lv_iload hx hb dX12_copy_106 (lv_at hl 5 rfl) ?_
    refine lv_icmp_ge (tgt := 133) hx hb dX12_copy_108 (by decide) (fun hc24 => ?_) (fun hc24 => ?_)
    · replace h := ift h hc24
      cases h
      exact k0 _ _ _ hH (lv_sub hl [0, 3, 4, 5] rfl)
    · replace h := iff' h hc24
      refine lv_aload_n hx hb dX12_copy_111 rfl (lv_at hl 0 rfl) ?_
      obtain ⟨x25, hx25, h⟩ := bnd h
      refine gf_X12_23 X hH hx25 dX12_copy_112 ?_
      refine lv_iload hx hb dX12_copy_115 (lv_at hl 6 rfl) ?_
      refine lv_aload_n hx hb dX12_copy_117 rfl (lv_at hl 0 rfl) ?_
      refine lv_iload_n hx hb dX12_copy_118 rfl (lv_at hl 1 rfl) ?_
      refine lv_iload_n hx hb dX12_copy_119 rfl (lv_at hl 2 rfl) ?_
      refine lv_iload hx hb dX12_copy_120 (lv_at hl 6 rfl) ?_
      refine lv_iadd hx hb dX12_copy_122 ?_
      obtain ⟨x26, hx26, h⟩ := bnd h
      refine iv_X12_114 l X hH hRL (by decide) hx26 hl.1 (Nat.le_of_ble_eq_true rfl) dX12_copy_123 hcs (fun H locs hH => ?_)
      obtain ⟨x27, hx27, h⟩ := bnd h
      refine w_qI X hH hx27 dX12_copy_126 (fun H locs hH => ?_)
      refine lv_iinc (v := (v6 + 1)) (lv' := [(6, .int (v6 + 1)), (0, .ref v0), (1, .int v1), (2, .int v2), (3, .int v3), (4, .int v4), (5, .int v5)]) hx hb dX12_copy_127 hl (k := 6) rfl rfl (by decide) rfl (fun ls hl => ?_)
      refine lv_goto (tgt := 104) hx hb dX12_copy_130 (by decide) ?_
      exact ih _ _ _ _ _ _ _ _ _ h k0 _ _ _ hH (lv_sub hl [1, 2, 3, 4, 5, 6, 0] rfl)
set_option maxHeartbeats 4000000 in
set_option maxRecDepth 100000 in
theorem w_X12_copy_136 {p : Program} {e : Env} {R : Room} {s : State} {m : MethodId} {args : Array Value} {below : List Frame} {meth : Method} {c : Code} {cells slots : Nat} {Q : State → Prop} {G : CG} (l : Launch) (X : Cx p s m args meth c cX12_copy 7 RX12 G) (hRL : RmL R 3) (hcs : cells ≤ R.cells ∧ slots ≤ R.slots) : ∀ (n : Nat) (v0 : Nat) (v3 : Int32) (v4 : Int32) (v5 : Int32) (v6 : Int32) (μ : Mm) (x : Mm), lp_X12_copy_136 n v0 v3 v4 v5 v6 μ = some x → (∀ (H : Heap) (locs : List Loc) (ls : Array Slot), HS G s x H locs → lv_has ls 7 [] → W p l e R s m args below meth c H locs cells slots Q (F0 m 171 ls [])) → ∀ (H : Heap) (locs : List Loc) (ls : Array Slot), HS G s μ H locs → lv_has ls 7 [(0, .ref v0), (3, .int v3), (4, .int v4), (5, .int v5), (6, .int v6)] → W p l e R s m args below meth c H locs cells slots Q (F0 m 136 ls []) := by
  have hx := X.1
  have hb := X.2.1
  have hown := X.2.2.2.1
  have hts := X.2.2.2.2.1
  intro n
  induction n with
  | zero =>
    intro v0 v3 v4 v5 v6 μ x h
    rw [lp_X12_copy_136] at h
    cases h
  | succ n ih =>
    intro v0 v3 v4 v5 v6 μ x h k0 H locs ls hH hl
    rw [lp_X12_copy_136] at h
    refine lv_iload hx hb dX12_copy_136 (lv_at hl 4 rfl) ?_
    refine lv_iload hx hb dX12_copy_138 (lv_at hl 3 rfl) ?_
    refine lv_icmp_ge (tgt := 171) hx hb dX12_copy_140 (by decide) (fun hc29 => ?_) (fun hc29 => ?_)
    · replace h := ift h hc29
      cases h
      exact k0 _ _ _ hH (lv_sub hl [] rfl)
    · replace h := iff' h hc29
      refine lv_aload_n hx hb dX12_copy_143 rfl (lv_at hl 0 rfl) ?_
      obtain ⟨x30, hx30, h⟩ := bnd h
      refine gf_X12_20 X hH hx30 dX12_copy_144 ?_
      refine lv_bipush (v := 40) hx hb dX12_copy_147 (by decide) ?_
      refine lv_iload_n hx hb dX12_copy_149 rfl (lv_at hl 1 rfl) ?_
      refine lv_imul hx hb dX12_copy_150 ?_
      refine lv_iload hx hb dX12_copy_151 (lv_at hl 2 rfl) ?_
      refine lv_iadd hx hb dX12_copy_153 ?_
      refine lv_iload hx hb dX12_copy_154 (lv_at hl 4 rfl) ?_
      refine lv_iadd hx hb dX12_copy_156 ?_
      refine lv_aload_n hx hb dX12_copy_157 rfl (lv_at hl 0 rfl) ?_
      obtain ⟨x31, hx31, h⟩ := bnd h
      refine gf_X12_23 X hH hx31 dX12_copy_158 ?_
      refine lv_iload hx hb dX12_copy_161 (lv_at hl 4 rfl) ?_
      obtain ⟨x32, hx32, h⟩ := bnd h
      refine w_aI X hH hx32 dX12_copy_163 ?_
      obtain ⟨x33, hx33, h⟩ := bnd h
      refine w_qI X hH hx33 dX12_copy_164 (fun H locs hH => ?_)
      refine lv_iinc (v := (v6 + 1)) (lv' := [(6, .int (v6 + 1)), (0, .ref v0), (3, .int v3), (4, .int v4), (5, .int v5)]) hx hb dX12_copy_165 hl (k := 4) rfl rfl (by decide) rfl (fun ls hl => ?_)
      refine lv_goto (tgt := 136) hx hb dX12_copy_168 (by decide) ?_
      exact ih _ _ _ _ _ _ _ h k0 _ _ _ hH (lv_sub hl [1, 2, 3, 4, 0] rfl)
theorem t_X12_copy {μ : Mm} {a0 : Nat} {p1 : Int32} {p2 : Int32} {p3 : Int32} {p4 : Int32} {p5 : Int32} {x : Int32 × Mm} (h : f_X12_copy μ a0 p1 p2 p3 p4 p5 = some x) : tg μ a0 = 13 := by
  unfold f_X12_copy at h
  exact (gsn h).1
set_option maxHeartbeats 4000000 in
set_option maxRecDepth 100000 in
theorem c_X12_copy (l : Launch) (G : CG) (μ : Mm) (a0 : Nat) (p1 : Int32) (p2 : Int32) (p3 : Int32) (p4 : Int32) (p5 : Int32) (x : Int32 × Mm) (h : f_X12_copy μ a0 p1 p2 p3 p4 p5 = some x) : Met l yX12_copy (.code yX12_copy cX12_copy 7 (some .int) :: UW) (rmk 3 0 0) (PC G [.ref a0, .int p1, .int p2, .int p3, .int p4, .int p5] μ) (QI G x.1 x.2) 0 0 (fA G) := by
  refine Met.ofW (cc := cX12_copy) (maxL := 7) (ret := (some .int)) (by decide) rfl ?_
  intro p e s m args below meth c s₁ B hml hv
  obtain ⟨X, hH, hr, rfl, hnm⟩ := cx_in B hml hv
  have X : Cx p s m _ meth c cX12_copy 7 RX12 G := X
  have hx := X.1
  have hb := X.2.1
  have hown := X.2.2.2.1
  have hts := X.2.2.2.2.1
  have hRL : RmL (rmk 3 0 0) 3 := ⟨Nat.le_refl _, Nat.le_refl _⟩
  have hcs : 0 ≤ (rmk 0 0 0).cells ∧ 0 ≤ (rmk 0 0 0).slots := ⟨Nat.zero_le _, Nat.zero_le _⟩
  refine ls_in (Nat.le_of_ble_eq_true rfl) (fun ls hl => ?_)
  have hl : lv_has ls 7 [(0, .ref a0), (1, .int p1), (2, .int p2), (3, .int p3), (4, .int p4), (5, .int p5)] := hl
  unfold f_X12_copy at h
  obtain ⟨htg, h⟩ := gsn h
  refine lv_iload_n hx hb dX12_copy_0 rfl (lv_at hl 1 rfl) ?_
  obtain ⟨x1, hx1, h⟩ := bnd h
  refine iv_X12_106 l X hH hRL (by decide) hx1 hl.1 (Nat.le_of_ble_eq_true rfl) dX12_copy_1 hcs (fun H locs hH => ?_)
  refine lv_if_eq (tgt := 14) hx hb dX12_copy_4 (by decide) (fun hc2 => ?_) (fun hc2 => ?_)
  · replace h := ift h hc2
    refine lv_iconst (v := -1) hx hb dX12_copy_14 (by decide) ?_
    exact eI X hH h hr dX12_copy_15 (Nat.le_of_ble_eq_true rfl) (Nat.le_of_ble_eq_true rfl)
  · replace h := iff' h hc2
    refine lv_iload_n hx hb dX12_copy_7 rfl (lv_at hl 3 rfl) ?_
    obtain ⟨x3, hx3, h⟩ := bnd h
    refine iv_X12_106 l X hH hRL (by decide) hx3 hl.1 (Nat.le_of_ble_eq_true rfl) dX12_copy_8 hcs (fun H locs hH => ?_)
    refine lv_if_ne (tgt := 16) hx hb dX12_copy_11 (by decide) (fun hc4 => ?_) (fun hc4 => ?_)
    · replace h := iff' h hc4
      refine lv_iload hx hb dX12_copy_16 (lv_at hl 5 rfl) ?_
      refine lv_if_ge (tgt := 27) hx hb dX12_copy_18 (by decide) (fun hc5 => ?_) (fun hc5 => ?_)
      · replace h := ift h hc5
        refine lv_aload_n hx hb dX12_copy_27 rfl (lv_at hl 0 rfl) ?_
        obtain ⟨x6, hx6, h⟩ := bnd h
        refine gf_X12_17 X hH hx6 dX12_copy_28 ?_
        refine lv_iload_n hx hb dX12_copy_31 rfl (lv_at hl 1 rfl) ?_
        obtain ⟨x7, hx7, h⟩ := bnd h
        refine w_aI X hH hx7 dX12_copy_32 ?_
        refine lv_if_lt (tgt := 45) hx hb dX12_copy_33 (by decide) (fun hc8 => ?_) (fun hc8 => ?_)
        · replace h := ift h hc8
          refine lv_aload_n hx hb dX12_copy_45 rfl (lv_at hl 0 rfl) ?_
          refine lv_iconst (v := 1) hx hb dX12_copy_46 (by decide) ?_
          obtain ⟨x9, hx9, h⟩ := bnd h
          refine iv_X12_110 l X hH hRL (by decide) hx9 hl.1 (Nat.le_of_ble_eq_true rfl) dX12_copy_47 hcs (fun H locs hH => ?_)
          exact eI X hH h hr dX12_copy_50 (Nat.le_of_ble_eq_true rfl) (Nat.le_of_ble_eq_true rfl)
        · replace h := iff' h hc8
          refine lv_aload_n hx hb dX12_copy_36 rfl (lv_at hl 0 rfl) ?_
          obtain ⟨x10, hx10, h⟩ := bnd h
          refine gf_X12_17 X hH hx10 dX12_copy_37 ?_
          refine lv_iload_n hx hb dX12_copy_40 rfl (lv_at hl 3 rfl) ?_
          obtain ⟨x11, hx11, h⟩ := bnd h
          refine w_aI X hH hx11 dX12_copy_41 ?_
          refine lv_if_ge (tgt := 51) hx hb dX12_copy_42 (by decide) (fun hc12 => ?_) (fun hc12 => ?_)
          · replace h := ift h hc12
            refine lv_iload_n hx hb dX12_copy_51 rfl (lv_at hl 2 rfl) ?_
            refine lv_if_lt (tgt := 95) hx hb dX12_copy_52 (by decide) (fun hc13 => ?_) (fun hc13 => ?_)
            · replace h := ift h hc13
              refine lv_aload_n hx hb dX12_copy_95 rfl (lv_at hl 0 rfl) ?_
              refine lv_iconst (v := 2) hx hb dX12_copy_96 (by decide) ?_
              obtain ⟨x14, hx14, h⟩ := bnd h
              refine iv_X12_110 l X hH hRL (by decide) hx14 hl.1 (Nat.le_of_ble_eq_true rfl) dX12_copy_97 hcs (fun H locs hH => ?_)
              exact eI X hH h hr dX12_copy_100 (Nat.le_of_ble_eq_true rfl) (Nat.le_of_ble_eq_true rfl)
            · replace h := iff' h hc13
              refine lv_iload hx hb dX12_copy_55 (lv_at hl 4 rfl) ?_
              refine lv_if_lt (tgt := 95) hx hb dX12_copy_57 (by decide) (fun hc15 => ?_) (fun hc15 => ?_)
              · replace h := ift h hc15
                refine lv_aload_n hx hb dX12_copy_95 rfl (lv_at hl 0 rfl) ?_
                refine lv_iconst (v := 2) hx hb dX12_copy_96 (by decide) ?_
                obtain ⟨x16, hx16, h⟩ := bnd h
                refine iv_X12_110 l X hH hRL (by decide) hx16 hl.1 (Nat.le_of_ble_eq_true rfl) dX12_copy_97 hcs (fun H locs hH => ?_)
                exact eI X hH h hr dX12_copy_100 (Nat.le_of_ble_eq_true rfl) (Nat.le_of_ble_eq_true rfl)
              · replace h := iff' h hc15
                refine lv_iload_n hx hb dX12_copy_60 rfl (lv_at hl 2 rfl) ?_
                refine lv_i2l hx hb dX12_copy_61 rfl ?_
                refine lv_iload hx hb dX12_copy_62 (lv_at hl 5 rfl) ?_
                refine lv_i2l hx hb dX12_copy_64 rfl ?_
                refine lv_ladd hx hb dX12_copy_65 ?_
                refine lv_aload_n hx hb dX12_copy_66 rfl (lv_at hl 0 rfl) ?_
                obtain ⟨x17, hx17, h⟩ := bnd h
                refine gf_X12_17 X hH hx17 dX12_copy_67 ?_
                refine lv_iload_n hx hb dX12_copy_70 rfl (lv_at hl 1 rfl) ?_
                obtain ⟨x18, hx18, h⟩ := bnd h
                refine w_aI X hH hx18 dX12_copy_71 ?_
                refine lv_i2l hx hb dX12_copy_72 rfl ?_
                refine W.lcmp hx hb dX12_copy_73 ?_
                refine lv_if_gt (tgt := 95) hx hb dX12_copy_74 (by decide) (fun hc19 => ?_) (fun hc19 => ?_)
                · replace h := ift h hc19
                  refine lv_aload_n hx hb dX12_copy_95 rfl (lv_at hl 0 rfl) ?_
                  refine lv_iconst (v := 2) hx hb dX12_copy_96 (by decide) ?_
                  obtain ⟨x20, hx20, h⟩ := bnd h
                  refine iv_X12_110 l X hH hRL (by decide) hx20 hl.1 (Nat.le_of_ble_eq_true rfl) dX12_copy_97 hcs (fun H locs hH => ?_)
                  exact eI X hH h hr dX12_copy_100 (Nat.le_of_ble_eq_true rfl) (Nat.le_of_ble_eq_true rfl)
                · replace h := iff' h hc19
                  refine lv_iload hx hb dX12_copy_77 (lv_at hl 4 rfl) ?_
                  refine lv_i2l hx hb dX12_copy_79 rfl ?_
                  refine lv_iload hx hb dX12_copy_80 (lv_at hl 5 rfl) ?_
                  refine lv_i2l hx hb dX12_copy_82 rfl ?_
                  refine lv_ladd hx hb dX12_copy_83 ?_
                  refine lv_aload_n hx hb dX12_copy_84 rfl (lv_at hl 0 rfl) ?_
                  obtain ⟨x21, hx21, h⟩ := bnd h
                  refine gf_X12_17 X hH hx21 dX12_copy_85 ?_
                  refine lv_iload_n hx hb dX12_copy_88 rfl (lv_at hl 3 rfl) ?_
                  obtain ⟨x22, hx22, h⟩ := bnd h
                  refine w_aI X hH hx22 dX12_copy_89 ?_
                  refine lv_i2l hx hb dX12_copy_90 rfl ?_
                  refine W.lcmp hx hb dX12_copy_91 ?_
                  refine lv_if_le (tgt := 101) hx hb dX12_copy_92 (by decide) (fun hc23 => ?_) (fun hc23 => ?_)
                  · replace h := ift h hc23
                    refine lv_iconst (v := 0) hx hb dX12_copy_101 (by decide) ?_
                    refine lv_istore (lv' := [(6, .int (0 : Int32)), (0, .ref a0), (1, .int p1), (2, .int p2), (3, .int p3), (4, .int p4), (5, .int p5)]) hx hb dX12_copy_102 hl (by decide) rfl (fun ls hl => ?_)
                    obtain ⟨x28, hx28, hhx28⟩ := bnd h
                    clear h
                    refine w_X12_copy_104 l X hRL hcs BIG a0 p1 p2 p3 p4 p5 (0 : Int32) μ x28 hx28 (fun H locs ls hH hl => ?_) _ _ _ hH (lv_sub hl [1, 2, 3, 4, 5, 6, 0] rfl)
                    · have h := hhx28
                      clear hhx28
                      refine lv_iconst (v := 0) hx hb dX12_copy_133 (by decide) ?_
                      refine lv_istore (lv' := [(6, .int (0 : Int32)), (0, .ref a0), (3, .int p3), (4, .int p4), (5, .int p5)]) hx hb dX12_copy_134 hl (by decide) rfl (fun ls hl => ?_)
                      obtain ⟨x34, hx34, hhx34⟩ := bnd h
                      clear h
                      refine w_X12_copy_136 l X hRL hcs BIG a0 p3 p4 p5 (0 : Int32) x28 x34 hx34 (fun H locs ls hH hl => ?_) _ _ _ hH (lv_sub hl [1, 2, 3, 4, 0] rfl)
                      · have h := hhx34
                        clear hhx34
                        refine lv_iconst (v := 1) hx hb dX12_copy_171 (by decide) ?_
                        exact eI X hH h hr dX12_copy_172 (Nat.le_of_ble_eq_true rfl) (Nat.le_of_ble_eq_true rfl)
                  · replace h := iff' h hc23
                    refine lv_aload_n hx hb dX12_copy_95 rfl (lv_at hl 0 rfl) ?_
                    refine lv_iconst (v := 2) hx hb dX12_copy_96 (by decide) ?_
                    obtain ⟨x35, hx35, h⟩ := bnd h
                    refine iv_X12_110 l X hH hRL (by decide) hx35 hl.1 (Nat.le_of_ble_eq_true rfl) dX12_copy_97 hcs (fun H locs hH => ?_)
                    exact eI X hH h hr dX12_copy_100 (Nat.le_of_ble_eq_true rfl) (Nat.le_of_ble_eq_true rfl)
          · replace h := iff' h hc12
            refine lv_aload_n hx hb dX12_copy_45 rfl (lv_at hl 0 rfl) ?_
            refine lv_iconst (v := 1) hx hb dX12_copy_46 (by decide) ?_
            obtain ⟨x36, hx36, h⟩ := bnd h
            refine iv_X12_110 l X hH hRL (by decide) hx36 hl.1 (Nat.le_of_ble_eq_true rfl) dX12_copy_47 hcs (fun H locs hH => ?_)
            exact eI X hH h hr dX12_copy_50 (Nat.le_of_ble_eq_true rfl) (Nat.le_of_ble_eq_true rfl)
      · replace h := iff' h hc5
        refine lv_aload_n hx hb dX12_copy_21 rfl (lv_at hl 0 rfl) ?_
        refine lv_iconst (v := 5) hx hb dX12_copy_22 (by decide) ?_
        obtain ⟨x37, hx37, h⟩ := bnd h
        refine iv_X12_110 l X hH hRL (by decide) hx37 hl.1 (Nat.le_of_ble_eq_true rfl) dX12_copy_23 hcs (fun H locs hH => ?_)
        exact eI X hH h hr dX12_copy_26 (Nat.le_of_ble_eq_true rfl) (Nat.le_of_ble_eq_true rfl)
    · replace h := ift h hc4
      refine lv_iconst (v := -1) hx hb dX12_copy_14 (by decide) ?_
      exact eI X hH h hr dX12_copy_15 (Nat.le_of_ble_eq_true rfl) (Nat.le_of_ble_eq_true rfl)
set_option maxHeartbeats 4000000 in
set_option maxRecDepth 100000 in
theorem w_X12_mean_44 {p : Program} {e : Env} {R : Room} {s : State} {m : MethodId} {args : Array Value} {below : List Frame} {meth : Method} {c : Code} {cells slots : Nat} {Q : State → Prop} {G : CG} (l : Launch) (X : Cx p s m args meth c cX12_mean 5 RX12 G) (hRL : RmL R 3) (hcs : cells ≤ R.cells ∧ slots ≤ R.slots) : ∀ (n : Nat) (v0 : Nat) (v1 : Int32) (v2 : Int64) (v4 : Int32) (μ : Mm) (x : Int64), lp_X12_mean_44 n v0 v1 v2 v4 μ = some x → (∀ (H : Heap) (locs : List Loc) (ls : Array Slot), HS G s μ H locs → lv_has ls 5 [(0, .ref v0), (1, .int v1), (2, .long x)] → W p l e R s m args below meth c H locs cells slots Q (F0 m 72 ls [])) → ∀ (H : Heap) (locs : List Loc) (ls : Array Slot), HS G s μ H locs → lv_has ls 5 [(0, .ref v0), (1, .int v1), (2, .long v2), (4, .int v4)] → W p l e R s m args below meth c H locs cells slots Q (F0 m 44 ls []) := by
  have hx := X.1
  have hb := X.2.1
  have hown := X.2.2.2.1
  have hts := X.2.2.2.2.1
  intro n
  induction n with
  | zero =>
    intro v0 v1 v2 v4 μ x h
    rw [lp_X12_mean_44] at h
    cases h
  | succ n ih =>
    intro v0 v1 v2 v4 μ x h k0 H locs ls hH hl
    rw [lp_X12_mean_44] at h
    refine lv_iload hx hb dX12_mean_44 (lv_at hl 3 rfl) ?_
    refine lv_aload_n hx hb dX12_mean_46 rfl (lv_at hl 0 rfl) ?_
    obtain ⟨x9, hx9, h⟩ := bnd h
    refine gf_X12_17 X hH hx9 dX12_mean_47 ?_
    refine lv_iload_n hx hb dX12_mean_50 rfl (lv_at hl 1 rfl) ?_
    obtain ⟨x10, hx10, h⟩ := bnd h
    refine w_aI X hH hx10 dX12_mean_51 ?_
    refine lv_icmp_ge (tgt := 72) hx hb dX12_mean_52 (by decide) (fun hc11 => ?_) (fun hc11 => ?_)
    · replace h := ift h hc11
      cases h
      exact k0 _ _ _ hH (lv_sub hl [0, 1, 2] rfl)
    · replace h := iff' h hc11
      refine lv_lload_n hx hb dX12_mean_55 rfl (lv_at hl 2 rfl) ?_
      refine lv_aload_n hx hb dX12_mean_56 rfl (lv_at hl 0 rfl) ?_
      refine lv_iload_n hx hb dX12_mean_57 rfl (lv_at hl 1 rfl) ?_
      refine lv_iload hx hb dX12_mean_58 (lv_at hl 3 rfl) ?_
      obtain ⟨x12, hx12, h⟩ := bnd h
      refine iv_X12_114 l X hH hRL (by decide) hx12 hl.1 (Nat.le_of_ble_eq_true rfl) dX12_mean_60 hcs (fun H locs hH => ?_)
      refine lv_i2l hx hb dX12_mean_63 rfl ?_
      refine lv_ladd hx hb dX12_mean_64 ?_
      refine lv_lstore_n (lv' := [(2, .long (v2 + x12.toInt64)), (0, .ref v0), (1, .int v1), (4, .int v4)]) hx hb dX12_mean_65 rfl hl (by decide) rfl (fun ls hl => ?_)
      refine lv_iinc (v := (v4 + 1)) (lv' := [(4, .int (v4 + 1)), (2, .long (v2 + x12.toInt64)), (0, .ref v0), (1, .int v1)]) hx hb dX12_mean_66 hl (k := 3) rfl rfl (by decide) rfl (fun ls hl => ?_)
      refine lv_goto (tgt := 44) hx hb dX12_mean_69 (by decide) ?_
      exact ih _ _ _ _ _ _ h k0 _ _ _ hH (lv_sub hl [2, 3, 1, 0] rfl)
theorem t_X12_mean {μ : Mm} {a0 : Nat} {p1 : Int32} {x : Int32 × Mm} (h : f_X12_mean μ a0 p1 = some x) : tg μ a0 = 13 := by
  unfold f_X12_mean at h
  exact (gsn h).1
set_option maxHeartbeats 4000000 in
set_option maxRecDepth 100000 in
theorem c_X12_mean (l : Launch) (G : CG) (μ : Mm) (a0 : Nat) (p1 : Int32) (x : Int32 × Mm) (h : f_X12_mean μ a0 p1 = some x) : Met l yX12_mean (.code yX12_mean cX12_mean 5 (some .int) :: UW) (rmk 3 0 0) (PC G [.ref a0, .int p1] μ) (QI G x.1 x.2) 0 0 (fA G) := by
  refine Met.ofW (cc := cX12_mean) (maxL := 5) (ret := (some .int)) (by decide) rfl ?_
  intro p e s m args below meth c s₁ B hml hv
  obtain ⟨X, hH, hr, rfl, hnm⟩ := cx_in B hml hv
  have X : Cx p s m _ meth c cX12_mean 5 RX12 G := X
  have hx := X.1
  have hb := X.2.1
  have hown := X.2.2.2.1
  have hts := X.2.2.2.2.1
  have hRL : RmL (rmk 3 0 0) 3 := ⟨Nat.le_refl _, Nat.le_refl _⟩
  have hcs : 0 ≤ (rmk 0 0 0).cells ∧ 0 ≤ (rmk 0 0 0).slots := ⟨Nat.zero_le _, Nat.zero_le _⟩
  refine ls_in (Nat.le_of_ble_eq_true rfl) (fun ls hl => ?_)
  have hl : lv_has ls 5 [(0, .ref a0), (1, .int p1)] := hl
  unfold f_X12_mean at h
  obtain ⟨htg, h⟩ := gsn h
  refine lv_iload_n hx hb dX12_mean_0 rfl (lv_at hl 1 rfl) ?_
  obtain ⟨x1, hx1, h⟩ := bnd h
  refine iv_X12_106 l X hH hRL (by decide) hx1 hl.1 (Nat.le_of_ble_eq_true rfl) dX12_mean_1 hcs (fun H locs hH => ?_)
  refine lv_if_ne (tgt := 9) hx hb dX12_mean_4 (by decide) (fun hc2 => ?_) (fun hc2 => ?_)
  · replace h := iff' h hc2
    refine lv_aload_n hx hb dX12_mean_9 rfl (lv_at hl 0 rfl) ?_
    obtain ⟨x3, hx3, h⟩ := bnd h
    refine gf_X12_17 X hH hx3 dX12_mean_10 ?_
    refine lv_iload_n hx hb dX12_mean_13 rfl (lv_at hl 1 rfl) ?_
    obtain ⟨x4, hx4, h⟩ := bnd h
    refine w_aI X hH hx4 dX12_mean_14 ?_
    refine lv_if_ge (tgt := 24) hx hb dX12_mean_15 (by decide) (fun hc5 => ?_) (fun hc5 => ?_)
    · replace h := ift h hc5
      refine lv_aload_n hx hb dX12_mean_24 rfl (lv_at hl 0 rfl) ?_
      obtain ⟨x6, hx6, h⟩ := bnd h
      refine gf_X12_17 X hH hx6 dX12_mean_25 ?_
      refine lv_iload_n hx hb dX12_mean_28 rfl (lv_at hl 1 rfl) ?_
      obtain ⟨x7, hx7, h⟩ := bnd h
      refine w_aI X hH hx7 dX12_mean_29 ?_
      refine lv_if_ne (tgt := 39) hx hb dX12_mean_30 (by decide) (fun hc8 => ?_) (fun hc8 => ?_)
      · replace h := iff' h hc8
        refine lv_lconst (v := 0) hx hb dX12_mean_39 (by decide) ?_
        refine lv_lstore_n (lv' := [(2, .long (0 : Int64)), (0, .ref a0), (1, .int p1)]) hx hb dX12_mean_40 rfl hl (by decide) rfl (fun ls hl => ?_)
        refine lv_iconst (v := 0) hx hb dX12_mean_41 (by decide) ?_
        refine lv_istore (lv' := [(4, .int (0 : Int32)), (2, .long (0 : Int64)), (0, .ref a0), (1, .int p1)]) hx hb dX12_mean_42 hl (by decide) rfl (fun ls hl => ?_)
        obtain ⟨x13, hx13, hhx13⟩ := bnd h
        clear h
        refine w_X12_mean_44 l X hRL hcs BIG a0 p1 (0 : Int64) (0 : Int32) μ x13 hx13 (fun H locs ls hH hl => ?_) _ _ _ hH (lv_sub hl [2, 3, 1, 0] rfl)
        · have h := hhx13
          clear hhx13
          refine lv_aload_n hx hb dX12_mean_72 rfl (lv_at hl 0 rfl) ?_
          refine lv_lload_n hx hb dX12_mean_73 rfl (lv_at hl 2 rfl) ?_
          refine lv_aload_n hx hb dX12_mean_74 rfl (lv_at hl 0 rfl) ?_
          obtain ⟨x14, hx14, h⟩ := bnd h
          refine gf_X12_17 X hH hx14 dX12_mean_75 ?_
          refine lv_iload_n hx hb dX12_mean_78 rfl (lv_at hl 1 rfl) ?_
          obtain ⟨x15, hx15, h⟩ := bnd h
          refine w_aI X hH hx15 dX12_mean_79 ?_
          refine lv_i2l hx hb dX12_mean_80 rfl ?_
          obtain ⟨hd16, h⟩ := gsf h
          refine lv_ldiv hx hb dX12_mean_81 hd16 ?_
          refine lv_l2i hx hb dX12_mean_82 rfl ?_
          refine lv_iconst (v := 1) hx hb dX12_mean_83 (by decide) ?_
          obtain ⟨x17, hx17, h⟩ := bnd h
          refine iv_X12_118 l X hH hRL (by decide) hx17 hl.1 (Nat.le_of_ble_eq_true rfl) dX12_mean_84 hcs (fun H locs hH => ?_)
          exact eI X hH h hr dX12_mean_87 (Nat.le_of_ble_eq_true rfl) (Nat.le_of_ble_eq_true rfl)
      · replace h := ift h hc8
        refine lv_aload_n hx hb dX12_mean_33 rfl (lv_at hl 0 rfl) ?_
        refine lv_iconst (v := 4) hx hb dX12_mean_34 (by decide) ?_
        obtain ⟨x18, hx18, h⟩ := bnd h
        refine iv_X12_110 l X hH hRL (by decide) hx18 hl.1 (Nat.le_of_ble_eq_true rfl) dX12_mean_35 hcs (fun H locs hH => ?_)
        exact eI X hH h hr dX12_mean_38 (Nat.le_of_ble_eq_true rfl) (Nat.le_of_ble_eq_true rfl)
    · replace h := iff' h hc5
      refine lv_aload_n hx hb dX12_mean_18 rfl (lv_at hl 0 rfl) ?_
      refine lv_iconst (v := 1) hx hb dX12_mean_19 (by decide) ?_
      obtain ⟨x19, hx19, h⟩ := bnd h
      refine iv_X12_110 l X hH hRL (by decide) hx19 hl.1 (Nat.le_of_ble_eq_true rfl) dX12_mean_20 hcs (fun H locs hH => ?_)
      exact eI X hH h hr dX12_mean_23 (Nat.le_of_ble_eq_true rfl) (Nat.le_of_ble_eq_true rfl)
  · replace h := ift h hc2
    refine lv_iconst (v := -1) hx hb dX12_mean_7 (by decide) ?_
    exact eI X hH h hr dX12_mean_8 (Nat.le_of_ble_eq_true rfl) (Nat.le_of_ble_eq_true rfl)
set_option maxHeartbeats 4000000 in
set_option maxRecDepth 100000 in
theorem c_X12_isText (l : Launch) (G : CG) (μ : Mm) (p0 : Int32) (x : Int32) (h : f_X12_isText μ p0 = some x) : Met l yX12_isText (.code yX12_isText cX12_isText 1 (some .boolean) :: UW) (rmk 2 0 0) (PC G [.int p0] μ) (QI G x μ) 0 0 (fA G) := by
  refine Met.ofW (cc := cX12_isText) (maxL := 1) (ret := (some .boolean)) (by decide) rfl ?_
  intro p e s m args below meth c s₁ B hml hv
  obtain ⟨X, hH, hr, rfl, hnm⟩ := cx_in B hml hv
  have X : Cx p s m _ meth c cX12_isText 1 RX12 G := X
  have hx := X.1
  have hb := X.2.1
  have hown := X.2.2.2.1
  have hts := X.2.2.2.2.1
  have hRL : RmL (rmk 2 0 0) 2 := ⟨Nat.le_refl _, Nat.le_refl _⟩
  have hcs : 0 ≤ (rmk 0 0 0).cells ∧ 0 ≤ (rmk 0 0 0).slots := ⟨Nat.zero_le _, Nat.zero_le _⟩
  refine ls_in (Nat.le_of_ble_eq_true rfl) (fun ls hl => ?_)
  have hl : lv_has ls 1 [(0, .int p0)] := hl
  unfold f_X12_isText at h
  refine lv_iload_n hx hb dX12_isText_0 rfl (lv_at hl 0 rfl) ?_
  refine lv_iconst (v := 0) hx hb dX12_isText_1 (by decide) ?_
  refine lv_iconst (v := 3) hx hb dX12_isText_2 (by decide) ?_
  obtain ⟨x1, hx1, h⟩ := bnd h
  refine iv_X12_96 l X hH hRL (by decide) hx1 hl.1 (Nat.le_of_ble_eq_true rfl) dX12_isText_3 hcs (fun H locs hH => ?_)
  obtain ⟨_, hzb, h⟩ := bnd h
  exact eZp X hH (gsm hzb).1 h hr dX12_isText_6
set_option maxHeartbeats 1000000 in
theorem iv_X12_121 {p : Program} {e : Env} {R : Room} {s : State} {m : MethodId} {args : Array Value} {below : List Frame} {meth : Method} {c : Code} {H : Heap} {locs : List Loc} {cells slots : Nat} {Q : State → Prop} {cc : ByteArray} {pc : Nat} {ls : Array Slot} {rest : List Value} {nL : Nat} {G : CG} {μ : Mm} {q0 : Int32} {x : Int32} {k : Nat} (l : Launch) (X : Cx p s m args meth c cc nL RX12 G) (hH : HS G s μ H locs) (hRL : RmL R k) (hk : 2 + 1 ≤ k) (h : f_X12_isText μ q0 = some x) (hls : ls.size = nL) (hroom : (rest.map fun v => v.category).sum ≤ 8) (hdg : decode cc pc = .ok (.invokestatic 121, 3)) (hcs : cells + 0 ≤ R.cells ∧ slots + 0 ≤ R.slots) (kk : ∀ (H1 : Heap) (locs1 : List Loc), HS G s μ H1 locs1 → W p l e R s m args below meth c H1 locs1 cells slots Q (F0 m (pc + 3) ls (.int x :: rest))) : W p l e R s m args below meth c H locs cells slots Q (F0 m pc ls (.int q0 :: rest)) := by
  refine kI hH (rS (As := [.int q0]) (rest := rest) X hH (c_X12_isText l G μ q0 x h) (List.forall_mem_cons.mpr ⟨u_1173, (List.forall_mem_cons.mpr ⟨u_1174, (List.forall_mem_cons.mpr ⟨u_68, (fun _ h9 => absurd h9 List.not_mem_nil)⟩)⟩)⟩) u_1175 (rmo hRL (Nat.le_trans (by decide) hk) (by decide)) ddS_X12_isText rfl hls rfl hroom hdg hcs) kk
set_option maxHeartbeats 4000000 in
set_option maxRecDepth 100000 in
theorem w_X12_text_34 {p : Program} {e : Env} {R : Room} {s : State} {m : MethodId} {args : Array Value} {below : List Frame} {meth : Method} {c : Code} {cells slots : Nat} {Q : State → Prop} {G : CG} (l : Launch) (X : Cx p s m args meth c cX12_text 4 RX12 G) (hRL : RmL R 3) (hcs : cells ≤ R.cells ∧ slots ≤ R.slots) : ∀ (n : Nat) (v0 : Nat) (v1 : Int32) (v2 : Int32) (v3 : Int32) (μ : Mm) (x : Mm), lp_X12_text_34 n v0 v1 v2 v3 μ = some x → (∀ (H : Heap) (locs : List Loc) (ls : Array Slot), HS G s x H locs → lv_has ls 4 [(2, .int v2)] → W p l e R s m args below meth c H locs cells slots Q (F0 m 59 ls [])) → ∀ (H : Heap) (locs : List Loc) (ls : Array Slot), HS G s μ H locs → lv_has ls 4 [(0, .ref v0), (1, .int v1), (2, .int v2), (3, .int v3)] → W p l e R s m args below meth c H locs cells slots Q (F0 m 34 ls []) := by
  have hx := X.1
  have hb := X.2.1
  have hown := X.2.2.2.1
  have hts := X.2.2.2.2.1
  intro n
  induction n with
  | zero =>
    intro v0 v1 v2 v3 μ x h
    rw [lp_X12_text_34] at h
    cases h
  | succ n ih =>
    intro v0 v1 v2 v3 μ x h k0 H locs ls hH hl
    rw [lp_X12_text_34] at h
    refine lv_iload_n hx hb dX12_text_34 rfl (lv_at hl 3 rfl) ?_
    refine lv_bipush (v := 60) hx hb dX12_text_35 (by decide) ?_
    refine lv_icmp_ge (tgt := 59) hx hb dX12_text_37 (by decide) (fun hc7 => ?_) (fun hc7 => ?_)
    · replace h := ift h hc7
      cases h
      exact k0 _ _ _ hH (lv_sub hl [2] rfl)
    · replace h := iff' h hc7
      refine lv_aload_n hx hb dX12_text_40 rfl (lv_at hl 0 rfl) ?_
      obtain ⟨x8, hx8, h⟩ := bnd h
      refine gf_X12_29 X hH hx8 dX12_text_41 ?_
      refine lv_bipush (v := 60) hx hb dX12_text_44 (by decide) ?_
      refine lv_iload_n hx hb dX12_text_46 rfl (lv_at hl 1 rfl) ?_
      refine lv_imul hx hb dX12_text_47 ?_
      refine lv_iload_n hx hb dX12_text_48 rfl (lv_at hl 3 rfl) ?_
      refine lv_iadd hx hb dX12_text_49 ?_
      refine lv_bipush (v := 32) hx hb dX12_text_50 (by decide) ?_
      obtain ⟨x9, hx9, h⟩ := bnd h
      refine w_qB X hH hx9 dX12_text_52 (fun H locs hH => ?_)
      refine lv_iinc (v := (v3 + 1)) (lv' := [(3, .int (v3 + 1)), (0, .ref v0), (1, .int v1), (2, .int v2)]) hx hb dX12_text_53 hl (k := 3) rfl rfl (by decide) rfl (fun ls hl => ?_)
      refine lv_goto (tgt := 34) hx hb dX12_text_56 (by decide) ?_
      exact ih _ _ _ _ _ _ h k0 _ _ _ hH (lv_sub hl [1, 2, 3, 0] rfl)
theorem t_X12_text {μ : Mm} {a0 : Nat} {p1 : Int32} {p2 : Int32} {x : Int32 × Mm} (h : f_X12_text μ a0 p1 p2 = some x) : tg μ a0 = 13 := by
  unfold f_X12_text at h
  exact (gsn h).1
set_option maxHeartbeats 4000000 in
set_option maxRecDepth 100000 in
theorem c_X12_text (l : Launch) (G : CG) (μ : Mm) (a0 : Nat) (p1 : Int32) (p2 : Int32) (x : Int32 × Mm) (h : f_X12_text μ a0 p1 p2 = some x) : Met l yX12_text (.code yX12_text cX12_text 4 (some .int) :: UW) (rmk 3 0 0) (PC G [.ref a0, .int p1, .int p2] μ) (QI G x.1 x.2) 0 0 (fA G) := by
  refine Met.ofW (cc := cX12_text) (maxL := 4) (ret := (some .int)) (by decide) rfl ?_
  intro p e s m args below meth c s₁ B hml hv
  obtain ⟨X, hH, hr, rfl, hnm⟩ := cx_in B hml hv
  have X : Cx p s m _ meth c cX12_text 4 RX12 G := X
  have hx := X.1
  have hb := X.2.1
  have hown := X.2.2.2.1
  have hts := X.2.2.2.2.1
  have hRL : RmL (rmk 3 0 0) 3 := ⟨Nat.le_refl _, Nat.le_refl _⟩
  have hcs : 0 ≤ (rmk 0 0 0).cells ∧ 0 ≤ (rmk 0 0 0).slots := ⟨Nat.zero_le _, Nat.zero_le _⟩
  refine ls_in (Nat.le_of_ble_eq_true rfl) (fun ls hl => ?_)
  have hl : lv_has ls 4 [(0, .ref a0), (1, .int p1), (2, .int p2)] := hl
  unfold f_X12_text at h
  obtain ⟨htg, h⟩ := gsn h
  refine lv_iload_n hx hb dX12_text_0 rfl (lv_at hl 1 rfl) ?_
  obtain ⟨x1, hx1, h⟩ := bnd h
  refine iv_X12_121 l X hH hRL (by decide) hx1 hl.1 (Nat.le_of_ble_eq_true rfl) dX12_text_1 hcs (fun H locs hH => ?_)
  refine lv_if_eq (tgt := 13) hx hb dX12_text_4 (by decide) (fun hc2 => ?_) (fun hc2 => ?_)
  · replace h := ift h hc2
    refine lv_iconst (v := -1) hx hb dX12_text_13 (by decide) ?_
    exact eI X hH h hr dX12_text_14 (Nat.le_of_ble_eq_true rfl) (Nat.le_of_ble_eq_true rfl)
  · replace h := iff' h hc2
    refine lv_iload_n hx hb dX12_text_7 rfl (lv_at hl 2 rfl) ?_
    refine lv_bipush (v := 60) hx hb dX12_text_8 (by decide) ?_
    refine lv_icmp_le (tgt := 15) hx hb dX12_text_10 (by decide) (fun hc3 => ?_) (fun hc3 => ?_)
    · replace h := ift h hc3
      refine lv_iload_n hx hb dX12_text_15 rfl (lv_at hl 2 rfl) ?_
      refine lv_if_ge (tgt := 25) hx hb dX12_text_16 (by decide) (fun hc4 => ?_) (fun hc4 => ?_)
      · replace h := ift h hc4
        refine lv_aload_n hx hb dX12_text_25 rfl (lv_at hl 0 rfl) ?_
        obtain ⟨x5, hx5, h⟩ := bnd h
        refine gf_X12_26 X hH hx5 dX12_text_26 ?_
        refine lv_iload_n hx hb dX12_text_29 rfl (lv_at hl 1 rfl) ?_
        refine lv_iload_n hx hb dX12_text_30 rfl (lv_at hl 2 rfl) ?_
        obtain ⟨x6, hx6, h⟩ := bnd h
        refine w_qI X hH hx6 dX12_text_31 (fun H locs hH => ?_)
        refine lv_iconst (v := 0) hx hb dX12_text_32 (by decide) ?_
        refine lv_istore_n (lv' := [(3, .int (0 : Int32)), (0, .ref a0), (1, .int p1), (2, .int p2)]) hx hb dX12_text_33 rfl hl (by decide) rfl (fun ls hl => ?_)
        obtain ⟨x10, hx10, hhx10⟩ := bnd h
        clear h
        refine w_X12_text_34 l X hRL hcs BIG a0 p1 p2 (0 : Int32) x6 x10 hx10 (fun H locs ls hH hl => ?_) _ _ _ hH (lv_sub hl [1, 2, 3, 0] rfl)
        · have h := hhx10
          clear hhx10
          refine lv_iload_n hx hb dX12_text_59 rfl (lv_at hl 0 rfl) ?_
          exact eI X hH h hr dX12_text_60 (Nat.le_of_ble_eq_true rfl) (Nat.le_of_ble_eq_true rfl)
      · replace h := iff' h hc4
        refine lv_aload_n hx hb dX12_text_19 rfl (lv_at hl 0 rfl) ?_
        refine lv_iconst (v := 5) hx hb dX12_text_20 (by decide) ?_
        obtain ⟨x11, hx11, h⟩ := bnd h
        refine iv_X12_110 l X hH hRL (by decide) hx11 hl.1 (Nat.le_of_ble_eq_true rfl) dX12_text_21 hcs (fun H locs hH => ?_)
        exact eI X hH h hr dX12_text_24 (Nat.le_of_ble_eq_true rfl) (Nat.le_of_ble_eq_true rfl)
    · replace h := iff' h hc3
      refine lv_iconst (v := -1) hx hb dX12_text_13 (by decide) ?_
      exact eI X hH h hr dX12_text_14 (Nat.le_of_ble_eq_true rfl) (Nat.le_of_ble_eq_true rfl)
theorem t_X12_put {μ : Mm} {a0 : Nat} {p1 : Int32} {p2 : Int32} {p3 : Int32} {x : Int32 × Mm} (h : f_X12_put μ a0 p1 p2 p3 = some x) : tg μ a0 = 13 := by
  unfold f_X12_put at h
  exact (gsn h).1
set_option maxHeartbeats 4000000 in
set_option maxRecDepth 100000 in
theorem c_X12_put (l : Launch) (G : CG) (μ : Mm) (a0 : Nat) (p1 : Int32) (p2 : Int32) (p3 : Int32) (x : Int32 × Mm) (h : f_X12_put μ a0 p1 p2 p3 = some x) : Met l yX12_put (.code yX12_put cX12_put 5 (some .int) :: UW) (rmk 3 0 0) (PC G [.ref a0, .int p1, .int p2, .int p3] μ) (QI G x.1 x.2) 0 0 (fA G) := by
  refine Met.ofW (cc := cX12_put) (maxL := 5) (ret := (some .int)) (by decide) rfl ?_
  intro p e s m args below meth c s₁ B hml hv
  obtain ⟨X, hH, hr, rfl, hnm⟩ := cx_in B hml hv
  have X : Cx p s m _ meth c cX12_put 5 RX12 G := X
  have hx := X.1
  have hb := X.2.1
  have hown := X.2.2.2.1
  have hts := X.2.2.2.2.1
  have hRL : RmL (rmk 3 0 0) 3 := ⟨Nat.le_refl _, Nat.le_refl _⟩
  have hcs : 0 ≤ (rmk 0 0 0).cells ∧ 0 ≤ (rmk 0 0 0).slots := ⟨Nat.zero_le _, Nat.zero_le _⟩
  refine ls_in (Nat.le_of_ble_eq_true rfl) (fun ls hl => ?_)
  have hl : lv_has ls 5 [(0, .ref a0), (1, .int p1), (2, .int p2), (3, .int p3)] := hl
  unfold f_X12_put at h
  obtain ⟨htg, h⟩ := gsn h
  refine lv_iload_n hx hb dX12_put_0 rfl (lv_at hl 1 rfl) ?_
  obtain ⟨x1, hx1, h⟩ := bnd h
  refine iv_X12_121 l X hH hRL (by decide) hx1 hl.1 (Nat.le_of_ble_eq_true rfl) dX12_put_1 hcs (fun H locs hH => ?_)
  refine lv_if_ne (tgt := 9) hx hb dX12_put_4 (by decide) (fun hc2 => ?_) (fun hc2 => ?_)
  · replace h := iff' h hc2
    refine lv_aload_n hx hb dX12_put_9 rfl (lv_at hl 0 rfl) ?_
    obtain ⟨x3, hx3, h⟩ := bnd h
    refine gf_X12_26 X hH hx3 dX12_put_10 ?_
    refine lv_iload_n hx hb dX12_put_13 rfl (lv_at hl 1 rfl) ?_
    obtain ⟨x4, hx4, h⟩ := bnd h
    refine w_aI X hH hx4 dX12_put_14 ?_
    refine lv_if_ge (tgt := 24) hx hb dX12_put_15 (by decide) (fun hc5 => ?_) (fun hc5 => ?_)
    · replace h := ift h hc5
      refine lv_iload_n hx hb dX12_put_24 rfl (lv_at hl 2 rfl) ?_
      refine lv_iconst (v := 0) hx hb dX12_put_25 (by decide) ?_
      refine lv_aload_n hx hb dX12_put_26 rfl (lv_at hl 0 rfl) ?_
      obtain ⟨x6, hx6, h⟩ := bnd h
      refine gf_X12_26 X hH hx6 dX12_put_27 ?_
      refine lv_iload_n hx hb dX12_put_30 rfl (lv_at hl 1 rfl) ?_
      obtain ⟨x7, hx7, h⟩ := bnd h
      refine w_aI X hH hx7 dX12_put_31 ?_
      refine lv_iconst (v := 1) hx hb dX12_put_32 (by decide) ?_
      refine lv_isub hx hb dX12_put_33 ?_
      obtain ⟨x8, hx8, h⟩ := bnd h
      refine iv_X12_96 l X hH hRL (by decide) hx8 hl.1 (Nat.le_of_ble_eq_true rfl) dX12_put_34 hcs (fun H locs hH => ?_)
      refine lv_if_ne (tgt := 46) hx hb dX12_put_37 (by decide) (fun hc9 => ?_) (fun hc9 => ?_)
      · replace h := iff' h hc9
        refine lv_aload_n hx hb dX12_put_46 rfl (lv_at hl 0 rfl) ?_
        obtain ⟨x10, hx10, h⟩ := bnd h
        refine gf_X12_29 X hH hx10 dX12_put_47 ?_
        refine lv_bipush (v := 60) hx hb dX12_put_50 (by decide) ?_
        refine lv_iload_n hx hb dX12_put_52 rfl (lv_at hl 1 rfl) ?_
        refine lv_imul hx hb dX12_put_53 ?_
        refine lv_iload_n hx hb dX12_put_54 rfl (lv_at hl 2 rfl) ?_
        refine lv_iadd hx hb dX12_put_55 ?_
        obtain ⟨x11, hx11, h⟩ := bnd h
        refine w_aB X hH hx11 dX12_put_56 ?_
        refine lv_istore (lv' := [(4, .int x11), (0, .ref a0), (1, .int p1), (2, .int p2), (3, .int p3)]) hx hb dX12_put_57 hl (by decide) rfl (fun ls hl => ?_)
        refine lv_aload_n hx hb dX12_put_59 rfl (lv_at hl 1 rfl) ?_
        obtain ⟨x12, hx12, h⟩ := bnd h
        refine gf_X12_29 X hH hx12 dX12_put_60 ?_
        refine lv_bipush (v := 60) hx hb dX12_put_63 (by decide) ?_
        refine lv_iload_n hx hb dX12_put_65 rfl (lv_at hl 2 rfl) ?_
        refine lv_imul hx hb dX12_put_66 ?_
        refine lv_iload_n hx hb dX12_put_67 rfl (lv_at hl 3 rfl) ?_
        refine lv_iadd hx hb dX12_put_68 ?_
        refine lv_iload_n hx hb dX12_put_69 rfl (lv_at hl 4 rfl) ?_
        refine lv_i2b hx hb dX12_put_70 rfl ?_
        obtain ⟨x13, hx13, h⟩ := bnd h
        refine w_qB X hH hx13 dX12_put_71 (fun H locs hH => ?_)
        refine lv_sipush (v := 1000) hx hb dX12_put_72 (by decide) ?_
        refine lv_iload hx hb dX12_put_75 (lv_at hl 0 rfl) ?_
        refine lv_iadd hx hb dX12_put_77 ?_
        exact eI X hH h hr dX12_put_78 (Nat.le_of_ble_eq_true rfl) (Nat.le_of_ble_eq_true rfl)
      · replace h := ift h hc9
        refine lv_aload_n hx hb dX12_put_40 rfl (lv_at hl 0 rfl) ?_
        refine lv_iconst (v := 2) hx hb dX12_put_41 (by decide) ?_
        obtain ⟨x14, hx14, h⟩ := bnd h
        refine iv_X12_110 l X hH hRL (by decide) hx14 hl.1 (Nat.le_of_ble_eq_true rfl) dX12_put_42 hcs (fun H locs hH => ?_)
        exact eI X hH h hr dX12_put_45 (Nat.le_of_ble_eq_true rfl) (Nat.le_of_ble_eq_true rfl)
    · replace h := iff' h hc5
      refine lv_aload_n hx hb dX12_put_18 rfl (lv_at hl 0 rfl) ?_
      refine lv_iconst (v := 1) hx hb dX12_put_19 (by decide) ?_
      obtain ⟨x15, hx15, h⟩ := bnd h
      refine iv_X12_110 l X hH hRL (by decide) hx15 hl.1 (Nat.le_of_ble_eq_true rfl) dX12_put_20 hcs (fun H locs hH => ?_)
      exact eI X hH h hr dX12_put_23 (Nat.le_of_ble_eq_true rfl) (Nat.le_of_ble_eq_true rfl)
  · replace h := ift h hc2
    refine lv_iconst (v := -1) hx hb dX12_put_7 (by decide) ?_
    exact eI X hH h hr dX12_put_8 (Nat.le_of_ble_eq_true rfl) (Nat.le_of_ble_eq_true rfl)
theorem t_X12_byteAt {μ : Mm} {a0 : Nat} {p1 : Int32} {p2 : Int32} {x : Int32} (h : f_X12_byteAt μ a0 p1 p2 = some x) : tg μ a0 = 13 := by
  unfold f_X12_byteAt at h
  exact (gsn h).1
set_option maxHeartbeats 4000000 in
set_option maxRecDepth 100000 in
theorem c_X12_byteAt (l : Launch) (G : CG) (μ : Mm) (a0 : Nat) (p1 : Int32) (p2 : Int32) (x : Int32) (h : f_X12_byteAt μ a0 p1 p2 = some x) : Met l yX12_byteAt (.code yX12_byteAt cX12_byteAt 3 (some .int) :: UW) (rmk 1 0 0) (PC G [.ref a0, .int p1, .int p2] μ) (QI G x μ) 0 0 (fA G) := by
  refine Met.ofW (cc := cX12_byteAt) (maxL := 3) (ret := (some .int)) (by decide) rfl ?_
  intro p e s m args below meth c s₁ B hml hv
  obtain ⟨X, hH, hr, rfl, hnm⟩ := cx_in B hml hv
  have X : Cx p s m _ meth c cX12_byteAt 3 RX12 G := X
  have hx := X.1
  have hb := X.2.1
  have hown := X.2.2.2.1
  have hts := X.2.2.2.2.1
  have hRL : RmL (rmk 1 0 0) 1 := ⟨Nat.le_refl _, Nat.le_refl _⟩
  have hcs : 0 ≤ (rmk 0 0 0).cells ∧ 0 ≤ (rmk 0 0 0).slots := ⟨Nat.zero_le _, Nat.zero_le _⟩
  refine ls_in (Nat.le_of_ble_eq_true rfl) (fun ls hl => ?_)
  have hl : lv_has ls 3 [(0, .ref a0), (1, .int p1), (2, .int p2)] := hl
  unfold f_X12_byteAt at h
  obtain ⟨htg, h⟩ := gsn h
  refine lv_iload_n hx hb dX12_byteAt_0 rfl (lv_at hl 2 rfl) ?_
  refine lv_aload_n hx hb dX12_byteAt_1 rfl (lv_at hl 0 rfl) ?_
  obtain ⟨x1, hx1, h⟩ := bnd h
  refine gf_X12_26 X hH hx1 dX12_byteAt_2 ?_
  refine lv_iload_n hx hb dX12_byteAt_5 rfl (lv_at hl 1 rfl) ?_
  obtain ⟨x2, hx2, h⟩ := bnd h
  refine w_aI X hH hx2 dX12_byteAt_6 ?_
  refine lv_icmp_ge (tgt := 24) hx hb dX12_byteAt_7 (by decide) (fun hc3 => ?_) (fun hc3 => ?_)
  · replace h := ift h hc3
    refine lv_iconst (v := 0) hx hb dX12_byteAt_24 (by decide) ?_
    exact eIp X hH h hr dX12_byteAt_25
  · replace h := iff' h hc3
    refine lv_aload_n hx hb dX12_byteAt_10 rfl (lv_at hl 0 rfl) ?_
    obtain ⟨x4, hx4, h⟩ := bnd h
    refine gf_X12_29 X hH hx4 dX12_byteAt_11 ?_
    refine lv_bipush (v := 60) hx hb dX12_byteAt_14 (by decide) ?_
    refine lv_iload_n hx hb dX12_byteAt_16 rfl (lv_at hl 1 rfl) ?_
    refine lv_imul hx hb dX12_byteAt_17 ?_
    refine lv_iload_n hx hb dX12_byteAt_18 rfl (lv_at hl 2 rfl) ?_
    refine lv_iadd hx hb dX12_byteAt_19 ?_
    obtain ⟨x5, hx5, h⟩ := bnd h
    refine w_aB X hH hx5 dX12_byteAt_20 ?_
    refine lv_goto (tgt := 25) hx hb dX12_byteAt_21 (by decide) ?_
    exact eIp X hH h hr dX12_byteAt_25
set_option maxHeartbeats 4000000 in
set_option maxRecDepth 100000 in
theorem w_X12_layRow_10 {p : Program} {e : Env} {R : Room} {s : State} {m : MethodId} {args : Array Value} {below : List Frame} {meth : Method} {c : Code} {cells slots : Nat} {Q : State → Prop} {G : CG} (l : Launch) (X : Cx p s m args meth c cX12_layRow 5 RX12 G) (hRL : RmL R 1) (hcs : cells ≤ R.cells ∧ slots ≤ R.slots) : ∀ (n : Nat) (v0 : Nat) (v1 : Int32) (v2 : Nat) (v3 : Int32) (v4 : Int32) (μ : Mm) (x : Mm), lp_X12_layRow_10 n v0 v1 v2 v3 v4 μ = some x → (∀ (H : Heap) (locs : List Loc) (ls : Array Slot), HS G s x H locs → lv_has ls 5 [] → W p l e R s m args below meth c H locs cells slots Q (F0 m 49 ls [])) → ∀ (H : Heap) (locs : List Loc) (ls : Array Slot), HS G s μ H locs → lv_has ls 5 [(0, .ref v0), (1, .int v1), (2, .ref v2), (3, .int v3), (4, .int v4)] → W p l e R s m args below meth c H locs cells slots Q (F0 m 10 ls []) := by
  have hx := X.1
  have hb := X.2.1
  have hown := X.2.2.2.1
  have hts := X.2.2.2.2.1
  intro n
  induction n with
  | zero =>
    intro v0 v1 v2 v3 v4 μ x h
    rw [lp_X12_layRow_10] at h
    cases h
  | succ n ih =>
    intro v0 v1 v2 v3 v4 μ x h k0 H locs ls hH hl
    rw [lp_X12_layRow_10] at h
    refine lv_iload hx hb dX12_layRow_10 (lv_at hl 4 rfl) ?_
    refine lv_bipush (v := 40) hx hb dX12_layRow_12 (by decide) ?_
    refine lv_icmp_ge (tgt := 49) hx hb dX12_layRow_14 (by decide) (fun hc3 => ?_) (fun hc3 => ?_)
    · replace h := ift h hc3
      cases h
      exact k0 _ _ _ hH (lv_sub hl [] rfl)
    · replace h := iff' h hc3
      refine lv_aload_n hx hb dX12_layRow_17 rfl (lv_at hl 0 rfl) ?_
      obtain ⟨x4, hx4, h⟩ := bnd h
      refine gf_X12_20 X hH hx4 dX12_layRow_18 ?_
      refine lv_bipush (v := 40) hx hb dX12_layRow_21 (by decide) ?_
      refine lv_iload_n hx hb dX12_layRow_23 rfl (lv_at hl 1 rfl) ?_
      refine lv_imul hx hb dX12_layRow_24 ?_
      refine lv_iload hx hb dX12_layRow_25 (lv_at hl 4 rfl) ?_
      refine lv_iadd hx hb dX12_layRow_27 ?_
      refine lv_iload hx hb dX12_layRow_28 (lv_at hl 4 rfl) ?_
      refine lv_iload_n hx hb dX12_layRow_30 rfl (lv_at hl 3 rfl) ?_
      refine lv_icmp_ge (tgt := 41) hx hb dX12_layRow_31 (by decide) (fun hc5 => ?_) (fun hc5 => ?_)
      · replace h := ift h hc5
        refine lv_iconst (v := 0) hx hb dX12_layRow_41 (by decide) ?_
        obtain ⟨x6, hx6, h⟩ := bnd h
        refine w_qI X hH hx6 dX12_layRow_42 (fun H locs hH => ?_)
        refine lv_iinc (v := (v4 + 1)) (lv' := [(4, .int (v4 + 1)), (0, .ref v0), (1, .int v1), (2, .ref v2), (3, .int v3)]) hx hb dX12_layRow_43 hl (k := 4) rfl rfl (by decide) rfl (fun ls hl => ?_)
        refine lv_goto (tgt := 10) hx hb dX12_layRow_46 (by decide) ?_
        exact ih _ _ _ _ _ _ _ h k0 _ _ _ hH (lv_sub hl [1, 2, 3, 4, 0] rfl)
      · replace h := iff' h hc5
        refine lv_aload_n hx hb dX12_layRow_34 rfl (lv_at hl 2 rfl) ?_
        refine lv_iload hx hb dX12_layRow_35 (lv_at hl 4 rfl) ?_
        obtain ⟨x7, hx7, h⟩ := bnd h
        refine w_aI X hH hx7 dX12_layRow_37 ?_
        refine lv_goto (tgt := 42) hx hb dX12_layRow_38 (by decide) ?_
        obtain ⟨x8, hx8, h⟩ := bnd h
        refine w_qI X hH hx8 dX12_layRow_42 (fun H locs hH => ?_)
        refine lv_iinc (v := (v4 + 1)) (lv' := [(4, .int (v4 + 1)), (0, .ref v0), (1, .int v1), (2, .ref v2), (3, .int v3)]) hx hb dX12_layRow_43 hl (k := 4) rfl rfl (by decide) rfl (fun ls hl => ?_)
        refine lv_goto (tgt := 10) hx hb dX12_layRow_46 (by decide) ?_
        exact ih _ _ _ _ _ _ _ h k0 _ _ _ hH (lv_sub hl [1, 2, 3, 4, 0] rfl)
theorem t_X12_layRow {μ : Mm} {a0 : Nat} {p1 : Int32} {p2 : Nat} {p3 : Int32} {x : Mm} (h : f_X12_layRow μ a0 p1 p2 p3 = some x) : tg μ a0 = 13 := by
  unfold f_X12_layRow at h
  exact (gsn h).1
set_option maxHeartbeats 4000000 in
set_option maxRecDepth 100000 in
theorem c_X12_layRow (l : Launch) (G : CG) (μ : Mm) (a0 : Nat) (p1 : Int32) (p2 : Nat) (p3 : Int32) (x : Mm) (h : f_X12_layRow μ a0 p1 p2 p3 = some x) : Met l yX12_layRow (.code yX12_layRow cX12_layRow 5 none :: UW) (rmk 1 0 0) (PC G [.ref a0, .int p1, .ref p2, .int p3] μ) (QV G x) 0 0 (fA G) := by
  refine Met.ofW (cc := cX12_layRow) (maxL := 5) (ret := none) (by decide) rfl ?_
  intro p e s m args below meth c s₁ B hml hv
  obtain ⟨X, hH, hr, rfl, hnm⟩ := cx_in B hml hv
  have X : Cx p s m _ meth c cX12_layRow 5 RX12 G := X
  have hx := X.1
  have hb := X.2.1
  have hown := X.2.2.2.1
  have hts := X.2.2.2.2.1
  have hRL : RmL (rmk 1 0 0) 1 := ⟨Nat.le_refl _, Nat.le_refl _⟩
  have hcs : 0 ≤ (rmk 0 0 0).cells ∧ 0 ≤ (rmk 0 0 0).slots := ⟨Nat.zero_le _, Nat.zero_le _⟩
  refine ls_in (Nat.le_of_ble_eq_true rfl) (fun ls hl => ?_)
  have hl : lv_has ls 5 [(0, .ref a0), (1, .int p1), (2, .ref p2), (3, .int p3)] := hl
  unfold f_X12_layRow at h
  obtain ⟨htg, h⟩ := gsn h
  refine lv_aload_n hx hb dX12_layRow_0 rfl (lv_at hl 0 rfl) ?_
  obtain ⟨x1, hx1, h⟩ := bnd h
  refine gf_X12_17 X hH hx1 dX12_layRow_1 ?_
  refine lv_iload_n hx hb dX12_layRow_4 rfl (lv_at hl 1 rfl) ?_
  refine lv_iload_n hx hb dX12_layRow_5 rfl (lv_at hl 3 rfl) ?_
  obtain ⟨x2, hx2, h⟩ := bnd h
  refine w_qI X hH hx2 dX12_layRow_6 (fun H locs hH => ?_)
  refine lv_iconst (v := 0) hx hb dX12_layRow_7 (by decide) ?_
  refine lv_istore (lv' := [(4, .int (0 : Int32)), (0, .ref a0), (1, .int p1), (2, .ref p2), (3, .int p3)]) hx hb dX12_layRow_8 hl (by decide) rfl (fun ls hl => ?_)
  obtain ⟨x9, hx9, hhx9⟩ := bnd h
  clear h
  refine w_X12_layRow_10 l X hRL hcs BIG a0 p1 p2 p3 (0 : Int32) x2 x9 hx9 (fun H locs ls hH hl => ?_) _ _ _ hH (lv_sub hl [1, 2, 3, 4, 0] rfl)
  · have h := hhx9
    clear hhx9
    exact eV X hH h hr dX12_layRow_49 (Nat.le_of_ble_eq_true rfl) (Nat.le_of_ble_eq_true rfl)
set_option maxHeartbeats 4000000 in
set_option maxRecDepth 100000 in
theorem c_X12_kindOf (l : Launch) (G : CG) (μ : Mm) (p0 : Int32) (x : Int32) (h : f_X12_kindOf μ p0 = some x) : Met l yX12_kindOf (.code yX12_kindOf cX12_kindOf 1 (some .int) :: UW) (rmk 1 0 0) (PC G [.int p0] μ) (QI G x μ) 0 0 (fA G) := by
  refine Met.ofW (cc := cX12_kindOf) (maxL := 1) (ret := (some .int)) (by decide) rfl ?_
  intro p e s m args below meth c s₁ B hml hv
  obtain ⟨X, hH, hr, rfl, hnm⟩ := cx_in B hml hv
  have X : Cx p s m _ meth c cX12_kindOf 1 RX12 G := X
  have hx := X.1
  have hb := X.2.1
  have hown := X.2.2.2.1
  have hts := X.2.2.2.2.1
  have hRL : RmL (rmk 1 0 0) 1 := ⟨Nat.le_refl _, Nat.le_refl _⟩
  have hcs : 0 ≤ (rmk 0 0 0).cells ∧ 0 ≤ (rmk 0 0 0).slots := ⟨Nat.zero_le _, Nat.zero_le _⟩
  refine ls_in (Nat.le_of_ble_eq_true rfl) (fun ls hl => ?_)
  have hl : lv_has ls 1 [(0, .int p0)] := hl
  unfold f_X12_kindOf at h
  refine lv_iload_n hx hb dX12_kindOf_0 rfl (lv_at hl 0 rfl) ?_
  by_cases hc1 : p0 = (99 : Int32)
  · replace h := ift h hc1
    refine lv_tableIn (tgt := 92) (off := 91) hx hb dX12_kindOf_1 (by rw [hc1]; decide) (by rw [hc1]; decide) (by rw [hc1]; rfl) (by decide) ?_
    refine lv_iconst (v := 2) hx hb dX12_kindOf_92 (by decide) ?_
    exact eIp X hH h hr dX12_kindOf_93
  · replace h := iff' h hc1
    by_cases hc2 : p0 = (103 : Int32)
    · replace h := ift h hc2
      refine lv_tableIn (tgt := 88) (off := 87) hx hb dX12_kindOf_1 (by rw [hc2]; decide) (by rw [hc2]; decide) (by rw [hc2]; rfl) (by decide) ?_
      refine lv_iconst (v := 0) hx hb dX12_kindOf_88 (by decide) ?_
      exact eIp X hH h hr dX12_kindOf_89
    · replace h := iff' h hc2
      by_cases hc3 : p0 = (104 : Int32)
      · replace h := ift h hc3
        refine lv_tableIn (tgt := 90) (off := 89) hx hb dX12_kindOf_1 (by rw [hc3]; decide) (by rw [hc3]; decide) (by rw [hc3]; rfl) (by decide) ?_
        refine lv_iconst (v := 1) hx hb dX12_kindOf_90 (by decide) ?_
        exact eIp X hH h hr dX12_kindOf_91
      · replace h := iff' h hc3
        by_cases hc4 : p0 = (107 : Int32)
        · replace h := ift h hc4
          refine lv_tableIn (tgt := 94) (off := 93) hx hb dX12_kindOf_1 (by rw [hc4]; decide) (by rw [hc4]; decide) (by rw [hc4]; rfl) (by decide) ?_
          refine lv_iconst (v := 3) hx hb dX12_kindOf_94 (by decide) ?_
          exact eIp X hH h hr dX12_kindOf_95
        · replace h := iff' h hc4
          by_cases hc5 : p0 = (114 : Int32)
          · replace h := ift h hc5
            refine lv_tableIn (tgt := 96) (off := 95) hx hb dX12_kindOf_1 (by rw [hc5]; decide) (by rw [hc5]; decide) (by rw [hc5]; rfl) (by decide) ?_
            refine lv_iconst (v := 4) hx hb dX12_kindOf_96 (by decide) ?_
            exact eIp X hH h hr dX12_kindOf_97
          · replace h := iff' h hc5
            by_cases hc6 : p0 = (116 : Int32)
            · replace h := ift h hc6
              refine lv_tableIn (tgt := 98) (off := 97) hx hb dX12_kindOf_1 (by rw [hc6]; decide) (by rw [hc6]; decide) (by rw [hc6]; rfl) (by decide) ?_
              refine lv_iconst (v := 5) hx hb dX12_kindOf_98 (by decide) ?_
              exact eIp X hH h hr dX12_kindOf_99
            · replace h := iff' h hc6
              have e99 : p0.toInt ≠ 99 := lv_neT hc1 (by decide)
              have e103 : p0.toInt ≠ 103 := lv_neT hc2 (by decide)
              have e104 : p0.toInt ≠ 104 := lv_neT hc3 (by decide)
              have e107 : p0.toInt ≠ 107 := lv_neT hc4 (by decide)
              have e114 : p0.toInt ≠ 114 := lv_neT hc5 (by decide)
              have e116 : p0.toInt ≠ 116 := lv_neT hc6 (by decide)
              refine sw_lem (M := 100) (ls := ls) (rest := []) ?_ (fun sw => ?_)
              · refine lv_bipush (v := -9) hx hb dX12_kindOf_100 (by decide) ?_
                exact eIp X hH h hr dX12_kindOf_102
              · by_cases hlo : p0.toInt < 99 ∨ 116 < p0.toInt
                · refine lv_tableOut (tgt := 100) hx hb dX12_kindOf_1 hlo (by decide) ?_
                  exact sw
                · have hh : p0.toInt = 100 ∨ p0.toInt = 101 ∨ p0.toInt = 102 ∨ p0.toInt = 105 ∨ p0.toInt = 106 ∨ p0.toInt = 108 ∨ p0.toInt = 109 ∨ p0.toInt = 110 ∨ p0.toInt = 111 ∨ p0.toInt = 112 ∨ p0.toInt = 113 ∨ p0.toInt = 115 := by omega
                  rcases hh with hh | hh | hh | hh | hh | hh | hh | hh | hh | hh | hh | hh
                  · refine lv_tableIn (tgt := 100) (off := 99) hx hb dX12_kindOf_1 (by rw [hh]; decide) (by rw [hh]; decide) (by rw [hh]; rfl) (by decide) ?_
                    exact sw
                  · refine lv_tableIn (tgt := 100) (off := 99) hx hb dX12_kindOf_1 (by rw [hh]; decide) (by rw [hh]; decide) (by rw [hh]; rfl) (by decide) ?_
                    exact sw
                  · refine lv_tableIn (tgt := 100) (off := 99) hx hb dX12_kindOf_1 (by rw [hh]; decide) (by rw [hh]; decide) (by rw [hh]; rfl) (by decide) ?_
                    exact sw
                  · refine lv_tableIn (tgt := 100) (off := 99) hx hb dX12_kindOf_1 (by rw [hh]; decide) (by rw [hh]; decide) (by rw [hh]; rfl) (by decide) ?_
                    exact sw
                  · refine lv_tableIn (tgt := 100) (off := 99) hx hb dX12_kindOf_1 (by rw [hh]; decide) (by rw [hh]; decide) (by rw [hh]; rfl) (by decide) ?_
                    exact sw
                  · refine lv_tableIn (tgt := 100) (off := 99) hx hb dX12_kindOf_1 (by rw [hh]; decide) (by rw [hh]; decide) (by rw [hh]; rfl) (by decide) ?_
                    exact sw
                  · refine lv_tableIn (tgt := 100) (off := 99) hx hb dX12_kindOf_1 (by rw [hh]; decide) (by rw [hh]; decide) (by rw [hh]; rfl) (by decide) ?_
                    exact sw
                  · refine lv_tableIn (tgt := 100) (off := 99) hx hb dX12_kindOf_1 (by rw [hh]; decide) (by rw [hh]; decide) (by rw [hh]; rfl) (by decide) ?_
                    exact sw
                  · refine lv_tableIn (tgt := 100) (off := 99) hx hb dX12_kindOf_1 (by rw [hh]; decide) (by rw [hh]; decide) (by rw [hh]; rfl) (by decide) ?_
                    exact sw
                  · refine lv_tableIn (tgt := 100) (off := 99) hx hb dX12_kindOf_1 (by rw [hh]; decide) (by rw [hh]; decide) (by rw [hh]; rfl) (by decide) ?_
                    exact sw
                  · refine lv_tableIn (tgt := 100) (off := 99) hx hb dX12_kindOf_1 (by rw [hh]; decide) (by rw [hh]; decide) (by rw [hh]; rfl) (by decide) ?_
                    exact sw
                  · refine lv_tableIn (tgt := 100) (off := 99) hx hb dX12_kindOf_1 (by rw [hh]; decide) (by rw [hh]; decide) (by rw [hh]; rfl) (by decide) ?_
                    exact sw
