set_option maxHeartbeats 1000000 in
theorem iv_L_100 {p : Program} {e : Env} {R : Room} {s : State} {m : MethodId} {args : Array Value} {below : List Frame} {meth : Method} {c : Code} {H : Heap} {locs : List Loc} {cells slots : Nat} {Q : State → Prop} {cc : ByteArray} {pc : Nat} {ls : Array Slot} {rest : List Value} {nL : Nat} {G : CG} {μ : Mm} {a : Nat}  {x : Mm} {k k2 : Nat} (l : Launch) (X : Cx p s m args meth c cc nL RL G) (hH : HS G s μ H locs) (hRL : RmL R k k2) (hk : 3 + 1 ≤ k ∧ 97 ≤ k2) (h : f_X11_init μ a = some x) (hls : ls.size = nL) (hroom : (rest.map fun v => v.category).sum ≤ 8) (hdg : decode cc pc = .ok (.invokespecial 100, 3)) (hcs : cells + 75 ≤ R.cells ∧ slots + 1965 ≤ R.slots) (kk : ∀ (H1 : Heap) (locs1 : List Loc), HS G s x H1 locs1 → W p l e R s m args below meth c H1 locs1 (cells + 75) (slots + 1965) Q (F0 m (pc + 3) ls rest)) : W p l e R s m args below meth c H locs cells slots Q (F0 m pc ls (.ref a :: rest)) := by
  refine kV hH (rI (As := []) (rest := rest) X hH (c_X11_init l G μ a x h) (List.forall_mem_cons.mpr ⟨u_36, (List.forall_mem_cons.mpr ⟨u_37, (List.forall_mem_cons.mpr ⟨u_21, (fun _ h9 => absurd h9 List.not_mem_nil)⟩)⟩)⟩) u_38 (rmo hRL (Nat.le_trans (by decide) hk.1) (Nat.le_trans (by decide) hk.2)) rfl ddS_X11_init rfl hls rfl hroom hdg hcs) kk
set_option maxHeartbeats 1000000 in
theorem iv_L_101 {p : Program} {e : Env} {R : Room} {s : State} {m : MethodId} {args : Array Value} {below : List Frame} {meth : Method} {c : Code} {H : Heap} {locs : List Loc} {cells slots : Nat} {Q : State → Prop} {cc : ByteArray} {pc : Nat} {ls : Array Slot} {rest : List Value} {nL : Nat} {G : CG} {μ : Mm} {q0 : Nat} {q1 : Int32} {q2 : Int32} {q3 : Int32} {q4 : Nat} {x : Mm} {k k2 : Nat} (l : Launch) (X : Cx p s m args meth c cc nL RL G) (hH : HS G s μ H locs) (hRL : RmL R k k2) (hk : 2 + 1 ≤ k ∧ 49 ≤ k2) (h : f_L_numbers (gS G) μ q0 q1 q2 q3 q4 = some x) (hls : ls.size = nL) (hroom : (rest.map fun v => v.category).sum ≤ 8) (hdg : decode cc pc = .ok (.invokestatic 101, 3)) (hcs : cells + 0 ≤ R.cells ∧ slots + 0 ≤ R.slots) (kk : ∀ (H1 : Heap) (locs1 : List Loc), HS G s x H1 locs1 → W p l e R s m args below meth c H1 locs1 cells slots Q (F0 m (pc + 3) ls rest)) : W p l e R s m args below meth c H locs cells slots Q (F0 m pc ls (.ref q4 :: .int q3 :: .int q2 :: .int q1 :: .ref q0 :: rest)) := by
  refine kV0 hH (rS (As := [.ref q0, .int q1, .int q2, .int q3, .ref q4]) (rest := rest) X hH (c_L_numbers l G μ q0 q1 q2 q3 q4 x h) (List.forall_mem_cons.mpr ⟨u_463, (List.forall_mem_cons.mpr ⟨u_464, (List.forall_mem_cons.mpr ⟨u_20, (fun _ h9 => absurd h9 List.not_mem_nil)⟩)⟩)⟩) u_465 (rmo hRL (Nat.le_trans (by decide) hk.1) (Nat.le_trans (by decide) hk.2)) ddS_L_numbers rfl hls rfl hroom hdg hcs) kk
set_option maxHeartbeats 1000000 in
theorem iv_L_105 {p : Program} {e : Env} {R : Room} {s : State} {m : MethodId} {args : Array Value} {below : List Frame} {meth : Method} {c : Code} {H : Heap} {locs : List Loc} {cells slots : Nat} {Q : State → Prop} {cc : ByteArray} {pc : Nat} {ls : Array Slot} {rest : List Value} {nL : Nat} {G : CG} {μ : Mm} {q0 : Nat} {q1 : Nat} {x : Int32 × Mm} {k k2 : Nat} (l : Launch) (X : Cx p s m args meth c cc nL RL G) (hH : HS G s μ H locs) (hRL : RmL R k k2) (hk : 8 + 1 ≤ k ∧ 185 ≤ k2) (h : f_L_hall μ q0 q1 = some x) (hls : ls.size = nL) (hroom : (rest.map fun v => v.category).sum ≤ 8) (hdg : decode cc pc = .ok (.invokestatic 105, 3)) (hcs : cells + 42 ≤ R.cells ∧ slots + 84 ≤ R.slots) (kk : ∀ (H1 : Heap) (locs1 : List Loc), HS G s x.2 H1 locs1 → W p l e R s m args below meth c H1 locs1 (cells + 42) (slots + 84) Q (F0 m (pc + 3) ls (.int x.1 :: rest))) : W p l e R s m args below meth c H locs cells slots Q (F0 m pc ls (.ref q1 :: .ref q0 :: rest)) := by
  refine kIm hH (rS (As := [.ref q0, .ref q1]) (rest := rest) X hH (c_L_hall l G μ q0 q1 x h) (List.forall_mem_cons.mpr ⟨u_469, (List.forall_mem_cons.mpr ⟨u_470, (List.forall_mem_cons.mpr ⟨u_20, (fun _ h9 => absurd h9 List.not_mem_nil)⟩)⟩)⟩) u_471 (rmo hRL (Nat.le_trans (by decide) hk.1) (Nat.le_trans (by decide) hk.2)) ddS_L_hall rfl hls rfl hroom hdg hcs) kk
set_option maxHeartbeats 1000000 in
theorem iv_L_108 {p : Program} {e : Env} {R : Room} {s : State} {m : MethodId} {args : Array Value} {below : List Frame} {meth : Method} {c : Code} {H : Heap} {locs : List Loc} {cells slots : Nat} {Q : State → Prop} {cc : ByteArray} {pc : Nat} {ls : Array Slot} {rest : List Value} {nL : Nat} {G : CG} {μ : Mm} {a : Nat} {q0 : Int32} {x : Int32 × Mm} {k k2 : Nat} (l : Launch) (X : Cx p s m args meth c cc nL RL G) (hH : HS G s μ H locs) (hRL : RmL R k k2) (hk : 2 + 1 ≤ k ∧ 75 ≤ k2) (h : f_X11_keep μ a q0 = some x) (hls : ls.size = nL) (hroom : (rest.map fun v => v.category).sum ≤ 8) (hdg : decode cc pc = .ok (.invokevirtual 108, 3)) (hcs : cells + 0 ≤ R.cells ∧ slots + 0 ≤ R.slots) (kk : ∀ (H1 : Heap) (locs1 : List Loc), HS G s x.2 H1 locs1 → W p l e R s m args below meth c H1 locs1 cells slots Q (F0 m (pc + 3) ls (.int x.1 :: rest))) : W p l e R s m args below meth c H locs cells slots Q (F0 m pc ls (.int q0 :: .ref a :: rest)) := by
  refine kI hH (rV (As := [.int q0]) (rest := rest) X hH (t_X11_keep h) vc_11 (c_X11_keep l G μ a q0 x h) (List.forall_mem_cons.mpr ⟨u_390, (List.forall_mem_cons.mpr ⟨u_391, (List.forall_mem_cons.mpr ⟨u_392, (List.forall_mem_cons.mpr ⟨u_21, (fun _ h9 => absurd h9 List.not_mem_nil)⟩)⟩)⟩)⟩) u_393 (rmo hRL (Nat.le_trans (by decide) hk.1) (Nat.le_trans (by decide) hk.2)) ddV_X11_keep rfl hls rfl hroom hdg hcs) kk
set_option maxHeartbeats 1000000 in
theorem iv_L_111 {p : Program} {e : Env} {R : Room} {s : State} {m : MethodId} {args : Array Value} {below : List Frame} {meth : Method} {c : Code} {H : Heap} {locs : List Loc} {cells slots : Nat} {Q : State → Prop} {cc : ByteArray} {pc : Nat} {ls : Array Slot} {rest : List Value} {nL : Nat} {G : CG} {μ : Mm} {a : Nat}  {x : Int64} {k k2 : Nat} (l : Launch) (X : Cx p s m args meth c cc nL RL G) (hH : HS G s μ H locs) (hRL : RmL R k k2) (hk : 6 + 1 ≤ k ∧ 128 ≤ k2) (h : f_X11_digest μ a = some x) (hls : ls.size = nL) (hroom : (rest.map fun v => v.category).sum ≤ 8) (hdg : decode cc pc = .ok (.invokevirtual 111, 3)) (hcs : cells + 0 ≤ R.cells ∧ slots + 0 ≤ R.slots) (kk : ∀ (H1 : Heap) (locs1 : List Loc), HS G s μ H1 locs1 → W p l e R s m args below meth c H1 locs1 cells slots Q (F0 m (pc + 3) ls (.long x :: rest))) : W p l e R s m args below meth c H locs cells slots Q (F0 m pc ls (.ref a :: rest)) := by
  refine kL hH (rV (As := []) (rest := rest) X hH (t_X11_digest h) vc_11 (c_X11_digest l G μ a x h) (List.forall_mem_cons.mpr ⟨u_418, (List.forall_mem_cons.mpr ⟨u_419, (List.forall_mem_cons.mpr ⟨u_420, (List.forall_mem_cons.mpr ⟨u_21, (fun _ h9 => absurd h9 List.not_mem_nil)⟩)⟩)⟩)⟩) u_421 (rmo hRL (Nat.le_trans (by decide) hk.1) (Nat.le_trans (by decide) hk.2)) ddV_X11_digest rfl hls rfl hroom hdg hcs) kk
set_option maxHeartbeats 1000000 in
theorem iv_L_114 {p : Program} {e : Env} {R : Room} {s : State} {m : MethodId} {args : Array Value} {below : List Frame} {meth : Method} {c : Code} {H : Heap} {locs : List Loc} {cells slots : Nat} {Q : State → Prop} {cc : ByteArray} {pc : Nat} {ls : Array Slot} {rest : List Value} {nL : Nat} {G : CG} {μ : Mm} {q0 : Nat} {q1 : Int32} {q2 : Nat} {q3 : Nat} {x : Int32 × Mm} {k k2 : Nat} (l : Launch) (X : Cx p s m args meth c cc nL RL G) (hH : HS G s μ H locs) (hRL : RmL R k k2) (hk : 8 + 1 ≤ k ∧ 176 ≤ k2) (h : f_L_goes μ q0 q1 q2 q3 = some x) (hls : ls.size = nL) (hroom : (rest.map fun v => v.category).sum ≤ 8) (hdg : decode cc pc = .ok (.invokestatic 114, 3)) (hcs : cells + 0 ≤ R.cells ∧ slots + 0 ≤ R.slots) (kk : ∀ (H1 : Heap) (locs1 : List Loc), HS G s x.2 H1 locs1 → W p l e R s m args below meth c H1 locs1 cells slots Q (F0 m (pc + 3) ls (.int x.1 :: rest))) : W p l e R s m args below meth c H locs cells slots Q (F0 m pc ls (.ref q3 :: .ref q2 :: .int q1 :: .ref q0 :: rest)) := by
  refine kI hH (rS (As := [.ref q0, .int q1, .ref q2, .ref q3]) (rest := rest) X hH (c_L_goes l G μ q0 q1 q2 q3 x h) (List.forall_mem_cons.mpr ⟨u_594, (List.forall_mem_cons.mpr ⟨u_595, (List.forall_mem_cons.mpr ⟨u_20, (fun _ h9 => absurd h9 List.not_mem_nil)⟩)⟩)⟩) u_596 (rmo hRL (Nat.le_trans (by decide) hk.1) (Nat.le_trans (by decide) hk.2)) ddS_L_goes rfl hls rfl hroom hdg hcs) kk
set_option maxHeartbeats 1000000 in
theorem iv_L_118 {p : Program} {e : Env} {R : Room} {s : State} {m : MethodId} {args : Array Value} {below : List Frame} {meth : Method} {c : Code} {H : Heap} {locs : List Loc} {cells slots : Nat} {Q : State → Prop} {cc : ByteArray} {pc : Nat} {ls : Array Slot} {rest : List Value} {nL : Nat} {G : CG} {μ : Mm} {q0 : Nat} {q1 : Int32} {x : Int32 × Mm} {k k2 : Nat} (l : Launch) (X : Cx p s m args meth c cc nL RL G) (hH : HS G s μ H locs) (hRL : RmL R k k2) (hk : 7 + 1 ≤ k ∧ 150 ≤ k2) (h : f_L_paced μ q0 q1 = some x) (hls : ls.size = nL) (hroom : (rest.map fun v => v.category).sum ≤ 8) (hdg : decode cc pc = .ok (.invokestatic 118, 3)) (hcs : cells + 0 ≤ R.cells ∧ slots + 0 ≤ R.slots) (kk : ∀ (H1 : Heap) (locs1 : List Loc), HS G s x.2 H1 locs1 → W p l e R s m args below meth c H1 locs1 cells slots Q (F0 m (pc + 3) ls (.int x.1 :: rest))) : W p l e R s m args below meth c H locs cells slots Q (F0 m pc ls (.int q1 :: .ref q0 :: rest)) := by
  refine kI hH (rS (As := [.ref q0, .int q1]) (rest := rest) X hH (c_L_paced l G μ q0 q1 x h) (List.forall_mem_cons.mpr ⟨u_627, (List.forall_mem_cons.mpr ⟨u_628, (List.forall_mem_cons.mpr ⟨u_20, (fun _ h9 => absurd h9 List.not_mem_nil)⟩)⟩)⟩) u_629 (rmo hRL (Nat.le_trans (by decide) hk.1) (Nat.le_trans (by decide) hk.2)) ddS_L_paced rfl hls rfl hroom hdg hcs) kk
set_option maxHeartbeats 1000000 in
theorem iv_L_122 {p : Program} {e : Env} {R : Room} {s : State} {m : MethodId} {args : Array Value} {below : List Frame} {meth : Method} {c : Code} {H : Heap} {locs : List Loc} {cells slots : Nat} {Q : State → Prop} {cc : ByteArray} {pc : Nat} {ls : Array Slot} {rest : List Value} {nL : Nat} {G : CG} {μ : Mm} {q0 : Nat} {q1 : Nat} {q2 : Int32} {q3 : Int32} {x : Int32 × Mm} {k k2 : Nat} (l : Launch) (X : Cx p s m args meth c cc nL RL G) (hH : HS G s μ H locs) (hRL : RmL R k k2) (hk : 8 + 1 ≤ k ∧ 186 ≤ k2) (h : f_L_ordered (gS G) μ q0 q1 q2 q3 = some x) (hls : ls.size = nL) (hroom : (rest.map fun v => v.category).sum ≤ 8) (hdg : decode cc pc = .ok (.invokestatic 122, 3)) (hcs : cells + 0 ≤ R.cells ∧ slots + 0 ≤ R.slots) (kk : ∀ (H1 : Heap) (locs1 : List Loc), HS G s x.2 H1 locs1 → W p l e R s m args below meth c H1 locs1 cells slots Q (F0 m (pc + 3) ls (.int x.1 :: rest))) : W p l e R s m args below meth c H locs cells slots Q (F0 m pc ls (.int q3 :: .int q2 :: .ref q1 :: .ref q0 :: rest)) := by
  refine kI hH (rS (As := [.ref q0, .ref q1, .int q2, .int q3]) (rest := rest) X hH (c_L_ordered l G μ q0 q1 q2 q3 x h) (List.forall_mem_cons.mpr ⟨u_669, (List.forall_mem_cons.mpr ⟨u_670, (List.forall_mem_cons.mpr ⟨u_20, (fun _ h9 => absurd h9 List.not_mem_nil)⟩)⟩)⟩) u_671 (rmo hRL (Nat.le_trans (by decide) hk.1) (Nat.le_trans (by decide) hk.2)) ddS_L_ordered rfl hls rfl hroom hdg hcs) kk
set_option maxHeartbeats 1000000 in
theorem iv_L_126 {p : Program} {e : Env} {R : Room} {s : State} {m : MethodId} {args : Array Value} {below : List Frame} {meth : Method} {c : Code} {H : Heap} {locs : List Loc} {cells slots : Nat} {Q : State → Prop} {cc : ByteArray} {pc : Nat} {ls : Array Slot} {rest : List Value} {nL : Nat} {G : CG} {μ : Mm} {q0 : Nat} {q1 : Int32} {q2 : Int32} {x : Int32 × Mm} {k k2 : Nat} (l : Launch) (X : Cx p s m args meth c cc nL RL G) (hH : HS G s μ H locs) (hRL : RmL R k k2) (hk : 8 + 1 ≤ k ∧ 180 ≤ k2) (h : f_L_cheapest μ q0 q1 q2 = some x) (hls : ls.size = nL) (hroom : (rest.map fun v => v.category).sum ≤ 8) (hdg : decode cc pc = .ok (.invokestatic 126, 3)) (hcs : cells + 0 ≤ R.cells ∧ slots + 0 ≤ R.slots) (kk : ∀ (H1 : Heap) (locs1 : List Loc), HS G s x.2 H1 locs1 → W p l e R s m args below meth c H1 locs1 cells slots Q (F0 m (pc + 3) ls (.int x.1 :: rest))) : W p l e R s m args below meth c H locs cells slots Q (F0 m pc ls (.int q2 :: .int q1 :: .ref q0 :: rest)) := by
  refine kI hH (rS (As := [.ref q0, .int q1, .int q2]) (rest := rest) X hH (c_L_cheapest l G μ q0 q1 q2 x h) (List.forall_mem_cons.mpr ⟨u_735, (List.forall_mem_cons.mpr ⟨u_736, (List.forall_mem_cons.mpr ⟨u_20, (fun _ h9 => absurd h9 List.not_mem_nil)⟩)⟩)⟩) u_737 (rmo hRL (Nat.le_trans (by decide) hk.1) (Nat.le_trans (by decide) hk.2)) ddS_L_cheapest rfl hls rfl hroom hdg hcs) kk
set_option maxHeartbeats 1000000 in
theorem iv_L_130 {p : Program} {e : Env} {R : Room} {s : State} {m : MethodId} {args : Array Value} {below : List Frame} {meth : Method} {c : Code} {H : Heap} {locs : List Loc} {cells slots : Nat} {Q : State → Prop} {cc : ByteArray} {pc : Nat} {ls : Array Slot} {rest : List Value} {nL : Nat} {G : CG} {μ : Mm} {q0 : Nat} {q1 : Nat} {q2 : Int32} {q3 : Int32} {x : Int32 × Mm} {k k2 : Nat} (l : Launch) (X : Cx p s m args meth c cc nL RL G) (hH : HS G s μ H locs) (hRL : RmL R k k2) (hk : 8 + 1 ≤ k ∧ 180 ≤ k2) (h : f_L_fewest (gS G) μ q0 q1 q2 q3 = some x) (hls : ls.size = nL) (hroom : (rest.map fun v => v.category).sum ≤ 8) (hdg : decode cc pc = .ok (.invokestatic 130, 3)) (hcs : cells + 0 ≤ R.cells ∧ slots + 0 ≤ R.slots) (kk : ∀ (H1 : Heap) (locs1 : List Loc), HS G s x.2 H1 locs1 → W p l e R s m args below meth c H1 locs1 cells slots Q (F0 m (pc + 3) ls (.int x.1 :: rest))) : W p l e R s m args below meth c H locs cells slots Q (F0 m pc ls (.int q3 :: .int q2 :: .ref q1 :: .ref q0 :: rest)) := by
  refine kI hH (rS (As := [.ref q0, .ref q1, .int q2, .int q3]) (rest := rest) X hH (c_L_fewest l G μ q0 q1 q2 q3 x h) (List.forall_mem_cons.mpr ⟨u_742, (List.forall_mem_cons.mpr ⟨u_743, (List.forall_mem_cons.mpr ⟨u_20, (fun _ h9 => absurd h9 List.not_mem_nil)⟩)⟩)⟩) u_744 (rmo hRL (Nat.le_trans (by decide) hk.1) (Nat.le_trans (by decide) hk.2)) ddS_L_fewest rfl hls rfl hroom hdg hcs) kk
set_option maxHeartbeats 1000000 in
theorem iv_L_133 {p : Program} {e : Env} {R : Room} {s : State} {m : MethodId} {args : Array Value} {below : List Frame} {meth : Method} {c : Code} {H : Heap} {locs : List Loc} {cells slots : Nat} {Q : State → Prop} {cc : ByteArray} {pc : Nat} {ls : Array Slot} {rest : List Value} {nL : Nat} {G : CG} {μ : Mm} {q0 : Nat} {q1 : Nat} {q2 : Int32} {q3 : Int32} {x : Int32 × Mm} {k k2 : Nat} (l : Launch) (X : Cx p s m args meth c cc nL RL G) (hH : HS G s μ H locs) (hRL : RmL R k k2) (hk : 8 + 1 ≤ k ∧ 190 ≤ k2) (h : f_L_fitted (gS G) μ q0 q1 q2 q3 = some x) (hls : ls.size = nL) (hroom : (rest.map fun v => v.category).sum ≤ 8) (hdg : decode cc pc = .ok (.invokestatic 133, 3)) (hcs : cells + 0 ≤ R.cells ∧ slots + 0 ≤ R.slots) (kk : ∀ (H1 : Heap) (locs1 : List Loc), HS G s x.2 H1 locs1 → W p l e R s m args below meth c H1 locs1 cells slots Q (F0 m (pc + 3) ls (.int x.1 :: rest))) : W p l e R s m args below meth c H locs cells slots Q (F0 m pc ls (.int q3 :: .int q2 :: .ref q1 :: .ref q0 :: rest)) := by
  refine kI hH (rS (As := [.ref q0, .ref q1, .int q2, .int q3]) (rest := rest) X hH (c_L_fitted l G μ q0 q1 q2 q3 x h) (List.forall_mem_cons.mpr ⟨u_789, (List.forall_mem_cons.mpr ⟨u_790, (List.forall_mem_cons.mpr ⟨u_20, (fun _ h9 => absurd h9 List.not_mem_nil)⟩)⟩)⟩) u_791 (rmo hRL (Nat.le_trans (by decide) hk.1) (Nat.le_trans (by decide) hk.2)) ddS_L_fitted rfl hls rfl hroom hdg hcs) kk
set_option maxHeartbeats 1000000 in
theorem iv_L_136 {p : Program} {e : Env} {R : Room} {s : State} {m : MethodId} {args : Array Value} {below : List Frame} {meth : Method} {c : Code} {H : Heap} {locs : List Loc} {cells slots : Nat} {Q : State → Prop} {cc : ByteArray} {pc : Nat} {ls : Array Slot} {rest : List Value} {nL : Nat} {G : CG} {μ : Mm} {q0 : Nat} {q1 : Nat} {q2 : Int32} {q3 : Int32} {x : Int32 × Mm} {k k2 : Nat} (l : Launch) (X : Cx p s m args meth c cc nL RL G) (hH : HS G s μ H locs) (hRL : RmL R k k2) (hk : 8 + 1 ≤ k ∧ 183 ≤ k2) (h : f_L_again (gS G) μ q0 q1 q2 q3 = some x) (hls : ls.size = nL) (hroom : (rest.map fun v => v.category).sum ≤ 8) (hdg : decode cc pc = .ok (.invokestatic 136, 3)) (hcs : cells + 0 ≤ R.cells ∧ slots + 0 ≤ R.slots) (kk : ∀ (H1 : Heap) (locs1 : List Loc), HS G s x.2 H1 locs1 → W p l e R s m args below meth c H1 locs1 cells slots Q (F0 m (pc + 3) ls (.int x.1 :: rest))) : W p l e R s m args below meth c H locs cells slots Q (F0 m pc ls (.int q3 :: .int q2 :: .ref q1 :: .ref q0 :: rest)) := by
  refine kI hH (rS (As := [.ref q0, .ref q1, .int q2, .int q3]) (rest := rest) X hH (c_L_again l G μ q0 q1 q2 q3 x h) (List.forall_mem_cons.mpr ⟨u_822, (List.forall_mem_cons.mpr ⟨u_823, (List.forall_mem_cons.mpr ⟨u_20, (fun _ h9 => absurd h9 List.not_mem_nil)⟩)⟩)⟩) u_824 (rmo hRL (Nat.le_trans (by decide) hk.1) (Nat.le_trans (by decide) hk.2)) ddS_L_again rfl hls rfl hroom hdg hcs) kk
set_option maxHeartbeats 1000000 in
theorem iv_L_139 {p : Program} {e : Env} {R : Room} {s : State} {m : MethodId} {args : Array Value} {below : List Frame} {meth : Method} {c : Code} {H : Heap} {locs : List Loc} {cells slots : Nat} {Q : State → Prop} {cc : ByteArray} {pc : Nat} {ls : Array Slot} {rest : List Value} {nL : Nat} {G : CG} {μ : Mm} {q0 : Nat} {q1 : Nat} {x : Int32 × Mm} {k k2 : Nat} (l : Launch) (X : Cx p s m args meth c cc nL RL G) (hH : HS G s μ H locs) (hRL : RmL R k k2) (hk : 8 + 1 ≤ k ∧ 182 ≤ k2) (h : f_L_chances (gS G) μ q0 q1 = some x) (hls : ls.size = nL) (hroom : (rest.map fun v => v.category).sum ≤ 8) (hdg : decode cc pc = .ok (.invokestatic 139, 3)) (hcs : cells + 0 ≤ R.cells ∧ slots + 0 ≤ R.slots) (kk : ∀ (H1 : Heap) (locs1 : List Loc), HS G s x.2 H1 locs1 → W p l e R s m args below meth c H1 locs1 cells slots Q (F0 m (pc + 3) ls (.int x.1 :: rest))) : W p l e R s m args below meth c H locs cells slots Q (F0 m pc ls (.ref q1 :: .ref q0 :: rest)) := by
  refine kI hH (rS (As := [.ref q0, .ref q1]) (rest := rest) X hH (c_L_chances l G μ q0 q1 x h) (List.forall_mem_cons.mpr ⟨u_839, (List.forall_mem_cons.mpr ⟨u_840, (List.forall_mem_cons.mpr ⟨u_20, (fun _ h9 => absurd h9 List.not_mem_nil)⟩)⟩)⟩) u_841 (rmo hRL (Nat.le_trans (by decide) hk.1) (Nat.le_trans (by decide) hk.2)) ddS_L_chances rfl hls rfl hroom hdg hcs) kk
set_option maxHeartbeats 1000000 in
theorem iv_L_142 {p : Program} {e : Env} {R : Room} {s : State} {m : MethodId} {args : Array Value} {below : List Frame} {meth : Method} {c : Code} {H : Heap} {locs : List Loc} {cells slots : Nat} {Q : State → Prop} {cc : ByteArray} {pc : Nat} {ls : Array Slot} {rest : List Value} {nL : Nat} {G : CG} {μ : Mm} {a : Nat} {q0 : Int32} {x : Int32 × Mm} {k k2 : Nat} (l : Launch) (X : Cx p s m args meth c cc nL RL G) (hH : HS G s μ H locs) (hRL : RmL R k k2) (hk : 3 + 1 ≤ k ∧ 65 ≤ k2) (h : f_X11_tear μ a q0 = some x) (hls : ls.size = nL) (hroom : (rest.map fun v => v.category).sum ≤ 8) (hdg : decode cc pc = .ok (.invokevirtual 142, 3)) (hcs : cells + 0 ≤ R.cells ∧ slots + 0 ≤ R.slots) (kk : ∀ (H1 : Heap) (locs1 : List Loc), HS G s x.2 H1 locs1 → W p l e R s m args below meth c H1 locs1 cells slots Q (F0 m (pc + 3) ls (.int x.1 :: rest))) : W p l e R s m args below meth c H locs cells slots Q (F0 m pc ls (.int q0 :: .ref a :: rest)) := by
  refine kI hH (rV (As := [.int q0]) (rest := rest) X hH (t_X11_tear h) vc_11 (c_X11_tear l G μ a q0 x h) (List.forall_mem_cons.mpr ⟨u_287, (List.forall_mem_cons.mpr ⟨u_288, (List.forall_mem_cons.mpr ⟨u_289, (List.forall_mem_cons.mpr ⟨u_21, (fun _ h9 => absurd h9 List.not_mem_nil)⟩)⟩)⟩)⟩) u_290 (rmo hRL (Nat.le_trans (by decide) hk.1) (Nat.le_trans (by decide) hk.2)) ddV_X11_tear rfl hls rfl hroom hdg hcs) kk
set_option maxHeartbeats 4000000 in
set_option maxRecDepth 100000 in
theorem w_L_law_63 {p : Program} {e : Env} {R : Room} {s : State} {m : MethodId} {args : Array Value} {below : List Frame} {meth : Method} {c : Code} {cells slots : Nat} {Q : State → Prop} {G : CG} (l : Launch) (X : Cx p s m args meth c cL_law 10 RL G) (hRL : RmL R 9 190) (hcs : cells ≤ R.cells ∧ slots ≤ R.slots) : ∀ (n : Nat) (v0 : Nat) (v1 : Nat) (v2 : Nat) (v3 : Nat) (v4 : Int64) (v6 : Int32) (v7 : Int32) (v8 : Int32) (μ : Mm) (x : Nat × Int32 × Mm), lp_L_law_63 (gS G) n v0 v1 v2 v3 v4 v6 v7 v8 μ = some x → (∀ (H : Heap) (locs : List Loc) (ls : Array Slot), x.1 = 0 → HS G s x.2.2 H locs → lv_has ls 10 [] → W p l e R s m args below meth c H locs cells slots Q (F0 m 118 ls [])) → (∀ (H : Heap) (locs : List Loc) (ls : Array Slot), x.1 = 1 → HS G s x.2.2 H locs → lv_has ls 10 [(0, .ref v0), (1, .ref v1), (4, .long v4), (6, .int v6), (7, .int x.2.1)] → W p l e R s m args below meth c H locs cells slots Q (F0 m 126 ls [])) → ∀ (H : Heap) (locs : List Loc) (ls : Array Slot), HS G s μ H locs → lv_has ls 10 [(0, .ref v0), (1, .ref v1), (2, .ref v2), (3, .ref v3), (4, .long v4), (6, .int v6), (7, .int v7), (8, .int v8)] → W p l e R s m args below meth c H locs cells slots Q (F0 m 63 ls []) := by
  have hx := X.1
  have hb := X.2.1
  have hown := X.2.2.2.1
  have hts := X.2.2.2.2.1
  intro n
  induction n with
  | zero =>
    intro v0 v1 v2 v3 v4 v6 v7 v8 μ x h
    rw [lp_L_law_63] at h
    cases h
  | succ n ih =>
    intro v0 v1 v2 v3 v4 v6 v7 v8 μ x h k0 k1 H locs ls hH hl
    rw [lp_L_law_63] at h
    refine lv_iload hx hb dL_law_63 (lv_at hl 7 rfl) ?_
    refine lv_bipush (v := 8) hx hb dL_law_65 (by decide) ?_
    refine lv_icmp_ge (tgt := 126) hx hb dL_law_67 (by decide) (fun hc12 => ?_) (fun hc12 => ?_)
    · replace h := ift h hc12
      cases h
      exact k1 _ _ _ rfl hH (lv_sub hl [0, 1, 4, 5, 6] rfl)
    · replace h := iff' h hc12
      refine lv_aload_n hx hb dL_law_70 rfl (lv_at hl 1 rfl) ?_
      refine lv_aload_n hx hb dL_law_71 rfl (lv_at hl 0 rfl) ?_
      refine lv_bipush (v := 30) hx hb dL_law_72 (by decide) ?_
      refine lv_iload hx hb dL_law_74 (lv_at hl 7 rfl) ?_
      refine lv_iadd hx hb dL_law_76 ?_
      obtain ⟨x13, hx13, h⟩ := bnd h
      refine iv_L_14 l X hH hRL (by decide) hx13 hl.1 (Nat.le_of_ble_eq_true rfl) dL_law_77 hcs (fun H locs hH => ?_)
      refine lv_aload_n hx hb dL_law_80 rfl (lv_at hl 2 rfl) ?_
      refine lv_aload_n hx hb dL_law_81 rfl (lv_at hl 3 rfl) ?_
      obtain ⟨x14, hx14, h⟩ := bnd h
      refine iv_L_114 l X hH hRL (by decide) hx14 hl.1 (Nat.le_of_ble_eq_true rfl) dL_law_82 hcs (fun H locs hH => ?_)
      refine lv_istore (lv' := [(9, .int x14.1), (0, .ref v0), (1, .ref v1), (2, .ref v2), (3, .ref v3), (4, .long v4), (6, .int v6), (7, .int v7), (8, .int v8)]) hx hb dL_law_85 hl (by decide) rfl (fun ls hl => ?_)
      refine lv_iload hx hb dL_law_87 (lv_at hl 7 rfl) ?_
      refine lv_iload hx hb dL_law_89 (lv_at hl 0 rfl) ?_
      refine lv_iadd hx hb dL_law_91 ?_
      refine lv_istore (lv' := [(7, .int (v7 + x14.1)), (9, .int x14.1), (0, .ref v0), (1, .ref v1), (2, .ref v2), (3, .ref v3), (4, .long v4), (6, .int v6), (8, .int v8)]) hx hb dL_law_92 hl (by decide) rfl (fun ls hl => ?_)
      refine lv_iload hx hb dL_law_94 (lv_at hl 1 rfl) ?_
      refine lv_if_lt (tgt := 118) hx hb dL_law_96 (by decide) (fun hc15 => ?_) (fun hc15 => ?_)
      · replace h := ift h hc15
        cases h
        exact k0 _ _ _ rfl hH (lv_sub hl [] rfl)
      · replace h := iff' h hc15
        refine lv_aload_n hx hb dL_law_99 rfl (lv_at hl 3 rfl) ?_
        refine lv_iconst (v := 4) hx hb dL_law_100 (by decide) ?_
        obtain ⟨x16, hx16, h⟩ := bnd h
        refine iv_L_49 l X hH hRL (by decide) hx16 hl.1 (Nat.le_of_ble_eq_true rfl) dL_law_101 hcs (fun H locs hH => ?_)
        refine lv_iload hx hb dL_law_104 (lv_at hl 0 rfl) ?_
        refine lv_icmp_ne (tgt := 118) hx hb dL_law_106 (by decide) (fun hc17 => ?_) (fun hc17 => ?_)
        · replace h := iff' h hc17
          cases h
          exact k0 _ _ _ rfl hH (lv_sub hl [] rfl)
        · replace h := ift h hc17
          refine lv_aload_n hx hb dL_law_109 rfl (lv_at hl 3 rfl) ?_
          refine lv_iload hx hb dL_law_110 (lv_at hl 7 rfl) ?_
          obtain ⟨x18, hx18, h⟩ := bnd h
          refine iv_L_118 l X hH hRL (by decide) hx18 hl.1 (Nat.le_of_ble_eq_true rfl) dL_law_112 hcs (fun H locs hH => ?_)
          refine lv_if_ne (tgt := 120) hx hb dL_law_115 (by decide) (fun hc19 => ?_) (fun hc19 => ?_)
          · replace h := iff' h hc19
            refine lv_iinc (v := (v8 + 1)) (lv' := [(8, .int (v8 + 1)), (7, .int (v7 + x14.1)), (9, .int x14.1), (0, .ref v0), (1, .ref v1), (2, .ref v2), (3, .ref v3), (4, .long v4), (6, .int v6)]) hx hb dL_law_120 hl (k := 8) rfl rfl (by decide) rfl (fun ls hl => ?_)
            refine lv_goto (tgt := 63) hx hb dL_law_123 (by decide) ?_
            exact ih _ _ _ _ _ _ _ _ _ _ h k0 k1 _ _ _ hH (lv_sub hl [3, 4, 5, 6, 7, 8, 1, 0] rfl)
          · replace h := ift h hc19
            cases h
            exact k0 _ _ _ rfl hH (lv_sub hl [] rfl)
set_option maxHeartbeats 4000000 in
set_option maxRecDepth 100000 in
theorem w_L_law {p : Program} {e : Env} {s : State} {m : MethodId} {below : List Frame} {meth : Method} {c : Code} {Q : State → Prop} {G : CG} {μ : Mm} {p0 : Nat} {H : Heap} {locs : List Loc} {ls : Array Slot} {x : Int32 × Mm} (l : Launch) (X : Cx p s m #[Value.ref p0] meth c cL_law 10 RL G) (hRL : RmL room_1 9 190) (hRc : 120 ≤ room_1.cells ∧ 2099 ≤ room_1.slots) (h : f_L_law (gS G) μ p0 = some x) (hx1 : x.1 = 1) (hH : HS G s μ H locs) (hl : lv_has ls 10 [(0, .ref p0)]) (kend : ∀ (pc : Nat) (H : Heap) (locs : List Loc) (ls : Array Slot) (μ : Mm), HS G s μ H locs → decode cL_law pc = .ok (.ireturn, 1) → W p l e room_1 s m #[Value.ref p0] below meth c H locs 600000 7302250 Q (F0 m pc ls [.int 1])) : W p l e room_1 s m #[Value.ref p0] below meth c H locs 0 0 Q (F0 m 0 ls []) := by
  have hx := X.1
  have hb := X.2.1
  have hown := X.2.2.2.1
  have hts := X.2.2.2.2.1
  obtain ⟨x, xm⟩ := x
  have hx1 : x = 1 := hx1
  subst hx1
  unfold f_L_law at h
  refine w_new X hH vc_11 inU_X11 tyX11 tyX11_ok u_34 u_35 u_21 (df_11 _) (Nat.le_of_ble_eq_true rfl) (Nat.le_of_ble_eq_true rfl) dL_law_0 (fun H hH => ?_)
  refine lv_dup hx hb dL_law_3 rfl ?_
  obtain ⟨x2, hx2, h⟩ := bnd h
  refine iv_L_100 l X hH hRL (by decide) hx2 hl.1 (Nat.le_of_ble_eq_true rfl) dL_law_4 ⟨Nat.le_trans (Nat.le_of_ble_eq_true rfl) hRc.1, Nat.le_trans (Nat.le_of_ble_eq_true rfl) hRc.2⟩ (fun H locs hH => ?_)
  refine lv_astore_n (lv' := [(1, .ref (hz μ)), (0, .ref p0)]) hx hb dL_law_7 rfl hl (by decide) rfl (fun ls hl => ?_)
  refine lv_bipush (v := 24) hx hb dL_law_8 (by decide) ?_
  obtain ⟨x3, hx3, h⟩ := bnd h
  refine w_na X hH (atype := .int) (k := 1) hx3 u_74 (by decide) rfl (fun n' h9 => Nat.le_trans (Nat.mul_le_mul_right _ h9) (by decide)) (ce_I _) (Nat.le_of_ble_eq_true rfl) (Nat.le_of_ble_eq_true rfl) dL_law_10 (fun H hH => ?_)
  refine lv_astore_n (lv' := [(2, .ref x3.1), (1, .ref (hz μ)), (0, .ref p0)]) hx hb dL_law_12 rfl hl (by decide) rfl (fun ls hl => ?_)
  refine lv_bipush (v := 12) hx hb dL_law_13 (by decide) ?_
  obtain ⟨x4, hx4, h⟩ := bnd h
  refine w_na X hH (atype := .int) (k := 1) hx4 u_74 (by decide) rfl (fun n' h9 => Nat.le_trans (Nat.mul_le_mul_right _ h9) (by decide)) (ce_I _) (Nat.le_of_ble_eq_true rfl) (Nat.le_of_ble_eq_true rfl) dL_law_15 (fun H hH => ?_)
  refine lv_astore_n (lv' := [(3, .ref x4.1), (2, .ref x3.1), (1, .ref (hz μ)), (0, .ref p0)]) hx hb dL_law_17 rfl hl (by decide) rfl (fun ls hl => ?_)
  refine lv_aload_n hx hb dL_law_18 rfl (lv_at hl 3 rfl) ?_
  refine lv_bipush (v := 10) hx hb dL_law_19 (by decide) ?_
  refine lv_iconst (v := 5) hx hb dL_law_21 (by decide) ?_
  refine lv_bipush (v := 30) hx hb dL_law_22 (by decide) ?_
  refine lv_aload_n hx hb dL_law_24 rfl (lv_at hl 1 rfl) ?_
  obtain ⟨x5, hx5, h⟩ := bnd h
  refine iv_L_101 l X hH hRL (by decide) hx5 hl.1 (Nat.le_of_ble_eq_true rfl) dL_law_25 ⟨Nat.le_trans (Nat.le_of_ble_eq_true rfl) hRc.1, Nat.le_trans (Nat.le_of_ble_eq_true rfl) hRc.2⟩ (fun H locs hH => ?_)
  refine lv_aload_n hx hb dL_law_28 rfl (lv_at hl 2 rfl) ?_
  refine lv_aload_n hx hb dL_law_29 rfl (lv_at hl 1 rfl) ?_
  obtain ⟨x6, hx6, h⟩ := bnd h
  refine iv_L_105 l X hH hRL (by decide) hx6 hl.1 (Nat.le_of_ble_eq_true rfl) dL_law_30 ⟨Nat.le_trans (Nat.le_of_ble_eq_true rfl) hRc.1, Nat.le_trans (Nat.le_of_ble_eq_true rfl) hRc.2⟩ (fun H locs hH => ?_)
  refine lv_if_eq (tgt := 44) hx hb dL_law_33 (by decide) (fun hc7 => ?_) (fun hc7 => ?_)
  · replace h := ift h hc7
    refine lv_iconst (v := 0) hx hb dL_law_44 (by decide) ?_
    exact absurd (Prod.mk.inj (Option.some.inj h)).1 (by decide)
  · replace h := iff' h hc7
    refine lv_aload_n hx hb dL_law_36 rfl (lv_at hl 2 rfl) ?_
    refine lv_iconst (v := 0) hx hb dL_law_37 (by decide) ?_
    obtain ⟨x8, hx8, h⟩ := bnd h
    refine iv_L_108 l X hH hRL (by decide) hx8 hl.1 (Nat.le_of_ble_eq_true rfl) dL_law_38 ⟨Nat.le_trans (Nat.le_of_ble_eq_true rfl) hRc.1, Nat.le_trans (Nat.le_of_ble_eq_true rfl) hRc.2⟩ (fun H locs hH => ?_)
    refine lv_if_eq (tgt := 46) hx hb dL_law_41 (by decide) (fun hc9 => ?_) (fun hc9 => ?_)
    · replace h := ift h hc9
      refine lv_aload_n hx hb dL_law_46 rfl (lv_at hl 2 rfl) ?_
      obtain ⟨x10, hx10, h⟩ := bnd h
      refine iv_L_111 l X hH hRL (by decide) hx10 hl.1 (Nat.le_of_ble_eq_true rfl) dL_law_47 ⟨Nat.le_trans (Nat.le_of_ble_eq_true rfl) hRc.1, Nat.le_trans (Nat.le_of_ble_eq_true rfl) hRc.2⟩ (fun H locs hH => ?_)
      refine lv_lstore (lv' := [(4, .long x10), (3, .ref x4.1), (2, .ref x3.1), (1, .ref (hz μ)), (0, .ref p0)]) hx hb dL_law_50 hl (by decide) rfl (fun ls hl => ?_)
      refine lv_aload_n hx hb dL_law_52 rfl (lv_at hl 2 rfl) ?_
      refine lv_iconst (v := 0) hx hb dL_law_53 (by decide) ?_
      obtain ⟨x11, hx11, h⟩ := bnd h
      refine w_aI X hH hx11 dL_law_54 ?_
      refine lv_istore (lv' := [(6, .int x11), (4, .long x10), (3, .ref x4.1), (2, .ref x3.1), (1, .ref (hz μ)), (0, .ref p0)]) hx hb dL_law_55 hl (by decide) rfl (fun ls hl => ?_)
      refine lv_iconst (v := 0) hx hb dL_law_57 (by decide) ?_
      refine lv_istore (lv' := [(7, .int (0 : Int32)), (6, .int x11), (4, .long x10), (3, .ref x4.1), (2, .ref x3.1), (1, .ref (hz μ)), (0, .ref p0)]) hx hb dL_law_58 hl (by decide) rfl (fun ls hl => ?_)
      refine lv_iconst (v := 0) hx hb dL_law_60 (by decide) ?_
      refine lv_istore (lv' := [(8, .int (0 : Int32)), (7, .int (0 : Int32)), (6, .int x11), (4, .long x10), (3, .ref x4.1), (2, .ref x3.1), (1, .ref (hz μ)), (0, .ref p0)]) hx hb dL_law_61 hl (by decide) rfl (fun ls hl => ?_)
      obtain ⟨x20, hx20, hhx20⟩ := bnd h
      clear h
      refine w_L_law_63 l X hRL ⟨Nat.le_trans (Nat.le_of_ble_eq_true rfl) hRc.1, Nat.le_trans (Nat.le_of_ble_eq_true rfl) hRc.2⟩ BIG p0 (hz μ) x3.1 x4.1 x10 x11 (0 : Int32) (0 : Int32) x8.2 x20 hx20 (fun H locs ls hj hH hl => ?_) (fun H locs ls hj hH hl => ?_) _ _ _ hH (lv_sub hl [7, 6, 5, 4, 3, 2, 1, 0] rfl)
      · have h := hhx20
        clear hhx20
        replace h := ift h hj
        refine lv_iconst (v := 0) hx hb dL_law_118 (by decide) ?_
        exact absurd (Prod.mk.inj (Option.some.inj h)).1 (by decide)
      · have h := hhx20
        clear hhx20
        replace h := iff' h (by rw [hj]; decide)
        refine lv_aload_n hx hb dL_law_126 rfl (lv_at hl 1 rfl) ?_
        refine lv_aload_n hx hb dL_law_127 rfl (lv_at hl 0 rfl) ?_
        refine lv_iload hx hb dL_law_128 (lv_at hl 3 rfl) ?_
        refine lv_iload hx hb dL_law_130 (lv_at hl 4 rfl) ?_
        obtain ⟨x21, hx21, h⟩ := bnd h
        refine iv_L_122 l X hH hRL (by decide) hx21 hl.1 (Nat.le_of_ble_eq_true rfl) dL_law_132 ⟨Nat.le_trans (Nat.le_of_ble_eq_true rfl) hRc.1, Nat.le_trans (Nat.le_of_ble_eq_true rfl) hRc.2⟩ (fun H locs hH => ?_)
        refine lv_if_eq (tgt := 226) hx hb dL_law_135 (by decide) (fun hc22 => ?_) (fun hc22 => ?_)
        · replace h := ift h hc22
          refine lv_iconst (v := 0) hx hb dL_law_226 (by decide) ?_
          exact absurd (Prod.mk.inj (Option.some.inj h)).1 (by decide)
        · replace h := iff' h hc22
          refine lv_aload_n hx hb dL_law_138 rfl (lv_at hl 1 rfl) ?_
          refine lv_iload hx hb dL_law_139 (lv_at hl 3 rfl) ?_
          refine lv_iload hx hb dL_law_141 (lv_at hl 4 rfl) ?_
          obtain ⟨x23, hx23, h⟩ := bnd h
          refine iv_L_126 l X hH hRL (by decide) hx23 hl.1 (Nat.le_of_ble_eq_true rfl) dL_law_143 ⟨Nat.le_trans (Nat.le_of_ble_eq_true rfl) hRc.1, Nat.le_trans (Nat.le_of_ble_eq_true rfl) hRc.2⟩ (fun H locs hH => ?_)
          refine lv_if_eq (tgt := 226) hx hb dL_law_146 (by decide) (fun hc24 => ?_) (fun hc24 => ?_)
          · replace h := ift h hc24
            refine lv_iconst (v := 0) hx hb dL_law_226 (by decide) ?_
            exact absurd (Prod.mk.inj (Option.some.inj h)).1 (by decide)
          · replace h := iff' h hc24
            refine lv_aload_n hx hb dL_law_149 rfl (lv_at hl 1 rfl) ?_
            refine lv_aload_n hx hb dL_law_150 rfl (lv_at hl 0 rfl) ?_
            refine lv_iload hx hb dL_law_151 (lv_at hl 3 rfl) ?_
            refine lv_iload hx hb dL_law_153 (lv_at hl 4 rfl) ?_
            obtain ⟨x25, hx25, h⟩ := bnd h
            refine iv_L_130 l X hH hRL (by decide) hx25 hl.1 (Nat.le_of_ble_eq_true rfl) dL_law_155 ⟨Nat.le_trans (Nat.le_of_ble_eq_true rfl) hRc.1, Nat.le_trans (Nat.le_of_ble_eq_true rfl) hRc.2⟩ (fun H locs hH => ?_)
            refine lv_if_eq (tgt := 226) hx hb dL_law_158 (by decide) (fun hc26 => ?_) (fun hc26 => ?_)
            · replace h := ift h hc26
              refine lv_iconst (v := 0) hx hb dL_law_226 (by decide) ?_
              exact absurd (Prod.mk.inj (Option.some.inj h)).1 (by decide)
            · replace h := iff' h hc26
              refine lv_aload_n hx hb dL_law_161 rfl (lv_at hl 1 rfl) ?_
              refine lv_aload_n hx hb dL_law_162 rfl (lv_at hl 0 rfl) ?_
              refine lv_iload hx hb dL_law_163 (lv_at hl 3 rfl) ?_
              refine lv_iload hx hb dL_law_165 (lv_at hl 4 rfl) ?_
              obtain ⟨x27, hx27, h⟩ := bnd h
              refine iv_L_133 l X hH hRL (by decide) hx27 hl.1 (Nat.le_of_ble_eq_true rfl) dL_law_167 ⟨Nat.le_trans (Nat.le_of_ble_eq_true rfl) hRc.1, Nat.le_trans (Nat.le_of_ble_eq_true rfl) hRc.2⟩ (fun H locs hH => ?_)
              refine lv_if_eq (tgt := 226) hx hb dL_law_170 (by decide) (fun hc28 => ?_) (fun hc28 => ?_)
              · replace h := ift h hc28
                refine lv_iconst (v := 0) hx hb dL_law_226 (by decide) ?_
                exact absurd (Prod.mk.inj (Option.some.inj h)).1 (by decide)
              · replace h := iff' h hc28
                refine lv_aload_n hx hb dL_law_173 rfl (lv_at hl 1 rfl) ?_
                refine lv_aload_n hx hb dL_law_174 rfl (lv_at hl 0 rfl) ?_
                refine lv_iload hx hb dL_law_175 (lv_at hl 3 rfl) ?_
                refine lv_iload hx hb dL_law_177 (lv_at hl 4 rfl) ?_
                obtain ⟨x29, hx29, h⟩ := bnd h
                refine iv_L_136 l X hH hRL (by decide) hx29 hl.1 (Nat.le_of_ble_eq_true rfl) dL_law_179 ⟨Nat.le_trans (Nat.le_of_ble_eq_true rfl) hRc.1, Nat.le_trans (Nat.le_of_ble_eq_true rfl) hRc.2⟩ (fun H locs hH => ?_)
                refine lv_if_eq (tgt := 226) hx hb dL_law_182 (by decide) (fun hc30 => ?_) (fun hc30 => ?_)
                · replace h := ift h hc30
                  refine lv_iconst (v := 0) hx hb dL_law_226 (by decide) ?_
                  exact absurd (Prod.mk.inj (Option.some.inj h)).1 (by decide)
                · replace h := iff' h hc30
                  refine lv_aload_n hx hb dL_law_185 rfl (lv_at hl 1 rfl) ?_
                  refine lv_aload_n hx hb dL_law_186 rfl (lv_at hl 0 rfl) ?_
                  obtain ⟨x31, hx31, h⟩ := bnd h
                  refine iv_L_139 l X hH hRL (by decide) hx31 hl.1 (Nat.le_of_ble_eq_true rfl) dL_law_187 ⟨Nat.le_trans (Nat.le_of_ble_eq_true rfl) hRc.1, Nat.le_trans (Nat.le_of_ble_eq_true rfl) hRc.2⟩ (fun H locs hH => ?_)
                  refine lv_if_eq (tgt := 226) hx hb dL_law_190 (by decide) (fun hc32 => ?_) (fun hc32 => ?_)
                  · replace h := ift h hc32
                    refine lv_iconst (v := 0) hx hb dL_law_226 (by decide) ?_
                    exact absurd (Prod.mk.inj (Option.some.inj h)).1 (by decide)
                  · replace h := iff' h hc32
                    refine lv_aload_n hx hb dL_law_193 rfl (lv_at hl 1 rfl) ?_
                    refine lv_iconst (v := 1) hx hb dL_law_194 (by decide) ?_
                    obtain ⟨x33, hx33, h⟩ := bnd h
                    refine iv_L_142 l X hH hRL (by decide) hx33 hl.1 (Nat.le_of_ble_eq_true rfl) dL_law_195 ⟨Nat.le_trans (Nat.le_of_ble_eq_true rfl) hRc.1, Nat.le_trans (Nat.le_of_ble_eq_true rfl) hRc.2⟩ (fun H locs hH => ?_)
                    refine lv_iconst (v := -1) hx hb dL_law_198 (by decide) ?_
                    refine lv_icmp_eq (tgt := 226) hx hb dL_law_199 (by decide) (fun hc34 => ?_) (fun hc34 => ?_)
                    · replace h := ift h hc34
                      refine lv_iconst (v := 0) hx hb dL_law_226 (by decide) ?_
                      exact absurd (Prod.mk.inj (Option.some.inj h)).1 (by decide)
                    · replace h := iff' h hc34
                      refine lv_aload_n hx hb dL_law_202 rfl (lv_at hl 1 rfl) ?_
                      refine lv_iconst (v := 0) hx hb dL_law_203 (by decide) ?_
                      obtain ⟨x35, hx35, h⟩ := bnd h
                      refine iv_L_145 l X hH hRL (by decide) hx35 hl.1 (Nat.le_of_ble_eq_true rfl) dL_law_204 ⟨Nat.le_trans (Nat.le_of_ble_eq_true rfl) hRc.1, Nat.le_trans (Nat.le_of_ble_eq_true rfl) hRc.2⟩ (fun H locs hH => ?_)
                      refine lv_iload hx hb dL_law_207 (lv_at hl 4 rfl) ?_
                      refine lv_icmp_ne (tgt := 226) hx hb dL_law_209 (by decide) (fun hc36 => ?_) (fun hc36 => ?_)
                      · replace h := iff' h hc36
                        refine lv_iconst (v := 0) hx hb dL_law_226 (by decide) ?_
                        exact absurd (Prod.mk.inj (Option.some.inj h)).1 (by decide)
                      · replace h := ift h hc36
                        refine lv_aload_n hx hb dL_law_212 rfl (lv_at hl 1 rfl) ?_
                        obtain ⟨x37, hx37, h⟩ := bnd h
                        refine iv_L_111 l X hH hRL (by decide) hx37 hl.1 (Nat.le_of_ble_eq_true rfl) dL_law_213 ⟨Nat.le_trans (Nat.le_of_ble_eq_true rfl) hRc.1, Nat.le_trans (Nat.le_of_ble_eq_true rfl) hRc.2⟩ (fun H locs hH => ?_)
                        refine lv_lload hx hb dL_law_216 (lv_at hl 2 rfl) ?_
                        refine W.lcmp hx hb dL_law_218 ?_
                        refine lv_if_ne (tgt := 226) hx hb dL_law_219 (by decide) (fun hc38 => ?_) (fun hc38 => ?_)
                        · replace h := iff' h hc38
                          refine lv_iconst (v := 0) hx hb dL_law_226 (by decide) ?_
                          exact absurd (Prod.mk.inj (Option.some.inj h)).1 (by decide)
                        · replace h := ift h hc38
                          refine lv_iconst (v := 1) hx hb dL_law_222 (by decide) ?_
                          refine lv_goto (tgt := 227) hx hb dL_law_223 (by decide) ?_
                          exact W.widen (k := 600000) (n := 7302250) (Nat.le_of_ble_eq_true rfl) (Nat.le_of_ble_eq_true rfl) (kend _ _ _ _ _ hH dL_law_227)
    · replace h := iff' h hc9
      refine lv_iconst (v := 0) hx hb dL_law_44 (by decide) ?_
      exact absurd (Prod.mk.inj (Option.some.inj h)).1 (by decide)
