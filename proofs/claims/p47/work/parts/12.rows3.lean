def ins (μ : Mm) (a : Nat) (ys : List Nat) : Option Int32 := if gt (tg μ a) then some (if tg μ a ∈ ys then 1 else 0) else none
def cst (μ : Mm) (a : Nat) (ys : List Nat) : Option Unit := if tg μ a ∈ ys then some () else none
def qG (μ : Mm) (a : Nat) (i : Int32) (v : Nat) : Option Mm := if tg μ a = 24 ∧ gt (tg μ v) then (if ofr μ a i then none else some (sP μ a i.toNatClampNeg (some v))) else none
section RW3
variable {p : Program} {l : Launch} {e : Env} {R : Room} {s : State} {m : MethodId} {args : Array Value} {below : List Frame} {meth : Method} {c : Code} {H : Heap} {locs : List Loc} {cells slots : Nat} {Q : State → Prop}
variable {cc : ByteArray} {pc : Nat} {ls : Array Slot} {rest st : List Value} {own : String} {nL : Nat} {G : CG} {μ μ' : Mm} {a b : Nat}
theorem gt_up {t : Nat} (h : gt t) : ∃ (ci : Nat) (C : String) (T : u_T), t = ci + 1 ∧ vwCl[ci]? = some (C, T, 2) ∧ (C = "ClockFeet$Guild" ∨ (C, "ClockFeet$Guild") ∈ ycs) := by
  rcases h with rfl | rfl | rfl | rfl | rfl | rfl
  · exact ⟨0, _, _, rfl, rfl, Or.inr (by decide +kernel)⟩
  · exact ⟨1, _, _, rfl, rfl, Or.inr (by decide +kernel)⟩
  · exact ⟨2, _, _, rfl, rfl, Or.inl rfl⟩
  · exact ⟨4, _, _, rfl, rfl, Or.inr (by decide +kernel)⟩
  · exact ⟨6, _, _, rfl, rfl, Or.inr (by decide +kernel)⟩
  · exact ⟨9, _, _, rfl, rfl, Or.inr (by decide +kernel)⟩
theorem w_qG (X : Cx p s m args meth c cc nL own G) (hH : HS G s μ H locs) {v : Nat} {i : Int32} (hg : qG μ a i v = some μ') (hdg : decode cc pc = .ok (.aastore, 1))
    (kk : ∀ (H1 : Heap) (locs1 : List Loc), HS G s μ' H1 locs1 → W p l e R s m args below meth c H1 locs1 cells slots Q (F0 m (pc + 1) ls rest)) : W p l e R s m args below meth c H locs cells slots Q (F0 m pc ls (.ref v :: .int i :: .ref a :: rest)) := by
  obtain ⟨⟨ht, hv⟩, h1⟩ := gsn hg
  obtain ⟨hr, h2⟩ := gsf h1
  cases h2
  obtain ⟨ci, C, T, htv, hc, hup⟩ := gt_up hv
  have hca := arr_in hH ht (by decide)
  rw [cnt_q (by decide)] at hca
  have hcv := (hH.1.1 v (by rw [htv]; omega)).1
  rw [cel_o htv (cl_lt hc)] at hcv
  obtain ⟨r', hr', cellV, g1, g2, g3, -⟩ := hcv
  have hK := X.2.2.2.2.2.1.1
  have hcls := (hK.1 ci _ hc).2
  have hcls2 := (hK.1 2 (RX2, TX2, 2) rfl).2
  obtain ⟨kA, comp, k1, k2, k3, -⟩ := (tys_at X 4 rfl).2
  have hcomp : comp = G.1.1 2 := Option.some.inj (k3.symm.trans hcls2.1)
  subst hcomp
  have hasg : s.vm.assignable (G.1.1 ci) (G.1.1 2) = true := by
    rcases hup with rfl | hup
    · have : G.1.1 ci = G.1.1 2 := Option.some.inj (hcls.1.symm.trans hcls2.1)
      rw [this]
      exact va_assign hcls2
    · obtain ⟨c0, t0, f1, f2, f3⟩ := Cond.castable_spec (X.2.2.2.2.2.1.2.2.2.1 _ hup)
      cases hcls.1.symm.trans f1
      cases hcls2.1.symm.trans f2
      exact f3
  obtain ⟨kC, hkC, -⟩ := hcls.2
  obtain ⟨kC2, hkC2, -⟩ := hcls2.2
  have h0 : ¬ i < 0 := fun z => hr (Or.inl z)
  have hlt : i.toNatClampNeg < ln μ a := Nat.not_le.mp (fun z => hr (Or.inr z))
  refine W.aast X.1 X.2.1 hca (fun q h => by cases h) (fun h => by cases h) k1 k2 rfl hkC2 ⟨h0, by show _ < (arrV _ _ _).slots.size; rw [arrV_size]; exact hlt⟩ g1 (fun q h => by rw [g3] at h; cases h) (by rw [g2]; exact hkC) (by rw [g2]; exact hasg) rfl rfl hdg fun H1 e z oq => ?_
  refine kk H1 _ (arr_fin hH ht (by omega) z oq ?_ (cel_sP G μ a _ _) (fun _ => rfl) (fun _ => rfl) rfl)
  rw [e, cnt_q (by decide)]
  rw [vp_cell_q, vp_cell_q, arrV_store]
  congr 2
  funext q
  by_cases hq : q = i.toNatClampNeg
  · subst hq
    simp [updV, mP_sP, va_rf]
  · simp [updV, mP_sP, hq]
theorem w_na (X : Cx p s m args meth c cc nL own G) (hH : HS G s μ H locs) {atype : ArrayType} {t N k : Nat} {n : Int32} {x : Nat × Mm} (hg : nA μ t N n = some x) (harr : Cond.arrayClass (newarray.typeOf atype) ∈ UW) (htt : 20 ≤ t) (hq : (tysG G)[k]? = some (G.2.1 t, newarray.typeOf atype)) (hb8 : ∀ n' : Nat, n' ≤ N → n' * componentBytes (newarray.typeOf atype) ≤ 536870912) (hce : ∀ (cA : ClassId) (n' : Nat), vp_cell cA (n', cnt t (nw μ t n') (hz μ)) = arrV cA n' (fun _ => defaultValue (newarray.typeOf atype))) (hcells : cells + 1 ≤ R.cells) (hslots : slots + N ≤ R.slots) (hdg : decode cc pc = .ok (.newarray atype, 2))
    (kk : ∀ (H1 : Heap), HS G s x.2 H1 locs → W p l e R s m args below meth c H1 locs (cells + 1) (slots + N) Q (F0 m (pc + 2) ls (.ref x.1 :: rest))) : W p l e R s m args below meth c H locs cells slots Q (F0 m pc ls (.int n :: rest)) := by
  obtain ⟨⟨h0, hN⟩, rfl⟩ := gsm hg
  have hra : s.vm.findClass ("[" ++ (newarray.typeOf atype).toString) = some (G.2.1 t) := by
    have h := (tys_at X k hq).2
    cases atype <;> exact h
  refine va_newaK X.1 X.2.1 (X.2.2.2.2.1 _ harr) rfl hdg rfl h0 rfl (hb8 _ hN) hcells (by omega) hH.1.2.1 fun H1 cA e1 z1 o1 hAr hNm => ?_
  have hc : cA = G.2.1 t := Option.some.inj (hNm.symm.trans hra)
  subst hc
  refine W.widen (Nat.le_refl _) (show slots + n.toNatClampNeg ≤ slots + N by omega) (kk H1 (hH.new X.2.2.2.2.2.2.2 (by rw [hH.1.2.1]; exact z1) (fun q hq => o1 q (by rw [← hH.1.2.1]; exact hq)) ?_))
  rw [cel_a (t := t) (by rw [tg_nw, if_pos rfl]) htt]
  show H1[hz μ]? = some (vp_cell _ (ln _ _, _))
  rw [ln_nw, if_pos rfl, hce]
  exact e1
theorem ce_I (μ : Mm) (cA : ClassId) (n' : Nat) : vp_cell cA (n', cnt 21 (nw μ 21 n') (hz μ)) = arrV cA n' (fun _ => defaultValue .int) := by
  show vp_cell cA (n', .inl (mI (nw μ 21 n') (hz μ))) = _
  rw [vp_cell_i]
  congr 1
  funext j
  rw [mI_nw, if_pos rfl]
  rfl
theorem ce_Z (μ : Mm) (cA : ClassId) (n' : Nat) : vp_cell cA (n', cnt 23 (nw μ 23 n') (hz μ)) = arrV cA n' (fun _ => defaultValue .boolean) := by
  show vp_cell cA (n', .inl (mI (nw μ 23 n') (hz μ))) = _
  rw [vp_cell_i]
  congr 1
  funext j
  rw [mI_nw, if_pos rfl]
  rfl
theorem ce_J (μ : Mm) (cA : ClassId) (n' : Nat) : vp_cell cA (n', cnt 22 (nw μ 22 n') (hz μ)) = arrV cA n' (fun _ => defaultValue .long) := by
  show vp_cell cA (n', .inr (.inl (mL (nw μ 22 n') (hz μ)))) = _
  rw [vp_cell_l]
  congr 1
  funext j
  rw [mL_nw, if_pos rfl]
  rfl
theorem w_nr (X : Cx p s m args meth c cc nL own G) (hH : HS G s μ H locs) {C : String} {t N k index : Nat} {n : Int32} {x : Nat × Mm} (hg : nA μ t N n = some x) (hover : va_AO C s) (hclink : Cond.classLink own index C ∈ UW) (htt : 24 ≤ t) (hq : (tysG G)[k]? = some (G.2.1 t, .object C)) (hb8 : N * 4 ≤ 536870912) (hcells : cells + 1 ≤ R.cells) (hslots : slots + N ≤ R.slots) (hdg : decode cc pc = .ok (.anewarray index, 3))
    (kk : ∀ (H1 : Heap), HS G s x.2 H1 locs → W p l e R s m args below meth c H1 locs (cells + 1) (slots + N) Q (F0 m (pc + 3) ls (.ref x.1 :: rest))) : W p l e R s m args below meth c H locs cells slots Q (F0 m pc ls (.int n :: rest)) := by
  obtain ⟨⟨h0, hN⟩, rfl⟩ := gsm hg
  refine W.anew X.1 X.2.1 X.2.2.2.1 (X.2.2.2.2.1 _ hclink) (va_AO.use hover) rfl hdg rfl h0 (by omega) hcells (by omega) fun cA kA comp f1 f2 f3 f4 => ?_
  generalize hH1 : H.push ({ cls := cA, slots := Array.replicate n.toNatClampNeg .null, vm := .none } : Cell) = H1
  have z1 : H1.size = H.size + 1 := by rw [← hH1, Array.size_push]
  have e1 : H1[H.size]? = some (arrV cA n.toNatClampNeg (fun _ => .null)) := by rw [← hH1, Array.getElem?_push_size, ← arrV_new]
  have o1 : ∀ q : Nat, q < H.size → H1[q]? = H[q]? := fun q hq => by rw [← hH1, Array.getElem?_push, if_neg (Nat.ne_of_lt hq)]
  obtain ⟨kA2, comp2, -, -, -, hNm⟩ := (tys_at X k hq).2
  have hc : cA = G.2.1 t := by
    first
      | exact Option.some.inj (f1.symm.trans hNm)
      | exact Option.some.inj (f4.symm.trans hNm)
      | exact Option.some.inj (f3.symm.trans hNm)
  subst hc
  have h9 := kk H1 (hH.new X.2.2.2.2.2.2.2 z1 o1 ?_)
  · rw [← hH.1.2.1] at h9
    exact W.widen (Nat.le_refl _) (show slots + n.toNatClampNeg ≤ slots + N by omega) h9
  · rw [cel_a (t := t) (by rw [tg_nw, if_pos rfl]) (by omega), cnt_q htt]
    show H1[hz μ]? = some (vp_cell _ (ln _ _, _))
    rw [ln_nw, if_pos rfl, vp_cell_q, ← hH.1.2.1, e1]
    congr 2
    funext j
    rw [mP_nw, if_pos (by rw [hH.1.2.1])]
    rfl
-- a copy of ints
theorem w_copy (X : Cx p s m args meth c cc nL own G) (hH : HS G s μ H locs) (hls : ls.size = nL) {index : Nat} {i j n : Int32} (hg : cI μ a i b j n = some μ') (hw : ∀ w ∈ ([.methodLink own index arraycopyName, .native arraycopyName, .static arraycopyName, .initialized "java/lang/System"] : List Cond), w ∈ UW) (hframes : 1 ≤ R.frames) (hlocals : (rest.map fun v => v.category).sum + (nativeFrameWords "java/lang/System" "arraycopy" 5 + 11) ≤ R.locals) (hdg : decode cc pc = .ok (.invokestatic index, 3))
    (kk : ∀ (H1 : Heap) (locs1 : List Loc), HS G s μ' H1 locs1 → W p l e R s m args below meth c H1 locs1 cells slots Q (F0 m (pc + 3) ls rest)) : W p l e R s m args below meth c H locs cells slots Q (F0 m pc ls (.int n :: .int j :: .ref b :: .int i :: .ref a :: rest)) := by
  obtain ⟨⟨ta, tb, h1, h2, h3, h4, h5⟩, rfl⟩ := gsm hg
  have hts := X.2.2.2.2.1
  have hc0 := arr_in hH ta (by decide)
  have hc1 := arr_in hH tb (by decide)
  have nn : ∀ x : Int32, ¬ x < 0 → x.toInt = (x.toNatClampNeg : Int) := fun x hx => by
    obtain ⟨y, hy, rfl⟩ := nI_of hx
    rw [nI_toInt hy, nI_clamp hy]
  intro T hT Xs
  obtain ⟨-, k0, hk0, cm0, hkk0⟩ := (tys_at X 1 rfl).1 (ln μ a) (fun j => .int (mI μ a j))
  obtain ⟨-, k1, hk1, cm1, hkk1⟩ := (tys_at X 1 rfl).1 (ln μ b) (fun j => .int (mI μ b j))
  obtain ⟨vm', X', step⟩ := Xs.arraycopy X.1 (index := index) X.2.2.2.1 (hts _ (hw _ (by simp))) (hts _ (hw _ (by simp))) (hts _ (hw _ (by simp))) (hts _ (hw _ (by simp))) (src := a) (dst := b) (cs := vp_cell (G.2.1 21) (ln μ a, .inl (mI μ a))) (cd := vp_cell (G.2.1 21) (ln μ b, .inl (mI μ b))) (srcPos := i) (destPos := j) (n := n) (by rw [hT]; exact hc0) (by rw [hT]; exact hc1)
    (fun _ h => by cases h) (fun _ h => by cases h) (fun h => by cases h) (fun h => by cases h) hk0 hk1 hkk0 hkk1 (by simp) h1 h2 h3
    (by rw [nn i h1, nn n h3]; show ¬ _ > ((arrV _ (ln μ a) (fun j => .int (mI μ a j))).slots.size : Int); rw [arrV_size]; omega)
    (by rw [nn j h2, nn n h3]; show ¬ _ > ((arrV _ (ln μ b) (fun j => .int (mI μ b j))).slots.size : Int); rw [arrV_size]; omega)
    (fun vm₁ _ q hq => by
      have e : (vp_cell (G.2.1 21) (ln μ a, .inl (mI μ a))).slots.getD (i.toNatClampNeg + q) .null = .int (mI μ a (i.toNatClampNeg + q)) := by
        show (arrV _ (ln μ a) (fun j => .int (mI μ a j))).slots.getD _ _ = _
        rw [Array.getD_eq_getD_getElem?, arrV_read _ _ (by omega)]
        rfl
      refine ⟨?_, ?_⟩
      · rw [e]
        rfl
      · rw [e]
        exact trivial)
    (g := F0 m pc ls (.int n :: .int j :: .ref b :: .int i :: .ref a :: rest)) rfl (by show ls.size = _; rw [hls, X.2.2.1]) (rest := rest) rfl (by rw [X.2.1]; exact hdg) hframes (by show 2 * 0 + _ + _ ≤ _; omega)
  have e1 : copied (vp_cell (G.2.1 21) (ln μ a, .inl (mI μ a))) (vp_cell (G.2.1 21) (ln μ b, .inl (mI μ b))) i j n = vp_cell (G.2.1 21) (ln μ b, .inl (va_cpy (mI μ a) (mI μ b) i.toNatClampNeg j.toNatClampNeg n.toNatClampNeg)) := va_copied (fun z => .int z) _ _ (mI μ a) (mI μ b) h4
  rw [e1] at X' step
  have hl : b < H.size := (Array.getElem?_eq_some_iff.mp hc1).1
  have hbb : fA G b := (hH.1.1 b (by rw [tb]; decide)).2
  generalize hcell : vp_cell (G.2.1 21) (ln μ b, .inl (va_cpy (mI μ a) (mI μ b) i.toNatClampNeg j.toNatClampNeg n.toNatClampNeg)) = cell at X' step
  have hheap : ((T.setVm vm').setCell b cell).heap = H.setIfInBounds b cell := by rw [← hT]; rfl
  have oq : ∀ q : Nat, q ≠ b → (H.setIfInBounds b cell)[q]? = H[q]? := fun q hq => by simp [Array.getElem?_setIfInBounds, Ne.symm hq]
  obtain ⟨t, a1, b1⟩ := kk (H.setIfInBounds b cell) _ ⟨Rl_upd hbb hH.1 (by simp) oq (by
      rw [cel_a (G := G) (μ := sR μ b (va_cpy (mI μ a) (mI μ b) i.toNatClampNeg j.toNatClampNeg n.toNatClampNeg)) (t := 21) tb (by decide)]
      show (H.setIfInBounds b cell)[b]? = some (vp_cell _ (ln _ _, .inl (mI _ b)))
      rw [ln_sR]
      have e9 : mI (sR μ b (va_cpy (mI μ a) (mI μ b) i.toNatClampNeg j.toNatClampNeg n.toNatClampNeg)) b = va_cpy (mI μ a) (mI μ b) i.toNatClampNeg j.toNatClampNeg n.toNatClampNeg := funext fun j => by rw [mI_sR, if_pos rfl]
      rw [e9, hcell]
      simp [Array.getElem?_setIfInBounds, hl]) (cel_sR G μ b _) (fun _ => rfl) rfl, ⟨by simp; exact hH.2.1, fun q g1 g2 => by
      rw [oq q (fun e => g2 (by rw [e]; exact hbb))]
      exact hH.2.2.1 q g1 g2, fun q hq => by
      rcases List.mem_append.mp hq with h | h
      · exact hH.2.2.2 q h
      · obtain ⟨z, -, hz⟩ := List.mem_map.mp h
        rw [← hz]
        exact hbb⟩⟩ _ hheap X'
  exact ⟨t, step t a1, b1⟩
-- instanceof, checkcast
theorem w_inst (X : Cx p s m args meth c cc nL own G) (hH : HS G s μ H locs) {ys : List Nat} {nm : String} {tc index N0 : Nat} {T0 : u_T} {v : Int32} (hg : ins μ a ys = some v) (hlink : Cond.classLink own index nm ∈ UW) (hnm : vwCl[tc]? = some (nm, T0, N0)) (hY : ∀ t, t ∈ ys → ∃ (ci : Nat) (C : String) (T : u_T) (N : Nat), t = ci + 1 ∧ vwCl[ci]? = some (C, T, N) ∧ (C = nm ∨ (C, nm) ∈ ycs)) (hN : ∀ t, gt t → t ∉ ys → ∃ (ci : Nat) (C : String) (T : u_T) (N : Nat), t = ci + 1 ∧ vwCl[ci]? = some (C, T, N) ∧ (C, nm) ∈ ncs) (hdg : decode cc pc = .ok (.instanceof index, 3))
    (kk : W p l e R s m args below meth c H locs cells slots Q (F0 m (pc + 3) ls (.int v :: rest))) : W p l e R s m args below meth c H locs cells slots Q (F0 m pc ls (.ref a :: rest)) := by
  obtain ⟨ht, rfl⟩ := gsm hg
  have hK := X.2.2.2.2.2.1
  by_cases hy : tg μ a ∈ ys
  · rw [if_pos hy] at kk
    obtain ⟨ci, C, T, N, e1, e2, e3⟩ := hY _ hy
    have hr := w_recv X hH e2 e1
    rcases e3 with rfl | e3
    · exact va_instS X.1 X.2.1 X.2.2.2.1 (X.2.2.2.2.1 _ hlink) (hK.1.1 tc _ hnm).2 hr hdg kk
    · exact va_instY X.1 X.2.1 X.2.2.2.1 (X.2.2.2.2.1 _ hlink) (hK.2.2.2.1 _ e3) hr hdg kk
  · rw [if_neg hy] at kk
    obtain ⟨ci, C, T, N, e1, e2, e3⟩ := hN _ ht hy
    exact va_instNo X.1 X.2.1 X.2.2.2.1 (X.2.2.2.2.1 _ hlink) (hK.2.2.1 _ e3) (w_recv X hH e2 e1) hdg kk
theorem w_cast (X : Cx p s m args meth c cc nL own G) (hH : HS G s μ H locs) {ys : List Nat} {nm : String} {tc index N0 : Nat} {T0 : u_T} {v : Unit} (hg : cst μ a ys = some v) (hlink : Cond.classLink own index nm ∈ UW) (hnm : vwCl[tc]? = some (nm, T0, N0)) (hY : ∀ t, t ∈ ys → ∃ (ci : Nat) (C : String) (T : u_T) (N : Nat), t = ci + 1 ∧ vwCl[ci]? = some (C, T, N) ∧ (C = nm ∨ (C, nm) ∈ ycs)) (hdg : decode cc pc = .ok (.checkcast index, 3))
    (kk : W p l e R s m args below meth c H locs cells slots Q (F0 m (pc + 3) ls (.ref a :: rest))) : W p l e R s m args below meth c H locs cells slots Q (F0 m pc ls (.ref a :: rest)) := by
  obtain ⟨hy, -⟩ := gsm hg
  have hK := X.2.2.2.2.2.1
  obtain ⟨ci, C, T, N, e1, e2, e3⟩ := hY _ hy
  have hr := w_recv X hH e2 e1
  rcases e3 with rfl | e3
  · exact va_castS X.1 X.2.1 X.2.2.2.1 (X.2.2.2.2.1 _ hlink) (hK.1.1 tc _ hnm).2 hr hdg kk
  · exact va_castY X.1 X.2.1 X.2.2.2.1 (X.2.2.2.2.1 _ hlink) (hK.2.2.2.1 _ e3) hr hdg kk
-- calls: what is run
theorem gin {ws pre : List Cond} {w0 : Cond} (h : ∀ w ∈ pre, w ∈ UW) (h0 : w0 ∈ UW) : GoodIn UW (pre ++ (w0 :: UW)) := fun w hw => by
  have : w ∈ UW := by
    rcases List.mem_append.mp hw with q | q
    · exact h w q
    · rcases List.mem_cons.mp q with rfl | q
      · exact h0
      · exact q
  exact ⟨this, UW_good w this⟩
abbrev RmOk (rm R : Room) (mc ms maxL : Nat) : Prop := rm.cells = mc ∧ rm.slots = ms ∧ rm.frames + 1 ≤ R.frames ∧ 8 + (maxL + 11) + rm.locals ≤ R.locals
theorem rV (X : Cx p s m args meth c cc nL own G) (hH : HS G s μ H locs) {ci N maxL index mc ms n : Nat} {C : String} {T : u_T} {y : MethodName} {bytes : ByteArray} {ret : Option FieldType} {rm : Room} {As : List Value} {Qc : Array Value → State → Outcome → State → Prop} (ht : tg μ b = ci + 1) (hc : vwCl[ci]? = some (C, T, N)) (hM : Met l y (.code y bytes maxL ret :: UW) rm (PC G (.ref b :: As) μ) Qc mc ms (fA G)) (hw : ∀ w ∈ ([.methodLink own index y, .instanceMethod y, .selects C y y, .initialized C] : List Cond), w ∈ UW) (hw0 : Cond.code y bytes maxL ret ∈ UW) (hrm : RmOk rm R mc ms maxL) (hd : y.cls = C ∧ y.cls ≠ "java/lang/invoke/MethodHandle" ∧ y.cls ≠ "java/lang/invoke/VarHandle" ∧ (parseMethodDescriptor y.desc).map (fun d => d.parameters.length) = some n) (hn : As.length = n) (hls : ls.size = nL) (hst : st = As.reverse ++ .ref b :: rest) (hroom : (rest.map fun v => v.category).sum ≤ 8) (hdg : decode cc pc = .ok (.invokevirtual index, 3)) (hf : cells + mc ≤ R.cells ∧ slots + ms ≤ R.slots) :
    va_Run p l e R s m args below meth c H locs cells slots mc ms (F0 m pc ls st) rest (Qc (Value.ref b :: As).toArray) (fA G) :=
  va_runV ⟨X.1, X.2.1, X.2.2.1, X.2.2.2.1, X.2.2.2.2.1⟩ hM (cwV n X.2.2.2.2.1 (gin (ws := UW) hw hw0) rfl hrm.1 hrm.2.1 hd hrm.2.2) ⟨PC.blind, w_recv X hH hc ht, fun U hU hW => ⟨rfl, by rw [hU]; exact hH.1, X.2.2.2.2.2.1.warm hW⟩⟩ rfl hn hls hst (lv_room hroom) hdg hf
theorem rS (X : Cx p s m args meth c cc nL own G) (hH : HS G s μ H locs) {maxL index mc ms n : Nat} {y : MethodName} {bytes : ByteArray} {ret : Option FieldType} {rm : Room} {As : List Value} {Qc : Array Value → State → Outcome → State → Prop} (hM : Met l y (.code y bytes maxL ret :: UW) rm (PC G As μ) Qc mc ms (fA G)) (hw : ∀ w ∈ ([.methodLink own index y, .static y, .initialized y.cls] : List Cond), w ∈ UW) (hw0 : Cond.code y bytes maxL ret ∈ UW) (hrm : RmOk rm R mc ms maxL) (hd : y.cls ≠ "java/lang/invoke/MethodHandle" ∧ y.cls ≠ "java/lang/invoke/VarHandle" ∧ (parseMethodDescriptor y.desc).map (fun d => d.parameters.length) = some n) (hn : As.length = n) (hls : ls.size = nL) (hst : st = As.reverse ++ rest) (hroom : (rest.map fun v => v.category).sum ≤ 8) (hdg : decode cc pc = .ok (.invokestatic index, 3)) (hf : cells + mc ≤ R.cells ∧ slots + ms ≤ R.slots) :
    va_Run p l e R s m args below meth c H locs cells slots mc ms (F0 m pc ls st) rest (Qc As.toArray) (fA G) :=
  va_runS ⟨X.1, X.2.1, X.2.2.1, X.2.2.2.1, X.2.2.2.2.1⟩ hM (va_cwS n X.2.2.2.2.1 (gin (ws := UW) hw hw0) rfl hrm.1 hrm.2.1 hd hrm.2.2) ⟨PC.blind, fun U hU hW => ⟨rfl, by rw [hU]; exact hH.1, X.2.2.2.2.2.1.warm hW⟩⟩ rfl hn hls hst (lv_room hroom) hdg hf
theorem rI (X : Cx p s m args meth c cc nL own G) (hH : HS G s μ H locs) {maxL index mc ms n : Nat} {y : MethodName} {bytes : ByteArray} {rm : Room} {As : List Value} {Qc : Array Value → State → Outcome → State → Prop} (hM : Met l y (.code y bytes maxL none :: UW) rm (PC G (.ref b :: As) μ) Qc mc ms (fA G)) (hw : ∀ w ∈ ([.methodLink own index y, .instanceMethod y, .initialized y.cls] : List Cond), w ∈ UW) (hw0 : Cond.code y bytes maxL none ∈ UW) (hrm : RmOk rm R mc ms maxL) (hy1 : y.name = "<init>") (hd : y.cls ≠ "java/lang/invoke/MethodHandle" ∧ y.cls ≠ "java/lang/invoke/VarHandle" ∧ (parseMethodDescriptor y.desc).map (fun d => d.parameters.length) = some n) (hn : As.length = n) (hls : ls.size = nL) (hst : st = As.reverse ++ .ref b :: rest) (hroom : (rest.map fun v => v.category).sum ≤ 8) (hdg : decode cc pc = .ok (.invokespecial index, 3)) (hf : cells + mc ≤ R.cells ∧ slots + ms ≤ R.slots) :
    va_Run p l e R s m args below meth c H locs cells slots mc ms (F0 m pc ls st) rest (Qc (Value.ref b :: As).toArray) (fA G) :=
  va_runI ⟨X.1, X.2.1, X.2.2.1, X.2.2.2.1, X.2.2.2.2.1⟩ hM (cwI n X.2.2.2.2.1 (gin (ws := UW) (pre := []) (fun _ h => absurd h List.not_mem_nil) hw0) rfl hrm.1 hrm.2.1 (X.2.2.2.2.1 _ (hw _ (by simp))) (X.2.2.2.2.1 _ (hw _ (by simp))) (X.2.2.2.2.1 _ (hw _ (by simp))) hy1 hd hrm.2.2) ⟨PC.blind, fun U hU hW => ⟨rfl, by rw [hU]; exact hH.1, X.2.2.2.2.2.1.warm hW⟩⟩ rfl hn hls hst (lv_room hroom) hdg hf
/-- a call of an inherited method y, by the name x -/
theorem rU (X : Cx p s m args meth c cc nL own G) (hH : HS G s μ H locs) {ci N maxL index mc ms n : Nat} {C owner : String} {T : u_T} {x y : MethodName} {bytes : ByteArray} {ret : Option FieldType} {rm : Room} {As : List Value} {Qc : Array Value → State → Outcome → State → Prop} (ht : tg μ b = ci + 1) (hc : vwCl[ci]? = some (C, T, N)) (hM : Met l y (.code y bytes maxL ret :: UW) rm (PC G (.ref b :: As) μ) Qc mc ms (fA G)) (hw : ∀ w ∈ ([.methodLink own index x, .sameMethod x.cls owner x.name x.desc, .selects C x y, .instanceMethod y, .initialized y.cls] : List Cond), w ∈ UW) (hw0 : Cond.code y bytes maxL ret ∈ UW) (hrm : RmOk rm R mc ms maxL) (hyx : y = ⟨owner, x.name, x.desc⟩) (hd : owner ≠ "java/lang/invoke/MethodHandle" ∧ owner ≠ "java/lang/invoke/VarHandle" ∧ (parseMethodDescriptor x.desc).map (fun d => d.parameters.length) = some n) (hn : As.length = n) (hls : ls.size = nL) (hst : st = As.reverse ++ .ref b :: rest) (hroom : (rest.map fun v => v.category).sum ≤ 8) (hdg : decode cc pc = .ok (.invokevirtual index, 3)) (hf : cells + mc ≤ R.cells ∧ slots + ms ≤ R.slots) :
    va_Run p l e R s m args below meth c H locs cells slots mc ms (F0 m pc ls st) rest (Qc (Value.ref b :: As).toArray) (fA G) :=
  va_runU ⟨X.1, X.2.1, X.2.2.1, X.2.2.2.1, X.2.2.2.2.1⟩ hM (va_cwU n X.2.2.2.2.1 (gin (ws := UW) hw hw0) rfl hrm.1 hrm.2.1 hyx hd hrm.2.2) ⟨PC.blind, w_recv X hH hc ht, fun U hU hW => ⟨rfl, by rw [hU]; exact hH.1, X.2.2.2.2.2.1.warm hW⟩⟩ rfl hn hls hst (lv_room hroom) hdg hf
/-- a call of a method y that overrides x -/
theorem rO (X : Cx p s m args meth c cc nL own G) (hH : HS G s μ H locs) {ci N maxL index mc ms n m0 : Nat} {C owner : String} {T : u_T} {x y : MethodName} {bytes b0 : ByteArray} {ret r0 : Option FieldType} {rm : Room} {As : List Value} {Qc : Array Value → State → Outcome → State → Prop} (ht : tg μ b = ci + 1) (hc : vwCl[ci]? = some (C, T, N)) (hM : Met l y (.code y bytes maxL ret :: UW) rm (PC G (.ref b :: As) μ) Qc mc ms (fA G)) (hw : ∀ w ∈ ([.methodLink own index x, .sameMethod x.cls owner x.name x.desc, .instanceMethod ⟨owner, x.name, x.desc⟩, .selects C x y, .instanceMethod y, .initialized y.cls] : List Cond), w ∈ UW) (hw0 : Cond.code y bytes maxL ret ∈ UW) (h0 : Cond.code ⟨owner, x.name, x.desc⟩ b0 m0 r0 ∈ UW) (hrm : RmOk rm R mc ms maxL) (hd : owner ≠ "java/lang/invoke/MethodHandle" ∧ owner ≠ "java/lang/invoke/VarHandle" ∧ (parseMethodDescriptor x.desc).map (fun d => d.parameters.length) = some n) (hn : As.length = n) (hls : ls.size = nL) (hst : st = As.reverse ++ .ref b :: rest) (hroom : (rest.map fun v => v.category).sum ≤ 8) (hdg : decode cc pc = .ok (.invokevirtual index, 3)) (hf : cells + mc ≤ R.cells ∧ slots + ms ≤ R.slots) :
    va_Run p l e R s m args below meth c H locs cells slots mc ms (F0 m pc ls st) rest (Qc (Value.ref b :: As).toArray) (fA G) :=
  va_runU ⟨X.1, X.2.1, X.2.2.1, X.2.2.2.1, X.2.2.2.2.1⟩ hM (va_cwO n X.2.2.2.2.1 (gin (ws := UW) hw hw0) rfl hrm.1 hrm.2.1 h0 hd hrm.2.2) ⟨PC.blind, w_recv X hH hc ht, fun U hU hW => ⟨rfl, by rw [hU]; exact hH.1, X.2.2.2.2.2.1.warm hW⟩⟩ rfl hn hls hst (lv_room hroom) hdg hf
/-- super.y(..) -/
theorem rSU (X : Cx p s m args meth c cc nL own G) (hH : HS G s μ H locs) {ci N maxL index mc ms n : Nat} {C : String} {T : u_T} {y : MethodName} {bytes : ByteArray} {ret : Option FieldType} {rm : Room} {As : List Value} {Qc : Array Value → State → Outcome → State → Prop} (ht : tg μ b = ci + 1) (hc : vwCl[ci]? = some (C, T, N)) (hM : Met l y (.code y bytes maxL ret :: UW) rm (PC G (.ref b :: As) μ) Qc mc ms (fA G)) (hw : ∀ w ∈ ([.methodLink own index y, .sameMethod y.cls y.cls y.name y.desc, .superclass own y.cls, .instanceMethod y, .initialized y.cls] : List Cond), w ∈ UW) (hw0 : Cond.code y bytes maxL ret ∈ UW) (hrm : RmOk rm R mc ms maxL) (hd : y.name ≠ "<init>" ∧ (parseMethodDescriptor y.desc).map (fun d => d.parameters.length) = some n) (hn : As.length = n) (hls : ls.size = nL) (hst : st = As.reverse ++ .ref b :: rest) (hroom : (rest.map fun v => v.category).sum ≤ 8) (hdg : decode cc pc = .ok (.invokespecial index, 3)) (hf : cells + mc ≤ R.cells ∧ slots + ms ≤ R.slots) :
    va_Run p l e R s m args below meth c H locs cells slots mc ms (F0 m pc ls st) rest (Qc (Value.ref b :: As).toArray) (fA G) :=
  va_runSU (X.2.2.2.2.2.1.1.1 ci _ hc).2 ⟨X.1, X.2.1, X.2.2.1, X.2.2.2.1, X.2.2.2.2.1⟩ hM (va_cwSU n X.2.2.2.2.1 (gin (ws := UW) hw hw0) rfl hrm.1 hrm.2.1 hd hrm.2.2) ⟨PC.blind, w_recv X hH hc ht, fun U hU hW => ⟨rfl, by rw [hU]; exact hH.1, X.2.2.2.2.2.1.warm hW⟩⟩ rfl hn hls hst (lv_room hroom) hdg hf
theorem rSN (X : Cx p s m args meth c cc nL own G) (hH : HS G s μ H locs) {maxL index mc ms n : Nat} {host : String} {y : MethodName} {bytes : ByteArray} {ret : Option FieldType} {rm : Room} {As : List Value} {Qc : Array Value → State → Outcome → State → Prop} (hM : Met l y (.code y bytes maxL ret :: UW) rm (PC G As μ) Qc mc ms (fA G)) (hl : va_Nw (.methodLinkNest own index y host) s) (hw : ∀ w ∈ ([.static y, .initialized y.cls] : List Cond), w ∈ UW) (hw0 : Cond.code y bytes maxL ret ∈ UW) (hrm : RmOk rm R mc ms maxL) (hd : y.cls ≠ "java/lang/invoke/MethodHandle" ∧ y.cls ≠ "java/lang/invoke/VarHandle" ∧ (parseMethodDescriptor y.desc).map (fun d => d.parameters.length) = some n) (hn : As.length = n) (hls : ls.size = nL) (hst : st = As.reverse ++ rest) (hroom : (rest.map fun v => v.category).sum ≤ 8) (hdg : decode cc pc = .ok (.invokestatic index, 3)) (hf : cells + mc ≤ R.cells ∧ slots + ms ≤ R.slots) :
    va_Run p l e R s m args below meth c H locs cells slots mc ms (F0 m pc ls st) rest (Qc As.toArray) (fA G) :=
  va_runSN ⟨X.1, X.2.1, X.2.2.1, X.2.2.2.1, X.2.2.2.2.1⟩ hM ⟨va_cnB n X.2.2.2.2.1 (gin (ws := UW) (pre := []) (fun _ h => absurd h List.not_mem_nil) hw0) rfl hrm.1 hrm.2.1 hl (X.2.2.2.2.1 _ (hw _ (by simp))) hd hrm.2.2, X.2.2.2.2.1 _ (hw _ (by simp)), trivial⟩ ⟨PC.blind, fun U hU hW => ⟨rfl, by rw [hU]; exact hH.1, X.2.2.2.2.2.1.warm hW⟩⟩ rfl hn hls hst (lv_room hroom) hdg hf
theorem rIN (X : Cx p s m args meth c cc nL own G) (hH : HS G s μ H locs) {maxL index mc ms n : Nat} {host : String} {y : MethodName} {bytes : ByteArray} {rm : Room} {As : List Value} {Qc : Array Value → State → Outcome → State → Prop} (hM : Met l y (.code y bytes maxL none :: UW) rm (PC G (.ref b :: As) μ) Qc mc ms (fA G)) (hl : va_Nw (.methodLinkNest own index y host) s) (hw : ∀ w ∈ ([.instanceMethod y, .initialized y.cls] : List Cond), w ∈ UW) (hw0 : Cond.code y bytes maxL none ∈ UW) (hrm : RmOk rm R mc ms maxL) (hy1 : y.name = "<init>") (hd : y.cls ≠ "java/lang/invoke/MethodHandle" ∧ y.cls ≠ "java/lang/invoke/VarHandle" ∧ (parseMethodDescriptor y.desc).map (fun d => d.parameters.length) = some n) (hn : As.length = n) (hls : ls.size = nL) (hst : st = As.reverse ++ .ref b :: rest) (hroom : (rest.map fun v => v.category).sum ≤ 8) (hdg : decode cc pc = .ok (.invokespecial index, 3)) (hf : cells + mc ≤ R.cells ∧ slots + ms ≤ R.slots) :
    va_Run p l e R s m args below meth c H locs cells slots mc ms (F0 m pc ls st) rest (Qc (Value.ref b :: As).toArray) (fA G) :=
  va_runIN ⟨X.1, X.2.1, X.2.2.1, X.2.2.2.1, X.2.2.2.2.1⟩ hM ⟨va_cnB n X.2.2.2.2.1 (gin (ws := UW) (pre := []) (fun _ h => absurd h List.not_mem_nil) hw0) rfl hrm.1 hrm.2.1 hl (X.2.2.2.2.1 _ (hw _ (by simp))) hd hrm.2.2, hy1, X.2.2.2.2.1 _ (hw _ (by simp))⟩ ⟨PC.blind, fun U hU hW => ⟨rfl, by rw [hU]; exact hH.1, X.2.2.2.2.2.1.warm hW⟩⟩ rfl hn hls hst (lv_room hroom) hdg hf
end RW3
