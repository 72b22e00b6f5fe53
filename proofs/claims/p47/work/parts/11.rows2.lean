section RW2
variable {p : Program} {l : Launch} {e : Env} {R : Room} {s : State} {m : MethodId} {args : Array Value} {below : List Frame} {meth : Method} {c : Code} {H : Heap} {locs : List Loc} {cells slots : Nat} {Q : State → Prop}
variable {cc : ByteArray} {pc : Nat} {ls : Array Slot} {rest : List Value} {own : String} {nL : Nat} {G : CG} {μ μ' : Mm} {a : Nat}
-- the guilds' own fields, of any of the six
theorem gt_cl {t : Nat} (h : gt t) : ∃ (ci : Nat) (C : String) (T : u_T), t = ci + 1 ∧ vwCl[ci]? = some (C, T, 2) ∧ (∀ w ∈ u_ws C T 2, w ∈ UW) ∧ (∀ k, k < 2 → (fk ci)[k]? = some 0) ∧ (T 0 = ("ClockFeet$Guild", "feet", "I", false)) ∧ (T 1 = ("ClockFeet$Guild", "walked", "I", false)) ∧ (∀ k, k < 2 → parseFieldDescriptor (T k).2.2.1 = some .int) ∧ (∀ a, a < 2 → ∀ b, b < 2 → a ≠ b → (T a).2.1 ≠ (T b).2.1) := by
  rcases h with rfl | rfl | rfl | rfl | rfl | rfl
  · exact ⟨0, _, _, rfl, rfl, inU_X0, by decide, rfl, rfl, by decide +kernel, nmX0⟩
  · exact ⟨1, _, _, rfl, rfl, inU_X1, by decide, rfl, rfl, by decide +kernel, nmX1⟩
  · exact ⟨2, _, _, rfl, rfl, inU_X2, by decide, rfl, rfl, by decide +kernel, nmX2⟩
  · exact ⟨4, _, _, rfl, rfl, inU_X4, by decide, rfl, rfl, by decide +kernel, nmX4⟩
  · exact ⟨6, _, _, rfl, rfl, inU_X6, by decide, rfl, rfl, by decide +kernel, nmX6⟩
  · exact ⟨9, _, _, rfl, rfl, inU_X9, by decide, rfl, rfl, by decide +kernel, nmX9⟩
abbrev gnm : Nat → String × String × String × Bool := fun k => match k with
  | 0 => ("ClockFeet$Guild", "feet", "I", false)
  | _ => ("ClockFeet$Guild", "walked", "I", false)
theorem w_gG (X : Cx p s m args meth c cc nL own G) (hH : HS G s μ H locs) {k index : Nat} {ref : String} {v : Int32} (hg : gG μ a k = some v) (hk : k < 2) (hlw : Cond.fieldLink own index ref (gnm k).2.1 (gnm k).2.2.1 ∈ UW) (hsame : ∀ x, s.fieldFound? (gnm k).1 (gnm k).2.1 (gnm k).2.2.1 = some x → s.fieldFound? ref (gnm k).2.1 (gnm k).2.2.1 = some x) (hdg : decode cc pc = .ok (.getfield index, 3))
    (kk : W p l e R s m args below meth c H locs cells slots Q (F0 m (pc + 3) ls (.int v :: rest))) : W p l e R s m args below meth c H locs cells slots Q (F0 m pc ls (.ref a :: rest)) := by
  obtain ⟨ht1, hv⟩ := gsm hg
  obtain ⟨ci, C, T, e1, e2, e3, e4, e5, e6, e7, e8⟩ := gt_cl ht1
  have hT : T k = gnm k := by
    match k, hk with
    | 0, _ => exact e5
    | 1, _ => exact e6
  exact w_gI X hH (t := tg μ a) (k := k) (v := v) (by unfold gI; rw [if_pos rfl, hv]) e1 e2 e3 hk (e4 k hk) (by rw [hT]; exact hlw) (by rw [hT]; exact hsame) hdg kk
theorem w_pG (X : Cx p s m args meth c cc nL own G) (hH : HS G s μ H locs) {k index : Nat} {ref : String} {v : Int32} (hg : pG μ a k v = some μ') (hk : k < 2) (hlw : Cond.fieldLink own index ref (gnm k).2.1 (gnm k).2.2.1 ∈ UW) (hsame : ∀ x, s.fieldFound? (gnm k).1 (gnm k).2.1 (gnm k).2.2.1 = some x → s.fieldFound? ref (gnm k).2.1 (gnm k).2.2.1 = some x) (hdg : decode cc pc = .ok (.putfield index, 3))
    (kk : ∀ (H1 : Heap) (locs1 : List Loc), HS G s μ' H1 locs1 → W p l e R s m args below meth c H1 locs1 cells slots Q (F0 m (pc + 3) ls rest)) : W p l e R s m args below meth c H locs cells slots Q (F0 m pc ls (.int v :: .ref a :: rest)) := by
  obtain ⟨ht1, hv⟩ := gsm hg
  obtain ⟨ci, C, T, e1, e2, e3, e4, e5, e6, e7, e8⟩ := gt_cl ht1
  have hT : T k = gnm k := by
    match k, hk with
    | 0, _ => exact e5
    | 1, _ => exact e6
  exact w_pI X hH (t := tg μ a) (k := k) (v := v) (by unfold pI; rw [if_pos rfl, hv]) e1 e2 e3 hk (e4 k hk) (by rw [hT]; exact hlw) (by rw [hT]; exact hsame) (fun _ => .int) e7 e8 (Or.inl (by rw [hT]; match k, hk with | 0, _ => rfl | 1, _ => rfl)) (e7 k hk) hdg kk
-- arrays
theorem tys_at (X : Cx p s m args meth c cc nL own G) (k : Nat) {q : ClassId × FieldType} (h : (tysG G)[k]? = some q) : ArrOfT s q.1 q.2 ∧ va_RA s q.1 q.2 := X.2.2.2.2.2.1.1.2 k q h
theorem vin {μ : Mm} {a : Nat} {i : Int32} (h : ¬ ofr μ a i) : vp_in i (ln μ a) := h
theorem w_aI (X : Cx p s m args meth c cc nL own G) (hH : HS G s μ H locs) {i v : Int32} (hg : aI μ a 21 i = some v) (hdg : decode cc pc = .ok (.iaload, 1))
    (kk : W p l e R s m args below meth c H locs cells slots Q (F0 m (pc + 1) ls (.int v :: rest))) : W p l e R s m args below meth c H locs cells slots Q (F0 m pc ls (.int i :: .ref a :: rest)) := by
  obtain ⟨ht, h1⟩ := gsn hg
  obtain ⟨hr, h2⟩ := gsf h1
  cases h2
  exact va_iald X.1 X.2.1 X.2.2.2.2.2.1.1 (hH.one (by rw [ht]; decide) (cel_a ht (by decide))) 0 1 rfl rfl (vin hr) hdg kk
theorem w_aZ (X : Cx p s m args meth c cc nL own G) (hH : HS G s μ H locs) {i v : Int32} (hg : aI μ a 23 i = some v) (hdg : decode cc pc = .ok (.baload, 1))
    (kk : W p l e R s m args below meth c H locs cells slots Q (F0 m (pc + 1) ls (.int v :: rest))) : W p l e R s m args below meth c H locs cells slots Q (F0 m pc ls (.int i :: .ref a :: rest)) := by
  obtain ⟨ht, h1⟩ := gsn hg
  obtain ⟨hr, h2⟩ := gsf h1
  cases h2
  exact va_zald X.1 X.2.1 X.2.2.2.2.2.1.1 (hH.one (by rw [ht]; decide) (cel_a ht (by decide))) 0 3 rfl rfl (vin hr) hdg kk
theorem w_aL (X : Cx p s m args meth c cc nL own G) (hH : HS G s μ H locs) {i : Int32} {v : Int64} (hg : aL μ a 22 i = some v) (hdg : decode cc pc = .ok (.laload, 1))
    (kk : W p l e R s m args below meth c H locs cells slots Q (F0 m (pc + 1) ls (.long v :: rest))) : W p l e R s m args below meth c H locs cells slots Q (F0 m pc ls (.int i :: .ref a :: rest)) := by
  obtain ⟨ht, h1⟩ := gsn hg
  obtain ⟨hr, h2⟩ := gsf h1
  cases h2
  exact va_lald X.1 X.2.1 X.2.2.2.2.2.1.1 (hH.one (by rw [ht]; decide) (cel_a ht (by decide))) 0 2 rfl rfl (vin hr) hdg kk
theorem w_aP (X : Cx p s m args meth c cc nL own G) (hH : HS G s μ H locs) {t k v : Nat} {C : String} {i : Int32} (hg : aP μ a t i = some v) (ht0 : 24 ≤ t) (hq : (tysG G)[k]? = some (G.2.1 t, .object C)) (hdg : decode cc pc = .ok (.aaload, 1))
    (kk : W p l e R s m args below meth c H locs cells slots Q (F0 m (pc + 1) ls (.ref v :: rest))) : W p l e R s m args below meth c H locs cells slots Q (F0 m pc ls (.int i :: .ref a :: rest)) := by
  obtain ⟨ht, h1⟩ := gsn hg
  obtain ⟨hr, h2⟩ := gsf h1
  have hce : cel G μ a = .inl (G.2.1 t, ln μ a, .inr (.inr (.inr (.inr (mP μ a))))) := by
    rw [cel_a ht (by omega)]
    unfold cnt
    rw [if_neg (by omega), if_pos ht0]
  refine va_aldq X.1 X.2.1 X.2.2.2.2.2.1.1 (hH.one (by rw [ht]; omega) hce) 0 k rfl hq (vin hr) hdg ?_
  rw [h2]
  exact kk
theorem w_len (X : Cx p s m args meth c cc nL own G) (hH : HS G s μ H locs) {v : Int32} (hg : zI μ a = some v) {t k : Nat} {ty : FieldType} (htt : tg μ a = t) (hq : (tysG G)[k]? = some (G.2.1 t, ty)) (hdg : decode cc pc = .ok (.arraylength, 1))
    (kk : W p l e R s m args below meth c H locs cells slots Q (F0 m (pc + 1) ls (.int v :: rest))) : W p l e R s m args below meth c H locs cells slots Q (F0 m pc ls (.ref a :: rest)) := by
  obtain ⟨ht, rfl⟩ := gsm hg
  rw [htt] at ht
  exact va_alen X.1 X.2.1 X.2.2.2.2.2.1.1 (hH.one (by rw [htt]; omega) (cel_a htt ht)) 0 k rfl hq rfl hdg kk
/-- what a write into an array leaves -/
theorem arr_fin (hH : HS G s μ H locs) {t : Nat} (ht : tg μ a = t) (h20 : 20 ≤ t) {H1 : Heap} {k : Nat} (z : H1.size = H.size) (oq : ∀ q : Nat, q ≠ a → H1[q]? = H[q]?) (he : H1[a]? = some (vp_cell (G.2.1 t) (ln μ a, cnt t μ' a))) (hcb : ∀ b, b ≠ a → cel G μ' b = cel G μ b) (htg : ∀ b, tg μ' b = tg μ b) (hlg : ∀ b, ln μ' b = ln μ b) (hzz : hz μ' = hz μ) : HS G s μ' H1 (locs ++ [⟨a, k⟩]) := by
  refine ⟨Rl_upd (hH.1.1 a (by rw [ht]; omega)).2 hH.1 z oq ?_ hcb htg hzz, hH.2.put z oq (hH.1.1 a (by rw [ht]; omega)).2⟩
  rw [cel_a ((htg a).trans ht) h20, hlg]
  exact he
theorem arr_in (hH : HS G s μ H locs) {t : Nat} (ht : tg μ a = t) (h20 : 20 ≤ t) : H[a]? = some (vp_cell (G.2.1 t) (ln μ a, cnt t μ a)) := by
  have h := (hH.1.1 a (by rw [ht]; omega)).1
  rw [cel_a ht h20] at h
  exact h
theorem w_qI (X : Cx p s m args meth c cc nL own G) (hH : HS G s μ H locs) {i v : Int32} (hg : qI μ a 21 i v = some μ') (hdg : decode cc pc = .ok (.iastore, 1))
    (kk : ∀ (H1 : Heap) (locs1 : List Loc), HS G s μ' H1 locs1 → W p l e R s m args below meth c H1 locs1 cells slots Q (F0 m (pc + 1) ls rest)) : W p l e R s m args below meth c H locs cells slots Q (F0 m pc ls (.int v :: .int i :: .ref a :: rest)) := by
  obtain ⟨ht, h1⟩ := gsn hg
  obtain ⟨hr, h2⟩ := gsf h1
  cases h2
  refine W.iast X.1 X.2.1 (arr_in hH ht (by decide)) ((tys_at X 1 rfl).1 (ln μ a) (fun j => .int (mI μ a j))) (fun q => by cases q) (by show ¬ (i < 0 ∨ (arrV _ _ _).slots.size ≤ _); rw [arrV_size]; exact hr) rfl rfl hdg fun H1 e z oq => ?_
  refine kk H1 _ (arr_fin hH ht (by decide) z oq ?_ (cel_sI G μ a _ v) (fun _ => rfl) (fun _ => rfl) rfl)
  rw [e]
  show some ((vp_cell _ (_, .inl (mI μ a))).setSlot _ _) = some (vp_cell _ (_, .inl (mI (sI μ a i.toNatClampNeg v) a)))
  rw [vp_cell_i, vp_cell_i, arrV_store]
  congr 2
  funext q
  by_cases hq : q = i.toNatClampNeg
  · subst hq
    simp [updV, mI_sI]
  · simp [updV, mI_sI, hq]
theorem w_qZ (X : Cx p s m args meth c cc nL own G) (hH : HS G s μ H locs) {i v : Int32} (hg : qZ μ a 23 i v = some μ') (hdg : decode cc pc = .ok (.bastore, 1))
    (kk : ∀ (H1 : Heap) (locs1 : List Loc), HS G s μ' H1 locs1 → W p l e R s m args below meth c H1 locs1 cells slots Q (F0 m (pc + 1) ls rest)) : W p l e R s m args below meth c H locs cells slots Q (F0 m pc ls (.int v :: .int i :: .ref a :: rest)) := by
  obtain ⟨⟨ht, hv⟩, h1⟩ := gsn hg
  obtain ⟨hr, h2⟩ := gsf h1
  cases h2
  refine W.zast X.1 X.2.1 (arr_in hH ht (by decide)) ((tys_at X 3 rfl).1 (ln μ a) (fun j => .int (mI μ a j))) (fun q => by cases q) (by show ¬ (i < 0 ∨ (arrV _ _ _).slots.size ≤ _); rw [arrV_size]; exact hr) rfl rfl hdg fun H1 e z oq => ?_
  refine kk H1 _ (arr_fin hH ht (by decide) z oq ?_ (cel_sI G μ a _ _) (fun _ => rfl) (fun _ => rfl) rfl)
  rw [e]
  show some ((vp_cell _ (_, .inl (mI μ a))).setSlot _ _) = some (vp_cell _ (_, .inl (mI (sI μ a i.toNatClampNeg _) a)))
  rw [vp_cell_i, vp_cell_i, arrV_store]
  congr 2
  funext q
  by_cases hq : q = i.toNatClampNeg
  · subst hq
    rcases hv with rfl | rfl <;> simp [updV, mI_sI] <;> rfl
  · simp [updV, mI_sI, hq]
theorem w_qL (X : Cx p s m args meth c cc nL own G) (hH : HS G s μ H locs) {i : Int32} {v : Int64} (hg : qL μ a 22 i v = some μ') (hdg : decode cc pc = .ok (.lastore, 1))
    (kk : ∀ (H1 : Heap) (locs1 : List Loc), HS G s μ' H1 locs1 → W p l e R s m args below meth c H1 locs1 cells slots Q (F0 m (pc + 1) ls rest)) : W p l e R s m args below meth c H locs cells slots Q (F0 m pc ls (.long v :: .int i :: .ref a :: rest)) := by
  obtain ⟨ht, h1⟩ := gsn hg
  obtain ⟨hr, h2⟩ := gsf h1
  cases h2
  refine W.last X.1 X.2.1 (arr_in hH ht (by decide)) ((tys_at X 2 rfl).1 (ln μ a) (fun j => .long (mL μ a j))) (fun q => by cases q) (by show ¬ (i < 0 ∨ (arrV _ _ _).slots.size ≤ _); rw [arrV_size]; exact hr) rfl rfl hdg fun H1 e z oq => ?_
  refine kk H1 _ (arr_fin hH ht (by decide) z oq ?_ (cel_sL G μ a _ v) (fun _ => rfl) (fun _ => rfl) rfl)
  rw [e]
  show some ((vp_cell _ (_, .inr (.inl (mL μ a)))).setSlot _ _) = some (vp_cell _ (_, .inr (.inl (mL (sL μ a i.toNatClampNeg v) a))))
  rw [vp_cell_l, vp_cell_l, arrV_store]
  congr 2
  funext q
  by_cases hq : q = i.toNatClampNeg
  · subst hq
    simp [updV, mL_sL]
  · simp [updV, mL_sL, hq]
theorem cnt_q {t : Nat} (h : 24 ≤ t) (μ : Mm) (a : Nat) : cnt t μ a = .inr (.inr (.inr (.inr (mP μ a)))) := by
  unfold cnt
  rw [if_neg (by omega), if_pos h]
theorem w_qP (X : Cx p s m args meth c cc nL own G) (hH : HS G s μ H locs) {t k tv v ci N : Nat} {C : String} {T : u_T} {i : Int32} (hg : qP μ a t i tv v = some μ') (ht0 : 24 ≤ t) (hq : (tysG G)[k]? = some (G.2.1 t, .object C)) (htv : tv = ci + 1) (hc : vwCl[ci]? = some (C, T, N)) (hdg : decode cc pc = .ok (.aastore, 1))
    (kk : ∀ (H1 : Heap) (locs1 : List Loc), HS G s μ' H1 locs1 → W p l e R s m args below meth c H1 locs1 cells slots Q (F0 m (pc + 1) ls rest)) : W p l e R s m args below meth c H locs cells slots Q (F0 m pc ls (.ref v :: .int i :: .ref a :: rest)) := by
  obtain ⟨⟨ht, hv⟩, h1⟩ := gsn hg
  obtain ⟨hr, h2⟩ := gsf h1
  cases h2
  have hca := arr_in hH ht (show 20 ≤ t by omega)
  rw [cnt_q ht0] at hca
  have hcv := (hH.1.1 v (by rw [hv]; omega)).1
  rw [cel_o (hv.trans htv) (cl_lt hc)] at hcv
  obtain ⟨r', hr', cellV, g1, g2, g3, -⟩ := hcv
  have hK := X.2.2.2.2.2.1.1
  have hcls := (hK.1 ci _ hc).2
  obtain ⟨kA, comp, k1, k2, k3, -⟩ := (tys_at X k hq).2
  have hcomp : comp = G.1.1 ci := Option.some.inj (k3.symm.trans hcls.1)
  subst hcomp
  obtain ⟨kC, hkC, -⟩ := hcls.2
  have h0 : ¬ i < 0 := fun z => hr (Or.inl z)
  have hlt : i.toNatClampNeg < ln μ a := Nat.not_le.mp (fun z => hr (Or.inr z))
  refine W.aast X.1 X.2.1 hca (fun q h => by cases h) (fun h => by cases h) k1 k2 rfl hkC ⟨h0, by show _ < (arrV _ _ _).slots.size; rw [arrV_size]; exact hlt⟩ g1 (fun q h => by rw [g3] at h; cases h) (by rw [g2]; exact hkC) (by rw [g2]; exact va_assign hcls) rfl rfl hdg fun H1 e z oq => ?_
  refine kk H1 _ (arr_fin hH ht (by omega) z oq ?_ (cel_sP G μ a _ _) (fun _ => rfl) (fun _ => rfl) rfl)
  rw [e, cnt_q ht0]
  rw [vp_cell_q, vp_cell_q, arrV_store]
  congr 2
  funext q
  by_cases hq : q = i.toNatClampNeg
  · subst hq
    simp [updV, mP_sP, va_rf]
  · simp [updV, mP_sP, hq]
-- new cells
theorem HS.new (hH : HS G s μ H locs) {t n : Nat} {H1 : Heap} (hbs : G.2.2.1 ≤ s.heap.size) (z : H1.size = H.size + 1) (oq : ∀ q : Nat, q < H.size → H1[q]? = H[q]?) (he : va_at G.1 vwCl (hz μ, cel G (nw μ t n) (hz μ)) H1) : HS G s (nw μ t n) H1 locs :=
  ⟨Rl_new hH.1 z oq he, ⟨Nat.le_trans hH.2.1 (by omega), fun q h1 h2 => (oq q (Nat.lt_of_lt_of_le h1 hH.2.1)).trans (hH.2.2.1 q h1 h2), hH.2.2.2⟩⟩
theorem w_new (X : Cx p s m args meth c cc nL own G) (hH : HS G s μ H locs) {ci index N : Nat} {C : String} {T : u_T} (hc : vwCl[ci]? = some (C, T, N)) (hin : ∀ w ∈ u_ws C T N, w ∈ UW) (ty : Nat → FieldType) (hty : ∀ k, k < N → parseFieldDescriptor (T k).2.2.1 = some (ty k)) (hcl : Cond.classLink own index C ∈ UW) (hinst : Cond.instantiable C N ∈ UW) (hini : Cond.initialized C ∈ UW) (hfs : ∀ j, j < N → defaultValue (ty j) = vp_V (fls ci (nw μ (ci + 1) 0) (hz μ)) j) (hcells : cells + 1 ≤ R.cells) (hslots : slots + N ≤ R.slots) (hdg : decode cc pc = .ok (.new index, 3))
    (kk : ∀ (H1 : Heap), HS G s (nw μ (ci + 1) 0) H1 locs → W p l e R s m args below meth c H1 locs (cells + 1) (slots + N) Q (F0 m (pc + 3) ls (.ref (hz μ) :: rest))) : W p l e R s m args below meth c H locs cells slots Q (F0 m pc ls rest) := by
  obtain ⟨hx, hbb, hml, hown, hts, ⟨hK, -⟩, hlk, hbs⟩ := X
  have hKn := hK.1 ci _ hc
  have hz' := hH.1.2.1
  refine W.newcK hx hbb hown (hts _ hcl) (hts _ hinst) (hts _ hini) rfl hdg hcells hslots hKn.2.1 rfl fun H1 kC hkC e1 z1 o1 => ?_
  have h9 := kk H1 (hH.new hbs z1 o1 ?_)
  · rw [← hz'] at h9
    exact h9
  · rw [cel_o (ci := ci) (by rw [tg_nw, if_pos rfl]) (cl_lt hc)]
    exact ⟨_, hc, (u_born ty hts hin hKn hkC (by rw [← hz']; exact e1) hty).to hfs⟩
end RW2
