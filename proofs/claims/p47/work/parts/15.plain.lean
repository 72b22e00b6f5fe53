def nM (μ : Mm) (n k : Int32) : Option (Nat × Mm) := if n = 3 ∧ k = 6 then some (hz μ, nw (nw (nw (sP (sP (sP (nw μ 26 3) (hz μ) 0 (some (hz μ + 1))) (hz μ) 1 (some (hz μ + 2))) (hz μ) 2 (some (hz μ + 3))) 21 6) 21 6) 21 6) else none
theorem vr_outer (c : ClassId) (N h0 : Nat) : ∀ i : Nat, Jvm.Free.Multi.outerC c N h0 i = arrV c N (fun j => va_rf (if j < i then some (h0 + 1 + j) else none))
  | 0 => by
    show ({ cls := c, slots := Array.replicate N .null, vm := .none } : Cell) = _
    rw [arrV_new]
    refine congrArg (arrV c N) (funext fun j => ?_)
    simp [va_rf]
  | i + 1 => by
    show (Jvm.Free.Multi.outerC c N h0 i).setSlot i (.ref (h0 + 1 + i)) = _
    rw [vr_outer c N h0 i, arrV_store]
    refine congrArg (arrV c N) (funext fun j => ?_)
    by_cases e : j = i
    · subst e
      simp [updV, va_rf]
    · by_cases h : j < i
      · simp [updV, e, h, Nat.lt_succ_of_lt h]
      · simp [updV, e, h, show ¬ j < i + 1 by omega]
theorem df_all (ty : Nat → FieldType) (μ : Mm) (c N : Nat) (h : ∀ j, j < N → ∃ d, (fk c)[j]? = some d ∧ defaultValue (ty j) = (match d with | 0 => .int 0 | 1 => .long 0 | _ => .null)) : ∀ j, j < N → defaultValue (ty j) = vp_V (fls c (nw μ (c + 1) 0) (hz μ)) j := by
  intro j hj
  obtain ⟨d, h1, h2⟩ := h j hj
  unfold vp_V
  rw [List.getD_eq_getElem?_getD, fls_get _ _ h1, h2]
  show _ = vl _ _ _ _
  rcases d with _ | _ | d
  · show Value.int 0 = .int (mI _ _ _)
    rw [mI_nw, if_pos rfl]
  · show Value.long 0 = .long (mL _ _ _)
    rw [mL_nw, if_pos rfl]
  · show Value.null = va_rf (mP _ _ _)
    rw [mP_nw, if_pos rfl]
    rfl
section PL
variable {p : Program} {l : Launch} {e : Env} {R : Room} {s : State} {m : MethodId} {args : Array Value} {below : List Frame} {meth : Method} {c : Code} {H : Heap} {locs : List Loc} {cells slots : Nat} {Q : State → Prop}
variable {cc : ByteArray} {pc : Nat} {ls : Array Slot} {rest st : List Value} {own : String} {nL : Nat} {G : CG} {μ μ' : Mm} {a b : Nat}
theorem sw_lem {M : Nat} {g : JFrame} (k1 : W p l e R s m args below meth c H locs cells slots Q (F0 m M ls rest)) (k2 : W p l e R s m args below meth c H locs cells slots Q (F0 m M ls rest) → W p l e R s m args below meth c H locs cells slots Q g) : W p l e R s m args below meth c H locs cells slots Q g := k2 k1
theorem w_oi (X : Cx p s m args meth c cc nL own G) {k k2 idx : Nat} (hRL : RmL R k k2) (hk : 1 ≤ k ∧ 32 ≤ k2) (hls : ls.size = nL) (hlink : Cond.methodLink own idx objectInit ∈ UW) (hinst : Cond.instanceMethod objectInit ∈ UW) (hcode : Cond.code objectInit ⟨#[0xb1]⟩ 1 none ∈ UW) (hroom : (rest.map fun v => v.category).sum ≤ 8) (hdg : decode cc pc = .ok (.invokespecial idx, 3)) (kk : W p l e R s m args below meth c H locs cells slots Q (F0 m (pc + 3) ls rest)) : W p l e R s m args below meth c H locs cells slots Q (F0 m pc ls (.ref a :: rest)) := by
  obtain ⟨h1, h2⟩ := hRL
  exact W.objInit X.1 X.2.1 X.2.2.2.1 (X.2.2.2.2.1 _ hlink) (X.2.2.2.2.1 _ hinst) (X.2.2.2.2.1 _ hcode) rfl (by show ls.size = c.maxLocals; rw [X.2.2.1]; exact hls) rfl hdg (by omega) (by show 2 * 0 + _ + 12 ≤ _; omega) kk
theorem w_max (X : Cx p s m args meth c cc nL own G) {k k2 index : Nat} {x y : Int32} (hRL : RmL R k k2) (hk : 1 ≤ k ∧ 32 ≤ k2) (hls : ls.size = nL) (h1 : Cond.methodLink own index Lib.Math.max.name ∈ UW) (h2 : Cond.static Lib.Math.max.name ∈ UW) (h3 : Cond.initialized "java/lang/Math" ∈ UW) (h4 : Cond.code Lib.Math.max.name Lib.Math.max.code 2 (some .int) ∈ UW) (hcs : cells ≤ R.cells ∧ slots ≤ R.slots) (hdg : decode cc pc = .ok (.invokestatic index, 3)) (hroom : (rest.map fun v => v.category).sum ≤ 8) (kk : W p l e R s m args below meth c H locs cells slots Q (F0 m (pc + 3) ls (.int (if x < y then y else x) :: rest))) : W p l e R s m args below meth c H locs cells slots Q (F0 m pc ls (.int y :: .int x :: rest)) := by
  obtain ⟨g1, g2⟩ := hRL
  exact va_mmax X.1 X.2.1 (by rw [X.2.2.1]; exact hls.symm) X.2.2.2.1 (X.2.2.2.2.1 _ h1) (X.2.2.2.2.1 _ h2) (X.2.2.2.2.1 _ h3) (X.2.2.2.2.1 _ h4) (by omega) (by omega) hcs.1 hcs.2 hdg kk
theorem w_min (X : Cx p s m args meth c cc nL own G) {k k2 index : Nat} {x y : Int32} (hRL : RmL R k k2) (hk : 1 ≤ k ∧ 32 ≤ k2) (hls : ls.size = nL) (h1 : Cond.methodLink own index Lib.Math.min.name ∈ UW) (h2 : Cond.static Lib.Math.min.name ∈ UW) (h3 : Cond.initialized "java/lang/Math" ∈ UW) (h4 : Cond.code Lib.Math.min.name Lib.Math.min.code 2 (some .int) ∈ UW) (hcs : cells ≤ R.cells ∧ slots ≤ R.slots) (hdg : decode cc pc = .ok (.invokestatic index, 3)) (hroom : (rest.map fun v => v.category).sum ≤ 8) (kk : W p l e R s m args below meth c H locs cells slots Q (F0 m (pc + 3) ls (.int (if y < x then y else x) :: rest))) : W p l e R s m args below meth c H locs cells slots Q (F0 m pc ls (.int y :: .int x :: rest)) := by
  obtain ⟨g1, g2⟩ := hRL
  exact va_mmin X.1 X.2.1 (by rw [X.2.2.1]; exact hls.symm) X.2.2.2.1 (X.2.2.2.2.1 _ h1) (X.2.2.2.2.1 _ h2) (X.2.2.2.2.1 _ h3) (X.2.2.2.2.1 _ h4) (by omega) (by omega) hcs.1 hcs.2 hdg kk
theorem w_aPA (X : Cx p s m args meth c cc nL own G) (hH : HS G s μ H locs) {v : Nat} {i : Int32} (hg : aP μ a 26 i = some v) (hdg : decode cc pc = .ok (.aaload, 1))
    (kk : W p l e R s m args below meth c H locs cells slots Q (F0 m (pc + 1) ls (.ref v :: rest))) : W p l e R s m args below meth c H locs cells slots Q (F0 m pc ls (.int i :: .ref a :: rest)) := by
  obtain ⟨ht, h1⟩ := gsn hg
  obtain ⟨hr, h2⟩ := gsf h1
  have hca := arr_in hH ht (by decide)
  rw [cnt_q (by decide)] at hca
  have hlt : i.toNatClampNeg < ln μ a := Nat.not_le.mp fun q => hr (Or.inr q)
  refine W.aald (v := va_rf (mP μ a i.toNatClampNeg)) (ty := .array .int) X.1 X.2.1 hca ((tys_at X 6 rfl).1 (ln μ a) (fun j => va_rf (mP μ a j))) rfl (fun q => by cases q) (by show ¬ (i < 0 ∨ (arrV _ _ _).slots.size ≤ _); rw [arrV_size]; exact hr) (by show (arrV _ _ _).slots[_]? = _; rw [arrV_read _ _ hlt]) rfl rfl hdg ?_
  rw [h2]
  exact kk
/-- three rows of six ints, and the row of them -/
theorem w_mn (X : Cx p s m args meth c cc nL own G) (hH : HS G s μ H locs) {index : Nat} {n k : Int32} {x : Nat × Mm} (hg : nM μ n k = some x) (hclink : Cond.classLink own index "[[I" ∈ UW) (harr : Cond.arrayClass .int ∈ UW) (hcells : cells + 4 ≤ R.cells) (hslots : slots + 21 ≤ R.slots) (hdg : decode cc pc = .ok (.multianewarray index 2, 4))
    (kk : ∀ (H1 : Heap), HS G s x.2 H1 locs → W p l e R s m args below meth c H1 locs (cells + 4) (slots + 21) Q (F0 m (pc + 4) ls (.ref x.1 :: rest))) : W p l e R s m args below meth c H locs cells slots Q (F0 m pc ls (.int k :: .int n :: rest)) := by
  obtain ⟨⟨rfl, rfl⟩, rfl⟩ := gsm hg
  intro T hT Xs
  obtain ⟨vm₁, cA, comp, -, fA, fC, hO, hI, X', step⟩ := Xs.multianewarray2F X.1 X.2.2.2.1 (index := index) (ty := .int) (X.2.2.2.2.1 _ hclink) (AOA.use X.2.2.2.2.2.1.2.2.2.2.2.2.1) (X.2.2.2.2.1 _ harr) (g := F0 m pc ls (.int 6 :: .int 3 :: rest)) rfl (by rw [X.2.1]; exact hdg) rfl (by decide) (by decide) (by decide) (by decide) (by decide) rfl rfl hcells hslots
  have e3 : (3 : Int32).toNatClampNeg = 3 := by decide
  have e6 : (6 : Int32).toNatClampNeg = 6 := by decide
  rw [e3, e6] at X' step
  have hcA : cA = G.2.1 26 := Option.some.inj (fA.symm.trans (tys_at X 6 rfl).2)
  have hcy : comp = G.2.1 21 := Option.some.inj (fC.symm.trans (tys_at X 1 rfl).2)
  subst hcA
  subst hcy
  generalize hF : Jvm.Free.Multi.fill (T.setVm vm₁) (G.2.1 26) (G.2.1 21) 3 6 (defaultValue .int) 3 = F at X' step
  have hTh : (T.setVm vm₁).heap = H := hT
  obtain ⟨f1, f2, -, -⟩ := Jvm.Free.Multi.fill_facts (T.setVm vm₁) (G.2.1 26) (G.2.1 21) 3 6 (defaultValue .int) 3
  rw [hF, hTh] at f1 f2
  have hold : ∀ x : Nat, x < H.size → F.heap[x]? = H[x]? := fun x hx => by
    have := Jvm.Free.Multi.fill_old (T.setVm vm₁) (G.2.1 26) (G.2.1 21) 3 6 (defaultValue .int) (a := x) (by rw [hTh]; exact hx) 3
    rw [hF, hTh] at this
    exact this
  have hrow : ∀ j : Nat, j < 3 → F.heap[H.size + 1 + j]? = some (vp_cell (G.2.1 21) (6, .inl (fun _ => 0))) := fun j hj => by
    have := Jvm.Free.Multi.fill_inner (T.setVm vm₁) (G.2.1 26) (G.2.1 21) 3 6 (defaultValue .int) 3 j hj
    rw [hF, hTh] at this
    rw [this, vp_cell_i]
    show some ({ cls := _, slots := Array.replicate 6 _, vm := .none } : Cell) = _
    rw [arrV_new]
    rfl
  rw [vr_outer] at f2
  have hz' := hH.1.2.1
  have hbs := X.2.2.2.2.2.2.2
  have hfin : Rl G (nw (nw (nw (sP (sP (sP (nw μ 26 3) (hz μ) 0 (some (hz μ + 1))) (hz μ) 1 (some (hz μ + 2))) (hz μ) 2 (some (hz μ + 3))) 21 6) 21 6) 21 6) F.heap := by
    refine ⟨fun b hb => ?_, by rw [f1, hz']; rfl, by
      have := hH.1.2.2.1
      show G.2.2.1 ≤ hz μ + 1 + 1 + 1 + 1
      omega, hH.1.2.2.2.kept fun q _ q2 => hold q q2⟩
    have hb : (if b = hz μ + 1 + 1 + 1 then 21 else if b = hz μ + 1 + 1 then 21 else if b = hz μ + 1 then 21 else if b = hz μ then 26 else tg μ b) ≠ 0 := hb
    have hge : G.2.2.1 ≤ hz μ := hH.1.2.2.1
    have inn : ∀ j : Nat, j < 3 → b = hz μ + 1 + j → va_at G.1 vwCl (b, cel G (nw (nw (nw (sP (sP (sP (nw μ 26 3) (hz μ) 0 (some (hz μ + 1))) (hz μ) 1 (some (hz μ + 2))) (hz μ) 2 (some (hz μ + 3))) 21 6) 21 6) 21 6) b) F.heap := fun j hj e => by
      subst e
      have ht : tg (nw (nw (nw (sP (sP (sP (nw μ 26 3) (hz μ) 0 (some (hz μ + 1))) (hz μ) 1 (some (hz μ + 2))) (hz μ) 2 (some (hz μ + 3))) 21 6) 21 6) 21 6) (hz μ + 1 + j) = 21 := by
        rw [tg_nw, tg_nw, tg_nw]
        simp only [hz_nw, hz_sP]
        rcases (show j = 0 ∨ j = 1 ∨ j = 2 by omega) with rfl | rfl | rfl <;> simp
      have hl : ln (nw (nw (nw (sP (sP (sP (nw μ 26 3) (hz μ) 0 (some (hz μ + 1))) (hz μ) 1 (some (hz μ + 2))) (hz μ) 2 (some (hz μ + 3))) 21 6) 21 6) 21 6) (hz μ + 1 + j) = 6 := by
        rw [ln_nw, ln_nw, ln_nw]
        simp only [hz_nw, hz_sP]
        rcases (show j = 0 ∨ j = 1 ∨ j = 2 by omega) with rfl | rfl | rfl <;> simp
      have hm : mI (nw (nw (nw (sP (sP (sP (nw μ 26 3) (hz μ) 0 (some (hz μ + 1))) (hz μ) 1 (some (hz μ + 2))) (hz μ) 2 (some (hz μ + 3))) 21 6) 21 6) 21 6) (hz μ + 1 + j) = fun _ => 0 := by
        funext q
        rw [mI_nw, mI_nw, mI_nw]
        simp only [hz_nw, hz_sP]
        rcases (show j = 0 ∨ j = 1 ∨ j = 2 by omega) with rfl | rfl | rfl <;> simp
      rw [cel_a ht (by decide), hl]
      show F.heap[hz μ + 1 + j]? = some (vp_cell _ (6, .inl (mI _ _)))
      rw [hm, ← hz']
      exact hrow j hj
    by_cases h3 : b = hz μ + 1 + 1 + 1
    · exact ⟨inn 2 (by decide) (by omega), by show G.2.2.1 ≤ b; omega⟩
    · rw [if_neg h3] at hb
      by_cases h2 : b = hz μ + 1 + 1
      · exact ⟨inn 1 (by decide) (by omega), by show G.2.2.1 ≤ b; omega⟩
      · rw [if_neg h2] at hb
        by_cases h1 : b = hz μ + 1
        · exact ⟨inn 0 (by decide) (by omega), by show G.2.2.1 ≤ b; omega⟩
        · rw [if_neg h1] at hb
          by_cases h0 : b = hz μ
          · subst h0
            refine ⟨?_, by show G.2.2.1 ≤ hz μ; omega⟩
            rw [cel_a (t := 26) (by show (if hz μ = hz μ + 1 + 1 + 1 then 21 else if hz μ = hz μ + 1 + 1 then 21 else if hz μ = hz μ + 1 then 21 else if hz μ = hz μ then 26 else tg μ (hz μ)) = 26; rw [if_neg h3, if_neg h2, if_neg h1, if_pos rfl]) (by decide)]
            show F.heap[hz μ]? = some (vp_cell _ (ln _ _, _))
            rw [cnt_q (by decide), ln_nw, ln_nw, ln_nw, ln_sP, ln_sP, ln_sP, ln_nw]
            simp only [hz_nw, hz_sP]
            rw [vp_cell_q, ← hz', f2]
            have hne1 : ¬ H.size = H.size + 1 := by omega
            have hne2 : ¬ H.size = H.size + 1 + 1 := by omega
            have hne3 : ¬ H.size = H.size + 1 + 1 + 1 := by omega
            simp only [hne1, hne2, hne3, if_false, if_true]
            refine congrArg some (congrArg (arrV _ _) (funext fun j => congrArg va_rf ?_))
            simp only [mP_nw, mP_sP, hz_nw, hz_sP, ← hz', hne1, hne2, hne3, if_false, if_true, true_and]
            by_cases j2 : j = 2
            · subst j2; simp
            · by_cases j1 : j = 1
              · subst j1; simp
              · by_cases j0 : j = 0
                · subst j0; simp
                · rw [if_neg (by omega), if_neg j2, if_neg j1, if_neg j0]
          · rw [if_neg h0] at hb
            obtain ⟨g1, g2⟩ := hH.1.1 b hb
            refine ⟨?_, g2⟩
            have hlt : b < H.size := g1.lt
            have hc : cel G (nw (nw (nw (sP (sP (sP (nw μ 26 3) (hz μ) 0 (some (hz μ + 1))) (hz μ) 1 (some (hz μ + 2))) (hz μ) 2 (some (hz μ + 3))) 21 6) 21 6) 21 6) b = cel G μ b := cel_ne (fun j => by simp only [mI_nw, mI_sP, hz_nw, hz_sP, if_neg h3, if_neg h2, if_neg h1, if_neg h0]) (fun j => by simp only [mL_nw, mL_sP, hz_nw, hz_sP, if_neg h3, if_neg h2, if_neg h1, if_neg h0]) (fun j => by simp only [mP_nw, mP_sP, hz_nw, hz_sP, if_neg h3, if_neg h2, if_neg h1, if_neg h0, h0, false_and, if_false]) (by simp only [tg_nw, tg_sP, hz_nw, hz_sP, if_neg h3, if_neg h2, if_neg h1, if_neg h0]) (by simp only [ln_nw, ln_sP, hz_nw, hz_sP, if_neg h3, if_neg h2, if_neg h1, if_neg h0])
            rw [hc]
            exact g1.kept (hold b hlt)
  obtain ⟨t, a1, b1⟩ := kk F.heap ⟨hfin, ⟨by rw [f1]; have := hH.2.1; omega, fun q h1 h2 => (hold q (Nat.lt_of_lt_of_le h1 hH.2.1)).trans (hH.2.2.1 q h1 h2), hH.2.2.2⟩⟩ F rfl X'
  rw [← hz'] at a1
  exact ⟨t, step t (by rw [hT]; exact a1), b1⟩
-- the script
theorem HS.scr (X : Cx p s m args meth c cc nL own G) (hH : HS G s μ H locs) : va_X (gS G).1 (gS G).2.1 (gS G).2.2 s s.heap ∧ (gS G).1 < s.heap.size := by
  have h := hH.1.2.2.2
  have hb : (gS G).1 < s.heap.size := Nat.lt_of_lt_of_le (Nat.not_le.mp h.2) X.2.2.2.2.2.2.2
  have hk := X.2.2.2.2.2.1.2.2.2.2.2.2.2
  exact ⟨⟨gC G, (hH.2.2.1 _ hb h.2).symm.trans h.1, hk.1, hk.2.1, hk.2.2.1, hk.2.2.2⟩, hb⟩
theorem w_scI (X : Cx p s m args meth c cc nL own G) (hH : HS G s μ H locs) {i v : Int32} (hg : scI (gS G) a i = some v) (hdg : decode cc pc = .ok (.iaload, 1))
    (kk : W p l e R s m args below meth c H locs cells slots Q (F0 m (pc + 1) ls (.int v :: rest))) : W p l e R s m args below meth c H locs cells slots Q (F0 m pc ls (.int i :: .ref a :: rest)) := by
  obtain ⟨ht, h1⟩ := gsn hg
  obtain ⟨hr, h2⟩ := gsf h1
  cases h2
  subst ht
  obtain ⟨hX, hb⟩ := hH.scr X
  exact va_sld X.1 X.2.1 hX hb hH.1.2.2.2.2 hH.2 hr hdg kk
theorem w_scZ (X : Cx p s m args meth c cc nL own G) (hH : HS G s μ H locs) {v : Int32} (hg : scZ (gS G) a = some v) (hdg : decode cc pc = .ok (.arraylength, 1))
    (kk : W p l e R s m args below meth c H locs cells slots Q (F0 m (pc + 1) ls (.int v :: rest))) : W p l e R s m args below meth c H locs cells slots Q (F0 m pc ls (.ref a :: rest)) := by
  obtain ⟨ht, rfl⟩ := gsm hg
  subst ht
  obtain ⟨hX, hb⟩ := hH.scr X
  exact va_slen X.1 X.2.1 hX hb hH.1.2.2.2.2 hH.2 hdg kk
end PL
theorem df_0 (μ : Mm) : ∀ j, j < 2 → defaultValue (tyX0 j) = vp_V (fls 0 (nw μ 1 0) (hz μ)) j := df_all _ _ _ _ (by decide +kernel)
theorem df_1 (μ : Mm) : ∀ j, j < 2 → defaultValue (tyX1 j) = vp_V (fls 1 (nw μ 2 0) (hz μ)) j := df_all _ _ _ _ (by decide +kernel)
theorem df_2 (μ : Mm) : ∀ j, j < 2 → defaultValue (tyX2 j) = vp_V (fls 2 (nw μ 3 0) (hz μ)) j := df_all _ _ _ _ (by decide +kernel)
theorem df_3 (μ : Mm) : ∀ j, j < 12 → defaultValue (tyX3 j) = vp_V (fls 3 (nw μ 4 0) (hz μ)) j := df_all _ _ _ _ (by decide +kernel)
theorem df_4 (μ : Mm) : ∀ j, j < 2 → defaultValue (tyX4 j) = vp_V (fls 4 (nw μ 5 0) (hz μ)) j := df_all _ _ _ _ (by decide +kernel)
theorem df_5 (μ : Mm) : ∀ j, j < 8 → defaultValue (tyX5 j) = vp_V (fls 5 (nw μ 6 0) (hz μ)) j := df_all _ _ _ _ (by decide +kernel)
theorem df_6 (μ : Mm) : ∀ j, j < 2 → defaultValue (tyX6 j) = vp_V (fls 6 (nw μ 7 0) (hz μ)) j := df_all _ _ _ _ (by decide +kernel)
theorem df_7 (μ : Mm) : ∀ j, j < 8 → defaultValue (tyX7 j) = vp_V (fls 7 (nw μ 8 0) (hz μ)) j := df_all _ _ _ _ (by decide +kernel)
theorem df_8 (μ : Mm) : ∀ j, j < 2 → defaultValue (tyX8 j) = vp_V (fls 8 (nw μ 9 0) (hz μ)) j := df_all _ _ _ _ (by decide +kernel)
theorem df_9 (μ : Mm) : ∀ j, j < 2 → defaultValue (tyX9 j) = vp_V (fls 9 (nw μ 10 0) (hz μ)) j := df_all _ _ _ _ (by decide +kernel)
theorem df_10 (μ : Mm) : ∀ j, j < 3 → defaultValue (tyX10 j) = vp_V (fls 10 (nw μ 11 0) (hz μ)) j := df_all _ _ _ _ (by decide +kernel)
theorem df_11 (μ : Mm) : ∀ j, j < 14 → defaultValue (tyX11 j) = vp_V (fls 11 (nw μ 12 0) (hz μ)) j := df_all _ _ _ _ (by decide +kernel)
theorem iy_4 : ∀ t, t ∈ ([5, 7] : List Nat) → ∃ (ci : Nat) (C : String) (T : u_T) (N : Nat), t = ci + 1 ∧ vwCl[ci]? = some (C, T, N) ∧ (C = RX4 ∨ (C, RX4) ∈ ycs) := by
  intro t ht
  simp only [List.mem_cons, List.not_mem_nil, or_false] at ht
  rcases ht with rfl | rfl
  · exact ⟨4, _, _, _, rfl, rfl, Or.inl rfl⟩
  · exact ⟨6, _, _, _, rfl, rfl, Or.inr (by decide +kernel)⟩
theorem in_4 : ∀ t, gt t → t ∉ ([5, 7] : List Nat) → ∃ (ci : Nat) (C : String) (T : u_T) (N : Nat), t = ci + 1 ∧ vwCl[ci]? = some (C, T, N) ∧ (C, RX4) ∈ ncs := by
  intro t ht hn
  rcases ht with rfl | rfl | rfl | rfl | rfl | rfl
  · exact ⟨0, _, _, _, rfl, rfl, by decide +kernel⟩
  · exact ⟨1, _, _, _, rfl, rfl, by decide +kernel⟩
  · exact ⟨2, _, _, _, rfl, rfl, by decide +kernel⟩
  · exact absurd (by decide) hn
  · exact absurd (by decide) hn
  · exact ⟨9, _, _, _, rfl, rfl, by decide +kernel⟩
theorem ddS_X2_init : yX2_init.cls ≠ "java/lang/invoke/MethodHandle" ∧ yX2_init.cls ≠ "java/lang/invoke/VarHandle" ∧ (parseMethodDescriptor yX2_init.desc).map (fun d => d.parameters.length) = some 1 := by decide +kernel
theorem ddN_X4_bareTread : yX4_bareTread.name ≠ "<init>" ∧ (parseMethodDescriptor yX4_bareTread.desc).map (fun d => d.parameters.length) = some 0 := by decide +kernel
theorem ddV_X6_uncountedFeet : yX6_uncountedFeet.cls = RX6 ∧ yX6_uncountedFeet.cls ≠ "java/lang/invoke/MethodHandle" ∧ yX6_uncountedFeet.cls ≠ "java/lang/invoke/VarHandle" ∧ (parseMethodDescriptor yX6_uncountedFeet.desc).map (fun d => d.parameters.length) = some 0 := by decide +kernel
theorem ddN_X1_bareTread : yX1_bareTread.name ≠ "<init>" ∧ (parseMethodDescriptor yX1_bareTread.desc).map (fun d => d.parameters.length) = some 0 := by decide +kernel
theorem ddU_X2_bareTread : (RX2 : String) ≠ "java/lang/invoke/MethodHandle" ∧ (RX2 : String) ≠ "java/lang/invoke/VarHandle" ∧ (parseMethodDescriptor yX2_bareTread.desc).map (fun d => d.parameters.length) = some 0 := by decide +kernel
theorem ddV_X2_bareTread : yX2_bareTread.cls = RX2 ∧ yX2_bareTread.cls ≠ "java/lang/invoke/MethodHandle" ∧ yX2_bareTread.cls ≠ "java/lang/invoke/VarHandle" ∧ (parseMethodDescriptor yX2_bareTread.desc).map (fun d => d.parameters.length) = some 0 := by decide +kernel
theorem ddS_X8_init : yX8_init.cls ≠ "java/lang/invoke/MethodHandle" ∧ yX8_init.cls ≠ "java/lang/invoke/VarHandle" ∧ (parseMethodDescriptor yX8_init.desc).map (fun d => d.parameters.length) = some 1 := by decide +kernel
theorem ddV_X8_open : yX8_open.cls = RX8 ∧ yX8_open.cls ≠ "java/lang/invoke/MethodHandle" ∧ yX8_open.cls ≠ "java/lang/invoke/VarHandle" ∧ (parseMethodDescriptor yX8_open.desc).map (fun d => d.parameters.length) = some 2 := by decide +kernel
theorem ddS_X4_init : yX4_init.cls ≠ "java/lang/invoke/MethodHandle" ∧ yX4_init.cls ≠ "java/lang/invoke/VarHandle" ∧ (parseMethodDescriptor yX4_init.desc).map (fun d => d.parameters.length) = some 1 := by decide +kernel
theorem ddS_X1_init : yX1_init.cls ≠ "java/lang/invoke/MethodHandle" ∧ yX1_init.cls ≠ "java/lang/invoke/VarHandle" ∧ (parseMethodDescriptor yX1_init.desc).map (fun d => d.parameters.length) = some 1 := by decide +kernel
theorem ddS_X0_init : yX0_init.cls ≠ "java/lang/invoke/MethodHandle" ∧ yX0_init.cls ≠ "java/lang/invoke/VarHandle" ∧ (parseMethodDescriptor yX0_init.desc).map (fun d => d.parameters.length) = some 1 := by decide +kernel
theorem ddS_X6_init : yX6_init.cls ≠ "java/lang/invoke/MethodHandle" ∧ yX6_init.cls ≠ "java/lang/invoke/VarHandle" ∧ (parseMethodDescriptor yX6_init.desc).map (fun d => d.parameters.length) = some 1 := by decide +kernel
theorem ddS_X9_init : yX9_init.cls ≠ "java/lang/invoke/MethodHandle" ∧ yX9_init.cls ≠ "java/lang/invoke/VarHandle" ∧ (parseMethodDescriptor yX9_init.desc).map (fun d => d.parameters.length) = some 1 := by decide +kernel
theorem ddS_X3_newGuild : yX3_newGuild.cls ≠ "java/lang/invoke/MethodHandle" ∧ yX3_newGuild.cls ≠ "java/lang/invoke/VarHandle" ∧ (parseMethodDescriptor yX3_newGuild.desc).map (fun d => d.parameters.length) = some 2 := by decide +kernel
theorem ddV_X3_hasTooth : yX3_hasTooth.cls = RX3 ∧ yX3_hasTooth.cls ≠ "java/lang/invoke/MethodHandle" ∧ yX3_hasTooth.cls ≠ "java/lang/invoke/VarHandle" ∧ (parseMethodDescriptor yX3_hasTooth.desc).map (fun d => d.parameters.length) = some 1 := by decide +kernel
theorem ddV_X3_hasGuild : yX3_hasGuild.cls = RX3 ∧ yX3_hasGuild.cls ≠ "java/lang/invoke/MethodHandle" ∧ yX3_hasGuild.cls ≠ "java/lang/invoke/VarHandle" ∧ (parseMethodDescriptor yX3_hasGuild.desc).map (fun d => d.parameters.length) = some 1 := by decide +kernel
theorem ddU_X2_treadOn : (RX2 : String) ≠ "java/lang/invoke/MethodHandle" ∧ (RX2 : String) ≠ "java/lang/invoke/VarHandle" ∧ (parseMethodDescriptor yX2_treadOn.desc).map (fun d => d.parameters.length) = some 1 := by decide +kernel
theorem ddV_X2_treadOn : yX2_treadOn.cls = RX2 ∧ yX2_treadOn.cls ≠ "java/lang/invoke/MethodHandle" ∧ yX2_treadOn.cls ≠ "java/lang/invoke/VarHandle" ∧ (parseMethodDescriptor yX2_treadOn.desc).map (fun d => d.parameters.length) = some 1 := by decide +kernel
theorem ddS_J9_floorMod_7cf53 : yJ9_floorMod_7cf53.cls ≠ "java/lang/invoke/MethodHandle" ∧ yJ9_floorMod_7cf53.cls ≠ "java/lang/invoke/VarHandle" ∧ (parseMethodDescriptor yJ9_floorMod_7cf53.desc).map (fun d => d.parameters.length) = some 2 := by decide +kernel
theorem ddS_X11_remainder : yX11_remainder.cls ≠ "java/lang/invoke/MethodHandle" ∧ yX11_remainder.cls ≠ "java/lang/invoke/VarHandle" ∧ (parseMethodDescriptor yX11_remainder.desc).map (fun d => d.parameters.length) = some 2 := by decide +kernel
theorem ddV_X3_wrap : yX3_wrap.cls = RX3 ∧ yX3_wrap.cls ≠ "java/lang/invoke/MethodHandle" ∧ yX3_wrap.cls ≠ "java/lang/invoke/VarHandle" ∧ (parseMethodDescriptor yX3_wrap.desc).map (fun d => d.parameters.length) = some 1 := by decide +kernel
theorem ddV_X3_byTeeth : yX3_byTeeth.cls = RX3 ∧ yX3_byTeeth.cls ≠ "java/lang/invoke/MethodHandle" ∧ yX3_byTeeth.cls ≠ "java/lang/invoke/VarHandle" ∧ (parseMethodDescriptor yX3_byTeeth.desc).map (fun d => d.parameters.length) = some 1 := by decide +kernel
theorem ddV_X3_hasRentAt : yX3_hasRentAt.cls = RX3 ∧ yX3_hasRentAt.cls ≠ "java/lang/invoke/MethodHandle" ∧ yX3_hasRentAt.cls ≠ "java/lang/invoke/VarHandle" ∧ (parseMethodDescriptor yX3_hasRentAt.desc).map (fun d => d.parameters.length) = some 1 := by decide +kernel
theorem ddV_X3_takeWalk : yX3_takeWalk.cls = RX3 ∧ yX3_takeWalk.cls ≠ "java/lang/invoke/MethodHandle" ∧ yX3_takeWalk.cls ≠ "java/lang/invoke/VarHandle" ∧ (parseMethodDescriptor yX3_takeWalk.desc).map (fun d => d.parameters.length) = some 1 := by decide +kernel
theorem ddV_X8_append : yX8_append.cls = RX8 ∧ yX8_append.cls ≠ "java/lang/invoke/MethodHandle" ∧ yX8_append.cls ≠ "java/lang/invoke/VarHandle" ∧ (parseMethodDescriptor yX8_append.desc).map (fun d => d.parameters.length) = some 1 := by decide +kernel
theorem ddV_X3_takeStep : yX3_takeStep.cls = RX3 ∧ yX3_takeStep.cls ≠ "java/lang/invoke/MethodHandle" ∧ yX3_takeStep.cls ≠ "java/lang/invoke/VarHandle" ∧ (parseMethodDescriptor yX3_takeStep.desc).map (fun d => d.parameters.length) = some 1 := by decide +kernel
theorem ddU_X2_kind : (RX2 : String) ≠ "java/lang/invoke/MethodHandle" ∧ (RX2 : String) ≠ "java/lang/invoke/VarHandle" ∧ (parseMethodDescriptor yX2_kind.desc).map (fun d => d.parameters.length) = some 0 := by decide +kernel
theorem ddV_X2_kind : yX2_kind.cls = RX2 ∧ yX2_kind.cls ≠ "java/lang/invoke/MethodHandle" ∧ yX2_kind.cls ≠ "java/lang/invoke/VarHandle" ∧ (parseMethodDescriptor yX2_kind.desc).map (fun d => d.parameters.length) = some 0 := by decide +kernel
theorem ddV_X3_treadNow : yX3_treadNow.cls = RX3 ∧ yX3_treadNow.cls ≠ "java/lang/invoke/MethodHandle" ∧ yX3_treadNow.cls ≠ "java/lang/invoke/VarHandle" ∧ (parseMethodDescriptor yX3_treadNow.desc).map (fun d => d.parameters.length) = some 1 := by decide +kernel
theorem ddS_X11_greatestDivisor : yX11_greatestDivisor.cls ≠ "java/lang/invoke/MethodHandle" ∧ yX11_greatestDivisor.cls ≠ "java/lang/invoke/VarHandle" ∧ (parseMethodDescriptor yX11_greatestDivisor.desc).map (fun d => d.parameters.length) = some 2 := by decide +kernel
theorem ddV_X8_has : yX8_has.cls = RX8 ∧ yX8_has.cls ≠ "java/lang/invoke/MethodHandle" ∧ yX8_has.cls ≠ "java/lang/invoke/VarHandle" ∧ (parseMethodDescriptor yX8_has.desc).map (fun d => d.parameters.length) = some 1 := by decide +kernel
theorem ddV_X5_readFigure : yX5_readFigure.cls = RX5 ∧ yX5_readFigure.cls ≠ "java/lang/invoke/MethodHandle" ∧ yX5_readFigure.cls ≠ "java/lang/invoke/VarHandle" ∧ (parseMethodDescriptor yX5_readFigure.desc).map (fun d => d.parameters.length) = some 1 := by decide +kernel
theorem ddV_X5_reachesItem : yX5_reachesItem.cls = RX5 ∧ yX5_reachesItem.cls ≠ "java/lang/invoke/MethodHandle" ∧ yX5_reachesItem.cls ≠ "java/lang/invoke/VarHandle" ∧ (parseMethodDescriptor yX5_reachesItem.desc).map (fun d => d.parameters.length) = some 1 := by decide +kernel
theorem ddV_X5_readTwoFigures : yX5_readTwoFigures.cls = RX5 ∧ yX5_readTwoFigures.cls ≠ "java/lang/invoke/MethodHandle" ∧ yX5_readTwoFigures.cls ≠ "java/lang/invoke/VarHandle" ∧ (parseMethodDescriptor yX5_readTwoFigures.desc).map (fun d => d.parameters.length) = some 3 := by decide +kernel
theorem ddS_X5_kindOf : yX5_kindOf.cls ≠ "java/lang/invoke/MethodHandle" ∧ yX5_kindOf.cls ≠ "java/lang/invoke/VarHandle" ∧ (parseMethodDescriptor yX5_kindOf.desc).map (fun d => d.parameters.length) = some 1 := by decide +kernel
theorem ddV_X5_readGuild : yX5_readGuild.cls = RX5 ∧ yX5_readGuild.cls ≠ "java/lang/invoke/MethodHandle" ∧ yX5_readGuild.cls ≠ "java/lang/invoke/VarHandle" ∧ (parseMethodDescriptor yX5_readGuild.desc).map (fun d => d.parameters.length) = some 1 := by decide +kernel
theorem ddV_X5_readRent : yX5_readRent.cls = RX5 ∧ yX5_readRent.cls ≠ "java/lang/invoke/MethodHandle" ∧ yX5_readRent.cls ≠ "java/lang/invoke/VarHandle" ∧ (parseMethodDescriptor yX5_readRent.desc).map (fun d => d.parameters.length) = some 1 := by decide +kernel
theorem ddV_X5_readDial : yX5_readDial.cls = RX5 ∧ yX5_readDial.cls ≠ "java/lang/invoke/MethodHandle" ∧ yX5_readDial.cls ≠ "java/lang/invoke/VarHandle" ∧ (parseMethodDescriptor yX5_readDial.desc).map (fun d => d.parameters.length) = some 1 := by decide +kernel
theorem ddV_X5_readItem : yX5_readItem.cls = RX5 ∧ yX5_readItem.cls ≠ "java/lang/invoke/MethodHandle" ∧ yX5_readItem.cls ≠ "java/lang/invoke/VarHandle" ∧ (parseMethodDescriptor yX5_readItem.desc).map (fun d => d.parameters.length) = some 1 := by decide +kernel
theorem ddS_X7_isIn : yX7_isIn.cls ≠ "java/lang/invoke/MethodHandle" ∧ yX7_isIn.cls ≠ "java/lang/invoke/VarHandle" ∧ (parseMethodDescriptor yX7_isIn.desc).map (fun d => d.parameters.length) = some 2 := by decide +kernel
theorem ddV_X7_wrongsBy : yX7_wrongsBy.cls = RX7 ∧ yX7_wrongsBy.cls ≠ "java/lang/invoke/MethodHandle" ∧ yX7_wrongsBy.cls ≠ "java/lang/invoke/VarHandle" ∧ (parseMethodDescriptor yX7_wrongsBy.desc).map (fun d => d.parameters.length) = some 2 := by decide +kernel
theorem ddV_X7_firstBehind : yX7_firstBehind.cls = RX7 ∧ yX7_firstBehind.cls ≠ "java/lang/invoke/MethodHandle" ∧ yX7_firstBehind.cls ≠ "java/lang/invoke/VarHandle" ∧ (parseMethodDescriptor yX7_firstBehind.desc).map (fun d => d.parameters.length) = some 1 := by decide +kernel
theorem ddV_X8_replace : yX8_replace.cls = RX8 ∧ yX8_replace.cls ≠ "java/lang/invoke/MethodHandle" ∧ yX8_replace.cls ≠ "java/lang/invoke/VarHandle" ∧ (parseMethodDescriptor yX8_replace.desc).map (fun d => d.parameters.length) = some 2 := by decide +kernel
theorem ddV_X10_spread : yX10_spread.cls = RX10 ∧ yX10_spread.cls ≠ "java/lang/invoke/MethodHandle" ∧ yX10_spread.cls ≠ "java/lang/invoke/VarHandle" ∧ (parseMethodDescriptor yX10_spread.desc).map (fun d => d.parameters.length) = some 3 := by decide +kernel
theorem ddV_X10_countOneMore : yX10_countOneMore.cls = RX10 ∧ yX10_countOneMore.cls ≠ "java/lang/invoke/MethodHandle" ∧ yX10_countOneMore.cls ≠ "java/lang/invoke/VarHandle" ∧ (parseMethodDescriptor yX10_countOneMore.desc).map (fun d => d.parameters.length) = some 1 := by decide +kernel
theorem ddS_X3_init : yX3_init.cls ≠ "java/lang/invoke/MethodHandle" ∧ yX3_init.cls ≠ "java/lang/invoke/VarHandle" ∧ (parseMethodDescriptor yX3_init.desc).map (fun d => d.parameters.length) = some 0 := by decide +kernel
theorem ddS_X5_init : yX5_init.cls ≠ "java/lang/invoke/MethodHandle" ∧ yX5_init.cls ≠ "java/lang/invoke/VarHandle" ∧ (parseMethodDescriptor yX5_init.desc).map (fun d => d.parameters.length) = some 0 := by decide +kernel
theorem ddS_X7_init : yX7_init.cls ≠ "java/lang/invoke/MethodHandle" ∧ yX7_init.cls ≠ "java/lang/invoke/VarHandle" ∧ (parseMethodDescriptor yX7_init.desc).map (fun d => d.parameters.length) = some 0 := by decide +kernel
theorem ddS_X10_init : yX10_init.cls ≠ "java/lang/invoke/MethodHandle" ∧ yX10_init.cls ≠ "java/lang/invoke/VarHandle" ∧ (parseMethodDescriptor yX10_init.desc).map (fun d => d.parameters.length) = some 0 := by decide +kernel
theorem ddS_X11_has : yX11_has.cls ≠ "java/lang/invoke/MethodHandle" ∧ yX11_has.cls ≠ "java/lang/invoke/VarHandle" ∧ (parseMethodDescriptor yX11_has.desc).map (fun d => d.parameters.length) = some 2 := by decide +kernel
theorem ddV_X8_isThere : yX8_isThere.cls = RX8 ∧ yX8_isThere.cls ≠ "java/lang/invoke/MethodHandle" ∧ yX8_isThere.cls ≠ "java/lang/invoke/VarHandle" ∧ (parseMethodDescriptor yX8_isThere.desc).map (fun d => d.parameters.length) = some 0 := by decide +kernel
theorem ddV_X11_find : yX11_find.cls = RX11 ∧ yX11_find.cls ≠ "java/lang/invoke/MethodHandle" ∧ yX11_find.cls ≠ "java/lang/invoke/VarHandle" ∧ (parseMethodDescriptor yX11_find.desc).map (fun d => d.parameters.length) = some 1 := by decide +kernel
theorem ddV_X11_refuse : yX11_refuse.cls = RX11 ∧ yX11_refuse.cls ≠ "java/lang/invoke/MethodHandle" ∧ yX11_refuse.cls ≠ "java/lang/invoke/VarHandle" ∧ (parseMethodDescriptor yX11_refuse.desc).map (fun d => d.parameters.length) = some 2 := by decide +kernel
theorem ddV_X11_refusePlace : yX11_refusePlace.cls = RX11 ∧ yX11_refusePlace.cls ≠ "java/lang/invoke/MethodHandle" ∧ yX11_refusePlace.cls ≠ "java/lang/invoke/VarHandle" ∧ (parseMethodDescriptor yX11_refusePlace.desc).map (fun d => d.parameters.length) = some 3 := by decide +kernel
theorem ddV_X11_tell : yX11_tell.cls = RX11 ∧ yX11_tell.cls ≠ "java/lang/invoke/MethodHandle" ∧ yX11_tell.cls ≠ "java/lang/invoke/VarHandle" ∧ (parseMethodDescriptor yX11_tell.desc).map (fun d => d.parameters.length) = some 1 := by decide +kernel
theorem ddV_X8_close : yX8_close.cls = RX8 ∧ yX8_close.cls ≠ "java/lang/invoke/MethodHandle" ∧ yX8_close.cls ≠ "java/lang/invoke/VarHandle" ∧ (parseMethodDescriptor yX8_close.desc).map (fun d => d.parameters.length) = some 0 := by decide +kernel
theorem ddV_X11_open : yX11_open.cls = RX11 ∧ yX11_open.cls ≠ "java/lang/invoke/MethodHandle" ∧ yX11_open.cls ≠ "java/lang/invoke/VarHandle" ∧ (parseMethodDescriptor yX11_open.desc).map (fun d => d.parameters.length) = some 4 := by decide +kernel
theorem ddV_X5_read : yX5_read.cls = RX5 ∧ yX5_read.cls ≠ "java/lang/invoke/MethodHandle" ∧ yX5_read.cls ≠ "java/lang/invoke/VarHandle" ∧ (parseMethodDescriptor yX5_read.desc).map (fun d => d.parameters.length) = some 1 := by decide +kernel
theorem ddV_X3_build : yX3_build.cls = RX3 ∧ yX3_build.cls ≠ "java/lang/invoke/MethodHandle" ∧ yX3_build.cls ≠ "java/lang/invoke/VarHandle" ∧ (parseMethodDescriptor yX3_build.desc).map (fun d => d.parameters.length) = some 1 := by decide +kernel
theorem ddV_X3_replay : yX3_replay.cls = RX3 ∧ yX3_replay.cls ≠ "java/lang/invoke/MethodHandle" ∧ yX3_replay.cls ≠ "java/lang/invoke/VarHandle" ∧ (parseMethodDescriptor yX3_replay.desc).map (fun d => d.parameters.length) = some 0 := by decide +kernel
theorem ddV_X3_detail : yX3_detail.cls = RX3 ∧ yX3_detail.cls ≠ "java/lang/invoke/MethodHandle" ∧ yX3_detail.cls ≠ "java/lang/invoke/VarHandle" ∧ (parseMethodDescriptor yX3_detail.desc).map (fun d => d.parameters.length) = some 2 := by decide +kernel
theorem ddV_X3_hasRoomFor : yX3_hasRoomFor.cls = RX3 ∧ yX3_hasRoomFor.cls ≠ "java/lang/invoke/MethodHandle" ∧ yX3_hasRoomFor.cls ≠ "java/lang/invoke/VarHandle" ∧ (parseMethodDescriptor yX3_hasRoomFor.desc).map (fun d => d.parameters.length) = some 1 := by decide +kernel
theorem ddV_X3_addStep : yX3_addStep.cls = RX3 ∧ yX3_addStep.cls ≠ "java/lang/invoke/MethodHandle" ∧ yX3_addStep.cls ≠ "java/lang/invoke/VarHandle" ∧ (parseMethodDescriptor yX3_addStep.desc).map (fun d => d.parameters.length) = some 1 := by decide +kernel
theorem ddV_X3_isEmpty : yX3_isEmpty.cls = RX3 ∧ yX3_isEmpty.cls ≠ "java/lang/invoke/MethodHandle" ∧ yX3_isEmpty.cls ≠ "java/lang/invoke/VarHandle" ∧ (parseMethodDescriptor yX3_isEmpty.desc).map (fun d => d.parameters.length) = some 0 := by decide +kernel
theorem ddV_X3_tellFeet : yX3_tellFeet.cls = RX3 ∧ yX3_tellFeet.cls ≠ "java/lang/invoke/MethodHandle" ∧ yX3_tellFeet.cls ≠ "java/lang/invoke/VarHandle" ∧ (parseMethodDescriptor yX3_tellFeet.desc).map (fun d => d.parameters.length) = some 1 := by decide +kernel
theorem ddV_X8_takeFrom : yX8_takeFrom.cls = RX8 ∧ yX8_takeFrom.cls ≠ "java/lang/invoke/MethodHandle" ∧ yX8_takeFrom.cls ≠ "java/lang/invoke/VarHandle" ∧ (parseMethodDescriptor yX8_takeFrom.desc).map (fun d => d.parameters.length) = some 1 := by decide +kernel
theorem ddV_X11_tellRatio : yX11_tellRatio.cls = RX11 ∧ yX11_tellRatio.cls ≠ "java/lang/invoke/MethodHandle" ∧ yX11_tellRatio.cls ≠ "java/lang/invoke/VarHandle" ∧ (parseMethodDescriptor yX11_tellRatio.desc).map (fun d => d.parameters.length) = some 2 := by decide +kernel
theorem ddV_X7_look : yX7_look.cls = RX7 ∧ yX7_look.cls ≠ "java/lang/invoke/MethodHandle" ∧ yX7_look.cls ≠ "java/lang/invoke/VarHandle" ∧ (parseMethodDescriptor yX7_look.desc).map (fun d => d.parameters.length) = some 1 := by decide +kernel
theorem ddV_X7_weigh : yX7_weigh.cls = RX7 ∧ yX7_weigh.cls ≠ "java/lang/invoke/MethodHandle" ∧ yX7_weigh.cls ≠ "java/lang/invoke/VarHandle" ∧ (parseMethodDescriptor yX7_weigh.desc).map (fun d => d.parameters.length) = some 2 := by decide +kernel
theorem ddV_X7_fewestWrongs : yX7_fewestWrongs.cls = RX7 ∧ yX7_fewestWrongs.cls ≠ "java/lang/invoke/MethodHandle" ∧ yX7_fewestWrongs.cls ≠ "java/lang/invoke/VarHandle" ∧ (parseMethodDescriptor yX7_fewestWrongs.desc).map (fun d => d.parameters.length) = some 0 := by decide +kernel
theorem ddV_X7_tellFirstOrder : yX7_tellFirstOrder.cls = RX7 ∧ yX7_tellFirstOrder.cls ≠ "java/lang/invoke/MethodHandle" ∧ yX7_tellFirstOrder.cls ≠ "java/lang/invoke/VarHandle" ∧ (parseMethodDescriptor yX7_tellFirstOrder.desc).map (fun d => d.parameters.length) = some 1 := by decide +kernel
theorem ddV_X8_placeOf : yX8_placeOf.cls = RX8 ∧ yX8_placeOf.cls ≠ "java/lang/invoke/MethodHandle" ∧ yX8_placeOf.cls ≠ "java/lang/invoke/VarHandle" ∧ (parseMethodDescriptor yX8_placeOf.desc).map (fun d => d.parameters.length) = some 1 := by decide +kernel
theorem ddV_X7_countQuiet : yX7_countQuiet.cls = RX7 ∧ yX7_countQuiet.cls ≠ "java/lang/invoke/MethodHandle" ∧ yX7_countQuiet.cls ≠ "java/lang/invoke/VarHandle" ∧ (parseMethodDescriptor yX7_countQuiet.desc).map (fun d => d.parameters.length) = some 0 := by decide +kernel
theorem ddV_X7_lastInQuiet : yX7_lastInQuiet.cls = RX7 ∧ yX7_lastInQuiet.cls ≠ "java/lang/invoke/MethodHandle" ∧ yX7_lastInQuiet.cls ≠ "java/lang/invoke/VarHandle" ∧ (parseMethodDescriptor yX7_lastInQuiet.desc).map (fun d => d.parameters.length) = some 0 := by decide +kernel
theorem ddV_X3_wayTo : yX3_wayTo.cls = RX3 ∧ yX3_wayTo.cls ≠ "java/lang/invoke/MethodHandle" ∧ yX3_wayTo.cls ≠ "java/lang/invoke/VarHandle" ∧ (parseMethodDescriptor yX3_wayTo.desc).map (fun d => d.parameters.length) = some 1 := by decide +kernel
theorem ddV_X10_findCosts : yX10_findCosts.cls = RX10 ∧ yX10_findCosts.cls ≠ "java/lang/invoke/MethodHandle" ∧ yX10_findCosts.cls ≠ "java/lang/invoke/VarHandle" ∧ (parseMethodDescriptor yX10_findCosts.desc).map (fun d => d.parameters.length) = some 2 := by decide +kernel
theorem ddV_X10_costOf : yX10_costOf.cls = RX10 ∧ yX10_costOf.cls ≠ "java/lang/invoke/MethodHandle" ∧ yX10_costOf.cls ≠ "java/lang/invoke/VarHandle" ∧ (parseMethodDescriptor yX10_costOf.desc).map (fun d => d.parameters.length) = some 1 := by decide +kernel
theorem ddV_X10_firstWalker : yX10_firstWalker.cls = RX10 ∧ yX10_firstWalker.cls ≠ "java/lang/invoke/MethodHandle" ∧ yX10_firstWalker.cls ≠ "java/lang/invoke/VarHandle" ∧ (parseMethodDescriptor yX10_firstWalker.desc).map (fun d => d.parameters.length) = some 2 := by decide +kernel
theorem ddV_X3_stride : yX3_stride.cls = RX3 ∧ yX3_stride.cls ≠ "java/lang/invoke/MethodHandle" ∧ yX3_stride.cls ≠ "java/lang/invoke/VarHandle" ∧ (parseMethodDescriptor yX3_stride.desc).map (fun d => d.parameters.length) = some 1 := by decide +kernel
theorem ddV_X7_firstFit : yX7_firstFit.cls = RX7 ∧ yX7_firstFit.cls ≠ "java/lang/invoke/MethodHandle" ∧ yX7_firstFit.cls ≠ "java/lang/invoke/VarHandle" ∧ (parseMethodDescriptor yX7_firstFit.desc).map (fun d => d.parameters.length) = some 1 := by decide +kernel
theorem ddV_X7_countFits : yX7_countFits.cls = RX7 ∧ yX7_countFits.cls ≠ "java/lang/invoke/MethodHandle" ∧ yX7_countFits.cls ≠ "java/lang/invoke/VarHandle" ∧ (parseMethodDescriptor yX7_countFits.desc).map (fun d => d.parameters.length) = some 2 := by decide +kernel
theorem ddV_X11_refuseUnfit : yX11_refuseUnfit.cls = RX11 ∧ yX11_refuseUnfit.cls ≠ "java/lang/invoke/MethodHandle" ∧ yX11_refuseUnfit.cls ≠ "java/lang/invoke/VarHandle" ∧ (parseMethodDescriptor yX11_refuseUnfit.desc).map (fun d => d.parameters.length) = some 1 := by decide +kernel
theorem ddV_X3_walksToNoon : yX3_walksToNoon.cls = RX3 ∧ yX3_walksToNoon.cls ≠ "java/lang/invoke/MethodHandle" ∧ yX3_walksToNoon.cls ≠ "java/lang/invoke/VarHandle" ∧ (parseMethodDescriptor yX3_walksToNoon.desc).map (fun d => d.parameters.length) = some 1 := by decide +kernel
theorem ddV_X10_countRows : yX10_countRows.cls = RX10 ∧ yX10_countRows.cls ≠ "java/lang/invoke/MethodHandle" ∧ yX10_countRows.cls ≠ "java/lang/invoke/VarHandle" ∧ (parseMethodDescriptor yX10_countRows.desc).map (fun d => d.parameters.length) = some 2 := by decide +kernel
theorem ddV_X10_rowsOf : yX10_rowsOf.cls = RX10 ∧ yX10_rowsOf.cls ≠ "java/lang/invoke/MethodHandle" ∧ yX10_rowsOf.cls ≠ "java/lang/invoke/VarHandle" ∧ (parseMethodDescriptor yX10_rowsOf.desc).map (fun d => d.parameters.length) = some 1 := by decide +kernel
theorem ddV_X3_countHeavy : yX3_countHeavy.cls = RX3 ∧ yX3_countHeavy.cls ≠ "java/lang/invoke/MethodHandle" ∧ yX3_countHeavy.cls ≠ "java/lang/invoke/VarHandle" ∧ (parseMethodDescriptor yX3_countHeavy.desc).map (fun d => d.parameters.length) = some 0 := by decide +kernel
theorem ddS_X11_countThere : yX11_countThere.cls ≠ "java/lang/invoke/MethodHandle" ∧ yX11_countThere.cls ≠ "java/lang/invoke/VarHandle" ∧ (parseMethodDescriptor yX11_countThere.desc).map (fun d => d.parameters.length) = some 1 := by decide +kernel
theorem ddV_X11_count : yX11_count.cls = RX11 ∧ yX11_count.cls ≠ "java/lang/invoke/MethodHandle" ∧ yX11_count.cls ≠ "java/lang/invoke/VarHandle" ∧ (parseMethodDescriptor yX11_count.desc).map (fun d => d.parameters.length) = some 1 := by decide +kernel
theorem ddV_X8_mixInto : yX8_mixInto.cls = RX8 ∧ yX8_mixInto.cls ≠ "java/lang/invoke/MethodHandle" ∧ yX8_mixInto.cls ≠ "java/lang/invoke/VarHandle" ∧ (parseMethodDescriptor yX8_mixInto.desc).map (fun d => d.parameters.length) = some 1 := by decide +kernel
theorem ddV_X11_put : yX11_put.cls = RX11 ∧ yX11_put.cls ≠ "java/lang/invoke/MethodHandle" ∧ yX11_put.cls ≠ "java/lang/invoke/VarHandle" ∧ (parseMethodDescriptor yX11_put.desc).map (fun d => d.parameters.length) = some 3 := by decide +kernel
theorem ddS_L_cell : yL_cell.cls ≠ "java/lang/invoke/MethodHandle" ∧ yL_cell.cls ≠ "java/lang/invoke/VarHandle" ∧ (parseMethodDescriptor yL_cell.desc).map (fun d => d.parameters.length) = some 2 := by decide +kernel
theorem ddS_L_rent : yL_rent.cls ≠ "java/lang/invoke/MethodHandle" ∧ yL_rent.cls ≠ "java/lang/invoke/VarHandle" ∧ (parseMethodDescriptor yL_rent.desc).map (fun d => d.parameters.length) = some 2 := by decide +kernel
theorem ddV_X11_text : yX11_text.cls = RX11 ∧ yX11_text.cls ≠ "java/lang/invoke/MethodHandle" ∧ yX11_text.cls ≠ "java/lang/invoke/VarHandle" ∧ (parseMethodDescriptor yX11_text.desc).map (fun d => d.parameters.length) = some 2 := by decide +kernel
theorem ddS_L_put : yL_put.cls ≠ "java/lang/invoke/MethodHandle" ∧ yL_put.cls ≠ "java/lang/invoke/VarHandle" ∧ (parseMethodDescriptor yL_put.desc).map (fun d => d.parameters.length) = some 3 := by decide +kernel
theorem ddV_X11_fault : yX11_fault.cls = RX11 ∧ yX11_fault.cls ≠ "java/lang/invoke/MethodHandle" ∧ yX11_fault.cls ≠ "java/lang/invoke/VarHandle" ∧ (parseMethodDescriptor yX11_fault.desc).map (fun d => d.parameters.length) = some 1 := by decide +kernel
theorem ddV_X11_hall : yX11_hall.cls = RX11 ∧ yX11_hall.cls ≠ "java/lang/invoke/MethodHandle" ∧ yX11_hall.cls ≠ "java/lang/invoke/VarHandle" ∧ (parseMethodDescriptor yX11_hall.desc).map (fun d => d.parameters.length) = some 1 := by decide +kernel
theorem ddS_L_bare : yL_bare.cls ≠ "java/lang/invoke/MethodHandle" ∧ yL_bare.cls ≠ "java/lang/invoke/VarHandle" ∧ (parseMethodDescriptor yL_bare.desc).map (fun d => d.parameters.length) = some 2 := by decide +kernel
theorem ddS_L_tread : yL_tread.cls ≠ "java/lang/invoke/MethodHandle" ∧ yL_tread.cls ≠ "java/lang/invoke/VarHandle" ∧ (parseMethodDescriptor yL_tread.desc).map (fun d => d.parameters.length) = some 3 := by decide +kernel
theorem ddV_X11_asked : yX11_asked.cls = RX11 ∧ yX11_asked.cls ≠ "java/lang/invoke/MethodHandle" ∧ yX11_asked.cls ≠ "java/lang/invoke/VarHandle" ∧ (parseMethodDescriptor yX11_asked.desc).map (fun d => d.parameters.length) = some 0 := by decide +kernel
theorem ddS_L_walk : yL_walk.cls ≠ "java/lang/invoke/MethodHandle" ∧ yL_walk.cls ≠ "java/lang/invoke/VarHandle" ∧ (parseMethodDescriptor yL_walk.desc).map (fun d => d.parameters.length) = some 3 := by decide +kernel
theorem ddV_X11_walk : yX11_walk.cls = RX11 ∧ yX11_walk.cls ≠ "java/lang/invoke/MethodHandle" ∧ yX11_walk.cls ≠ "java/lang/invoke/VarHandle" ∧ (parseMethodDescriptor yX11_walk.desc).map (fun d => d.parameters.length) = some 1 := by decide +kernel
theorem ddV_X11_floor : yX11_floor.cls = RX11 ∧ yX11_floor.cls ≠ "java/lang/invoke/MethodHandle" ∧ yX11_floor.cls ≠ "java/lang/invoke/VarHandle" ∧ (parseMethodDescriptor yX11_floor.desc).map (fun d => d.parameters.length) = some 1 := by decide +kernel
theorem ddV_X11_noon : yX11_noon.cls = RX11 ∧ yX11_noon.cls ≠ "java/lang/invoke/MethodHandle" ∧ yX11_noon.cls ≠ "java/lang/invoke/VarHandle" ∧ (parseMethodDescriptor yX11_noon.desc).map (fun d => d.parameters.length) = some 1 := by decide +kernel
theorem ddV_X11_rent : yX11_rent.cls = RX11 ∧ yX11_rent.cls ≠ "java/lang/invoke/MethodHandle" ∧ yX11_rent.cls ≠ "java/lang/invoke/VarHandle" ∧ (parseMethodDescriptor yX11_rent.desc).map (fun d => d.parameters.length) = some 1 := by decide +kernel
theorem ddV_X11_guild : yX11_guild.cls = RX11 ∧ yX11_guild.cls ≠ "java/lang/invoke/MethodHandle" ∧ yX11_guild.cls ≠ "java/lang/invoke/VarHandle" ∧ (parseMethodDescriptor yX11_guild.desc).map (fun d => d.parameters.length) = some 2 := by decide +kernel
theorem ddS_L_gave : yL_gave.cls ≠ "java/lang/invoke/MethodHandle" ∧ yL_gave.cls ≠ "java/lang/invoke/VarHandle" ∧ (parseMethodDescriptor yL_gave.desc).map (fun d => d.parameters.length) = some 2 := by decide +kernel
theorem ddV_X11_due : yX11_due.cls = RX11 ∧ yX11_due.cls ≠ "java/lang/invoke/MethodHandle" ∧ yX11_due.cls ≠ "java/lang/invoke/VarHandle" ∧ (parseMethodDescriptor yX11_due.desc).map (fun d => d.parameters.length) = some 0 := by decide +kernel
theorem ddV_X11_undo : yX11_undo.cls = RX11 ∧ yX11_undo.cls ≠ "java/lang/invoke/MethodHandle" ∧ yX11_undo.cls ≠ "java/lang/invoke/VarHandle" ∧ (parseMethodDescriptor yX11_undo.desc).map (fun d => d.parameters.length) = some 1 := by decide +kernel
theorem ddV_X11_odds : yX11_odds.cls = RX11 ∧ yX11_odds.cls ≠ "java/lang/invoke/MethodHandle" ∧ yX11_odds.cls ≠ "java/lang/invoke/VarHandle" ∧ (parseMethodDescriptor yX11_odds.desc).map (fun d => d.parameters.length) = some 2 := by decide +kernel
theorem ddV_X11_lower : yX11_lower.cls = RX11 ∧ yX11_lower.cls ≠ "java/lang/invoke/MethodHandle" ∧ yX11_lower.cls ≠ "java/lang/invoke/VarHandle" ∧ (parseMethodDescriptor yX11_lower.desc).map (fun d => d.parameters.length) = some 0 := by decide +kernel
theorem ddV_X11_upper : yX11_upper.cls = RX11 ∧ yX11_upper.cls ≠ "java/lang/invoke/MethodHandle" ∧ yX11_upper.cls ≠ "java/lang/invoke/VarHandle" ∧ (parseMethodDescriptor yX11_upper.desc).map (fun d => d.parameters.length) = some 0 := by decide +kernel
theorem ddV_X11_fewest : yX11_fewest.cls = RX11 ∧ yX11_fewest.cls ≠ "java/lang/invoke/MethodHandle" ∧ yX11_fewest.cls ≠ "java/lang/invoke/VarHandle" ∧ (parseMethodDescriptor yX11_fewest.desc).map (fun d => d.parameters.length) = some 1 := by decide +kernel
theorem ddV_X11_cheap : yX11_cheap.cls = RX11 ∧ yX11_cheap.cls ≠ "java/lang/invoke/MethodHandle" ∧ yX11_cheap.cls ≠ "java/lang/invoke/VarHandle" ∧ (parseMethodDescriptor yX11_cheap.desc).map (fun d => d.parameters.length) = some 0 := by decide +kernel
theorem ddV_X11_quiet : yX11_quiet.cls = RX11 ∧ yX11_quiet.cls ≠ "java/lang/invoke/MethodHandle" ∧ yX11_quiet.cls ≠ "java/lang/invoke/VarHandle" ∧ (parseMethodDescriptor yX11_quiet.desc).map (fun d => d.parameters.length) = some 0 := by decide +kernel
theorem ddV_X11_feet : yX11_feet.cls = RX11 ∧ yX11_feet.cls ≠ "java/lang/invoke/MethodHandle" ∧ yX11_feet.cls ≠ "java/lang/invoke/VarHandle" ∧ (parseMethodDescriptor yX11_feet.desc).map (fun d => d.parameters.length) = some 1 := by decide +kernel
theorem ddS_L_says : yL_says.cls ≠ "java/lang/invoke/MethodHandle" ∧ yL_says.cls ≠ "java/lang/invoke/VarHandle" ∧ (parseMethodDescriptor yL_says.desc).map (fun d => d.parameters.length) = some 4 := by decide +kernel
theorem ddV_X11_never : yX11_never.cls = RX11 ∧ yX11_never.cls ≠ "java/lang/invoke/MethodHandle" ∧ yX11_never.cls ≠ "java/lang/invoke/VarHandle" ∧ (parseMethodDescriptor yX11_never.desc).map (fun d => d.parameters.length) = some 0 := by decide +kernel
theorem ddV_X11_fits : yX11_fits.cls = RX11 ∧ yX11_fits.cls ≠ "java/lang/invoke/MethodHandle" ∧ yX11_fits.cls ≠ "java/lang/invoke/VarHandle" ∧ (parseMethodDescriptor yX11_fits.desc).map (fun d => d.parameters.length) = some 1 := by decide +kernel
theorem ddV_X11_sure : yX11_sure.cls = RX11 ∧ yX11_sure.cls ≠ "java/lang/invoke/MethodHandle" ∧ yX11_sure.cls ≠ "java/lang/invoke/VarHandle" ∧ (parseMethodDescriptor yX11_sure.desc).map (fun d => d.parameters.length) = some 1 := by decide +kernel
theorem ddV_X11_ask : yX11_ask.cls = RX11 ∧ yX11_ask.cls ≠ "java/lang/invoke/MethodHandle" ∧ yX11_ask.cls ≠ "java/lang/invoke/VarHandle" ∧ (parseMethodDescriptor yX11_ask.desc).map (fun d => d.parameters.length) = some 1 := by decide +kernel
theorem ddV_X11_finding : yX11_finding.cls = RX11 ∧ yX11_finding.cls ≠ "java/lang/invoke/MethodHandle" ∧ yX11_finding.cls ≠ "java/lang/invoke/VarHandle" ∧ (parseMethodDescriptor yX11_finding.desc).map (fun d => d.parameters.length) = some 0 := by decide +kernel
theorem ddV_X11_order : yX11_order.cls = RX11 ∧ yX11_order.cls ≠ "java/lang/invoke/MethodHandle" ∧ yX11_order.cls ≠ "java/lang/invoke/VarHandle" ∧ (parseMethodDescriptor yX11_order.desc).map (fun d => d.parameters.length) = some 3 := by decide +kernel
theorem ddV_X11_at : yX11_at.cls = RX11 ∧ yX11_at.cls ≠ "java/lang/invoke/MethodHandle" ∧ yX11_at.cls ≠ "java/lang/invoke/VarHandle" ∧ (parseMethodDescriptor yX11_at.desc).map (fun d => d.parameters.length) = some 2 := by decide +kernel
theorem ddV_X11_pace : yX11_pace.cls = RX11 ∧ yX11_pace.cls ≠ "java/lang/invoke/MethodHandle" ∧ yX11_pace.cls ≠ "java/lang/invoke/VarHandle" ∧ (parseMethodDescriptor yX11_pace.desc).map (fun d => d.parameters.length) = some 0 := by decide +kernel
theorem ddV_X11_hour : yX11_hour.cls = RX11 ∧ yX11_hour.cls ≠ "java/lang/invoke/MethodHandle" ∧ yX11_hour.cls ≠ "java/lang/invoke/VarHandle" ∧ (parseMethodDescriptor yX11_hour.desc).map (fun d => d.parameters.length) = some 0 := by decide +kernel
theorem ddS_X11_init : yX11_init.cls ≠ "java/lang/invoke/MethodHandle" ∧ yX11_init.cls ≠ "java/lang/invoke/VarHandle" ∧ (parseMethodDescriptor yX11_init.desc).map (fun d => d.parameters.length) = some 0 := by decide +kernel
theorem ddS_L_numbers : yL_numbers.cls ≠ "java/lang/invoke/MethodHandle" ∧ yL_numbers.cls ≠ "java/lang/invoke/VarHandle" ∧ (parseMethodDescriptor yL_numbers.desc).map (fun d => d.parameters.length) = some 5 := by decide +kernel
theorem ddS_L_hall : yL_hall.cls ≠ "java/lang/invoke/MethodHandle" ∧ yL_hall.cls ≠ "java/lang/invoke/VarHandle" ∧ (parseMethodDescriptor yL_hall.desc).map (fun d => d.parameters.length) = some 2 := by decide +kernel
theorem ddV_X11_keep : yX11_keep.cls = RX11 ∧ yX11_keep.cls ≠ "java/lang/invoke/MethodHandle" ∧ yX11_keep.cls ≠ "java/lang/invoke/VarHandle" ∧ (parseMethodDescriptor yX11_keep.desc).map (fun d => d.parameters.length) = some 1 := by decide +kernel
theorem ddV_X11_digest : yX11_digest.cls = RX11 ∧ yX11_digest.cls ≠ "java/lang/invoke/MethodHandle" ∧ yX11_digest.cls ≠ "java/lang/invoke/VarHandle" ∧ (parseMethodDescriptor yX11_digest.desc).map (fun d => d.parameters.length) = some 0 := by decide +kernel
theorem ddS_L_goes : yL_goes.cls ≠ "java/lang/invoke/MethodHandle" ∧ yL_goes.cls ≠ "java/lang/invoke/VarHandle" ∧ (parseMethodDescriptor yL_goes.desc).map (fun d => d.parameters.length) = some 4 := by decide +kernel
theorem ddS_L_paced : yL_paced.cls ≠ "java/lang/invoke/MethodHandle" ∧ yL_paced.cls ≠ "java/lang/invoke/VarHandle" ∧ (parseMethodDescriptor yL_paced.desc).map (fun d => d.parameters.length) = some 2 := by decide +kernel
theorem ddS_L_ordered : yL_ordered.cls ≠ "java/lang/invoke/MethodHandle" ∧ yL_ordered.cls ≠ "java/lang/invoke/VarHandle" ∧ (parseMethodDescriptor yL_ordered.desc).map (fun d => d.parameters.length) = some 4 := by decide +kernel
theorem ddS_L_cheapest : yL_cheapest.cls ≠ "java/lang/invoke/MethodHandle" ∧ yL_cheapest.cls ≠ "java/lang/invoke/VarHandle" ∧ (parseMethodDescriptor yL_cheapest.desc).map (fun d => d.parameters.length) = some 3 := by decide +kernel
theorem ddS_L_fewest : yL_fewest.cls ≠ "java/lang/invoke/MethodHandle" ∧ yL_fewest.cls ≠ "java/lang/invoke/VarHandle" ∧ (parseMethodDescriptor yL_fewest.desc).map (fun d => d.parameters.length) = some 4 := by decide +kernel
theorem ddS_L_fitted : yL_fitted.cls ≠ "java/lang/invoke/MethodHandle" ∧ yL_fitted.cls ≠ "java/lang/invoke/VarHandle" ∧ (parseMethodDescriptor yL_fitted.desc).map (fun d => d.parameters.length) = some 4 := by decide +kernel
theorem ddS_L_again : yL_again.cls ≠ "java/lang/invoke/MethodHandle" ∧ yL_again.cls ≠ "java/lang/invoke/VarHandle" ∧ (parseMethodDescriptor yL_again.desc).map (fun d => d.parameters.length) = some 4 := by decide +kernel
theorem ddS_L_chances : yL_chances.cls ≠ "java/lang/invoke/MethodHandle" ∧ yL_chances.cls ≠ "java/lang/invoke/VarHandle" ∧ (parseMethodDescriptor yL_chances.desc).map (fun d => d.parameters.length) = some 2 := by decide +kernel
theorem ddV_X11_tear : yX11_tear.cls = RX11 ∧ yX11_tear.cls ≠ "java/lang/invoke/MethodHandle" ∧ yX11_tear.cls ≠ "java/lang/invoke/VarHandle" ∧ (parseMethodDescriptor yX11_tear.desc).map (fun d => d.parameters.length) = some 1 := by decide +kernel
