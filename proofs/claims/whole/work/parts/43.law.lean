def R_law : String := "ClockFeetLaw"
def lw_P (b : Addr) (xs : List Int32) (args : Array Value) (s : State) : Prop := args = #[.ref b] ∧ s.IntsAt b xs ∧ xs.length ≤ 3072 ∧ (Jvm.Cond.and given_1 narrow_1).before args s = true
def lw_Q (_ : Array Value) (s : State) (o : Outcome) (t : State) : Prop := o = .returned (some (.int 1)) ∧ Framed s o t [] 600000 7302250
def lw_Z (below : List Frame) (a : Array Value) (s : State) : State → Prop := fun t => ∃ o, t.status = .running ∧ Ended t below o ∧ lw_Q a s o t
/-- the law's own end, with 1 on the stack, nothing written that was there before, its room as the claim has it -/
theorem lw_ret {p : Program} {l : Launch} {e : Env} {s : State} {m : MethodId} {below : List Frame} {meth : Method} {c : Code} {b : Nat} (hx : p.tables.exec = Jvm.exec) (hb : c.code = code) (hr : meth.sig.returnType = ret) (hlocks : meth.locks = false) {pc : Nat} {H : Heap} {ls : Array Slot} (hdg : decode code pc = .ok (.ireturn, 1)) : W p l e room_1 s m #[Value.ref b] below meth c H [] 600000 7302250 (lw_Z below #[Value.ref b] s) (F0 m pc ls [.int 1]) := by
  intro T hT X
  obtain ⟨fs, hret, hrun, hended, hW, hframe⟩ := X.leave (v := some (.int 1)) (hlocks := hlocks) (fun h => by rw [hr] at h; cases h)
  have hmeth' : T.vm.method? m = some meth := X.method'
  refine ⟨T.setFrames fs, ?_, .returned (some (.int 1)), hrun, hended, rfl, ⟨_, rfl⟩, hW, hframe⟩
  jvm_step X.here [X.here.top, hx, hb, hdg, hmeth', hr, ret, narrow_b1]
  (try refine ⟨rfl, ?_⟩); (try refine ⟨rfl, ?_⟩)
  first | (intro acts; rw [hret _ acts rfl rfl rfl]) | rw [hret _ _ rfl rfl rfl]
  exact Steps.refl _
/-- what holds at the law's entry: the machine, the code, the tables' words (any of lw_tbl by 'hts w (by decide +kernel)'), the script of L ints xs at the cell b, what the Statement gives of the start (any of its parts by flat_of_before) -/
def lw_At (p : Program) (s : State) (m : MethodId) (meth : Method) (c : Code) (b L : Nat) (xs : Nat → Int32) : Prop :=
  p.tables.exec = Jvm.exec ∧ c.code = code ∧ meth.sig.returnType = ret ∧ c.maxLocals = 4 ∧ s.vm.findClass R_law = some m.cls ∧ (∀ w ∈ lw_tbl, w.before #[Value.ref b] s = true) ∧ va_X b L xs s s.heap ∧ b < s.heap.size ∧ meth.locks = false ∧ (Jvm.Cond.and given_1 narrow_1).before #[Value.ref b] s = true
def AllPS (I : Mm → Nat → Nat → Prop) : Prop := PS_row I ∧ PS_lay I ∧ PS_at I ∧ PS_tear I ∧ PS_copy I ∧ PS_mean I ∧ PS_text I ∧ PS_put I ∧ PS_fault I ∧ PS_hall I ∧ PS_guild I ∧ PS_mark I ∧ PS_shoe I ∧ PS_walk I ∧ PS_floor I ∧ PS_undo I ∧ PS_keep I ∧ PS_on I ∧ PS_hour I ∧ PS_due I ∧ PS_after I ∧ PS_pace I ∧ PS_order I ∧ PS_quiet I ∧ PS_cheap I ∧ PS_fewest I ∧ PS_feet I ∧ PS_never I ∧ PS_keyed I ∧ PS_fits I ∧ PS_sure I ∧ PS_ask I ∧ PS_noon I ∧ PS_both I ∧ PS_rent I ∧ PS_odds I ∧ PS_lots I ∧ PS_asked I ∧ PS_upper I ∧ PS_lower I ∧ PS_count I ∧ PS_finding I ∧ PS_findings I ∧ PS_digest I
set_option maxHeartbeats 4000000 in
set_option maxRecDepth 100000 in
/-- one of the cases, or none -/
theorem law_case {p : Program} {e : Env} {s : State} {m : MethodId} {below : List Frame} {meth : Method} {c : Code} {Q : State → Prop} {G : CG} {b L : Nat} {xs : Nat → Int32} (l : Launch) (I : Mm → Nat → Nat → Prop) (hS : AllPS I) (X : Cx p s m #[Value.ref b] meth c cL_law 4 RL G) (hRL : RmL room_1 31) (hX : va_X b L xs s s.heap) (hbl : b < s.heap.size) (hbA : ¬ fA G b) {x3 v : Int32} (h1 : vp_in (x3 + 1) L) (h2 : vp_in (x3 + 2) L) (h3 : vp_in (x3 + 3) L) (h4 : vp_in (x3 + 4) L) (h5 : vp_in (x3 + 5) L) {a1 a2 : Nat} {μ : Mm} {H : Heap} {locs : List Loc} {ls : Array Slot} {cells slots : Nat} (hI : I μ a1 a2) (hH : HS G s μ H locs) (hl : lv_has ls 4 [(0, .ref b), (1, .ref a1), (2, .ref a2), (3, .int x3)]) (hcs : cells + 42 ≤ room_1.cells ∧ slots + 84 ≤ room_1.slots) (kk : ∀ (μ2 : Mm) (H : Heap) (locs : List Loc), I μ2 a1 a2 → HS G s μ2 H locs → W p l e room_1 s m #[Value.ref b] below meth c H locs (cells + 42) (slots + 84) Q (F0 m 1319 ls [])) : W p l e room_1 s m #[Value.ref b] below meth c H locs cells slots Q (F0 m 33 ls [.int v]) := by
  have hx := X.1
  have hb := X.2.1
  by_cases hr : 0 ≤ v.toInt ∧ v.toInt < 44
  · obtain ⟨k, hk, hv⟩ : ∃ k : Nat, k < 44 ∧ v.toInt = (k : Int) := ⟨v.toInt.toNat, by omega, by omega⟩
    match k, hk with
    | 0, _ =>
      · exact lv_tableIn (tgt := 224) (off := 191) hx hb dL_law_33 (by rw [hv]; decide) (by rw [hv]; decide) (by rw [hv]; rfl) (by decide) (lc_row l I (hS.1) X hRL hX hbl hbA h1 h2 h3 h4 h5 hI hH hl hcs kk)
    | 1, _ =>
      · exact lv_tableIn (tgt := 257) (off := 224) hx hb dL_law_33 (by rw [hv]; decide) (by rw [hv]; decide) (by rw [hv]; rfl) (by decide) (lc_lay l I (hS.2.1) X hRL hX hbl hbA h1 h2 h3 h4 h5 hI hH hl hcs kk)
    | 2, _ =>
      · exact lv_tableIn (tgt := 300) (off := 267) hx hb dL_law_33 (by rw [hv]; decide) (by rw [hv]; decide) (by rw [hv]; rfl) (by decide) (lc_at l I (hS.2.2.1) X hRL hX hbl hbA h1 h2 h3 h4 h5 hI hH hl hcs kk)
    | 3, _ =>
      · exact lv_tableIn (tgt := 333) (off := 300) hx hb dL_law_33 (by rw [hv]; decide) (by rw [hv]; decide) (by rw [hv]; rfl) (by decide) (lc_tear l I (hS.2.2.2.1) X hRL hX hbl hbA h1 h2 h3 h4 h5 hI hH hl hcs kk)
    | 4, _ =>
      · exact lv_tableIn (tgt := 356) (off := 323) hx hb dL_law_33 (by rw [hv]; decide) (by rw [hv]; decide) (by rw [hv]; rfl) (by decide) (lc_copy l I (hS.2.2.2.2.1) X hRL hX hbl hbA h1 h2 h3 h4 h5 hI hH hl hcs kk)
    | 5, _ =>
      · exact lv_tableIn (tgt := 419) (off := 386) hx hb dL_law_33 (by rw [hv]; decide) (by rw [hv]; decide) (by rw [hv]; rfl) (by decide) (lc_mean l I (hS.2.2.2.2.2.1) X hRL hX hbl hbA h1 h2 h3 h4 h5 hI hH hl hcs kk)
    | 6, _ =>
      · exact lv_tableIn (tgt := 442) (off := 409) hx hb dL_law_33 (by rw [hv]; decide) (by rw [hv]; decide) (by rw [hv]; rfl) (by decide) (lc_text l I (hS.2.2.2.2.2.2.1) X hRL hX hbl hbA h1 h2 h3 h4 h5 hI hH hl hcs kk)
    | 7, _ =>
      · exact lv_tableIn (tgt := 475) (off := 442) hx hb dL_law_33 (by rw [hv]; decide) (by rw [hv]; decide) (by rw [hv]; rfl) (by decide) (lc_put l I (hS.2.2.2.2.2.2.2.1) X hRL hX hbl hbA h1 h2 h3 h4 h5 hI hH hl hcs kk)
    | 8, _ =>
      · exact lv_tableIn (tgt := 518) (off := 485) hx hb dL_law_33 (by rw [hv]; decide) (by rw [hv]; decide) (by rw [hv]; rfl) (by decide) (lc_fault l I (hS.2.2.2.2.2.2.2.2.1) X hRL hX hbl hbA h1 h2 h3 h4 h5 hI hH hl hcs kk)
    | 9, _ =>
      · exact lv_tableIn (tgt := 541) (off := 508) hx hb dL_law_33 (by rw [hv]; decide) (by rw [hv]; decide) (by rw [hv]; rfl) (by decide) (lc_hall l I (hS.2.2.2.2.2.2.2.2.2.1) X hRL hX hbl hbA h1 h2 h3 h4 h5 hI hH hl hcs kk)
    | 10, _ =>
      · exact lv_tableIn (tgt := 564) (off := 531) hx hb dL_law_33 (by rw [hv]; decide) (by rw [hv]; decide) (by rw [hv]; rfl) (by decide) (lc_guild l I (hS.2.2.2.2.2.2.2.2.2.2.1) X hRL hX hbl hbA h1 h2 h3 h4 h5 hI hH hl hcs kk)
    | 11, _ =>
      · exact lv_tableIn (tgt := 597) (off := 564) hx hb dL_law_33 (by rw [hv]; decide) (by rw [hv]; decide) (by rw [hv]; rfl) (by decide) (lc_mark l I (hS.2.2.2.2.2.2.2.2.2.2.2.1) X hRL hX hbl hbA h1 h2 h3 h4 h5 hI hH hl hcs kk)
    | 12, _ =>
      · exact lv_tableIn (tgt := 630) (off := 597) hx hb dL_law_33 (by rw [hv]; decide) (by rw [hv]; decide) (by rw [hv]; rfl) (by decide) (lc_shoe l I (hS.2.2.2.2.2.2.2.2.2.2.2.2.1) X hRL hX hbl hbA h1 h2 h3 h4 h5 hI hH hl hcs kk)
    | 13, _ =>
      · exact lv_tableIn (tgt := 663) (off := 630) hx hb dL_law_33 (by rw [hv]; decide) (by rw [hv]; decide) (by rw [hv]; rfl) (by decide) (lc_walk l I (hS.2.2.2.2.2.2.2.2.2.2.2.2.2.1) X hRL hX hbl hbA h1 h2 h3 h4 h5 hI hH hl hcs kk)
    | 14, _ =>
      · exact lv_tableIn (tgt := 686) (off := 653) hx hb dL_law_33 (by rw [hv]; decide) (by rw [hv]; decide) (by rw [hv]; rfl) (by decide) (lc_floor l I (hS.2.2.2.2.2.2.2.2.2.2.2.2.2.2.1) X hRL hX hbl hbA h1 h2 h3 h4 h5 hI hH hl hcs kk)
    | 15, _ =>
      · exact lv_tableIn (tgt := 709) (off := 676) hx hb dL_law_33 (by rw [hv]; decide) (by rw [hv]; decide) (by rw [hv]; rfl) (by decide) (lc_undo l I (hS.2.2.2.2.2.2.2.2.2.2.2.2.2.2.2.1) X hRL hX hbl hbA h1 h2 h3 h4 h5 hI hH hl hcs kk)
    | 16, _ =>
      · exact lv_tableIn (tgt := 732) (off := 699) hx hb dL_law_33 (by rw [hv]; decide) (by rw [hv]; decide) (by rw [hv]; rfl) (by decide) (lc_keep l I (hS.2.2.2.2.2.2.2.2.2.2.2.2.2.2.2.2.1) X hRL hX hbl hbA h1 h2 h3 h4 h5 hI hH hl hcs kk)
    | 17, _ =>
      · exact lv_tableIn (tgt := 755) (off := 722) hx hb dL_law_33 (by rw [hv]; decide) (by rw [hv]; decide) (by rw [hv]; rfl) (by decide) (lc_on l I (hS.2.2.2.2.2.2.2.2.2.2.2.2.2.2.2.2.2.1) X hRL hX hbl hbA h1 h2 h3 h4 h5 hI hH hl hcs kk)
    | 18, _ =>
      · exact lv_tableIn (tgt := 778) (off := 745) hx hb dL_law_33 (by rw [hv]; decide) (by rw [hv]; decide) (by rw [hv]; rfl) (by decide) (lc_hour l I (hS.2.2.2.2.2.2.2.2.2.2.2.2.2.2.2.2.2.2.1) X hRL hX hbl hbA h1 h2 h3 h4 h5 hI hH hl hcs kk)
    | 19, _ =>
      · exact lv_tableIn (tgt := 791) (off := 758) hx hb dL_law_33 (by rw [hv]; decide) (by rw [hv]; decide) (by rw [hv]; rfl) (by decide) (lc_due l I (hS.2.2.2.2.2.2.2.2.2.2.2.2.2.2.2.2.2.2.2.1) X hRL hX hbl hbA h1 h2 h3 h4 h5 hI hH hl hcs kk)
    | 20, _ =>
      · exact lv_tableIn (tgt := 804) (off := 771) hx hb dL_law_33 (by rw [hv]; decide) (by rw [hv]; decide) (by rw [hv]; rfl) (by decide) (lc_after l I (hS.2.2.2.2.2.2.2.2.2.2.2.2.2.2.2.2.2.2.2.2.1) X hRL hX hbl hbA h1 h2 h3 h4 h5 hI hH hl hcs kk)
    | 21, _ =>
      · exact lv_tableIn (tgt := 827) (off := 794) hx hb dL_law_33 (by rw [hv]; decide) (by rw [hv]; decide) (by rw [hv]; rfl) (by decide) (lc_pace l I (hS.2.2.2.2.2.2.2.2.2.2.2.2.2.2.2.2.2.2.2.2.2.1) X hRL hX hbl hbA h1 h2 h3 h4 h5 hI hH hl hcs kk)
    | 22, _ =>
      · exact lv_tableIn (tgt := 840) (off := 807) hx hb dL_law_33 (by rw [hv]; decide) (by rw [hv]; decide) (by rw [hv]; rfl) (by decide) (lc_order l I (hS.2.2.2.2.2.2.2.2.2.2.2.2.2.2.2.2.2.2.2.2.2.2.1) X hRL hX hbl hbA h1 h2 h3 h4 h5 hI hH hl hcs kk)
    | 23, _ =>
      · exact lv_tableIn (tgt := 883) (off := 850) hx hb dL_law_33 (by rw [hv]; decide) (by rw [hv]; decide) (by rw [hv]; rfl) (by decide) (lc_quiet l I (hS.2.2.2.2.2.2.2.2.2.2.2.2.2.2.2.2.2.2.2.2.2.2.2.1) X hRL hX hbl hbA h1 h2 h3 h4 h5 hI hH hl hcs kk)
    | 24, _ =>
      · exact lv_tableIn (tgt := 896) (off := 863) hx hb dL_law_33 (by rw [hv]; decide) (by rw [hv]; decide) (by rw [hv]; rfl) (by decide) (lc_cheap l I (hS.2.2.2.2.2.2.2.2.2.2.2.2.2.2.2.2.2.2.2.2.2.2.2.2.1) X hRL hX hbl hbA h1 h2 h3 h4 h5 hI hH hl hcs kk)
    | 25, _ =>
      · exact lv_tableIn (tgt := 909) (off := 876) hx hb dL_law_33 (by rw [hv]; decide) (by rw [hv]; decide) (by rw [hv]; rfl) (by decide) (lc_fewest l I (hS.2.2.2.2.2.2.2.2.2.2.2.2.2.2.2.2.2.2.2.2.2.2.2.2.2.1) X hRL hX hbl hbA h1 h2 h3 h4 h5 hI hH hl hcs kk)
    | 26, _ =>
      · exact lv_tableIn (tgt := 932) (off := 899) hx hb dL_law_33 (by rw [hv]; decide) (by rw [hv]; decide) (by rw [hv]; rfl) (by decide) (lc_feet l I (hS.2.2.2.2.2.2.2.2.2.2.2.2.2.2.2.2.2.2.2.2.2.2.2.2.2.2.1) X hRL hX hbl hbA h1 h2 h3 h4 h5 hI hH hl hcs kk)
    | 27, _ =>
      · exact lv_tableIn (tgt := 955) (off := 922) hx hb dL_law_33 (by rw [hv]; decide) (by rw [hv]; decide) (by rw [hv]; rfl) (by decide) (lc_never l I (hS.2.2.2.2.2.2.2.2.2.2.2.2.2.2.2.2.2.2.2.2.2.2.2.2.2.2.2.1) X hRL hX hbl hbA h1 h2 h3 h4 h5 hI hH hl hcs kk)
    | 28, _ =>
      · exact lv_tableIn (tgt := 968) (off := 935) hx hb dL_law_33 (by rw [hv]; decide) (by rw [hv]; decide) (by rw [hv]; rfl) (by decide) (lc_keyed l I (hS.2.2.2.2.2.2.2.2.2.2.2.2.2.2.2.2.2.2.2.2.2.2.2.2.2.2.2.2.1) X hRL hX hbl hbA h1 h2 h3 h4 h5 hI hH hl hcs kk)
    | 29, _ =>
      · exact lv_tableIn (tgt := 981) (off := 948) hx hb dL_law_33 (by rw [hv]; decide) (by rw [hv]; decide) (by rw [hv]; rfl) (by decide) (lc_fits l I (hS.2.2.2.2.2.2.2.2.2.2.2.2.2.2.2.2.2.2.2.2.2.2.2.2.2.2.2.2.2.1) X hRL hX hbl hbA h1 h2 h3 h4 h5 hI hH hl hcs kk)
    | 30, _ =>
      · exact lv_tableIn (tgt := 1004) (off := 971) hx hb dL_law_33 (by rw [hv]; decide) (by rw [hv]; decide) (by rw [hv]; rfl) (by decide) (lc_sure l I (hS.2.2.2.2.2.2.2.2.2.2.2.2.2.2.2.2.2.2.2.2.2.2.2.2.2.2.2.2.2.2.1) X hRL hX hbl hbA h1 h2 h3 h4 h5 hI hH hl hcs kk)
    | 31, _ =>
      · exact lv_tableIn (tgt := 1027) (off := 994) hx hb dL_law_33 (by rw [hv]; decide) (by rw [hv]; decide) (by rw [hv]; rfl) (by decide) (lc_ask l I (hS.2.2.2.2.2.2.2.2.2.2.2.2.2.2.2.2.2.2.2.2.2.2.2.2.2.2.2.2.2.2.2.1) X hRL hX hbl hbA h1 h2 h3 h4 h5 hI hH hl hcs kk)
    | 32, _ =>
      · exact lv_tableIn (tgt := 1050) (off := 1017) hx hb dL_law_33 (by rw [hv]; decide) (by rw [hv]; decide) (by rw [hv]; rfl) (by decide) (lc_noon l I (hS.2.2.2.2.2.2.2.2.2.2.2.2.2.2.2.2.2.2.2.2.2.2.2.2.2.2.2.2.2.2.2.2.1) X hRL hX hbl hbA h1 h2 h3 h4 h5 hI hH hl hcs kk)
    | 33, _ =>
      · exact lv_tableIn (tgt := 1073) (off := 1040) hx hb dL_law_33 (by rw [hv]; decide) (by rw [hv]; decide) (by rw [hv]; rfl) (by decide) (lc_both l I (hS.2.2.2.2.2.2.2.2.2.2.2.2.2.2.2.2.2.2.2.2.2.2.2.2.2.2.2.2.2.2.2.2.2.1) X hRL hX hbl hbA h1 h2 h3 h4 h5 hI hH hl hcs kk)
    | 34, _ =>
      · exact lv_tableIn (tgt := 1116) (off := 1083) hx hb dL_law_33 (by rw [hv]; decide) (by rw [hv]; decide) (by rw [hv]; rfl) (by decide) (lc_rent l I (hS.2.2.2.2.2.2.2.2.2.2.2.2.2.2.2.2.2.2.2.2.2.2.2.2.2.2.2.2.2.2.2.2.2.2.1) X hRL hX hbl hbA h1 h2 h3 h4 h5 hI hH hl hcs kk)
    | 35, _ =>
      · exact lv_tableIn (tgt := 1139) (off := 1106) hx hb dL_law_33 (by rw [hv]; decide) (by rw [hv]; decide) (by rw [hv]; rfl) (by decide) (lc_odds l I (hS.2.2.2.2.2.2.2.2.2.2.2.2.2.2.2.2.2.2.2.2.2.2.2.2.2.2.2.2.2.2.2.2.2.2.2.1) X hRL hX hbl hbA h1 h2 h3 h4 h5 hI hH hl hcs kk)
    | 36, _ =>
      · exact lv_tableIn (tgt := 1172) (off := 1139) hx hb dL_law_33 (by rw [hv]; decide) (by rw [hv]; decide) (by rw [hv]; rfl) (by decide) (lc_lots l I (hS.2.2.2.2.2.2.2.2.2.2.2.2.2.2.2.2.2.2.2.2.2.2.2.2.2.2.2.2.2.2.2.2.2.2.2.2.1) X hRL hX hbl hbA h1 h2 h3 h4 h5 hI hH hl hcs kk)
    | 37, _ =>
      · exact lv_tableIn (tgt := 1205) (off := 1172) hx hb dL_law_33 (by rw [hv]; decide) (by rw [hv]; decide) (by rw [hv]; rfl) (by decide) (lc_asked l I (hS.2.2.2.2.2.2.2.2.2.2.2.2.2.2.2.2.2.2.2.2.2.2.2.2.2.2.2.2.2.2.2.2.2.2.2.2.2.1) X hRL hX hbl hbA h1 h2 h3 h4 h5 hI hH hl hcs kk)
    | 38, _ =>
      · exact lv_tableIn (tgt := 1218) (off := 1185) hx hb dL_law_33 (by rw [hv]; decide) (by rw [hv]; decide) (by rw [hv]; rfl) (by decide) (lc_upper l I (hS.2.2.2.2.2.2.2.2.2.2.2.2.2.2.2.2.2.2.2.2.2.2.2.2.2.2.2.2.2.2.2.2.2.2.2.2.2.2.1) X hRL hX hbl hbA h1 h2 h3 h4 h5 hI hH hl hcs kk)
    | 39, _ =>
      · exact lv_tableIn (tgt := 1232) (off := 1199) hx hb dL_law_33 (by rw [hv]; decide) (by rw [hv]; decide) (by rw [hv]; rfl) (by decide) (lc_lower l I (hS.2.2.2.2.2.2.2.2.2.2.2.2.2.2.2.2.2.2.2.2.2.2.2.2.2.2.2.2.2.2.2.2.2.2.2.2.2.2.2.1) X hRL hX hbl hbA h1 h2 h3 h4 h5 hI hH hl hcs kk)
    | 40, _ =>
      · exact lv_tableIn (tgt := 1246) (off := 1213) hx hb dL_law_33 (by rw [hv]; decide) (by rw [hv]; decide) (by rw [hv]; rfl) (by decide) (lc_count l I (hS.2.2.2.2.2.2.2.2.2.2.2.2.2.2.2.2.2.2.2.2.2.2.2.2.2.2.2.2.2.2.2.2.2.2.2.2.2.2.2.2.1) X hRL hX hbl hbA h1 h2 h3 h4 h5 hI hH hl hcs kk)
    | 41, _ =>
      · exact lv_tableIn (tgt := 1269) (off := 1236) hx hb dL_law_33 (by rw [hv]; decide) (by rw [hv]; decide) (by rw [hv]; rfl) (by decide) (lc_finding l I (hS.2.2.2.2.2.2.2.2.2.2.2.2.2.2.2.2.2.2.2.2.2.2.2.2.2.2.2.2.2.2.2.2.2.2.2.2.2.2.2.2.2.1) X hRL hX hbl hbA h1 h2 h3 h4 h5 hI hH hl hcs kk)
    | 42, _ =>
      · exact lv_tableIn (tgt := 1282) (off := 1249) hx hb dL_law_33 (by rw [hv]; decide) (by rw [hv]; decide) (by rw [hv]; rfl) (by decide) (lc_findings l I (hS.2.2.2.2.2.2.2.2.2.2.2.2.2.2.2.2.2.2.2.2.2.2.2.2.2.2.2.2.2.2.2.2.2.2.2.2.2.2.2.2.2.2.1) X hRL hX hbl hbA h1 h2 h3 h4 h5 hI hH hl hcs kk)
    | 43, _ =>
      · exact lv_tableIn (tgt := 1305) (off := 1272) hx hb dL_law_33 (by rw [hv]; decide) (by rw [hv]; decide) (by rw [hv]; rfl) (by decide) (lc_digest l I (hS.2.2.2.2.2.2.2.2.2.2.2.2.2.2.2.2.2.2.2.2.2.2.2.2.2.2.2.2.2.2.2.2.2.2.2.2.2.2.2.2.2.2.2) X hRL hX hbl hbA h1 h2 h3 h4 h5 hI hH hl hcs kk)
    | k + 44, hk => exact absurd hk (by omega)
  · refine lv_tableOut (tgt := 1319) hx hb dL_law_33 (by omega) (by decide) ?_
    refine W.widen (k := cells + 42) (n := slots + 84) (by omega) (by omega) ?_
    exact kk _ _ _ hI hH
set_option maxHeartbeats 4000000 in
set_option maxRecDepth 100000 in
/-- THE LAW'S LOOP -/
theorem law_loop {p : Program} {e : Env} {s : State} {m : MethodId} {below : List Frame} {meth : Method} {c : Code} {G : CG} {b L : Nat} {xs : Nat → Int32} (l : Launch) (I : Mm → Nat → Nat → Prop) (hS : AllPS I) (X : Cx p s m #[Value.ref b] meth c cL_law 4 RL G) (hG : G.2.2 = s.heap.size) (hr : meth.sig.returnType = ret) (hL : L ≤ 3072) (hX : va_X b L xs s s.heap) (hbl : b < s.heap.size) : ∀ (n j : Nat), L < 6 * (j + n) → 6 * j ≤ L + 6 → ∀ (x3 : Int32), x3 = nI (6 * j) → ∀ (a1 a2 : Nat) (μ : Mm) (H : Heap) (locs : List Loc) (ls : Array Slot) (cells slots : Nat), I μ a1 a2 → HS G s μ H locs → lv_has ls 4 [(0, .ref b), (1, .ref a1), (2, .ref a2), (3, .int x3)] → cells + n * 42 ≤ 600000 → slots + n * 84 ≤ 7302250 → W p l e room_1 s m #[Value.ref b] below meth c H locs cells slots (lw_Z below #[Value.ref b] s) (F0 m 18 ls []) := by
  have hx := X.1
  have hb := X.2.1
  have hRL : RmL room_1 31 := ⟨by decide, by decide⟩
  have hbA : ¬ fA G b := fun h => by
    have h : G.2.2 ≤ b := h
    omega
  intro n
  induction n with
  | zero =>
    intro j hj1 hj2 x3 e3 a1 a2 μ H locs ls cells slots hI hH hl hc1 hc2
    refine lv_iload_n hx hb dL_law_18 rfl (lv_at hl 3 rfl) ?_
    refine lv_aload_n hx hb dL_law_19 rfl (lv_at hl 0 rfl) ?_
    refine va_slen hx hb hX hbl hbA hH.2 dL_law_20 ?_
    refine lv_bipush (v := 6) hx hb dL_law_21 (by decide) ?_
    refine lv_isub hx hb dL_law_23 ?_
    refine lv_icmp_gt (tgt := 1325) hx hb dL_law_24 (by decide) (fun _ => ?_) (fun hc => ?_)
    · refine lv_iconst (v := 1) hx hb dL_law_1325 (by decide) ?_
      refine va_forget (fun q hq => by have := hH.2.2.2 q hq; have h : G.2.2 ≤ q.base := this; omega) ?_
      refine W.widen (k := 600000) (n := 7302250) (by omega) (by omega) ?_
      exact lw_ret hx hb hr X.2.2.2.2.2.2.1 dL_law_1326
    · exfalso
      apply hc
      rw [e3, Int32.lt_iff_toInt_lt]
      show (nI L - nI 6).toInt < _
      rw [pk_sub_toInt (by omega) (by omega), nI_toInt (by omega)]
      omega
  | succ n ih =>
    intro j hj1 hj2 x3 e3 a1 a2 μ H locs ls cells slots hI hH hl hc1 hc2
    refine lv_iload_n hx hb dL_law_18 rfl (lv_at hl 3 rfl) ?_
    refine lv_aload_n hx hb dL_law_19 rfl (lv_at hl 0 rfl) ?_
    refine va_slen hx hb hX hbl hbA hH.2 dL_law_20 ?_
    refine lv_bipush (v := 6) hx hb dL_law_21 (by decide) ?_
    refine lv_isub hx hb dL_law_23 ?_
    refine lv_icmp_gt (tgt := 1325) hx hb dL_law_24 (by decide) (fun _ => ?_) (fun hc => ?_)
    · refine lv_iconst (v := 1) hx hb dL_law_1325 (by decide) ?_
      refine va_forget (fun q hq => by have := hH.2.2.2 q hq; have h : G.2.2 ≤ q.base := this; omega) ?_
      refine W.widen (k := 600000) (n := 7302250) (by omega) (by omega) ?_
      exact lw_ret hx hb hr X.2.2.2.2.2.2.1 dL_law_1326
    · have hle : 6 * j + 6 ≤ L := by
        rcases Nat.lt_or_ge L (6 * j + 6) with q | q
        · exfalso
          apply hc
          rw [e3, Int32.lt_iff_toInt_lt]
          show (nI L - nI 6).toInt < _
          rw [pk_sub_toInt (by omega) (by omega), nI_toInt (by omega)]
          omega
        · exact q
      have hc0 : vp_in x3 L := by rw [e3]; exact vp_in_nI (by omega) (by omega)
      have hcc : ∀ k : Nat, k < 6 → vp_in (x3 + nI k) L := fun k hk => by rw [e3, nI_add]; exact vp_in_nI (by omega) (by omega)
      refine lv_aload_n hx hb dL_law_27 rfl (lv_at hl 0 rfl) ?_
      refine lv_iload_n hx hb dL_law_28 rfl (lv_at hl 3 rfl) ?_
      refine va_sld hx hb hX hbl hbA hH.2 hc0 dL_law_29 ?_
      refine lv_bipush (v := 63) hx hb dL_law_30 (by decide) ?_
      refine lv_iand hx hb dL_law_32 ?_
      refine law_case l I hS X hRL hX hbl hbA (hcc 1 (by decide)) (hcc 2 (by decide)) (hcc 3 (by decide)) (hcc 4 (by decide)) (hcc 5 (by decide)) hI hH hl ⟨by show cells + 42 ≤ 600000; omega, by show slots + 84 ≤ 7302250; omega⟩ (fun μ2 H locs hI2 hH2 => ?_)
      refine lv_iinc (v := (x3 + 6)) (lv' := [(3, .int (x3 + 6)), (0, .ref b), (1, .ref a1), (2, .ref a2)]) hx hb dL_law_1319 hl (k := 3) rfl rfl (by decide) rfl (fun ls hl => ?_)
      refine lv_goto (tgt := 18) hx hb dL_law_1322 (by decide) ?_
      exact ih (j + 1) (by omega) (by omega) (x3 + 6) (by rw [e3]; show nI (6 * j) + nI 6 = _; rw [nI_add]; rfl) a1 a2 μ2 H locs ls (cells + 42) (slots + 84) hI2 hH2 (lv_sub hl [1, 2, 3, 0] rfl) (by omega) (by omega)
/-- the heap before the first object -/
def mt (bs : Nat) : Mm := (fun _ => 0, fun _ => 0, fun _ _ => 0, fun _ _ => 0, fun _ _ => none, bs)
def INIT (I : Mm → Nat → Nat → Prop) : Prop := ∀ bs : Nat, ∃ μ1 μ2 : Mm, f_X11_init (nw (mt bs) 12 0) bs = some μ1 ∧ f_X12_init (nw μ1 13 0) (hz μ1) = some μ2 ∧ I μ2 bs (hz μ1)
set_option maxHeartbeats 4000000 in
set_option maxRecDepth 100000 in
/-- what the tables and the statement give at the start -/
theorem law_known {s : State} {b : Nat} (hts : ∀ w ∈ lw_tbl, w.before #[Value.ref b] s = true) (hgv : (Jvm.Cond.and given_1 narrow_1).before #[Value.ref b] s = true) : ∃ G : CG, G.2.2 = s.heap.size ∧ KK G s := by
  have hs := flat_of_before _ hgv
  have htu := UW_in hts
  have h : ∀ k : Nat, ∃ (cc : ClassId) (ii : Nat → Nat), ∀ q : vw_C, vwCl[k]? = some q → u_Kn s q.1 q.2.1 q.2.2 cc ii := by
    intro k
    match k with
    | 0 => exact ⟨_, _, fun q hq => by cases hq; exact Classical.choose_spec (Classical.choose_spec (u_known (C := RX0) (T := TX0) (N := 2) (n := 2) htu inU_X0 (hts _ (List.mem_of_getElem? (i := 484) (by decide +kernel)))))⟩
    | 1 => exact ⟨_, _, fun q hq => by cases hq; exact Classical.choose_spec (Classical.choose_spec (u_known (C := RX1) (T := TX1) (N := 2) (n := 2) htu inU_X1 (hts _ (List.mem_of_getElem? (i := 475) (by decide +kernel)))))⟩
    | 2 => exact ⟨_, _, fun q hq => by cases hq; exact Classical.choose_spec (Classical.choose_spec (u_known (C := RX2) (T := TX2) (N := 2) (n := 2) htu inU_X2 (hts _ (List.mem_of_getElem? (i := 116) (by decide +kernel)))))⟩
    | 3 => exact ⟨_, _, fun q hq => by cases hq; exact Classical.choose_spec (Classical.choose_spec (u_known (C := RX3) (T := TX3) (N := 12) (n := 12) htu inU_X3 (hts _ (List.mem_of_getElem? (i := 86) (by decide +kernel)))))⟩
    | 4 => exact ⟨_, _, fun q hq => by cases hq; exact Classical.choose_spec (Classical.choose_spec (u_known (C := RX4) (T := TX4) (N := 2) (n := 2) htu inU_X4 (hts _ (List.mem_of_getElem? (i := 466) (by decide +kernel)))))⟩
    | 5 => exact ⟨_, _, fun q hq => by cases hq; exact Classical.choose_spec (Classical.choose_spec (u_known (C := RX5) (T := TX5) (N := 8) (n := 8) htu inU_X5 (hts _ (List.mem_of_getElem? (i := 201) (by decide +kernel)))))⟩
    | 6 => exact ⟨_, _, fun q hq => by cases hq; exact Classical.choose_spec (Classical.choose_spec (u_known (C := RX6) (T := TX6) (N := 2) (n := 2) htu inU_X6 (hts _ (List.mem_of_getElem? (i := 493) (by decide +kernel)))))⟩
    | 7 => exact ⟨_, _, fun q hq => by cases hq; exact Classical.choose_spec (Classical.choose_spec (u_known (C := RX7) (T := TX7) (N := 8) (n := 8) htu inU_X7 (hts _ (List.mem_of_getElem? (i := 238) (by decide +kernel)))))⟩
    | 8 => exact ⟨_, _, fun q hq => by cases hq; exact Classical.choose_spec (Classical.choose_spec (u_known (C := RX8) (T := TX8) (N := 2) (n := 2) htu inU_X8 (hts _ (List.mem_of_getElem? (i := 94) (by decide +kernel)))))⟩
    | 9 => exact ⟨_, _, fun q hq => by cases hq; exact Classical.choose_spec (Classical.choose_spec (u_known (C := RX9) (T := TX9) (N := 2) (n := 2) htu inU_X9 (hts _ (List.mem_of_getElem? (i := 502) (by decide +kernel)))))⟩
    | 10 => exact ⟨_, _, fun q hq => by cases hq; exact Classical.choose_spec (Classical.choose_spec (u_known (C := RX10) (T := TX10) (N := 3) (n := 3) htu inU_X10 (hts _ (List.mem_of_getElem? (i := 271) (by decide +kernel)))))⟩
    | 11 => exact ⟨_, _, fun q hq => by cases hq; exact Classical.choose_spec (Classical.choose_spec (u_known (C := RX11) (T := TX11) (N := 14) (n := 14) htu inU_X11 (hts _ (List.mem_of_getElem? (i := 76) (by decide +kernel)))))⟩
    | 12 => exact ⟨_, _, fun q hq => by cases hq; exact Classical.choose_spec (Classical.choose_spec (u_known (C := RX12) (T := TX12) (N := 50) (n := 50) htu inU_X12 (hts _ (List.mem_of_getElem? (i := 950) (by decide +kernel)))))⟩
    | k + 13 => exact ⟨0, fun _ => 0, fun q hq => by simp [vwCl] at hq⟩
  have a20 : ∃ cA : ClassId, ArrOfT s cA .byte ∧ va_RA s cA .byte := by
    obtain ⟨ca, ka, comp, g1, g2, g3⟩ := Cond.arrayClass_spec (hts (Cond.arrayClass .byte) (List.mem_of_getElem? (i := 1106) (by decide +kernel)))
    exact ⟨ca, fun n z => ⟨fun k h => (by cases h), ka, g2, comp, g3⟩, g1⟩
  have a21 : ∃ cA : ClassId, ArrOfT s cA .int ∧ va_RA s cA .int := by
    obtain ⟨ca, ka, comp, g1, g2, g3⟩ := Cond.arrayClass_spec (hts (Cond.arrayClass .int) (List.mem_of_getElem? (i := 115) (by decide +kernel)))
    exact ⟨ca, fun n z => ⟨fun k h => (by cases h), ka, g2, comp, g3⟩, g1⟩
  have a22 : ∃ cA : ClassId, ArrOfT s cA .long ∧ va_RA s cA .long := by
    obtain ⟨ca, ka, comp, g1, g2, g3⟩ := Cond.arrayClass_spec (hts (Cond.arrayClass .long) (List.mem_of_getElem? (i := 286) (by decide +kernel)))
    exact ⟨ca, fun n z => ⟨fun k h => (by cases h), ka, g2, comp, g3⟩, g1⟩
  have a23 : ∃ cA : ClassId, ArrOfT s cA .boolean ∧ va_RA s cA .boolean := by
    obtain ⟨ca, ka, comp, g1, g2, g3⟩ := Cond.arrayClass_spec (hts (Cond.arrayClass .boolean) (List.mem_of_getElem? (i := 268) (by decide +kernel)))
    exact ⟨ca, fun n z => ⟨fun k h => (by cases h), ka, g2, comp, g3⟩, g1⟩
  have o24 : va_AO "ClockFeet$Guild" s := va_AO.of (hts (Cond.arrayOver (.object "ClockFeet$Guild")) (List.mem_of_getElem? (i := 92) (by decide +kernel)))
  have a24 : ∃ cA : ClassId, ArrOfT s cA (.object "ClockFeet$Guild") ∧ va_RA s cA (.object "ClockFeet$Guild") := by
    obtain ⟨comp, ca, ka, g1, -, g3, g4, g5⟩ := Cond.arrayOver_spec o24
    exact ⟨ca, fun n z => ⟨fun k h => (by cases h), ka, g3, comp, g4⟩, ka, comp, g3, g4, g1, g5⟩
  have o25 : va_AO "ClockFeet$Strip" s := va_AO.of (hts (Cond.arrayOver (.object "ClockFeet$Strip")) (List.mem_of_getElem? (i := 84) (by decide +kernel)))
  have a25 : ∃ cA : ClassId, ArrOfT s cA (.object "ClockFeet$Strip") ∧ va_RA s cA (.object "ClockFeet$Strip") := by
    obtain ⟨comp, ca, ka, g1, -, g3, g4, g5⟩ := Cond.arrayOver_spec o25
    exact ⟨ca, fun n z => ⟨fun k h => (by cases h), ka, g3, comp, g4⟩, ka, comp, g3, g4, g1, g5⟩
  have o26 : AOA .int s := hts (Cond.arrayOver (.array .int)) (List.mem_of_getElem? (i := 199) (by decide +kernel))
  have a26 : ∃ cA : ClassId, ArrOfT s cA (.array .int) ∧ va_RA s cA (.array .int) := by
    obtain ⟨comp, ca, ka, g1, -, g3, g4, g5⟩ := aoa_spec o26
    exact ⟨ca, fun n z => ⟨fun k h => (by cases h), ka, g3, comp, g4⟩, g5⟩
  refine ⟨((fun k => Classical.choose (h k), fun k => Classical.choose (Classical.choose_spec (h k))), (fun t => if t = 20 then Classical.choose a20 else if t = 21 then Classical.choose a21 else if t = 22 then Classical.choose a22 else if t = 23 then Classical.choose a23 else if t = 24 then Classical.choose a24 else if t = 25 then Classical.choose a25 else Classical.choose a26), s.heap.size), rfl, ⟨fun k q hq => Classical.choose_spec (Classical.choose_spec (h k)) q hq, fun k q hq => ?_⟩, fun q hq => ?_, fun q hq => ?_, fun q hq => ?_, o24, o25, o26⟩
  · match k, hq with
    | 0, hq => cases hq; exact Classical.choose_spec a20
    | 1, hq => cases hq; exact Classical.choose_spec a21
    | 2, hq => cases hq; exact Classical.choose_spec a22
    | 3, hq => cases hq; exact Classical.choose_spec a23
    | 4, hq => cases hq; exact Classical.choose_spec a24
    | 5, hq => cases hq; exact Classical.choose_spec a25
    | 6, hq => cases hq; exact Classical.choose_spec a26
    | k + 7, hq => simp [tysG] at hq
  · simp only [nwl, List.mem_cons, List.not_mem_nil, or_false] at hq
    rcases hq with rfl | rfl | rfl | rfl | rfl
    · exact va_Nw.of rfl (hts _ (List.mem_of_getElem? (i := 202) (by decide +kernel)))
    · exact va_Nw.of rfl (hts _ (List.mem_of_getElem? (i := 239) (by decide +kernel)))
    · exact va_Nw.of rfl (hts _ (List.mem_of_getElem? (i := 272) (by decide +kernel)))
    · exact va_Nw.of rfl (hts _ (List.mem_of_getElem? (i := 570) (by decide +kernel)))
    · exact va_Nw.of rfl (hts _ (List.mem_of_getElem? (i := 828) (by decide +kernel)))
  · simp only [ncs, List.mem_cons, List.not_mem_nil, or_false] at hq
    rcases hq with rfl | rfl | rfl | rfl | rfl | rfl | rfl | rfl | rfl | rfl | rfl | rfl | rfl | rfl | rfl | rfl | rfl | rfl | rfl | rfl | rfl | rfl | rfl
    · exact va_Nc.of (hs (Cond.not (.castable "ClockFeet$Cats" "ClockFeet$Heavy")) (by decide +kernel))
    · exact va_Nc.of (hs (Cond.not (.castable "ClockFeet$Cats" "ClockFeet$Children")) (by decide +kernel))
    · exact va_Nc.of (hs (Cond.not (.castable "ClockFeet$Cats" "ClockFeet$Regiment")) (by decide +kernel))
    · exact va_Nc.of (hs (Cond.not (.castable "ClockFeet$Cats" "ClockFeet$Tiptoe")) (by decide +kernel))
    · exact va_Nc.of (hs (Cond.not (.castable "ClockFeet$Children" "ClockFeet$Heavy")) (by decide +kernel))
    · exact va_Nc.of (hs (Cond.not (.castable "ClockFeet$Children" "ClockFeet$Cats")) (by decide +kernel))
    · exact va_Nc.of (hs (Cond.not (.castable "ClockFeet$Children" "ClockFeet$Regiment")) (by decide +kernel))
    · exact va_Nc.of (hs (Cond.not (.castable "ClockFeet$Children" "ClockFeet$Tiptoe")) (by decide +kernel))
    · exact va_Nc.of (hs (Cond.not (.castable "ClockFeet$Guild" "ClockFeet$Heavy")) (by decide +kernel))
    · exact va_Nc.of (hs (Cond.not (.castable "ClockFeet$Guild" "ClockFeet$Children")) (by decide +kernel))
    · exact va_Nc.of (hs (Cond.not (.castable "ClockFeet$Guild" "ClockFeet$Cats")) (by decide +kernel))
    · exact va_Nc.of (hs (Cond.not (.castable "ClockFeet$Guild" "ClockFeet$Regiment")) (by decide +kernel))
    · exact va_Nc.of (hs (Cond.not (.castable "ClockFeet$Guild" "ClockFeet$Tiptoe")) (by decide +kernel))
    · exact va_Nc.of (hs (Cond.not (.castable "ClockFeet$Heavy" "ClockFeet$Children")) (by decide +kernel))
    · exact va_Nc.of (hs (Cond.not (.castable "ClockFeet$Heavy" "ClockFeet$Cats")) (by decide +kernel))
    · exact va_Nc.of (hs (Cond.not (.castable "ClockFeet$Heavy" "ClockFeet$Regiment")) (by decide +kernel))
    · exact va_Nc.of (hs (Cond.not (.castable "ClockFeet$Heavy" "ClockFeet$Tiptoe")) (by decide +kernel))
    · exact va_Nc.of (hs (Cond.not (.castable "ClockFeet$Regiment" "ClockFeet$Children")) (by decide +kernel))
    · exact va_Nc.of (hs (Cond.not (.castable "ClockFeet$Regiment" "ClockFeet$Cats")) (by decide +kernel))
    · exact va_Nc.of (hs (Cond.not (.castable "ClockFeet$Regiment" "ClockFeet$Tiptoe")) (by decide +kernel))
    · exact va_Nc.of (hs (Cond.not (.castable "ClockFeet$Tiptoe" "ClockFeet$Heavy")) (by decide +kernel))
    · exact va_Nc.of (hs (Cond.not (.castable "ClockFeet$Tiptoe" "ClockFeet$Cats")) (by decide +kernel))
    · exact va_Nc.of (hs (Cond.not (.castable "ClockFeet$Tiptoe" "ClockFeet$Regiment")) (by decide +kernel))
  · simp only [ycs, List.mem_cons, List.not_mem_nil, or_false] at hq
    rcases hq with rfl | rfl | rfl | rfl | rfl | rfl | rfl
    · exact va_Nw.of rfl (hts (Cond.castable "ClockFeet$Regiment" "ClockFeet$Heavy") (List.mem_of_getElem? (i := 1459) (by decide +kernel)))
    · exact va_Nw.of rfl (hts (Cond.castable "ClockFeet$Tiptoe" "ClockFeet$Children") (List.mem_of_getElem? (i := 1460) (by decide +kernel)))
    · exact va_Nw.of rfl (hts (Cond.castable "ClockFeet$Cats" "ClockFeet$Guild") (List.mem_of_getElem? (i := 1463) (by decide +kernel)))
    · exact va_Nw.of rfl (hts (Cond.castable "ClockFeet$Children" "ClockFeet$Guild") (List.mem_of_getElem? (i := 1462) (by decide +kernel)))
    · exact va_Nw.of rfl (hts (Cond.castable "ClockFeet$Heavy" "ClockFeet$Guild") (List.mem_of_getElem? (i := 1461) (by decide +kernel)))
    · exact va_Nw.of rfl (hts (Cond.castable "ClockFeet$Regiment" "ClockFeet$Guild") (List.mem_of_getElem? (i := 1464) (by decide +kernel)))
    · exact va_Nw.of rfl (hts (Cond.castable "ClockFeet$Tiptoe" "ClockFeet$Guild") (List.mem_of_getElem? (i := 1465) (by decide +kernel)))
theorem Rl_mt {G : CG} {H : Heap} (hG : G.2.2 = H.size) : Rl G (mt H.size) H := ⟨fun a h => absurd rfl h, rfl, Nat.le_of_eq hG⟩
set_option maxHeartbeats 4000000 in
set_option maxRecDepth 100000 in
theorem whole_start_of (I : Mm → Nat → Nat → Prop) (hS : AllPS I) (h0 : INIT I) {p : Program} {e : Env} {s : State} {m : MethodId} {below : List Frame} {meth : Method} {c : Code} (l : Launch) {b L : Nat} {xs : Nat → Int32} (hL : L ≤ 3072) (C0 : lw_At p s m meth c b L xs) : W p l e room_1 s m #[Value.ref b] below meth c s.heap [] 0 0 (lw_Z below #[Value.ref b] s) (entryFrame m ([Value.ref b] : List Value).toArray 4) := by
  obtain ⟨hx, hb, hr, hml, hown, hts, hX, hbl, hlocks, hgv⟩ := C0
  obtain ⟨G, hG, hK⟩ := law_known hts hgv
  have X : Cx p s m #[Value.ref b] meth c cL_law 4 RL G := ⟨hx, hb, hml, hown, UW_in hts, hK, hlocks, Nat.le_of_eq hG⟩
  obtain ⟨μ1, μ2, e1, e2, hI⟩ := h0 s.heap.size
  have hH : HS G s (mt s.heap.size) s.heap [] := ⟨Rl_mt hG, va_S.rf⟩
  have hRL : RmL room_1 31 := ⟨by decide, by decide⟩
  refine ls_in (Nat.le_of_ble_eq_true rfl) (fun ls hl => ?_)
  have hl : lv_has ls 4 [(0, .ref b)] := hl
  refine w_new X hH vc_11 inU_X11 tyX11 tyX11_ok u_75 u_76 u_60 (df_11 _) (Nat.le_of_ble_eq_true rfl) (Nat.le_of_ble_eq_true rfl) dL_law_0 (fun H hH => ?_)
  refine lv_dup hx hb dL_law_3 rfl ?_
  refine iv_L_9 l X hH hRL (by decide) e1 hl.1 (Nat.le_of_ble_eq_true rfl) dL_law_4 ⟨Nat.le_of_ble_eq_true rfl, Nat.le_of_ble_eq_true rfl⟩ (fun H locs hH => ?_)
  refine lv_astore_n (lv' := [(1, .ref s.heap.size), (0, .ref b)]) hx hb dL_law_7 rfl hl (by decide) rfl (fun ls hl => ?_)
  refine w_new X hH vc_12 inU_X12 tyX12 tyX12_ok u_949 u_950 u_68 (df_12 _) (Nat.le_of_ble_eq_true rfl) (Nat.le_of_ble_eq_true rfl) dL_law_8 (fun H hH => ?_)
  refine lv_dup hx hb dL_law_11 rfl ?_
  refine iv_L_12 l X hH hRL (by decide) e2 hl.1 (Nat.le_of_ble_eq_true rfl) dL_law_12 ⟨Nat.le_of_ble_eq_true rfl, Nat.le_of_ble_eq_true rfl⟩ (fun H locs hH => ?_)
  refine lv_astore_n (lv' := [(2, .ref (hz μ1)), (1, .ref s.heap.size), (0, .ref b)]) hx hb dL_law_15 rfl hl (by decide) rfl (fun ls hl => ?_)
  refine lv_iconst (v := 0) hx hb dL_law_16 (by decide) ?_
  refine lv_istore_n (lv' := [(3, .int 0), (2, .ref (hz μ1)), (1, .ref s.heap.size), (0, .ref b)]) hx hb dL_law_17 rfl hl (by decide) rfl (fun ls hl => ?_)
  exact law_loop l I hS X hG hr hL hX hbl 513 0 (by omega) (by omega) 0 rfl s.heap.size (hz μ1) μ2 H locs ls _ _ hI hH (lv_sub hl [3, 2, 1, 0] rfl) (Nat.le_of_ble_eq_true rfl) (Nat.le_of_ble_eq_true rfl)
