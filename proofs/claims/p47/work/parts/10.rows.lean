/-! ===== THE ROWS over the heap as typed maps ===== -/
def UW : List Cond := lw_tbl.filter goodWord
theorem inU_of {ws : List Cond} (ps : List Nat) (hp : ws = ps.filterMap (fun i => lw_tbl[i]?)) (h : ws.all goodWord = true) : ∀ w ∈ ws, w ∈ UW := by
  intro w hw
  have h1 := List.all_eq_true.mp h w hw
  rw [hp] at hw
  obtain ⟨i, -, hi⟩ := List.mem_filterMap.mp hw
  exact List.mem_filter.mpr ⟨List.mem_of_getElem? hi, h1⟩
theorem uw_mem {w : Cond} (i : Nat) (h : lw_tbl[i]? = some w) (hg : goodWord w = true) : w ∈ UW := List.mem_filter.mpr ⟨List.mem_of_getElem? h, hg⟩
theorem UW_good : ∀ w ∈ UW, (w.onTables && w.keeps) = true ∨ ∃ ty, w = .arrayClass ty := fun w h => good_of_word (List.mem_filter.mp h).2
theorem UW_in {args : Array Value} {s : State} (h : ∀ w ∈ lw_tbl, w.before args s = true) : ∀ w ∈ UW, w.before args s = true := fun w hw => h w (List.mem_filter.mp hw).1
theorem inU_X0 : ∀ w ∈ u_ws RX0 TX0 2, w ∈ UW := inU_of [575, 576] (by decide +kernel) (by decide +kernel)
theorem inU_X1 : ∀ w ∈ u_ws RX1 TX1 2, w ∈ UW := inU_of [566, 567] (by decide +kernel) (by decide +kernel)
theorem inU_X2 : ∀ w ∈ u_ws RX2 TX2 2, w ∈ UW := inU_of [91, 93] (by decide +kernel) (by decide +kernel)
theorem inU_X3 : ∀ w ∈ u_ws RX3 TX3 12, w ∈ UW := inU_of [130, 132, 134, 136, 138, 140, 142, 144, 146, 148, 150, 152] (by decide +kernel) (by decide +kernel)
theorem inU_X4 : ∀ w ∈ u_ws RX4 TX4 2, w ∈ UW := inU_of [557, 558] (by decide +kernel) (by decide +kernel)
theorem inU_X5 : ∀ w ∈ u_ws RX5 TX5 8, w ∈ UW := inU_of [177, 179, 181, 183, 185, 187, 189, 191] (by decide +kernel) (by decide +kernel)
theorem inU_X6 : ∀ w ∈ u_ws RX6 TX6 2, w ∈ UW := inU_of [584, 585] (by decide +kernel) (by decide +kernel)
theorem inU_X7 : ∀ w ∈ u_ws RX7 TX7 8, w ∈ UW := inU_of [208, 210, 212, 214, 216, 218, 220, 222] (by decide +kernel) (by decide +kernel)
theorem inU_X8 : ∀ w ∈ u_ws RX8 TX8 2, w ∈ UW := inU_of [69, 71] (by decide +kernel) (by decide +kernel)
theorem inU_X9 : ∀ w ∈ u_ws RX9 TX9 2, w ∈ UW := inU_of [592, 593] (by decide +kernel) (by decide +kernel)
theorem inU_X10 : ∀ w ∈ u_ws RX10 TX10 3, w ∈ UW := inU_of [236, 238, 240] (by decide +kernel) (by decide +kernel)
theorem inU_X11 : ∀ w ∈ u_ws RX11 TX11 14, w ∈ UW := inU_of [258, 260, 262, 264, 266, 268, 270, 272, 274, 276, 278, 280, 282, 284] (by decide +kernel) (by decide +kernel)
def ncs : List (String × String) := [("ClockFeet$Cats", "ClockFeet$Heavy"), ("ClockFeet$Children", "ClockFeet$Heavy"), ("ClockFeet$Guild", "ClockFeet$Heavy"), ("ClockFeet$Tiptoe", "ClockFeet$Heavy")]
def ycs : List (String × String) := [("ClockFeet$Regiment", "ClockFeet$Heavy"), ("ClockFeet$Cats", "ClockFeet$Guild"), ("ClockFeet$Children", "ClockFeet$Guild"), ("ClockFeet$Heavy", "ClockFeet$Guild"), ("ClockFeet$Regiment", "ClockFeet$Guild"), ("ClockFeet$Tiptoe", "ClockFeet$Guild")]
theorem aoa_spec {args : Array Value} {s : State} {t : FieldType} (h : (Cond.arrayOver (.array t)).before args s = true) :
    ∃ comp c k, s.vm.findClass (FieldType.array t).toString = some comp ∧ (s.vm.classes.findIdx? fun x => match x.kind with | .array component _ => component == comp | _ => false) = some c ∧ s.vm.classes[c]? = some k ∧ k.kind = .array comp (.array t) ∧ s.vm.findClass ("[" ++ (FieldType.array t).toString) = some c := by
  unfold Cond.before at h
  simp only [Cond.holds, Cond.value, beq_iff_eq] at h
  cases hc : s.vm.findClass (FieldType.array t).toString with
  | none => simp [hc] at h
  | some comp =>
    simp only [hc, Option.bind_some, Option.bind_eq_some_iff, Option.map_eq_some_iff] at h
    obtain ⟨c, hi, k, hk, hb⟩ := h
    obtain ⟨hlt, hp, -⟩ := Array.findIdx?_eq_some_iff_getElem.mp hi
    have hkk : s.vm.classes[c] = k := (Array.getElem?_eq_some_iff.mp hk).2
    rw [hkk] at hp
    cases hkind : k.kind with
    | array component ty =>
      rw [hkind] at hb hp
      simp at hb hp
      exact ⟨comp, c, k, rfl, hi, hk, by rw [hkind, hp, hb.1], hb.2⟩
    | _ => rw [hkind] at hb; simp at hb
def AOA (t : FieldType) (U : State) : Prop := (Cond.arrayOver (.array t)).before #[] U = true
theorem AOA.use {t : FieldType} {A : Array Value} {U : State} (h : AOA t U) : (Cond.arrayOver (.array t)).before A U = true := h
theorem AOA.moved {t : FieldType} {u U : State} (hvm : u.vm.Alike U.vm) (h : AOA t u) : AOA t U := by
  obtain ⟨comp, c, k, h1, h2, h3, h4, h5⟩ := aoa_spec h
  obtain ⟨k', hk', he⟩ := hvm.2.2 _ _ h3
  have hi : (U.vm.classes.findIdx? fun (x : Class) => match x.kind with | .array component _ => component == comp | _ => false) = some c := by
    refine (va_idx_bare U.vm comp).symm.trans ?_
    first | rw [hvm.bare_eq] | rw [← hvm.bare_eq]
    exact (va_idx_bare u.vm comp).trans h2
  have hkind : k'.kind = .array comp (.array t) := by rw [he]; exact h4
  have f1 : U.vm.findClass (FieldType.array t).toString = some comp := by rw [hvm.findClass]; exact h1
  have f2 : U.vm.findClass ("[" ++ (FieldType.array t).toString) = some c := by rw [hvm.findClass]; exact h5
  unfold AOA Cond.before Cond.holds
  simp only [Cond.value]
  rw [f1, Option.bind_some]
  refine (congrArg (fun o : Option Nat => (o.bind (fun c => (U.vm.classes[c]?).map fun (k : Class) => match k.kind with | .array _ ty => decide (ty = FieldType.array t) && decide (U.vm.findClass ("[" ++ (FieldType.array t).toString) = some c) | _ => false) == some true)) hi).trans ?_
  simp [hk', hkind, f2]
/-- the links between nest mates -/
def nwl : List (String × Nat × MethodName) := [(RX11, 35, yX5_init), (RX11, 42, yX7_init), (RX11, 56, yX10_init), (RX3, 109, yX11_remainder), (RX3, 149, yX11_greatestDivisor)]
def KK (G : CG) (U : State) : Prop := va_K G.1 vwCl (tysG G) U ∧ (∀ q ∈ nwl, va_Nw (.methodLinkNest q.1 q.2.1 q.2.2 RX11) U) ∧ (∀ q ∈ ncs, va_Nc q.1 q.2 U) ∧ (∀ q ∈ ycs, va_Nw (.castable q.1 q.2) U) ∧ va_AO "ClockFeet$Guild" U ∧ va_AO "ClockFeet$Strip" U ∧ AOA .int U ∧ ScK G U
theorem KK.warm {G : CG} {s U : State} (hW : s.WarmedH U.vm) (h : KK G s) : KK G U := by
  obtain ⟨h1, h2, h5, h6, h7, h8, h9, h10, h11⟩ := h
  exact ⟨va_K.moved hW.alike h1, fun q hq => va_Nw.warmM hW (h2 q hq), fun q hq => va_Nc.moved hW.alike (h5 q hq), fun q hq => va_Nw.warmC hW (h6 q hq), va_AO.moved hW.alike h7, va_AO.moved hW.alike h8, AOA.moved hW.alike h9, State.isArrayOf_alike hW.alike h10, h11⟩
theorem KK.same {G : CG} {U U' : State} (hvm : U.vm = U'.vm) (h : KK G U) : KK G U' := by
  obtain ⟨h1, h2, h5, h6, h7, h8, h9, h10, h11⟩ := h
  have ha : U.vm.Alike U'.vm := by rw [hvm]; exact Vm.Alike.refl _
  exact ⟨va_K.moved ha h1, fun q hq => va_Nw.same rfl hvm (h2 q hq), fun q hq => va_Nc.moved ha (h5 q hq), fun q hq => va_Nw.same rfl hvm (h6 q hq), va_AO.moved ha h7, va_AO.moved ha h8, AOA.moved ha h9, State.isArrayOf_alike ha h10, h11⟩
def Cx (p : Program) (s : State) (m : MethodId) (args : Array Value) (meth : Method) (c : Code) (cc : ByteArray) (nL : Nat) (own : String) (G : CG) : Prop := p.tables.exec = Jvm.exec ∧ c.code = cc ∧ c.maxLocals = nL ∧ s.vm.findClass own = some m.cls ∧ (∀ w ∈ UW, w.before args s = true) ∧ KK G s ∧ meth.locks = false ∧ G.2.2.1 ≤ s.heap.size
-- what a contract says
def PC (G : CG) (as : List Value) (μ : Mm) : Array Value → State → Prop := va_Pc as (fun U => Rl G μ U.heap ∧ KK G U)
def QI (G : CG) (r : Int32) (μ : Mm) : Array Value → State → Outcome → State → Prop := va_Qi (S := Unit) (fun x _ => x = r) (fun _ t => Rl G μ t.heap) (fA G)
def QL (G : CG) (r : Int64) (μ : Mm) : Array Value → State → Outcome → State → Prop := va_Ql (S := Unit) (fun x _ => x = r) (fun _ t => Rl G μ t.heap) (fA G)
def QV (G : CG) (μ : Mm) : Array Value → State → Outcome → State → Prop := va_Qv (S := Unit) (fun _ => True) (fun _ t => Rl G μ t.heap) (fA G)
def QR (G : CG) (r : Nat) (μ : Mm) : Array Value → State → Outcome → State → Prop := va_Qr (S := Unit) (fun _ => True) (fun _ a t => a = r ∧ Rl G μ t.heap) (fA G)
theorem PC.blind {G : CG} {as : List Value} {μ : Mm} : FrameBlind (PC G as μ) := fun a U g mk q => by
  obtain ⟨q0, q1, q2⟩ := q
  exact ⟨q0, q1, KK.same (U := U) (U' := U.calling g mk a) rfl q2⟩
theorem Rl_upd {G : CG} {μ μ' : Mm} {a : Nat} {H H1 : Heap} (ha : fA G a) (hR : Rl G μ H) (z : H1.size = H.size) (oq : ∀ q : Nat, q ≠ a → H1[q]? = H[q]?) (he : va_at G.1 vwCl (a, cel G μ' a) H1) (hcb : ∀ b, b ≠ a → cel G μ' b = cel G μ b) (htg : ∀ b, tg μ' b = tg μ b) (hzz : hz μ' = hz μ) : Rl G μ' H1 := by
  obtain ⟨h1, h2, h3, h4⟩ := hR
  refine ⟨fun b hb => ?_, by rw [z, h2, hzz], by rw [hzz]; exact h3, h4.kept fun q q1 _ => oq q fun q2 => q1 (by rw [q2]; exact ha)⟩
  rw [htg] at hb
  obtain ⟨g1, g2⟩ := h1 b hb
  refine ⟨?_, g2⟩
  by_cases hba : b = a
  · subst hba; exact he
  · rw [hcb b hba]
    exact g1.kept (oq b hba)
theorem Rl_new {G : CG} {μ : Mm} {t n : Nat} {H H1 : Heap} (hR : Rl G μ H) (z : H1.size = H.size + 1) (oq : ∀ q : Nat, q < H.size → H1[q]? = H[q]?) (he : va_at G.1 vwCl (hz μ, cel G (nw μ t n) (hz μ)) H1) : Rl G (nw μ t n) H1 := by
  obtain ⟨h1, h2, h3, h4⟩ := hR
  refine ⟨fun b hb => ?_, by rw [z, h2, hz_nw], by rw [hz_nw]; omega, h4.kept fun q _ q2 => oq q q2⟩
  by_cases hba : b = hz μ
  · subst hba; exact ⟨he, h3⟩
  · rw [tg_nw, if_neg hba] at hb
    obtain ⟨g1, g2⟩ := h1 b hb
    refine ⟨?_, g2⟩
    have hlt : b < H.size := g1.lt
    have hc : cel G (nw μ t n) b = cel G μ b := cel_ne (fun j => by rw [mI_nw, if_neg hba]) (fun j => by rw [mL_nw, if_neg hba]) (fun j => by rw [mP_nw, if_neg hba]) (by rw [tg_nw, if_neg hba]) (by rw [ln_nw, if_neg hba])
    rw [hc]
    exact g1.kept (oq b hlt)
section RW
variable {p : Program} {l : Launch} {e : Env} {R : Room} {s : State} {m : MethodId} {args : Array Value} {below : List Frame} {meth : Method} {c : Code} {H : Heap} {locs : List Loc} {cells slots : Nat} {Q : State → Prop}
variable {cc : ByteArray} {pc : Nat} {ls : Array Slot} {rest : List Value} {own : String} {nL : Nat} {G : CG} {μ μ' : Mm} {a : Nat}
theorem HS.one (hH : HS G s μ H locs) {e : va_E} (ht : tg μ a ≠ 0) (he : cel G μ a = e) : va_P G.1 vwCl [(a, e)] H := by
  intro k q hk
  have hl : k < 1 := (List.getElem?_eq_some_iff.mp hk).1
  rw [show k = 0 by omega] at hk
  cases hk
  rw [← he]
  exact (hH.1.1 a ht).1
theorem cl_lt {ci : Nat} {q : vw_C} (h : vwCl[ci]? = some q) : ci < 19 := Nat.lt_of_lt_of_le (List.getElem?_eq_some_iff.mp h).1 (by decide)
theorem w_recv (X : Cx p s m args meth c cc nL own G) (hH : HS G s μ H locs) {ci N : Nat} {C : String} {T : u_T} (hc : vwCl[ci]? = some (C, T, N)) (ht : tg μ a = ci + 1) : ∃ cell : Cell, H[a]? = some cell ∧ cell.vm.isStatics = false ∧ s.vm.findClass C = some cell.cls :=
  va_recv X.2.2.2.2.2.1.1 (hH.one (by rw [ht]; exact Nat.succ_ne_zero _) (cel_o ht (cl_lt hc))) hc (q0 := 0) rfl
-- reads of fields
theorem w_gI (X : Cx p s m args meth c cc nL own G) (hH : HS G s μ H locs) {t k ci index N : Nat} {C ref : String} {T : u_T} {v : Int32} (hg : gI μ a t k = some v) (ht : t = ci + 1) (hc : vwCl[ci]? = some (C, T, N)) (hin : ∀ w ∈ u_ws C T N, w ∈ UW) (hk : k < N) (hkd : (fk ci)[k]? = some 0) (hlw : Cond.fieldLink own index ref (T k).2.1 (T k).2.2.1 ∈ UW) (hsame : ∀ x, s.fieldFound? (T k).1 (T k).2.1 (T k).2.2.1 = some x → s.fieldFound? ref (T k).2.1 (T k).2.2.1 = some x) (hdg : decode cc pc = .ok (.getfield index, 3))
    (kk : W p l e R s m args below meth c H locs cells slots Q (F0 m (pc + 3) ls (.int v :: rest))) : W p l e R s m args below meth c H locs cells slots Q (F0 m pc ls (.ref a :: rest)) := by
  obtain ⟨ht1, rfl⟩ := gsm hg
  have hP := hH.one (a := a) (by rw [ht1, ht]; exact Nat.succ_ne_zero _) (cel_o (ht1.trans ht) (cl_lt hc))
  exact va_get X.1 X.2.1 X.2.2.2.2.1 hin X.2.2.2.1 X.2.2.2.2.2.1.1 hP 0 rfl hc k hk (X.2.2.2.2.1 _ hlw) hsame (fls_get μ a hkd) hdg kk
theorem w_gL (X : Cx p s m args meth c cc nL own G) (hH : HS G s μ H locs) {t k ci index N : Nat} {C ref : String} {T : u_T} {v : Int64} (hg : gL μ a t k = some v) (ht : t = ci + 1) (hc : vwCl[ci]? = some (C, T, N)) (hin : ∀ w ∈ u_ws C T N, w ∈ UW) (hk : k < N) (hkd : (fk ci)[k]? = some 1) (hlw : Cond.fieldLink own index ref (T k).2.1 (T k).2.2.1 ∈ UW) (hsame : ∀ x, s.fieldFound? (T k).1 (T k).2.1 (T k).2.2.1 = some x → s.fieldFound? ref (T k).2.1 (T k).2.2.1 = some x) (hdg : decode cc pc = .ok (.getfield index, 3))
    (kk : W p l e R s m args below meth c H locs cells slots Q (F0 m (pc + 3) ls (.long v :: rest))) : W p l e R s m args below meth c H locs cells slots Q (F0 m pc ls (.ref a :: rest)) := by
  obtain ⟨ht1, rfl⟩ := gsm hg
  have hP := hH.one (a := a) (by rw [ht1, ht]; exact Nat.succ_ne_zero _) (cel_o (ht1.trans ht) (cl_lt hc))
  exact va_get X.1 X.2.1 X.2.2.2.2.1 hin X.2.2.2.1 X.2.2.2.2.2.1.1 hP 0 rfl hc k hk (X.2.2.2.2.1 _ hlw) hsame (fls_get μ a hkd) hdg kk
theorem w_gP (X : Cx p s m args meth c cc nL own G) (hH : HS G s μ H locs) {t k ci index N : Nat} {C ref : String} {T : u_T} {v : Nat} (hg : gP μ a t k = some v) (ht : t = ci + 1) (hc : vwCl[ci]? = some (C, T, N)) (hin : ∀ w ∈ u_ws C T N, w ∈ UW) (hk : k < N) (hkd : (fk ci)[k]? = some 2) (hlw : Cond.fieldLink own index ref (T k).2.1 (T k).2.2.1 ∈ UW) (hsame : ∀ x, s.fieldFound? (T k).1 (T k).2.1 (T k).2.2.1 = some x → s.fieldFound? ref (T k).2.1 (T k).2.2.1 = some x) (hdg : decode cc pc = .ok (.getfield index, 3))
    (kk : W p l e R s m args below meth c H locs cells slots Q (F0 m (pc + 3) ls (.ref v :: rest))) : W p l e R s m args below meth c H locs cells slots Q (F0 m pc ls (.ref a :: rest)) := by
  obtain ⟨ht1, hv⟩ := gsn hg
  have hP := hH.one (a := a) (by rw [ht1, ht]; exact Nat.succ_ne_zero _) (cel_o (ht1.trans ht) (cl_lt hc))
  exact va_get X.1 X.2.1 X.2.2.2.2.1 hin X.2.2.2.1 X.2.2.2.2.2.1.1 hP 0 rfl hc k hk (X.2.2.2.2.1 _ hlw) hsame ((fls_get μ a hkd).trans (by show some (va_rf (mP μ a k)) = _; rw [hv]; rfl)) hdg kk
-- writes of fields: the common part
theorem w_put (X : Cx p s m args meth c cc nL own G) (hH : HS G s μ H locs) {k ci index N d : Nat} {C ref : String} {T : u_T} {v : Value} {ty : FieldType} (ht : tg μ a = ci + 1) (hc : vwCl[ci]? = some (C, T, N)) (hin : ∀ w ∈ u_ws C T N, w ∈ UW) (hk : k < N) (hkd : (fk ci)[k]? = some d) (hlw : Cond.fieldLink own index ref (T k).2.1 (T k).2.2.1 ∈ UW) (hsame : ∀ x, s.fieldFound? (T k).1 (T k).2.1 (T k).2.2.1 = some x → s.fieldFound? ref (T k).2.1 (T k).2.2.1 = some x) (ty0 : Nat → FieldType) (hty : ∀ k, k < N → parseFieldDescriptor (T k).2.2.1 = some (ty0 k)) (hnm : ∀ a, a < N → ∀ b, b < N → a ≠ b → (T a).2.1 ≠ (T b).2.1) (hfin : (T k).2.2.2 = false ∨ ((T k).2.2.2 = true ∧ meth.name = "<init>" ∧ (T k).1 = own)) (hd : parseFieldDescriptor (T k).2.2.1 = some ty) (hn : narrow ty v = v) (hfit : fits ty v = true)
    (hv : v = vl μ' a d k) (ho : ∀ j e, j ≠ k → vl μ' a e j = vl μ a e j) (hb : ∀ b, b ≠ a → cel G μ' b = cel G μ b) (htg : ∀ b, tg μ' b = tg μ b) (hzz : hz μ' = hz μ) (hdg : decode cc pc = .ok (.putfield index, 3))
    (kk : ∀ (H1 : Heap) (locs1 : List Loc), HS G s μ' H1 locs1 → W p l e R s m args below meth c H1 locs1 cells slots Q (F0 m (pc + 3) ls rest)) : W p l e R s m args below meth c H locs cells slots Q (F0 m pc ls (v :: .ref a :: rest)) := by
  obtain ⟨hx, hbb, hml, hown, hts, ⟨hK, -⟩, hlk, hbs⟩ := X
  have hap := va_apart (own := own) hts hin ty0 hty hnm hK hc
  obtain ⟨⟨hcell, hbase⟩, -⟩ := And.intro (hH.1.1 a (by rw [ht]; exact Nat.succ_ne_zero _)) trivial
  rw [cel_o ht (cl_lt hc)] at hcell
  obtain ⟨r, h1, cell, q1, q2, q3, q4⟩ := hcell
  have hr : r = (C, T, N) := Option.some.inj (h1.symm.trans hc)
  subst hr
  obtain ⟨hS, hfc, kC, hkC, hkind⟩ := hK.1 ci _ hc
  obtain ⟨cf, kf, fi, f, hi, hsl⟩ := hS k hk
  have hst := (u_facts hfc hkC (u_lays hts hin hk) hi).1
  have hl : k < (fls ci μ a).length := by rw [fls_len]; exact (List.getElem?_eq_some_iff.mp hkd).1
  have hlink := hts _ hlw
  have fin : ∀ H' : Heap, H'[a]? = some (cell.setSlot (G.1.2 ci k) v) → H'.size = H.size → (∀ q : Nat, q ≠ a → H'[q]? = H[q]?) → HS G s μ' H' (locs ++ [⟨a, G.1.2 ci k⟩]) := fun H' e1 e2 e3 => by
    refine ⟨Rl_upd hbase hH.1 e2 e3 ?_ hb htg hzz, hH.2.put e2 e3 hbase⟩
    rw [cel_o ((htg a).trans ht) (cl_lt hc), ← fls_set hkd hv ho]
    exact ⟨_, hc, t_OB.to (V := updV (vp_V (fls ci μ a)) k v) ⟨_, e1, q2, q3, t_set q4 hap hk v⟩ (fun j _ => vp_updV_set hl v j)⟩
  rcases hfin with hfin | ⟨hfin, hin2, hdecl⟩
  · have hlay := hts _ (hin _ (u_in_lay hk))
    unfold u_lay at hlay
    rw [if_neg (by rw [hfin]; decide)] at hlay
    have h6 := u_store hfc hkC hkind hlay hi hd hn hfit
    refine W.putK hx hbb (f := f) ⟨hown, hlink, ⟨_, _, _, hsame _ hi⟩, hst⟩ (by rw [q2]; exact h6) q1 q3 (by rw [hsl]; exact k2_hasslot (q4 k hk)) rfl rfl hdg fun H' e1 e2 e3 => ?_
    rw [hsl] at e1 ⊢
    exact kk H' _ (fin H' e1 e2 e3)
  · have hlay := hts _ (hin _ (u_in_lay hk))
    unfold u_lay at hlay
    rw [if_pos hfin] at hlay
    have hcf : m.cls = cf := by
      obtain ⟨_, _, c', _, _, _, -, -, hf', -, -, -, hown2, -⟩ := Cond.laysFinal_spec hlay
      have e1 : c' = cf := by have := hi.symm.trans hf'; simp at this; exact this.1.symm
      rw [hdecl] at hown2
      rw [← e1]; exact Option.some.inj (hown.symm.trans hown2)
    have h6 := u_fits hfc hkC hkind (Or.inr hlay) hi hd hn hfit
    refine W.putFinK hx hbb hown hlink (hsame _ hi) hst hcf hin2 (by rw [q2]; exact h6) q1 q3 (by rw [hsl]; exact k2_hasslot (q4 k hk)) rfl rfl hdg fun H' e1 e2 e3 => ?_
    rw [hsl] at e1 ⊢
    exact kk H' _ (fin H' e1 e2 e3)
theorem vl_sI (μ : Mm) (a k : Nat) (v : Int32) : ∀ j e, j ≠ k → vl (sI μ a k v) a e j = vl μ a e j := fun j e hj => by
  unfold vl
  split <;> first | rfl | (rw [mI_sI, if_neg (fun h => hj h.2)])
theorem vl_sL (μ : Mm) (a k : Nat) (v : Int64) : ∀ j e, j ≠ k → vl (sL μ a k v) a e j = vl μ a e j := fun j e hj => by
  unfold vl
  split <;> first | rfl | (rw [mL_sL, if_neg (fun h => hj h.2)])
theorem vl_sP (μ : Mm) (a k : Nat) (v : Option Nat) : ∀ j e, j ≠ k → vl (sP μ a k v) a e j = vl μ a e j := fun j e hj => by
  unfold vl
  split <;> first | rfl | (rw [mP_sP, if_neg (fun h => hj h.2)])
theorem cel_sI (G : CG) (μ : Mm) (a k : Nat) (v : Int32) : ∀ b, b ≠ a → cel G (sI μ a k v) b = cel G μ b := fun b hb => cel_ne (fun j => by rw [mI_sI, if_neg (fun h => hb h.1)]) (fun j => rfl) (fun j => rfl) rfl rfl
theorem cel_sL (G : CG) (μ : Mm) (a k : Nat) (v : Int64) : ∀ b, b ≠ a → cel G (sL μ a k v) b = cel G μ b := fun b hb => cel_ne (fun j => rfl) (fun j => by rw [mL_sL, if_neg (fun h => hb h.1)]) (fun j => rfl) rfl rfl
theorem cel_sP (G : CG) (μ : Mm) (a k : Nat) (v : Option Nat) : ∀ b, b ≠ a → cel G (sP μ a k v) b = cel G μ b := fun b hb => cel_ne (fun j => rfl) (fun j => rfl) (fun j => by rw [mP_sP, if_neg (fun h => hb h.1)]) rfl rfl
theorem cel_sR (G : CG) (μ : Mm) (a : Nat) (g : Nat → Int32) : ∀ b, b ≠ a → cel G (sR μ a g) b = cel G μ b := fun b hb => cel_ne (fun j => by rw [mI_sR, if_neg hb]) (fun j => rfl) (fun j => rfl) rfl rfl
abbrev FinOk (meth : Method) (own : String) (q : String × String × String × Bool) : Prop := q.2.2.2 = false ∨ (q.2.2.2 = true ∧ meth.name = "<init>" ∧ q.1 = own)
theorem w_pI (X : Cx p s m args meth c cc nL own G) (hH : HS G s μ H locs) {t k ci index N : Nat} {C ref : String} {T : u_T} {v : Int32} (hp : pI μ a t k v = some μ') (ht : t = ci + 1) (hc : vwCl[ci]? = some (C, T, N)) (hin : ∀ w ∈ u_ws C T N, w ∈ UW) (hk : k < N) (hkd : (fk ci)[k]? = some 0) (hlw : Cond.fieldLink own index ref (T k).2.1 (T k).2.2.1 ∈ UW) (hsame : ∀ x, s.fieldFound? (T k).1 (T k).2.1 (T k).2.2.1 = some x → s.fieldFound? ref (T k).2.1 (T k).2.2.1 = some x) (ty0 : Nat → FieldType) (hty : ∀ k, k < N → parseFieldDescriptor (T k).2.2.1 = some (ty0 k)) (hnm : ∀ a, a < N → ∀ b, b < N → a ≠ b → (T a).2.1 ≠ (T b).2.1) (hfin : FinOk meth own (T k)) (hd : parseFieldDescriptor (T k).2.2.1 = some .int) (hdg : decode cc pc = .ok (.putfield index, 3))
    (kk : ∀ (H1 : Heap) (locs1 : List Loc), HS G s μ' H1 locs1 → W p l e R s m args below meth c H1 locs1 cells slots Q (F0 m (pc + 3) ls rest)) : W p l e R s m args below meth c H locs cells slots Q (F0 m pc ls (.int v :: .ref a :: rest)) := by
  obtain ⟨ht1, rfl⟩ := gsm hp
  exact w_put X hH (ht1.trans ht) hc hin hk hkd hlw hsame ty0 hty hnm hfin hd rfl rfl (by show _ = Value.int _; rw [mI_sI, if_pos ⟨rfl, rfl⟩]) (vl_sI μ a k v) (cel_sI G μ a k v) (fun _ => rfl) rfl hdg kk
theorem w_pZ (X : Cx p s m args meth c cc nL own G) (hH : HS G s μ H locs) {t k ci index N : Nat} {C ref : String} {T : u_T} {v : Int32} (hp : pZ μ a t k v = some μ') (ht : t = ci + 1) (hc : vwCl[ci]? = some (C, T, N)) (hin : ∀ w ∈ u_ws C T N, w ∈ UW) (hk : k < N) (hkd : (fk ci)[k]? = some 0) (hlw : Cond.fieldLink own index ref (T k).2.1 (T k).2.2.1 ∈ UW) (hsame : ∀ x, s.fieldFound? (T k).1 (T k).2.1 (T k).2.2.1 = some x → s.fieldFound? ref (T k).2.1 (T k).2.2.1 = some x) (ty0 : Nat → FieldType) (hty : ∀ k, k < N → parseFieldDescriptor (T k).2.2.1 = some (ty0 k)) (hnm : ∀ a, a < N → ∀ b, b < N → a ≠ b → (T a).2.1 ≠ (T b).2.1) (hfin : FinOk meth own (T k)) (hd : parseFieldDescriptor (T k).2.2.1 = some .boolean) (hdg : decode cc pc = .ok (.putfield index, 3))
    (kk : ∀ (H1 : Heap) (locs1 : List Loc), HS G s μ' H1 locs1 → W p l e R s m args below meth c H1 locs1 cells slots Q (F0 m (pc + 3) ls rest)) : W p l e R s m args below meth c H locs cells slots Q (F0 m pc ls (.int v :: .ref a :: rest)) := by
  obtain ⟨⟨ht1, hv⟩, rfl⟩ := gsm hp
  exact w_put X hH (ht1.trans ht) hc hin hk hkd hlw hsame ty0 hty hnm hfin hd (by rcases hv with rfl | rfl <;> rfl) (by rcases hv with rfl | rfl <;> rfl) (by show _ = Value.int _; rw [mI_sI, if_pos ⟨rfl, rfl⟩]) (vl_sI μ a k v) (cel_sI G μ a k v) (fun _ => rfl) rfl hdg kk
theorem w_pL (X : Cx p s m args meth c cc nL own G) (hH : HS G s μ H locs) {t k ci index N : Nat} {C ref : String} {T : u_T} {v : Int64} (hp : pL μ a t k v = some μ') (ht : t = ci + 1) (hc : vwCl[ci]? = some (C, T, N)) (hin : ∀ w ∈ u_ws C T N, w ∈ UW) (hk : k < N) (hkd : (fk ci)[k]? = some 1) (hlw : Cond.fieldLink own index ref (T k).2.1 (T k).2.2.1 ∈ UW) (hsame : ∀ x, s.fieldFound? (T k).1 (T k).2.1 (T k).2.2.1 = some x → s.fieldFound? ref (T k).2.1 (T k).2.2.1 = some x) (ty0 : Nat → FieldType) (hty : ∀ k, k < N → parseFieldDescriptor (T k).2.2.1 = some (ty0 k)) (hnm : ∀ a, a < N → ∀ b, b < N → a ≠ b → (T a).2.1 ≠ (T b).2.1) (hfin : FinOk meth own (T k)) (hd : parseFieldDescriptor (T k).2.2.1 = some .long) (hdg : decode cc pc = .ok (.putfield index, 3))
    (kk : ∀ (H1 : Heap) (locs1 : List Loc), HS G s μ' H1 locs1 → W p l e R s m args below meth c H1 locs1 cells slots Q (F0 m (pc + 3) ls rest)) : W p l e R s m args below meth c H locs cells slots Q (F0 m pc ls (.long v :: .ref a :: rest)) := by
  obtain ⟨ht1, rfl⟩ := gsm hp
  exact w_put X hH (ht1.trans ht) hc hin hk hkd hlw hsame ty0 hty hnm hfin hd rfl rfl (by show _ = Value.long _; rw [mL_sL, if_pos ⟨rfl, rfl⟩]) (vl_sL μ a k v) (cel_sL G μ a k v) (fun _ => rfl) rfl hdg kk
theorem w_pP (X : Cx p s m args meth c cc nL own G) (hH : HS G s μ H locs) {t k ci index N v : Nat} {C ref : String} {T : u_T} {ty : FieldType} (hp : pP μ a t k v = some μ') (ht : t = ci + 1) (hc : vwCl[ci]? = some (C, T, N)) (hin : ∀ w ∈ u_ws C T N, w ∈ UW) (hk : k < N) (hkd : (fk ci)[k]? = some 2) (hlw : Cond.fieldLink own index ref (T k).2.1 (T k).2.2.1 ∈ UW) (hsame : ∀ x, s.fieldFound? (T k).1 (T k).2.1 (T k).2.2.1 = some x → s.fieldFound? ref (T k).2.1 (T k).2.2.1 = some x) (ty0 : Nat → FieldType) (hty : ∀ k, k < N → parseFieldDescriptor (T k).2.2.1 = some (ty0 k)) (hnm : ∀ a, a < N → ∀ b, b < N → a ≠ b → (T a).2.1 ≠ (T b).2.1) (hfin : FinOk meth own (T k)) (hd : parseFieldDescriptor (T k).2.2.1 = some ty) (hn : narrow ty (.ref v) = .ref v) (hfit : fits ty (.ref v) = true) (hdg : decode cc pc = .ok (.putfield index, 3))
    (kk : ∀ (H1 : Heap) (locs1 : List Loc), HS G s μ' H1 locs1 → W p l e R s m args below meth c H1 locs1 cells slots Q (F0 m (pc + 3) ls rest)) : W p l e R s m args below meth c H locs cells slots Q (F0 m pc ls (.ref v :: .ref a :: rest)) := by
  obtain ⟨ht1, rfl⟩ := gsm hp
  exact w_put X hH (ht1.trans ht) hc hin hk hkd hlw hsame ty0 hty hnm hfin hd hn hfit (by show _ = va_rf _; rw [mP_sP, if_pos ⟨rfl, rfl⟩]; rfl) (vl_sP μ a k _) (cel_sP G μ a k _) (fun _ => rfl) rfl hdg kk
end RW
