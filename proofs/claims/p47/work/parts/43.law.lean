def R_law : String := "ClockFeetLaw"
def lw_P (b : Addr) (xs : List Int32) (args : Array Value) (s : State) : Prop := args = #[.ref b] ∧ s.IntsAt b xs ∧ xs.length ≤ 260 ∧ (Jvm.Cond.and given_1 narrow_1).before args s = true
def lw_Q (_ : Array Value) (s : State) (o : Outcome) (t : State) : Prop := o = .returned (some (.int 1)) ∧ Framed s o t [] 600000 7302250
def lw_Z (below : List Frame) (a : Array Value) (s : State) : State → Prop := fun t => ∃ o, t.status = .running ∧ Ended t below o ∧ lw_Q a s o t
/-- the law's own end, with 1 on the stack, nothing written that was there before, its room as the claim has it -/
theorem lw_ret {p : Program} {l : Launch} {e : Env} {s : State} {m : MethodId} {below : List Frame} {meth : Method} {c : Code} {b : Nat} (hx : p.tables.exec = Jvm.exec) (hb : c.code = code) (hr : meth.sig.returnType = ret) (hlocks : meth.locks = false) {pc : Nat} {H : Heap} {ls : Array Slot} (hdg : decode code pc = .ok (.ireturn, 1)) : W p l e room_1 s m #[Value.ref b] below meth c H [] 600000 7302250 (lw_Z below #[Value.ref b] s) (F0 m pc ls [.int 1]) := by
  intro T hT X
  obtain ⟨fs, hret, hrun, hended, hW, hframe⟩ := X.leave (v := some (.int 1)) (hlocks := hlocks) (fun h => by rw [hr] at h; cases h)
  have hmeth' : T.vm.method? m = some meth := X.method'
  refine ⟨T.setFrames fs, ?_, .returned (some (.int 1)), hrun, hended, rfl, ⟨_, rfl⟩, hW, hframe⟩
  jvm_step X.here [X.here.top, hx, hb, hdg, hmeth', hr, ret, narrow_b1]
  (try refine ⟨rfl, ?_⟩); (try refine ⟨rfl, ?_⟩)
  first | (intro acts; rw [hret _ acts rfl rfl rfl]) | rw [hret _ _ rfl rfl rfl]
  exact Steps.refl _
/-- what holds at the law's entry: the machine, the code, the tables' words (any of lw_tbl by 'hts w (by decide +kernel)'), the script of L ints xs at the cell b, what the Statement gives of the start (any of its parts by flat_of_before) -/
def lw_At (p : Program) (s : State) (m : MethodId) (meth : Method) (c : Code) (b L : Nat) (xs : Nat → Int32) : Prop :=
  p.tables.exec = Jvm.exec ∧ c.code = code ∧ meth.sig.returnType = ret ∧ c.maxLocals = 10 ∧ s.vm.findClass R_law = some m.cls ∧ (∀ w ∈ lw_tbl, w.before #[Value.ref b] s = true) ∧ va_X b L xs s s.heap ∧ b < s.heap.size ∧ meth.locks = false ∧ (Jvm.Cond.and given_1 narrow_1).before #[Value.ref b] s = true
/-- the heap before the first object -/
def mt (bs : Nat) : Mm := (fun _ => 0, fun _ => 0, fun _ _ => 0, fun _ _ => 0, fun _ _ => none, bs)
set_option maxHeartbeats 4000000 in
set_option maxRecDepth 100000 in
/-- what the tables and the statement give at the start -/
theorem law_known {s : State} {b : Nat} (hts : ∀ w ∈ lw_tbl, w.before #[Value.ref b] s = true) (hgv : (Jvm.Cond.and given_1 narrow_1).before #[Value.ref b] s = true) {L : Nat} {xs : Nat → Int32} (hX : va_X b L xs s s.heap) (hbl : b < s.heap.size) : ∃ G : CG, G.2.2.1 = s.heap.size ∧ gS G = (b, L, xs) ∧ KK G s ∧ ScX G s.heap := by
  obtain ⟨scr, x1, x2, x3, x4, x5⟩ := hX
  have hs := flat_of_before _ hgv
  have htu := UW_in hts
  have h : ∀ k : Nat, ∃ (cc : ClassId) (ii : Nat → Nat), ∀ q : vw_C, vwCl[k]? = some q → u_Kn s q.1 q.2.1 q.2.2 cc ii := by
    intro k
    match k with
    | 0 => exact ⟨_, _, fun q hq => by cases hq; exact Classical.choose_spec (Classical.choose_spec (u_known (C := RX0) (T := TX0) (N := 2) (n := 2) htu inU_X0 (hts _ (List.mem_of_getElem? (i := 570) (by decide +kernel)))))⟩
    | 1 => exact ⟨_, _, fun q hq => by cases hq; exact Classical.choose_spec (Classical.choose_spec (u_known (C := RX1) (T := TX1) (N := 2) (n := 2) htu inU_X1 (hts _ (List.mem_of_getElem? (i := 561) (by decide +kernel)))))⟩
    | 2 => exact ⟨_, _, fun q hq => by cases hq; exact Classical.choose_spec (Classical.choose_spec (u_known (C := RX2) (T := TX2) (N := 2) (n := 2) htu inU_X2 (hts _ (List.mem_of_getElem? (i := 75) (by decide +kernel)))))⟩
    | 3 => exact ⟨_, _, fun q hq => by cases hq; exact Classical.choose_spec (Classical.choose_spec (u_known (C := RX3) (T := TX3) (N := 12) (n := 12) htu inU_X3 (hts _ (List.mem_of_getElem? (i := 45) (by decide +kernel)))))⟩
    | 4 => exact ⟨_, _, fun q hq => by cases hq; exact Classical.choose_spec (Classical.choose_spec (u_known (C := RX4) (T := TX4) (N := 2) (n := 2) htu inU_X4 (hts _ (List.mem_of_getElem? (i := 552) (by decide +kernel)))))⟩
    | 5 => exact ⟨_, _, fun q hq => by cases hq; exact Classical.choose_spec (Classical.choose_spec (u_known (C := RX5) (T := TX5) (N := 8) (n := 8) htu inU_X5 (hts _ (List.mem_of_getElem? (i := 158) (by decide +kernel)))))⟩
    | 6 => exact ⟨_, _, fun q hq => by cases hq; exact Classical.choose_spec (Classical.choose_spec (u_known (C := RX6) (T := TX6) (N := 2) (n := 2) htu inU_X6 (hts _ (List.mem_of_getElem? (i := 579) (by decide +kernel)))))⟩
    | 7 => exact ⟨_, _, fun q hq => by cases hq; exact Classical.choose_spec (Classical.choose_spec (u_known (C := RX7) (T := TX7) (N := 8) (n := 8) htu inU_X7 (hts _ (List.mem_of_getElem? (i := 195) (by decide +kernel)))))⟩
    | 8 => exact ⟨_, _, fun q hq => by cases hq; exact Classical.choose_spec (Classical.choose_spec (u_known (C := RX8) (T := TX8) (N := 2) (n := 2) htu inU_X8 (hts _ (List.mem_of_getElem? (i := 53) (by decide +kernel)))))⟩
    | 9 => exact ⟨_, _, fun q hq => by cases hq; exact Classical.choose_spec (Classical.choose_spec (u_known (C := RX9) (T := TX9) (N := 2) (n := 2) htu inU_X9 (hts _ (List.mem_of_getElem? (i := 587) (by decide +kernel)))))⟩
    | 10 => exact ⟨_, _, fun q hq => by cases hq; exact Classical.choose_spec (Classical.choose_spec (u_known (C := RX10) (T := TX10) (N := 3) (n := 3) htu inU_X10 (hts _ (List.mem_of_getElem? (i := 228) (by decide +kernel)))))⟩
    | 11 => exact ⟨_, _, fun q hq => by cases hq; exact Classical.choose_spec (Classical.choose_spec (u_known (C := RX11) (T := TX11) (N := 14) (n := 14) htu inU_X11 (hts _ (List.mem_of_getElem? (i := 35) (by decide +kernel)))))⟩
    | k + 12 => exact ⟨0, fun _ => 0, fun q hq => by simp [vwCl] at hq⟩
  have a21 : ∃ cA : ClassId, ArrOfT s cA .int ∧ va_RA s cA .int := by
    obtain ⟨ca, ka, comp, g1, g2, g3⟩ := Cond.arrayClass_spec (hts (Cond.arrayClass .int) (List.mem_of_getElem? (i := 74) (by decide +kernel)))
    exact ⟨ca, fun n z => ⟨fun k h => (by cases h), ka, g2, comp, g3⟩, g1⟩
  have a22 : ∃ cA : ClassId, ArrOfT s cA .long ∧ va_RA s cA .long := by
    obtain ⟨ca, ka, comp, g1, g2, g3⟩ := Cond.arrayClass_spec (hts (Cond.arrayClass .long) (List.mem_of_getElem? (i := 243) (by decide +kernel)))
    exact ⟨ca, fun n z => ⟨fun k h => (by cases h), ka, g2, comp, g3⟩, g1⟩
  have a23 : ∃ cA : ClassId, ArrOfT s cA .boolean ∧ va_RA s cA .boolean := by
    obtain ⟨ca, ka, comp, g1, g2, g3⟩ := Cond.arrayClass_spec (hts (Cond.arrayClass .boolean) (List.mem_of_getElem? (i := 225) (by decide +kernel)))
    exact ⟨ca, fun n z => ⟨fun k h => (by cases h), ka, g2, comp, g3⟩, g1⟩
  have o24 : va_AO "ClockFeet$Guild" s := va_AO.of (hts (Cond.arrayOver (.object "ClockFeet$Guild")) (List.mem_of_getElem? (i := 51) (by decide +kernel)))
  have a24 : ∃ cA : ClassId, ArrOfT s cA (.object "ClockFeet$Guild") ∧ va_RA s cA (.object "ClockFeet$Guild") := by
    obtain ⟨comp, ca, ka, g1, -, g3, g4, g5⟩ := Cond.arrayOver_spec o24
    exact ⟨ca, fun n z => ⟨fun k h => (by cases h), ka, g3, comp, g4⟩, ka, comp, g3, g4, g1, g5⟩
  have o25 : va_AO "ClockFeet$Strip" s := va_AO.of (hts (Cond.arrayOver (.object "ClockFeet$Strip")) (List.mem_of_getElem? (i := 43) (by decide +kernel)))
  have a25 : ∃ cA : ClassId, ArrOfT s cA (.object "ClockFeet$Strip") ∧ va_RA s cA (.object "ClockFeet$Strip") := by
    obtain ⟨comp, ca, ka, g1, -, g3, g4, g5⟩ := Cond.arrayOver_spec o25
    exact ⟨ca, fun n z => ⟨fun k h => (by cases h), ka, g3, comp, g4⟩, ka, comp, g3, g4, g1, g5⟩
  have o26 : AOA .int s := hts (Cond.arrayOver (.array .int)) (List.mem_of_getElem? (i := 156) (by decide +kernel))
  have a26 : ∃ cA : ClassId, ArrOfT s cA (.array .int) ∧ va_RA s cA (.array .int) := by
    obtain ⟨comp, ca, ka, g1, -, g3, g4, g5⟩ := aoa_spec o26
    exact ⟨ca, fun n z => ⟨fun k h => (by cases h), ka, g3, comp, g4⟩, g5⟩
  refine ⟨((fun k => Classical.choose (h k), fun k => Classical.choose (Classical.choose_spec (h k))), (fun t => if t = 20 then Classical.choose a21 else if t = 21 then Classical.choose a21 else if t = 22 then Classical.choose a22 else if t = 23 then Classical.choose a23 else if t = 24 then Classical.choose a24 else if t = 25 then Classical.choose a25 else Classical.choose a26), s.heap.size, (b, L, xs), scr), rfl, rfl, ⟨⟨fun k q hq => Classical.choose_spec (Classical.choose_spec (h k)) q hq, fun k q hq => ?_⟩, fun q hq => ?_, fun q hq => ?_, fun q hq => ?_, o24, o25, o26, x2, x3, x4, x5⟩, x1, Nat.not_le.mpr hbl⟩
  · match k, hq with
    | 0, hq => cases hq; exact Classical.choose_spec a21
    | 1, hq => cases hq; exact Classical.choose_spec a21
    | 2, hq => cases hq; exact Classical.choose_spec a22
    | 3, hq => cases hq; exact Classical.choose_spec a23
    | 4, hq => cases hq; exact Classical.choose_spec a24
    | 5, hq => cases hq; exact Classical.choose_spec a25
    | 6, hq => cases hq; exact Classical.choose_spec a26
    | k + 7, hq => simp [tysG] at hq
  · simp only [nwl, List.mem_cons, List.not_mem_nil, or_false] at hq
    rcases hq with rfl | rfl | rfl | rfl | rfl
    · exact va_Nw.of rfl (hts _ (List.mem_of_getElem? (i := 159) (by decide +kernel)))
    · exact va_Nw.of rfl (hts _ (List.mem_of_getElem? (i := 196) (by decide +kernel)))
    · exact va_Nw.of rfl (hts _ (List.mem_of_getElem? (i := 229) (by decide +kernel)))
    · exact va_Nw.of rfl (hts _ (List.mem_of_getElem? (i := 376) (by decide +kernel)))
    · exact va_Nw.of rfl (hts _ (List.mem_of_getElem? (i := 784) (by decide +kernel)))
  · simp only [ncs, List.mem_cons, List.not_mem_nil, or_false] at hq
    rcases hq with rfl | rfl | rfl | rfl
    · exact va_Nc.of (hs (Cond.not (.castable "ClockFeet$Cats" "ClockFeet$Heavy")) (by decide +kernel))
    · exact va_Nc.of (hs (Cond.not (.castable "ClockFeet$Children" "ClockFeet$Heavy")) (by decide +kernel))
    · exact va_Nc.of (hs (Cond.not (.castable "ClockFeet$Guild" "ClockFeet$Heavy")) (by decide +kernel))
    · exact va_Nc.of (hs (Cond.not (.castable "ClockFeet$Tiptoe" "ClockFeet$Heavy")) (by decide +kernel))
  · simp only [ycs, List.mem_cons, List.not_mem_nil, or_false] at hq
    rcases hq with rfl | rfl | rfl | rfl | rfl | rfl
    · exact va_Nw.of rfl (hts (Cond.castable "ClockFeet$Regiment" "ClockFeet$Heavy") (List.mem_of_getElem? (i := 860) (by decide +kernel)))
    · exact va_Nw.of rfl (hts (Cond.castable "ClockFeet$Cats" "ClockFeet$Guild") (List.mem_of_getElem? (i := 863) (by decide +kernel)))
    · exact va_Nw.of rfl (hts (Cond.castable "ClockFeet$Children" "ClockFeet$Guild") (List.mem_of_getElem? (i := 862) (by decide +kernel)))
    · exact va_Nw.of rfl (hts (Cond.castable "ClockFeet$Heavy" "ClockFeet$Guild") (List.mem_of_getElem? (i := 861) (by decide +kernel)))
    · exact va_Nw.of rfl (hts (Cond.castable "ClockFeet$Regiment" "ClockFeet$Guild") (List.mem_of_getElem? (i := 864) (by decide +kernel)))
    · exact va_Nw.of rfl (hts (Cond.castable "ClockFeet$Tiptoe" "ClockFeet$Guild") (List.mem_of_getElem? (i := 865) (by decide +kernel)))
theorem Rl_mt {G : CG} {H : Heap} (hG : G.2.2.1 = H.size) (hS : ScX G H) : Rl G (mt H.size) H := ⟨fun a h => absurd rfl h, rfl, Nat.le_of_eq hG, hS⟩
/-- THE LAW as a function: what is to be shown -/
def LAW : Prop := ∀ (b L bs : Nat) (xs : Nat → Int32), L ≤ 260 → b < bs → ∃ μ' : Mm, f_L_law (b, L, xs) (mt bs) b = some (1, μ')
set_option maxHeartbeats 4000000 in
set_option maxRecDepth 100000 in
theorem whole_start_of (hP : LAW) {p : Program} {e : Env} {s : State} {m : MethodId} {below : List Frame} {meth : Method} {c : Code} (l : Launch) {b L : Nat} {xs : Nat → Int32} (hL : L ≤ 260) (C0 : lw_At p s m meth c b L xs) : W p l e room_1 s m #[Value.ref b] below meth c s.heap [] 0 0 (lw_Z below #[Value.ref b] s) (entryFrame m ([Value.ref b] : List Value).toArray 10) := by
  obtain ⟨hx, hb, hr, hml, hown, hts, hX, hbl, hlocks, hgv⟩ := C0
  obtain ⟨G, hG, hsc, hK, hSX⟩ := law_known hts hgv hX hbl
  have X : Cx p s m #[Value.ref b] meth c cL_law 10 RL G := ⟨hx, hb, hml, hown, UW_in hts, hK, hlocks, Nat.le_of_eq hG⟩
  obtain ⟨μ1, e1⟩ := hP b L s.heap.size xs hL hbl
  have hH : HS G s (mt s.heap.size) s.heap [] := ⟨Rl_mt hG hSX, va_S.rf⟩
  have hRL : RmL room_1 9 190 := ⟨by decide, by decide⟩
  refine ls_in (Nat.le_of_ble_eq_true rfl) (fun ls hl => ?_)
  have hl : lv_has ls 10 [(0, .ref b)] := hl
  refine w_L_law (x := (1, μ1)) l X hRL ⟨Nat.le_of_ble_eq_true rfl, Nat.le_of_ble_eq_true rfl⟩ (by rw [hsc]; exact e1) rfl hH hl (fun pc H locs ls μ hH hd => ?_)
  refine va_forget (fun q hq => by have := hH.2.2.2 q hq; have h : G.2.2.1 ≤ q.base := this; omega) ?_
  exact lw_ret hx hb hr hlocks hd
