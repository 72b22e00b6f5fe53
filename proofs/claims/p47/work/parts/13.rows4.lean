section RW4
variable {p : Program} {l : Launch} {e : Env} {R : Room} {s : State} {m : MethodId} {args : Array Value} {below : List Frame} {meth : Method} {c : Code} {H : Heap} {locs : List Loc} {cells slots : Nat} {Q : State → Prop}
variable {cc : ByteArray} {pc : Nat} {ls : Array Slot} {rest st : List Value} {own : String} {nL : Nat} {G : CG} {μ μ' : Mm} {a b : Nat}
-- calls: what follows
theorem kI {r : Int32} {av : Array Value} (hH : HS G s μ H locs) (hr : va_Run p l e R s m args below meth c H locs cells slots 0 0 (F0 m pc ls st) rest (QI G r μ' av) (fA G)) (kk : ∀ (H1 : Heap) (locs1 : List Loc), HS G s μ' H1 locs1 → W p l e R s m args below meth c H1 locs1 cells slots Q (F0 m (pc + 3) ls (.int r :: rest))) : W p l e R s m args below meth c H locs cells slots Q (F0 m pc ls st) :=
  va_calli hr hH.2 (fun q _ h => h) (fun q h => h) (fun r' u t H1 locs1 ht hvm hw hB hz hk hS => by
    have hw : r' = r := hw
    subst hw
    exact kk H1 locs1 ⟨by rw [← ht]; exact hB, hS⟩)
theorem kL {r : Int64} {av : Array Value} (hH : HS G s μ H locs) (hr : va_Run p l e R s m args below meth c H locs cells slots 0 0 (F0 m pc ls st) rest (QL G r μ' av) (fA G)) (kk : ∀ (H1 : Heap) (locs1 : List Loc), HS G s μ' H1 locs1 → W p l e R s m args below meth c H1 locs1 cells slots Q (F0 m (pc + 3) ls (.long r :: rest))) : W p l e R s m args below meth c H locs cells slots Q (F0 m pc ls st) :=
  va_calll hr hH.2 (fun q _ h => h) (fun q h => h) (fun r' u t H1 locs1 ht hvm hw hB hz hk hS => by
    have hw : r' = r := hw
    subst hw
    exact kk H1 locs1 ⟨by rw [← ht]; exact hB, hS⟩)
theorem kV {mc ms : Nat} {av : Array Value} (hH : HS G s μ H locs) (hr : va_Run p l e R s m args below meth c H locs cells slots mc ms (F0 m pc ls st) rest (QV G μ' av) (fA G)) (kk : ∀ (H1 : Heap) (locs1 : List Loc), HS G s μ' H1 locs1 → W p l e R s m args below meth c H1 locs1 (cells + mc) (slots + ms) Q (F0 m (pc + 3) ls rest)) : W p l e R s m args below meth c H locs cells slots Q (F0 m pc ls st) :=
  va_callv hr hH.2 (fun q _ h => h) (fun q h => h) (fun u t H1 locs1 ht hvm hw hB hz hk hS => kk H1 locs1 ⟨by rw [← ht]; exact hB, hS⟩)
theorem kIm {mc ms : Nat} {r : Int32} {av : Array Value} (hH : HS G s μ H locs) (hr : va_Run p l e R s m args below meth c H locs cells slots mc ms (F0 m pc ls st) rest (QI G r μ' av) (fA G)) (kk : ∀ (H1 : Heap) (locs1 : List Loc), HS G s μ' H1 locs1 → W p l e R s m args below meth c H1 locs1 (cells + mc) (slots + ms) Q (F0 m (pc + 3) ls (.int r :: rest))) : W p l e R s m args below meth c H locs cells slots Q (F0 m pc ls st) :=
  va_calli hr hH.2 (fun q _ h => h) (fun q h => h) (fun r' u t H1 locs1 ht hvm hw hB hz hk hS => by
    have hw : r' = r := hw
    subst hw
    exact kk H1 locs1 ⟨by rw [← ht]; exact hB, hS⟩)
theorem kR {mc ms r : Nat} {av : Array Value} (hH : HS G s μ H locs) (hr : va_Run p l e R s m args below meth c H locs cells slots mc ms (F0 m pc ls st) rest (QR G r μ' av) (fA G)) (kk : ∀ (H1 : Heap) (locs1 : List Loc), HS G s μ' H1 locs1 → W p l e R s m args below meth c H1 locs1 (cells + mc) (slots + ms) Q (F0 m (pc + 3) ls (.ref r :: rest))) : W p l e R s m args below meth c H locs cells slots Q (F0 m pc ls st) :=
  va_callr hr hH.2 (fun q _ h => h) (fun q h => h) (fun u ra t H1 locs1 ht hvm hw hB hz hk hS => by
    obtain ⟨h1, h2⟩ := hB
    subst h1
    exact kk H1 locs1 ⟨by rw [← ht]; exact h2, hS⟩)
theorem kV0 {av : Array Value} (hH : HS G s μ H locs) (hr : va_Run p l e R s m args below meth c H locs cells slots 0 0 (F0 m pc ls st) rest (QV G μ' av) (fA G)) (kk : ∀ (H1 : Heap) (locs1 : List Loc), HS G s μ' H1 locs1 → W p l e R s m args below meth c H1 locs1 cells slots Q (F0 m (pc + 3) ls rest)) : W p l e R s m args below meth c H locs cells slots Q (F0 m pc ls st) :=
  va_callv hr hH.2 (fun q _ h => h) (fun q h => h) (fun u t H1 locs1 ht hvm hw hB hz hk hS => kk H1 locs1 ⟨by rw [← ht]; exact hB, hS⟩)
def RmL (R : Room) (k k2 : Nat) : Prop := k ≤ R.frames ∧ k2 ≤ R.locals
abbrev rmk (k k2 mc ms : Nat) : Room := { frames := k, cells := mc, slots := ms, locals := k2 }
theorem rmo {R : Room} {k k2 j j2 mc ms maxL : Nat} (h : RmL R k k2) (hj : j + 1 ≤ k) (hm : j2 + maxL + 19 ≤ k2) : RmOk (rmk j j2 mc ms) R mc ms maxL := by
  obtain ⟨h1, h2⟩ := h
  refine ⟨rfl, rfl, ?_, ?_⟩
  · show j + 1 ≤ _
    omega
  · show _ + _ + j2 ≤ _
    omega
theorem jn_lem {α : Type} {x : α} {M nL : Nat} {g : JFrame} (μ1 : α → Mm) (loc1 : α → List (Nat × Value)) (st1 : α → List Value)
    (k1 : ∀ (H : Heap) (locs : List Loc) (ls : Array Slot), HS G s (μ1 x) H locs → lv_has ls nL (loc1 x) → W p l e R s m args below meth c H locs cells slots Q (F0 m M ls (st1 x)))
    (k2 : (∀ (H : Heap) (locs : List Loc) (ls : Array Slot), HS G s (μ1 x) H locs → lv_has ls nL (loc1 x) → W p l e R s m args below meth c H locs cells slots Q (F0 m M ls (st1 x))) → W p l e R s m args below meth c H locs cells slots Q g) : W p l e R s m args below meth c H locs cells slots Q g := k2 k1
-- ends
theorem eI {mc ms : Nat} (X : Cx p s m args meth c cc nL own G) (hH : HS G s μ H locs) {v : Int32} {x : Int32 × Mm} (h : some (v, μ) = some x) (hr : meth.sig.returnType = some .int) (hdg : decode cc pc = .ok (.ireturn, 1)) (h1 : cells ≤ mc) (h2 : slots ≤ ms) : W p l e R s m args below meth c H locs cells slots (MQ below (QI G x.1 x.2) args s mc ms (fA G)) (F0 m pc ls [.int v]) := by
  cases h
  refine W.widen h1 h2 ?_
  exact W.iret X.1 X.2.1 hr (fun t ht hW => ⟨⟨v, (), rfl, rfl, by show Rl G _ t.heap; rw [ht]; exact hH.1⟩, hH.2.F ht⟩) hH.2.2.2 hdg X.2.2.2.2.2.2.1
theorem eIp (X : Cx p s m args meth c cc nL own G) (hH : HS G s μ H locs) {v x : Int32} (h : some v = some x) (hr : meth.sig.returnType = some .int) (hdg : decode cc pc = .ok (.ireturn, 1)) : W p l e R s m args below meth c H locs cells slots (MQ below (QI G x μ) args s cells slots (fA G)) (F0 m pc ls [.int v]) := by
  cases h
  exact W.iret X.1 X.2.1 hr (fun t ht hW => ⟨⟨v, (), rfl, rfl, by show Rl G _ t.heap; rw [ht]; exact hH.1⟩, hH.2.F ht⟩) hH.2.2.2 hdg X.2.2.2.2.2.2.1
theorem narZ {v : Int32} (hv : v = 0 ∨ v = 1) : narrow .boolean (.int v) = .int v := by rcases hv with rfl | rfl <;> rfl
theorem eZ {mc ms : Nat} (X : Cx p s m args meth c cc nL own G) (hH : HS G s μ H locs) {v : Int32} {x : Int32 × Mm} (hv : v = 0 ∨ v = 1) (h : some (v, μ) = some x) (hr : meth.sig.returnType = some .boolean) (hdg : decode cc pc = .ok (.ireturn, 1)) (h1 : cells ≤ mc) (h2 : slots ≤ ms) : W p l e R s m args below meth c H locs cells slots (MQ below (QI G x.1 x.2) args s mc ms (fA G)) (F0 m pc ls [.int v]) := by
  cases h
  refine W.widen h1 h2 ?_
  exact W.zret X.1 X.2.1 hr (narZ hv) (fun t ht hW => ⟨⟨v, (), rfl, rfl, by show Rl G _ t.heap; rw [ht]; exact hH.1⟩, hH.2.F ht⟩) hH.2.2.2 hdg X.2.2.2.2.2.2.1
theorem eZp (X : Cx p s m args meth c cc nL own G) (hH : HS G s μ H locs) {v x : Int32} (hv : v = 0 ∨ v = 1) (h : some v = some x) (hr : meth.sig.returnType = some .boolean) (hdg : decode cc pc = .ok (.ireturn, 1)) : W p l e R s m args below meth c H locs cells slots (MQ below (QI G x μ) args s cells slots (fA G)) (F0 m pc ls [.int v]) := by
  cases h
  exact W.zret X.1 X.2.1 hr (narZ hv) (fun t ht hW => ⟨⟨v, (), rfl, rfl, by show Rl G _ t.heap; rw [ht]; exact hH.1⟩, hH.2.F ht⟩) hH.2.2.2 hdg X.2.2.2.2.2.2.1
theorem eL (X : Cx p s m args meth c cc nL own G) (hH : HS G s μ H locs) {v : Int64} {x : Int64 × Mm} (h : some (v, μ) = some x) (hr : meth.sig.returnType = some .long) (hdg : decode cc pc = .ok (.lreturn, 1)) : W p l e R s m args below meth c H locs cells slots (MQ below (QL G x.1 x.2) args s cells slots (fA G)) (F0 m pc ls [.long v]) := by
  cases h
  exact W.lret X.1 X.2.1 hr (fun t ht hW => ⟨⟨v, (), rfl, rfl, by show Rl G _ t.heap; rw [ht]; exact hH.1⟩, hH.2.F ht⟩) hH.2.2.2 hdg X.2.2.2.2.2.2.1
theorem eLp (X : Cx p s m args meth c cc nL own G) (hH : HS G s μ H locs) {v x : Int64} (h : some v = some x) (hr : meth.sig.returnType = some .long) (hdg : decode cc pc = .ok (.lreturn, 1)) : W p l e R s m args below meth c H locs cells slots (MQ below (QL G x μ) args s cells slots (fA G)) (F0 m pc ls [.long v]) := by
  cases h
  exact W.lret X.1 X.2.1 hr (fun t ht hW => ⟨⟨v, (), rfl, rfl, by show Rl G _ t.heap; rw [ht]; exact hH.1⟩, hH.2.F ht⟩) hH.2.2.2 hdg X.2.2.2.2.2.2.1
theorem eV {mc ms : Nat} (X : Cx p s m args meth c cc nL own G) (hH : HS G s μ H locs) {x : Mm} (h : some μ = some x) (hr : meth.sig.returnType = none) (hdg : decode cc pc = .ok (.return_, 1)) (h1 : cells ≤ mc) (h2 : slots ≤ ms) : W p l e R s m args below meth c H locs cells slots (MQ below (QV G x) args s mc ms (fA G)) (F0 m pc ls []) := by
  cases h
  refine W.widen h1 h2 ?_
  exact W.vret X.1 X.2.1 hr (fun t ht hW => ⟨⟨(), rfl, trivial, by show Rl G _ t.heap; rw [ht]; exact hH.1⟩, hH.2.F ht⟩) hH.2.2.2 hdg X.2.2.2.2.2.2.1
theorem eR {mc ms : Nat} (X : Cx p s m args meth c cc nL own G) (hH : HS G s μ H locs) {v : Nat} {x : Nat × Mm} {rt : FieldType} (h : some (v, μ) = some x) (hr : meth.sig.returnType = some rt) (hrt : (∃ n, rt = .object n) ∨ ∃ t, rt = .array t) (hdg : decode cc pc = .ok (.areturn, 1)) (h1 : cells ≤ mc) (h2 : slots ≤ ms) : W p l e R s m args below meth c H locs cells slots (MQ below (QR G x.1 x.2) args s mc ms (fA G)) (F0 m pc ls [.ref v]) := by
  cases h
  refine W.widen h1 h2 ?_
  exact W.aret X.1 X.2.1 hr hrt (Or.inr ⟨v, rfl⟩) (fun t ht hW => ⟨⟨(), v, rfl, trivial, rfl, by show Rl G _ t.heap; rw [ht]; exact hH.1⟩, hH.2.F ht⟩) hH.2.2.2 hdg X.2.2.2.2.2.2.1
/-- the start of a method -/
theorem cx_in {y : MethodName} {maxL : Nat} {ret : Option FieldType} {rm : Room} {as : List Value} {s₁ : State} (B : BodyLoose p l y (headSpec (.code y cc maxL ret :: UW) rm) cc maxL ret e s m args below meth c s₁) (hml : c.maxLocals = maxL) (hv : PC G as μ args s) : Cx p s m args meth c cc maxL y.cls G ∧ HS G s μ s.heap [] ∧ meth.sig.returnType = ret ∧ args = as.toArray ∧ meth.name = y.name := by
  obtain ⟨ha, hR, hK⟩ := hv
  have hts := atoms_spec (ws := .code y cc maxL ret :: UW) B.pre
  refine ⟨⟨B.exec, B.bytes, hml, findClass_of_methodNamed B.named, fun w hw => hts w (List.mem_cons_of_mem _ hw), hK, B.notSynchronized, ?_⟩, ⟨hR, va_S.rf⟩, B.returns, ha, (name_of_methodNamed B.named B.method).1⟩
  rw [hR.2.1]
  exact hR.2.2.1
/-- the locals at the start -/
theorem ls_in {m : MethodId} {as : List Value} {n : Nat} (h : (lg_sl as).length ≤ n) (kk : ∀ ls : Array Slot, lv_has ls n (lv_args 0 as) → W p l e R s m args below meth c H locs cells slots Q (F0 m 0 ls [])) : W p l e R s m args below meth c H locs cells slots Q (entryFrame m as.toArray n) := by
  rw [lg_entry_eq]
  exact kk _ (lv_entry as (n := n) h)
end RW4
