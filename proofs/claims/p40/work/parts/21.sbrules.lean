/-! methods that answer a known object; super.m(..); private methods of a superclass -/
abbrev qR (D : va_G) (A : Nat → Prop) (b : Nat) (ws' : va_W) : Array Value → State → Outcome → State → Prop := va_Qr (fun (_ : Unit) => True) (fun _ a t => a = b ∧ va_P D vwCl ws' t.heap ∧ va_D A ws') A
def MRS (l : Launch) (y : MethodName) (cY : ByteArray) (nY : Nat) (ret : Option FieldType) (rm : Room) (D : va_G) (cy : Nat → ClassId) (en g : Nat → Nat) (ws : va_W) (sz : Nat) (av : List Value) (b : Nat) (ws' : va_W) : Prop :=
  Met l y (Cond.code y cY nY ret :: WA) rm (pW D cy ws sz (XS en g ws sz) av) (qR D (va_A ws sz) b ws') 0 0 (va_A ws sz)
theorem ret_r {p : Program} {l : Launch} {e : Env} {R : Room} {s : State} {m : MethodId} {args : Array Value} {below : List Frame} {meth : Method} {c : Code} {H : Heap} {locs : List Loc} {D : va_G} {ws ws' : va_W} {A : Nat → Prop} {b : Nat} {cc : ByteArray} {pc : Nat} {ls : Array Slot} {ret : Option FieldType} (hx : p.tables.exec = Jvm.exec) (hb : c.code = cc) (hr : meth.sig.returnType = ret) (hrt : ∃ n, ret = some (.object n)) (hlk : meth.locks = false) (hS : va_S A s.heap H locs) (hP : va_P D vwCl ws H) (hD : va_D A ws) (hw : ws = ws') (hdg : decode cc pc = .ok (.areturn, 1)) :
    W p l e R s m args below meth c H locs 0 0 (MQ below (qR D A b ws') args s 0 0 A) (F0 m pc ls [.ref b]) := by
  subst hw
  obtain ⟨n, rfl⟩ := hrt
  exact W.aret (v := .ref b) hx hb hr (Or.inl ⟨n, rfl⟩) (Or.inr ⟨b, rfl⟩) (fun t ht _ => ⟨⟨(), b, rfl, trivial, rfl, by rw [ht]; exact hP, hD⟩, hS.F ht⟩) hS.2.2 hdg
abbrev RtR (p : Program) (l : Launch) (e : Env) (R : Room) (s : State) (m : MethodId) (args : Array Value) (below : List Frame) (meth : Method) (c : Code) (D : va_G) (A : Nat → Prop) (cc : ByteArray) (b : Nat) (ws' : va_W) (Q : State → Prop) : Prop :=
  ∀ (H : Heap) (locs : List Loc) (pc : Nat) (ls : Array Slot) (ws : va_W), va_P D vwCl ws H → va_D A ws → va_S A s.heap H locs → ws = ws' → decode cc pc = .ok (.areturn, 1) → W p l e R s m args below meth c H locs 0 0 Q (F0 m pc ls [.ref b])
theorem MRS.of {l : Launch} {y : MethodName} {cY : ByteArray} {nY : Nat} {ret : Option FieldType} {rm : Room} {D : va_G} {cy : Nat → ClassId} {en g : Nat → Nat} {ws : va_W} {sz : Nat} {av : List Value} {b : Nat} {ws' : va_W} (hrt : ∃ n, ret = some (.object n)) (hy : plainFor y = true) (hav : (lg_sl av).length ≤ nY)
    (body : ∀ (p : Program) (e : Env) (s : State) (m : MethodId) (args : Array Value) (below : List Frame) (meth : Method) (c : Code) (A : Nat → Prop) (ls : Array Slot) (Q : State → Prop), At p s m meth c y cY nY ret args D cy → ST en g A s s.heap →
      va_P D vwCl ws s.heap → va_D A ws → (∀ q : Nat, s.heap.size ≤ q → A q) → va_S A s.heap s.heap [] → lv_has ls nY (lv_args 0 av) → RtR p l e rm s m args below meth c D A cY b ws' Q →
      W p l e rm s m args below meth c s.heap [] 0 0 Q (F0 m 0 ls [])) : MRS l y cY nY ret rm D cy en g ws sz av b ws' :=
  of_bodyS (Qc := fun A => qR D A b ws') hy hav (fun p e s m below meth c A ls hAt hX hP hD hA hS hl => body p e s m _ below meth c A ls _ hAt hX hP hD hA hS hl (fun H locs pc ls ws hP hD hS hw hd => ret_r hAt.1 hAt.2.1 hAt.2.2.1 hrt hAt.2.2.2.2.2.2.1 hS hP hD hw hd))
theorem sel_priv {s : State} {args : Array Value} {C : String} {x0 y : MethodName} (h0 : (Cond.selects C x0 x0).before args s = true) (hp : (Cond.privateMethod y).before args s = true) (hi : (Cond.instanceMethod y).before args s = true) (hcls : x0.cls = y.cls) (hy : y.cls ≠ "java/lang/invoke/MethodHandle" ∧ y.cls ≠ "java/lang/invoke/VarHandle") : (Cond.selects C y y).before args s = true := by
  obtain ⟨mk, methM, hnamed, hmethM, -, -⟩ := Cond.instanceMethod_spec hi
  have hfound : s.methodFound? y.cls y.name y.desc = some mk := State.methodFound?_of_named hnamed hy
  have hsel : ∀ c, selectMethod {} s.vm c mk = .method mk := fun c => selectMethod_private hmethM (Cond.privateMethod_at hp mk methM hnamed hmethM)
  simp only [Cond.before, Cond.holds, Cond.value] at h0 ⊢
  cases hc : s.vm.findClass C with
  | none => simp [hc] at h0
  | some c =>
    cases hf0 : s.methodFound? x0.cls x0.name x0.desc with
    | none => simp [hc, hf0] at h0
    | some r =>
      cases hm0 : s.methodNamed? x0 with
      | none => simp [hc, hf0, hm0] at h0
      | some m0 =>
        have e1 : s.vm.findClass y.cls = some m0.cls := hcls ▸ findClass_of_methodNamed hm0
        have e2 : m0.cls = mk.cls := Option.some.inj (e1.symm.trans (findClass_of_methodNamed hnamed))
        simp only [hc, hf0, hm0] at h0
        simp only [hfound, hnamed, hsel]
        rw [← e2]
        split at h0 <;> simp_all
section CALLSB
variable {p : Program} {l : Launch} {e : Env} {R : Room} {s : State} {m : MethodId} {args : Array Value} {below : List Frame} {meth : Method} {c : Code} {H : Heap} {locs : List Loc} {cells slots : Nat} {Q : State → Prop} {D : va_G} {cy : Nat → ClassId} {ws ws' : va_W} {A : Nat → Prop} {r : Int32} {cc : ByteArray} {pc : Nat} {ls : Array Slot}
  {own C owner : String} {y x x0 : MethodName} {cY : ByteArray} {nY nL index : Nat} {ret : Option FieldType} {rm : Room} {X : State → Prop} {b b' : Nat} {As rest st : List Value}
theorem goR (hS : va_S A s.heap H locs) (hD : va_D A ws) (hA : ∀ q : Nat, s.heap.size ≤ q → A q) {a : Array Value}
    (hr : va_Run p l e R s m args below meth c H locs cells slots 0 0 (F0 m pc ls st) rest (qR D (va_A ws H.size) b' ws' a) (va_A ws H.size))
    (kk : ∀ (H1 : Heap) (locs1 : List Loc), va_P D vwCl ws' H1 → va_D A ws' → va_S A s.heap H1 locs1 → W p l e R s m args below meth c H1 locs1 cells slots Q (F0 m (pc + 3) ls (.ref b' :: rest))) :
    W p l e R s m args below meth c H locs cells slots Q (F0 m pc ls st) := by
  have hF := free_all hD hS hA
  refine va_callr hr hS (fun q _ h => hF q h) hF (fun u ra t H1 locs1 ht hvm hw hB hz hk hS1 => ?_)
  obtain ⟨hra, hP1, hD1⟩ := hB
  subst hra
  rw [ht] at hP1
  exact kk H1 locs1 hP1 (hD1.weaken (fun k q _ h => hF q.1 h)) hS1
theorem cV_r {en g : Nat → Nat} {n : Nat} (hx : p.tables.exec = Jvm.exec) (hb : c.code = cc) (hml : c.maxLocals = nL) (hown : s.vm.findClass own = some m.cls) (hw : ∀ w ∈ WA, w.before args s = true) (hK : va_K D vwCl (tyL cy) s) (hN : NW s) (hA : ∀ q : Nat, s.heap.size ≤ q → A q) (hsz : ls.size = nL)
    (hP : va_P D vwCl ws H) (hD : va_D A ws) (hS : va_S A s.heap H locs)
    (k1 : Cond.methodLink own index y ∈ WA) (k2 : Cond.instanceMethod y ∈ WA) (k3 : Cond.selects C y y ∈ WA) (k4 : Cond.initialized y.cls ∈ WA) (k5 : Cond.code y cY nY ret ∈ WA)
    (hM : MRS l y cY nY ret rm D cy en g ws H.size (.ref b :: As) b' ws') (hX : ∀ U : State, U.heap = H → s.WarmedH U.vm → XS en g ws H.size U) (hXk : Xok (XS en g ws H.size))
    {ci q0 N : Nat} {T : u_T} {fs : List Value} (he : ws[q0]? = some (b, .inr (ci, fs))) (hc : vwCl[ci]? = some (C, T, N)) (hrm : rm.cells = 0 ∧ rm.slots = 0)
    (hd : y.cls ≠ "java/lang/invoke/MethodHandle" ∧ y.cls ≠ "java/lang/invoke/VarHandle" ∧ (parseMethodDescriptor y.desc).map (fun d => d.parameters.length) = some n) (hn : As.length = n) (hR : rm.frames + 1 ≤ R.frames ∧ 8 + (nY + 11) + rm.locals ≤ R.locals)
    (hcs : cells ≤ R.cells ∧ slots ≤ R.slots) (hst : (rest.map fun v => v.category).sum ≤ 8) (hstk : st = As.reverse ++ .ref b :: rest) (hdg : decode cc pc = .ok (.invokevirtual index, 3))
    (kk : ∀ (H1 : Heap) (locs1 : List Loc), va_P D vwCl ws' H1 → va_D A ws' → va_S A s.heap H1 locs1 → W p l e R s m args below meth c H1 locs1 cells slots Q (F0 m (pc + 3) ls (.ref b' :: rest))) :
    W p l e R s m args below meth c H locs cells slots Q (F0 m pc ls st) :=
  goR hS hD hA (va_runV (As := As) (rest := rest) ⟨hx, hb, hml, hown, hw⟩ hM ⟨cB hw k1 k4 k5 hrm hd hR, hw _ k2, hw _ k3⟩ ⟨pW_blind hXk, va_recv hK hP hc he, pW_call hP hK hD hN hX⟩ rfl hn hsz hstk (lv_room hst) hdg hcs) kk
theorem cwS' {n : Nat} (hw : ∀ w ∈ WA, w.before args s = true) (k1 : Cond.methodLink own index y ∈ WA) (k2 : Cond.sameMethod y.cls y.cls y.name y.desc ∈ WA) (k3 : Cond.superclass own y.cls ∈ WA) (k6 : Cond.instanceMethod y ∈ WA) (k4 : Cond.initialized y.cls ∈ WA) (k5 : Cond.code y cY nY ret ∈ WA) (hrm : rm.cells = 0 ∧ rm.slots = 0)
    (hd : y.name ≠ "<init>" ∧ (parseMethodDescriptor y.desc).map (fun d => d.parameters.length) = some n) (hR : rm.frames + 1 ≤ R.frames ∧ 8 + (nY + 11) + rm.locals ≤ R.locals) :
    va_CS R s args own index y cY nY ret (Cond.code y cY nY ret :: WA) rm 0 0 n := by
  refine va_cwSU n hw (fun w h => ?_) rfl hrm.1 hrm.2 hd hR
  rcases List.mem_append.mp h with h | h
  · have hm : w ∈ WA := by
      simp only [List.mem_cons, List.not_mem_nil, or_false] at h
      rcases h with rfl | rfl | rfl | rfl | rfl <;> assumption
    exact ⟨hm, good_of_word (wa_good _ hm)⟩
  · exact codeGood k5 w h
theorem runSU' {n mc ms : Nat} {Qc : Array Value → State → Outcome → State → Prop} {free : Addr → Prop} (hx : p.tables.exec = Jvm.exec) (hb : c.code = cc) (hml : c.maxLocals = nL) (hown : s.vm.findClass own = some m.cls) (hw : ∀ w ∈ WA, w.before args s = true) (hK : va_K D vwCl (tyL cy) s) (hN : NW s) (hsz : ls.size = nL)
    (hP : va_P D vwCl ws H) (hD : va_D A ws)
    (hM : Met l y (Cond.code y cY nY ret :: WA) rm (pW D cy ws H.size X (.ref b :: As)) Qc mc ms free) (hX : ∀ U : State, U.heap = H → s.WarmedH U.vm → X U) (hXk : Xok X) (cw : va_CS R s args own index y cY nY ret (Cond.code y cY nY ret :: WA) rm mc ms n)
    {ci q0 N : Nat} {T : u_T} {fs : List Value} (he : ws[q0]? = some (b, .inr (ci, fs))) (hc : vwCl[ci]? = some (C, T, N))
    (hn : As.length = n) (hcs : cells + mc ≤ R.cells ∧ slots + ms ≤ R.slots) (hst : (rest.map fun v => v.category).sum ≤ 8) (hstk : st = As.reverse ++ .ref b :: rest) (hdg : decode cc pc = .ok (.invokespecial index, 3)) :
    va_Run p l e R s m args below meth c H locs cells slots mc ms (F0 m pc ls st) rest (Qc (Value.ref b :: As).toArray) free :=
  va_runSU (As := As) (rest := rest) (hK.1 ci _ hc).2 ⟨hx, hb, hml, hown, hw⟩ hM cw ⟨pW_blind hXk, va_recv hK hP hc he, pW_call hP hK hD hN hX⟩ rfl hn hsz hstk (lv_room hst) hdg hcs
theorem cQ_i {n : Nat} (hx : p.tables.exec = Jvm.exec) (hb : c.code = cc) (hml : c.maxLocals = nL) (hown : s.vm.findClass own = some m.cls) (hw : ∀ w ∈ WA, w.before args s = true) (hK : va_K D vwCl (tyL cy) s) (hN : NW s) (hA : ∀ q : Nat, s.heap.size ≤ q → A q) (hsz : ls.size = nL)
    (hP : va_P D vwCl ws H) (hD : va_D A ws) (hS : va_S A s.heap H locs)
    (k1 : Cond.methodLink own index y ∈ WA) (k2 : Cond.sameMethod y.cls y.cls y.name y.desc ∈ WA) (k3 : Cond.superclass own y.cls ∈ WA) (k6 : Cond.instanceMethod y ∈ WA) (k4 : Cond.initialized y.cls ∈ WA) (k5 : Cond.code y cY nY ret ∈ WA)
    (hM : MI l y cY nY ret rm D cy ws H.size X (.ref b :: As) r ws') (hX : ∀ U : State, U.heap = H → s.WarmedH U.vm → X U) (hXk : Xok X)
    {ci q0 N : Nat} {T : u_T} {fs : List Value} (he : ws[q0]? = some (b, .inr (ci, fs))) (hc : vwCl[ci]? = some (C, T, N)) (hrm : rm.cells = 0 ∧ rm.slots = 0)
    (hd : y.name ≠ "<init>" ∧ (parseMethodDescriptor y.desc).map (fun d => d.parameters.length) = some n) (hn : As.length = n) (hR : rm.frames + 1 ≤ R.frames ∧ 8 + (nY + 11) + rm.locals ≤ R.locals)
    (hcs : cells ≤ R.cells ∧ slots ≤ R.slots) (hst : (rest.map fun v => v.category).sum ≤ 8) (hstk : st = As.reverse ++ .ref b :: rest) (hdg : decode cc pc = .ok (.invokespecial index, 3))
    (kk : ∀ (H1 : Heap) (locs1 : List Loc), va_P D vwCl ws' H1 → va_D A ws' → va_S A s.heap H1 locs1 → W p l e R s m args below meth c H1 locs1 cells slots Q (F0 m (pc + 3) ls (.int r :: rest))) :
    W p l e R s m args below meth c H locs cells slots Q (F0 m pc ls st) :=
  goI hS hD hA (runSU' hx hb hml hown hw hK hN hsz hP hD hM hX hXk (cwS' hw k1 k2 k3 k6 k4 k5 hrm hd hR) he hc hn hcs hst hstk hdg) kk
theorem cQ_v {n : Nat} (hx : p.tables.exec = Jvm.exec) (hb : c.code = cc) (hml : c.maxLocals = nL) (hown : s.vm.findClass own = some m.cls) (hw : ∀ w ∈ WA, w.before args s = true) (hK : va_K D vwCl (tyL cy) s) (hN : NW s) (hA : ∀ q : Nat, s.heap.size ≤ q → A q) (hsz : ls.size = nL)
    (hP : va_P D vwCl ws H) (hD : va_D A ws) (hS : va_S A s.heap H locs)
    (k1 : Cond.methodLink own index y ∈ WA) (k2 : Cond.sameMethod y.cls y.cls y.name y.desc ∈ WA) (k3 : Cond.superclass own y.cls ∈ WA) (k6 : Cond.instanceMethod y ∈ WA) (k4 : Cond.initialized y.cls ∈ WA) (k5 : Cond.code y cY nY none ∈ WA)
    (hM : MV l y cY nY rm D cy ws H.size X (.ref b :: As) ws') (hX : ∀ U : State, U.heap = H → s.WarmedH U.vm → X U) (hXk : Xok X)
    {ci q0 N : Nat} {T : u_T} {fs : List Value} (he : ws[q0]? = some (b, .inr (ci, fs))) (hc : vwCl[ci]? = some (C, T, N)) (hrm : rm.cells = 0 ∧ rm.slots = 0)
    (hd : y.name ≠ "<init>" ∧ (parseMethodDescriptor y.desc).map (fun d => d.parameters.length) = some n) (hn : As.length = n) (hR : rm.frames + 1 ≤ R.frames ∧ 8 + (nY + 11) + rm.locals ≤ R.locals)
    (hcs : cells ≤ R.cells ∧ slots ≤ R.slots) (hst : (rest.map fun v => v.category).sum ≤ 8) (hstk : st = As.reverse ++ .ref b :: rest) (hdg : decode cc pc = .ok (.invokespecial index, 3))
    (kk : ∀ (H1 : Heap) (locs1 : List Loc), va_P D vwCl ws' H1 → va_D A ws' → va_S A s.heap H1 locs1 → W p l e R s m args below meth c H1 locs1 cells slots Q (F0 m (pc + 3) ls rest)) :
    W p l e R s m args below meth c H locs cells slots Q (F0 m pc ls st) :=
  goV hS hD hA (runSU' hx hb hml hown hw hK hN hsz hP hD hM hX hXk (cwS' hw k1 k2 k3 k6 k4 k5 hrm hd hR) he hc hn hcs hst hstk hdg) kk
theorem cQ_r {en g : Nat → Nat} {n : Nat} (hx : p.tables.exec = Jvm.exec) (hb : c.code = cc) (hml : c.maxLocals = nL) (hown : s.vm.findClass own = some m.cls) (hw : ∀ w ∈ WA, w.before args s = true) (hK : va_K D vwCl (tyL cy) s) (hN : NW s) (hA : ∀ q : Nat, s.heap.size ≤ q → A q) (hsz : ls.size = nL)
    (hP : va_P D vwCl ws H) (hD : va_D A ws) (hS : va_S A s.heap H locs)
    (k1 : Cond.methodLink own index y ∈ WA) (k2 : Cond.sameMethod y.cls y.cls y.name y.desc ∈ WA) (k3 : Cond.superclass own y.cls ∈ WA) (k6 : Cond.instanceMethod y ∈ WA) (k4 : Cond.initialized y.cls ∈ WA) (k5 : Cond.code y cY nY ret ∈ WA)
    (hM : MRS l y cY nY ret rm D cy en g ws H.size (.ref b :: As) b' ws') (hX : ∀ U : State, U.heap = H → s.WarmedH U.vm → XS en g ws H.size U) (hXk : Xok (XS en g ws H.size))
    {ci q0 N : Nat} {T : u_T} {fs : List Value} (he : ws[q0]? = some (b, .inr (ci, fs))) (hc : vwCl[ci]? = some (C, T, N)) (hrm : rm.cells = 0 ∧ rm.slots = 0)
    (hd : y.name ≠ "<init>" ∧ (parseMethodDescriptor y.desc).map (fun d => d.parameters.length) = some n) (hn : As.length = n) (hR : rm.frames + 1 ≤ R.frames ∧ 8 + (nY + 11) + rm.locals ≤ R.locals)
    (hcs : cells ≤ R.cells ∧ slots ≤ R.slots) (hst : (rest.map fun v => v.category).sum ≤ 8) (hstk : st = As.reverse ++ .ref b :: rest) (hdg : decode cc pc = .ok (.invokespecial index, 3))
    (kk : ∀ (H1 : Heap) (locs1 : List Loc), va_P D vwCl ws' H1 → va_D A ws' → va_S A s.heap H1 locs1 → W p l e R s m args below meth c H1 locs1 cells slots Q (F0 m (pc + 3) ls (.ref b' :: rest))) :
    W p l e R s m args below meth c H locs cells slots Q (F0 m pc ls st) :=
  goR hS hD hA (runSU' hx hb hml hown hw hK hN hsz hP hD hM hX hXk (cwS' hw k1 k2 k3 k6 k4 k5 hrm hd hR) he hc hn hcs hst hstk hdg) kk
/-- a private method of the receiver's superclass -/
theorem cP_v {n : Nat} (hx : p.tables.exec = Jvm.exec) (hb : c.code = cc) (hml : c.maxLocals = nL) (hown : s.vm.findClass own = some m.cls) (hw : ∀ w ∈ WA, w.before args s = true) (hK : va_K D vwCl (tyL cy) s) (hN : NW s) (hA : ∀ q : Nat, s.heap.size ≤ q → A q) (hsz : ls.size = nL)
    (hP : va_P D vwCl ws H) (hD : va_D A ws) (hS : va_S A s.heap H locs)
    (k1 : Cond.methodLink own index y ∈ WA) (k2 : Cond.sameMethod y.cls y.cls y.name y.desc ∈ WA) (k3 : Cond.selects C y y ∈ WA) (k6 : Cond.instanceMethod y ∈ WA) (k4 : Cond.initialized y.cls ∈ WA) (k5 : Cond.code y cY nY none ∈ WA)
    (hM : MV l y cY nY rm D cy ws H.size X (.ref b :: As) ws') (hX : ∀ U : State, U.heap = H → s.WarmedH U.vm → X U) (hXk : Xok X)
    {ci q0 N : Nat} {T : u_T} {fs : List Value} (he : ws[q0]? = some (b, .inr (ci, fs))) (hc : vwCl[ci]? = some (C, T, N)) (hrm : rm.cells = 0 ∧ rm.slots = 0)
    (hd : y.cls ≠ "java/lang/invoke/MethodHandle" ∧ y.cls ≠ "java/lang/invoke/VarHandle" ∧ (parseMethodDescriptor y.desc).map (fun d => d.parameters.length) = some n) (hn : As.length = n) (hR : rm.frames + 1 ≤ R.frames ∧ 8 + (nY + 11) + rm.locals ≤ R.locals)
    (hcs : cells ≤ R.cells ∧ slots ≤ R.slots) (hst : (rest.map fun v => v.category).sum ≤ 8) (hstk : st = As.reverse ++ .ref b :: rest) (hdg : decode cc pc = .ok (.invokevirtual index, 3))
    (kk : ∀ (H1 : Heap) (locs1 : List Loc), va_P D vwCl ws' H1 → va_D A ws' → va_S A s.heap H1 locs1 → W p l e R s m args below meth c H1 locs1 cells slots Q (F0 m (pc + 3) ls rest)) :
    W p l e R s m args below meth c H locs cells slots Q (F0 m pc ls st) :=
  goV hS hD hA (va_runU (As := As) (rest := rest) ⟨hx, hb, hml, hown, hw⟩ hM (cwU' hw k1 k2 k3 k6 k4 k5 rfl hrm hd hR) ⟨pW_blind hXk, va_recv hK hP hc he, pW_call hP hK hD hN hX⟩ rfl hn hsz hstk (lv_room hst) hdg hcs) kk
theorem bast' {tys : List (ClassId × FieldType)} {cl : List vw_C} {H0 : Heap} {a : Nat} (hx : p.tables.exec = Jvm.exec) (hb : c.code = cc) (hK : va_K D cl tys s) (hP : va_P D cl ws H) (hD : va_D A ws) (hS : va_S A H0 H locs) {q0 t0 : Nat} {cA : ClassId} {n : Nat} {f : Nat → Int32} (ha : ws[q0]? = some (a, .inl (cA, n, .inl f))) (ht : tys[t0]? = some (cA, .byte)) {i : Int32} {x : Int32} (hin : vp_in i n) (hdg : decode cc pc = .ok (.bastore, 1)) (hws : ws.set q0 (a, .inl (cA, n, .inl (upd f i.toNatClampNeg (vp_nar .byte x)))) = ws') (kk : ∀ (H1 : Heap) (locs1 : List Loc), va_P D cl ws' H1 → va_D A ws' → va_S A H0 H1 locs1 → W p l e R s m args below meth c H1 locs1 cells slots Q (F0 m (pc + 1) ls rest)) : W p l e R s m args below meth c H locs cells slots Q (F0 m pc ls (.int x :: .int i :: .ref a :: rest)) := by
  subst hws
  exact va_bast hx hb hK hP hD hS q0 t0 ha ht hin hdg kk
end CALLSB
