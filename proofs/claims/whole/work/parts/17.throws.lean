/-! methods that look at the statics, and methods that throw -/
theorem of_bodyS {l : Launch} {y : MethodName} {cY : ByteArray} {nY : Nat} {ret : Option FieldType} {rm : Room} {D : va_G} {cy : Nat → ClassId} {en g : Nat → Nat} {ws : va_W} {sz : Nat} {av : List Value}
    {Qc : (Nat → Prop) → Array Value → State → Outcome → State → Prop} {mc ms : Nat} (hy : plainFor y = true) (hav : (lg_sl av).length ≤ nY)
    (body : ∀ (p : Program) (e : Env) (s : State) (m : MethodId) (below : List Frame) (meth : Method) (c : Code) (A : Nat → Prop) (ls : Array Slot), At p s m meth c y cY nY ret av.toArray D cy → ST en g A s s.heap →
      va_P D vwCl ws s.heap → va_D A ws → (∀ q : Nat, s.heap.size ≤ q → A q) → va_S A s.heap s.heap [] → lv_has ls nY (lv_args 0 av) →
      W p l e rm s m av.toArray below meth c s.heap [] 0 0 (MQ below (Qc A) av.toArray s mc ms A) (F0 m 0 ls [])) :
    Met l y (Cond.code y cY nY ret :: WA) rm (pW D cy ws sz (XS en g ws sz) av) (Qc (va_A ws sz)) mc ms (va_A ws sz) := by
  refine met_ofF (cc := cY) (maxL := nY) (ret := ret) hy rfl ?_
  intro p e s m args below meth c s₁ B hml hv
  obtain ⟨rfl, hsz, hP, hK, hD0, hN, hX⟩ := hv
  have hts := atoms_spec (ws := Cond.code y cY nY ret :: WA) B.pre
  subst hsz
  have hl := lv_entry av (n := nY) hav
  rw [lg_entry_eq]
  exact body p e s m below meth c (va_A ws s.heap.size) _ ⟨B.exec, B.bytes, B.returns, hml, findClass_of_methodNamed B.named, fun w h => hts w (List.mem_cons_of_mem _ h), B.notSynchronized, hK, hN⟩ hX hP (hD0.self (sz := s.heap.size)) (fun q h => Or.inr h) va_S.rf hl
abbrev MIS (l : Launch) (y : MethodName) (cY : ByteArray) (nY : Nat) (ret : Option FieldType) (rm : Room) (D : va_G) (cy : Nat → ClassId) (en g : Nat → Nat) (ws : va_W) (sz : Nat) (av : List Value) (r : Int32) (ws' : va_W) : Prop := MI l y cY nY ret rm D cy ws sz (XS en g ws sz) av r ws'
abbrev MVS (l : Launch) (y : MethodName) (cY : ByteArray) (nY : Nat) (rm : Room) (D : va_G) (cy : Nat → ClassId) (en g : Nat → Nat) (ws : va_W) (sz : Nat) (av : List Value) (ws' : va_W) : Prop := MV l y cY nY rm D cy ws sz (XS en g ws sz) av ws'
theorem MIS.of {l : Launch} {y : MethodName} {cY : ByteArray} {nY : Nat} {rm : Room} {D : va_G} {cy : Nat → ClassId} {en g : Nat → Nat} {ws : va_W} {sz : Nat} {av : List Value} {r : Int32} {ws' : va_W} (hy : plainFor y = true) (hav : (lg_sl av).length ≤ nY)
    (body : ∀ (p : Program) (e : Env) (s : State) (m : MethodId) (args : Array Value) (below : List Frame) (meth : Method) (c : Code) (A : Nat → Prop) (ls : Array Slot) (Q : State → Prop), At p s m meth c y cY nY (some .int) args D cy → ST en g A s s.heap →
      va_P D vwCl ws s.heap → va_D A ws → (∀ q : Nat, s.heap.size ≤ q → A q) → va_S A s.heap s.heap [] → lv_has ls nY (lv_args 0 av) → RtI p l e rm s m args below meth c D A cY r ws' Q →
      W p l e rm s m args below meth c s.heap [] 0 0 Q (F0 m 0 ls [])) : MIS l y cY nY (some .int) rm D cy en g ws sz av r ws' :=
  of_bodyS (Qc := fun A => qI D A r ws') hy hav (fun p e s m below meth c A ls hAt hX hP hD hA hS hl => body p e s m _ below meth c A ls _ hAt hX hP hD hA hS hl (fun H locs pc ls ws v hP hD hS hw hv hd => ret_i hAt.1 hAt.2.1 hAt.2.2.1 hAt.2.2.2.2.2.2.1 hS hP hD hv hw hd))
theorem MZS.of {l : Launch} {y : MethodName} {cY : ByteArray} {nY : Nat} {rm : Room} {D : va_G} {cy : Nat → ClassId} {en g : Nat → Nat} {ws : va_W} {sz : Nat} {av : List Value} {r : Int32} {ws' : va_W} (hy : plainFor y = true) (hav : (lg_sl av).length ≤ nY)
    (body : ∀ (p : Program) (e : Env) (s : State) (m : MethodId) (args : Array Value) (below : List Frame) (meth : Method) (c : Code) (A : Nat → Prop) (ls : Array Slot) (Q : State → Prop), At p s m meth c y cY nY (some .boolean) args D cy → ST en g A s s.heap →
      va_P D vwCl ws s.heap → va_D A ws → (∀ q : Nat, s.heap.size ≤ q → A q) → va_S A s.heap s.heap [] → lv_has ls nY (lv_args 0 av) → RtN p l e rm s m args below meth c D A cY .boolean r ws' Q →
      W p l e rm s m args below meth c s.heap [] 0 0 Q (F0 m 0 ls [])) : MIS l y cY nY (some .boolean) rm D cy en g ws sz av r ws' :=
  of_bodyS (Qc := fun A => qI D A r ws') hy hav (fun p e s m below meth c A ls hAt hX hP hD hA hS hl => body p e s m _ below meth c A ls _ hAt hX hP hD hA hS hl (fun H locs pc ls ws v hP hD hS hw hv hn hd => ret_z hAt.1 hAt.2.1 hAt.2.2.1 hAt.2.2.2.2.2.2.1 hS hP hD hn hv hw hd))
theorem MVS.of {l : Launch} {y : MethodName} {cY : ByteArray} {nY : Nat} {rm : Room} {D : va_G} {cy : Nat → ClassId} {en g : Nat → Nat} {ws : va_W} {sz : Nat} {av : List Value} {ws' : va_W} (hy : plainFor y = true) (hav : (lg_sl av).length ≤ nY)
    (body : ∀ (p : Program) (e : Env) (s : State) (m : MethodId) (args : Array Value) (below : List Frame) (meth : Method) (c : Code) (A : Nat → Prop) (ls : Array Slot) (Q : State → Prop), At p s m meth c y cY nY none args D cy → ST en g A s s.heap →
      va_P D vwCl ws s.heap → va_D A ws → (∀ q : Nat, s.heap.size ≤ q → A q) → va_S A s.heap s.heap [] → lv_has ls nY (lv_args 0 av) → RtV p l e rm s m args below meth c D A cY ws' Q →
      W p l e rm s m args below meth c s.heap [] 0 0 Q (F0 m 0 ls [])) : MVS l y cY nY rm D cy en g ws sz av ws' :=
  of_bodyS (Qc := fun A => qV D A ws') hy hav (fun p e s m below meth c A ls hAt hX hP hD hA hS hl => body p e s m _ below meth c A ls _ hAt hX hP hD hA hS hl (fun H locs pc ls ws hP hD hS hw hd => ret_v hAt.1 hAt.2.1 hAt.2.2.1 hAt.2.2.2.2.2.2.1 hS hP hD hw hd))
/-! a method that answers r (code 0) or throws what E says of its code -/
abbrev qIc (D : va_G) (A : Nat → Prop) (code r : Int32) (ws' : va_W) : Array Value → State → Outcome → State → Prop := va_Qi (fun (r' : Int32) (_ : Unit) => code = 0 ∧ r' = r) (bW D A ws') A
abbrev qVc (D : va_G) (A : Nat → Prop) (code : Int32) (ws' : va_W) : Array Value → State → Outcome → State → Prop := va_Qv (fun (_ : Unit) => code = 0) (bW D A ws') A
abbrev xC (D : va_G) (A : Nat → Prop) (code : Int32) (E : Int32 → String) (ws' : va_W) : String → State → State → Prop := vx_X (fun _ : Unit => ¬ code = 0) (fun En _ t => En = E code ∧ va_P D vwCl ws' t.heap ∧ va_D A ws') A
def MT (l : Launch) (y : MethodName) (cY : ByteArray) (nY : Nat) (ret : Option FieldType) (rm : Room) (D : va_G) (cy : Nat → ClassId) (en g : Nat → Nat) (ws : va_W) (sz : Nat) (av : List Value) (E : Int32 → String) (code r : Int32) (ws' : va_W) : Prop :=
  vx_Met l y (Cond.code y cY nY ret :: WA) rm (pW D cy ws sz (XS en g ws sz) av) (qIc D (va_A ws sz) code r ws') (xC D (va_A ws sz) code E ws') 1 6 (va_A ws sz)
def MTV (l : Launch) (y : MethodName) (cY : ByteArray) (nY : Nat) (rm : Room) (D : va_G) (cy : Nat → ClassId) (en g : Nat → Nat) (ws : va_W) (sz : Nat) (av : List Value) (E : Int32 → String) (code : Int32) (ws' : va_W) : Prop :=
  vx_Met l y (Cond.code y cY nY none :: WA) rm (pW D cy ws sz (XS en g ws sz) av) (qVc D (va_A ws sz) code ws') (xC D (va_A ws sz) code E ws') 1 6 (va_A ws sz)
/-- the rule by which a throw ends a method -/
abbrev RtX (p : Program) (l : Launch) (e : Env) (R : Room) (s : State) (m : MethodId) (args : Array Value) (below : List Frame) (meth : Method) (c : Code) (D : va_G) (A : Nat → Prop) (cc : ByteArray) (E : Int32 → String) (code : Int32) (ws' : va_W) (Q : State → Prop) : Prop :=
  ∀ (H : Heap) (locs : List Loc) (pc : Nat) (ls : Array Slot) (rest : List Value) (cells slots : Nat) (q : Addr) (ce : Cell), cells ≤ 1 → slots ≤ 6 → va_P D vwCl ws' H → va_D A ws' → va_S A s.heap H locs → ¬ code = 0 → H[q]? = some ce → ce.vm = .none → s.vm.findClass (E code) = some ce.cls → vx_W p l e R s m args below meth c H locs cells slots Q (F0 m pc ls rest) q
theorem of_bodyT {l : Launch} {y : MethodName} {cY : ByteArray} {nY : Nat} {ret : Option FieldType} {rm : Room} {D : va_G} {cy : Nat → ClassId} {en g : Nat → Nat} {ws : va_W} {sz : Nat} {av : List Value}
    {Qc : (Nat → Prop) → Array Value → State → Outcome → State → Prop} {XC : (Nat → Prop) → String → State → State → Prop} (hy : plainName y.cls = true) (hav : (lg_sl av).length ≤ nY)
    (body : ∀ (p : Program) (e : Env) (s : State) (m : MethodId) (below : List Frame) (meth : Method) (c : Code) (A : Nat → Prop) (ls : Array Slot), At p s m meth c y cY nY ret av.toArray D cy → (∀ x ∈ c.exceptionTable.toList, False) → ST en g A s s.heap →
      va_P D vwCl ws s.heap → va_D A ws → (∀ q : Nat, s.heap.size ≤ q → A q) → va_S A s.heap s.heap [] → lv_has ls nY (lv_args 0 av) →
      W p l e rm s m av.toArray below meth c s.heap [] 0 0 (vx_MQ below (Qc A) (XC A) av.toArray s 1 6 A) (F0 m 0 ls [])) :
    vx_Met l y (Cond.code y cY nY ret :: WA) rm (pW D cy ws sz (XS en g ws sz) av) (Qc (va_A ws sz)) (XC (va_A ws sz)) 1 6 (va_A ws sz) := by
  refine vx_ofW (cc := cY) (maxL := nY) (ret := ret) hy rfl ?_
  intro p e s m args below meth c s₁ B hml htb hv
  obtain ⟨rfl, hsz, hP, hK, hD0, hN, hX⟩ := hv
  have hts := atoms_spec (ws := Cond.code y cY nY ret :: WA) B.pre
  subst hsz
  have hl := lv_entry av (n := nY) hav
  rw [lg_entry_eq]
  exact body p e s m below meth c (va_A ws s.heap.size) _ ⟨B.exec, B.bytes, B.returns, hml, findClass_of_methodNamed B.named, fun w h => hts w (List.mem_cons_of_mem _ h), B.notSynchronized, hK, hN⟩ htb hX hP (hD0.self (sz := s.heap.size)) (fun q h => Or.inr h) va_S.rf hl
section RETX
variable {p : Program} {l : Launch} {e : Env} {R : Room} {s : State} {m : MethodId} {args : Array Value} {below : List Frame} {meth : Method} {c : Code} {H : Heap} {locs : List Loc} {cells slots : Nat} {D : va_G} {ws ws' : va_W} {A : Nat → Prop} {code r v : Int32} {E : Int32 → String} {cc : ByteArray} {pc : Nat} {ls : Array Slot} {rest : List Value}
theorem retx_i (hx : p.tables.exec = Jvm.exec) (hb : c.code = cc) (hr : meth.sig.returnType = some .int) (hlk : meth.locks = false) (hc : cells ≤ 1) (hs : slots ≤ 6) (hS : va_S A s.heap H locs) (hP : va_P D vwCl ws H) (hD : va_D A ws) (hv : v = r) (h0 : code = 0) (hw : ws = ws') (hdg : decode cc pc = .ok (.ireturn, 1)) :
    W p l e R s m args below meth c H locs cells slots (vx_MQ below (qIc D A code r ws') (xC D A code E ws') args s 1 6 A) (F0 m pc ls [.int v]) := by
  subst hw
  refine W.widen hc hs (vx_ret ?_)
  exact W.iret (v := v) hx hb hr (fun t ht _ => ⟨⟨v, (), rfl, ⟨h0, hv⟩, by rw [ht]; exact hP, hD⟩, hS.F ht⟩) hS.2.2 hdg
theorem retx_c (hx : p.tables.exec = Jvm.exec) (hb : c.code = cc) (hr : meth.sig.returnType = some .char) (hlk : meth.locks = false) (hc : cells ≤ 1) (hs : slots ≤ 6) (hS : va_S A s.heap H locs) (hP : va_P D vwCl ws H) (hD : va_D A ws) (hn : narrow .char (.int v) = .int v) (hv : v = r) (h0 : code = 0) (hw : ws = ws') (hdg : decode cc pc = .ok (.ireturn, 1)) :
    W p l e R s m args below meth c H locs cells slots (vx_MQ below (qIc D A code r ws') (xC D A code E ws') args s 1 6 A) (F0 m pc ls [.int v]) := by
  subst hw
  refine W.widen hc hs (vx_ret ?_)
  exact W.zret (v := v) hx hb hr hn (fun t ht _ => ⟨⟨v, (), rfl, ⟨h0, hv⟩, by rw [ht]; exact hP, hD⟩, hS.F ht⟩) hS.2.2 hdg
theorem retx_v (hx : p.tables.exec = Jvm.exec) (hb : c.code = cc) (hr : meth.sig.returnType = none) (hlk : meth.locks = false) (hc : cells ≤ 1) (hs : slots ≤ 6) (hS : va_S A s.heap H locs) (hP : va_P D vwCl ws H) (hD : va_D A ws) (h0 : code = 0) (hw : ws = ws') (hdg : decode cc pc = .ok (.return_, 1)) :
    W p l e R s m args below meth c H locs cells slots (vx_MQ below (qVc D A code ws') (xC D A code E ws') args s 1 6 A) (F0 m pc ls []) := by
  subst hw
  refine W.widen hc hs (vx_ret ?_)
  exact W.vret hx hb hr (fun t ht _ => ⟨⟨(), rfl, h0, by rw [ht]; exact hP, hD⟩, hS.F ht⟩) hS.2.2 hdg
end RETX
abbrev exN : List String := ["java/lang/RuntimeException", "java/lang/Exception"]
section THROW
variable {p : Program} {l : Launch} {e : Env} {R : Room} {s : State} {m : MethodId} {args : Array Value} {below : List Frame} {meth : Method} {c : Code} {H : Heap} {locs : List Loc} {cells slots : Nat} {D : va_G} {ws ws' : va_W} {A : Nat → Prop} {code r v : Int32} {E : Int32 → String} {cc : ByteArray} {pc nL : Nat} {ls : Array Slot} {rest : List Value} {en g : Nat → Nat} {Qc : Array Value → State → Outcome → State → Prop} {Q : State → Prop} {cy : Nat → ClassId}
theorem xC_new {H : Heap} (hS : va_S A s.heap H locs) (hP : va_P D vwCl ws H) (hD : va_D A ws) (hc : ¬ code = 0) {cls : String} (hE : E code = cls) : ∀ t : State, s.vm.Alike t.vm → H.size ≤ t.heap.size → (∀ q : Nat, q < H.size → t.heap[q]? = H[q]?) → xC D A code E ws cls s t := by
  intro t _ hz hk
  refine ⟨(), hc, ⟨hE.symm, hP.kept (fun k q h => hk _ (hP k q h).lt), hD⟩, Nat.le_trans hS.1 hz, fun q h1 h2 => ?_⟩
  rw [hk q (Nat.lt_of_lt_of_le h1 hS.1)]
  exact hS.2.1 q h1 h2
/-- new X(text) is thrown -/
theorem thrS (hx : p.tables.exec = Jvm.exec) (hb : c.code = cc) (hl : l.stackTraces = false) (hml : c.maxLocals = nL) (hown : s.vm.findClass "CloudDeeds" = some m.cls) (hw : ∀ w ∈ WA, w.before args s = true) (hN : NW s) (hlk : meth.locks = false) (htb : ∀ x ∈ c.exceptionTable.toList, False) (hST : ST en g A s s.heap)
    (hS : va_S A s.heap H locs) (hP : va_P D vwCl ws H) (hD : va_D A ws) (hsz : ls.size = nL) {ik is ic : Nat} {cls text : String} (i : Nat) (hm : msgs[i]? = some (is, text)) (hcls : Bundle.fit cls = true)
    (k1 : Cond.classLink "CloudDeeds" ik cls ∈ WA) (k2 : Cond.initialized cls ∈ WA) (hat : ∀ w ∈ vx_atS "CloudDeeds" ic cls exN, (w ∈ WA ∨ w ∈ nwL) ∧ vx_ot w = true) (hc : ¬ code = 0) (hE : E code = cls) (hws : ws = ws')
    (d0 : decode cc pc = .ok (.new ik, 3)) (d3 : decode cc (pc + 3) = .ok (.dup, 1)) (d4 : decode cc (pc + 4) = .ok (.ldc is, 2)) (d6 : decode cc (pc + 6) = .ok (.invokespecial ic, 3)) (d9 : decode cc (pc + 9) = .ok (.athrow, 1))
    (hR : 5 < R.frames ∧ 90 ≤ R.locals ∧ cells + 1 ≤ R.cells ∧ slots + 6 ≤ R.slots) (hrest : (rest.map fun v => v.category).sum ≤ 8) (hcs : cells + 1 ≤ 1 ∧ slots + 6 ≤ 6) :
    W p l e R s m args below meth c H locs cells slots (vx_MQ below Qc (xC D A code E ws') args s 1 6 A) (F0 m pc ls rest) := by
  subst hws
  refine vx_throwS (names := exN) hx hb hl hown hcls (by decide) (hw _ k1) (hw _ k2) (hST.2.2.1 i _ hm) (fun w h => ?_) (fun w h => ?_) hST.1 hST.2.1 hS (hsz.trans hml.symm) d0 d3 d4 d6 d9 (fun x h => (htb x h).elim) hR.1 ?_ hR.2.2.1 hR.2.2.2 hlk (xC_new hS hP hD hc hE) hS.2.2 hcs.1 hcs.2
  · rcases (hat w h).1 with h1 | h1
    · exact hw _ h1
    · have h2 := nwL_nest w h1
      have h3 := hN w h1
      cases w <;> first | exact va_Nw.use rfl h3 | exact absurd h2 (by simp [isNest])
  · rcases List.mem_cons.mp h with rfl | h
    · rfl
    · rcases List.mem_cons.mp h with rfl | h
      · rfl
      · exact (hat w h).2
  · have : exN.length = 2 := rfl
    have := hR.2.1
    omega
theorem thrSW (hx : p.tables.exec = Jvm.exec) (hb : c.code = cc) (hl : l.stackTraces = false) (hml : c.maxLocals = nL) (hown : s.vm.findClass "CloudDeeds" = some m.cls) (hw : ∀ w ∈ WA, w.before args s = true) (hN : NW s) (hlk : meth.locks = false) (htb : ∀ x ∈ c.exceptionTable.toList, False) (hST : ST en g A s s.heap)
    (hS : va_S A s.heap H locs) (hP : va_P D vwCl ws H) (hD : va_D A ws) (hsz : ls.size = nL) {ik is ic : Nat} {cls text : String} (i : Nat) (hm : msgs[i]? = some (is, text)) (hcls : Bundle.fit cls = true)
    (k1 : Cond.classLink "CloudDeeds" ik cls ∈ WA) (k2 : Cond.initialized cls ∈ WA) (hat : ∀ w ∈ vx_atS "CloudDeeds" ic cls exN, (w ∈ WA ∨ w ∈ nwL) ∧ vx_ot w = true) (hc : ¬ code = 0) (hE : E code = cls) (hws : ws = ws')
    (d0 : decode cc pc = .ok (.new ik, 3)) (d3 : decode cc (pc + 3) = .ok (.dup, 1)) (d4 : decode cc (pc + 4) = .ok (.ldc_w is, 3)) (d7 : decode cc (pc + 7) = .ok (.invokespecial ic, 3)) (d10 : decode cc (pc + 10) = .ok (.athrow, 1))
    (hR : 5 < R.frames ∧ 90 ≤ R.locals ∧ cells + 1 ≤ R.cells ∧ slots + 6 ≤ R.slots) (hrest : (rest.map fun v => v.category).sum ≤ 8) (hcs : cells + 1 ≤ 1 ∧ slots + 6 ≤ 6) :
    W p l e R s m args below meth c H locs cells slots (vx_MQ below Qc (xC D A code E ws') args s 1 6 A) (F0 m pc ls rest) := by
  subst hws
  refine vx_throwSW (names := exN) hx hb hl hown hcls (by decide) (hw _ k1) (hw _ k2) (hST.2.2.1 i _ hm) (fun w h => ?_) (fun w h => ?_) hST.1 hST.2.1 hS (hsz.trans hml.symm) d0 d3 d4 d7 d10 (fun x h => (htb x h).elim) hR.1 ?_ hR.2.2.1 hR.2.2.2 hlk (xC_new hS hP hD hc hE) hS.2.2 hcs.1 hcs.2
  · rcases (hat w h).1 with h1 | h1
    · exact hw _ h1
    · have h2 := nwL_nest w h1
      have h3 := hN w h1
      cases w <;> first | exact va_Nw.use rfl h3 | exact absurd h2 (by simp [isNest])
  · rcases List.mem_cons.mp h with rfl | h
    · rfl
    · rcases List.mem_cons.mp h with rfl | h
      · rfl
      · exact (hat w h).2
  · have : exN.length = 2 := rfl
    have := hR.2.1
    omega
/-- behind a call that may have thrown -/
theorem goT {code1 r1 : Int32} {E1 : Int32 → String} {st : List Value} {a : Array Value} (hS : va_S A s.heap H locs) (hD : va_D A ws) (hA : ∀ q : Nat, s.heap.size ≤ q → A q)
    (hr : vx_Run p l e R s m args below meth c H locs cells slots 1 6 (F0 m pc ls st) rest (qIc D (va_A ws H.size) code1 r1 ws' a) (xC D (va_A ws H.size) code1 E1 ws') (va_A ws H.size))
    (kx : ∀ (H1 : Heap) (locs1 : List Loc) (q : Addr) (ce : Cell), ¬ code1 = 0 → va_P D vwCl ws' H1 → va_D A ws' → va_S A s.heap H1 locs1 → H1[q]? = some ce → ce.vm = .none → s.vm.findClass (E1 code1) = some ce.cls → vx_W p l e R s m args below meth c H1 locs1 (cells + 1) (slots + 6) Q (F0 m pc ls rest) q)
    (kk : ∀ (H1 : Heap) (locs1 : List Loc), code1 = 0 → va_P D vwCl ws' H1 → va_D A ws' → va_S A s.heap H1 locs1 → W p l e R s m args below meth c H1 locs1 (cells + 1) (slots + 6) Q (F0 m (pc + 3) ls (.int r1 :: rest))) :
    W p l e R s m args below meth c H locs cells slots Q (F0 m pc ls st) := by
  have hF := free_all hD hS hA
  refine vx_calli hr hS (fun q _ h => hF q h) hF (fun q _ h => hF q h) (fun E9 ce q u t H1 locs1 ht hvm hp hB hz hk hS1 hce hcv hcl => ?_) (fun r' u t H1 locs1 ht hvm hw hB hz hk hS1 => ?_)
  · obtain ⟨rfl, hP1, hD1⟩ := hB
    rw [ht] at hP1
    exact kx H1 locs1 q ce hp hP1 (hD1.weaken (fun k q _ h => hF q.1 h)) hS1 hce hcv hcl
  · obtain ⟨hP1, hD1⟩ := hB
    rw [ht] at hP1
    obtain ⟨h0, rfl⟩ := hw
    exact kk H1 locs1 h0 hP1 (hD1.weaken (fun k q _ h => hF q.1 h)) hS1
theorem goTV {code1 : Int32} {E1 : Int32 → String} {st : List Value} {a : Array Value} (hS : va_S A s.heap H locs) (hD : va_D A ws) (hA : ∀ q : Nat, s.heap.size ≤ q → A q)
    (hr : vx_Run p l e R s m args below meth c H locs cells slots 1 6 (F0 m pc ls st) rest (qVc D (va_A ws H.size) code1 ws' a) (xC D (va_A ws H.size) code1 E1 ws') (va_A ws H.size))
    (kx : ∀ (H1 : Heap) (locs1 : List Loc) (q : Addr) (ce : Cell), ¬ code1 = 0 → va_P D vwCl ws' H1 → va_D A ws' → va_S A s.heap H1 locs1 → H1[q]? = some ce → ce.vm = .none → s.vm.findClass (E1 code1) = some ce.cls → vx_W p l e R s m args below meth c H1 locs1 (cells + 1) (slots + 6) Q (F0 m pc ls rest) q)
    (kk : ∀ (H1 : Heap) (locs1 : List Loc), code1 = 0 → va_P D vwCl ws' H1 → va_D A ws' → va_S A s.heap H1 locs1 → W p l e R s m args below meth c H1 locs1 (cells + 1) (slots + 6) Q (F0 m (pc + 3) ls rest)) :
    W p l e R s m args below meth c H locs cells slots Q (F0 m pc ls st) := by
  have hF := free_all hD hS hA
  refine vx_callv hr hS (fun q _ h => hF q h) hF (fun q _ h => hF q h) (fun E9 ce q u t H1 locs1 ht hvm hp hB hz hk hS1 hce hcv hcl => ?_) (fun u t H1 locs1 ht hvm hw hB hz hk hS1 => ?_)
  · obtain ⟨rfl, hP1, hD1⟩ := hB
    rw [ht] at hP1
    exact kx H1 locs1 q ce hp hP1 (hD1.weaken (fun k q _ h => hF q.1 h)) hS1 hce hcv hcl
  · obtain ⟨hP1, hD1⟩ := hB
    rw [ht] at hP1
    exact kk H1 locs1 hw hP1 (hD1.weaken (fun k q _ h => hF q.1 h)) hS1
end THROW
