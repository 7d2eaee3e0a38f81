/-! methods that look at the statics, and methods that throw -/
theorem of_bodyS {l : Launch} {y : MethodName} {cY : ByteArray} {nY : Nat} {ret : Option FieldType} {rm : Room} {D : va_G} {cy : Nat → ClassId} {en g : Nat → Nat} {ws : va_W} {sz : Nat} {av : List Value}
    {Qc : (Nat → Prop) → Array Value → State → Outcome → State → Prop} {mc ms : Nat} (hy : plainFor y = true) (hav : (lg_sl av).length ≤ nY)
    (body : ∀ (p : Program) (e : Env) (s : State) (m : MethodId) (below : List Frame) (meth : Method) (c : Code) (A : Nat → Prop) (ls : Array Slot), At p s m meth c y cY nY ret av.toArray D cy → ST en g A s s.heap →
      va_P D vwCl ws s.heap → va_D A ws → (∀ q : Nat, s.heap.size ≤ q → A q) → va_S A s.heap s.heap [] → lv_has ls nY (lv_args 0 av) →
      W p l e rm s m av.toArray below meth c s.heap [] 0 0 (MQ below (Qc A) av.toArray s mc ms A) (F0 m 0 ls [])) :
    Met l y (Cond.code y cY nY ret :: WA) rm (pW D cy ws sz (XS en g ws sz) av) (Qc (va_A ws sz)) mc ms (va_A ws sz) := by
  refine met_ofF (cc := cY) (maxL := nY) (ret := ret) hy rfl ?_
  intro p e s m args below meth c s₁ B hml hv
  obtain ⟨rfl, hsz, hP, hK, hD0, hN, hX⟩ := hv
  have hts := atoms_spec (ws := Cond.code y cY nY ret :: WA) B.pre
  subst hsz
  have hl := lv_entry av (n := nY) hav
  rw [lg_entry_eq]
  exact body p e s m below meth c (va_A ws s.heap.size) _ ⟨B.exec, B.bytes, B.returns, hml, findClass_of_methodNamed B.named, fun w h => hts w (List.mem_cons_of_mem _ h), B.notSynchronized, hK, hN⟩ hX hP (hD0.self (sz := s.heap.size)) (fun q h => Or.inr h) va_S.rf hl
abbrev MIS (l : Launch) (y : MethodName) (cY : ByteArray) (nY : Nat) (ret : Option FieldType) (rm : Room) (D : va_G) (cy : Nat → ClassId) (en g : Nat → Nat) (ws : va_W) (sz : Nat) (av : List Value) (r : Int32) (ws' : va_W) : Prop := MI l y cY nY ret rm D cy ws sz (XS en g ws sz) av r ws'
abbrev MVS (l : Launch) (y : MethodName) (cY : ByteArray) (nY : Nat) (rm : Room) (D : va_G) (cy : Nat → ClassId) (en g : Nat → Nat) (ws : va_W) (sz : Nat) (av : List Value) (ws' : va_W) : Prop := MV l y cY nY rm D cy ws sz (XS en g ws sz) av ws'
theorem MIS.of {l : Launch} {y : MethodName} {cY : ByteArray} {nY : Nat} {rm : Room} {D : va_G} {cy : Nat → ClassId} {en g : Nat → Nat} {ws : va_W} {sz : Nat} {av : List Value} {r : Int32} {ws' : va_W} (hy : plainFor y = true) (hav : (lg_sl av).length ≤ nY)
    (body : ∀ (p : Program) (e : Env) (s : State) (m : MethodId) (args : Array Value) (below : List Frame) (meth : Method) (c : Code) (A : Nat → Prop) (ls : Array Slot) (Q : State → Prop), At p s m meth c y cY nY (some .int) args D cy → ST en g A s s.heap →
      va_P D vwCl ws s.heap → va_D A ws → (∀ q : Nat, s.heap.size ≤ q → A q) → va_S A s.heap s.heap [] → lv_has ls nY (lv_args 0 av) → RtI p l e rm s m args below meth c D A cY r ws' Q →
      W p l e rm s m args below meth c s.heap [] 0 0 Q (F0 m 0 ls [])) : MIS l y cY nY (some .int) rm D cy en g ws sz av r ws' :=
  of_bodyS (Qc := fun A => qI D A r ws') hy hav (fun p e s m below meth c A ls hAt hX hP hD hA hS hl => body p e s m _ below meth c A ls _ hAt hX hP hD hA hS hl (fun H locs pc ls ws v hP hD hS hw hv hd => ret_i hAt.1 hAt.2.1 hAt.2.2.1 hAt.2.2.2.2.2.2.1 hS hP hD hv hw hd))
theorem MZS.of {l : Launch} {y : MethodName} {cY : ByteArray} {nY : Nat} {rm : Room} {D : va_G} {cy : Nat → ClassId} {en g : Nat → Nat} {ws : va_W} {sz : Nat} {av : List Value} {r : Int32} {ws' : va_W} (hy : plainFor y = true) (hav : (lg_sl av).length ≤ nY)
    (body : ∀ (p : Program) (e : Env) (s : State) (m : MethodId) (args : Array Value) (below : List Frame) (meth : Method) (c : Code) (A : Nat → Prop) (ls : Array Slot) (Q : State → Prop), At p s m meth c y cY nY (some .boolean) args D cy → ST en g A s s.heap →
      va_P D vwCl ws s.heap → va_D A ws → (∀ q : Nat, s.heap.size ≤ q → A q) → va_S A s.heap s.heap [] → lv_has ls nY (lv_args 0 av) → RtN p l e rm s m args below meth c D A cY .boolean r ws' Q →
      W p l e rm s m args below meth c s.heap [] 0 0 Q (F0 m 0 ls [])) : MIS l y cY nY (some .boolean) rm D cy en g ws sz av r ws' :=
  of_bodyS (Qc := fun A => qI D A r ws') hy hav (fun p e s m below meth c A ls hAt hX hP hD hA hS hl => body p e s m _ below meth c A ls _ hAt hX hP hD hA hS hl (fun H locs pc ls ws v hP hD hS hw hv hn hd => ret_z hAt.1 hAt.2.1 hAt.2.2.1 hAt.2.2.2.2.2.2.1 hS hP hD hn hv hw hd))
theorem MVS.of {l : Launch} {y : MethodName} {cY : ByteArray} {nY : Nat} {rm : Room} {D : va_G} {cy : Nat → ClassId} {en g : Nat → Nat} {ws : va_W} {sz : Nat} {av : List Value} {ws' : va_W} (hy : plainFor y = true) (hav : (lg_sl av).length ≤ nY)
    (body : ∀ (p : Program) (e : Env) (s : State) (m : MethodId) (args : Array Value) (below : List Frame) (meth : Method) (c : Code) (A : Nat → Prop) (ls : Array Slot) (Q : State → Prop), At p s m meth c y cY nY none args D cy → ST en g A s s.heap →
      va_P D vwCl ws s.heap → va_D A ws → (∀ q : Nat, s.heap.size ≤ q → A q) → va_S A s.heap s.heap [] → lv_has ls nY (lv_args 0 av) → RtV p l e rm s m args below meth c D A cY ws' Q →
      W p l e rm s m args below meth c s.heap [] 0 0 Q (F0 m 0 ls [])) : MVS l y cY nY rm D cy en g ws sz av ws' :=
  of_bodyS (Qc := fun A => qV D A ws') hy hav (fun p e s m below meth c A ls hAt hX hP hD hA hS hl => body p e s m _ below meth c A ls _ hAt hX hP hD hA hS hl (fun H locs pc ls ws hP hD hS hw hd => ret_v hAt.1 hAt.2.1 hAt.2.2.1 hAt.2.2.2.2.2.2.1 hS hP hD hw hd))
/-! a method that answers r (code 0) or throws what E says of its code -/
abbrev qIc (D : va_G) (A : Nat → Prop) (code r : Int32) (ws' : va_W) : Array Value → State → Outcome → State → Prop := va_Qi (fun (r' : Int32) (_ : Unit) => code = 0 ∧ r' = r) (bW D A ws') A
abbrev qVc (D : va_G) (A : Nat → Prop) (code : Int32) (ws' : va_W) : Array Value → State → Outcome → State → Prop := va_Qv (fun (_ : Unit) => code = 0) (bW D A ws') A
abbrev xC (D : va_G) (A : Nat → Prop) (code : Int32) (E : Int32 → String) (ws' : va_W) : String → State → State → Prop := vx_X (fun _ : Unit => ¬ code = 0) (fun En _ t => En = E code ∧ va_P D vwCl ws' t.heap ∧ va_D A ws') A
def MT (l : Launch) (y : MethodName) (cY : ByteArray) (nY : Nat) (ret : Option FieldType) (rm : Room) (D : va_G) (cy : Nat → ClassId) (en g : Nat → Nat) (ws : va_W) (sz : Nat) (av : List Value) (E : Int32 → String) (code r : Int32) (ws' : va_W) : Prop :=
  vx_Met l y (Cond.code y cY nY ret :: WA) rm (pW D cy ws sz (XS en g ws sz) av) (qIc D (va_A ws sz) code r ws') (xC D (va_A ws sz) code E ws') 2 12 (va_A ws sz)
def MTV (l : Launch) (y : MethodName) (cY : ByteArray) (nY : Nat) (rm : Room) (D : va_G) (cy : Nat → ClassId) (en g : Nat → Nat) (ws : va_W) (sz : Nat) (av : List Value) (E : Int32 → String) (code : Int32) (ws' : va_W) : Prop :=
  vx_Met l y (Cond.code y cY nY none :: WA) rm (pW D cy ws sz (XS en g ws sz) av) (qVc D (va_A ws sz) code ws') (xC D (va_A ws sz) code E ws') 1 6 (va_A ws sz)
/-- the rule by which a throw ends a method -/
abbrev RtX (p : Program) (l : Launch) (e : Env) (R : Room) (s : State) (m : MethodId) (args : Array Value) (below : List Frame) (meth : Method) (c : Code) (D : va_G) (A : Nat → Prop) (cc : ByteArray) (E : Int32 → String) (code : Int32) (ws' : va_W) (Q : State → Prop) : Prop :=
  ∀ (H : Heap) (locs : List Loc) (pc : Nat) (ls : Array Slot) (rest : List Value) (cells slots : Nat) (q : Addr) (ce : Cell), cells ≤ 1 → slots ≤ 6 → va_P D vwCl ws' H → va_D A ws' → va_S A s.heap H locs → ¬ code = 0 → H[q]? = some ce → ce.vm = .none → s.vm.findClass (E code) = some ce.cls → vx_W p l e R s m args below meth c H locs cells slots Q (F0 m pc ls rest) q
theorem of_bodyT {l : Launch} {y : MethodName} {cY : ByteArray} {nY : Nat} {ret : Option FieldType} {rm : Room} {D : va_G} {cy : Nat → ClassId} {en g : Nat → Nat} {ws : va_W} {sz : Nat} {av : List Value}
    {Qc : (Nat → Prop) → Array Value → State → Outcome → State → Prop} {XC : (Nat → Prop) → String → State → State → Prop} {mc ms : Nat} (hy : plainName y.cls = true) (hav : (lg_sl av).length ≤ nY)
    (body : ∀ (p : Program) (e : Env) (s : State) (m : MethodId) (below : List Frame) (meth : Method) (c : Code) (A : Nat → Prop) (ls : Array Slot), At p s m meth c y cY nY ret av.toArray D cy → (∀ x ∈ c.exceptionTable.toList, False) → ST en g A s s.heap →
      va_P D vwCl ws s.heap → va_D A ws → (∀ q : Nat, s.heap.size ≤ q → A q) → va_S A s.heap s.heap [] → lv_has ls nY (lv_args 0 av) →
      W p l e rm s m av.toArray below meth c s.heap [] 0 0 (vx_MQ below (Qc A) (XC A) av.toArray s mc ms A) (F0 m 0 ls [])) :
    vx_Met l y (Cond.code y cY nY ret :: WA) rm (pW D cy ws sz (XS en g ws sz) av) (Qc (va_A ws sz)) (XC (va_A ws sz)) mc ms (va_A ws sz) := by
  refine vx_ofW (cc := cY) (maxL := nY) (ret := ret) hy rfl ?_
  intro p e s m args below meth c s₁ B hml htb hv
  obtain ⟨rfl, hsz, hP, hK, hD0, hN, hX⟩ := hv
  have hts := atoms_spec (ws := Cond.code y cY nY ret :: WA) B.pre
  subst hsz
  have hl := lv_entry av (n := nY) hav
  rw [lg_entry_eq]
  exact body p e s m below meth c (va_A ws s.heap.size) _ ⟨B.exec, B.bytes, B.returns, hml, findClass_of_methodNamed B.named, fun w h => hts w (List.mem_cons_of_mem _ h), B.notSynchronized, hK, hN⟩ htb hX hP (hD0.self (sz := s.heap.size)) (fun q h => Or.inr h) va_S.rf hl
section RETX
variable {p : Program} {l : Launch} {e : Env} {R : Room} {s : State} {m : MethodId} {args : Array Value} {below : List Frame} {meth : Method} {c : Code} {H : Heap} {locs : List Loc} {cells slots : Nat} {D : va_G} {ws ws' : va_W} {A : Nat → Prop} {code r v : Int32} {E : Int32 → String} {cc : ByteArray} {pc : Nat} {ls : Array Slot} {rest : List Value}
theorem retx_i (hx : p.tables.exec = Jvm.exec) (hb : c.code = cc) (hr : meth.sig.returnType = some .int) (hlk : meth.locks = false) (hc : cells ≤ 2) (hs : slots ≤ 12) (hS : va_S A s.heap H locs) (hP : va_P D vwCl ws H) (hD : va_D A ws) (hv : v = r) (h0 : code = 0) (hw : ws = ws') (hdg : decode cc pc = .ok (.ireturn, 1)) :
    W p l e R s m args below meth c H locs cells slots (vx_MQ below (qIc D A code r ws') (xC D A code E ws') args s 2 12 A) (F0 m pc ls [.int v]) := by
  subst hw
  refine W.widen hc hs (vx_ret ?_)
  exact W.iret (v := v) hx hb hr (fun t ht _ => ⟨⟨v, (), rfl, ⟨h0, hv⟩, by rw [ht]; exact hP, hD⟩, hS.F ht⟩) hS.2.2 hdg
theorem retx_c (hx : p.tables.exec = Jvm.exec) (hb : c.code = cc) (hr : meth.sig.returnType = some .char) (hlk : meth.locks = false) (hc : cells ≤ 2) (hs : slots ≤ 12) (hS : va_S A s.heap H locs) (hP : va_P D vwCl ws H) (hD : va_D A ws) (hn : narrow .char (.int v) = .int v) (hv : v = r) (h0 : code = 0) (hw : ws = ws') (hdg : decode cc pc = .ok (.ireturn, 1)) :
    W p l e R s m args below meth c H locs cells slots (vx_MQ below (qIc D A code r ws') (xC D A code E ws') args s 2 12 A) (F0 m pc ls [.int v]) := by
  subst hw
  refine W.widen hc hs (vx_ret ?_)
  exact W.zret (v := v) hx hb hr hn (fun t ht _ => ⟨⟨v, (), rfl, ⟨h0, hv⟩, by rw [ht]; exact hP, hD⟩, hS.F ht⟩) hS.2.2 hdg
theorem retx_v (hx : p.tables.exec = Jvm.exec) (hb : c.code = cc) (hr : meth.sig.returnType = none) (hlk : meth.locks = false) (hc : cells ≤ 1) (hs : slots ≤ 6) (hS : va_S A s.heap H locs) (hP : va_P D vwCl ws H) (hD : va_D A ws) (h0 : code = 0) (hw : ws = ws') (hdg : decode cc pc = .ok (.return_, 1)) :
    W p l e R s m args below meth c H locs cells slots (vx_MQ below (qVc D A code ws') (xC D A code E ws') args s 1 6 A) (F0 m pc ls []) := by
  subst hw
  refine W.widen hc hs (vx_ret ?_)
  exact W.vret hx hb hr (fun t ht _ => ⟨⟨(), rfl, h0, by rw [ht]; exact hP, hD⟩, hS.F ht⟩) hS.2.2 hdg
end RETX
abbrev exN : List String := ["java/lang/RuntimeException", "java/lang/Exception"]
section THROW
variable {p : Program} {l : Launch} {e : Env} {R : Room} {s : State} {m : MethodId} {args : Array Value} {below : List Frame} {meth : Method} {c : Code} {H : Heap} {locs : List Loc} {cells slots : Nat} {D : va_G} {ws ws' : va_W} {A : Nat → Prop} {code r v : Int32} {E : Int32 → String} {cc : ByteArray} {pc nL : Nat} {ls : Array Slot} {rest : List Value} {en g : Nat → Nat} {Qc : Array Value → State → Outcome → State → Prop} {Q : State → Prop} {cy : Nat → ClassId}
theorem xC_new {H : Heap} (hS : va_S A s.heap H locs) (hP : va_P D vwCl ws H) (hD : va_D A ws) (hc : ¬ code = 0) {cls : String} (hE : E code = cls) : ∀ t : State, s.vm.Alike t.vm → H.size ≤ t.heap.size → (∀ q : Nat, q < H.size → t.heap[q]? = H[q]?) → xC D A code E ws cls s t := by
  intro t _ hz hk
  refine ⟨(), hc, ⟨hE.symm, hP.kept (fun k q h => hk _ (hP k q h).lt), hD⟩, Nat.le_trans hS.1 hz, fun q h1 h2 => ?_⟩
  rw [hk q (Nat.lt_of_lt_of_le h1 hS.1)]
  exact hS.2.1 q h1 h2
/-- new X(text) is thrown -/
theorem thrS {mc ms : Nat} (hx : p.tables.exec = Jvm.exec) (hb : c.code = cc) (hl : l.stackTraces = false) (hml : c.maxLocals = nL) (hown : s.vm.findClass "CloudDeeds" = some m.cls) (hw : ∀ w ∈ WA, w.before args s = true) (hN : NW s) (hlk : meth.locks = false) (htb : ∀ x ∈ c.exceptionTable.toList, False) (hST : ST en g A s s.heap)
    (hS : va_S A s.heap H locs) (hP : va_P D vwCl ws H) (hD : va_D A ws) (hsz : ls.size = nL) {ik is ic : Nat} {cls text : String} (i : Nat) (hm : msgs[i]? = some (is, text)) (hcls : Bundle.fit cls = true)
    (k1 : Cond.classLink "CloudDeeds" ik cls ∈ WA) (k2 : Cond.initialized cls ∈ WA) (hat : ∀ w ∈ vx_atS "CloudDeeds" ic cls exN, (w ∈ WA ∨ w ∈ nwL) ∧ vx_ot w = true) (hc : ¬ code = 0) (hE : E code = cls) (hws : ws = ws')
    (d0 : decode cc pc = .ok (.new ik, 3)) (d3 : decode cc (pc + 3) = .ok (.dup, 1)) (d4 : decode cc (pc + 4) = .ok (.ldc is, 2)) (d6 : decode cc (pc + 6) = .ok (.invokespecial ic, 3)) (d9 : decode cc (pc + 9) = .ok (.athrow, 1))
    (hR : 5 < R.frames ∧ 90 ≤ R.locals ∧ cells + 1 ≤ R.cells ∧ slots + 6 ≤ R.slots) (hrest : (rest.map fun v => v.category).sum ≤ 8) (hcs : cells + 1 ≤ mc ∧ slots + 6 ≤ ms) :
    W p l e R s m args below meth c H locs cells slots (vx_MQ below Qc (xC D A code E ws') args s mc ms A) (F0 m pc ls rest) := by
  subst hws
  refine vx_throwS (names := exN) hx hb hl hown hcls (by decide) (hw _ k1) (hw _ k2) (hST.2.2.1 i _ hm) (fun w h => ?_) (fun w h => ?_) hST.1 hST.2.1 hS (hsz.trans hml.symm) d0 d3 d4 d6 d9 (fun x h => (htb x h).elim) hR.1 ?_ hR.2.2.1 hR.2.2.2 hlk (xC_new hS hP hD hc hE) hS.2.2 hcs.1 hcs.2
  · rcases (hat w h).1 with h1 | h1
    · exact hw _ h1
    · have h2 := nwL_nest w h1
      have h3 := hN w h1
      cases w <;> first | exact va_Nw.use rfl h3 | (rename_i t9; cases t9 <;> first | exact va_AO.use h3 | exact absurd h2 (by simp [isNest])) | exact absurd h2 (by simp [isNest])
  · rcases List.mem_cons.mp h with rfl | h
    · rfl
    · rcases List.mem_cons.mp h with rfl | h
      · rfl
      · exact (hat w h).2
  · have : exN.length = 2 := rfl
    have := hR.2.1
    omega
theorem thrSW {mc ms : Nat} (hx : p.tables.exec = Jvm.exec) (hb : c.code = cc) (hl : l.stackTraces = false) (hml : c.maxLocals = nL) (hown : s.vm.findClass "CloudDeeds" = some m.cls) (hw : ∀ w ∈ WA, w.before args s = true) (hN : NW s) (hlk : meth.locks = false) (htb : ∀ x ∈ c.exceptionTable.toList, False) (hST : ST en g A s s.heap)
    (hS : va_S A s.heap H locs) (hP : va_P D vwCl ws H) (hD : va_D A ws) (hsz : ls.size = nL) {ik is ic : Nat} {cls text : String} (i : Nat) (hm : msgs[i]? = some (is, text)) (hcls : Bundle.fit cls = true)
    (k1 : Cond.classLink "CloudDeeds" ik cls ∈ WA) (k2 : Cond.initialized cls ∈ WA) (hat : ∀ w ∈ vx_atS "CloudDeeds" ic cls exN, (w ∈ WA ∨ w ∈ nwL) ∧ vx_ot w = true) (hc : ¬ code = 0) (hE : E code = cls) (hws : ws = ws')
    (d0 : decode cc pc = .ok (.new ik, 3)) (d3 : decode cc (pc + 3) = .ok (.dup, 1)) (d4 : decode cc (pc + 4) = .ok (.ldc_w is, 3)) (d7 : decode cc (pc + 7) = .ok (.invokespecial ic, 3)) (d10 : decode cc (pc + 10) = .ok (.athrow, 1))
    (hR : 5 < R.frames ∧ 90 ≤ R.locals ∧ cells + 1 ≤ R.cells ∧ slots + 6 ≤ R.slots) (hrest : (rest.map fun v => v.category).sum ≤ 8) (hcs : cells + 1 ≤ mc ∧ slots + 6 ≤ ms) :
    W p l e R s m args below meth c H locs cells slots (vx_MQ below Qc (xC D A code E ws') args s mc ms A) (F0 m pc ls rest) := by
  subst hws
  refine vx_throwSW (names := exN) hx hb hl hown hcls (by decide) (hw _ k1) (hw _ k2) (hST.2.2.1 i _ hm) (fun w h => ?_) (fun w h => ?_) hST.1 hST.2.1 hS (hsz.trans hml.symm) d0 d3 d4 d7 d10 (fun x h => (htb x h).elim) hR.1 ?_ hR.2.2.1 hR.2.2.2 hlk (xC_new hS hP hD hc hE) hS.2.2 hcs.1 hcs.2
  · rcases (hat w h).1 with h1 | h1
    · exact hw _ h1
    · have h2 := nwL_nest w h1
      have h3 := hN w h1
      cases w <;> first | exact va_Nw.use rfl h3 | (rename_i t9; cases t9 <;> first | exact va_AO.use h3 | exact absurd h2 (by simp [isNest])) | exact absurd h2 (by simp [isNest])
  · rcases List.mem_cons.mp h with rfl | h
    · rfl
    · rcases List.mem_cons.mp h with rfl | h
      · rfl
      · exact (hat w h).2
  · have : exN.length = 2 := rfl
    have := hR.2.1
    omega
/-- behind a call that may have thrown -/
theorem goT {code1 r1 : Int32} {E1 : Int32 → String} {st : List Value} {a : Array Value} (hS : va_S A s.heap H locs) (hD : va_D A ws) (hA : ∀ q : Nat, s.heap.size ≤ q → A q)
    (hr : vx_Run p l e R s m args below meth c H locs cells slots 2 12 (F0 m pc ls st) rest (qIc D (va_A ws H.size) code1 r1 ws' a) (xC D (va_A ws H.size) code1 E1 ws') (va_A ws H.size))
    (kx : ∀ (H1 : Heap) (locs1 : List Loc) (q : Addr) (ce : Cell), ¬ code1 = 0 → va_P D vwCl ws' H1 → va_D A ws' → va_S A s.heap H1 locs1 → H1[q]? = some ce → ce.vm = .none → s.vm.findClass (E1 code1) = some ce.cls → vx_W p l e R s m args below meth c H1 locs1 (cells + 2) (slots + 12) Q (F0 m pc ls rest) q)
    (kk : ∀ (H1 : Heap) (locs1 : List Loc), code1 = 0 → va_P D vwCl ws' H1 → va_D A ws' → va_S A s.heap H1 locs1 → W p l e R s m args below meth c H1 locs1 (cells + 2) (slots + 12) Q (F0 m (pc + 3) ls (.int r1 :: rest))) :
    W p l e R s m args below meth c H locs cells slots Q (F0 m pc ls st) := by
  have hF := free_all hD hS hA
  refine vx_calli hr hS (fun q _ h => hF q h) hF (fun q _ h => hF q h) (fun E9 ce q u t H1 locs1 ht hvm hp hB hz hk hS1 hce hcv hcl => ?_) (fun r' u t H1 locs1 ht hvm hw hB hz hk hS1 => ?_)
  · obtain ⟨rfl, hP1, hD1⟩ := hB
    rw [ht] at hP1
    exact kx H1 locs1 q ce hp hP1 (hD1.weaken (fun k q _ h => hF q.1 h)) hS1 hce hcv hcl
  · obtain ⟨hP1, hD1⟩ := hB
    rw [ht] at hP1
    obtain ⟨h0, rfl⟩ := hw
    exact kk H1 locs1 h0 hP1 (hD1.weaken (fun k q _ h => hF q.1 h)) hS1
theorem goTV {code1 : Int32} {E1 : Int32 → String} {st : List Value} {a : Array Value} (hS : va_S A s.heap H locs) (hD : va_D A ws) (hA : ∀ q : Nat, s.heap.size ≤ q → A q)
    (hr : vx_Run p l e R s m args below meth c H locs cells slots 1 6 (F0 m pc ls st) rest (qVc D (va_A ws H.size) code1 ws' a) (xC D (va_A ws H.size) code1 E1 ws') (va_A ws H.size))
    (kx : ∀ (H1 : Heap) (locs1 : List Loc) (q : Addr) (ce : Cell), ¬ code1 = 0 → va_P D vwCl ws' H1 → va_D A ws' → va_S A s.heap H1 locs1 → H1[q]? = some ce → ce.vm = .none → s.vm.findClass (E1 code1) = some ce.cls → vx_W p l e R s m args below meth c H1 locs1 (cells + 1) (slots + 6) Q (F0 m pc ls rest) q)
    (kk : ∀ (H1 : Heap) (locs1 : List Loc), code1 = 0 → va_P D vwCl ws' H1 → va_D A ws' → va_S A s.heap H1 locs1 → W p l e R s m args below meth c H1 locs1 (cells + 1) (slots + 6) Q (F0 m (pc + 3) ls rest)) :
    W p l e R s m args below meth c H locs cells slots Q (F0 m pc ls st) := by
  have hF := free_all hD hS hA
  refine vx_callv hr hS (fun q _ h => hF q h) hF (fun q _ h => hF q h) (fun E9 ce q u t H1 locs1 ht hvm hp hB hz hk hS1 hce hcv hcl => ?_) (fun u t H1 locs1 ht hvm hw hB hz hk hS1 => ?_)
  · obtain ⟨rfl, hP1, hD1⟩ := hB
    rw [ht] at hP1
    exact kx H1 locs1 q ce hp hP1 (hD1.weaken (fun k q _ h => hF q.1 h)) hS1 hce hcv hcl
  · obtain ⟨hP1, hD1⟩ := hB
    rw [ht] at hP1
    exact kk H1 locs1 hw hP1 (hD1.weaken (fun k q _ h => hF q.1 h)) hS1
end THROW
theorem MT.of {l : Launch} {y : MethodName} {cY : ByteArray} {nY : Nat} {ret : Option FieldType} {rm : Room} {D : va_G} {cy : Nat → ClassId} {en g : Nat → Nat} {ws : va_W} {sz : Nat} {av : List Value} {E : Int32 → String} {code r : Int32} {ws' : va_W} (hy : plainName y.cls = true) (hav : (lg_sl av).length ≤ nY)
    (body : ∀ (p : Program) (e : Env) (s : State) (m : MethodId) (args : Array Value) (below : List Frame) (meth : Method) (c : Code) (A : Nat → Prop) (ls : Array Slot) (Q : State → Prop), At p s m meth c y cY nY ret args D cy → (∀ x ∈ c.exceptionTable.toList, False) → ST en g A s s.heap →
      va_P D vwCl ws s.heap → va_D A ws → (∀ q : Nat, s.heap.size ≤ q → A q) → va_S A s.heap s.heap [] → lv_has ls nY (lv_args 0 av) → Q = vx_MQ below (qIc D A code r ws') (xC D A code E ws') args s 2 12 A →
      W p l e rm s m args below meth c s.heap [] 0 0 Q (F0 m 0 ls [])) : MT l y cY nY ret rm D cy en g ws sz av E code r ws' :=
  of_bodyT (Qc := fun A => qIc D A code r ws') (XC := fun A => xC D A code E ws') hy hav (fun p e s m below meth c A ls hAt htb hX hP hD hA hS hl => body p e s m _ below meth c A ls _ hAt htb hX hP hD hA hS hl rfl)
theorem MTV.of {l : Launch} {y : MethodName} {cY : ByteArray} {nY : Nat} {rm : Room} {D : va_G} {cy : Nat → ClassId} {en g : Nat → Nat} {ws : va_W} {sz : Nat} {av : List Value} {E : Int32 → String} {code : Int32} {ws' : va_W} (hy : plainName y.cls = true) (hav : (lg_sl av).length ≤ nY)
    (body : ∀ (p : Program) (e : Env) (s : State) (m : MethodId) (args : Array Value) (below : List Frame) (meth : Method) (c : Code) (A : Nat → Prop) (ls : Array Slot) (Q : State → Prop), At p s m meth c y cY nY none args D cy → (∀ x ∈ c.exceptionTable.toList, False) → ST en g A s s.heap →
      va_P D vwCl ws s.heap → va_D A ws → (∀ q : Nat, s.heap.size ≤ q → A q) → va_S A s.heap s.heap [] → lv_has ls nY (lv_args 0 av) → Q = vx_MQ below (qVc D A code ws') (xC D A code E ws') args s 1 6 A →
      W p l e rm s m args below meth c s.heap [] 0 0 Q (F0 m 0 ls [])) : MTV l y cY nY rm D cy en g ws sz av E code ws' :=
  of_bodyT (Qc := fun A => qVc D A code ws') (XC := fun A => xC D A code E ws') hy hav (fun p e s m below meth c A ls hAt htb hX hP hD hA hS hl => body p e s m _ below meth c A ls _ hAt htb hX hP hD hA hS hl rfl)
section CALLX
variable {p : Program} {l : Launch} {e : Env} {R : Room} {s : State} {m : MethodId} {args : Array Value} {below : List Frame} {meth : Method} {c : Code} {H : Heap} {locs : List Loc} {cells slots : Nat} {Q : State → Prop} {D : va_G} {cy : Nat → ClassId} {ws ws' : va_W} {A : Nat → Prop} {r code : Int32} {cc : ByteArray} {pc : Nat} {ls : Array Slot}
  {own C : String} {y : MethodName} {cY : ByteArray} {nY nL index : Nat} {ret : Option FieldType} {rm : Room} {b : Nat} {As rest st : List Value} {en g : Nat → Nat} {E : Int32 → String}
theorem cB2 {n : Nat} (hw : ∀ w ∈ WA, w.before args s = true) (k1 : Cond.methodLink own index y ∈ WA) (k4 : Cond.initialized y.cls ∈ WA) (k5 : Cond.code y cY nY ret ∈ WA) (hrm : rm.cells = 2 ∧ rm.slots = 12)
    (hd : y.cls ≠ "java/lang/invoke/MethodHandle" ∧ y.cls ≠ "java/lang/invoke/VarHandle" ∧ (parseMethodDescriptor y.desc).map (fun d => d.parameters.length) = some n) (hR : rm.frames + 1 ≤ R.frames ∧ 8 + (nY + 11) + rm.locals ≤ R.locals) :
    CallB R s args own index y cY nY ret (Cond.code y cY nY ret :: WA) rm 2 12 n :=
  callB_of n hw (codeGood k5) rfl hrm.1 hrm.2 (hw _ k4) (hw _ k1) hd hR
theorem cB1 {n : Nat} (hw : ∀ w ∈ WA, w.before args s = true) (k1 : Cond.methodLink own index y ∈ WA) (k4 : Cond.initialized y.cls ∈ WA) (k5 : Cond.code y cY nY ret ∈ WA) (hrm : rm.cells = 1 ∧ rm.slots = 6)
    (hd : y.cls ≠ "java/lang/invoke/MethodHandle" ∧ y.cls ≠ "java/lang/invoke/VarHandle" ∧ (parseMethodDescriptor y.desc).map (fun d => d.parameters.length) = some n) (hR : rm.frames + 1 ≤ R.frames ∧ 8 + (nY + 11) + rm.locals ≤ R.locals) :
    CallB R s args own index y cY nY ret (Cond.code y cY nY ret :: WA) rm 1 6 n :=
  callB_of n hw (codeGood k5) rfl hrm.1 hrm.2 (hw _ k4) (hw _ k1) hd hR
/-- invokevirtual of a method that may throw -/
theorem xV_i {n : Nat} (hx : p.tables.exec = Jvm.exec) (hb : c.code = cc) (hml : c.maxLocals = nL) (hown : s.vm.findClass own = some m.cls) (hw : ∀ w ∈ WA, w.before args s = true) (hK : va_K D vwCl (tyL cy) s) (hN : NW s) (hA : ∀ q : Nat, s.heap.size ≤ q → A q) (hsz : ls.size = nL)
    (hP : va_P D vwCl ws H) (hD : va_D A ws) (hS : va_S A s.heap H locs) (hST : ST en g A s s.heap)
    (k1 : Cond.methodLink own index y ∈ WA) (k2 : Cond.instanceMethod y ∈ WA) (k3 : Cond.selects C y y ∈ WA) (k4 : Cond.initialized y.cls ∈ WA) (k5 : Cond.code y cY nY ret ∈ WA)
    (hM : MT l y cY nY ret rm D cy en g ws H.size (.ref b :: As) E code r ws')
    {ci q0 N : Nat} {T : u_T} {fs : List Value} (he : ws[q0]? = some (b, .inr (ci, fs))) (hc : vwCl[ci]? = some (C, T, N)) (hrm : rm.cells = 2 ∧ rm.slots = 12)
    (hd : y.cls ≠ "java/lang/invoke/MethodHandle" ∧ y.cls ≠ "java/lang/invoke/VarHandle" ∧ (parseMethodDescriptor y.desc).map (fun d => d.parameters.length) = some n) (hn : As.length = n) (hR : rm.frames + 1 ≤ R.frames ∧ 8 + (nY + 11) + rm.locals ≤ R.locals)
    (hcs : cells + 2 ≤ R.cells ∧ slots + 12 ≤ R.slots) (hst : (rest.map fun v => v.category).sum ≤ 8) (hstk : st = As.reverse ++ .ref b :: rest) (hdg : decode cc pc = .ok (.invokevirtual index, 3))
    (kx : ∀ (H1 : Heap) (locs1 : List Loc) (q : Addr) (ce : Cell), ¬ code = 0 → va_P D vwCl ws' H1 → va_D A ws' → va_S A s.heap H1 locs1 → H1[q]? = some ce → ce.vm = .none → s.vm.findClass (E code) = some ce.cls → vx_W p l e R s m args below meth c H1 locs1 (cells + 2) (slots + 12) Q (F0 m pc ls rest) q)
    (kk : ∀ (H1 : Heap) (locs1 : List Loc), code = 0 → va_P D vwCl ws' H1 → va_D A ws' → va_S A s.heap H1 locs1 → W p l e R s m args below meth c H1 locs1 (cells + 2) (slots + 12) Q (F0 m (pc + 3) ls (.int r :: rest))) :
    W p l e R s m args below meth c H locs cells slots Q (F0 m pc ls st) :=
  goT hS hD hA (vx_runV (As := As) (rest := rest) ⟨hx, hb, hml, hown, hw⟩ hM ⟨cB2 hw k1 k4 k5 hrm hd hR, hw _ k2, hw _ k3⟩ ⟨pW_blind Xok_S, va_recv hK hP hc he, pW_call hP hK hD hN (ST_call hST hS (free_all hD hS hA))⟩ rfl hn hsz hstk (lv_room hst) hdg hcs) kx kk
/-- invokestatic of a method that may throw and answers nothing -/
theorem xS_v {n : Nat} (hx : p.tables.exec = Jvm.exec) (hb : c.code = cc) (hml : c.maxLocals = nL) (hown : s.vm.findClass own = some m.cls) (hw : ∀ w ∈ WA, w.before args s = true) (hK : va_K D vwCl (tyL cy) s) (hN : NW s) (hA : ∀ q : Nat, s.heap.size ≤ q → A q) (hsz : ls.size = nL)
    (hP : va_P D vwCl ws H) (hD : va_D A ws) (hS : va_S A s.heap H locs) (hST : ST en g A s s.heap)
    (k1 : Cond.methodLink own index y ∈ WA) (k2 : Cond.static y ∈ WA) (k4 : Cond.initialized y.cls ∈ WA) (k5 : Cond.code y cY nY none ∈ WA)
    (hM : MTV l y cY nY rm D cy en g ws H.size As E code ws') (hrm : rm.cells = 1 ∧ rm.slots = 6)
    (hd : y.cls ≠ "java/lang/invoke/MethodHandle" ∧ y.cls ≠ "java/lang/invoke/VarHandle" ∧ (parseMethodDescriptor y.desc).map (fun d => d.parameters.length) = some n) (hn : As.length = n) (hR : rm.frames + 1 ≤ R.frames ∧ 8 + (nY + 11) + rm.locals ≤ R.locals)
    (hcs : cells + 1 ≤ R.cells ∧ slots + 6 ≤ R.slots) (hst : (rest.map fun v => v.category).sum ≤ 8) (hstk : st = As.reverse ++ rest) (hdg : decode cc pc = .ok (.invokestatic index, 3))
    (kx : ∀ (H1 : Heap) (locs1 : List Loc) (q : Addr) (ce : Cell), ¬ code = 0 → va_P D vwCl ws' H1 → va_D A ws' → va_S A s.heap H1 locs1 → H1[q]? = some ce → ce.vm = .none → s.vm.findClass (E code) = some ce.cls → vx_W p l e R s m args below meth c H1 locs1 (cells + 1) (slots + 6) Q (F0 m pc ls rest) q)
    (kk : ∀ (H1 : Heap) (locs1 : List Loc), code = 0 → va_P D vwCl ws' H1 → va_D A ws' → va_S A s.heap H1 locs1 → W p l e R s m args below meth c H1 locs1 (cells + 1) (slots + 6) Q (F0 m (pc + 3) ls rest)) :
    W p l e R s m args below meth c H locs cells slots Q (F0 m pc ls st) :=
  goTV hS hD hA (vx_runS (As := As) (rest := rest) ⟨hx, hb, hml, hown, hw⟩ hM ⟨cB1 hw k1 k4 k5 hrm hd hR, hw _ k2⟩ ⟨pW_blind Xok_S, pW_call hP hK hD hN (ST_call hST hS (free_all hD hS hA))⟩ rfl hn hsz hstk (lv_room hst) hdg hcs) kx kk
/-- a throw goes on to the caller -/
theorem outx {mc ms : Nat} {Qc : Array Value → State → Outcome → State → Prop} {q : Addr} {ce : Cell} {E1 : String} (hlk : meth.locks = false) (htb : ∀ x ∈ c.exceptionTable.toList, False) (hP : va_P D vwCl ws' H) (hD : va_D A ws') (hS : va_S A s.heap H locs) (hce : H[q]? = some ce) (hcv : ce.vm = .none) (hcl : s.vm.findClass E1 = some ce.cls) (hc : ¬ code = 0) (hE : E code = E1) (h1 : cells ≤ mc) (h2 : slots ≤ ms) :
    vx_W p l e R s m args below meth c H locs cells slots (vx_MQ below Qc (xC D A code E ws') args s mc ms A) (F0 m pc ls rest) q :=
  vx_out (fun x h => (htb x h).elim) hlk hce hcv hcl (fun t ht _ => ⟨(), hc, ⟨hE.symm, by rw [ht]; exact hP, hD⟩, hS.F ht⟩) hS.2.2 h1 h2
end CALLX
section STAT
variable {p : Program} {l : Launch} {e : Env} {R : Room} {s : State} {m : MethodId} {args : Array Value} {below : List Frame} {meth : Method} {c : Code} {H : Heap} {locs : List Loc} {cells slots : Nat} {Q : State → Prop} {cc : ByteArray} {pc : Nat} {ls : Array Slot} {rest : List Value} {A : Nat → Prop}
theorem vk_getfN (hx : p.tables.exec = Jvm.exec) (hb : c.code = cc) {o n d own ref host : String} {index q : Nat} {v : Value} (hE : va_OF o n d v q A s s.heap) (hS : va_S A s.heap H locs) (hown : s.vm.findClass own = some m.cls) (hlink : (Cond.fieldLinkNest own index ref n d host).before args s = true) (hsame : ∀ x, s.fieldFound? o n d = some x → s.fieldFound? ref n d = some x) (hdg : decode cc pc = .ok (.getfield index, 3))
    (kk : W p l e R s m args below meth c H locs cells slots Q (F0 m (pc + 3) ls (v :: rest))) : W p l e R s m args below meth c H locs cells slots Q (F0 m pc ls (.ref q :: rest)) := by
  obtain ⟨cf, k, fi, f, cell, h1, h2, h3, h4, h5, h6⟩ := hE.kept hS.2.1
  exact va_Wgetf hx hb hown hlink (hsame _ h1) h2 h3 h4 (v := v) h5 rfl rfl hdg kk
end STAT
theorem ordv {i : Nat} (h : i < 9) : ([0, 1, 2, 3, 4, 5, 6, 7, 8] : List Int32).getD i 0 = nI i := by
  rcases (show i = 0 ∨ i = 1 ∨ i = 2 ∨ i = 3 ∨ i = 4 ∨ i = 5 ∨ i = 6 ∨ i = 7 ∨ i = 8 by omega) with rfl | rfl | rfl | rfl | rfl | rfl | rfl | rfl | rfl <;> rfl
theorem swv {i : Nat} (h : i < 9) : (fun j : Nat => Value.int (nI ((j + 1) % 9))) (nI i).toNatClampNeg = .int (nI ((i + 1) % 9)) := by
  show Value.int (nI (((nI i).toNatClampNeg + 1) % 9)) = _
  rw [nI_clamp (by omega)]
