/-! what every row below is said with: a method's contract (its answer and its world as terms), its entry, its end, its calls -/
def isNest : Cond → Bool
  | .fieldLinkNest .. => true
  | .methodLinkNest .. => true
  | .castable .. => true
  | .declares .. => true
  | .arrayOver (.object _) => true
  | _ => false
theorem nwL_nest : ∀ w ∈ nwL, isNest w = true := List.all_eq_true.mp (by decide +kernel)
/-- the links among nest mates stand -/
def NW (U : State) : Prop := ∀ w ∈ nwL, va_Nw w U
theorem NW.warm {s U : State} (hW : s.WarmedH U.vm) (h : NW s) : NW U := by
  intro w hw
  have h0 := h w hw
  have h1 := nwL_nest w hw
  cases w <;> first | exact va_Nw.warmF hW h0 | exact va_Nw.warmM hW h0 | exact va_Nw.warmC hW h0 | exact va_Nw.warmD hW h0 | (rename_i t9; cases t9 <;> first | exact va_AO.moved hW.alike h0 | exact absurd h1 (by simp [isNest])) | exact absurd h1 (by simp [isNest])
theorem NW.same {s U : State} (hvm : s.vm = U.vm) (h : NW s) : NW U := by
  intro w hw
  have h0 := h w hw
  have h1 := nwL_nest w hw
  cases w <;> first | exact va_Nw.same rfl hvm h0 | (rename_i t9; cases t9 <;> first | exact va_AO.moved (by rw [hvm]; exact Vm.Alike.refl _) h0 | exact absurd h1 (by simp [isNest])) | exact absurd h1 (by simp [isNest])
abbrev tyL (cy : Nat → ClassId) : List (ClassId × FieldType) := [(cy 0, .int), (cy 1, .char), (cy 2, .byte), (cy 3, .object "CloudDeeds$Cloud"), (cy 4, .object "CloudDeeds$Office"), (cy 5, .object "CloudDeeds$Order")]
/-- a method's start: its world is ws, X what it wants beside -/
def pW (D : va_G) (cy : Nat → ClassId) (ws : va_W) (sz : Nat) (X : State → Prop) (av : List Value) : Array Value → State → Prop :=
  va_Pc av (fun U => U.heap.size = sz ∧ va_P D vwCl ws U.heap ∧ va_K D vwCl (tyL cy) U ∧ va_D (fun _ => True) ws ∧ NW U ∧ X U)
/-- X stays when a call begins -/
def Xok (X : State → Prop) : Prop := ∀ (U V : State), U.heap = V.heap → U.vm = V.vm → X U → X V
theorem Xok_T : Xok (fun _ => True) := fun _ _ _ _ _ => trivial
theorem pW_blind {D : va_G} {cy : Nat → ClassId} {ws : va_W} {sz : Nat} {X : State → Prop} {av : List Value} (hX : Xok X) : FrameBlind (pW D cy ws sz X av) := by
  intro a U g mk q
  obtain ⟨q0, q1, q2, q3, q4, q5, q6⟩ := q
  exact ⟨q0, q1, q2, va_K.moved (u := U) (U := U.calling g mk a) (Vm.Alike.refl U.vm) q3, q4, NW.same (s := U) (U := U.calling g mk a) rfl q5, hX U (U.calling g mk a) rfl rfl q6⟩
theorem pW_call {D : va_G} {cy : Nat → ClassId} {ws : va_W} {X : State → Prop} {av : List Value} {s : State} {H : Heap} {A : Nat → Prop} (hP : va_P D vwCl ws H) (hK : va_K D vwCl (tyL cy) s) (hD : va_D A ws) (hN : NW s) (hX : ∀ U : State, U.heap = H → s.WarmedH U.vm → X U) :
    ∀ U : State, U.heap = H → s.WarmedH U.vm → pW D cy ws H.size X av av.toArray U := fun U hU hW =>
  ⟨rfl, by rw [hU], by rw [hU]; exact hP, va_K.moved hW.alike hK, hD.weaken (fun _ _ _ _ => trivial), NW.warm hW hN, hX U hU hW⟩
abbrev bW (D : va_G) (A : Nat → Prop) (ws' : va_W) : Unit → State → Prop := fun _ t => va_P D vwCl ws' t.heap ∧ va_D A ws'
abbrev qI (D : va_G) (A : Nat → Prop) (r : Int32) (ws' : va_W) : Array Value → State → Outcome → State → Prop := va_Qi (fun (r' : Int32) (_ : Unit) => r' = r) (bW D A ws') A
abbrev qV (D : va_G) (A : Nat → Prop) (ws' : va_W) : Array Value → State → Outcome → State → Prop := va_Qv (fun (_ : Unit) => True) (bW D A ws') A
/-- the method answers r, an int, and leaves the world ws' -/
def MI (l : Launch) (y : MethodName) (cY : ByteArray) (nY : Nat) (ret : Option FieldType) (rm : Room) (D : va_G) (cy : Nat → ClassId) (ws : va_W) (sz : Nat) (X : State → Prop) (av : List Value) (r : Int32) (ws' : va_W) : Prop :=
  Met l y (Cond.code y cY nY ret :: WA) rm (pW D cy ws sz X av) (qI D (va_A ws sz) r ws') 0 0 (va_A ws sz)
/-- the method answers nothing, and leaves the world ws' -/
def MV (l : Launch) (y : MethodName) (cY : ByteArray) (nY : Nat) (rm : Room) (D : va_G) (cy : Nat → ClassId) (ws : va_W) (sz : Nat) (X : State → Prop) (av : List Value) (ws' : va_W) : Prop :=
  Met l y (Cond.code y cY nY none :: WA) rm (pW D cy ws sz X av) (qV D (va_A ws sz) ws') 0 0 (va_A ws sz)
/-- what stands at a method's entry -/
def At (p : Program) (s : State) (m : MethodId) (meth : Method) (c : Code) (y : MethodName) (cY : ByteArray) (nY : Nat) (ret : Option FieldType) (args : Array Value) (D : va_G) (cy : Nat → ClassId) : Prop :=
  p.tables.exec = Jvm.exec ∧ c.code = cY ∧ meth.sig.returnType = ret ∧ c.maxLocals = nY ∧ s.vm.findClass y.cls = some m.cls ∧ (∀ w ∈ WA, w.before args s = true) ∧ meth.locks = false ∧ va_K D vwCl (tyL cy) s ∧ NW s
theorem met_ofF {l : Launch} {y : MethodName} {ws ws' : List Cond} {rm : Room} {Pc : Array Value → State → Prop} {Qc : Array Value → State → Outcome → State → Prop} {mc ms : Nat} {free : Addr → Prop} {cc : ByteArray} {maxL : Nat} {ret : Option FieldType}
    (hy : plainFor y = true) (hw : ws = Cond.code y cc maxL ret :: ws')
    (body : ∀ p e s m args below meth c s₁, BodyLoose p l y (headSpec ws rm) cc maxL ret e s m args below meth c s₁ → c.maxLocals = maxL → Pc args s →
      W p l e (headSpec ws rm).room s m args below meth c s.heap [] 0 0 (MQ below Qc args s mc ms free) (entryFrame m args maxL)) : Met l y ws rm Pc Qc mc ms free := by
  refine MetFree.of_bodySF (code := cc) (maxLocals := maxL) (ret := ret) hy ?_ ?_
  · intro args s m h hn
    obtain ⟨meth, c, h1, h2, h3, h4, h5, h6, -, -⟩ := Cond.code_spec hn (atoms_spec (ws := ws) h _ (by rw [hw]; exact List.mem_cons_self))
    exact ⟨meth, c, h1, h2, h3, h4, h5, h6⟩
  · intro p e s m args below meth c s₁ B hml hP _
    have hh0 : s₁.heap = s.heap := by rw [B.state]; rfl
    obtain ⟨t, a1, o, b1, b2, b3⟩ := body p e s m args below meth c s₁ B hml hP s₁ hh0 (Stand.of_body B)
    exact ⟨t, o, a1, b1, b2, ⟨b3.1, b3.2⟩⟩
theorem of_body {l : Launch} {y : MethodName} {cY : ByteArray} {nY : Nat} {ret : Option FieldType} {rm : Room} {D : va_G} {cy : Nat → ClassId} {ws : va_W} {sz : Nat} {X : State → Prop} {av : List Value}
    {Qc : (Nat → Prop) → Array Value → State → Outcome → State → Prop} {mc ms : Nat} (hy : plainFor y = true) (hav : (lg_sl av).length ≤ nY)
    (body : ∀ (p : Program) (e : Env) (s : State) (m : MethodId) (below : List Frame) (meth : Method) (c : Code) (A : Nat → Prop) (ls : Array Slot), At p s m meth c y cY nY ret av.toArray D cy → sz = s.heap.size → X s →
      va_P D vwCl ws s.heap → va_D A ws → (∀ q : Nat, s.heap.size ≤ q → A q) → va_S A s.heap s.heap [] → lv_has ls nY (lv_args 0 av) →
      W p l e rm s m av.toArray below meth c s.heap [] 0 0 (MQ below (Qc A) av.toArray s mc ms A) (F0 m 0 ls [])) :
    Met l y (Cond.code y cY nY ret :: WA) rm (pW D cy ws sz X av) (Qc (va_A ws sz)) mc ms (va_A ws sz) := by
  refine met_ofF (cc := cY) (maxL := nY) (ret := ret) hy rfl ?_
  intro p e s m args below meth c s₁ B hml hv
  obtain ⟨rfl, hsz, hP, hK, hD0, hN, hX⟩ := hv
  have hts := atoms_spec (ws := Cond.code y cY nY ret :: WA) B.pre
  subst hsz
  have hl := lv_entry av (n := nY) hav
  rw [lg_entry_eq]
  exact body p e s m below meth c (va_A ws s.heap.size) _ ⟨B.exec, B.bytes, B.returns, hml, findClass_of_methodNamed B.named, fun w h => hts w (List.mem_cons_of_mem _ h), B.notSynchronized, hK, hN⟩ rfl hX hP (hD0.self (sz := s.heap.size)) (fun q h => Or.inr h) va_S.rf hl
section RET
variable {p : Program} {l : Launch} {e : Env} {R : Room} {s : State} {m : MethodId} {args : Array Value} {below : List Frame} {meth : Method} {c : Code} {H : Heap} {locs : List Loc} {D : va_G} {ws ws' : va_W} {A : Nat → Prop} {r v : Int32} {cc : ByteArray} {pc : Nat} {ls : Array Slot}
theorem ret_i (hx : p.tables.exec = Jvm.exec) (hb : c.code = cc) (hr : meth.sig.returnType = some .int) (hlk : meth.locks = false) (hS : va_S A s.heap H locs) (hP : va_P D vwCl ws H) (hD : va_D A ws) (hv : v = r) (hw : ws = ws') (hdg : decode cc pc = .ok (.ireturn, 1)) :
    W p l e R s m args below meth c H locs 0 0 (MQ below (qI D A r ws') args s 0 0 A) (F0 m pc ls [.int v]) := by
  subst hw
  exact W.iret (v := v) hx hb hr (fun t ht _ => ⟨⟨v, (), rfl, hv, by rw [ht]; exact hP, hD⟩, hS.F ht⟩) hS.2.2 hdg
theorem ret_z (hx : p.tables.exec = Jvm.exec) (hb : c.code = cc) (hr : meth.sig.returnType = some .boolean) (hlk : meth.locks = false) (hS : va_S A s.heap H locs) (hP : va_P D vwCl ws H) (hD : va_D A ws) (hn : narrow .boolean (.int v) = .int v) (hv : v = r) (hw : ws = ws') (hdg : decode cc pc = .ok (.ireturn, 1)) :
    W p l e R s m args below meth c H locs 0 0 (MQ below (qI D A r ws') args s 0 0 A) (F0 m pc ls [.int v]) := by
  subst hw
  exact W.zret (v := v) hx hb hr hn (fun t ht _ => ⟨⟨v, (), rfl, hv, by rw [ht]; exact hP, hD⟩, hS.F ht⟩) hS.2.2 hdg
theorem ret_c (hx : p.tables.exec = Jvm.exec) (hb : c.code = cc) (hr : meth.sig.returnType = some .char) (hlk : meth.locks = false) (hS : va_S A s.heap H locs) (hP : va_P D vwCl ws H) (hD : va_D A ws) (hn : narrow .char (.int v) = .int v) (hv : v = r) (hw : ws = ws') (hdg : decode cc pc = .ok (.ireturn, 1)) :
    W p l e R s m args below meth c H locs 0 0 (MQ below (qI D A r ws') args s 0 0 A) (F0 m pc ls [.int v]) := by
  subst hw
  exact W.zret (v := v) hx hb hr hn (fun t ht _ => ⟨⟨v, (), rfl, hv, by rw [ht]; exact hP, hD⟩, hS.F ht⟩) hS.2.2 hdg
theorem ret_v (hx : p.tables.exec = Jvm.exec) (hb : c.code = cc) (hr : meth.sig.returnType = none) (hlk : meth.locks = false) (hS : va_S A s.heap H locs) (hP : va_P D vwCl ws H) (hD : va_D A ws) (hw : ws = ws') (hdg : decode cc pc = .ok (.return_, 1)) :
    W p l e R s m args below meth c H locs 0 0 (MQ below (qV D A ws') args s 0 0 A) (F0 m pc ls []) := by
  subst hw
  exact W.vret hx hb hr (fun t ht _ => ⟨⟨(), rfl, trivial, by rw [ht]; exact hP, hD⟩, hS.F ht⟩) hS.2.2 hdg
end RET
/-- what a method's end gives: the rule by which an answer v over the world ws' ends it -/
abbrev RtI (p : Program) (l : Launch) (e : Env) (R : Room) (s : State) (m : MethodId) (args : Array Value) (below : List Frame) (meth : Method) (c : Code) (D : va_G) (A : Nat → Prop) (cc : ByteArray) (r : Int32) (ws' : va_W) (Q : State → Prop) : Prop :=
  ∀ (H : Heap) (locs : List Loc) (pc : Nat) (ls : Array Slot) (ws : va_W) (v : Int32), va_P D vwCl ws H → va_D A ws → va_S A s.heap H locs → ws = ws' → v = r → decode cc pc = .ok (.ireturn, 1) → W p l e R s m args below meth c H locs 0 0 Q (F0 m pc ls [.int v])
abbrev RtN (p : Program) (l : Launch) (e : Env) (R : Room) (s : State) (m : MethodId) (args : Array Value) (below : List Frame) (meth : Method) (c : Code) (D : va_G) (A : Nat → Prop) (cc : ByteArray) (ty : FieldType) (r : Int32) (ws' : va_W) (Q : State → Prop) : Prop :=
  ∀ (H : Heap) (locs : List Loc) (pc : Nat) (ls : Array Slot) (ws : va_W) (v : Int32), va_P D vwCl ws H → va_D A ws → va_S A s.heap H locs → ws = ws' → v = r → narrow ty (.int v) = .int v → decode cc pc = .ok (.ireturn, 1) → W p l e R s m args below meth c H locs 0 0 Q (F0 m pc ls [.int v])
abbrev RtV (p : Program) (l : Launch) (e : Env) (R : Room) (s : State) (m : MethodId) (args : Array Value) (below : List Frame) (meth : Method) (c : Code) (D : va_G) (A : Nat → Prop) (cc : ByteArray) (ws' : va_W) (Q : State → Prop) : Prop :=
  ∀ (H : Heap) (locs : List Loc) (pc : Nat) (ls : Array Slot) (ws : va_W), va_P D vwCl ws H → va_D A ws → va_S A s.heap H locs → ws = ws' → decode cc pc = .ok (.return_, 1) → W p l e R s m args below meth c H locs 0 0 Q (F0 m pc ls [])
theorem MI.of {l : Launch} {y : MethodName} {cY : ByteArray} {nY : Nat} {rm : Room} {D : va_G} {cy : Nat → ClassId} {ws : va_W} {sz : Nat} {X : State → Prop} {av : List Value} {r : Int32} {ws' : va_W} (hy : plainFor y = true) (hav : (lg_sl av).length ≤ nY)
    (body : ∀ (p : Program) (e : Env) (s : State) (m : MethodId) (args : Array Value) (below : List Frame) (meth : Method) (c : Code) (A : Nat → Prop) (ls : Array Slot) (Q : State → Prop), At p s m meth c y cY nY (some .int) args D cy → X s →
      va_P D vwCl ws s.heap → va_D A ws → (∀ q : Nat, s.heap.size ≤ q → A q) → va_S A s.heap s.heap [] → lv_has ls nY (lv_args 0 av) → RtI p l e rm s m args below meth c D A cY r ws' Q →
      W p l e rm s m args below meth c s.heap [] 0 0 Q (F0 m 0 ls [])) : MI l y cY nY (some .int) rm D cy ws sz X av r ws' :=
  of_body (Qc := fun A => qI D A r ws') hy hav (fun p e s m below meth c A ls hAt _ hX hP hD hA hS hl => body p e s m _ below meth c A ls _ hAt hX hP hD hA hS hl (fun H locs pc ls ws v hP hD hS hw hv hd => ret_i hAt.1 hAt.2.1 hAt.2.2.1 hAt.2.2.2.2.2.2.1 hS hP hD hv hw hd))
theorem MZ.of {l : Launch} {y : MethodName} {cY : ByteArray} {nY : Nat} {rm : Room} {D : va_G} {cy : Nat → ClassId} {ws : va_W} {sz : Nat} {X : State → Prop} {av : List Value} {r : Int32} {ws' : va_W} (hy : plainFor y = true) (hav : (lg_sl av).length ≤ nY)
    (body : ∀ (p : Program) (e : Env) (s : State) (m : MethodId) (args : Array Value) (below : List Frame) (meth : Method) (c : Code) (A : Nat → Prop) (ls : Array Slot) (Q : State → Prop), At p s m meth c y cY nY (some .boolean) args D cy → X s →
      va_P D vwCl ws s.heap → va_D A ws → (∀ q : Nat, s.heap.size ≤ q → A q) → va_S A s.heap s.heap [] → lv_has ls nY (lv_args 0 av) → RtN p l e rm s m args below meth c D A cY .boolean r ws' Q →
      W p l e rm s m args below meth c s.heap [] 0 0 Q (F0 m 0 ls [])) : MI l y cY nY (some .boolean) rm D cy ws sz X av r ws' :=
  of_body (Qc := fun A => qI D A r ws') hy hav (fun p e s m below meth c A ls hAt _ hX hP hD hA hS hl => body p e s m _ below meth c A ls _ hAt hX hP hD hA hS hl (fun H locs pc ls ws v hP hD hS hw hv hn hd => ret_z hAt.1 hAt.2.1 hAt.2.2.1 hAt.2.2.2.2.2.2.1 hS hP hD hn hv hw hd))
theorem MC.of {l : Launch} {y : MethodName} {cY : ByteArray} {nY : Nat} {rm : Room} {D : va_G} {cy : Nat → ClassId} {ws : va_W} {sz : Nat} {X : State → Prop} {av : List Value} {r : Int32} {ws' : va_W} (hy : plainFor y = true) (hav : (lg_sl av).length ≤ nY)
    (body : ∀ (p : Program) (e : Env) (s : State) (m : MethodId) (args : Array Value) (below : List Frame) (meth : Method) (c : Code) (A : Nat → Prop) (ls : Array Slot) (Q : State → Prop), At p s m meth c y cY nY (some .char) args D cy → X s →
      va_P D vwCl ws s.heap → va_D A ws → (∀ q : Nat, s.heap.size ≤ q → A q) → va_S A s.heap s.heap [] → lv_has ls nY (lv_args 0 av) → RtN p l e rm s m args below meth c D A cY .char r ws' Q →
      W p l e rm s m args below meth c s.heap [] 0 0 Q (F0 m 0 ls [])) : MI l y cY nY (some .char) rm D cy ws sz X av r ws' :=
  of_body (Qc := fun A => qI D A r ws') hy hav (fun p e s m below meth c A ls hAt _ hX hP hD hA hS hl => body p e s m _ below meth c A ls _ hAt hX hP hD hA hS hl (fun H locs pc ls ws v hP hD hS hw hv hn hd => ret_c hAt.1 hAt.2.1 hAt.2.2.1 hAt.2.2.2.2.2.2.1 hS hP hD hn hv hw hd))
theorem MV.of {l : Launch} {y : MethodName} {cY : ByteArray} {nY : Nat} {rm : Room} {D : va_G} {cy : Nat → ClassId} {ws : va_W} {sz : Nat} {X : State → Prop} {av : List Value} {ws' : va_W} (hy : plainFor y = true) (hav : (lg_sl av).length ≤ nY)
    (body : ∀ (p : Program) (e : Env) (s : State) (m : MethodId) (args : Array Value) (below : List Frame) (meth : Method) (c : Code) (A : Nat → Prop) (ls : Array Slot) (Q : State → Prop), At p s m meth c y cY nY none args D cy → X s →
      va_P D vwCl ws s.heap → va_D A ws → (∀ q : Nat, s.heap.size ≤ q → A q) → va_S A s.heap s.heap [] → lv_has ls nY (lv_args 0 av) → RtV p l e rm s m args below meth c D A cY ws' Q →
      W p l e rm s m args below meth c s.heap [] 0 0 Q (F0 m 0 ls [])) : MV l y cY nY rm D cy ws sz X av ws' :=
  of_body (Qc := fun A => qV D A ws') hy hav (fun p e s m below meth c A ls hAt _ hX hP hD hA hS hl => body p e s m _ below meth c A ls _ hAt hX hP hD hA hS hl (fun H locs pc ls ws hP hD hS hw hd => ret_v hAt.1 hAt.2.1 hAt.2.2.1 hAt.2.2.2.2.2.2.1 hS hP hD hw hd))
section CALL
variable {p : Program} {l : Launch} {e : Env} {R : Room} {s : State} {m : MethodId} {args : Array Value} {below : List Frame} {meth : Method} {c : Code} {H : Heap} {locs : List Loc} {cells slots : Nat} {Q : State → Prop} {D : va_G} {cy : Nat → ClassId} {ws ws' : va_W} {A : Nat → Prop} {r : Int32} {cc : ByteArray} {pc : Nat} {ls : Array Slot}
  {own C host : String} {y : MethodName} {cY : ByteArray} {nY nL index : Nat} {ret : Option FieldType} {rm : Room} {X : State → Prop} {b : Nat} {As rest st : List Value}
theorem free_all (hD : va_D A ws) (hS : va_S A s.heap H locs) (hA : ∀ q : Nat, s.heap.size ≤ q → A q) : ∀ q, va_A ws H.size q → A q := by
  intro q h
  rcases h with ⟨k, e, h⟩ | h
  · exact hD.2 k (q, e) h
  · exact hA q (Nat.le_trans hS.1 h)
theorem codeGood (k5 : Cond.code y cY nY ret ∈ WA) : GoodIn WA (Cond.code y cY nY ret :: WA) := fun w h => by
  rcases List.mem_cons.mp h with rfl | h
  · exact ⟨k5, good_of_word (wa_good _ k5)⟩
  · exact ⟨h, good_of_word (wa_good _ h)⟩
/-- what a call needs of the tables and the room -/
theorem cB {n : Nat} (hw : ∀ w ∈ WA, w.before args s = true) (k1 : Cond.methodLink own index y ∈ WA) (k4 : Cond.initialized y.cls ∈ WA) (k5 : Cond.code y cY nY ret ∈ WA) (hrm : rm.cells = 0 ∧ rm.slots = 0)
    (hd : y.cls ≠ "java/lang/invoke/MethodHandle" ∧ y.cls ≠ "java/lang/invoke/VarHandle" ∧ (parseMethodDescriptor y.desc).map (fun d => d.parameters.length) = some n) (hR : rm.frames + 1 ≤ R.frames ∧ 8 + (nY + 11) + rm.locals ≤ R.locals) :
    CallB R s args own index y cY nY ret (Cond.code y cY nY ret :: WA) rm 0 0 n :=
  callB_of n hw (codeGood k5) rfl hrm.1 hrm.2 (hw _ k4) (hw _ k1) hd hR
theorem cN {n : Nat} (hw : ∀ w ∈ WA, w.before args s = true) (hN : NW s) (k1 : Cond.methodLinkNest own index y host ∈ nwL) (k4 : Cond.initialized y.cls ∈ WA) (k5 : Cond.code y cY nY ret ∈ WA) (hrm : rm.cells = 0 ∧ rm.slots = 0)
    (hd : y.cls ≠ "java/lang/invoke/MethodHandle" ∧ y.cls ≠ "java/lang/invoke/VarHandle" ∧ (parseMethodDescriptor y.desc).map (fun d => d.parameters.length) = some n) (hR : rm.frames + 1 ≤ R.frames ∧ 8 + (nY + 11) + rm.locals ≤ R.locals) :
    va_CN R s args own index y host cY nY ret (Cond.code y cY nY ret :: WA) rm 0 0 n :=
  va_cnB n hw (codeGood k5) rfl hrm.1 hrm.2 (hN _ k1) (hw _ k4) hd hR
theorem goI (hS : va_S A s.heap H locs) (hD : va_D A ws) (hA : ∀ q : Nat, s.heap.size ≤ q → A q) {a : Array Value}
    (hr : va_Run p l e R s m args below meth c H locs cells slots 0 0 (F0 m pc ls st) rest (qI D (va_A ws H.size) r ws' a) (va_A ws H.size))
    (kk : ∀ (H1 : Heap) (locs1 : List Loc), va_P D vwCl ws' H1 → va_D A ws' → va_S A s.heap H1 locs1 → W p l e R s m args below meth c H1 locs1 cells slots Q (F0 m (pc + 3) ls (.int r :: rest))) :
    W p l e R s m args below meth c H locs cells slots Q (F0 m pc ls st) := by
  have hF := free_all hD hS hA
  refine va_calli hr hS (fun q _ h => hF q h) hF (fun r' u t H1 locs1 ht hvm hw hB hz hk hS1 => ?_)
  obtain ⟨hP1, hD1⟩ := hB
  rw [ht] at hP1
  cases hw
  exact kk H1 locs1 hP1 (hD1.weaken (fun k q _ h => hF q.1 h)) hS1
theorem goV (hS : va_S A s.heap H locs) (hD : va_D A ws) (hA : ∀ q : Nat, s.heap.size ≤ q → A q) {a : Array Value}
    (hr : va_Run p l e R s m args below meth c H locs cells slots 0 0 (F0 m pc ls st) rest (qV D (va_A ws H.size) ws' a) (va_A ws H.size))
    (kk : ∀ (H1 : Heap) (locs1 : List Loc), va_P D vwCl ws' H1 → va_D A ws' → va_S A s.heap H1 locs1 → W p l e R s m args below meth c H1 locs1 cells slots Q (F0 m (pc + 3) ls rest)) :
    W p l e R s m args below meth c H locs cells slots Q (F0 m pc ls st) := by
  have hF := free_all hD hS hA
  refine va_callv hr hS (fun q _ h => hF q h) hF (fun u t H1 locs1 ht hvm hw hB hz hk hS1 => ?_)
  obtain ⟨hP1, hD1⟩ := hB
  rw [ht] at hP1
  exact kk H1 locs1 hP1 (hD1.weaken (fun k q _ h => hF q.1 h)) hS1
/-- invokevirtual, the answer an int -/
theorem cV_i {n : Nat} (hx : p.tables.exec = Jvm.exec) (hb : c.code = cc) (hml : c.maxLocals = nL) (hown : s.vm.findClass own = some m.cls) (hw : ∀ w ∈ WA, w.before args s = true) (hK : va_K D vwCl (tyL cy) s) (hN : NW s) (hA : ∀ q : Nat, s.heap.size ≤ q → A q) (hsz : ls.size = nL)
    (hP : va_P D vwCl ws H) (hD : va_D A ws) (hS : va_S A s.heap H locs)
    (k1 : Cond.methodLink own index y ∈ WA) (k2 : Cond.instanceMethod y ∈ WA) (k3 : Cond.selects C y y ∈ WA) (k4 : Cond.initialized y.cls ∈ WA) (k5 : Cond.code y cY nY ret ∈ WA)
    (hM : MI l y cY nY ret rm D cy ws H.size X (.ref b :: As) r ws') (hX : ∀ U : State, U.heap = H → s.WarmedH U.vm → X U) (hXk : Xok X)
    {ci q0 N : Nat} {T : u_T} {fs : List Value} (he : ws[q0]? = some (b, .inr (ci, fs))) (hc : vwCl[ci]? = some (C, T, N)) (hrm : rm.cells = 0 ∧ rm.slots = 0)
    (hd : y.cls ≠ "java/lang/invoke/MethodHandle" ∧ y.cls ≠ "java/lang/invoke/VarHandle" ∧ (parseMethodDescriptor y.desc).map (fun d => d.parameters.length) = some n) (hn : As.length = n) (hR : rm.frames + 1 ≤ R.frames ∧ 8 + (nY + 11) + rm.locals ≤ R.locals)
    (hcs : cells ≤ R.cells ∧ slots ≤ R.slots) (hst : (rest.map fun v => v.category).sum ≤ 8) (hstk : st = As.reverse ++ .ref b :: rest) (hdg : decode cc pc = .ok (.invokevirtual index, 3))
    (kk : ∀ (H1 : Heap) (locs1 : List Loc), va_P D vwCl ws' H1 → va_D A ws' → va_S A s.heap H1 locs1 → W p l e R s m args below meth c H1 locs1 cells slots Q (F0 m (pc + 3) ls (.int r :: rest))) :
    W p l e R s m args below meth c H locs cells slots Q (F0 m pc ls st) :=
  goI hS hD hA (va_runV (As := As) (rest := rest) ⟨hx, hb, hml, hown, hw⟩ hM ⟨cB hw k1 k4 k5 hrm hd hR, hw _ k2, hw _ k3⟩ ⟨pW_blind hXk, va_recv hK hP hc he, pW_call hP hK hD hN hX⟩ rfl hn hsz hstk (lv_room hst) hdg hcs) kk
theorem cV_v {n : Nat} (hx : p.tables.exec = Jvm.exec) (hb : c.code = cc) (hml : c.maxLocals = nL) (hown : s.vm.findClass own = some m.cls) (hw : ∀ w ∈ WA, w.before args s = true) (hK : va_K D vwCl (tyL cy) s) (hN : NW s) (hA : ∀ q : Nat, s.heap.size ≤ q → A q) (hsz : ls.size = nL)
    (hP : va_P D vwCl ws H) (hD : va_D A ws) (hS : va_S A s.heap H locs)
    (k1 : Cond.methodLink own index y ∈ WA) (k2 : Cond.instanceMethod y ∈ WA) (k3 : Cond.selects C y y ∈ WA) (k4 : Cond.initialized y.cls ∈ WA) (k5 : Cond.code y cY nY none ∈ WA)
    (hM : MV l y cY nY rm D cy ws H.size X (.ref b :: As) ws') (hX : ∀ U : State, U.heap = H → s.WarmedH U.vm → X U) (hXk : Xok X)
    {ci q0 N : Nat} {T : u_T} {fs : List Value} (he : ws[q0]? = some (b, .inr (ci, fs))) (hc : vwCl[ci]? = some (C, T, N)) (hrm : rm.cells = 0 ∧ rm.slots = 0)
    (hd : y.cls ≠ "java/lang/invoke/MethodHandle" ∧ y.cls ≠ "java/lang/invoke/VarHandle" ∧ (parseMethodDescriptor y.desc).map (fun d => d.parameters.length) = some n) (hn : As.length = n) (hR : rm.frames + 1 ≤ R.frames ∧ 8 + (nY + 11) + rm.locals ≤ R.locals)
    (hcs : cells ≤ R.cells ∧ slots ≤ R.slots) (hst : (rest.map fun v => v.category).sum ≤ 8) (hstk : st = As.reverse ++ .ref b :: rest) (hdg : decode cc pc = .ok (.invokevirtual index, 3))
    (kk : ∀ (H1 : Heap) (locs1 : List Loc), va_P D vwCl ws' H1 → va_D A ws' → va_S A s.heap H1 locs1 → W p l e R s m args below meth c H1 locs1 cells slots Q (F0 m (pc + 3) ls rest)) :
    W p l e R s m args below meth c H locs cells slots Q (F0 m pc ls st) :=
  goV hS hD hA (va_runV (As := As) (rest := rest) ⟨hx, hb, hml, hown, hw⟩ hM ⟨cB hw k1 k4 k5 hrm hd hR, hw _ k2, hw _ k3⟩ ⟨pW_blind hXk, va_recv hK hP hc he, pW_call hP hK hD hN hX⟩ rfl hn hsz hstk (lv_room hst) hdg hcs) kk
/-- invokestatic, the answer an int -/
theorem cS_i {n : Nat} (hx : p.tables.exec = Jvm.exec) (hb : c.code = cc) (hml : c.maxLocals = nL) (hown : s.vm.findClass own = some m.cls) (hw : ∀ w ∈ WA, w.before args s = true) (hK : va_K D vwCl (tyL cy) s) (hN : NW s) (hA : ∀ q : Nat, s.heap.size ≤ q → A q) (hsz : ls.size = nL)
    (hP : va_P D vwCl ws H) (hD : va_D A ws) (hS : va_S A s.heap H locs)
    (k1 : Cond.methodLink own index y ∈ WA) (k2 : Cond.static y ∈ WA) (k4 : Cond.initialized y.cls ∈ WA) (k5 : Cond.code y cY nY ret ∈ WA)
    (hM : MI l y cY nY ret rm D cy ws H.size X As r ws') (hX : ∀ U : State, U.heap = H → s.WarmedH U.vm → X U) (hXk : Xok X) (hrm : rm.cells = 0 ∧ rm.slots = 0)
    (hd : y.cls ≠ "java/lang/invoke/MethodHandle" ∧ y.cls ≠ "java/lang/invoke/VarHandle" ∧ (parseMethodDescriptor y.desc).map (fun d => d.parameters.length) = some n) (hn : As.length = n) (hR : rm.frames + 1 ≤ R.frames ∧ 8 + (nY + 11) + rm.locals ≤ R.locals)
    (hcs : cells ≤ R.cells ∧ slots ≤ R.slots) (hst : (rest.map fun v => v.category).sum ≤ 8) (hstk : st = As.reverse ++ rest) (hdg : decode cc pc = .ok (.invokestatic index, 3))
    (kk : ∀ (H1 : Heap) (locs1 : List Loc), va_P D vwCl ws' H1 → va_D A ws' → va_S A s.heap H1 locs1 → W p l e R s m args below meth c H1 locs1 cells slots Q (F0 m (pc + 3) ls (.int r :: rest))) :
    W p l e R s m args below meth c H locs cells slots Q (F0 m pc ls st) :=
  goI hS hD hA (va_runS (As := As) (rest := rest) ⟨hx, hb, hml, hown, hw⟩ hM ⟨cB hw k1 k4 k5 hrm hd hR, hw _ k2⟩ ⟨pW_blind hXk, pW_call hP hK hD hN hX⟩ rfl hn hsz hstk (lv_room hst) hdg hcs) kk
theorem cS_v {n : Nat} (hx : p.tables.exec = Jvm.exec) (hb : c.code = cc) (hml : c.maxLocals = nL) (hown : s.vm.findClass own = some m.cls) (hw : ∀ w ∈ WA, w.before args s = true) (hK : va_K D vwCl (tyL cy) s) (hN : NW s) (hA : ∀ q : Nat, s.heap.size ≤ q → A q) (hsz : ls.size = nL)
    (hP : va_P D vwCl ws H) (hD : va_D A ws) (hS : va_S A s.heap H locs)
    (k1 : Cond.methodLink own index y ∈ WA) (k2 : Cond.static y ∈ WA) (k4 : Cond.initialized y.cls ∈ WA) (k5 : Cond.code y cY nY none ∈ WA)
    (hM : MV l y cY nY rm D cy ws H.size X As ws') (hX : ∀ U : State, U.heap = H → s.WarmedH U.vm → X U) (hXk : Xok X) (hrm : rm.cells = 0 ∧ rm.slots = 0)
    (hd : y.cls ≠ "java/lang/invoke/MethodHandle" ∧ y.cls ≠ "java/lang/invoke/VarHandle" ∧ (parseMethodDescriptor y.desc).map (fun d => d.parameters.length) = some n) (hn : As.length = n) (hR : rm.frames + 1 ≤ R.frames ∧ 8 + (nY + 11) + rm.locals ≤ R.locals)
    (hcs : cells ≤ R.cells ∧ slots ≤ R.slots) (hst : (rest.map fun v => v.category).sum ≤ 8) (hstk : st = As.reverse ++ rest) (hdg : decode cc pc = .ok (.invokestatic index, 3))
    (kk : ∀ (H1 : Heap) (locs1 : List Loc), va_P D vwCl ws' H1 → va_D A ws' → va_S A s.heap H1 locs1 → W p l e R s m args below meth c H1 locs1 cells slots Q (F0 m (pc + 3) ls rest)) :
    W p l e R s m args below meth c H locs cells slots Q (F0 m pc ls st) :=
  goV hS hD hA (va_runS (As := As) (rest := rest) ⟨hx, hb, hml, hown, hw⟩ hM ⟨cB hw k1 k4 k5 hrm hd hR, hw _ k2⟩ ⟨pW_blind hXk, pW_call hP hK hD hN hX⟩ rfl hn hsz hstk (lv_room hst) hdg hcs) kk
/-- a static method of a nest mate -/
theorem cSN_i {n : Nat} (hx : p.tables.exec = Jvm.exec) (hb : c.code = cc) (hml : c.maxLocals = nL) (hown : s.vm.findClass own = some m.cls) (hw : ∀ w ∈ WA, w.before args s = true) (hK : va_K D vwCl (tyL cy) s) (hN : NW s) (hA : ∀ q : Nat, s.heap.size ≤ q → A q) (hsz : ls.size = nL)
    (hP : va_P D vwCl ws H) (hD : va_D A ws) (hS : va_S A s.heap H locs)
    (k1 : Cond.methodLinkNest own index y host ∈ nwL) (k2 : Cond.static y ∈ WA) (k4 : Cond.initialized y.cls ∈ WA) (k5 : Cond.code y cY nY ret ∈ WA)
    (hM : MI l y cY nY ret rm D cy ws H.size X As r ws') (hX : ∀ U : State, U.heap = H → s.WarmedH U.vm → X U) (hXk : Xok X) (hrm : rm.cells = 0 ∧ rm.slots = 0)
    (hd : y.cls ≠ "java/lang/invoke/MethodHandle" ∧ y.cls ≠ "java/lang/invoke/VarHandle" ∧ (parseMethodDescriptor y.desc).map (fun d => d.parameters.length) = some n) (hn : As.length = n) (hR : rm.frames + 1 ≤ R.frames ∧ 8 + (nY + 11) + rm.locals ≤ R.locals)
    (hcs : cells ≤ R.cells ∧ slots ≤ R.slots) (hst : (rest.map fun v => v.category).sum ≤ 8) (hstk : st = As.reverse ++ rest) (hdg : decode cc pc = .ok (.invokestatic index, 3))
    (kk : ∀ (H1 : Heap) (locs1 : List Loc), va_P D vwCl ws' H1 → va_D A ws' → va_S A s.heap H1 locs1 → W p l e R s m args below meth c H1 locs1 cells slots Q (F0 m (pc + 3) ls (.int r :: rest))) :
    W p l e R s m args below meth c H locs cells slots Q (F0 m pc ls st) :=
  goI hS hD hA (va_runSN (As := As) (rest := rest) ⟨hx, hb, hml, hown, hw⟩ hM ⟨cN hw hN k1 k4 k5 hrm hd hR, hw _ k2, trivial⟩ ⟨pW_blind hXk, pW_call hP hK hD hN hX⟩ rfl hn hsz hstk (lv_room hst) hdg hcs) kk
theorem cSN_v {n : Nat} (hx : p.tables.exec = Jvm.exec) (hb : c.code = cc) (hml : c.maxLocals = nL) (hown : s.vm.findClass own = some m.cls) (hw : ∀ w ∈ WA, w.before args s = true) (hK : va_K D vwCl (tyL cy) s) (hN : NW s) (hA : ∀ q : Nat, s.heap.size ≤ q → A q) (hsz : ls.size = nL)
    (hP : va_P D vwCl ws H) (hD : va_D A ws) (hS : va_S A s.heap H locs)
    (k1 : Cond.methodLinkNest own index y host ∈ nwL) (k2 : Cond.static y ∈ WA) (k4 : Cond.initialized y.cls ∈ WA) (k5 : Cond.code y cY nY none ∈ WA)
    (hM : MV l y cY nY rm D cy ws H.size X As ws') (hX : ∀ U : State, U.heap = H → s.WarmedH U.vm → X U) (hXk : Xok X) (hrm : rm.cells = 0 ∧ rm.slots = 0)
    (hd : y.cls ≠ "java/lang/invoke/MethodHandle" ∧ y.cls ≠ "java/lang/invoke/VarHandle" ∧ (parseMethodDescriptor y.desc).map (fun d => d.parameters.length) = some n) (hn : As.length = n) (hR : rm.frames + 1 ≤ R.frames ∧ 8 + (nY + 11) + rm.locals ≤ R.locals)
    (hcs : cells ≤ R.cells ∧ slots ≤ R.slots) (hst : (rest.map fun v => v.category).sum ≤ 8) (hstk : st = As.reverse ++ rest) (hdg : decode cc pc = .ok (.invokestatic index, 3))
    (kk : ∀ (H1 : Heap) (locs1 : List Loc), va_P D vwCl ws' H1 → va_D A ws' → va_S A s.heap H1 locs1 → W p l e R s m args below meth c H1 locs1 cells slots Q (F0 m (pc + 3) ls rest)) :
    W p l e R s m args below meth c H locs cells slots Q (F0 m pc ls st) :=
  goV hS hD hA (va_runSN (As := As) (rest := rest) ⟨hx, hb, hml, hown, hw⟩ hM ⟨cN hw hN k1 k4 k5 hrm hd hR, hw _ k2, trivial⟩ ⟨pW_blind hXk, pW_call hP hK hD hN hX⟩ rfl hn hsz hstk (lv_room hst) hdg hcs) kk
end CALL
