/-! methods that answer a double or a float -/
def n64b (r : UInt64) : Bool := decide (r &&& 0x7fffffffffffffff ≤ 0x7ff0000000000000)
theorem n64_iff {r : UInt64} : n64b r = true ↔ vf_n64 r := by simp [n64b, vf_n64]
def n32b (r : UInt32) : Bool := decide (r &&& 0x7fffffff ≤ 0x7f800000)
theorem n32_iff {r : UInt32} : n32b r = true ↔ vf_n32 r := by simp [n32b, vf_n32]
abbrev qD (D : va_G) (A : Nat → Prop) (r : UInt64) (ws' : va_W) : Array Value → State → Outcome → State → Prop := va_Qd (fun (r' : UInt64) (_ : Unit) => r' = r) (bW D A ws') A
def MD (l : Launch) (y : MethodName) (cY : ByteArray) (nY : Nat) (rm : Room) (D : va_G) (cy : Nat → ClassId) (ws : va_W) (sz : Nat) (X : State → Prop) (av : List Value) (r : UInt64) (ws' : va_W) : Prop :=
  Met l y (Cond.code y cY nY (some .double) :: WA) rm (pW D cy ws sz X av) (qD D (va_A ws sz) r ws') 0 0 (va_A ws sz)
abbrev qDc (D : va_G) (A : Nat → Prop) (code : Int32) (r : UInt64) (ws' : va_W) : Array Value → State → Outcome → State → Prop := va_Qd (fun (r' : UInt64) (_ : Unit) => code = 0 ∧ r' = r) (bW D A ws') A
def MTD (l : Launch) (y : MethodName) (cY : ByteArray) (nY : Nat) (rm : Room) (D : va_G) (cy : Nat → ClassId) (en g : Nat → Nat) (ws : va_W) (sz : Nat) (av : List Value) (E : Int32 → String) (code : Int32) (r : UInt64) (ws' : va_W) : Prop :=
  vx_Met l y (Cond.code y cY nY (some .double) :: WA) rm (pW D cy ws sz (XS en g ws sz) av) (qDc D (va_A ws sz) code r ws') (xC D (va_A ws sz) code E ws') 2 12 (va_A ws sz)
abbrev RtD (p : Program) (l : Launch) (e : Env) (R : Room) (s : State) (m : MethodId) (args : Array Value) (below : List Frame) (meth : Method) (c : Code) (D : va_G) (A : Nat → Prop) (cc : ByteArray) (r : UInt64) (ws' : va_W) (Q : State → Prop) : Prop :=
  ∀ (H : Heap) (locs : List Loc) (pc : Nat) (ls : Array Slot) (ws : va_W) (v : UInt64), va_P D vwCl ws H → va_D A ws → va_S A s.heap H locs → ws = ws' → v = r → decode cc pc = .ok (.dreturn, 1) → W p l e R s m args below meth c H locs 0 0 Q (F0 m pc ls [.double v])
theorem ret_d {p : Program} {l : Launch} {e : Env} {R : Room} {s : State} {m : MethodId} {args : Array Value} {below : List Frame} {meth : Method} {c : Code} {H : Heap} {locs : List Loc} {D : va_G} {ws ws' : va_W} {A : Nat → Prop} {r v : UInt64} {cc : ByteArray} {pc : Nat} {ls : Array Slot} (hx : p.tables.exec = Jvm.exec) (hb : c.code = cc) (hr : meth.sig.returnType = some .double) (hlk : meth.locks = false) (hS : va_S A s.heap H locs) (hP : va_P D vwCl ws H) (hD : va_D A ws) (hv : v = r) (hw : ws = ws') (hdg : decode cc pc = .ok (.dreturn, 1)) :
    W p l e R s m args below meth c H locs 0 0 (MQ below (qD D A r ws') args s 0 0 A) (F0 m pc ls [.double v]) := by
  subst hw
  exact W.dret (v := v) hx hb hr (fun t ht _ => ⟨⟨v, (), rfl, hv, by rw [ht]; exact hP, hD⟩, hS.F ht⟩) hS.2.2 hdg
theorem retx_d {p : Program} {l : Launch} {e : Env} {R : Room} {s : State} {m : MethodId} {args : Array Value} {below : List Frame} {meth : Method} {c : Code} {H : Heap} {locs : List Loc} {cells slots : Nat} {D : va_G} {ws ws' : va_W} {A : Nat → Prop} {code : Int32} {r v : UInt64} {E : Int32 → String} {cc : ByteArray} {pc : Nat} {ls : Array Slot} (hx : p.tables.exec = Jvm.exec) (hb : c.code = cc) (hr : meth.sig.returnType = some .double) (hlk : meth.locks = false) (hc : cells ≤ 2) (hs : slots ≤ 12) (hS : va_S A s.heap H locs) (hP : va_P D vwCl ws H) (hD : va_D A ws) (hv : v = r) (h0 : code = 0) (hw : ws = ws') (hdg : decode cc pc = .ok (.dreturn, 1)) :
    W p l e R s m args below meth c H locs cells slots (vx_MQ below (qDc D A code r ws') (xC D A code E ws') args s 2 12 A) (F0 m pc ls [.double v]) := by
  subst hw
  refine W.widen hc hs (vx_ret ?_)
  exact W.dret (v := v) hx hb hr (fun t ht _ => ⟨⟨v, (), rfl, ⟨h0, hv⟩, by rw [ht]; exact hP, hD⟩, hS.F ht⟩) hS.2.2 hdg
theorem MD.of {l : Launch} {y : MethodName} {cY : ByteArray} {nY : Nat} {rm : Room} {D : va_G} {cy : Nat → ClassId} {ws : va_W} {sz : Nat} {X : State → Prop} {av : List Value} {r : UInt64} {ws' : va_W} (hy : plainFor y = true) (hav : (lg_sl av).length ≤ nY)
    (body : ∀ (p : Program) (e : Env) (s : State) (m : MethodId) (args : Array Value) (below : List Frame) (meth : Method) (c : Code) (A : Nat → Prop) (ls : Array Slot) (Q : State → Prop), At p s m meth c y cY nY (some .double) args D cy → X s →
      va_P D vwCl ws s.heap → va_D A ws → (∀ q : Nat, s.heap.size ≤ q → A q) → va_S A s.heap s.heap [] → lv_has ls nY (lv_args 0 av) → RtD p l e rm s m args below meth c D A cY r ws' Q →
      W p l e rm s m args below meth c s.heap [] 0 0 Q (F0 m 0 ls [])) : MD l y cY nY rm D cy ws sz X av r ws' :=
  of_body (Qc := fun A => qD D A r ws') hy hav (fun p e s m below meth c A ls hAt _ hX hP hD hA hS hl => body p e s m _ below meth c A ls _ hAt hX hP hD hA hS hl (fun H locs pc ls ws v hP hD hS hw hv hd => ret_d hAt.1 hAt.2.1 hAt.2.2.1 hAt.2.2.2.2.2.2.1 hS hP hD hv hw hd))
theorem MTD.of {l : Launch} {y : MethodName} {cY : ByteArray} {nY : Nat} {rm : Room} {D : va_G} {cy : Nat → ClassId} {en g : Nat → Nat} {ws : va_W} {sz : Nat} {av : List Value} {E : Int32 → String} {code : Int32} {r : UInt64} {ws' : va_W} (hy : plainName y.cls = true) (hav : (lg_sl av).length ≤ nY)
    (body : ∀ (p : Program) (e : Env) (s : State) (m : MethodId) (args : Array Value) (below : List Frame) (meth : Method) (c : Code) (A : Nat → Prop) (ls : Array Slot) (Q : State → Prop), At p s m meth c y cY nY (some .double) args D cy → (∀ x ∈ c.exceptionTable.toList, False) → ST en g A s s.heap →
      va_P D vwCl ws s.heap → va_D A ws → (∀ q : Nat, s.heap.size ≤ q → A q) → va_S A s.heap s.heap [] → lv_has ls nY (lv_args 0 av) → Q = vx_MQ below (qDc D A code r ws') (xC D A code E ws') args s 2 12 A →
      W p l e rm s m args below meth c s.heap [] 0 0 Q (F0 m 0 ls [])) : MTD l y cY nY rm D cy en g ws sz av E code r ws' :=
  of_bodyT (Qc := fun A => qDc D A code r ws') (XC := fun A => xC D A code E ws') hy hav (fun p e s m below meth c A ls hAt htb hX hP hD hA hS hl => body p e s m _ below meth c A ls _ hAt htb hX hP hD hA hS hl rfl)
abbrev qF (D : va_G) (A : Nat → Prop) (r : UInt32) (ws' : va_W) : Array Value → State → Outcome → State → Prop := va_Qf (fun (r' : UInt32) (_ : Unit) => r' = r) (bW D A ws') A
def MF (l : Launch) (y : MethodName) (cY : ByteArray) (nY : Nat) (rm : Room) (D : va_G) (cy : Nat → ClassId) (ws : va_W) (sz : Nat) (X : State → Prop) (av : List Value) (r : UInt32) (ws' : va_W) : Prop :=
  Met l y (Cond.code y cY nY (some .float) :: WA) rm (pW D cy ws sz X av) (qF D (va_A ws sz) r ws') 0 0 (va_A ws sz)
abbrev qFc (D : va_G) (A : Nat → Prop) (code : Int32) (r : UInt32) (ws' : va_W) : Array Value → State → Outcome → State → Prop := va_Qf (fun (r' : UInt32) (_ : Unit) => code = 0 ∧ r' = r) (bW D A ws') A
def MTF (l : Launch) (y : MethodName) (cY : ByteArray) (nY : Nat) (rm : Room) (D : va_G) (cy : Nat → ClassId) (en g : Nat → Nat) (ws : va_W) (sz : Nat) (av : List Value) (E : Int32 → String) (code : Int32) (r : UInt32) (ws' : va_W) : Prop :=
  vx_Met l y (Cond.code y cY nY (some .float) :: WA) rm (pW D cy ws sz (XS en g ws sz) av) (qFc D (va_A ws sz) code r ws') (xC D (va_A ws sz) code E ws') 2 12 (va_A ws sz)
abbrev RtF (p : Program) (l : Launch) (e : Env) (R : Room) (s : State) (m : MethodId) (args : Array Value) (below : List Frame) (meth : Method) (c : Code) (D : va_G) (A : Nat → Prop) (cc : ByteArray) (r : UInt32) (ws' : va_W) (Q : State → Prop) : Prop :=
  ∀ (H : Heap) (locs : List Loc) (pc : Nat) (ls : Array Slot) (ws : va_W) (v : UInt32), va_P D vwCl ws H → va_D A ws → va_S A s.heap H locs → ws = ws' → v = r → decode cc pc = .ok (.freturn, 1) → W p l e R s m args below meth c H locs 0 0 Q (F0 m pc ls [.float v])
theorem ret_f {p : Program} {l : Launch} {e : Env} {R : Room} {s : State} {m : MethodId} {args : Array Value} {below : List Frame} {meth : Method} {c : Code} {H : Heap} {locs : List Loc} {D : va_G} {ws ws' : va_W} {A : Nat → Prop} {r v : UInt32} {cc : ByteArray} {pc : Nat} {ls : Array Slot} (hx : p.tables.exec = Jvm.exec) (hb : c.code = cc) (hr : meth.sig.returnType = some .float) (hlk : meth.locks = false) (hS : va_S A s.heap H locs) (hP : va_P D vwCl ws H) (hD : va_D A ws) (hv : v = r) (hw : ws = ws') (hdg : decode cc pc = .ok (.freturn, 1)) :
    W p l e R s m args below meth c H locs 0 0 (MQ below (qF D A r ws') args s 0 0 A) (F0 m pc ls [.float v]) := by
  subst hw
  exact W.fret (v := v) hx hb hr (fun t ht _ => ⟨⟨v, (), rfl, hv, by rw [ht]; exact hP, hD⟩, hS.F ht⟩) hS.2.2 hdg
theorem retx_f {p : Program} {l : Launch} {e : Env} {R : Room} {s : State} {m : MethodId} {args : Array Value} {below : List Frame} {meth : Method} {c : Code} {H : Heap} {locs : List Loc} {cells slots : Nat} {D : va_G} {ws ws' : va_W} {A : Nat → Prop} {code : Int32} {r v : UInt32} {E : Int32 → String} {cc : ByteArray} {pc : Nat} {ls : Array Slot} (hx : p.tables.exec = Jvm.exec) (hb : c.code = cc) (hr : meth.sig.returnType = some .float) (hlk : meth.locks = false) (hc : cells ≤ 2) (hs : slots ≤ 12) (hS : va_S A s.heap H locs) (hP : va_P D vwCl ws H) (hD : va_D A ws) (hv : v = r) (h0 : code = 0) (hw : ws = ws') (hdg : decode cc pc = .ok (.freturn, 1)) :
    W p l e R s m args below meth c H locs cells slots (vx_MQ below (qFc D A code r ws') (xC D A code E ws') args s 2 12 A) (F0 m pc ls [.float v]) := by
  subst hw
  refine W.widen hc hs (vx_ret ?_)
  exact W.fret (v := v) hx hb hr (fun t ht _ => ⟨⟨v, (), rfl, ⟨h0, hv⟩, by rw [ht]; exact hP, hD⟩, hS.F ht⟩) hS.2.2 hdg
theorem MF.of {l : Launch} {y : MethodName} {cY : ByteArray} {nY : Nat} {rm : Room} {D : va_G} {cy : Nat → ClassId} {ws : va_W} {sz : Nat} {X : State → Prop} {av : List Value} {r : UInt32} {ws' : va_W} (hy : plainFor y = true) (hav : (lg_sl av).length ≤ nY)
    (body : ∀ (p : Program) (e : Env) (s : State) (m : MethodId) (args : Array Value) (below : List Frame) (meth : Method) (c : Code) (A : Nat → Prop) (ls : Array Slot) (Q : State → Prop), At p s m meth c y cY nY (some .float) args D cy → X s →
      va_P D vwCl ws s.heap → va_D A ws → (∀ q : Nat, s.heap.size ≤ q → A q) → va_S A s.heap s.heap [] → lv_has ls nY (lv_args 0 av) → RtF p l e rm s m args below meth c D A cY r ws' Q →
      W p l e rm s m args below meth c s.heap [] 0 0 Q (F0 m 0 ls [])) : MF l y cY nY rm D cy ws sz X av r ws' :=
  of_body (Qc := fun A => qF D A r ws') hy hav (fun p e s m below meth c A ls hAt _ hX hP hD hA hS hl => body p e s m _ below meth c A ls _ hAt hX hP hD hA hS hl (fun H locs pc ls ws v hP hD hS hw hv hd => ret_f hAt.1 hAt.2.1 hAt.2.2.1 hAt.2.2.2.2.2.2.1 hS hP hD hv hw hd))
theorem MTF.of {l : Launch} {y : MethodName} {cY : ByteArray} {nY : Nat} {rm : Room} {D : va_G} {cy : Nat → ClassId} {en g : Nat → Nat} {ws : va_W} {sz : Nat} {av : List Value} {E : Int32 → String} {code : Int32} {r : UInt32} {ws' : va_W} (hy : plainName y.cls = true) (hav : (lg_sl av).length ≤ nY)
    (body : ∀ (p : Program) (e : Env) (s : State) (m : MethodId) (args : Array Value) (below : List Frame) (meth : Method) (c : Code) (A : Nat → Prop) (ls : Array Slot) (Q : State → Prop), At p s m meth c y cY nY (some .float) args D cy → (∀ x ∈ c.exceptionTable.toList, False) → ST en g A s s.heap →
      va_P D vwCl ws s.heap → va_D A ws → (∀ q : Nat, s.heap.size ≤ q → A q) → va_S A s.heap s.heap [] → lv_has ls nY (lv_args 0 av) → Q = vx_MQ below (qFc D A code r ws') (xC D A code E ws') args s 2 12 A →
      W p l e rm s m args below meth c s.heap [] 0 0 Q (F0 m 0 ls [])) : MTF l y cY nY rm D cy en g ws sz av E code r ws' :=
  of_bodyT (Qc := fun A => qFc D A code r ws') (XC := fun A => xC D A code E ws') hy hav (fun p e s m below meth c A ls hAt htb hX hP hD hA hS hl => body p e s m _ below meth c A ls _ hAt htb hX hP hD hA hS hl rfl)
