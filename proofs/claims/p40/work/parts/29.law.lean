/-! the law's own methods: contracts whose answer and world a predicate tells of; the script; calls in a bigger world -/
abbrev qJ (D : va_G) (A : Nat → Prop) (Post : Int32 → va_W → Prop) : Array Value → State → Outcome → State → Prop := va_Qi (fun (r : Int32) (w : va_W) => Post r w) (fun (w : va_W) (t : State) => va_P D vwCl w t.heap ∧ va_D A w) A
def MJ (l : Launch) (y : MethodName) (cY : ByteArray) (nY : Nat) (ret : Option FieldType) (rm : Room) (D : va_G) (cy : Nat → ClassId) (ws : va_W) (sz : Nat) (X : State → Prop) (av : List Value) (mc ms : Nat) (Post : Int32 → va_W → Prop) : Prop :=
  Met l y (Cond.code y cY nY ret :: WA) rm (pW D cy ws sz X av) (qJ D (va_A ws sz) Post) mc ms (va_A ws sz)
def MH (l : Launch) (y : MethodName) (cY : ByteArray) (nY : Nat) (hh : List (Nat × Nat × Nat × Nat)) (rm : Room) (D : va_G) (cy : Nat → ClassId) (ws : va_W) (sz : Nat) (X : State → Prop) (av : List Value) (mc ms : Nat) (Post : Int32 → va_W → Prop) : Prop :=
  Met l y (Cond.codeWith y cY nY (some .int) hh :: WA) rm (pW D cy ws sz X av) (qJ D (va_A ws sz) Post) mc ms (va_A ws sz)
/-- the rule by which an int is answered -/
abbrev RtJ (p : Program) (l : Launch) (e : Env) (R : Room) (s : State) (m : MethodId) (args : Array Value) (below : List Frame) (meth : Method) (c : Code) (D : va_G) (A : Nat → Prop) (cc : ByteArray) (ty : FieldType) (mc ms : Nat) (Post : Int32 → va_W → Prop) (Q : State → Prop) : Prop :=
  ∀ (H : Heap) (locs : List Loc) (pc : Nat) (ls : Array Slot) (w : va_W) (v : Int32) (cells slots : Nat), va_P D vwCl w H → va_D A w → va_S A s.heap H locs → Post v w → narrow ty (.int v) = .int v → cells ≤ mc → slots ≤ ms → decode cc pc = .ok (.ireturn, 1) → W p l e R s m args below meth c H locs cells slots Q (F0 m pc ls [.int v])
theorem MJ.of {l : Launch} {y : MethodName} {cY : ByteArray} {nY : Nat} {ty : FieldType} {rm : Room} {D : va_G} {cy : Nat → ClassId} {ws : va_W} {sz : Nat} {X : State → Prop} {av : List Value} {mc ms : Nat} {Post : Int32 → va_W → Prop} (hy : plainFor y = true) (hav : (lg_sl av).length ≤ nY)
    (body : ∀ (p : Program) (e : Env) (s : State) (m : MethodId) (args : Array Value) (below : List Frame) (meth : Method) (c : Code) (A : Nat → Prop) (ls : Array Slot) (Q : State → Prop), At p s m meth c y cY nY (some ty) args D cy → X s → sz = s.heap.size → A = va_A ws sz →
      va_P D vwCl ws s.heap → va_D A ws → (∀ q : Nat, s.heap.size ≤ q → A q) → va_S A s.heap s.heap [] → lv_has ls nY (lv_args 0 av) → RtJ p l e rm s m args below meth c D A cY ty mc ms Post Q →
      W p l e rm s m args below meth c s.heap [] 0 0 Q (F0 m 0 ls [])) : MJ l y cY nY (some ty) rm D cy ws sz X av mc ms Post := by
  refine met_ofF (cc := cY) (maxL := nY) (ret := some ty) hy rfl ?_
  intro p e s m args below meth c s₁ B hml hv
  obtain ⟨rfl, hsz, hP, hK, hD0, hN, hX⟩ := hv
  have hts := atoms_spec (ws := Cond.code y cY nY (some ty) :: WA) B.pre
  subst hsz
  have hl := lv_entry av (n := nY) hav
  rw [lg_entry_eq]
  refine body p e s m _ below meth c (va_A ws s.heap.size) _ _ ⟨B.exec, B.bytes, B.returns, hml, findClass_of_methodNamed B.named, fun w h => hts w (List.mem_cons_of_mem _ h), B.notSynchronized, hK, hN⟩ hX rfl rfl hP (hD0.self (sz := s.heap.size)) (fun q h => Or.inr h) va_S.rf hl ?_
  intro H locs pc ls w v cells slots hP hD hS hw hn hc hs hdg
  exact W.widen hc hs (W.zret (v := v) B.exec B.bytes B.returns hn (fun t ht _ => ⟨⟨v, w, rfl, hw, by rw [ht]; exact hP, hD⟩, hS.F ht⟩) hS.2.2 hdg B.notSynchronized)
theorem MH.of {l : Launch} {y : MethodName} {cY : ByteArray} {nY : Nat} {hh : List (Nat × Nat × Nat × Nat)} {rm : Room} {D : va_G} {cy : Nat → ClassId} {ws : va_W} {sz : Nat} {X : State → Prop} {av : List Value} {mc ms : Nat} {Post : Int32 → va_W → Prop} (hy : plainFor y = true) (hav : (lg_sl av).length ≤ nY)
    (body : ∀ (p : Program) (e : Env) (s : State) (m : MethodId) (args : Array Value) (below : List Frame) (meth : Method) (c : Code) (A : Nat → Prop) (ls : Array Slot) (Q : State → Prop), At p s m meth c y cY nY (some .int) args D cy → c.exceptionTable.toList = tableOf hh → X s → sz = s.heap.size → A = va_A ws sz →
      va_P D vwCl ws s.heap → va_D A ws → (∀ q : Nat, s.heap.size ≤ q → A q) → va_S A s.heap s.heap [] → lv_has ls nY (lv_args 0 av) → RtJ p l e rm s m args below meth c D A cY .int mc ms Post Q →
      W p l e rm s m args below meth c s.heap [] 0 0 Q (F0 m 0 ls [])) : MH l y cY nY hh rm D cy ws sz X av mc ms Post := by
  refine met_ofFH (cc := cY) (maxL := nY) (ret := some .int) hy rfl ?_
  intro p e s m args below meth c s₁ B hml hv
  obtain ⟨rfl, hsz, hP, hK, hD0, hN, hX⟩ := hv
  have hts := atoms_spec (ws := Cond.codeWith y cY nY (some .int) hh :: WA) B.pre
  have htb := vx_table (x := y) B (hts _ List.mem_cons_self)
  subst hsz
  have hl := lv_entry av (n := nY) hav
  rw [lg_entry_eq]
  refine body p e s m _ below meth c (va_A ws s.heap.size) _ _ ⟨B.exec, B.bytes, B.returns, hml, findClass_of_methodNamed B.named, fun w h => hts w (List.mem_cons_of_mem _ h), B.notSynchronized, hK, hN⟩ htb hX rfl rfl hP (hD0.self (sz := s.heap.size)) (fun q h => Or.inr h) va_S.rf hl ?_
  intro H locs pc ls w v cells slots hP hD hS hw hn hc hs hdg
  exact W.widen hc hs (W.zret (v := v) B.exec B.bytes B.returns hn (fun t ht _ => ⟨⟨v, w, rfl, hw, by rw [ht]; exact hP, hD⟩, hS.F ht⟩) hS.2.2 hdg B.notSynchronized)
/-- the script of L ints xs at the cell b, which nobody writes -/
def SC (b L : Nat) (xs : Nat → Int32) (A : Nat → Prop) (U : State) (H : Heap) : Prop := va_X b L xs U H ∧ b < H.size ∧ ¬ A b
def XL (en g : Nat → Nat) (b L : Nat) (xs : Nat → Int32) (ws : va_W) (sz : Nat) : State → Prop := fun U => ST en g (va_A ws sz) U U.heap ∧ SC b L xs (va_A ws sz) U U.heap
theorem Xok_L {en g : Nat → Nat} {b L : Nat} {xs : Nat → Int32} {ws : va_W} {sz : Nat} : Xok (XL en g b L xs ws sz) := by
  intro U V hh hv h
  refine ⟨Xok_S U V hh hv h.1, ?_⟩
  obtain ⟨h1, h2, h3⟩ := h.2
  have hvm : U.vm.Alike V.vm := by rw [hv]; exact Vm.Alike.refl V.vm
  unfold SC
  rw [← hh]
  exact ⟨va_X.moved hvm h1, h2, h3⟩
theorem SC_kept {b L : Nat} {xs : Nat → Int32} {A : Nat → Prop} {s : State} {H : Heap} {locs : List Loc} (h : SC b L xs A s s.heap) (hS : va_S A s.heap H locs) : H[b]? = s.heap[b]? ∧ b < H.size :=
  ⟨hS.2.1 b h.2.1 h.2.2, Nat.lt_of_lt_of_le h.2.1 hS.1⟩
/-- the statics and the script, told to a callee -/
theorem XL_call {en g : Nat → Nat} {b L : Nat} {xs : Nat → Int32} {A : Nat → Prop} {s : State} {H : Heap} {locs : List Loc} {ws : va_W} (h : ST en g A s s.heap) (hC : SC b L xs A s s.heap) (hS : va_S A s.heap H locs) (hF : ∀ q, va_A ws H.size q → A q) : ∀ U : State, U.heap = H → s.WarmedH U.vm → XL en g b L xs ws H.size U := by
  intro U hU hW
  have h1 := SC_kept hC hS
  refine ⟨ST_call h hS hF U hU hW, ?_⟩
  unfold SC
  rw [hU]
  exact ⟨va_X.moved hW.alike (hC.1.kept h1.1), h1.2, fun q => hC.2.2 (hF b q)⟩
section CALLL
variable {p : Program} {l : Launch} {e : Env} {R : Room} {s : State} {m : MethodId} {args : Array Value} {below : List Frame} {meth : Method} {c : Code} {H : Heap} {locs : List Loc} {cells slots mc ms : Nat} {Q : State → Prop} {D : va_G} {cy : Nat → ClassId} {w1 w1' w2 : va_W} {A : Nat → Prop} {cc : ByteArray} {pc : Nat} {ls : Array Slot}
  {own C : String} {y : MethodName} {cY : ByteArray} {nY nL index : Nat} {ret : Option FieldType} {rm : Room} {X : State → Prop} {b : Nat} {As rest st : List Value} {Post : Int32 → va_W → Prop} {PostV : va_W → Prop}
theorem fgoJ {a : Array Value} (hP : va_P D vwCl (w1 ++ w2) H) (hD : va_D A (w1 ++ w2)) (hS : va_S A s.heap H locs) (hA : ∀ q : Nat, s.heap.size ≤ q → A q)
    (hr : va_Run p l e R s m args below meth c H locs cells slots mc ms (F0 m pc ls st) rest (qJ D (va_A w1 H.size) Post a) (va_A w1 H.size))
    (kk : ∀ (r : Int32) (w : va_W) (H1 : Heap) (locs1 : List Loc), Post r w → va_P D vwCl (w ++ w2) H1 → va_D A (w ++ w2) → va_S A s.heap H1 locs1 → W p l e R s m args below meth c H1 locs1 (cells + mc) (slots + ms) Q (F0 m (pc + 3) ls (.int r :: rest))) : W p l e R s m args below meth c H locs cells slots Q (F0 m pc ls st) := by
  have hF := fr_F hS hD hA
  refine va_calli hr hS (fun q _ h => hF q h) hF (fun r' w t H1 locs1 ht hvm hw hB hz hk hS1 => ?_)
  obtain ⟨hP1, hD1⟩ := hB
  rw [ht] at hP1
  exact kk r' w H1 locs1 hw (fr_P hP hD hk hP1) (fr_D hP hD hF hD1) hS1
theorem fgoK {a : Array Value} (hP : va_P D vwCl (w1 ++ w2) H) (hD : va_D A (w1 ++ w2)) (hS : va_S A s.heap H locs) (hA : ∀ q : Nat, s.heap.size ≤ q → A q)
    (hr : va_Run p l e R s m args below meth c H locs cells slots mc ms (F0 m pc ls st) rest (qK D (va_A w1 H.size) PostV a) (va_A w1 H.size))
    (kk : ∀ (w : va_W) (H1 : Heap) (locs1 : List Loc), PostV w → va_P D vwCl (w ++ w2) H1 → va_D A (w ++ w2) → va_S A s.heap H1 locs1 → W p l e R s m args below meth c H1 locs1 (cells + mc) (slots + ms) Q (F0 m (pc + 3) ls rest)) : W p l e R s m args below meth c H locs cells slots Q (F0 m pc ls st) := by
  have hF := fr_F hS hD hA
  refine va_callv hr hS (fun q _ h => hF q h) hF (fun w t H1 locs1 ht hvm hw hB hz hk hS1 => ?_)
  obtain ⟨hP1, hD1⟩ := hB
  rw [ht] at hP1
  exact kk w H1 locs1 hw (fr_P hP hD hk hP1) (fr_D hP hD hF hD1) hS1
/-- a static method that answers an int -/
theorem fSj {n : Nat} (hx : p.tables.exec = Jvm.exec) (hb : c.code = cc) (hml : c.maxLocals = nL) (hown : s.vm.findClass own = some m.cls) (hw : ∀ w ∈ WA, w.before args s = true) (hK : va_K D vwCl (tyL cy) s) (hN : NW s) (hA : ∀ q : Nat, s.heap.size ≤ q → A q) (hsz : ls.size = nL)
    (hP : va_P D vwCl (w1 ++ w2) H) (hD : va_D A (w1 ++ w2)) (hS : va_S A s.heap H locs)
    (k1 : Cond.methodLink own index y ∈ WA) (k2 : Cond.static y ∈ WA) (k4 : Cond.initialized y.cls ∈ WA) (k5 : Cond.code y cY nY ret ∈ WA)
    (hM : MJ l y cY nY ret rm D cy w1 H.size X As mc ms Post) (hX : ∀ U : State, U.heap = H → s.WarmedH U.vm → X U) (hXk : Xok X) (hrm : rm.cells = mc ∧ rm.slots = ms)
    (hd : y.cls ≠ "java/lang/invoke/MethodHandle" ∧ y.cls ≠ "java/lang/invoke/VarHandle" ∧ (parseMethodDescriptor y.desc).map (fun d => d.parameters.length) = some n) (hn : As.length = n) (hR : rm.frames + 1 ≤ R.frames ∧ 8 + (nY + 11) + rm.locals ≤ R.locals)
    (hcs : cells + mc ≤ R.cells ∧ slots + ms ≤ R.slots) (hst : (rest.map fun v => v.category).sum ≤ 8) (hstk : st = As.reverse ++ rest) (hdg : decode cc pc = .ok (.invokestatic index, 3))
    (kk : ∀ (r : Int32) (w : va_W) (H1 : Heap) (locs1 : List Loc), Post r w → va_P D vwCl (w ++ w2) H1 → va_D A (w ++ w2) → va_S A s.heap H1 locs1 → W p l e R s m args below meth c H1 locs1 (cells + mc) (slots + ms) Q (F0 m (pc + 3) ls (.int r :: rest))) :
    W p l e R s m args below meth c H locs cells slots Q (F0 m pc ls st) :=
  fgoJ hP hD hS hA (va_runS (As := As) (rest := rest) ⟨hx, hb, hml, hown, hw⟩ hM ⟨callB_of n hw (codeGood k5) rfl hrm.1 hrm.2 (hw _ k4) (hw _ k1) hd hR, hw _ k2⟩ ⟨pW_blind hXk, pW_call (fr_l hP) hK (fr_dl hD) hN hX⟩ rfl hn hsz hstk (lv_room hst) hdg hcs) kk
/-- a static method that answers nothing -/
theorem fSk {n : Nat} (hx : p.tables.exec = Jvm.exec) (hb : c.code = cc) (hml : c.maxLocals = nL) (hown : s.vm.findClass own = some m.cls) (hw : ∀ w ∈ WA, w.before args s = true) (hK : va_K D vwCl (tyL cy) s) (hN : NW s) (hA : ∀ q : Nat, s.heap.size ≤ q → A q) (hsz : ls.size = nL)
    (hP : va_P D vwCl (w1 ++ w2) H) (hD : va_D A (w1 ++ w2)) (hS : va_S A s.heap H locs)
    (k1 : Cond.methodLink own index y ∈ WA) (k2 : Cond.static y ∈ WA) (k4 : Cond.initialized y.cls ∈ WA) (k5 : Cond.code y cY nY none ∈ WA)
    (hM : MK l y cY nY rm D cy w1 H.size X As mc ms PostV) (hX : ∀ U : State, U.heap = H → s.WarmedH U.vm → X U) (hXk : Xok X) (hrm : rm.cells = mc ∧ rm.slots = ms)
    (hd : y.cls ≠ "java/lang/invoke/MethodHandle" ∧ y.cls ≠ "java/lang/invoke/VarHandle" ∧ (parseMethodDescriptor y.desc).map (fun d => d.parameters.length) = some n) (hn : As.length = n) (hR : rm.frames + 1 ≤ R.frames ∧ 8 + (nY + 11) + rm.locals ≤ R.locals)
    (hcs : cells + mc ≤ R.cells ∧ slots + ms ≤ R.slots) (hst : (rest.map fun v => v.category).sum ≤ 8) (hstk : st = As.reverse ++ rest) (hdg : decode cc pc = .ok (.invokestatic index, 3))
    (kk : ∀ (w : va_W) (H1 : Heap) (locs1 : List Loc), PostV w → va_P D vwCl (w ++ w2) H1 → va_D A (w ++ w2) → va_S A s.heap H1 locs1 → W p l e R s m args below meth c H1 locs1 (cells + mc) (slots + ms) Q (F0 m (pc + 3) ls rest)) :
    W p l e R s m args below meth c H locs cells slots Q (F0 m pc ls st) :=
  fgoK hP hD hS hA (va_runS (As := As) (rest := rest) ⟨hx, hb, hml, hown, hw⟩ hM ⟨callB_of n hw (codeGood k5) rfl hrm.1 hrm.2 (hw _ k4) (hw _ k1) hd hR, hw _ k2⟩ ⟨pW_blind hXk, pW_call (fr_l hP) hK (fr_dl hD) hN hX⟩ rfl hn hsz hstk (lv_room hst) hdg hcs) kk
/-- a static method with a table of its own -/
theorem fSh {hh : List (Nat × Nat × Nat × Nat)} {n : Nat} (hx : p.tables.exec = Jvm.exec) (hb : c.code = cc) (hml : c.maxLocals = nL) (hown : s.vm.findClass own = some m.cls) (hw : ∀ w ∈ WA, w.before args s = true) (hK : va_K D vwCl (tyL cy) s) (hN : NW s) (hA : ∀ q : Nat, s.heap.size ≤ q → A q) (hsz : ls.size = nL)
    (hP : va_P D vwCl (w1 ++ w2) H) (hD : va_D A (w1 ++ w2)) (hS : va_S A s.heap H locs)
    (k1 : Cond.methodLink own index y ∈ WA) (k2 : Cond.static y ∈ WA) (k4 : Cond.initialized y.cls ∈ WA) (k5 : Cond.codeWith y cY nY (some .int) hh ∈ WA)
    (hM : MH l y cY nY hh rm D cy w1 H.size X As mc ms Post) (hX : ∀ U : State, U.heap = H → s.WarmedH U.vm → X U) (hXk : Xok X) (hrm : rm.cells = mc ∧ rm.slots = ms)
    (hd : y.cls ≠ "java/lang/invoke/MethodHandle" ∧ y.cls ≠ "java/lang/invoke/VarHandle" ∧ (parseMethodDescriptor y.desc).map (fun d => d.parameters.length) = some n) (hn : As.length = n) (hR : rm.frames + 1 ≤ R.frames ∧ 8 + (nY + 11) + rm.locals ≤ R.locals)
    (hcs : cells + mc ≤ R.cells ∧ slots + ms ≤ R.slots) (hst : (rest.map fun v => v.category).sum ≤ 8) (hstk : st = As.reverse ++ rest) (hdg : decode cc pc = .ok (.invokestatic index, 3))
    (kk : ∀ (r : Int32) (w : va_W) (H1 : Heap) (locs1 : List Loc), Post r w → va_P D vwCl (w ++ w2) H1 → va_D A (w ++ w2) → va_S A s.heap H1 locs1 → W p l e R s m args below meth c H1 locs1 (cells + mc) (slots + ms) Q (F0 m (pc + 3) ls (.int r :: rest))) :
    W p l e R s m args below meth c H locs cells slots Q (F0 m pc ls st) := by
  have hG : GoodIn WA (Cond.codeWith y cY nY (some .int) hh :: WA) := fun w h => by
    rcases List.mem_cons.mp h with rfl | h
    · exact ⟨k5, good_of_word (wa_good _ k5)⟩
    · exact ⟨h, good_of_word (wa_good _ h)⟩
  have cw : vx_CSW R s args own index y cY nY (some .int) hh (Cond.codeWith y cY nY (some .int) hh :: WA) rm mc ms n :=
    ⟨⟨hrm.1, hrm.2, hR.1, hR.2, pay_in hw hG, List.mem_cons_self⟩, hw _ k5, hw _ k4, ⟨hd.1, hd.2.1⟩, fun sig h => by
      have h2 := hd.2.2
      rw [h] at h2
      exact (Option.some.inj h2).symm, hw _ k1, hw _ k2⟩
  exact fgoJ hP hD hS hA (vx_runSW (As := As) (rest := rest) ⟨hx, hb, hml, hown, hw⟩ hM cw ⟨pW_blind hXk, pW_call (fr_l hP) hK (fr_dl hD) hN hX⟩ rfl hn hsz hstk (lv_room hst) hdg hcs) kk
end CALLL
/-! methods that answer an object -/
abbrev qRJ (D : va_G) (A : Nat → Prop) (Post : Nat → va_W → Prop) : Array Value → State → Outcome → State → Prop := va_Qr (fun (_ : va_W) => True) (fun (w : va_W) (a : Nat) (t : State) => Post a w ∧ va_P D vwCl w t.heap ∧ va_D A w) A
def MR (l : Launch) (y : MethodName) (cY : ByteArray) (nY : Nat) (ret : Option FieldType) (rm : Room) (D : va_G) (cy : Nat → ClassId) (ws : va_W) (sz : Nat) (X : State → Prop) (av : List Value) (mc ms : Nat) (Post : Nat → va_W → Prop) : Prop :=
  Met l y (Cond.code y cY nY ret :: WA) rm (pW D cy ws sz X av) (qRJ D (va_A ws sz) Post) mc ms (va_A ws sz)
theorem MR.of {l : Launch} {y : MethodName} {cY : ByteArray} {nY : Nat} {ty : FieldType} {rm : Room} {D : va_G} {cy : Nat → ClassId} {ws : va_W} {sz : Nat} {X : State → Prop} {av : List Value} {mc ms : Nat} {Post : Nat → va_W → Prop} (hty : (∃ n, ty = .object n) ∨ ∃ n, ty = .array n) (hy : plainFor y = true) (hav : (lg_sl av).length ≤ nY)
    (body : ∀ (p : Program) (e : Env) (s : State) (m : MethodId) (args : Array Value) (below : List Frame) (meth : Method) (c : Code) (A : Nat → Prop) (ls : Array Slot) (Q : State → Prop), At p s m meth c y cY nY (some ty) args D cy → X s → sz = s.heap.size → A = va_A ws sz →
      va_P D vwCl ws s.heap → va_D A ws → (∀ q : Nat, s.heap.size ≤ q → A q) → va_S A s.heap s.heap [] → lv_has ls nY (lv_args 0 av) →
      (∀ (H : Heap) (locs : List Loc) (pc : Nat) (ls : Array Slot) (w : va_W) (a cells slots : Nat), va_P D vwCl w H → va_D A w → va_S A s.heap H locs → Post a w → cells ≤ mc → slots ≤ ms → decode cY pc = .ok (.areturn, 1) → W p l e rm s m args below meth c H locs cells slots Q (F0 m pc ls [.ref a])) →
      W p l e rm s m args below meth c s.heap [] 0 0 Q (F0 m 0 ls [])) : MR l y cY nY (some ty) rm D cy ws sz X av mc ms Post := by
  refine met_ofF (cc := cY) (maxL := nY) (ret := some ty) hy rfl ?_
  intro p e s m args below meth c s₁ B hml hv
  obtain ⟨rfl, hsz, hP, hK, hD0, hN, hX⟩ := hv
  have hts := atoms_spec (ws := Cond.code y cY nY (some ty) :: WA) B.pre
  subst hsz
  have hl := lv_entry av (n := nY) hav
  rw [lg_entry_eq]
  refine body p e s m _ below meth c (va_A ws s.heap.size) _ _ ⟨B.exec, B.bytes, B.returns, hml, findClass_of_methodNamed B.named, fun w h => hts w (List.mem_cons_of_mem _ h), B.notSynchronized, hK, hN⟩ hX rfl rfl hP (hD0.self (sz := s.heap.size)) (fun q h => Or.inr h) va_S.rf hl ?_
  intro H locs pc ls w a cells slots hP hD hS hw hc hs hdg
  refine W.widen hc hs (W.aret (v := .ref a) B.exec B.bytes B.returns ?_ (Or.inr ⟨a, rfl⟩) (fun t ht _ => ⟨⟨w, a, rfl, trivial, hw, by rw [ht]; exact hP, hD⟩, hS.F ht⟩) hS.2.2 hdg B.notSynchronized)
  rcases hty with ⟨n, rfl⟩ | ⟨n, rfl⟩
  · exact Or.inl ⟨n, rfl⟩
  · exact Or.inr ⟨n, rfl⟩
section CALLU
variable {p : Program} {l : Launch} {e : Env} {R : Room} {s : State} {m : MethodId} {args : Array Value} {below : List Frame} {meth : Method} {c : Code} {H : Heap} {locs : List Loc} {cells slots mc ms : Nat} {Q : State → Prop} {D : va_G} {cy : Nat → ClassId} {ws : va_W} {A : Nat → Prop} {cc : ByteArray} {pc : Nat} {ls : Array Slot}
  {own C owner : String} {y x : MethodName} {cY : ByteArray} {nY nL index : Nat} {ret : Option FieldType} {rm : Room} {X : State → Prop} {b : Nat} {As rest st : List Value} {Post : Int32 → va_W → Prop} {PostV : va_W → Prop} {PostR : Nat → va_W → Prop}
theorem goJ {a : Array Value} (hS : va_S A s.heap H locs) (hD : va_D A ws) (hA : ∀ q : Nat, s.heap.size ≤ q → A q)
    (hr : va_Run p l e R s m args below meth c H locs cells slots mc ms (F0 m pc ls st) rest (qJ D (va_A ws H.size) Post a) (va_A ws H.size))
    (kk : ∀ (r : Int32) (w : va_W) (H1 : Heap) (locs1 : List Loc), Post r w → va_P D vwCl w H1 → va_D A w → va_S A s.heap H1 locs1 → W p l e R s m args below meth c H1 locs1 (cells + mc) (slots + ms) Q (F0 m (pc + 3) ls (.int r :: rest))) : W p l e R s m args below meth c H locs cells slots Q (F0 m pc ls st) := by
  have hF := free_all hD hS hA
  refine va_calli hr hS (fun q _ h => hF q h) hF (fun r w t H1 locs1 ht hvm hw hB hz hk hS1 => ?_)
  obtain ⟨hP1, hD1⟩ := hB
  rw [ht] at hP1
  exact kk r w H1 locs1 hw hP1 (hD1.weaken (fun k q _ h => hF q.1 h)) hS1
theorem goRR {a : Array Value} (hS : va_S A s.heap H locs) (hD : va_D A ws) (hA : ∀ q : Nat, s.heap.size ≤ q → A q)
    (hr : va_Run p l e R s m args below meth c H locs cells slots mc ms (F0 m pc ls st) rest (qRJ D (va_A ws H.size) PostR a) (va_A ws H.size))
    (kk : ∀ (r : Nat) (w : va_W) (H1 : Heap) (locs1 : List Loc), PostR r w → va_P D vwCl w H1 → va_D A w → va_S A s.heap H1 locs1 → W p l e R s m args below meth c H1 locs1 (cells + mc) (slots + ms) Q (F0 m (pc + 3) ls (.ref r :: rest))) : W p l e R s m args below meth c H locs cells slots Q (F0 m pc ls st) := by
  have hF := free_all hD hS hA
  refine va_callr hr hS (fun q _ h => hF q h) hF (fun w ra t H1 locs1 ht hvm hw hB hz hk hS1 => ?_)
  obtain ⟨hq, hP1, hD1⟩ := hB
  rw [ht] at hP1
  exact kk ra w H1 locs1 hq hP1 (hD1.weaken (fun k q _ h => hF q.1 h)) hS1
/-- a method of the object b, by its own class -/
theorem uRj {n : Nat} (hx : p.tables.exec = Jvm.exec) (hb : c.code = cc) (hml : c.maxLocals = nL) (hown : s.vm.findClass own = some m.cls) (hw : ∀ w ∈ WA, w.before args s = true) (hK : va_K D vwCl (tyL cy) s) (hN : NW s) (hA : ∀ q : Nat, s.heap.size ≤ q → A q) (hsz : ls.size = nL)
    (hP : va_P D vwCl ws H) (hD : va_D A ws) (hS : va_S A s.heap H locs)
    (k1 : Cond.methodLink own index y ∈ WA) (k2 : Cond.instanceMethod y ∈ WA) (k3 : Cond.selects C y y ∈ WA) (k4 : Cond.initialized y.cls ∈ WA) (k5 : Cond.code y cY nY ret ∈ WA)
    (hM : MJ l y cY nY ret rm D cy ws H.size X (.ref b :: As) mc ms Post) (hX : ∀ U : State, U.heap = H → s.WarmedH U.vm → X U) (hXk : Xok X) (hrv : Recv s H b C) (hrm : rm.cells = mc ∧ rm.slots = ms)
    (hd : y.cls ≠ "java/lang/invoke/MethodHandle" ∧ y.cls ≠ "java/lang/invoke/VarHandle" ∧ (parseMethodDescriptor y.desc).map (fun d => d.parameters.length) = some n) (hn : As.length = n) (hR : rm.frames + 1 ≤ R.frames ∧ 8 + (nY + 11) + rm.locals ≤ R.locals)
    (hcs : cells + mc ≤ R.cells ∧ slots + ms ≤ R.slots) (hst : (rest.map fun v => v.category).sum ≤ 8) (hstk : st = As.reverse ++ .ref b :: rest) (hdg : decode cc pc = .ok (.invokevirtual index, 3))
    (kk : ∀ (r : Int32) (w : va_W) (H1 : Heap) (locs1 : List Loc), Post r w → va_P D vwCl w H1 → va_D A w → va_S A s.heap H1 locs1 → W p l e R s m args below meth c H1 locs1 (cells + mc) (slots + ms) Q (F0 m (pc + 3) ls (.int r :: rest))) :
    W p l e R s m args below meth c H locs cells slots Q (F0 m pc ls st) :=
  goJ hS hD hA (va_runV (As := As) (rest := rest) ⟨hx, hb, hml, hown, hw⟩ hM ⟨callB_of n hw (codeGood k5) rfl hrm.1 hrm.2 (hw _ k4) (hw _ k1) hd hR, hw _ k2, hw _ k3⟩ ⟨pW_blind hXk, hrv, pW_call hP hK hD hN hX⟩ rfl hn hsz hstk (lv_room hst) hdg hcs) kk
theorem uRk {n : Nat} (hx : p.tables.exec = Jvm.exec) (hb : c.code = cc) (hml : c.maxLocals = nL) (hown : s.vm.findClass own = some m.cls) (hw : ∀ w ∈ WA, w.before args s = true) (hK : va_K D vwCl (tyL cy) s) (hN : NW s) (hA : ∀ q : Nat, s.heap.size ≤ q → A q) (hsz : ls.size = nL)
    (hP : va_P D vwCl ws H) (hD : va_D A ws) (hS : va_S A s.heap H locs)
    (k1 : Cond.methodLink own index y ∈ WA) (k2 : Cond.instanceMethod y ∈ WA) (k3 : Cond.selects C y y ∈ WA) (k4 : Cond.initialized y.cls ∈ WA) (k5 : Cond.code y cY nY none ∈ WA)
    (hM : MK l y cY nY rm D cy ws H.size X (.ref b :: As) mc ms PostV) (hX : ∀ U : State, U.heap = H → s.WarmedH U.vm → X U) (hXk : Xok X) (hrv : Recv s H b C) (hrm : rm.cells = mc ∧ rm.slots = ms)
    (hd : y.cls ≠ "java/lang/invoke/MethodHandle" ∧ y.cls ≠ "java/lang/invoke/VarHandle" ∧ (parseMethodDescriptor y.desc).map (fun d => d.parameters.length) = some n) (hn : As.length = n) (hR : rm.frames + 1 ≤ R.frames ∧ 8 + (nY + 11) + rm.locals ≤ R.locals)
    (hcs : cells + mc ≤ R.cells ∧ slots + ms ≤ R.slots) (hst : (rest.map fun v => v.category).sum ≤ 8) (hstk : st = As.reverse ++ .ref b :: rest) (hdg : decode cc pc = .ok (.invokevirtual index, 3))
    (kk : ∀ (w : va_W) (H1 : Heap) (locs1 : List Loc), PostV w → va_P D vwCl w H1 → va_D A w → va_S A s.heap H1 locs1 → W p l e R s m args below meth c H1 locs1 (cells + mc) (slots + ms) Q (F0 m (pc + 3) ls rest)) :
    W p l e R s m args below meth c H locs cells slots Q (F0 m pc ls st) :=
  goK hS hD hA (va_runV (As := As) (rest := rest) ⟨hx, hb, hml, hown, hw⟩ hM ⟨callB_of n hw (codeGood k5) rfl hrm.1 hrm.2 (hw _ k4) (hw _ k1) hd hR, hw _ k2, hw _ k3⟩ ⟨pW_blind hXk, hrv, pW_call hP hK hD hN hX⟩ rfl hn hsz hstk (lv_room hst) hdg hcs) kk
/-- an inherited method -/
theorem uUk {n : Nat} (hx : p.tables.exec = Jvm.exec) (hb : c.code = cc) (hml : c.maxLocals = nL) (hown : s.vm.findClass own = some m.cls) (hw : ∀ w ∈ WA, w.before args s = true) (hK : va_K D vwCl (tyL cy) s) (hN : NW s) (hA : ∀ q : Nat, s.heap.size ≤ q → A q) (hsz : ls.size = nL)
    (hP : va_P D vwCl ws H) (hD : va_D A ws) (hS : va_S A s.heap H locs)
    (k1 : Cond.methodLink own index x ∈ WA) (k2 : Cond.sameMethod x.cls owner x.name x.desc ∈ WA) (k3 : Cond.selects C x y ∈ WA) (k6 : Cond.instanceMethod y ∈ WA) (k4 : Cond.initialized y.cls ∈ WA) (k5 : Cond.code y cY nY none ∈ WA) (hyx : y = ⟨owner, x.name, x.desc⟩)
    (hM : MK l y cY nY rm D cy ws H.size X (.ref b :: As) 0 0 PostV) (hX : ∀ U : State, U.heap = H → s.WarmedH U.vm → X U) (hXk : Xok X) (hrv : Recv s H b C) (hrm : rm.cells = 0 ∧ rm.slots = 0)
    (hd : owner ≠ "java/lang/invoke/MethodHandle" ∧ owner ≠ "java/lang/invoke/VarHandle" ∧ (parseMethodDescriptor x.desc).map (fun d => d.parameters.length) = some n) (hn : As.length = n) (hR : rm.frames + 1 ≤ R.frames ∧ 8 + (nY + 11) + rm.locals ≤ R.locals)
    (hcs : cells ≤ R.cells ∧ slots ≤ R.slots) (hst : (rest.map fun v => v.category).sum ≤ 8) (hstk : st = As.reverse ++ .ref b :: rest) (hdg : decode cc pc = .ok (.invokevirtual index, 3))
    (kk : ∀ (w : va_W) (H1 : Heap) (locs1 : List Loc), PostV w → va_P D vwCl w H1 → va_D A w → va_S A s.heap H1 locs1 → W p l e R s m args below meth c H1 locs1 (cells + 0) (slots + 0) Q (F0 m (pc + 3) ls rest)) :
    W p l e R s m args below meth c H locs cells slots Q (F0 m pc ls st) :=
  goK hS hD hA (va_runU (As := As) (rest := rest) ⟨hx, hb, hml, hown, hw⟩ hM (cwU' hw k1 k2 k3 k6 k4 k5 hyx hrm hd hR) ⟨pW_blind hXk, hrv, pW_call hP hK hD hN hX⟩ rfl hn hsz hstk (lv_room hst) hdg hcs) kk
theorem uUr {n : Nat} (hx : p.tables.exec = Jvm.exec) (hb : c.code = cc) (hml : c.maxLocals = nL) (hown : s.vm.findClass own = some m.cls) (hw : ∀ w ∈ WA, w.before args s = true) (hK : va_K D vwCl (tyL cy) s) (hN : NW s) (hA : ∀ q : Nat, s.heap.size ≤ q → A q) (hsz : ls.size = nL)
    (hP : va_P D vwCl ws H) (hD : va_D A ws) (hS : va_S A s.heap H locs)
    (k1 : Cond.methodLink own index x ∈ WA) (k2 : Cond.sameMethod x.cls owner x.name x.desc ∈ WA) (k3 : Cond.selects C x y ∈ WA) (k6 : Cond.instanceMethod y ∈ WA) (k4 : Cond.initialized y.cls ∈ WA) (k5 : Cond.code y cY nY ret ∈ WA) (hyx : y = ⟨owner, x.name, x.desc⟩)
    (hM : MR l y cY nY ret rm D cy ws H.size X (.ref b :: As) 0 0 PostR) (hX : ∀ U : State, U.heap = H → s.WarmedH U.vm → X U) (hXk : Xok X) (hrv : Recv s H b C) (hrm : rm.cells = 0 ∧ rm.slots = 0)
    (hd : owner ≠ "java/lang/invoke/MethodHandle" ∧ owner ≠ "java/lang/invoke/VarHandle" ∧ (parseMethodDescriptor x.desc).map (fun d => d.parameters.length) = some n) (hn : As.length = n) (hR : rm.frames + 1 ≤ R.frames ∧ 8 + (nY + 11) + rm.locals ≤ R.locals)
    (hcs : cells ≤ R.cells ∧ slots ≤ R.slots) (hst : (rest.map fun v => v.category).sum ≤ 8) (hstk : st = As.reverse ++ .ref b :: rest) (hdg : decode cc pc = .ok (.invokevirtual index, 3))
    (kk : ∀ (r : Nat) (w : va_W) (H1 : Heap) (locs1 : List Loc), PostR r w → va_P D vwCl w H1 → va_D A w → va_S A s.heap H1 locs1 → W p l e R s m args below meth c H1 locs1 (cells + 0) (slots + 0) Q (F0 m (pc + 3) ls (.ref r :: rest))) :
    W p l e R s m args below meth c H locs cells slots Q (F0 m pc ls st) :=
  goRR hS hD hA (va_runU (As := As) (rest := rest) ⟨hx, hb, hml, hown, hw⟩ hM (cwU' hw k1 k2 k3 k6 k4 k5 hyx hrm hd hR) ⟨pW_blind hXk, hrv, pW_call hP hK hD hN hX⟩ rfl hn hsz hstk (lv_room hst) hdg hcs) kk
/-- static methods -/
theorem uSj {n : Nat} (hx : p.tables.exec = Jvm.exec) (hb : c.code = cc) (hml : c.maxLocals = nL) (hown : s.vm.findClass own = some m.cls) (hw : ∀ w ∈ WA, w.before args s = true) (hK : va_K D vwCl (tyL cy) s) (hN : NW s) (hA : ∀ q : Nat, s.heap.size ≤ q → A q) (hsz : ls.size = nL)
    (hP : va_P D vwCl ws H) (hD : va_D A ws) (hS : va_S A s.heap H locs)
    (k1 : Cond.methodLink own index y ∈ WA) (k2 : Cond.static y ∈ WA) (k4 : Cond.initialized y.cls ∈ WA) (k5 : Cond.code y cY nY ret ∈ WA)
    (hM : MJ l y cY nY ret rm D cy ws H.size X As mc ms Post) (hX : ∀ U : State, U.heap = H → s.WarmedH U.vm → X U) (hXk : Xok X) (hrm : rm.cells = mc ∧ rm.slots = ms)
    (hd : y.cls ≠ "java/lang/invoke/MethodHandle" ∧ y.cls ≠ "java/lang/invoke/VarHandle" ∧ (parseMethodDescriptor y.desc).map (fun d => d.parameters.length) = some n) (hn : As.length = n) (hR : rm.frames + 1 ≤ R.frames ∧ 8 + (nY + 11) + rm.locals ≤ R.locals)
    (hcs : cells + mc ≤ R.cells ∧ slots + ms ≤ R.slots) (hst : (rest.map fun v => v.category).sum ≤ 8) (hstk : st = As.reverse ++ rest) (hdg : decode cc pc = .ok (.invokestatic index, 3))
    (kk : ∀ (r : Int32) (w : va_W) (H1 : Heap) (locs1 : List Loc), Post r w → va_P D vwCl w H1 → va_D A w → va_S A s.heap H1 locs1 → W p l e R s m args below meth c H1 locs1 (cells + mc) (slots + ms) Q (F0 m (pc + 3) ls (.int r :: rest))) :
    W p l e R s m args below meth c H locs cells slots Q (F0 m pc ls st) :=
  goJ hS hD hA (va_runS (As := As) (rest := rest) ⟨hx, hb, hml, hown, hw⟩ hM ⟨callB_of n hw (codeGood k5) rfl hrm.1 hrm.2 (hw _ k4) (hw _ k1) hd hR, hw _ k2⟩ ⟨pW_blind hXk, pW_call hP hK hD hN hX⟩ rfl hn hsz hstk (lv_room hst) hdg hcs) kk
theorem uSk {n : Nat} (hx : p.tables.exec = Jvm.exec) (hb : c.code = cc) (hml : c.maxLocals = nL) (hown : s.vm.findClass own = some m.cls) (hw : ∀ w ∈ WA, w.before args s = true) (hK : va_K D vwCl (tyL cy) s) (hN : NW s) (hA : ∀ q : Nat, s.heap.size ≤ q → A q) (hsz : ls.size = nL)
    (hP : va_P D vwCl ws H) (hD : va_D A ws) (hS : va_S A s.heap H locs)
    (k1 : Cond.methodLink own index y ∈ WA) (k2 : Cond.static y ∈ WA) (k4 : Cond.initialized y.cls ∈ WA) (k5 : Cond.code y cY nY none ∈ WA)
    (hM : MK l y cY nY rm D cy ws H.size X As mc ms PostV) (hX : ∀ U : State, U.heap = H → s.WarmedH U.vm → X U) (hXk : Xok X) (hrm : rm.cells = mc ∧ rm.slots = ms)
    (hd : y.cls ≠ "java/lang/invoke/MethodHandle" ∧ y.cls ≠ "java/lang/invoke/VarHandle" ∧ (parseMethodDescriptor y.desc).map (fun d => d.parameters.length) = some n) (hn : As.length = n) (hR : rm.frames + 1 ≤ R.frames ∧ 8 + (nY + 11) + rm.locals ≤ R.locals)
    (hcs : cells + mc ≤ R.cells ∧ slots + ms ≤ R.slots) (hst : (rest.map fun v => v.category).sum ≤ 8) (hstk : st = As.reverse ++ rest) (hdg : decode cc pc = .ok (.invokestatic index, 3))
    (kk : ∀ (w : va_W) (H1 : Heap) (locs1 : List Loc), PostV w → va_P D vwCl w H1 → va_D A w → va_S A s.heap H1 locs1 → W p l e R s m args below meth c H1 locs1 (cells + mc) (slots + ms) Q (F0 m (pc + 3) ls rest)) :
    W p l e R s m args below meth c H locs cells slots Q (F0 m pc ls st) :=
  goK hS hD hA (va_runS (As := As) (rest := rest) ⟨hx, hb, hml, hown, hw⟩ hM ⟨callB_of n hw (codeGood k5) rfl hrm.1 hrm.2 (hw _ k4) (hw _ k1) hd hR, hw _ k2⟩ ⟨pW_blind hXk, pW_call hP hK hD hN hX⟩ rfl hn hsz hstk (lv_room hst) hdg hcs) kk
theorem uSr {n : Nat} (hx : p.tables.exec = Jvm.exec) (hb : c.code = cc) (hml : c.maxLocals = nL) (hown : s.vm.findClass own = some m.cls) (hw : ∀ w ∈ WA, w.before args s = true) (hK : va_K D vwCl (tyL cy) s) (hN : NW s) (hA : ∀ q : Nat, s.heap.size ≤ q → A q) (hsz : ls.size = nL)
    (hP : va_P D vwCl ws H) (hD : va_D A ws) (hS : va_S A s.heap H locs)
    (k1 : Cond.methodLink own index y ∈ WA) (k2 : Cond.static y ∈ WA) (k4 : Cond.initialized y.cls ∈ WA) (k5 : Cond.code y cY nY ret ∈ WA)
    (hM : MR l y cY nY ret rm D cy ws H.size X As mc ms PostR) (hX : ∀ U : State, U.heap = H → s.WarmedH U.vm → X U) (hXk : Xok X) (hrm : rm.cells = mc ∧ rm.slots = ms)
    (hd : y.cls ≠ "java/lang/invoke/MethodHandle" ∧ y.cls ≠ "java/lang/invoke/VarHandle" ∧ (parseMethodDescriptor y.desc).map (fun d => d.parameters.length) = some n) (hn : As.length = n) (hR : rm.frames + 1 ≤ R.frames ∧ 8 + (nY + 11) + rm.locals ≤ R.locals)
    (hcs : cells + mc ≤ R.cells ∧ slots + ms ≤ R.slots) (hst : (rest.map fun v => v.category).sum ≤ 8) (hstk : st = As.reverse ++ rest) (hdg : decode cc pc = .ok (.invokestatic index, 3))
    (kk : ∀ (r : Nat) (w : va_W) (H1 : Heap) (locs1 : List Loc), PostR r w → va_P D vwCl w H1 → va_D A w → va_S A s.heap H1 locs1 → W p l e R s m args below meth c H1 locs1 (cells + mc) (slots + ms) Q (F0 m (pc + 3) ls (.ref r :: rest))) :
    W p l e R s m args below meth c H locs cells slots Q (F0 m pc ls st) :=
  goRR hS hD hA (va_runS (As := As) (rest := rest) ⟨hx, hb, hml, hown, hw⟩ hM ⟨callB_of n hw (codeGood k5) rfl hrm.1 hrm.2 (hw _ k4) (hw _ k1) hd hR, hw _ k2⟩ ⟨pW_blind hXk, pW_call hP hK hD hN hX⟩ rfl hn hsz hstk (lv_room hst) hdg hcs) kk
/-- super.m(..) -/
theorem uQr {n : Nat} (hx : p.tables.exec = Jvm.exec) (hb : c.code = cc) (hml : c.maxLocals = nL) (hown : s.vm.findClass own = some m.cls) (hw : ∀ w ∈ WA, w.before args s = true) (hK : va_K D vwCl (tyL cy) s) (hN : NW s) (hA : ∀ q : Nat, s.heap.size ≤ q → A q) (hsz : ls.size = nL)
    (hP : va_P D vwCl ws H) (hD : va_D A ws) (hS : va_S A s.heap H locs)
    (k1 : Cond.methodLink own index y ∈ WA) (k2 : Cond.sameMethod y.cls y.cls y.name y.desc ∈ WA) (k3 : Cond.superclass own y.cls ∈ WA) (k6 : Cond.instanceMethod y ∈ WA) (k4 : Cond.initialized y.cls ∈ WA) (k5 : Cond.code y cY nY ret ∈ WA)
    (hM : MR l y cY nY ret rm D cy ws H.size X (.ref b :: As) 0 0 PostR) (hX : ∀ U : State, U.heap = H → s.WarmedH U.vm → X U) (hXk : Xok X)
    {ci q0 N : Nat} {T : u_T} {fs : List Value} (he : ws[q0]? = some (b, .inr (ci, fs))) (hc : vwCl[ci]? = some (C, T, N)) (hrm : rm.cells = 0 ∧ rm.slots = 0)
    (hd : y.name ≠ "<init>" ∧ (parseMethodDescriptor y.desc).map (fun d => d.parameters.length) = some n) (hn : As.length = n) (hR : rm.frames + 1 ≤ R.frames ∧ 8 + (nY + 11) + rm.locals ≤ R.locals)
    (hcs : cells ≤ R.cells ∧ slots ≤ R.slots) (hst : (rest.map fun v => v.category).sum ≤ 8) (hstk : st = As.reverse ++ .ref b :: rest) (hdg : decode cc pc = .ok (.invokespecial index, 3))
    (kk : ∀ (r : Nat) (w : va_W) (H1 : Heap) (locs1 : List Loc), PostR r w → va_P D vwCl w H1 → va_D A w → va_S A s.heap H1 locs1 → W p l e R s m args below meth c H1 locs1 (cells + 0) (slots + 0) Q (F0 m (pc + 3) ls (.ref r :: rest))) :
    W p l e R s m args below meth c H locs cells slots Q (F0 m pc ls st) :=
  goRR hS hD hA (runSU' hx hb hml hown hw hK hN hsz hP hD hM hX hXk (cwS' hw k1 k2 k3 k6 k4 k5 hrm hd hR) he hc hn hcs hst hstk hdg) kk
end CALLU
section CALLG
variable {p : Program} {l : Launch} {e : Env} {R : Room} {s : State} {m : MethodId} {args : Array Value} {below : List Frame} {meth : Method} {c : Code} {H : Heap} {locs : List Loc} {cells slots mc ms : Nat} {Q : State → Prop} {D : va_G} {cy : Nat → ClassId} {w1 w1' w2 : va_W} {A : Nat → Prop} {cc : ByteArray} {pc : Nat} {ls : Array Slot}
  {own C owner : String} {y x : MethodName} {cY : ByteArray} {nY nL index : Nat} {ret : Option FieldType} {rm : Room} {X : State → Prop} {b : Nat} {As rest st : List Value} {PostR : Nat → va_W → Prop} {r : Int32}
theorem fgoRR {a : Array Value} (hP : va_P D vwCl (w1 ++ w2) H) (hD : va_D A (w1 ++ w2)) (hS : va_S A s.heap H locs) (hA : ∀ q : Nat, s.heap.size ≤ q → A q)
    (hr : va_Run p l e R s m args below meth c H locs cells slots mc ms (F0 m pc ls st) rest (qRJ D (va_A w1 H.size) PostR a) (va_A w1 H.size))
    (kk : ∀ (r : Nat) (w : va_W) (H1 : Heap) (locs1 : List Loc), PostR r w → va_P D vwCl (w ++ w2) H1 → va_D A (w ++ w2) → va_S A s.heap H1 locs1 → W p l e R s m args below meth c H1 locs1 (cells + mc) (slots + ms) Q (F0 m (pc + 3) ls (.ref r :: rest))) : W p l e R s m args below meth c H locs cells slots Q (F0 m pc ls st) := by
  have hF := fr_F hS hD hA
  refine va_callr hr hS (fun q _ h => hF q h) hF (fun w ra t H1 locs1 ht hvm hw hB hz hk hS1 => ?_)
  obtain ⟨hq, hP1, hD1⟩ := hB
  rw [ht] at hP1
  exact kk ra w H1 locs1 hq (fr_P hP hD hk hP1) (fr_D hP hD hF hD1) hS1
theorem fUi {n : Nat} (hx : p.tables.exec = Jvm.exec) (hb : c.code = cc) (hml : c.maxLocals = nL) (hown : s.vm.findClass own = some m.cls) (hw : ∀ w ∈ WA, w.before args s = true) (hK : va_K D vwCl (tyL cy) s) (hN : NW s) (hA : ∀ q : Nat, s.heap.size ≤ q → A q) (hsz : ls.size = nL)
    (hP : va_P D vwCl (w1 ++ w2) H) (hD : va_D A (w1 ++ w2)) (hS : va_S A s.heap H locs)
    (k1 : Cond.methodLink own index x ∈ WA) (k2 : Cond.sameMethod x.cls owner x.name x.desc ∈ WA) (k3 : Cond.selects C x y ∈ WA) (k6 : Cond.instanceMethod y ∈ WA) (k4 : Cond.initialized y.cls ∈ WA) (k5 : Cond.code y cY nY ret ∈ WA) (hyx : y = ⟨owner, x.name, x.desc⟩)
    (hM : MI l y cY nY ret rm D cy w1 H.size X (.ref b :: As) r w1') (hX : ∀ U : State, U.heap = H → s.WarmedH U.vm → X U) (hXk : Xok X) (hrv : Recv s H b C) (hrm : rm.cells = 0 ∧ rm.slots = 0)
    (hd : owner ≠ "java/lang/invoke/MethodHandle" ∧ owner ≠ "java/lang/invoke/VarHandle" ∧ (parseMethodDescriptor x.desc).map (fun d => d.parameters.length) = some n) (hn : As.length = n) (hR : rm.frames + 1 ≤ R.frames ∧ 8 + (nY + 11) + rm.locals ≤ R.locals)
    (hcs : cells ≤ R.cells ∧ slots ≤ R.slots) (hst : (rest.map fun v => v.category).sum ≤ 8) (hstk : st = As.reverse ++ .ref b :: rest) (hdg : decode cc pc = .ok (.invokevirtual index, 3))
    (kk : ∀ (H1 : Heap) (locs1 : List Loc), va_P D vwCl (w1' ++ w2) H1 → va_D A (w1' ++ w2) → va_S A s.heap H1 locs1 → W p l e R s m args below meth c H1 locs1 (cells + 0) (slots + 0) Q (F0 m (pc + 3) ls (.int r :: rest))) :
    W p l e R s m args below meth c H locs cells slots Q (F0 m pc ls st) :=
  fgoI hP hD hS hA (va_runU (As := As) (rest := rest) ⟨hx, hb, hml, hown, hw⟩ hM (cwU' hw k1 k2 k3 k6 k4 k5 hyx hrm hd hR) ⟨pW_blind hXk, hrv, pW_call (fr_l hP) hK (fr_dl hD) hN hX⟩ rfl hn hsz hstk (lv_room hst) hdg hcs) kk
/-- a method that overrides the one that is named -/
theorem fOi {n : Nat} {b0 : ByteArray} {m0 : Nat} {r0 : Option FieldType} (hx : p.tables.exec = Jvm.exec) (hb : c.code = cc) (hml : c.maxLocals = nL) (hown : s.vm.findClass own = some m.cls) (hw : ∀ w ∈ WA, w.before args s = true) (hK : va_K D vwCl (tyL cy) s) (hN : NW s) (hA : ∀ q : Nat, s.heap.size ≤ q → A q) (hsz : ls.size = nL)
    (hP : va_P D vwCl (w1 ++ w2) H) (hD : va_D A (w1 ++ w2)) (hS : va_S A s.heap H locs)
    (k1 : Cond.methodLink own index x ∈ WA) (k2 : Cond.sameMethod x.cls owner x.name x.desc ∈ WA) (k7 : Cond.instanceMethod ⟨owner, x.name, x.desc⟩ ∈ WA) (k3 : Cond.selects C x y ∈ WA) (k6 : Cond.instanceMethod y ∈ WA) (k4 : Cond.initialized y.cls ∈ WA) (k5 : Cond.code y cY nY ret ∈ WA) (k8 : Cond.code ⟨owner, x.name, x.desc⟩ b0 m0 r0 ∈ WA)
    (hM : MI l y cY nY ret rm D cy w1 H.size X (.ref b :: As) r w1') (hX : ∀ U : State, U.heap = H → s.WarmedH U.vm → X U) (hXk : Xok X) (hrv : Recv s H b C) (hrm : rm.cells = 0 ∧ rm.slots = 0)
    (hd : owner ≠ "java/lang/invoke/MethodHandle" ∧ owner ≠ "java/lang/invoke/VarHandle" ∧ (parseMethodDescriptor x.desc).map (fun d => d.parameters.length) = some n) (hn : As.length = n) (hR : rm.frames + 1 ≤ R.frames ∧ 8 + (nY + 11) + rm.locals ≤ R.locals)
    (hcs : cells ≤ R.cells ∧ slots ≤ R.slots) (hst : (rest.map fun v => v.category).sum ≤ 8) (hstk : st = As.reverse ++ .ref b :: rest) (hdg : decode cc pc = .ok (.invokevirtual index, 3))
    (kk : ∀ (H1 : Heap) (locs1 : List Loc), va_P D vwCl (w1' ++ w2) H1 → va_D A (w1' ++ w2) → va_S A s.heap H1 locs1 → W p l e R s m args below meth c H1 locs1 (cells + 0) (slots + 0) Q (F0 m (pc + 3) ls (.int r :: rest))) :
    W p l e R s m args below meth c H locs cells slots Q (F0 m pc ls st) := by
  have cw : va_CU R s args own C owner index x y cY nY ret (Cond.code y cY nY ret :: WA) rm 0 0 n := by
    refine va_cwO n hw (fun w h => ?_) rfl hrm.1 hrm.2 k8 hd hR
    rcases List.mem_append.mp h with h | h
    · have hm : w ∈ WA := by
        simp only [List.mem_cons, List.not_mem_nil, or_false] at h
        rcases h with rfl | rfl | rfl | rfl | rfl | rfl <;> assumption
      exact ⟨hm, good_of_word (wa_good _ hm)⟩
    · exact codeGood k5 w h
  exact fgoI hP hD hS hA (va_runU (As := As) (rest := rest) ⟨hx, hb, hml, hown, hw⟩ hM cw ⟨pW_blind hXk, hrv, pW_call (fr_l hP) hK (fr_dl hD) hN hX⟩ rfl hn hsz hstk (lv_room hst) hdg hcs) kk
theorem fUr {n : Nat} (hx : p.tables.exec = Jvm.exec) (hb : c.code = cc) (hml : c.maxLocals = nL) (hown : s.vm.findClass own = some m.cls) (hw : ∀ w ∈ WA, w.before args s = true) (hK : va_K D vwCl (tyL cy) s) (hN : NW s) (hA : ∀ q : Nat, s.heap.size ≤ q → A q) (hsz : ls.size = nL)
    (hP : va_P D vwCl (w1 ++ w2) H) (hD : va_D A (w1 ++ w2)) (hS : va_S A s.heap H locs)
    (k1 : Cond.methodLink own index x ∈ WA) (k2 : Cond.sameMethod x.cls owner x.name x.desc ∈ WA) (k3 : Cond.selects C x y ∈ WA) (k6 : Cond.instanceMethod y ∈ WA) (k4 : Cond.initialized y.cls ∈ WA) (k5 : Cond.code y cY nY ret ∈ WA) (hyx : y = ⟨owner, x.name, x.desc⟩)
    (hM : MR l y cY nY ret rm D cy w1 H.size X (.ref b :: As) 0 0 PostR) (hX : ∀ U : State, U.heap = H → s.WarmedH U.vm → X U) (hXk : Xok X) (hrv : Recv s H b C) (hrm : rm.cells = 0 ∧ rm.slots = 0)
    (hd : owner ≠ "java/lang/invoke/MethodHandle" ∧ owner ≠ "java/lang/invoke/VarHandle" ∧ (parseMethodDescriptor x.desc).map (fun d => d.parameters.length) = some n) (hn : As.length = n) (hR : rm.frames + 1 ≤ R.frames ∧ 8 + (nY + 11) + rm.locals ≤ R.locals)
    (hcs : cells ≤ R.cells ∧ slots ≤ R.slots) (hst : (rest.map fun v => v.category).sum ≤ 8) (hstk : st = As.reverse ++ .ref b :: rest) (hdg : decode cc pc = .ok (.invokevirtual index, 3))
    (kk : ∀ (r : Nat) (w : va_W) (H1 : Heap) (locs1 : List Loc), PostR r w → va_P D vwCl (w ++ w2) H1 → va_D A (w ++ w2) → va_S A s.heap H1 locs1 → W p l e R s m args below meth c H1 locs1 (cells + 0) (slots + 0) Q (F0 m (pc + 3) ls (.ref r :: rest))) :
    W p l e R s m args below meth c H locs cells slots Q (F0 m pc ls st) :=
  fgoRR hP hD hS hA (va_runU (As := As) (rest := rest) ⟨hx, hb, hml, hown, hw⟩ hM (cwU' hw k1 k2 k3 k6 k4 k5 hyx hrm hd hR) ⟨pW_blind hXk, hrv, pW_call (fr_l hP) hK (fr_dl hD) hN hX⟩ rfl hn hsz hstk (lv_room hst) hdg hcs) kk
theorem fSr {n : Nat} (hx : p.tables.exec = Jvm.exec) (hb : c.code = cc) (hml : c.maxLocals = nL) (hown : s.vm.findClass own = some m.cls) (hw : ∀ w ∈ WA, w.before args s = true) (hK : va_K D vwCl (tyL cy) s) (hN : NW s) (hA : ∀ q : Nat, s.heap.size ≤ q → A q) (hsz : ls.size = nL)
    (hP : va_P D vwCl (w1 ++ w2) H) (hD : va_D A (w1 ++ w2)) (hS : va_S A s.heap H locs)
    (k1 : Cond.methodLink own index y ∈ WA) (k2 : Cond.static y ∈ WA) (k4 : Cond.initialized y.cls ∈ WA) (k5 : Cond.code y cY nY ret ∈ WA)
    (hM : MR l y cY nY ret rm D cy w1 H.size X As mc ms PostR) (hX : ∀ U : State, U.heap = H → s.WarmedH U.vm → X U) (hXk : Xok X) (hrm : rm.cells = mc ∧ rm.slots = ms)
    (hd : y.cls ≠ "java/lang/invoke/MethodHandle" ∧ y.cls ≠ "java/lang/invoke/VarHandle" ∧ (parseMethodDescriptor y.desc).map (fun d => d.parameters.length) = some n) (hn : As.length = n) (hR : rm.frames + 1 ≤ R.frames ∧ 8 + (nY + 11) + rm.locals ≤ R.locals)
    (hcs : cells + mc ≤ R.cells ∧ slots + ms ≤ R.slots) (hst : (rest.map fun v => v.category).sum ≤ 8) (hstk : st = As.reverse ++ rest) (hdg : decode cc pc = .ok (.invokestatic index, 3))
    (kk : ∀ (r : Nat) (w : va_W) (H1 : Heap) (locs1 : List Loc), PostR r w → va_P D vwCl (w ++ w2) H1 → va_D A (w ++ w2) → va_S A s.heap H1 locs1 → W p l e R s m args below meth c H1 locs1 (cells + mc) (slots + ms) Q (F0 m (pc + 3) ls (.ref r :: rest))) :
    W p l e R s m args below meth c H locs cells slots Q (F0 m pc ls st) :=
  fgoRR hP hD hS hA (va_runS (As := As) (rest := rest) ⟨hx, hb, hml, hown, hw⟩ hM ⟨callB_of n hw (codeGood k5) rfl hrm.1 hrm.2 (hw _ k4) (hw _ k1) hd hR, hw _ k2⟩ ⟨pW_blind hXk, pW_call (fr_l hP) hK (fr_dl hD) hN hX⟩ rfl hn hsz hstk (lv_room hst) hdg hcs) kk
end CALLG
