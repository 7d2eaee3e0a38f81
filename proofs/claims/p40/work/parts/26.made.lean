/-! constructors: a method that leaves a bigger world -/
abbrev qK (D : va_G) (A : Nat → Prop) (Post : va_W → Prop) : Array Value → State → Outcome → State → Prop := va_Qv (fun (w : va_W) => Post w) (fun (w : va_W) (t : State) => va_P D vwCl w t.heap ∧ va_D A w) A
def MK (l : Launch) (y : MethodName) (cY : ByteArray) (nY : Nat) (rm : Room) (D : va_G) (cy : Nat → ClassId) (ws : va_W) (sz : Nat) (X : State → Prop) (av : List Value) (mc ms : Nat) (Post : va_W → Prop) : Prop :=
  Met l y (Cond.code y cY nY none :: WA) rm (pW D cy ws sz X av) (qK D (va_A ws sz) Post) mc ms (va_A ws sz)
theorem MK.of {l : Launch} {y : MethodName} {cY : ByteArray} {nY : Nat} {rm : Room} {D : va_G} {cy : Nat → ClassId} {ws : va_W} {sz : Nat} {X : State → Prop} {av : List Value} {mc ms : Nat} {Post : va_W → Prop} (hy : plainFor y = true) (hav : (lg_sl av).length ≤ nY)
    (body : ∀ (p : Program) (e : Env) (s : State) (m : MethodId) (args : Array Value) (below : List Frame) (meth : Method) (c : Code) (A : Nat → Prop) (ls : Array Slot) (Q : State → Prop), At p s m meth c y cY nY none args D cy → meth.name = y.name → X s → sz = s.heap.size → A = va_A ws sz →
      va_P D vwCl ws s.heap → va_D A ws → (∀ q : Nat, s.heap.size ≤ q → A q) → va_S A s.heap s.heap [] → lv_has ls nY (lv_args 0 av) →
      (∀ (H : Heap) (locs : List Loc) (pc : Nat) (ls : Array Slot) (w : va_W), va_P D vwCl w H → va_D A w → va_S A s.heap H locs → Post w → decode cY pc = .ok (.return_, 1) → W p l e rm s m args below meth c H locs mc ms Q (F0 m pc ls [])) →
      W p l e rm s m args below meth c s.heap [] 0 0 Q (F0 m 0 ls [])) : MK l y cY nY rm D cy ws sz X av mc ms Post := by
  refine met_ofF (cc := cY) (maxL := nY) (ret := none) hy rfl ?_
  intro p e s m args below meth c s₁ B hml hv
  obtain ⟨rfl, hsz, hP, hK, hD0, hN, hX⟩ := hv
  have hts := atoms_spec (ws := Cond.code y cY nY none :: WA) B.pre
  subst hsz
  have hl := lv_entry av (n := nY) hav
  rw [lg_entry_eq]
  refine body p e s m _ below meth c (va_A ws s.heap.size) _ _ ⟨B.exec, B.bytes, B.returns, hml, findClass_of_methodNamed B.named, fun w h => hts w (List.mem_cons_of_mem _ h), B.notSynchronized, hK, hN⟩ (name_of_methodNamed B.named B.method).1 hX rfl rfl hP (hD0.self (sz := s.heap.size)) (fun q h => Or.inr h) va_S.rf hl ?_
  intro H locs pc ls w hP hD hS hw hdg
  exact W.vret B.exec B.bytes B.returns (fun t ht _ => ⟨⟨w, rfl, hw, by rw [ht]; exact hP, hD⟩, hS.F ht⟩) hS.2.2 hdg B.notSynchronized
theorem cA_eq {D : va_G} {cl : List vw_C} {tys : List (ClassId × FieldType)} {U : State} {cA : ClassId} {ty : FieldType} (h : va_K D cl (tys ++ [(cA, ty)]) U) (t : Nat) {c : ClassId} (ht : tys[t]? = some (c, ty)) : cA = c := by
  have h1 := (h.2 tys.length (cA, ty) (by simp)).2
  have h2 := (h.2 t (c, ty) (by rw [List.getElem?_append_left (List.getElem?_eq_some_iff.mp ht).1]; exact ht)).2
  cases ty with
  | object C =>
    obtain ⟨_, _, _, _, _, e1⟩ := h1
    obtain ⟨_, _, _, _, _, e2⟩ := h2
    exact Option.some.inj (e1.symm.trans e2)
  | _ => exact Option.some.inj (Eq.trans (Eq.symm (show U.vm.findClass _ = some cA from h1)) h2)
section GROW
variable {ws ws2 S : va_W} {q : Nat} {a : Nat} {e e' : va_E}
theorem gL : (ws ++ [(a, e)])[ws.length]? = some (a, e) := by simp
theorem gA (h : ws[q]? = some (a, e)) : (ws ++ S)[q]? = some (a, e) := by rw [List.getElem?_append_left (List.getElem?_eq_some_iff.mp h).1]; exact h
theorem sL : (ws ++ [(a, e)]).set ws.length (a, e') = ws ++ [(a, e')] := by simp
theorem sA (h : ws[q]? = some (a, e)) (hs : ws.set q (a, e') = ws2) : (ws ++ S).set q (a, e') = ws2 ++ S := by rw [List.set_append_left q (a, e') (List.getElem?_eq_some_iff.mp h).1, hs]
end GROW
/-- one cell told otherwise -/
theorem repP {D : va_G} {cl : List vw_C} {ws ws' : va_W} {H : Heap} {q a : Nat} {e e' : va_E} (hP : va_P D cl ws H) (h : ws[q]? = some (a, e)) (hr : va_at D cl (a, e) H → va_at D cl (a, e') H) (hs : ws.set q (a, e') = ws') : va_P D cl ws' H := by
  subst hs
  intro k x hx
  by_cases hk : k = q
  · subst hk
    rw [List.getElem?_set_self (List.getElem?_eq_some_iff.mp h).1] at hx
    cases hx
    exact hr (hP k _ h)
  · rw [List.getElem?_set_ne (Ne.symm hk)] at hx
    exact hP k x hx
theorem repD {A : Nat → Prop} {ws ws' : va_W} {q a : Nat} {e e' : va_E} (hD : va_D A ws) (h : ws[q]? = some (a, e)) (hs : ws.set q (a, e') = ws') : va_D A ws' := by
  subst hs
  exact hD.set h
theorem arrV_cg {cI : ClassId} {N : Nat} {f g : Nat → Value} (h : ∀ j, j < N → f j = g j) : arrV cI N f = arrV cI N g := by
  have e : (fun j : Fin N => f j.val) = fun j : Fin N => g j.val := funext fun j => h j.val j.isLt
  unfold arrV
  rw [e]
theorem atI {D : va_G} {cl : List vw_C} {H : Heap} {a n : Nat} {cA : ClassId} {f g : Nat → Int32} (h : ∀ j, j < n → f j = g j) (hz : va_at D cl (a, .inl (cA, n, .inl f)) H) : va_at D cl (a, .inl (cA, n, .inl g)) H := by
  have e : vp_cell cA (n, .inl f) = vp_cell cA (n, .inl g) := (arrV_cg (f := fun j => .int (f j)) (g := fun j => .int (g j)) (fun j hj => by rw [h j hj]) : arrV cA n _ = arrV cA n _)
  show H[a]? = some (vp_cell cA (n, .inl g))
  rw [← e]
  exact hz
theorem atR {D : va_G} {cl : List vw_C} {H : Heap} {a n : Nat} {cA : ClassId} {f g : Nat → Option Nat} (h : ∀ j, j < n → f j = g j) (hz : va_at D cl (a, .inl (cA, n, .inr (.inr (.inr (.inr f))))) H) : va_at D cl (a, .inl (cA, n, .inr (.inr (.inr (.inr g))))) H := by
  have e : vp_cell cA (n, .inr (.inr (.inr (.inr f)))) = vp_cell cA (n, .inr (.inr (.inr (.inr g)))) := (arrV_cg (f := fun j => va_rf (f j)) (g := fun j => va_rf (g j)) (fun j hj => by rw [h j hj]) : arrV cA n _ = arrV cA n _)
  show H[a]? = some (vp_cell cA (n, .inr (.inr (.inr (.inr g)))))
  rw [← e]
  exact hz
section CALLK
variable {p : Program} {l : Launch} {e : Env} {R : Room} {s : State} {m : MethodId} {args : Array Value} {below : List Frame} {meth : Method} {c : Code} {H : Heap} {locs : List Loc} {cells slots mc ms : Nat} {Q : State → Prop} {D : va_G} {cy : Nat → ClassId} {ws : va_W} {A : Nat → Prop} {cc : ByteArray} {pc : Nat} {ls : Array Slot}
  {own C host : String} {y : MethodName} {cY : ByteArray} {nY nL index : Nat} {rm : Room} {X : State → Prop} {b : Nat} {As rest st : List Value} {Post : va_W → Prop}
theorem goK (hS : va_S A s.heap H locs) (hD : va_D A ws) (hA : ∀ q : Nat, s.heap.size ≤ q → A q) {a : Array Value}
    (hr : va_Run p l e R s m args below meth c H locs cells slots mc ms (F0 m pc ls st) rest (qK D (va_A ws H.size) Post a) (va_A ws H.size))
    (kk : ∀ (w : va_W) (H1 : Heap) (locs1 : List Loc), Post w → va_P D vwCl w H1 → va_D A w → va_S A s.heap H1 locs1 → W p l e R s m args below meth c H1 locs1 (cells + mc) (slots + ms) Q (F0 m (pc + 3) ls rest)) :
    W p l e R s m args below meth c H locs cells slots Q (F0 m pc ls st) := by
  have hF := free_all hD hS hA
  refine va_callv hr hS (fun q _ h => hF q h) hF (fun w t H1 locs1 ht hvm hw hB hz hk hS1 => ?_)
  obtain ⟨hP1, hD1⟩ := hB
  rw [ht] at hP1
  exact kk w H1 locs1 hw hP1 (hD1.weaken (fun k q _ h => hF q.1 h)) hS1
theorem cI_k {n : Nat} (hx : p.tables.exec = Jvm.exec) (hb : c.code = cc) (hml : c.maxLocals = nL) (hown : s.vm.findClass own = some m.cls) (hw : ∀ w ∈ WA, w.before args s = true) (hK : va_K D vwCl (tyL cy) s) (hN : NW s) (hA : ∀ q : Nat, s.heap.size ≤ q → A q) (hsz : ls.size = nL)
    (hP : va_P D vwCl ws H) (hD : va_D A ws) (hS : va_S A s.heap H locs)
    (k1 : Cond.methodLink own index y ∈ WA) (k2 : Cond.instanceMethod y ∈ WA) (k4 : Cond.initialized y.cls ∈ WA) (k5 : Cond.code y cY nY none ∈ WA)
    (hM : MK l y cY nY rm D cy ws H.size X (.ref b :: As) mc ms Post) (hX : ∀ U : State, U.heap = H → s.WarmedH U.vm → X U) (hXk : Xok X) (hrm : rm.cells = mc ∧ rm.slots = ms) (hnm : y.name = "<init>")
    (hd : y.cls ≠ "java/lang/invoke/MethodHandle" ∧ y.cls ≠ "java/lang/invoke/VarHandle" ∧ (parseMethodDescriptor y.desc).map (fun d => d.parameters.length) = some n) (hn : As.length = n) (hR : rm.frames + 1 ≤ R.frames ∧ 8 + (nY + 11) + rm.locals ≤ R.locals)
    (hcs : cells + mc ≤ R.cells ∧ slots + ms ≤ R.slots) (hst : (rest.map fun v => v.category).sum ≤ 8) (hstk : st = As.reverse ++ .ref b :: rest) (hdg : decode cc pc = .ok (.invokespecial index, 3))
    (kk : ∀ (w : va_W) (H1 : Heap) (locs1 : List Loc), Post w → va_P D vwCl w H1 → va_D A w → va_S A s.heap H1 locs1 → W p l e R s m args below meth c H1 locs1 (cells + mc) (slots + ms) Q (F0 m (pc + 3) ls rest)) :
    W p l e R s m args below meth c H locs cells slots Q (F0 m pc ls st) :=
  goK hS hD hA (va_runI (As := As) (rest := rest) ⟨hx, hb, hml, hown, hw⟩ hM ⟨callB_of n hw (codeGood k5) rfl hrm.1 hrm.2 (hw _ k4) (hw _ k1) hd hR, hnm, hw _ k2⟩ ⟨pW_blind hXk, pW_call hP hK hD hN hX⟩ rfl hn hsz hstk (lv_room hst) hdg hcs) kk
theorem cIN_k {n : Nat} (hx : p.tables.exec = Jvm.exec) (hb : c.code = cc) (hml : c.maxLocals = nL) (hown : s.vm.findClass own = some m.cls) (hw : ∀ w ∈ WA, w.before args s = true) (hK : va_K D vwCl (tyL cy) s) (hN : NW s) (hA : ∀ q : Nat, s.heap.size ≤ q → A q) (hsz : ls.size = nL)
    (hP : va_P D vwCl ws H) (hD : va_D A ws) (hS : va_S A s.heap H locs)
    (k1 : Cond.methodLinkNest own index y host ∈ nwL) (k2 : Cond.instanceMethod y ∈ WA) (k4 : Cond.initialized y.cls ∈ WA) (k5 : Cond.code y cY nY none ∈ WA)
    (hM : MK l y cY nY rm D cy ws H.size X (.ref b :: As) mc ms Post) (hX : ∀ U : State, U.heap = H → s.WarmedH U.vm → X U) (hXk : Xok X) (hrm : rm.cells = mc ∧ rm.slots = ms) (hnm : y.name = "<init>")
    (hd : y.cls ≠ "java/lang/invoke/MethodHandle" ∧ y.cls ≠ "java/lang/invoke/VarHandle" ∧ (parseMethodDescriptor y.desc).map (fun d => d.parameters.length) = some n) (hn : As.length = n) (hR : rm.frames + 1 ≤ R.frames ∧ 8 + (nY + 11) + rm.locals ≤ R.locals)
    (hcs : cells + mc ≤ R.cells ∧ slots + ms ≤ R.slots) (hst : (rest.map fun v => v.category).sum ≤ 8) (hstk : st = As.reverse ++ .ref b :: rest) (hdg : decode cc pc = .ok (.invokespecial index, 3))
    (kk : ∀ (w : va_W) (H1 : Heap) (locs1 : List Loc), Post w → va_P D vwCl w H1 → va_D A w → va_S A s.heap H1 locs1 → W p l e R s m args below meth c H1 locs1 (cells + mc) (slots + ms) Q (F0 m (pc + 3) ls rest)) :
    W p l e R s m args below meth c H locs cells slots Q (F0 m pc ls st) :=
  goK hS hD hA (va_runIN (As := As) (rest := rest) ⟨hx, hb, hml, hown, hw⟩ hM ⟨va_cnB n hw (codeGood k5) rfl hrm.1 hrm.2 (hN _ k1) (hw _ k4) hd hR, hnm, hw _ k2⟩ ⟨pW_blind hXk, pW_call hP hK hD hN hX⟩ rfl hn hsz hstk (lv_room hst) hdg hcs) kk
theorem putF' (hx : p.tables.exec = Jvm.exec) (hb : c.code = cc) {own ref C : String} {T : u_T} {N ci index : Nat} {ws' : va_W} {a : Nat} (hw : ∀ w ∈ WA, w.before args s = true) (hin : ∀ w ∈ u_ws C T N, w ∈ WA) (ty0 : Nat → FieldType) (hty : ∀ k, k < N → parseFieldDescriptor (T k).2.2.1 = some (ty0 k)) (hnm : ∀ a, a < N → ∀ b, b < N → a ≠ b → (T a).2.1 ≠ (T b).2.1) (hown : s.vm.findClass own = some m.cls) {tys : List (ClassId × FieldType)} {cl : List vw_C} {H0 : Heap} (hK : va_K D cl tys s) (hP : va_P D cl ws H) (hD : va_D A ws) (hS0 : va_S A H0 H locs) {q0 : Nat} {fs : List Value} (he : ws[q0]? = some (a, .inr (ci, fs))) (hc : cl[ci]? = some (C, T, N)) (k : Nat) (hk : k < N) (hlink : Cond.fieldLink own index ref (T k).2.1 (T k).2.2.1 ∈ WA) (hr : (T k).1 = ref) (hfin : (T k).2.2.2 = true) (hi : meth.name = "<init>") (hdc : (T k).1 = own) {ty : FieldType} {v : Value} (hd : parseFieldDescriptor (T k).2.2.1 = some ty) (hn : narrow ty v = v) (hfit : fits ty v = true) (hl : k < fs.length) (hdg : decode cc pc = .ok (.putfield index, 3)) (hws : ws.set q0 (a, .inr (ci, fs.set k v)) = ws')
    (kk : ∀ (H1 : Heap) (locs1 : List Loc), va_P D cl ws' H1 → va_D A ws' → va_S A H0 H1 locs1 → W p l e R s m args below meth c H1 locs1 cells slots Q (F0 m (pc + 3) ls rest)) : W p l e R s m args below meth c H locs cells slots Q (F0 m pc ls (v :: .ref a :: rest)) := by
  subst hws; subst hr
  exact va_putF hx hb hw hin ty0 hty hnm hown hK hP hD hS0 q0 he hc k hk (hw _ hlink) (fun _ h9 => h9) hfin hi hdc hd hn hfit hl hdg kk
theorem aast' {ws' : va_W} {a : Nat} (hx : p.tables.exec = Jvm.exec) (hb : c.code = cc) {tys : List (ClassId × FieldType)} {cl : List vw_C} {H0 : Heap} (hK : va_K D cl tys s) (hP : va_P D cl ws H) (hD : va_D A ws) (hS : va_S A H0 H locs) {q0 t0 qk ci : Nat} {cA : ClassId} {r : vw_C} {n v : Nat} {vs : List Value} {f : Nat → Option Nat} (ha : ws[q0]? = some (a, .inl (cA, n, .inr (.inr (.inr (.inr f)))))) (ht : tys[t0]? = some (cA, .object r.1)) (hv : ws[qk]? = some (v, .inr (ci, vs))) (hc : cl[ci]? = some r) {i : Int32} (hin : vp_in i n) (hdg : decode cc pc = .ok (.aastore, 1))
    (hws : ws.set q0 (a, .inl (cA, n, .inr (.inr (.inr (.inr (va_up f i.toNatClampNeg (some v))))))) = ws')
    (kk : ∀ (H1 : Heap) (locs1 : List Loc), va_P D cl ws' H1 → va_D A ws' → va_S A H0 H1 locs1 → W p l e R s m args below meth c H1 locs1 cells slots Q (F0 m (pc + 1) ls rest)) : W p l e R s m args below meth c H locs cells slots Q (F0 m pc ls (.ref v :: .int i :: .ref a :: rest)) := by
  subst hws
  exact va_astq hx hb hK hP hD hS q0 t0 qk ci ha ht hv hc hin hdg kk
end CALLK
/-! what the constructors leave -/
def zC (j : Nat) : Int32 := if j = 3 ∨ j = 4 ∨ j = 5 then -1 else 0
def zO (r j : Nat) : Int32 := if r = 2 then -1 else if r = 3 then 20 else if 7 ≤ r then zC j else 0
def zY (r j : Nat) : Int32 := if r = 0 then (if j = 8 then -1 else 0) else if 7 ≤ r ∧ r < 19 then (if j = 0 then 8 else 0) else 0
def zX (k r j : Nat) : Int32 := if k = 12 then zY r j else zO r j
def zM (r j : Nat) : Int32 := if r = 0 then (if j = 13 then -1 else 0) else if r = 1 then (if 9 ≤ j ∧ j < 13 then 20 else 0) else 0
def oseg (cy : Nat → ClassId) (b : Nat → Nat) : va_W := [(b 1, oc cy b 1 (zO 1)), (b 2, oc cy b 2 (zO 2)), (b 3, oc cy b 3 (zO 3)), (b 4, oc cy b 4 (zO 4)), (b 5, oc cy b 5 (zO 5)), (b 6, oc cy b 6 (zO 6)), (b 7, oc cy b 7 (zO 7)), (b 8, oc cy b 8 (zO 8)), (b 9, oc cy b 9 (zO 9)), (b 10, oc cy b 10 (zO 10)), (b 11, oc cy b 11 (zO 11)), (b 12, oc cy b 12 (zO 12))]
def ofull (cy : Nat → ClassId) (b : Nat → Nat) : va_W := (b 0, oc cy b 0 (zO 0)) :: oseg cy b
def hseg (cy : Nat → ClassId) (kb : Nat) (bb : Nat → Nat → Nat) : va_W := [(kb, .inl (cy 4, 8, .inr (.inr (.inr (.inr (fun j => some (bb j 0)))))))] ++ (ofull cy (bb 0) ++ (ofull cy (bb 1) ++ (ofull cy (bb 2) ++ (ofull cy (bb 3) ++ (ofull cy (bb 4) ++ (ofull cy (bb 5) ++ (ofull cy (bb 6) ++ (ofull cy (bb 7)))))))))
def tseg (cy : Nat → ClassId) (en : Nat → Nat) (sb ob : Nat) (o n : Nat → Nat) : va_W := [(sb, .inl (cy 1, 60, .inl (fun _ => 0))), (ob, .inl (cy 5, 12, .inr (.inr (.inr (.inr (fun j => some (o j))))))), (o 0, .inr (7, [.ref (en 8), .ref (n 0), .int 0])), (n 0, .inl (cy 0, 3, .inl (fun _ => 0))), (o 1, .inr (7, [.ref (en 8), .ref (n 1), .int 0])), (n 1, .inl (cy 0, 3, .inl (fun _ => 0))), (o 2, .inr (7, [.ref (en 8), .ref (n 2), .int 0])), (n 2, .inl (cy 0, 3, .inl (fun _ => 0))), (o 3, .inr (7, [.ref (en 8), .ref (n 3), .int 0])), (n 3, .inl (cy 0, 3, .inl (fun _ => 0))), (o 4, .inr (7, [.ref (en 8), .ref (n 4), .int 0])), (n 4, .inl (cy 0, 3, .inl (fun _ => 0))), (o 5, .inr (7, [.ref (en 8), .ref (n 5), .int 0])), (n 5, .inl (cy 0, 3, .inl (fun _ => 0))), (o 6, .inr (7, [.ref (en 8), .ref (n 6), .int 0])), (n 6, .inl (cy 0, 3, .inl (fun _ => 0))), (o 7, .inr (7, [.ref (en 8), .ref (n 7), .int 0])), (n 7, .inl (cy 0, 3, .inl (fun _ => 0))), (o 8, .inr (7, [.ref (en 8), .ref (n 8), .int 0])), (n 8, .inl (cy 0, 3, .inl (fun _ => 0))), (o 9, .inr (7, [.ref (en 8), .ref (n 9), .int 0])), (n 9, .inl (cy 0, 3, .inl (fun _ => 0))), (o 10, .inr (7, [.ref (en 8), .ref (n 10), .int 0])), (n 10, .inl (cy 0, 3, .inl (fun _ => 0))), (o 11, .inr (7, [.ref (en 8), .ref (n 11), .int 0])), (n 11, .inl (cy 0, 3, .inl (fun _ => 0)))]
def mseg (cy : Nat → ClassId) (am : Nat → Nat) : va_W := [(am 1, mc cy am 1 (zM 1)), (am 2, mc cy am 2 (zM 2)), (am 3, mc cy am 3 (zM 3)), (am 4, mc cy am 4 (zM 4))]
def xseg (cy : Nat → ClassId) (en : Nat → Nat) (o0 o1 o2 o3 : Nat → Nat) (hb kb : Nat) (bb : Nat → Nat → Nat) (rb tb sb ob : Nat) (o n : Nat → Nat) (xb vb : Nat) : va_W := ofull cy o0 ++ (ofull cy o1 ++ (ofull cy o2 ++ (ofull cy o3 ++ ((hb, .inr (5, [.ref kb, .int 0, .int 0])) :: (hseg cy kb bb ++ ((rb, .inr (8, [.int 0, .int 0, .int 0, .int 0])) :: ((tb, .inr (10, [.ref sb, .int 0, .int 0, .ref ob, .int 0])) :: (tseg cy en sb ob o n ++ [(xb, .inr (1, [.ref vb, .int 0, .int 0, .int 0])), (vb, .inl (cy 2, 16, .inl (fun _ => 0)))]))))))))
