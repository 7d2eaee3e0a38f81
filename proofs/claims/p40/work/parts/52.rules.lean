/-! the law's own body: rules for calls in a bigger world, texts that were made -/
section CALLN
variable {p : Program} {l : Launch} {e : Env} {R : Room} {s : State} {m : MethodId} {args : Array Value} {below : List Frame} {meth : Method} {c : Code} {H : Heap} {locs : List Loc} {cells slots mc ms : Nat} {Q : State → Prop} {D : va_G} {cy : Nat → ClassId} {w1 w1' w2 : va_W} {A : Nat → Prop} {cc : ByteArray} {pc : Nat} {ls : Array Slot}
  {own C : String} {y : MethodName} {cY : ByteArray} {nY nL index : Nat} {ret : Option FieldType} {rm : Room} {X : State → Prop} {b b' : Nat} {As rest st : List Value} {PostR : Nat → va_W → Prop} {r : Int32}
theorem fgoQ {a : Array Value} (hP : va_P D vwCl (w1 ++ w2) H) (hD : va_D A (w1 ++ w2)) (hS : va_S A s.heap H locs) (hA : ∀ q : Nat, s.heap.size ≤ q → A q)
    (hr : va_Run p l e R s m args below meth c H locs cells slots 0 0 (F0 m pc ls st) rest (qR D (va_A w1 H.size) b' w1' a) (va_A w1 H.size))
    (kk : ∀ (H1 : Heap) (locs1 : List Loc), va_P D vwCl (w1' ++ w2) H1 → va_D A (w1' ++ w2) → va_S A s.heap H1 locs1 → W p l e R s m args below meth c H1 locs1 cells slots Q (F0 m (pc + 3) ls (.ref b' :: rest))) : W p l e R s m args below meth c H locs cells slots Q (F0 m pc ls st) := by
  have hF := fr_F hS hD hA
  refine va_callr hr hS (fun q _ h => hF q h) hF (fun u ra t H1 locs1 ht hvm hw hB hz hk hS1 => ?_)
  obtain ⟨hra, hP1, hD1⟩ := hB
  subst hra
  rw [ht] at hP1
  exact kk H1 locs1 (fr_P hP hD hk hP1) (fr_D hP hD hF hD1) hS1
theorem fVq {en g : Nat → Nat} {n : Nat} (hx : p.tables.exec = Jvm.exec) (hb : c.code = cc) (hml : c.maxLocals = nL) (hown : s.vm.findClass own = some m.cls) (hw : ∀ w ∈ WA, w.before args s = true) (hK : va_K D vwCl (tyL cy) s) (hN : NW s) (hA : ∀ q : Nat, s.heap.size ≤ q → A q) (hsz : ls.size = nL)
    (hP : va_P D vwCl (w1 ++ w2) H) (hD : va_D A (w1 ++ w2)) (hS : va_S A s.heap H locs)
    (k1 : Cond.methodLink own index y ∈ WA) (k2 : Cond.instanceMethod y ∈ WA) (k3 : Cond.selects C y y ∈ WA) (k4 : Cond.initialized y.cls ∈ WA) (k5 : Cond.code y cY nY ret ∈ WA)
    (hM : MRS l y cY nY ret rm D cy en g w1 H.size (.ref b :: As) b' w1') (hX : ∀ U : State, U.heap = H → s.WarmedH U.vm → XS en g w1 H.size U) (hXk : Xok (XS en g w1 H.size)) (hrv : Recv s H b C) (hrm : rm.cells = 0 ∧ rm.slots = 0)
    (hd : y.cls ≠ "java/lang/invoke/MethodHandle" ∧ y.cls ≠ "java/lang/invoke/VarHandle" ∧ (parseMethodDescriptor y.desc).map (fun d => d.parameters.length) = some n) (hn : As.length = n) (hR : rm.frames + 1 ≤ R.frames ∧ 8 + (nY + 11) + rm.locals ≤ R.locals)
    (hcs : cells ≤ R.cells ∧ slots ≤ R.slots) (hst : (rest.map fun v => v.category).sum ≤ 8) (hstk : st = As.reverse ++ .ref b :: rest) (hdg : decode cc pc = .ok (.invokevirtual index, 3))
    (kk : ∀ (H1 : Heap) (locs1 : List Loc), va_P D vwCl (w1' ++ w2) H1 → va_D A (w1' ++ w2) → va_S A s.heap H1 locs1 → W p l e R s m args below meth c H1 locs1 cells slots Q (F0 m (pc + 3) ls (.ref b' :: rest))) :
    W p l e R s m args below meth c H locs cells slots Q (F0 m pc ls st) :=
  fgoQ hP hD hS hA (va_runV (As := As) (rest := rest) ⟨hx, hb, hml, hown, hw⟩ hM ⟨cB hw k1 k4 k5 hrm hd hR, hw _ k2, hw _ k3⟩ ⟨pW_blind hXk, hrv, pW_call (fr_l hP) hK (fr_dl hD) hN hX⟩ rfl hn hsz hstk (lv_room hst) hdg hcs) kk
theorem fVr {n : Nat} (hx : p.tables.exec = Jvm.exec) (hb : c.code = cc) (hml : c.maxLocals = nL) (hown : s.vm.findClass own = some m.cls) (hw : ∀ w ∈ WA, w.before args s = true) (hK : va_K D vwCl (tyL cy) s) (hN : NW s) (hA : ∀ q : Nat, s.heap.size ≤ q → A q) (hsz : ls.size = nL)
    (hP : va_P D vwCl (w1 ++ w2) H) (hD : va_D A (w1 ++ w2)) (hS : va_S A s.heap H locs)
    (k1 : Cond.methodLink own index y ∈ WA) (k2 : Cond.instanceMethod y ∈ WA) (k3 : Cond.selects C y y ∈ WA) (k4 : Cond.initialized y.cls ∈ WA) (k5 : Cond.code y cY nY ret ∈ WA)
    (hM : MR l y cY nY ret rm D cy w1 H.size X (.ref b :: As) mc ms PostR) (hX : ∀ U : State, U.heap = H → s.WarmedH U.vm → X U) (hXk : Xok X) (hrv : Recv s H b C) (hrm : rm.cells = mc ∧ rm.slots = ms)
    (hd : y.cls ≠ "java/lang/invoke/MethodHandle" ∧ y.cls ≠ "java/lang/invoke/VarHandle" ∧ (parseMethodDescriptor y.desc).map (fun d => d.parameters.length) = some n) (hn : As.length = n) (hR : rm.frames + 1 ≤ R.frames ∧ 8 + (nY + 11) + rm.locals ≤ R.locals)
    (hcs : cells + mc ≤ R.cells ∧ slots + ms ≤ R.slots) (hst : (rest.map fun v => v.category).sum ≤ 8) (hstk : st = As.reverse ++ .ref b :: rest) (hdg : decode cc pc = .ok (.invokevirtual index, 3))
    (kk : ∀ (r : Nat) (w : va_W) (H1 : Heap) (locs1 : List Loc), PostR r w → va_P D vwCl (w ++ w2) H1 → va_D A (w ++ w2) → va_S A s.heap H1 locs1 → W p l e R s m args below meth c H1 locs1 (cells + mc) (slots + ms) Q (F0 m (pc + 3) ls (.ref r :: rest))) :
    W p l e R s m args below meth c H locs cells slots Q (F0 m pc ls st) :=
  fgoRR hP hD hS hA (va_runV (As := As) (rest := rest) ⟨hx, hb, hml, hown, hw⟩ hM ⟨callB_of n hw (codeGood k5) rfl hrm.1 hrm.2 (hw _ k4) (hw _ k1) hd hR, hw _ k2, hw _ k3⟩ ⟨pW_blind hXk, hrv, pW_call (fr_l hP) hK (fr_dl hD) hN hX⟩ rfl hn hsz hstk (lv_room hst) hdg hcs) kk
/-- a method of the class that throws nothing -/
theorem fVi {n : Nat} (hx : p.tables.exec = Jvm.exec) (hb : c.code = cc) (hml : c.maxLocals = nL) (hown : s.vm.findClass own = some m.cls) (hw : ∀ w ∈ WA, w.before args s = true) (hK : va_K D vwCl (tyL cy) s) (hN : NW s) (hA : ∀ q : Nat, s.heap.size ≤ q → A q) (hsz : ls.size = nL)
    (hP : va_P D vwCl (w1 ++ w2) H) (hD : va_D A (w1 ++ w2)) (hS : va_S A s.heap H locs)
    (k1 : Cond.methodLink own index y ∈ WA) (k2 : Cond.instanceMethod y ∈ WA) (k3 : Cond.selects C y y ∈ WA) (k4 : Cond.initialized y.cls ∈ WA) (k5 : Cond.code y cY nY ret ∈ WA)
    (hM : MI l y cY nY ret rm D cy w1 H.size X (.ref b :: As) r w1') (hX : ∀ U : State, U.heap = H → s.WarmedH U.vm → X U) (hXk : Xok X)
    {ci q0 N : Nat} {T : u_T} {fs : List Value} (he : w1[q0]? = some (b, .inr (ci, fs))) (hc : vwCl[ci]? = some (C, T, N)) (hrm : rm.cells = 0 ∧ rm.slots = 0)
    (hd : y.cls ≠ "java/lang/invoke/MethodHandle" ∧ y.cls ≠ "java/lang/invoke/VarHandle" ∧ (parseMethodDescriptor y.desc).map (fun d => d.parameters.length) = some n) (hn : As.length = n) (hR : rm.frames + 1 ≤ R.frames ∧ 8 + (nY + 11) + rm.locals ≤ R.locals)
    (hcs : cells ≤ R.cells ∧ slots ≤ R.slots) (hst : (rest.map fun v => v.category).sum ≤ 8) (hstk : st = As.reverse ++ .ref b :: rest) (hdg : decode cc pc = .ok (.invokevirtual index, 3))
    (kk : ∀ (H1 : Heap) (locs1 : List Loc), va_P D vwCl (w1' ++ w2) H1 → va_D A (w1' ++ w2) → va_S A s.heap H1 locs1 → W p l e R s m args below meth c H1 locs1 cells slots Q (F0 m (pc + 3) ls (.int r :: rest))) :
    W p l e R s m args below meth c H locs cells slots Q (F0 m pc ls st) :=
  fgoI hP hD hS hA (va_runV (As := As) (rest := rest) ⟨hx, hb, hml, hown, hw⟩ hM ⟨cB hw k1 k4 k5 hrm hd hR, hw _ k2, hw _ k3⟩ ⟨pW_blind hXk, va_recv hK (fr_l hP) hc he, pW_call (fr_l hP) hK (fr_dl hD) hN hX⟩ rfl hn hsz hstk (lv_room hst) hdg hcs) kk
end CALLN
/-- a text that was made, told to a callee in whose world it isn't -/
theorem KS_made {D : va_G} {cy : Nat → ClassId} {s : State} {args : Array Value} {H : Heap} {w1 w2 : va_W} {A : Nat → Prop} {q sv n : Nat} {h : Nat → Int32} {i j : Nat} (hw : ∀ w ∈ WA, w.before args s = true) (hK : va_K D vwCl (tyL cy) s) (hP : va_P D vwCl (w1 ++ w2) H) (hD : va_D A (w1 ++ w2))
    (hq : w2[i]? = some (q, .inr (0, [.ref sv, .int 0, .int 0, .int 0]))) (hv : w2[j]? = some (sv, .inl (cy 2, n, .inl h))) : ∀ U : State, U.heap = H → s.WarmedH U.vm → KS q sv n h (va_A w1 H.size) U U.heap := by
  intro U hU hW
  have hvm := hW.alike
  have hP2 := fr_r hP
  obtain ⟨r, hr, cell, c1, c2, c3, c4⟩ := hP2 i _ hq
  cases hr
  have hnq : ¬ va_A w1 H.size q := (fr_no hP hD hq).2
  have hnv : ¬ va_A w1 H.size sv := (fr_no hP hD hv).2
  obtain ⟨hS, hC1, kC, hC2, hC3⟩ := hK.1 0 _ rfl
  have f : ∀ k, k < 4 → va_OF (TJ0 k).1 (TJ0 k).2.1 (TJ0 k).2.2.1 (vp_V [.ref sv, .int 0, .int 0, .int 0] k) q (va_A w1 H.size) s H := by
    intro k hk
    obtain ⟨cf, kf, fi, fd, e1, e2⟩ := hS k hk
    exact ⟨cf, kf, fi, fd, cell, e1, (u_facts hC1 hC2 (u_lays hw inWJ0 hk) e1).1, c1, by rw [c3]; exact (fun z => by cases z), by rw [e2]; exact c4 k hk, hnq⟩
  have ht : va_T .byte sv n (fun j => .int (h j)) (va_A w1 H.size) s H :=
    ⟨_, hP2 j _ hv, (hK.2 2 _ rfl).1 n (fun j => .int (h j)), (fun z => by cases z), (by show n ≤ (arrV _ _ _).slots.size; rw [arrV_size]; exact Nat.le_refl n), (by show (arrV _ _ _).slots.size.toInt32 = _; rw [arrV_size]), (fun j hj => arrV_read _ _ hj), hnv⟩
  rw [hU]
  exact ⟨va_O.moved hvm ⟨cell, c1, by rw [c3]; rfl, by rw [c2]; exact hC1, hnq⟩, va_OF.moved hvm (f 1 (by decide)), va_OF.moved hvm (f 0 (by decide)), va_T.moved hvm ht⟩
theorem fit_v : ∀ v : Fin 128, fits .byte (.int (nI v.val)) = true := by decide +kernel
/-- a new builder's memory -/
def y00 : Mem := fun _ _ _ => 0
theorem TXz : TX y00 [] := ⟨rfl, rfl, Nat.zero_le _, fun j v h => absurd h (by simp)⟩
theorem TX.fit {y : Mem} {L : List Nat} (h : TX y L) : ∀ i, i < L.length → fits .byte (.int (y 12 32 i)) = true := by
  intro i hi
  obtain ⟨e, hv⟩ := h.2.2.2 i _ (List.getElem?_eq_getElem hi)
  rw [e]
  exact fit_v ⟨_, hv⟩
theorem aK {y : Mem} {L T : List Nat} {h : Nat → Int32} (hT : TX y L) (hl : L.length + T.length ≤ 16) (hh : ∀ j u, T[j]? = some u → h j = nI u ∧ u < 128) : TX (apK y h L.length T.length) (L ++ T) := by
  refine ⟨?_, ?_, by rw [List.length_append]; exact hl, fun j u hj => ?_⟩
  · unfold apK
    rw [va_up_self, va_up_self, upd_ne _ _ (by omega)]
    exact hT.1
  · unfold apK
    rw [va_up_self, va_up_self, upd_self, List.length_append]
  · have e : apK y h L.length T.length 12 32 = va_cpy h (y 12 32) 0 L.length T.length := by
      unfold apK
      rw [va_up_self, va_up_ne _ _ (by omega), va_up_self]
    rw [e]
    unfold va_cpy
    by_cases hjl : j < L.length
    · rw [List.getElem?_append_left hjl] at hj
      rw [if_neg (by omega)]
      exact hT.2.2.2 j u hj
    · rw [List.getElem?_append_right (by omega)] at hj
      have hlt : j - L.length < T.length := (List.getElem?_eq_some_iff.mp hj).1
      rw [if_pos (by omega), Nat.zero_add]
      exact hh _ u hj
theorem hfit_of {T : List Nat} {h : Nat → Int32} (hh : ∀ j u, T[j]? = some u → h j = nI u ∧ u < 128) : ∀ i, i < T.length → fits .byte (.int (h i)) = true := by
  intro i hi
  obtain ⟨e, hv⟩ := hh i _ (List.getElem?_eq_getElem hi)
  rw [e]
  exact fit_v ⟨_, hv⟩
/-- what a made text holds -/
theorem made_at {y : Mem} {L : List Nat} (h : TX y L) : ∀ j u, L[j]? = some u → va_cpy (y 12 32) (fun _ => 0) 0 0 L.length j = nI u ∧ u < 128 := by
  intro j u hj
  have hlt : j < L.length := (List.getElem?_eq_some_iff.mp hj).1
  unfold va_cpy
  rw [if_pos (by omega), Nat.zero_add, Nat.sub_zero]
  exact h.2.2.2 j u hj
/-- the law's texts -/
def lwT (i : Nat) : List Nat := if i = 0 then [64] else if i = 1 then [58] else if i = 2 then [47] else if i = 3 then [61] else if i = 4 then [] else if i = 5 then [63] else [42]
theorem lwT_len : ∀ i : Fin 7, formLen.getD i.val 0 = (lwT i.val).length := by decide +kernel
theorem lwT_at : ∀ i : Fin 7, (formB.getD i.val []).getD 0 0 = nI ((lwT i.val).getD 0 0) ∧ (lwT i.val).getD 0 0 < 128 := by decide +kernel
theorem KS_const {en g : Nat → Nat} {A : Nat → Prop} {s : State} (hST : ST en g A s s.heap) {i : Nat} (hi : i < 7) : KS (g (100 + i)) (g (200 + i)) (lwT i).length (fun j => (formB.getD i []).getD j 0) A s s.heap := by
  obtain ⟨h1, h2, h3, h4⟩ := hST.2.2.2.2.2.2.2.2.2.1.1 i hi
  rw [lwT_len ⟨i, hi⟩] at h4
  exact ⟨h1, h2, h3, h4⟩
theorem lwT_all {i : Nat} (hi : i < 7) : ∀ j u, (lwT i)[j]? = some u → (formB.getD i []).getD j 0 = nI u ∧ u < 128 := by
  intro j u hj
  have hl : (lwT i).length ≤ 1 := by
    rcases (show i = 0 ∨ i = 1 ∨ i = 2 ∨ i = 3 ∨ i = 4 ∨ i = 5 ∨ i = 6 by omega) with rfl | rfl | rfl | rfl | rfl | rfl | rfl <;> decide
  have hlt : j < (lwT i).length := (List.getElem?_eq_some_iff.mp hj).1
  obtain rfl : j = 0 := by omega
  have h := lwT_at ⟨i, hi⟩
  have e : (lwT i).getD 0 0 = u := by rw [List.getD_eq_getElem?_getD, hj]; rfl
  simp only [e] at h
  exact h
/-- the law's arrays -/
def lW (cy : Nat → ClassId) (aa : Nat → Nat) (f : Nat → Nat → Int32) : va_W := [(aa 0, .inl (cy 0, 4, .inl (f 0))), (aa 1, .inl (cy 0, 4, .inl (f 1))), (aa 2, .inl (cy 0, 4, .inl (f 2))), (aa 3, .inl (cy 0, 4, .inl (f 3))), (aa 4, .inl (cy 0, 6, .inl (f 4))), (aa 5, .inl (cy 0, 6, .inl (f 5))), (aa 6, .inl (cy 0, 4, .inl (f 6)))]
theorem cW_len {cy : Nat → ClassId} {ad : Nat → Nat → Nat} {en : Nat → Nat} {x : Mem} : (cW cy ad en x).length = 189 := by unfold cW; rw [List.length_map, List.length_range]
theorem gW {w1 w2 : va_W} {i : Nat} {v : Nat × va_E} (hw : w1.length = 189) (h : w2[i]? = some v) : (w1 ++ w2)[189 + i]? = some v := by
  rw [List.getElem?_append_right (by omega), hw, Nat.add_sub_cancel_left]
  exact h
theorem sW {w1 w2 w3 : va_W} {i : Nat} {v : Nat × va_E} (hw : w1.length = 189) (h : w2.set i v = w3) : (w1 ++ w2).set (189 + i) v = w1 ++ w3 := by
  rw [List.set_append_right _ _ (by omega), hw, Nat.add_sub_cancel_left, h]
/-- where the law's body stands -/
def LX (p : Program) (s : State) (m : MethodId) (c : Code) (args : Array Value) (b L : Nat) (xs : Nat → Int32) (A : Nat → Prop) (D : va_G) (cy : Nat → ClassId) (en g : Nat → Nat) : Prop :=
  p.tables.exec = Jvm.exec ∧ c.code = cL_law ∧ c.maxLocals = 27 ∧ s.vm.findClass "CloudDeedsLaw" = some m.cls ∧ (∀ w ∈ WA, w.before args s = true) ∧ va_K D vwCl (tyL cy) s ∧ NW s ∧ ST en g A s s.heap ∧ SC b L xs A s s.heap ∧ (∀ q : Nat, s.heap.size ≤ q → A q)
